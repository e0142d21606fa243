set_option maxRecDepth 20000 in
theorem ggX3_init_X2_init : GoodIn wsX3_init wsX2_init := goodIn_r _ [24, 25, 2, 3, 26, 27, 28, 29, 30, 31, 32, 33, 34, 35, 36, 37, 38, 39, 40, 41, 71, 72, 73, 74, 75, 76, 77, 78, 79, 80, 81] (by decide +kernel) (by decide +kernel)
set_option maxRecDepth 20000 in
theorem gX3_init_X2_init : GoodIn wsX3_init (wsX2_init) := ggX3_init_X2_init
set_option maxRecDepth 20000 in
theorem ggX3_init_X0_init : GoodIn wsX3_init wsX0_init := goodIn_r _ [44, 45, 2, 3, 46, 47, 26, 48, 49, 50, 51, 52, 53, 54, 55, 56, 90, 91, 92, 93, 94, 95, 96, 97, 98, 99] (by decide +kernel) (by decide +kernel)
set_option maxRecDepth 20000 in
theorem gX3_init_X0_init : GoodIn wsX3_init (wsX0_init) := ggX3_init_X0_init
set_option maxRecDepth 20000 in
theorem ggX3_init_X1_init : GoodIn wsX3_init wsX1_init := goodIn_r _ [59, 60, 2, 3, 26, 61, 62, 63, 64, 65, 66, 67, 68, 19, 69, 70, 100, 101, 102, 103, 104, 105, 106, 107, 108, 109] (by decide +kernel) (by decide +kernel)
set_option maxRecDepth 20000 in
theorem gX3_init_X1_init : GoodIn wsX3_init (wsX1_init) := ggX3_init_X1_init
theorem dX3_init_0 : decode cX3_init 0 = .ok (.aload_n 0, 1) := by decide +kernel
theorem dX3_init_1 : decode cX3_init 1 = .ok (.invokespecial 3, 3) := by decide +kernel
theorem dX3_init_4 : decode cX3_init 4 = .ok (.aload_n 0, 1) := by decide +kernel
theorem dX3_init_5 : decode cX3_init 5 = .ok (.new 9, 3) := by decide +kernel
theorem dX3_init_8 : decode cX3_init 8 = .ok (.dup, 1) := by decide +kernel
theorem dX3_init_9 : decode cX3_init 9 = .ok (.invokespecial 11, 3) := by decide +kernel
theorem dX3_init_12 : decode cX3_init 12 = .ok (.putfield 12, 3) := by decide +kernel
theorem dX3_init_15 : decode cX3_init 15 = .ok (.aload_n 0, 1) := by decide +kernel
theorem dX3_init_16 : decode cX3_init 16 = .ok (.new 9, 3) := by decide +kernel
theorem dX3_init_19 : decode cX3_init 19 = .ok (.dup, 1) := by decide +kernel
theorem dX3_init_20 : decode cX3_init 20 = .ok (.invokespecial 11, 3) := by decide +kernel
theorem dX3_init_23 : decode cX3_init 23 = .ok (.putfield 16, 3) := by decide +kernel
theorem dX3_init_26 : decode cX3_init 26 = .ok (.aload_n 0, 1) := by decide +kernel
theorem dX3_init_27 : decode cX3_init 27 = .ok (.new 9, 3) := by decide +kernel
theorem dX3_init_30 : decode cX3_init 30 = .ok (.dup, 1) := by decide +kernel
theorem dX3_init_31 : decode cX3_init 31 = .ok (.invokespecial 11, 3) := by decide +kernel
theorem dX3_init_34 : decode cX3_init 34 = .ok (.putfield 19, 3) := by decide +kernel
theorem dX3_init_37 : decode cX3_init 37 = .ok (.aload_n 0, 1) := by decide +kernel
theorem dX3_init_38 : decode cX3_init 38 = .ok (.new 9, 3) := by decide +kernel
theorem dX3_init_41 : decode cX3_init 41 = .ok (.dup, 1) := by decide +kernel
theorem dX3_init_42 : decode cX3_init 42 = .ok (.invokespecial 11, 3) := by decide +kernel
theorem dX3_init_45 : decode cX3_init 45 = .ok (.putfield 22, 3) := by decide +kernel
theorem dX3_init_48 : decode cX3_init 48 = .ok (.aload_n 0, 1) := by decide +kernel
theorem dX3_init_49 : decode cX3_init 49 = .ok (.new 25, 3) := by decide +kernel
theorem dX3_init_52 : decode cX3_init 52 = .ok (.dup, 1) := by decide +kernel
theorem dX3_init_53 : decode cX3_init 53 = .ok (.invokespecial 27, 3) := by decide +kernel
theorem dX3_init_56 : decode cX3_init 56 = .ok (.putfield 28, 3) := by decide +kernel
theorem dX3_init_59 : decode cX3_init 59 = .ok (.aload_n 0, 1) := by decide +kernel
theorem dX3_init_60 : decode cX3_init 60 = .ok (.new 32, 3) := by decide +kernel
theorem dX3_init_63 : decode cX3_init 63 = .ok (.dup, 1) := by decide +kernel
theorem dX3_init_64 : decode cX3_init 64 = .ok (.invokespecial 34, 3) := by decide +kernel
theorem dX3_init_67 : decode cX3_init 67 = .ok (.putfield 35, 3) := by decide +kernel
theorem dX3_init_70 : decode cX3_init 70 = .ok (.aload_n 0, 1) := by decide +kernel
theorem dX3_init_71 : decode cX3_init 71 = .ok (.bipush 13, 2) := by decide +kernel
theorem dX3_init_73 : decode cX3_init 73 = .ok (.newarray .long, 2) := by decide +kernel
theorem dX3_init_75 : decode cX3_init 75 = .ok (.putfield 39, 3) := by decide +kernel
theorem dX3_init_78 : decode cX3_init 78 = .ok (.aload_n 0, 1) := by decide +kernel
theorem dX3_init_79 : decode cX3_init 79 = .ok (.iconst 0, 1) := by decide +kernel
theorem dX3_init_80 : decode cX3_init 80 = .ok (.putfield 43, 3) := by decide +kernel
theorem dX3_init_83 : decode cX3_init 83 = .ok (.return_, 1) := by decide +kernel
set_option maxRecDepth 20000 in
theorem ggX3_money_X3_isMan : GoodIn wsX3_money wsX3_isMan := goodIn_r _ [5] (by decide +kernel) (by decide +kernel)
set_option maxRecDepth 20000 in
theorem gX3_money_X3_isMan : GoodIn wsX3_money (va_wsS RX3 47 yX3_isMan wsX3_isMan) := goodIn_app (goodIn_of _ (by decide +kernel)) ggX3_money_X3_isMan
set_option maxRecDepth 20000 in
theorem ggX3_money_X3_isWithin : GoodIn wsX3_money wsX3_isWithin := goodIn_r _ [8] (by decide +kernel) (by decide +kernel)
set_option maxRecDepth 20000 in
theorem gX3_money_X3_isWithin : GoodIn wsX3_money (va_wsS RX3 51 yX3_isWithin wsX3_isWithin) := goodIn_app (goodIn_of _ (by decide +kernel)) ggX3_money_X3_isWithin
set_option maxRecDepth 20000 in
theorem ggX3_money_X2_purseOf : GoodIn wsX3_money wsX2_purseOf := goodIn_r _ [13, 14, 3, 4, 5, 27, 28, 29, 30, 31, 32, 33, 34, 35, 36, 37] (by decide +kernel) (by decide +kernel)
set_option maxRecDepth 20000 in
theorem gX3_money_X2_purseOf : GoodIn wsX3_money (wsV RX3 55 RX2 yX2_purseOf wsX2_purseOf) := goodIn_app (goodIn_of _ (by decide +kernel)) ggX3_money_X2_purseOf
set_option maxRecDepth 20000 in
theorem ggX3_money_X2_fillPurse : GoodIn wsX3_money wsX2_fillPurse := goodIn_r _ [18, 14, 3, 4, 5, 27, 28, 29, 30, 31, 32, 33, 34, 35, 36, 37] (by decide +kernel) (by decide +kernel)
set_option maxRecDepth 20000 in
theorem gX3_money_X2_fillPurse : GoodIn wsX3_money (wsV RX3 59 RX2 yX2_fillPurse wsX2_fillPurse) := goodIn_app (goodIn_of _ (by decide +kernel)) ggX3_money_X2_fillPurse
theorem dX3_money_0 : decode cX3_money 0 = .ok (.iload_n 1, 1) := by decide +kernel
theorem dX3_money_1 : decode cX3_money 1 = .ok (.invokestatic 47, 3) := by decide +kernel
theorem dX3_money_4 : decode cX3_money 4 = .ok (.ifCond .ne 5, 3) := by decide +kernel
theorem dX3_money_7 : decode cX3_money 7 = .ok (.iconst (-1), 1) := by decide +kernel
theorem dX3_money_8 : decode cX3_money 8 = .ok (.ireturn, 1) := by decide +kernel
theorem dX3_money_9 : decode cX3_money 9 = .ok (.iload_n 2, 1) := by decide +kernel
theorem dX3_money_10 : decode cX3_money 10 = .ok (.iconst 0, 1) := by decide +kernel
theorem dX3_money_11 : decode cX3_money 11 = .ok (.sipush 999, 3) := by decide +kernel
theorem dX3_money_14 : decode cX3_money 14 = .ok (.invokestatic 51, 3) := by decide +kernel
theorem dX3_money_17 : decode cX3_money 17 = .ok (.ifCond .ne 6, 3) := by decide +kernel
theorem dX3_money_20 : decode cX3_money 20 = .ok (.bipush (-2), 2) := by decide +kernel
theorem dX3_money_22 : decode cX3_money 22 = .ok (.ireturn, 1) := by decide +kernel
theorem dX3_money_23 : decode cX3_money 23 = .ok (.aload_n 0, 1) := by decide +kernel
theorem dX3_money_24 : decode cX3_money 24 = .ok (.getfield 12, 3) := by decide +kernel
theorem dX3_money_27 : decode cX3_money 27 = .ok (.iload_n 1, 1) := by decide +kernel
theorem dX3_money_28 : decode cX3_money 28 = .ok (.invokevirtual 55, 3) := by decide +kernel
theorem dX3_money_31 : decode cX3_money 31 = .ok (.istore_n 3, 1) := by decide +kernel
theorem dX3_money_32 : decode cX3_money 32 = .ok (.aload_n 0, 1) := by decide +kernel
theorem dX3_money_33 : decode cX3_money 33 = .ok (.getfield 12, 3) := by decide +kernel
theorem dX3_money_36 : decode cX3_money 36 = .ok (.iload_n 1, 1) := by decide +kernel
theorem dX3_money_37 : decode cX3_money 37 = .ok (.iload_n 2, 1) := by decide +kernel
theorem dX3_money_38 : decode cX3_money 38 = .ok (.invokevirtual 59, 3) := by decide +kernel
theorem dX3_money_41 : decode cX3_money 41 = .ok (.iload_n 3, 1) := by decide +kernel
theorem dX3_money_42 : decode cX3_money 42 = .ok (.ireturn, 1) := by decide +kernel
set_option maxRecDepth 20000 in
theorem ggX3_set_X3_isWithin : GoodIn wsX3_set wsX3_isWithin := goodIn_r _ [5] (by decide +kernel) (by decide +kernel)
set_option maxRecDepth 20000 in
theorem gX3_set_X3_isWithin : GoodIn wsX3_set (va_wsS RX3 51 yX3_isWithin wsX3_isWithin) := goodIn_app (goodIn_of _ (by decide +kernel)) ggX3_set_X3_isWithin
theorem dX3_set_0 : decode cX3_set 0 = .ok (.iload_n 1, 1) := by decide +kernel
theorem dX3_set_1 : decode cX3_set 1 = .ok (.ifCond .ne 30, 3) := by decide +kernel
theorem dX3_set_4 : decode cX3_set 4 = .ok (.iload_n 2, 1) := by decide +kernel
theorem dX3_set_5 : decode cX3_set 5 = .ok (.iconst 0, 1) := by decide +kernel
theorem dX3_set_6 : decode cX3_set 6 = .ok (.iconst 2, 1) := by decide +kernel
theorem dX3_set_7 : decode cX3_set 7 = .ok (.invokestatic 51, 3) := by decide +kernel
theorem dX3_set_10 : decode cX3_set 10 = .ok (.ifCond .eq 21, 3) := by decide +kernel
theorem dX3_set_13 : decode cX3_set 13 = .ok (.aload_n 0, 1) := by decide +kernel
theorem dX3_set_14 : decode cX3_set 14 = .ok (.getfield 12, 3) := by decide +kernel
theorem dX3_set_17 : decode cX3_set 17 = .ok (.getfield 63, 3) := by decide +kernel
theorem dX3_set_20 : decode cX3_set 20 = .ok (.istore_n 3, 1) := by decide +kernel
theorem dX3_set_21 : decode cX3_set 21 = .ok (.aload_n 0, 1) := by decide +kernel
theorem dX3_set_22 : decode cX3_set 22 = .ok (.getfield 12, 3) := by decide +kernel
theorem dX3_set_25 : decode cX3_set 25 = .ok (.iload_n 2, 1) := by decide +kernel
theorem dX3_set_26 : decode cX3_set 26 = .ok (.putfield 63, 3) := by decide +kernel
theorem dX3_set_29 : decode cX3_set 29 = .ok (.iload_n 3, 1) := by decide +kernel
theorem dX3_set_30 : decode cX3_set 30 = .ok (.ireturn, 1) := by decide +kernel
theorem dX3_set_31 : decode cX3_set 31 = .ok (.iload_n 1, 1) := by decide +kernel
theorem dX3_set_32 : decode cX3_set 32 = .ok (.iconst 1, 1) := by decide +kernel
theorem dX3_set_33 : decode cX3_set 33 = .ok (.if_icmp .ne 31, 3) := by decide +kernel
theorem dX3_set_36 : decode cX3_set 36 = .ok (.iload_n 2, 1) := by decide +kernel
theorem dX3_set_37 : decode cX3_set 37 = .ok (.iconst 0, 1) := by decide +kernel
theorem dX3_set_38 : decode cX3_set 38 = .ok (.bipush 9, 2) := by decide +kernel
theorem dX3_set_40 : decode cX3_set 40 = .ok (.invokestatic 51, 3) := by decide +kernel
theorem dX3_set_43 : decode cX3_set 43 = .ok (.ifCond .eq 21, 3) := by decide +kernel
theorem dX3_set_46 : decode cX3_set 46 = .ok (.aload_n 0, 1) := by decide +kernel
theorem dX3_set_47 : decode cX3_set 47 = .ok (.getfield 12, 3) := by decide +kernel
theorem dX3_set_50 : decode cX3_set 50 = .ok (.getfield 66, 3) := by decide +kernel
theorem dX3_set_53 : decode cX3_set 53 = .ok (.istore_n 3, 1) := by decide +kernel
theorem dX3_set_54 : decode cX3_set 54 = .ok (.aload_n 0, 1) := by decide +kernel
theorem dX3_set_55 : decode cX3_set 55 = .ok (.getfield 12, 3) := by decide +kernel
theorem dX3_set_58 : decode cX3_set 58 = .ok (.iload_n 2, 1) := by decide +kernel
theorem dX3_set_59 : decode cX3_set 59 = .ok (.putfield 66, 3) := by decide +kernel
theorem dX3_set_62 : decode cX3_set 62 = .ok (.iload_n 3, 1) := by decide +kernel
theorem dX3_set_63 : decode cX3_set 63 = .ok (.ireturn, 1) := by decide +kernel
theorem dX3_set_64 : decode cX3_set 64 = .ok (.bipush (-2), 2) := by decide +kernel
theorem dX3_set_66 : decode cX3_set 66 = .ok (.ireturn, 1) := by decide +kernel
set_option maxRecDepth 20000 in
theorem ggX3_say_X3_isWithin : GoodIn wsX3_say wsX3_isWithin := goodIn_r _ [5] (by decide +kernel) (by decide +kernel)
set_option maxRecDepth 20000 in
theorem gX3_say_X3_isWithin : GoodIn wsX3_say (va_wsS RX3 51 yX3_isWithin wsX3_isWithin) := goodIn_app (goodIn_of _ (by decide +kernel)) ggX3_say_X3_isWithin
set_option maxRecDepth 20000 in
theorem ggX3_say_X0_write : GoodIn wsX3_say wsX0_write := goodIn_r _ [10, 11, 12, 21, 22, 23, 24, 25, 26, 27, 28, 29, 30] (by decide +kernel) (by decide +kernel)
set_option maxRecDepth 20000 in
theorem gX3_say_X0_write : GoodIn wsX3_say (wsV RX3 69 RX0 yX0_write wsX0_write) := goodIn_app (goodIn_of _ (by decide +kernel)) ggX3_say_X0_write
theorem dX3_say_0 : decode cX3_say 0 = .ok (.iload_n 1, 1) := by decide +kernel
theorem dX3_say_1 : decode cX3_say 1 = .ok (.bipush 33, 2) := by decide +kernel
theorem dX3_say_3 : decode cX3_say 3 = .ok (.bipush 126, 2) := by decide +kernel
theorem dX3_say_5 : decode cX3_say 5 = .ok (.invokestatic 51, 3) := by decide +kernel
theorem dX3_say_8 : decode cX3_say 8 = .ok (.ifCond .ne 6, 3) := by decide +kernel
theorem dX3_say_11 : decode cX3_say 11 = .ok (.bipush (-2), 2) := by decide +kernel
theorem dX3_say_13 : decode cX3_say 13 = .ok (.ireturn, 1) := by decide +kernel
theorem dX3_say_14 : decode cX3_say 14 = .ok (.aload_n 0, 1) := by decide +kernel
theorem dX3_say_15 : decode cX3_say 15 = .ok (.getfield 28, 3) := by decide +kernel
theorem dX3_say_18 : decode cX3_say 18 = .ok (.iload_n 1, 1) := by decide +kernel
theorem dX3_say_19 : decode cX3_say 19 = .ok (.i2c, 1) := by decide +kernel
theorem dX3_say_20 : decode cX3_say 20 = .ok (.invokevirtual 69, 3) := by decide +kernel
theorem dX3_say_23 : decode cX3_say 23 = .ok (.ifCond .eq 13, 3) := by decide +kernel
theorem dX3_say_26 : decode cX3_say 26 = .ok (.aload_n 0, 1) := by decide +kernel
theorem dX3_say_27 : decode cX3_say 27 = .ok (.getfield 28, 3) := by decide +kernel
theorem dX3_say_30 : decode cX3_say 30 = .ok (.getfield 73, 3) := by decide +kernel
theorem dX3_say_33 : decode cX3_say 33 = .ok (.goto 5, 3) := by decide +kernel
theorem dX3_say_36 : decode cX3_say 36 = .ok (.bipush (-4), 2) := by decide +kernel
theorem dX3_say_38 : decode cX3_say 38 = .ok (.ireturn, 1) := by decide +kernel
set_option maxRecDepth 20000 in
theorem ggX3_wipe_X0_clear : GoodIn wsX3_wipe wsX0_clear := goodIn_r _ [6, 7, 16, 17, 18, 19, 20, 21, 22, 23, 24, 25] (by decide +kernel) (by decide +kernel)
set_option maxRecDepth 20000 in
theorem gX3_wipe_X0_clear : GoodIn wsX3_wipe (wsV RX3 76 RX0 yX0_clear wsX0_clear) := goodIn_app (goodIn_of _ (by decide +kernel)) ggX3_wipe_X0_clear
theorem dX3_wipe_0 : decode cX3_wipe 0 = .ok (.aload_n 0, 1) := by decide +kernel
theorem dX3_wipe_1 : decode cX3_wipe 1 = .ok (.getfield 28, 3) := by decide +kernel
theorem dX3_wipe_4 : decode cX3_wipe 4 = .ok (.getfield 73, 3) := by decide +kernel
theorem dX3_wipe_7 : decode cX3_wipe 7 = .ok (.istore_n 1, 1) := by decide +kernel
theorem dX3_wipe_8 : decode cX3_wipe 8 = .ok (.aload_n 0, 1) := by decide +kernel
theorem dX3_wipe_9 : decode cX3_wipe 9 = .ok (.getfield 28, 3) := by decide +kernel
theorem dX3_wipe_12 : decode cX3_wipe 12 = .ok (.invokevirtual 76, 3) := by decide +kernel
theorem dX3_wipe_15 : decode cX3_wipe 15 = .ok (.iload_n 1, 1) := by decide +kernel
theorem dX3_wipe_16 : decode cX3_wipe 16 = .ok (.ireturn, 1) := by decide +kernel
set_option maxRecDepth 20000 in
theorem ggX3_fault_X0_read : GoodIn wsX3_fault wsX0_read := goodIn_r _ [6, 7, 8, 9, 10, 11, 12, 5, 13, 14, 15, 16, 17, 18, 19, 20, 21, 22, 23, 24, 25, 26, 27, 28, 29, 30, 31, 32, 33, 34, 35, 36, 45, 46, 47, 48, 49, 50, 51, 52, 53, 54] (by decide +kernel) (by decide +kernel)
set_option maxRecDepth 20000 in
theorem gX3_fault_X0_read : GoodIn wsX3_fault (wsV RX3 79 RX0 yX0_read wsX0_read) := goodIn_app (goodIn_of _ (by decide +kernel)) ggX3_fault_X0_read
theorem dX3_fault_0 : decode cX3_fault 0 = .ok (.aload_n 0, 1) := by decide +kernel
theorem dX3_fault_1 : decode cX3_fault 1 = .ok (.getfield 28, 3) := by decide +kernel
theorem dX3_fault_4 : decode cX3_fault 4 = .ok (.invokevirtual 79, 3) := by decide +kernel
theorem dX3_fault_7 : decode cX3_fault 7 = .ok (.ireturn, 1) := by decide +kernel
set_option maxRecDepth 20000 in
theorem ggX3_judge_X3_isWithin : GoodIn wsX3_judge wsX3_isWithin := goodIn_r _ [7] (by decide +kernel) (by decide +kernel)
set_option maxRecDepth 20000 in
theorem gX3_judge_X3_isWithin : GoodIn wsX3_judge (va_wsS RX3 51 yX3_isWithin wsX3_isWithin) := goodIn_app (goodIn_of _ (by decide +kernel)) ggX3_judge_X3_isWithin
set_option maxRecDepth 20000 in
theorem ggX3_judge_X0_read : GoodIn wsX3_judge wsX0_read := goodIn_r _ [12, 13, 14, 15, 16, 17, 18, 11, 19, 20, 21, 22, 23, 24, 25, 26, 27, 28, 29, 30, 31, 32, 33, 34, 35, 36, 37, 38, 39, 40, 41, 42, 145, 146, 147, 148, 149, 150, 151, 152, 153, 154] (by decide +kernel) (by decide +kernel)
set_option maxRecDepth 20000 in
theorem gX3_judge_X0_read : GoodIn wsX3_judge (wsV RX3 79 RX0 yX0_read wsX0_read) := goodIn_app (goodIn_of _ (by decide +kernel)) ggX3_judge_X0_read
set_option maxRecDepth 20000 in
theorem ggX3_judge_X0_perform : GoodIn wsX3_judge wsX0_perform := goodIn_r _ [46, 13, 47, 48, 49, 50, 51, 52, 53, 54, 55, 56, 57, 58, 59, 60, 61, 62, 63, 64, 65, 66, 67, 68, 69, 70, 11, 71, 39, 40, 41, 42, 72, 73, 74, 75, 76, 6, 77, 78, 79, 80, 81, 82, 83, 84, 85, 86, 87, 88, 89, 90, 91, 14, 92, 93, 94, 95, 96, 97, 98, 99, 100, 101, 102, 103, 104, 105, 106, 107, 108, 109, 110, 111, 112, 113, 114, 115, 116, 117, 118, 119, 120, 121, 122, 123, 124, 125, 126, 127, 128, 129, 130, 131, 132, 133, 134, 135, 136, 145, 146, 147, 148, 149, 150, 151, 152, 153, 154, 155, 156, 157, 158, 159, 160, 161, 162, 163, 164, 165] (by decide +kernel) (by decide +kernel)
set_option maxRecDepth 20000 in
theorem gX3_judge_X0_perform : GoodIn wsX3_judge (wsV RX3 86 RX0 yX0_perform wsX0_perform) := goodIn_app (goodIn_of _ (by decide +kernel)) ggX3_judge_X0_perform
theorem dX3_judge_0 : decode cX3_judge 0 = .ok (.iload_n 1, 1) := by decide +kernel
theorem dX3_judge_1 : decode cX3_judge 1 = .ok (.iconst 0, 1) := by decide +kernel
theorem dX3_judge_2 : decode cX3_judge 2 = .ok (.iconst 1, 1) := by decide +kernel
theorem dX3_judge_3 : decode cX3_judge 3 = .ok (.invokestatic 51, 3) := by decide +kernel
theorem dX3_judge_6 : decode cX3_judge 6 = .ok (.ifCond .ne 6, 3) := by decide +kernel
theorem dX3_judge_9 : decode cX3_judge 9 = .ok (.bipush (-2), 2) := by decide +kernel
theorem dX3_judge_11 : decode cX3_judge 11 = .ok (.ireturn, 1) := by decide +kernel
theorem dX3_judge_12 : decode cX3_judge 12 = .ok (.aload_n 0, 1) := by decide +kernel
theorem dX3_judge_13 : decode cX3_judge 13 = .ok (.getfield 28, 3) := by decide +kernel
theorem dX3_judge_16 : decode cX3_judge 16 = .ok (.invokevirtual 79, 3) := by decide +kernel
theorem dX3_judge_19 : decode cX3_judge 19 = .ok (.bipush (-6), 2) := by decide +kernel
theorem dX3_judge_21 : decode cX3_judge 21 = .ok (.if_icmp .eq 6, 3) := by decide +kernel
theorem dX3_judge_24 : decode cX3_judge 24 = .ok (.bipush (-5), 2) := by decide +kernel
theorem dX3_judge_26 : decode cX3_judge 26 = .ok (.ireturn, 1) := by decide +kernel
theorem dX3_judge_27 : decode cX3_judge 27 = .ok (.aload_n 0, 1) := by decide +kernel
theorem dX3_judge_28 : decode cX3_judge 28 = .ok (.getfield 28, 3) := by decide +kernel
theorem dX3_judge_31 : decode cX3_judge 31 = .ok (.getfield 83, 3) := by decide +kernel
theorem dX3_judge_34 : decode cX3_judge 34 = .ok (.ifCond .le 6, 3) := by decide +kernel
theorem dX3_judge_37 : decode cX3_judge 37 = .ok (.bipush (-3), 2) := by decide +kernel
theorem dX3_judge_39 : decode cX3_judge 39 = .ok (.ireturn, 1) := by decide +kernel
theorem dX3_judge_40 : decode cX3_judge 40 = .ok (.aload_n 0, 1) := by decide +kernel
theorem dX3_judge_41 : decode cX3_judge 41 = .ok (.getfield 28, 3) := by decide +kernel
theorem dX3_judge_44 : decode cX3_judge 44 = .ok (.aload_n 0, 1) := by decide +kernel
theorem dX3_judge_45 : decode cX3_judge 45 = .ok (.getfield 12, 3) := by decide +kernel
theorem dX3_judge_48 : decode cX3_judge 48 = .ok (.aload_n 0, 1) := by decide +kernel
theorem dX3_judge_49 : decode cX3_judge 49 = .ok (.getfield 16, 3) := by decide +kernel
theorem dX3_judge_52 : decode cX3_judge 52 = .ok (.invokevirtual 86, 3) := by decide +kernel
theorem dX3_judge_55 : decode cX3_judge 55 = .ok (.istore_n 2, 1) := by decide +kernel
theorem dX3_judge_56 : decode cX3_judge 56 = .ok (.iload_n 2, 1) := by decide +kernel
theorem dX3_judge_57 : decode cX3_judge 57 = .ok (.bipush (-6), 2) := by decide +kernel
theorem dX3_judge_59 : decode cX3_judge 59 = .ok (.if_icmp .ne 6, 3) := by decide +kernel
theorem dX3_judge_62 : decode cX3_judge 62 = .ok (.bipush (-6), 2) := by decide +kernel
theorem dX3_judge_64 : decode cX3_judge 64 = .ok (.ireturn, 1) := by decide +kernel
theorem dX3_judge_65 : decode cX3_judge 65 = .ok (.iload_n 1, 1) := by decide +kernel
theorem dX3_judge_66 : decode cX3_judge 66 = .ok (.ifCond .ne 7, 3) := by decide +kernel
theorem dX3_judge_69 : decode cX3_judge 69 = .ok (.iload_n 2, 1) := by decide +kernel
theorem dX3_judge_70 : decode cX3_judge 70 = .ok (.goto 10, 3) := by decide +kernel
theorem dX3_judge_73 : decode cX3_judge 73 = .ok (.aload_n 0, 1) := by decide +kernel
theorem dX3_judge_74 : decode cX3_judge 74 = .ok (.getfield 28, 3) := by decide +kernel
theorem dX3_judge_77 : decode cX3_judge 77 = .ok (.getfield 90, 3) := by decide +kernel
theorem dX3_judge_80 : decode cX3_judge 80 = .ok (.ireturn, 1) := by decide +kernel
set_option maxRecDepth 20000 in
theorem ggX3_done_X0_read : GoodIn wsX3_done wsX0_read := goodIn_r _ [8, 9, 10, 11, 12, 13, 14, 7, 15, 16, 17, 18, 19, 20, 21, 22, 23, 24, 25, 26, 27, 28, 29, 30, 31, 32, 33, 34, 35, 36, 37, 38, 147, 148, 149, 150, 151, 152, 153, 154, 155, 156] (by decide +kernel) (by decide +kernel)
set_option maxRecDepth 20000 in
theorem gX3_done_X0_read : GoodIn wsX3_done (wsV RX3 79 RX0 yX0_read wsX0_read) := goodIn_app (goodIn_of _ (by decide +kernel)) ggX3_done_X0_read
set_option maxRecDepth 20000 in
theorem ggX3_done_X0_perform : GoodIn wsX3_done wsX0_perform := goodIn_r _ [42, 9, 43, 44, 45, 46, 47, 48, 49, 50, 51, 52, 53, 54, 55, 56, 57, 58, 59, 60, 61, 62, 63, 64, 65, 66, 7, 67, 35, 36, 37, 38, 68, 69, 70, 71, 72, 73, 74, 75, 76, 77, 78, 79, 80, 81, 82, 83, 84, 85, 86, 87, 88, 10, 89, 90, 91, 92, 93, 94, 95, 96, 97, 98, 99, 100, 101, 102, 103, 104, 105, 106, 107, 108, 109, 110, 111, 112, 113, 114, 115, 116, 117, 118, 119, 120, 121, 122, 123, 124, 125, 126, 127, 128, 129, 130, 131, 132, 133, 147, 148, 149, 150, 151, 152, 153, 154, 155, 156, 157, 158, 159, 160, 161, 162, 163, 164, 165, 166, 167] (by decide +kernel) (by decide +kernel)
set_option maxRecDepth 20000 in
theorem gX3_done_X0_perform : GoodIn wsX3_done (wsV RX3 86 RX0 yX0_perform wsX0_perform) := goodIn_app (goodIn_of _ (by decide +kernel)) ggX3_done_X0_perform
set_option maxRecDepth 20000 in
theorem ggX3_done_X2_copyFrom : GoodIn wsX3_done wsX2_copyFrom := goodIn_r _ [48, 49, 50, 51, 52, 53, 54, 55, 56, 57, 58, 59, 60, 61, 62, 63, 157, 158, 159, 160, 161, 162, 163, 164, 165, 166, 167] (by decide +kernel) (by decide +kernel)
set_option maxRecDepth 20000 in
theorem gX3_done_X2_copyFrom : GoodIn wsX3_done (wsV RX3 93 RX2 yX2_copyFrom wsX2_copyFrom) := goodIn_app (goodIn_of _ (by decide +kernel)) ggX3_done_X2_copyFrom
set_option maxRecDepth 20000 in
theorem ggX3_done_X0_clear : GoodIn wsX3_done wsX0_clear := goodIn_r _ [138, 11, 147, 148, 149, 150, 151, 152, 153, 154, 155, 156] (by decide +kernel) (by decide +kernel)
set_option maxRecDepth 20000 in
theorem gX3_done_X0_clear : GoodIn wsX3_done (wsV RX3 76 RX0 yX0_clear wsX0_clear) := goodIn_app (goodIn_of _ (by decide +kernel)) ggX3_done_X0_clear
theorem dX3_done_0 : decode cX3_done 0 = .ok (.aload_n 0, 1) := by decide +kernel
theorem dX3_done_1 : decode cX3_done 1 = .ok (.getfield 28, 3) := by decide +kernel
theorem dX3_done_4 : decode cX3_done 4 = .ok (.invokevirtual 79, 3) := by decide +kernel
theorem dX3_done_7 : decode cX3_done 7 = .ok (.bipush (-6), 2) := by decide +kernel
theorem dX3_done_9 : decode cX3_done 9 = .ok (.if_icmp .eq 6, 3) := by decide +kernel
theorem dX3_done_12 : decode cX3_done 12 = .ok (.bipush (-5), 2) := by decide +kernel
theorem dX3_done_14 : decode cX3_done 14 = .ok (.ireturn, 1) := by decide +kernel
theorem dX3_done_15 : decode cX3_done 15 = .ok (.aload_n 0, 1) := by decide +kernel
theorem dX3_done_16 : decode cX3_done 16 = .ok (.getfield 28, 3) := by decide +kernel
theorem dX3_done_19 : decode cX3_done 19 = .ok (.getfield 83, 3) := by decide +kernel
theorem dX3_done_22 : decode cX3_done 22 = .ok (.ifCond .le 6, 3) := by decide +kernel
theorem dX3_done_25 : decode cX3_done 25 = .ok (.bipush (-3), 2) := by decide +kernel
theorem dX3_done_27 : decode cX3_done 27 = .ok (.ireturn, 1) := by decide +kernel
theorem dX3_done_28 : decode cX3_done 28 = .ok (.aload_n 0, 1) := by decide +kernel
theorem dX3_done_29 : decode cX3_done 29 = .ok (.getfield 28, 3) := by decide +kernel
theorem dX3_done_32 : decode cX3_done 32 = .ok (.aload_n 0, 1) := by decide +kernel
theorem dX3_done_33 : decode cX3_done 33 = .ok (.getfield 12, 3) := by decide +kernel
theorem dX3_done_36 : decode cX3_done 36 = .ok (.aload_n 0, 1) := by decide +kernel
theorem dX3_done_37 : decode cX3_done 37 = .ok (.getfield 16, 3) := by decide +kernel
theorem dX3_done_40 : decode cX3_done 40 = .ok (.invokevirtual 86, 3) := by decide +kernel
theorem dX3_done_43 : decode cX3_done 43 = .ok (.bipush (-6), 2) := by decide +kernel
theorem dX3_done_45 : decode cX3_done 45 = .ok (.if_icmp .eq 6, 3) := by decide +kernel
theorem dX3_done_48 : decode cX3_done 48 = .ok (.bipush (-5), 2) := by decide +kernel
theorem dX3_done_50 : decode cX3_done 50 = .ok (.ireturn, 1) := by decide +kernel
theorem dX3_done_51 : decode cX3_done 51 = .ok (.aload_n 0, 1) := by decide +kernel
theorem dX3_done_52 : decode cX3_done 52 = .ok (.getfield 12, 3) := by decide +kernel
theorem dX3_done_55 : decode cX3_done 55 = .ok (.aload_n 0, 1) := by decide +kernel
theorem dX3_done_56 : decode cX3_done 56 = .ok (.getfield 16, 3) := by decide +kernel
theorem dX3_done_59 : decode cX3_done 59 = .ok (.invokevirtual 93, 3) := by decide +kernel
theorem dX3_done_62 : decode cX3_done 62 = .ok (.aload_n 0, 1) := by decide +kernel
theorem dX3_done_63 : decode cX3_done 63 = .ok (.getfield 28, 3) := by decide +kernel
theorem dX3_done_66 : decode cX3_done 66 = .ok (.getfield 97, 3) := by decide +kernel
theorem dX3_done_69 : decode cX3_done 69 = .ok (.istore_n 1, 1) := by decide +kernel
theorem dX3_done_70 : decode cX3_done 70 = .ok (.aload_n 0, 1) := by decide +kernel
theorem dX3_done_71 : decode cX3_done 71 = .ok (.getfield 28, 3) := by decide +kernel
theorem dX3_done_74 : decode cX3_done 74 = .ok (.invokevirtual 76, 3) := by decide +kernel
theorem dX3_done_77 : decode cX3_done 77 = .ok (.iload_n 1, 1) := by decide +kernel
theorem dX3_done_78 : decode cX3_done 78 = .ok (.ireturn, 1) := by decide +kernel
set_option maxRecDepth 20000 in
theorem ggX3_debt_X2_hasDebt : GoodIn wsX3_debt wsX2_hasDebt := goodIn_r _ [6, 7, 32, 33, 34, 35, 36, 37, 38, 39, 40, 41, 42] (by decide +kernel) (by decide +kernel)
set_option maxRecDepth 20000 in
theorem gX3_debt_X2_hasDebt : GoodIn wsX3_debt (wsV RX3 100 RX2 yX2_hasDebt wsX2_hasDebt) := goodIn_app (goodIn_of _ (by decide +kernel)) ggX3_debt_X2_hasDebt
set_option maxRecDepth 20000 in
theorem ggX3_debt_X2_lenderOf : GoodIn wsX3_debt wsX2_lenderOf := goodIn_r _ [11, 12, 13, 3, 4, 5, 6, 7, 32, 33, 34, 35, 36, 37, 38, 39, 40, 41, 42] (by decide +kernel) (by decide +kernel)
set_option maxRecDepth 20000 in
theorem gX3_debt_X2_lenderOf : GoodIn wsX3_debt (wsV RX3 104 RX2 yX2_lenderOf wsX2_lenderOf) := goodIn_app (goodIn_of _ (by decide +kernel)) ggX3_debt_X2_lenderOf
set_option maxRecDepth 20000 in
theorem ggX3_debt_X2_penceOf : GoodIn wsX3_debt wsX2_penceOf := goodIn_r _ [17, 18, 13, 3, 4, 5, 6, 7, 32, 33, 34, 35, 36, 37, 38, 39, 40, 41, 42] (by decide +kernel) (by decide +kernel)
set_option maxRecDepth 20000 in
theorem gX3_debt_X2_penceOf : GoodIn wsX3_debt (wsV RX3 108 RX2 yX2_penceOf wsX2_penceOf) := goodIn_app (goodIn_of _ (by decide +kernel)) ggX3_debt_X2_penceOf
set_option maxRecDepth 20000 in
theorem ggX3_debt_X2_dayOf : GoodIn wsX3_debt wsX2_dayOf := goodIn_r _ [22, 23, 13, 3, 4, 5, 6, 7, 32, 33, 34, 35, 36, 37, 38, 39, 40, 41, 42] (by decide +kernel) (by decide +kernel)
set_option maxRecDepth 20000 in
theorem gX3_debt_X2_dayOf : GoodIn wsX3_debt (wsV RX3 111 RX2 yX2_dayOf wsX2_dayOf) := goodIn_app (goodIn_of _ (by decide +kernel)) ggX3_debt_X2_dayOf
theorem dX3_debt_0 : decode cX3_debt 0 = .ok (.aload_n 0, 1) := by decide +kernel
theorem dX3_debt_1 : decode cX3_debt 1 = .ok (.getfield 12, 3) := by decide +kernel
theorem dX3_debt_4 : decode cX3_debt 4 = .ok (.iload_n 1, 1) := by decide +kernel
theorem dX3_debt_5 : decode cX3_debt 5 = .ok (.iload_n 2, 1) := by decide +kernel
theorem dX3_debt_6 : decode cX3_debt 6 = .ok (.invokevirtual 100, 3) := by decide +kernel
theorem dX3_debt_9 : decode cX3_debt 9 = .ok (.ifCond .ne 5, 3) := by decide +kernel
theorem dX3_debt_12 : decode cX3_debt 12 = .ok (.iconst (-1), 1) := by decide +kernel
theorem dX3_debt_13 : decode cX3_debt 13 = .ok (.ireturn, 1) := by decide +kernel
theorem dX3_debt_14 : decode cX3_debt 14 = .ok (.iload_n 3, 1) := by decide +kernel
theorem dX3_debt_15 : decode cX3_debt 15 = .ok (.tableswitch 55 0 2 #[25, 35, 45], 25) := by decide +kernel
theorem dX3_debt_40 : decode cX3_debt 40 = .ok (.aload_n 0, 1) := by decide +kernel
theorem dX3_debt_41 : decode cX3_debt 41 = .ok (.getfield 12, 3) := by decide +kernel
theorem dX3_debt_44 : decode cX3_debt 44 = .ok (.iload_n 1, 1) := by decide +kernel
theorem dX3_debt_45 : decode cX3_debt 45 = .ok (.iload_n 2, 1) := by decide +kernel
theorem dX3_debt_46 : decode cX3_debt 46 = .ok (.invokevirtual 104, 3) := by decide +kernel
theorem dX3_debt_49 : decode cX3_debt 49 = .ok (.ireturn, 1) := by decide +kernel
theorem dX3_debt_50 : decode cX3_debt 50 = .ok (.aload_n 0, 1) := by decide +kernel
theorem dX3_debt_51 : decode cX3_debt 51 = .ok (.getfield 12, 3) := by decide +kernel
theorem dX3_debt_54 : decode cX3_debt 54 = .ok (.iload_n 1, 1) := by decide +kernel
theorem dX3_debt_55 : decode cX3_debt 55 = .ok (.iload_n 2, 1) := by decide +kernel
theorem dX3_debt_56 : decode cX3_debt 56 = .ok (.invokevirtual 108, 3) := by decide +kernel
theorem dX3_debt_59 : decode cX3_debt 59 = .ok (.ireturn, 1) := by decide +kernel
theorem dX3_debt_60 : decode cX3_debt 60 = .ok (.aload_n 0, 1) := by decide +kernel
theorem dX3_debt_61 : decode cX3_debt 61 = .ok (.getfield 12, 3) := by decide +kernel
theorem dX3_debt_64 : decode cX3_debt 64 = .ok (.iload_n 1, 1) := by decide +kernel
theorem dX3_debt_65 : decode cX3_debt 65 = .ok (.iload_n 2, 1) := by decide +kernel
theorem dX3_debt_66 : decode cX3_debt 66 = .ok (.invokevirtual 111, 3) := by decide +kernel
theorem dX3_debt_69 : decode cX3_debt 69 = .ok (.ireturn, 1) := by decide +kernel
theorem dX3_debt_70 : decode cX3_debt 70 = .ok (.bipush (-2), 2) := by decide +kernel
theorem dX3_debt_72 : decode cX3_debt 72 = .ok (.ireturn, 1) := by decide +kernel
set_option maxRecDepth 20000 in
theorem ggX3_due_X3_isMan : GoodIn wsX3_due wsX3_isMan := goodIn_r _ [5] (by decide +kernel) (by decide +kernel)
set_option maxRecDepth 20000 in
theorem gX3_due_X3_isMan : GoodIn wsX3_due (va_wsS RX3 47 yX3_isMan wsX3_isMan) := goodIn_app (goodIn_of _ (by decide +kernel)) ggX3_due_X3_isMan
set_option maxRecDepth 20000 in
theorem ggX3_due_X2_dueOf : GoodIn wsX3_due wsX2_dueOf := goodIn_r _ [10, 11, 12, 13, 9, 14, 15, 16, 17, 18, 19, 3, 4, 5, 20, 21, 22, 23, 24, 25, 34, 35, 36, 37, 38, 39, 40, 41, 42, 43, 44] (by decide +kernel) (by decide +kernel)
set_option maxRecDepth 20000 in
theorem gX3_due_X2_dueOf : GoodIn wsX3_due (wsV RX3 114 RX2 yX2_dueOf wsX2_dueOf) := goodIn_app (goodIn_of _ (by decide +kernel)) ggX3_due_X2_dueOf
theorem dX3_due_0 : decode cX3_due 0 = .ok (.iload_n 1, 1) := by decide +kernel
theorem dX3_due_1 : decode cX3_due 1 = .ok (.invokestatic 47, 3) := by decide +kernel
theorem dX3_due_4 : decode cX3_due 4 = .ok (.ifCond .eq 14, 3) := by decide +kernel
theorem dX3_due_7 : decode cX3_due 7 = .ok (.aload_n 0, 1) := by decide +kernel
theorem dX3_due_8 : decode cX3_due 8 = .ok (.getfield 12, 3) := by decide +kernel
theorem dX3_due_11 : decode cX3_due 11 = .ok (.iload_n 1, 1) := by decide +kernel
theorem dX3_due_12 : decode cX3_due 12 = .ok (.invokevirtual 114, 3) := by decide +kernel
theorem dX3_due_15 : decode cX3_due 15 = .ok (.goto 4, 3) := by decide +kernel
theorem dX3_due_18 : decode cX3_due 18 = .ok (.iconst (-1), 1) := by decide +kernel
theorem dX3_due_19 : decode cX3_due 19 = .ok (.ireturn, 1) := by decide +kernel
set_option maxRecDepth 20000 in
theorem ggX3_owes_X3_isMan : GoodIn wsX3_owes wsX3_isMan := goodIn_r _ [5] (by decide +kernel) (by decide +kernel)
set_option maxRecDepth 20000 in
theorem gX3_owes_X3_isMan : GoodIn wsX3_owes (va_wsS RX3 47 yX3_isMan wsX3_isMan) := goodIn_app (goodIn_of _ (by decide +kernel)) ggX3_owes_X3_isMan
set_option maxRecDepth 20000 in
theorem ggX3_owes_X2_owedTo : GoodIn wsX3_owes wsX2_owedTo := goodIn_r _ [10, 11, 12, 13, 9, 14, 15, 3, 4, 5, 16, 17, 18, 19, 20, 21, 22, 23, 24, 25, 26, 27, 28, 29, 38, 39, 40, 41, 42, 43, 44, 45, 46, 47, 48] (by decide +kernel) (by decide +kernel)
set_option maxRecDepth 20000 in
theorem gX3_owes_X2_owedTo : GoodIn wsX3_owes (wsV RX3 117 RX2 yX2_owedTo wsX2_owedTo) := goodIn_app (goodIn_of _ (by decide +kernel)) ggX3_owes_X2_owedTo
theorem dX3_owes_0 : decode cX3_owes 0 = .ok (.iload_n 1, 1) := by decide +kernel
theorem dX3_owes_1 : decode cX3_owes 1 = .ok (.invokestatic 47, 3) := by decide +kernel
theorem dX3_owes_4 : decode cX3_owes 4 = .ok (.ifCond .eq 22, 3) := by decide +kernel
theorem dX3_owes_7 : decode cX3_owes 7 = .ok (.iload_n 2, 1) := by decide +kernel
theorem dX3_owes_8 : decode cX3_owes 8 = .ok (.invokestatic 47, 3) := by decide +kernel
theorem dX3_owes_11 : decode cX3_owes 11 = .ok (.ifCond .eq 15, 3) := by decide +kernel
theorem dX3_owes_14 : decode cX3_owes 14 = .ok (.aload_n 0, 1) := by decide +kernel
theorem dX3_owes_15 : decode cX3_owes 15 = .ok (.getfield 12, 3) := by decide +kernel
theorem dX3_owes_18 : decode cX3_owes 18 = .ok (.iload_n 1, 1) := by decide +kernel
theorem dX3_owes_19 : decode cX3_owes 19 = .ok (.iload_n 2, 1) := by decide +kernel
theorem dX3_owes_20 : decode cX3_owes 20 = .ok (.invokevirtual 117, 3) := by decide +kernel
theorem dX3_owes_23 : decode cX3_owes 23 = .ok (.goto 4, 3) := by decide +kernel
theorem dX3_owes_26 : decode cX3_owes 26 = .ok (.iconst (-1), 1) := by decide +kernel
theorem dX3_owes_27 : decode cX3_owes 27 = .ok (.ireturn, 1) := by decide +kernel
set_option maxRecDepth 20000 in
theorem ggX3_seen_X3_isMan : GoodIn wsX3_seen wsX3_isMan := goodIn_r _ [5] (by decide +kernel) (by decide +kernel)
set_option maxRecDepth 20000 in
theorem gX3_seen_X3_isMan : GoodIn wsX3_seen (va_wsS RX3 47 yX3_isMan wsX3_isMan) := goodIn_app (goodIn_of _ (by decide +kernel)) ggX3_seen_X3_isMan
set_option maxRecDepth 20000 in
theorem ggX3_seen_X3_isWithin : GoodIn wsX3_seen wsX3_isWithin := goodIn_r _ [8] (by decide +kernel) (by decide +kernel)
set_option maxRecDepth 20000 in
theorem gX3_seen_X3_isWithin : GoodIn wsX3_seen (va_wsS RX3 51 yX3_isWithin wsX3_isWithin) := goodIn_app (goodIn_of _ (by decide +kernel)) ggX3_seen_X3_isWithin
set_option maxRecDepth 20000 in
theorem ggX3_seen_X2_addSight : GoodIn wsX3_seen wsX2_addSight := goodIn_r _ [13, 14, 15, 16, 25, 26, 27, 28, 29, 30, 31, 32, 33, 34, 35] (by decide +kernel) (by decide +kernel)
set_option maxRecDepth 20000 in
theorem gX3_seen_X2_addSight : GoodIn wsX3_seen (wsV RX3 120 RX2 yX2_addSight wsX2_addSight) := goodIn_app (goodIn_of _ (by decide +kernel)) ggX3_seen_X2_addSight
theorem dX3_seen_0 : decode cX3_seen 0 = .ok (.iload_n 1, 1) := by decide +kernel
theorem dX3_seen_1 : decode cX3_seen 1 = .ok (.invokestatic 47, 3) := by decide +kernel
theorem dX3_seen_4 : decode cX3_seen 4 = .ok (.ifCond .ne 5, 3) := by decide +kernel
theorem dX3_seen_7 : decode cX3_seen 7 = .ok (.iconst (-1), 1) := by decide +kernel
theorem dX3_seen_8 : decode cX3_seen 8 = .ok (.ireturn, 1) := by decide +kernel
theorem dX3_seen_9 : decode cX3_seen 9 = .ok (.iload_n 2, 1) := by decide +kernel
theorem dX3_seen_10 : decode cX3_seen 10 = .ok (.iconst 0, 1) := by decide +kernel
theorem dX3_seen_11 : decode cX3_seen 11 = .ok (.sipush 9999, 3) := by decide +kernel
theorem dX3_seen_14 : decode cX3_seen 14 = .ok (.invokestatic 51, 3) := by decide +kernel
theorem dX3_seen_17 : decode cX3_seen 17 = .ok (.ifCond .ne 6, 3) := by decide +kernel
theorem dX3_seen_20 : decode cX3_seen 20 = .ok (.bipush (-2), 2) := by decide +kernel
theorem dX3_seen_22 : decode cX3_seen 22 = .ok (.ireturn, 1) := by decide +kernel
theorem dX3_seen_23 : decode cX3_seen 23 = .ok (.aload_n 0, 1) := by decide +kernel
theorem dX3_seen_24 : decode cX3_seen 24 = .ok (.getfield 12, 3) := by decide +kernel
theorem dX3_seen_27 : decode cX3_seen 27 = .ok (.iload_n 1, 1) := by decide +kernel
theorem dX3_seen_28 : decode cX3_seen 28 = .ok (.iload_n 2, 1) := by decide +kernel
theorem dX3_seen_29 : decode cX3_seen 29 = .ok (.invokevirtual 120, 3) := by decide +kernel
theorem dX3_seen_32 : decode cX3_seen 32 = .ok (.ifCond .eq 13, 3) := by decide +kernel
theorem dX3_seen_35 : decode cX3_seen 35 = .ok (.aload_n 0, 1) := by decide +kernel
theorem dX3_seen_36 : decode cX3_seen 36 = .ok (.getfield 12, 3) := by decide +kernel
theorem dX3_seen_39 : decode cX3_seen 39 = .ok (.getfield 123, 3) := by decide +kernel
theorem dX3_seen_42 : decode cX3_seen 42 = .ok (.goto 5, 3) := by decide +kernel
theorem dX3_seen_45 : decode cX3_seen 45 = .ok (.bipush (-4), 2) := by decide +kernel
theorem dX3_seen_47 : decode cX3_seen 47 = .ok (.ireturn, 1) := by decide +kernel
theorem dX3_forget_0 : decode cX3_forget 0 = .ok (.aload_n 0, 1) := by decide +kernel
theorem dX3_forget_1 : decode cX3_forget 1 = .ok (.getfield 12, 3) := by decide +kernel
theorem dX3_forget_4 : decode cX3_forget 4 = .ok (.getfield 123, 3) := by decide +kernel
theorem dX3_forget_7 : decode cX3_forget 7 = .ok (.istore_n 1, 1) := by decide +kernel
theorem dX3_forget_8 : decode cX3_forget 8 = .ok (.aload_n 0, 1) := by decide +kernel
theorem dX3_forget_9 : decode cX3_forget 9 = .ok (.getfield 12, 3) := by decide +kernel
theorem dX3_forget_12 : decode cX3_forget 12 = .ok (.iconst 0, 1) := by decide +kernel
theorem dX3_forget_13 : decode cX3_forget 13 = .ok (.putfield 123, 3) := by decide +kernel
theorem dX3_forget_16 : decode cX3_forget 16 = .ok (.iload_n 1, 1) := by decide +kernel
theorem dX3_forget_17 : decode cX3_forget 17 = .ok (.ireturn, 1) := by decide +kernel
set_option maxRecDepth 20000 in
theorem ggX3_filled_X0_read : GoodIn wsX3_filled wsX0_read := goodIn_r _ [8, 9, 10, 11, 12, 13, 14, 7, 15, 16, 17, 18, 19, 20, 21, 22, 23, 24, 25, 26, 27, 28, 29, 30, 31, 32, 33, 34, 35, 36, 37, 38, 160, 161, 162, 163, 164, 165, 166, 167, 168, 169] (by decide +kernel) (by decide +kernel)
set_option maxRecDepth 20000 in
theorem gX3_filled_X0_read : GoodIn wsX3_filled (wsV RX3 79 RX0 yX0_read wsX0_read) := goodIn_app (goodIn_of _ (by decide +kernel)) ggX3_filled_X0_read
set_option maxRecDepth 20000 in
theorem ggX3_filled_X0_guesses : GoodIn wsX3_filled wsX0_guesses := goodIn_r _ [42, 10, 160, 161, 162, 163, 164, 165, 166, 167, 168, 169] (by decide +kernel) (by decide +kernel)
set_option maxRecDepth 20000 in
theorem gX3_filled_X0_guesses : GoodIn wsX3_filled (wsV RX3 126 RX0 yX0_guesses wsX0_guesses) := goodIn_app (goodIn_of _ (by decide +kernel)) ggX3_filled_X0_guesses
set_option maxRecDepth 20000 in
theorem ggX3_filled_X0_writeMen : GoodIn wsX3_filled wsX0_writeMen := goodIn_r _ [46, 10, 47, 48, 49, 50, 51, 160, 161, 162, 163, 164, 165, 166, 167, 168, 169] (by decide +kernel) (by decide +kernel)
set_option maxRecDepth 20000 in
theorem gX3_filled_X0_writeMen : GoodIn wsX3_filled (wsV RX3 129 RX0 yX0_writeMen wsX0_writeMen) := goodIn_app (goodIn_of _ (by decide +kernel)) ggX3_filled_X0_writeMen
set_option maxRecDepth 20000 in
theorem ggX3_filled_X0_lendsToHimself : GoodIn wsX3_filled wsX0_lendsToHimself := goodIn_r _ [55, 9, 35, 36, 37, 56, 57, 58, 7, 59, 60, 61, 62, 63, 64, 65, 66, 10, 51, 160, 161, 162, 163, 164, 165, 166, 167, 168, 169] (by decide +kernel) (by decide +kernel)
set_option maxRecDepth 20000 in
theorem gX3_filled_X0_lendsToHimself : GoodIn wsX3_filled (wsV RX3 133 RX0 yX0_lendsToHimself wsX0_lendsToHimself) := goodIn_app (goodIn_of _ (by decide +kernel)) ggX3_filled_X0_lendsToHimself
set_option maxRecDepth 20000 in
theorem ggX3_filled_X0_perform : GoodIn wsX3_filled wsX0_perform := goodIn_r _ [70, 9, 71, 72, 73, 74, 75, 76, 77, 78, 79, 80, 81, 82, 83, 84, 85, 86, 87, 88, 89, 90, 91, 92, 93, 94, 7, 95, 35, 36, 37, 38, 96, 97, 98, 99, 100, 61, 101, 102, 48, 49, 50, 56, 57, 58, 59, 60, 62, 63, 64, 65, 66, 10, 51, 103, 104, 105, 106, 107, 108, 109, 110, 111, 112, 113, 114, 115, 116, 117, 118, 119, 120, 121, 122, 123, 124, 125, 126, 127, 128, 129, 130, 131, 132, 133, 134, 135, 136, 137, 138, 139, 140, 141, 142, 143, 144, 145, 146, 160, 161, 162, 163, 164, 165, 166, 167, 168, 169, 170, 171, 172, 173, 174, 175, 176, 177, 178, 179, 180] (by decide +kernel) (by decide +kernel)
set_option maxRecDepth 20000 in
theorem gX3_filled_X0_perform : GoodIn wsX3_filled (wsV RX3 86 RX0 yX0_perform wsX0_perform) := goodIn_app (goodIn_of _ (by decide +kernel)) ggX3_filled_X0_perform
set_option maxRecDepth 20000 in
theorem ggX3_filled_X2_sightsHold : GoodIn wsX3_filled wsX2_sightsHold := goodIn_r _ [150, 88, 86, 87, 127, 128, 129, 75, 130, 77, 60, 61, 62, 170, 171, 172, 173, 174, 175, 176, 177, 178, 179, 180] (by decide +kernel) (by decide +kernel)
set_option maxRecDepth 20000 in
theorem gX3_filled_X2_sightsHold : GoodIn wsX3_filled (wsV RX3 137 RX2 yX2_sightsHold wsX2_sightsHold) := goodIn_app (goodIn_of _ (by decide +kernel)) ggX3_filled_X2_sightsHold
set_option maxRecDepth 20000 in
theorem ggX3_filled_X0_manFor : GoodIn wsX3_filled wsX0_manFor := goodIn_r _ [66, 10, 51, 160, 161, 162, 163, 164, 165, 166, 167, 168, 169] (by decide +kernel) (by decide +kernel)
set_option maxRecDepth 20000 in
theorem gX3_filled_X0_manFor : GoodIn wsX3_filled (wsV RX3 140 RX0 yX0_manFor wsX0_manFor) := goodIn_app (goodIn_of _ (by decide +kernel)) ggX3_filled_X0_manFor
theorem dX3_filled_0 : decode cX3_filled 0 = .ok (.aload_n 0, 1) := by decide +kernel
theorem dX3_filled_1 : decode cX3_filled 1 = .ok (.getfield 28, 3) := by decide +kernel
theorem dX3_filled_4 : decode cX3_filled 4 = .ok (.invokevirtual 79, 3) := by decide +kernel
theorem dX3_filled_7 : decode cX3_filled 7 = .ok (.bipush (-6), 2) := by decide +kernel
theorem dX3_filled_9 : decode cX3_filled 9 = .ok (.if_icmp .eq 6, 3) := by decide +kernel
theorem dX3_filled_12 : decode cX3_filled 12 = .ok (.bipush (-5), 2) := by decide +kernel
theorem dX3_filled_14 : decode cX3_filled 14 = .ok (.ireturn, 1) := by decide +kernel
theorem dX3_filled_15 : decode cX3_filled 15 = .ok (.aload_n 0, 1) := by decide +kernel
theorem dX3_filled_16 : decode cX3_filled 16 = .ok (.getfield 28, 3) := by decide +kernel
theorem dX3_filled_19 : decode cX3_filled 19 = .ok (.invokevirtual 126, 3) := by decide +kernel
theorem dX3_filled_22 : decode cX3_filled 22 = .ok (.istore_n 2, 1) := by decide +kernel
theorem dX3_filled_23 : decode cX3_filled 23 = .ok (.bipush (-6), 2) := by decide +kernel
theorem dX3_filled_25 : decode cX3_filled 25 = .ok (.istore_n 3, 1) := by decide +kernel
theorem dX3_filled_26 : decode cX3_filled 26 = .ok (.iconst 0, 1) := by decide +kernel
theorem dX3_filled_27 : decode cX3_filled 27 = .ok (.istore 4, 2) := by decide +kernel
theorem dX3_filled_29 : decode cX3_filled 29 = .ok (.iconst 0, 1) := by decide +kernel
theorem dX3_filled_30 : decode cX3_filled 30 = .ok (.istore 5, 2) := by decide +kernel
theorem dX3_filled_32 : decode cX3_filled 32 = .ok (.iload 5, 2) := by decide +kernel
theorem dX3_filled_34 : decode cX3_filled 34 = .ok (.iload_n 2, 1) := by decide +kernel
theorem dX3_filled_35 : decode cX3_filled 35 = .ok (.if_icmp .ge 74, 3) := by decide +kernel
theorem dX3_filled_38 : decode cX3_filled 38 = .ok (.aload_n 0, 1) := by decide +kernel
theorem dX3_filled_39 : decode cX3_filled 39 = .ok (.getfield 28, 3) := by decide +kernel
theorem dX3_filled_42 : decode cX3_filled 42 = .ok (.iload 5, 2) := by decide +kernel
theorem dX3_filled_44 : decode cX3_filled 44 = .ok (.invokevirtual 129, 3) := by decide +kernel
theorem dX3_filled_47 : decode cX3_filled 47 = .ok (.aload_n 0, 1) := by decide +kernel
theorem dX3_filled_48 : decode cX3_filled 48 = .ok (.getfield 28, 3) := by decide +kernel
theorem dX3_filled_51 : decode cX3_filled 51 = .ok (.invokevirtual 133, 3) := by decide +kernel
theorem dX3_filled_54 : decode cX3_filled 54 = .ok (.ifCond .ne 49, 3) := by decide +kernel
theorem dX3_filled_57 : decode cX3_filled 57 = .ok (.aload_n 0, 1) := by decide +kernel
theorem dX3_filled_58 : decode cX3_filled 58 = .ok (.getfield 28, 3) := by decide +kernel
theorem dX3_filled_61 : decode cX3_filled 61 = .ok (.aload_n 0, 1) := by decide +kernel
theorem dX3_filled_62 : decode cX3_filled 62 = .ok (.getfield 12, 3) := by decide +kernel
theorem dX3_filled_65 : decode cX3_filled 65 = .ok (.aload_n 0, 1) := by decide +kernel
theorem dX3_filled_66 : decode cX3_filled 66 = .ok (.getfield 16, 3) := by decide +kernel
theorem dX3_filled_69 : decode cX3_filled 69 = .ok (.invokevirtual 86, 3) := by decide +kernel
theorem dX3_filled_72 : decode cX3_filled 72 = .ok (.bipush (-6), 2) := by decide +kernel
theorem dX3_filled_74 : decode cX3_filled 74 = .ok (.if_icmp .ne 29, 3) := by decide +kernel
theorem dX3_filled_77 : decode cX3_filled 77 = .ok (.aload_n 0, 1) := by decide +kernel
theorem dX3_filled_78 : decode cX3_filled 78 = .ok (.getfield 16, 3) := by decide +kernel
theorem dX3_filled_81 : decode cX3_filled 81 = .ok (.invokevirtual 137, 3) := by decide +kernel
theorem dX3_filled_84 : decode cX3_filled 84 = .ok (.ifCond .eq 19, 3) := by decide +kernel
theorem dX3_filled_87 : decode cX3_filled 87 = .ok (.iload_n 3, 1) := by decide +kernel
theorem dX3_filled_88 : decode cX3_filled 88 = .ok (.bipush (-6), 2) := by decide +kernel
theorem dX3_filled_90 : decode cX3_filled 90 = .ok (.if_icmp .ne 8, 3) := by decide +kernel
theorem dX3_filled_93 : decode cX3_filled 93 = .ok (.iload 5, 2) := by decide +kernel
theorem dX3_filled_95 : decode cX3_filled 95 = .ok (.goto 4, 3) := by decide +kernel
theorem dX3_filled_98 : decode cX3_filled 98 = .ok (.iload_n 3, 1) := by decide +kernel
theorem dX3_filled_99 : decode cX3_filled 99 = .ok (.istore_n 3, 1) := by decide +kernel
theorem dX3_filled_100 : decode cX3_filled 100 = .ok (.iinc 4 1, 3) := by decide +kernel
theorem dX3_filled_103 : decode cX3_filled 103 = .ok (.iinc 5 1, 3) := by decide +kernel
theorem dX3_filled_106 : decode cX3_filled 106 = .ok (.goto (-74), 3) := by decide +kernel
theorem dX3_filled_109 : decode cX3_filled 109 = .ok (.iload_n 1, 1) := by decide +kernel
theorem dX3_filled_110 : decode cX3_filled 110 = .ok (.iconst (-1), 1) := by decide +kernel
theorem dX3_filled_111 : decode cX3_filled 111 = .ok (.if_icmp .ne 6, 3) := by decide +kernel
theorem dX3_filled_114 : decode cX3_filled 114 = .ok (.iload 4, 2) := by decide +kernel
theorem dX3_filled_116 : decode cX3_filled 116 = .ok (.ireturn, 1) := by decide +kernel
theorem dX3_filled_117 : decode cX3_filled 117 = .ok (.iload_n 3, 1) := by decide +kernel
theorem dX3_filled_118 : decode cX3_filled 118 = .ok (.bipush (-6), 2) := by decide +kernel
theorem dX3_filled_120 : decode cX3_filled 120 = .ok (.if_icmp .ne 6, 3) := by decide +kernel
theorem dX3_filled_123 : decode cX3_filled 123 = .ok (.bipush (-6), 2) := by decide +kernel
theorem dX3_filled_125 : decode cX3_filled 125 = .ok (.ireturn, 1) := by decide +kernel
theorem dX3_filled_126 : decode cX3_filled 126 = .ok (.aload_n 0, 1) := by decide +kernel
theorem dX3_filled_127 : decode cX3_filled 127 = .ok (.getfield 28, 3) := by decide +kernel
theorem dX3_filled_130 : decode cX3_filled 130 = .ok (.iload_n 3, 1) := by decide +kernel
theorem dX3_filled_131 : decode cX3_filled 131 = .ok (.invokevirtual 129, 3) := by decide +kernel
theorem dX3_filled_134 : decode cX3_filled 134 = .ok (.aload_n 0, 1) := by decide +kernel
theorem dX3_filled_135 : decode cX3_filled 135 = .ok (.getfield 28, 3) := by decide +kernel
theorem dX3_filled_138 : decode cX3_filled 138 = .ok (.iload_n 1, 1) := by decide +kernel
theorem dX3_filled_139 : decode cX3_filled 139 = .ok (.invokevirtual 140, 3) := by decide +kernel
theorem dX3_filled_142 : decode cX3_filled 142 = .ok (.ireturn, 1) := by decide +kernel
set_option maxRecDepth 20000 in
theorem ggX3_soon_X2_hasDebt : GoodIn wsX3_soon wsX2_hasDebt := goodIn_r _ [7, 8, 132, 133, 134, 135, 136, 137, 138, 139, 140, 141, 142] (by decide +kernel) (by decide +kernel)
set_option maxRecDepth 20000 in
theorem gX3_soon_X2_hasDebt : GoodIn wsX3_soon (wsV RX3 100 RX2 yX2_hasDebt wsX2_hasDebt) := goodIn_app (goodIn_of _ (by decide +kernel)) ggX3_soon_X2_hasDebt
set_option maxRecDepth 20000 in
theorem ggX3_soon_X1_load : GoodIn wsX3_soon wsX1_load := goodIn_r _ [13, 14, 15, 16, 17, 18, 19, 20, 21, 22, 6, 23, 24, 25, 26, 27, 28, 29, 30, 31, 8, 32, 33, 34, 35, 36, 37, 38, 39, 40, 41, 42, 43, 4, 5, 7, 44, 45, 46, 47, 48, 49, 50, 51, 52, 53, 54, 143, 144, 145, 146, 147, 148, 149, 150, 151, 152, 132, 133, 134, 135, 136, 137, 138, 139, 140, 141, 142] (by decide +kernel) (by decide +kernel)
set_option maxRecDepth 20000 in
theorem gX3_soon_X1_load : GoodIn wsX3_soon (wsV RX3 143 RX1 yX1_load wsX1_load) := goodIn_app (goodIn_of _ (by decide +kernel)) ggX3_soon_X1_load
set_option maxRecDepth 20000 in
theorem ggX3_soon_X2_turnOf : GoodIn wsX3_soon wsX2_turnOf := goodIn_r _ [35, 36, 29, 30, 6, 31, 8, 25, 26, 27, 37, 38, 39, 40, 41, 42, 43, 4, 5, 7, 132, 133, 134, 135, 136, 137, 138, 139, 140, 141, 142] (by decide +kernel) (by decide +kernel)
set_option maxRecDepth 20000 in
theorem gX3_soon_X2_turnOf : GoodIn wsX3_soon (wsV RX3 146 RX2 yX2_turnOf wsX2_turnOf) := goodIn_app (goodIn_of _ (by decide +kernel)) ggX3_soon_X2_turnOf
set_option maxRecDepth 20000 in
theorem ggX3_soon_X1_fewest : GoodIn wsX3_soon wsX1_fewest := goodIn_r _ [59, 17, 60, 61, 62, 63, 12, 64, 65, 66, 67, 68, 15, 19, 69, 70, 71, 72, 16, 73, 74, 75, 76, 18, 25, 26, 27, 77, 78, 79, 80, 81, 82, 83, 84, 85, 86, 87, 88, 89, 90, 91, 92, 93, 94, 95, 96, 97, 98, 99, 100, 101, 102, 103, 104, 105, 106, 107, 108, 109, 110, 111, 112, 113, 114, 115, 116, 14, 117, 118, 119, 120, 121, 122, 123, 143, 144, 145, 146, 147, 148, 149, 150, 151, 152] (by decide +kernel) (by decide +kernel)
set_option maxRecDepth 20000 in
theorem gX3_soon_X1_fewest : GoodIn wsX3_soon (wsV RX3 149 RX1 yX1_fewest wsX1_fewest) := goodIn_app (goodIn_of _ (by decide +kernel)) ggX3_soon_X1_fewest
theorem dX3_soon_0 : decode cX3_soon 0 = .ok (.aload_n 0, 1) := by decide +kernel
theorem dX3_soon_1 : decode cX3_soon 1 = .ok (.getfield 12, 3) := by decide +kernel
theorem dX3_soon_4 : decode cX3_soon 4 = .ok (.iload_n 1, 1) := by decide +kernel
theorem dX3_soon_5 : decode cX3_soon 5 = .ok (.iload_n 2, 1) := by decide +kernel
theorem dX3_soon_6 : decode cX3_soon 6 = .ok (.invokevirtual 100, 3) := by decide +kernel
theorem dX3_soon_9 : decode cX3_soon 9 = .ok (.ifCond .ne 5, 3) := by decide +kernel
theorem dX3_soon_12 : decode cX3_soon 12 = .ok (.iconst (-1), 1) := by decide +kernel
theorem dX3_soon_13 : decode cX3_soon 13 = .ok (.ireturn, 1) := by decide +kernel
theorem dX3_soon_14 : decode cX3_soon 14 = .ok (.aload_n 0, 1) := by decide +kernel
theorem dX3_soon_15 : decode cX3_soon 15 = .ok (.getfield 35, 3) := by decide +kernel
theorem dX3_soon_18 : decode cX3_soon 18 = .ok (.aload_n 0, 1) := by decide +kernel
theorem dX3_soon_19 : decode cX3_soon 19 = .ok (.getfield 12, 3) := by decide +kernel
theorem dX3_soon_22 : decode cX3_soon 22 = .ok (.invokevirtual 143, 3) := by decide +kernel
theorem dX3_soon_25 : decode cX3_soon 25 = .ok (.aload_n 0, 1) := by decide +kernel
theorem dX3_soon_26 : decode cX3_soon 26 = .ok (.getfield 35, 3) := by decide +kernel
theorem dX3_soon_29 : decode cX3_soon 29 = .ok (.iload_n 1, 1) := by decide +kernel
theorem dX3_soon_30 : decode cX3_soon 30 = .ok (.aload_n 0, 1) := by decide +kernel
theorem dX3_soon_31 : decode cX3_soon 31 = .ok (.getfield 12, 3) := by decide +kernel
theorem dX3_soon_34 : decode cX3_soon 34 = .ok (.iload_n 1, 1) := by decide +kernel
theorem dX3_soon_35 : decode cX3_soon 35 = .ok (.iload_n 2, 1) := by decide +kernel
theorem dX3_soon_36 : decode cX3_soon 36 = .ok (.invokevirtual 146, 3) := by decide +kernel
theorem dX3_soon_39 : decode cX3_soon 39 = .ok (.invokevirtual 149, 3) := by decide +kernel
theorem dX3_soon_42 : decode cX3_soon 42 = .ok (.ireturn, 1) := by decide +kernel
set_option maxRecDepth 20000 in
theorem ggX3_barred_X1_load : GoodIn wsX3_barred wsX1_load := goodIn_r _ [7, 8, 9, 10, 11, 12, 13, 14, 15, 16, 17, 18, 19, 20, 21, 22, 23, 24, 25, 26, 27, 28, 29, 30, 31, 32, 33, 34, 35, 36, 37, 38, 39, 40, 41, 42, 43, 44, 45, 46, 47, 48, 49, 50, 51, 52, 53, 82, 83, 84, 85, 86, 87, 88, 89, 90, 91, 92, 93, 94, 95, 96, 97, 98, 99, 100, 101, 102] (by decide +kernel) (by decide +kernel)
set_option maxRecDepth 20000 in
theorem gX3_barred_X1_load : GoodIn wsX3_barred (wsV RX3 143 RX1 yX1_load wsX1_load) := goodIn_app (goodIn_of _ (by decide +kernel)) ggX3_barred_X1_load
set_option maxRecDepth 20000 in
theorem ggX3_barred_X1_payAllThatCan : GoodIn wsX3_barred wsX1_payAllThatCan := goodIn_r _ [57, 58, 59, 60, 6, 61, 9, 13, 11, 62, 63, 64, 65, 10, 66, 67, 68, 69, 12, 20, 21, 22, 82, 83, 84, 85, 86, 87, 88, 89, 90, 91] (by decide +kernel) (by decide +kernel)
set_option maxRecDepth 20000 in
theorem gX3_barred_X1_payAllThatCan : GoodIn wsX3_barred (wsV RX3 152 RX1 yX1_payAllThatCan wsX1_payAllThatCan) := goodIn_app (goodIn_of _ (by decide +kernel)) ggX3_barred_X1_payAllThatCan
set_option maxRecDepth 20000 in
theorem ggX3_barred_X1_stillOwing : GoodIn wsX3_barred wsX1_stillOwing := goodIn_r _ [73, 62, 63, 64, 6, 65, 11, 10, 82, 83, 84, 85, 86, 87, 88, 89, 90, 91] (by decide +kernel) (by decide +kernel)
set_option maxRecDepth 20000 in
theorem gX3_barred_X1_stillOwing : GoodIn wsX3_barred (wsV RX3 155 RX1 yX1_stillOwing wsX1_stillOwing) := goodIn_app (goodIn_of _ (by decide +kernel)) ggX3_barred_X1_stillOwing
theorem dX3_barred_0 : decode cX3_barred 0 = .ok (.aload_n 0, 1) := by decide +kernel
theorem dX3_barred_1 : decode cX3_barred 1 = .ok (.getfield 35, 3) := by decide +kernel
theorem dX3_barred_4 : decode cX3_barred 4 = .ok (.aload_n 0, 1) := by decide +kernel
theorem dX3_barred_5 : decode cX3_barred 5 = .ok (.getfield 12, 3) := by decide +kernel
theorem dX3_barred_8 : decode cX3_barred 8 = .ok (.invokevirtual 143, 3) := by decide +kernel
theorem dX3_barred_11 : decode cX3_barred 11 = .ok (.aload_n 0, 1) := by decide +kernel
theorem dX3_barred_12 : decode cX3_barred 12 = .ok (.getfield 35, 3) := by decide +kernel
theorem dX3_barred_15 : decode cX3_barred 15 = .ok (.invokevirtual 152, 3) := by decide +kernel
theorem dX3_barred_18 : decode cX3_barred 18 = .ok (.aload_n 0, 1) := by decide +kernel
theorem dX3_barred_19 : decode cX3_barred 19 = .ok (.getfield 35, 3) := by decide +kernel
theorem dX3_barred_22 : decode cX3_barred 22 = .ok (.invokevirtual 155, 3) := by decide +kernel
theorem dX3_barred_25 : decode cX3_barred 25 = .ok (.ireturn, 1) := by decide +kernel
set_option maxRecDepth 20000 in
theorem ggX3_help_X3_isMan : GoodIn wsX3_help wsX3_isMan := goodIn_r _ [4] (by decide +kernel) (by decide +kernel)
set_option maxRecDepth 20000 in
theorem gX3_help_X3_isMan : GoodIn wsX3_help (va_wsS RX3 47 yX3_isMan wsX3_isMan) := goodIn_app (goodIn_of _ (by decide +kernel)) ggX3_help_X3_isMan
set_option maxRecDepth 20000 in
theorem ggX3_help_X3_leastHelp : GoodIn wsX3_help wsX3_leastHelp := goodIn_r _ [8, 9, 10, 11, 12, 13, 14, 15, 16, 17, 18, 19, 20, 21, 22, 23, 24, 25, 26, 27, 2, 3, 4, 28, 29, 30, 31, 32, 33, 34, 35, 36, 37, 38, 39, 40, 41, 42, 43, 44, 45, 46, 47, 48, 49, 50, 51, 52, 53, 54, 55, 56, 57, 58, 59, 60, 61, 62, 63, 64, 65, 66, 67, 68, 69, 70, 71, 72, 73, 74, 75, 76, 77, 78, 79, 80, 81, 82, 83, 84, 85, 86, 87, 88, 89, 90, 91, 92, 93, 94, 95, 96, 97, 98, 99, 100, 101, 102, 103, 104, 105, 106, 107, 108, 109, 110, 111] (by decide +kernel) (by decide +kernel)
set_option maxRecDepth 20000 in
theorem gX3_help_X3_leastHelp : GoodIn wsX3_help (wsV RX3 158 RX3 yX3_leastHelp wsX3_leastHelp) := goodIn_app (goodIn_of _ (by decide +kernel)) ggX3_help_X3_leastHelp
theorem dX3_help_0 : decode cX3_help 0 = .ok (.iload_n 1, 1) := by decide +kernel
theorem dX3_help_1 : decode cX3_help 1 = .ok (.invokestatic 47, 3) := by decide +kernel
theorem dX3_help_4 : decode cX3_help 4 = .ok (.ifCond .eq 11, 3) := by decide +kernel
theorem dX3_help_7 : decode cX3_help 7 = .ok (.aload_n 0, 1) := by decide +kernel
theorem dX3_help_8 : decode cX3_help 8 = .ok (.iload_n 1, 1) := by decide +kernel
theorem dX3_help_9 : decode cX3_help 9 = .ok (.invokevirtual 158, 3) := by decide +kernel
theorem dX3_help_12 : decode cX3_help 12 = .ok (.goto 4, 3) := by decide +kernel
theorem dX3_help_15 : decode cX3_help 15 = .ok (.iconst (-1), 1) := by decide +kernel
theorem dX3_help_16 : decode cX3_help 16 = .ok (.ireturn, 1) := by decide +kernel
set_option maxRecDepth 20000 in
theorem ggX3_whom_X3_leastHelp : GoodIn wsX3_whom wsX3_leastHelp := goodIn_r _ [5, 6, 7, 8, 9, 10, 11, 12, 13, 14, 15, 16, 17, 18, 19, 20, 21, 22, 23, 24, 25, 4, 26, 27, 28, 29, 30, 31, 32, 33, 34, 35, 36, 37, 38, 39, 40, 41, 42, 43, 44, 45, 46, 47, 48, 49, 50, 51, 52, 53, 54, 55, 56, 57, 58, 59, 60, 61, 62, 63, 64, 65, 66, 67, 68, 69, 70, 71, 72, 73, 74, 75, 76, 77, 78, 79, 80, 81, 82, 83, 84, 85, 86, 87, 88, 89, 90, 91, 92, 93, 94, 95, 96, 97, 98, 99, 100, 101, 102, 103, 104, 105, 106, 107, 108, 109, 110] (by decide +kernel) (by decide +kernel)
set_option maxRecDepth 20000 in
theorem gX3_whom_X3_leastHelp : GoodIn wsX3_whom (wsV RX3 158 RX3 yX3_leastHelp wsX3_leastHelp) := goodIn_app (goodIn_of _ (by decide +kernel)) ggX3_whom_X3_leastHelp
theorem dX3_whom_0 : decode cX3_whom 0 = .ok (.bipush (-6), 2) := by decide +kernel
theorem dX3_whom_2 : decode cX3_whom 2 = .ok (.istore_n 1, 1) := by decide +kernel
theorem dX3_whom_3 : decode cX3_whom 3 = .ok (.bipush (-6), 2) := by decide +kernel
theorem dX3_whom_5 : decode cX3_whom 5 = .ok (.istore_n 2, 1) := by decide +kernel
theorem dX3_whom_6 : decode cX3_whom 6 = .ok (.iconst 0, 1) := by decide +kernel
theorem dX3_whom_7 : decode cX3_whom 7 = .ok (.istore_n 3, 1) := by decide +kernel
theorem dX3_whom_8 : decode cX3_whom 8 = .ok (.iload_n 3, 1) := by decide +kernel
theorem dX3_whom_9 : decode cX3_whom 9 = .ok (.bipush 6, 2) := by decide +kernel
theorem dX3_whom_11 : decode cX3_whom 11 = .ok (.if_icmp .ge 40, 3) := by decide +kernel
theorem dX3_whom_14 : decode cX3_whom 14 = .ok (.aload_n 0, 1) := by decide +kernel
theorem dX3_whom_15 : decode cX3_whom 15 = .ok (.iload_n 3, 1) := by decide +kernel
theorem dX3_whom_16 : decode cX3_whom 16 = .ok (.invokevirtual 158, 3) := by decide +kernel
theorem dX3_whom_19 : decode cX3_whom 19 = .ok (.istore 4, 2) := by decide +kernel
theorem dX3_whom_21 : decode cX3_whom 21 = .ok (.iload 4, 2) := by decide +kernel
theorem dX3_whom_23 : decode cX3_whom 23 = .ok (.bipush (-6), 2) := by decide +kernel
theorem dX3_whom_25 : decode cX3_whom 25 = .ok (.if_icmp .eq 20, 3) := by decide +kernel
theorem dX3_whom_28 : decode cX3_whom 28 = .ok (.iload_n 1, 1) := by decide +kernel
theorem dX3_whom_29 : decode cX3_whom 29 = .ok (.bipush (-6), 2) := by decide +kernel
theorem dX3_whom_31 : decode cX3_whom 31 = .ok (.if_icmp .eq 9, 3) := by decide +kernel
theorem dX3_whom_34 : decode cX3_whom 34 = .ok (.iload 4, 2) := by decide +kernel
theorem dX3_whom_36 : decode cX3_whom 36 = .ok (.iload_n 2, 1) := by decide +kernel
theorem dX3_whom_37 : decode cX3_whom 37 = .ok (.if_icmp .ge 8, 3) := by decide +kernel
theorem dX3_whom_40 : decode cX3_whom 40 = .ok (.iload_n 3, 1) := by decide +kernel
theorem dX3_whom_41 : decode cX3_whom 41 = .ok (.istore_n 1, 1) := by decide +kernel
theorem dX3_whom_42 : decode cX3_whom 42 = .ok (.iload 4, 2) := by decide +kernel
theorem dX3_whom_44 : decode cX3_whom 44 = .ok (.istore_n 2, 1) := by decide +kernel
theorem dX3_whom_45 : decode cX3_whom 45 = .ok (.iinc 3 1, 3) := by decide +kernel
theorem dX3_whom_48 : decode cX3_whom 48 = .ok (.goto (-40), 3) := by decide +kernel
theorem dX3_whom_51 : decode cX3_whom 51 = .ok (.iload_n 1, 1) := by decide +kernel
theorem dX3_whom_52 : decode cX3_whom 52 = .ok (.ireturn, 1) := by decide +kernel
set_option maxRecDepth 20000 in
theorem ggX3_ring_X3_isMan : GoodIn wsX3_ring wsX3_isMan := goodIn_r _ [5] (by decide +kernel) (by decide +kernel)
set_option maxRecDepth 20000 in
theorem gX3_ring_X3_isMan : GoodIn wsX3_ring (va_wsS RX3 47 yX3_isMan wsX3_isMan) := goodIn_app (goodIn_of _ (by decide +kernel)) ggX3_ring_X3_isMan
set_option maxRecDepth 20000 in
theorem ggX3_ring_X2_ringOf : GoodIn wsX3_ring wsX2_ringOf := goodIn_r _ [10, 3, 4, 5, 11, 12, 13, 9, 14, 15, 16, 17, 18, 19, 20, 21, 22, 23, 24, 25, 26, 27, 28, 29, 30, 31, 32, 33, 34, 43, 44, 45, 46, 47, 48, 49, 50, 51, 52, 53] (by decide +kernel) (by decide +kernel)
set_option maxRecDepth 20000 in
theorem gX3_ring_X2_ringOf : GoodIn wsX3_ring (wsV RX3 161 RX2 yX2_ringOf wsX2_ringOf) := goodIn_app (goodIn_of _ (by decide +kernel)) ggX3_ring_X2_ringOf
theorem dX3_ring_0 : decode cX3_ring 0 = .ok (.iload_n 1, 1) := by decide +kernel
theorem dX3_ring_1 : decode cX3_ring 1 = .ok (.invokestatic 47, 3) := by decide +kernel
theorem dX3_ring_4 : decode cX3_ring 4 = .ok (.ifCond .eq 14, 3) := by decide +kernel
theorem dX3_ring_7 : decode cX3_ring 7 = .ok (.aload_n 0, 1) := by decide +kernel
theorem dX3_ring_8 : decode cX3_ring 8 = .ok (.getfield 12, 3) := by decide +kernel
theorem dX3_ring_11 : decode cX3_ring 11 = .ok (.iload_n 1, 1) := by decide +kernel
theorem dX3_ring_12 : decode cX3_ring 12 = .ok (.invokevirtual 161, 3) := by decide +kernel
theorem dX3_ring_15 : decode cX3_ring 15 = .ok (.goto 4, 3) := by decide +kernel
theorem dX3_ring_18 : decode cX3_ring 18 = .ok (.iconst (-1), 1) := by decide +kernel
theorem dX3_ring_19 : decode cX3_ring 19 = .ok (.ireturn, 1) := by decide +kernel
set_option maxRecDepth 20000 in
theorem ggX3_setOff_X3_isMan : GoodIn wsX3_setOff wsX3_isMan := goodIn_r _ [5] (by decide +kernel) (by decide +kernel)
set_option maxRecDepth 20000 in
theorem gX3_setOff_X3_isMan : GoodIn wsX3_setOff (va_wsS RX3 47 yX3_isMan wsX3_isMan) := goodIn_app (goodIn_of _ (by decide +kernel)) ggX3_setOff_X3_isMan
set_option maxRecDepth 20000 in
theorem ggX3_setOff_X2_ringOf : GoodIn wsX3_setOff wsX2_ringOf := goodIn_r _ [10, 3, 4, 5, 11, 12, 13, 9, 14, 15, 16, 17, 18, 19, 20, 21, 22, 23, 24, 25, 26, 27, 28, 29, 30, 31, 32, 33, 34, 64, 65, 66, 67, 68, 69, 70, 71, 72, 73, 74] (by decide +kernel) (by decide +kernel)
set_option maxRecDepth 20000 in
theorem gX3_setOff_X2_ringOf : GoodIn wsX3_setOff (wsV RX3 161 RX2 yX2_ringOf wsX2_ringOf) := goodIn_app (goodIn_of _ (by decide +kernel)) ggX3_setOff_X2_ringOf
set_option maxRecDepth 20000 in
theorem ggX3_setOff_X2_setOffDues : GoodIn wsX3_setOff wsX2_setOffDues := goodIn_r _ [38, 39, 40, 41, 42, 11, 12, 13, 9, 14, 15, 16, 17, 18, 19, 20, 21, 22, 23, 3, 4, 5, 24, 25, 26, 27, 28, 29, 43, 44, 45, 46, 47, 48, 49, 50, 51, 52, 53, 54, 34, 55, 64, 65, 66, 67, 68, 69, 70, 71, 72, 73, 74] (by decide +kernel) (by decide +kernel)
set_option maxRecDepth 20000 in
theorem gX3_setOff_X2_setOffDues : GoodIn wsX3_setOff (wsV RX3 164 RX2 yX2_setOffDues wsX2_setOffDues) := goodIn_app (goodIn_of _ (by decide +kernel)) ggX3_setOff_X2_setOffDues
theorem dX3_setOff_0 : decode cX3_setOff 0 = .ok (.iload_n 1, 1) := by decide +kernel
theorem dX3_setOff_1 : decode cX3_setOff 1 = .ok (.invokestatic 47, 3) := by decide +kernel
theorem dX3_setOff_4 : decode cX3_setOff 4 = .ok (.ifCond .ne 5, 3) := by decide +kernel
theorem dX3_setOff_7 : decode cX3_setOff 7 = .ok (.iconst (-1), 1) := by decide +kernel
theorem dX3_setOff_8 : decode cX3_setOff 8 = .ok (.ireturn, 1) := by decide +kernel
theorem dX3_setOff_9 : decode cX3_setOff 9 = .ok (.aload_n 0, 1) := by decide +kernel
theorem dX3_setOff_10 : decode cX3_setOff 10 = .ok (.getfield 12, 3) := by decide +kernel
theorem dX3_setOff_13 : decode cX3_setOff 13 = .ok (.iload_n 1, 1) := by decide +kernel
theorem dX3_setOff_14 : decode cX3_setOff 14 = .ok (.invokevirtual 161, 3) := by decide +kernel
theorem dX3_setOff_17 : decode cX3_setOff 17 = .ok (.istore_n 2, 1) := by decide +kernel
theorem dX3_setOff_18 : decode cX3_setOff 18 = .ok (.iload_n 2, 1) := by decide +kernel
theorem dX3_setOff_19 : decode cX3_setOff 19 = .ok (.bipush (-6), 2) := by decide +kernel
theorem dX3_setOff_21 : decode cX3_setOff 21 = .ok (.if_icmp .ne 6, 3) := by decide +kernel
theorem dX3_setOff_24 : decode cX3_setOff 24 = .ok (.bipush (-3), 2) := by decide +kernel
theorem dX3_setOff_26 : decode cX3_setOff 26 = .ok (.ireturn, 1) := by decide +kernel
theorem dX3_setOff_27 : decode cX3_setOff 27 = .ok (.aload_n 0, 1) := by decide +kernel
theorem dX3_setOff_28 : decode cX3_setOff 28 = .ok (.getfield 12, 3) := by decide +kernel
theorem dX3_setOff_31 : decode cX3_setOff 31 = .ok (.iload_n 2, 1) := by decide +kernel
theorem dX3_setOff_32 : decode cX3_setOff 32 = .ok (.invokevirtual 164, 3) := by decide +kernel
theorem dX3_setOff_35 : decode cX3_setOff 35 = .ok (.ireturn, 1) := by decide +kernel
set_option maxRecDepth 20000 in
theorem ggX3_give_X2_hasDebt : GoodIn wsX3_give wsX2_hasDebt := goodIn_r _ [6, 7, 30, 31, 32, 33, 34, 35, 36, 37, 38, 39, 40] (by decide +kernel) (by decide +kernel)
set_option maxRecDepth 20000 in
theorem gX3_give_X2_hasDebt : GoodIn wsX3_give (wsV RX3 100 RX2 yX2_hasDebt wsX2_hasDebt) := goodIn_app (goodIn_of _ (by decide +kernel)) ggX3_give_X2_hasDebt
set_option maxRecDepth 20000 in
theorem ggX3_give_X3_isMan : GoodIn wsX3_give wsX3_isMan := goodIn_r _ [11] (by decide +kernel) (by decide +kernel)
set_option maxRecDepth 20000 in
theorem gX3_give_X3_isMan : GoodIn wsX3_give (va_wsS RX3 47 yX3_isMan wsX3_isMan) := goodIn_app (goodIn_of _ (by decide +kernel)) ggX3_give_X3_isMan
set_option maxRecDepth 20000 in
theorem ggX3_give_X2_lenderOf : GoodIn wsX3_give wsX2_lenderOf := goodIn_r _ [15, 16, 17, 3, 4, 5, 6, 7, 30, 31, 32, 33, 34, 35, 36, 37, 38, 39, 40] (by decide +kernel) (by decide +kernel)
set_option maxRecDepth 20000 in
theorem gX3_give_X2_lenderOf : GoodIn wsX3_give (wsV RX3 104 RX2 yX2_lenderOf wsX2_lenderOf) := goodIn_app (goodIn_of _ (by decide +kernel)) ggX3_give_X2_lenderOf
set_option maxRecDepth 20000 in
theorem ggX3_give_X2_changeLender : GoodIn wsX3_give wsX2_changeLender := goodIn_r _ [21, 16, 17, 3, 4, 5, 6, 7, 30, 31, 32, 33, 34, 35, 36, 37, 38, 39, 40] (by decide +kernel) (by decide +kernel)
set_option maxRecDepth 20000 in
theorem gX3_give_X2_changeLender : GoodIn wsX3_give (wsV RX3 167 RX2 yX2_changeLender wsX2_changeLender) := goodIn_app (goodIn_of _ (by decide +kernel)) ggX3_give_X2_changeLender
theorem dX3_give_0 : decode cX3_give 0 = .ok (.aload_n 0, 1) := by decide +kernel
theorem dX3_give_1 : decode cX3_give 1 = .ok (.getfield 12, 3) := by decide +kernel
theorem dX3_give_4 : decode cX3_give 4 = .ok (.iload_n 1, 1) := by decide +kernel
theorem dX3_give_5 : decode cX3_give 5 = .ok (.iload_n 2, 1) := by decide +kernel
theorem dX3_give_6 : decode cX3_give 6 = .ok (.invokevirtual 100, 3) := by decide +kernel
theorem dX3_give_9 : decode cX3_give 9 = .ok (.ifCond .eq 15, 3) := by decide +kernel
theorem dX3_give_12 : decode cX3_give 12 = .ok (.iload_n 3, 1) := by decide +kernel
theorem dX3_give_13 : decode cX3_give 13 = .ok (.invokestatic 47, 3) := by decide +kernel
theorem dX3_give_16 : decode cX3_give 16 = .ok (.ifCond .eq 8, 3) := by decide +kernel
theorem dX3_give_19 : decode cX3_give 19 = .ok (.iload_n 3, 1) := by decide +kernel
theorem dX3_give_20 : decode cX3_give 20 = .ok (.iload_n 1, 1) := by decide +kernel
theorem dX3_give_21 : decode cX3_give 21 = .ok (.if_icmp .ne 5, 3) := by decide +kernel
theorem dX3_give_24 : decode cX3_give 24 = .ok (.iconst (-1), 1) := by decide +kernel
theorem dX3_give_25 : decode cX3_give 25 = .ok (.ireturn, 1) := by decide +kernel
theorem dX3_give_26 : decode cX3_give 26 = .ok (.aload_n 0, 1) := by decide +kernel
theorem dX3_give_27 : decode cX3_give 27 = .ok (.getfield 12, 3) := by decide +kernel
theorem dX3_give_30 : decode cX3_give 30 = .ok (.iload_n 1, 1) := by decide +kernel
theorem dX3_give_31 : decode cX3_give 31 = .ok (.iload_n 2, 1) := by decide +kernel
theorem dX3_give_32 : decode cX3_give 32 = .ok (.invokevirtual 104, 3) := by decide +kernel
theorem dX3_give_35 : decode cX3_give 35 = .ok (.istore 4, 2) := by decide +kernel
theorem dX3_give_37 : decode cX3_give 37 = .ok (.aload_n 0, 1) := by decide +kernel
theorem dX3_give_38 : decode cX3_give 38 = .ok (.getfield 12, 3) := by decide +kernel
theorem dX3_give_41 : decode cX3_give 41 = .ok (.iload_n 1, 1) := by decide +kernel
theorem dX3_give_42 : decode cX3_give 42 = .ok (.iload_n 2, 1) := by decide +kernel
theorem dX3_give_43 : decode cX3_give 43 = .ok (.iload_n 3, 1) := by decide +kernel
theorem dX3_give_44 : decode cX3_give 44 = .ok (.invokevirtual 167, 3) := by decide +kernel
theorem dX3_give_47 : decode cX3_give 47 = .ok (.iload 4, 2) := by decide +kernel
theorem dX3_give_49 : decode cX3_give 49 = .ok (.ireturn, 1) := by decide +kernel
set_option maxRecDepth 20000 in
theorem ggX3_pawn_X2_hasDebt : GoodIn wsX3_pawn wsX2_hasDebt := goodIn_r _ [6, 7, 38, 39, 40, 41, 42, 43, 44, 45, 46, 47, 48] (by decide +kernel) (by decide +kernel)
set_option maxRecDepth 20000 in
theorem gX3_pawn_X2_hasDebt : GoodIn wsX3_pawn (wsV RX3 100 RX2 yX2_hasDebt wsX2_hasDebt) := goodIn_app (goodIn_of _ (by decide +kernel)) ggX3_pawn_X2_hasDebt
set_option maxRecDepth 20000 in
theorem ggX3_pawn_X2_penceTill : GoodIn wsX3_pawn wsX2_penceTill := goodIn_r _ [11, 12, 13, 14, 5, 15, 7, 16, 17, 18, 19, 20, 21, 22, 23, 24, 25, 3, 4, 6, 26, 27, 28, 29, 38, 39, 40, 41, 42, 43, 44, 45, 46, 47, 48] (by decide +kernel) (by decide +kernel)
set_option maxRecDepth 20000 in
theorem gX3_pawn_X2_penceTill : GoodIn wsX3_pawn (wsV RX3 171 RX2 yX2_penceTill wsX2_penceTill) := goodIn_app (goodIn_of _ (by decide +kernel)) ggX3_pawn_X2_penceTill
theorem dX3_pawn_0 : decode cX3_pawn 0 = .ok (.aload_n 0, 1) := by decide +kernel
theorem dX3_pawn_1 : decode cX3_pawn 1 = .ok (.getfield 12, 3) := by decide +kernel
theorem dX3_pawn_4 : decode cX3_pawn 4 = .ok (.iload_n 1, 1) := by decide +kernel
theorem dX3_pawn_5 : decode cX3_pawn 5 = .ok (.iload_n 2, 1) := by decide +kernel
theorem dX3_pawn_6 : decode cX3_pawn 6 = .ok (.invokevirtual 100, 3) := by decide +kernel
theorem dX3_pawn_9 : decode cX3_pawn 9 = .ok (.ifCond .eq 15, 3) := by decide +kernel
theorem dX3_pawn_12 : decode cX3_pawn 12 = .ok (.aload_n 0, 1) := by decide +kernel
theorem dX3_pawn_13 : decode cX3_pawn 13 = .ok (.getfield 12, 3) := by decide +kernel
theorem dX3_pawn_16 : decode cX3_pawn 16 = .ok (.iload_n 1, 1) := by decide +kernel
theorem dX3_pawn_17 : decode cX3_pawn 17 = .ok (.iload_n 2, 1) := by decide +kernel
theorem dX3_pawn_18 : decode cX3_pawn 18 = .ok (.invokevirtual 171, 3) := by decide +kernel
theorem dX3_pawn_21 : decode cX3_pawn 21 = .ok (.goto 4, 3) := by decide +kernel
theorem dX3_pawn_24 : decode cX3_pawn 24 = .ok (.iconst (-1), 1) := by decide +kernel
theorem dX3_pawn_25 : decode cX3_pawn 25 = .ok (.ireturn, 1) := by decide +kernel
set_option maxRecDepth 20000 in
theorem ggX3_odds_X3_isMan : GoodIn wsX3_odds wsX3_isMan := goodIn_r _ [8] (by decide +kernel) (by decide +kernel)
set_option maxRecDepth 20000 in
theorem gX3_odds_X3_isMan : GoodIn wsX3_odds (va_wsS RX3 47 yX3_isMan wsX3_isMan) := goodIn_app (goodIn_of _ (by decide +kernel)) ggX3_odds_X3_isMan
set_option maxRecDepth 20000 in
theorem ggX3_odds_X3_isWithin : GoodIn wsX3_odds wsX3_isWithin := goodIn_r _ [11] (by decide +kernel) (by decide +kernel)
set_option maxRecDepth 20000 in
theorem gX3_odds_X3_isWithin : GoodIn wsX3_odds (va_wsS RX3 51 yX3_isWithin wsX3_isWithin) := goodIn_app (goodIn_of _ (by decide +kernel)) ggX3_odds_X3_isWithin
set_option maxRecDepth 20000 in
theorem ggX3_odds_X2_dueOf : GoodIn wsX3_odds wsX2_dueOf := goodIn_r _ [16, 17, 18, 19, 15, 20, 21, 22, 23, 24, 25, 6, 7, 8, 26, 27, 28, 29, 30, 31, 75, 76, 77, 78, 79, 80, 81, 82, 83, 84, 85] (by decide +kernel) (by decide +kernel)
set_option maxRecDepth 20000 in
theorem gX3_odds_X2_dueOf : GoodIn wsX3_odds (wsV RX3 114 RX2 yX2_dueOf wsX2_dueOf) := goodIn_app (goodIn_of _ (by decide +kernel)) ggX3_odds_X2_dueOf
set_option maxRecDepth 20000 in
theorem ggX3_odds_X2_penceOf : GoodIn wsX3_odds wsX2_penceOf := goodIn_r _ [35, 31, 17, 18, 19, 15, 20, 21, 75, 76, 77, 78, 79, 80, 81, 82, 83, 84, 85] (by decide +kernel) (by decide +kernel)
set_option maxRecDepth 20000 in
theorem gX3_odds_X2_penceOf : GoodIn wsX3_odds (wsV RX3 108 RX2 yX2_penceOf wsX2_penceOf) := goodIn_app (goodIn_of _ (by decide +kernel)) ggX3_odds_X2_penceOf
set_option maxRecDepth 20000 in
theorem ggX3_odds_X3_grown : GoodIn wsX3_odds wsX3_grown := goodIn_r _ [38, 39, 40, 41, 42] (by decide +kernel) (by decide +kernel)
set_option maxRecDepth 20000 in
theorem gX3_odds_X3_grown : GoodIn wsX3_odds (va_wsS RX3 180 yX3_grown wsX3_grown) := goodIn_app (goodIn_of _ (by decide +kernel)) ggX3_odds_X3_grown
set_option maxRecDepth 20000 in
theorem ggX3_odds_X2_purseOf : GoodIn wsX3_odds wsX2_purseOf := goodIn_r _ [46, 47, 6, 7, 8, 75, 76, 77, 78, 79, 80, 81, 82, 83, 84, 85] (by decide +kernel) (by decide +kernel)
set_option maxRecDepth 20000 in
theorem gX3_odds_X2_purseOf : GoodIn wsX3_odds (wsV RX3 55 RX2 yX2_purseOf wsX2_purseOf) := goodIn_app (goodIn_of _ (by decide +kernel)) ggX3_odds_X2_purseOf
set_option maxRecDepth 20000 in
theorem ggX3_odds_X3_luckyShares : GoodIn wsX3_odds wsX3_luckyShares := goodIn_r _ [51, 52, 53, 54, 55, 56, 67, 68, 69, 70, 71, 72, 73, 74] (by decide +kernel) (by decide +kernel)
set_option maxRecDepth 20000 in
theorem gX3_odds_X3_luckyShares : GoodIn wsX3_odds (wsV RX3 183 RX3 yX3_luckyShares wsX3_luckyShares) := goodIn_app (goodIn_of _ (by decide +kernel)) ggX3_odds_X3_luckyShares
set_option maxRecDepth 20000 in
theorem ggX3_odds_X3_allShares : GoodIn wsX3_odds wsX3_allShares := goodIn_r _ [59, 60] (by decide +kernel) (by decide +kernel)
set_option maxRecDepth 20000 in
theorem gX3_odds_X3_allShares : GoodIn wsX3_odds (va_wsS RX3 187 yX3_allShares wsX3_allShares) := goodIn_app (goodIn_of _ (by decide +kernel)) ggX3_odds_X3_allShares
set_option maxRecDepth 20000 in
theorem ggX3_odds_X3_lowestTerms : GoodIn wsX3_odds wsX3_lowestTerms := goodIn_r _ [63, 64, 65, 7, 66] (by decide +kernel) (by decide +kernel)
set_option maxRecDepth 20000 in
theorem gX3_odds_X3_lowestTerms : GoodIn wsX3_odds (va_wsS RX3 191 yX3_lowestTerms wsX3_lowestTerms) := goodIn_app (goodIn_of _ (by decide +kernel)) ggX3_odds_X3_lowestTerms
theorem dX3_odds_0 : decode cX3_odds 0 = .ok (.iload_n 1, 1) := by decide +kernel
theorem dX3_odds_1 : decode cX3_odds 1 = .ok (.invokestatic 47, 3) := by decide +kernel
theorem dX3_odds_4 : decode cX3_odds 4 = .ok (.ifCond .ne 7, 3) := by decide +kernel
theorem dX3_odds_7 : decode cX3_odds 7 = .ok (.ldc2_w 174, 3) := by decide +kernel
theorem dX3_odds_10 : decode cX3_odds 10 = .ok (.lreturn, 1) := by decide +kernel
theorem dX3_odds_11 : decode cX3_odds 11 = .ok (.iload_n 2, 1) := by decide +kernel
theorem dX3_odds_12 : decode cX3_odds 12 = .ok (.iconst 1, 1) := by decide +kernel
theorem dX3_odds_13 : decode cX3_odds 13 = .ok (.bipush 99, 2) := by decide +kernel
theorem dX3_odds_15 : decode cX3_odds 15 = .ok (.invokestatic 51, 3) := by decide +kernel
theorem dX3_odds_18 : decode cX3_odds 18 = .ok (.ifCond .eq 34, 3) := by decide +kernel
theorem dX3_odds_21 : decode cX3_odds 21 = .ok (.iload_n 3, 1) := by decide +kernel
theorem dX3_odds_22 : decode cX3_odds 22 = .ok (.iconst 0, 1) := by decide +kernel
theorem dX3_odds_23 : decode cX3_odds 23 = .ok (.bipush 12, 2) := by decide +kernel
theorem dX3_odds_25 : decode cX3_odds 25 = .ok (.invokestatic 51, 3) := by decide +kernel
theorem dX3_odds_28 : decode cX3_odds 28 = .ok (.ifCond .eq 24, 3) := by decide +kernel
theorem dX3_odds_31 : decode cX3_odds 31 = .ok (.iload 4, 2) := by decide +kernel
theorem dX3_odds_33 : decode cX3_odds 33 = .ok (.iconst 0, 1) := by decide +kernel
theorem dX3_odds_34 : decode cX3_odds 34 = .ok (.bipush 10, 2) := by decide +kernel
theorem dX3_odds_36 : decode cX3_odds 36 = .ok (.invokestatic 51, 3) := by decide +kernel
theorem dX3_odds_39 : decode cX3_odds 39 = .ok (.ifCond .eq 13, 3) := by decide +kernel
theorem dX3_odds_42 : decode cX3_odds 42 = .ok (.iload 5, 2) := by decide +kernel
theorem dX3_odds_44 : decode cX3_odds 44 = .ok (.iconst 0, 1) := by decide +kernel
theorem dX3_odds_45 : decode cX3_odds 45 = .ok (.iconst 1, 1) := by decide +kernel
theorem dX3_odds_46 : decode cX3_odds 46 = .ok (.invokestatic 51, 3) := by decide +kernel
theorem dX3_odds_49 : decode cX3_odds 49 = .ok (.ifCond .ne 7, 3) := by decide +kernel
theorem dX3_odds_52 : decode cX3_odds 52 = .ok (.ldc2_w 176, 3) := by decide +kernel
theorem dX3_odds_55 : decode cX3_odds 55 = .ok (.lreturn, 1) := by decide +kernel
theorem dX3_odds_56 : decode cX3_odds 56 = .ok (.aload_n 0, 1) := by decide +kernel
theorem dX3_odds_57 : decode cX3_odds 57 = .ok (.getfield 12, 3) := by decide +kernel
theorem dX3_odds_60 : decode cX3_odds 60 = .ok (.iload_n 1, 1) := by decide +kernel
theorem dX3_odds_61 : decode cX3_odds 61 = .ok (.invokevirtual 114, 3) := by decide +kernel
theorem dX3_odds_64 : decode cX3_odds 64 = .ok (.istore 6, 2) := by decide +kernel
theorem dX3_odds_66 : decode cX3_odds 66 = .ok (.iload 6, 2) := by decide +kernel
theorem dX3_odds_68 : decode cX3_odds 68 = .ok (.bipush (-6), 2) := by decide +kernel
theorem dX3_odds_70 : decode cX3_odds 70 = .ok (.if_icmp .ne 7, 3) := by decide +kernel
theorem dX3_odds_73 : decode cX3_odds 73 = .ok (.ldc2_w 178, 3) := by decide +kernel
theorem dX3_odds_76 : decode cX3_odds 76 = .ok (.lreturn, 1) := by decide +kernel
theorem dX3_odds_77 : decode cX3_odds 77 = .ok (.aload_n 0, 1) := by decide +kernel
theorem dX3_odds_78 : decode cX3_odds 78 = .ok (.getfield 12, 3) := by decide +kernel
theorem dX3_odds_81 : decode cX3_odds 81 = .ok (.iload_n 1, 1) := by decide +kernel
theorem dX3_odds_82 : decode cX3_odds 82 = .ok (.iload 6, 2) := by decide +kernel
theorem dX3_odds_84 : decode cX3_odds 84 = .ok (.invokevirtual 108, 3) := by decide +kernel
theorem dX3_odds_87 : decode cX3_odds 87 = .ok (.iload_n 3, 1) := by decide +kernel
theorem dX3_odds_88 : decode cX3_odds 88 = .ok (.aload_n 0, 1) := by decide +kernel
theorem dX3_odds_89 : decode cX3_odds 89 = .ok (.getfield 12, 3) := by decide +kernel
theorem dX3_odds_92 : decode cX3_odds 92 = .ok (.getfield 66, 3) := by decide +kernel
theorem dX3_odds_95 : decode cX3_odds 95 = .ok (.imul, 1) := by decide +kernel
theorem dX3_odds_96 : decode cX3_odds 96 = .ok (.invokestatic 180, 3) := by decide +kernel
theorem dX3_odds_99 : decode cX3_odds 99 = .ok (.aload_n 0, 1) := by decide +kernel
theorem dX3_odds_100 : decode cX3_odds 100 = .ok (.getfield 12, 3) := by decide +kernel
theorem dX3_odds_103 : decode cX3_odds 103 = .ok (.iload_n 1, 1) := by decide +kernel
theorem dX3_odds_104 : decode cX3_odds 104 = .ok (.invokevirtual 55, 3) := by decide +kernel
theorem dX3_odds_107 : decode cX3_odds 107 = .ok (.isub, 1) := by decide +kernel
theorem dX3_odds_108 : decode cX3_odds 108 = .ok (.istore 7, 2) := by decide +kernel
theorem dX3_odds_110 : decode cX3_odds 110 = .ok (.aload_n 0, 1) := by decide +kernel
theorem dX3_odds_111 : decode cX3_odds 111 = .ok (.iload_n 2, 1) := by decide +kernel
theorem dX3_odds_112 : decode cX3_odds 112 = .ok (.iload_n 3, 1) := by decide +kernel
theorem dX3_odds_113 : decode cX3_odds 113 = .ok (.iload 4, 2) := by decide +kernel
theorem dX3_odds_115 : decode cX3_odds 115 = .ok (.iload 7, 2) := by decide +kernel
theorem dX3_odds_117 : decode cX3_odds 117 = .ok (.invokevirtual 183, 3) := by decide +kernel
theorem dX3_odds_120 : decode cX3_odds 120 = .ok (.iload_n 3, 1) := by decide +kernel
theorem dX3_odds_121 : decode cX3_odds 121 = .ok (.invokestatic 187, 3) := by decide +kernel
theorem dX3_odds_124 : decode cX3_odds 124 = .ok (.iload 5, 2) := by decide +kernel
theorem dX3_odds_126 : decode cX3_odds 126 = .ok (.invokestatic 191, 3) := by decide +kernel
theorem dX3_odds_129 : decode cX3_odds 129 = .ok (.lreturn, 1) := by decide +kernel
set_option maxRecDepth 20000 in
theorem ggX3_year_X3_isWithin : GoodIn wsX3_year wsX3_isWithin := goodIn_r _ [6] (by decide +kernel) (by decide +kernel)
set_option maxRecDepth 20000 in
theorem gX3_year_X3_isWithin : GoodIn wsX3_year (va_wsS RX3 51 yX3_isWithin wsX3_isWithin) := goodIn_app (goodIn_of _ (by decide +kernel)) ggX3_year_X3_isWithin
set_option maxRecDepth 20000 in
theorem ggX3_year_X2_copyFrom : GoodIn wsX3_year wsX2_copyFrom := goodIn_r _ [11, 12, 13, 14, 15, 16, 17, 18, 19, 20, 21, 22, 23, 24, 25, 26, 102, 103, 104, 105, 106, 107, 108, 109, 110, 111, 112] (by decide +kernel) (by decide +kernel)
set_option maxRecDepth 20000 in
theorem gX3_year_X2_copyFrom : GoodIn wsX3_year (wsV RX3 93 RX2 yX2_copyFrom wsX2_copyFrom) := goodIn_app (goodIn_of _ (by decide +kernel)) ggX3_year_X2_copyFrom
set_option maxRecDepth 20000 in
theorem ggX3_year_X3_liveYear : GoodIn wsX3_year wsX3_liveYear := goodIn_r _ [30, 31, 1, 32, 33, 34, 10, 35, 12, 36, 5, 37, 38, 39, 40, 41, 42, 43, 44, 45, 46, 47, 48, 49, 50, 51, 52, 53, 17, 54, 55, 56, 57, 58, 59, 60, 61, 25, 19, 62, 63, 64, 65, 66, 67, 68, 69, 70, 18, 71, 72, 73, 74, 75, 20, 76, 77, 78, 79, 24, 26, 80, 81, 82, 83, 84, 85, 94, 95, 96, 97, 98, 99, 100, 101, 102, 103, 104, 105, 106, 107, 108, 109, 110, 111, 112] (by decide +kernel) (by decide +kernel)
set_option maxRecDepth 20000 in
theorem gX3_year_X3_liveYear : GoodIn wsX3_year (wsV RX3 195 RX3 yX3_liveYear wsX3_liveYear) := goodIn_app (goodIn_of _ (by decide +kernel)) ggX3_year_X3_liveYear
set_option maxRecDepth 20000 in
theorem ggX3_year_X2_allDebts : GoodIn wsX3_year wsX2_allDebts := goodIn_r _ [89, 17, 102, 103, 104, 105, 106, 107, 108, 109, 110, 111, 112] (by decide +kernel) (by decide +kernel)
set_option maxRecDepth 20000 in
theorem gX3_year_X2_allDebts : GoodIn wsX3_year (wsV RX3 198 RX2 yX2_allDebts wsX2_allDebts) := goodIn_app (goodIn_of _ (by decide +kernel)) ggX3_year_X2_allDebts
set_option maxRecDepth 20000 in
theorem ggX3_year_X2_allPence : GoodIn wsX3_year wsX2_allPence := goodIn_r _ [93, 54, 55, 56, 10, 57, 17, 36, 5, 37, 62, 63, 64, 65, 19, 50, 51, 52, 53, 102, 103, 104, 105, 106, 107, 108, 109, 110, 111, 112] (by decide +kernel) (by decide +kernel)
set_option maxRecDepth 20000 in
theorem gX3_year_X2_allPence : GoodIn wsX3_year (wsV RX3 201 RX2 yX2_allPence wsX2_allPence) := goodIn_app (goodIn_of _ (by decide +kernel)) ggX3_year_X2_allPence
theorem dX3_year_0 : decode cX3_year 0 = .ok (.iload_n 1, 1) := by decide +kernel
theorem dX3_year_1 : decode cX3_year 1 = .ok (.iconst 0, 1) := by decide +kernel
theorem dX3_year_2 : decode cX3_year 2 = .ok (.sipush 9999, 3) := by decide +kernel
theorem dX3_year_5 : decode cX3_year 5 = .ok (.invokestatic 51, 3) := by decide +kernel
theorem dX3_year_8 : decode cX3_year 8 = .ok (.ifCond .eq 22, 3) := by decide +kernel
theorem dX3_year_11 : decode cX3_year 11 = .ok (.iload_n 2, 1) := by decide +kernel
theorem dX3_year_12 : decode cX3_year 12 = .ok (.iconst 1, 1) := by decide +kernel
theorem dX3_year_13 : decode cX3_year 13 = .ok (.bipush 99, 2) := by decide +kernel
theorem dX3_year_15 : decode cX3_year 15 = .ok (.invokestatic 51, 3) := by decide +kernel
theorem dX3_year_18 : decode cX3_year 18 = .ok (.ifCond .eq 12, 3) := by decide +kernel
theorem dX3_year_21 : decode cX3_year 21 = .ok (.iload_n 3, 1) := by decide +kernel
theorem dX3_year_22 : decode cX3_year 22 = .ok (.iconst 0, 1) := by decide +kernel
theorem dX3_year_23 : decode cX3_year 23 = .ok (.iconst 2, 1) := by decide +kernel
theorem dX3_year_24 : decode cX3_year 24 = .ok (.invokestatic 51, 3) := by decide +kernel
theorem dX3_year_27 : decode cX3_year 27 = .ok (.ifCond .ne 6, 3) := by decide +kernel
theorem dX3_year_30 : decode cX3_year 30 = .ok (.bipush (-2), 2) := by decide +kernel
theorem dX3_year_32 : decode cX3_year 32 = .ok (.ireturn, 1) := by decide +kernel
theorem dX3_year_33 : decode cX3_year 33 = .ok (.aload_n 0, 1) := by decide +kernel
theorem dX3_year_34 : decode cX3_year 34 = .ok (.getfield 16, 3) := by decide +kernel
theorem dX3_year_37 : decode cX3_year 37 = .ok (.aload_n 0, 1) := by decide +kernel
theorem dX3_year_38 : decode cX3_year 38 = .ok (.getfield 12, 3) := by decide +kernel
theorem dX3_year_41 : decode cX3_year 41 = .ok (.invokevirtual 93, 3) := by decide +kernel
theorem dX3_year_44 : decode cX3_year 44 = .ok (.aload_n 0, 1) := by decide +kernel
theorem dX3_year_45 : decode cX3_year 45 = .ok (.iload_n 1, 1) := by decide +kernel
theorem dX3_year_46 : decode cX3_year 46 = .ok (.iload_n 2, 1) := by decide +kernel
theorem dX3_year_47 : decode cX3_year 47 = .ok (.invokevirtual 195, 3) := by decide +kernel
theorem dX3_year_50 : decode cX3_year 50 = .ok (.istore 4, 2) := by decide +kernel
theorem dX3_year_52 : decode cX3_year 52 = .ok (.iload_n 3, 1) := by decide +kernel
theorem dX3_year_53 : decode cX3_year 53 = .ok (.ifCond .ne 6, 3) := by decide +kernel
theorem dX3_year_56 : decode cX3_year 56 = .ok (.iload 4, 2) := by decide +kernel
theorem dX3_year_58 : decode cX3_year 58 = .ok (.ireturn, 1) := by decide +kernel
theorem dX3_year_59 : decode cX3_year 59 = .ok (.iload_n 3, 1) := by decide +kernel
theorem dX3_year_60 : decode cX3_year 60 = .ok (.iconst 1, 1) := by decide +kernel
theorem dX3_year_61 : decode cX3_year 61 = .ok (.if_icmp .ne 13, 3) := by decide +kernel
theorem dX3_year_64 : decode cX3_year 64 = .ok (.aload_n 0, 1) := by decide +kernel
theorem dX3_year_65 : decode cX3_year 65 = .ok (.getfield 16, 3) := by decide +kernel
theorem dX3_year_68 : decode cX3_year 68 = .ok (.invokevirtual 198, 3) := by decide +kernel
theorem dX3_year_71 : decode cX3_year 71 = .ok (.goto 10, 3) := by decide +kernel
theorem dX3_year_74 : decode cX3_year 74 = .ok (.aload_n 0, 1) := by decide +kernel
theorem dX3_year_75 : decode cX3_year 75 = .ok (.getfield 16, 3) := by decide +kernel
theorem dX3_year_78 : decode cX3_year 78 = .ok (.invokevirtual 201, 3) := by decide +kernel
theorem dX3_year_81 : decode cX3_year 81 = .ok (.ireturn, 1) := by decide +kernel
set_option maxRecDepth 20000 in
theorem ggX3_image_X3_isWithin : GoodIn wsX3_image wsX3_isWithin := goodIn_r _ [6] (by decide +kernel) (by decide +kernel)
set_option maxRecDepth 20000 in
theorem gX3_image_X3_isWithin : GoodIn wsX3_image (va_wsS RX3 51 yX3_isWithin wsX3_isWithin) := goodIn_app (goodIn_of _ (by decide +kernel)) ggX3_image_X3_isWithin
set_option maxRecDepth 20000 in
theorem ggX3_image_X3_imageOf : GoodIn wsX3_image wsX3_imageOf := goodIn_r _ [10, 11, 12, 33, 34, 35, 36, 37, 38, 39, 40] (by decide +kernel) (by decide +kernel)
set_option maxRecDepth 20000 in
theorem gX3_image_X3_imageOf : GoodIn wsX3_image (wsV RX3 204 RX3 yX3_imageOf wsX3_imageOf) := goodIn_app (goodIn_of _ (by decide +kernel)) ggX3_image_X3_imageOf
set_option maxRecDepth 20000 in
theorem ggX3_image_X2_copyFrom : GoodIn wsX3_image wsX2_copyFrom := goodIn_r _ [17, 18, 19, 20, 21, 22, 23, 24, 25, 26, 27, 28, 29, 30, 31, 32, 41, 42, 43, 44, 45, 46, 47, 48, 49, 50, 51] (by decide +kernel) (by decide +kernel)
set_option maxRecDepth 20000 in
theorem gX3_image_X2_copyFrom : GoodIn wsX3_image (wsV RX3 93 RX2 yX2_copyFrom wsX2_copyFrom) := goodIn_app (goodIn_of _ (by decide +kernel)) ggX3_image_X2_copyFrom
theorem dX3_image_0 : decode cX3_image 0 = .ok (.iload_n 1, 1) := by decide +kernel
theorem dX3_image_1 : decode cX3_image 1 = .ok (.iconst 0, 1) := by decide +kernel
theorem dX3_image_2 : decode cX3_image 2 = .ok (.iconst 1, 1) := by decide +kernel
theorem dX3_image_3 : decode cX3_image 3 = .ok (.invokestatic 51, 3) := by decide +kernel
theorem dX3_image_6 : decode cX3_image 6 = .ok (.ifCond .ne 6, 3) := by decide +kernel
theorem dX3_image_9 : decode cX3_image 9 = .ok (.bipush (-2), 2) := by decide +kernel
theorem dX3_image_11 : decode cX3_image 11 = .ok (.ireturn, 1) := by decide +kernel
theorem dX3_image_12 : decode cX3_image 12 = .ok (.aload_n 0, 1) := by decide +kernel
theorem dX3_image_13 : decode cX3_image 13 = .ok (.iload_n 1, 1) := by decide +kernel
theorem dX3_image_14 : decode cX3_image 14 = .ok (.invokevirtual 204, 3) := by decide +kernel
theorem dX3_image_17 : decode cX3_image 17 = .ok (.aload_n 0, 1) := by decide +kernel
theorem dX3_image_18 : decode cX3_image 18 = .ok (.getfield 12, 3) := by decide +kernel
theorem dX3_image_21 : decode cX3_image 21 = .ok (.invokevirtual 93, 3) := by decide +kernel
theorem dX3_image_24 : decode cX3_image 24 = .ok (.aload_n 0, 1) := by decide +kernel
theorem dX3_image_25 : decode cX3_image 25 = .ok (.dup, 1) := by decide +kernel
theorem dX3_image_26 : decode cX3_image 26 = .ok (.getfield 43, 3) := by decide +kernel
theorem dX3_image_29 : decode cX3_image 29 = .ok (.iconst 1, 1) := by decide +kernel
theorem dX3_image_30 : decode cX3_image 30 = .ok (.iload_n 1, 1) := by decide +kernel
theorem dX3_image_31 : decode cX3_image 31 = .ok (.ishl, 1) := by decide +kernel
theorem dX3_image_32 : decode cX3_image 32 = .ok (.ior, 1) := by decide +kernel
theorem dX3_image_33 : decode cX3_image 33 = .ok (.putfield 43, 3) := by decide +kernel
theorem dX3_image_36 : decode cX3_image 36 = .ok (.iconst 1, 1) := by decide +kernel
theorem dX3_image_37 : decode cX3_image 37 = .ok (.ireturn, 1) := by decide +kernel
set_option maxRecDepth 20000 in
theorem ggX3_restore_X3_isWithin : GoodIn wsX3_restore wsX3_isWithin := goodIn_r _ [6] (by decide +kernel) (by decide +kernel)
set_option maxRecDepth 20000 in
theorem gX3_restore_X3_isWithin : GoodIn wsX3_restore (va_wsS RX3 51 yX3_isWithin wsX3_isWithin) := goodIn_app (goodIn_of _ (by decide +kernel)) ggX3_restore_X3_isWithin
set_option maxRecDepth 20000 in
theorem ggX3_restore_X3_imageOf : GoodIn wsX3_restore wsX3_imageOf := goodIn_r _ [10, 11, 12, 33, 34, 35, 36, 37, 38, 39, 40] (by decide +kernel) (by decide +kernel)
set_option maxRecDepth 20000 in
theorem gX3_restore_X3_imageOf : GoodIn wsX3_restore (wsV RX3 204 RX3 yX3_imageOf wsX3_imageOf) := goodIn_app (goodIn_of _ (by decide +kernel)) ggX3_restore_X3_imageOf
set_option maxRecDepth 20000 in
theorem ggX3_restore_X2_copyFrom : GoodIn wsX3_restore wsX2_copyFrom := goodIn_r _ [17, 18, 19, 20, 21, 22, 23, 24, 25, 26, 27, 28, 29, 30, 31, 32, 41, 42, 43, 44, 45, 46, 47, 48, 49, 50, 51] (by decide +kernel) (by decide +kernel)
set_option maxRecDepth 20000 in
theorem gX3_restore_X2_copyFrom : GoodIn wsX3_restore (wsV RX3 93 RX2 yX2_copyFrom wsX2_copyFrom) := goodIn_app (goodIn_of _ (by decide +kernel)) ggX3_restore_X2_copyFrom
theorem dX3_restore_0 : decode cX3_restore 0 = .ok (.iload_n 1, 1) := by decide +kernel
theorem dX3_restore_1 : decode cX3_restore 1 = .ok (.iconst 0, 1) := by decide +kernel
theorem dX3_restore_2 : decode cX3_restore 2 = .ok (.iconst 1, 1) := by decide +kernel
theorem dX3_restore_3 : decode cX3_restore 3 = .ok (.invokestatic 51, 3) := by decide +kernel
theorem dX3_restore_6 : decode cX3_restore 6 = .ok (.ifCond .ne 6, 3) := by decide +kernel
theorem dX3_restore_9 : decode cX3_restore 9 = .ok (.bipush (-2), 2) := by decide +kernel
theorem dX3_restore_11 : decode cX3_restore 11 = .ok (.ireturn, 1) := by decide +kernel
theorem dX3_restore_12 : decode cX3_restore 12 = .ok (.aload_n 0, 1) := by decide +kernel
theorem dX3_restore_13 : decode cX3_restore 13 = .ok (.getfield 43, 3) := by decide +kernel
theorem dX3_restore_16 : decode cX3_restore 16 = .ok (.iconst 1, 1) := by decide +kernel
theorem dX3_restore_17 : decode cX3_restore 17 = .ok (.iload_n 1, 1) := by decide +kernel
theorem dX3_restore_18 : decode cX3_restore 18 = .ok (.ishl, 1) := by decide +kernel
theorem dX3_restore_19 : decode cX3_restore 19 = .ok (.iand, 1) := by decide +kernel
theorem dX3_restore_20 : decode cX3_restore 20 = .ok (.ifCond .ne 6, 3) := by decide +kernel
theorem dX3_restore_23 : decode cX3_restore 23 = .ok (.bipush (-3), 2) := by decide +kernel
theorem dX3_restore_25 : decode cX3_restore 25 = .ok (.ireturn, 1) := by decide +kernel
theorem dX3_restore_26 : decode cX3_restore 26 = .ok (.aload_n 0, 1) := by decide +kernel
theorem dX3_restore_27 : decode cX3_restore 27 = .ok (.getfield 12, 3) := by decide +kernel
theorem dX3_restore_30 : decode cX3_restore 30 = .ok (.aload_n 0, 1) := by decide +kernel
theorem dX3_restore_31 : decode cX3_restore 31 = .ok (.iload_n 1, 1) := by decide +kernel
theorem dX3_restore_32 : decode cX3_restore 32 = .ok (.invokevirtual 204, 3) := by decide +kernel
theorem dX3_restore_35 : decode cX3_restore 35 = .ok (.invokevirtual 93, 3) := by decide +kernel
theorem dX3_restore_38 : decode cX3_restore 38 = .ok (.iconst 1, 1) := by decide +kernel
theorem dX3_restore_39 : decode cX3_restore 39 = .ok (.ireturn, 1) := by decide +kernel
set_option maxRecDepth 20000 in
theorem ggX3_told_X3_isMan : GoodIn wsX3_told wsX3_isMan := goodIn_r _ [6] (by decide +kernel) (by decide +kernel)
set_option maxRecDepth 20000 in
theorem gX3_told_X3_isMan : GoodIn wsX3_told (va_wsS RX3 47 yX3_isMan wsX3_isMan) := goodIn_app (goodIn_of _ (by decide +kernel)) ggX3_told_X3_isMan
set_option maxRecDepth 20000 in
theorem ggX3_told_X2_purseOf : GoodIn wsX3_told wsX2_purseOf := goodIn_r _ [11, 12, 4, 5, 6, 36, 37, 38, 39, 40, 41, 42, 43, 44, 45, 46] (by decide +kernel) (by decide +kernel)
set_option maxRecDepth 20000 in
theorem gX3_told_X2_purseOf : GoodIn wsX3_told (wsV RX3 55 RX2 yX2_purseOf wsX2_purseOf) := goodIn_app (goodIn_of _ (by decide +kernel)) ggX3_told_X2_purseOf
set_option maxRecDepth 20000 in
theorem ggX3_told_X2_debtsOf : GoodIn wsX3_told wsX2_debtsOf := goodIn_r _ [16, 17, 4, 5, 6, 36, 37, 38, 39, 40, 41, 42, 43, 44, 45, 46] (by decide +kernel) (by decide +kernel)
set_option maxRecDepth 20000 in
theorem gX3_told_X2_debtsOf : GoodIn wsX3_told (wsV RX3 208 RX2 yX2_debtsOf wsX2_debtsOf) := goodIn_app (goodIn_of _ (by decide +kernel)) ggX3_told_X2_debtsOf
theorem dX3_told_0 : decode cX3_told 0 = .ok (.iload_n 1, 1) := by decide +kernel
theorem dX3_told_1 : decode cX3_told 1 = .ok (.bipush 10, 2) := by decide +kernel
theorem dX3_told_3 : decode cX3_told 3 = .ok (.isub, 1) := by decide +kernel
theorem dX3_told_4 : decode cX3_told 4 = .ok (.invokestatic 47, 3) := by decide +kernel
theorem dX3_told_7 : decode cX3_told 7 = .ok (.ifCond .eq 15, 3) := by decide +kernel
theorem dX3_told_10 : decode cX3_told 10 = .ok (.aload_n 0, 1) := by decide +kernel
theorem dX3_told_11 : decode cX3_told 11 = .ok (.getfield 12, 3) := by decide +kernel
theorem dX3_told_14 : decode cX3_told 14 = .ok (.iload_n 1, 1) := by decide +kernel
theorem dX3_told_15 : decode cX3_told 15 = .ok (.bipush 10, 2) := by decide +kernel
theorem dX3_told_17 : decode cX3_told 17 = .ok (.isub, 1) := by decide +kernel
theorem dX3_told_18 : decode cX3_told 18 = .ok (.invokevirtual 55, 3) := by decide +kernel
theorem dX3_told_21 : decode cX3_told 21 = .ok (.ireturn, 1) := by decide +kernel
theorem dX3_told_22 : decode cX3_told 22 = .ok (.iload_n 1, 1) := by decide +kernel
theorem dX3_told_23 : decode cX3_told 23 = .ok (.bipush 20, 2) := by decide +kernel
theorem dX3_told_25 : decode cX3_told 25 = .ok (.isub, 1) := by decide +kernel
theorem dX3_told_26 : decode cX3_told 26 = .ok (.invokestatic 47, 3) := by decide +kernel
theorem dX3_told_29 : decode cX3_told 29 = .ok (.ifCond .eq 15, 3) := by decide +kernel
theorem dX3_told_32 : decode cX3_told 32 = .ok (.aload_n 0, 1) := by decide +kernel
theorem dX3_told_33 : decode cX3_told 33 = .ok (.getfield 12, 3) := by decide +kernel
theorem dX3_told_36 : decode cX3_told 36 = .ok (.iload_n 1, 1) := by decide +kernel
theorem dX3_told_37 : decode cX3_told 37 = .ok (.bipush 20, 2) := by decide +kernel
theorem dX3_told_39 : decode cX3_told 39 = .ok (.isub, 1) := by decide +kernel
theorem dX3_told_40 : decode cX3_told 40 = .ok (.invokevirtual 208, 3) := by decide +kernel
theorem dX3_told_43 : decode cX3_told 43 = .ok (.ireturn, 1) := by decide +kernel
theorem dX3_told_44 : decode cX3_told 44 = .ok (.iload_n 1, 1) := by decide +kernel
theorem dX3_told_45 : decode cX3_told 45 = .ok (.tableswitch 75 0 4 #[35, 43, 51, 59, 67], 35) := by decide +kernel
theorem dX3_told_80 : decode cX3_told 80 = .ok (.aload_n 0, 1) := by decide +kernel
theorem dX3_told_81 : decode cX3_told 81 = .ok (.getfield 28, 3) := by decide +kernel
theorem dX3_told_84 : decode cX3_told 84 = .ok (.getfield 73, 3) := by decide +kernel
theorem dX3_told_87 : decode cX3_told 87 = .ok (.ireturn, 1) := by decide +kernel
theorem dX3_told_88 : decode cX3_told 88 = .ok (.aload_n 0, 1) := by decide +kernel
theorem dX3_told_89 : decode cX3_told 89 = .ok (.getfield 12, 3) := by decide +kernel
theorem dX3_told_92 : decode cX3_told 92 = .ok (.getfield 211, 3) := by decide +kernel
theorem dX3_told_95 : decode cX3_told 95 = .ok (.ireturn, 1) := by decide +kernel
theorem dX3_told_96 : decode cX3_told 96 = .ok (.aload_n 0, 1) := by decide +kernel
theorem dX3_told_97 : decode cX3_told 97 = .ok (.getfield 12, 3) := by decide +kernel
theorem dX3_told_100 : decode cX3_told 100 = .ok (.getfield 63, 3) := by decide +kernel
theorem dX3_told_103 : decode cX3_told 103 = .ok (.ireturn, 1) := by decide +kernel
theorem dX3_told_104 : decode cX3_told 104 = .ok (.aload_n 0, 1) := by decide +kernel
theorem dX3_told_105 : decode cX3_told 105 = .ok (.getfield 12, 3) := by decide +kernel
theorem dX3_told_108 : decode cX3_told 108 = .ok (.getfield 66, 3) := by decide +kernel
theorem dX3_told_111 : decode cX3_told 111 = .ok (.ireturn, 1) := by decide +kernel
theorem dX3_told_112 : decode cX3_told 112 = .ok (.aload_n 0, 1) := by decide +kernel
theorem dX3_told_113 : decode cX3_told 113 = .ok (.getfield 12, 3) := by decide +kernel
theorem dX3_told_116 : decode cX3_told 116 = .ok (.getfield 123, 3) := by decide +kernel
theorem dX3_told_119 : decode cX3_told 119 = .ok (.ireturn, 1) := by decide +kernel
theorem dX3_told_120 : decode cX3_told 120 = .ok (.bipush (-2), 2) := by decide +kernel
theorem dX3_told_122 : decode cX3_told 122 = .ok (.ireturn, 1) := by decide +kernel
theorem dX3_isMan_0 : decode cX3_isMan 0 = .ok (.iload_n 0, 1) := by decide +kernel
theorem dX3_isMan_1 : decode cX3_isMan 1 = .ok (.ifCond .lt 13, 3) := by decide +kernel
theorem dX3_isMan_4 : decode cX3_isMan 4 = .ok (.iload_n 0, 1) := by decide +kernel
theorem dX3_isMan_5 : decode cX3_isMan 5 = .ok (.bipush 6, 2) := by decide +kernel
theorem dX3_isMan_7 : decode cX3_isMan 7 = .ok (.if_icmp .ge 7, 3) := by decide +kernel
theorem dX3_isMan_10 : decode cX3_isMan 10 = .ok (.iconst 1, 1) := by decide +kernel
theorem dX3_isMan_11 : decode cX3_isMan 11 = .ok (.goto 4, 3) := by decide +kernel
theorem dX3_isMan_14 : decode cX3_isMan 14 = .ok (.iconst 0, 1) := by decide +kernel
theorem dX3_isMan_15 : decode cX3_isMan 15 = .ok (.ireturn, 1) := by decide +kernel
theorem dX3_isWithin_0 : decode cX3_isWithin 0 = .ok (.iload_n 0, 1) := by decide +kernel
theorem dX3_isWithin_1 : decode cX3_isWithin 1 = .ok (.iload_n 1, 1) := by decide +kernel
theorem dX3_isWithin_2 : decode cX3_isWithin 2 = .ok (.if_icmp .lt 12, 3) := by decide +kernel
theorem dX3_isWithin_5 : decode cX3_isWithin 5 = .ok (.iload_n 0, 1) := by decide +kernel
theorem dX3_isWithin_6 : decode cX3_isWithin 6 = .ok (.iload_n 2, 1) := by decide +kernel
theorem dX3_isWithin_7 : decode cX3_isWithin 7 = .ok (.if_icmp .gt 7, 3) := by decide +kernel
theorem dX3_isWithin_10 : decode cX3_isWithin 10 = .ok (.iconst 1, 1) := by decide +kernel
theorem dX3_isWithin_11 : decode cX3_isWithin 11 = .ok (.goto 4, 3) := by decide +kernel
theorem dX3_isWithin_14 : decode cX3_isWithin 14 = .ok (.iconst 0, 1) := by decide +kernel
theorem dX3_isWithin_15 : decode cX3_isWithin 15 = .ok (.ireturn, 1) := by decide +kernel
theorem dX3_grown_0 : decode cX3_grown 0 = .ok (.iload_n 0, 1) := by decide +kernel
theorem dX3_grown_1 : decode cX3_grown 1 = .ok (.iload_n 1, 1) := by decide +kernel
theorem dX3_grown_2 : decode cX3_grown 2 = .ok (.iadd, 1) := by decide +kernel
theorem dX3_grown_3 : decode cX3_grown 3 = .ok (.sipush 9999, 3) := by decide +kernel
theorem dX3_grown_6 : decode cX3_grown 6 = .ok (.invokestatic 214, 3) := by decide +kernel
theorem dX3_grown_9 : decode cX3_grown 9 = .ok (.ireturn, 1) := by decide +kernel
theorem dX3_imageOf_0 : decode cX3_imageOf 0 = .ok (.iload_n 1, 1) := by decide +kernel
theorem dX3_imageOf_1 : decode cX3_imageOf 1 = .ok (.ifCond .ne 10, 3) := by decide +kernel
theorem dX3_imageOf_4 : decode cX3_imageOf 4 = .ok (.aload_n 0, 1) := by decide +kernel
theorem dX3_imageOf_5 : decode cX3_imageOf 5 = .ok (.getfield 19, 3) := by decide +kernel
theorem dX3_imageOf_8 : decode cX3_imageOf 8 = .ok (.goto 7, 3) := by decide +kernel
theorem dX3_imageOf_11 : decode cX3_imageOf 11 = .ok (.aload_n 0, 1) := by decide +kernel
theorem dX3_imageOf_12 : decode cX3_imageOf 12 = .ok (.getfield 22, 3) := by decide +kernel
theorem dX3_imageOf_15 : decode cX3_imageOf 15 = .ok (.areturn, 1) := by decide +kernel
set_option maxRecDepth 20000 in
theorem ggX3_leastHelp_X1_load : GoodIn wsX3_leastHelp wsX1_load := goodIn_r _ [7, 8, 9, 10, 11, 12, 13, 14, 15, 16, 17, 18, 19, 20, 21, 22, 23, 24, 25, 26, 27, 28, 29, 30, 31, 32, 33, 34, 35, 36, 37, 38, 39, 40, 41, 42, 43, 44, 45, 46, 47, 48, 49, 50, 51, 52, 53, 86, 87, 88, 89, 90, 91, 92, 93, 94, 95, 96, 97, 98, 99, 100, 101, 102, 103, 104, 105, 106] (by decide +kernel) (by decide +kernel)
set_option maxRecDepth 20000 in
theorem gX3_leastHelp_X1_load : GoodIn wsX3_leastHelp (wsV RX3 143 RX1 yX1_load wsX1_load) := goodIn_app (goodIn_of _ (by decide +kernel)) ggX3_leastHelp_X1_load
set_option maxRecDepth 20000 in
theorem ggX3_leastHelp_X1_leastHelp : GoodIn wsX3_leastHelp wsX1_leastHelp := goodIn_r _ [57, 13, 11, 9, 58, 59, 60, 6, 61, 62, 63, 64, 65, 66, 67, 68, 69, 10, 70, 71, 72, 73, 12, 20, 21, 22, 74, 75, 76, 77, 86, 87, 88, 89, 90, 91, 92, 93, 94, 95] (by decide +kernel) (by decide +kernel)
set_option maxRecDepth 20000 in
theorem gX3_leastHelp_X1_leastHelp : GoodIn wsX3_leastHelp (wsV RX3 219 RX1 yX1_leastHelp wsX1_leastHelp) := goodIn_app (goodIn_of _ (by decide +kernel)) ggX3_leastHelp_X1_leastHelp
theorem dX3_leastHelp_0 : decode cX3_leastHelp 0 = .ok (.aload_n 0, 1) := by decide +kernel
theorem dX3_leastHelp_1 : decode cX3_leastHelp 1 = .ok (.getfield 35, 3) := by decide +kernel
theorem dX3_leastHelp_4 : decode cX3_leastHelp 4 = .ok (.aload_n 0, 1) := by decide +kernel
theorem dX3_leastHelp_5 : decode cX3_leastHelp 5 = .ok (.getfield 12, 3) := by decide +kernel
theorem dX3_leastHelp_8 : decode cX3_leastHelp 8 = .ok (.invokevirtual 143, 3) := by decide +kernel
theorem dX3_leastHelp_11 : decode cX3_leastHelp 11 = .ok (.aload_n 0, 1) := by decide +kernel
theorem dX3_leastHelp_12 : decode cX3_leastHelp 12 = .ok (.getfield 35, 3) := by decide +kernel
theorem dX3_leastHelp_15 : decode cX3_leastHelp 15 = .ok (.iload_n 1, 1) := by decide +kernel
theorem dX3_leastHelp_16 : decode cX3_leastHelp 16 = .ok (.invokevirtual 219, 3) := by decide +kernel
theorem dX3_leastHelp_19 : decode cX3_leastHelp 19 = .ok (.ireturn, 1) := by decide +kernel
set_option maxRecDepth 20000 in
theorem ggX3_luckyShares_J7_fill_d0a16 : GoodIn wsX3_luckyShares wsJ7_fill_d0a16 := goodIn_r _ [5] (by decide +kernel) (by decide +kernel)
set_option maxRecDepth 20000 in
theorem gX3_luckyShares_J7_fill_d0a16 : GoodIn wsX3_luckyShares (va_wsS RX3 220 yJ7_fill_d0a16 wsJ7_fill_d0a16) := goodIn_app (goodIn_of _ (by decide +kernel)) ggX3_luckyShares_J7_fill_d0a16
theorem dX3_luckyShares_0 : decode cX3_luckyShares 0 = .ok (.aload_n 0, 1) := by decide +kernel
theorem dX3_luckyShares_1 : decode cX3_luckyShares 1 = .ok (.getfield 39, 3) := by decide +kernel
theorem dX3_luckyShares_4 : decode cX3_luckyShares 4 = .ok (.lconst 0, 1) := by decide +kernel
theorem dX3_luckyShares_5 : decode cX3_luckyShares 5 = .ok (.invokestatic 220, 3) := by decide +kernel
theorem dX3_luckyShares_8 : decode cX3_luckyShares 8 = .ok (.aload_n 0, 1) := by decide +kernel
theorem dX3_luckyShares_9 : decode cX3_luckyShares 9 = .ok (.getfield 39, 3) := by decide +kernel
theorem dX3_luckyShares_12 : decode cX3_luckyShares 12 = .ok (.iconst 0, 1) := by decide +kernel
theorem dX3_luckyShares_13 : decode cX3_luckyShares 13 = .ok (.lconst 1, 1) := by decide +kernel
theorem dX3_luckyShares_14 : decode cX3_luckyShares 14 = .ok (.lastore, 1) := by decide +kernel
theorem dX3_luckyShares_15 : decode cX3_luckyShares 15 = .ok (.iconst 1, 1) := by decide +kernel
theorem dX3_luckyShares_16 : decode cX3_luckyShares 16 = .ok (.istore 5, 2) := by decide +kernel
theorem dX3_luckyShares_18 : decode cX3_luckyShares 18 = .ok (.iload 5, 2) := by decide +kernel
theorem dX3_luckyShares_20 : decode cX3_luckyShares 20 = .ok (.iload_n 2, 1) := by decide +kernel
theorem dX3_luckyShares_21 : decode cX3_luckyShares 21 = .ok (.if_icmp .gt 82, 3) := by decide +kernel
theorem dX3_luckyShares_24 : decode cX3_luckyShares 24 = .ok (.iload 5, 2) := by decide +kernel
theorem dX3_luckyShares_26 : decode cX3_luckyShares 26 = .ok (.bipush 12, 2) := by decide +kernel
theorem dX3_luckyShares_28 : decode cX3_luckyShares 28 = .ok (.if_icmp .gt 75, 3) := by decide +kernel
theorem dX3_luckyShares_31 : decode cX3_luckyShares 31 = .ok (.iload 5, 2) := by decide +kernel
theorem dX3_luckyShares_33 : decode cX3_luckyShares 33 = .ok (.istore 6, 2) := by decide +kernel
theorem dX3_luckyShares_35 : decode cX3_luckyShares 35 = .ok (.iload 6, 2) := by decide +kernel
theorem dX3_luckyShares_37 : decode cX3_luckyShares 37 = .ok (.ifCond .le 42, 3) := by decide +kernel
theorem dX3_luckyShares_40 : decode cX3_luckyShares 40 = .ok (.aload_n 0, 1) := by decide +kernel
theorem dX3_luckyShares_41 : decode cX3_luckyShares 41 = .ok (.getfield 39, 3) := by decide +kernel
theorem dX3_luckyShares_44 : decode cX3_luckyShares 44 = .ok (.iload 6, 2) := by decide +kernel
theorem dX3_luckyShares_46 : decode cX3_luckyShares 46 = .ok (.aload_n 0, 1) := by decide +kernel
theorem dX3_luckyShares_47 : decode cX3_luckyShares 47 = .ok (.getfield 39, 3) := by decide +kernel
theorem dX3_luckyShares_50 : decode cX3_luckyShares 50 = .ok (.iload 6, 2) := by decide +kernel
theorem dX3_luckyShares_52 : decode cX3_luckyShares 52 = .ok (.laload, 1) := by decide +kernel
theorem dX3_luckyShares_53 : decode cX3_luckyShares 53 = .ok (.bipush 10, 2) := by decide +kernel
theorem dX3_luckyShares_55 : decode cX3_luckyShares 55 = .ok (.iload_n 3, 1) := by decide +kernel
theorem dX3_luckyShares_56 : decode cX3_luckyShares 56 = .ok (.isub, 1) := by decide +kernel
theorem dX3_luckyShares_57 : decode cX3_luckyShares 57 = .ok (.i2l, 1) := by decide +kernel
theorem dX3_luckyShares_58 : decode cX3_luckyShares 58 = .ok (.lmul, 1) := by decide +kernel
theorem dX3_luckyShares_59 : decode cX3_luckyShares 59 = .ok (.aload_n 0, 1) := by decide +kernel
theorem dX3_luckyShares_60 : decode cX3_luckyShares 60 = .ok (.getfield 39, 3) := by decide +kernel
theorem dX3_luckyShares_63 : decode cX3_luckyShares 63 = .ok (.iload 6, 2) := by decide +kernel
theorem dX3_luckyShares_65 : decode cX3_luckyShares 65 = .ok (.iconst 1, 1) := by decide +kernel
theorem dX3_luckyShares_66 : decode cX3_luckyShares 66 = .ok (.isub, 1) := by decide +kernel
theorem dX3_luckyShares_67 : decode cX3_luckyShares 67 = .ok (.laload, 1) := by decide +kernel
theorem dX3_luckyShares_68 : decode cX3_luckyShares 68 = .ok (.iload_n 3, 1) := by decide +kernel
theorem dX3_luckyShares_69 : decode cX3_luckyShares 69 = .ok (.i2l, 1) := by decide +kernel
theorem dX3_luckyShares_70 : decode cX3_luckyShares 70 = .ok (.lmul, 1) := by decide +kernel
theorem dX3_luckyShares_71 : decode cX3_luckyShares 71 = .ok (.ladd, 1) := by decide +kernel
theorem dX3_luckyShares_72 : decode cX3_luckyShares 72 = .ok (.lastore, 1) := by decide +kernel
theorem dX3_luckyShares_73 : decode cX3_luckyShares 73 = .ok (.iinc 6 (-1), 3) := by decide +kernel
theorem dX3_luckyShares_76 : decode cX3_luckyShares 76 = .ok (.goto (-41), 3) := by decide +kernel
theorem dX3_luckyShares_79 : decode cX3_luckyShares 79 = .ok (.aload_n 0, 1) := by decide +kernel
theorem dX3_luckyShares_80 : decode cX3_luckyShares 80 = .ok (.getfield 39, 3) := by decide +kernel
theorem dX3_luckyShares_83 : decode cX3_luckyShares 83 = .ok (.iconst 0, 1) := by decide +kernel
theorem dX3_luckyShares_84 : decode cX3_luckyShares 84 = .ok (.aload_n 0, 1) := by decide +kernel
theorem dX3_luckyShares_85 : decode cX3_luckyShares 85 = .ok (.getfield 39, 3) := by decide +kernel
theorem dX3_luckyShares_88 : decode cX3_luckyShares 88 = .ok (.iconst 0, 1) := by decide +kernel
theorem dX3_luckyShares_89 : decode cX3_luckyShares 89 = .ok (.laload, 1) := by decide +kernel
theorem dX3_luckyShares_90 : decode cX3_luckyShares 90 = .ok (.bipush 10, 2) := by decide +kernel
theorem dX3_luckyShares_92 : decode cX3_luckyShares 92 = .ok (.iload_n 3, 1) := by decide +kernel
theorem dX3_luckyShares_93 : decode cX3_luckyShares 93 = .ok (.isub, 1) := by decide +kernel
theorem dX3_luckyShares_94 : decode cX3_luckyShares 94 = .ok (.i2l, 1) := by decide +kernel
theorem dX3_luckyShares_95 : decode cX3_luckyShares 95 = .ok (.lmul, 1) := by decide +kernel
theorem dX3_luckyShares_96 : decode cX3_luckyShares 96 = .ok (.lastore, 1) := by decide +kernel
theorem dX3_luckyShares_97 : decode cX3_luckyShares 97 = .ok (.iinc 5 1, 3) := by decide +kernel
theorem dX3_luckyShares_100 : decode cX3_luckyShares 100 = .ok (.goto (-82), 3) := by decide +kernel
theorem dX3_luckyShares_103 : decode cX3_luckyShares 103 = .ok (.lconst 0, 1) := by decide +kernel
theorem dX3_luckyShares_104 : decode cX3_luckyShares 104 = .ok (.lstore 5, 2) := by decide +kernel
theorem dX3_luckyShares_106 : decode cX3_luckyShares 106 = .ok (.iconst 0, 1) := by decide +kernel
theorem dX3_luckyShares_107 : decode cX3_luckyShares 107 = .ok (.istore 7, 2) := by decide +kernel
theorem dX3_luckyShares_109 : decode cX3_luckyShares 109 = .ok (.iload 7, 2) := by decide +kernel
theorem dX3_luckyShares_111 : decode cX3_luckyShares 111 = .ok (.bipush 12, 2) := by decide +kernel
theorem dX3_luckyShares_113 : decode cX3_luckyShares 113 = .ok (.if_icmp .gt 34, 3) := by decide +kernel
theorem dX3_luckyShares_116 : decode cX3_luckyShares 116 = .ok (.lload 5, 2) := by decide +kernel
theorem dX3_luckyShares_118 : decode cX3_luckyShares 118 = .ok (.iload_n 1, 1) := by decide +kernel
theorem dX3_luckyShares_119 : decode cX3_luckyShares 119 = .ok (.iload 7, 2) := by decide +kernel
theorem dX3_luckyShares_121 : decode cX3_luckyShares 121 = .ok (.imul, 1) := by decide +kernel
theorem dX3_luckyShares_122 : decode cX3_luckyShares 122 = .ok (.iload 4, 2) := by decide +kernel
theorem dX3_luckyShares_124 : decode cX3_luckyShares 124 = .ok (.if_icmp .lt 13, 3) := by decide +kernel
theorem dX3_luckyShares_127 : decode cX3_luckyShares 127 = .ok (.aload_n 0, 1) := by decide +kernel
theorem dX3_luckyShares_128 : decode cX3_luckyShares 128 = .ok (.getfield 39, 3) := by decide +kernel
theorem dX3_luckyShares_131 : decode cX3_luckyShares 131 = .ok (.iload 7, 2) := by decide +kernel
theorem dX3_luckyShares_133 : decode cX3_luckyShares 133 = .ok (.laload, 1) := by decide +kernel
theorem dX3_luckyShares_134 : decode cX3_luckyShares 134 = .ok (.goto 4, 3) := by decide +kernel
theorem dX3_luckyShares_137 : decode cX3_luckyShares 137 = .ok (.lconst 0, 1) := by decide +kernel
theorem dX3_luckyShares_138 : decode cX3_luckyShares 138 = .ok (.ladd, 1) := by decide +kernel
theorem dX3_luckyShares_139 : decode cX3_luckyShares 139 = .ok (.lstore 5, 2) := by decide +kernel
theorem dX3_luckyShares_141 : decode cX3_luckyShares 141 = .ok (.iinc 7 1, 3) := by decide +kernel
theorem dX3_luckyShares_144 : decode cX3_luckyShares 144 = .ok (.goto (-35), 3) := by decide +kernel
theorem dX3_luckyShares_147 : decode cX3_luckyShares 147 = .ok (.lload 5, 2) := by decide +kernel
theorem dX3_luckyShares_149 : decode cX3_luckyShares 149 = .ok (.lreturn, 1) := by decide +kernel
theorem dX3_allShares_0 : decode cX3_allShares 0 = .ok (.lconst 1, 1) := by decide +kernel
theorem dX3_allShares_1 : decode cX3_allShares 1 = .ok (.lstore_n 1, 1) := by decide +kernel
theorem dX3_allShares_2 : decode cX3_allShares 2 = .ok (.iconst 0, 1) := by decide +kernel
theorem dX3_allShares_3 : decode cX3_allShares 3 = .ok (.istore_n 3, 1) := by decide +kernel
theorem dX3_allShares_4 : decode cX3_allShares 4 = .ok (.iload_n 3, 1) := by decide +kernel
theorem dX3_allShares_5 : decode cX3_allShares 5 = .ok (.iload_n 0, 1) := by decide +kernel
theorem dX3_allShares_6 : decode cX3_allShares 6 = .ok (.if_icmp .ge 15, 3) := by decide +kernel
theorem dX3_allShares_9 : decode cX3_allShares 9 = .ok (.lload_n 1, 1) := by decide +kernel
theorem dX3_allShares_10 : decode cX3_allShares 10 = .ok (.ldc2_w 226, 3) := by decide +kernel
theorem dX3_allShares_13 : decode cX3_allShares 13 = .ok (.lmul, 1) := by decide +kernel
theorem dX3_allShares_14 : decode cX3_allShares 14 = .ok (.lstore_n 1, 1) := by decide +kernel
theorem dX3_allShares_15 : decode cX3_allShares 15 = .ok (.iinc 3 1, 3) := by decide +kernel
theorem dX3_allShares_18 : decode cX3_allShares 18 = .ok (.goto (-14), 3) := by decide +kernel
theorem dX3_allShares_21 : decode cX3_allShares 21 = .ok (.lload_n 1, 1) := by decide +kernel
theorem dX3_allShares_22 : decode cX3_allShares 22 = .ok (.lreturn, 1) := by decide +kernel
set_option maxRecDepth 20000 in
theorem ggX3_lowestTerms_X3_commonDivisor : GoodIn wsX3_lowestTerms wsX3_commonDivisor := goodIn_r _ [4] (by decide +kernel) (by decide +kernel)
set_option maxRecDepth 20000 in
theorem gX3_lowestTerms_X3_commonDivisor : GoodIn wsX3_lowestTerms (va_wsS RX3 228 yX3_commonDivisor wsX3_commonDivisor) := goodIn_app (goodIn_of _ (by decide +kernel)) ggX3_lowestTerms_X3_commonDivisor
theorem dX3_lowestTerms_0 : decode cX3_lowestTerms 0 = .ok (.lload_n 0, 1) := by decide +kernel
theorem dX3_lowestTerms_1 : decode cX3_lowestTerms 1 = .ok (.lload_n 2, 1) := by decide +kernel
theorem dX3_lowestTerms_2 : decode cX3_lowestTerms 2 = .ok (.invokestatic 228, 3) := by decide +kernel
theorem dX3_lowestTerms_5 : decode cX3_lowestTerms 5 = .ok (.lstore 5, 2) := by decide +kernel
theorem dX3_lowestTerms_7 : decode cX3_lowestTerms 7 = .ok (.lload 5, 2) := by decide +kernel
theorem dX3_lowestTerms_9 : decode cX3_lowestTerms 9 = .ok (.lconst 0, 1) := by decide +kernel
theorem dX3_lowestTerms_10 : decode cX3_lowestTerms 10 = .ok (.lcmp, 1) := by decide +kernel
theorem dX3_lowestTerms_11 : decode cX3_lowestTerms 11 = .ok (.ifCond .gt 14, 3) := by decide +kernel
theorem dX3_lowestTerms_14 : decode cX3_lowestTerms 14 = .ok (.iload 4, 2) := by decide +kernel
theorem dX3_lowestTerms_16 : decode cX3_lowestTerms 16 = .ok (.ifCond .ne 7, 3) := by decide +kernel
theorem dX3_lowestTerms_19 : decode cX3_lowestTerms 19 = .ok (.lload_n 0, 1) := by decide +kernel
theorem dX3_lowestTerms_20 : decode cX3_lowestTerms 20 = .ok (.goto 4, 3) := by decide +kernel
theorem dX3_lowestTerms_23 : decode cX3_lowestTerms 23 = .ok (.lload_n 2, 1) := by decide +kernel
theorem dX3_lowestTerms_24 : decode cX3_lowestTerms 24 = .ok (.lreturn, 1) := by decide +kernel
theorem dX3_lowestTerms_25 : decode cX3_lowestTerms 25 = .ok (.iload 4, 2) := by decide +kernel
theorem dX3_lowestTerms_27 : decode cX3_lowestTerms 27 = .ok (.ifCond .ne 10, 3) := by decide +kernel
theorem dX3_lowestTerms_30 : decode cX3_lowestTerms 30 = .ok (.lload_n 0, 1) := by decide +kernel
theorem dX3_lowestTerms_31 : decode cX3_lowestTerms 31 = .ok (.lload 5, 2) := by decide +kernel
theorem dX3_lowestTerms_33 : decode cX3_lowestTerms 33 = .ok (.ldiv, 1) := by decide +kernel
theorem dX3_lowestTerms_34 : decode cX3_lowestTerms 34 = .ok (.goto 7, 3) := by decide +kernel
theorem dX3_lowestTerms_37 : decode cX3_lowestTerms 37 = .ok (.lload_n 2, 1) := by decide +kernel
theorem dX3_lowestTerms_38 : decode cX3_lowestTerms 38 = .ok (.lload 5, 2) := by decide +kernel
theorem dX3_lowestTerms_40 : decode cX3_lowestTerms 40 = .ok (.ldiv, 1) := by decide +kernel
theorem dX3_lowestTerms_41 : decode cX3_lowestTerms 41 = .ok (.lreturn, 1) := by decide +kernel
theorem dX3_commonDivisor_0 : decode cX3_commonDivisor 0 = .ok (.lload_n 0, 1) := by decide +kernel
theorem dX3_commonDivisor_1 : decode cX3_commonDivisor 1 = .ok (.lstore 4, 2) := by decide +kernel
theorem dX3_commonDivisor_3 : decode cX3_commonDivisor 3 = .ok (.lload_n 2, 1) := by decide +kernel
theorem dX3_commonDivisor_4 : decode cX3_commonDivisor 4 = .ok (.lstore 6, 2) := by decide +kernel
theorem dX3_commonDivisor_6 : decode cX3_commonDivisor 6 = .ok (.iconst 0, 1) := by decide +kernel
theorem dX3_commonDivisor_7 : decode cX3_commonDivisor 7 = .ok (.istore 8, 2) := by decide +kernel
theorem dX3_commonDivisor_9 : decode cX3_commonDivisor 9 = .ok (.iload 8, 2) := by decide +kernel
theorem dX3_commonDivisor_11 : decode cX3_commonDivisor 11 = .ok (.sipush 128, 3) := by decide +kernel
theorem dX3_commonDivisor_14 : decode cX3_commonDivisor 14 = .ok (.if_icmp .ge 31, 3) := by decide +kernel
theorem dX3_commonDivisor_17 : decode cX3_commonDivisor 17 = .ok (.lload 6, 2) := by decide +kernel
theorem dX3_commonDivisor_19 : decode cX3_commonDivisor 19 = .ok (.lconst 0, 1) := by decide +kernel
theorem dX3_commonDivisor_20 : decode cX3_commonDivisor 20 = .ok (.lcmp, 1) := by decide +kernel
theorem dX3_commonDivisor_21 : decode cX3_commonDivisor 21 = .ok (.ifCond .eq 24, 3) := by decide +kernel
theorem dX3_commonDivisor_24 : decode cX3_commonDivisor 24 = .ok (.lload 4, 2) := by decide +kernel
theorem dX3_commonDivisor_26 : decode cX3_commonDivisor 26 = .ok (.lload 6, 2) := by decide +kernel
theorem dX3_commonDivisor_28 : decode cX3_commonDivisor 28 = .ok (.lrem, 1) := by decide +kernel
theorem dX3_commonDivisor_29 : decode cX3_commonDivisor 29 = .ok (.lstore 9, 2) := by decide +kernel
theorem dX3_commonDivisor_31 : decode cX3_commonDivisor 31 = .ok (.lload 6, 2) := by decide +kernel
theorem dX3_commonDivisor_33 : decode cX3_commonDivisor 33 = .ok (.lstore 4, 2) := by decide +kernel
theorem dX3_commonDivisor_35 : decode cX3_commonDivisor 35 = .ok (.lload 9, 2) := by decide +kernel
theorem dX3_commonDivisor_37 : decode cX3_commonDivisor 37 = .ok (.lstore 6, 2) := by decide +kernel
theorem dX3_commonDivisor_39 : decode cX3_commonDivisor 39 = .ok (.iinc 8 1, 3) := by decide +kernel
theorem dX3_commonDivisor_42 : decode cX3_commonDivisor 42 = .ok (.goto (-33), 3) := by decide +kernel
theorem dX3_commonDivisor_45 : decode cX3_commonDivisor 45 = .ok (.lload 4, 2) := by decide +kernel
theorem dX3_commonDivisor_47 : decode cX3_commonDivisor 47 = .ok (.lreturn, 1) := by decide +kernel
set_option maxRecDepth 20000 in
theorem ggX3_liveYear_X2_purseOf : GoodIn wsX3_liveYear wsX2_purseOf := goodIn_r _ [7, 8, 9, 10, 11, 75, 76, 77, 78, 79, 80, 81, 82, 83, 84, 85] (by decide +kernel) (by decide +kernel)
set_option maxRecDepth 20000 in
theorem gX3_liveYear_X2_purseOf : GoodIn wsX3_liveYear (wsV RX3 55 RX2 yX2_purseOf wsX2_purseOf) := goodIn_app (goodIn_of _ (by decide +kernel)) ggX3_liveYear_X2_purseOf
set_option maxRecDepth 20000 in
theorem ggX3_liveYear_X2_fillPurse : GoodIn wsX3_liveYear wsX2_fillPurse := goodIn_r _ [15, 8, 9, 10, 11, 75, 76, 77, 78, 79, 80, 81, 82, 83, 84, 85] (by decide +kernel) (by decide +kernel)
set_option maxRecDepth 20000 in
theorem gX3_liveYear_X2_fillPurse : GoodIn wsX3_liveYear (wsV RX3 59 RX2 yX2_fillPurse wsX2_fillPurse) := goodIn_app (goodIn_of _ (by decide +kernel)) ggX3_liveYear_X2_fillPurse
set_option maxRecDepth 20000 in
theorem ggX3_liveYear_X2_repay : GoodIn wsX3_liveYear wsX2_repay := goodIn_r _ [19, 20, 21, 22, 6, 23, 24, 25, 26, 27, 28, 29, 30, 31, 32, 9, 10, 11, 33, 34, 35, 36, 37, 38, 39, 40, 41, 42, 43, 4, 5, 7, 8, 44, 45, 46, 47, 48, 49, 13, 14, 15, 50, 51, 52, 53, 54, 75, 76, 77, 78, 79, 80, 81, 82, 83, 84, 85] (by decide +kernel) (by decide +kernel)
set_option maxRecDepth 20000 in
theorem gX3_liveYear_X2_repay : GoodIn wsX3_liveYear (wsV RX3 233 RX2 yX2_repay wsX2_repay) := goodIn_app (goodIn_of _ (by decide +kernel)) ggX3_liveYear_X2_repay
set_option maxRecDepth 20000 in
theorem ggX3_liveYear_X2_passDay : GoodIn wsX3_liveYear wsX2_passDay := goodIn_r _ [58, 59, 28, 38, 60, 61, 10, 62, 63, 64, 65, 66, 75, 76, 77, 78, 79, 80, 81, 82, 83, 84, 85] (by decide +kernel) (by decide +kernel)
set_option maxRecDepth 20000 in
theorem gX3_liveYear_X2_passDay : GoodIn wsX3_liveYear (wsV RX3 236 RX2 yX2_passDay wsX2_passDay) := goodIn_app (goodIn_of _ (by decide +kernel)) ggX3_liveYear_X2_passDay
theorem dX3_liveYear_0 : decode cX3_liveYear 0 = .ok (.iload_n 1, 1) := by decide +kernel
theorem dX3_liveYear_1 : decode cX3_liveYear 1 = .ok (.istore_n 3, 1) := by decide +kernel
theorem dX3_liveYear_2 : decode cX3_liveYear 2 = .ok (.iconst 0, 1) := by decide +kernel
theorem dX3_liveYear_3 : decode cX3_liveYear 3 = .ok (.istore 4, 2) := by decide +kernel
theorem dX3_liveYear_5 : decode cX3_liveYear 5 = .ok (.iconst 0, 1) := by decide +kernel
theorem dX3_liveYear_6 : decode cX3_liveYear 6 = .ok (.istore 5, 2) := by decide +kernel
theorem dX3_liveYear_8 : decode cX3_liveYear 8 = .ok (.iload 5, 2) := by decide +kernel
theorem dX3_liveYear_10 : decode cX3_liveYear 10 = .ok (.iload_n 2, 1) := by decide +kernel
theorem dX3_liveYear_11 : decode cX3_liveYear 11 = .ok (.if_icmp .ge 91, 3) := by decide +kernel
theorem dX3_liveYear_14 : decode cX3_liveYear 14 = .ok (.bipush 75, 2) := by decide +kernel
theorem dX3_liveYear_16 : decode cX3_liveYear 16 = .ok (.iload_n 3, 1) := by decide +kernel
theorem dX3_liveYear_17 : decode cX3_liveYear 17 = .ok (.imul, 1) := by decide +kernel
theorem dX3_liveYear_18 : decode cX3_liveYear 18 = .ok (.bipush 74, 2) := by decide +kernel
theorem dX3_liveYear_20 : decode cX3_liveYear 20 = .ok (.iadd, 1) := by decide +kernel
theorem dX3_liveYear_21 : decode cX3_liveYear 21 = .ok (.ldc 232, 2) := by decide +kernel
theorem dX3_liveYear_23 : decode cX3_liveYear 23 = .ok (.irem, 1) := by decide +kernel
theorem dX3_liveYear_24 : decode cX3_liveYear 24 = .ok (.istore_n 3, 1) := by decide +kernel
theorem dX3_liveYear_25 : decode cX3_liveYear 25 = .ok (.iload_n 3, 1) := by decide +kernel
theorem dX3_liveYear_26 : decode cX3_liveYear 26 = .ok (.bipush 6, 2) := by decide +kernel
theorem dX3_liveYear_28 : decode cX3_liveYear 28 = .ok (.irem, 1) := by decide +kernel
theorem dX3_liveYear_29 : decode cX3_liveYear 29 = .ok (.istore 6, 2) := by decide +kernel
theorem dX3_liveYear_31 : decode cX3_liveYear 31 = .ok (.aload_n 0, 1) := by decide +kernel
theorem dX3_liveYear_32 : decode cX3_liveYear 32 = .ok (.getfield 16, 3) := by decide +kernel
theorem dX3_liveYear_35 : decode cX3_liveYear 35 = .ok (.iload 6, 2) := by decide +kernel
theorem dX3_liveYear_37 : decode cX3_liveYear 37 = .ok (.aload_n 0, 1) := by decide +kernel
theorem dX3_liveYear_38 : decode cX3_liveYear 38 = .ok (.getfield 16, 3) := by decide +kernel
theorem dX3_liveYear_41 : decode cX3_liveYear 41 = .ok (.iload 6, 2) := by decide +kernel
theorem dX3_liveYear_43 : decode cX3_liveYear 43 = .ok (.invokevirtual 55, 3) := by decide +kernel
theorem dX3_liveYear_46 : decode cX3_liveYear 46 = .ok (.iconst 1, 1) := by decide +kernel
theorem dX3_liveYear_47 : decode cX3_liveYear 47 = .ok (.iadd, 1) := by decide +kernel
theorem dX3_liveYear_48 : decode cX3_liveYear 48 = .ok (.iload_n 3, 1) := by decide +kernel
theorem dX3_liveYear_49 : decode cX3_liveYear 49 = .ok (.bipush 6, 2) := by decide +kernel
theorem dX3_liveYear_51 : decode cX3_liveYear 51 = .ok (.idiv, 1) := by decide +kernel
theorem dX3_liveYear_52 : decode cX3_liveYear 52 = .ok (.bipush 9, 2) := by decide +kernel
theorem dX3_liveYear_54 : decode cX3_liveYear 54 = .ok (.irem, 1) := by decide +kernel
theorem dX3_liveYear_55 : decode cX3_liveYear 55 = .ok (.iadd, 1) := by decide +kernel
theorem dX3_liveYear_56 : decode cX3_liveYear 56 = .ok (.invokevirtual 59, 3) := by decide +kernel
theorem dX3_liveYear_59 : decode cX3_liveYear 59 = .ok (.iconst 0, 1) := by decide +kernel
theorem dX3_liveYear_60 : decode cX3_liveYear 60 = .ok (.istore 7, 2) := by decide +kernel
theorem dX3_liveYear_62 : decode cX3_liveYear 62 = .ok (.iload 7, 2) := by decide +kernel
theorem dX3_liveYear_64 : decode cX3_liveYear 64 = .ok (.iconst 5, 1) := by decide +kernel
theorem dX3_liveYear_65 : decode cX3_liveYear 65 = .ok (.if_icmp .ge 24, 3) := by decide +kernel
theorem dX3_liveYear_68 : decode cX3_liveYear 68 = .ok (.aload_n 0, 1) := by decide +kernel
theorem dX3_liveYear_69 : decode cX3_liveYear 69 = .ok (.getfield 16, 3) := by decide +kernel
theorem dX3_liveYear_72 : decode cX3_liveYear 72 = .ok (.iload 6, 2) := by decide +kernel
theorem dX3_liveYear_74 : decode cX3_liveYear 74 = .ok (.invokevirtual 233, 3) := by decide +kernel
theorem dX3_liveYear_77 : decode cX3_liveYear 77 = .ok (.ifCond .ne 12, 3) := by decide +kernel
theorem dX3_liveYear_80 : decode cX3_liveYear 80 = .ok (.iinc 4 1, 3) := by decide +kernel
theorem dX3_liveYear_83 : decode cX3_liveYear 83 = .ok (.iinc 7 1, 3) := by decide +kernel
theorem dX3_liveYear_86 : decode cX3_liveYear 86 = .ok (.goto (-24), 3) := by decide +kernel
theorem dX3_liveYear_89 : decode cX3_liveYear 89 = .ok (.aload_n 0, 1) := by decide +kernel
theorem dX3_liveYear_90 : decode cX3_liveYear 90 = .ok (.getfield 16, 3) := by decide +kernel
theorem dX3_liveYear_93 : decode cX3_liveYear 93 = .ok (.invokevirtual 236, 3) := by decide +kernel
theorem dX3_liveYear_96 : decode cX3_liveYear 96 = .ok (.iinc 5 1, 3) := by decide +kernel
theorem dX3_liveYear_99 : decode cX3_liveYear 99 = .ok (.goto (-91), 3) := by decide +kernel
theorem dX3_liveYear_102 : decode cX3_liveYear 102 = .ok (.iload 4, 2) := by decide +kernel
theorem dX3_liveYear_104 : decode cX3_liveYear 104 = .ok (.ireturn, 1) := by decide +kernel
