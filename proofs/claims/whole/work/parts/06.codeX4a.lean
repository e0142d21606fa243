theorem dX4_init_0 : decode cX4_init 0 = .ok (.aload_n 0, 1) := by decide +kernel
theorem dX4_init_1 : decode cX4_init 1 = .ok (.invokespecial 1, 3) := by decide +kernel
theorem dX4_init_4 : decode cX4_init 4 = .ok (.aload_n 0, 1) := by decide +kernel
theorem dX4_init_5 : decode cX4_init 5 = .ok (.bipush 6, 2) := by decide +kernel
theorem dX4_init_7 : decode cX4_init 7 = .ok (.newarray .int, 2) := by decide +kernel
theorem dX4_init_9 : decode cX4_init 9 = .ok (.putfield 7, 3) := by decide +kernel
theorem dX4_init_12 : decode cX4_init 12 = .ok (.aload_n 0, 1) := by decide +kernel
theorem dX4_init_13 : decode cX4_init 13 = .ok (.bipush 6, 2) := by decide +kernel
theorem dX4_init_15 : decode cX4_init 15 = .ok (.newarray .int, 2) := by decide +kernel
theorem dX4_init_17 : decode cX4_init 17 = .ok (.putfield 13, 3) := by decide +kernel
theorem dX4_init_20 : decode cX4_init 20 = .ok (.aload_n 0, 1) := by decide +kernel
theorem dX4_init_21 : decode cX4_init 21 = .ok (.bipush 90, 2) := by decide +kernel
theorem dX4_init_23 : decode cX4_init 23 = .ok (.newarray .int, 2) := by decide +kernel
theorem dX4_init_25 : decode cX4_init 25 = .ok (.putfield 16, 3) := by decide +kernel
theorem dX4_init_28 : decode cX4_init 28 = .ok (.aload_n 0, 1) := by decide +kernel
theorem dX4_init_29 : decode cX4_init 29 = .ok (.bipush 12, 2) := by decide +kernel
theorem dX4_init_31 : decode cX4_init 31 = .ok (.newarray .int, 2) := by decide +kernel
theorem dX4_init_33 : decode cX4_init 33 = .ok (.putfield 19, 3) := by decide +kernel
theorem dX4_init_36 : decode cX4_init 36 = .ok (.aload_n 0, 1) := by decide +kernel
theorem dX4_init_37 : decode cX4_init 37 = .ok (.bipush 60, 2) := by decide +kernel
theorem dX4_init_39 : decode cX4_init 39 = .ok (.newarray .int, 2) := by decide +kernel
theorem dX4_init_41 : decode cX4_init 41 = .ok (.putfield 22, 3) := by decide +kernel
theorem dX4_init_44 : decode cX4_init 44 = .ok (.aload_n 0, 1) := by decide +kernel
theorem dX4_init_45 : decode cX4_init 45 = .ok (.bipush 6, 2) := by decide +kernel
theorem dX4_init_47 : decode cX4_init 47 = .ok (.newarray .int, 2) := by decide +kernel
theorem dX4_init_49 : decode cX4_init 49 = .ok (.putfield 25, 3) := by decide +kernel
theorem dX4_init_52 : decode cX4_init 52 = .ok (.aload_n 0, 1) := by decide +kernel
theorem dX4_init_53 : decode cX4_init 53 = .ok (.bipush 6, 2) := by decide +kernel
theorem dX4_init_55 : decode cX4_init 55 = .ok (.newarray .int, 2) := by decide +kernel
theorem dX4_init_57 : decode cX4_init 57 = .ok (.putfield 28, 3) := by decide +kernel
theorem dX4_init_60 : decode cX4_init 60 = .ok (.aload_n 0, 1) := by decide +kernel
theorem dX4_init_61 : decode cX4_init 61 = .ok (.bipush 90, 2) := by decide +kernel
theorem dX4_init_63 : decode cX4_init 63 = .ok (.newarray .int, 2) := by decide +kernel
theorem dX4_init_65 : decode cX4_init 65 = .ok (.putfield 31, 3) := by decide +kernel
theorem dX4_init_68 : decode cX4_init 68 = .ok (.aload_n 0, 1) := by decide +kernel
theorem dX4_init_69 : decode cX4_init 69 = .ok (.bipush 30, 2) := by decide +kernel
theorem dX4_init_71 : decode cX4_init 71 = .ok (.newarray .int, 2) := by decide +kernel
theorem dX4_init_73 : decode cX4_init 73 = .ok (.putfield 34, 3) := by decide +kernel
theorem dX4_init_76 : decode cX4_init 76 = .ok (.aload_n 0, 1) := by decide +kernel
theorem dX4_init_77 : decode cX4_init 77 = .ok (.bipush 7, 2) := by decide +kernel
theorem dX4_init_79 : decode cX4_init 79 = .ok (.newarray .int, 2) := by decide +kernel
theorem dX4_init_81 : decode cX4_init 81 = .ok (.putfield 37, 3) := by decide +kernel
theorem dX4_init_84 : decode cX4_init 84 = .ok (.aload_n 0, 1) := by decide +kernel
theorem dX4_init_85 : decode cX4_init 85 = .ok (.ldc 40, 2) := by decide +kernel
theorem dX4_init_87 : decode cX4_init 87 = .ok (.newarray .boolean, 2) := by decide +kernel
theorem dX4_init_89 : decode cX4_init 89 = .ok (.putfield 41, 3) := by decide +kernel
theorem dX4_init_92 : decode cX4_init 92 = .ok (.aload_n 0, 1) := by decide +kernel
theorem dX4_init_93 : decode cX4_init 93 = .ok (.sipush 236, 3) := by decide +kernel
theorem dX4_init_96 : decode cX4_init 96 = .ok (.newarray .int, 2) := by decide +kernel
theorem dX4_init_98 : decode cX4_init 98 = .ok (.putfield 45, 3) := by decide +kernel
theorem dX4_init_101 : decode cX4_init 101 = .ok (.aload_n 0, 1) := by decide +kernel
theorem dX4_init_102 : decode cX4_init 102 = .ok (.iconst 2, 1) := by decide +kernel
theorem dX4_init_103 : decode cX4_init 103 = .ok (.newarray .boolean, 2) := by decide +kernel
theorem dX4_init_105 : decode cX4_init 105 = .ok (.putfield 48, 3) := by decide +kernel
theorem dX4_init_108 : decode cX4_init 108 = .ok (.iconst 0, 1) := by decide +kernel
theorem dX4_init_109 : decode cX4_init 109 = .ok (.istore_n 1, 1) := by decide +kernel
theorem dX4_init_110 : decode cX4_init 110 = .ok (.iload_n 1, 1) := by decide +kernel
theorem dX4_init_111 : decode cX4_init 111 = .ok (.bipush 6, 2) := by decide +kernel
theorem dX4_init_113 : decode cX4_init 113 = .ok (.if_icmp .ge 17, 3) := by decide +kernel
theorem dX4_init_116 : decode cX4_init 116 = .ok (.aload_n 0, 1) := by decide +kernel
theorem dX4_init_117 : decode cX4_init 117 = .ok (.getfield 7, 3) := by decide +kernel
theorem dX4_init_120 : decode cX4_init 120 = .ok (.iload_n 1, 1) := by decide +kernel
theorem dX4_init_121 : decode cX4_init 121 = .ok (.bipush 20, 2) := by decide +kernel
theorem dX4_init_123 : decode cX4_init 123 = .ok (.iastore, 1) := by decide +kernel
theorem dX4_init_124 : decode cX4_init 124 = .ok (.iinc 1 1, 3) := by decide +kernel
theorem dX4_init_127 : decode cX4_init 127 = .ok (.goto (-17), 3) := by decide +kernel
theorem dX4_init_130 : decode cX4_init 130 = .ok (.return_, 1) := by decide +kernel
theorem dX4_in_0 : decode cX4_in 0 = .ok (.iload_n 0, 1) := by decide +kernel
theorem dX4_in_1 : decode cX4_in 1 = .ok (.iload_n 1, 1) := by decide +kernel
theorem dX4_in_2 : decode cX4_in 2 = .ok (.if_icmp .lt 12, 3) := by decide +kernel
theorem dX4_in_5 : decode cX4_in 5 = .ok (.iload_n 0, 1) := by decide +kernel
theorem dX4_in_6 : decode cX4_in 6 = .ok (.iload_n 2, 1) := by decide +kernel
theorem dX4_in_7 : decode cX4_in 7 = .ok (.if_icmp .gt 7, 3) := by decide +kernel
theorem dX4_in_10 : decode cX4_in 10 = .ok (.iconst 1, 1) := by decide +kernel
theorem dX4_in_11 : decode cX4_in 11 = .ok (.goto 4, 3) := by decide +kernel
theorem dX4_in_14 : decode cX4_in 14 = .ok (.iconst 0, 1) := by decide +kernel
theorem dX4_in_15 : decode cX4_in 15 = .ok (.ireturn, 1) := by decide +kernel
theorem dX4_has_0 : decode cX4_has 0 = .ok (.iload_n 0, 1) := by decide +kernel
theorem dX4_has_1 : decode cX4_has 1 = .ok (.iload_n 1, 1) := by decide +kernel
theorem dX4_has_2 : decode cX4_has 2 = .ok (.ishr, 1) := by decide +kernel
theorem dX4_has_3 : decode cX4_has 3 = .ok (.iconst 1, 1) := by decide +kernel
theorem dX4_has_4 : decode cX4_has 4 = .ok (.iand, 1) := by decide +kernel
theorem dX4_has_5 : decode cX4_has 5 = .ok (.iconst 1, 1) := by decide +kernel
theorem dX4_has_6 : decode cX4_has 6 = .ok (.if_icmp .ne 7, 3) := by decide +kernel
theorem dX4_has_9 : decode cX4_has 9 = .ok (.iconst 1, 1) := by decide +kernel
theorem dX4_has_10 : decode cX4_has 10 = .ok (.goto 4, 3) := by decide +kernel
theorem dX4_has_13 : decode cX4_has 13 = .ok (.iconst 0, 1) := by decide +kernel
theorem dX4_has_14 : decode cX4_has 14 = .ok (.ireturn, 1) := by decide +kernel
set_option maxRecDepth 20000 in
theorem ggX4_isMan_X4_in : GoodIn wsX4_isMan wsX4_in := goodIn_r _ [4] (by decide +kernel) (by decide +kernel)
set_option maxRecDepth 20000 in
theorem gX4_isMan_X4_in : GoodIn wsX4_isMan (va_wsS RX4 51 yX4_in wsX4_in) := goodIn_app (goodIn_of _ (by decide +kernel)) ggX4_isMan_X4_in
theorem dX4_isMan_0 : decode cX4_isMan 0 = .ok (.iload_n 0, 1) := by decide +kernel
theorem dX4_isMan_1 : decode cX4_isMan 1 = .ok (.iconst 0, 1) := by decide +kernel
theorem dX4_isMan_2 : decode cX4_isMan 2 = .ok (.iconst 5, 1) := by decide +kernel
theorem dX4_isMan_3 : decode cX4_isMan 3 = .ok (.invokestatic 51, 3) := by decide +kernel
theorem dX4_isMan_6 : decode cX4_isMan 6 = .ok (.ireturn, 1) := by decide +kernel
theorem dX4_at_0 : decode cX4_at 0 = .ok (.bipush 15, 2) := by decide +kernel
theorem dX4_at_2 : decode cX4_at 2 = .ok (.iload_n 0, 1) := by decide +kernel
theorem dX4_at_3 : decode cX4_at 3 = .ok (.imul, 1) := by decide +kernel
theorem dX4_at_4 : decode cX4_at 4 = .ok (.iconst 3, 1) := by decide +kernel
theorem dX4_at_5 : decode cX4_at 5 = .ok (.iload_n 1, 1) := by decide +kernel
theorem dX4_at_6 : decode cX4_at 6 = .ok (.imul, 1) := by decide +kernel
theorem dX4_at_7 : decode cX4_at 7 = .ok (.iadd, 1) := by decide +kernel
theorem dX4_at_8 : decode cX4_at 8 = .ok (.ireturn, 1) := by decide +kernel
set_option maxRecDepth 20000 in
theorem ggX4_isDebt_X4_isMan : GoodIn wsX4_isDebt wsX4_isMan := goodIn_r _ [5, 6, 7, 4, 8] (by decide +kernel) (by decide +kernel)
set_option maxRecDepth 20000 in
theorem gX4_isDebt_X4_isMan : GoodIn wsX4_isDebt (va_wsS RX4 55 yX4_isMan wsX4_isMan) := goodIn_app (goodIn_of _ (by decide +kernel)) ggX4_isDebt_X4_isMan
set_option maxRecDepth 20000 in
theorem ggX4_isDebt_X4_in : GoodIn wsX4_isDebt wsX4_in := goodIn_r _ [8] (by decide +kernel) (by decide +kernel)
set_option maxRecDepth 20000 in
theorem gX4_isDebt_X4_in : GoodIn wsX4_isDebt (va_wsS RX4 51 yX4_in wsX4_in) := goodIn_app (goodIn_of _ (by decide +kernel)) ggX4_isDebt_X4_in
theorem dX4_isDebt_0 : decode cX4_isDebt 0 = .ok (.iload_n 1, 1) := by decide +kernel
theorem dX4_isDebt_1 : decode cX4_isDebt 1 = .ok (.invokestatic 55, 3) := by decide +kernel
theorem dX4_isDebt_4 : decode cX4_isDebt 4 = .ok (.ifCond .eq 23, 3) := by decide +kernel
theorem dX4_isDebt_7 : decode cX4_isDebt 7 = .ok (.iload_n 2, 1) := by decide +kernel
theorem dX4_isDebt_8 : decode cX4_isDebt 8 = .ok (.iconst 0, 1) := by decide +kernel
theorem dX4_isDebt_9 : decode cX4_isDebt 9 = .ok (.aload_n 0, 1) := by decide +kernel
theorem dX4_isDebt_10 : decode cX4_isDebt 10 = .ok (.getfield 13, 3) := by decide +kernel
theorem dX4_isDebt_13 : decode cX4_isDebt 13 = .ok (.iload_n 1, 1) := by decide +kernel
theorem dX4_isDebt_14 : decode cX4_isDebt 14 = .ok (.iaload, 1) := by decide +kernel
theorem dX4_isDebt_15 : decode cX4_isDebt 15 = .ok (.iconst 1, 1) := by decide +kernel
theorem dX4_isDebt_16 : decode cX4_isDebt 16 = .ok (.isub, 1) := by decide +kernel
theorem dX4_isDebt_17 : decode cX4_isDebt 17 = .ok (.invokestatic 51, 3) := by decide +kernel
theorem dX4_isDebt_20 : decode cX4_isDebt 20 = .ok (.ifCond .eq 7, 3) := by decide +kernel
theorem dX4_isDebt_23 : decode cX4_isDebt 23 = .ok (.iconst 1, 1) := by decide +kernel
theorem dX4_isDebt_24 : decode cX4_isDebt 24 = .ok (.goto 4, 3) := by decide +kernel
theorem dX4_isDebt_27 : decode cX4_isDebt 27 = .ok (.iconst 0, 1) := by decide +kernel
theorem dX4_isDebt_28 : decode cX4_isDebt 28 = .ok (.ireturn, 1) := by decide +kernel
set_option maxRecDepth 20000 in
theorem ggX4_money_X4_isMan : GoodIn wsX4_money wsX4_isMan := goodIn_r _ [5, 6, 7, 4, 8] (by decide +kernel) (by decide +kernel)
set_option maxRecDepth 20000 in
theorem gX4_money_X4_isMan : GoodIn wsX4_money (va_wsS RX4 55 yX4_isMan wsX4_isMan) := goodIn_app (goodIn_of _ (by decide +kernel)) ggX4_money_X4_isMan
set_option maxRecDepth 20000 in
theorem ggX4_money_X4_in : GoodIn wsX4_money wsX4_in := goodIn_r _ [8] (by decide +kernel) (by decide +kernel)
set_option maxRecDepth 20000 in
theorem gX4_money_X4_in : GoodIn wsX4_money (va_wsS RX4 51 yX4_in wsX4_in) := goodIn_app (goodIn_of _ (by decide +kernel)) ggX4_money_X4_in
theorem dX4_money_0 : decode cX4_money 0 = .ok (.iload_n 1, 1) := by decide +kernel
theorem dX4_money_1 : decode cX4_money 1 = .ok (.invokestatic 55, 3) := by decide +kernel
theorem dX4_money_4 : decode cX4_money 4 = .ok (.ifCond .ne 5, 3) := by decide +kernel
theorem dX4_money_7 : decode cX4_money 7 = .ok (.iconst (-1), 1) := by decide +kernel
theorem dX4_money_8 : decode cX4_money 8 = .ok (.ireturn, 1) := by decide +kernel
theorem dX4_money_9 : decode cX4_money 9 = .ok (.iload_n 2, 1) := by decide +kernel
theorem dX4_money_10 : decode cX4_money 10 = .ok (.iconst 0, 1) := by decide +kernel
theorem dX4_money_11 : decode cX4_money 11 = .ok (.sipush 999, 3) := by decide +kernel
theorem dX4_money_14 : decode cX4_money 14 = .ok (.invokestatic 51, 3) := by decide +kernel
theorem dX4_money_17 : decode cX4_money 17 = .ok (.ifCond .ne 6, 3) := by decide +kernel
theorem dX4_money_20 : decode cX4_money 20 = .ok (.bipush (-2), 2) := by decide +kernel
theorem dX4_money_22 : decode cX4_money 22 = .ok (.ireturn, 1) := by decide +kernel
theorem dX4_money_23 : decode cX4_money 23 = .ok (.aload_n 0, 1) := by decide +kernel
theorem dX4_money_24 : decode cX4_money 24 = .ok (.getfield 7, 3) := by decide +kernel
theorem dX4_money_27 : decode cX4_money 27 = .ok (.iload_n 1, 1) := by decide +kernel
theorem dX4_money_28 : decode cX4_money 28 = .ok (.iaload, 1) := by decide +kernel
theorem dX4_money_29 : decode cX4_money 29 = .ok (.istore_n 3, 1) := by decide +kernel
theorem dX4_money_30 : decode cX4_money 30 = .ok (.aload_n 0, 1) := by decide +kernel
theorem dX4_money_31 : decode cX4_money 31 = .ok (.getfield 7, 3) := by decide +kernel
theorem dX4_money_34 : decode cX4_money 34 = .ok (.iload_n 1, 1) := by decide +kernel
theorem dX4_money_35 : decode cX4_money 35 = .ok (.iload_n 2, 1) := by decide +kernel
theorem dX4_money_36 : decode cX4_money 36 = .ok (.iastore, 1) := by decide +kernel
theorem dX4_money_37 : decode cX4_money 37 = .ok (.iload_n 3, 1) := by decide +kernel
theorem dX4_money_38 : decode cX4_money 38 = .ok (.ireturn, 1) := by decide +kernel
set_option maxRecDepth 20000 in
theorem ggX4_set_X4_in : GoodIn wsX4_set wsX4_in := goodIn_r _ [6] (by decide +kernel) (by decide +kernel)
set_option maxRecDepth 20000 in
theorem gX4_set_X4_in : GoodIn wsX4_set (va_wsS RX4 51 yX4_in wsX4_in) := goodIn_app (goodIn_of _ (by decide +kernel)) ggX4_set_X4_in
theorem dX4_set_0 : decode cX4_set 0 = .ok (.iload_n 1, 1) := by decide +kernel
theorem dX4_set_1 : decode cX4_set 1 = .ok (.iconst 0, 1) := by decide +kernel
theorem dX4_set_2 : decode cX4_set 2 = .ok (.iconst 1, 1) := by decide +kernel
theorem dX4_set_3 : decode cX4_set 3 = .ok (.invokestatic 51, 3) := by decide +kernel
theorem dX4_set_6 : decode cX4_set 6 = .ok (.ifCond .eq 21, 3) := by decide +kernel
theorem dX4_set_9 : decode cX4_set 9 = .ok (.iload_n 2, 1) := by decide +kernel
theorem dX4_set_10 : decode cX4_set 10 = .ok (.iconst 0, 1) := by decide +kernel
theorem dX4_set_11 : decode cX4_set 11 = .ok (.iload_n 1, 1) := by decide +kernel
theorem dX4_set_12 : decode cX4_set 12 = .ok (.ifCond .ne 7, 3) := by decide +kernel
theorem dX4_set_15 : decode cX4_set 15 = .ok (.iconst 2, 1) := by decide +kernel
theorem dX4_set_16 : decode cX4_set 16 = .ok (.goto 5, 3) := by decide +kernel
theorem dX4_set_19 : decode cX4_set 19 = .ok (.bipush 9, 2) := by decide +kernel
theorem dX4_set_21 : decode cX4_set 21 = .ok (.invokestatic 51, 3) := by decide +kernel
theorem dX4_set_24 : decode cX4_set 24 = .ok (.ifCond .ne 6, 3) := by decide +kernel
theorem dX4_set_27 : decode cX4_set 27 = .ok (.bipush (-2), 2) := by decide +kernel
theorem dX4_set_29 : decode cX4_set 29 = .ok (.ireturn, 1) := by decide +kernel
theorem dX4_set_30 : decode cX4_set 30 = .ok (.iload_n 1, 1) := by decide +kernel
theorem dX4_set_31 : decode cX4_set 31 = .ok (.ifCond .ne 10, 3) := by decide +kernel
theorem dX4_set_34 : decode cX4_set 34 = .ok (.aload_n 0, 1) := by decide +kernel
theorem dX4_set_35 : decode cX4_set 35 = .ok (.getfield 59, 3) := by decide +kernel
theorem dX4_set_38 : decode cX4_set 38 = .ok (.goto 7, 3) := by decide +kernel
theorem dX4_set_41 : decode cX4_set 41 = .ok (.aload_n 0, 1) := by decide +kernel
theorem dX4_set_42 : decode cX4_set 42 = .ok (.getfield 63, 3) := by decide +kernel
theorem dX4_set_45 : decode cX4_set 45 = .ok (.istore_n 3, 1) := by decide +kernel
theorem dX4_set_46 : decode cX4_set 46 = .ok (.aload_n 0, 1) := by decide +kernel
theorem dX4_set_47 : decode cX4_set 47 = .ok (.iload_n 1, 1) := by decide +kernel
theorem dX4_set_48 : decode cX4_set 48 = .ok (.ifCond .ne 7, 3) := by decide +kernel
theorem dX4_set_51 : decode cX4_set 51 = .ok (.iload_n 2, 1) := by decide +kernel
theorem dX4_set_52 : decode cX4_set 52 = .ok (.goto 7, 3) := by decide +kernel
theorem dX4_set_55 : decode cX4_set 55 = .ok (.aload_n 0, 1) := by decide +kernel
theorem dX4_set_56 : decode cX4_set 56 = .ok (.getfield 59, 3) := by decide +kernel
theorem dX4_set_59 : decode cX4_set 59 = .ok (.putfield 59, 3) := by decide +kernel
theorem dX4_set_62 : decode cX4_set 62 = .ok (.aload_n 0, 1) := by decide +kernel
theorem dX4_set_63 : decode cX4_set 63 = .ok (.iload_n 1, 1) := by decide +kernel
theorem dX4_set_64 : decode cX4_set 64 = .ok (.iconst 1, 1) := by decide +kernel
theorem dX4_set_65 : decode cX4_set 65 = .ok (.if_icmp .ne 7, 3) := by decide +kernel
theorem dX4_set_68 : decode cX4_set 68 = .ok (.iload_n 2, 1) := by decide +kernel
theorem dX4_set_69 : decode cX4_set 69 = .ok (.goto 7, 3) := by decide +kernel
theorem dX4_set_72 : decode cX4_set 72 = .ok (.aload_n 0, 1) := by decide +kernel
theorem dX4_set_73 : decode cX4_set 73 = .ok (.getfield 63, 3) := by decide +kernel
theorem dX4_set_76 : decode cX4_set 76 = .ok (.putfield 63, 3) := by decide +kernel
theorem dX4_set_79 : decode cX4_set 79 = .ok (.iload_n 3, 1) := by decide +kernel
theorem dX4_set_80 : decode cX4_set 80 = .ok (.ireturn, 1) := by decide +kernel
set_option maxRecDepth 20000 in
theorem ggX4_say_X4_in : GoodIn wsX4_say wsX4_in := goodIn_r _ [6] (by decide +kernel) (by decide +kernel)
set_option maxRecDepth 20000 in
theorem gX4_say_X4_in : GoodIn wsX4_say (va_wsS RX4 51 yX4_in wsX4_in) := goodIn_app (goodIn_of _ (by decide +kernel)) ggX4_say_X4_in
theorem dX4_say_0 : decode cX4_say 0 = .ok (.iload_n 1, 1) := by decide +kernel
theorem dX4_say_1 : decode cX4_say 1 = .ok (.bipush 33, 2) := by decide +kernel
theorem dX4_say_3 : decode cX4_say 3 = .ok (.bipush 126, 2) := by decide +kernel
theorem dX4_say_5 : decode cX4_say 5 = .ok (.invokestatic 51, 3) := by decide +kernel
theorem dX4_say_8 : decode cX4_say 8 = .ok (.ifCond .ne 6, 3) := by decide +kernel
theorem dX4_say_11 : decode cX4_say 11 = .ok (.bipush (-2), 2) := by decide +kernel
theorem dX4_say_13 : decode cX4_say 13 = .ok (.ireturn, 1) := by decide +kernel
theorem dX4_say_14 : decode cX4_say 14 = .ok (.aload_n 0, 1) := by decide +kernel
theorem dX4_say_15 : decode cX4_say 15 = .ok (.getfield 66, 3) := by decide +kernel
theorem dX4_say_18 : decode cX4_say 18 = .ok (.bipush 60, 2) := by decide +kernel
theorem dX4_say_20 : decode cX4_say 20 = .ok (.if_icmp .ne 6, 3) := by decide +kernel
theorem dX4_say_23 : decode cX4_say 23 = .ok (.bipush (-4), 2) := by decide +kernel
theorem dX4_say_25 : decode cX4_say 25 = .ok (.ireturn, 1) := by decide +kernel
theorem dX4_say_26 : decode cX4_say 26 = .ok (.aload_n 0, 1) := by decide +kernel
theorem dX4_say_27 : decode cX4_say 27 = .ok (.getfield 22, 3) := by decide +kernel
theorem dX4_say_30 : decode cX4_say 30 = .ok (.aload_n 0, 1) := by decide +kernel
theorem dX4_say_31 : decode cX4_say 31 = .ok (.getfield 66, 3) := by decide +kernel
theorem dX4_say_34 : decode cX4_say 34 = .ok (.iload_n 1, 1) := by decide +kernel
theorem dX4_say_35 : decode cX4_say 35 = .ok (.iastore, 1) := by decide +kernel
theorem dX4_say_36 : decode cX4_say 36 = .ok (.aload_n 0, 1) := by decide +kernel
theorem dX4_say_37 : decode cX4_say 37 = .ok (.dup, 1) := by decide +kernel
theorem dX4_say_38 : decode cX4_say 38 = .ok (.getfield 66, 3) := by decide +kernel
theorem dX4_say_41 : decode cX4_say 41 = .ok (.iconst 1, 1) := by decide +kernel
theorem dX4_say_42 : decode cX4_say 42 = .ok (.iadd, 1) := by decide +kernel
theorem dX4_say_43 : decode cX4_say 43 = .ok (.putfield 66, 3) := by decide +kernel
theorem dX4_say_46 : decode cX4_say 46 = .ok (.aload_n 0, 1) := by decide +kernel
theorem dX4_say_47 : decode cX4_say 47 = .ok (.getfield 66, 3) := by decide +kernel
theorem dX4_say_50 : decode cX4_say 50 = .ok (.ireturn, 1) := by decide +kernel
theorem dX4_wipe_0 : decode cX4_wipe 0 = .ok (.aload_n 0, 1) := by decide +kernel
theorem dX4_wipe_1 : decode cX4_wipe 1 = .ok (.getfield 66, 3) := by decide +kernel
theorem dX4_wipe_4 : decode cX4_wipe 4 = .ok (.istore_n 1, 1) := by decide +kernel
theorem dX4_wipe_5 : decode cX4_wipe 5 = .ok (.aload_n 0, 1) := by decide +kernel
theorem dX4_wipe_6 : decode cX4_wipe 6 = .ok (.iconst 0, 1) := by decide +kernel
theorem dX4_wipe_7 : decode cX4_wipe 7 = .ok (.putfield 66, 3) := by decide +kernel
theorem dX4_wipe_10 : decode cX4_wipe 10 = .ok (.iload_n 1, 1) := by decide +kernel
theorem dX4_wipe_11 : decode cX4_wipe 11 = .ok (.ireturn, 1) := by decide +kernel
set_option maxRecDepth 20000 in
theorem ggX4_faultOf_X4_in : GoodIn wsX4_faultOf wsX4_in := goodIn_r _ [6] (by decide +kernel) (by decide +kernel)
set_option maxRecDepth 20000 in
theorem gX4_faultOf_X4_in : GoodIn wsX4_faultOf (va_wsS RX4 51 yX4_in wsX4_in) := goodIn_app (goodIn_of _ (by decide +kernel)) ggX4_faultOf_X4_in
theorem dX4_faultOf_0 : decode cX4_faultOf 0 = .ok (.iconst 0, 1) := by decide +kernel
theorem dX4_faultOf_1 : decode cX4_faultOf 1 = .ok (.istore_n 1, 1) := by decide +kernel
theorem dX4_faultOf_2 : decode cX4_faultOf 2 = .ok (.iconst 0, 1) := by decide +kernel
theorem dX4_faultOf_3 : decode cX4_faultOf 3 = .ok (.istore_n 2, 1) := by decide +kernel
theorem dX4_faultOf_4 : decode cX4_faultOf 4 = .ok (.iconst 0, 1) := by decide +kernel
theorem dX4_faultOf_5 : decode cX4_faultOf 5 = .ok (.istore_n 3, 1) := by decide +kernel
theorem dX4_faultOf_6 : decode cX4_faultOf 6 = .ok (.iconst 0, 1) := by decide +kernel
theorem dX4_faultOf_7 : decode cX4_faultOf 7 = .ok (.istore 4, 2) := by decide +kernel
theorem dX4_faultOf_9 : decode cX4_faultOf 9 = .ok (.iload 4, 2) := by decide +kernel
theorem dX4_faultOf_11 : decode cX4_faultOf 11 = .ok (.aload_n 0, 1) := by decide +kernel
theorem dX4_faultOf_12 : decode cX4_faultOf 12 = .ok (.getfield 66, 3) := by decide +kernel
theorem dX4_faultOf_15 : decode cX4_faultOf 15 = .ok (.if_icmp .ge 233, 3) := by decide +kernel
theorem dX4_faultOf_18 : decode cX4_faultOf 18 = .ok (.aload_n 0, 1) := by decide +kernel
theorem dX4_faultOf_19 : decode cX4_faultOf 19 = .ok (.getfield 22, 3) := by decide +kernel
theorem dX4_faultOf_22 : decode cX4_faultOf 22 = .ok (.iload 4, 2) := by decide +kernel
theorem dX4_faultOf_24 : decode cX4_faultOf 24 = .ok (.iaload, 1) := by decide +kernel
theorem dX4_faultOf_25 : decode cX4_faultOf 25 = .ok (.istore 5, 2) := by decide +kernel
theorem dX4_faultOf_27 : decode cX4_faultOf 27 = .ok (.iload 5, 2) := by decide +kernel
theorem dX4_faultOf_29 : decode cX4_faultOf 29 = .ok (.bipush 65, 2) := by decide +kernel
theorem dX4_faultOf_31 : decode cX4_faultOf 31 = .ok (.bipush 70, 2) := by decide +kernel
theorem dX4_faultOf_33 : decode cX4_faultOf 33 = .ok (.invokestatic 51, 3) := by decide +kernel
theorem dX4_faultOf_36 : decode cX4_faultOf 36 = .ok (.istore 6, 2) := by decide +kernel
theorem dX4_faultOf_38 : decode cX4_faultOf 38 = .ok (.iload_n 1, 1) := by decide +kernel
theorem dX4_faultOf_39 : decode cX4_faultOf 39 = .ok (.iconst 5, 1) := by decide +kernel
theorem dX4_faultOf_40 : decode cX4_faultOf 40 = .ok (.if_icmp .ne 23, 3) := by decide +kernel
theorem dX4_faultOf_43 : decode cX4_faultOf 43 = .ok (.iload 5, 2) := by decide +kernel
theorem dX4_faultOf_45 : decode cX4_faultOf 45 = .ok (.bipush 48, 2) := by decide +kernel
theorem dX4_faultOf_47 : decode cX4_faultOf 47 = .ok (.bipush 57, 2) := by decide +kernel
theorem dX4_faultOf_49 : decode cX4_faultOf 49 = .ok (.invokestatic 51, 3) := by decide +kernel
theorem dX4_faultOf_52 : decode cX4_faultOf 52 = .ok (.ifCond .eq 11, 3) := by decide +kernel
theorem dX4_faultOf_55 : decode cX4_faultOf 55 = .ok (.iconst 1, 1) := by decide +kernel
theorem dX4_faultOf_56 : decode cX4_faultOf 56 = .ok (.istore 7, 2) := by decide +kernel
theorem dX4_faultOf_58 : decode cX4_faultOf 58 = .ok (.iconst 0, 1) := by decide +kernel
theorem dX4_faultOf_59 : decode cX4_faultOf 59 = .ok (.istore_n 1, 1) := by decide +kernel
theorem dX4_faultOf_60 : decode cX4_faultOf 60 = .ok (.goto 174, 3) := by decide +kernel
theorem dX4_faultOf_63 : decode cX4_faultOf 63 = .ok (.iload_n 1, 1) := by decide +kernel
theorem dX4_faultOf_64 : decode cX4_faultOf 64 = .ok (.ifCond .eq 8, 3) := by decide +kernel
theorem dX4_faultOf_67 : decode cX4_faultOf 67 = .ok (.iload_n 1, 1) := by decide +kernel
theorem dX4_faultOf_68 : decode cX4_faultOf 68 = .ok (.iconst 5, 1) := by decide +kernel
theorem dX4_faultOf_69 : decode cX4_faultOf 69 = .ok (.if_icmp .ne 77, 3) := by decide +kernel
theorem dX4_faultOf_72 : decode cX4_faultOf 72 = .ok (.iload_n 2, 1) := by decide +kernel
theorem dX4_faultOf_73 : decode cX4_faultOf 73 = .ok (.iload 5, 2) := by decide +kernel
theorem dX4_faultOf_75 : decode cX4_faultOf 75 = .ok (.bipush 63, 2) := by decide +kernel
theorem dX4_faultOf_77 : decode cX4_faultOf 77 = .ok (.if_icmp .ne 7, 3) := by decide +kernel
theorem dX4_faultOf_80 : decode cX4_faultOf 80 = .ok (.iconst 1, 1) := by decide +kernel
theorem dX4_faultOf_81 : decode cX4_faultOf 81 = .ok (.goto 4, 3) := by decide +kernel
theorem dX4_faultOf_84 : decode cX4_faultOf 84 = .ok (.iconst 0, 1) := by decide +kernel
theorem dX4_faultOf_85 : decode cX4_faultOf 85 = .ok (.iadd, 1) := by decide +kernel
theorem dX4_faultOf_86 : decode cX4_faultOf 86 = .ok (.istore_n 2, 1) := by decide +kernel
theorem dX4_faultOf_87 : decode cX4_faultOf 87 = .ok (.iload 6, 2) := by decide +kernel
theorem dX4_faultOf_89 : decode cX4_faultOf 89 = .ok (.ifCond .ne 22, 3) := by decide +kernel
theorem dX4_faultOf_92 : decode cX4_faultOf 92 = .ok (.iload 5, 2) := by decide +kernel
theorem dX4_faultOf_94 : decode cX4_faultOf 94 = .ok (.bipush 46, 2) := by decide +kernel
theorem dX4_faultOf_96 : decode cX4_faultOf 96 = .ok (.if_icmp .eq 15, 3) := by decide +kernel
theorem dX4_faultOf_99 : decode cX4_faultOf 99 = .ok (.iload 5, 2) := by decide +kernel
theorem dX4_faultOf_101 : decode cX4_faultOf 101 = .ok (.bipush 63, 2) := by decide +kernel
theorem dX4_faultOf_103 : decode cX4_faultOf 103 = .ok (.if_icmp .ne 12, 3) := by decide +kernel
theorem dX4_faultOf_106 : decode cX4_faultOf 106 = .ok (.iload_n 2, 1) := by decide +kernel
theorem dX4_faultOf_107 : decode cX4_faultOf 107 = .ok (.iconst 4, 1) := by decide +kernel
theorem dX4_faultOf_108 : decode cX4_faultOf 108 = .ok (.if_icmp .ge 7, 3) := by decide +kernel
theorem dX4_faultOf_111 : decode cX4_faultOf 111 = .ok (.iconst 1, 1) := by decide +kernel
theorem dX4_faultOf_112 : decode cX4_faultOf 112 = .ok (.goto 4, 3) := by decide +kernel
theorem dX4_faultOf_115 : decode cX4_faultOf 115 = .ok (.iconst 0, 1) := by decide +kernel
theorem dX4_faultOf_116 : decode cX4_faultOf 116 = .ok (.istore 7, 2) := by decide +kernel
theorem dX4_faultOf_118 : decode cX4_faultOf 118 = .ok (.iload 5, 2) := by decide +kernel
theorem dX4_faultOf_120 : decode cX4_faultOf 120 = .ok (.istore_n 3, 1) := by decide +kernel
theorem dX4_faultOf_121 : decode cX4_faultOf 121 = .ok (.iload 6, 2) := by decide +kernel
theorem dX4_faultOf_123 : decode cX4_faultOf 123 = .ok (.ifCond .eq 7, 3) := by decide +kernel
theorem dX4_faultOf_126 : decode cX4_faultOf 126 = .ok (.iconst 1, 1) := by decide +kernel
theorem dX4_faultOf_127 : decode cX4_faultOf 127 = .ok (.goto 15, 3) := by decide +kernel
theorem dX4_faultOf_130 : decode cX4_faultOf 130 = .ok (.iload 5, 2) := by decide +kernel
theorem dX4_faultOf_132 : decode cX4_faultOf 132 = .ok (.bipush 46, 2) := by decide +kernel
theorem dX4_faultOf_134 : decode cX4_faultOf 134 = .ok (.if_icmp .ne 7, 3) := by decide +kernel
theorem dX4_faultOf_137 : decode cX4_faultOf 137 = .ok (.iconst 0, 1) := by decide +kernel
theorem dX4_faultOf_138 : decode cX4_faultOf 138 = .ok (.goto 4, 3) := by decide +kernel
theorem dX4_faultOf_141 : decode cX4_faultOf 141 = .ok (.iconst 2, 1) := by decide +kernel
theorem dX4_faultOf_142 : decode cX4_faultOf 142 = .ok (.istore_n 1, 1) := by decide +kernel
theorem dX4_faultOf_143 : decode cX4_faultOf 143 = .ok (.goto 91, 3) := by decide +kernel
theorem dX4_faultOf_146 : decode cX4_faultOf 146 = .ok (.iload_n 1, 1) := by decide +kernel
theorem dX4_faultOf_147 : decode cX4_faultOf 147 = .ok (.iconst 3, 1) := by decide +kernel
theorem dX4_faultOf_148 : decode cX4_faultOf 148 = .ok (.if_icmp .ge 45, 3) := by decide +kernel
theorem dX4_faultOf_151 : decode cX4_faultOf 151 = .ok (.iload 5, 2) := by decide +kernel
theorem dX4_faultOf_153 : decode cX4_faultOf 153 = .ok (.bipush 62, 2) := by decide +kernel
theorem dX4_faultOf_155 : decode cX4_faultOf 155 = .ok (.if_icmp .eq 15, 3) := by decide +kernel
theorem dX4_faultOf_158 : decode cX4_faultOf 158 = .ok (.iload 5, 2) := by decide +kernel
theorem dX4_faultOf_160 : decode cX4_faultOf 160 = .ok (.bipush 33, 2) := by decide +kernel
theorem dX4_faultOf_162 : decode cX4_faultOf 162 = .ok (.if_icmp .ne 12, 3) := by decide +kernel
theorem dX4_faultOf_165 : decode cX4_faultOf 165 = .ok (.iload_n 1, 1) := by decide +kernel
theorem dX4_faultOf_166 : decode cX4_faultOf 166 = .ok (.iconst 1, 1) := by decide +kernel
theorem dX4_faultOf_167 : decode cX4_faultOf 167 = .ok (.if_icmp .ne 7, 3) := by decide +kernel
theorem dX4_faultOf_170 : decode cX4_faultOf 170 = .ok (.iconst 1, 1) := by decide +kernel
theorem dX4_faultOf_171 : decode cX4_faultOf 171 = .ok (.goto 4, 3) := by decide +kernel
theorem dX4_faultOf_174 : decode cX4_faultOf 174 = .ok (.iconst 0, 1) := by decide +kernel
theorem dX4_faultOf_175 : decode cX4_faultOf 175 = .ok (.istore 7, 2) := by decide +kernel
theorem dX4_faultOf_177 : decode cX4_faultOf 177 = .ok (.iload 5, 2) := by decide +kernel
theorem dX4_faultOf_179 : decode cX4_faultOf 179 = .ok (.bipush 62, 2) := by decide +kernel
theorem dX4_faultOf_181 : decode cX4_faultOf 181 = .ok (.if_icmp .ne 7, 3) := by decide +kernel
theorem dX4_faultOf_184 : decode cX4_faultOf 184 = .ok (.iconst 3, 1) := by decide +kernel
theorem dX4_faultOf_185 : decode cX4_faultOf 185 = .ok (.goto 4, 3) := by decide +kernel
theorem dX4_faultOf_188 : decode cX4_faultOf 188 = .ok (.iconst 0, 1) := by decide +kernel
theorem dX4_faultOf_189 : decode cX4_faultOf 189 = .ok (.istore_n 1, 1) := by decide +kernel
theorem dX4_faultOf_190 : decode cX4_faultOf 190 = .ok (.goto 44, 3) := by decide +kernel
theorem dX4_faultOf_193 : decode cX4_faultOf 193 = .ok (.iload_n 1, 1) := by decide +kernel
theorem dX4_faultOf_194 : decode cX4_faultOf 194 = .ok (.iconst 3, 1) := by decide +kernel
theorem dX4_faultOf_195 : decode cX4_faultOf 195 = .ok (.if_icmp .ne 26, 3) := by decide +kernel
theorem dX4_faultOf_198 : decode cX4_faultOf 198 = .ok (.iload 6, 2) := by decide +kernel
theorem dX4_faultOf_200 : decode cX4_faultOf 200 = .ok (.ifCond .eq 13, 3) := by decide +kernel
theorem dX4_faultOf_203 : decode cX4_faultOf 203 = .ok (.iload 5, 2) := by decide +kernel
theorem dX4_faultOf_205 : decode cX4_faultOf 205 = .ok (.iload_n 3, 1) := by decide +kernel
theorem dX4_faultOf_206 : decode cX4_faultOf 206 = .ok (.if_icmp .eq 7, 3) := by decide +kernel
theorem dX4_faultOf_209 : decode cX4_faultOf 209 = .ok (.iconst 1, 1) := by decide +kernel
theorem dX4_faultOf_210 : decode cX4_faultOf 210 = .ok (.goto 4, 3) := by decide +kernel
theorem dX4_faultOf_213 : decode cX4_faultOf 213 = .ok (.iconst 0, 1) := by decide +kernel
theorem dX4_faultOf_214 : decode cX4_faultOf 214 = .ok (.istore 7, 2) := by decide +kernel
theorem dX4_faultOf_216 : decode cX4_faultOf 216 = .ok (.iconst 4, 1) := by decide +kernel
theorem dX4_faultOf_217 : decode cX4_faultOf 217 = .ok (.istore_n 1, 1) := by decide +kernel
theorem dX4_faultOf_218 : decode cX4_faultOf 218 = .ok (.goto 16, 3) := by decide +kernel
theorem dX4_faultOf_221 : decode cX4_faultOf 221 = .ok (.iload 5, 2) := by decide +kernel
theorem dX4_faultOf_223 : decode cX4_faultOf 223 = .ok (.bipush 49, 2) := by decide +kernel
theorem dX4_faultOf_225 : decode cX4_faultOf 225 = .ok (.bipush 57, 2) := by decide +kernel
theorem dX4_faultOf_227 : decode cX4_faultOf 227 = .ok (.invokestatic 51, 3) := by decide +kernel
theorem dX4_faultOf_230 : decode cX4_faultOf 230 = .ok (.istore 7, 2) := by decide +kernel
theorem dX4_faultOf_232 : decode cX4_faultOf 232 = .ok (.iconst 5, 1) := by decide +kernel
theorem dX4_faultOf_233 : decode cX4_faultOf 233 = .ok (.istore_n 1, 1) := by decide +kernel
theorem dX4_faultOf_234 : decode cX4_faultOf 234 = .ok (.iload 7, 2) := by decide +kernel
theorem dX4_faultOf_236 : decode cX4_faultOf 236 = .ok (.ifCond .ne 6, 3) := by decide +kernel
theorem dX4_faultOf_239 : decode cX4_faultOf 239 = .ok (.iload 4, 2) := by decide +kernel
theorem dX4_faultOf_241 : decode cX4_faultOf 241 = .ok (.ireturn, 1) := by decide +kernel
theorem dX4_faultOf_242 : decode cX4_faultOf 242 = .ok (.iinc 4 1, 3) := by decide +kernel
theorem dX4_faultOf_245 : decode cX4_faultOf 245 = .ok (.goto (-236), 3) := by decide +kernel
theorem dX4_faultOf_248 : decode cX4_faultOf 248 = .ok (.iload_n 1, 1) := by decide +kernel
theorem dX4_faultOf_249 : decode cX4_faultOf 249 = .ok (.ifCond .eq 8, 3) := by decide +kernel
theorem dX4_faultOf_252 : decode cX4_faultOf 252 = .ok (.iload_n 1, 1) := by decide +kernel
theorem dX4_faultOf_253 : decode cX4_faultOf 253 = .ok (.iconst 5, 1) := by decide +kernel
theorem dX4_faultOf_254 : decode cX4_faultOf 254 = .ok (.if_icmp .ne 8, 3) := by decide +kernel
theorem dX4_faultOf_257 : decode cX4_faultOf 257 = .ok (.bipush (-6), 2) := by decide +kernel
theorem dX4_faultOf_259 : decode cX4_faultOf 259 = .ok (.goto 7, 3) := by decide +kernel
theorem dX4_faultOf_262 : decode cX4_faultOf 262 = .ok (.aload_n 0, 1) := by decide +kernel
theorem dX4_faultOf_263 : decode cX4_faultOf 263 = .ok (.getfield 66, 3) := by decide +kernel
theorem dX4_faultOf_266 : decode cX4_faultOf 266 = .ok (.ireturn, 1) := by decide +kernel
set_option maxRecDepth 20000 in
theorem ggX4_fault_X4_faultOf : GoodIn wsX4_fault wsX4_faultOf := goodIn_r _ [5, 6, 7, 8, 9, 4, 10, 11, 12, 13, 14, 15, 16, 17, 18, 19, 20, 21, 22, 23, 24, 25, 26, 27, 28, 29, 30, 31] (by decide +kernel) (by decide +kernel)
set_option maxRecDepth 20000 in
theorem gX4_fault_X4_faultOf : GoodIn wsX4_fault (wsV RX4 69 RX4 yX4_faultOf wsX4_faultOf) := goodIn_app (goodIn_of _ (by decide +kernel)) ggX4_fault_X4_faultOf
theorem dX4_fault_0 : decode cX4_fault 0 = .ok (.aload_n 0, 1) := by decide +kernel
theorem dX4_fault_1 : decode cX4_fault 1 = .ok (.invokevirtual 69, 3) := by decide +kernel
theorem dX4_fault_4 : decode cX4_fault 4 = .ok (.ireturn, 1) := by decide +kernel
theorem dX4_opens_0 : decode cX4_opens 0 = .ok (.iconst 0, 1) := by decide +kernel
theorem dX4_opens_1 : decode cX4_opens 1 = .ok (.istore_n 1, 1) := by decide +kernel
theorem dX4_opens_2 : decode cX4_opens 2 = .ok (.iconst 0, 1) := by decide +kernel
theorem dX4_opens_3 : decode cX4_opens 3 = .ok (.istore_n 2, 1) := by decide +kernel
theorem dX4_opens_4 : decode cX4_opens 4 = .ok (.iload_n 2, 1) := by decide +kernel
theorem dX4_opens_5 : decode cX4_opens 5 = .ok (.aload_n 0, 1) := by decide +kernel
theorem dX4_opens_6 : decode cX4_opens 6 = .ok (.getfield 66, 3) := by decide +kernel
theorem dX4_opens_9 : decode cX4_opens 9 = .ok (.if_icmp .ge 28, 3) := by decide +kernel
theorem dX4_opens_12 : decode cX4_opens 12 = .ok (.iload_n 1, 1) := by decide +kernel
theorem dX4_opens_13 : decode cX4_opens 13 = .ok (.aload_n 0, 1) := by decide +kernel
theorem dX4_opens_14 : decode cX4_opens 14 = .ok (.getfield 22, 3) := by decide +kernel
theorem dX4_opens_17 : decode cX4_opens 17 = .ok (.iload_n 2, 1) := by decide +kernel
theorem dX4_opens_18 : decode cX4_opens 18 = .ok (.iaload, 1) := by decide +kernel
theorem dX4_opens_19 : decode cX4_opens 19 = .ok (.bipush 63, 2) := by decide +kernel
theorem dX4_opens_21 : decode cX4_opens 21 = .ok (.if_icmp .ne 7, 3) := by decide +kernel
theorem dX4_opens_24 : decode cX4_opens 24 = .ok (.iconst 1, 1) := by decide +kernel
theorem dX4_opens_25 : decode cX4_opens 25 = .ok (.goto 4, 3) := by decide +kernel
theorem dX4_opens_28 : decode cX4_opens 28 = .ok (.iconst 0, 1) := by decide +kernel
theorem dX4_opens_29 : decode cX4_opens 29 = .ok (.iadd, 1) := by decide +kernel
theorem dX4_opens_30 : decode cX4_opens 30 = .ok (.istore_n 1, 1) := by decide +kernel
theorem dX4_opens_31 : decode cX4_opens 31 = .ok (.iinc 2 1, 3) := by decide +kernel
theorem dX4_opens_34 : decode cX4_opens 34 = .ok (.goto (-30), 3) := by decide +kernel
theorem dX4_opens_37 : decode cX4_opens 37 = .ok (.iload_n 1, 1) := by decide +kernel
theorem dX4_opens_38 : decode cX4_opens 38 = .ok (.ireturn, 1) := by decide +kernel
theorem dX4_asNow_0 : decode cX4_asNow 0 = .ok (.aload_n 0, 1) := by decide +kernel
theorem dX4_asNow_1 : decode cX4_asNow 1 = .ok (.aload_n 0, 1) := by decide +kernel
theorem dX4_asNow_2 : decode cX4_asNow 2 = .ok (.getfield 73, 3) := by decide +kernel
theorem dX4_asNow_5 : decode cX4_asNow 5 = .ok (.putfield 76, 3) := by decide +kernel
theorem dX4_asNow_8 : decode cX4_asNow 8 = .ok (.iconst 0, 1) := by decide +kernel
theorem dX4_asNow_9 : decode cX4_asNow 9 = .ok (.istore_n 1, 1) := by decide +kernel
theorem dX4_asNow_10 : decode cX4_asNow 10 = .ok (.iload_n 1, 1) := by decide +kernel
theorem dX4_asNow_11 : decode cX4_asNow 11 = .ok (.bipush 6, 2) := by decide +kernel
theorem dX4_asNow_13 : decode cX4_asNow 13 = .ok (.if_icmp .ge 33, 3) := by decide +kernel
theorem dX4_asNow_16 : decode cX4_asNow 16 = .ok (.aload_n 0, 1) := by decide +kernel
theorem dX4_asNow_17 : decode cX4_asNow 17 = .ok (.getfield 25, 3) := by decide +kernel
theorem dX4_asNow_20 : decode cX4_asNow 20 = .ok (.iload_n 1, 1) := by decide +kernel
theorem dX4_asNow_21 : decode cX4_asNow 21 = .ok (.aload_n 0, 1) := by decide +kernel
theorem dX4_asNow_22 : decode cX4_asNow 22 = .ok (.getfield 7, 3) := by decide +kernel
theorem dX4_asNow_25 : decode cX4_asNow 25 = .ok (.iload_n 1, 1) := by decide +kernel
theorem dX4_asNow_26 : decode cX4_asNow 26 = .ok (.iaload, 1) := by decide +kernel
theorem dX4_asNow_27 : decode cX4_asNow 27 = .ok (.iastore, 1) := by decide +kernel
theorem dX4_asNow_28 : decode cX4_asNow 28 = .ok (.aload_n 0, 1) := by decide +kernel
theorem dX4_asNow_29 : decode cX4_asNow 29 = .ok (.getfield 28, 3) := by decide +kernel
theorem dX4_asNow_32 : decode cX4_asNow 32 = .ok (.iload_n 1, 1) := by decide +kernel
theorem dX4_asNow_33 : decode cX4_asNow 33 = .ok (.aload_n 0, 1) := by decide +kernel
theorem dX4_asNow_34 : decode cX4_asNow 34 = .ok (.getfield 13, 3) := by decide +kernel
theorem dX4_asNow_37 : decode cX4_asNow 37 = .ok (.iload_n 1, 1) := by decide +kernel
theorem dX4_asNow_38 : decode cX4_asNow 38 = .ok (.iaload, 1) := by decide +kernel
theorem dX4_asNow_39 : decode cX4_asNow 39 = .ok (.iastore, 1) := by decide +kernel
theorem dX4_asNow_40 : decode cX4_asNow 40 = .ok (.iinc 1 1, 3) := by decide +kernel
theorem dX4_asNow_43 : decode cX4_asNow 43 = .ok (.goto (-33), 3) := by decide +kernel
theorem dX4_asNow_46 : decode cX4_asNow 46 = .ok (.iconst 0, 1) := by decide +kernel
theorem dX4_asNow_47 : decode cX4_asNow 47 = .ok (.istore_n 1, 1) := by decide +kernel
theorem dX4_asNow_48 : decode cX4_asNow 48 = .ok (.iload_n 1, 1) := by decide +kernel
theorem dX4_asNow_49 : decode cX4_asNow 49 = .ok (.bipush 90, 2) := by decide +kernel
theorem dX4_asNow_51 : decode cX4_asNow 51 = .ok (.if_icmp .ge 21, 3) := by decide +kernel
theorem dX4_asNow_54 : decode cX4_asNow 54 = .ok (.aload_n 0, 1) := by decide +kernel
theorem dX4_asNow_55 : decode cX4_asNow 55 = .ok (.getfield 31, 3) := by decide +kernel
theorem dX4_asNow_58 : decode cX4_asNow 58 = .ok (.iload_n 1, 1) := by decide +kernel
theorem dX4_asNow_59 : decode cX4_asNow 59 = .ok (.aload_n 0, 1) := by decide +kernel
theorem dX4_asNow_60 : decode cX4_asNow 60 = .ok (.getfield 16, 3) := by decide +kernel
theorem dX4_asNow_63 : decode cX4_asNow 63 = .ok (.iload_n 1, 1) := by decide +kernel
theorem dX4_asNow_64 : decode cX4_asNow 64 = .ok (.iaload, 1) := by decide +kernel
theorem dX4_asNow_65 : decode cX4_asNow 65 = .ok (.iastore, 1) := by decide +kernel
theorem dX4_asNow_66 : decode cX4_asNow 66 = .ok (.iinc 1 1, 3) := by decide +kernel
theorem dX4_asNow_69 : decode cX4_asNow 69 = .ok (.goto (-21), 3) := by decide +kernel
theorem dX4_asNow_72 : decode cX4_asNow 72 = .ok (.return_, 1) := by decide +kernel
theorem dX4_keepNow_0 : decode cX4_keepNow 0 = .ok (.aload_n 0, 1) := by decide +kernel
theorem dX4_keepNow_1 : decode cX4_keepNow 1 = .ok (.aload_n 0, 1) := by decide +kernel
theorem dX4_keepNow_2 : decode cX4_keepNow 2 = .ok (.getfield 76, 3) := by decide +kernel
theorem dX4_keepNow_5 : decode cX4_keepNow 5 = .ok (.putfield 73, 3) := by decide +kernel
theorem dX4_keepNow_8 : decode cX4_keepNow 8 = .ok (.iconst 0, 1) := by decide +kernel
theorem dX4_keepNow_9 : decode cX4_keepNow 9 = .ok (.istore_n 1, 1) := by decide +kernel
theorem dX4_keepNow_10 : decode cX4_keepNow 10 = .ok (.iload_n 1, 1) := by decide +kernel
theorem dX4_keepNow_11 : decode cX4_keepNow 11 = .ok (.bipush 6, 2) := by decide +kernel
theorem dX4_keepNow_13 : decode cX4_keepNow 13 = .ok (.if_icmp .ge 33, 3) := by decide +kernel
theorem dX4_keepNow_16 : decode cX4_keepNow 16 = .ok (.aload_n 0, 1) := by decide +kernel
theorem dX4_keepNow_17 : decode cX4_keepNow 17 = .ok (.getfield 7, 3) := by decide +kernel
theorem dX4_keepNow_20 : decode cX4_keepNow 20 = .ok (.iload_n 1, 1) := by decide +kernel
theorem dX4_keepNow_21 : decode cX4_keepNow 21 = .ok (.aload_n 0, 1) := by decide +kernel
theorem dX4_keepNow_22 : decode cX4_keepNow 22 = .ok (.getfield 25, 3) := by decide +kernel
theorem dX4_keepNow_25 : decode cX4_keepNow 25 = .ok (.iload_n 1, 1) := by decide +kernel
theorem dX4_keepNow_26 : decode cX4_keepNow 26 = .ok (.iaload, 1) := by decide +kernel
theorem dX4_keepNow_27 : decode cX4_keepNow 27 = .ok (.iastore, 1) := by decide +kernel
theorem dX4_keepNow_28 : decode cX4_keepNow 28 = .ok (.aload_n 0, 1) := by decide +kernel
theorem dX4_keepNow_29 : decode cX4_keepNow 29 = .ok (.getfield 13, 3) := by decide +kernel
theorem dX4_keepNow_32 : decode cX4_keepNow 32 = .ok (.iload_n 1, 1) := by decide +kernel
theorem dX4_keepNow_33 : decode cX4_keepNow 33 = .ok (.aload_n 0, 1) := by decide +kernel
theorem dX4_keepNow_34 : decode cX4_keepNow 34 = .ok (.getfield 28, 3) := by decide +kernel
theorem dX4_keepNow_37 : decode cX4_keepNow 37 = .ok (.iload_n 1, 1) := by decide +kernel
theorem dX4_keepNow_38 : decode cX4_keepNow 38 = .ok (.iaload, 1) := by decide +kernel
theorem dX4_keepNow_39 : decode cX4_keepNow 39 = .ok (.iastore, 1) := by decide +kernel
theorem dX4_keepNow_40 : decode cX4_keepNow 40 = .ok (.iinc 1 1, 3) := by decide +kernel
theorem dX4_keepNow_43 : decode cX4_keepNow 43 = .ok (.goto (-33), 3) := by decide +kernel
theorem dX4_keepNow_46 : decode cX4_keepNow 46 = .ok (.iconst 0, 1) := by decide +kernel
theorem dX4_keepNow_47 : decode cX4_keepNow 47 = .ok (.istore_n 1, 1) := by decide +kernel
theorem dX4_keepNow_48 : decode cX4_keepNow 48 = .ok (.iload_n 1, 1) := by decide +kernel
theorem dX4_keepNow_49 : decode cX4_keepNow 49 = .ok (.bipush 90, 2) := by decide +kernel
theorem dX4_keepNow_51 : decode cX4_keepNow 51 = .ok (.if_icmp .ge 21, 3) := by decide +kernel
theorem dX4_keepNow_54 : decode cX4_keepNow 54 = .ok (.aload_n 0, 1) := by decide +kernel
theorem dX4_keepNow_55 : decode cX4_keepNow 55 = .ok (.getfield 16, 3) := by decide +kernel
theorem dX4_keepNow_58 : decode cX4_keepNow 58 = .ok (.iload_n 1, 1) := by decide +kernel
theorem dX4_keepNow_59 : decode cX4_keepNow 59 = .ok (.aload_n 0, 1) := by decide +kernel
theorem dX4_keepNow_60 : decode cX4_keepNow 60 = .ok (.getfield 31, 3) := by decide +kernel
theorem dX4_keepNow_63 : decode cX4_keepNow 63 = .ok (.iload_n 1, 1) := by decide +kernel
theorem dX4_keepNow_64 : decode cX4_keepNow 64 = .ok (.iaload, 1) := by decide +kernel
theorem dX4_keepNow_65 : decode cX4_keepNow 65 = .ok (.iastore, 1) := by decide +kernel
theorem dX4_keepNow_66 : decode cX4_keepNow 66 = .ok (.iinc 1 1, 3) := by decide +kernel
theorem dX4_keepNow_69 : decode cX4_keepNow 69 = .ok (.goto (-21), 3) := by decide +kernel
theorem dX4_keepNow_72 : decode cX4_keepNow 72 = .ok (.return_, 1) := by decide +kernel
set_option maxRecDepth 20000 in
theorem ggX4_dueNow_X4_at : GoodIn wsX4_dueNow wsX4_at := goodIn_r _ [7] (by decide +kernel) (by decide +kernel)
set_option maxRecDepth 20000 in
theorem gX4_dueNow_X4_at : GoodIn wsX4_dueNow (va_wsS RX4 79 yX4_at wsX4_at) := goodIn_app (goodIn_of _ (by decide +kernel)) ggX4_dueNow_X4_at
theorem dX4_dueNow_0 : decode cX4_dueNow 0 = .ok (.aload_n 0, 1) := by decide +kernel
theorem dX4_dueNow_1 : decode cX4_dueNow 1 = .ok (.getfield 28, 3) := by decide +kernel
theorem dX4_dueNow_4 : decode cX4_dueNow 4 = .ok (.iload_n 1, 1) := by decide +kernel
theorem dX4_dueNow_5 : decode cX4_dueNow 5 = .ok (.iaload, 1) := by decide +kernel
theorem dX4_dueNow_6 : decode cX4_dueNow 6 = .ok (.istore_n 2, 1) := by decide +kernel
theorem dX4_dueNow_7 : decode cX4_dueNow 7 = .ok (.iload_n 2, 1) := by decide +kernel
theorem dX4_dueNow_8 : decode cX4_dueNow 8 = .ok (.ifCond .eq 11, 3) := by decide +kernel
theorem dX4_dueNow_11 : decode cX4_dueNow 11 = .ok (.aload_n 0, 1) := by decide +kernel
theorem dX4_dueNow_12 : decode cX4_dueNow 12 = .ok (.getfield 59, 3) := by decide +kernel
theorem dX4_dueNow_15 : decode cX4_dueNow 15 = .ok (.iconst 1, 1) := by decide +kernel
theorem dX4_dueNow_16 : decode cX4_dueNow 16 = .ok (.if_icmp .ne 14, 3) := by decide +kernel
theorem dX4_dueNow_19 : decode cX4_dueNow 19 = .ok (.iload_n 2, 1) := by decide +kernel
theorem dX4_dueNow_20 : decode cX4_dueNow 20 = .ok (.ifCond .ne 8, 3) := by decide +kernel
theorem dX4_dueNow_23 : decode cX4_dueNow 23 = .ok (.bipush (-6), 2) := by decide +kernel
theorem dX4_dueNow_25 : decode cX4_dueNow 25 = .ok (.goto 4, 3) := by decide +kernel
theorem dX4_dueNow_28 : decode cX4_dueNow 28 = .ok (.iconst 0, 1) := by decide +kernel
theorem dX4_dueNow_29 : decode cX4_dueNow 29 = .ok (.ireturn, 1) := by decide +kernel
theorem dX4_dueNow_30 : decode cX4_dueNow 30 = .ok (.iload_n 2, 1) := by decide +kernel
theorem dX4_dueNow_31 : decode cX4_dueNow 31 = .ok (.iconst 1, 1) := by decide +kernel
theorem dX4_dueNow_32 : decode cX4_dueNow 32 = .ok (.isub, 1) := by decide +kernel
theorem dX4_dueNow_33 : decode cX4_dueNow 33 = .ok (.istore_n 3, 1) := by decide +kernel
theorem dX4_dueNow_34 : decode cX4_dueNow 34 = .ok (.iload_n 2, 1) := by decide +kernel
theorem dX4_dueNow_35 : decode cX4_dueNow 35 = .ok (.iconst 2, 1) := by decide +kernel
theorem dX4_dueNow_36 : decode cX4_dueNow 36 = .ok (.isub, 1) := by decide +kernel
theorem dX4_dueNow_37 : decode cX4_dueNow 37 = .ok (.istore 4, 2) := by decide +kernel
theorem dX4_dueNow_39 : decode cX4_dueNow 39 = .ok (.iload 4, 2) := by decide +kernel
theorem dX4_dueNow_41 : decode cX4_dueNow 41 = .ok (.ifCond .lt 52, 3) := by decide +kernel
theorem dX4_dueNow_44 : decode cX4_dueNow 44 = .ok (.aload_n 0, 1) := by decide +kernel
theorem dX4_dueNow_45 : decode cX4_dueNow 45 = .ok (.getfield 59, 3) := by decide +kernel
theorem dX4_dueNow_48 : decode cX4_dueNow 48 = .ok (.iconst 2, 1) := by decide +kernel
theorem dX4_dueNow_49 : decode cX4_dueNow 49 = .ok (.if_icmp .ne 44, 3) := by decide +kernel
theorem dX4_dueNow_52 : decode cX4_dueNow 52 = .ok (.aload_n 0, 1) := by decide +kernel
theorem dX4_dueNow_53 : decode cX4_dueNow 53 = .ok (.getfield 31, 3) := by decide +kernel
theorem dX4_dueNow_56 : decode cX4_dueNow 56 = .ok (.iload_n 1, 1) := by decide +kernel
theorem dX4_dueNow_57 : decode cX4_dueNow 57 = .ok (.iload 4, 2) := by decide +kernel
theorem dX4_dueNow_59 : decode cX4_dueNow 59 = .ok (.invokestatic 79, 3) := by decide +kernel
theorem dX4_dueNow_62 : decode cX4_dueNow 62 = .ok (.iconst 1, 1) := by decide +kernel
theorem dX4_dueNow_63 : decode cX4_dueNow 63 = .ok (.iadd, 1) := by decide +kernel
theorem dX4_dueNow_64 : decode cX4_dueNow 64 = .ok (.iaload, 1) := by decide +kernel
theorem dX4_dueNow_65 : decode cX4_dueNow 65 = .ok (.aload_n 0, 1) := by decide +kernel
theorem dX4_dueNow_66 : decode cX4_dueNow 66 = .ok (.getfield 31, 3) := by decide +kernel
theorem dX4_dueNow_69 : decode cX4_dueNow 69 = .ok (.iload_n 1, 1) := by decide +kernel
theorem dX4_dueNow_70 : decode cX4_dueNow 70 = .ok (.iload_n 3, 1) := by decide +kernel
theorem dX4_dueNow_71 : decode cX4_dueNow 71 = .ok (.invokestatic 79, 3) := by decide +kernel
theorem dX4_dueNow_74 : decode cX4_dueNow 74 = .ok (.iconst 1, 1) := by decide +kernel
theorem dX4_dueNow_75 : decode cX4_dueNow 75 = .ok (.iadd, 1) := by decide +kernel
theorem dX4_dueNow_76 : decode cX4_dueNow 76 = .ok (.iaload, 1) := by decide +kernel
theorem dX4_dueNow_77 : decode cX4_dueNow 77 = .ok (.if_icmp .le 8, 3) := by decide +kernel
theorem dX4_dueNow_80 : decode cX4_dueNow 80 = .ok (.iload 4, 2) := by decide +kernel
theorem dX4_dueNow_82 : decode cX4_dueNow 82 = .ok (.goto 4, 3) := by decide +kernel
theorem dX4_dueNow_85 : decode cX4_dueNow 85 = .ok (.iload_n 3, 1) := by decide +kernel
theorem dX4_dueNow_86 : decode cX4_dueNow 86 = .ok (.istore_n 3, 1) := by decide +kernel
theorem dX4_dueNow_87 : decode cX4_dueNow 87 = .ok (.iinc 4 (-1), 3) := by decide +kernel
theorem dX4_dueNow_90 : decode cX4_dueNow 90 = .ok (.goto (-51), 3) := by decide +kernel
theorem dX4_dueNow_93 : decode cX4_dueNow 93 = .ok (.iload_n 3, 1) := by decide +kernel
theorem dX4_dueNow_94 : decode cX4_dueNow 94 = .ok (.ireturn, 1) := by decide +kernel
set_option maxRecDepth 20000 in
theorem ggX4_takeOut_X4_at : GoodIn wsX4_takeOut wsX4_at := goodIn_r _ [6] (by decide +kernel) (by decide +kernel)
set_option maxRecDepth 20000 in
theorem gX4_takeOut_X4_at : GoodIn wsX4_takeOut (va_wsS RX4 79 yX4_at wsX4_at) := goodIn_app (goodIn_of _ (by decide +kernel)) ggX4_takeOut_X4_at
theorem dX4_takeOut_0 : decode cX4_takeOut 0 = .ok (.iload_n 1, 1) := by decide +kernel
theorem dX4_takeOut_1 : decode cX4_takeOut 1 = .ok (.iload_n 2, 1) := by decide +kernel
theorem dX4_takeOut_2 : decode cX4_takeOut 2 = .ok (.invokestatic 79, 3) := by decide +kernel
theorem dX4_takeOut_5 : decode cX4_takeOut 5 = .ok (.istore_n 3, 1) := by decide +kernel
theorem dX4_takeOut_6 : decode cX4_takeOut 6 = .ok (.iload_n 3, 1) := by decide +kernel
theorem dX4_takeOut_7 : decode cX4_takeOut 7 = .ok (.iload_n 1, 1) := by decide +kernel
theorem dX4_takeOut_8 : decode cX4_takeOut 8 = .ok (.aload_n 0, 1) := by decide +kernel
theorem dX4_takeOut_9 : decode cX4_takeOut 9 = .ok (.getfield 28, 3) := by decide +kernel
theorem dX4_takeOut_12 : decode cX4_takeOut 12 = .ok (.iload_n 1, 1) := by decide +kernel
theorem dX4_takeOut_13 : decode cX4_takeOut 13 = .ok (.iaload, 1) := by decide +kernel
theorem dX4_takeOut_14 : decode cX4_takeOut 14 = .ok (.iconst 1, 1) := by decide +kernel
theorem dX4_takeOut_15 : decode cX4_takeOut 15 = .ok (.isub, 1) := by decide +kernel
theorem dX4_takeOut_16 : decode cX4_takeOut 16 = .ok (.invokestatic 79, 3) := by decide +kernel
theorem dX4_takeOut_19 : decode cX4_takeOut 19 = .ok (.if_icmp .ge 23, 3) := by decide +kernel
theorem dX4_takeOut_22 : decode cX4_takeOut 22 = .ok (.aload_n 0, 1) := by decide +kernel
theorem dX4_takeOut_23 : decode cX4_takeOut 23 = .ok (.getfield 31, 3) := by decide +kernel
theorem dX4_takeOut_26 : decode cX4_takeOut 26 = .ok (.iload_n 3, 1) := by decide +kernel
theorem dX4_takeOut_27 : decode cX4_takeOut 27 = .ok (.aload_n 0, 1) := by decide +kernel
theorem dX4_takeOut_28 : decode cX4_takeOut 28 = .ok (.getfield 31, 3) := by decide +kernel
theorem dX4_takeOut_31 : decode cX4_takeOut 31 = .ok (.iload_n 3, 1) := by decide +kernel
theorem dX4_takeOut_32 : decode cX4_takeOut 32 = .ok (.iconst 3, 1) := by decide +kernel
theorem dX4_takeOut_33 : decode cX4_takeOut 33 = .ok (.iadd, 1) := by decide +kernel
theorem dX4_takeOut_34 : decode cX4_takeOut 34 = .ok (.iaload, 1) := by decide +kernel
theorem dX4_takeOut_35 : decode cX4_takeOut 35 = .ok (.iastore, 1) := by decide +kernel
theorem dX4_takeOut_36 : decode cX4_takeOut 36 = .ok (.iinc 3 1, 3) := by decide +kernel
theorem dX4_takeOut_39 : decode cX4_takeOut 39 = .ok (.goto (-33), 3) := by decide +kernel
theorem dX4_takeOut_42 : decode cX4_takeOut 42 = .ok (.aload_n 0, 1) := by decide +kernel
theorem dX4_takeOut_43 : decode cX4_takeOut 43 = .ok (.getfield 28, 3) := by decide +kernel
theorem dX4_takeOut_46 : decode cX4_takeOut 46 = .ok (.iload_n 1, 1) := by decide +kernel
theorem dX4_takeOut_47 : decode cX4_takeOut 47 = .ok (.dup2, 1) := by decide +kernel
theorem dX4_takeOut_48 : decode cX4_takeOut 48 = .ok (.iaload, 1) := by decide +kernel
theorem dX4_takeOut_49 : decode cX4_takeOut 49 = .ok (.iconst 1, 1) := by decide +kernel
theorem dX4_takeOut_50 : decode cX4_takeOut 50 = .ok (.isub, 1) := by decide +kernel
theorem dX4_takeOut_51 : decode cX4_takeOut 51 = .ok (.iastore, 1) := by decide +kernel
theorem dX4_takeOut_52 : decode cX4_takeOut 52 = .ok (.return_, 1) := by decide +kernel
set_option maxRecDepth 20000 in
theorem ggX4_penceDue_X4_dueNow : GoodIn wsX4_penceDue wsX4_dueNow := goodIn_r _ [6, 7, 8, 1, 9, 10, 5, 11, 12, 13, 14, 15, 16, 17, 18, 19, 20, 21, 22, 23, 24, 25, 26, 27, 28, 29, 30, 31, 32] (by decide +kernel) (by decide +kernel)
set_option maxRecDepth 20000 in
theorem gX4_penceDue_X4_dueNow : GoodIn wsX4_penceDue (wsV RX4 83 RX4 yX4_dueNow wsX4_dueNow) := goodIn_app (goodIn_of _ (by decide +kernel)) ggX4_penceDue_X4_dueNow
set_option maxRecDepth 20000 in
theorem ggX4_penceDue_X4_at : GoodIn wsX4_penceDue wsX4_at := goodIn_r _ [11] (by decide +kernel) (by decide +kernel)
set_option maxRecDepth 20000 in
theorem gX4_penceDue_X4_at : GoodIn wsX4_penceDue (va_wsS RX4 79 yX4_at wsX4_at) := goodIn_app (goodIn_of _ (by decide +kernel)) ggX4_penceDue_X4_at
theorem dX4_penceDue_0 : decode cX4_penceDue 0 = .ok (.aload_n 0, 1) := by decide +kernel
theorem dX4_penceDue_1 : decode cX4_penceDue 1 = .ok (.iload_n 1, 1) := by decide +kernel
theorem dX4_penceDue_2 : decode cX4_penceDue 2 = .ok (.invokevirtual 83, 3) := by decide +kernel
theorem dX4_penceDue_5 : decode cX4_penceDue 5 = .ok (.istore_n 2, 1) := by decide +kernel
theorem dX4_penceDue_6 : decode cX4_penceDue 6 = .ok (.iload_n 2, 1) := by decide +kernel
theorem dX4_penceDue_7 : decode cX4_penceDue 7 = .ok (.ifCond .ge 8, 3) := by decide +kernel
theorem dX4_penceDue_10 : decode cX4_penceDue 10 = .ok (.bipush (-6), 2) := by decide +kernel
theorem dX4_penceDue_12 : decode cX4_penceDue 12 = .ok (.goto 15, 3) := by decide +kernel
theorem dX4_penceDue_15 : decode cX4_penceDue 15 = .ok (.aload_n 0, 1) := by decide +kernel
theorem dX4_penceDue_16 : decode cX4_penceDue 16 = .ok (.getfield 31, 3) := by decide +kernel
theorem dX4_penceDue_19 : decode cX4_penceDue 19 = .ok (.iload_n 1, 1) := by decide +kernel
theorem dX4_penceDue_20 : decode cX4_penceDue 20 = .ok (.iload_n 2, 1) := by decide +kernel
theorem dX4_penceDue_21 : decode cX4_penceDue 21 = .ok (.invokestatic 79, 3) := by decide +kernel
theorem dX4_penceDue_24 : decode cX4_penceDue 24 = .ok (.iconst 1, 1) := by decide +kernel
theorem dX4_penceDue_25 : decode cX4_penceDue 25 = .ok (.iadd, 1) := by decide +kernel
theorem dX4_penceDue_26 : decode cX4_penceDue 26 = .ok (.iaload, 1) := by decide +kernel
theorem dX4_penceDue_27 : decode cX4_penceDue 27 = .ok (.ireturn, 1) := by decide +kernel
set_option maxRecDepth 20000 in
theorem ggX4_canPay_X4_penceDue : GoodIn wsX4_canPay wsX4_penceDue := goodIn_r _ [6, 7, 8, 9, 10, 5, 11, 12, 13, 14, 15, 16, 17, 18, 19, 20, 21, 22, 23, 24, 25, 26, 27, 28, 29, 30, 31, 32, 33, 34, 35, 36, 37] (by decide +kernel) (by decide +kernel)
set_option maxRecDepth 20000 in
theorem gX4_canPay_X4_penceDue : GoodIn wsX4_canPay (wsV RX4 87 RX4 yX4_penceDue wsX4_penceDue) := goodIn_app (goodIn_of _ (by decide +kernel)) ggX4_canPay_X4_penceDue
theorem dX4_canPay_0 : decode cX4_canPay 0 = .ok (.aload_n 0, 1) := by decide +kernel
theorem dX4_canPay_1 : decode cX4_canPay 1 = .ok (.iload_n 1, 1) := by decide +kernel
theorem dX4_canPay_2 : decode cX4_canPay 2 = .ok (.invokevirtual 87, 3) := by decide +kernel
theorem dX4_canPay_5 : decode cX4_canPay 5 = .ok (.istore_n 2, 1) := by decide +kernel
theorem dX4_canPay_6 : decode cX4_canPay 6 = .ok (.iload_n 2, 1) := by decide +kernel
theorem dX4_canPay_7 : decode cX4_canPay 7 = .ok (.ifCond .lt 17, 3) := by decide +kernel
theorem dX4_canPay_10 : decode cX4_canPay 10 = .ok (.aload_n 0, 1) := by decide +kernel
theorem dX4_canPay_11 : decode cX4_canPay 11 = .ok (.getfield 25, 3) := by decide +kernel
theorem dX4_canPay_14 : decode cX4_canPay 14 = .ok (.iload_n 1, 1) := by decide +kernel
theorem dX4_canPay_15 : decode cX4_canPay 15 = .ok (.iaload, 1) := by decide +kernel
theorem dX4_canPay_16 : decode cX4_canPay 16 = .ok (.iload_n 2, 1) := by decide +kernel
theorem dX4_canPay_17 : decode cX4_canPay 17 = .ok (.if_icmp .lt 7, 3) := by decide +kernel
theorem dX4_canPay_20 : decode cX4_canPay 20 = .ok (.iconst 1, 1) := by decide +kernel
theorem dX4_canPay_21 : decode cX4_canPay 21 = .ok (.goto 4, 3) := by decide +kernel
theorem dX4_canPay_24 : decode cX4_canPay 24 = .ok (.iconst 0, 1) := by decide +kernel
theorem dX4_canPay_25 : decode cX4_canPay 25 = .ok (.ireturn, 1) := by decide +kernel
set_option maxRecDepth 20000 in
theorem ggX4_pay_X4_dueNow : GoodIn wsX4_pay wsX4_dueNow := goodIn_r _ [7, 8, 9, 2, 10, 11, 6, 12, 17, 18, 19, 20, 21, 22, 23, 24, 25, 26, 27, 28, 29, 30, 31, 32, 33, 34, 35, 36, 37] (by decide +kernel) (by decide +kernel)
set_option maxRecDepth 20000 in
theorem gX4_pay_X4_dueNow : GoodIn wsX4_pay (wsV RX4 83 RX4 yX4_dueNow wsX4_dueNow) := goodIn_app (goodIn_of _ (by decide +kernel)) ggX4_pay_X4_dueNow
set_option maxRecDepth 20000 in
theorem ggX4_pay_X4_at : GoodIn wsX4_pay wsX4_at := goodIn_r _ [12] (by decide +kernel) (by decide +kernel)
set_option maxRecDepth 20000 in
theorem gX4_pay_X4_at : GoodIn wsX4_pay (va_wsS RX4 79 yX4_at wsX4_at) := goodIn_app (goodIn_of _ (by decide +kernel)) ggX4_pay_X4_at
set_option maxRecDepth 20000 in
theorem ggX4_pay_X4_takeOut : GoodIn wsX4_pay wsX4_takeOut := goodIn_r _ [16, 8, 2, 10, 11, 6, 12, 17, 18, 19, 20, 21, 22, 23, 24, 25, 26, 27, 28, 29, 30, 31, 32, 33, 34, 35, 36, 37] (by decide +kernel) (by decide +kernel)
set_option maxRecDepth 20000 in
theorem gX4_pay_X4_takeOut : GoodIn wsX4_pay (wsV RX4 90 RX4 yX4_takeOut wsX4_takeOut) := goodIn_app (goodIn_of _ (by decide +kernel)) ggX4_pay_X4_takeOut
theorem dX4_pay_0 : decode cX4_pay 0 = .ok (.aload_n 0, 1) := by decide +kernel
theorem dX4_pay_1 : decode cX4_pay 1 = .ok (.iload_n 1, 1) := by decide +kernel
theorem dX4_pay_2 : decode cX4_pay 2 = .ok (.invokevirtual 83, 3) := by decide +kernel
theorem dX4_pay_5 : decode cX4_pay 5 = .ok (.istore_n 2, 1) := by decide +kernel
theorem dX4_pay_6 : decode cX4_pay 6 = .ok (.iload_n 1, 1) := by decide +kernel
theorem dX4_pay_7 : decode cX4_pay 7 = .ok (.iload_n 2, 1) := by decide +kernel
theorem dX4_pay_8 : decode cX4_pay 8 = .ok (.invokestatic 79, 3) := by decide +kernel
theorem dX4_pay_11 : decode cX4_pay 11 = .ok (.istore_n 3, 1) := by decide +kernel
theorem dX4_pay_12 : decode cX4_pay 12 = .ok (.aload_n 0, 1) := by decide +kernel
theorem dX4_pay_13 : decode cX4_pay 13 = .ok (.getfield 25, 3) := by decide +kernel
theorem dX4_pay_16 : decode cX4_pay 16 = .ok (.iload_n 1, 1) := by decide +kernel
theorem dX4_pay_17 : decode cX4_pay 17 = .ok (.dup2, 1) := by decide +kernel
theorem dX4_pay_18 : decode cX4_pay 18 = .ok (.iaload, 1) := by decide +kernel
theorem dX4_pay_19 : decode cX4_pay 19 = .ok (.aload_n 0, 1) := by decide +kernel
theorem dX4_pay_20 : decode cX4_pay 20 = .ok (.getfield 31, 3) := by decide +kernel
theorem dX4_pay_23 : decode cX4_pay 23 = .ok (.iload_n 3, 1) := by decide +kernel
theorem dX4_pay_24 : decode cX4_pay 24 = .ok (.iconst 1, 1) := by decide +kernel
theorem dX4_pay_25 : decode cX4_pay 25 = .ok (.iadd, 1) := by decide +kernel
theorem dX4_pay_26 : decode cX4_pay 26 = .ok (.iaload, 1) := by decide +kernel
theorem dX4_pay_27 : decode cX4_pay 27 = .ok (.isub, 1) := by decide +kernel
theorem dX4_pay_28 : decode cX4_pay 28 = .ok (.iastore, 1) := by decide +kernel
theorem dX4_pay_29 : decode cX4_pay 29 = .ok (.aload_n 0, 1) := by decide +kernel
theorem dX4_pay_30 : decode cX4_pay 30 = .ok (.getfield 25, 3) := by decide +kernel
theorem dX4_pay_33 : decode cX4_pay 33 = .ok (.aload_n 0, 1) := by decide +kernel
theorem dX4_pay_34 : decode cX4_pay 34 = .ok (.getfield 31, 3) := by decide +kernel
theorem dX4_pay_37 : decode cX4_pay 37 = .ok (.iload_n 3, 1) := by decide +kernel
theorem dX4_pay_38 : decode cX4_pay 38 = .ok (.iaload, 1) := by decide +kernel
theorem dX4_pay_39 : decode cX4_pay 39 = .ok (.dup2, 1) := by decide +kernel
theorem dX4_pay_40 : decode cX4_pay 40 = .ok (.iaload, 1) := by decide +kernel
theorem dX4_pay_41 : decode cX4_pay 41 = .ok (.aload_n 0, 1) := by decide +kernel
theorem dX4_pay_42 : decode cX4_pay 42 = .ok (.getfield 31, 3) := by decide +kernel
theorem dX4_pay_45 : decode cX4_pay 45 = .ok (.iload_n 3, 1) := by decide +kernel
theorem dX4_pay_46 : decode cX4_pay 46 = .ok (.iconst 1, 1) := by decide +kernel
theorem dX4_pay_47 : decode cX4_pay 47 = .ok (.iadd, 1) := by decide +kernel
theorem dX4_pay_48 : decode cX4_pay 48 = .ok (.iaload, 1) := by decide +kernel
theorem dX4_pay_49 : decode cX4_pay 49 = .ok (.iadd, 1) := by decide +kernel
theorem dX4_pay_50 : decode cX4_pay 50 = .ok (.iastore, 1) := by decide +kernel
theorem dX4_pay_51 : decode cX4_pay 51 = .ok (.aload_n 0, 1) := by decide +kernel
theorem dX4_pay_52 : decode cX4_pay 52 = .ok (.iload_n 1, 1) := by decide +kernel
theorem dX4_pay_53 : decode cX4_pay 53 = .ok (.iload_n 2, 1) := by decide +kernel
theorem dX4_pay_54 : decode cX4_pay 54 = .ok (.invokevirtual 90, 3) := by decide +kernel
theorem dX4_pay_57 : decode cX4_pay 57 = .ok (.return_, 1) := by decide +kernel
set_option maxRecDepth 20000 in
theorem ggX4_pass_X4_at : GoodIn wsX4_pass wsX4_at := goodIn_r _ [8] (by decide +kernel) (by decide +kernel)
set_option maxRecDepth 20000 in
theorem gX4_pass_X4_at : GoodIn wsX4_pass (va_wsS RX4 79 yX4_at wsX4_at) := goodIn_app (goodIn_of _ (by decide +kernel)) ggX4_pass_X4_at
theorem dX4_pass_0 : decode cX4_pass 0 = .ok (.aload_n 0, 1) := by decide +kernel
theorem dX4_pass_1 : decode cX4_pass 1 = .ok (.dup, 1) := by decide +kernel
theorem dX4_pass_2 : decode cX4_pass 2 = .ok (.getfield 76, 3) := by decide +kernel
theorem dX4_pass_5 : decode cX4_pass 5 = .ok (.iconst 1, 1) := by decide +kernel
theorem dX4_pass_6 : decode cX4_pass 6 = .ok (.iadd, 1) := by decide +kernel
theorem dX4_pass_7 : decode cX4_pass 7 = .ok (.putfield 76, 3) := by decide +kernel
theorem dX4_pass_10 : decode cX4_pass 10 = .ok (.iconst 0, 1) := by decide +kernel
theorem dX4_pass_11 : decode cX4_pass 11 = .ok (.istore_n 1, 1) := by decide +kernel
theorem dX4_pass_12 : decode cX4_pass 12 = .ok (.iload_n 1, 1) := by decide +kernel
theorem dX4_pass_13 : decode cX4_pass 13 = .ok (.bipush 6, 2) := by decide +kernel
theorem dX4_pass_15 : decode cX4_pass 15 = .ok (.if_icmp .ge 75, 3) := by decide +kernel
theorem dX4_pass_18 : decode cX4_pass 18 = .ok (.iconst 0, 1) := by decide +kernel
theorem dX4_pass_19 : decode cX4_pass 19 = .ok (.istore_n 2, 1) := by decide +kernel
theorem dX4_pass_20 : decode cX4_pass 20 = .ok (.iload_n 2, 1) := by decide +kernel
theorem dX4_pass_21 : decode cX4_pass 21 = .ok (.aload_n 0, 1) := by decide +kernel
theorem dX4_pass_22 : decode cX4_pass 22 = .ok (.getfield 28, 3) := by decide +kernel
theorem dX4_pass_25 : decode cX4_pass 25 = .ok (.iload_n 1, 1) := by decide +kernel
theorem dX4_pass_26 : decode cX4_pass 26 = .ok (.iaload, 1) := by decide +kernel
theorem dX4_pass_27 : decode cX4_pass 27 = .ok (.if_icmp .ge 57, 3) := by decide +kernel
theorem dX4_pass_30 : decode cX4_pass 30 = .ok (.iload_n 1, 1) := by decide +kernel
theorem dX4_pass_31 : decode cX4_pass 31 = .ok (.iload_n 2, 1) := by decide +kernel
theorem dX4_pass_32 : decode cX4_pass 32 = .ok (.invokestatic 79, 3) := by decide +kernel
theorem dX4_pass_35 : decode cX4_pass 35 = .ok (.iconst 1, 1) := by decide +kernel
theorem dX4_pass_36 : decode cX4_pass 36 = .ok (.iadd, 1) := by decide +kernel
theorem dX4_pass_37 : decode cX4_pass 37 = .ok (.istore_n 3, 1) := by decide +kernel
theorem dX4_pass_38 : decode cX4_pass 38 = .ok (.aload_n 0, 1) := by decide +kernel
theorem dX4_pass_39 : decode cX4_pass 39 = .ok (.getfield 31, 3) := by decide +kernel
theorem dX4_pass_42 : decode cX4_pass 42 = .ok (.iload_n 3, 1) := by decide +kernel
theorem dX4_pass_43 : decode cX4_pass 43 = .ok (.aload_n 0, 1) := by decide +kernel
theorem dX4_pass_44 : decode cX4_pass 44 = .ok (.getfield 31, 3) := by decide +kernel
theorem dX4_pass_47 : decode cX4_pass 47 = .ok (.iload_n 3, 1) := by decide +kernel
theorem dX4_pass_48 : decode cX4_pass 48 = .ok (.iaload, 1) := by decide +kernel
theorem dX4_pass_49 : decode cX4_pass 49 = .ok (.aload_n 0, 1) := by decide +kernel
theorem dX4_pass_50 : decode cX4_pass 50 = .ok (.getfield 63, 3) := by decide +kernel
theorem dX4_pass_53 : decode cX4_pass 53 = .ok (.iadd, 1) := by decide +kernel
theorem dX4_pass_54 : decode cX4_pass 54 = .ok (.sipush 9999, 3) := by decide +kernel
theorem dX4_pass_57 : decode cX4_pass 57 = .ok (.if_icmp .le 9, 3) := by decide +kernel
theorem dX4_pass_60 : decode cX4_pass 60 = .ok (.sipush 9999, 3) := by decide +kernel
theorem dX4_pass_63 : decode cX4_pass 63 = .ok (.goto 14, 3) := by decide +kernel
theorem dX4_pass_66 : decode cX4_pass 66 = .ok (.aload_n 0, 1) := by decide +kernel
theorem dX4_pass_67 : decode cX4_pass 67 = .ok (.getfield 31, 3) := by decide +kernel
theorem dX4_pass_70 : decode cX4_pass 70 = .ok (.iload_n 3, 1) := by decide +kernel
theorem dX4_pass_71 : decode cX4_pass 71 = .ok (.iaload, 1) := by decide +kernel
theorem dX4_pass_72 : decode cX4_pass 72 = .ok (.aload_n 0, 1) := by decide +kernel
theorem dX4_pass_73 : decode cX4_pass 73 = .ok (.getfield 63, 3) := by decide +kernel
theorem dX4_pass_76 : decode cX4_pass 76 = .ok (.iadd, 1) := by decide +kernel
theorem dX4_pass_77 : decode cX4_pass 77 = .ok (.iastore, 1) := by decide +kernel
theorem dX4_pass_78 : decode cX4_pass 78 = .ok (.iinc 2 1, 3) := by decide +kernel
theorem dX4_pass_81 : decode cX4_pass 81 = .ok (.goto (-61), 3) := by decide +kernel
theorem dX4_pass_84 : decode cX4_pass 84 = .ok (.iinc 1 1, 3) := by decide +kernel
theorem dX4_pass_87 : decode cX4_pass 87 = .ok (.goto (-75), 3) := by decide +kernel
theorem dX4_pass_90 : decode cX4_pass 90 = .ok (.return_, 1) := by decide +kernel
set_option maxRecDepth 20000 in
theorem ggX4_goText_X4_asNow : GoodIn wsX4_goText wsX4_asNow := goodIn_r _ [13, 14, 8, 5, 15, 6, 16, 7, 17, 54, 55, 56, 57, 58, 59, 60, 61, 62, 63, 64, 65, 66, 67, 68, 69, 70, 71, 72, 73, 74] (by decide +kernel) (by decide +kernel)
set_option maxRecDepth 20000 in
theorem gX4_goText_X4_asNow : GoodIn wsX4_goText (wsV RX4 94 RX4 yX4_asNow wsX4_asNow) := goodIn_app (goodIn_of _ (by decide +kernel)) ggX4_goText_X4_asNow
set_option maxRecDepth 20000 in
theorem ggX4_goText_X4_opens : GoodIn wsX4_goText wsX4_opens := goodIn_r _ [21, 3, 4, 54, 55, 56, 57, 58, 59, 60, 61, 62, 63, 64, 65, 66, 67, 68, 69, 70, 71, 72, 73, 74] (by decide +kernel) (by decide +kernel)
set_option maxRecDepth 20000 in
theorem gX4_goText_X4_opens : GoodIn wsX4_goText (wsV RX4 103 RX4 yX4_opens wsX4_opens) := goodIn_app (goodIn_of _ (by decide +kernel)) ggX4_goText_X4_opens
set_option maxRecDepth 20000 in
theorem ggX4_goText_X4_pass : GoodIn wsX4_goText wsX4_pass := goodIn_r _ [25, 8, 6, 7, 26, 27, 28, 12, 29, 54, 55, 56, 57, 58, 59, 60, 61, 62, 63, 64, 65, 66, 67, 68, 69, 70, 71, 72, 73, 74] (by decide +kernel) (by decide +kernel)
set_option maxRecDepth 20000 in
theorem gX4_goText_X4_pass : GoodIn wsX4_goText (wsV RX4 106 RX4 yX4_pass wsX4_pass) := goodIn_app (goodIn_of _ (by decide +kernel)) ggX4_goText_X4_pass
set_option maxRecDepth 20000 in
theorem ggX4_goText_X4_dueNow : GoodIn wsX4_goText wsX4_dueNow := goodIn_r _ [33, 6, 34, 7, 27, 28, 12, 29, 54, 55, 56, 57, 58, 59, 60, 61, 62, 63, 64, 65, 66, 67, 68, 69, 70, 71, 72, 73, 74] (by decide +kernel) (by decide +kernel)
set_option maxRecDepth 20000 in
theorem gX4_goText_X4_dueNow : GoodIn wsX4_goText (wsV RX4 83 RX4 yX4_dueNow wsX4_dueNow) := goodIn_app (goodIn_of _ (by decide +kernel)) ggX4_goText_X4_dueNow
set_option maxRecDepth 20000 in
theorem ggX4_goText_X4_canPay : GoodIn wsX4_goText wsX4_canPay := goodIn_r _ [38, 5, 39, 40, 41, 12, 42, 7, 30, 31, 32, 33, 6, 34, 27, 28, 29, 54, 55, 56, 57, 58, 59, 60, 61, 62, 63, 64, 65, 66, 67, 68, 69, 70, 71, 72, 73, 74] (by decide +kernel) (by decide +kernel)
set_option maxRecDepth 20000 in
theorem gX4_goText_X4_canPay : GoodIn wsX4_goText (wsV RX4 109 RX4 yX4_canPay wsX4_canPay) := goodIn_app (goodIn_of _ (by decide +kernel)) ggX4_goText_X4_canPay
set_option maxRecDepth 20000 in
theorem ggX4_goText_X4_pay : GoodIn wsX4_goText wsX4_pay := goodIn_r _ [46, 5, 7, 30, 31, 32, 12, 33, 6, 34, 27, 28, 29, 47, 48, 49, 50, 54, 55, 56, 57, 58, 59, 60, 61, 62, 63, 64, 65, 66, 67, 68, 69, 70, 71, 72, 73, 74] (by decide +kernel) (by decide +kernel)
set_option maxRecDepth 20000 in
theorem gX4_goText_X4_pay : GoodIn wsX4_goText (wsV RX4 112 RX4 yX4_pay wsX4_pay) := goodIn_app (goodIn_of _ (by decide +kernel)) ggX4_goText_X4_pay
set_option maxRecDepth 20000 in
theorem ggX4_goText_X4_in : GoodIn wsX4_goText wsX4_in := goodIn_r _ [53] (by decide +kernel) (by decide +kernel)
set_option maxRecDepth 20000 in
theorem gX4_goText_X4_in : GoodIn wsX4_goText (va_wsS RX4 51 yX4_in wsX4_in) := goodIn_app (goodIn_of _ (by decide +kernel)) ggX4_goText_X4_in
set_option maxRecDepth 20000 in
theorem ggX4_goText_X4_at : GoodIn wsX4_goText wsX4_at := goodIn_r _ [29] (by decide +kernel) (by decide +kernel)
set_option maxRecDepth 20000 in
theorem gX4_goText_X4_at : GoodIn wsX4_goText (va_wsS RX4 79 yX4_at wsX4_at) := goodIn_app (goodIn_of _ (by decide +kernel)) ggX4_goText_X4_at
theorem dX4_goText_0 : decode cX4_goText 0 = .ok (.aload_n 0, 1) := by decide +kernel
theorem dX4_goText_1 : decode cX4_goText 1 = .ok (.invokevirtual 94, 3) := by decide +kernel
theorem dX4_goText_4 : decode cX4_goText 4 = .ok (.aload_n 0, 1) := by decide +kernel
theorem dX4_goText_5 : decode cX4_goText 5 = .ok (.iconst 0, 1) := by decide +kernel
theorem dX4_goText_6 : decode cX4_goText 6 = .ok (.putfield 97, 3) := by decide +kernel
theorem dX4_goText_9 : decode cX4_goText 9 = .ok (.aload_n 0, 1) := by decide +kernel
theorem dX4_goText_10 : decode cX4_goText 10 = .ok (.iconst 0, 1) := by decide +kernel
theorem dX4_goText_11 : decode cX4_goText 11 = .ok (.putfield 100, 3) := by decide +kernel
theorem dX4_goText_14 : decode cX4_goText 14 = .ok (.iconst 1, 1) := by decide +kernel
theorem dX4_goText_15 : decode cX4_goText 15 = .ok (.istore_n 2, 1) := by decide +kernel
theorem dX4_goText_16 : decode cX4_goText 16 = .ok (.iconst 1, 1) := by decide +kernel
theorem dX4_goText_17 : decode cX4_goText 17 = .ok (.istore_n 3, 1) := by decide +kernel
theorem dX4_goText_18 : decode cX4_goText 18 = .ok (.iload_n 3, 1) := by decide +kernel
theorem dX4_goText_19 : decode cX4_goText 19 = .ok (.aload_n 0, 1) := by decide +kernel
theorem dX4_goText_20 : decode cX4_goText 20 = .ok (.invokevirtual 103, 3) := by decide +kernel
theorem dX4_goText_23 : decode cX4_goText 23 = .ok (.if_icmp .ge 14, 3) := by decide +kernel
theorem dX4_goText_26 : decode cX4_goText 26 = .ok (.iload_n 2, 1) := by decide +kernel
theorem dX4_goText_27 : decode cX4_goText 27 = .ok (.bipush 6, 2) := by decide +kernel
theorem dX4_goText_29 : decode cX4_goText 29 = .ok (.imul, 1) := by decide +kernel
theorem dX4_goText_30 : decode cX4_goText 30 = .ok (.istore_n 2, 1) := by decide +kernel
theorem dX4_goText_31 : decode cX4_goText 31 = .ok (.iinc 3 1, 3) := by decide +kernel
theorem dX4_goText_34 : decode cX4_goText 34 = .ok (.goto (-16), 3) := by decide +kernel
theorem dX4_goText_37 : decode cX4_goText 37 = .ok (.iconst 0, 1) := by decide +kernel
theorem dX4_goText_38 : decode cX4_goText 38 = .ok (.istore_n 3, 1) := by decide +kernel
theorem dX4_goText_39 : decode cX4_goText 39 = .ok (.iload_n 3, 1) := by decide +kernel
theorem dX4_goText_40 : decode cX4_goText 40 = .ok (.aload_n 0, 1) := by decide +kernel
theorem dX4_goText_41 : decode cX4_goText 41 = .ok (.getfield 66, 3) := by decide +kernel
theorem dX4_goText_44 : decode cX4_goText 44 = .ok (.if_icmp .ge 389, 3) := by decide +kernel
theorem dX4_goText_47 : decode cX4_goText 47 = .ok (.aload_n 0, 1) := by decide +kernel
theorem dX4_goText_48 : decode cX4_goText 48 = .ok (.getfield 22, 3) := by decide +kernel
theorem dX4_goText_51 : decode cX4_goText 51 = .ok (.iload_n 3, 1) := by decide +kernel
theorem dX4_goText_52 : decode cX4_goText 52 = .ok (.iaload, 1) := by decide +kernel
theorem dX4_goText_53 : decode cX4_goText 53 = .ok (.bipush 46, 2) := by decide +kernel
theorem dX4_goText_55 : decode cX4_goText 55 = .ok (.if_icmp .ne 13, 3) := by decide +kernel
theorem dX4_goText_58 : decode cX4_goText 58 = .ok (.aload_n 0, 1) := by decide +kernel
theorem dX4_goText_59 : decode cX4_goText 59 = .ok (.invokevirtual 106, 3) := by decide +kernel
theorem dX4_goText_62 : decode cX4_goText 62 = .ok (.iinc 3 1, 3) := by decide +kernel
theorem dX4_goText_65 : decode cX4_goText 65 = .ok (.goto 343, 3) := by decide +kernel
theorem dX4_goText_68 : decode cX4_goText 68 = .ok (.aload_n 0, 1) := by decide +kernel
theorem dX4_goText_69 : decode cX4_goText 69 = .ok (.getfield 22, 3) := by decide +kernel
theorem dX4_goText_72 : decode cX4_goText 72 = .ok (.iload_n 3, 1) := by decide +kernel
theorem dX4_goText_73 : decode cX4_goText 73 = .ok (.iconst 1, 1) := by decide +kernel
theorem dX4_goText_74 : decode cX4_goText 74 = .ok (.iadd, 1) := by decide +kernel
theorem dX4_goText_75 : decode cX4_goText 75 = .ok (.iaload, 1) := by decide +kernel
theorem dX4_goText_76 : decode cX4_goText 76 = .ok (.bipush 33, 2) := by decide +kernel
theorem dX4_goText_78 : decode cX4_goText 78 = .ok (.if_icmp .ne 64, 3) := by decide +kernel
theorem dX4_goText_81 : decode cX4_goText 81 = .ok (.aload_n 0, 1) := by decide +kernel
theorem dX4_goText_82 : decode cX4_goText 82 = .ok (.getfield 22, 3) := by decide +kernel
theorem dX4_goText_85 : decode cX4_goText 85 = .ok (.iload_n 3, 1) := by decide +kernel
theorem dX4_goText_86 : decode cX4_goText 86 = .ok (.iaload, 1) := by decide +kernel
theorem dX4_goText_87 : decode cX4_goText 87 = .ok (.bipush 65, 2) := by decide +kernel
theorem dX4_goText_89 : decode cX4_goText 89 = .ok (.isub, 1) := by decide +kernel
theorem dX4_goText_90 : decode cX4_goText 90 = .ok (.istore 4, 2) := by decide +kernel
theorem dX4_goText_92 : decode cX4_goText 92 = .ok (.aload_n 0, 1) := by decide +kernel
theorem dX4_goText_93 : decode cX4_goText 93 = .ok (.aload_n 0, 1) := by decide +kernel
theorem dX4_goText_94 : decode cX4_goText 94 = .ok (.iload 4, 2) := by decide +kernel
theorem dX4_goText_96 : decode cX4_goText 96 = .ok (.invokevirtual 83, 3) := by decide +kernel
theorem dX4_goText_99 : decode cX4_goText 99 = .ok (.ifCond .ge 7, 3) := by decide +kernel
theorem dX4_goText_102 : decode cX4_goText 102 = .ok (.iconst 3, 1) := by decide +kernel
theorem dX4_goText_103 : decode cX4_goText 103 = .ok (.goto 17, 3) := by decide +kernel
theorem dX4_goText_106 : decode cX4_goText 106 = .ok (.aload_n 0, 1) := by decide +kernel
theorem dX4_goText_107 : decode cX4_goText 107 = .ok (.iload 4, 2) := by decide +kernel
theorem dX4_goText_109 : decode cX4_goText 109 = .ok (.invokevirtual 109, 3) := by decide +kernel
theorem dX4_goText_112 : decode cX4_goText 112 = .ok (.ifCond .eq 7, 3) := by decide +kernel
theorem dX4_goText_115 : decode cX4_goText 115 = .ok (.iconst 0, 1) := by decide +kernel
theorem dX4_goText_116 : decode cX4_goText 116 = .ok (.goto 4, 3) := by decide +kernel
theorem dX4_goText_119 : decode cX4_goText 119 = .ok (.iconst 4, 1) := by decide +kernel
theorem dX4_goText_120 : decode cX4_goText 120 = .ok (.putfield 100, 3) := by decide +kernel
theorem dX4_goText_123 : decode cX4_goText 123 = .ok (.aload_n 0, 1) := by decide +kernel
theorem dX4_goText_124 : decode cX4_goText 124 = .ok (.getfield 100, 3) := by decide +kernel
theorem dX4_goText_127 : decode cX4_goText 127 = .ok (.ifCond .ne 9, 3) := by decide +kernel
theorem dX4_goText_130 : decode cX4_goText 130 = .ok (.aload_n 0, 1) := by decide +kernel
theorem dX4_goText_131 : decode cX4_goText 131 = .ok (.iload 4, 2) := by decide +kernel
theorem dX4_goText_133 : decode cX4_goText 133 = .ok (.invokevirtual 112, 3) := by decide +kernel
theorem dX4_goText_136 : decode cX4_goText 136 = .ok (.iinc 3 2, 3) := by decide +kernel
theorem dX4_goText_139 : decode cX4_goText 139 = .ok (.goto 269, 3) := by decide +kernel
theorem dX4_goText_142 : decode cX4_goText 142 = .ok (.aload_n 0, 1) := by decide +kernel
theorem dX4_goText_143 : decode cX4_goText 143 = .ok (.getfield 22, 3) := by decide +kernel
theorem dX4_goText_146 : decode cX4_goText 146 = .ok (.iload_n 3, 1) := by decide +kernel
theorem dX4_goText_147 : decode cX4_goText 147 = .ok (.iaload, 1) := by decide +kernel
theorem dX4_goText_148 : decode cX4_goText 148 = .ok (.bipush 63, 2) := by decide +kernel
theorem dX4_goText_150 : decode cX4_goText 150 = .ok (.if_icmp .ne 12, 3) := by decide +kernel
theorem dX4_goText_153 : decode cX4_goText 153 = .ok (.iload_n 1, 1) := by decide +kernel
theorem dX4_goText_154 : decode cX4_goText 154 = .ok (.iload_n 2, 1) := by decide +kernel
theorem dX4_goText_155 : decode cX4_goText 155 = .ok (.idiv, 1) := by decide +kernel
theorem dX4_goText_156 : decode cX4_goText 156 = .ok (.bipush 6, 2) := by decide +kernel
theorem dX4_goText_158 : decode cX4_goText 158 = .ok (.irem, 1) := by decide +kernel
theorem dX4_goText_159 : decode cX4_goText 159 = .ok (.goto 12, 3) := by decide +kernel
theorem dX4_goText_162 : decode cX4_goText 162 = .ok (.aload_n 0, 1) := by decide +kernel
theorem dX4_goText_163 : decode cX4_goText 163 = .ok (.getfield 22, 3) := by decide +kernel
theorem dX4_goText_166 : decode cX4_goText 166 = .ok (.iload_n 3, 1) := by decide +kernel
theorem dX4_goText_167 : decode cX4_goText 167 = .ok (.iaload, 1) := by decide +kernel
theorem dX4_goText_168 : decode cX4_goText 168 = .ok (.bipush 65, 2) := by decide +kernel
theorem dX4_goText_170 : decode cX4_goText 170 = .ok (.isub, 1) := by decide +kernel
theorem dX4_goText_171 : decode cX4_goText 171 = .ok (.istore 4, 2) := by decide +kernel
theorem dX4_goText_173 : decode cX4_goText 173 = .ok (.aload_n 0, 1) := by decide +kernel
theorem dX4_goText_174 : decode cX4_goText 174 = .ok (.getfield 22, 3) := by decide +kernel
theorem dX4_goText_177 : decode cX4_goText 177 = .ok (.iload_n 3, 1) := by decide +kernel
theorem dX4_goText_178 : decode cX4_goText 178 = .ok (.iaload, 1) := by decide +kernel
theorem dX4_goText_179 : decode cX4_goText 179 = .ok (.bipush 63, 2) := by decide +kernel
theorem dX4_goText_181 : decode cX4_goText 181 = .ok (.if_icmp .ne 15, 3) := by decide +kernel
theorem dX4_goText_184 : decode cX4_goText 184 = .ok (.iload_n 2, 1) := by decide +kernel
theorem dX4_goText_185 : decode cX4_goText 185 = .ok (.iconst 1, 1) := by decide +kernel
theorem dX4_goText_186 : decode cX4_goText 186 = .ok (.if_icmp .le 10, 3) := by decide +kernel
theorem dX4_goText_189 : decode cX4_goText 189 = .ok (.iload_n 2, 1) := by decide +kernel
theorem dX4_goText_190 : decode cX4_goText 190 = .ok (.bipush 6, 2) := by decide +kernel
theorem dX4_goText_192 : decode cX4_goText 192 = .ok (.idiv, 1) := by decide +kernel
theorem dX4_goText_193 : decode cX4_goText 193 = .ok (.goto 4, 3) := by decide +kernel
theorem dX4_goText_196 : decode cX4_goText 196 = .ok (.iload_n 2, 1) := by decide +kernel
theorem dX4_goText_197 : decode cX4_goText 197 = .ok (.istore_n 2, 1) := by decide +kernel
theorem dX4_goText_198 : decode cX4_goText 198 = .ok (.aload_n 0, 1) := by decide +kernel
theorem dX4_goText_199 : decode cX4_goText 199 = .ok (.getfield 22, 3) := by decide +kernel
theorem dX4_goText_202 : decode cX4_goText 202 = .ok (.iload_n 3, 1) := by decide +kernel
theorem dX4_goText_203 : decode cX4_goText 203 = .ok (.iconst 2, 1) := by decide +kernel
theorem dX4_goText_204 : decode cX4_goText 204 = .ok (.iadd, 1) := by decide +kernel
theorem dX4_goText_205 : decode cX4_goText 205 = .ok (.iaload, 1) := by decide +kernel
theorem dX4_goText_206 : decode cX4_goText 206 = .ok (.bipush 65, 2) := by decide +kernel
theorem dX4_goText_208 : decode cX4_goText 208 = .ok (.isub, 1) := by decide +kernel
theorem dX4_goText_209 : decode cX4_goText 209 = .ok (.istore 5, 2) := by decide +kernel
theorem dX4_goText_211 : decode cX4_goText 211 = .ok (.aload_n 0, 1) := by decide +kernel
theorem dX4_goText_212 : decode cX4_goText 212 = .ok (.getfield 22, 3) := by decide +kernel
theorem dX4_goText_215 : decode cX4_goText 215 = .ok (.iload_n 3, 1) := by decide +kernel
theorem dX4_goText_216 : decode cX4_goText 216 = .ok (.iconst 3, 1) := by decide +kernel
theorem dX4_goText_217 : decode cX4_goText 217 = .ok (.iadd, 1) := by decide +kernel
theorem dX4_goText_218 : decode cX4_goText 218 = .ok (.iaload, 1) := by decide +kernel
theorem dX4_goText_219 : decode cX4_goText 219 = .ok (.bipush 48, 2) := by decide +kernel
theorem dX4_goText_221 : decode cX4_goText 221 = .ok (.isub, 1) := by decide +kernel
theorem dX4_goText_222 : decode cX4_goText 222 = .ok (.istore 6, 2) := by decide +kernel
theorem dX4_goText_224 : decode cX4_goText 224 = .ok (.iinc 3 4, 3) := by decide +kernel
theorem dX4_goText_227 : decode cX4_goText 227 = .ok (.iload_n 3, 1) := by decide +kernel
theorem dX4_goText_228 : decode cX4_goText 228 = .ok (.aload_n 0, 1) := by decide +kernel
theorem dX4_goText_229 : decode cX4_goText 229 = .ok (.getfield 66, 3) := by decide +kernel
theorem dX4_goText_232 : decode cX4_goText 232 = .ok (.if_icmp .ge 39, 3) := by decide +kernel
theorem dX4_goText_235 : decode cX4_goText 235 = .ok (.aload_n 0, 1) := by decide +kernel
theorem dX4_goText_236 : decode cX4_goText 236 = .ok (.getfield 22, 3) := by decide +kernel
theorem dX4_goText_239 : decode cX4_goText 239 = .ok (.iload_n 3, 1) := by decide +kernel
theorem dX4_goText_240 : decode cX4_goText 240 = .ok (.iaload, 1) := by decide +kernel
theorem dX4_goText_241 : decode cX4_goText 241 = .ok (.bipush 48, 2) := by decide +kernel
theorem dX4_goText_243 : decode cX4_goText 243 = .ok (.bipush 57, 2) := by decide +kernel
theorem dX4_goText_245 : decode cX4_goText 245 = .ok (.invokestatic 51, 3) := by decide +kernel
theorem dX4_goText_248 : decode cX4_goText 248 = .ok (.ifCond .eq 23, 3) := by decide +kernel
theorem dX4_goText_251 : decode cX4_goText 251 = .ok (.bipush 10, 2) := by decide +kernel
theorem dX4_goText_253 : decode cX4_goText 253 = .ok (.iload 6, 2) := by decide +kernel
theorem dX4_goText_255 : decode cX4_goText 255 = .ok (.imul, 1) := by decide +kernel
theorem dX4_goText_256 : decode cX4_goText 256 = .ok (.aload_n 0, 1) := by decide +kernel
theorem dX4_goText_257 : decode cX4_goText 257 = .ok (.getfield 22, 3) := by decide +kernel
theorem dX4_goText_260 : decode cX4_goText 260 = .ok (.iload_n 3, 1) := by decide +kernel
theorem dX4_goText_261 : decode cX4_goText 261 = .ok (.iaload, 1) := by decide +kernel
theorem dX4_goText_262 : decode cX4_goText 262 = .ok (.iadd, 1) := by decide +kernel
theorem dX4_goText_263 : decode cX4_goText 263 = .ok (.bipush 48, 2) := by decide +kernel
theorem dX4_goText_265 : decode cX4_goText 265 = .ok (.isub, 1) := by decide +kernel
theorem dX4_goText_266 : decode cX4_goText 266 = .ok (.istore 6, 2) := by decide +kernel
theorem dX4_goText_268 : decode cX4_goText 268 = .ok (.iinc 3 1, 3) := by decide +kernel
theorem dX4_goText_271 : decode cX4_goText 271 = .ok (.aload_n 0, 1) := by decide +kernel
theorem dX4_goText_272 : decode cX4_goText 272 = .ok (.iload 4, 2) := by decide +kernel
theorem dX4_goText_274 : decode cX4_goText 274 = .ok (.iload 5, 2) := by decide +kernel
theorem dX4_goText_276 : decode cX4_goText 276 = .ok (.if_icmp .ne 8, 3) := by decide +kernel
theorem dX4_goText_279 : decode cX4_goText 279 = .ok (.bipush 9, 2) := by decide +kernel
theorem dX4_goText_281 : decode cX4_goText 281 = .ok (.goto 35, 3) := by decide +kernel
theorem dX4_goText_284 : decode cX4_goText 284 = .ok (.aload_n 0, 1) := by decide +kernel
theorem dX4_goText_285 : decode cX4_goText 285 = .ok (.getfield 25, 3) := by decide +kernel
theorem dX4_goText_288 : decode cX4_goText 288 = .ok (.iload 4, 2) := by decide +kernel
theorem dX4_goText_290 : decode cX4_goText 290 = .ok (.iaload, 1) := by decide +kernel
theorem dX4_goText_291 : decode cX4_goText 291 = .ok (.iload 6, 2) := by decide +kernel
theorem dX4_goText_293 : decode cX4_goText 293 = .ok (.if_icmp .ge 7, 3) := by decide +kernel
theorem dX4_goText_296 : decode cX4_goText 296 = .ok (.iconst 1, 1) := by decide +kernel
theorem dX4_goText_297 : decode cX4_goText 297 = .ok (.goto 19, 3) := by decide +kernel
theorem dX4_goText_300 : decode cX4_goText 300 = .ok (.aload_n 0, 1) := by decide +kernel
theorem dX4_goText_301 : decode cX4_goText 301 = .ok (.getfield 28, 3) := by decide +kernel
theorem dX4_goText_304 : decode cX4_goText 304 = .ok (.iload 5, 2) := by decide +kernel
theorem dX4_goText_306 : decode cX4_goText 306 = .ok (.iaload, 1) := by decide +kernel
theorem dX4_goText_307 : decode cX4_goText 307 = .ok (.iconst 5, 1) := by decide +kernel
theorem dX4_goText_308 : decode cX4_goText 308 = .ok (.if_icmp .ne 7, 3) := by decide +kernel
theorem dX4_goText_311 : decode cX4_goText 311 = .ok (.iconst 2, 1) := by decide +kernel
theorem dX4_goText_312 : decode cX4_goText 312 = .ok (.goto 4, 3) := by decide +kernel
theorem dX4_goText_315 : decode cX4_goText 315 = .ok (.iconst 0, 1) := by decide +kernel
theorem dX4_goText_316 : decode cX4_goText 316 = .ok (.putfield 100, 3) := by decide +kernel
theorem dX4_goText_319 : decode cX4_goText 319 = .ok (.aload_n 0, 1) := by decide +kernel
theorem dX4_goText_320 : decode cX4_goText 320 = .ok (.getfield 100, 3) := by decide +kernel
theorem dX4_goText_323 : decode cX4_goText 323 = .ok (.ifCond .ne 85, 3) := by decide +kernel
theorem dX4_goText_326 : decode cX4_goText 326 = .ok (.iload 5, 2) := by decide +kernel
theorem dX4_goText_328 : decode cX4_goText 328 = .ok (.aload_n 0, 1) := by decide +kernel
theorem dX4_goText_329 : decode cX4_goText 329 = .ok (.getfield 28, 3) := by decide +kernel
theorem dX4_goText_332 : decode cX4_goText 332 = .ok (.iload 5, 2) := by decide +kernel
theorem dX4_goText_334 : decode cX4_goText 334 = .ok (.iaload, 1) := by decide +kernel
theorem dX4_goText_335 : decode cX4_goText 335 = .ok (.invokestatic 79, 3) := by decide +kernel
theorem dX4_goText_338 : decode cX4_goText 338 = .ok (.istore 7, 2) := by decide +kernel
theorem dX4_goText_340 : decode cX4_goText 340 = .ok (.aload_n 0, 1) := by decide +kernel
theorem dX4_goText_341 : decode cX4_goText 341 = .ok (.getfield 31, 3) := by decide +kernel
theorem dX4_goText_344 : decode cX4_goText 344 = .ok (.iload 7, 2) := by decide +kernel
theorem dX4_goText_346 : decode cX4_goText 346 = .ok (.iload 4, 2) := by decide +kernel
theorem dX4_goText_348 : decode cX4_goText 348 = .ok (.iastore, 1) := by decide +kernel
theorem dX4_goText_349 : decode cX4_goText 349 = .ok (.aload_n 0, 1) := by decide +kernel
theorem dX4_goText_350 : decode cX4_goText 350 = .ok (.getfield 31, 3) := by decide +kernel
theorem dX4_goText_353 : decode cX4_goText 353 = .ok (.iload 7, 2) := by decide +kernel
theorem dX4_goText_355 : decode cX4_goText 355 = .ok (.iconst 1, 1) := by decide +kernel
theorem dX4_goText_356 : decode cX4_goText 356 = .ok (.iadd, 1) := by decide +kernel
theorem dX4_goText_357 : decode cX4_goText 357 = .ok (.iload 6, 2) := by decide +kernel
theorem dX4_goText_359 : decode cX4_goText 359 = .ok (.iastore, 1) := by decide +kernel
theorem dX4_goText_360 : decode cX4_goText 360 = .ok (.aload_n 0, 1) := by decide +kernel
theorem dX4_goText_361 : decode cX4_goText 361 = .ok (.getfield 31, 3) := by decide +kernel
theorem dX4_goText_364 : decode cX4_goText 364 = .ok (.iload 7, 2) := by decide +kernel
theorem dX4_goText_366 : decode cX4_goText 366 = .ok (.iconst 2, 1) := by decide +kernel
theorem dX4_goText_367 : decode cX4_goText 367 = .ok (.iadd, 1) := by decide +kernel
theorem dX4_goText_368 : decode cX4_goText 368 = .ok (.aload_n 0, 1) := by decide +kernel
theorem dX4_goText_369 : decode cX4_goText 369 = .ok (.getfield 76, 3) := by decide +kernel
theorem dX4_goText_372 : decode cX4_goText 372 = .ok (.iastore, 1) := by decide +kernel
theorem dX4_goText_373 : decode cX4_goText 373 = .ok (.aload_n 0, 1) := by decide +kernel
theorem dX4_goText_374 : decode cX4_goText 374 = .ok (.getfield 28, 3) := by decide +kernel
theorem dX4_goText_377 : decode cX4_goText 377 = .ok (.iload 5, 2) := by decide +kernel
theorem dX4_goText_379 : decode cX4_goText 379 = .ok (.dup2, 1) := by decide +kernel
theorem dX4_goText_380 : decode cX4_goText 380 = .ok (.iaload, 1) := by decide +kernel
theorem dX4_goText_381 : decode cX4_goText 381 = .ok (.iconst 1, 1) := by decide +kernel
theorem dX4_goText_382 : decode cX4_goText 382 = .ok (.iadd, 1) := by decide +kernel
theorem dX4_goText_383 : decode cX4_goText 383 = .ok (.iastore, 1) := by decide +kernel
theorem dX4_goText_384 : decode cX4_goText 384 = .ok (.aload_n 0, 1) := by decide +kernel
theorem dX4_goText_385 : decode cX4_goText 385 = .ok (.getfield 25, 3) := by decide +kernel
theorem dX4_goText_388 : decode cX4_goText 388 = .ok (.iload 4, 2) := by decide +kernel
theorem dX4_goText_390 : decode cX4_goText 390 = .ok (.dup2, 1) := by decide +kernel
theorem dX4_goText_391 : decode cX4_goText 391 = .ok (.iaload, 1) := by decide +kernel
theorem dX4_goText_392 : decode cX4_goText 392 = .ok (.iload 6, 2) := by decide +kernel
theorem dX4_goText_394 : decode cX4_goText 394 = .ok (.isub, 1) := by decide +kernel
theorem dX4_goText_395 : decode cX4_goText 395 = .ok (.iastore, 1) := by decide +kernel
theorem dX4_goText_396 : decode cX4_goText 396 = .ok (.aload_n 0, 1) := by decide +kernel
theorem dX4_goText_397 : decode cX4_goText 397 = .ok (.getfield 25, 3) := by decide +kernel
theorem dX4_goText_400 : decode cX4_goText 400 = .ok (.iload 5, 2) := by decide +kernel
theorem dX4_goText_402 : decode cX4_goText 402 = .ok (.dup2, 1) := by decide +kernel
theorem dX4_goText_403 : decode cX4_goText 403 = .ok (.iaload, 1) := by decide +kernel
theorem dX4_goText_404 : decode cX4_goText 404 = .ok (.iload 6, 2) := by decide +kernel
theorem dX4_goText_406 : decode cX4_goText 406 = .ok (.iadd, 1) := by decide +kernel
theorem dX4_goText_407 : decode cX4_goText 407 = .ok (.iastore, 1) := by decide +kernel
theorem dX4_goText_408 : decode cX4_goText 408 = .ok (.aload_n 0, 1) := by decide +kernel
theorem dX4_goText_409 : decode cX4_goText 409 = .ok (.getfield 100, 3) := by decide +kernel
theorem dX4_goText_412 : decode cX4_goText 412 = .ok (.ifCond .le 8, 3) := by decide +kernel
theorem dX4_goText_415 : decode cX4_goText 415 = .ok (.aload_n 0, 1) := by decide +kernel
theorem dX4_goText_416 : decode cX4_goText 416 = .ok (.getfield 97, 3) := by decide +kernel
theorem dX4_goText_419 : decode cX4_goText 419 = .ok (.ireturn, 1) := by decide +kernel
theorem dX4_goText_420 : decode cX4_goText 420 = .ok (.aload_n 0, 1) := by decide +kernel
theorem dX4_goText_421 : decode cX4_goText 421 = .ok (.dup, 1) := by decide +kernel
theorem dX4_goText_422 : decode cX4_goText 422 = .ok (.getfield 97, 3) := by decide +kernel
theorem dX4_goText_425 : decode cX4_goText 425 = .ok (.iconst 1, 1) := by decide +kernel
theorem dX4_goText_426 : decode cX4_goText 426 = .ok (.iadd, 1) := by decide +kernel
theorem dX4_goText_427 : decode cX4_goText 427 = .ok (.putfield 97, 3) := by decide +kernel
theorem dX4_goText_430 : decode cX4_goText 430 = .ok (.goto (-391), 3) := by decide +kernel
theorem dX4_goText_433 : decode cX4_goText 433 = .ok (.bipush (-6), 2) := by decide +kernel
theorem dX4_goText_435 : decode cX4_goText 435 = .ok (.ireturn, 1) := by decide +kernel
set_option maxRecDepth 20000 in
theorem ggX4_judge_X4_in : GoodIn wsX4_judge wsX4_in := goodIn_r _ [5] (by decide +kernel) (by decide +kernel)
set_option maxRecDepth 20000 in
theorem gX4_judge_X4_in : GoodIn wsX4_judge (va_wsS RX4 51 yX4_in wsX4_in) := goodIn_app (goodIn_of _ (by decide +kernel)) ggX4_judge_X4_in
set_option maxRecDepth 20000 in
theorem ggX4_judge_X4_faultOf : GoodIn wsX4_judge wsX4_faultOf := goodIn_r _ [9, 10, 11, 2, 3, 4, 5, 62, 63, 64, 65, 66, 67, 68, 69, 70, 71, 72, 73, 74, 75, 76, 77, 78, 79, 80, 81, 82] (by decide +kernel) (by decide +kernel)
set_option maxRecDepth 20000 in
theorem gX4_judge_X4_faultOf : GoodIn wsX4_judge (wsV RX4 69 RX4 yX4_faultOf wsX4_faultOf) := goodIn_app (goodIn_of _ (by decide +kernel)) ggX4_judge_X4_faultOf
set_option maxRecDepth 20000 in
theorem ggX4_judge_X4_opens : GoodIn wsX4_judge wsX4_opens := goodIn_r _ [15, 10, 11, 62, 63, 64, 65, 66, 67, 68, 69, 70, 71, 72, 73, 74, 75, 76, 77, 78, 79, 80, 81, 82] (by decide +kernel) (by decide +kernel)
set_option maxRecDepth 20000 in
theorem gX4_judge_X4_opens : GoodIn wsX4_judge (wsV RX4 103 RX4 yX4_opens wsX4_opens) := goodIn_app (goodIn_of _ (by decide +kernel)) ggX4_judge_X4_opens
set_option maxRecDepth 20000 in
theorem ggX4_judge_X4_goText : GoodIn wsX4_judge wsX4_goText := goodIn_r _ [19, 20, 1, 10, 11, 21, 22, 23, 24, 25, 26, 27, 4, 28, 29, 30, 31, 32, 12, 13, 14, 15, 33, 34, 35, 36, 37, 38, 39, 40, 41, 42, 43, 44, 45, 46, 47, 48, 49, 50, 51, 52, 53, 54, 55, 56, 57, 58, 59, 60, 61, 2, 3, 5, 62, 63, 64, 65, 66, 67, 68, 69, 70, 71, 72, 73, 74, 75, 76, 77, 78, 79, 80, 81, 82] (by decide +kernel) (by decide +kernel)
set_option maxRecDepth 20000 in
theorem gX4_judge_X4_goText : GoodIn wsX4_judge (wsV RX4 116 RX4 yX4_goText wsX4_goText) := goodIn_app (goodIn_of _ (by decide +kernel)) ggX4_judge_X4_goText
theorem dX4_judge_0 : decode cX4_judge 0 = .ok (.iload_n 1, 1) := by decide +kernel
theorem dX4_judge_1 : decode cX4_judge 1 = .ok (.iconst 0, 1) := by decide +kernel
theorem dX4_judge_2 : decode cX4_judge 2 = .ok (.iconst 1, 1) := by decide +kernel
theorem dX4_judge_3 : decode cX4_judge 3 = .ok (.invokestatic 51, 3) := by decide +kernel
theorem dX4_judge_6 : decode cX4_judge 6 = .ok (.ifCond .ne 6, 3) := by decide +kernel
theorem dX4_judge_9 : decode cX4_judge 9 = .ok (.bipush (-2), 2) := by decide +kernel
theorem dX4_judge_11 : decode cX4_judge 11 = .ok (.ireturn, 1) := by decide +kernel
theorem dX4_judge_12 : decode cX4_judge 12 = .ok (.aload_n 0, 1) := by decide +kernel
theorem dX4_judge_13 : decode cX4_judge 13 = .ok (.invokevirtual 69, 3) := by decide +kernel
theorem dX4_judge_16 : decode cX4_judge 16 = .ok (.ifCond .lt 6, 3) := by decide +kernel
theorem dX4_judge_19 : decode cX4_judge 19 = .ok (.bipush (-5), 2) := by decide +kernel
theorem dX4_judge_21 : decode cX4_judge 21 = .ok (.ireturn, 1) := by decide +kernel
theorem dX4_judge_22 : decode cX4_judge 22 = .ok (.aload_n 0, 1) := by decide +kernel
theorem dX4_judge_23 : decode cX4_judge 23 = .ok (.invokevirtual 103, 3) := by decide +kernel
theorem dX4_judge_26 : decode cX4_judge 26 = .ok (.ifCond .le 6, 3) := by decide +kernel
theorem dX4_judge_29 : decode cX4_judge 29 = .ok (.bipush (-3), 2) := by decide +kernel
theorem dX4_judge_31 : decode cX4_judge 31 = .ok (.ireturn, 1) := by decide +kernel
theorem dX4_judge_32 : decode cX4_judge 32 = .ok (.aload_n 0, 1) := by decide +kernel
theorem dX4_judge_33 : decode cX4_judge 33 = .ok (.iconst 0, 1) := by decide +kernel
theorem dX4_judge_34 : decode cX4_judge 34 = .ok (.invokevirtual 116, 3) := by decide +kernel
theorem dX4_judge_37 : decode cX4_judge 37 = .ok (.istore_n 2, 1) := by decide +kernel
theorem dX4_judge_38 : decode cX4_judge 38 = .ok (.iload_n 2, 1) := by decide +kernel
theorem dX4_judge_39 : decode cX4_judge 39 = .ok (.ifCond .lt 7, 3) := by decide +kernel
theorem dX4_judge_42 : decode cX4_judge 42 = .ok (.iload_n 1, 1) := by decide +kernel
theorem dX4_judge_43 : decode cX4_judge 43 = .ok (.ifCond .ne 7, 3) := by decide +kernel
theorem dX4_judge_46 : decode cX4_judge 46 = .ok (.iload_n 2, 1) := by decide +kernel
theorem dX4_judge_47 : decode cX4_judge 47 = .ok (.goto 7, 3) := by decide +kernel
theorem dX4_judge_50 : decode cX4_judge 50 = .ok (.aload_n 0, 1) := by decide +kernel
theorem dX4_judge_51 : decode cX4_judge 51 = .ok (.getfield 100, 3) := by decide +kernel
theorem dX4_judge_54 : decode cX4_judge 54 = .ok (.ireturn, 1) := by decide +kernel
set_option maxRecDepth 20000 in
theorem ggX4_done_X4_faultOf : GoodIn wsX4_done wsX4_faultOf := goodIn_r _ [7, 1, 8, 9, 10, 6, 11, 66, 67, 68, 69, 70, 71, 72, 73, 74, 75, 76, 77, 78, 79, 80, 81, 82, 83, 84, 85, 86] (by decide +kernel) (by decide +kernel)
set_option maxRecDepth 20000 in
theorem gX4_done_X4_faultOf : GoodIn wsX4_done (wsV RX4 69 RX4 yX4_faultOf wsX4_faultOf) := goodIn_app (goodIn_of _ (by decide +kernel)) ggX4_done_X4_faultOf
set_option maxRecDepth 20000 in
theorem ggX4_done_X4_opens : GoodIn wsX4_done wsX4_opens := goodIn_r _ [15, 1, 8, 66, 67, 68, 69, 70, 71, 72, 73, 74, 75, 76, 77, 78, 79, 80, 81, 82, 83, 84, 85, 86] (by decide +kernel) (by decide +kernel)
set_option maxRecDepth 20000 in
theorem gX4_done_X4_opens : GoodIn wsX4_done (wsV RX4 103 RX4 yX4_opens wsX4_opens) := goodIn_app (goodIn_of _ (by decide +kernel)) ggX4_done_X4_opens
set_option maxRecDepth 20000 in
theorem ggX4_done_X4_goText : GoodIn wsX4_done wsX4_goText := goodIn_r _ [19, 2, 20, 1, 8, 21, 22, 23, 24, 25, 26, 27, 6, 28, 29, 30, 31, 32, 12, 13, 14, 15, 33, 34, 35, 36, 37, 38, 39, 40, 41, 42, 43, 44, 45, 46, 47, 48, 49, 50, 51, 52, 53, 54, 55, 56, 57, 58, 59, 60, 61, 9, 10, 11, 66, 67, 68, 69, 70, 71, 72, 73, 74, 75, 76, 77, 78, 79, 80, 81, 82, 83, 84, 85, 86] (by decide +kernel) (by decide +kernel)
set_option maxRecDepth 20000 in
theorem gX4_done_X4_goText : GoodIn wsX4_done (wsV RX4 116 RX4 yX4_goText wsX4_goText) := goodIn_app (goodIn_of _ (by decide +kernel)) ggX4_done_X4_goText
set_option maxRecDepth 20000 in
theorem ggX4_done_X4_keepNow : GoodIn wsX4_done wsX4_keepNow := goodIn_r _ [65, 24, 29, 30, 21, 31, 22, 32, 23, 66, 67, 68, 69, 70, 71, 72, 73, 74, 75, 76, 77, 78, 79, 80, 81, 82, 83, 84, 85, 86] (by decide +kernel) (by decide +kernel)
set_option maxRecDepth 20000 in
theorem gX4_done_X4_keepNow : GoodIn wsX4_done (wsV RX4 119 RX4 yX4_keepNow wsX4_keepNow) := goodIn_app (goodIn_of _ (by decide +kernel)) ggX4_done_X4_keepNow
theorem dX4_done_0 : decode cX4_done 0 = .ok (.aload_n 0, 1) := by decide +kernel
theorem dX4_done_1 : decode cX4_done 1 = .ok (.invokevirtual 69, 3) := by decide +kernel
theorem dX4_done_4 : decode cX4_done 4 = .ok (.ifCond .lt 6, 3) := by decide +kernel
theorem dX4_done_7 : decode cX4_done 7 = .ok (.bipush (-5), 2) := by decide +kernel
theorem dX4_done_9 : decode cX4_done 9 = .ok (.ireturn, 1) := by decide +kernel
theorem dX4_done_10 : decode cX4_done 10 = .ok (.aload_n 0, 1) := by decide +kernel
theorem dX4_done_11 : decode cX4_done 11 = .ok (.invokevirtual 103, 3) := by decide +kernel
theorem dX4_done_14 : decode cX4_done 14 = .ok (.ifCond .le 6, 3) := by decide +kernel
theorem dX4_done_17 : decode cX4_done 17 = .ok (.bipush (-3), 2) := by decide +kernel
theorem dX4_done_19 : decode cX4_done 19 = .ok (.ireturn, 1) := by decide +kernel
theorem dX4_done_20 : decode cX4_done 20 = .ok (.aload_n 0, 1) := by decide +kernel
theorem dX4_done_21 : decode cX4_done 21 = .ok (.iconst 0, 1) := by decide +kernel
theorem dX4_done_22 : decode cX4_done 22 = .ok (.invokevirtual 116, 3) := by decide +kernel
theorem dX4_done_25 : decode cX4_done 25 = .ok (.ifCond .lt 6, 3) := by decide +kernel
theorem dX4_done_28 : decode cX4_done 28 = .ok (.bipush (-5), 2) := by decide +kernel
theorem dX4_done_30 : decode cX4_done 30 = .ok (.ireturn, 1) := by decide +kernel
theorem dX4_done_31 : decode cX4_done 31 = .ok (.aload_n 0, 1) := by decide +kernel
theorem dX4_done_32 : decode cX4_done 32 = .ok (.invokevirtual 119, 3) := by decide +kernel
theorem dX4_done_35 : decode cX4_done 35 = .ok (.aload_n 0, 1) := by decide +kernel
theorem dX4_done_36 : decode cX4_done 36 = .ok (.iconst 0, 1) := by decide +kernel
theorem dX4_done_37 : decode cX4_done 37 = .ok (.putfield 66, 3) := by decide +kernel
theorem dX4_done_40 : decode cX4_done 40 = .ok (.aload_n 0, 1) := by decide +kernel
theorem dX4_done_41 : decode cX4_done 41 = .ok (.getfield 97, 3) := by decide +kernel
theorem dX4_done_44 : decode cX4_done 44 = .ok (.ireturn, 1) := by decide +kernel
set_option maxRecDepth 20000 in
theorem ggX4_debt_X4_isDebt : GoodIn wsX4_debt wsX4_isDebt := goodIn_r _ [6, 7, 8, 9, 5, 10, 11, 12, 13, 17, 18, 19, 20, 21, 22, 23, 24, 25, 26, 27, 28, 29, 30, 31, 32, 33, 34, 35, 36, 37] (by decide +kernel) (by decide +kernel)
set_option maxRecDepth 20000 in
theorem gX4_debt_X4_isDebt : GoodIn wsX4_debt (wsV RX4 122 RX4 yX4_isDebt wsX4_isDebt) := goodIn_app (goodIn_of _ (by decide +kernel)) ggX4_debt_X4_isDebt
set_option maxRecDepth 20000 in
theorem ggX4_debt_X4_in : GoodIn wsX4_debt wsX4_in := goodIn_r _ [13] (by decide +kernel) (by decide +kernel)
set_option maxRecDepth 20000 in
theorem gX4_debt_X4_in : GoodIn wsX4_debt (va_wsS RX4 51 yX4_in wsX4_in) := goodIn_app (goodIn_of _ (by decide +kernel)) ggX4_debt_X4_in
set_option maxRecDepth 20000 in
theorem ggX4_debt_X4_at : GoodIn wsX4_debt wsX4_at := goodIn_r _ [16] (by decide +kernel) (by decide +kernel)
set_option maxRecDepth 20000 in
theorem gX4_debt_X4_at : GoodIn wsX4_debt (va_wsS RX4 79 yX4_at wsX4_at) := goodIn_app (goodIn_of _ (by decide +kernel)) ggX4_debt_X4_at
theorem dX4_debt_0 : decode cX4_debt 0 = .ok (.aload_n 0, 1) := by decide +kernel
theorem dX4_debt_1 : decode cX4_debt 1 = .ok (.iload_n 1, 1) := by decide +kernel
theorem dX4_debt_2 : decode cX4_debt 2 = .ok (.iload_n 2, 1) := by decide +kernel
theorem dX4_debt_3 : decode cX4_debt 3 = .ok (.invokevirtual 122, 3) := by decide +kernel
theorem dX4_debt_6 : decode cX4_debt 6 = .ok (.ifCond .ne 5, 3) := by decide +kernel
theorem dX4_debt_9 : decode cX4_debt 9 = .ok (.iconst (-1), 1) := by decide +kernel
theorem dX4_debt_10 : decode cX4_debt 10 = .ok (.ireturn, 1) := by decide +kernel
theorem dX4_debt_11 : decode cX4_debt 11 = .ok (.iload_n 3, 1) := by decide +kernel
theorem dX4_debt_12 : decode cX4_debt 12 = .ok (.iconst 0, 1) := by decide +kernel
theorem dX4_debt_13 : decode cX4_debt 13 = .ok (.iconst 2, 1) := by decide +kernel
theorem dX4_debt_14 : decode cX4_debt 14 = .ok (.invokestatic 51, 3) := by decide +kernel
theorem dX4_debt_17 : decode cX4_debt 17 = .ok (.ifCond .eq 18, 3) := by decide +kernel
theorem dX4_debt_20 : decode cX4_debt 20 = .ok (.aload_n 0, 1) := by decide +kernel
theorem dX4_debt_21 : decode cX4_debt 21 = .ok (.getfield 16, 3) := by decide +kernel
theorem dX4_debt_24 : decode cX4_debt 24 = .ok (.iload_n 1, 1) := by decide +kernel
theorem dX4_debt_25 : decode cX4_debt 25 = .ok (.iload_n 2, 1) := by decide +kernel
theorem dX4_debt_26 : decode cX4_debt 26 = .ok (.invokestatic 79, 3) := by decide +kernel
theorem dX4_debt_29 : decode cX4_debt 29 = .ok (.iload_n 3, 1) := by decide +kernel
theorem dX4_debt_30 : decode cX4_debt 30 = .ok (.iadd, 1) := by decide +kernel
theorem dX4_debt_31 : decode cX4_debt 31 = .ok (.iaload, 1) := by decide +kernel
theorem dX4_debt_32 : decode cX4_debt 32 = .ok (.goto 5, 3) := by decide +kernel
theorem dX4_debt_35 : decode cX4_debt 35 = .ok (.bipush (-2), 2) := by decide +kernel
theorem dX4_debt_37 : decode cX4_debt 37 = .ok (.ireturn, 1) := by decide +kernel
set_option maxRecDepth 20000 in
theorem ggX4_due_X4_isMan : GoodIn wsX4_due wsX4_isMan := goodIn_r _ [4, 5, 6, 3, 7] (by decide +kernel) (by decide +kernel)
set_option maxRecDepth 20000 in
theorem gX4_due_X4_isMan : GoodIn wsX4_due (va_wsS RX4 55 yX4_isMan wsX4_isMan) := goodIn_app (goodIn_of _ (by decide +kernel)) ggX4_due_X4_isMan
set_option maxRecDepth 20000 in
theorem ggX4_due_X4_asNow : GoodIn wsX4_due wsX4_asNow := goodIn_r _ [11, 12, 13, 14, 15, 16, 17, 18, 19, 28, 29, 30, 31, 32, 33, 34, 35, 36, 37, 38, 39, 40, 41, 42, 43, 44, 45, 46, 47, 48] (by decide +kernel) (by decide +kernel)
set_option maxRecDepth 20000 in
theorem gX4_due_X4_asNow : GoodIn wsX4_due (wsV RX4 94 RX4 yX4_asNow wsX4_asNow) := goodIn_app (goodIn_of _ (by decide +kernel)) ggX4_due_X4_asNow
set_option maxRecDepth 20000 in
theorem ggX4_due_X4_dueNow : GoodIn wsX4_due wsX4_dueNow := goodIn_r _ [23, 16, 24, 18, 25, 26, 3, 27, 28, 29, 30, 31, 32, 33, 34, 35, 36, 37, 38, 39, 40, 41, 42, 43, 44, 45, 46, 47, 48] (by decide +kernel) (by decide +kernel)
set_option maxRecDepth 20000 in
theorem gX4_due_X4_dueNow : GoodIn wsX4_due (wsV RX4 83 RX4 yX4_dueNow wsX4_dueNow) := goodIn_app (goodIn_of _ (by decide +kernel)) ggX4_due_X4_dueNow
theorem dX4_due_0 : decode cX4_due 0 = .ok (.iload_n 1, 1) := by decide +kernel
theorem dX4_due_1 : decode cX4_due 1 = .ok (.invokestatic 55, 3) := by decide +kernel
theorem dX4_due_4 : decode cX4_due 4 = .ok (.ifCond .ne 5, 3) := by decide +kernel
theorem dX4_due_7 : decode cX4_due 7 = .ok (.iconst (-1), 1) := by decide +kernel
theorem dX4_due_8 : decode cX4_due 8 = .ok (.ireturn, 1) := by decide +kernel
theorem dX4_due_9 : decode cX4_due 9 = .ok (.aload_n 0, 1) := by decide +kernel
theorem dX4_due_10 : decode cX4_due 10 = .ok (.invokevirtual 94, 3) := by decide +kernel
theorem dX4_due_13 : decode cX4_due 13 = .ok (.aload_n 0, 1) := by decide +kernel
theorem dX4_due_14 : decode cX4_due 14 = .ok (.iload_n 1, 1) := by decide +kernel
theorem dX4_due_15 : decode cX4_due 15 = .ok (.invokevirtual 83, 3) := by decide +kernel
theorem dX4_due_18 : decode cX4_due 18 = .ok (.ireturn, 1) := by decide +kernel
set_option maxRecDepth 20000 in
theorem ggX4_owes_X4_isMan : GoodIn wsX4_owes wsX4_isMan := goodIn_r _ [6, 7, 8, 5, 9] (by decide +kernel) (by decide +kernel)
set_option maxRecDepth 20000 in
theorem gX4_owes_X4_isMan : GoodIn wsX4_owes (va_wsS RX4 55 yX4_isMan wsX4_isMan) := goodIn_app (goodIn_of _ (by decide +kernel)) ggX4_owes_X4_isMan
set_option maxRecDepth 20000 in
theorem ggX4_owes_X4_at : GoodIn wsX4_owes wsX4_at := goodIn_r _ [12] (by decide +kernel) (by decide +kernel)
set_option maxRecDepth 20000 in
theorem gX4_owes_X4_at : GoodIn wsX4_owes (va_wsS RX4 79 yX4_at wsX4_at) := goodIn_app (goodIn_of _ (by decide +kernel)) ggX4_owes_X4_at
theorem dX4_owes_0 : decode cX4_owes 0 = .ok (.iload_n 1, 1) := by decide +kernel
theorem dX4_owes_1 : decode cX4_owes 1 = .ok (.invokestatic 55, 3) := by decide +kernel
theorem dX4_owes_4 : decode cX4_owes 4 = .ok (.ifCond .eq 10, 3) := by decide +kernel
theorem dX4_owes_7 : decode cX4_owes 7 = .ok (.iload_n 2, 1) := by decide +kernel
theorem dX4_owes_8 : decode cX4_owes 8 = .ok (.invokestatic 55, 3) := by decide +kernel
theorem dX4_owes_11 : decode cX4_owes 11 = .ok (.ifCond .ne 5, 3) := by decide +kernel
theorem dX4_owes_14 : decode cX4_owes 14 = .ok (.iconst (-1), 1) := by decide +kernel
theorem dX4_owes_15 : decode cX4_owes 15 = .ok (.ireturn, 1) := by decide +kernel
theorem dX4_owes_16 : decode cX4_owes 16 = .ok (.iconst 0, 1) := by decide +kernel
theorem dX4_owes_17 : decode cX4_owes 17 = .ok (.istore_n 3, 1) := by decide +kernel
theorem dX4_owes_18 : decode cX4_owes 18 = .ok (.iconst 0, 1) := by decide +kernel
theorem dX4_owes_19 : decode cX4_owes 19 = .ok (.istore 4, 2) := by decide +kernel
theorem dX4_owes_21 : decode cX4_owes 21 = .ok (.iload 4, 2) := by decide +kernel
theorem dX4_owes_23 : decode cX4_owes 23 = .ok (.aload_n 0, 1) := by decide +kernel
theorem dX4_owes_24 : decode cX4_owes 24 = .ok (.getfield 13, 3) := by decide +kernel
theorem dX4_owes_27 : decode cX4_owes 27 = .ok (.iload_n 1, 1) := by decide +kernel
theorem dX4_owes_28 : decode cX4_owes 28 = .ok (.iaload, 1) := by decide +kernel
theorem dX4_owes_29 : decode cX4_owes 29 = .ok (.if_icmp .ge 44, 3) := by decide +kernel
theorem dX4_owes_32 : decode cX4_owes 32 = .ok (.iload_n 3, 1) := by decide +kernel
theorem dX4_owes_33 : decode cX4_owes 33 = .ok (.aload_n 0, 1) := by decide +kernel
theorem dX4_owes_34 : decode cX4_owes 34 = .ok (.getfield 16, 3) := by decide +kernel
theorem dX4_owes_37 : decode cX4_owes 37 = .ok (.iload_n 1, 1) := by decide +kernel
theorem dX4_owes_38 : decode cX4_owes 38 = .ok (.iload 4, 2) := by decide +kernel
theorem dX4_owes_40 : decode cX4_owes 40 = .ok (.invokestatic 79, 3) := by decide +kernel
theorem dX4_owes_43 : decode cX4_owes 43 = .ok (.iaload, 1) := by decide +kernel
theorem dX4_owes_44 : decode cX4_owes 44 = .ok (.iload_n 2, 1) := by decide +kernel
theorem dX4_owes_45 : decode cX4_owes 45 = .ok (.if_icmp .ne 19, 3) := by decide +kernel
theorem dX4_owes_48 : decode cX4_owes 48 = .ok (.aload_n 0, 1) := by decide +kernel
theorem dX4_owes_49 : decode cX4_owes 49 = .ok (.getfield 16, 3) := by decide +kernel
theorem dX4_owes_52 : decode cX4_owes 52 = .ok (.iload_n 1, 1) := by decide +kernel
theorem dX4_owes_53 : decode cX4_owes 53 = .ok (.iload 4, 2) := by decide +kernel
theorem dX4_owes_55 : decode cX4_owes 55 = .ok (.invokestatic 79, 3) := by decide +kernel
theorem dX4_owes_58 : decode cX4_owes 58 = .ok (.iconst 1, 1) := by decide +kernel
theorem dX4_owes_59 : decode cX4_owes 59 = .ok (.iadd, 1) := by decide +kernel
theorem dX4_owes_60 : decode cX4_owes 60 = .ok (.iaload, 1) := by decide +kernel
theorem dX4_owes_61 : decode cX4_owes 61 = .ok (.goto 4, 3) := by decide +kernel
theorem dX4_owes_64 : decode cX4_owes 64 = .ok (.iconst 0, 1) := by decide +kernel
theorem dX4_owes_65 : decode cX4_owes 65 = .ok (.iadd, 1) := by decide +kernel
theorem dX4_owes_66 : decode cX4_owes 66 = .ok (.istore_n 3, 1) := by decide +kernel
theorem dX4_owes_67 : decode cX4_owes 67 = .ok (.iinc 4 1, 3) := by decide +kernel
theorem dX4_owes_70 : decode cX4_owes 70 = .ok (.goto (-49), 3) := by decide +kernel
theorem dX4_owes_73 : decode cX4_owes 73 = .ok (.iload_n 3, 1) := by decide +kernel
theorem dX4_owes_74 : decode cX4_owes 74 = .ok (.ireturn, 1) := by decide +kernel
set_option maxRecDepth 20000 in
theorem ggX4_seen_X4_isMan : GoodIn wsX4_seen wsX4_isMan := goodIn_r _ [6, 7, 8, 5, 9] (by decide +kernel) (by decide +kernel)
set_option maxRecDepth 20000 in
theorem gX4_seen_X4_isMan : GoodIn wsX4_seen (va_wsS RX4 55 yX4_isMan wsX4_isMan) := goodIn_app (goodIn_of _ (by decide +kernel)) ggX4_seen_X4_isMan
set_option maxRecDepth 20000 in
theorem ggX4_seen_X4_in : GoodIn wsX4_seen wsX4_in := goodIn_r _ [9] (by decide +kernel) (by decide +kernel)
set_option maxRecDepth 20000 in
theorem gX4_seen_X4_in : GoodIn wsX4_seen (va_wsS RX4 51 yX4_in wsX4_in) := goodIn_app (goodIn_of _ (by decide +kernel)) ggX4_seen_X4_in
theorem dX4_seen_0 : decode cX4_seen 0 = .ok (.iload_n 1, 1) := by decide +kernel
theorem dX4_seen_1 : decode cX4_seen 1 = .ok (.invokestatic 55, 3) := by decide +kernel
theorem dX4_seen_4 : decode cX4_seen 4 = .ok (.ifCond .ne 5, 3) := by decide +kernel
theorem dX4_seen_7 : decode cX4_seen 7 = .ok (.iconst (-1), 1) := by decide +kernel
theorem dX4_seen_8 : decode cX4_seen 8 = .ok (.ireturn, 1) := by decide +kernel
theorem dX4_seen_9 : decode cX4_seen 9 = .ok (.iload_n 2, 1) := by decide +kernel
theorem dX4_seen_10 : decode cX4_seen 10 = .ok (.iconst 0, 1) := by decide +kernel
theorem dX4_seen_11 : decode cX4_seen 11 = .ok (.sipush 9999, 3) := by decide +kernel
theorem dX4_seen_14 : decode cX4_seen 14 = .ok (.invokestatic 51, 3) := by decide +kernel
theorem dX4_seen_17 : decode cX4_seen 17 = .ok (.ifCond .ne 6, 3) := by decide +kernel
theorem dX4_seen_20 : decode cX4_seen 20 = .ok (.bipush (-2), 2) := by decide +kernel
theorem dX4_seen_22 : decode cX4_seen 22 = .ok (.ireturn, 1) := by decide +kernel
theorem dX4_seen_23 : decode cX4_seen 23 = .ok (.aload_n 0, 1) := by decide +kernel
theorem dX4_seen_24 : decode cX4_seen 24 = .ok (.getfield 126, 3) := by decide +kernel
theorem dX4_seen_27 : decode cX4_seen 27 = .ok (.bipush 6, 2) := by decide +kernel
theorem dX4_seen_29 : decode cX4_seen 29 = .ok (.if_icmp .ne 6, 3) := by decide +kernel
theorem dX4_seen_32 : decode cX4_seen 32 = .ok (.bipush (-4), 2) := by decide +kernel
theorem dX4_seen_34 : decode cX4_seen 34 = .ok (.ireturn, 1) := by decide +kernel
theorem dX4_seen_35 : decode cX4_seen 35 = .ok (.aload_n 0, 1) := by decide +kernel
theorem dX4_seen_36 : decode cX4_seen 36 = .ok (.getfield 19, 3) := by decide +kernel
theorem dX4_seen_39 : decode cX4_seen 39 = .ok (.iconst 2, 1) := by decide +kernel
theorem dX4_seen_40 : decode cX4_seen 40 = .ok (.aload_n 0, 1) := by decide +kernel
theorem dX4_seen_41 : decode cX4_seen 41 = .ok (.getfield 126, 3) := by decide +kernel
theorem dX4_seen_44 : decode cX4_seen 44 = .ok (.imul, 1) := by decide +kernel
theorem dX4_seen_45 : decode cX4_seen 45 = .ok (.iload_n 1, 1) := by decide +kernel
theorem dX4_seen_46 : decode cX4_seen 46 = .ok (.iastore, 1) := by decide +kernel
theorem dX4_seen_47 : decode cX4_seen 47 = .ok (.aload_n 0, 1) := by decide +kernel
theorem dX4_seen_48 : decode cX4_seen 48 = .ok (.getfield 19, 3) := by decide +kernel
theorem dX4_seen_51 : decode cX4_seen 51 = .ok (.iconst 2, 1) := by decide +kernel
theorem dX4_seen_52 : decode cX4_seen 52 = .ok (.aload_n 0, 1) := by decide +kernel
theorem dX4_seen_53 : decode cX4_seen 53 = .ok (.getfield 126, 3) := by decide +kernel
theorem dX4_seen_56 : decode cX4_seen 56 = .ok (.imul, 1) := by decide +kernel
theorem dX4_seen_57 : decode cX4_seen 57 = .ok (.iconst 1, 1) := by decide +kernel
theorem dX4_seen_58 : decode cX4_seen 58 = .ok (.iadd, 1) := by decide +kernel
theorem dX4_seen_59 : decode cX4_seen 59 = .ok (.iload_n 2, 1) := by decide +kernel
theorem dX4_seen_60 : decode cX4_seen 60 = .ok (.iastore, 1) := by decide +kernel
theorem dX4_seen_61 : decode cX4_seen 61 = .ok (.aload_n 0, 1) := by decide +kernel
theorem dX4_seen_62 : decode cX4_seen 62 = .ok (.dup, 1) := by decide +kernel
theorem dX4_seen_63 : decode cX4_seen 63 = .ok (.getfield 126, 3) := by decide +kernel
theorem dX4_seen_66 : decode cX4_seen 66 = .ok (.iconst 1, 1) := by decide +kernel
theorem dX4_seen_67 : decode cX4_seen 67 = .ok (.iadd, 1) := by decide +kernel
theorem dX4_seen_68 : decode cX4_seen 68 = .ok (.putfield 126, 3) := by decide +kernel
theorem dX4_seen_71 : decode cX4_seen 71 = .ok (.aload_n 0, 1) := by decide +kernel
theorem dX4_seen_72 : decode cX4_seen 72 = .ok (.getfield 126, 3) := by decide +kernel
theorem dX4_seen_75 : decode cX4_seen 75 = .ok (.ireturn, 1) := by decide +kernel
theorem dX4_forget_0 : decode cX4_forget 0 = .ok (.aload_n 0, 1) := by decide +kernel
theorem dX4_forget_1 : decode cX4_forget 1 = .ok (.getfield 126, 3) := by decide +kernel
theorem dX4_forget_4 : decode cX4_forget 4 = .ok (.istore_n 1, 1) := by decide +kernel
theorem dX4_forget_5 : decode cX4_forget 5 = .ok (.aload_n 0, 1) := by decide +kernel
theorem dX4_forget_6 : decode cX4_forget 6 = .ok (.iconst 0, 1) := by decide +kernel
theorem dX4_forget_7 : decode cX4_forget 7 = .ok (.putfield 126, 3) := by decide +kernel
theorem dX4_forget_10 : decode cX4_forget 10 = .ok (.iload_n 1, 1) := by decide +kernel
theorem dX4_forget_11 : decode cX4_forget 11 = .ok (.ireturn, 1) := by decide +kernel
set_option maxRecDepth 20000 in
theorem ggX4_isFit_X4_goText : GoodIn wsX4_isFit wsX4_goText := goodIn_r _ [8, 9, 10, 11, 12, 2, 13, 14, 15, 16, 17, 18, 7, 19, 20, 21, 22, 23, 24, 25, 26, 27, 28, 29, 30, 31, 32, 33, 34, 35, 36, 37, 38, 39, 40, 41, 42, 43, 44, 45, 46, 47, 48, 49, 50, 51, 52, 53, 54, 55, 56, 57, 58, 59, 60, 61, 62, 63, 64, 65, 66, 67, 68, 69, 70, 71, 72, 73, 74, 75, 76, 77, 78, 79, 80] (by decide +kernel) (by decide +kernel)
set_option maxRecDepth 20000 in
theorem gX4_isFit_X4_goText : GoodIn wsX4_isFit (wsV RX4 116 RX4 yX4_goText wsX4_goText) := goodIn_app (goodIn_of _ (by decide +kernel)) ggX4_isFit_X4_goText
theorem dX4_isFit_0 : decode cX4_isFit 0 = .ok (.aload_n 0, 1) := by decide +kernel
theorem dX4_isFit_1 : decode cX4_isFit 1 = .ok (.iload_n 1, 1) := by decide +kernel
theorem dX4_isFit_2 : decode cX4_isFit 2 = .ok (.invokevirtual 116, 3) := by decide +kernel
theorem dX4_isFit_5 : decode cX4_isFit 5 = .ok (.ifCond .ge 7, 3) := by decide +kernel
theorem dX4_isFit_8 : decode cX4_isFit 8 = .ok (.iconst 1, 1) := by decide +kernel
theorem dX4_isFit_9 : decode cX4_isFit 9 = .ok (.goto 4, 3) := by decide +kernel
theorem dX4_isFit_12 : decode cX4_isFit 12 = .ok (.iconst 0, 1) := by decide +kernel
theorem dX4_isFit_13 : decode cX4_isFit 13 = .ok (.istore_n 2, 1) := by decide +kernel
theorem dX4_isFit_14 : decode cX4_isFit 14 = .ok (.iconst 0, 1) := by decide +kernel
theorem dX4_isFit_15 : decode cX4_isFit 15 = .ok (.istore_n 3, 1) := by decide +kernel
theorem dX4_isFit_16 : decode cX4_isFit 16 = .ok (.iload_n 3, 1) := by decide +kernel
theorem dX4_isFit_17 : decode cX4_isFit 17 = .ok (.aload_n 0, 1) := by decide +kernel
theorem dX4_isFit_18 : decode cX4_isFit 18 = .ok (.getfield 126, 3) := by decide +kernel
theorem dX4_isFit_21 : decode cX4_isFit 21 = .ok (.if_icmp .ge 45, 3) := by decide +kernel
theorem dX4_isFit_24 : decode cX4_isFit 24 = .ok (.iload_n 2, 1) := by decide +kernel
theorem dX4_isFit_25 : decode cX4_isFit 25 = .ok (.ifCond .eq 41, 3) := by decide +kernel
theorem dX4_isFit_28 : decode cX4_isFit 28 = .ok (.aload_n 0, 1) := by decide +kernel
theorem dX4_isFit_29 : decode cX4_isFit 29 = .ok (.getfield 25, 3) := by decide +kernel
theorem dX4_isFit_32 : decode cX4_isFit 32 = .ok (.aload_n 0, 1) := by decide +kernel
theorem dX4_isFit_33 : decode cX4_isFit 33 = .ok (.getfield 19, 3) := by decide +kernel
theorem dX4_isFit_36 : decode cX4_isFit 36 = .ok (.iconst 2, 1) := by decide +kernel
theorem dX4_isFit_37 : decode cX4_isFit 37 = .ok (.iload_n 3, 1) := by decide +kernel
theorem dX4_isFit_38 : decode cX4_isFit 38 = .ok (.imul, 1) := by decide +kernel
theorem dX4_isFit_39 : decode cX4_isFit 39 = .ok (.iaload, 1) := by decide +kernel
theorem dX4_isFit_40 : decode cX4_isFit 40 = .ok (.iaload, 1) := by decide +kernel
theorem dX4_isFit_41 : decode cX4_isFit 41 = .ok (.aload_n 0, 1) := by decide +kernel
theorem dX4_isFit_42 : decode cX4_isFit 42 = .ok (.getfield 19, 3) := by decide +kernel
theorem dX4_isFit_45 : decode cX4_isFit 45 = .ok (.iconst 2, 1) := by decide +kernel
theorem dX4_isFit_46 : decode cX4_isFit 46 = .ok (.iload_n 3, 1) := by decide +kernel
theorem dX4_isFit_47 : decode cX4_isFit 47 = .ok (.imul, 1) := by decide +kernel
theorem dX4_isFit_48 : decode cX4_isFit 48 = .ok (.iconst 1, 1) := by decide +kernel
theorem dX4_isFit_49 : decode cX4_isFit 49 = .ok (.iadd, 1) := by decide +kernel
theorem dX4_isFit_50 : decode cX4_isFit 50 = .ok (.iaload, 1) := by decide +kernel
theorem dX4_isFit_51 : decode cX4_isFit 51 = .ok (.if_icmp .ne 7, 3) := by decide +kernel
theorem dX4_isFit_54 : decode cX4_isFit 54 = .ok (.iconst 1, 1) := by decide +kernel
theorem dX4_isFit_55 : decode cX4_isFit 55 = .ok (.goto 4, 3) := by decide +kernel
theorem dX4_isFit_58 : decode cX4_isFit 58 = .ok (.iconst 0, 1) := by decide +kernel
theorem dX4_isFit_59 : decode cX4_isFit 59 = .ok (.istore_n 2, 1) := by decide +kernel
theorem dX4_isFit_60 : decode cX4_isFit 60 = .ok (.iinc 3 1, 3) := by decide +kernel
theorem dX4_isFit_63 : decode cX4_isFit 63 = .ok (.goto (-47), 3) := by decide +kernel
theorem dX4_isFit_66 : decode cX4_isFit 66 = .ok (.iload_n 2, 1) := by decide +kernel
theorem dX4_isFit_67 : decode cX4_isFit 67 = .ok (.ireturn, 1) := by decide +kernel
set_option maxRecDepth 20000 in
theorem ggX4_filled_X4_faultOf : GoodIn wsX4_filled wsX4_faultOf := goodIn_r _ [5, 6, 7, 8, 9, 4, 10, 68, 69, 70, 71, 72, 73, 74, 75, 76, 77, 78, 79, 80, 81, 82, 83, 84, 85, 86, 87, 88] (by decide +kernel) (by decide +kernel)
set_option maxRecDepth 20000 in
theorem gX4_filled_X4_faultOf : GoodIn wsX4_filled (wsV RX4 69 RX4 yX4_faultOf wsX4_faultOf) := goodIn_app (goodIn_of _ (by decide +kernel)) ggX4_filled_X4_faultOf
set_option maxRecDepth 20000 in
theorem ggX4_filled_X4_opens : GoodIn wsX4_filled wsX4_opens := goodIn_r _ [14, 6, 7, 68, 69, 70, 71, 72, 73, 74, 75, 76, 77, 78, 79, 80, 81, 82, 83, 84, 85, 86, 87, 88] (by decide +kernel) (by decide +kernel)
set_option maxRecDepth 20000 in
theorem gX4_filled_X4_opens : GoodIn wsX4_filled (wsV RX4 103 RX4 yX4_opens wsX4_opens) := goodIn_app (goodIn_of _ (by decide +kernel)) ggX4_filled_X4_opens
set_option maxRecDepth 20000 in
theorem ggX4_filled_X4_isFit : GoodIn wsX4_filled wsX4_isFit := goodIn_r _ [18, 19, 20, 21, 22, 23, 24, 4, 25, 26, 27, 6, 7, 28, 29, 30, 31, 32, 33, 34, 35, 36, 37, 38, 11, 12, 13, 14, 39, 40, 41, 42, 43, 44, 45, 46, 47, 48, 49, 50, 51, 52, 53, 54, 55, 56, 57, 58, 59, 60, 61, 62, 63, 64, 65, 66, 67, 8, 9, 10, 68, 69, 70, 71, 72, 73, 74, 75, 76, 77, 78, 79, 80, 81, 82, 83, 84, 85, 86, 87, 88] (by decide +kernel) (by decide +kernel)
set_option maxRecDepth 20000 in
theorem gX4_filled_X4_isFit : GoodIn wsX4_filled (wsV RX4 129 RX4 yX4_isFit wsX4_isFit) := goodIn_app (goodIn_of _ (by decide +kernel)) ggX4_filled_X4_isFit
set_option maxRecDepth 20000 in
theorem ggX4_filled_X4_in : GoodIn wsX4_filled wsX4_in := goodIn_r _ [10] (by decide +kernel) (by decide +kernel)
set_option maxRecDepth 20000 in
theorem gX4_filled_X4_in : GoodIn wsX4_filled (va_wsS RX4 51 yX4_in wsX4_in) := goodIn_app (goodIn_of _ (by decide +kernel)) ggX4_filled_X4_in
theorem dX4_filled_0 : decode cX4_filled 0 = .ok (.aload_n 0, 1) := by decide +kernel
theorem dX4_filled_1 : decode cX4_filled 1 = .ok (.invokevirtual 69, 3) := by decide +kernel
theorem dX4_filled_4 : decode cX4_filled 4 = .ok (.ifCond .lt 6, 3) := by decide +kernel
theorem dX4_filled_7 : decode cX4_filled 7 = .ok (.bipush (-5), 2) := by decide +kernel
theorem dX4_filled_9 : decode cX4_filled 9 = .ok (.ireturn, 1) := by decide +kernel
theorem dX4_filled_10 : decode cX4_filled 10 = .ok (.iconst 1, 1) := by decide +kernel
theorem dX4_filled_11 : decode cX4_filled 11 = .ok (.istore_n 2, 1) := by decide +kernel
theorem dX4_filled_12 : decode cX4_filled 12 = .ok (.iconst 0, 1) := by decide +kernel
theorem dX4_filled_13 : decode cX4_filled 13 = .ok (.istore_n 3, 1) := by decide +kernel
theorem dX4_filled_14 : decode cX4_filled 14 = .ok (.iload_n 3, 1) := by decide +kernel
theorem dX4_filled_15 : decode cX4_filled 15 = .ok (.aload_n 0, 1) := by decide +kernel
theorem dX4_filled_16 : decode cX4_filled 16 = .ok (.invokevirtual 103, 3) := by decide +kernel
theorem dX4_filled_19 : decode cX4_filled 19 = .ok (.if_icmp .ge 14, 3) := by decide +kernel
theorem dX4_filled_22 : decode cX4_filled 22 = .ok (.iload_n 2, 1) := by decide +kernel
theorem dX4_filled_23 : decode cX4_filled 23 = .ok (.bipush 6, 2) := by decide +kernel
theorem dX4_filled_25 : decode cX4_filled 25 = .ok (.imul, 1) := by decide +kernel
theorem dX4_filled_26 : decode cX4_filled 26 = .ok (.istore_n 2, 1) := by decide +kernel
theorem dX4_filled_27 : decode cX4_filled 27 = .ok (.iinc 3 1, 3) := by decide +kernel
theorem dX4_filled_30 : decode cX4_filled 30 = .ok (.goto (-16), 3) := by decide +kernel
theorem dX4_filled_33 : decode cX4_filled 33 = .ok (.iconst 0, 1) := by decide +kernel
theorem dX4_filled_34 : decode cX4_filled 34 = .ok (.istore_n 3, 1) := by decide +kernel
theorem dX4_filled_35 : decode cX4_filled 35 = .ok (.bipush (-6), 2) := by decide +kernel
theorem dX4_filled_37 : decode cX4_filled 37 = .ok (.istore 4, 2) := by decide +kernel
theorem dX4_filled_39 : decode cX4_filled 39 = .ok (.iconst 0, 1) := by decide +kernel
theorem dX4_filled_40 : decode cX4_filled 40 = .ok (.istore 5, 2) := by decide +kernel
theorem dX4_filled_42 : decode cX4_filled 42 = .ok (.iload 5, 2) := by decide +kernel
theorem dX4_filled_44 : decode cX4_filled 44 = .ok (.iload_n 2, 1) := by decide +kernel
theorem dX4_filled_45 : decode cX4_filled 45 = .ok (.if_icmp .ge 35, 3) := by decide +kernel
theorem dX4_filled_48 : decode cX4_filled 48 = .ok (.aload_n 0, 1) := by decide +kernel
theorem dX4_filled_49 : decode cX4_filled 49 = .ok (.iload 5, 2) := by decide +kernel
theorem dX4_filled_51 : decode cX4_filled 51 = .ok (.invokevirtual 129, 3) := by decide +kernel
theorem dX4_filled_54 : decode cX4_filled 54 = .ok (.ifCond .eq 20, 3) := by decide +kernel
theorem dX4_filled_57 : decode cX4_filled 57 = .ok (.iload 4, 2) := by decide +kernel
theorem dX4_filled_59 : decode cX4_filled 59 = .ok (.ifCond .ge 8, 3) := by decide +kernel
theorem dX4_filled_62 : decode cX4_filled 62 = .ok (.iload 5, 2) := by decide +kernel
theorem dX4_filled_64 : decode cX4_filled 64 = .ok (.goto 5, 3) := by decide +kernel
theorem dX4_filled_67 : decode cX4_filled 67 = .ok (.iload 4, 2) := by decide +kernel
theorem dX4_filled_69 : decode cX4_filled 69 = .ok (.istore 4, 2) := by decide +kernel
theorem dX4_filled_71 : decode cX4_filled 71 = .ok (.iinc 3 1, 3) := by decide +kernel
theorem dX4_filled_74 : decode cX4_filled 74 = .ok (.iinc 5 1, 3) := by decide +kernel
theorem dX4_filled_77 : decode cX4_filled 77 = .ok (.goto (-35), 3) := by decide +kernel
theorem dX4_filled_80 : decode cX4_filled 80 = .ok (.iload_n 1, 1) := by decide +kernel
theorem dX4_filled_81 : decode cX4_filled 81 = .ok (.iconst (-1), 1) := by decide +kernel
theorem dX4_filled_82 : decode cX4_filled 82 = .ok (.if_icmp .ne 5, 3) := by decide +kernel
theorem dX4_filled_85 : decode cX4_filled 85 = .ok (.iload_n 3, 1) := by decide +kernel
theorem dX4_filled_86 : decode cX4_filled 86 = .ok (.ireturn, 1) := by decide +kernel
theorem dX4_filled_87 : decode cX4_filled 87 = .ok (.iload 4, 2) := by decide +kernel
theorem dX4_filled_89 : decode cX4_filled 89 = .ok (.ifCond .lt 17, 3) := by decide +kernel
theorem dX4_filled_92 : decode cX4_filled 92 = .ok (.iload_n 1, 1) := by decide +kernel
theorem dX4_filled_93 : decode cX4_filled 93 = .ok (.iconst 0, 1) := by decide +kernel
theorem dX4_filled_94 : decode cX4_filled 94 = .ok (.aload_n 0, 1) := by decide +kernel
theorem dX4_filled_95 : decode cX4_filled 95 = .ok (.invokevirtual 103, 3) := by decide +kernel
theorem dX4_filled_98 : decode cX4_filled 98 = .ok (.iconst 1, 1) := by decide +kernel
theorem dX4_filled_99 : decode cX4_filled 99 = .ok (.isub, 1) := by decide +kernel
theorem dX4_filled_100 : decode cX4_filled 100 = .ok (.invokestatic 51, 3) := by decide +kernel
theorem dX4_filled_103 : decode cX4_filled 103 = .ok (.ifCond .ne 6, 3) := by decide +kernel
theorem dX4_filled_106 : decode cX4_filled 106 = .ok (.bipush (-6), 2) := by decide +kernel
theorem dX4_filled_108 : decode cX4_filled 108 = .ok (.ireturn, 1) := by decide +kernel
theorem dX4_filled_109 : decode cX4_filled 109 = .ok (.iload 4, 2) := by decide +kernel
theorem dX4_filled_111 : decode cX4_filled 111 = .ok (.istore 5, 2) := by decide +kernel
theorem dX4_filled_113 : decode cX4_filled 113 = .ok (.aload_n 0, 1) := by decide +kernel
theorem dX4_filled_114 : decode cX4_filled 114 = .ok (.invokevirtual 103, 3) := by decide +kernel
theorem dX4_filled_117 : decode cX4_filled 117 = .ok (.iconst 1, 1) := by decide +kernel
theorem dX4_filled_118 : decode cX4_filled 118 = .ok (.isub, 1) := by decide +kernel
theorem dX4_filled_119 : decode cX4_filled 119 = .ok (.istore 6, 2) := by decide +kernel
theorem dX4_filled_121 : decode cX4_filled 121 = .ok (.iload 6, 2) := by decide +kernel
theorem dX4_filled_123 : decode cX4_filled 123 = .ok (.iload_n 1, 1) := by decide +kernel
theorem dX4_filled_124 : decode cX4_filled 124 = .ok (.if_icmp .le 16, 3) := by decide +kernel
theorem dX4_filled_127 : decode cX4_filled 127 = .ok (.iload 5, 2) := by decide +kernel
theorem dX4_filled_129 : decode cX4_filled 129 = .ok (.bipush 6, 2) := by decide +kernel
theorem dX4_filled_131 : decode cX4_filled 131 = .ok (.idiv, 1) := by decide +kernel
theorem dX4_filled_132 : decode cX4_filled 132 = .ok (.istore 5, 2) := by decide +kernel
theorem dX4_filled_134 : decode cX4_filled 134 = .ok (.iinc 6 (-1), 3) := by decide +kernel
theorem dX4_filled_137 : decode cX4_filled 137 = .ok (.goto (-16), 3) := by decide +kernel
theorem dX4_filled_140 : decode cX4_filled 140 = .ok (.iload 5, 2) := by decide +kernel
theorem dX4_filled_142 : decode cX4_filled 142 = .ok (.bipush 6, 2) := by decide +kernel
theorem dX4_filled_144 : decode cX4_filled 144 = .ok (.irem, 1) := by decide +kernel
theorem dX4_filled_145 : decode cX4_filled 145 = .ok (.ireturn, 1) := by decide +kernel
set_option maxRecDepth 20000 in
theorem ggX4_layTurns_X4_at : GoodIn wsX4_layTurns wsX4_at := goodIn_r _ [8] (by decide +kernel) (by decide +kernel)
set_option maxRecDepth 20000 in
theorem gX4_layTurns_X4_at : GoodIn wsX4_layTurns (va_wsS RX4 79 yX4_at wsX4_at) := goodIn_app (goodIn_of _ (by decide +kernel)) ggX4_layTurns_X4_at
set_option maxRecDepth 20000 in
theorem ggX4_layTurns_X4_has : GoodIn wsX4_layTurns wsX4_has := goodIn_r _ [11] (by decide +kernel) (by decide +kernel)
set_option maxRecDepth 20000 in
theorem gX4_layTurns_X4_has : GoodIn wsX4_layTurns (va_wsS RX4 132 yX4_has wsX4_has) := goodIn_app (goodIn_of _ (by decide +kernel)) ggX4_layTurns_X4_has
theorem dX4_layTurns_0 : decode cX4_layTurns 0 = .ok (.iconst 0, 1) := by decide +kernel
theorem dX4_layTurns_1 : decode cX4_layTurns 1 = .ok (.istore_n 1, 1) := by decide +kernel
theorem dX4_layTurns_2 : decode cX4_layTurns 2 = .ok (.iload_n 1, 1) := by decide +kernel
theorem dX4_layTurns_3 : decode cX4_layTurns 3 = .ok (.bipush 6, 2) := by decide +kernel
theorem dX4_layTurns_5 : decode cX4_layTurns 5 = .ok (.if_icmp .ge 153, 3) := by decide +kernel
theorem dX4_layTurns_8 : decode cX4_layTurns 8 = .ok (.iconst 0, 1) := by decide +kernel
theorem dX4_layTurns_9 : decode cX4_layTurns 9 = .ok (.istore_n 2, 1) := by decide +kernel
theorem dX4_layTurns_10 : decode cX4_layTurns 10 = .ok (.iconst 0, 1) := by decide +kernel
theorem dX4_layTurns_11 : decode cX4_layTurns 11 = .ok (.istore_n 3, 1) := by decide +kernel
theorem dX4_layTurns_12 : decode cX4_layTurns 12 = .ok (.iload_n 3, 1) := by decide +kernel
theorem dX4_layTurns_13 : decode cX4_layTurns 13 = .ok (.aload_n 0, 1) := by decide +kernel
theorem dX4_layTurns_14 : decode cX4_layTurns 14 = .ok (.getfield 13, 3) := by decide +kernel
theorem dX4_layTurns_17 : decode cX4_layTurns 17 = .ok (.iload_n 1, 1) := by decide +kernel
theorem dX4_layTurns_18 : decode cX4_layTurns 18 = .ok (.iaload, 1) := by decide +kernel
theorem dX4_layTurns_19 : decode cX4_layTurns 19 = .ok (.if_icmp .ge 133, 3) := by decide +kernel
theorem dX4_layTurns_22 : decode cX4_layTurns 22 = .ok (.bipush (-6), 2) := by decide +kernel
theorem dX4_layTurns_24 : decode cX4_layTurns 24 = .ok (.istore 4, 2) := by decide +kernel
theorem dX4_layTurns_26 : decode cX4_layTurns 26 = .ok (.aload_n 0, 1) := by decide +kernel
theorem dX4_layTurns_27 : decode cX4_layTurns 27 = .ok (.getfield 13, 3) := by decide +kernel
theorem dX4_layTurns_30 : decode cX4_layTurns 30 = .ok (.iload_n 1, 1) := by decide +kernel
theorem dX4_layTurns_31 : decode cX4_layTurns 31 = .ok (.iaload, 1) := by decide +kernel
theorem dX4_layTurns_32 : decode cX4_layTurns 32 = .ok (.iconst 1, 1) := by decide +kernel
theorem dX4_layTurns_33 : decode cX4_layTurns 33 = .ok (.isub, 1) := by decide +kernel
theorem dX4_layTurns_34 : decode cX4_layTurns 34 = .ok (.istore 5, 2) := by decide +kernel
theorem dX4_layTurns_36 : decode cX4_layTurns 36 = .ok (.iload 5, 2) := by decide +kernel
theorem dX4_layTurns_38 : decode cX4_layTurns 38 = .ok (.ifCond .lt 89, 3) := by decide +kernel
theorem dX4_layTurns_41 : decode cX4_layTurns 41 = .ok (.iload 4, 2) := by decide +kernel
theorem dX4_layTurns_43 : decode cX4_layTurns 43 = .ok (.ifCond .lt 48, 3) := by decide +kernel
theorem dX4_layTurns_46 : decode cX4_layTurns 46 = .ok (.aload_n 0, 1) := by decide +kernel
theorem dX4_layTurns_47 : decode cX4_layTurns 47 = .ok (.getfield 59, 3) := by decide +kernel
theorem dX4_layTurns_50 : decode cX4_layTurns 50 = .ok (.iconst 1, 1) := by decide +kernel
theorem dX4_layTurns_51 : decode cX4_layTurns 51 = .ok (.if_icmp .eq 40, 3) := by decide +kernel
theorem dX4_layTurns_54 : decode cX4_layTurns 54 = .ok (.aload_n 0, 1) := by decide +kernel
theorem dX4_layTurns_55 : decode cX4_layTurns 55 = .ok (.getfield 59, 3) := by decide +kernel
theorem dX4_layTurns_58 : decode cX4_layTurns 58 = .ok (.iconst 2, 1) := by decide +kernel
theorem dX4_layTurns_59 : decode cX4_layTurns 59 = .ok (.if_icmp .ne 36, 3) := by decide +kernel
theorem dX4_layTurns_62 : decode cX4_layTurns 62 = .ok (.aload_n 0, 1) := by decide +kernel
theorem dX4_layTurns_63 : decode cX4_layTurns 63 = .ok (.getfield 16, 3) := by decide +kernel
theorem dX4_layTurns_66 : decode cX4_layTurns 66 = .ok (.iload_n 1, 1) := by decide +kernel
theorem dX4_layTurns_67 : decode cX4_layTurns 67 = .ok (.iload 5, 2) := by decide +kernel
theorem dX4_layTurns_69 : decode cX4_layTurns 69 = .ok (.invokestatic 79, 3) := by decide +kernel
theorem dX4_layTurns_72 : decode cX4_layTurns 72 = .ok (.iconst 1, 1) := by decide +kernel
theorem dX4_layTurns_73 : decode cX4_layTurns 73 = .ok (.iadd, 1) := by decide +kernel
theorem dX4_layTurns_74 : decode cX4_layTurns 74 = .ok (.iaload, 1) := by decide +kernel
theorem dX4_layTurns_75 : decode cX4_layTurns 75 = .ok (.aload_n 0, 1) := by decide +kernel
theorem dX4_layTurns_76 : decode cX4_layTurns 76 = .ok (.getfield 16, 3) := by decide +kernel
theorem dX4_layTurns_79 : decode cX4_layTurns 79 = .ok (.iload_n 1, 1) := by decide +kernel
theorem dX4_layTurns_80 : decode cX4_layTurns 80 = .ok (.iload 4, 2) := by decide +kernel
theorem dX4_layTurns_82 : decode cX4_layTurns 82 = .ok (.invokestatic 79, 3) := by decide +kernel
theorem dX4_layTurns_85 : decode cX4_layTurns 85 = .ok (.iconst 1, 1) := by decide +kernel
theorem dX4_layTurns_86 : decode cX4_layTurns 86 = .ok (.iadd, 1) := by decide +kernel
theorem dX4_layTurns_87 : decode cX4_layTurns 87 = .ok (.iaload, 1) := by decide +kernel
theorem dX4_layTurns_88 : decode cX4_layTurns 88 = .ok (.if_icmp .le 7, 3) := by decide +kernel
theorem dX4_layTurns_91 : decode cX4_layTurns 91 = .ok (.iconst 1, 1) := by decide +kernel
