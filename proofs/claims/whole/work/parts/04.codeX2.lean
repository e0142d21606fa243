set_option maxRecDepth 20000 in
theorem ggX2_init_J7_fill_53178 : GoodIn wsX2_init wsJ7_fill_53178 := goodIn_r _ [19] (by decide +kernel) (by decide +kernel)
set_option maxRecDepth 20000 in
theorem gX2_init_J7_fill_53178 : GoodIn wsX2_init (va_wsS RX2 15 yJ7_fill_53178 wsJ7_fill_53178) := goodIn_app (goodIn_of _ (by decide +kernel)) ggX2_init_J7_fill_53178
theorem dX2_init_0 : decode cX2_init 0 = .ok (.aload_n 0, 1) := by decide +kernel
theorem dX2_init_1 : decode cX2_init 1 = .ok (.invokespecial 3, 3) := by decide +kernel
theorem dX2_init_4 : decode cX2_init 4 = .ok (.aload_n 0, 1) := by decide +kernel
theorem dX2_init_5 : decode cX2_init 5 = .ok (.bipush 6, 2) := by decide +kernel
theorem dX2_init_7 : decode cX2_init 7 = .ok (.newarray .int, 2) := by decide +kernel
theorem dX2_init_9 : decode cX2_init 9 = .ok (.putfield 9, 3) := by decide +kernel
theorem dX2_init_12 : decode cX2_init 12 = .ok (.aload_n 0, 1) := by decide +kernel
theorem dX2_init_13 : decode cX2_init 13 = .ok (.getfield 9, 3) := by decide +kernel
theorem dX2_init_16 : decode cX2_init 16 = .ok (.bipush 20, 2) := by decide +kernel
theorem dX2_init_18 : decode cX2_init 18 = .ok (.invokestatic 15, 3) := by decide +kernel
theorem dX2_init_21 : decode cX2_init 21 = .ok (.aload_n 0, 1) := by decide +kernel
theorem dX2_init_22 : decode cX2_init 22 = .ok (.bipush 6, 2) := by decide +kernel
theorem dX2_init_24 : decode cX2_init 24 = .ok (.newarray .int, 2) := by decide +kernel
theorem dX2_init_26 : decode cX2_init 26 = .ok (.putfield 21, 3) := by decide +kernel
theorem dX2_init_29 : decode cX2_init 29 = .ok (.aload_n 0, 1) := by decide +kernel
theorem dX2_init_30 : decode cX2_init 30 = .ok (.bipush 30, 2) := by decide +kernel
theorem dX2_init_32 : decode cX2_init 32 = .ok (.newarray .int, 2) := by decide +kernel
theorem dX2_init_34 : decode cX2_init 34 = .ok (.putfield 24, 3) := by decide +kernel
theorem dX2_init_37 : decode cX2_init 37 = .ok (.aload_n 0, 1) := by decide +kernel
theorem dX2_init_38 : decode cX2_init 38 = .ok (.bipush 30, 2) := by decide +kernel
theorem dX2_init_40 : decode cX2_init 40 = .ok (.newarray .int, 2) := by decide +kernel
theorem dX2_init_42 : decode cX2_init 42 = .ok (.putfield 27, 3) := by decide +kernel
theorem dX2_init_45 : decode cX2_init 45 = .ok (.aload_n 0, 1) := by decide +kernel
theorem dX2_init_46 : decode cX2_init 46 = .ok (.bipush 30, 2) := by decide +kernel
theorem dX2_init_48 : decode cX2_init 48 = .ok (.newarray .int, 2) := by decide +kernel
theorem dX2_init_50 : decode cX2_init 50 = .ok (.putfield 30, 3) := by decide +kernel
theorem dX2_init_53 : decode cX2_init 53 = .ok (.aload_n 0, 1) := by decide +kernel
theorem dX2_init_54 : decode cX2_init 54 = .ok (.bipush 6, 2) := by decide +kernel
theorem dX2_init_56 : decode cX2_init 56 = .ok (.newarray .int, 2) := by decide +kernel
theorem dX2_init_58 : decode cX2_init 58 = .ok (.putfield 33, 3) := by decide +kernel
theorem dX2_init_61 : decode cX2_init 61 = .ok (.aload_n 0, 1) := by decide +kernel
theorem dX2_init_62 : decode cX2_init 62 = .ok (.bipush 6, 2) := by decide +kernel
theorem dX2_init_64 : decode cX2_init 64 = .ok (.newarray .int, 2) := by decide +kernel
theorem dX2_init_66 : decode cX2_init 66 = .ok (.putfield 36, 3) := by decide +kernel
theorem dX2_init_69 : decode cX2_init 69 = .ok (.aload_n 0, 1) := by decide +kernel
theorem dX2_init_70 : decode cX2_init 70 = .ok (.iconst 0, 1) := by decide +kernel
theorem dX2_init_71 : decode cX2_init 71 = .ok (.putfield 39, 3) := by decide +kernel
theorem dX2_init_74 : decode cX2_init 74 = .ok (.aload_n 0, 1) := by decide +kernel
theorem dX2_init_75 : decode cX2_init 75 = .ok (.iconst 0, 1) := by decide +kernel
theorem dX2_init_76 : decode cX2_init 76 = .ok (.putfield 43, 3) := by decide +kernel
theorem dX2_init_79 : decode cX2_init 79 = .ok (.aload_n 0, 1) := by decide +kernel
theorem dX2_init_80 : decode cX2_init 80 = .ok (.iconst 0, 1) := by decide +kernel
theorem dX2_init_81 : decode cX2_init 81 = .ok (.putfield 46, 3) := by decide +kernel
theorem dX2_init_84 : decode cX2_init 84 = .ok (.aload_n 0, 1) := by decide +kernel
theorem dX2_init_85 : decode cX2_init 85 = .ok (.iconst 0, 1) := by decide +kernel
theorem dX2_init_86 : decode cX2_init 86 = .ok (.putfield 49, 3) := by decide +kernel
theorem dX2_init_89 : decode cX2_init 89 = .ok (.return_, 1) := by decide +kernel
theorem dX2_copyFrom_0 : decode cX2_copyFrom 0 = .ok (.aload_n 1, 1) := by decide +kernel
theorem dX2_copyFrom_1 : decode cX2_copyFrom 1 = .ok (.getfield 9, 3) := by decide +kernel
theorem dX2_copyFrom_4 : decode cX2_copyFrom 4 = .ok (.iconst 0, 1) := by decide +kernel
theorem dX2_copyFrom_5 : decode cX2_copyFrom 5 = .ok (.aload_n 0, 1) := by decide +kernel
theorem dX2_copyFrom_6 : decode cX2_copyFrom 6 = .ok (.getfield 9, 3) := by decide +kernel
theorem dX2_copyFrom_9 : decode cX2_copyFrom 9 = .ok (.iconst 0, 1) := by decide +kernel
theorem dX2_copyFrom_10 : decode cX2_copyFrom 10 = .ok (.bipush 6, 2) := by decide +kernel
theorem dX2_copyFrom_12 : decode cX2_copyFrom 12 = .ok (.invokestatic 52, 3) := by decide +kernel
theorem dX2_copyFrom_15 : decode cX2_copyFrom 15 = .ok (.aload_n 1, 1) := by decide +kernel
theorem dX2_copyFrom_16 : decode cX2_copyFrom 16 = .ok (.getfield 21, 3) := by decide +kernel
theorem dX2_copyFrom_19 : decode cX2_copyFrom 19 = .ok (.iconst 0, 1) := by decide +kernel
theorem dX2_copyFrom_20 : decode cX2_copyFrom 20 = .ok (.aload_n 0, 1) := by decide +kernel
theorem dX2_copyFrom_21 : decode cX2_copyFrom 21 = .ok (.getfield 21, 3) := by decide +kernel
theorem dX2_copyFrom_24 : decode cX2_copyFrom 24 = .ok (.iconst 0, 1) := by decide +kernel
theorem dX2_copyFrom_25 : decode cX2_copyFrom 25 = .ok (.bipush 6, 2) := by decide +kernel
theorem dX2_copyFrom_27 : decode cX2_copyFrom 27 = .ok (.invokestatic 52, 3) := by decide +kernel
theorem dX2_copyFrom_30 : decode cX2_copyFrom 30 = .ok (.aload_n 1, 1) := by decide +kernel
theorem dX2_copyFrom_31 : decode cX2_copyFrom 31 = .ok (.getfield 24, 3) := by decide +kernel
theorem dX2_copyFrom_34 : decode cX2_copyFrom 34 = .ok (.iconst 0, 1) := by decide +kernel
theorem dX2_copyFrom_35 : decode cX2_copyFrom 35 = .ok (.aload_n 0, 1) := by decide +kernel
theorem dX2_copyFrom_36 : decode cX2_copyFrom 36 = .ok (.getfield 24, 3) := by decide +kernel
theorem dX2_copyFrom_39 : decode cX2_copyFrom 39 = .ok (.iconst 0, 1) := by decide +kernel
theorem dX2_copyFrom_40 : decode cX2_copyFrom 40 = .ok (.bipush 30, 2) := by decide +kernel
theorem dX2_copyFrom_42 : decode cX2_copyFrom 42 = .ok (.invokestatic 52, 3) := by decide +kernel
theorem dX2_copyFrom_45 : decode cX2_copyFrom 45 = .ok (.aload_n 1, 1) := by decide +kernel
theorem dX2_copyFrom_46 : decode cX2_copyFrom 46 = .ok (.getfield 27, 3) := by decide +kernel
theorem dX2_copyFrom_49 : decode cX2_copyFrom 49 = .ok (.iconst 0, 1) := by decide +kernel
theorem dX2_copyFrom_50 : decode cX2_copyFrom 50 = .ok (.aload_n 0, 1) := by decide +kernel
theorem dX2_copyFrom_51 : decode cX2_copyFrom 51 = .ok (.getfield 27, 3) := by decide +kernel
theorem dX2_copyFrom_54 : decode cX2_copyFrom 54 = .ok (.iconst 0, 1) := by decide +kernel
theorem dX2_copyFrom_55 : decode cX2_copyFrom 55 = .ok (.bipush 30, 2) := by decide +kernel
theorem dX2_copyFrom_57 : decode cX2_copyFrom 57 = .ok (.invokestatic 52, 3) := by decide +kernel
theorem dX2_copyFrom_60 : decode cX2_copyFrom 60 = .ok (.aload_n 1, 1) := by decide +kernel
theorem dX2_copyFrom_61 : decode cX2_copyFrom 61 = .ok (.getfield 30, 3) := by decide +kernel
theorem dX2_copyFrom_64 : decode cX2_copyFrom 64 = .ok (.iconst 0, 1) := by decide +kernel
theorem dX2_copyFrom_65 : decode cX2_copyFrom 65 = .ok (.aload_n 0, 1) := by decide +kernel
theorem dX2_copyFrom_66 : decode cX2_copyFrom 66 = .ok (.getfield 30, 3) := by decide +kernel
theorem dX2_copyFrom_69 : decode cX2_copyFrom 69 = .ok (.iconst 0, 1) := by decide +kernel
theorem dX2_copyFrom_70 : decode cX2_copyFrom 70 = .ok (.bipush 30, 2) := by decide +kernel
theorem dX2_copyFrom_72 : decode cX2_copyFrom 72 = .ok (.invokestatic 52, 3) := by decide +kernel
theorem dX2_copyFrom_75 : decode cX2_copyFrom 75 = .ok (.aload_n 1, 1) := by decide +kernel
theorem dX2_copyFrom_76 : decode cX2_copyFrom 76 = .ok (.getfield 33, 3) := by decide +kernel
theorem dX2_copyFrom_79 : decode cX2_copyFrom 79 = .ok (.iconst 0, 1) := by decide +kernel
theorem dX2_copyFrom_80 : decode cX2_copyFrom 80 = .ok (.aload_n 0, 1) := by decide +kernel
theorem dX2_copyFrom_81 : decode cX2_copyFrom 81 = .ok (.getfield 33, 3) := by decide +kernel
theorem dX2_copyFrom_84 : decode cX2_copyFrom 84 = .ok (.iconst 0, 1) := by decide +kernel
theorem dX2_copyFrom_85 : decode cX2_copyFrom 85 = .ok (.bipush 6, 2) := by decide +kernel
theorem dX2_copyFrom_87 : decode cX2_copyFrom 87 = .ok (.invokestatic 52, 3) := by decide +kernel
theorem dX2_copyFrom_90 : decode cX2_copyFrom 90 = .ok (.aload_n 1, 1) := by decide +kernel
theorem dX2_copyFrom_91 : decode cX2_copyFrom 91 = .ok (.getfield 36, 3) := by decide +kernel
theorem dX2_copyFrom_94 : decode cX2_copyFrom 94 = .ok (.iconst 0, 1) := by decide +kernel
theorem dX2_copyFrom_95 : decode cX2_copyFrom 95 = .ok (.aload_n 0, 1) := by decide +kernel
theorem dX2_copyFrom_96 : decode cX2_copyFrom 96 = .ok (.getfield 36, 3) := by decide +kernel
theorem dX2_copyFrom_99 : decode cX2_copyFrom 99 = .ok (.iconst 0, 1) := by decide +kernel
theorem dX2_copyFrom_100 : decode cX2_copyFrom 100 = .ok (.bipush 6, 2) := by decide +kernel
theorem dX2_copyFrom_102 : decode cX2_copyFrom 102 = .ok (.invokestatic 52, 3) := by decide +kernel
theorem dX2_copyFrom_105 : decode cX2_copyFrom 105 = .ok (.aload_n 0, 1) := by decide +kernel
theorem dX2_copyFrom_106 : decode cX2_copyFrom 106 = .ok (.aload_n 1, 1) := by decide +kernel
theorem dX2_copyFrom_107 : decode cX2_copyFrom 107 = .ok (.getfield 39, 3) := by decide +kernel
theorem dX2_copyFrom_110 : decode cX2_copyFrom 110 = .ok (.putfield 39, 3) := by decide +kernel
theorem dX2_copyFrom_113 : decode cX2_copyFrom 113 = .ok (.aload_n 0, 1) := by decide +kernel
theorem dX2_copyFrom_114 : decode cX2_copyFrom 114 = .ok (.aload_n 1, 1) := by decide +kernel
theorem dX2_copyFrom_115 : decode cX2_copyFrom 115 = .ok (.getfield 43, 3) := by decide +kernel
theorem dX2_copyFrom_118 : decode cX2_copyFrom 118 = .ok (.putfield 43, 3) := by decide +kernel
theorem dX2_copyFrom_121 : decode cX2_copyFrom 121 = .ok (.aload_n 0, 1) := by decide +kernel
theorem dX2_copyFrom_122 : decode cX2_copyFrom 122 = .ok (.aload_n 1, 1) := by decide +kernel
theorem dX2_copyFrom_123 : decode cX2_copyFrom 123 = .ok (.getfield 46, 3) := by decide +kernel
theorem dX2_copyFrom_126 : decode cX2_copyFrom 126 = .ok (.putfield 46, 3) := by decide +kernel
theorem dX2_copyFrom_129 : decode cX2_copyFrom 129 = .ok (.aload_n 0, 1) := by decide +kernel
theorem dX2_copyFrom_130 : decode cX2_copyFrom 130 = .ok (.aload_n 1, 1) := by decide +kernel
theorem dX2_copyFrom_131 : decode cX2_copyFrom 131 = .ok (.getfield 49, 3) := by decide +kernel
theorem dX2_copyFrom_134 : decode cX2_copyFrom 134 = .ok (.putfield 49, 3) := by decide +kernel
theorem dX2_copyFrom_137 : decode cX2_copyFrom 137 = .ok (.return_, 1) := by decide +kernel
set_option maxRecDepth 20000 in
theorem ggX2_purseOf_X3_isMan : GoodIn wsX2_purseOf wsX3_isMan := goodIn_r _ [4] (by decide +kernel) (by decide +kernel)
set_option maxRecDepth 20000 in
theorem gX2_purseOf_X3_isMan_n58 : GoodIn wsX2_purseOf (wsX3_isMan) := ggX2_purseOf_X3_isMan
theorem dX2_purseOf_0 : decode cX2_purseOf 0 = .ok (.iload_n 1, 1) := by decide +kernel
theorem dX2_purseOf_1 : decode cX2_purseOf 1 = .ok (.invokestatic 58, 3) := by decide +kernel
theorem dX2_purseOf_4 : decode cX2_purseOf 4 = .ok (.ifCond .eq 12, 3) := by decide +kernel
theorem dX2_purseOf_7 : decode cX2_purseOf 7 = .ok (.aload_n 0, 1) := by decide +kernel
theorem dX2_purseOf_8 : decode cX2_purseOf 8 = .ok (.getfield 9, 3) := by decide +kernel
theorem dX2_purseOf_11 : decode cX2_purseOf 11 = .ok (.iload_n 1, 1) := by decide +kernel
theorem dX2_purseOf_12 : decode cX2_purseOf 12 = .ok (.iaload, 1) := by decide +kernel
theorem dX2_purseOf_13 : decode cX2_purseOf 13 = .ok (.goto 4, 3) := by decide +kernel
theorem dX2_purseOf_16 : decode cX2_purseOf 16 = .ok (.iconst 0, 1) := by decide +kernel
theorem dX2_purseOf_17 : decode cX2_purseOf 17 = .ok (.ireturn, 1) := by decide +kernel
set_option maxRecDepth 20000 in
theorem ggX2_fillPurse_X3_isMan : GoodIn wsX2_fillPurse wsX3_isMan := goodIn_r _ [4] (by decide +kernel) (by decide +kernel)
set_option maxRecDepth 20000 in
theorem gX2_fillPurse_X3_isMan_n58 : GoodIn wsX2_fillPurse (wsX3_isMan) := ggX2_fillPurse_X3_isMan
theorem dX2_fillPurse_0 : decode cX2_fillPurse 0 = .ok (.iload_n 1, 1) := by decide +kernel
theorem dX2_fillPurse_1 : decode cX2_fillPurse 1 = .ok (.invokestatic 58, 3) := by decide +kernel
theorem dX2_fillPurse_4 : decode cX2_fillPurse 4 = .ok (.ifCond .eq 10, 3) := by decide +kernel
theorem dX2_fillPurse_7 : decode cX2_fillPurse 7 = .ok (.aload_n 0, 1) := by decide +kernel
theorem dX2_fillPurse_8 : decode cX2_fillPurse 8 = .ok (.getfield 9, 3) := by decide +kernel
theorem dX2_fillPurse_11 : decode cX2_fillPurse 11 = .ok (.iload_n 1, 1) := by decide +kernel
theorem dX2_fillPurse_12 : decode cX2_fillPurse 12 = .ok (.iload_n 2, 1) := by decide +kernel
theorem dX2_fillPurse_13 : decode cX2_fillPurse 13 = .ok (.iastore, 1) := by decide +kernel
theorem dX2_fillPurse_14 : decode cX2_fillPurse 14 = .ok (.return_, 1) := by decide +kernel
set_option maxRecDepth 20000 in
theorem ggX2_debtsOf_X3_isMan : GoodIn wsX2_debtsOf wsX3_isMan := goodIn_r _ [4] (by decide +kernel) (by decide +kernel)
set_option maxRecDepth 20000 in
theorem gX2_debtsOf_X3_isMan_n58 : GoodIn wsX2_debtsOf (wsX3_isMan) := ggX2_debtsOf_X3_isMan
theorem dX2_debtsOf_0 : decode cX2_debtsOf 0 = .ok (.iload_n 1, 1) := by decide +kernel
theorem dX2_debtsOf_1 : decode cX2_debtsOf 1 = .ok (.invokestatic 58, 3) := by decide +kernel
theorem dX2_debtsOf_4 : decode cX2_debtsOf 4 = .ok (.ifCond .eq 12, 3) := by decide +kernel
theorem dX2_debtsOf_7 : decode cX2_debtsOf 7 = .ok (.aload_n 0, 1) := by decide +kernel
theorem dX2_debtsOf_8 : decode cX2_debtsOf 8 = .ok (.getfield 21, 3) := by decide +kernel
theorem dX2_debtsOf_11 : decode cX2_debtsOf 11 = .ok (.iload_n 1, 1) := by decide +kernel
theorem dX2_debtsOf_12 : decode cX2_debtsOf 12 = .ok (.iaload, 1) := by decide +kernel
theorem dX2_debtsOf_13 : decode cX2_debtsOf 13 = .ok (.goto 4, 3) := by decide +kernel
theorem dX2_debtsOf_16 : decode cX2_debtsOf 16 = .ok (.iconst 0, 1) := by decide +kernel
theorem dX2_debtsOf_17 : decode cX2_debtsOf 17 = .ok (.ireturn, 1) := by decide +kernel
theorem dX2_hasDebt_0 : decode cX2_hasDebt 0 = .ok (.iload_n 1, 1) := by decide +kernel
theorem dX2_hasDebt_1 : decode cX2_hasDebt 1 = .ok (.ifCond .lt 32, 3) := by decide +kernel
theorem dX2_hasDebt_4 : decode cX2_hasDebt 4 = .ok (.iload_n 1, 1) := by decide +kernel
theorem dX2_hasDebt_5 : decode cX2_hasDebt 5 = .ok (.bipush 6, 2) := by decide +kernel
theorem dX2_hasDebt_7 : decode cX2_hasDebt 7 = .ok (.if_icmp .ge 26, 3) := by decide +kernel
theorem dX2_hasDebt_10 : decode cX2_hasDebt 10 = .ok (.iload_n 2, 1) := by decide +kernel
theorem dX2_hasDebt_11 : decode cX2_hasDebt 11 = .ok (.ifCond .lt 22, 3) := by decide +kernel
theorem dX2_hasDebt_14 : decode cX2_hasDebt 14 = .ok (.iload_n 2, 1) := by decide +kernel
theorem dX2_hasDebt_15 : decode cX2_hasDebt 15 = .ok (.iconst 5, 1) := by decide +kernel
theorem dX2_hasDebt_16 : decode cX2_hasDebt 16 = .ok (.if_icmp .ge 17, 3) := by decide +kernel
theorem dX2_hasDebt_19 : decode cX2_hasDebt 19 = .ok (.iload_n 2, 1) := by decide +kernel
theorem dX2_hasDebt_20 : decode cX2_hasDebt 20 = .ok (.aload_n 0, 1) := by decide +kernel
theorem dX2_hasDebt_21 : decode cX2_hasDebt 21 = .ok (.getfield 21, 3) := by decide +kernel
theorem dX2_hasDebt_24 : decode cX2_hasDebt 24 = .ok (.iload_n 1, 1) := by decide +kernel
theorem dX2_hasDebt_25 : decode cX2_hasDebt 25 = .ok (.iaload, 1) := by decide +kernel
theorem dX2_hasDebt_26 : decode cX2_hasDebt 26 = .ok (.if_icmp .ge 7, 3) := by decide +kernel
theorem dX2_hasDebt_29 : decode cX2_hasDebt 29 = .ok (.iconst 1, 1) := by decide +kernel
theorem dX2_hasDebt_30 : decode cX2_hasDebt 30 = .ok (.goto 4, 3) := by decide +kernel
theorem dX2_hasDebt_33 : decode cX2_hasDebt 33 = .ok (.iconst 0, 1) := by decide +kernel
theorem dX2_hasDebt_34 : decode cX2_hasDebt 34 = .ok (.ireturn, 1) := by decide +kernel
set_option maxRecDepth 20000 in
theorem ggX2_lenderOf_X2_hasDebt : GoodIn wsX2_lenderOf wsX2_hasDebt := goodIn_r _ [6, 7, 8, 9, 10, 11, 12, 13, 14, 15, 16, 17, 18] (by decide +kernel) (by decide +kernel)
set_option maxRecDepth 20000 in
theorem gX2_lenderOf_X2_hasDebt : GoodIn wsX2_lenderOf (wsV RX2 62 RX2 yX2_hasDebt wsX2_hasDebt) := goodIn_app (goodIn_of _ (by decide +kernel)) ggX2_lenderOf_X2_hasDebt
theorem dX2_lenderOf_0 : decode cX2_lenderOf 0 = .ok (.aload_n 0, 1) := by decide +kernel
theorem dX2_lenderOf_1 : decode cX2_lenderOf 1 = .ok (.iload_n 1, 1) := by decide +kernel
theorem dX2_lenderOf_2 : decode cX2_lenderOf 2 = .ok (.iload_n 2, 1) := by decide +kernel
theorem dX2_lenderOf_3 : decode cX2_lenderOf 3 = .ok (.invokevirtual 62, 3) := by decide +kernel
theorem dX2_lenderOf_6 : decode cX2_lenderOf 6 = .ok (.ifCond .eq 16, 3) := by decide +kernel
theorem dX2_lenderOf_9 : decode cX2_lenderOf 9 = .ok (.aload_n 0, 1) := by decide +kernel
theorem dX2_lenderOf_10 : decode cX2_lenderOf 10 = .ok (.getfield 24, 3) := by decide +kernel
theorem dX2_lenderOf_13 : decode cX2_lenderOf 13 = .ok (.iload_n 1, 1) := by decide +kernel
theorem dX2_lenderOf_14 : decode cX2_lenderOf 14 = .ok (.iconst 5, 1) := by decide +kernel
theorem dX2_lenderOf_15 : decode cX2_lenderOf 15 = .ok (.imul, 1) := by decide +kernel
theorem dX2_lenderOf_16 : decode cX2_lenderOf 16 = .ok (.iload_n 2, 1) := by decide +kernel
theorem dX2_lenderOf_17 : decode cX2_lenderOf 17 = .ok (.iadd, 1) := by decide +kernel
theorem dX2_lenderOf_18 : decode cX2_lenderOf 18 = .ok (.iaload, 1) := by decide +kernel
theorem dX2_lenderOf_19 : decode cX2_lenderOf 19 = .ok (.goto 5, 3) := by decide +kernel
theorem dX2_lenderOf_22 : decode cX2_lenderOf 22 = .ok (.bipush (-6), 2) := by decide +kernel
theorem dX2_lenderOf_24 : decode cX2_lenderOf 24 = .ok (.ireturn, 1) := by decide +kernel
set_option maxRecDepth 20000 in
theorem ggX2_penceOf_X2_hasDebt : GoodIn wsX2_penceOf wsX2_hasDebt := goodIn_r _ [6, 7, 8, 9, 10, 11, 12, 13, 14, 15, 16, 17, 18] (by decide +kernel) (by decide +kernel)
set_option maxRecDepth 20000 in
theorem gX2_penceOf_X2_hasDebt : GoodIn wsX2_penceOf (wsV RX2 62 RX2 yX2_hasDebt wsX2_hasDebt) := goodIn_app (goodIn_of _ (by decide +kernel)) ggX2_penceOf_X2_hasDebt
theorem dX2_penceOf_0 : decode cX2_penceOf 0 = .ok (.aload_n 0, 1) := by decide +kernel
theorem dX2_penceOf_1 : decode cX2_penceOf 1 = .ok (.iload_n 1, 1) := by decide +kernel
theorem dX2_penceOf_2 : decode cX2_penceOf 2 = .ok (.iload_n 2, 1) := by decide +kernel
theorem dX2_penceOf_3 : decode cX2_penceOf 3 = .ok (.invokevirtual 62, 3) := by decide +kernel
theorem dX2_penceOf_6 : decode cX2_penceOf 6 = .ok (.ifCond .eq 16, 3) := by decide +kernel
theorem dX2_penceOf_9 : decode cX2_penceOf 9 = .ok (.aload_n 0, 1) := by decide +kernel
theorem dX2_penceOf_10 : decode cX2_penceOf 10 = .ok (.getfield 27, 3) := by decide +kernel
theorem dX2_penceOf_13 : decode cX2_penceOf 13 = .ok (.iload_n 1, 1) := by decide +kernel
theorem dX2_penceOf_14 : decode cX2_penceOf 14 = .ok (.iconst 5, 1) := by decide +kernel
theorem dX2_penceOf_15 : decode cX2_penceOf 15 = .ok (.imul, 1) := by decide +kernel
theorem dX2_penceOf_16 : decode cX2_penceOf 16 = .ok (.iload_n 2, 1) := by decide +kernel
theorem dX2_penceOf_17 : decode cX2_penceOf 17 = .ok (.iadd, 1) := by decide +kernel
theorem dX2_penceOf_18 : decode cX2_penceOf 18 = .ok (.iaload, 1) := by decide +kernel
theorem dX2_penceOf_19 : decode cX2_penceOf 19 = .ok (.goto 4, 3) := by decide +kernel
theorem dX2_penceOf_22 : decode cX2_penceOf 22 = .ok (.iconst 0, 1) := by decide +kernel
theorem dX2_penceOf_23 : decode cX2_penceOf 23 = .ok (.ireturn, 1) := by decide +kernel
set_option maxRecDepth 20000 in
theorem ggX2_dayOf_X2_hasDebt : GoodIn wsX2_dayOf wsX2_hasDebt := goodIn_r _ [6, 7, 8, 9, 10, 11, 12, 13, 14, 15, 16, 17, 18] (by decide +kernel) (by decide +kernel)
set_option maxRecDepth 20000 in
theorem gX2_dayOf_X2_hasDebt : GoodIn wsX2_dayOf (wsV RX2 62 RX2 yX2_hasDebt wsX2_hasDebt) := goodIn_app (goodIn_of _ (by decide +kernel)) ggX2_dayOf_X2_hasDebt
theorem dX2_dayOf_0 : decode cX2_dayOf 0 = .ok (.aload_n 0, 1) := by decide +kernel
theorem dX2_dayOf_1 : decode cX2_dayOf 1 = .ok (.iload_n 1, 1) := by decide +kernel
theorem dX2_dayOf_2 : decode cX2_dayOf 2 = .ok (.iload_n 2, 1) := by decide +kernel
theorem dX2_dayOf_3 : decode cX2_dayOf 3 = .ok (.invokevirtual 62, 3) := by decide +kernel
theorem dX2_dayOf_6 : decode cX2_dayOf 6 = .ok (.ifCond .eq 16, 3) := by decide +kernel
theorem dX2_dayOf_9 : decode cX2_dayOf 9 = .ok (.aload_n 0, 1) := by decide +kernel
theorem dX2_dayOf_10 : decode cX2_dayOf 10 = .ok (.getfield 30, 3) := by decide +kernel
theorem dX2_dayOf_13 : decode cX2_dayOf 13 = .ok (.iload_n 1, 1) := by decide +kernel
theorem dX2_dayOf_14 : decode cX2_dayOf 14 = .ok (.iconst 5, 1) := by decide +kernel
theorem dX2_dayOf_15 : decode cX2_dayOf 15 = .ok (.imul, 1) := by decide +kernel
theorem dX2_dayOf_16 : decode cX2_dayOf 16 = .ok (.iload_n 2, 1) := by decide +kernel
theorem dX2_dayOf_17 : decode cX2_dayOf 17 = .ok (.iadd, 1) := by decide +kernel
theorem dX2_dayOf_18 : decode cX2_dayOf 18 = .ok (.iaload, 1) := by decide +kernel
theorem dX2_dayOf_19 : decode cX2_dayOf 19 = .ok (.goto 4, 3) := by decide +kernel
theorem dX2_dayOf_22 : decode cX2_dayOf 22 = .ok (.iconst 0, 1) := by decide +kernel
theorem dX2_dayOf_23 : decode cX2_dayOf 23 = .ok (.ireturn, 1) := by decide +kernel
set_option maxRecDepth 20000 in
theorem ggX2_changeLender_X2_hasDebt : GoodIn wsX2_changeLender wsX2_hasDebt := goodIn_r _ [6, 7, 8, 9, 10, 11, 12, 13, 14, 15, 16, 17, 18] (by decide +kernel) (by decide +kernel)
set_option maxRecDepth 20000 in
theorem gX2_changeLender_X2_hasDebt : GoodIn wsX2_changeLender (wsV RX2 62 RX2 yX2_hasDebt wsX2_hasDebt) := goodIn_app (goodIn_of _ (by decide +kernel)) ggX2_changeLender_X2_hasDebt
theorem dX2_changeLender_0 : decode cX2_changeLender 0 = .ok (.aload_n 0, 1) := by decide +kernel
theorem dX2_changeLender_1 : decode cX2_changeLender 1 = .ok (.iload_n 1, 1) := by decide +kernel
theorem dX2_changeLender_2 : decode cX2_changeLender 2 = .ok (.iload_n 2, 1) := by decide +kernel
theorem dX2_changeLender_3 : decode cX2_changeLender 3 = .ok (.invokevirtual 62, 3) := by decide +kernel
theorem dX2_changeLender_6 : decode cX2_changeLender 6 = .ok (.ifCond .eq 14, 3) := by decide +kernel
theorem dX2_changeLender_9 : decode cX2_changeLender 9 = .ok (.aload_n 0, 1) := by decide +kernel
theorem dX2_changeLender_10 : decode cX2_changeLender 10 = .ok (.getfield 24, 3) := by decide +kernel
theorem dX2_changeLender_13 : decode cX2_changeLender 13 = .ok (.iload_n 1, 1) := by decide +kernel
theorem dX2_changeLender_14 : decode cX2_changeLender 14 = .ok (.iconst 5, 1) := by decide +kernel
theorem dX2_changeLender_15 : decode cX2_changeLender 15 = .ok (.imul, 1) := by decide +kernel
theorem dX2_changeLender_16 : decode cX2_changeLender 16 = .ok (.iload_n 2, 1) := by decide +kernel
theorem dX2_changeLender_17 : decode cX2_changeLender 17 = .ok (.iadd, 1) := by decide +kernel
theorem dX2_changeLender_18 : decode cX2_changeLender 18 = .ok (.iload_n 3, 1) := by decide +kernel
theorem dX2_changeLender_19 : decode cX2_changeLender 19 = .ok (.iastore, 1) := by decide +kernel
theorem dX2_changeLender_20 : decode cX2_changeLender 20 = .ok (.return_, 1) := by decide +kernel
set_option maxRecDepth 20000 in
theorem ggX2_notLater_X2_hasDebt : GoodIn wsX2_notLater wsX2_hasDebt := goodIn_r _ [7, 8, 9, 10, 11, 12, 13, 14, 15, 16, 17, 18, 19] (by decide +kernel) (by decide +kernel)
set_option maxRecDepth 20000 in
theorem gX2_notLater_X2_hasDebt : GoodIn wsX2_notLater (wsV RX2 62 RX2 yX2_hasDebt wsX2_hasDebt) := goodIn_app (goodIn_of _ (by decide +kernel)) ggX2_notLater_X2_hasDebt
theorem dX2_notLater_0 : decode cX2_notLater 0 = .ok (.aload_n 0, 1) := by decide +kernel
theorem dX2_notLater_1 : decode cX2_notLater 1 = .ok (.iload_n 1, 1) := by decide +kernel
theorem dX2_notLater_2 : decode cX2_notLater 2 = .ok (.iload_n 2, 1) := by decide +kernel
theorem dX2_notLater_3 : decode cX2_notLater 3 = .ok (.invokevirtual 62, 3) := by decide +kernel
theorem dX2_notLater_6 : decode cX2_notLater 6 = .ok (.ifCond .eq 12, 3) := by decide +kernel
theorem dX2_notLater_9 : decode cX2_notLater 9 = .ok (.aload_n 0, 1) := by decide +kernel
theorem dX2_notLater_10 : decode cX2_notLater 10 = .ok (.iload_n 1, 1) := by decide +kernel
theorem dX2_notLater_11 : decode cX2_notLater 11 = .ok (.iload_n 3, 1) := by decide +kernel
theorem dX2_notLater_12 : decode cX2_notLater 12 = .ok (.invokevirtual 62, 3) := by decide +kernel
theorem dX2_notLater_15 : decode cX2_notLater 15 = .ok (.ifCond .ne 5, 3) := by decide +kernel
theorem dX2_notLater_18 : decode cX2_notLater 18 = .ok (.iconst 0, 1) := by decide +kernel
theorem dX2_notLater_19 : decode cX2_notLater 19 = .ok (.ireturn, 1) := by decide +kernel
theorem dX2_notLater_20 : decode cX2_notLater 20 = .ok (.aload_n 0, 1) := by decide +kernel
theorem dX2_notLater_21 : decode cX2_notLater 21 = .ok (.getfield 46, 3) := by decide +kernel
theorem dX2_notLater_24 : decode cX2_notLater 24 = .ok (.iconst 1, 1) := by decide +kernel
theorem dX2_notLater_25 : decode cX2_notLater 25 = .ok (.if_icmp .ne 14, 3) := by decide +kernel
theorem dX2_notLater_28 : decode cX2_notLater 28 = .ok (.iload_n 2, 1) := by decide +kernel
theorem dX2_notLater_29 : decode cX2_notLater 29 = .ok (.iload_n 3, 1) := by decide +kernel
theorem dX2_notLater_30 : decode cX2_notLater 30 = .ok (.if_icmp .gt 7, 3) := by decide +kernel
theorem dX2_notLater_33 : decode cX2_notLater 33 = .ok (.iconst 1, 1) := by decide +kernel
theorem dX2_notLater_34 : decode cX2_notLater 34 = .ok (.goto 4, 3) := by decide +kernel
theorem dX2_notLater_37 : decode cX2_notLater 37 = .ok (.iconst 0, 1) := by decide +kernel
theorem dX2_notLater_38 : decode cX2_notLater 38 = .ok (.ireturn, 1) := by decide +kernel
theorem dX2_notLater_39 : decode cX2_notLater 39 = .ok (.iload_n 1, 1) := by decide +kernel
theorem dX2_notLater_40 : decode cX2_notLater 40 = .ok (.iconst 5, 1) := by decide +kernel
theorem dX2_notLater_41 : decode cX2_notLater 41 = .ok (.imul, 1) := by decide +kernel
theorem dX2_notLater_42 : decode cX2_notLater 42 = .ok (.istore 4, 2) := by decide +kernel
theorem dX2_notLater_44 : decode cX2_notLater 44 = .ok (.aload_n 0, 1) := by decide +kernel
theorem dX2_notLater_45 : decode cX2_notLater 45 = .ok (.getfield 46, 3) := by decide +kernel
theorem dX2_notLater_48 : decode cX2_notLater 48 = .ok (.iconst 2, 1) := by decide +kernel
theorem dX2_notLater_49 : decode cX2_notLater 49 = .ok (.if_icmp .ne 25, 3) := by decide +kernel
theorem dX2_notLater_52 : decode cX2_notLater 52 = .ok (.aload_n 0, 1) := by decide +kernel
theorem dX2_notLater_53 : decode cX2_notLater 53 = .ok (.getfield 27, 3) := by decide +kernel
theorem dX2_notLater_56 : decode cX2_notLater 56 = .ok (.iload 4, 2) := by decide +kernel
theorem dX2_notLater_58 : decode cX2_notLater 58 = .ok (.iload_n 2, 1) := by decide +kernel
theorem dX2_notLater_59 : decode cX2_notLater 59 = .ok (.iadd, 1) := by decide +kernel
theorem dX2_notLater_60 : decode cX2_notLater 60 = .ok (.iaload, 1) := by decide +kernel
theorem dX2_notLater_61 : decode cX2_notLater 61 = .ok (.aload_n 0, 1) := by decide +kernel
theorem dX2_notLater_62 : decode cX2_notLater 62 = .ok (.getfield 27, 3) := by decide +kernel
theorem dX2_notLater_65 : decode cX2_notLater 65 = .ok (.iload 4, 2) := by decide +kernel
theorem dX2_notLater_67 : decode cX2_notLater 67 = .ok (.iload_n 3, 1) := by decide +kernel
theorem dX2_notLater_68 : decode cX2_notLater 68 = .ok (.iadd, 1) := by decide +kernel
theorem dX2_notLater_69 : decode cX2_notLater 69 = .ok (.iaload, 1) := by decide +kernel
theorem dX2_notLater_70 : decode cX2_notLater 70 = .ok (.isub, 1) := by decide +kernel
theorem dX2_notLater_71 : decode cX2_notLater 71 = .ok (.goto 4, 3) := by decide +kernel
theorem dX2_notLater_74 : decode cX2_notLater 74 = .ok (.iconst 0, 1) := by decide +kernel
theorem dX2_notLater_75 : decode cX2_notLater 75 = .ok (.istore 5, 2) := by decide +kernel
theorem dX2_notLater_77 : decode cX2_notLater 77 = .ok (.iload 5, 2) := by decide +kernel
theorem dX2_notLater_79 : decode cX2_notLater 79 = .ok (.ifCond .gt 13, 3) := by decide +kernel
theorem dX2_notLater_82 : decode cX2_notLater 82 = .ok (.iload 5, 2) := by decide +kernel
theorem dX2_notLater_84 : decode cX2_notLater 84 = .ok (.ifCond .ne 12, 3) := by decide +kernel
theorem dX2_notLater_87 : decode cX2_notLater 87 = .ok (.iload_n 2, 1) := by decide +kernel
theorem dX2_notLater_88 : decode cX2_notLater 88 = .ok (.iload_n 3, 1) := by decide +kernel
theorem dX2_notLater_89 : decode cX2_notLater 89 = .ok (.if_icmp .lt 7, 3) := by decide +kernel
theorem dX2_notLater_92 : decode cX2_notLater 92 = .ok (.iconst 1, 1) := by decide +kernel
theorem dX2_notLater_93 : decode cX2_notLater 93 = .ok (.goto 4, 3) := by decide +kernel
theorem dX2_notLater_96 : decode cX2_notLater 96 = .ok (.iconst 0, 1) := by decide +kernel
theorem dX2_notLater_97 : decode cX2_notLater 97 = .ok (.ireturn, 1) := by decide +kernel
set_option maxRecDepth 20000 in
theorem ggX2_dueOf_X2_hasDebt : GoodIn wsX2_dueOf wsX2_hasDebt := goodIn_r _ [5, 6, 20, 21, 22, 23, 24, 25, 26, 27, 28, 29, 30] (by decide +kernel) (by decide +kernel)
set_option maxRecDepth 20000 in
theorem gX2_dueOf_X2_hasDebt : GoodIn wsX2_dueOf (wsV RX2 62 RX2 yX2_hasDebt wsX2_hasDebt) := goodIn_app (goodIn_of _ (by decide +kernel)) ggX2_dueOf_X2_hasDebt
set_option maxRecDepth 20000 in
theorem ggX2_dueOf_X2_debtsOf : GoodIn wsX2_dueOf wsX2_debtsOf := goodIn_r _ [10, 6, 11, 12, 13, 20, 21, 22, 23, 24, 25, 26, 27, 28, 29, 30] (by decide +kernel) (by decide +kernel)
set_option maxRecDepth 20000 in
theorem gX2_dueOf_X2_debtsOf : GoodIn wsX2_dueOf (wsV RX2 66 RX2 yX2_debtsOf wsX2_debtsOf) := goodIn_app (goodIn_of _ (by decide +kernel)) ggX2_dueOf_X2_debtsOf
set_option maxRecDepth 20000 in
theorem ggX2_dueOf_X2_notLater : GoodIn wsX2_dueOf wsX2_notLater := goodIn_r _ [17, 18, 19, 1, 2, 3, 4, 5, 6, 20, 21, 22, 23, 24, 25, 26, 27, 28, 29, 30] (by decide +kernel) (by decide +kernel)
set_option maxRecDepth 20000 in
theorem gX2_dueOf_X2_notLater : GoodIn wsX2_dueOf (wsV RX2 70 RX2 yX2_notLater wsX2_notLater) := goodIn_app (goodIn_of _ (by decide +kernel)) ggX2_dueOf_X2_notLater
theorem dX2_dueOf_0 : decode cX2_dueOf 0 = .ok (.aload_n 0, 1) := by decide +kernel
theorem dX2_dueOf_1 : decode cX2_dueOf 1 = .ok (.iload_n 1, 1) := by decide +kernel
theorem dX2_dueOf_2 : decode cX2_dueOf 2 = .ok (.iconst 0, 1) := by decide +kernel
theorem dX2_dueOf_3 : decode cX2_dueOf 3 = .ok (.invokevirtual 62, 3) := by decide +kernel
theorem dX2_dueOf_6 : decode cX2_dueOf 6 = .ok (.ifCond .ne 6, 3) := by decide +kernel
theorem dX2_dueOf_9 : decode cX2_dueOf 9 = .ok (.bipush (-6), 2) := by decide +kernel
theorem dX2_dueOf_11 : decode cX2_dueOf 11 = .ok (.ireturn, 1) := by decide +kernel
theorem dX2_dueOf_12 : decode cX2_dueOf 12 = .ok (.iconst 0, 1) := by decide +kernel
theorem dX2_dueOf_13 : decode cX2_dueOf 13 = .ok (.istore_n 2, 1) := by decide +kernel
theorem dX2_dueOf_14 : decode cX2_dueOf 14 = .ok (.iconst 1, 1) := by decide +kernel
theorem dX2_dueOf_15 : decode cX2_dueOf 15 = .ok (.istore_n 3, 1) := by decide +kernel
theorem dX2_dueOf_16 : decode cX2_dueOf 16 = .ok (.iload_n 3, 1) := by decide +kernel
theorem dX2_dueOf_17 : decode cX2_dueOf 17 = .ok (.aload_n 0, 1) := by decide +kernel
theorem dX2_dueOf_18 : decode cX2_dueOf 18 = .ok (.iload_n 1, 1) := by decide +kernel
theorem dX2_dueOf_19 : decode cX2_dueOf 19 = .ok (.invokevirtual 66, 3) := by decide +kernel
theorem dX2_dueOf_22 : decode cX2_dueOf 22 = .ok (.if_icmp .ge 25, 3) := by decide +kernel
theorem dX2_dueOf_25 : decode cX2_dueOf 25 = .ok (.aload_n 0, 1) := by decide +kernel
theorem dX2_dueOf_26 : decode cX2_dueOf 26 = .ok (.iload_n 1, 1) := by decide +kernel
theorem dX2_dueOf_27 : decode cX2_dueOf 27 = .ok (.iload_n 3, 1) := by decide +kernel
theorem dX2_dueOf_28 : decode cX2_dueOf 28 = .ok (.iload_n 2, 1) := by decide +kernel
theorem dX2_dueOf_29 : decode cX2_dueOf 29 = .ok (.invokevirtual 70, 3) := by decide +kernel
theorem dX2_dueOf_32 : decode cX2_dueOf 32 = .ok (.ifCond .eq 7, 3) := by decide +kernel
theorem dX2_dueOf_35 : decode cX2_dueOf 35 = .ok (.iload_n 3, 1) := by decide +kernel
theorem dX2_dueOf_36 : decode cX2_dueOf 36 = .ok (.goto 4, 3) := by decide +kernel
theorem dX2_dueOf_39 : decode cX2_dueOf 39 = .ok (.iload_n 2, 1) := by decide +kernel
theorem dX2_dueOf_40 : decode cX2_dueOf 40 = .ok (.istore_n 2, 1) := by decide +kernel
theorem dX2_dueOf_41 : decode cX2_dueOf 41 = .ok (.iinc 3 1, 3) := by decide +kernel
theorem dX2_dueOf_44 : decode cX2_dueOf 44 = .ok (.goto (-28), 3) := by decide +kernel
theorem dX2_dueOf_47 : decode cX2_dueOf 47 = .ok (.iload_n 2, 1) := by decide +kernel
theorem dX2_dueOf_48 : decode cX2_dueOf 48 = .ok (.ireturn, 1) := by decide +kernel
set_option maxRecDepth 20000 in
theorem ggX2_turnOf_X2_debtsOf : GoodIn wsX2_turnOf wsX2_debtsOf := goodIn_r _ [5, 6, 7, 8, 9, 20, 21, 22, 23, 24, 25, 26, 27, 28, 29, 30] (by decide +kernel) (by decide +kernel)
set_option maxRecDepth 20000 in
theorem gX2_turnOf_X2_debtsOf : GoodIn wsX2_turnOf (wsV RX2 66 RX2 yX2_debtsOf wsX2_debtsOf) := goodIn_app (goodIn_of _ (by decide +kernel)) ggX2_turnOf_X2_debtsOf
set_option maxRecDepth 20000 in
theorem ggX2_turnOf_X2_notLater : GoodIn wsX2_turnOf wsX2_notLater := goodIn_r _ [13, 14, 15, 16, 17, 18, 4, 19, 6, 20, 21, 22, 23, 24, 25, 26, 27, 28, 29, 30] (by decide +kernel) (by decide +kernel)
set_option maxRecDepth 20000 in
theorem gX2_turnOf_X2_notLater : GoodIn wsX2_turnOf (wsV RX2 70 RX2 yX2_notLater wsX2_notLater) := goodIn_app (goodIn_of _ (by decide +kernel)) ggX2_turnOf_X2_notLater
theorem dX2_turnOf_0 : decode cX2_turnOf 0 = .ok (.iconst 0, 1) := by decide +kernel
theorem dX2_turnOf_1 : decode cX2_turnOf 1 = .ok (.istore_n 3, 1) := by decide +kernel
theorem dX2_turnOf_2 : decode cX2_turnOf 2 = .ok (.iconst 0, 1) := by decide +kernel
theorem dX2_turnOf_3 : decode cX2_turnOf 3 = .ok (.istore 4, 2) := by decide +kernel
theorem dX2_turnOf_5 : decode cX2_turnOf 5 = .ok (.iload 4, 2) := by decide +kernel
theorem dX2_turnOf_7 : decode cX2_turnOf 7 = .ok (.aload_n 0, 1) := by decide +kernel
theorem dX2_turnOf_8 : decode cX2_turnOf 8 = .ok (.iload_n 1, 1) := by decide +kernel
theorem dX2_turnOf_9 : decode cX2_turnOf 9 = .ok (.invokevirtual 66, 3) := by decide +kernel
theorem dX2_turnOf_12 : decode cX2_turnOf 12 = .ok (.if_icmp .ge 28, 3) := by decide +kernel
theorem dX2_turnOf_15 : decode cX2_turnOf 15 = .ok (.iload_n 3, 1) := by decide +kernel
theorem dX2_turnOf_16 : decode cX2_turnOf 16 = .ok (.aload_n 0, 1) := by decide +kernel
theorem dX2_turnOf_17 : decode cX2_turnOf 17 = .ok (.iload_n 1, 1) := by decide +kernel
theorem dX2_turnOf_18 : decode cX2_turnOf 18 = .ok (.iload 4, 2) := by decide +kernel
theorem dX2_turnOf_20 : decode cX2_turnOf 20 = .ok (.iload_n 2, 1) := by decide +kernel
theorem dX2_turnOf_21 : decode cX2_turnOf 21 = .ok (.invokevirtual 70, 3) := by decide +kernel
theorem dX2_turnOf_24 : decode cX2_turnOf 24 = .ok (.ifCond .eq 7, 3) := by decide +kernel
theorem dX2_turnOf_27 : decode cX2_turnOf 27 = .ok (.iconst 1, 1) := by decide +kernel
theorem dX2_turnOf_28 : decode cX2_turnOf 28 = .ok (.goto 4, 3) := by decide +kernel
theorem dX2_turnOf_31 : decode cX2_turnOf 31 = .ok (.iconst 0, 1) := by decide +kernel
theorem dX2_turnOf_32 : decode cX2_turnOf 32 = .ok (.iadd, 1) := by decide +kernel
theorem dX2_turnOf_33 : decode cX2_turnOf 33 = .ok (.istore_n 3, 1) := by decide +kernel
theorem dX2_turnOf_34 : decode cX2_turnOf 34 = .ok (.iinc 4 1, 3) := by decide +kernel
theorem dX2_turnOf_37 : decode cX2_turnOf 37 = .ok (.goto (-32), 3) := by decide +kernel
theorem dX2_turnOf_40 : decode cX2_turnOf 40 = .ok (.iload_n 3, 1) := by decide +kernel
theorem dX2_turnOf_41 : decode cX2_turnOf 41 = .ok (.ireturn, 1) := by decide +kernel
set_option maxRecDepth 20000 in
theorem ggX2_penceTill_X2_debtsOf : GoodIn wsX2_penceTill wsX2_debtsOf := goodIn_r _ [5, 6, 7, 8, 9, 24, 25, 26, 27, 28, 29, 30, 31, 32, 33, 34] (by decide +kernel) (by decide +kernel)
set_option maxRecDepth 20000 in
theorem gX2_penceTill_X2_debtsOf : GoodIn wsX2_penceTill (wsV RX2 66 RX2 yX2_debtsOf wsX2_debtsOf) := goodIn_app (goodIn_of _ (by decide +kernel)) ggX2_penceTill_X2_debtsOf
set_option maxRecDepth 20000 in
theorem ggX2_penceTill_X2_notLater : GoodIn wsX2_penceTill wsX2_notLater := goodIn_r _ [13, 14, 15, 16, 17, 18, 4, 19, 6, 24, 25, 26, 27, 28, 29, 30, 31, 32, 33, 34] (by decide +kernel) (by decide +kernel)
set_option maxRecDepth 20000 in
theorem gX2_penceTill_X2_notLater : GoodIn wsX2_penceTill (wsV RX2 70 RX2 yX2_notLater wsX2_notLater) := goodIn_app (goodIn_of _ (by decide +kernel)) ggX2_penceTill_X2_notLater
set_option maxRecDepth 20000 in
theorem ggX2_penceTill_X2_penceOf : GoodIn wsX2_penceTill wsX2_penceOf := goodIn_r _ [23, 15, 16, 17, 18, 4, 19, 6, 24, 25, 26, 27, 28, 29, 30, 31, 32, 33, 34] (by decide +kernel) (by decide +kernel)
set_option maxRecDepth 20000 in
theorem gX2_penceTill_X2_penceOf : GoodIn wsX2_penceTill (wsV RX2 74 RX2 yX2_penceOf wsX2_penceOf) := goodIn_app (goodIn_of _ (by decide +kernel)) ggX2_penceTill_X2_penceOf
theorem dX2_penceTill_0 : decode cX2_penceTill 0 = .ok (.iconst 0, 1) := by decide +kernel
theorem dX2_penceTill_1 : decode cX2_penceTill 1 = .ok (.istore_n 3, 1) := by decide +kernel
theorem dX2_penceTill_2 : decode cX2_penceTill 2 = .ok (.iconst 0, 1) := by decide +kernel
theorem dX2_penceTill_3 : decode cX2_penceTill 3 = .ok (.istore 4, 2) := by decide +kernel
theorem dX2_penceTill_5 : decode cX2_penceTill 5 = .ok (.iload 4, 2) := by decide +kernel
theorem dX2_penceTill_7 : decode cX2_penceTill 7 = .ok (.aload_n 0, 1) := by decide +kernel
theorem dX2_penceTill_8 : decode cX2_penceTill 8 = .ok (.iload_n 1, 1) := by decide +kernel
theorem dX2_penceTill_9 : decode cX2_penceTill 9 = .ok (.invokevirtual 66, 3) := by decide +kernel
theorem dX2_penceTill_12 : decode cX2_penceTill 12 = .ok (.if_icmp .ge 34, 3) := by decide +kernel
theorem dX2_penceTill_15 : decode cX2_penceTill 15 = .ok (.iload_n 3, 1) := by decide +kernel
theorem dX2_penceTill_16 : decode cX2_penceTill 16 = .ok (.aload_n 0, 1) := by decide +kernel
theorem dX2_penceTill_17 : decode cX2_penceTill 17 = .ok (.iload_n 1, 1) := by decide +kernel
theorem dX2_penceTill_18 : decode cX2_penceTill 18 = .ok (.iload 4, 2) := by decide +kernel
theorem dX2_penceTill_20 : decode cX2_penceTill 20 = .ok (.iload_n 2, 1) := by decide +kernel
theorem dX2_penceTill_21 : decode cX2_penceTill 21 = .ok (.invokevirtual 70, 3) := by decide +kernel
theorem dX2_penceTill_24 : decode cX2_penceTill 24 = .ok (.ifCond .eq 13, 3) := by decide +kernel
theorem dX2_penceTill_27 : decode cX2_penceTill 27 = .ok (.aload_n 0, 1) := by decide +kernel
theorem dX2_penceTill_28 : decode cX2_penceTill 28 = .ok (.iload_n 1, 1) := by decide +kernel
theorem dX2_penceTill_29 : decode cX2_penceTill 29 = .ok (.iload 4, 2) := by decide +kernel
theorem dX2_penceTill_31 : decode cX2_penceTill 31 = .ok (.invokevirtual 74, 3) := by decide +kernel
theorem dX2_penceTill_34 : decode cX2_penceTill 34 = .ok (.goto 4, 3) := by decide +kernel
theorem dX2_penceTill_37 : decode cX2_penceTill 37 = .ok (.iconst 0, 1) := by decide +kernel
theorem dX2_penceTill_38 : decode cX2_penceTill 38 = .ok (.iadd, 1) := by decide +kernel
theorem dX2_penceTill_39 : decode cX2_penceTill 39 = .ok (.istore_n 3, 1) := by decide +kernel
theorem dX2_penceTill_40 : decode cX2_penceTill 40 = .ok (.iinc 4 1, 3) := by decide +kernel
theorem dX2_penceTill_43 : decode cX2_penceTill 43 = .ok (.goto (-38), 3) := by decide +kernel
theorem dX2_penceTill_46 : decode cX2_penceTill 46 = .ok (.iload_n 3, 1) := by decide +kernel
theorem dX2_penceTill_47 : decode cX2_penceTill 47 = .ok (.ireturn, 1) := by decide +kernel
set_option maxRecDepth 20000 in
theorem ggX2_owedTo_X2_debtsOf : GoodIn wsX2_owedTo wsX2_debtsOf := goodIn_r _ [5, 6, 7, 8, 9, 24, 25, 26, 27, 28, 29, 30, 31, 32, 33, 34] (by decide +kernel) (by decide +kernel)
set_option maxRecDepth 20000 in
theorem gX2_owedTo_X2_debtsOf : GoodIn wsX2_owedTo (wsV RX2 66 RX2 yX2_debtsOf wsX2_debtsOf) := goodIn_app (goodIn_of _ (by decide +kernel)) ggX2_owedTo_X2_debtsOf
set_option maxRecDepth 20000 in
theorem ggX2_owedTo_X2_lenderOf : GoodIn wsX2_owedTo wsX2_lenderOf := goodIn_r _ [13, 14, 15, 16, 17, 4, 18, 6, 24, 25, 26, 27, 28, 29, 30, 31, 32, 33, 34] (by decide +kernel) (by decide +kernel)
set_option maxRecDepth 20000 in
theorem gX2_owedTo_X2_lenderOf : GoodIn wsX2_owedTo (wsV RX2 78 RX2 yX2_lenderOf wsX2_lenderOf) := goodIn_app (goodIn_of _ (by decide +kernel)) ggX2_owedTo_X2_lenderOf
set_option maxRecDepth 20000 in
theorem ggX2_owedTo_X2_penceOf : GoodIn wsX2_owedTo wsX2_penceOf := goodIn_r _ [22, 23, 15, 16, 17, 4, 18, 6, 24, 25, 26, 27, 28, 29, 30, 31, 32, 33, 34] (by decide +kernel) (by decide +kernel)
set_option maxRecDepth 20000 in
theorem gX2_owedTo_X2_penceOf : GoodIn wsX2_owedTo (wsV RX2 74 RX2 yX2_penceOf wsX2_penceOf) := goodIn_app (goodIn_of _ (by decide +kernel)) ggX2_owedTo_X2_penceOf
theorem dX2_owedTo_0 : decode cX2_owedTo 0 = .ok (.iconst 0, 1) := by decide +kernel
theorem dX2_owedTo_1 : decode cX2_owedTo 1 = .ok (.istore_n 3, 1) := by decide +kernel
theorem dX2_owedTo_2 : decode cX2_owedTo 2 = .ok (.iconst 0, 1) := by decide +kernel
theorem dX2_owedTo_3 : decode cX2_owedTo 3 = .ok (.istore 4, 2) := by decide +kernel
theorem dX2_owedTo_5 : decode cX2_owedTo 5 = .ok (.iload 4, 2) := by decide +kernel
theorem dX2_owedTo_7 : decode cX2_owedTo 7 = .ok (.aload_n 0, 1) := by decide +kernel
theorem dX2_owedTo_8 : decode cX2_owedTo 8 = .ok (.iload_n 1, 1) := by decide +kernel
theorem dX2_owedTo_9 : decode cX2_owedTo 9 = .ok (.invokevirtual 66, 3) := by decide +kernel
theorem dX2_owedTo_12 : decode cX2_owedTo 12 = .ok (.if_icmp .ge 34, 3) := by decide +kernel
theorem dX2_owedTo_15 : decode cX2_owedTo 15 = .ok (.iload_n 3, 1) := by decide +kernel
theorem dX2_owedTo_16 : decode cX2_owedTo 16 = .ok (.aload_n 0, 1) := by decide +kernel
theorem dX2_owedTo_17 : decode cX2_owedTo 17 = .ok (.iload_n 1, 1) := by decide +kernel
theorem dX2_owedTo_18 : decode cX2_owedTo 18 = .ok (.iload 4, 2) := by decide +kernel
theorem dX2_owedTo_20 : decode cX2_owedTo 20 = .ok (.invokevirtual 78, 3) := by decide +kernel
theorem dX2_owedTo_23 : decode cX2_owedTo 23 = .ok (.iload_n 2, 1) := by decide +kernel
theorem dX2_owedTo_24 : decode cX2_owedTo 24 = .ok (.if_icmp .ne 13, 3) := by decide +kernel
theorem dX2_owedTo_27 : decode cX2_owedTo 27 = .ok (.aload_n 0, 1) := by decide +kernel
theorem dX2_owedTo_28 : decode cX2_owedTo 28 = .ok (.iload_n 1, 1) := by decide +kernel
theorem dX2_owedTo_29 : decode cX2_owedTo 29 = .ok (.iload 4, 2) := by decide +kernel
theorem dX2_owedTo_31 : decode cX2_owedTo 31 = .ok (.invokevirtual 74, 3) := by decide +kernel
theorem dX2_owedTo_34 : decode cX2_owedTo 34 = .ok (.goto 4, 3) := by decide +kernel
theorem dX2_owedTo_37 : decode cX2_owedTo 37 = .ok (.iconst 0, 1) := by decide +kernel
theorem dX2_owedTo_38 : decode cX2_owedTo 38 = .ok (.iadd, 1) := by decide +kernel
theorem dX2_owedTo_39 : decode cX2_owedTo 39 = .ok (.istore_n 3, 1) := by decide +kernel
theorem dX2_owedTo_40 : decode cX2_owedTo 40 = .ok (.iinc 4 1, 3) := by decide +kernel
theorem dX2_owedTo_43 : decode cX2_owedTo 43 = .ok (.goto (-38), 3) := by decide +kernel
theorem dX2_owedTo_46 : decode cX2_owedTo 46 = .ok (.iload_n 3, 1) := by decide +kernel
theorem dX2_owedTo_47 : decode cX2_owedTo 47 = .ok (.ireturn, 1) := by decide +kernel
theorem dX2_allDebts_0 : decode cX2_allDebts 0 = .ok (.iconst 0, 1) := by decide +kernel
theorem dX2_allDebts_1 : decode cX2_allDebts 1 = .ok (.istore_n 1, 1) := by decide +kernel
theorem dX2_allDebts_2 : decode cX2_allDebts 2 = .ok (.iconst 0, 1) := by decide +kernel
theorem dX2_allDebts_3 : decode cX2_allDebts 3 = .ok (.istore_n 2, 1) := by decide +kernel
theorem dX2_allDebts_4 : decode cX2_allDebts 4 = .ok (.iload_n 2, 1) := by decide +kernel
theorem dX2_allDebts_5 : decode cX2_allDebts 5 = .ok (.bipush 6, 2) := by decide +kernel
theorem dX2_allDebts_7 : decode cX2_allDebts 7 = .ok (.if_icmp .ge 18, 3) := by decide +kernel
theorem dX2_allDebts_10 : decode cX2_allDebts 10 = .ok (.iload_n 1, 1) := by decide +kernel
theorem dX2_allDebts_11 : decode cX2_allDebts 11 = .ok (.aload_n 0, 1) := by decide +kernel
theorem dX2_allDebts_12 : decode cX2_allDebts 12 = .ok (.getfield 21, 3) := by decide +kernel
theorem dX2_allDebts_15 : decode cX2_allDebts 15 = .ok (.iload_n 2, 1) := by decide +kernel
theorem dX2_allDebts_16 : decode cX2_allDebts 16 = .ok (.iaload, 1) := by decide +kernel
theorem dX2_allDebts_17 : decode cX2_allDebts 17 = .ok (.iadd, 1) := by decide +kernel
theorem dX2_allDebts_18 : decode cX2_allDebts 18 = .ok (.istore_n 1, 1) := by decide +kernel
theorem dX2_allDebts_19 : decode cX2_allDebts 19 = .ok (.iinc 2 1, 3) := by decide +kernel
theorem dX2_allDebts_22 : decode cX2_allDebts 22 = .ok (.goto (-18), 3) := by decide +kernel
theorem dX2_allDebts_25 : decode cX2_allDebts 25 = .ok (.iload_n 1, 1) := by decide +kernel
theorem dX2_allDebts_26 : decode cX2_allDebts 26 = .ok (.ireturn, 1) := by decide +kernel
set_option maxRecDepth 20000 in
theorem ggX2_allPence_X2_debtsOf : GoodIn wsX2_allPence wsX2_debtsOf := goodIn_r _ [5, 6, 7, 8, 9, 19, 20, 21, 22, 23, 24, 25, 26, 27, 28, 29] (by decide +kernel) (by decide +kernel)
set_option maxRecDepth 20000 in
theorem gX2_allPence_X2_debtsOf : GoodIn wsX2_allPence (wsV RX2 66 RX2 yX2_debtsOf wsX2_debtsOf) := goodIn_app (goodIn_of _ (by decide +kernel)) ggX2_allPence_X2_debtsOf
set_option maxRecDepth 20000 in
theorem ggX2_allPence_X2_penceOf : GoodIn wsX2_allPence wsX2_penceOf := goodIn_r _ [13, 14, 15, 16, 17, 4, 18, 6, 19, 20, 21, 22, 23, 24, 25, 26, 27, 28, 29] (by decide +kernel) (by decide +kernel)
set_option maxRecDepth 20000 in
theorem gX2_allPence_X2_penceOf : GoodIn wsX2_allPence (wsV RX2 74 RX2 yX2_penceOf wsX2_penceOf) := goodIn_app (goodIn_of _ (by decide +kernel)) ggX2_allPence_X2_penceOf
theorem dX2_allPence_0 : decode cX2_allPence 0 = .ok (.iconst 0, 1) := by decide +kernel
theorem dX2_allPence_1 : decode cX2_allPence 1 = .ok (.istore_n 1, 1) := by decide +kernel
theorem dX2_allPence_2 : decode cX2_allPence 2 = .ok (.iconst 0, 1) := by decide +kernel
theorem dX2_allPence_3 : decode cX2_allPence 3 = .ok (.istore_n 2, 1) := by decide +kernel
theorem dX2_allPence_4 : decode cX2_allPence 4 = .ok (.iload_n 2, 1) := by decide +kernel
theorem dX2_allPence_5 : decode cX2_allPence 5 = .ok (.bipush 6, 2) := by decide +kernel
theorem dX2_allPence_7 : decode cX2_allPence 7 = .ok (.if_icmp .ge 35, 3) := by decide +kernel
theorem dX2_allPence_10 : decode cX2_allPence 10 = .ok (.iconst 0, 1) := by decide +kernel
theorem dX2_allPence_11 : decode cX2_allPence 11 = .ok (.istore_n 3, 1) := by decide +kernel
theorem dX2_allPence_12 : decode cX2_allPence 12 = .ok (.iload_n 3, 1) := by decide +kernel
theorem dX2_allPence_13 : decode cX2_allPence 13 = .ok (.aload_n 0, 1) := by decide +kernel
theorem dX2_allPence_14 : decode cX2_allPence 14 = .ok (.iload_n 2, 1) := by decide +kernel
theorem dX2_allPence_15 : decode cX2_allPence 15 = .ok (.invokevirtual 66, 3) := by decide +kernel
theorem dX2_allPence_18 : decode cX2_allPence 18 = .ok (.if_icmp .ge 18, 3) := by decide +kernel
theorem dX2_allPence_21 : decode cX2_allPence 21 = .ok (.iload_n 1, 1) := by decide +kernel
theorem dX2_allPence_22 : decode cX2_allPence 22 = .ok (.aload_n 0, 1) := by decide +kernel
theorem dX2_allPence_23 : decode cX2_allPence 23 = .ok (.iload_n 2, 1) := by decide +kernel
theorem dX2_allPence_24 : decode cX2_allPence 24 = .ok (.iload_n 3, 1) := by decide +kernel
theorem dX2_allPence_25 : decode cX2_allPence 25 = .ok (.invokevirtual 74, 3) := by decide +kernel
theorem dX2_allPence_28 : decode cX2_allPence 28 = .ok (.iadd, 1) := by decide +kernel
theorem dX2_allPence_29 : decode cX2_allPence 29 = .ok (.istore_n 1, 1) := by decide +kernel
theorem dX2_allPence_30 : decode cX2_allPence 30 = .ok (.iinc 3 1, 3) := by decide +kernel
theorem dX2_allPence_33 : decode cX2_allPence 33 = .ok (.goto (-21), 3) := by decide +kernel
theorem dX2_allPence_36 : decode cX2_allPence 36 = .ok (.iinc 2 1, 3) := by decide +kernel
theorem dX2_allPence_39 : decode cX2_allPence 39 = .ok (.goto (-35), 3) := by decide +kernel
theorem dX2_allPence_42 : decode cX2_allPence 42 = .ok (.iload_n 1, 1) := by decide +kernel
theorem dX2_allPence_43 : decode cX2_allPence 43 = .ok (.ireturn, 1) := by decide +kernel
set_option maxRecDepth 20000 in
theorem ggX2_lend_X2_purseOf : GoodIn wsX2_lend wsX2_purseOf := goodIn_r _ [10, 11, 12, 13, 14, 23, 24, 25, 26, 27, 28, 29, 30, 31, 32, 33] (by decide +kernel) (by decide +kernel)
set_option maxRecDepth 20000 in
theorem gX2_lend_X2_purseOf : GoodIn wsX2_lend (wsV RX2 81 RX2 yX2_purseOf wsX2_purseOf) := goodIn_app (goodIn_of _ (by decide +kernel)) ggX2_lend_X2_purseOf
set_option maxRecDepth 20000 in
theorem ggX2_lend_X2_debtsOf : GoodIn wsX2_lend wsX2_debtsOf := goodIn_r _ [18, 5, 12, 13, 14, 23, 24, 25, 26, 27, 28, 29, 30, 31, 32, 33] (by decide +kernel) (by decide +kernel)
set_option maxRecDepth 20000 in
theorem gX2_lend_X2_debtsOf : GoodIn wsX2_lend (wsV RX2 66 RX2 yX2_debtsOf wsX2_debtsOf) := goodIn_app (goodIn_of _ (by decide +kernel)) ggX2_lend_X2_debtsOf
set_option maxRecDepth 20000 in
theorem ggX2_lend_X3_isMan : GoodIn wsX2_lend wsX3_isMan := goodIn_r _ [14] (by decide +kernel) (by decide +kernel)
set_option maxRecDepth 20000 in
theorem gX2_lend_X3_isMan_n58 : GoodIn wsX2_lend (wsX3_isMan) := ggX2_lend_X3_isMan
set_option maxRecDepth 20000 in
theorem ggX2_lend_X2_fillPurse : GoodIn wsX2_lend wsX2_fillPurse := goodIn_r _ [22, 11, 12, 13, 14, 23, 24, 25, 26, 27, 28, 29, 30, 31, 32, 33] (by decide +kernel) (by decide +kernel)
set_option maxRecDepth 20000 in
theorem gX2_lend_X2_fillPurse : GoodIn wsX2_lend (wsV RX2 84 RX2 yX2_fillPurse wsX2_fillPurse) := goodIn_app (goodIn_of _ (by decide +kernel)) ggX2_lend_X2_fillPurse
theorem dX2_lend_0 : decode cX2_lend 0 = .ok (.aload_n 0, 1) := by decide +kernel
theorem dX2_lend_1 : decode cX2_lend 1 = .ok (.iload_n 1, 1) := by decide +kernel
theorem dX2_lend_2 : decode cX2_lend 2 = .ok (.invokevirtual 81, 3) := by decide +kernel
theorem dX2_lend_5 : decode cX2_lend 5 = .ok (.iload_n 3, 1) := by decide +kernel
theorem dX2_lend_6 : decode cX2_lend 6 = .ok (.if_icmp .ge 5, 3) := by decide +kernel
theorem dX2_lend_9 : decode cX2_lend 9 = .ok (.iconst 1, 1) := by decide +kernel
theorem dX2_lend_10 : decode cX2_lend 10 = .ok (.ireturn, 1) := by decide +kernel
theorem dX2_lend_11 : decode cX2_lend 11 = .ok (.aload_n 0, 1) := by decide +kernel
theorem dX2_lend_12 : decode cX2_lend 12 = .ok (.iload_n 2, 1) := by decide +kernel
theorem dX2_lend_13 : decode cX2_lend 13 = .ok (.invokevirtual 66, 3) := by decide +kernel
theorem dX2_lend_16 : decode cX2_lend 16 = .ok (.istore 4, 2) := by decide +kernel
theorem dX2_lend_18 : decode cX2_lend 18 = .ok (.iload_n 2, 1) := by decide +kernel
theorem dX2_lend_19 : decode cX2_lend 19 = .ok (.invokestatic 58, 3) := by decide +kernel
theorem dX2_lend_22 : decode cX2_lend 22 = .ok (.ifCond .eq 14, 3) := by decide +kernel
theorem dX2_lend_25 : decode cX2_lend 25 = .ok (.iload 4, 2) := by decide +kernel
theorem dX2_lend_27 : decode cX2_lend 27 = .ok (.ifCond .lt 9, 3) := by decide +kernel
theorem dX2_lend_30 : decode cX2_lend 30 = .ok (.iload 4, 2) := by decide +kernel
theorem dX2_lend_32 : decode cX2_lend 32 = .ok (.iconst 5, 1) := by decide +kernel
theorem dX2_lend_33 : decode cX2_lend 33 = .ok (.if_icmp .lt 5, 3) := by decide +kernel
theorem dX2_lend_36 : decode cX2_lend 36 = .ok (.iconst 2, 1) := by decide +kernel
theorem dX2_lend_37 : decode cX2_lend 37 = .ok (.ireturn, 1) := by decide +kernel
theorem dX2_lend_38 : decode cX2_lend 38 = .ok (.iload_n 2, 1) := by decide +kernel
theorem dX2_lend_39 : decode cX2_lend 39 = .ok (.iconst 5, 1) := by decide +kernel
theorem dX2_lend_40 : decode cX2_lend 40 = .ok (.imul, 1) := by decide +kernel
theorem dX2_lend_41 : decode cX2_lend 41 = .ok (.iload 4, 2) := by decide +kernel
theorem dX2_lend_43 : decode cX2_lend 43 = .ok (.iadd, 1) := by decide +kernel
theorem dX2_lend_44 : decode cX2_lend 44 = .ok (.istore 5, 2) := by decide +kernel
theorem dX2_lend_46 : decode cX2_lend 46 = .ok (.aload_n 0, 1) := by decide +kernel
theorem dX2_lend_47 : decode cX2_lend 47 = .ok (.getfield 24, 3) := by decide +kernel
theorem dX2_lend_50 : decode cX2_lend 50 = .ok (.iload 5, 2) := by decide +kernel
theorem dX2_lend_52 : decode cX2_lend 52 = .ok (.iload_n 1, 1) := by decide +kernel
theorem dX2_lend_53 : decode cX2_lend 53 = .ok (.iastore, 1) := by decide +kernel
theorem dX2_lend_54 : decode cX2_lend 54 = .ok (.aload_n 0, 1) := by decide +kernel
theorem dX2_lend_55 : decode cX2_lend 55 = .ok (.getfield 27, 3) := by decide +kernel
theorem dX2_lend_58 : decode cX2_lend 58 = .ok (.iload 5, 2) := by decide +kernel
theorem dX2_lend_60 : decode cX2_lend 60 = .ok (.iload_n 3, 1) := by decide +kernel
theorem dX2_lend_61 : decode cX2_lend 61 = .ok (.iastore, 1) := by decide +kernel
theorem dX2_lend_62 : decode cX2_lend 62 = .ok (.aload_n 0, 1) := by decide +kernel
theorem dX2_lend_63 : decode cX2_lend 63 = .ok (.getfield 30, 3) := by decide +kernel
theorem dX2_lend_66 : decode cX2_lend 66 = .ok (.iload 5, 2) := by decide +kernel
theorem dX2_lend_68 : decode cX2_lend 68 = .ok (.aload_n 0, 1) := by decide +kernel
theorem dX2_lend_69 : decode cX2_lend 69 = .ok (.getfield 43, 3) := by decide +kernel
theorem dX2_lend_72 : decode cX2_lend 72 = .ok (.iastore, 1) := by decide +kernel
theorem dX2_lend_73 : decode cX2_lend 73 = .ok (.aload_n 0, 1) := by decide +kernel
theorem dX2_lend_74 : decode cX2_lend 74 = .ok (.getfield 21, 3) := by decide +kernel
theorem dX2_lend_77 : decode cX2_lend 77 = .ok (.iload_n 2, 1) := by decide +kernel
theorem dX2_lend_78 : decode cX2_lend 78 = .ok (.iload 4, 2) := by decide +kernel
theorem dX2_lend_80 : decode cX2_lend 80 = .ok (.iconst 1, 1) := by decide +kernel
theorem dX2_lend_81 : decode cX2_lend 81 = .ok (.iadd, 1) := by decide +kernel
theorem dX2_lend_82 : decode cX2_lend 82 = .ok (.iastore, 1) := by decide +kernel
theorem dX2_lend_83 : decode cX2_lend 83 = .ok (.aload_n 0, 1) := by decide +kernel
theorem dX2_lend_84 : decode cX2_lend 84 = .ok (.iload_n 1, 1) := by decide +kernel
theorem dX2_lend_85 : decode cX2_lend 85 = .ok (.aload_n 0, 1) := by decide +kernel
theorem dX2_lend_86 : decode cX2_lend 86 = .ok (.iload_n 1, 1) := by decide +kernel
theorem dX2_lend_87 : decode cX2_lend 87 = .ok (.invokevirtual 81, 3) := by decide +kernel
theorem dX2_lend_90 : decode cX2_lend 90 = .ok (.iload_n 3, 1) := by decide +kernel
theorem dX2_lend_91 : decode cX2_lend 91 = .ok (.isub, 1) := by decide +kernel
theorem dX2_lend_92 : decode cX2_lend 92 = .ok (.invokevirtual 84, 3) := by decide +kernel
theorem dX2_lend_95 : decode cX2_lend 95 = .ok (.aload_n 0, 1) := by decide +kernel
theorem dX2_lend_96 : decode cX2_lend 96 = .ok (.iload_n 2, 1) := by decide +kernel
theorem dX2_lend_97 : decode cX2_lend 97 = .ok (.aload_n 0, 1) := by decide +kernel
theorem dX2_lend_98 : decode cX2_lend 98 = .ok (.iload_n 2, 1) := by decide +kernel
theorem dX2_lend_99 : decode cX2_lend 99 = .ok (.invokevirtual 81, 3) := by decide +kernel
theorem dX2_lend_102 : decode cX2_lend 102 = .ok (.iload_n 3, 1) := by decide +kernel
theorem dX2_lend_103 : decode cX2_lend 103 = .ok (.iadd, 1) := by decide +kernel
theorem dX2_lend_104 : decode cX2_lend 104 = .ok (.invokevirtual 84, 3) := by decide +kernel
theorem dX2_lend_107 : decode cX2_lend 107 = .ok (.iconst 0, 1) := by decide +kernel
theorem dX2_lend_108 : decode cX2_lend 108 = .ok (.ireturn, 1) := by decide +kernel
set_option maxRecDepth 20000 in
theorem ggX2_repay_X2_dueOf : GoodIn wsX2_repay wsX2_dueOf := goodIn_r _ [5, 6, 7, 8, 4, 9, 10, 11, 12, 13, 14, 15, 16, 17, 18, 19, 20, 21, 22, 23, 47, 48, 49, 50, 51, 52, 53, 54, 55, 56, 57] (by decide +kernel) (by decide +kernel)
set_option maxRecDepth 20000 in
theorem gX2_repay_X2_dueOf : GoodIn wsX2_repay (wsV RX2 88 RX2 yX2_dueOf wsX2_dueOf) := goodIn_app (goodIn_of _ (by decide +kernel)) ggX2_repay_X2_dueOf
set_option maxRecDepth 20000 in
theorem ggX2_repay_X2_penceOf : GoodIn wsX2_repay wsX2_penceOf := goodIn_r _ [27, 23, 6, 7, 8, 4, 9, 10, 47, 48, 49, 50, 51, 52, 53, 54, 55, 56, 57] (by decide +kernel) (by decide +kernel)
set_option maxRecDepth 20000 in
theorem gX2_repay_X2_penceOf : GoodIn wsX2_repay (wsV RX2 74 RX2 yX2_penceOf wsX2_penceOf) := goodIn_app (goodIn_of _ (by decide +kernel)) ggX2_repay_X2_penceOf
set_option maxRecDepth 20000 in
theorem ggX2_repay_X2_purseOf : GoodIn wsX2_repay wsX2_purseOf := goodIn_r _ [31, 32, 15, 16, 17, 47, 48, 49, 50, 51, 52, 53, 54, 55, 56, 57] (by decide +kernel) (by decide +kernel)
set_option maxRecDepth 20000 in
theorem gX2_repay_X2_purseOf : GoodIn wsX2_repay (wsV RX2 81 RX2 yX2_purseOf wsX2_purseOf) := goodIn_app (goodIn_of _ (by decide +kernel)) ggX2_repay_X2_purseOf
set_option maxRecDepth 20000 in
theorem ggX2_repay_X2_lenderOf : GoodIn wsX2_repay wsX2_lenderOf := goodIn_r _ [36, 37, 6, 7, 8, 4, 9, 10, 47, 48, 49, 50, 51, 52, 53, 54, 55, 56, 57] (by decide +kernel) (by decide +kernel)
set_option maxRecDepth 20000 in
theorem gX2_repay_X2_lenderOf : GoodIn wsX2_repay (wsV RX2 78 RX2 yX2_lenderOf wsX2_lenderOf) := goodIn_app (goodIn_of _ (by decide +kernel)) ggX2_repay_X2_lenderOf
set_option maxRecDepth 20000 in
theorem ggX2_repay_X2_fillPurse : GoodIn wsX2_repay wsX2_fillPurse := goodIn_r _ [41, 32, 15, 16, 17, 47, 48, 49, 50, 51, 52, 53, 54, 55, 56, 57] (by decide +kernel) (by decide +kernel)
set_option maxRecDepth 20000 in
theorem gX2_repay_X2_fillPurse : GoodIn wsX2_repay (wsV RX2 84 RX2 yX2_fillPurse wsX2_fillPurse) := goodIn_app (goodIn_of _ (by decide +kernel)) ggX2_repay_X2_fillPurse
set_option maxRecDepth 20000 in
theorem ggX2_repay_X2_drop : GoodIn wsX2_repay wsX2_drop := goodIn_r _ [45, 10, 37, 23, 46, 6, 7, 8, 4, 9, 47, 48, 49, 50, 51, 52, 53, 54, 55, 56, 57] (by decide +kernel) (by decide +kernel)
set_option maxRecDepth 20000 in
theorem gX2_repay_X2_drop : GoodIn wsX2_repay (wsV RX2 91 RX2 yX2_drop wsX2_drop) := goodIn_app (goodIn_of _ (by decide +kernel)) ggX2_repay_X2_drop
theorem dX2_repay_0 : decode cX2_repay 0 = .ok (.aload_n 0, 1) := by decide +kernel
theorem dX2_repay_1 : decode cX2_repay 1 = .ok (.iload_n 1, 1) := by decide +kernel
theorem dX2_repay_2 : decode cX2_repay 2 = .ok (.invokevirtual 88, 3) := by decide +kernel
theorem dX2_repay_5 : decode cX2_repay 5 = .ok (.istore_n 2, 1) := by decide +kernel
theorem dX2_repay_6 : decode cX2_repay 6 = .ok (.iload_n 2, 1) := by decide +kernel
theorem dX2_repay_7 : decode cX2_repay 7 = .ok (.bipush (-6), 2) := by decide +kernel
theorem dX2_repay_9 : decode cX2_repay 9 = .ok (.if_icmp .ne 5, 3) := by decide +kernel
theorem dX2_repay_12 : decode cX2_repay 12 = .ok (.iconst 3, 1) := by decide +kernel
theorem dX2_repay_13 : decode cX2_repay 13 = .ok (.ireturn, 1) := by decide +kernel
theorem dX2_repay_14 : decode cX2_repay 14 = .ok (.aload_n 0, 1) := by decide +kernel
theorem dX2_repay_15 : decode cX2_repay 15 = .ok (.iload_n 1, 1) := by decide +kernel
theorem dX2_repay_16 : decode cX2_repay 16 = .ok (.iload_n 2, 1) := by decide +kernel
theorem dX2_repay_17 : decode cX2_repay 17 = .ok (.invokevirtual 74, 3) := by decide +kernel
theorem dX2_repay_20 : decode cX2_repay 20 = .ok (.istore_n 3, 1) := by decide +kernel
theorem dX2_repay_21 : decode cX2_repay 21 = .ok (.aload_n 0, 1) := by decide +kernel
theorem dX2_repay_22 : decode cX2_repay 22 = .ok (.iload_n 1, 1) := by decide +kernel
theorem dX2_repay_23 : decode cX2_repay 23 = .ok (.invokevirtual 81, 3) := by decide +kernel
theorem dX2_repay_26 : decode cX2_repay 26 = .ok (.iload_n 3, 1) := by decide +kernel
theorem dX2_repay_27 : decode cX2_repay 27 = .ok (.if_icmp .ge 5, 3) := by decide +kernel
theorem dX2_repay_30 : decode cX2_repay 30 = .ok (.iconst 4, 1) := by decide +kernel
theorem dX2_repay_31 : decode cX2_repay 31 = .ok (.ireturn, 1) := by decide +kernel
theorem dX2_repay_32 : decode cX2_repay 32 = .ok (.aload_n 0, 1) := by decide +kernel
theorem dX2_repay_33 : decode cX2_repay 33 = .ok (.iload_n 1, 1) := by decide +kernel
theorem dX2_repay_34 : decode cX2_repay 34 = .ok (.iload_n 2, 1) := by decide +kernel
theorem dX2_repay_35 : decode cX2_repay 35 = .ok (.invokevirtual 78, 3) := by decide +kernel
theorem dX2_repay_38 : decode cX2_repay 38 = .ok (.istore 4, 2) := by decide +kernel
theorem dX2_repay_40 : decode cX2_repay 40 = .ok (.aload_n 0, 1) := by decide +kernel
theorem dX2_repay_41 : decode cX2_repay 41 = .ok (.iload_n 1, 1) := by decide +kernel
theorem dX2_repay_42 : decode cX2_repay 42 = .ok (.aload_n 0, 1) := by decide +kernel
theorem dX2_repay_43 : decode cX2_repay 43 = .ok (.iload_n 1, 1) := by decide +kernel
theorem dX2_repay_44 : decode cX2_repay 44 = .ok (.invokevirtual 81, 3) := by decide +kernel
theorem dX2_repay_47 : decode cX2_repay 47 = .ok (.iload_n 3, 1) := by decide +kernel
theorem dX2_repay_48 : decode cX2_repay 48 = .ok (.isub, 1) := by decide +kernel
theorem dX2_repay_49 : decode cX2_repay 49 = .ok (.invokevirtual 84, 3) := by decide +kernel
theorem dX2_repay_52 : decode cX2_repay 52 = .ok (.aload_n 0, 1) := by decide +kernel
theorem dX2_repay_53 : decode cX2_repay 53 = .ok (.iload 4, 2) := by decide +kernel
theorem dX2_repay_55 : decode cX2_repay 55 = .ok (.aload_n 0, 1) := by decide +kernel
theorem dX2_repay_56 : decode cX2_repay 56 = .ok (.iload 4, 2) := by decide +kernel
theorem dX2_repay_58 : decode cX2_repay 58 = .ok (.invokevirtual 81, 3) := by decide +kernel
theorem dX2_repay_61 : decode cX2_repay 61 = .ok (.iload_n 3, 1) := by decide +kernel
theorem dX2_repay_62 : decode cX2_repay 62 = .ok (.iadd, 1) := by decide +kernel
theorem dX2_repay_63 : decode cX2_repay 63 = .ok (.invokevirtual 84, 3) := by decide +kernel
theorem dX2_repay_66 : decode cX2_repay 66 = .ok (.aload_n 0, 1) := by decide +kernel
theorem dX2_repay_67 : decode cX2_repay 67 = .ok (.iload_n 1, 1) := by decide +kernel
theorem dX2_repay_68 : decode cX2_repay 68 = .ok (.iload_n 2, 1) := by decide +kernel
theorem dX2_repay_69 : decode cX2_repay 69 = .ok (.invokevirtual 91, 3) := by decide +kernel
theorem dX2_repay_72 : decode cX2_repay 72 = .ok (.iconst 0, 1) := by decide +kernel
theorem dX2_repay_73 : decode cX2_repay 73 = .ok (.ireturn, 1) := by decide +kernel
set_option maxRecDepth 20000 in
theorem ggX2_drop_X2_hasDebt : GoodIn wsX2_drop wsX2_hasDebt := goodIn_r _ [9, 1, 10, 11, 12, 13, 14, 15, 16, 17, 18, 19, 20] (by decide +kernel) (by decide +kernel)
set_option maxRecDepth 20000 in
theorem gX2_drop_X2_hasDebt : GoodIn wsX2_drop (wsV RX2 62 RX2 yX2_hasDebt wsX2_hasDebt) := goodIn_app (goodIn_of _ (by decide +kernel)) ggX2_drop_X2_hasDebt
theorem dX2_drop_0 : decode cX2_drop 0 = .ok (.aload_n 0, 1) := by decide +kernel
theorem dX2_drop_1 : decode cX2_drop 1 = .ok (.iload_n 1, 1) := by decide +kernel
theorem dX2_drop_2 : decode cX2_drop 2 = .ok (.iload_n 2, 1) := by decide +kernel
theorem dX2_drop_3 : decode cX2_drop 3 = .ok (.invokevirtual 62, 3) := by decide +kernel
theorem dX2_drop_6 : decode cX2_drop 6 = .ok (.ifCond .ne 4, 3) := by decide +kernel
theorem dX2_drop_9 : decode cX2_drop 9 = .ok (.return_, 1) := by decide +kernel
theorem dX2_drop_10 : decode cX2_drop 10 = .ok (.iload_n 1, 1) := by decide +kernel
theorem dX2_drop_11 : decode cX2_drop 11 = .ok (.iconst 5, 1) := by decide +kernel
theorem dX2_drop_12 : decode cX2_drop 12 = .ok (.imul, 1) := by decide +kernel
theorem dX2_drop_13 : decode cX2_drop 13 = .ok (.istore_n 3, 1) := by decide +kernel
theorem dX2_drop_14 : decode cX2_drop 14 = .ok (.iload_n 2, 1) := by decide +kernel
theorem dX2_drop_15 : decode cX2_drop 15 = .ok (.istore 4, 2) := by decide +kernel
theorem dX2_drop_17 : decode cX2_drop 17 = .ok (.iload 4, 2) := by decide +kernel
theorem dX2_drop_19 : decode cX2_drop 19 = .ok (.iconst 1, 1) := by decide +kernel
theorem dX2_drop_20 : decode cX2_drop 20 = .ok (.iadd, 1) := by decide +kernel
theorem dX2_drop_21 : decode cX2_drop 21 = .ok (.aload_n 0, 1) := by decide +kernel
theorem dX2_drop_22 : decode cX2_drop 22 = .ok (.getfield 21, 3) := by decide +kernel
theorem dX2_drop_25 : decode cX2_drop 25 = .ok (.iload_n 1, 1) := by decide +kernel
theorem dX2_drop_26 : decode cX2_drop 26 = .ok (.iaload, 1) := by decide +kernel
theorem dX2_drop_27 : decode cX2_drop 27 = .ok (.if_icmp .ge 77, 3) := by decide +kernel
theorem dX2_drop_30 : decode cX2_drop 30 = .ok (.iload 4, 2) := by decide +kernel
theorem dX2_drop_32 : decode cX2_drop 32 = .ok (.iconst 1, 1) := by decide +kernel
theorem dX2_drop_33 : decode cX2_drop 33 = .ok (.iadd, 1) := by decide +kernel
theorem dX2_drop_34 : decode cX2_drop 34 = .ok (.iconst 5, 1) := by decide +kernel
theorem dX2_drop_35 : decode cX2_drop 35 = .ok (.if_icmp .ge 69, 3) := by decide +kernel
theorem dX2_drop_38 : decode cX2_drop 38 = .ok (.aload_n 0, 1) := by decide +kernel
theorem dX2_drop_39 : decode cX2_drop 39 = .ok (.getfield 24, 3) := by decide +kernel
theorem dX2_drop_42 : decode cX2_drop 42 = .ok (.iload_n 3, 1) := by decide +kernel
theorem dX2_drop_43 : decode cX2_drop 43 = .ok (.iload 4, 2) := by decide +kernel
theorem dX2_drop_45 : decode cX2_drop 45 = .ok (.iadd, 1) := by decide +kernel
theorem dX2_drop_46 : decode cX2_drop 46 = .ok (.aload_n 0, 1) := by decide +kernel
theorem dX2_drop_47 : decode cX2_drop 47 = .ok (.getfield 24, 3) := by decide +kernel
theorem dX2_drop_50 : decode cX2_drop 50 = .ok (.iload_n 3, 1) := by decide +kernel
theorem dX2_drop_51 : decode cX2_drop 51 = .ok (.iload 4, 2) := by decide +kernel
theorem dX2_drop_53 : decode cX2_drop 53 = .ok (.iadd, 1) := by decide +kernel
theorem dX2_drop_54 : decode cX2_drop 54 = .ok (.iconst 1, 1) := by decide +kernel
theorem dX2_drop_55 : decode cX2_drop 55 = .ok (.iadd, 1) := by decide +kernel
theorem dX2_drop_56 : decode cX2_drop 56 = .ok (.iaload, 1) := by decide +kernel
theorem dX2_drop_57 : decode cX2_drop 57 = .ok (.iastore, 1) := by decide +kernel
theorem dX2_drop_58 : decode cX2_drop 58 = .ok (.aload_n 0, 1) := by decide +kernel
theorem dX2_drop_59 : decode cX2_drop 59 = .ok (.getfield 27, 3) := by decide +kernel
theorem dX2_drop_62 : decode cX2_drop 62 = .ok (.iload_n 3, 1) := by decide +kernel
theorem dX2_drop_63 : decode cX2_drop 63 = .ok (.iload 4, 2) := by decide +kernel
theorem dX2_drop_65 : decode cX2_drop 65 = .ok (.iadd, 1) := by decide +kernel
theorem dX2_drop_66 : decode cX2_drop 66 = .ok (.aload_n 0, 1) := by decide +kernel
theorem dX2_drop_67 : decode cX2_drop 67 = .ok (.getfield 27, 3) := by decide +kernel
theorem dX2_drop_70 : decode cX2_drop 70 = .ok (.iload_n 3, 1) := by decide +kernel
theorem dX2_drop_71 : decode cX2_drop 71 = .ok (.iload 4, 2) := by decide +kernel
theorem dX2_drop_73 : decode cX2_drop 73 = .ok (.iadd, 1) := by decide +kernel
theorem dX2_drop_74 : decode cX2_drop 74 = .ok (.iconst 1, 1) := by decide +kernel
theorem dX2_drop_75 : decode cX2_drop 75 = .ok (.iadd, 1) := by decide +kernel
theorem dX2_drop_76 : decode cX2_drop 76 = .ok (.iaload, 1) := by decide +kernel
theorem dX2_drop_77 : decode cX2_drop 77 = .ok (.iastore, 1) := by decide +kernel
theorem dX2_drop_78 : decode cX2_drop 78 = .ok (.aload_n 0, 1) := by decide +kernel
theorem dX2_drop_79 : decode cX2_drop 79 = .ok (.getfield 30, 3) := by decide +kernel
theorem dX2_drop_82 : decode cX2_drop 82 = .ok (.iload_n 3, 1) := by decide +kernel
theorem dX2_drop_83 : decode cX2_drop 83 = .ok (.iload 4, 2) := by decide +kernel
theorem dX2_drop_85 : decode cX2_drop 85 = .ok (.iadd, 1) := by decide +kernel
theorem dX2_drop_86 : decode cX2_drop 86 = .ok (.aload_n 0, 1) := by decide +kernel
theorem dX2_drop_87 : decode cX2_drop 87 = .ok (.getfield 30, 3) := by decide +kernel
theorem dX2_drop_90 : decode cX2_drop 90 = .ok (.iload_n 3, 1) := by decide +kernel
theorem dX2_drop_91 : decode cX2_drop 91 = .ok (.iload 4, 2) := by decide +kernel
theorem dX2_drop_93 : decode cX2_drop 93 = .ok (.iadd, 1) := by decide +kernel
theorem dX2_drop_94 : decode cX2_drop 94 = .ok (.iconst 1, 1) := by decide +kernel
theorem dX2_drop_95 : decode cX2_drop 95 = .ok (.iadd, 1) := by decide +kernel
theorem dX2_drop_96 : decode cX2_drop 96 = .ok (.iaload, 1) := by decide +kernel
theorem dX2_drop_97 : decode cX2_drop 97 = .ok (.iastore, 1) := by decide +kernel
theorem dX2_drop_98 : decode cX2_drop 98 = .ok (.iinc 4 1, 3) := by decide +kernel
theorem dX2_drop_101 : decode cX2_drop 101 = .ok (.goto (-84), 3) := by decide +kernel
theorem dX2_drop_104 : decode cX2_drop 104 = .ok (.aload_n 0, 1) := by decide +kernel
theorem dX2_drop_105 : decode cX2_drop 105 = .ok (.getfield 21, 3) := by decide +kernel
theorem dX2_drop_108 : decode cX2_drop 108 = .ok (.iload_n 1, 1) := by decide +kernel
theorem dX2_drop_109 : decode cX2_drop 109 = .ok (.dup2, 1) := by decide +kernel
theorem dX2_drop_110 : decode cX2_drop 110 = .ok (.iaload, 1) := by decide +kernel
theorem dX2_drop_111 : decode cX2_drop 111 = .ok (.iconst 1, 1) := by decide +kernel
theorem dX2_drop_112 : decode cX2_drop 112 = .ok (.isub, 1) := by decide +kernel
theorem dX2_drop_113 : decode cX2_drop 113 = .ok (.iastore, 1) := by decide +kernel
theorem dX2_drop_114 : decode cX2_drop 114 = .ok (.return_, 1) := by decide +kernel
set_option maxRecDepth 20000 in
theorem ggX2_passDay_X3_grown : GoodIn wsX2_passDay wsX3_grown := goodIn_r _ [7, 8, 9, 10, 11] (by decide +kernel) (by decide +kernel)
set_option maxRecDepth 20000 in
theorem gX2_passDay_X3_grown_n94 : GoodIn wsX2_passDay (wsX3_grown) := ggX2_passDay_X3_grown
theorem dX2_passDay_0 : decode cX2_passDay 0 = .ok (.aload_n 0, 1) := by decide +kernel
theorem dX2_passDay_1 : decode cX2_passDay 1 = .ok (.dup, 1) := by decide +kernel
theorem dX2_passDay_2 : decode cX2_passDay 2 = .ok (.getfield 43, 3) := by decide +kernel
theorem dX2_passDay_5 : decode cX2_passDay 5 = .ok (.iconst 1, 1) := by decide +kernel
theorem dX2_passDay_6 : decode cX2_passDay 6 = .ok (.iadd, 1) := by decide +kernel
theorem dX2_passDay_7 : decode cX2_passDay 7 = .ok (.putfield 43, 3) := by decide +kernel
theorem dX2_passDay_10 : decode cX2_passDay 10 = .ok (.iconst 0, 1) := by decide +kernel
theorem dX2_passDay_11 : decode cX2_passDay 11 = .ok (.istore_n 1, 1) := by decide +kernel
theorem dX2_passDay_12 : decode cX2_passDay 12 = .ok (.iload_n 1, 1) := by decide +kernel
theorem dX2_passDay_13 : decode cX2_passDay 13 = .ok (.bipush 6, 2) := by decide +kernel
theorem dX2_passDay_15 : decode cX2_passDay 15 = .ok (.if_icmp .ge 59, 3) := by decide +kernel
theorem dX2_passDay_18 : decode cX2_passDay 18 = .ok (.iload_n 1, 1) := by decide +kernel
theorem dX2_passDay_19 : decode cX2_passDay 19 = .ok (.iconst 5, 1) := by decide +kernel
theorem dX2_passDay_20 : decode cX2_passDay 20 = .ok (.imul, 1) := by decide +kernel
theorem dX2_passDay_21 : decode cX2_passDay 21 = .ok (.istore_n 2, 1) := by decide +kernel
theorem dX2_passDay_22 : decode cX2_passDay 22 = .ok (.iconst 0, 1) := by decide +kernel
theorem dX2_passDay_23 : decode cX2_passDay 23 = .ok (.istore_n 3, 1) := by decide +kernel
theorem dX2_passDay_24 : decode cX2_passDay 24 = .ok (.iload_n 3, 1) := by decide +kernel
theorem dX2_passDay_25 : decode cX2_passDay 25 = .ok (.iconst 5, 1) := by decide +kernel
theorem dX2_passDay_26 : decode cX2_passDay 26 = .ok (.if_icmp .ge 42, 3) := by decide +kernel
theorem dX2_passDay_29 : decode cX2_passDay 29 = .ok (.iload_n 3, 1) := by decide +kernel
theorem dX2_passDay_30 : decode cX2_passDay 30 = .ok (.aload_n 0, 1) := by decide +kernel
theorem dX2_passDay_31 : decode cX2_passDay 31 = .ok (.getfield 21, 3) := by decide +kernel
theorem dX2_passDay_34 : decode cX2_passDay 34 = .ok (.iload_n 1, 1) := by decide +kernel
theorem dX2_passDay_35 : decode cX2_passDay 35 = .ok (.iaload, 1) := by decide +kernel
theorem dX2_passDay_36 : decode cX2_passDay 36 = .ok (.if_icmp .ge 32, 3) := by decide +kernel
theorem dX2_passDay_39 : decode cX2_passDay 39 = .ok (.aload_n 0, 1) := by decide +kernel
theorem dX2_passDay_40 : decode cX2_passDay 40 = .ok (.getfield 27, 3) := by decide +kernel
theorem dX2_passDay_43 : decode cX2_passDay 43 = .ok (.iload_n 2, 1) := by decide +kernel
theorem dX2_passDay_44 : decode cX2_passDay 44 = .ok (.iload_n 3, 1) := by decide +kernel
theorem dX2_passDay_45 : decode cX2_passDay 45 = .ok (.iadd, 1) := by decide +kernel
theorem dX2_passDay_46 : decode cX2_passDay 46 = .ok (.aload_n 0, 1) := by decide +kernel
theorem dX2_passDay_47 : decode cX2_passDay 47 = .ok (.getfield 27, 3) := by decide +kernel
theorem dX2_passDay_50 : decode cX2_passDay 50 = .ok (.iload_n 2, 1) := by decide +kernel
theorem dX2_passDay_51 : decode cX2_passDay 51 = .ok (.iload_n 3, 1) := by decide +kernel
theorem dX2_passDay_52 : decode cX2_passDay 52 = .ok (.iadd, 1) := by decide +kernel
theorem dX2_passDay_53 : decode cX2_passDay 53 = .ok (.iaload, 1) := by decide +kernel
theorem dX2_passDay_54 : decode cX2_passDay 54 = .ok (.aload_n 0, 1) := by decide +kernel
theorem dX2_passDay_55 : decode cX2_passDay 55 = .ok (.getfield 49, 3) := by decide +kernel
theorem dX2_passDay_58 : decode cX2_passDay 58 = .ok (.invokestatic 94, 3) := by decide +kernel
theorem dX2_passDay_61 : decode cX2_passDay 61 = .ok (.iastore, 1) := by decide +kernel
theorem dX2_passDay_62 : decode cX2_passDay 62 = .ok (.iinc 3 1, 3) := by decide +kernel
theorem dX2_passDay_65 : decode cX2_passDay 65 = .ok (.goto (-41), 3) := by decide +kernel
theorem dX2_passDay_68 : decode cX2_passDay 68 = .ok (.iinc 1 1, 3) := by decide +kernel
theorem dX2_passDay_71 : decode cX2_passDay 71 = .ok (.goto (-59), 3) := by decide +kernel
theorem dX2_passDay_74 : decode cX2_passDay 74 = .ok (.return_, 1) := by decide +kernel
set_option maxRecDepth 20000 in
theorem ggX2_ringOf_X3_isMan : GoodIn wsX2_ringOf wsX3_isMan := goodIn_r _ [3] (by decide +kernel) (by decide +kernel)
set_option maxRecDepth 20000 in
theorem gX2_ringOf_X3_isMan_n58 : GoodIn wsX2_ringOf (wsX3_isMan) := ggX2_ringOf_X3_isMan
set_option maxRecDepth 20000 in
theorem ggX2_ringOf_X2_dueOf : GoodIn wsX2_ringOf wsX2_dueOf := goodIn_r _ [8, 9, 10, 11, 7, 12, 13, 14, 15, 16, 17, 1, 2, 3, 18, 19, 20, 21, 22, 23, 29, 30, 31, 32, 33, 34, 35, 36, 37, 38, 39] (by decide +kernel) (by decide +kernel)
set_option maxRecDepth 20000 in
theorem gX2_ringOf_X2_dueOf : GoodIn wsX2_ringOf (wsV RX2 88 RX2 yX2_dueOf wsX2_dueOf) := goodIn_app (goodIn_of _ (by decide +kernel)) ggX2_ringOf_X2_dueOf
set_option maxRecDepth 20000 in
theorem ggX2_ringOf_X2_lenderOf : GoodIn wsX2_ringOf wsX2_lenderOf := goodIn_r _ [27, 28, 9, 10, 11, 7, 12, 13, 29, 30, 31, 32, 33, 34, 35, 36, 37, 38, 39] (by decide +kernel) (by decide +kernel)
set_option maxRecDepth 20000 in
theorem gX2_ringOf_X2_lenderOf : GoodIn wsX2_ringOf (wsV RX2 78 RX2 yX2_lenderOf wsX2_lenderOf) := goodIn_app (goodIn_of _ (by decide +kernel)) ggX2_ringOf_X2_lenderOf
theorem dX2_ringOf_0 : decode cX2_ringOf 0 = .ok (.iconst 0, 1) := by decide +kernel
theorem dX2_ringOf_1 : decode cX2_ringOf 1 = .ok (.istore_n 2, 1) := by decide +kernel
theorem dX2_ringOf_2 : decode cX2_ringOf 2 = .ok (.iload_n 1, 1) := by decide +kernel
theorem dX2_ringOf_3 : decode cX2_ringOf 3 = .ok (.istore_n 3, 1) := by decide +kernel
theorem dX2_ringOf_4 : decode cX2_ringOf 4 = .ok (.iconst 0, 1) := by decide +kernel
theorem dX2_ringOf_5 : decode cX2_ringOf 5 = .ok (.istore 4, 2) := by decide +kernel
theorem dX2_ringOf_7 : decode cX2_ringOf 7 = .ok (.iload 4, 2) := by decide +kernel
theorem dX2_ringOf_9 : decode cX2_ringOf 9 = .ok (.bipush 6, 2) := by decide +kernel
theorem dX2_ringOf_11 : decode cX2_ringOf 11 = .ok (.if_icmp .ge 40, 3) := by decide +kernel
theorem dX2_ringOf_14 : decode cX2_ringOf 14 = .ok (.iload_n 3, 1) := by decide +kernel
theorem dX2_ringOf_15 : decode cX2_ringOf 15 = .ok (.invokestatic 58, 3) := by decide +kernel
theorem dX2_ringOf_18 : decode cX2_ringOf 18 = .ok (.ifCond .eq 33, 3) := by decide +kernel
theorem dX2_ringOf_21 : decode cX2_ringOf 21 = .ok (.iload_n 2, 1) := by decide +kernel
theorem dX2_ringOf_22 : decode cX2_ringOf 22 = .ok (.iconst 1, 1) := by decide +kernel
theorem dX2_ringOf_23 : decode cX2_ringOf 23 = .ok (.iload_n 3, 1) := by decide +kernel
theorem dX2_ringOf_24 : decode cX2_ringOf 24 = .ok (.ishl, 1) := by decide +kernel
theorem dX2_ringOf_25 : decode cX2_ringOf 25 = .ok (.ior, 1) := by decide +kernel
theorem dX2_ringOf_26 : decode cX2_ringOf 26 = .ok (.istore_n 2, 1) := by decide +kernel
theorem dX2_ringOf_27 : decode cX2_ringOf 27 = .ok (.aload_n 0, 1) := by decide +kernel
theorem dX2_ringOf_28 : decode cX2_ringOf 28 = .ok (.iload_n 3, 1) := by decide +kernel
theorem dX2_ringOf_29 : decode cX2_ringOf 29 = .ok (.aload_n 0, 1) := by decide +kernel
theorem dX2_ringOf_30 : decode cX2_ringOf 30 = .ok (.iload_n 3, 1) := by decide +kernel
theorem dX2_ringOf_31 : decode cX2_ringOf 31 = .ok (.invokevirtual 88, 3) := by decide +kernel
theorem dX2_ringOf_34 : decode cX2_ringOf 34 = .ok (.invokevirtual 78, 3) := by decide +kernel
theorem dX2_ringOf_37 : decode cX2_ringOf 37 = .ok (.istore_n 3, 1) := by decide +kernel
theorem dX2_ringOf_38 : decode cX2_ringOf 38 = .ok (.iload_n 3, 1) := by decide +kernel
theorem dX2_ringOf_39 : decode cX2_ringOf 39 = .ok (.iload_n 1, 1) := by decide +kernel
theorem dX2_ringOf_40 : decode cX2_ringOf 40 = .ok (.if_icmp .ne 5, 3) := by decide +kernel
theorem dX2_ringOf_43 : decode cX2_ringOf 43 = .ok (.iload_n 2, 1) := by decide +kernel
theorem dX2_ringOf_44 : decode cX2_ringOf 44 = .ok (.ireturn, 1) := by decide +kernel
theorem dX2_ringOf_45 : decode cX2_ringOf 45 = .ok (.iinc 4 1, 3) := by decide +kernel
theorem dX2_ringOf_48 : decode cX2_ringOf 48 = .ok (.goto (-41), 3) := by decide +kernel
theorem dX2_ringOf_51 : decode cX2_ringOf 51 = .ok (.bipush (-6), 2) := by decide +kernel
theorem dX2_ringOf_53 : decode cX2_ringOf 53 = .ok (.ireturn, 1) := by decide +kernel
set_option maxRecDepth 20000 in
theorem ggX2_setOffDues_X2_dueOf : GoodIn wsX2_setOffDues wsX2_dueOf := goodIn_r _ [9, 10, 11, 12, 8, 13, 14, 15, 16, 17, 18, 19, 20, 21, 22, 23, 24, 25, 26, 27, 42, 43, 44, 45, 46, 47, 48, 49, 50, 51, 52] (by decide +kernel) (by decide +kernel)
set_option maxRecDepth 20000 in
theorem gX2_setOffDues_X2_dueOf : GoodIn wsX2_setOffDues (wsV RX2 88 RX2 yX2_dueOf wsX2_dueOf) := goodIn_app (goodIn_of _ (by decide +kernel)) ggX2_setOffDues_X2_dueOf
set_option maxRecDepth 20000 in
theorem ggX2_setOffDues_X2_penceOf : GoodIn wsX2_setOffDues wsX2_penceOf := goodIn_r _ [31, 27, 10, 11, 12, 8, 13, 14, 42, 43, 44, 45, 46, 47, 48, 49, 50, 51, 52] (by decide +kernel) (by decide +kernel)
set_option maxRecDepth 20000 in
theorem gX2_setOffDues_X2_penceOf : GoodIn wsX2_setOffDues (wsV RX2 74 RX2 yX2_penceOf wsX2_penceOf) := goodIn_app (goodIn_of _ (by decide +kernel)) ggX2_setOffDues_X2_penceOf
set_option maxRecDepth 20000 in
theorem ggX2_setOffDues_X2_lower : GoodIn wsX2_setOffDues wsX2_lower := goodIn_r _ [35, 27, 10, 11, 12, 8, 13, 14, 28, 29, 30, 31, 36, 37, 38, 39, 40, 41, 42, 43, 44, 45, 46, 47, 48, 49, 50, 51, 52] (by decide +kernel) (by decide +kernel)
set_option maxRecDepth 20000 in
theorem gX2_setOffDues_X2_lower : GoodIn wsX2_setOffDues (wsV RX2 102 RX2 yX2_lower wsX2_lower) := goodIn_app (goodIn_of _ (by decide +kernel)) ggX2_setOffDues_X2_lower
theorem dX2_setOffDues_0 : decode cX2_setOffDues 0 = .ok (.sipush 9999, 3) := by decide +kernel
theorem dX2_setOffDues_3 : decode cX2_setOffDues 3 = .ok (.istore_n 2, 1) := by decide +kernel
theorem dX2_setOffDues_4 : decode cX2_setOffDues 4 = .ok (.iconst 0, 1) := by decide +kernel
theorem dX2_setOffDues_5 : decode cX2_setOffDues 5 = .ok (.istore_n 3, 1) := by decide +kernel
theorem dX2_setOffDues_6 : decode cX2_setOffDues 6 = .ok (.iload_n 3, 1) := by decide +kernel
theorem dX2_setOffDues_7 : decode cX2_setOffDues 7 = .ok (.bipush 6, 2) := by decide +kernel
theorem dX2_setOffDues_9 : decode cX2_setOffDues 9 = .ok (.if_icmp .ge 32, 3) := by decide +kernel
theorem dX2_setOffDues_12 : decode cX2_setOffDues 12 = .ok (.iload_n 1, 1) := by decide +kernel
theorem dX2_setOffDues_13 : decode cX2_setOffDues 13 = .ok (.iconst 1, 1) := by decide +kernel
theorem dX2_setOffDues_14 : decode cX2_setOffDues 14 = .ok (.iload_n 3, 1) := by decide +kernel
theorem dX2_setOffDues_15 : decode cX2_setOffDues 15 = .ok (.ishl, 1) := by decide +kernel
theorem dX2_setOffDues_16 : decode cX2_setOffDues 16 = .ok (.iand, 1) := by decide +kernel
theorem dX2_setOffDues_17 : decode cX2_setOffDues 17 = .ok (.ifCond .eq 18, 3) := by decide +kernel
theorem dX2_setOffDues_20 : decode cX2_setOffDues 20 = .ok (.iload_n 2, 1) := by decide +kernel
theorem dX2_setOffDues_21 : decode cX2_setOffDues 21 = .ok (.aload_n 0, 1) := by decide +kernel
theorem dX2_setOffDues_22 : decode cX2_setOffDues 22 = .ok (.iload_n 3, 1) := by decide +kernel
theorem dX2_setOffDues_23 : decode cX2_setOffDues 23 = .ok (.aload_n 0, 1) := by decide +kernel
theorem dX2_setOffDues_24 : decode cX2_setOffDues 24 = .ok (.iload_n 3, 1) := by decide +kernel
theorem dX2_setOffDues_25 : decode cX2_setOffDues 25 = .ok (.invokevirtual 88, 3) := by decide +kernel
theorem dX2_setOffDues_28 : decode cX2_setOffDues 28 = .ok (.invokevirtual 74, 3) := by decide +kernel
theorem dX2_setOffDues_31 : decode cX2_setOffDues 31 = .ok (.invokestatic 97, 3) := by decide +kernel
theorem dX2_setOffDues_34 : decode cX2_setOffDues 34 = .ok (.istore_n 2, 1) := by decide +kernel
theorem dX2_setOffDues_35 : decode cX2_setOffDues 35 = .ok (.iinc 3 1, 3) := by decide +kernel
theorem dX2_setOffDues_38 : decode cX2_setOffDues 38 = .ok (.goto (-32), 3) := by decide +kernel
theorem dX2_setOffDues_41 : decode cX2_setOffDues 41 = .ok (.iconst 0, 1) := by decide +kernel
theorem dX2_setOffDues_42 : decode cX2_setOffDues 42 = .ok (.istore_n 3, 1) := by decide +kernel
theorem dX2_setOffDues_43 : decode cX2_setOffDues 43 = .ok (.iload_n 3, 1) := by decide +kernel
theorem dX2_setOffDues_44 : decode cX2_setOffDues 44 = .ok (.bipush 6, 2) := by decide +kernel
theorem dX2_setOffDues_46 : decode cX2_setOffDues 46 = .ok (.if_icmp .ge 28, 3) := by decide +kernel
theorem dX2_setOffDues_49 : decode cX2_setOffDues 49 = .ok (.iload_n 1, 1) := by decide +kernel
theorem dX2_setOffDues_50 : decode cX2_setOffDues 50 = .ok (.iconst 1, 1) := by decide +kernel
theorem dX2_setOffDues_51 : decode cX2_setOffDues 51 = .ok (.iload_n 3, 1) := by decide +kernel
theorem dX2_setOffDues_52 : decode cX2_setOffDues 52 = .ok (.ishl, 1) := by decide +kernel
theorem dX2_setOffDues_53 : decode cX2_setOffDues 53 = .ok (.iand, 1) := by decide +kernel
theorem dX2_setOffDues_54 : decode cX2_setOffDues 54 = .ok (.ifCond .eq 14, 3) := by decide +kernel
theorem dX2_setOffDues_57 : decode cX2_setOffDues 57 = .ok (.aload_n 0, 1) := by decide +kernel
theorem dX2_setOffDues_58 : decode cX2_setOffDues 58 = .ok (.iload_n 3, 1) := by decide +kernel
theorem dX2_setOffDues_59 : decode cX2_setOffDues 59 = .ok (.aload_n 0, 1) := by decide +kernel
theorem dX2_setOffDues_60 : decode cX2_setOffDues 60 = .ok (.iload_n 3, 1) := by decide +kernel
theorem dX2_setOffDues_61 : decode cX2_setOffDues 61 = .ok (.invokevirtual 88, 3) := by decide +kernel
theorem dX2_setOffDues_64 : decode cX2_setOffDues 64 = .ok (.iload_n 2, 1) := by decide +kernel
theorem dX2_setOffDues_65 : decode cX2_setOffDues 65 = .ok (.invokevirtual 102, 3) := by decide +kernel
theorem dX2_setOffDues_68 : decode cX2_setOffDues 68 = .ok (.iinc 3 1, 3) := by decide +kernel
theorem dX2_setOffDues_71 : decode cX2_setOffDues 71 = .ok (.goto (-28), 3) := by decide +kernel
theorem dX2_setOffDues_74 : decode cX2_setOffDues 74 = .ok (.iload_n 2, 1) := by decide +kernel
theorem dX2_setOffDues_75 : decode cX2_setOffDues 75 = .ok (.ireturn, 1) := by decide +kernel
set_option maxRecDepth 20000 in
theorem ggX2_lower_X2_hasDebt : GoodIn wsX2_lower wsX2_hasDebt := goodIn_r _ [6, 7, 18, 19, 20, 21, 22, 23, 24, 25, 26, 27, 28] (by decide +kernel) (by decide +kernel)
set_option maxRecDepth 20000 in
theorem gX2_lower_X2_hasDebt : GoodIn wsX2_lower (wsV RX2 62 RX2 yX2_hasDebt wsX2_hasDebt) := goodIn_app (goodIn_of _ (by decide +kernel)) ggX2_lower_X2_hasDebt
set_option maxRecDepth 20000 in
theorem ggX2_lower_X2_penceOf : GoodIn wsX2_lower wsX2_penceOf := goodIn_r _ [11, 1, 2, 3, 4, 5, 6, 7, 18, 19, 20, 21, 22, 23, 24, 25, 26, 27, 28] (by decide +kernel) (by decide +kernel)
set_option maxRecDepth 20000 in
theorem gX2_lower_X2_penceOf : GoodIn wsX2_lower (wsV RX2 74 RX2 yX2_penceOf wsX2_penceOf) := goodIn_app (goodIn_of _ (by decide +kernel)) ggX2_lower_X2_penceOf
set_option maxRecDepth 20000 in
theorem ggX2_lower_X2_drop : GoodIn wsX2_lower wsX2_drop := goodIn_r _ [15, 7, 16, 1, 17, 2, 3, 4, 5, 6, 18, 19, 20, 21, 22, 23, 24, 25, 26, 27, 28] (by decide +kernel) (by decide +kernel)
set_option maxRecDepth 20000 in
theorem gX2_lower_X2_drop : GoodIn wsX2_lower (wsV RX2 91 RX2 yX2_drop wsX2_drop) := goodIn_app (goodIn_of _ (by decide +kernel)) ggX2_lower_X2_drop
theorem dX2_lower_0 : decode cX2_lower 0 = .ok (.aload_n 0, 1) := by decide +kernel
theorem dX2_lower_1 : decode cX2_lower 1 = .ok (.iload_n 1, 1) := by decide +kernel
theorem dX2_lower_2 : decode cX2_lower 2 = .ok (.iload_n 2, 1) := by decide +kernel
theorem dX2_lower_3 : decode cX2_lower 3 = .ok (.invokevirtual 62, 3) := by decide +kernel
theorem dX2_lower_6 : decode cX2_lower 6 = .ok (.ifCond .ne 4, 3) := by decide +kernel
theorem dX2_lower_9 : decode cX2_lower 9 = .ok (.return_, 1) := by decide +kernel
theorem dX2_lower_10 : decode cX2_lower 10 = .ok (.aload_n 0, 1) := by decide +kernel
theorem dX2_lower_11 : decode cX2_lower 11 = .ok (.iload_n 1, 1) := by decide +kernel
theorem dX2_lower_12 : decode cX2_lower 12 = .ok (.iload_n 2, 1) := by decide +kernel
theorem dX2_lower_13 : decode cX2_lower 13 = .ok (.invokevirtual 74, 3) := by decide +kernel
theorem dX2_lower_16 : decode cX2_lower 16 = .ok (.iload_n 3, 1) := by decide +kernel
theorem dX2_lower_17 : decode cX2_lower 17 = .ok (.isub, 1) := by decide +kernel
theorem dX2_lower_18 : decode cX2_lower 18 = .ok (.istore 4, 2) := by decide +kernel
theorem dX2_lower_20 : decode cX2_lower 20 = .ok (.iload 4, 2) := by decide +kernel
theorem dX2_lower_22 : decode cX2_lower 22 = .ok (.ifCond .le 18, 3) := by decide +kernel
theorem dX2_lower_25 : decode cX2_lower 25 = .ok (.aload_n 0, 1) := by decide +kernel
theorem dX2_lower_26 : decode cX2_lower 26 = .ok (.getfield 27, 3) := by decide +kernel
theorem dX2_lower_29 : decode cX2_lower 29 = .ok (.iload_n 1, 1) := by decide +kernel
theorem dX2_lower_30 : decode cX2_lower 30 = .ok (.iconst 5, 1) := by decide +kernel
theorem dX2_lower_31 : decode cX2_lower 31 = .ok (.imul, 1) := by decide +kernel
theorem dX2_lower_32 : decode cX2_lower 32 = .ok (.iload_n 2, 1) := by decide +kernel
theorem dX2_lower_33 : decode cX2_lower 33 = .ok (.iadd, 1) := by decide +kernel
theorem dX2_lower_34 : decode cX2_lower 34 = .ok (.iload 4, 2) := by decide +kernel
theorem dX2_lower_36 : decode cX2_lower 36 = .ok (.iastore, 1) := by decide +kernel
theorem dX2_lower_37 : decode cX2_lower 37 = .ok (.goto 9, 3) := by decide +kernel
theorem dX2_lower_40 : decode cX2_lower 40 = .ok (.aload_n 0, 1) := by decide +kernel
theorem dX2_lower_41 : decode cX2_lower 41 = .ok (.iload_n 1, 1) := by decide +kernel
theorem dX2_lower_42 : decode cX2_lower 42 = .ok (.iload_n 2, 1) := by decide +kernel
theorem dX2_lower_43 : decode cX2_lower 43 = .ok (.invokevirtual 91, 3) := by decide +kernel
theorem dX2_lower_46 : decode cX2_lower 46 = .ok (.return_, 1) := by decide +kernel
theorem dX2_addSight_0 : decode cX2_addSight 0 = .ok (.aload_n 0, 1) := by decide +kernel
theorem dX2_addSight_1 : decode cX2_addSight 1 = .ok (.getfield 39, 3) := by decide +kernel
theorem dX2_addSight_4 : decode cX2_addSight 4 = .ok (.ifCond .lt 12, 3) := by decide +kernel
theorem dX2_addSight_7 : decode cX2_addSight 7 = .ok (.aload_n 0, 1) := by decide +kernel
theorem dX2_addSight_8 : decode cX2_addSight 8 = .ok (.getfield 39, 3) := by decide +kernel
theorem dX2_addSight_11 : decode cX2_addSight 11 = .ok (.bipush 6, 2) := by decide +kernel
theorem dX2_addSight_13 : decode cX2_addSight 13 = .ok (.if_icmp .lt 5, 3) := by decide +kernel
theorem dX2_addSight_16 : decode cX2_addSight 16 = .ok (.iconst 0, 1) := by decide +kernel
theorem dX2_addSight_17 : decode cX2_addSight 17 = .ok (.ireturn, 1) := by decide +kernel
theorem dX2_addSight_18 : decode cX2_addSight 18 = .ok (.aload_n 0, 1) := by decide +kernel
theorem dX2_addSight_19 : decode cX2_addSight 19 = .ok (.getfield 33, 3) := by decide +kernel
theorem dX2_addSight_22 : decode cX2_addSight 22 = .ok (.aload_n 0, 1) := by decide +kernel
theorem dX2_addSight_23 : decode cX2_addSight 23 = .ok (.getfield 39, 3) := by decide +kernel
theorem dX2_addSight_26 : decode cX2_addSight 26 = .ok (.iload_n 1, 1) := by decide +kernel
theorem dX2_addSight_27 : decode cX2_addSight 27 = .ok (.iastore, 1) := by decide +kernel
theorem dX2_addSight_28 : decode cX2_addSight 28 = .ok (.aload_n 0, 1) := by decide +kernel
theorem dX2_addSight_29 : decode cX2_addSight 29 = .ok (.getfield 36, 3) := by decide +kernel
theorem dX2_addSight_32 : decode cX2_addSight 32 = .ok (.aload_n 0, 1) := by decide +kernel
theorem dX2_addSight_33 : decode cX2_addSight 33 = .ok (.getfield 39, 3) := by decide +kernel
theorem dX2_addSight_36 : decode cX2_addSight 36 = .ok (.iload_n 2, 1) := by decide +kernel
theorem dX2_addSight_37 : decode cX2_addSight 37 = .ok (.iastore, 1) := by decide +kernel
theorem dX2_addSight_38 : decode cX2_addSight 38 = .ok (.aload_n 0, 1) := by decide +kernel
theorem dX2_addSight_39 : decode cX2_addSight 39 = .ok (.dup, 1) := by decide +kernel
theorem dX2_addSight_40 : decode cX2_addSight 40 = .ok (.getfield 39, 3) := by decide +kernel
theorem dX2_addSight_43 : decode cX2_addSight 43 = .ok (.iconst 1, 1) := by decide +kernel
theorem dX2_addSight_44 : decode cX2_addSight 44 = .ok (.iadd, 1) := by decide +kernel
theorem dX2_addSight_45 : decode cX2_addSight 45 = .ok (.putfield 39, 3) := by decide +kernel
theorem dX2_addSight_48 : decode cX2_addSight 48 = .ok (.iconst 1, 1) := by decide +kernel
theorem dX2_addSight_49 : decode cX2_addSight 49 = .ok (.ireturn, 1) := by decide +kernel
set_option maxRecDepth 20000 in
theorem ggX2_sightsHold_X2_purseOf : GoodIn wsX2_sightsHold wsX2_purseOf := goodIn_r _ [8, 9, 10, 11, 12, 13, 14, 15, 16, 17, 18, 19, 20, 21, 22, 23] (by decide +kernel) (by decide +kernel)
set_option maxRecDepth 20000 in
theorem gX2_sightsHold_X2_purseOf : GoodIn wsX2_sightsHold (wsV RX2 81 RX2 yX2_purseOf wsX2_purseOf) := goodIn_app (goodIn_of _ (by decide +kernel)) ggX2_sightsHold_X2_purseOf
theorem dX2_sightsHold_0 : decode cX2_sightsHold 0 = .ok (.iconst 0, 1) := by decide +kernel
theorem dX2_sightsHold_1 : decode cX2_sightsHold 1 = .ok (.istore_n 1, 1) := by decide +kernel
theorem dX2_sightsHold_2 : decode cX2_sightsHold 2 = .ok (.iload_n 1, 1) := by decide +kernel
theorem dX2_sightsHold_3 : decode cX2_sightsHold 3 = .ok (.aload_n 0, 1) := by decide +kernel
theorem dX2_sightsHold_4 : decode cX2_sightsHold 4 = .ok (.getfield 39, 3) := by decide +kernel
theorem dX2_sightsHold_7 : decode cX2_sightsHold 7 = .ok (.if_icmp .ge 36, 3) := by decide +kernel
theorem dX2_sightsHold_10 : decode cX2_sightsHold 10 = .ok (.iload_n 1, 1) := by decide +kernel
theorem dX2_sightsHold_11 : decode cX2_sightsHold 11 = .ok (.bipush 6, 2) := by decide +kernel
theorem dX2_sightsHold_13 : decode cX2_sightsHold 13 = .ok (.if_icmp .ge 30, 3) := by decide +kernel
theorem dX2_sightsHold_16 : decode cX2_sightsHold 16 = .ok (.aload_n 0, 1) := by decide +kernel
theorem dX2_sightsHold_17 : decode cX2_sightsHold 17 = .ok (.aload_n 0, 1) := by decide +kernel
theorem dX2_sightsHold_18 : decode cX2_sightsHold 18 = .ok (.getfield 33, 3) := by decide +kernel
theorem dX2_sightsHold_21 : decode cX2_sightsHold 21 = .ok (.iload_n 1, 1) := by decide +kernel
theorem dX2_sightsHold_22 : decode cX2_sightsHold 22 = .ok (.iaload, 1) := by decide +kernel
theorem dX2_sightsHold_23 : decode cX2_sightsHold 23 = .ok (.invokevirtual 81, 3) := by decide +kernel
theorem dX2_sightsHold_26 : decode cX2_sightsHold 26 = .ok (.aload_n 0, 1) := by decide +kernel
theorem dX2_sightsHold_27 : decode cX2_sightsHold 27 = .ok (.getfield 36, 3) := by decide +kernel
theorem dX2_sightsHold_30 : decode cX2_sightsHold 30 = .ok (.iload_n 1, 1) := by decide +kernel
theorem dX2_sightsHold_31 : decode cX2_sightsHold 31 = .ok (.iaload, 1) := by decide +kernel
theorem dX2_sightsHold_32 : decode cX2_sightsHold 32 = .ok (.if_icmp .eq 5, 3) := by decide +kernel
theorem dX2_sightsHold_35 : decode cX2_sightsHold 35 = .ok (.iconst 0, 1) := by decide +kernel
theorem dX2_sightsHold_36 : decode cX2_sightsHold 36 = .ok (.ireturn, 1) := by decide +kernel
theorem dX2_sightsHold_37 : decode cX2_sightsHold 37 = .ok (.iinc 1 1, 3) := by decide +kernel
theorem dX2_sightsHold_40 : decode cX2_sightsHold 40 = .ok (.goto (-38), 3) := by decide +kernel
theorem dX2_sightsHold_43 : decode cX2_sightsHold 43 = .ok (.iconst 1, 1) := by decide +kernel
theorem dX2_sightsHold_44 : decode cX2_sightsHold 44 = .ok (.ireturn, 1) := by decide +kernel
