theorem dX1_init_0 : decode cX1_init 0 = .ok (.aload_n 0, 1) := by decide +kernel
theorem dX1_init_1 : decode cX1_init 1 = .ok (.invokespecial 5, 3) := by decide +kernel
theorem dX1_init_4 : decode cX1_init 4 = .ok (.aload_n 0, 1) := by decide +kernel
theorem dX1_init_5 : decode cX1_init 5 = .ok (.bipush 6, 2) := by decide +kernel
theorem dX1_init_7 : decode cX1_init 7 = .ok (.newarray .int, 2) := by decide +kernel
theorem dX1_init_9 : decode cX1_init 9 = .ok (.putfield 11, 3) := by decide +kernel
theorem dX1_init_12 : decode cX1_init 12 = .ok (.aload_n 0, 1) := by decide +kernel
theorem dX1_init_13 : decode cX1_init 13 = .ok (.bipush 6, 2) := by decide +kernel
theorem dX1_init_15 : decode cX1_init 15 = .ok (.newarray .int, 2) := by decide +kernel
theorem dX1_init_17 : decode cX1_init 17 = .ok (.putfield 15, 3) := by decide +kernel
theorem dX1_init_20 : decode cX1_init 20 = .ok (.aload_n 0, 1) := by decide +kernel
theorem dX1_init_21 : decode cX1_init 21 = .ok (.bipush 6, 2) := by decide +kernel
theorem dX1_init_23 : decode cX1_init 23 = .ok (.newarray .int, 2) := by decide +kernel
theorem dX1_init_25 : decode cX1_init 25 = .ok (.putfield 18, 3) := by decide +kernel
theorem dX1_init_28 : decode cX1_init 28 = .ok (.aload_n 0, 1) := by decide +kernel
theorem dX1_init_29 : decode cX1_init 29 = .ok (.bipush 30, 2) := by decide +kernel
theorem dX1_init_31 : decode cX1_init 31 = .ok (.newarray .int, 2) := by decide +kernel
theorem dX1_init_33 : decode cX1_init 33 = .ok (.putfield 21, 3) := by decide +kernel
theorem dX1_init_36 : decode cX1_init 36 = .ok (.aload_n 0, 1) := by decide +kernel
theorem dX1_init_37 : decode cX1_init 37 = .ok (.bipush 30, 2) := by decide +kernel
theorem dX1_init_39 : decode cX1_init 39 = .ok (.newarray .int, 2) := by decide +kernel
theorem dX1_init_41 : decode cX1_init 41 = .ok (.putfield 24, 3) := by decide +kernel
theorem dX1_init_44 : decode cX1_init 44 = .ok (.aload_n 0, 1) := by decide +kernel
theorem dX1_init_45 : decode cX1_init 45 = .ok (.bipush 6, 2) := by decide +kernel
theorem dX1_init_47 : decode cX1_init 47 = .ok (.newarray .int, 2) := by decide +kernel
theorem dX1_init_49 : decode cX1_init 49 = .ok (.putfield 27, 3) := by decide +kernel
theorem dX1_init_52 : decode cX1_init 52 = .ok (.aload_n 0, 1) := by decide +kernel
theorem dX1_init_53 : decode cX1_init 53 = .ok (.bipush 6, 2) := by decide +kernel
theorem dX1_init_55 : decode cX1_init 55 = .ok (.newarray .int, 2) := by decide +kernel
theorem dX1_init_57 : decode cX1_init 57 = .ok (.putfield 30, 3) := by decide +kernel
theorem dX1_init_60 : decode cX1_init 60 = .ok (.aload_n 0, 1) := by decide +kernel
theorem dX1_init_61 : decode cX1_init 61 = .ok (.bipush 6, 2) := by decide +kernel
theorem dX1_init_63 : decode cX1_init 63 = .ok (.newarray .int, 2) := by decide +kernel
theorem dX1_init_65 : decode cX1_init 65 = .ok (.putfield 33, 3) := by decide +kernel
theorem dX1_init_68 : decode cX1_init 68 = .ok (.aload_n 0, 1) := by decide +kernel
theorem dX1_init_69 : decode cX1_init 69 = .ok (.bipush 122, 2) := by decide +kernel
theorem dX1_init_71 : decode cX1_init 71 = .ok (.newarray .long, 2) := by decide +kernel
theorem dX1_init_73 : decode cX1_init 73 = .ok (.putfield 36, 3) := by decide +kernel
theorem dX1_init_76 : decode cX1_init 76 = .ok (.aload_n 0, 1) := by decide +kernel
theorem dX1_init_77 : decode cX1_init 77 = .ok (.iconst 0, 1) := by decide +kernel
theorem dX1_init_78 : decode cX1_init 78 = .ok (.putfield 40, 3) := by decide +kernel
theorem dX1_init_81 : decode cX1_init 81 = .ok (.return_, 1) := by decide +kernel
set_option maxRecDepth 20000 in
theorem ggX1_load_X2_purseOf : GoodIn wsX1_load wsX2_purseOf := goodIn_r _ [11, 12, 13, 14, 15, 57, 58, 59, 60, 61, 62, 63, 64, 65, 66, 67] (by decide +kernel) (by decide +kernel)
set_option maxRecDepth 20000 in
theorem gX1_load_X2_purseOf : GoodIn wsX1_load (wsV RX1 44 RX2 yX2_purseOf wsX2_purseOf) := goodIn_app (goodIn_of _ (by decide +kernel)) ggX1_load_X2_purseOf
set_option maxRecDepth 20000 in
theorem ggX1_load_X2_debtsOf : GoodIn wsX1_load wsX2_debtsOf := goodIn_r _ [19, 20, 13, 14, 15, 57, 58, 59, 60, 61, 62, 63, 64, 65, 66, 67] (by decide +kernel) (by decide +kernel)
set_option maxRecDepth 20000 in
theorem gX1_load_X2_debtsOf : GoodIn wsX1_load (wsV RX1 50 RX2 yX2_debtsOf wsX2_debtsOf) := goodIn_app (goodIn_of _ (by decide +kernel)) ggX1_load_X2_debtsOf
set_option maxRecDepth 20000 in
theorem ggX1_load_X2_turnOf : GoodIn wsX1_load wsX2_turnOf := goodIn_r _ [24, 25, 17, 18, 10, 19, 20, 13, 14, 15, 26, 27, 28, 29, 30, 31, 32, 33, 34, 35, 57, 58, 59, 60, 61, 62, 63, 64, 65, 66, 67] (by decide +kernel) (by decide +kernel)
set_option maxRecDepth 20000 in
theorem gX1_load_X2_turnOf : GoodIn wsX1_load (wsV RX1 53 RX2 yX2_turnOf wsX2_turnOf) := goodIn_app (goodIn_of _ (by decide +kernel)) ggX1_load_X2_turnOf
set_option maxRecDepth 20000 in
theorem ggX1_load_X3_isWithin : GoodIn wsX1_load wsX3_isWithin := goodIn_r _ [37] (by decide +kernel) (by decide +kernel)
set_option maxRecDepth 20000 in
theorem gX1_load_X3_isWithin_n57 : GoodIn wsX1_load (wsX3_isWithin) := ggX1_load_X3_isWithin
set_option maxRecDepth 20000 in
theorem ggX1_load_X2_lenderOf : GoodIn wsX1_load wsX2_lenderOf := goodIn_r _ [41, 42, 32, 33, 34, 10, 35, 20, 57, 58, 59, 60, 61, 62, 63, 64, 65, 66, 67] (by decide +kernel) (by decide +kernel)
set_option maxRecDepth 20000 in
theorem gX1_load_X2_lenderOf : GoodIn wsX1_load (wsV RX1 61 RX2 yX2_lenderOf wsX2_lenderOf) := goodIn_app (goodIn_of _ (by decide +kernel)) ggX1_load_X2_lenderOf
set_option maxRecDepth 20000 in
theorem ggX1_load_X2_penceOf : GoodIn wsX1_load wsX2_penceOf := goodIn_r _ [46, 31, 32, 33, 34, 10, 35, 20, 57, 58, 59, 60, 61, 62, 63, 64, 65, 66, 67] (by decide +kernel) (by decide +kernel)
set_option maxRecDepth 20000 in
theorem gX1_load_X2_penceOf : GoodIn wsX1_load (wsV RX1 64 RX2 yX2_penceOf wsX2_penceOf) := goodIn_app (goodIn_of _ (by decide +kernel)) ggX1_load_X2_penceOf
theorem dX1_load_0 : decode cX1_load 0 = .ok (.iconst 0, 1) := by decide +kernel
theorem dX1_load_1 : decode cX1_load 1 = .ok (.istore_n 2, 1) := by decide +kernel
theorem dX1_load_2 : decode cX1_load 2 = .ok (.iload_n 2, 1) := by decide +kernel
theorem dX1_load_3 : decode cX1_load 3 = .ok (.bipush 6, 2) := by decide +kernel
theorem dX1_load_5 : decode cX1_load 5 = .ok (.if_icmp .ge 127, 3) := by decide +kernel
theorem dX1_load_8 : decode cX1_load 8 = .ok (.aload_n 0, 1) := by decide +kernel
theorem dX1_load_9 : decode cX1_load 9 = .ok (.getfield 11, 3) := by decide +kernel
theorem dX1_load_12 : decode cX1_load 12 = .ok (.iload_n 2, 1) := by decide +kernel
theorem dX1_load_13 : decode cX1_load 13 = .ok (.aload_n 1, 1) := by decide +kernel
theorem dX1_load_14 : decode cX1_load 14 = .ok (.iload_n 2, 1) := by decide +kernel
theorem dX1_load_15 : decode cX1_load 15 = .ok (.invokevirtual 44, 3) := by decide +kernel
theorem dX1_load_18 : decode cX1_load 18 = .ok (.iastore, 1) := by decide +kernel
theorem dX1_load_19 : decode cX1_load 19 = .ok (.aload_n 0, 1) := by decide +kernel
theorem dX1_load_20 : decode cX1_load 20 = .ok (.getfield 15, 3) := by decide +kernel
theorem dX1_load_23 : decode cX1_load 23 = .ok (.iload_n 2, 1) := by decide +kernel
theorem dX1_load_24 : decode cX1_load 24 = .ok (.aload_n 0, 1) := by decide +kernel
theorem dX1_load_25 : decode cX1_load 25 = .ok (.getfield 11, 3) := by decide +kernel
theorem dX1_load_28 : decode cX1_load 28 = .ok (.iload_n 2, 1) := by decide +kernel
theorem dX1_load_29 : decode cX1_load 29 = .ok (.iaload, 1) := by decide +kernel
theorem dX1_load_30 : decode cX1_load 30 = .ok (.iastore, 1) := by decide +kernel
theorem dX1_load_31 : decode cX1_load 31 = .ok (.aload_n 0, 1) := by decide +kernel
theorem dX1_load_32 : decode cX1_load 32 = .ok (.getfield 18, 3) := by decide +kernel
theorem dX1_load_35 : decode cX1_load 35 = .ok (.iload_n 2, 1) := by decide +kernel
theorem dX1_load_36 : decode cX1_load 36 = .ok (.aload_n 1, 1) := by decide +kernel
theorem dX1_load_37 : decode cX1_load 37 = .ok (.iload_n 2, 1) := by decide +kernel
theorem dX1_load_38 : decode cX1_load 38 = .ok (.invokevirtual 50, 3) := by decide +kernel
theorem dX1_load_41 : decode cX1_load 41 = .ok (.iastore, 1) := by decide +kernel
theorem dX1_load_42 : decode cX1_load 42 = .ok (.aload_n 0, 1) := by decide +kernel
theorem dX1_load_43 : decode cX1_load 43 = .ok (.getfield 27, 3) := by decide +kernel
theorem dX1_load_46 : decode cX1_load 46 = .ok (.iload_n 2, 1) := by decide +kernel
theorem dX1_load_47 : decode cX1_load 47 = .ok (.iconst 0, 1) := by decide +kernel
theorem dX1_load_48 : decode cX1_load 48 = .ok (.iastore, 1) := by decide +kernel
theorem dX1_load_49 : decode cX1_load 49 = .ok (.iconst 0, 1) := by decide +kernel
theorem dX1_load_50 : decode cX1_load 50 = .ok (.istore_n 3, 1) := by decide +kernel
theorem dX1_load_51 : decode cX1_load 51 = .ok (.iload_n 3, 1) := by decide +kernel
theorem dX1_load_52 : decode cX1_load 52 = .ok (.iconst 5, 1) := by decide +kernel
theorem dX1_load_53 : decode cX1_load 53 = .ok (.if_icmp .ge 73, 3) := by decide +kernel
theorem dX1_load_56 : decode cX1_load 56 = .ok (.iload_n 3, 1) := by decide +kernel
theorem dX1_load_57 : decode cX1_load 57 = .ok (.aload_n 0, 1) := by decide +kernel
theorem dX1_load_58 : decode cX1_load 58 = .ok (.getfield 18, 3) := by decide +kernel
theorem dX1_load_61 : decode cX1_load 61 = .ok (.iload_n 2, 1) := by decide +kernel
theorem dX1_load_62 : decode cX1_load 62 = .ok (.iaload, 1) := by decide +kernel
theorem dX1_load_63 : decode cX1_load 63 = .ok (.if_icmp .ge 63, 3) := by decide +kernel
theorem dX1_load_66 : decode cX1_load 66 = .ok (.aload_n 1, 1) := by decide +kernel
theorem dX1_load_67 : decode cX1_load 67 = .ok (.iload_n 2, 1) := by decide +kernel
theorem dX1_load_68 : decode cX1_load 68 = .ok (.iload_n 3, 1) := by decide +kernel
theorem dX1_load_69 : decode cX1_load 69 = .ok (.invokevirtual 53, 3) := by decide +kernel
theorem dX1_load_72 : decode cX1_load 72 = .ok (.istore 4, 2) := by decide +kernel
theorem dX1_load_74 : decode cX1_load 74 = .ok (.iload 4, 2) := by decide +kernel
theorem dX1_load_76 : decode cX1_load 76 = .ok (.iconst 1, 1) := by decide +kernel
theorem dX1_load_77 : decode cX1_load 77 = .ok (.iconst 5, 1) := by decide +kernel
theorem dX1_load_78 : decode cX1_load 78 = .ok (.invokestatic 57, 3) := by decide +kernel
theorem dX1_load_81 : decode cX1_load 81 = .ok (.ifCond .eq 39, 3) := by decide +kernel
theorem dX1_load_84 : decode cX1_load 84 = .ok (.iload_n 2, 1) := by decide +kernel
theorem dX1_load_85 : decode cX1_load 85 = .ok (.iconst 5, 1) := by decide +kernel
theorem dX1_load_86 : decode cX1_load 86 = .ok (.imul, 1) := by decide +kernel
theorem dX1_load_87 : decode cX1_load 87 = .ok (.iload 4, 2) := by decide +kernel
theorem dX1_load_89 : decode cX1_load 89 = .ok (.iadd, 1) := by decide +kernel
theorem dX1_load_90 : decode cX1_load 90 = .ok (.iconst 1, 1) := by decide +kernel
theorem dX1_load_91 : decode cX1_load 91 = .ok (.isub, 1) := by decide +kernel
theorem dX1_load_92 : decode cX1_load 92 = .ok (.istore 5, 2) := by decide +kernel
theorem dX1_load_94 : decode cX1_load 94 = .ok (.aload_n 0, 1) := by decide +kernel
theorem dX1_load_95 : decode cX1_load 95 = .ok (.getfield 21, 3) := by decide +kernel
theorem dX1_load_98 : decode cX1_load 98 = .ok (.iload 5, 2) := by decide +kernel
theorem dX1_load_100 : decode cX1_load 100 = .ok (.aload_n 1, 1) := by decide +kernel
theorem dX1_load_101 : decode cX1_load 101 = .ok (.iload_n 2, 1) := by decide +kernel
theorem dX1_load_102 : decode cX1_load 102 = .ok (.iload_n 3, 1) := by decide +kernel
theorem dX1_load_103 : decode cX1_load 103 = .ok (.invokevirtual 61, 3) := by decide +kernel
theorem dX1_load_106 : decode cX1_load 106 = .ok (.iastore, 1) := by decide +kernel
theorem dX1_load_107 : decode cX1_load 107 = .ok (.aload_n 0, 1) := by decide +kernel
theorem dX1_load_108 : decode cX1_load 108 = .ok (.getfield 24, 3) := by decide +kernel
theorem dX1_load_111 : decode cX1_load 111 = .ok (.iload 5, 2) := by decide +kernel
theorem dX1_load_113 : decode cX1_load 113 = .ok (.aload_n 1, 1) := by decide +kernel
theorem dX1_load_114 : decode cX1_load 114 = .ok (.iload_n 2, 1) := by decide +kernel
theorem dX1_load_115 : decode cX1_load 115 = .ok (.iload_n 3, 1) := by decide +kernel
theorem dX1_load_116 : decode cX1_load 116 = .ok (.invokevirtual 64, 3) := by decide +kernel
theorem dX1_load_119 : decode cX1_load 119 = .ok (.iastore, 1) := by decide +kernel
theorem dX1_load_120 : decode cX1_load 120 = .ok (.iinc 3 1, 3) := by decide +kernel
theorem dX1_load_123 : decode cX1_load 123 = .ok (.goto (-72), 3) := by decide +kernel
theorem dX1_load_126 : decode cX1_load 126 = .ok (.iinc 2 1, 3) := by decide +kernel
theorem dX1_load_129 : decode cX1_load 129 = .ok (.goto (-127), 3) := by decide +kernel
theorem dX1_load_132 : decode cX1_load 132 = .ok (.return_, 1) := by decide +kernel
theorem dX1_isPaidUp_0 : decode cX1_isPaidUp 0 = .ok (.aload_n 0, 1) := by decide +kernel
theorem dX1_isPaidUp_1 : decode cX1_isPaidUp 1 = .ok (.getfield 27, 3) := by decide +kernel
theorem dX1_isPaidUp_4 : decode cX1_isPaidUp 4 = .ok (.iload_n 1, 1) := by decide +kernel
theorem dX1_isPaidUp_5 : decode cX1_isPaidUp 5 = .ok (.iaload, 1) := by decide +kernel
theorem dX1_isPaidUp_6 : decode cX1_isPaidUp 6 = .ok (.ifCond .lt 28, 3) := by decide +kernel
theorem dX1_isPaidUp_9 : decode cX1_isPaidUp 9 = .ok (.aload_n 0, 1) := by decide +kernel
theorem dX1_isPaidUp_10 : decode cX1_isPaidUp 10 = .ok (.getfield 27, 3) := by decide +kernel
theorem dX1_isPaidUp_13 : decode cX1_isPaidUp 13 = .ok (.iload_n 1, 1) := by decide +kernel
theorem dX1_isPaidUp_14 : decode cX1_isPaidUp 14 = .ok (.iaload, 1) := by decide +kernel
theorem dX1_isPaidUp_15 : decode cX1_isPaidUp 15 = .ok (.iconst 5, 1) := by decide +kernel
theorem dX1_isPaidUp_16 : decode cX1_isPaidUp 16 = .ok (.if_icmp .ge 18, 3) := by decide +kernel
theorem dX1_isPaidUp_19 : decode cX1_isPaidUp 19 = .ok (.aload_n 0, 1) := by decide +kernel
theorem dX1_isPaidUp_20 : decode cX1_isPaidUp 20 = .ok (.getfield 27, 3) := by decide +kernel
theorem dX1_isPaidUp_23 : decode cX1_isPaidUp 23 = .ok (.iload_n 1, 1) := by decide +kernel
theorem dX1_isPaidUp_24 : decode cX1_isPaidUp 24 = .ok (.iaload, 1) := by decide +kernel
theorem dX1_isPaidUp_25 : decode cX1_isPaidUp 25 = .ok (.aload_n 0, 1) := by decide +kernel
theorem dX1_isPaidUp_26 : decode cX1_isPaidUp 26 = .ok (.getfield 18, 3) := by decide +kernel
theorem dX1_isPaidUp_29 : decode cX1_isPaidUp 29 = .ok (.iload_n 1, 1) := by decide +kernel
theorem dX1_isPaidUp_30 : decode cX1_isPaidUp 30 = .ok (.iaload, 1) := by decide +kernel
theorem dX1_isPaidUp_31 : decode cX1_isPaidUp 31 = .ok (.if_icmp .lt 7, 3) := by decide +kernel
theorem dX1_isPaidUp_34 : decode cX1_isPaidUp 34 = .ok (.iconst 1, 1) := by decide +kernel
theorem dX1_isPaidUp_35 : decode cX1_isPaidUp 35 = .ok (.goto 4, 3) := by decide +kernel
theorem dX1_isPaidUp_38 : decode cX1_isPaidUp 38 = .ok (.iconst 0, 1) := by decide +kernel
theorem dX1_isPaidUp_39 : decode cX1_isPaidUp 39 = .ok (.ireturn, 1) := by decide +kernel
set_option maxRecDepth 20000 in
theorem ggX1_canPay_X1_isPaidUp : GoodIn wsX1_canPay wsX1_isPaidUp := goodIn_r _ [8, 3, 9, 10, 11, 12, 13, 14, 15, 16, 17, 18, 19] (by decide +kernel) (by decide +kernel)
set_option maxRecDepth 20000 in
theorem gX1_canPay_X1_isPaidUp : GoodIn wsX1_canPay (wsV RX1 67 RX1 yX1_isPaidUp wsX1_isPaidUp) := goodIn_app (goodIn_of _ (by decide +kernel)) ggX1_canPay_X1_isPaidUp
theorem dX1_canPay_0 : decode cX1_canPay 0 = .ok (.aload_n 0, 1) := by decide +kernel
theorem dX1_canPay_1 : decode cX1_canPay 1 = .ok (.iload_n 1, 1) := by decide +kernel
theorem dX1_canPay_2 : decode cX1_canPay 2 = .ok (.invokevirtual 67, 3) := by decide +kernel
theorem dX1_canPay_5 : decode cX1_canPay 5 = .ok (.ifCond .ne 31, 3) := by decide +kernel
theorem dX1_canPay_8 : decode cX1_canPay 8 = .ok (.aload_n 0, 1) := by decide +kernel
theorem dX1_canPay_9 : decode cX1_canPay 9 = .ok (.getfield 15, 3) := by decide +kernel
theorem dX1_canPay_12 : decode cX1_canPay 12 = .ok (.iload_n 1, 1) := by decide +kernel
theorem dX1_canPay_13 : decode cX1_canPay 13 = .ok (.iaload, 1) := by decide +kernel
theorem dX1_canPay_14 : decode cX1_canPay 14 = .ok (.aload_n 0, 1) := by decide +kernel
theorem dX1_canPay_15 : decode cX1_canPay 15 = .ok (.getfield 24, 3) := by decide +kernel
theorem dX1_canPay_18 : decode cX1_canPay 18 = .ok (.iload_n 1, 1) := by decide +kernel
theorem dX1_canPay_19 : decode cX1_canPay 19 = .ok (.iconst 5, 1) := by decide +kernel
theorem dX1_canPay_20 : decode cX1_canPay 20 = .ok (.imul, 1) := by decide +kernel
theorem dX1_canPay_21 : decode cX1_canPay 21 = .ok (.aload_n 0, 1) := by decide +kernel
theorem dX1_canPay_22 : decode cX1_canPay 22 = .ok (.getfield 27, 3) := by decide +kernel
theorem dX1_canPay_25 : decode cX1_canPay 25 = .ok (.iload_n 1, 1) := by decide +kernel
theorem dX1_canPay_26 : decode cX1_canPay 26 = .ok (.iaload, 1) := by decide +kernel
theorem dX1_canPay_27 : decode cX1_canPay 27 = .ok (.iadd, 1) := by decide +kernel
theorem dX1_canPay_28 : decode cX1_canPay 28 = .ok (.iaload, 1) := by decide +kernel
theorem dX1_canPay_29 : decode cX1_canPay 29 = .ok (.if_icmp .lt 7, 3) := by decide +kernel
theorem dX1_canPay_32 : decode cX1_canPay 32 = .ok (.iconst 1, 1) := by decide +kernel
theorem dX1_canPay_33 : decode cX1_canPay 33 = .ok (.goto 4, 3) := by decide +kernel
theorem dX1_canPay_36 : decode cX1_canPay 36 = .ok (.iconst 0, 1) := by decide +kernel
theorem dX1_canPay_37 : decode cX1_canPay 37 = .ok (.ireturn, 1) := by decide +kernel
set_option maxRecDepth 20000 in
theorem ggX1_pay_X1_isPaidUp : GoodIn wsX1_pay wsX1_isPaidUp := goodIn_r _ [9, 1, 10, 14, 15, 16, 17, 18, 19, 20, 21, 22, 23] (by decide +kernel) (by decide +kernel)
set_option maxRecDepth 20000 in
theorem gX1_pay_X1_isPaidUp : GoodIn wsX1_pay (wsV RX1 67 RX1 yX1_isPaidUp wsX1_isPaidUp) := goodIn_app (goodIn_of _ (by decide +kernel)) ggX1_pay_X1_isPaidUp
set_option maxRecDepth 20000 in
theorem ggX1_pay_X3_isMan : GoodIn wsX1_pay wsX3_isMan := goodIn_r _ [13] (by decide +kernel) (by decide +kernel)
set_option maxRecDepth 20000 in
theorem gX1_pay_X3_isMan_n71 : GoodIn wsX1_pay (wsX3_isMan) := ggX1_pay_X3_isMan
theorem dX1_pay_0 : decode cX1_pay 0 = .ok (.aload_n 0, 1) := by decide +kernel
theorem dX1_pay_1 : decode cX1_pay 1 = .ok (.iload_n 1, 1) := by decide +kernel
theorem dX1_pay_2 : decode cX1_pay 2 = .ok (.invokevirtual 67, 3) := by decide +kernel
theorem dX1_pay_5 : decode cX1_pay 5 = .ok (.ifCond .eq 4, 3) := by decide +kernel
theorem dX1_pay_8 : decode cX1_pay 8 = .ok (.return_, 1) := by decide +kernel
theorem dX1_pay_9 : decode cX1_pay 9 = .ok (.iload_n 1, 1) := by decide +kernel
theorem dX1_pay_10 : decode cX1_pay 10 = .ok (.iconst 5, 1) := by decide +kernel
theorem dX1_pay_11 : decode cX1_pay 11 = .ok (.imul, 1) := by decide +kernel
theorem dX1_pay_12 : decode cX1_pay 12 = .ok (.aload_n 0, 1) := by decide +kernel
theorem dX1_pay_13 : decode cX1_pay 13 = .ok (.getfield 27, 3) := by decide +kernel
theorem dX1_pay_16 : decode cX1_pay 16 = .ok (.iload_n 1, 1) := by decide +kernel
theorem dX1_pay_17 : decode cX1_pay 17 = .ok (.iaload, 1) := by decide +kernel
theorem dX1_pay_18 : decode cX1_pay 18 = .ok (.iadd, 1) := by decide +kernel
theorem dX1_pay_19 : decode cX1_pay 19 = .ok (.istore_n 2, 1) := by decide +kernel
theorem dX1_pay_20 : decode cX1_pay 20 = .ok (.aload_n 0, 1) := by decide +kernel
theorem dX1_pay_21 : decode cX1_pay 21 = .ok (.getfield 27, 3) := by decide +kernel
theorem dX1_pay_24 : decode cX1_pay 24 = .ok (.iload_n 1, 1) := by decide +kernel
theorem dX1_pay_25 : decode cX1_pay 25 = .ok (.dup2, 1) := by decide +kernel
theorem dX1_pay_26 : decode cX1_pay 26 = .ok (.iaload, 1) := by decide +kernel
theorem dX1_pay_27 : decode cX1_pay 27 = .ok (.iconst 1, 1) := by decide +kernel
theorem dX1_pay_28 : decode cX1_pay 28 = .ok (.iadd, 1) := by decide +kernel
theorem dX1_pay_29 : decode cX1_pay 29 = .ok (.iastore, 1) := by decide +kernel
theorem dX1_pay_30 : decode cX1_pay 30 = .ok (.aload_n 0, 1) := by decide +kernel
theorem dX1_pay_31 : decode cX1_pay 31 = .ok (.getfield 15, 3) := by decide +kernel
theorem dX1_pay_34 : decode cX1_pay 34 = .ok (.iload_n 1, 1) := by decide +kernel
theorem dX1_pay_35 : decode cX1_pay 35 = .ok (.dup2, 1) := by decide +kernel
theorem dX1_pay_36 : decode cX1_pay 36 = .ok (.iaload, 1) := by decide +kernel
theorem dX1_pay_37 : decode cX1_pay 37 = .ok (.aload_n 0, 1) := by decide +kernel
theorem dX1_pay_38 : decode cX1_pay 38 = .ok (.getfield 24, 3) := by decide +kernel
theorem dX1_pay_41 : decode cX1_pay 41 = .ok (.iload_n 2, 1) := by decide +kernel
theorem dX1_pay_42 : decode cX1_pay 42 = .ok (.iaload, 1) := by decide +kernel
theorem dX1_pay_43 : decode cX1_pay 43 = .ok (.isub, 1) := by decide +kernel
theorem dX1_pay_44 : decode cX1_pay 44 = .ok (.iastore, 1) := by decide +kernel
theorem dX1_pay_45 : decode cX1_pay 45 = .ok (.aload_n 0, 1) := by decide +kernel
theorem dX1_pay_46 : decode cX1_pay 46 = .ok (.getfield 21, 3) := by decide +kernel
theorem dX1_pay_49 : decode cX1_pay 49 = .ok (.iload_n 2, 1) := by decide +kernel
theorem dX1_pay_50 : decode cX1_pay 50 = .ok (.iaload, 1) := by decide +kernel
theorem dX1_pay_51 : decode cX1_pay 51 = .ok (.invokestatic 71, 3) := by decide +kernel
theorem dX1_pay_54 : decode cX1_pay 54 = .ok (.ifCond .eq 23, 3) := by decide +kernel
theorem dX1_pay_57 : decode cX1_pay 57 = .ok (.aload_n 0, 1) := by decide +kernel
theorem dX1_pay_58 : decode cX1_pay 58 = .ok (.getfield 15, 3) := by decide +kernel
theorem dX1_pay_61 : decode cX1_pay 61 = .ok (.aload_n 0, 1) := by decide +kernel
theorem dX1_pay_62 : decode cX1_pay 62 = .ok (.getfield 21, 3) := by decide +kernel
theorem dX1_pay_65 : decode cX1_pay 65 = .ok (.iload_n 2, 1) := by decide +kernel
theorem dX1_pay_66 : decode cX1_pay 66 = .ok (.iaload, 1) := by decide +kernel
theorem dX1_pay_67 : decode cX1_pay 67 = .ok (.dup2, 1) := by decide +kernel
theorem dX1_pay_68 : decode cX1_pay 68 = .ok (.iaload, 1) := by decide +kernel
theorem dX1_pay_69 : decode cX1_pay 69 = .ok (.aload_n 0, 1) := by decide +kernel
theorem dX1_pay_70 : decode cX1_pay 70 = .ok (.getfield 24, 3) := by decide +kernel
theorem dX1_pay_73 : decode cX1_pay 73 = .ok (.iload_n 2, 1) := by decide +kernel
theorem dX1_pay_74 : decode cX1_pay 74 = .ok (.iaload, 1) := by decide +kernel
theorem dX1_pay_75 : decode cX1_pay 75 = .ok (.iadd, 1) := by decide +kernel
theorem dX1_pay_76 : decode cX1_pay 76 = .ok (.iastore, 1) := by decide +kernel
theorem dX1_pay_77 : decode cX1_pay 77 = .ok (.return_, 1) := by decide +kernel
set_option maxRecDepth 20000 in
theorem ggX1_payAllThatCan_X1_canPay : GoodIn wsX1_payAllThatCan wsX1_canPay := goodIn_r _ [5, 6, 7, 8, 9, 10, 11, 4, 12, 13, 22, 23, 24, 25, 26, 27, 28, 29, 30, 31] (by decide +kernel) (by decide +kernel)
set_option maxRecDepth 20000 in
theorem gX1_payAllThatCan_X1_canPay : GoodIn wsX1_payAllThatCan (wsV RX1 74 RX1 yX1_canPay wsX1_canPay) := goodIn_app (goodIn_of _ (by decide +kernel)) ggX1_payAllThatCan_X1_canPay
set_option maxRecDepth 20000 in
theorem ggX1_payAllThatCan_X1_pay : GoodIn wsX1_payAllThatCan wsX1_pay := goodIn_r _ [17, 8, 6, 7, 18, 9, 10, 11, 4, 12, 13, 19, 20, 21, 22, 23, 24, 25, 26, 27, 28, 29, 30, 31] (by decide +kernel) (by decide +kernel)
set_option maxRecDepth 20000 in
theorem gX1_payAllThatCan_X1_pay : GoodIn wsX1_payAllThatCan (wsV RX1 77 RX1 yX1_pay wsX1_pay) := goodIn_app (goodIn_of _ (by decide +kernel)) ggX1_payAllThatCan_X1_pay
theorem dX1_payAllThatCan_0 : decode cX1_payAllThatCan 0 = .ok (.iconst 1, 1) := by decide +kernel
theorem dX1_payAllThatCan_1 : decode cX1_payAllThatCan 1 = .ok (.istore_n 1, 1) := by decide +kernel
theorem dX1_payAllThatCan_2 : decode cX1_payAllThatCan 2 = .ok (.iconst 0, 1) := by decide +kernel
theorem dX1_payAllThatCan_3 : decode cX1_payAllThatCan 3 = .ok (.istore_n 2, 1) := by decide +kernel
theorem dX1_payAllThatCan_4 : decode cX1_payAllThatCan 4 = .ok (.iload_n 2, 1) := by decide +kernel
theorem dX1_payAllThatCan_5 : decode cX1_payAllThatCan 5 = .ok (.bipush 30, 2) := by decide +kernel
theorem dX1_payAllThatCan_7 : decode cX1_payAllThatCan 7 = .ok (.if_icmp .gt 59, 3) := by decide +kernel
theorem dX1_payAllThatCan_10 : decode cX1_payAllThatCan 10 = .ok (.iload_n 1, 1) := by decide +kernel
theorem dX1_payAllThatCan_11 : decode cX1_payAllThatCan 11 = .ok (.ifCond .eq 55, 3) := by decide +kernel
theorem dX1_payAllThatCan_14 : decode cX1_payAllThatCan 14 = .ok (.iconst 0, 1) := by decide +kernel
theorem dX1_payAllThatCan_15 : decode cX1_payAllThatCan 15 = .ok (.istore_n 1, 1) := by decide +kernel
theorem dX1_payAllThatCan_16 : decode cX1_payAllThatCan 16 = .ok (.iconst 0, 1) := by decide +kernel
theorem dX1_payAllThatCan_17 : decode cX1_payAllThatCan 17 = .ok (.istore_n 3, 1) := by decide +kernel
theorem dX1_payAllThatCan_18 : decode cX1_payAllThatCan 18 = .ok (.iload_n 3, 1) := by decide +kernel
theorem dX1_payAllThatCan_19 : decode cX1_payAllThatCan 19 = .ok (.bipush 6, 2) := by decide +kernel
theorem dX1_payAllThatCan_21 : decode cX1_payAllThatCan 21 = .ok (.if_icmp .ge 39, 3) := by decide +kernel
theorem dX1_payAllThatCan_24 : decode cX1_payAllThatCan 24 = .ok (.iconst 0, 1) := by decide +kernel
theorem dX1_payAllThatCan_25 : decode cX1_payAllThatCan 25 = .ok (.istore 4, 2) := by decide +kernel
theorem dX1_payAllThatCan_27 : decode cX1_payAllThatCan 27 = .ok (.iload 4, 2) := by decide +kernel
theorem dX1_payAllThatCan_29 : decode cX1_payAllThatCan 29 = .ok (.iconst 5, 1) := by decide +kernel
theorem dX1_payAllThatCan_30 : decode cX1_payAllThatCan 30 = .ok (.if_icmp .ge 24, 3) := by decide +kernel
theorem dX1_payAllThatCan_33 : decode cX1_payAllThatCan 33 = .ok (.aload_n 0, 1) := by decide +kernel
theorem dX1_payAllThatCan_34 : decode cX1_payAllThatCan 34 = .ok (.iload_n 3, 1) := by decide +kernel
theorem dX1_payAllThatCan_35 : decode cX1_payAllThatCan 35 = .ok (.invokevirtual 74, 3) := by decide +kernel
theorem dX1_payAllThatCan_38 : decode cX1_payAllThatCan 38 = .ok (.ifCond .eq 16, 3) := by decide +kernel
theorem dX1_payAllThatCan_41 : decode cX1_payAllThatCan 41 = .ok (.aload_n 0, 1) := by decide +kernel
theorem dX1_payAllThatCan_42 : decode cX1_payAllThatCan 42 = .ok (.iload_n 3, 1) := by decide +kernel
theorem dX1_payAllThatCan_43 : decode cX1_payAllThatCan 43 = .ok (.invokevirtual 77, 3) := by decide +kernel
theorem dX1_payAllThatCan_46 : decode cX1_payAllThatCan 46 = .ok (.iconst 1, 1) := by decide +kernel
theorem dX1_payAllThatCan_47 : decode cX1_payAllThatCan 47 = .ok (.istore_n 1, 1) := by decide +kernel
theorem dX1_payAllThatCan_48 : decode cX1_payAllThatCan 48 = .ok (.iinc 4 1, 3) := by decide +kernel
theorem dX1_payAllThatCan_51 : decode cX1_payAllThatCan 51 = .ok (.goto (-24), 3) := by decide +kernel
theorem dX1_payAllThatCan_54 : decode cX1_payAllThatCan 54 = .ok (.iinc 3 1, 3) := by decide +kernel
theorem dX1_payAllThatCan_57 : decode cX1_payAllThatCan 57 = .ok (.goto (-39), 3) := by decide +kernel
theorem dX1_payAllThatCan_60 : decode cX1_payAllThatCan 60 = .ok (.iinc 2 1, 3) := by decide +kernel
theorem dX1_payAllThatCan_63 : decode cX1_payAllThatCan 63 = .ok (.goto (-59), 3) := by decide +kernel
theorem dX1_payAllThatCan_66 : decode cX1_payAllThatCan 66 = .ok (.return_, 1) := by decide +kernel
set_option maxRecDepth 20000 in
theorem ggX1_stillOwing_X1_isPaidUp : GoodIn wsX1_stillOwing wsX1_isPaidUp := goodIn_r _ [5, 6, 7, 8, 9, 10, 11, 12, 13, 14, 15, 16, 17] (by decide +kernel) (by decide +kernel)
set_option maxRecDepth 20000 in
theorem gX1_stillOwing_X1_isPaidUp : GoodIn wsX1_stillOwing (wsV RX1 67 RX1 yX1_isPaidUp wsX1_isPaidUp) := goodIn_app (goodIn_of _ (by decide +kernel)) ggX1_stillOwing_X1_isPaidUp
theorem dX1_stillOwing_0 : decode cX1_stillOwing 0 = .ok (.iconst 0, 1) := by decide +kernel
theorem dX1_stillOwing_1 : decode cX1_stillOwing 1 = .ok (.istore_n 1, 1) := by decide +kernel
theorem dX1_stillOwing_2 : decode cX1_stillOwing 2 = .ok (.iconst 0, 1) := by decide +kernel
theorem dX1_stillOwing_3 : decode cX1_stillOwing 3 = .ok (.istore_n 2, 1) := by decide +kernel
theorem dX1_stillOwing_4 : decode cX1_stillOwing 4 = .ok (.iload_n 2, 1) := by decide +kernel
theorem dX1_stillOwing_5 : decode cX1_stillOwing 5 = .ok (.bipush 6, 2) := by decide +kernel
theorem dX1_stillOwing_7 : decode cX1_stillOwing 7 = .ok (.if_icmp .ge 27, 3) := by decide +kernel
theorem dX1_stillOwing_10 : decode cX1_stillOwing 10 = .ok (.iload_n 1, 1) := by decide +kernel
theorem dX1_stillOwing_11 : decode cX1_stillOwing 11 = .ok (.aload_n 0, 1) := by decide +kernel
theorem dX1_stillOwing_12 : decode cX1_stillOwing 12 = .ok (.iload_n 2, 1) := by decide +kernel
theorem dX1_stillOwing_13 : decode cX1_stillOwing 13 = .ok (.invokevirtual 67, 3) := by decide +kernel
theorem dX1_stillOwing_16 : decode cX1_stillOwing 16 = .ok (.ifCond .eq 7, 3) := by decide +kernel
theorem dX1_stillOwing_19 : decode cX1_stillOwing 19 = .ok (.iconst 0, 1) := by decide +kernel
theorem dX1_stillOwing_20 : decode cX1_stillOwing 20 = .ok (.goto 6, 3) := by decide +kernel
theorem dX1_stillOwing_23 : decode cX1_stillOwing 23 = .ok (.iconst 1, 1) := by decide +kernel
theorem dX1_stillOwing_24 : decode cX1_stillOwing 24 = .ok (.iload_n 2, 1) := by decide +kernel
theorem dX1_stillOwing_25 : decode cX1_stillOwing 25 = .ok (.ishl, 1) := by decide +kernel
theorem dX1_stillOwing_26 : decode cX1_stillOwing 26 = .ok (.ior, 1) := by decide +kernel
theorem dX1_stillOwing_27 : decode cX1_stillOwing 27 = .ok (.istore_n 1, 1) := by decide +kernel
theorem dX1_stillOwing_28 : decode cX1_stillOwing 28 = .ok (.iinc 2 1, 3) := by decide +kernel
theorem dX1_stillOwing_31 : decode cX1_stillOwing 31 = .ok (.goto (-27), 3) := by decide +kernel
theorem dX1_stillOwing_34 : decode cX1_stillOwing 34 = .ok (.iload_n 1, 1) := by decide +kernel
theorem dX1_stillOwing_35 : decode cX1_stillOwing 35 = .ok (.ireturn, 1) := by decide +kernel
set_option maxRecDepth 20000 in
theorem ggX1_leastHelp_X1_payAllThatCan : GoodIn wsX1_leastHelp wsX1_payAllThatCan := goodIn_r _ [8, 9, 10, 11, 7, 12, 3, 1, 2, 13, 14, 15, 16, 17, 18, 19, 20, 21, 22, 23, 24, 25, 30, 31, 32, 33, 34, 35, 36, 37, 38, 39] (by decide +kernel) (by decide +kernel)
set_option maxRecDepth 20000 in
theorem gX1_leastHelp_X1_payAllThatCan : GoodIn wsX1_leastHelp (wsV RX1 81 RX1 yX1_payAllThatCan wsX1_payAllThatCan) := goodIn_app (goodIn_of _ (by decide +kernel)) ggX1_leastHelp_X1_payAllThatCan
set_option maxRecDepth 20000 in
theorem ggX1_leastHelp_X1_stillOwing : GoodIn wsX1_leastHelp wsX1_stillOwing := goodIn_r _ [29, 13, 14, 15, 7, 16, 2, 17, 30, 31, 32, 33, 34, 35, 36, 37, 38, 39] (by decide +kernel) (by decide +kernel)
set_option maxRecDepth 20000 in
theorem gX1_leastHelp_X1_stillOwing : GoodIn wsX1_leastHelp (wsV RX1 84 RX1 yX1_stillOwing wsX1_stillOwing) := goodIn_app (goodIn_of _ (by decide +kernel)) ggX1_leastHelp_X1_stillOwing
set_option maxRecDepth 20000 in
theorem ggX1_leastHelp_X3_isMan : GoodIn wsX1_leastHelp wsX3_isMan := goodIn_r _ [25] (by decide +kernel) (by decide +kernel)
set_option maxRecDepth 20000 in
theorem gX1_leastHelp_X3_isMan_n71 : GoodIn wsX1_leastHelp (wsX3_isMan) := ggX1_leastHelp_X3_isMan
set_option maxRecDepth 20000 in
theorem ggX1_leastHelp_X1_isPaidUp : GoodIn wsX1_leastHelp wsX1_isPaidUp := goodIn_r _ [16, 2, 17, 30, 31, 32, 33, 34, 35, 36, 37, 38, 39] (by decide +kernel) (by decide +kernel)
set_option maxRecDepth 20000 in
theorem gX1_leastHelp_X1_isPaidUp : GoodIn wsX1_leastHelp (wsV RX1 67 RX1 yX1_isPaidUp wsX1_isPaidUp) := goodIn_app (goodIn_of _ (by decide +kernel)) ggX1_leastHelp_X1_isPaidUp
theorem dX1_leastHelp_0 : decode cX1_leastHelp 0 = .ok (.iconst 0, 1) := by decide +kernel
theorem dX1_leastHelp_1 : decode cX1_leastHelp 1 = .ok (.istore_n 2, 1) := by decide +kernel
theorem dX1_leastHelp_2 : decode cX1_leastHelp 2 = .ok (.iconst 0, 1) := by decide +kernel
theorem dX1_leastHelp_3 : decode cX1_leastHelp 3 = .ok (.istore_n 3, 1) := by decide +kernel
theorem dX1_leastHelp_4 : decode cX1_leastHelp 4 = .ok (.iload_n 3, 1) := by decide +kernel
theorem dX1_leastHelp_5 : decode cX1_leastHelp 5 = .ok (.iconst 5, 1) := by decide +kernel
theorem dX1_leastHelp_6 : decode cX1_leastHelp 6 = .ok (.if_icmp .gt 80, 3) := by decide +kernel
theorem dX1_leastHelp_9 : decode cX1_leastHelp 9 = .ok (.aload_n 0, 1) := by decide +kernel
theorem dX1_leastHelp_10 : decode cX1_leastHelp 10 = .ok (.invokevirtual 81, 3) := by decide +kernel
theorem dX1_leastHelp_13 : decode cX1_leastHelp 13 = .ok (.aload_n 0, 1) := by decide +kernel
theorem dX1_leastHelp_14 : decode cX1_leastHelp 14 = .ok (.invokevirtual 84, 3) := by decide +kernel
theorem dX1_leastHelp_17 : decode cX1_leastHelp 17 = .ok (.ifCond .ne 5, 3) := by decide +kernel
theorem dX1_leastHelp_20 : decode cX1_leastHelp 20 = .ok (.iload_n 2, 1) := by decide +kernel
theorem dX1_leastHelp_21 : decode cX1_leastHelp 21 = .ok (.ireturn, 1) := by decide +kernel
theorem dX1_leastHelp_22 : decode cX1_leastHelp 22 = .ok (.iload_n 1, 1) := by decide +kernel
theorem dX1_leastHelp_23 : decode cX1_leastHelp 23 = .ok (.invokestatic 71, 3) := by decide +kernel
theorem dX1_leastHelp_26 : decode cX1_leastHelp 26 = .ok (.ifCond .eq 11, 3) := by decide +kernel
theorem dX1_leastHelp_29 : decode cX1_leastHelp 29 = .ok (.aload_n 0, 1) := by decide +kernel
theorem dX1_leastHelp_30 : decode cX1_leastHelp 30 = .ok (.iload_n 1, 1) := by decide +kernel
theorem dX1_leastHelp_31 : decode cX1_leastHelp 31 = .ok (.invokevirtual 67, 3) := by decide +kernel
theorem dX1_leastHelp_34 : decode cX1_leastHelp 34 = .ok (.ifCond .eq 6, 3) := by decide +kernel
theorem dX1_leastHelp_37 : decode cX1_leastHelp 37 = .ok (.bipush (-6), 2) := by decide +kernel
theorem dX1_leastHelp_39 : decode cX1_leastHelp 39 = .ok (.ireturn, 1) := by decide +kernel
theorem dX1_leastHelp_40 : decode cX1_leastHelp 40 = .ok (.aload_n 0, 1) := by decide +kernel
theorem dX1_leastHelp_41 : decode cX1_leastHelp 41 = .ok (.getfield 24, 3) := by decide +kernel
theorem dX1_leastHelp_44 : decode cX1_leastHelp 44 = .ok (.iload_n 1, 1) := by decide +kernel
theorem dX1_leastHelp_45 : decode cX1_leastHelp 45 = .ok (.iconst 5, 1) := by decide +kernel
theorem dX1_leastHelp_46 : decode cX1_leastHelp 46 = .ok (.imul, 1) := by decide +kernel
theorem dX1_leastHelp_47 : decode cX1_leastHelp 47 = .ok (.aload_n 0, 1) := by decide +kernel
theorem dX1_leastHelp_48 : decode cX1_leastHelp 48 = .ok (.getfield 27, 3) := by decide +kernel
theorem dX1_leastHelp_51 : decode cX1_leastHelp 51 = .ok (.iload_n 1, 1) := by decide +kernel
theorem dX1_leastHelp_52 : decode cX1_leastHelp 52 = .ok (.iaload, 1) := by decide +kernel
theorem dX1_leastHelp_53 : decode cX1_leastHelp 53 = .ok (.iadd, 1) := by decide +kernel
theorem dX1_leastHelp_54 : decode cX1_leastHelp 54 = .ok (.iaload, 1) := by decide +kernel
theorem dX1_leastHelp_55 : decode cX1_leastHelp 55 = .ok (.aload_n 0, 1) := by decide +kernel
theorem dX1_leastHelp_56 : decode cX1_leastHelp 56 = .ok (.getfield 15, 3) := by decide +kernel
theorem dX1_leastHelp_59 : decode cX1_leastHelp 59 = .ok (.iload_n 1, 1) := by decide +kernel
theorem dX1_leastHelp_60 : decode cX1_leastHelp 60 = .ok (.iaload, 1) := by decide +kernel
theorem dX1_leastHelp_61 : decode cX1_leastHelp 61 = .ok (.isub, 1) := by decide +kernel
theorem dX1_leastHelp_62 : decode cX1_leastHelp 62 = .ok (.istore 4, 2) := by decide +kernel
theorem dX1_leastHelp_64 : decode cX1_leastHelp 64 = .ok (.aload_n 0, 1) := by decide +kernel
theorem dX1_leastHelp_65 : decode cX1_leastHelp 65 = .ok (.getfield 15, 3) := by decide +kernel
theorem dX1_leastHelp_68 : decode cX1_leastHelp 68 = .ok (.iload_n 1, 1) := by decide +kernel
theorem dX1_leastHelp_69 : decode cX1_leastHelp 69 = .ok (.dup2, 1) := by decide +kernel
theorem dX1_leastHelp_70 : decode cX1_leastHelp 70 = .ok (.iaload, 1) := by decide +kernel
theorem dX1_leastHelp_71 : decode cX1_leastHelp 71 = .ok (.iload 4, 2) := by decide +kernel
theorem dX1_leastHelp_73 : decode cX1_leastHelp 73 = .ok (.iadd, 1) := by decide +kernel
theorem dX1_leastHelp_74 : decode cX1_leastHelp 74 = .ok (.iastore, 1) := by decide +kernel
theorem dX1_leastHelp_75 : decode cX1_leastHelp 75 = .ok (.iload_n 2, 1) := by decide +kernel
theorem dX1_leastHelp_76 : decode cX1_leastHelp 76 = .ok (.iload 4, 2) := by decide +kernel
theorem dX1_leastHelp_78 : decode cX1_leastHelp 78 = .ok (.iadd, 1) := by decide +kernel
theorem dX1_leastHelp_79 : decode cX1_leastHelp 79 = .ok (.istore_n 2, 1) := by decide +kernel
theorem dX1_leastHelp_80 : decode cX1_leastHelp 80 = .ok (.iinc 3 1, 3) := by decide +kernel
theorem dX1_leastHelp_83 : decode cX1_leastHelp 83 = .ok (.goto (-79), 3) := by decide +kernel
theorem dX1_leastHelp_86 : decode cX1_leastHelp 86 = .ok (.bipush (-6), 2) := by decide +kernel
theorem dX1_leastHelp_88 : decode cX1_leastHelp 88 = .ok (.ireturn, 1) := by decide +kernel
set_option maxRecDepth 20000 in
theorem ggX1_fewest_X1_payAllThatCan : GoodIn wsX1_fewest wsX1_payAllThatCan := goodIn_r _ [7, 8, 9, 10, 6, 11, 12, 13, 1, 14, 15, 16, 17, 18, 19, 20, 21, 22, 23, 24, 25, 26, 75, 76, 77, 78, 79, 80, 81, 82, 83, 84] (by decide +kernel) (by decide +kernel)
set_option maxRecDepth 20000 in
theorem gX1_fewest_X1_payAllThatCan : GoodIn wsX1_fewest (wsV RX1 81 RX1 yX1_payAllThatCan wsX1_payAllThatCan) := goodIn_app (goodIn_of _ (by decide +kernel)) ggX1_fewest_X1_payAllThatCan
set_option maxRecDepth 20000 in
theorem ggX1_fewest_X3_isMan : GoodIn wsX1_fewest wsX3_isMan := goodIn_r _ [26] (by decide +kernel) (by decide +kernel)
set_option maxRecDepth 20000 in
theorem gX1_fewest_X3_isMan_n71 : GoodIn wsX1_fewest (wsX3_isMan) := ggX1_fewest_X3_isMan
set_option maxRecDepth 20000 in
theorem ggX1_fewest_X1_setLimits : GoodIn wsX1_fewest wsX1_setLimits := goodIn_r _ [30, 31, 1, 32, 33, 34, 35, 36, 37, 75, 76, 77, 78, 79, 80, 81, 82, 83, 84] (by decide +kernel) (by decide +kernel)
set_option maxRecDepth 20000 in
theorem gX1_fewest_X1_setLimits : GoodIn wsX1_fewest (wsV RX1 88 RX1 yX1_setLimits wsX1_setLimits) := goodIn_app (goodIn_of _ (by decide +kernel)) ggX1_fewest_X1_setLimits
set_option maxRecDepth 20000 in
theorem ggX1_fewest_J7_fill_d0a16 : GoodIn wsX1_fewest wsJ7_fill_d0a16 := goodIn_r _ [41] (by decide +kernel) (by decide +kernel)
set_option maxRecDepth 20000 in
theorem gX1_fewest_J7_fill_d0a16 : GoodIn wsX1_fewest (va_wsS RX1 91 yJ7_fill_d0a16 wsJ7_fill_d0a16) := goodIn_app (goodIn_of _ (by decide +kernel)) ggX1_fewest_J7_fill_d0a16
set_option maxRecDepth 20000 in
theorem ggX1_fewest_X1_mark : GoodIn wsX1_fewest wsX1_mark := goodIn_r _ [45, 2, 75, 76, 77, 78, 79, 80, 81, 82, 83, 84] (by decide +kernel) (by decide +kernel)
set_option maxRecDepth 20000 in
theorem gX1_fewest_X1_mark : GoodIn wsX1_fewest (wsV RX1 97 RX1 yX1_mark wsX1_mark) := goodIn_app (goodIn_of _ (by decide +kernel)) ggX1_fewest_X1_mark
set_option maxRecDepth 20000 in
theorem ggX1_fewest_X1_spread : GoodIn wsX1_fewest wsX1_spread := goodIn_r _ [49, 37, 2, 50, 51, 52, 53, 54, 55, 56, 57, 58, 59, 60, 61, 6, 62, 1, 31, 32, 63, 64, 65, 66, 67, 12, 68, 69, 70, 71, 72, 73, 40, 74, 19, 20, 21, 22, 13, 23, 14, 15, 16, 17, 18, 24, 25, 26, 8, 9, 10, 11, 42, 43, 44, 45, 75, 76, 77, 78, 79, 80, 81, 82, 83, 84] (by decide +kernel) (by decide +kernel)
set_option maxRecDepth 20000 in
theorem gX1_fewest_X1_spread : GoodIn wsX1_fewest (wsV RX1 100 RX1 yX1_spread wsX1_spread) := goodIn_app (goodIn_of _ (by decide +kernel)) ggX1_fewest_X1_spread
theorem dX1_fewest_0 : decode cX1_fewest 0 = .ok (.aload_n 0, 1) := by decide +kernel
theorem dX1_fewest_1 : decode cX1_fewest 1 = .ok (.invokevirtual 81, 3) := by decide +kernel
theorem dX1_fewest_4 : decode cX1_fewest 4 = .ok (.iload_n 1, 1) := by decide +kernel
theorem dX1_fewest_5 : decode cX1_fewest 5 = .ok (.invokestatic 71, 3) := by decide +kernel
theorem dX1_fewest_8 : decode cX1_fewest 8 = .ok (.ifCond .eq 13, 3) := by decide +kernel
theorem dX1_fewest_11 : decode cX1_fewest 11 = .ok (.aload_n 0, 1) := by decide +kernel
theorem dX1_fewest_12 : decode cX1_fewest 12 = .ok (.getfield 27, 3) := by decide +kernel
theorem dX1_fewest_15 : decode cX1_fewest 15 = .ok (.iload_n 1, 1) := by decide +kernel
theorem dX1_fewest_16 : decode cX1_fewest 16 = .ok (.iaload, 1) := by decide +kernel
theorem dX1_fewest_17 : decode cX1_fewest 17 = .ok (.iload_n 2, 1) := by decide +kernel
theorem dX1_fewest_18 : decode cX1_fewest 18 = .ok (.if_icmp .ge 6, 3) := by decide +kernel
theorem dX1_fewest_21 : decode cX1_fewest 21 = .ok (.bipush (-6), 2) := by decide +kernel
theorem dX1_fewest_23 : decode cX1_fewest 23 = .ok (.ireturn, 1) := by decide +kernel
theorem dX1_fewest_24 : decode cX1_fewest 24 = .ok (.aload_n 0, 1) := by decide +kernel
theorem dX1_fewest_25 : decode cX1_fewest 25 = .ok (.iload_n 1, 1) := by decide +kernel
theorem dX1_fewest_26 : decode cX1_fewest 26 = .ok (.invokevirtual 88, 3) := by decide +kernel
theorem dX1_fewest_29 : decode cX1_fewest 29 = .ok (.aload_n 0, 1) := by decide +kernel
theorem dX1_fewest_30 : decode cX1_fewest 30 = .ok (.getfield 36, 3) := by decide +kernel
theorem dX1_fewest_33 : decode cX1_fewest 33 = .ok (.lconst 0, 1) := by decide +kernel
theorem dX1_fewest_34 : decode cX1_fewest 34 = .ok (.invokestatic 91, 3) := by decide +kernel
theorem dX1_fewest_37 : decode cX1_fewest 37 = .ok (.aload_n 0, 1) := by decide +kernel
theorem dX1_fewest_38 : decode cX1_fewest 38 = .ok (.iconst 0, 1) := by decide +kernel
theorem dX1_fewest_39 : decode cX1_fewest 39 = .ok (.invokevirtual 97, 3) := by decide +kernel
theorem dX1_fewest_42 : decode cX1_fewest 42 = .ok (.iconst 0, 1) := by decide +kernel
theorem dX1_fewest_43 : decode cX1_fewest 43 = .ok (.istore_n 3, 1) := by decide +kernel
theorem dX1_fewest_44 : decode cX1_fewest 44 = .ok (.iload_n 3, 1) := by decide +kernel
theorem dX1_fewest_45 : decode cX1_fewest 45 = .ok (.bipush 30, 2) := by decide +kernel
theorem dX1_fewest_47 : decode cX1_fewest 47 = .ok (.if_icmp .gt 22, 3) := by decide +kernel
theorem dX1_fewest_50 : decode cX1_fewest 50 = .ok (.aload_n 0, 1) := by decide +kernel
theorem dX1_fewest_51 : decode cX1_fewest 51 = .ok (.iload_n 1, 1) := by decide +kernel
theorem dX1_fewest_52 : decode cX1_fewest 52 = .ok (.iload_n 2, 1) := by decide +kernel
theorem dX1_fewest_53 : decode cX1_fewest 53 = .ok (.invokevirtual 100, 3) := by decide +kernel
theorem dX1_fewest_56 : decode cX1_fewest 56 = .ok (.ifCond .eq 7, 3) := by decide +kernel
theorem dX1_fewest_59 : decode cX1_fewest 59 = .ok (.iload_n 2, 1) := by decide +kernel
theorem dX1_fewest_60 : decode cX1_fewest 60 = .ok (.iload_n 3, 1) := by decide +kernel
theorem dX1_fewest_61 : decode cX1_fewest 61 = .ok (.iadd, 1) := by decide +kernel
theorem dX1_fewest_62 : decode cX1_fewest 62 = .ok (.ireturn, 1) := by decide +kernel
theorem dX1_fewest_63 : decode cX1_fewest 63 = .ok (.iinc 3 1, 3) := by decide +kernel
theorem dX1_fewest_66 : decode cX1_fewest 66 = .ok (.goto (-22), 3) := by decide +kernel
theorem dX1_fewest_69 : decode cX1_fewest 69 = .ok (.bipush (-6), 2) := by decide +kernel
theorem dX1_fewest_71 : decode cX1_fewest 71 = .ok (.ireturn, 1) := by decide +kernel
theorem dX1_setLimits_0 : decode cX1_setLimits 0 = .ok (.iconst 1, 1) := by decide +kernel
theorem dX1_setLimits_1 : decode cX1_setLimits 1 = .ok (.istore_n 2, 1) := by decide +kernel
theorem dX1_setLimits_2 : decode cX1_setLimits 2 = .ok (.iconst 0, 1) := by decide +kernel
theorem dX1_setLimits_3 : decode cX1_setLimits 3 = .ok (.istore_n 3, 1) := by decide +kernel
theorem dX1_setLimits_4 : decode cX1_setLimits 4 = .ok (.iload_n 3, 1) := by decide +kernel
theorem dX1_setLimits_5 : decode cX1_setLimits 5 = .ok (.bipush 6, 2) := by decide +kernel
theorem dX1_setLimits_7 : decode cX1_setLimits 7 = .ok (.if_icmp .ge 48, 3) := by decide +kernel
theorem dX1_setLimits_10 : decode cX1_setLimits 10 = .ok (.aload_n 0, 1) := by decide +kernel
theorem dX1_setLimits_11 : decode cX1_setLimits 11 = .ok (.getfield 30, 3) := by decide +kernel
theorem dX1_setLimits_14 : decode cX1_setLimits 14 = .ok (.iload_n 3, 1) := by decide +kernel
theorem dX1_setLimits_15 : decode cX1_setLimits 15 = .ok (.iload_n 3, 1) := by decide +kernel
theorem dX1_setLimits_16 : decode cX1_setLimits 16 = .ok (.iload_n 1, 1) := by decide +kernel
theorem dX1_setLimits_17 : decode cX1_setLimits 17 = .ok (.if_icmp .ne 7, 3) := by decide +kernel
theorem dX1_setLimits_20 : decode cX1_setLimits 20 = .ok (.iconst 0, 1) := by decide +kernel
theorem dX1_setLimits_21 : decode cX1_setLimits 21 = .ok (.goto 9, 3) := by decide +kernel
theorem dX1_setLimits_24 : decode cX1_setLimits 24 = .ok (.aload_n 0, 1) := by decide +kernel
theorem dX1_setLimits_25 : decode cX1_setLimits 25 = .ok (.getfield 27, 3) := by decide +kernel
theorem dX1_setLimits_28 : decode cX1_setLimits 28 = .ok (.iload_n 3, 1) := by decide +kernel
theorem dX1_setLimits_29 : decode cX1_setLimits 29 = .ok (.iaload, 1) := by decide +kernel
theorem dX1_setLimits_30 : decode cX1_setLimits 30 = .ok (.iastore, 1) := by decide +kernel
theorem dX1_setLimits_31 : decode cX1_setLimits 31 = .ok (.aload_n 0, 1) := by decide +kernel
theorem dX1_setLimits_32 : decode cX1_setLimits 32 = .ok (.getfield 33, 3) := by decide +kernel
theorem dX1_setLimits_35 : decode cX1_setLimits 35 = .ok (.iload_n 3, 1) := by decide +kernel
theorem dX1_setLimits_36 : decode cX1_setLimits 36 = .ok (.iload_n 2, 1) := by decide +kernel
theorem dX1_setLimits_37 : decode cX1_setLimits 37 = .ok (.iastore, 1) := by decide +kernel
theorem dX1_setLimits_38 : decode cX1_setLimits 38 = .ok (.iload_n 2, 1) := by decide +kernel
theorem dX1_setLimits_39 : decode cX1_setLimits 39 = .ok (.aload_n 0, 1) := by decide +kernel
theorem dX1_setLimits_40 : decode cX1_setLimits 40 = .ok (.getfield 30, 3) := by decide +kernel
theorem dX1_setLimits_43 : decode cX1_setLimits 43 = .ok (.iload_n 3, 1) := by decide +kernel
theorem dX1_setLimits_44 : decode cX1_setLimits 44 = .ok (.iaload, 1) := by decide +kernel
theorem dX1_setLimits_45 : decode cX1_setLimits 45 = .ok (.iconst 1, 1) := by decide +kernel
theorem dX1_setLimits_46 : decode cX1_setLimits 46 = .ok (.iadd, 1) := by decide +kernel
theorem dX1_setLimits_47 : decode cX1_setLimits 47 = .ok (.imul, 1) := by decide +kernel
theorem dX1_setLimits_48 : decode cX1_setLimits 48 = .ok (.istore_n 2, 1) := by decide +kernel
theorem dX1_setLimits_49 : decode cX1_setLimits 49 = .ok (.iinc 3 1, 3) := by decide +kernel
theorem dX1_setLimits_52 : decode cX1_setLimits 52 = .ok (.goto (-48), 3) := by decide +kernel
theorem dX1_setLimits_55 : decode cX1_setLimits 55 = .ok (.aload_n 0, 1) := by decide +kernel
theorem dX1_setLimits_56 : decode cX1_setLimits 56 = .ok (.iload_n 2, 1) := by decide +kernel
theorem dX1_setLimits_57 : decode cX1_setLimits 57 = .ok (.bipush 64, 2) := by decide +kernel
theorem dX1_setLimits_59 : decode cX1_setLimits 59 = .ok (.iadd, 1) := by decide +kernel
theorem dX1_setLimits_60 : decode cX1_setLimits 60 = .ok (.iconst 1, 1) := by decide +kernel
theorem dX1_setLimits_61 : decode cX1_setLimits 61 = .ok (.isub, 1) := by decide +kernel
theorem dX1_setLimits_62 : decode cX1_setLimits 62 = .ok (.bipush 64, 2) := by decide +kernel
theorem dX1_setLimits_64 : decode cX1_setLimits 64 = .ok (.idiv, 1) := by decide +kernel
theorem dX1_setLimits_65 : decode cX1_setLimits 65 = .ok (.bipush 122, 2) := by decide +kernel
theorem dX1_setLimits_67 : decode cX1_setLimits 67 = .ok (.invokestatic 104, 3) := by decide +kernel
theorem dX1_setLimits_70 : decode cX1_setLimits 70 = .ok (.putfield 40, 3) := by decide +kernel
theorem dX1_setLimits_73 : decode cX1_setLimits 73 = .ok (.return_, 1) := by decide +kernel
set_option maxRecDepth 20000 in
theorem ggX1_spread_J13_numberOfTrailingZeros_95d88 : GoodIn wsX1_spread wsJ13_numberOfTrailingZeros_95d88 := goodIn_r _ [6, 7, 8, 9, 10, 11] (by decide +kernel) (by decide +kernel)
set_option maxRecDepth 20000 in
theorem gX1_spread_J13_numberOfTrailingZeros_95d88 : GoodIn wsX1_spread (va_wsS RX1 109 yJ13_numberOfTrailingZeros_95d88 wsJ13_numberOfTrailingZeros_95d88) := goodIn_app (goodIn_of _ (by decide +kernel)) ggX1_spread_J13_numberOfTrailingZeros_95d88
set_option maxRecDepth 20000 in
theorem ggX1_spread_X1_leave : GoodIn wsX1_spread wsX1_leave := goodIn_r _ [16, 17, 18, 19, 20, 21, 22, 15, 23, 24, 25, 26, 27, 28, 29, 30, 31, 32, 33, 34, 35, 36, 37, 38, 39, 40, 41, 42, 43, 44, 45, 46, 47, 48, 49, 50, 51, 52, 53, 54, 55, 2, 56, 57, 58, 59, 60, 61, 62, 63, 64, 65] (by decide +kernel) (by decide +kernel)
set_option maxRecDepth 20000 in
theorem gX1_spread_X1_leave : GoodIn wsX1_spread (wsV RX1 115 RX1 yX1_leave wsX1_leave) := goodIn_app (goodIn_of _ (by decide +kernel)) ggX1_spread_X1_leave
theorem dX1_spread_0 : decode cX1_spread 0 = .ok (.aload_n 0, 1) := by decide +kernel
theorem dX1_spread_1 : decode cX1_spread 1 = .ok (.getfield 40, 3) := by decide +kernel
theorem dX1_spread_4 : decode cX1_spread 4 = .ok (.iconst 1, 1) := by decide +kernel
theorem dX1_spread_5 : decode cX1_spread 5 = .ok (.isub, 1) := by decide +kernel
theorem dX1_spread_6 : decode cX1_spread 6 = .ok (.istore_n 3, 1) := by decide +kernel
theorem dX1_spread_7 : decode cX1_spread 7 = .ok (.iload_n 3, 1) := by decide +kernel
theorem dX1_spread_8 : decode cX1_spread 8 = .ok (.ifCond .lt 81, 3) := by decide +kernel
theorem dX1_spread_11 : decode cX1_spread 11 = .ok (.aload_n 0, 1) := by decide +kernel
theorem dX1_spread_12 : decode cX1_spread 12 = .ok (.getfield 36, 3) := by decide +kernel
theorem dX1_spread_15 : decode cX1_spread 15 = .ok (.iload_n 3, 1) := by decide +kernel
theorem dX1_spread_16 : decode cX1_spread 16 = .ok (.laload, 1) := by decide +kernel
theorem dX1_spread_17 : decode cX1_spread 17 = .ok (.lstore 4, 2) := by decide +kernel
theorem dX1_spread_19 : decode cX1_spread 19 = .ok (.aload_n 0, 1) := by decide +kernel
theorem dX1_spread_20 : decode cX1_spread 20 = .ok (.getfield 36, 3) := by decide +kernel
theorem dX1_spread_23 : decode cX1_spread 23 = .ok (.iload_n 3, 1) := by decide +kernel
theorem dX1_spread_24 : decode cX1_spread 24 = .ok (.lconst 0, 1) := by decide +kernel
theorem dX1_spread_25 : decode cX1_spread 25 = .ok (.lastore, 1) := by decide +kernel
theorem dX1_spread_26 : decode cX1_spread 26 = .ok (.iconst 0, 1) := by decide +kernel
theorem dX1_spread_27 : decode cX1_spread 27 = .ok (.istore 6, 2) := by decide +kernel
theorem dX1_spread_29 : decode cX1_spread 29 = .ok (.iload 6, 2) := by decide +kernel
theorem dX1_spread_31 : decode cX1_spread 31 = .ok (.bipush 64, 2) := by decide +kernel
theorem dX1_spread_33 : decode cX1_spread 33 = .ok (.if_icmp .ge 50, 3) := by decide +kernel
theorem dX1_spread_36 : decode cX1_spread 36 = .ok (.lload 4, 2) := by decide +kernel
theorem dX1_spread_38 : decode cX1_spread 38 = .ok (.lconst 0, 1) := by decide +kernel
theorem dX1_spread_39 : decode cX1_spread 39 = .ok (.lcmp, 1) := by decide +kernel
theorem dX1_spread_40 : decode cX1_spread 40 = .ok (.ifCond .eq 43, 3) := by decide +kernel
theorem dX1_spread_43 : decode cX1_spread 43 = .ok (.lload 4, 2) := by decide +kernel
theorem dX1_spread_45 : decode cX1_spread 45 = .ok (.invokestatic 109, 3) := by decide +kernel
theorem dX1_spread_48 : decode cX1_spread 48 = .ok (.istore 7, 2) := by decide +kernel
theorem dX1_spread_50 : decode cX1_spread 50 = .ok (.lload 4, 2) := by decide +kernel
theorem dX1_spread_52 : decode cX1_spread 52 = .ok (.lload 4, 2) := by decide +kernel
theorem dX1_spread_54 : decode cX1_spread 54 = .ok (.lconst 1, 1) := by decide +kernel
theorem dX1_spread_55 : decode cX1_spread 55 = .ok (.lsub, 1) := by decide +kernel
theorem dX1_spread_56 : decode cX1_spread 56 = .ok (.land, 1) := by decide +kernel
theorem dX1_spread_57 : decode cX1_spread 57 = .ok (.lstore 4, 2) := by decide +kernel
theorem dX1_spread_59 : decode cX1_spread 59 = .ok (.aload_n 0, 1) := by decide +kernel
theorem dX1_spread_60 : decode cX1_spread 60 = .ok (.iload_n 3, 1) := by decide +kernel
theorem dX1_spread_61 : decode cX1_spread 61 = .ok (.bipush 64, 2) := by decide +kernel
theorem dX1_spread_63 : decode cX1_spread 63 = .ok (.imul, 1) := by decide +kernel
theorem dX1_spread_64 : decode cX1_spread 64 = .ok (.iload 7, 2) := by decide +kernel
theorem dX1_spread_66 : decode cX1_spread 66 = .ok (.iadd, 1) := by decide +kernel
theorem dX1_spread_67 : decode cX1_spread 67 = .ok (.iload_n 1, 1) := by decide +kernel
theorem dX1_spread_68 : decode cX1_spread 68 = .ok (.iload_n 2, 1) := by decide +kernel
theorem dX1_spread_69 : decode cX1_spread 69 = .ok (.invokevirtual 115, 3) := by decide +kernel
theorem dX1_spread_72 : decode cX1_spread 72 = .ok (.ifCond .eq 5, 3) := by decide +kernel
theorem dX1_spread_75 : decode cX1_spread 75 = .ok (.iconst 1, 1) := by decide +kernel
theorem dX1_spread_76 : decode cX1_spread 76 = .ok (.ireturn, 1) := by decide +kernel
theorem dX1_spread_77 : decode cX1_spread 77 = .ok (.iinc 6 1, 3) := by decide +kernel
theorem dX1_spread_80 : decode cX1_spread 80 = .ok (.goto (-51), 3) := by decide +kernel
theorem dX1_spread_83 : decode cX1_spread 83 = .ok (.iinc 3 (-1), 3) := by decide +kernel
theorem dX1_spread_86 : decode cX1_spread 86 = .ok (.goto (-79), 3) := by decide +kernel
theorem dX1_spread_89 : decode cX1_spread 89 = .ok (.iconst 0, 1) := by decide +kernel
theorem dX1_spread_90 : decode cX1_spread 90 = .ok (.ireturn, 1) := by decide +kernel
set_option maxRecDepth 20000 in
theorem ggX1_leave_X1_standAt : GoodIn wsX1_leave wsX1_standAt := goodIn_r _ [8, 9, 10, 11, 12, 13, 14, 1, 2, 15, 16, 17, 18, 19, 20, 21, 7, 22, 23, 24, 25, 26, 27, 28, 29, 30, 31, 32, 42, 43, 44, 45, 46, 47, 48, 49, 50, 51] (by decide +kernel) (by decide +kernel)
set_option maxRecDepth 20000 in
theorem gX1_leave_X1_standAt : GoodIn wsX1_leave (wsV RX1 118 RX1 yX1_standAt wsX1_standAt) := goodIn_app (goodIn_of _ (by decide +kernel)) ggX1_leave_X1_standAt
set_option maxRecDepth 20000 in
theorem ggX1_leave_X1_canPay : GoodIn wsX1_leave wsX1_canPay := goodIn_r _ [36, 10, 23, 1, 25, 26, 27, 7, 28, 29, 42, 43, 44, 45, 46, 47, 48, 49, 50, 51] (by decide +kernel) (by decide +kernel)
set_option maxRecDepth 20000 in
theorem gX1_leave_X1_canPay : GoodIn wsX1_leave (wsV RX1 74 RX1 yX1_canPay wsX1_canPay) := goodIn_app (goodIn_of _ (by decide +kernel)) ggX1_leave_X1_canPay
set_option maxRecDepth 20000 in
theorem ggX1_leave_X1_pay : GoodIn wsX1_leave wsX1_pay := goodIn_r _ [22, 1, 10, 23, 24, 25, 26, 27, 7, 28, 29, 30, 31, 32, 42, 43, 44, 45, 46, 47, 48, 49, 50, 51] (by decide +kernel) (by decide +kernel)
set_option maxRecDepth 20000 in
theorem gX1_leave_X1_pay : GoodIn wsX1_leave (wsV RX1 77 RX1 yX1_pay wsX1_pay) := goodIn_app (goodIn_of _ (by decide +kernel)) ggX1_leave_X1_pay
set_option maxRecDepth 20000 in
theorem ggX1_leave_X1_mark : GoodIn wsX1_leave wsX1_mark := goodIn_r _ [40, 41, 42, 43, 44, 45, 46, 47, 48, 49, 50, 51] (by decide +kernel) (by decide +kernel)
set_option maxRecDepth 20000 in
theorem gX1_leave_X1_mark : GoodIn wsX1_leave (wsV RX1 97 RX1 yX1_mark wsX1_mark) := goodIn_app (goodIn_of _ (by decide +kernel)) ggX1_leave_X1_mark
theorem dX1_leave_0 : decode cX1_leave 0 = .ok (.aload_n 0, 1) := by decide +kernel
theorem dX1_leave_1 : decode cX1_leave 1 = .ok (.iload_n 1, 1) := by decide +kernel
theorem dX1_leave_2 : decode cX1_leave 2 = .ok (.invokevirtual 118, 3) := by decide +kernel
theorem dX1_leave_5 : decode cX1_leave 5 = .ok (.iconst 0, 1) := by decide +kernel
theorem dX1_leave_6 : decode cX1_leave 6 = .ok (.istore 4, 2) := by decide +kernel
theorem dX1_leave_8 : decode cX1_leave 8 = .ok (.iload 4, 2) := by decide +kernel
theorem dX1_leave_10 : decode cX1_leave 10 = .ok (.iload_n 3, 1) := by decide +kernel
theorem dX1_leave_11 : decode cX1_leave 11 = .ok (.if_icmp .ge 22, 3) := by decide +kernel
theorem dX1_leave_14 : decode cX1_leave 14 = .ok (.aload_n 0, 1) := by decide +kernel
theorem dX1_leave_15 : decode cX1_leave 15 = .ok (.iload_n 2, 1) := by decide +kernel
theorem dX1_leave_16 : decode cX1_leave 16 = .ok (.invokevirtual 74, 3) := by decide +kernel
theorem dX1_leave_19 : decode cX1_leave 19 = .ok (.ifCond .eq 14, 3) := by decide +kernel
theorem dX1_leave_22 : decode cX1_leave 22 = .ok (.aload_n 0, 1) := by decide +kernel
theorem dX1_leave_23 : decode cX1_leave 23 = .ok (.iload_n 2, 1) := by decide +kernel
theorem dX1_leave_24 : decode cX1_leave 24 = .ok (.invokevirtual 77, 3) := by decide +kernel
theorem dX1_leave_27 : decode cX1_leave 27 = .ok (.iinc 4 1, 3) := by decide +kernel
theorem dX1_leave_30 : decode cX1_leave 30 = .ok (.goto (-22), 3) := by decide +kernel
theorem dX1_leave_33 : decode cX1_leave 33 = .ok (.aload_n 0, 1) := by decide +kernel
theorem dX1_leave_34 : decode cX1_leave 34 = .ok (.getfield 27, 3) := by decide +kernel
theorem dX1_leave_37 : decode cX1_leave 37 = .ok (.iload_n 2, 1) := by decide +kernel
theorem dX1_leave_38 : decode cX1_leave 38 = .ok (.iaload, 1) := by decide +kernel
theorem dX1_leave_39 : decode cX1_leave 39 = .ok (.iload_n 3, 1) := by decide +kernel
theorem dX1_leave_40 : decode cX1_leave 40 = .ok (.if_icmp .lt 5, 3) := by decide +kernel
theorem dX1_leave_43 : decode cX1_leave 43 = .ok (.iconst 1, 1) := by decide +kernel
theorem dX1_leave_44 : decode cX1_leave 44 = .ok (.ireturn, 1) := by decide +kernel
theorem dX1_leave_45 : decode cX1_leave 45 = .ok (.iconst 0, 1) := by decide +kernel
theorem dX1_leave_46 : decode cX1_leave 46 = .ok (.istore 4, 2) := by decide +kernel
theorem dX1_leave_48 : decode cX1_leave 48 = .ok (.iload 4, 2) := by decide +kernel
theorem dX1_leave_50 : decode cX1_leave 50 = .ok (.bipush 6, 2) := by decide +kernel
theorem dX1_leave_52 : decode cX1_leave 52 = .ok (.if_icmp .ge 48, 3) := by decide +kernel
theorem dX1_leave_55 : decode cX1_leave 55 = .ok (.aload_n 0, 1) := by decide +kernel
theorem dX1_leave_56 : decode cX1_leave 56 = .ok (.getfield 27, 3) := by decide +kernel
theorem dX1_leave_59 : decode cX1_leave 59 = .ok (.iload 4, 2) := by decide +kernel
theorem dX1_leave_61 : decode cX1_leave 61 = .ok (.iaload, 1) := by decide +kernel
theorem dX1_leave_62 : decode cX1_leave 62 = .ok (.aload_n 0, 1) := by decide +kernel
theorem dX1_leave_63 : decode cX1_leave 63 = .ok (.getfield 30, 3) := by decide +kernel
theorem dX1_leave_66 : decode cX1_leave 66 = .ok (.iload 4, 2) := by decide +kernel
theorem dX1_leave_68 : decode cX1_leave 68 = .ok (.iaload, 1) := by decide +kernel
theorem dX1_leave_69 : decode cX1_leave 69 = .ok (.if_icmp .ge 25, 3) := by decide +kernel
theorem dX1_leave_72 : decode cX1_leave 72 = .ok (.aload_n 0, 1) := by decide +kernel
theorem dX1_leave_73 : decode cX1_leave 73 = .ok (.iload 4, 2) := by decide +kernel
theorem dX1_leave_75 : decode cX1_leave 75 = .ok (.invokevirtual 74, 3) := by decide +kernel
theorem dX1_leave_78 : decode cX1_leave 78 = .ok (.ifCond .eq 16, 3) := by decide +kernel
theorem dX1_leave_81 : decode cX1_leave 81 = .ok (.aload_n 0, 1) := by decide +kernel
theorem dX1_leave_82 : decode cX1_leave 82 = .ok (.iload_n 1, 1) := by decide +kernel
theorem dX1_leave_83 : decode cX1_leave 83 = .ok (.aload_n 0, 1) := by decide +kernel
theorem dX1_leave_84 : decode cX1_leave 84 = .ok (.getfield 33, 3) := by decide +kernel
theorem dX1_leave_87 : decode cX1_leave 87 = .ok (.iload 4, 2) := by decide +kernel
theorem dX1_leave_89 : decode cX1_leave 89 = .ok (.iaload, 1) := by decide +kernel
theorem dX1_leave_90 : decode cX1_leave 90 = .ok (.iadd, 1) := by decide +kernel
theorem dX1_leave_91 : decode cX1_leave 91 = .ok (.invokevirtual 97, 3) := by decide +kernel
theorem dX1_leave_94 : decode cX1_leave 94 = .ok (.iinc 4 1, 3) := by decide +kernel
theorem dX1_leave_97 : decode cX1_leave 97 = .ok (.goto (-49), 3) := by decide +kernel
theorem dX1_leave_100 : decode cX1_leave 100 = .ok (.iconst 0, 1) := by decide +kernel
theorem dX1_leave_101 : decode cX1_leave 101 = .ok (.ireturn, 1) := by decide +kernel
set_option maxRecDepth 20000 in
theorem ggX1_standAt_J7_fill_53178 : GoodIn wsX1_standAt wsJ7_fill_53178 := goodIn_r _ [12] (by decide +kernel) (by decide +kernel)
set_option maxRecDepth 20000 in
theorem gX1_standAt_J7_fill_53178 : GoodIn wsX1_standAt (va_wsS RX1 127 yJ7_fill_53178 wsJ7_fill_53178) := goodIn_app (goodIn_of _ (by decide +kernel)) ggX1_standAt_J7_fill_53178
set_option maxRecDepth 20000 in
theorem ggX1_standAt_X1_pay : GoodIn wsX1_standAt wsX1_pay := goodIn_r _ [17, 7, 2, 18, 19, 20, 21, 22, 16, 23, 24, 25, 26, 27, 28, 29, 30, 31, 32, 33, 34, 35, 36, 37] (by decide +kernel) (by decide +kernel)
set_option maxRecDepth 20000 in
theorem gX1_standAt_X1_pay : GoodIn wsX1_standAt (wsV RX1 77 RX1 yX1_pay wsX1_pay) := goodIn_app (goodIn_of _ (by decide +kernel)) ggX1_standAt_X1_pay
theorem dX1_standAt_0 : decode cX1_standAt 0 = .ok (.aload_n 0, 1) := by decide +kernel
theorem dX1_standAt_1 : decode cX1_standAt 1 = .ok (.getfield 11, 3) := by decide +kernel
theorem dX1_standAt_4 : decode cX1_standAt 4 = .ok (.iconst 0, 1) := by decide +kernel
theorem dX1_standAt_5 : decode cX1_standAt 5 = .ok (.aload_n 0, 1) := by decide +kernel
theorem dX1_standAt_6 : decode cX1_standAt 6 = .ok (.getfield 15, 3) := by decide +kernel
theorem dX1_standAt_9 : decode cX1_standAt 9 = .ok (.iconst 0, 1) := by decide +kernel
theorem dX1_standAt_10 : decode cX1_standAt 10 = .ok (.bipush 6, 2) := by decide +kernel
theorem dX1_standAt_12 : decode cX1_standAt 12 = .ok (.invokestatic 121, 3) := by decide +kernel
theorem dX1_standAt_15 : decode cX1_standAt 15 = .ok (.aload_n 0, 1) := by decide +kernel
theorem dX1_standAt_16 : decode cX1_standAt 16 = .ok (.getfield 27, 3) := by decide +kernel
theorem dX1_standAt_19 : decode cX1_standAt 19 = .ok (.iconst 0, 1) := by decide +kernel
theorem dX1_standAt_20 : decode cX1_standAt 20 = .ok (.invokestatic 127, 3) := by decide +kernel
theorem dX1_standAt_23 : decode cX1_standAt 23 = .ok (.iload_n 1, 1) := by decide +kernel
theorem dX1_standAt_24 : decode cX1_standAt 24 = .ok (.istore_n 2, 1) := by decide +kernel
theorem dX1_standAt_25 : decode cX1_standAt 25 = .ok (.iconst 0, 1) := by decide +kernel
theorem dX1_standAt_26 : decode cX1_standAt 26 = .ok (.istore_n 3, 1) := by decide +kernel
theorem dX1_standAt_27 : decode cX1_standAt 27 = .ok (.iload_n 3, 1) := by decide +kernel
theorem dX1_standAt_28 : decode cX1_standAt 28 = .ok (.bipush 6, 2) := by decide +kernel
theorem dX1_standAt_30 : decode cX1_standAt 30 = .ok (.if_icmp .ge 56, 3) := by decide +kernel
theorem dX1_standAt_33 : decode cX1_standAt 33 = .ok (.aload_n 0, 1) := by decide +kernel
theorem dX1_standAt_34 : decode cX1_standAt 34 = .ok (.getfield 30, 3) := by decide +kernel
theorem dX1_standAt_37 : decode cX1_standAt 37 = .ok (.iload_n 3, 1) := by decide +kernel
theorem dX1_standAt_38 : decode cX1_standAt 38 = .ok (.iaload, 1) := by decide +kernel
theorem dX1_standAt_39 : decode cX1_standAt 39 = .ok (.iconst 1, 1) := by decide +kernel
theorem dX1_standAt_40 : decode cX1_standAt 40 = .ok (.iadd, 1) := by decide +kernel
theorem dX1_standAt_41 : decode cX1_standAt 41 = .ok (.istore 4, 2) := by decide +kernel
theorem dX1_standAt_43 : decode cX1_standAt 43 = .ok (.iload 4, 2) := by decide +kernel
theorem dX1_standAt_45 : decode cX1_standAt 45 = .ok (.ifCond .le 35, 3) := by decide +kernel
theorem dX1_standAt_48 : decode cX1_standAt 48 = .ok (.iload_n 2, 1) := by decide +kernel
theorem dX1_standAt_49 : decode cX1_standAt 49 = .ok (.iload 4, 2) := by decide +kernel
theorem dX1_standAt_51 : decode cX1_standAt 51 = .ok (.irem, 1) := by decide +kernel
theorem dX1_standAt_52 : decode cX1_standAt 52 = .ok (.istore 5, 2) := by decide +kernel
theorem dX1_standAt_54 : decode cX1_standAt 54 = .ok (.iload_n 2, 1) := by decide +kernel
theorem dX1_standAt_55 : decode cX1_standAt 55 = .ok (.iload 4, 2) := by decide +kernel
theorem dX1_standAt_57 : decode cX1_standAt 57 = .ok (.idiv, 1) := by decide +kernel
theorem dX1_standAt_58 : decode cX1_standAt 58 = .ok (.istore_n 2, 1) := by decide +kernel
theorem dX1_standAt_59 : decode cX1_standAt 59 = .ok (.iconst 0, 1) := by decide +kernel
theorem dX1_standAt_60 : decode cX1_standAt 60 = .ok (.istore 6, 2) := by decide +kernel
theorem dX1_standAt_62 : decode cX1_standAt 62 = .ok (.iload 6, 2) := by decide +kernel
theorem dX1_standAt_64 : decode cX1_standAt 64 = .ok (.iload 5, 2) := by decide +kernel
theorem dX1_standAt_66 : decode cX1_standAt 66 = .ok (.if_icmp .ge 14, 3) := by decide +kernel
theorem dX1_standAt_69 : decode cX1_standAt 69 = .ok (.aload_n 0, 1) := by decide +kernel
theorem dX1_standAt_70 : decode cX1_standAt 70 = .ok (.iload_n 3, 1) := by decide +kernel
theorem dX1_standAt_71 : decode cX1_standAt 71 = .ok (.invokevirtual 77, 3) := by decide +kernel
theorem dX1_standAt_74 : decode cX1_standAt 74 = .ok (.iinc 6 1, 3) := by decide +kernel
theorem dX1_standAt_77 : decode cX1_standAt 77 = .ok (.goto (-15), 3) := by decide +kernel
theorem dX1_standAt_80 : decode cX1_standAt 80 = .ok (.iinc 3 1, 3) := by decide +kernel
theorem dX1_standAt_83 : decode cX1_standAt 83 = .ok (.goto (-56), 3) := by decide +kernel
theorem dX1_standAt_86 : decode cX1_standAt 86 = .ok (.return_, 1) := by decide +kernel
theorem dX1_mark_0 : decode cX1_mark 0 = .ok (.iload_n 1, 1) := by decide +kernel
theorem dX1_mark_1 : decode cX1_mark 1 = .ok (.ifCond .lt 28, 3) := by decide +kernel
theorem dX1_mark_4 : decode cX1_mark 4 = .ok (.iload_n 1, 1) := by decide +kernel
theorem dX1_mark_5 : decode cX1_mark 5 = .ok (.sipush 7776, 3) := by decide +kernel
theorem dX1_mark_8 : decode cX1_mark 8 = .ok (.if_icmp .ge 21, 3) := by decide +kernel
theorem dX1_mark_11 : decode cX1_mark 11 = .ok (.aload_n 0, 1) := by decide +kernel
theorem dX1_mark_12 : decode cX1_mark 12 = .ok (.getfield 36, 3) := by decide +kernel
theorem dX1_mark_15 : decode cX1_mark 15 = .ok (.iload_n 1, 1) := by decide +kernel
theorem dX1_mark_16 : decode cX1_mark 16 = .ok (.bipush 64, 2) := by decide +kernel
theorem dX1_mark_18 : decode cX1_mark 18 = .ok (.idiv, 1) := by decide +kernel
theorem dX1_mark_19 : decode cX1_mark 19 = .ok (.dup2, 1) := by decide +kernel
theorem dX1_mark_20 : decode cX1_mark 20 = .ok (.laload, 1) := by decide +kernel
theorem dX1_mark_21 : decode cX1_mark 21 = .ok (.lconst 1, 1) := by decide +kernel
theorem dX1_mark_22 : decode cX1_mark 22 = .ok (.iload_n 1, 1) := by decide +kernel
theorem dX1_mark_23 : decode cX1_mark 23 = .ok (.bipush 64, 2) := by decide +kernel
theorem dX1_mark_25 : decode cX1_mark 25 = .ok (.irem, 1) := by decide +kernel
theorem dX1_mark_26 : decode cX1_mark 26 = .ok (.lshl, 1) := by decide +kernel
theorem dX1_mark_27 : decode cX1_mark 27 = .ok (.lor, 1) := by decide +kernel
theorem dX1_mark_28 : decode cX1_mark 28 = .ok (.lastore, 1) := by decide +kernel
theorem dX1_mark_29 : decode cX1_mark 29 = .ok (.return_, 1) := by decide +kernel
