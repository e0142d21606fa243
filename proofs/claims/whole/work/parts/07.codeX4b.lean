theorem dX4_layTurns_92 : decode cX4_layTurns 92 = .ok (.goto 4, 3) := by decide +kernel
theorem dX4_layTurns_95 : decode cX4_layTurns 95 = .ok (.iconst 0, 1) := by decide +kernel
theorem dX4_layTurns_96 : decode cX4_layTurns 96 = .ok (.istore 6, 2) := by decide +kernel
theorem dX4_layTurns_98 : decode cX4_layTurns 98 = .ok (.iload_n 2, 1) := by decide +kernel
theorem dX4_layTurns_99 : decode cX4_layTurns 99 = .ok (.iload 5, 2) := by decide +kernel
theorem dX4_layTurns_101 : decode cX4_layTurns 101 = .ok (.invokestatic 132, 3) := by decide +kernel
theorem dX4_layTurns_104 : decode cX4_layTurns 104 = .ok (.ifCond .ne 13, 3) := by decide +kernel
theorem dX4_layTurns_107 : decode cX4_layTurns 107 = .ok (.iload 6, 2) := by decide +kernel
theorem dX4_layTurns_109 : decode cX4_layTurns 109 = .ok (.ifCond .eq 8, 3) := by decide +kernel
theorem dX4_layTurns_112 : decode cX4_layTurns 112 = .ok (.iload 5, 2) := by decide +kernel
theorem dX4_layTurns_114 : decode cX4_layTurns 114 = .ok (.goto 5, 3) := by decide +kernel
theorem dX4_layTurns_117 : decode cX4_layTurns 117 = .ok (.iload 4, 2) := by decide +kernel
theorem dX4_layTurns_119 : decode cX4_layTurns 119 = .ok (.istore 4, 2) := by decide +kernel
theorem dX4_layTurns_121 : decode cX4_layTurns 121 = .ok (.iinc 5 (-1), 3) := by decide +kernel
theorem dX4_layTurns_124 : decode cX4_layTurns 124 = .ok (.goto (-88), 3) := by decide +kernel
theorem dX4_layTurns_127 : decode cX4_layTurns 127 = .ok (.iload_n 2, 1) := by decide +kernel
theorem dX4_layTurns_128 : decode cX4_layTurns 128 = .ok (.iconst 1, 1) := by decide +kernel
theorem dX4_layTurns_129 : decode cX4_layTurns 129 = .ok (.iload 4, 2) := by decide +kernel
theorem dX4_layTurns_131 : decode cX4_layTurns 131 = .ok (.ishl, 1) := by decide +kernel
theorem dX4_layTurns_132 : decode cX4_layTurns 132 = .ok (.ior, 1) := by decide +kernel
theorem dX4_layTurns_133 : decode cX4_layTurns 133 = .ok (.istore_n 2, 1) := by decide +kernel
theorem dX4_layTurns_134 : decode cX4_layTurns 134 = .ok (.aload_n 0, 1) := by decide +kernel
theorem dX4_layTurns_135 : decode cX4_layTurns 135 = .ok (.getfield 34, 3) := by decide +kernel
theorem dX4_layTurns_138 : decode cX4_layTurns 138 = .ok (.iconst 5, 1) := by decide +kernel
theorem dX4_layTurns_139 : decode cX4_layTurns 139 = .ok (.iload_n 1, 1) := by decide +kernel
theorem dX4_layTurns_140 : decode cX4_layTurns 140 = .ok (.imul, 1) := by decide +kernel
theorem dX4_layTurns_141 : decode cX4_layTurns 141 = .ok (.iload_n 3, 1) := by decide +kernel
theorem dX4_layTurns_142 : decode cX4_layTurns 142 = .ok (.iadd, 1) := by decide +kernel
theorem dX4_layTurns_143 : decode cX4_layTurns 143 = .ok (.iload 4, 2) := by decide +kernel
theorem dX4_layTurns_145 : decode cX4_layTurns 145 = .ok (.iastore, 1) := by decide +kernel
theorem dX4_layTurns_146 : decode cX4_layTurns 146 = .ok (.iinc 3 1, 3) := by decide +kernel
theorem dX4_layTurns_149 : decode cX4_layTurns 149 = .ok (.goto (-137), 3) := by decide +kernel
theorem dX4_layTurns_152 : decode cX4_layTurns 152 = .ok (.iinc 1 1, 3) := by decide +kernel
theorem dX4_layTurns_155 : decode cX4_layTurns 155 = .ok (.goto (-153), 3) := by decide +kernel
theorem dX4_layTurns_158 : decode cX4_layTurns 158 = .ok (.return_, 1) := by decide +kernel
theorem dX4_paidOf_0 : decode cX4_paidOf 0 = .ok (.iload_n 1, 1) := by decide +kernel
theorem dX4_paidOf_1 : decode cX4_paidOf 1 = .ok (.aload_n 0, 1) := by decide +kernel
theorem dX4_paidOf_2 : decode cX4_paidOf 2 = .ok (.getfield 37, 3) := by decide +kernel
theorem dX4_paidOf_5 : decode cX4_paidOf 5 = .ok (.iload_n 2, 1) := by decide +kernel
theorem dX4_paidOf_6 : decode cX4_paidOf 6 = .ok (.iaload, 1) := by decide +kernel
theorem dX4_paidOf_7 : decode cX4_paidOf 7 = .ok (.idiv, 1) := by decide +kernel
theorem dX4_paidOf_8 : decode cX4_paidOf 8 = .ok (.bipush 6, 2) := by decide +kernel
theorem dX4_paidOf_10 : decode cX4_paidOf 10 = .ok (.irem, 1) := by decide +kernel
theorem dX4_paidOf_11 : decode cX4_paidOf 11 = .ok (.ireturn, 1) := by decide +kernel
set_option maxRecDepth 20000 in
theorem ggX4_moneyBy_X4_paidOf : GoodIn wsX4_moneyBy wsX4_paidOf := goodIn_r _ [8, 9, 13, 14, 15, 16, 17, 18, 19, 20, 21, 22, 23, 24, 25, 26, 27, 28, 29, 30, 31, 32, 33] (by decide +kernel) (by decide +kernel)
set_option maxRecDepth 20000 in
theorem gX4_moneyBy_X4_paidOf : GoodIn wsX4_moneyBy (wsV RX4 135 RX4 yX4_paidOf wsX4_paidOf) := goodIn_app (goodIn_of _ (by decide +kernel)) ggX4_moneyBy_X4_paidOf
set_option maxRecDepth 20000 in
theorem ggX4_moneyBy_X4_at : GoodIn wsX4_moneyBy wsX4_at := goodIn_r _ [12] (by decide +kernel) (by decide +kernel)
set_option maxRecDepth 20000 in
theorem gX4_moneyBy_X4_at : GoodIn wsX4_moneyBy (va_wsS RX4 79 yX4_at wsX4_at) := goodIn_app (goodIn_of _ (by decide +kernel)) ggX4_moneyBy_X4_at
theorem dX4_moneyBy_0 : decode cX4_moneyBy 0 = .ok (.aload_n 0, 1) := by decide +kernel
theorem dX4_moneyBy_1 : decode cX4_moneyBy 1 = .ok (.getfield 7, 3) := by decide +kernel
theorem dX4_moneyBy_4 : decode cX4_moneyBy 4 = .ok (.iload_n 2, 1) := by decide +kernel
theorem dX4_moneyBy_5 : decode cX4_moneyBy 5 = .ok (.iaload, 1) := by decide +kernel
theorem dX4_moneyBy_6 : decode cX4_moneyBy 6 = .ok (.istore_n 3, 1) := by decide +kernel
theorem dX4_moneyBy_7 : decode cX4_moneyBy 7 = .ok (.iconst 0, 1) := by decide +kernel
theorem dX4_moneyBy_8 : decode cX4_moneyBy 8 = .ok (.istore 4, 2) := by decide +kernel
theorem dX4_moneyBy_10 : decode cX4_moneyBy 10 = .ok (.iload 4, 2) := by decide +kernel
theorem dX4_moneyBy_12 : decode cX4_moneyBy 12 = .ok (.bipush 6, 2) := by decide +kernel
theorem dX4_moneyBy_14 : decode cX4_moneyBy 14 = .ok (.if_icmp .ge 98, 3) := by decide +kernel
theorem dX4_moneyBy_17 : decode cX4_moneyBy 17 = .ok (.iconst 0, 1) := by decide +kernel
theorem dX4_moneyBy_18 : decode cX4_moneyBy 18 = .ok (.istore 5, 2) := by decide +kernel
theorem dX4_moneyBy_20 : decode cX4_moneyBy 20 = .ok (.iload 5, 2) := by decide +kernel
theorem dX4_moneyBy_22 : decode cX4_moneyBy 22 = .ok (.aload_n 0, 1) := by decide +kernel
theorem dX4_moneyBy_23 : decode cX4_moneyBy 23 = .ok (.iload_n 1, 1) := by decide +kernel
theorem dX4_moneyBy_24 : decode cX4_moneyBy 24 = .ok (.iload 4, 2) := by decide +kernel
theorem dX4_moneyBy_26 : decode cX4_moneyBy 26 = .ok (.invokevirtual 135, 3) := by decide +kernel
theorem dX4_moneyBy_29 : decode cX4_moneyBy 29 = .ok (.if_icmp .ge 77, 3) := by decide +kernel
theorem dX4_moneyBy_32 : decode cX4_moneyBy 32 = .ok (.iload 4, 2) := by decide +kernel
theorem dX4_moneyBy_34 : decode cX4_moneyBy 34 = .ok (.aload_n 0, 1) := by decide +kernel
theorem dX4_moneyBy_35 : decode cX4_moneyBy 35 = .ok (.getfield 34, 3) := by decide +kernel
theorem dX4_moneyBy_38 : decode cX4_moneyBy 38 = .ok (.iconst 5, 1) := by decide +kernel
theorem dX4_moneyBy_39 : decode cX4_moneyBy 39 = .ok (.iload 4, 2) := by decide +kernel
theorem dX4_moneyBy_41 : decode cX4_moneyBy 41 = .ok (.imul, 1) := by decide +kernel
theorem dX4_moneyBy_42 : decode cX4_moneyBy 42 = .ok (.iload 5, 2) := by decide +kernel
theorem dX4_moneyBy_44 : decode cX4_moneyBy 44 = .ok (.iadd, 1) := by decide +kernel
theorem dX4_moneyBy_45 : decode cX4_moneyBy 45 = .ok (.iaload, 1) := by decide +kernel
theorem dX4_moneyBy_46 : decode cX4_moneyBy 46 = .ok (.invokestatic 79, 3) := by decide +kernel
theorem dX4_moneyBy_49 : decode cX4_moneyBy 49 = .ok (.istore 6, 2) := by decide +kernel
theorem dX4_moneyBy_51 : decode cX4_moneyBy 51 = .ok (.iload_n 3, 1) := by decide +kernel
theorem dX4_moneyBy_52 : decode cX4_moneyBy 52 = .ok (.aload_n 0, 1) := by decide +kernel
theorem dX4_moneyBy_53 : decode cX4_moneyBy 53 = .ok (.getfield 16, 3) := by decide +kernel
theorem dX4_moneyBy_56 : decode cX4_moneyBy 56 = .ok (.iload 6, 2) := by decide +kernel
theorem dX4_moneyBy_58 : decode cX4_moneyBy 58 = .ok (.iaload, 1) := by decide +kernel
theorem dX4_moneyBy_59 : decode cX4_moneyBy 59 = .ok (.iload_n 2, 1) := by decide +kernel
theorem dX4_moneyBy_60 : decode cX4_moneyBy 60 = .ok (.if_icmp .ne 15, 3) := by decide +kernel
theorem dX4_moneyBy_63 : decode cX4_moneyBy 63 = .ok (.aload_n 0, 1) := by decide +kernel
theorem dX4_moneyBy_64 : decode cX4_moneyBy 64 = .ok (.getfield 16, 3) := by decide +kernel
theorem dX4_moneyBy_67 : decode cX4_moneyBy 67 = .ok (.iload 6, 2) := by decide +kernel
theorem dX4_moneyBy_69 : decode cX4_moneyBy 69 = .ok (.iconst 1, 1) := by decide +kernel
theorem dX4_moneyBy_70 : decode cX4_moneyBy 70 = .ok (.iadd, 1) := by decide +kernel
theorem dX4_moneyBy_71 : decode cX4_moneyBy 71 = .ok (.iaload, 1) := by decide +kernel
theorem dX4_moneyBy_72 : decode cX4_moneyBy 72 = .ok (.goto 4, 3) := by decide +kernel
theorem dX4_moneyBy_75 : decode cX4_moneyBy 75 = .ok (.iconst 0, 1) := by decide +kernel
theorem dX4_moneyBy_76 : decode cX4_moneyBy 76 = .ok (.iadd, 1) := by decide +kernel
theorem dX4_moneyBy_77 : decode cX4_moneyBy 77 = .ok (.istore_n 3, 1) := by decide +kernel
theorem dX4_moneyBy_78 : decode cX4_moneyBy 78 = .ok (.iload_n 3, 1) := by decide +kernel
theorem dX4_moneyBy_79 : decode cX4_moneyBy 79 = .ok (.iload 4, 2) := by decide +kernel
theorem dX4_moneyBy_81 : decode cX4_moneyBy 81 = .ok (.iload_n 2, 1) := by decide +kernel
theorem dX4_moneyBy_82 : decode cX4_moneyBy 82 = .ok (.if_icmp .ne 15, 3) := by decide +kernel
theorem dX4_moneyBy_85 : decode cX4_moneyBy 85 = .ok (.aload_n 0, 1) := by decide +kernel
theorem dX4_moneyBy_86 : decode cX4_moneyBy 86 = .ok (.getfield 16, 3) := by decide +kernel
theorem dX4_moneyBy_89 : decode cX4_moneyBy 89 = .ok (.iload 6, 2) := by decide +kernel
theorem dX4_moneyBy_91 : decode cX4_moneyBy 91 = .ok (.iconst 1, 1) := by decide +kernel
theorem dX4_moneyBy_92 : decode cX4_moneyBy 92 = .ok (.iadd, 1) := by decide +kernel
theorem dX4_moneyBy_93 : decode cX4_moneyBy 93 = .ok (.iaload, 1) := by decide +kernel
theorem dX4_moneyBy_94 : decode cX4_moneyBy 94 = .ok (.goto 4, 3) := by decide +kernel
theorem dX4_moneyBy_97 : decode cX4_moneyBy 97 = .ok (.iconst 0, 1) := by decide +kernel
theorem dX4_moneyBy_98 : decode cX4_moneyBy 98 = .ok (.isub, 1) := by decide +kernel
theorem dX4_moneyBy_99 : decode cX4_moneyBy 99 = .ok (.istore_n 3, 1) := by decide +kernel
theorem dX4_moneyBy_100 : decode cX4_moneyBy 100 = .ok (.iinc 5 1, 3) := by decide +kernel
theorem dX4_moneyBy_103 : decode cX4_moneyBy 103 = .ok (.goto (-83), 3) := by decide +kernel
theorem dX4_moneyBy_106 : decode cX4_moneyBy 106 = .ok (.iinc 4 1, 3) := by decide +kernel
theorem dX4_moneyBy_109 : decode cX4_moneyBy 109 = .ok (.goto (-99), 3) := by decide +kernel
theorem dX4_moneyBy_112 : decode cX4_moneyBy 112 = .ok (.iload_n 3, 1) := by decide +kernel
theorem dX4_moneyBy_113 : decode cX4_moneyBy 113 = .ok (.ireturn, 1) := by decide +kernel
set_option maxRecDepth 20000 in
theorem ggX4_soon_X4_isDebt : GoodIn wsX4_soon wsX4_isDebt := goodIn_r _ [12, 2, 13, 14, 11, 15, 16, 17, 18, 39, 40, 41, 42, 43, 44, 45, 46, 47, 48, 49, 50, 51, 52, 53, 54, 55, 56, 57, 58, 59] (by decide +kernel) (by decide +kernel)
set_option maxRecDepth 20000 in
theorem gX4_soon_X4_isDebt : GoodIn wsX4_soon (wsV RX4 122 RX4 yX4_isDebt wsX4_isDebt) := goodIn_app (goodIn_of _ (by decide +kernel)) ggX4_soon_X4_isDebt
set_option maxRecDepth 20000 in
theorem ggX4_soon_X4_layTurns : GoodIn wsX4_soon wsX4_layTurns := goodIn_r _ [22, 2, 23, 7, 3, 24, 25, 11, 26, 27, 28, 29, 39, 40, 41, 42, 43, 44, 45, 46, 47, 48, 49, 50, 51, 52, 53, 54, 55, 56, 57, 58, 59] (by decide +kernel) (by decide +kernel)
set_option maxRecDepth 20000 in
theorem gX4_soon_X4_layTurns : GoodIn wsX4_soon (wsV RX4 138 RX4 yX4_layTurns wsX4_layTurns) := goodIn_app (goodIn_of _ (by decide +kernel)) ggX4_soon_X4_layTurns
set_option maxRecDepth 20000 in
theorem ggX4_soon_X4_paidOf : GoodIn wsX4_soon wsX4_paidOf := goodIn_r _ [33, 1, 39, 40, 41, 42, 43, 44, 45, 46, 47, 48, 49, 50, 51, 52, 53, 54, 55, 56, 57, 58, 59] (by decide +kernel) (by decide +kernel)
set_option maxRecDepth 20000 in
theorem gX4_soon_X4_paidOf : GoodIn wsX4_soon (wsV RX4 135 RX4 yX4_paidOf wsX4_paidOf) := goodIn_app (goodIn_of _ (by decide +kernel)) ggX4_soon_X4_paidOf
set_option maxRecDepth 20000 in
theorem ggX4_soon_X4_moneyBy : GoodIn wsX4_soon wsX4_moneyBy := goodIn_r _ [37, 38, 3, 7, 30, 31, 32, 11, 33, 1, 24, 25, 26, 39, 40, 41, 42, 43, 44, 45, 46, 47, 48, 49, 50, 51, 52, 53, 54, 55, 56, 57, 58, 59] (by decide +kernel) (by decide +kernel)
set_option maxRecDepth 20000 in
theorem gX4_soon_X4_moneyBy : GoodIn wsX4_soon (wsV RX4 142 RX4 yX4_moneyBy wsX4_moneyBy) := goodIn_app (goodIn_of _ (by decide +kernel)) ggX4_soon_X4_moneyBy
set_option maxRecDepth 20000 in
theorem ggX4_soon_X4_at : GoodIn wsX4_soon wsX4_at := goodIn_r _ [26] (by decide +kernel) (by decide +kernel)
set_option maxRecDepth 20000 in
theorem gX4_soon_X4_at : GoodIn wsX4_soon (va_wsS RX4 79 yX4_at wsX4_at) := goodIn_app (goodIn_of _ (by decide +kernel)) ggX4_soon_X4_at
theorem dX4_soon_0 : decode cX4_soon 0 = .ok (.aload_n 0, 1) := by decide +kernel
theorem dX4_soon_1 : decode cX4_soon 1 = .ok (.iload_n 1, 1) := by decide +kernel
theorem dX4_soon_2 : decode cX4_soon 2 = .ok (.iload_n 2, 1) := by decide +kernel
theorem dX4_soon_3 : decode cX4_soon 3 = .ok (.invokevirtual 122, 3) := by decide +kernel
theorem dX4_soon_6 : decode cX4_soon 6 = .ok (.ifCond .ne 5, 3) := by decide +kernel
theorem dX4_soon_9 : decode cX4_soon 9 = .ok (.iconst (-1), 1) := by decide +kernel
theorem dX4_soon_10 : decode cX4_soon 10 = .ok (.ireturn, 1) := by decide +kernel
theorem dX4_soon_11 : decode cX4_soon 11 = .ok (.aload_n 0, 1) := by decide +kernel
theorem dX4_soon_12 : decode cX4_soon 12 = .ok (.invokevirtual 138, 3) := by decide +kernel
theorem dX4_soon_15 : decode cX4_soon 15 = .ok (.aload_n 0, 1) := by decide +kernel
theorem dX4_soon_16 : decode cX4_soon 16 = .ok (.getfield 37, 3) := by decide +kernel
theorem dX4_soon_19 : decode cX4_soon 19 = .ok (.iconst 0, 1) := by decide +kernel
theorem dX4_soon_20 : decode cX4_soon 20 = .ok (.iconst 1, 1) := by decide +kernel
theorem dX4_soon_21 : decode cX4_soon 21 = .ok (.iastore, 1) := by decide +kernel
theorem dX4_soon_22 : decode cX4_soon 22 = .ok (.iconst 0, 1) := by decide +kernel
theorem dX4_soon_23 : decode cX4_soon 23 = .ok (.istore_n 3, 1) := by decide +kernel
theorem dX4_soon_24 : decode cX4_soon 24 = .ok (.iload_n 3, 1) := by decide +kernel
theorem dX4_soon_25 : decode cX4_soon 25 = .ok (.bipush 6, 2) := by decide +kernel
theorem dX4_soon_27 : decode cX4_soon 27 = .ok (.if_icmp .ge 26, 3) := by decide +kernel
theorem dX4_soon_30 : decode cX4_soon 30 = .ok (.aload_n 0, 1) := by decide +kernel
theorem dX4_soon_31 : decode cX4_soon 31 = .ok (.getfield 37, 3) := by decide +kernel
theorem dX4_soon_34 : decode cX4_soon 34 = .ok (.iload_n 3, 1) := by decide +kernel
theorem dX4_soon_35 : decode cX4_soon 35 = .ok (.iconst 1, 1) := by decide +kernel
theorem dX4_soon_36 : decode cX4_soon 36 = .ok (.iadd, 1) := by decide +kernel
theorem dX4_soon_37 : decode cX4_soon 37 = .ok (.bipush 6, 2) := by decide +kernel
theorem dX4_soon_39 : decode cX4_soon 39 = .ok (.aload_n 0, 1) := by decide +kernel
theorem dX4_soon_40 : decode cX4_soon 40 = .ok (.getfield 37, 3) := by decide +kernel
theorem dX4_soon_43 : decode cX4_soon 43 = .ok (.iload_n 3, 1) := by decide +kernel
theorem dX4_soon_44 : decode cX4_soon 44 = .ok (.iaload, 1) := by decide +kernel
theorem dX4_soon_45 : decode cX4_soon 45 = .ok (.imul, 1) := by decide +kernel
theorem dX4_soon_46 : decode cX4_soon 46 = .ok (.iastore, 1) := by decide +kernel
theorem dX4_soon_47 : decode cX4_soon 47 = .ok (.iinc 3 1, 3) := by decide +kernel
theorem dX4_soon_50 : decode cX4_soon 50 = .ok (.goto (-26), 3) := by decide +kernel
theorem dX4_soon_53 : decode cX4_soon 53 = .ok (.iconst 0, 1) := by decide +kernel
theorem dX4_soon_54 : decode cX4_soon 54 = .ok (.istore_n 3, 1) := by decide +kernel
theorem dX4_soon_55 : decode cX4_soon 55 = .ok (.iconst 0, 1) := by decide +kernel
theorem dX4_soon_56 : decode cX4_soon 56 = .ok (.istore 4, 2) := by decide +kernel
theorem dX4_soon_58 : decode cX4_soon 58 = .ok (.iload 4, 2) := by decide +kernel
theorem dX4_soon_60 : decode cX4_soon 60 = .ok (.aload_n 0, 1) := by decide +kernel
theorem dX4_soon_61 : decode cX4_soon 61 = .ok (.getfield 13, 3) := by decide +kernel
theorem dX4_soon_64 : decode cX4_soon 64 = .ok (.iload_n 1, 1) := by decide +kernel
theorem dX4_soon_65 : decode cX4_soon 65 = .ok (.iaload, 1) := by decide +kernel
theorem dX4_soon_66 : decode cX4_soon 66 = .ok (.if_icmp .ge 33, 3) := by decide +kernel
theorem dX4_soon_69 : decode cX4_soon 69 = .ok (.aload_n 0, 1) := by decide +kernel
theorem dX4_soon_70 : decode cX4_soon 70 = .ok (.getfield 34, 3) := by decide +kernel
theorem dX4_soon_73 : decode cX4_soon 73 = .ok (.iconst 5, 1) := by decide +kernel
theorem dX4_soon_74 : decode cX4_soon 74 = .ok (.iload_n 1, 1) := by decide +kernel
theorem dX4_soon_75 : decode cX4_soon 75 = .ok (.imul, 1) := by decide +kernel
theorem dX4_soon_76 : decode cX4_soon 76 = .ok (.iload 4, 2) := by decide +kernel
theorem dX4_soon_78 : decode cX4_soon 78 = .ok (.iadd, 1) := by decide +kernel
theorem dX4_soon_79 : decode cX4_soon 79 = .ok (.iaload, 1) := by decide +kernel
theorem dX4_soon_80 : decode cX4_soon 80 = .ok (.iload_n 2, 1) := by decide +kernel
theorem dX4_soon_81 : decode cX4_soon 81 = .ok (.if_icmp .ne 10, 3) := by decide +kernel
theorem dX4_soon_84 : decode cX4_soon 84 = .ok (.iload 4, 2) := by decide +kernel
theorem dX4_soon_86 : decode cX4_soon 86 = .ok (.iconst 1, 1) := by decide +kernel
theorem dX4_soon_87 : decode cX4_soon 87 = .ok (.iadd, 1) := by decide +kernel
theorem dX4_soon_88 : decode cX4_soon 88 = .ok (.goto 4, 3) := by decide +kernel
theorem dX4_soon_91 : decode cX4_soon 91 = .ok (.iload_n 3, 1) := by decide +kernel
theorem dX4_soon_92 : decode cX4_soon 92 = .ok (.istore_n 3, 1) := by decide +kernel
theorem dX4_soon_93 : decode cX4_soon 93 = .ok (.iinc 4 1, 3) := by decide +kernel
theorem dX4_soon_96 : decode cX4_soon 96 = .ok (.goto (-38), 3) := by decide +kernel
theorem dX4_soon_99 : decode cX4_soon 99 = .ok (.iconst 0, 1) := by decide +kernel
theorem dX4_soon_100 : decode cX4_soon 100 = .ok (.istore 4, 2) := by decide +kernel
theorem dX4_soon_102 : decode cX4_soon 102 = .ok (.iload 4, 2) := by decide +kernel
theorem dX4_soon_104 : decode cX4_soon 104 = .ok (.ldc 40, 2) := by decide +kernel
theorem dX4_soon_106 : decode cX4_soon 106 = .ok (.if_icmp .ge 26, 3) := by decide +kernel
theorem dX4_soon_109 : decode cX4_soon 109 = .ok (.aload_n 0, 1) := by decide +kernel
theorem dX4_soon_110 : decode cX4_soon 110 = .ok (.getfield 41, 3) := by decide +kernel
theorem dX4_soon_113 : decode cX4_soon 113 = .ok (.iload 4, 2) := by decide +kernel
theorem dX4_soon_115 : decode cX4_soon 115 = .ok (.iload 4, 2) := by decide +kernel
theorem dX4_soon_117 : decode cX4_soon 117 = .ok (.ifCond .ne 7, 3) := by decide +kernel
theorem dX4_soon_120 : decode cX4_soon 120 = .ok (.iconst 1, 1) := by decide +kernel
theorem dX4_soon_121 : decode cX4_soon 121 = .ok (.goto 4, 3) := by decide +kernel
theorem dX4_soon_124 : decode cX4_soon 124 = .ok (.iconst 0, 1) := by decide +kernel
theorem dX4_soon_125 : decode cX4_soon 125 = .ok (.bastore, 1) := by decide +kernel
theorem dX4_soon_126 : decode cX4_soon 126 = .ok (.iinc 4 1, 3) := by decide +kernel
theorem dX4_soon_129 : decode cX4_soon 129 = .ok (.goto (-27), 3) := by decide +kernel
theorem dX4_soon_132 : decode cX4_soon 132 = .ok (.ldc 141, 2) := by decide +kernel
theorem dX4_soon_134 : decode cX4_soon 134 = .ok (.istore 4, 2) := by decide +kernel
theorem dX4_soon_136 : decode cX4_soon 136 = .ok (.iconst 0, 1) := by decide +kernel
theorem dX4_soon_137 : decode cX4_soon 137 = .ok (.istore 5, 2) := by decide +kernel
theorem dX4_soon_139 : decode cX4_soon 139 = .ok (.iload 5, 2) := by decide +kernel
theorem dX4_soon_141 : decode cX4_soon 141 = .ok (.ldc 40, 2) := by decide +kernel
theorem dX4_soon_143 : decode cX4_soon 143 = .ok (.if_icmp .ge 145, 3) := by decide +kernel
theorem dX4_soon_146 : decode cX4_soon 146 = .ok (.aload_n 0, 1) := by decide +kernel
theorem dX4_soon_147 : decode cX4_soon 147 = .ok (.getfield 41, 3) := by decide +kernel
theorem dX4_soon_150 : decode cX4_soon 150 = .ok (.iload 5, 2) := by decide +kernel
theorem dX4_soon_152 : decode cX4_soon 152 = .ok (.baload, 1) := by decide +kernel
theorem dX4_soon_153 : decode cX4_soon 153 = .ok (.ifCond .eq 129, 3) := by decide +kernel
theorem dX4_soon_156 : decode cX4_soon 156 = .ok (.iconst 0, 1) := by decide +kernel
theorem dX4_soon_157 : decode cX4_soon 157 = .ok (.istore 6, 2) := by decide +kernel
theorem dX4_soon_159 : decode cX4_soon 159 = .ok (.iconst 0, 1) := by decide +kernel
theorem dX4_soon_160 : decode cX4_soon 160 = .ok (.istore 7, 2) := by decide +kernel
theorem dX4_soon_162 : decode cX4_soon 162 = .ok (.iload 7, 2) := by decide +kernel
theorem dX4_soon_164 : decode cX4_soon 164 = .ok (.bipush 6, 2) := by decide +kernel
theorem dX4_soon_166 : decode cX4_soon 166 = .ok (.if_icmp .ge 89, 3) := by decide +kernel
theorem dX4_soon_169 : decode cX4_soon 169 = .ok (.aload_n 0, 1) := by decide +kernel
theorem dX4_soon_170 : decode cX4_soon 170 = .ok (.iload 5, 2) := by decide +kernel
theorem dX4_soon_172 : decode cX4_soon 172 = .ok (.iload 7, 2) := by decide +kernel
theorem dX4_soon_174 : decode cX4_soon 174 = .ok (.invokevirtual 135, 3) := by decide +kernel
theorem dX4_soon_177 : decode cX4_soon 177 = .ok (.istore 8, 2) := by decide +kernel
theorem dX4_soon_179 : decode cX4_soon 179 = .ok (.iload 6, 2) := by decide +kernel
theorem dX4_soon_181 : decode cX4_soon 181 = .ok (.iload 8, 2) := by decide +kernel
theorem dX4_soon_183 : decode cX4_soon 183 = .ok (.iadd, 1) := by decide +kernel
theorem dX4_soon_184 : decode cX4_soon 184 = .ok (.istore 6, 2) := by decide +kernel
theorem dX4_soon_186 : decode cX4_soon 186 = .ok (.iload 8, 2) := by decide +kernel
theorem dX4_soon_188 : decode cX4_soon 188 = .ok (.aload_n 0, 1) := by decide +kernel
theorem dX4_soon_189 : decode cX4_soon 189 = .ok (.getfield 13, 3) := by decide +kernel
theorem dX4_soon_192 : decode cX4_soon 192 = .ok (.iload 7, 2) := by decide +kernel
theorem dX4_soon_194 : decode cX4_soon 194 = .ok (.iaload, 1) := by decide +kernel
theorem dX4_soon_195 : decode cX4_soon 195 = .ok (.if_icmp .ge 54, 3) := by decide +kernel
theorem dX4_soon_198 : decode cX4_soon 198 = .ok (.aload_n 0, 1) := by decide +kernel
theorem dX4_soon_199 : decode cX4_soon 199 = .ok (.iload 5, 2) := by decide +kernel
theorem dX4_soon_201 : decode cX4_soon 201 = .ok (.iload 7, 2) := by decide +kernel
theorem dX4_soon_203 : decode cX4_soon 203 = .ok (.invokevirtual 142, 3) := by decide +kernel
theorem dX4_soon_206 : decode cX4_soon 206 = .ok (.aload_n 0, 1) := by decide +kernel
theorem dX4_soon_207 : decode cX4_soon 207 = .ok (.getfield 16, 3) := by decide +kernel
theorem dX4_soon_210 : decode cX4_soon 210 = .ok (.iload 7, 2) := by decide +kernel
theorem dX4_soon_212 : decode cX4_soon 212 = .ok (.aload_n 0, 1) := by decide +kernel
theorem dX4_soon_213 : decode cX4_soon 213 = .ok (.getfield 34, 3) := by decide +kernel
theorem dX4_soon_216 : decode cX4_soon 216 = .ok (.iconst 5, 1) := by decide +kernel
theorem dX4_soon_217 : decode cX4_soon 217 = .ok (.iload 7, 2) := by decide +kernel
theorem dX4_soon_219 : decode cX4_soon 219 = .ok (.imul, 1) := by decide +kernel
theorem dX4_soon_220 : decode cX4_soon 220 = .ok (.iload 8, 2) := by decide +kernel
theorem dX4_soon_222 : decode cX4_soon 222 = .ok (.iadd, 1) := by decide +kernel
theorem dX4_soon_223 : decode cX4_soon 223 = .ok (.iaload, 1) := by decide +kernel
theorem dX4_soon_224 : decode cX4_soon 224 = .ok (.invokestatic 79, 3) := by decide +kernel
theorem dX4_soon_227 : decode cX4_soon 227 = .ok (.iconst 1, 1) := by decide +kernel
theorem dX4_soon_228 : decode cX4_soon 228 = .ok (.iadd, 1) := by decide +kernel
theorem dX4_soon_229 : decode cX4_soon 229 = .ok (.iaload, 1) := by decide +kernel
theorem dX4_soon_230 : decode cX4_soon 230 = .ok (.if_icmp .lt 19, 3) := by decide +kernel
theorem dX4_soon_233 : decode cX4_soon 233 = .ok (.aload_n 0, 1) := by decide +kernel
theorem dX4_soon_234 : decode cX4_soon 234 = .ok (.getfield 41, 3) := by decide +kernel
theorem dX4_soon_237 : decode cX4_soon 237 = .ok (.iload 5, 2) := by decide +kernel
theorem dX4_soon_239 : decode cX4_soon 239 = .ok (.aload_n 0, 1) := by decide +kernel
theorem dX4_soon_240 : decode cX4_soon 240 = .ok (.getfield 37, 3) := by decide +kernel
theorem dX4_soon_243 : decode cX4_soon 243 = .ok (.iload 7, 2) := by decide +kernel
theorem dX4_soon_245 : decode cX4_soon 245 = .ok (.iaload, 1) := by decide +kernel
theorem dX4_soon_246 : decode cX4_soon 246 = .ok (.iadd, 1) := by decide +kernel
theorem dX4_soon_247 : decode cX4_soon 247 = .ok (.iconst 1, 1) := by decide +kernel
theorem dX4_soon_248 : decode cX4_soon 248 = .ok (.bastore, 1) := by decide +kernel
theorem dX4_soon_249 : decode cX4_soon 249 = .ok (.iinc 7 1, 3) := by decide +kernel
theorem dX4_soon_252 : decode cX4_soon 252 = .ok (.goto (-90), 3) := by decide +kernel
theorem dX4_soon_255 : decode cX4_soon 255 = .ok (.aload_n 0, 1) := by decide +kernel
theorem dX4_soon_256 : decode cX4_soon 256 = .ok (.iload 5, 2) := by decide +kernel
theorem dX4_soon_258 : decode cX4_soon 258 = .ok (.iload_n 1, 1) := by decide +kernel
theorem dX4_soon_259 : decode cX4_soon 259 = .ok (.invokevirtual 135, 3) := by decide +kernel
theorem dX4_soon_262 : decode cX4_soon 262 = .ok (.iload_n 3, 1) := by decide +kernel
theorem dX4_soon_263 : decode cX4_soon 263 = .ok (.if_icmp .lt 15, 3) := by decide +kernel
theorem dX4_soon_266 : decode cX4_soon 266 = .ok (.iload 6, 2) := by decide +kernel
theorem dX4_soon_268 : decode cX4_soon 268 = .ok (.iload 4, 2) := by decide +kernel
theorem dX4_soon_270 : decode cX4_soon 270 = .ok (.if_icmp .ge 8, 3) := by decide +kernel
theorem dX4_soon_273 : decode cX4_soon 273 = .ok (.iload 6, 2) := by decide +kernel
theorem dX4_soon_275 : decode cX4_soon 275 = .ok (.goto 5, 3) := by decide +kernel
theorem dX4_soon_278 : decode cX4_soon 278 = .ok (.iload 4, 2) := by decide +kernel
theorem dX4_soon_280 : decode cX4_soon 280 = .ok (.istore 4, 2) := by decide +kernel
theorem dX4_soon_282 : decode cX4_soon 282 = .ok (.iinc 5 1, 3) := by decide +kernel
theorem dX4_soon_285 : decode cX4_soon 285 = .ok (.goto (-146), 3) := by decide +kernel
theorem dX4_soon_288 : decode cX4_soon 288 = .ok (.iload 4, 2) := by decide +kernel
theorem dX4_soon_290 : decode cX4_soon 290 = .ok (.ldc 141, 2) := by decide +kernel
theorem dX4_soon_292 : decode cX4_soon 292 = .ok (.if_icmp .ne 8, 3) := by decide +kernel
theorem dX4_soon_295 : decode cX4_soon 295 = .ok (.bipush (-6), 2) := by decide +kernel
theorem dX4_soon_297 : decode cX4_soon 297 = .ok (.goto 5, 3) := by decide +kernel
theorem dX4_soon_300 : decode cX4_soon 300 = .ok (.iload 4, 2) := by decide +kernel
theorem dX4_soon_302 : decode cX4_soon 302 = .ok (.ireturn, 1) := by decide +kernel
set_option maxRecDepth 20000 in
theorem ggX4_payAll_X4_canPay : GoodIn wsX4_payAll wsX4_canPay := goodIn_r _ [5, 6, 7, 8, 9, 4, 10, 11, 12, 13, 14, 15, 16, 17, 18, 19, 20, 29, 30, 31, 32, 33, 34, 35, 36, 37, 38, 39, 40, 41, 42, 43, 44, 45, 46, 47, 48, 49] (by decide +kernel) (by decide +kernel)
set_option maxRecDepth 20000 in
theorem gX4_payAll_X4_canPay : GoodIn wsX4_payAll (wsV RX4 109 RX4 yX4_canPay wsX4_canPay) := goodIn_app (goodIn_of _ (by decide +kernel)) ggX4_payAll_X4_canPay
set_option maxRecDepth 20000 in
theorem ggX4_payAll_X4_pay : GoodIn wsX4_payAll wsX4_pay := goodIn_r _ [24, 6, 11, 12, 13, 14, 4, 15, 16, 17, 18, 19, 20, 25, 26, 27, 28, 29, 30, 31, 32, 33, 34, 35, 36, 37, 38, 39, 40, 41, 42, 43, 44, 45, 46, 47, 48, 49] (by decide +kernel) (by decide +kernel)
set_option maxRecDepth 20000 in
theorem gX4_payAll_X4_pay : GoodIn wsX4_payAll (wsV RX4 112 RX4 yX4_pay wsX4_pay) := goodIn_app (goodIn_of _ (by decide +kernel)) ggX4_payAll_X4_pay
theorem dX4_payAll_0 : decode cX4_payAll 0 = .ok (.iconst 1, 1) := by decide +kernel
theorem dX4_payAll_1 : decode cX4_payAll 1 = .ok (.istore_n 1, 1) := by decide +kernel
theorem dX4_payAll_2 : decode cX4_payAll 2 = .ok (.iload_n 1, 1) := by decide +kernel
theorem dX4_payAll_3 : decode cX4_payAll 3 = .ok (.ifCond .eq 40, 3) := by decide +kernel
theorem dX4_payAll_6 : decode cX4_payAll 6 = .ok (.iconst 0, 1) := by decide +kernel
theorem dX4_payAll_7 : decode cX4_payAll 7 = .ok (.istore_n 1, 1) := by decide +kernel
theorem dX4_payAll_8 : decode cX4_payAll 8 = .ok (.iconst 0, 1) := by decide +kernel
theorem dX4_payAll_9 : decode cX4_payAll 9 = .ok (.istore_n 2, 1) := by decide +kernel
theorem dX4_payAll_10 : decode cX4_payAll 10 = .ok (.iload_n 2, 1) := by decide +kernel
theorem dX4_payAll_11 : decode cX4_payAll 11 = .ok (.bipush 6, 2) := by decide +kernel
theorem dX4_payAll_13 : decode cX4_payAll 13 = .ok (.if_icmp .ge 27, 3) := by decide +kernel
theorem dX4_payAll_16 : decode cX4_payAll 16 = .ok (.aload_n 0, 1) := by decide +kernel
theorem dX4_payAll_17 : decode cX4_payAll 17 = .ok (.iload_n 2, 1) := by decide +kernel
theorem dX4_payAll_18 : decode cX4_payAll 18 = .ok (.invokevirtual 109, 3) := by decide +kernel
theorem dX4_payAll_21 : decode cX4_payAll 21 = .ok (.ifCond .eq 13, 3) := by decide +kernel
theorem dX4_payAll_24 : decode cX4_payAll 24 = .ok (.aload_n 0, 1) := by decide +kernel
theorem dX4_payAll_25 : decode cX4_payAll 25 = .ok (.iload_n 2, 1) := by decide +kernel
theorem dX4_payAll_26 : decode cX4_payAll 26 = .ok (.invokevirtual 112, 3) := by decide +kernel
theorem dX4_payAll_29 : decode cX4_payAll 29 = .ok (.iconst 1, 1) := by decide +kernel
theorem dX4_payAll_30 : decode cX4_payAll 30 = .ok (.istore_n 1, 1) := by decide +kernel
theorem dX4_payAll_31 : decode cX4_payAll 31 = .ok (.goto (-15), 3) := by decide +kernel
theorem dX4_payAll_34 : decode cX4_payAll 34 = .ok (.iinc 2 1, 3) := by decide +kernel
theorem dX4_payAll_37 : decode cX4_payAll 37 = .ok (.goto (-27), 3) := by decide +kernel
theorem dX4_payAll_40 : decode cX4_payAll 40 = .ok (.goto (-38), 3) := by decide +kernel
theorem dX4_payAll_43 : decode cX4_payAll 43 = .ok (.return_, 1) := by decide +kernel
theorem dX4_leftNow_0 : decode cX4_leftNow 0 = .ok (.iconst 0, 1) := by decide +kernel
theorem dX4_leftNow_1 : decode cX4_leftNow 1 = .ok (.istore_n 1, 1) := by decide +kernel
theorem dX4_leftNow_2 : decode cX4_leftNow 2 = .ok (.iconst 0, 1) := by decide +kernel
theorem dX4_leftNow_3 : decode cX4_leftNow 3 = .ok (.istore_n 2, 1) := by decide +kernel
theorem dX4_leftNow_4 : decode cX4_leftNow 4 = .ok (.iload_n 2, 1) := by decide +kernel
theorem dX4_leftNow_5 : decode cX4_leftNow 5 = .ok (.bipush 6, 2) := by decide +kernel
theorem dX4_leftNow_7 : decode cX4_leftNow 7 = .ok (.if_icmp .ge 28, 3) := by decide +kernel
theorem dX4_leftNow_10 : decode cX4_leftNow 10 = .ok (.iload_n 1, 1) := by decide +kernel
theorem dX4_leftNow_11 : decode cX4_leftNow 11 = .ok (.aload_n 0, 1) := by decide +kernel
theorem dX4_leftNow_12 : decode cX4_leftNow 12 = .ok (.getfield 28, 3) := by decide +kernel
theorem dX4_leftNow_15 : decode cX4_leftNow 15 = .ok (.iload_n 2, 1) := by decide +kernel
theorem dX4_leftNow_16 : decode cX4_leftNow 16 = .ok (.iaload, 1) := by decide +kernel
theorem dX4_leftNow_17 : decode cX4_leftNow 17 = .ok (.ifCond .le 9, 3) := by decide +kernel
theorem dX4_leftNow_20 : decode cX4_leftNow 20 = .ok (.iconst 1, 1) := by decide +kernel
theorem dX4_leftNow_21 : decode cX4_leftNow 21 = .ok (.iload_n 2, 1) := by decide +kernel
theorem dX4_leftNow_22 : decode cX4_leftNow 22 = .ok (.ishl, 1) := by decide +kernel
theorem dX4_leftNow_23 : decode cX4_leftNow 23 = .ok (.goto 4, 3) := by decide +kernel
theorem dX4_leftNow_26 : decode cX4_leftNow 26 = .ok (.iconst 0, 1) := by decide +kernel
theorem dX4_leftNow_27 : decode cX4_leftNow 27 = .ok (.ior, 1) := by decide +kernel
theorem dX4_leftNow_28 : decode cX4_leftNow 28 = .ok (.istore_n 1, 1) := by decide +kernel
theorem dX4_leftNow_29 : decode cX4_leftNow 29 = .ok (.iinc 2 1, 3) := by decide +kernel
theorem dX4_leftNow_32 : decode cX4_leftNow 32 = .ok (.goto (-28), 3) := by decide +kernel
theorem dX4_leftNow_35 : decode cX4_leftNow 35 = .ok (.iload_n 1, 1) := by decide +kernel
theorem dX4_leftNow_36 : decode cX4_leftNow 36 = .ok (.ireturn, 1) := by decide +kernel
set_option maxRecDepth 20000 in
theorem ggX4_barred_X4_asNow : GoodIn wsX4_barred wsX4_asNow := goodIn_r _ [5, 6, 7, 8, 9, 10, 11, 12, 13, 46, 47, 48, 49, 50, 51, 52, 53, 54, 55, 56, 57, 58, 59, 60, 61, 62, 63, 64, 65, 66] (by decide +kernel) (by decide +kernel)
set_option maxRecDepth 20000 in
theorem gX4_barred_X4_asNow : GoodIn wsX4_barred (wsV RX4 94 RX4 yX4_asNow wsX4_asNow) := goodIn_app (goodIn_of _ (by decide +kernel)) ggX4_barred_X4_asNow
set_option maxRecDepth 20000 in
theorem ggX4_barred_X4_payAll : GoodIn wsX4_barred wsX4_payAll := goodIn_r _ [17, 18, 19, 20, 4, 21, 8, 22, 23, 24, 25, 12, 26, 27, 28, 29, 10, 30, 31, 32, 33, 34, 35, 36, 37, 38, 39, 40, 41, 46, 47, 48, 49, 50, 51, 52, 53, 54, 55, 56, 57, 58, 59, 60, 61, 62, 63, 64, 65, 66] (by decide +kernel) (by decide +kernel)
set_option maxRecDepth 20000 in
theorem gX4_barred_X4_payAll : GoodIn wsX4_barred (wsV RX4 145 RX4 yX4_payAll wsX4_payAll) := goodIn_app (goodIn_of _ (by decide +kernel)) ggX4_barred_X4_payAll
set_option maxRecDepth 20000 in
theorem ggX4_barred_X4_leftNow : GoodIn wsX4_barred wsX4_leftNow := goodIn_r _ [45, 10, 46, 47, 48, 49, 50, 51, 52, 53, 54, 55, 56, 57, 58, 59, 60, 61, 62, 63, 64, 65, 66] (by decide +kernel) (by decide +kernel)
set_option maxRecDepth 20000 in
theorem gX4_barred_X4_leftNow : GoodIn wsX4_barred (wsV RX4 148 RX4 yX4_leftNow wsX4_leftNow) := goodIn_app (goodIn_of _ (by decide +kernel)) ggX4_barred_X4_leftNow
theorem dX4_barred_0 : decode cX4_barred 0 = .ok (.aload_n 0, 1) := by decide +kernel
theorem dX4_barred_1 : decode cX4_barred 1 = .ok (.invokevirtual 94, 3) := by decide +kernel
theorem dX4_barred_4 : decode cX4_barred 4 = .ok (.aload_n 0, 1) := by decide +kernel
theorem dX4_barred_5 : decode cX4_barred 5 = .ok (.invokevirtual 145, 3) := by decide +kernel
theorem dX4_barred_8 : decode cX4_barred 8 = .ok (.aload_n 0, 1) := by decide +kernel
theorem dX4_barred_9 : decode cX4_barred 9 = .ok (.invokevirtual 148, 3) := by decide +kernel
theorem dX4_barred_12 : decode cX4_barred 12 = .ok (.ireturn, 1) := by decide +kernel
set_option maxRecDepth 20000 in
theorem ggX4_isEnough_X4_asNow : GoodIn wsX4_isEnough wsX4_asNow := goodIn_r _ [6, 7, 8, 1, 9, 10, 11, 12, 13, 46, 47, 48, 49, 50, 51, 52, 53, 54, 55, 56, 57, 58, 59, 60, 61, 62, 63, 64, 65, 66] (by decide +kernel) (by decide +kernel)
set_option maxRecDepth 20000 in
theorem gX4_isEnough_X4_asNow : GoodIn wsX4_isEnough (wsV RX4 94 RX4 yX4_asNow wsX4_asNow) := goodIn_app (goodIn_of _ (by decide +kernel)) ggX4_isEnough_X4_asNow
set_option maxRecDepth 20000 in
theorem ggX4_isEnough_X4_payAll : GoodIn wsX4_isEnough wsX4_payAll := goodIn_r _ [17, 18, 19, 20, 5, 21, 1, 22, 23, 24, 25, 12, 26, 27, 28, 29, 10, 30, 31, 32, 33, 34, 35, 36, 37, 38, 39, 40, 41, 46, 47, 48, 49, 50, 51, 52, 53, 54, 55, 56, 57, 58, 59, 60, 61, 62, 63, 64, 65, 66] (by decide +kernel) (by decide +kernel)
set_option maxRecDepth 20000 in
theorem gX4_isEnough_X4_payAll : GoodIn wsX4_isEnough (wsV RX4 145 RX4 yX4_payAll wsX4_payAll) := goodIn_app (goodIn_of _ (by decide +kernel)) ggX4_isEnough_X4_payAll
set_option maxRecDepth 20000 in
theorem ggX4_isEnough_X4_leftNow : GoodIn wsX4_isEnough wsX4_leftNow := goodIn_r _ [45, 10, 46, 47, 48, 49, 50, 51, 52, 53, 54, 55, 56, 57, 58, 59, 60, 61, 62, 63, 64, 65, 66] (by decide +kernel) (by decide +kernel)
set_option maxRecDepth 20000 in
theorem gX4_isEnough_X4_leftNow : GoodIn wsX4_isEnough (wsV RX4 148 RX4 yX4_leftNow wsX4_leftNow) := goodIn_app (goodIn_of _ (by decide +kernel)) ggX4_isEnough_X4_leftNow
theorem dX4_isEnough_0 : decode cX4_isEnough 0 = .ok (.aload_n 0, 1) := by decide +kernel
theorem dX4_isEnough_1 : decode cX4_isEnough 1 = .ok (.invokevirtual 94, 3) := by decide +kernel
theorem dX4_isEnough_4 : decode cX4_isEnough 4 = .ok (.aload_n 0, 1) := by decide +kernel
theorem dX4_isEnough_5 : decode cX4_isEnough 5 = .ok (.getfield 25, 3) := by decide +kernel
theorem dX4_isEnough_8 : decode cX4_isEnough 8 = .ok (.iload_n 1, 1) := by decide +kernel
theorem dX4_isEnough_9 : decode cX4_isEnough 9 = .ok (.dup2, 1) := by decide +kernel
theorem dX4_isEnough_10 : decode cX4_isEnough 10 = .ok (.iaload, 1) := by decide +kernel
theorem dX4_isEnough_11 : decode cX4_isEnough 11 = .ok (.iload_n 2, 1) := by decide +kernel
theorem dX4_isEnough_12 : decode cX4_isEnough 12 = .ok (.iadd, 1) := by decide +kernel
theorem dX4_isEnough_13 : decode cX4_isEnough 13 = .ok (.iastore, 1) := by decide +kernel
theorem dX4_isEnough_14 : decode cX4_isEnough 14 = .ok (.aload_n 0, 1) := by decide +kernel
theorem dX4_isEnough_15 : decode cX4_isEnough 15 = .ok (.invokevirtual 145, 3) := by decide +kernel
theorem dX4_isEnough_18 : decode cX4_isEnough 18 = .ok (.aload_n 0, 1) := by decide +kernel
theorem dX4_isEnough_19 : decode cX4_isEnough 19 = .ok (.invokevirtual 148, 3) := by decide +kernel
theorem dX4_isEnough_22 : decode cX4_isEnough 22 = .ok (.ifCond .ne 7, 3) := by decide +kernel
theorem dX4_isEnough_25 : decode cX4_isEnough 25 = .ok (.iconst 1, 1) := by decide +kernel
theorem dX4_isEnough_26 : decode cX4_isEnough 26 = .ok (.goto 4, 3) := by decide +kernel
theorem dX4_isEnough_29 : decode cX4_isEnough 29 = .ok (.iconst 0, 1) := by decide +kernel
theorem dX4_isEnough_30 : decode cX4_isEnough 30 = .ok (.ireturn, 1) := by decide +kernel
set_option maxRecDepth 20000 in
theorem ggX4_helpOf_X4_isEnough : GoodIn wsX4_helpOf wsX4_isEnough := goodIn_r _ [6, 7, 8, 9, 10, 5, 11, 12, 13, 14, 15, 16, 17, 18, 19, 20, 21, 22, 23, 24, 25, 26, 27, 28, 29, 30, 31, 32, 33, 34, 35, 36, 37, 38, 39, 40, 41, 42, 43, 44, 45, 46, 47, 48, 49, 50, 51, 52, 53, 54, 55, 56, 57, 58, 59, 60, 61, 62, 63, 64, 65, 66, 67, 68, 69, 70, 71] (by decide +kernel) (by decide +kernel)
set_option maxRecDepth 20000 in
theorem gX4_helpOf_X4_isEnough : GoodIn wsX4_helpOf (wsV RX4 151 RX4 yX4_isEnough wsX4_isEnough) := goodIn_app (goodIn_of _ (by decide +kernel)) ggX4_helpOf_X4_isEnough
theorem dX4_helpOf_0 : decode cX4_helpOf 0 = .ok (.ldc 141, 2) := by decide +kernel
theorem dX4_helpOf_2 : decode cX4_helpOf 2 = .ok (.istore_n 2, 1) := by decide +kernel
theorem dX4_helpOf_3 : decode cX4_helpOf 3 = .ok (.aload_n 0, 1) := by decide +kernel
theorem dX4_helpOf_4 : decode cX4_helpOf 4 = .ok (.iload_n 1, 1) := by decide +kernel
theorem dX4_helpOf_5 : decode cX4_helpOf 5 = .ok (.iload_n 2, 1) := by decide +kernel
theorem dX4_helpOf_6 : decode cX4_helpOf 6 = .ok (.invokevirtual 151, 3) := by decide +kernel
theorem dX4_helpOf_9 : decode cX4_helpOf 9 = .ok (.ifCond .ne 6, 3) := by decide +kernel
theorem dX4_helpOf_12 : decode cX4_helpOf 12 = .ok (.bipush (-6), 2) := by decide +kernel
theorem dX4_helpOf_14 : decode cX4_helpOf 14 = .ok (.ireturn, 1) := by decide +kernel
theorem dX4_helpOf_15 : decode cX4_helpOf 15 = .ok (.iconst (-1), 1) := by decide +kernel
theorem dX4_helpOf_16 : decode cX4_helpOf 16 = .ok (.istore_n 3, 1) := by decide +kernel
theorem dX4_helpOf_17 : decode cX4_helpOf 17 = .ok (.iload_n 3, 1) := by decide +kernel
theorem dX4_helpOf_18 : decode cX4_helpOf 18 = .ok (.iconst 1, 1) := by decide +kernel
theorem dX4_helpOf_19 : decode cX4_helpOf 19 = .ok (.iadd, 1) := by decide +kernel
theorem dX4_helpOf_20 : decode cX4_helpOf 20 = .ok (.iload_n 2, 1) := by decide +kernel
theorem dX4_helpOf_21 : decode cX4_helpOf 21 = .ok (.if_icmp .ge 32, 3) := by decide +kernel
theorem dX4_helpOf_24 : decode cX4_helpOf 24 = .ok (.iload_n 3, 1) := by decide +kernel
theorem dX4_helpOf_25 : decode cX4_helpOf 25 = .ok (.iload_n 2, 1) := by decide +kernel
theorem dX4_helpOf_26 : decode cX4_helpOf 26 = .ok (.iadd, 1) := by decide +kernel
theorem dX4_helpOf_27 : decode cX4_helpOf 27 = .ok (.iconst 2, 1) := by decide +kernel
theorem dX4_helpOf_28 : decode cX4_helpOf 28 = .ok (.idiv, 1) := by decide +kernel
theorem dX4_helpOf_29 : decode cX4_helpOf 29 = .ok (.istore 4, 2) := by decide +kernel
theorem dX4_helpOf_31 : decode cX4_helpOf 31 = .ok (.aload_n 0, 1) := by decide +kernel
theorem dX4_helpOf_32 : decode cX4_helpOf 32 = .ok (.iload_n 1, 1) := by decide +kernel
theorem dX4_helpOf_33 : decode cX4_helpOf 33 = .ok (.iload 4, 2) := by decide +kernel
theorem dX4_helpOf_35 : decode cX4_helpOf 35 = .ok (.invokevirtual 151, 3) := by decide +kernel
theorem dX4_helpOf_38 : decode cX4_helpOf 38 = .ok (.ifCond .eq 9, 3) := by decide +kernel
theorem dX4_helpOf_41 : decode cX4_helpOf 41 = .ok (.iload 4, 2) := by decide +kernel
theorem dX4_helpOf_43 : decode cX4_helpOf 43 = .ok (.istore_n 2, 1) := by decide +kernel
theorem dX4_helpOf_44 : decode cX4_helpOf 44 = .ok (.goto 6, 3) := by decide +kernel
theorem dX4_helpOf_47 : decode cX4_helpOf 47 = .ok (.iload 4, 2) := by decide +kernel
theorem dX4_helpOf_49 : decode cX4_helpOf 49 = .ok (.istore_n 3, 1) := by decide +kernel
theorem dX4_helpOf_50 : decode cX4_helpOf 50 = .ok (.goto (-33), 3) := by decide +kernel
theorem dX4_helpOf_53 : decode cX4_helpOf 53 = .ok (.iload_n 2, 1) := by decide +kernel
theorem dX4_helpOf_54 : decode cX4_helpOf 54 = .ok (.ireturn, 1) := by decide +kernel
set_option maxRecDepth 20000 in
theorem ggX4_help_X4_isMan : GoodIn wsX4_help wsX4_isMan := goodIn_r _ [4, 5, 6, 3, 7] (by decide +kernel) (by decide +kernel)
set_option maxRecDepth 20000 in
theorem gX4_help_X4_isMan : GoodIn wsX4_help (va_wsS RX4 55 yX4_isMan wsX4_isMan) := goodIn_app (goodIn_of _ (by decide +kernel)) ggX4_help_X4_isMan
set_option maxRecDepth 20000 in
theorem ggX4_help_X4_helpOf : GoodIn wsX4_help wsX4_helpOf := goodIn_r _ [11, 12, 13, 14, 15, 3, 16, 17, 18, 19, 20, 21, 22, 23, 24, 25, 26, 27, 28, 29, 30, 31, 32, 33, 34, 35, 36, 37, 38, 39, 40, 41, 42, 43, 44, 45, 46, 47, 48, 49, 50, 51, 52, 53, 54, 55, 56, 57, 58, 59, 60, 61, 62, 63, 64, 65, 66, 67, 68, 69, 70, 71, 72, 73, 74, 75, 76, 77, 78, 79, 80, 81] (by decide +kernel) (by decide +kernel)
set_option maxRecDepth 20000 in
theorem gX4_help_X4_helpOf : GoodIn wsX4_help (wsV RX4 154 RX4 yX4_helpOf wsX4_helpOf) := goodIn_app (goodIn_of _ (by decide +kernel)) ggX4_help_X4_helpOf
theorem dX4_help_0 : decode cX4_help 0 = .ok (.iload_n 1, 1) := by decide +kernel
theorem dX4_help_1 : decode cX4_help 1 = .ok (.invokestatic 55, 3) := by decide +kernel
theorem dX4_help_4 : decode cX4_help 4 = .ok (.ifCond .eq 11, 3) := by decide +kernel
theorem dX4_help_7 : decode cX4_help 7 = .ok (.aload_n 0, 1) := by decide +kernel
theorem dX4_help_8 : decode cX4_help 8 = .ok (.iload_n 1, 1) := by decide +kernel
theorem dX4_help_9 : decode cX4_help 9 = .ok (.invokevirtual 154, 3) := by decide +kernel
theorem dX4_help_12 : decode cX4_help 12 = .ok (.goto 4, 3) := by decide +kernel
theorem dX4_help_15 : decode cX4_help 15 = .ok (.iconst (-1), 1) := by decide +kernel
theorem dX4_help_16 : decode cX4_help 16 = .ok (.ireturn, 1) := by decide +kernel
set_option maxRecDepth 20000 in
theorem ggX4_whom_X4_helpOf : GoodIn wsX4_whom wsX4_helpOf := goodIn_r _ [6, 1, 7, 8, 9, 5, 10, 11, 12, 13, 14, 15, 16, 17, 18, 19, 20, 21, 22, 23, 24, 25, 26, 27, 28, 29, 30, 31, 32, 33, 34, 35, 36, 37, 38, 39, 40, 41, 42, 43, 44, 45, 46, 47, 48, 49, 50, 51, 52, 53, 54, 55, 56, 57, 58, 59, 60, 61, 62, 63, 64, 65, 66, 67, 68, 69, 70, 71, 72, 73, 74, 75] (by decide +kernel) (by decide +kernel)
set_option maxRecDepth 20000 in
theorem gX4_whom_X4_helpOf : GoodIn wsX4_whom (wsV RX4 154 RX4 yX4_helpOf wsX4_helpOf) := goodIn_app (goodIn_of _ (by decide +kernel)) ggX4_whom_X4_helpOf
theorem dX4_whom_0 : decode cX4_whom 0 = .ok (.bipush (-6), 2) := by decide +kernel
theorem dX4_whom_2 : decode cX4_whom 2 = .ok (.istore_n 1, 1) := by decide +kernel
theorem dX4_whom_3 : decode cX4_whom 3 = .ok (.ldc 141, 2) := by decide +kernel
theorem dX4_whom_5 : decode cX4_whom 5 = .ok (.istore_n 2, 1) := by decide +kernel
theorem dX4_whom_6 : decode cX4_whom 6 = .ok (.iconst 0, 1) := by decide +kernel
theorem dX4_whom_7 : decode cX4_whom 7 = .ok (.istore_n 3, 1) := by decide +kernel
theorem dX4_whom_8 : decode cX4_whom 8 = .ok (.iload_n 3, 1) := by decide +kernel
theorem dX4_whom_9 : decode cX4_whom 9 = .ok (.bipush 6, 2) := by decide +kernel
theorem dX4_whom_11 : decode cX4_whom 11 = .ok (.if_icmp .ge 32, 3) := by decide +kernel
theorem dX4_whom_14 : decode cX4_whom 14 = .ok (.aload_n 0, 1) := by decide +kernel
theorem dX4_whom_15 : decode cX4_whom 15 = .ok (.iload_n 3, 1) := by decide +kernel
theorem dX4_whom_16 : decode cX4_whom 16 = .ok (.invokevirtual 154, 3) := by decide +kernel
theorem dX4_whom_19 : decode cX4_whom 19 = .ok (.istore 4, 2) := by decide +kernel
theorem dX4_whom_21 : decode cX4_whom 21 = .ok (.iload 4, 2) := by decide +kernel
theorem dX4_whom_23 : decode cX4_whom 23 = .ok (.ifCond .lt 14, 3) := by decide +kernel
theorem dX4_whom_26 : decode cX4_whom 26 = .ok (.iload 4, 2) := by decide +kernel
theorem dX4_whom_28 : decode cX4_whom 28 = .ok (.iload_n 2, 1) := by decide +kernel
theorem dX4_whom_29 : decode cX4_whom 29 = .ok (.if_icmp .ge 8, 3) := by decide +kernel
theorem dX4_whom_32 : decode cX4_whom 32 = .ok (.iload 4, 2) := by decide +kernel
theorem dX4_whom_34 : decode cX4_whom 34 = .ok (.istore_n 2, 1) := by decide +kernel
theorem dX4_whom_35 : decode cX4_whom 35 = .ok (.iload_n 3, 1) := by decide +kernel
theorem dX4_whom_36 : decode cX4_whom 36 = .ok (.istore_n 1, 1) := by decide +kernel
theorem dX4_whom_37 : decode cX4_whom 37 = .ok (.iinc 3 1, 3) := by decide +kernel
theorem dX4_whom_40 : decode cX4_whom 40 = .ok (.goto (-32), 3) := by decide +kernel
theorem dX4_whom_43 : decode cX4_whom 43 = .ok (.iload_n 1, 1) := by decide +kernel
theorem dX4_whom_44 : decode cX4_whom 44 = .ok (.ireturn, 1) := by decide +kernel
set_option maxRecDepth 20000 in
theorem ggX4_ringOf_X4_asNow : GoodIn wsX4_ringOf wsX4_asNow := goodIn_r _ [6, 7, 8, 9, 10, 11, 12, 1, 13, 22, 23, 24, 25, 26, 27, 28, 29, 30, 31, 32, 33, 34, 35, 36, 37, 38, 39, 40, 41, 42] (by decide +kernel) (by decide +kernel)
set_option maxRecDepth 20000 in
theorem gX4_ringOf_X4_asNow : GoodIn wsX4_ringOf (wsV RX4 94 RX4 yX4_asNow wsX4_asNow) := goodIn_app (goodIn_of _ (by decide +kernel)) ggX4_ringOf_X4_asNow
set_option maxRecDepth 20000 in
theorem ggX4_ringOf_X4_dueNow : GoodIn wsX4_ringOf wsX4_dueNow := goodIn_r _ [17, 11, 18, 1, 19, 20, 5, 21, 22, 23, 24, 25, 26, 27, 28, 29, 30, 31, 32, 33, 34, 35, 36, 37, 38, 39, 40, 41, 42] (by decide +kernel) (by decide +kernel)
set_option maxRecDepth 20000 in
theorem gX4_ringOf_X4_dueNow : GoodIn wsX4_ringOf (wsV RX4 83 RX4 yX4_dueNow wsX4_dueNow) := goodIn_app (goodIn_of _ (by decide +kernel)) ggX4_ringOf_X4_dueNow
set_option maxRecDepth 20000 in
theorem ggX4_ringOf_X4_at : GoodIn wsX4_ringOf wsX4_at := goodIn_r _ [21] (by decide +kernel) (by decide +kernel)
set_option maxRecDepth 20000 in
theorem gX4_ringOf_X4_at : GoodIn wsX4_ringOf (va_wsS RX4 79 yX4_at wsX4_at) := goodIn_app (goodIn_of _ (by decide +kernel)) ggX4_ringOf_X4_at
theorem dX4_ringOf_0 : decode cX4_ringOf 0 = .ok (.aload_n 0, 1) := by decide +kernel
theorem dX4_ringOf_1 : decode cX4_ringOf 1 = .ok (.invokevirtual 94, 3) := by decide +kernel
theorem dX4_ringOf_4 : decode cX4_ringOf 4 = .ok (.iconst 0, 1) := by decide +kernel
theorem dX4_ringOf_5 : decode cX4_ringOf 5 = .ok (.istore_n 2, 1) := by decide +kernel
theorem dX4_ringOf_6 : decode cX4_ringOf 6 = .ok (.iload_n 1, 1) := by decide +kernel
theorem dX4_ringOf_7 : decode cX4_ringOf 7 = .ok (.istore_n 3, 1) := by decide +kernel
theorem dX4_ringOf_8 : decode cX4_ringOf 8 = .ok (.iconst 0, 1) := by decide +kernel
theorem dX4_ringOf_9 : decode cX4_ringOf 9 = .ok (.istore 4, 2) := by decide +kernel
theorem dX4_ringOf_11 : decode cX4_ringOf 11 = .ok (.iload 4, 2) := by decide +kernel
theorem dX4_ringOf_13 : decode cX4_ringOf 13 = .ok (.bipush 6, 2) := by decide +kernel
theorem dX4_ringOf_15 : decode cX4_ringOf 15 = .ok (.if_icmp .ge 49, 3) := by decide +kernel
theorem dX4_ringOf_18 : decode cX4_ringOf 18 = .ok (.aload_n 0, 1) := by decide +kernel
theorem dX4_ringOf_19 : decode cX4_ringOf 19 = .ok (.iload_n 3, 1) := by decide +kernel
theorem dX4_ringOf_20 : decode cX4_ringOf 20 = .ok (.invokevirtual 83, 3) := by decide +kernel
theorem dX4_ringOf_23 : decode cX4_ringOf 23 = .ok (.istore 5, 2) := by decide +kernel
theorem dX4_ringOf_25 : decode cX4_ringOf 25 = .ok (.iload 5, 2) := by decide +kernel
theorem dX4_ringOf_27 : decode cX4_ringOf 27 = .ok (.ifCond .ge 6, 3) := by decide +kernel
theorem dX4_ringOf_30 : decode cX4_ringOf 30 = .ok (.bipush (-6), 2) := by decide +kernel
theorem dX4_ringOf_32 : decode cX4_ringOf 32 = .ok (.ireturn, 1) := by decide +kernel
theorem dX4_ringOf_33 : decode cX4_ringOf 33 = .ok (.iload_n 2, 1) := by decide +kernel
theorem dX4_ringOf_34 : decode cX4_ringOf 34 = .ok (.iconst 1, 1) := by decide +kernel
theorem dX4_ringOf_35 : decode cX4_ringOf 35 = .ok (.iload_n 3, 1) := by decide +kernel
theorem dX4_ringOf_36 : decode cX4_ringOf 36 = .ok (.ishl, 1) := by decide +kernel
theorem dX4_ringOf_37 : decode cX4_ringOf 37 = .ok (.ior, 1) := by decide +kernel
theorem dX4_ringOf_38 : decode cX4_ringOf 38 = .ok (.istore_n 2, 1) := by decide +kernel
theorem dX4_ringOf_39 : decode cX4_ringOf 39 = .ok (.aload_n 0, 1) := by decide +kernel
theorem dX4_ringOf_40 : decode cX4_ringOf 40 = .ok (.getfield 31, 3) := by decide +kernel
theorem dX4_ringOf_43 : decode cX4_ringOf 43 = .ok (.iload_n 3, 1) := by decide +kernel
theorem dX4_ringOf_44 : decode cX4_ringOf 44 = .ok (.iload 5, 2) := by decide +kernel
theorem dX4_ringOf_46 : decode cX4_ringOf 46 = .ok (.invokestatic 79, 3) := by decide +kernel
theorem dX4_ringOf_49 : decode cX4_ringOf 49 = .ok (.iaload, 1) := by decide +kernel
theorem dX4_ringOf_50 : decode cX4_ringOf 50 = .ok (.istore_n 3, 1) := by decide +kernel
theorem dX4_ringOf_51 : decode cX4_ringOf 51 = .ok (.iload_n 3, 1) := by decide +kernel
theorem dX4_ringOf_52 : decode cX4_ringOf 52 = .ok (.iload_n 1, 1) := by decide +kernel
theorem dX4_ringOf_53 : decode cX4_ringOf 53 = .ok (.if_icmp .ne 5, 3) := by decide +kernel
theorem dX4_ringOf_56 : decode cX4_ringOf 56 = .ok (.iload_n 2, 1) := by decide +kernel
theorem dX4_ringOf_57 : decode cX4_ringOf 57 = .ok (.ireturn, 1) := by decide +kernel
theorem dX4_ringOf_58 : decode cX4_ringOf 58 = .ok (.iinc 4 1, 3) := by decide +kernel
theorem dX4_ringOf_61 : decode cX4_ringOf 61 = .ok (.goto (-50), 3) := by decide +kernel
theorem dX4_ringOf_64 : decode cX4_ringOf 64 = .ok (.bipush (-6), 2) := by decide +kernel
theorem dX4_ringOf_66 : decode cX4_ringOf 66 = .ok (.ireturn, 1) := by decide +kernel
set_option maxRecDepth 20000 in
theorem ggX4_ring_X4_isMan : GoodIn wsX4_ring wsX4_isMan := goodIn_r _ [4, 5, 6, 3, 7] (by decide +kernel) (by decide +kernel)
set_option maxRecDepth 20000 in
theorem gX4_ring_X4_isMan : GoodIn wsX4_ring (va_wsS RX4 55 yX4_isMan wsX4_isMan) := goodIn_app (goodIn_of _ (by decide +kernel)) ggX4_ring_X4_isMan
set_option maxRecDepth 20000 in
theorem ggX4_ring_X4_ringOf : GoodIn wsX4_ring wsX4_ringOf := goodIn_r _ [11, 12, 13, 14, 15, 3, 16, 17, 18, 19, 20, 21, 22, 23, 24, 25, 26, 27, 28, 29, 30, 31, 32, 33, 34, 35, 36, 37, 38, 39, 40, 41, 42, 43, 44, 45, 46, 47, 48, 49, 50, 51, 52] (by decide +kernel) (by decide +kernel)
set_option maxRecDepth 20000 in
theorem gX4_ring_X4_ringOf : GoodIn wsX4_ring (wsV RX4 157 RX4 yX4_ringOf wsX4_ringOf) := goodIn_app (goodIn_of _ (by decide +kernel)) ggX4_ring_X4_ringOf
theorem dX4_ring_0 : decode cX4_ring 0 = .ok (.iload_n 1, 1) := by decide +kernel
theorem dX4_ring_1 : decode cX4_ring 1 = .ok (.invokestatic 55, 3) := by decide +kernel
theorem dX4_ring_4 : decode cX4_ring 4 = .ok (.ifCond .eq 11, 3) := by decide +kernel
theorem dX4_ring_7 : decode cX4_ring 7 = .ok (.aload_n 0, 1) := by decide +kernel
theorem dX4_ring_8 : decode cX4_ring 8 = .ok (.iload_n 1, 1) := by decide +kernel
theorem dX4_ring_9 : decode cX4_ring 9 = .ok (.invokevirtual 157, 3) := by decide +kernel
theorem dX4_ring_12 : decode cX4_ring 12 = .ok (.goto 4, 3) := by decide +kernel
theorem dX4_ring_15 : decode cX4_ring 15 = .ok (.iconst (-1), 1) := by decide +kernel
theorem dX4_ring_16 : decode cX4_ring 16 = .ok (.ireturn, 1) := by decide +kernel
set_option maxRecDepth 20000 in
theorem ggX4_setOff_X4_isMan : GoodIn wsX4_setOff wsX4_isMan := goodIn_r _ [6, 7, 8, 5, 9] (by decide +kernel) (by decide +kernel)
set_option maxRecDepth 20000 in
theorem gX4_setOff_X4_isMan : GoodIn wsX4_setOff (va_wsS RX4 55 yX4_isMan wsX4_isMan) := goodIn_app (goodIn_of _ (by decide +kernel)) ggX4_setOff_X4_isMan
set_option maxRecDepth 20000 in
theorem ggX4_setOff_X4_ringOf : GoodIn wsX4_setOff wsX4_ringOf := goodIn_r _ [13, 2, 14, 15, 16, 5, 17, 18, 19, 20, 21, 22, 23, 24, 25, 26, 27, 28, 29, 30, 31, 32, 48, 49, 50, 51, 52, 53, 54, 55, 56, 57, 58, 59, 60, 61, 62, 63, 64, 65, 66, 67, 68] (by decide +kernel) (by decide +kernel)
set_option maxRecDepth 20000 in
theorem gX4_setOff_X4_ringOf : GoodIn wsX4_setOff (wsV RX4 157 RX4 yX4_ringOf wsX4_ringOf) := goodIn_app (goodIn_of _ (by decide +kernel)) ggX4_setOff_X4_ringOf
set_option maxRecDepth 20000 in
theorem ggX4_setOff_X4_has : GoodIn wsX4_setOff wsX4_has := goodIn_r _ [35] (by decide +kernel) (by decide +kernel)
set_option maxRecDepth 20000 in
theorem gX4_setOff_X4_has : GoodIn wsX4_setOff (va_wsS RX4 132 yX4_has wsX4_has) := goodIn_app (goodIn_of _ (by decide +kernel)) ggX4_setOff_X4_has
set_option maxRecDepth 20000 in
theorem ggX4_setOff_X4_penceDue : GoodIn wsX4_setOff wsX4_penceDue := goodIn_r _ [39, 2, 25, 26, 27, 5, 28, 22, 29, 30, 31, 32, 48, 49, 50, 51, 52, 53, 54, 55, 56, 57, 58, 59, 60, 61, 62, 63, 64, 65, 66, 67, 68] (by decide +kernel) (by decide +kernel)
set_option maxRecDepth 20000 in
theorem gX4_setOff_X4_penceDue : GoodIn wsX4_setOff (wsV RX4 87 RX4 yX4_penceDue wsX4_penceDue) := goodIn_app (goodIn_of _ (by decide +kernel)) ggX4_setOff_X4_penceDue
set_option maxRecDepth 20000 in
theorem ggX4_setOff_X4_dueNow : GoodIn wsX4_setOff wsX4_dueNow := goodIn_r _ [28, 22, 29, 2, 30, 31, 5, 32, 48, 49, 50, 51, 52, 53, 54, 55, 56, 57, 58, 59, 60, 61, 62, 63, 64, 65, 66, 67, 68] (by decide +kernel) (by decide +kernel)
set_option maxRecDepth 20000 in
theorem gX4_setOff_X4_dueNow : GoodIn wsX4_setOff (wsV RX4 83 RX4 yX4_dueNow wsX4_dueNow) := goodIn_app (goodIn_of _ (by decide +kernel)) ggX4_setOff_X4_dueNow
set_option maxRecDepth 20000 in
theorem ggX4_setOff_X4_at : GoodIn wsX4_setOff wsX4_at := goodIn_r _ [32] (by decide +kernel) (by decide +kernel)
set_option maxRecDepth 20000 in
theorem gX4_setOff_X4_at : GoodIn wsX4_setOff (va_wsS RX4 79 yX4_at wsX4_at) := goodIn_app (goodIn_of _ (by decide +kernel)) ggX4_setOff_X4_at
set_option maxRecDepth 20000 in
theorem ggX4_setOff_X4_takeOut : GoodIn wsX4_setOff wsX4_takeOut := goodIn_r _ [43, 22, 2, 30, 31, 5, 32, 48, 49, 50, 51, 52, 53, 54, 55, 56, 57, 58, 59, 60, 61, 62, 63, 64, 65, 66, 67, 68] (by decide +kernel) (by decide +kernel)
set_option maxRecDepth 20000 in
theorem gX4_setOff_X4_takeOut : GoodIn wsX4_setOff (wsV RX4 90 RX4 yX4_takeOut wsX4_takeOut) := goodIn_app (goodIn_of _ (by decide +kernel)) ggX4_setOff_X4_takeOut
set_option maxRecDepth 20000 in
theorem ggX4_setOff_X4_keepNow : GoodIn wsX4_setOff wsX4_keepNow := goodIn_r _ [47, 19, 18, 21, 20, 23, 22, 24, 2, 48, 49, 50, 51, 52, 53, 54, 55, 56, 57, 58, 59, 60, 61, 62, 63, 64, 65, 66, 67, 68] (by decide +kernel) (by decide +kernel)
set_option maxRecDepth 20000 in
theorem gX4_setOff_X4_keepNow : GoodIn wsX4_setOff (wsV RX4 119 RX4 yX4_keepNow wsX4_keepNow) := goodIn_app (goodIn_of _ (by decide +kernel)) ggX4_setOff_X4_keepNow
theorem dX4_setOff_0 : decode cX4_setOff 0 = .ok (.iload_n 1, 1) := by decide +kernel
theorem dX4_setOff_1 : decode cX4_setOff 1 = .ok (.invokestatic 55, 3) := by decide +kernel
theorem dX4_setOff_4 : decode cX4_setOff 4 = .ok (.ifCond .ne 5, 3) := by decide +kernel
theorem dX4_setOff_7 : decode cX4_setOff 7 = .ok (.iconst (-1), 1) := by decide +kernel
theorem dX4_setOff_8 : decode cX4_setOff 8 = .ok (.ireturn, 1) := by decide +kernel
theorem dX4_setOff_9 : decode cX4_setOff 9 = .ok (.aload_n 0, 1) := by decide +kernel
theorem dX4_setOff_10 : decode cX4_setOff 10 = .ok (.iload_n 1, 1) := by decide +kernel
theorem dX4_setOff_11 : decode cX4_setOff 11 = .ok (.invokevirtual 157, 3) := by decide +kernel
theorem dX4_setOff_14 : decode cX4_setOff 14 = .ok (.istore_n 2, 1) := by decide +kernel
theorem dX4_setOff_15 : decode cX4_setOff 15 = .ok (.iload_n 2, 1) := by decide +kernel
theorem dX4_setOff_16 : decode cX4_setOff 16 = .ok (.ifCond .ge 6, 3) := by decide +kernel
theorem dX4_setOff_19 : decode cX4_setOff 19 = .ok (.bipush (-3), 2) := by decide +kernel
theorem dX4_setOff_21 : decode cX4_setOff 21 = .ok (.ireturn, 1) := by decide +kernel
theorem dX4_setOff_22 : decode cX4_setOff 22 = .ok (.ldc 141, 2) := by decide +kernel
theorem dX4_setOff_24 : decode cX4_setOff 24 = .ok (.istore_n 3, 1) := by decide +kernel
theorem dX4_setOff_25 : decode cX4_setOff 25 = .ok (.iconst 0, 1) := by decide +kernel
theorem dX4_setOff_26 : decode cX4_setOff 26 = .ok (.istore 4, 2) := by decide +kernel
theorem dX4_setOff_28 : decode cX4_setOff 28 = .ok (.iload 4, 2) := by decide +kernel
theorem dX4_setOff_30 : decode cX4_setOff 30 = .ok (.bipush 6, 2) := by decide +kernel
theorem dX4_setOff_32 : decode cX4_setOff 32 = .ok (.if_icmp .ge 39, 3) := by decide +kernel
theorem dX4_setOff_35 : decode cX4_setOff 35 = .ok (.iload_n 2, 1) := by decide +kernel
theorem dX4_setOff_36 : decode cX4_setOff 36 = .ok (.iload 4, 2) := by decide +kernel
theorem dX4_setOff_38 : decode cX4_setOff 38 = .ok (.invokestatic 132, 3) := by decide +kernel
theorem dX4_setOff_41 : decode cX4_setOff 41 = .ok (.ifCond .eq 22, 3) := by decide +kernel
theorem dX4_setOff_44 : decode cX4_setOff 44 = .ok (.aload_n 0, 1) := by decide +kernel
theorem dX4_setOff_45 : decode cX4_setOff 45 = .ok (.iload 4, 2) := by decide +kernel
theorem dX4_setOff_47 : decode cX4_setOff 47 = .ok (.invokevirtual 87, 3) := by decide +kernel
theorem dX4_setOff_50 : decode cX4_setOff 50 = .ok (.iload_n 3, 1) := by decide +kernel
theorem dX4_setOff_51 : decode cX4_setOff 51 = .ok (.if_icmp .ge 12, 3) := by decide +kernel
theorem dX4_setOff_54 : decode cX4_setOff 54 = .ok (.aload_n 0, 1) := by decide +kernel
theorem dX4_setOff_55 : decode cX4_setOff 55 = .ok (.iload 4, 2) := by decide +kernel
theorem dX4_setOff_57 : decode cX4_setOff 57 = .ok (.invokevirtual 87, 3) := by decide +kernel
theorem dX4_setOff_60 : decode cX4_setOff 60 = .ok (.goto 4, 3) := by decide +kernel
theorem dX4_setOff_63 : decode cX4_setOff 63 = .ok (.iload_n 3, 1) := by decide +kernel
theorem dX4_setOff_64 : decode cX4_setOff 64 = .ok (.istore_n 3, 1) := by decide +kernel
theorem dX4_setOff_65 : decode cX4_setOff 65 = .ok (.iinc 4 1, 3) := by decide +kernel
theorem dX4_setOff_68 : decode cX4_setOff 68 = .ok (.goto (-40), 3) := by decide +kernel
theorem dX4_setOff_71 : decode cX4_setOff 71 = .ok (.iconst 0, 1) := by decide +kernel
theorem dX4_setOff_72 : decode cX4_setOff 72 = .ok (.istore 4, 2) := by decide +kernel
theorem dX4_setOff_74 : decode cX4_setOff 74 = .ok (.iload 4, 2) := by decide +kernel
theorem dX4_setOff_76 : decode cX4_setOff 76 = .ok (.bipush 6, 2) := by decide +kernel
theorem dX4_setOff_78 : decode cX4_setOff 78 = .ok (.if_icmp .ge 69, 3) := by decide +kernel
theorem dX4_setOff_81 : decode cX4_setOff 81 = .ok (.iload_n 2, 1) := by decide +kernel
theorem dX4_setOff_82 : decode cX4_setOff 82 = .ok (.iload 4, 2) := by decide +kernel
theorem dX4_setOff_84 : decode cX4_setOff 84 = .ok (.invokestatic 132, 3) := by decide +kernel
theorem dX4_setOff_87 : decode cX4_setOff 87 = .ok (.ifCond .eq 54, 3) := by decide +kernel
theorem dX4_setOff_90 : decode cX4_setOff 90 = .ok (.aload_n 0, 1) := by decide +kernel
theorem dX4_setOff_91 : decode cX4_setOff 91 = .ok (.iload 4, 2) := by decide +kernel
theorem dX4_setOff_93 : decode cX4_setOff 93 = .ok (.invokevirtual 83, 3) := by decide +kernel
theorem dX4_setOff_96 : decode cX4_setOff 96 = .ok (.istore 5, 2) := by decide +kernel
theorem dX4_setOff_98 : decode cX4_setOff 98 = .ok (.aload_n 0, 1) := by decide +kernel
theorem dX4_setOff_99 : decode cX4_setOff 99 = .ok (.getfield 31, 3) := by decide +kernel
theorem dX4_setOff_102 : decode cX4_setOff 102 = .ok (.iload 4, 2) := by decide +kernel
theorem dX4_setOff_104 : decode cX4_setOff 104 = .ok (.iload 5, 2) := by decide +kernel
theorem dX4_setOff_106 : decode cX4_setOff 106 = .ok (.invokestatic 79, 3) := by decide +kernel
theorem dX4_setOff_109 : decode cX4_setOff 109 = .ok (.iconst 1, 1) := by decide +kernel
theorem dX4_setOff_110 : decode cX4_setOff 110 = .ok (.iadd, 1) := by decide +kernel
theorem dX4_setOff_111 : decode cX4_setOff 111 = .ok (.dup2, 1) := by decide +kernel
theorem dX4_setOff_112 : decode cX4_setOff 112 = .ok (.iaload, 1) := by decide +kernel
theorem dX4_setOff_113 : decode cX4_setOff 113 = .ok (.iload_n 3, 1) := by decide +kernel
theorem dX4_setOff_114 : decode cX4_setOff 114 = .ok (.isub, 1) := by decide +kernel
theorem dX4_setOff_115 : decode cX4_setOff 115 = .ok (.iastore, 1) := by decide +kernel
theorem dX4_setOff_116 : decode cX4_setOff 116 = .ok (.aload_n 0, 1) := by decide +kernel
theorem dX4_setOff_117 : decode cX4_setOff 117 = .ok (.getfield 31, 3) := by decide +kernel
theorem dX4_setOff_120 : decode cX4_setOff 120 = .ok (.iload 4, 2) := by decide +kernel
theorem dX4_setOff_122 : decode cX4_setOff 122 = .ok (.iload 5, 2) := by decide +kernel
theorem dX4_setOff_124 : decode cX4_setOff 124 = .ok (.invokestatic 79, 3) := by decide +kernel
theorem dX4_setOff_127 : decode cX4_setOff 127 = .ok (.iconst 1, 1) := by decide +kernel
theorem dX4_setOff_128 : decode cX4_setOff 128 = .ok (.iadd, 1) := by decide +kernel
theorem dX4_setOff_129 : decode cX4_setOff 129 = .ok (.iaload, 1) := by decide +kernel
theorem dX4_setOff_130 : decode cX4_setOff 130 = .ok (.ifCond .ne 11, 3) := by decide +kernel
theorem dX4_setOff_133 : decode cX4_setOff 133 = .ok (.aload_n 0, 1) := by decide +kernel
theorem dX4_setOff_134 : decode cX4_setOff 134 = .ok (.iload 4, 2) := by decide +kernel
theorem dX4_setOff_136 : decode cX4_setOff 136 = .ok (.iload 5, 2) := by decide +kernel
theorem dX4_setOff_138 : decode cX4_setOff 138 = .ok (.invokevirtual 90, 3) := by decide +kernel
theorem dX4_setOff_141 : decode cX4_setOff 141 = .ok (.iinc 4 1, 3) := by decide +kernel
theorem dX4_setOff_144 : decode cX4_setOff 144 = .ok (.goto (-70), 3) := by decide +kernel
theorem dX4_setOff_147 : decode cX4_setOff 147 = .ok (.aload_n 0, 1) := by decide +kernel
theorem dX4_setOff_148 : decode cX4_setOff 148 = .ok (.invokevirtual 119, 3) := by decide +kernel
theorem dX4_setOff_151 : decode cX4_setOff 151 = .ok (.iload_n 3, 1) := by decide +kernel
theorem dX4_setOff_152 : decode cX4_setOff 152 = .ok (.ireturn, 1) := by decide +kernel
set_option maxRecDepth 20000 in
theorem ggX4_give_X4_isDebt : GoodIn wsX4_give wsX4_isDebt := goodIn_r _ [6, 7, 8, 9, 5, 10, 11, 12, 13, 17, 18, 19, 20, 21, 22, 23, 24, 25, 26, 27, 28, 29, 30, 31, 32, 33, 34, 35, 36, 37] (by decide +kernel) (by decide +kernel)
set_option maxRecDepth 20000 in
theorem gX4_give_X4_isDebt : GoodIn wsX4_give (wsV RX4 122 RX4 yX4_isDebt wsX4_isDebt) := goodIn_app (goodIn_of _ (by decide +kernel)) ggX4_give_X4_isDebt
set_option maxRecDepth 20000 in
theorem ggX4_give_X4_isMan : GoodIn wsX4_give wsX4_isMan := goodIn_r _ [10, 11, 12, 5, 13] (by decide +kernel) (by decide +kernel)
set_option maxRecDepth 20000 in
theorem gX4_give_X4_isMan : GoodIn wsX4_give (va_wsS RX4 55 yX4_isMan wsX4_isMan) := goodIn_app (goodIn_of _ (by decide +kernel)) ggX4_give_X4_isMan
set_option maxRecDepth 20000 in
theorem ggX4_give_X4_at : GoodIn wsX4_give wsX4_at := goodIn_r _ [16] (by decide +kernel) (by decide +kernel)
set_option maxRecDepth 20000 in
theorem gX4_give_X4_at : GoodIn wsX4_give (va_wsS RX4 79 yX4_at wsX4_at) := goodIn_app (goodIn_of _ (by decide +kernel)) ggX4_give_X4_at
theorem dX4_give_0 : decode cX4_give 0 = .ok (.aload_n 0, 1) := by decide +kernel
theorem dX4_give_1 : decode cX4_give 1 = .ok (.iload_n 1, 1) := by decide +kernel
theorem dX4_give_2 : decode cX4_give 2 = .ok (.iload_n 2, 1) := by decide +kernel
theorem dX4_give_3 : decode cX4_give 3 = .ok (.invokevirtual 122, 3) := by decide +kernel
theorem dX4_give_6 : decode cX4_give 6 = .ok (.ifCond .eq 15, 3) := by decide +kernel
theorem dX4_give_9 : decode cX4_give 9 = .ok (.iload_n 3, 1) := by decide +kernel
theorem dX4_give_10 : decode cX4_give 10 = .ok (.invokestatic 55, 3) := by decide +kernel
theorem dX4_give_13 : decode cX4_give 13 = .ok (.ifCond .eq 8, 3) := by decide +kernel
theorem dX4_give_16 : decode cX4_give 16 = .ok (.iload_n 3, 1) := by decide +kernel
theorem dX4_give_17 : decode cX4_give 17 = .ok (.iload_n 1, 1) := by decide +kernel
theorem dX4_give_18 : decode cX4_give 18 = .ok (.if_icmp .ne 5, 3) := by decide +kernel
theorem dX4_give_21 : decode cX4_give 21 = .ok (.iconst (-1), 1) := by decide +kernel
theorem dX4_give_22 : decode cX4_give 22 = .ok (.ireturn, 1) := by decide +kernel
theorem dX4_give_23 : decode cX4_give 23 = .ok (.aload_n 0, 1) := by decide +kernel
theorem dX4_give_24 : decode cX4_give 24 = .ok (.getfield 16, 3) := by decide +kernel
theorem dX4_give_27 : decode cX4_give 27 = .ok (.iload_n 1, 1) := by decide +kernel
theorem dX4_give_28 : decode cX4_give 28 = .ok (.iload_n 2, 1) := by decide +kernel
theorem dX4_give_29 : decode cX4_give 29 = .ok (.invokestatic 79, 3) := by decide +kernel
theorem dX4_give_32 : decode cX4_give 32 = .ok (.iaload, 1) := by decide +kernel
theorem dX4_give_33 : decode cX4_give 33 = .ok (.istore 4, 2) := by decide +kernel
theorem dX4_give_35 : decode cX4_give 35 = .ok (.aload_n 0, 1) := by decide +kernel
theorem dX4_give_36 : decode cX4_give 36 = .ok (.getfield 16, 3) := by decide +kernel
theorem dX4_give_39 : decode cX4_give 39 = .ok (.iload_n 1, 1) := by decide +kernel
theorem dX4_give_40 : decode cX4_give 40 = .ok (.iload_n 2, 1) := by decide +kernel
theorem dX4_give_41 : decode cX4_give 41 = .ok (.invokestatic 79, 3) := by decide +kernel
theorem dX4_give_44 : decode cX4_give 44 = .ok (.iload_n 3, 1) := by decide +kernel
theorem dX4_give_45 : decode cX4_give 45 = .ok (.iastore, 1) := by decide +kernel
theorem dX4_give_46 : decode cX4_give 46 = .ok (.iload 4, 2) := by decide +kernel
theorem dX4_give_48 : decode cX4_give 48 = .ok (.ireturn, 1) := by decide +kernel
set_option maxRecDepth 20000 in
theorem ggX4_pawn_X4_isDebt : GoodIn wsX4_pawn wsX4_isDebt := goodIn_r _ [8, 1, 9, 10, 7, 11, 12, 13, 14, 26, 27, 28, 29, 30, 31, 32, 33, 34, 35, 36, 37, 38, 39, 40, 41, 42, 43, 44, 45, 46] (by decide +kernel) (by decide +kernel)
set_option maxRecDepth 20000 in
theorem gX4_pawn_X4_isDebt : GoodIn wsX4_pawn (wsV RX4 122 RX4 yX4_isDebt wsX4_isDebt) := goodIn_app (goodIn_of _ (by decide +kernel)) ggX4_pawn_X4_isDebt
set_option maxRecDepth 20000 in
theorem ggX4_pawn_X4_layTurns : GoodIn wsX4_pawn wsX4_layTurns := goodIn_r _ [18, 1, 19, 3, 2, 20, 21, 7, 22, 23, 24, 25, 26, 27, 28, 29, 30, 31, 32, 33, 34, 35, 36, 37, 38, 39, 40, 41, 42, 43, 44, 45, 46] (by decide +kernel) (by decide +kernel)
set_option maxRecDepth 20000 in
theorem gX4_pawn_X4_layTurns : GoodIn wsX4_pawn (wsV RX4 138 RX4 yX4_layTurns wsX4_layTurns) := goodIn_app (goodIn_of _ (by decide +kernel)) ggX4_pawn_X4_layTurns
set_option maxRecDepth 20000 in
theorem ggX4_pawn_X4_at : GoodIn wsX4_pawn wsX4_at := goodIn_r _ [22] (by decide +kernel) (by decide +kernel)
set_option maxRecDepth 20000 in
theorem gX4_pawn_X4_at : GoodIn wsX4_pawn (va_wsS RX4 79 yX4_at wsX4_at) := goodIn_app (goodIn_of _ (by decide +kernel)) ggX4_pawn_X4_at
theorem dX4_pawn_0 : decode cX4_pawn 0 = .ok (.aload_n 0, 1) := by decide +kernel
theorem dX4_pawn_1 : decode cX4_pawn 1 = .ok (.iload_n 1, 1) := by decide +kernel
theorem dX4_pawn_2 : decode cX4_pawn 2 = .ok (.iload_n 2, 1) := by decide +kernel
theorem dX4_pawn_3 : decode cX4_pawn 3 = .ok (.invokevirtual 122, 3) := by decide +kernel
theorem dX4_pawn_6 : decode cX4_pawn 6 = .ok (.ifCond .ne 5, 3) := by decide +kernel
theorem dX4_pawn_9 : decode cX4_pawn 9 = .ok (.iconst (-1), 1) := by decide +kernel
theorem dX4_pawn_10 : decode cX4_pawn 10 = .ok (.ireturn, 1) := by decide +kernel
theorem dX4_pawn_11 : decode cX4_pawn 11 = .ok (.aload_n 0, 1) := by decide +kernel
theorem dX4_pawn_12 : decode cX4_pawn 12 = .ok (.invokevirtual 138, 3) := by decide +kernel
theorem dX4_pawn_15 : decode cX4_pawn 15 = .ok (.iconst 0, 1) := by decide +kernel
theorem dX4_pawn_16 : decode cX4_pawn 16 = .ok (.istore_n 3, 1) := by decide +kernel
theorem dX4_pawn_17 : decode cX4_pawn 17 = .ok (.iconst 0, 1) := by decide +kernel
theorem dX4_pawn_18 : decode cX4_pawn 18 = .ok (.istore 4, 2) := by decide +kernel
theorem dX4_pawn_20 : decode cX4_pawn 20 = .ok (.iconst 0, 1) := by decide +kernel
theorem dX4_pawn_21 : decode cX4_pawn 21 = .ok (.istore 5, 2) := by decide +kernel
theorem dX4_pawn_23 : decode cX4_pawn 23 = .ok (.iload 5, 2) := by decide +kernel
theorem dX4_pawn_25 : decode cX4_pawn 25 = .ok (.aload_n 0, 1) := by decide +kernel
theorem dX4_pawn_26 : decode cX4_pawn 26 = .ok (.getfield 13, 3) := by decide +kernel
theorem dX4_pawn_29 : decode cX4_pawn 29 = .ok (.iload_n 1, 1) := by decide +kernel
theorem dX4_pawn_30 : decode cX4_pawn 30 = .ok (.iaload, 1) := by decide +kernel
theorem dX4_pawn_31 : decode cX4_pawn 31 = .ok (.if_icmp .ge 56, 3) := by decide +kernel
theorem dX4_pawn_34 : decode cX4_pawn 34 = .ok (.iload 4, 2) := by decide +kernel
theorem dX4_pawn_36 : decode cX4_pawn 36 = .ok (.ifCond .ne 51, 3) := by decide +kernel
theorem dX4_pawn_39 : decode cX4_pawn 39 = .ok (.aload_n 0, 1) := by decide +kernel
theorem dX4_pawn_40 : decode cX4_pawn 40 = .ok (.getfield 34, 3) := by decide +kernel
theorem dX4_pawn_43 : decode cX4_pawn 43 = .ok (.iconst 5, 1) := by decide +kernel
theorem dX4_pawn_44 : decode cX4_pawn 44 = .ok (.iload_n 1, 1) := by decide +kernel
theorem dX4_pawn_45 : decode cX4_pawn 45 = .ok (.imul, 1) := by decide +kernel
theorem dX4_pawn_46 : decode cX4_pawn 46 = .ok (.iload 5, 2) := by decide +kernel
theorem dX4_pawn_48 : decode cX4_pawn 48 = .ok (.iadd, 1) := by decide +kernel
theorem dX4_pawn_49 : decode cX4_pawn 49 = .ok (.iaload, 1) := by decide +kernel
theorem dX4_pawn_50 : decode cX4_pawn 50 = .ok (.istore 6, 2) := by decide +kernel
theorem dX4_pawn_52 : decode cX4_pawn 52 = .ok (.iload_n 3, 1) := by decide +kernel
theorem dX4_pawn_53 : decode cX4_pawn 53 = .ok (.aload_n 0, 1) := by decide +kernel
theorem dX4_pawn_54 : decode cX4_pawn 54 = .ok (.getfield 16, 3) := by decide +kernel
theorem dX4_pawn_57 : decode cX4_pawn 57 = .ok (.iload_n 1, 1) := by decide +kernel
theorem dX4_pawn_58 : decode cX4_pawn 58 = .ok (.iload 6, 2) := by decide +kernel
theorem dX4_pawn_60 : decode cX4_pawn 60 = .ok (.invokestatic 79, 3) := by decide +kernel
theorem dX4_pawn_63 : decode cX4_pawn 63 = .ok (.iconst 1, 1) := by decide +kernel
theorem dX4_pawn_64 : decode cX4_pawn 64 = .ok (.iadd, 1) := by decide +kernel
theorem dX4_pawn_65 : decode cX4_pawn 65 = .ok (.iaload, 1) := by decide +kernel
theorem dX4_pawn_66 : decode cX4_pawn 66 = .ok (.iadd, 1) := by decide +kernel
theorem dX4_pawn_67 : decode cX4_pawn 67 = .ok (.istore_n 3, 1) := by decide +kernel
theorem dX4_pawn_68 : decode cX4_pawn 68 = .ok (.iload 6, 2) := by decide +kernel
theorem dX4_pawn_70 : decode cX4_pawn 70 = .ok (.iload_n 2, 1) := by decide +kernel
theorem dX4_pawn_71 : decode cX4_pawn 71 = .ok (.if_icmp .ne 7, 3) := by decide +kernel
theorem dX4_pawn_74 : decode cX4_pawn 74 = .ok (.iconst 1, 1) := by decide +kernel
theorem dX4_pawn_75 : decode cX4_pawn 75 = .ok (.goto 4, 3) := by decide +kernel
theorem dX4_pawn_78 : decode cX4_pawn 78 = .ok (.iconst 0, 1) := by decide +kernel
theorem dX4_pawn_79 : decode cX4_pawn 79 = .ok (.istore 4, 2) := by decide +kernel
theorem dX4_pawn_81 : decode cX4_pawn 81 = .ok (.iinc 5 1, 3) := by decide +kernel
theorem dX4_pawn_84 : decode cX4_pawn 84 = .ok (.goto (-61), 3) := by decide +kernel
theorem dX4_pawn_87 : decode cX4_pawn 87 = .ok (.iload_n 3, 1) := by decide +kernel
theorem dX4_pawn_88 : decode cX4_pawn 88 = .ok (.ireturn, 1) := by decide +kernel
theorem dX4_choose_0 : decode cX4_choose 0 = .ok (.lconst 1, 1) := by decide +kernel
theorem dX4_choose_1 : decode cX4_choose 1 = .ok (.lstore_n 2, 1) := by decide +kernel
theorem dX4_choose_2 : decode cX4_choose 2 = .ok (.iconst 0, 1) := by decide +kernel
theorem dX4_choose_3 : decode cX4_choose 3 = .ok (.istore 4, 2) := by decide +kernel
theorem dX4_choose_5 : decode cX4_choose 5 = .ok (.iload 4, 2) := by decide +kernel
theorem dX4_choose_7 : decode cX4_choose 7 = .ok (.iload_n 1, 1) := by decide +kernel
theorem dX4_choose_8 : decode cX4_choose 8 = .ok (.if_icmp .ge 23, 3) := by decide +kernel
theorem dX4_choose_11 : decode cX4_choose 11 = .ok (.lload_n 2, 1) := by decide +kernel
theorem dX4_choose_12 : decode cX4_choose 12 = .ok (.iload_n 0, 1) := by decide +kernel
theorem dX4_choose_13 : decode cX4_choose 13 = .ok (.iload 4, 2) := by decide +kernel
theorem dX4_choose_15 : decode cX4_choose 15 = .ok (.isub, 1) := by decide +kernel
theorem dX4_choose_16 : decode cX4_choose 16 = .ok (.i2l, 1) := by decide +kernel
theorem dX4_choose_17 : decode cX4_choose 17 = .ok (.lmul, 1) := by decide +kernel
theorem dX4_choose_18 : decode cX4_choose 18 = .ok (.iload 4, 2) := by decide +kernel
theorem dX4_choose_20 : decode cX4_choose 20 = .ok (.iconst 1, 1) := by decide +kernel
theorem dX4_choose_21 : decode cX4_choose 21 = .ok (.iadd, 1) := by decide +kernel
theorem dX4_choose_22 : decode cX4_choose 22 = .ok (.i2l, 1) := by decide +kernel
theorem dX4_choose_23 : decode cX4_choose 23 = .ok (.ldiv, 1) := by decide +kernel
theorem dX4_choose_24 : decode cX4_choose 24 = .ok (.lstore_n 2, 1) := by decide +kernel
theorem dX4_choose_25 : decode cX4_choose 25 = .ok (.iinc 4 1, 3) := by decide +kernel
theorem dX4_choose_28 : decode cX4_choose 28 = .ok (.goto (-23), 3) := by decide +kernel
theorem dX4_choose_31 : decode cX4_choose 31 = .ok (.lload_n 2, 1) := by decide +kernel
theorem dX4_choose_32 : decode cX4_choose 32 = .ok (.lreturn, 1) := by decide +kernel
theorem dX4_times_0 : decode cX4_times 0 = .ok (.lconst 1, 1) := by decide +kernel
theorem dX4_times_1 : decode cX4_times 1 = .ok (.lstore_n 3, 1) := by decide +kernel
theorem dX4_times_2 : decode cX4_times 2 = .ok (.iconst 0, 1) := by decide +kernel
theorem dX4_times_3 : decode cX4_times 3 = .ok (.istore 5, 2) := by decide +kernel
theorem dX4_times_5 : decode cX4_times 5 = .ok (.iload 5, 2) := by decide +kernel
theorem dX4_times_7 : decode cX4_times 7 = .ok (.iload_n 2, 1) := by decide +kernel
theorem dX4_times_8 : decode cX4_times 8 = .ok (.if_icmp .ge 13, 3) := by decide +kernel
theorem dX4_times_11 : decode cX4_times 11 = .ok (.lload_n 3, 1) := by decide +kernel
theorem dX4_times_12 : decode cX4_times 12 = .ok (.lload_n 0, 1) := by decide +kernel
theorem dX4_times_13 : decode cX4_times 13 = .ok (.lmul, 1) := by decide +kernel
theorem dX4_times_14 : decode cX4_times 14 = .ok (.lstore_n 3, 1) := by decide +kernel
theorem dX4_times_15 : decode cX4_times 15 = .ok (.iinc 5 1, 3) := by decide +kernel
theorem dX4_times_18 : decode cX4_times 18 = .ok (.goto (-13), 3) := by decide +kernel
theorem dX4_times_21 : decode cX4_times 21 = .ok (.lload_n 3, 1) := by decide +kernel
theorem dX4_times_22 : decode cX4_times 22 = .ok (.lreturn, 1) := by decide +kernel
set_option maxRecDepth 20000 in
theorem ggX4_odds_X4_isMan : GoodIn wsX4_odds wsX4_isMan := goodIn_r _ [10, 11, 12, 9, 13] (by decide +kernel) (by decide +kernel)
set_option maxRecDepth 20000 in
theorem gX4_odds_X4_isMan : GoodIn wsX4_odds (va_wsS RX4 55 yX4_isMan wsX4_isMan) := goodIn_app (goodIn_of _ (by decide +kernel)) ggX4_odds_X4_isMan
set_option maxRecDepth 20000 in
theorem ggX4_odds_X4_in : GoodIn wsX4_odds wsX4_in := goodIn_r _ [13] (by decide +kernel) (by decide +kernel)
set_option maxRecDepth 20000 in
theorem gX4_odds_X4_in : GoodIn wsX4_odds (va_wsS RX4 51 yX4_in wsX4_in) := goodIn_app (goodIn_of _ (by decide +kernel)) ggX4_odds_X4_in
set_option maxRecDepth 20000 in
theorem ggX4_odds_X4_asNow : GoodIn wsX4_odds wsX4_asNow := goodIn_r _ [17, 18, 19, 20, 5, 21, 3, 22, 23, 47, 48, 49, 50, 51, 52, 53, 54, 55, 56, 57, 58, 59, 60, 61, 62, 63, 64, 65, 66, 67] (by decide +kernel) (by decide +kernel)
set_option maxRecDepth 20000 in
theorem gX4_odds_X4_asNow : GoodIn wsX4_odds (wsV RX4 94 RX4 yX4_asNow wsX4_asNow) := goodIn_app (goodIn_of _ (by decide +kernel)) ggX4_odds_X4_asNow
set_option maxRecDepth 20000 in
theorem ggX4_odds_X4_pass : GoodIn wsX4_odds wsX4_pass := goodIn_r _ [27, 19, 21, 22, 28, 29, 30, 9, 31, 47, 48, 49, 50, 51, 52, 53, 54, 55, 56, 57, 58, 59, 60, 61, 62, 63, 64, 65, 66, 67] (by decide +kernel) (by decide +kernel)
set_option maxRecDepth 20000 in
theorem gX4_odds_X4_pass : GoodIn wsX4_odds (wsV RX4 106 RX4 yX4_pass wsX4_pass) := goodIn_app (goodIn_of _ (by decide +kernel)) ggX4_odds_X4_pass
set_option maxRecDepth 20000 in
theorem ggX4_odds_X4_penceDue : GoodIn wsX4_odds wsX4_penceDue := goodIn_r _ [35, 22, 36, 37, 38, 9, 39, 21, 40, 29, 30, 31, 47, 48, 49, 50, 51, 52, 53, 54, 55, 56, 57, 58, 59, 60, 61, 62, 63, 64, 65, 66, 67] (by decide +kernel) (by decide +kernel)
set_option maxRecDepth 20000 in
theorem gX4_odds_X4_penceDue : GoodIn wsX4_odds (wsV RX4 87 RX4 yX4_penceDue wsX4_penceDue) := goodIn_app (goodIn_of _ (by decide +kernel)) ggX4_odds_X4_penceDue
set_option maxRecDepth 20000 in
theorem ggX4_odds_X4_choose : GoodIn wsX4_odds wsX4_choose := goodIn_r _ [43] (by decide +kernel) (by decide +kernel)
set_option maxRecDepth 20000 in
theorem gX4_odds_X4_choose : GoodIn wsX4_odds (va_wsS RX4 166 yX4_choose wsX4_choose) := goodIn_app (goodIn_of _ (by decide +kernel)) ggX4_odds_X4_choose
set_option maxRecDepth 20000 in
theorem ggX4_odds_X4_times : GoodIn wsX4_odds wsX4_times := goodIn_r _ [46] (by decide +kernel) (by decide +kernel)
set_option maxRecDepth 20000 in
theorem gX4_odds_X4_times : GoodIn wsX4_odds (va_wsS RX4 170 yX4_times wsX4_times) := goodIn_app (goodIn_of _ (by decide +kernel)) ggX4_odds_X4_times
theorem dX4_odds_0 : decode cX4_odds 0 = .ok (.iload_n 1, 1) := by decide +kernel
theorem dX4_odds_1 : decode cX4_odds 1 = .ok (.invokestatic 55, 3) := by decide +kernel
theorem dX4_odds_4 : decode cX4_odds 4 = .ok (.ifCond .ne 7, 3) := by decide +kernel
theorem dX4_odds_7 : decode cX4_odds 7 = .ok (.ldc2_w 160, 3) := by decide +kernel
theorem dX4_odds_10 : decode cX4_odds 10 = .ok (.lreturn, 1) := by decide +kernel
theorem dX4_odds_11 : decode cX4_odds 11 = .ok (.iload_n 2, 1) := by decide +kernel
theorem dX4_odds_12 : decode cX4_odds 12 = .ok (.iconst 1, 1) := by decide +kernel
theorem dX4_odds_13 : decode cX4_odds 13 = .ok (.bipush 99, 2) := by decide +kernel
theorem dX4_odds_15 : decode cX4_odds 15 = .ok (.invokestatic 51, 3) := by decide +kernel
theorem dX4_odds_18 : decode cX4_odds 18 = .ok (.ifCond .eq 34, 3) := by decide +kernel
theorem dX4_odds_21 : decode cX4_odds 21 = .ok (.iload_n 3, 1) := by decide +kernel
theorem dX4_odds_22 : decode cX4_odds 22 = .ok (.iconst 0, 1) := by decide +kernel
theorem dX4_odds_23 : decode cX4_odds 23 = .ok (.bipush 12, 2) := by decide +kernel
theorem dX4_odds_25 : decode cX4_odds 25 = .ok (.invokestatic 51, 3) := by decide +kernel
theorem dX4_odds_28 : decode cX4_odds 28 = .ok (.ifCond .eq 24, 3) := by decide +kernel
theorem dX4_odds_31 : decode cX4_odds 31 = .ok (.iload 4, 2) := by decide +kernel
theorem dX4_odds_33 : decode cX4_odds 33 = .ok (.iconst 0, 1) := by decide +kernel
theorem dX4_odds_34 : decode cX4_odds 34 = .ok (.bipush 10, 2) := by decide +kernel
theorem dX4_odds_36 : decode cX4_odds 36 = .ok (.invokestatic 51, 3) := by decide +kernel
theorem dX4_odds_39 : decode cX4_odds 39 = .ok (.ifCond .eq 13, 3) := by decide +kernel
theorem dX4_odds_42 : decode cX4_odds 42 = .ok (.iload 5, 2) := by decide +kernel
theorem dX4_odds_44 : decode cX4_odds 44 = .ok (.iconst 0, 1) := by decide +kernel
theorem dX4_odds_45 : decode cX4_odds 45 = .ok (.iconst 1, 1) := by decide +kernel
theorem dX4_odds_46 : decode cX4_odds 46 = .ok (.invokestatic 51, 3) := by decide +kernel
theorem dX4_odds_49 : decode cX4_odds 49 = .ok (.ifCond .ne 7, 3) := by decide +kernel
theorem dX4_odds_52 : decode cX4_odds 52 = .ok (.ldc2_w 162, 3) := by decide +kernel
theorem dX4_odds_55 : decode cX4_odds 55 = .ok (.lreturn, 1) := by decide +kernel
theorem dX4_odds_56 : decode cX4_odds 56 = .ok (.aload_n 0, 1) := by decide +kernel
theorem dX4_odds_57 : decode cX4_odds 57 = .ok (.getfield 13, 3) := by decide +kernel
theorem dX4_odds_60 : decode cX4_odds 60 = .ok (.iload_n 1, 1) := by decide +kernel
theorem dX4_odds_61 : decode cX4_odds 61 = .ok (.iaload, 1) := by decide +kernel
theorem dX4_odds_62 : decode cX4_odds 62 = .ok (.ifCond .ne 7, 3) := by decide +kernel
theorem dX4_odds_65 : decode cX4_odds 65 = .ok (.ldc2_w 164, 3) := by decide +kernel
theorem dX4_odds_68 : decode cX4_odds 68 = .ok (.lreturn, 1) := by decide +kernel
theorem dX4_odds_69 : decode cX4_odds 69 = .ok (.aload_n 0, 1) := by decide +kernel
theorem dX4_odds_70 : decode cX4_odds 70 = .ok (.invokevirtual 94, 3) := by decide +kernel
theorem dX4_odds_73 : decode cX4_odds 73 = .ok (.iconst 0, 1) := by decide +kernel
theorem dX4_odds_74 : decode cX4_odds 74 = .ok (.istore 6, 2) := by decide +kernel
theorem dX4_odds_76 : decode cX4_odds 76 = .ok (.iload 6, 2) := by decide +kernel
theorem dX4_odds_78 : decode cX4_odds 78 = .ok (.iload_n 3, 1) := by decide +kernel
theorem dX4_odds_79 : decode cX4_odds 79 = .ok (.if_icmp .ge 13, 3) := by decide +kernel
theorem dX4_odds_82 : decode cX4_odds 82 = .ok (.aload_n 0, 1) := by decide +kernel
theorem dX4_odds_83 : decode cX4_odds 83 = .ok (.invokevirtual 106, 3) := by decide +kernel
theorem dX4_odds_86 : decode cX4_odds 86 = .ok (.iinc 6 1, 3) := by decide +kernel
theorem dX4_odds_89 : decode cX4_odds 89 = .ok (.goto (-13), 3) := by decide +kernel
theorem dX4_odds_92 : decode cX4_odds 92 = .ok (.aload_n 0, 1) := by decide +kernel
theorem dX4_odds_93 : decode cX4_odds 93 = .ok (.iload_n 1, 1) := by decide +kernel
theorem dX4_odds_94 : decode cX4_odds 94 = .ok (.invokevirtual 87, 3) := by decide +kernel
theorem dX4_odds_97 : decode cX4_odds 97 = .ok (.istore 6, 2) := by decide +kernel
theorem dX4_odds_99 : decode cX4_odds 99 = .ok (.lconst 0, 1) := by decide +kernel
theorem dX4_odds_100 : decode cX4_odds 100 = .ok (.lstore 7, 2) := by decide +kernel
theorem dX4_odds_102 : decode cX4_odds 102 = .ok (.iconst 0, 1) := by decide +kernel
theorem dX4_odds_103 : decode cX4_odds 103 = .ok (.istore 9, 2) := by decide +kernel
theorem dX4_odds_105 : decode cX4_odds 105 = .ok (.iload 9, 2) := by decide +kernel
theorem dX4_odds_107 : decode cX4_odds 107 = .ok (.iload_n 3, 1) := by decide +kernel
theorem dX4_odds_108 : decode cX4_odds 108 = .ok (.if_icmp .gt 63, 3) := by decide +kernel
theorem dX4_odds_111 : decode cX4_odds 111 = .ok (.lload 7, 2) := by decide +kernel
theorem dX4_odds_113 : decode cX4_odds 113 = .ok (.aload_n 0, 1) := by decide +kernel
theorem dX4_odds_114 : decode cX4_odds 114 = .ok (.getfield 7, 3) := by decide +kernel
theorem dX4_odds_117 : decode cX4_odds 117 = .ok (.iload_n 1, 1) := by decide +kernel
theorem dX4_odds_118 : decode cX4_odds 118 = .ok (.iaload, 1) := by decide +kernel
theorem dX4_odds_119 : decode cX4_odds 119 = .ok (.iload_n 2, 1) := by decide +kernel
theorem dX4_odds_120 : decode cX4_odds 120 = .ok (.iload 9, 2) := by decide +kernel
theorem dX4_odds_122 : decode cX4_odds 122 = .ok (.imul, 1) := by decide +kernel
theorem dX4_odds_123 : decode cX4_odds 123 = .ok (.iadd, 1) := by decide +kernel
theorem dX4_odds_124 : decode cX4_odds 124 = .ok (.iload 6, 2) := by decide +kernel
theorem dX4_odds_126 : decode cX4_odds 126 = .ok (.if_icmp .lt 35, 3) := by decide +kernel
theorem dX4_odds_129 : decode cX4_odds 129 = .ok (.iload_n 3, 1) := by decide +kernel
theorem dX4_odds_130 : decode cX4_odds 130 = .ok (.iload 9, 2) := by decide +kernel
theorem dX4_odds_132 : decode cX4_odds 132 = .ok (.invokestatic 166, 3) := by decide +kernel
theorem dX4_odds_135 : decode cX4_odds 135 = .ok (.iload 4, 2) := by decide +kernel
theorem dX4_odds_137 : decode cX4_odds 137 = .ok (.i2l, 1) := by decide +kernel
theorem dX4_odds_138 : decode cX4_odds 138 = .ok (.iload 9, 2) := by decide +kernel
theorem dX4_odds_140 : decode cX4_odds 140 = .ok (.invokestatic 170, 3) := by decide +kernel
theorem dX4_odds_143 : decode cX4_odds 143 = .ok (.lmul, 1) := by decide +kernel
theorem dX4_odds_144 : decode cX4_odds 144 = .ok (.bipush 10, 2) := by decide +kernel
theorem dX4_odds_146 : decode cX4_odds 146 = .ok (.iload 4, 2) := by decide +kernel
theorem dX4_odds_148 : decode cX4_odds 148 = .ok (.isub, 1) := by decide +kernel
theorem dX4_odds_149 : decode cX4_odds 149 = .ok (.i2l, 1) := by decide +kernel
theorem dX4_odds_150 : decode cX4_odds 150 = .ok (.iload_n 3, 1) := by decide +kernel
theorem dX4_odds_151 : decode cX4_odds 151 = .ok (.iload 9, 2) := by decide +kernel
theorem dX4_odds_153 : decode cX4_odds 153 = .ok (.isub, 1) := by decide +kernel
theorem dX4_odds_154 : decode cX4_odds 154 = .ok (.invokestatic 170, 3) := by decide +kernel
theorem dX4_odds_157 : decode cX4_odds 157 = .ok (.lmul, 1) := by decide +kernel
theorem dX4_odds_158 : decode cX4_odds 158 = .ok (.goto 4, 3) := by decide +kernel
theorem dX4_odds_161 : decode cX4_odds 161 = .ok (.lconst 0, 1) := by decide +kernel
theorem dX4_odds_162 : decode cX4_odds 162 = .ok (.ladd, 1) := by decide +kernel
theorem dX4_odds_163 : decode cX4_odds 163 = .ok (.lstore 7, 2) := by decide +kernel
theorem dX4_odds_165 : decode cX4_odds 165 = .ok (.iinc 9 1, 3) := by decide +kernel
theorem dX4_odds_168 : decode cX4_odds 168 = .ok (.goto (-63), 3) := by decide +kernel
theorem dX4_odds_171 : decode cX4_odds 171 = .ok (.lload 7, 2) := by decide +kernel
theorem dX4_odds_173 : decode cX4_odds 173 = .ok (.lstore 9, 2) := by decide +kernel
theorem dX4_odds_175 : decode cX4_odds 175 = .ok (.ldc2_w 174, 3) := by decide +kernel
theorem dX4_odds_178 : decode cX4_odds 178 = .ok (.iload_n 3, 1) := by decide +kernel
theorem dX4_odds_179 : decode cX4_odds 179 = .ok (.invokestatic 170, 3) := by decide +kernel
theorem dX4_odds_182 : decode cX4_odds 182 = .ok (.lstore 11, 2) := by decide +kernel
theorem dX4_odds_184 : decode cX4_odds 184 = .ok (.lload 11, 2) := by decide +kernel
theorem dX4_odds_186 : decode cX4_odds 186 = .ok (.lconst 0, 1) := by decide +kernel
theorem dX4_odds_187 : decode cX4_odds 187 = .ok (.lcmp, 1) := by decide +kernel
theorem dX4_odds_188 : decode cX4_odds 188 = .ok (.ifCond .eq 21, 3) := by decide +kernel
theorem dX4_odds_191 : decode cX4_odds 191 = .ok (.lload 9, 2) := by decide +kernel
theorem dX4_odds_193 : decode cX4_odds 193 = .ok (.lload 11, 2) := by decide +kernel
theorem dX4_odds_195 : decode cX4_odds 195 = .ok (.lrem, 1) := by decide +kernel
theorem dX4_odds_196 : decode cX4_odds 196 = .ok (.lstore 13, 2) := by decide +kernel
theorem dX4_odds_198 : decode cX4_odds 198 = .ok (.lload 11, 2) := by decide +kernel
theorem dX4_odds_200 : decode cX4_odds 200 = .ok (.lstore 9, 2) := by decide +kernel
theorem dX4_odds_202 : decode cX4_odds 202 = .ok (.lload 13, 2) := by decide +kernel
theorem dX4_odds_204 : decode cX4_odds 204 = .ok (.lstore 11, 2) := by decide +kernel
theorem dX4_odds_206 : decode cX4_odds 206 = .ok (.goto (-22), 3) := by decide +kernel
theorem dX4_odds_209 : decode cX4_odds 209 = .ok (.iload 5, 2) := by decide +kernel
theorem dX4_odds_211 : decode cX4_odds 211 = .ok (.ifCond .ne 11, 3) := by decide +kernel
theorem dX4_odds_214 : decode cX4_odds 214 = .ok (.lload 7, 2) := by decide +kernel
theorem dX4_odds_216 : decode cX4_odds 216 = .ok (.lload 9, 2) := by decide +kernel
theorem dX4_odds_218 : decode cX4_odds 218 = .ok (.ldiv, 1) := by decide +kernel
theorem dX4_odds_219 : decode cX4_odds 219 = .ok (.goto 13, 3) := by decide +kernel
theorem dX4_odds_222 : decode cX4_odds 222 = .ok (.ldc2_w 174, 3) := by decide +kernel
theorem dX4_odds_225 : decode cX4_odds 225 = .ok (.iload_n 3, 1) := by decide +kernel
theorem dX4_odds_226 : decode cX4_odds 226 = .ok (.invokestatic 170, 3) := by decide +kernel
theorem dX4_odds_229 : decode cX4_odds 229 = .ok (.lload 9, 2) := by decide +kernel
theorem dX4_odds_231 : decode cX4_odds 231 = .ok (.ldiv, 1) := by decide +kernel
theorem dX4_odds_232 : decode cX4_odds 232 = .ok (.lreturn, 1) := by decide +kernel
set_option maxRecDepth 20000 in
theorem ggX4_year_X4_in : GoodIn wsX4_year wsX4_in := goodIn_r _ [8] (by decide +kernel) (by decide +kernel)
set_option maxRecDepth 20000 in
theorem gX4_year_X4_in : GoodIn wsX4_year (va_wsS RX4 51 yX4_in wsX4_in) := goodIn_app (goodIn_of _ (by decide +kernel)) ggX4_year_X4_in
set_option maxRecDepth 20000 in
theorem ggX4_year_X4_asNow : GoodIn wsX4_year wsX4_asNow := goodIn_r _ [12, 13, 14, 2, 15, 3, 16, 4, 17, 47, 48, 49, 50, 51, 52, 53, 54, 55, 56, 57, 58, 59, 60, 61, 62, 63, 64, 65, 66, 67] (by decide +kernel) (by decide +kernel)
set_option maxRecDepth 20000 in
theorem gX4_year_X4_asNow : GoodIn wsX4_year (wsV RX4 94 RX4 yX4_asNow wsX4_asNow) := goodIn_app (goodIn_of _ (by decide +kernel)) ggX4_year_X4_asNow
set_option maxRecDepth 20000 in
theorem ggX4_year_X4_canPay : GoodIn wsX4_year wsX4_canPay := goodIn_r _ [21, 2, 22, 23, 24, 7, 25, 4, 26, 27, 28, 29, 3, 30, 31, 32, 33, 47, 48, 49, 50, 51, 52, 53, 54, 55, 56, 57, 58, 59, 60, 61, 62, 63, 64, 65, 66, 67] (by decide +kernel) (by decide +kernel)
set_option maxRecDepth 20000 in
theorem gX4_year_X4_canPay : GoodIn wsX4_year (wsV RX4 109 RX4 yX4_canPay wsX4_canPay) := goodIn_app (goodIn_of _ (by decide +kernel)) ggX4_year_X4_canPay
set_option maxRecDepth 20000 in
theorem ggX4_year_X4_pay : GoodIn wsX4_year wsX4_pay := goodIn_r _ [37, 2, 4, 26, 27, 28, 7, 29, 3, 30, 31, 32, 33, 38, 39, 40, 41, 47, 48, 49, 50, 51, 52, 53, 54, 55, 56, 57, 58, 59, 60, 61, 62, 63, 64, 65, 66, 67] (by decide +kernel) (by decide +kernel)
set_option maxRecDepth 20000 in
theorem gX4_year_X4_pay : GoodIn wsX4_year (wsV RX4 112 RX4 yX4_pay wsX4_pay) := goodIn_app (goodIn_of _ (by decide +kernel)) ggX4_year_X4_pay
set_option maxRecDepth 20000 in
theorem ggX4_year_X4_pass : GoodIn wsX4_year wsX4_pass := goodIn_r _ [45, 14, 3, 4, 46, 31, 32, 7, 33, 47, 48, 49, 50, 51, 52, 53, 54, 55, 56, 57, 58, 59, 60, 61, 62, 63, 64, 65, 66, 67] (by decide +kernel) (by decide +kernel)
set_option maxRecDepth 20000 in
theorem gX4_year_X4_pass : GoodIn wsX4_year (wsV RX4 106 RX4 yX4_pass wsX4_pass) := goodIn_app (goodIn_of _ (by decide +kernel)) ggX4_year_X4_pass
set_option maxRecDepth 20000 in
theorem ggX4_year_X4_at : GoodIn wsX4_year wsX4_at := goodIn_r _ [33] (by decide +kernel) (by decide +kernel)
set_option maxRecDepth 20000 in
theorem gX4_year_X4_at : GoodIn wsX4_year (va_wsS RX4 79 yX4_at wsX4_at) := goodIn_app (goodIn_of _ (by decide +kernel)) ggX4_year_X4_at
theorem dX4_year_0 : decode cX4_year 0 = .ok (.iload_n 1, 1) := by decide +kernel
theorem dX4_year_1 : decode cX4_year 1 = .ok (.iconst 0, 1) := by decide +kernel
theorem dX4_year_2 : decode cX4_year 2 = .ok (.sipush 9999, 3) := by decide +kernel
theorem dX4_year_5 : decode cX4_year 5 = .ok (.invokestatic 51, 3) := by decide +kernel
theorem dX4_year_8 : decode cX4_year 8 = .ok (.ifCond .eq 22, 3) := by decide +kernel
theorem dX4_year_11 : decode cX4_year 11 = .ok (.iload_n 2, 1) := by decide +kernel
theorem dX4_year_12 : decode cX4_year 12 = .ok (.iconst 1, 1) := by decide +kernel
theorem dX4_year_13 : decode cX4_year 13 = .ok (.bipush 99, 2) := by decide +kernel
theorem dX4_year_15 : decode cX4_year 15 = .ok (.invokestatic 51, 3) := by decide +kernel
theorem dX4_year_18 : decode cX4_year 18 = .ok (.ifCond .eq 12, 3) := by decide +kernel
theorem dX4_year_21 : decode cX4_year 21 = .ok (.iload_n 3, 1) := by decide +kernel
theorem dX4_year_22 : decode cX4_year 22 = .ok (.iconst 0, 1) := by decide +kernel
theorem dX4_year_23 : decode cX4_year 23 = .ok (.iconst 2, 1) := by decide +kernel
theorem dX4_year_24 : decode cX4_year 24 = .ok (.invokestatic 51, 3) := by decide +kernel
theorem dX4_year_27 : decode cX4_year 27 = .ok (.ifCond .ne 6, 3) := by decide +kernel
theorem dX4_year_30 : decode cX4_year 30 = .ok (.bipush (-2), 2) := by decide +kernel
theorem dX4_year_32 : decode cX4_year 32 = .ok (.ireturn, 1) := by decide +kernel
theorem dX4_year_33 : decode cX4_year 33 = .ok (.aload_n 0, 1) := by decide +kernel
theorem dX4_year_34 : decode cX4_year 34 = .ok (.invokevirtual 94, 3) := by decide +kernel
theorem dX4_year_37 : decode cX4_year 37 = .ok (.iload_n 1, 1) := by decide +kernel
theorem dX4_year_38 : decode cX4_year 38 = .ok (.istore 4, 2) := by decide +kernel
theorem dX4_year_40 : decode cX4_year 40 = .ok (.iconst 0, 1) := by decide +kernel
theorem dX4_year_41 : decode cX4_year 41 = .ok (.istore 5, 2) := by decide +kernel
theorem dX4_year_43 : decode cX4_year 43 = .ok (.iconst 0, 1) := by decide +kernel
theorem dX4_year_44 : decode cX4_year 44 = .ok (.istore 6, 2) := by decide +kernel
theorem dX4_year_46 : decode cX4_year 46 = .ok (.iload 6, 2) := by decide +kernel
theorem dX4_year_48 : decode cX4_year 48 = .ok (.iload_n 2, 1) := by decide +kernel
theorem dX4_year_49 : decode cX4_year 49 = .ok (.if_icmp .ge 74, 3) := by decide +kernel
theorem dX4_year_52 : decode cX4_year 52 = .ok (.bipush 75, 2) := by decide +kernel
theorem dX4_year_54 : decode cX4_year 54 = .ok (.iload 4, 2) := by decide +kernel
theorem dX4_year_56 : decode cX4_year 56 = .ok (.imul, 1) := by decide +kernel
theorem dX4_year_57 : decode cX4_year 57 = .ok (.bipush 74, 2) := by decide +kernel
theorem dX4_year_59 : decode cX4_year 59 = .ok (.iadd, 1) := by decide +kernel
theorem dX4_year_60 : decode cX4_year 60 = .ok (.ldc 176, 2) := by decide +kernel
theorem dX4_year_62 : decode cX4_year 62 = .ok (.irem, 1) := by decide +kernel
theorem dX4_year_63 : decode cX4_year 63 = .ok (.istore 4, 2) := by decide +kernel
theorem dX4_year_65 : decode cX4_year 65 = .ok (.iload 4, 2) := by decide +kernel
theorem dX4_year_67 : decode cX4_year 67 = .ok (.bipush 6, 2) := by decide +kernel
theorem dX4_year_69 : decode cX4_year 69 = .ok (.irem, 1) := by decide +kernel
theorem dX4_year_70 : decode cX4_year 70 = .ok (.istore 7, 2) := by decide +kernel
theorem dX4_year_72 : decode cX4_year 72 = .ok (.aload_n 0, 1) := by decide +kernel
theorem dX4_year_73 : decode cX4_year 73 = .ok (.getfield 25, 3) := by decide +kernel
theorem dX4_year_76 : decode cX4_year 76 = .ok (.iload 7, 2) := by decide +kernel
theorem dX4_year_78 : decode cX4_year 78 = .ok (.dup2, 1) := by decide +kernel
theorem dX4_year_79 : decode cX4_year 79 = .ok (.iaload, 1) := by decide +kernel
theorem dX4_year_80 : decode cX4_year 80 = .ok (.iconst 1, 1) := by decide +kernel
theorem dX4_year_81 : decode cX4_year 81 = .ok (.iload 4, 2) := by decide +kernel
theorem dX4_year_83 : decode cX4_year 83 = .ok (.bipush 6, 2) := by decide +kernel
theorem dX4_year_85 : decode cX4_year 85 = .ok (.idiv, 1) := by decide +kernel
theorem dX4_year_86 : decode cX4_year 86 = .ok (.bipush 9, 2) := by decide +kernel
theorem dX4_year_88 : decode cX4_year 88 = .ok (.irem, 1) := by decide +kernel
theorem dX4_year_89 : decode cX4_year 89 = .ok (.iadd, 1) := by decide +kernel
theorem dX4_year_90 : decode cX4_year 90 = .ok (.iadd, 1) := by decide +kernel
theorem dX4_year_91 : decode cX4_year 91 = .ok (.iastore, 1) := by decide +kernel
theorem dX4_year_92 : decode cX4_year 92 = .ok (.aload_n 0, 1) := by decide +kernel
theorem dX4_year_93 : decode cX4_year 93 = .ok (.iload 7, 2) := by decide +kernel
theorem dX4_year_95 : decode cX4_year 95 = .ok (.invokevirtual 109, 3) := by decide +kernel
theorem dX4_year_98 : decode cX4_year 98 = .ok (.ifCond .eq 15, 3) := by decide +kernel
theorem dX4_year_101 : decode cX4_year 101 = .ok (.aload_n 0, 1) := by decide +kernel
theorem dX4_year_102 : decode cX4_year 102 = .ok (.iload 7, 2) := by decide +kernel
theorem dX4_year_104 : decode cX4_year 104 = .ok (.invokevirtual 112, 3) := by decide +kernel
theorem dX4_year_107 : decode cX4_year 107 = .ok (.iinc 5 1, 3) := by decide +kernel
theorem dX4_year_110 : decode cX4_year 110 = .ok (.goto (-18), 3) := by decide +kernel
theorem dX4_year_113 : decode cX4_year 113 = .ok (.aload_n 0, 1) := by decide +kernel
theorem dX4_year_114 : decode cX4_year 114 = .ok (.invokevirtual 106, 3) := by decide +kernel
theorem dX4_year_117 : decode cX4_year 117 = .ok (.iinc 6 1, 3) := by decide +kernel
theorem dX4_year_120 : decode cX4_year 120 = .ok (.goto (-74), 3) := by decide +kernel
theorem dX4_year_123 : decode cX4_year 123 = .ok (.iconst 0, 1) := by decide +kernel
theorem dX4_year_124 : decode cX4_year 124 = .ok (.istore 6, 2) := by decide +kernel
theorem dX4_year_126 : decode cX4_year 126 = .ok (.iconst 0, 1) := by decide +kernel
theorem dX4_year_127 : decode cX4_year 127 = .ok (.istore 7, 2) := by decide +kernel
theorem dX4_year_129 : decode cX4_year 129 = .ok (.iconst 0, 1) := by decide +kernel
theorem dX4_year_130 : decode cX4_year 130 = .ok (.istore 8, 2) := by decide +kernel
theorem dX4_year_132 : decode cX4_year 132 = .ok (.iload 8, 2) := by decide +kernel
theorem dX4_year_134 : decode cX4_year 134 = .ok (.bipush 6, 2) := by decide +kernel
theorem dX4_year_136 : decode cX4_year 136 = .ok (.if_icmp .ge 61, 3) := by decide +kernel
theorem dX4_year_139 : decode cX4_year 139 = .ok (.iload 6, 2) := by decide +kernel
theorem dX4_year_141 : decode cX4_year 141 = .ok (.aload_n 0, 1) := by decide +kernel
theorem dX4_year_142 : decode cX4_year 142 = .ok (.getfield 28, 3) := by decide +kernel
theorem dX4_year_145 : decode cX4_year 145 = .ok (.iload 8, 2) := by decide +kernel
theorem dX4_year_147 : decode cX4_year 147 = .ok (.iaload, 1) := by decide +kernel
theorem dX4_year_148 : decode cX4_year 148 = .ok (.iadd, 1) := by decide +kernel
theorem dX4_year_149 : decode cX4_year 149 = .ok (.istore 6, 2) := by decide +kernel
theorem dX4_year_151 : decode cX4_year 151 = .ok (.iconst 0, 1) := by decide +kernel
theorem dX4_year_152 : decode cX4_year 152 = .ok (.istore 9, 2) := by decide +kernel
theorem dX4_year_154 : decode cX4_year 154 = .ok (.iload 9, 2) := by decide +kernel
theorem dX4_year_156 : decode cX4_year 156 = .ok (.aload_n 0, 1) := by decide +kernel
theorem dX4_year_157 : decode cX4_year 157 = .ok (.getfield 28, 3) := by decide +kernel
theorem dX4_year_160 : decode cX4_year 160 = .ok (.iload 8, 2) := by decide +kernel
theorem dX4_year_162 : decode cX4_year 162 = .ok (.iaload, 1) := by decide +kernel
theorem dX4_year_163 : decode cX4_year 163 = .ok (.if_icmp .ge 28, 3) := by decide +kernel
theorem dX4_year_166 : decode cX4_year 166 = .ok (.iload 7, 2) := by decide +kernel
theorem dX4_year_168 : decode cX4_year 168 = .ok (.aload_n 0, 1) := by decide +kernel
theorem dX4_year_169 : decode cX4_year 169 = .ok (.getfield 31, 3) := by decide +kernel
theorem dX4_year_172 : decode cX4_year 172 = .ok (.iload 8, 2) := by decide +kernel
theorem dX4_year_174 : decode cX4_year 174 = .ok (.iload 9, 2) := by decide +kernel
theorem dX4_year_176 : decode cX4_year 176 = .ok (.invokestatic 79, 3) := by decide +kernel
theorem dX4_year_179 : decode cX4_year 179 = .ok (.iconst 1, 1) := by decide +kernel
theorem dX4_year_180 : decode cX4_year 180 = .ok (.iadd, 1) := by decide +kernel
theorem dX4_year_181 : decode cX4_year 181 = .ok (.iaload, 1) := by decide +kernel
theorem dX4_year_182 : decode cX4_year 182 = .ok (.iadd, 1) := by decide +kernel
theorem dX4_year_183 : decode cX4_year 183 = .ok (.istore 7, 2) := by decide +kernel
theorem dX4_year_185 : decode cX4_year 185 = .ok (.iinc 9 1, 3) := by decide +kernel
theorem dX4_year_188 : decode cX4_year 188 = .ok (.goto (-34), 3) := by decide +kernel
theorem dX4_year_191 : decode cX4_year 191 = .ok (.iinc 8 1, 3) := by decide +kernel
theorem dX4_year_194 : decode cX4_year 194 = .ok (.goto (-62), 3) := by decide +kernel
theorem dX4_year_197 : decode cX4_year 197 = .ok (.iload_n 3, 1) := by decide +kernel
theorem dX4_year_198 : decode cX4_year 198 = .ok (.ifCond .ne 8, 3) := by decide +kernel
theorem dX4_year_201 : decode cX4_year 201 = .ok (.iload 5, 2) := by decide +kernel
theorem dX4_year_203 : decode cX4_year 203 = .ok (.goto 15, 3) := by decide +kernel
theorem dX4_year_206 : decode cX4_year 206 = .ok (.iload_n 3, 1) := by decide +kernel
theorem dX4_year_207 : decode cX4_year 207 = .ok (.iconst 1, 1) := by decide +kernel
theorem dX4_year_208 : decode cX4_year 208 = .ok (.if_icmp .ne 8, 3) := by decide +kernel
theorem dX4_year_211 : decode cX4_year 211 = .ok (.iload 6, 2) := by decide +kernel
theorem dX4_year_213 : decode cX4_year 213 = .ok (.goto 5, 3) := by decide +kernel
theorem dX4_year_216 : decode cX4_year 216 = .ok (.iload 7, 2) := by decide +kernel
theorem dX4_year_218 : decode cX4_year 218 = .ok (.ireturn, 1) := by decide +kernel
set_option maxRecDepth 20000 in
theorem ggX4_image_X4_in : GoodIn wsX4_image wsX4_in := goodIn_r _ [14] (by decide +kernel) (by decide +kernel)
set_option maxRecDepth 20000 in
theorem gX4_image_X4_in : GoodIn wsX4_image (va_wsS RX4 51 yX4_in wsX4_in) := goodIn_app (goodIn_of _ (by decide +kernel)) ggX4_image_X4_in
theorem dX4_image_0 : decode cX4_image 0 = .ok (.iload_n 1, 1) := by decide +kernel
theorem dX4_image_1 : decode cX4_image 1 = .ok (.iconst 0, 1) := by decide +kernel
theorem dX4_image_2 : decode cX4_image 2 = .ok (.iconst 1, 1) := by decide +kernel
theorem dX4_image_3 : decode cX4_image 3 = .ok (.invokestatic 51, 3) := by decide +kernel
theorem dX4_image_6 : decode cX4_image 6 = .ok (.ifCond .ne 6, 3) := by decide +kernel
theorem dX4_image_9 : decode cX4_image 9 = .ok (.bipush (-2), 2) := by decide +kernel
theorem dX4_image_11 : decode cX4_image 11 = .ok (.ireturn, 1) := by decide +kernel
theorem dX4_image_12 : decode cX4_image 12 = .ok (.bipush 118, 2) := by decide +kernel
theorem dX4_image_14 : decode cX4_image 14 = .ok (.iload_n 1, 1) := by decide +kernel
theorem dX4_image_15 : decode cX4_image 15 = .ok (.imul, 1) := by decide +kernel
theorem dX4_image_16 : decode cX4_image 16 = .ok (.istore_n 2, 1) := by decide +kernel
theorem dX4_image_17 : decode cX4_image 17 = .ok (.iconst 0, 1) := by decide +kernel
theorem dX4_image_18 : decode cX4_image 18 = .ok (.istore_n 3, 1) := by decide +kernel
theorem dX4_image_19 : decode cX4_image 19 = .ok (.iload_n 3, 1) := by decide +kernel
theorem dX4_image_20 : decode cX4_image 20 = .ok (.bipush 90, 2) := by decide +kernel
theorem dX4_image_22 : decode cX4_image 22 = .ok (.if_icmp .ge 23, 3) := by decide +kernel
theorem dX4_image_25 : decode cX4_image 25 = .ok (.aload_n 0, 1) := by decide +kernel
theorem dX4_image_26 : decode cX4_image 26 = .ok (.getfield 45, 3) := by decide +kernel
theorem dX4_image_29 : decode cX4_image 29 = .ok (.iload_n 2, 1) := by decide +kernel
theorem dX4_image_30 : decode cX4_image 30 = .ok (.iload_n 3, 1) := by decide +kernel
theorem dX4_image_31 : decode cX4_image 31 = .ok (.iadd, 1) := by decide +kernel
theorem dX4_image_32 : decode cX4_image 32 = .ok (.aload_n 0, 1) := by decide +kernel
theorem dX4_image_33 : decode cX4_image 33 = .ok (.getfield 16, 3) := by decide +kernel
theorem dX4_image_36 : decode cX4_image 36 = .ok (.iload_n 3, 1) := by decide +kernel
theorem dX4_image_37 : decode cX4_image 37 = .ok (.iaload, 1) := by decide +kernel
theorem dX4_image_38 : decode cX4_image 38 = .ok (.iastore, 1) := by decide +kernel
theorem dX4_image_39 : decode cX4_image 39 = .ok (.iinc 3 1, 3) := by decide +kernel
theorem dX4_image_42 : decode cX4_image 42 = .ok (.goto (-23), 3) := by decide +kernel
theorem dX4_image_45 : decode cX4_image 45 = .ok (.iconst 0, 1) := by decide +kernel
theorem dX4_image_46 : decode cX4_image 46 = .ok (.istore_n 3, 1) := by decide +kernel
theorem dX4_image_47 : decode cX4_image 47 = .ok (.iload_n 3, 1) := by decide +kernel
theorem dX4_image_48 : decode cX4_image 48 = .ok (.bipush 6, 2) := by decide +kernel
theorem dX4_image_50 : decode cX4_image 50 = .ok (.if_icmp .ge 43, 3) := by decide +kernel
theorem dX4_image_53 : decode cX4_image 53 = .ok (.aload_n 0, 1) := by decide +kernel
theorem dX4_image_54 : decode cX4_image 54 = .ok (.getfield 45, 3) := by decide +kernel
theorem dX4_image_57 : decode cX4_image 57 = .ok (.iload_n 2, 1) := by decide +kernel
theorem dX4_image_58 : decode cX4_image 58 = .ok (.bipush 90, 2) := by decide +kernel
theorem dX4_image_60 : decode cX4_image 60 = .ok (.iadd, 1) := by decide +kernel
theorem dX4_image_61 : decode cX4_image 61 = .ok (.iload_n 3, 1) := by decide +kernel
theorem dX4_image_62 : decode cX4_image 62 = .ok (.iadd, 1) := by decide +kernel
theorem dX4_image_63 : decode cX4_image 63 = .ok (.aload_n 0, 1) := by decide +kernel
theorem dX4_image_64 : decode cX4_image 64 = .ok (.getfield 7, 3) := by decide +kernel
theorem dX4_image_67 : decode cX4_image 67 = .ok (.iload_n 3, 1) := by decide +kernel
theorem dX4_image_68 : decode cX4_image 68 = .ok (.iaload, 1) := by decide +kernel
theorem dX4_image_69 : decode cX4_image 69 = .ok (.iastore, 1) := by decide +kernel
theorem dX4_image_70 : decode cX4_image 70 = .ok (.aload_n 0, 1) := by decide +kernel
theorem dX4_image_71 : decode cX4_image 71 = .ok (.getfield 45, 3) := by decide +kernel
theorem dX4_image_74 : decode cX4_image 74 = .ok (.iload_n 2, 1) := by decide +kernel
theorem dX4_image_75 : decode cX4_image 75 = .ok (.bipush 96, 2) := by decide +kernel
theorem dX4_image_77 : decode cX4_image 77 = .ok (.iadd, 1) := by decide +kernel
theorem dX4_image_78 : decode cX4_image 78 = .ok (.iload_n 3, 1) := by decide +kernel
theorem dX4_image_79 : decode cX4_image 79 = .ok (.iadd, 1) := by decide +kernel
theorem dX4_image_80 : decode cX4_image 80 = .ok (.aload_n 0, 1) := by decide +kernel
theorem dX4_image_81 : decode cX4_image 81 = .ok (.getfield 13, 3) := by decide +kernel
theorem dX4_image_84 : decode cX4_image 84 = .ok (.iload_n 3, 1) := by decide +kernel
theorem dX4_image_85 : decode cX4_image 85 = .ok (.iaload, 1) := by decide +kernel
theorem dX4_image_86 : decode cX4_image 86 = .ok (.iastore, 1) := by decide +kernel
theorem dX4_image_87 : decode cX4_image 87 = .ok (.iinc 3 1, 3) := by decide +kernel
theorem dX4_image_90 : decode cX4_image 90 = .ok (.goto (-43), 3) := by decide +kernel
theorem dX4_image_93 : decode cX4_image 93 = .ok (.iconst 0, 1) := by decide +kernel
theorem dX4_image_94 : decode cX4_image 94 = .ok (.istore_n 3, 1) := by decide +kernel
theorem dX4_image_95 : decode cX4_image 95 = .ok (.iload_n 3, 1) := by decide +kernel
theorem dX4_image_96 : decode cX4_image 96 = .ok (.bipush 12, 2) := by decide +kernel
theorem dX4_image_98 : decode cX4_image 98 = .ok (.if_icmp .ge 26, 3) := by decide +kernel
theorem dX4_image_101 : decode cX4_image 101 = .ok (.aload_n 0, 1) := by decide +kernel
theorem dX4_image_102 : decode cX4_image 102 = .ok (.getfield 45, 3) := by decide +kernel
theorem dX4_image_105 : decode cX4_image 105 = .ok (.iload_n 2, 1) := by decide +kernel
theorem dX4_image_106 : decode cX4_image 106 = .ok (.bipush 102, 2) := by decide +kernel
theorem dX4_image_108 : decode cX4_image 108 = .ok (.iadd, 1) := by decide +kernel
theorem dX4_image_109 : decode cX4_image 109 = .ok (.iload_n 3, 1) := by decide +kernel
theorem dX4_image_110 : decode cX4_image 110 = .ok (.iadd, 1) := by decide +kernel
theorem dX4_image_111 : decode cX4_image 111 = .ok (.aload_n 0, 1) := by decide +kernel
theorem dX4_image_112 : decode cX4_image 112 = .ok (.getfield 19, 3) := by decide +kernel
theorem dX4_image_115 : decode cX4_image 115 = .ok (.iload_n 3, 1) := by decide +kernel
theorem dX4_image_116 : decode cX4_image 116 = .ok (.iaload, 1) := by decide +kernel
theorem dX4_image_117 : decode cX4_image 117 = .ok (.iastore, 1) := by decide +kernel
theorem dX4_image_118 : decode cX4_image 118 = .ok (.iinc 3 1, 3) := by decide +kernel
theorem dX4_image_121 : decode cX4_image 121 = .ok (.goto (-26), 3) := by decide +kernel
theorem dX4_image_124 : decode cX4_image 124 = .ok (.aload_n 0, 1) := by decide +kernel
theorem dX4_image_125 : decode cX4_image 125 = .ok (.getfield 45, 3) := by decide +kernel
theorem dX4_image_128 : decode cX4_image 128 = .ok (.iload_n 2, 1) := by decide +kernel
theorem dX4_image_129 : decode cX4_image 129 = .ok (.bipush 114, 2) := by decide +kernel
theorem dX4_image_131 : decode cX4_image 131 = .ok (.iadd, 1) := by decide +kernel
theorem dX4_image_132 : decode cX4_image 132 = .ok (.aload_n 0, 1) := by decide +kernel
theorem dX4_image_133 : decode cX4_image 133 = .ok (.getfield 59, 3) := by decide +kernel
theorem dX4_image_136 : decode cX4_image 136 = .ok (.iastore, 1) := by decide +kernel
theorem dX4_image_137 : decode cX4_image 137 = .ok (.aload_n 0, 1) := by decide +kernel
theorem dX4_image_138 : decode cX4_image 138 = .ok (.getfield 45, 3) := by decide +kernel
theorem dX4_image_141 : decode cX4_image 141 = .ok (.iload_n 2, 1) := by decide +kernel
theorem dX4_image_142 : decode cX4_image 142 = .ok (.bipush 115, 2) := by decide +kernel
theorem dX4_image_144 : decode cX4_image 144 = .ok (.iadd, 1) := by decide +kernel
theorem dX4_image_145 : decode cX4_image 145 = .ok (.aload_n 0, 1) := by decide +kernel
theorem dX4_image_146 : decode cX4_image 146 = .ok (.getfield 63, 3) := by decide +kernel
theorem dX4_image_149 : decode cX4_image 149 = .ok (.iastore, 1) := by decide +kernel
theorem dX4_image_150 : decode cX4_image 150 = .ok (.aload_n 0, 1) := by decide +kernel
theorem dX4_image_151 : decode cX4_image 151 = .ok (.getfield 45, 3) := by decide +kernel
theorem dX4_image_154 : decode cX4_image 154 = .ok (.iload_n 2, 1) := by decide +kernel
theorem dX4_image_155 : decode cX4_image 155 = .ok (.bipush 116, 2) := by decide +kernel
theorem dX4_image_157 : decode cX4_image 157 = .ok (.iadd, 1) := by decide +kernel
theorem dX4_image_158 : decode cX4_image 158 = .ok (.aload_n 0, 1) := by decide +kernel
theorem dX4_image_159 : decode cX4_image 159 = .ok (.getfield 73, 3) := by decide +kernel
theorem dX4_image_162 : decode cX4_image 162 = .ok (.iastore, 1) := by decide +kernel
theorem dX4_image_163 : decode cX4_image 163 = .ok (.aload_n 0, 1) := by decide +kernel
theorem dX4_image_164 : decode cX4_image 164 = .ok (.getfield 45, 3) := by decide +kernel
theorem dX4_image_167 : decode cX4_image 167 = .ok (.iload_n 2, 1) := by decide +kernel
theorem dX4_image_168 : decode cX4_image 168 = .ok (.bipush 117, 2) := by decide +kernel
theorem dX4_image_170 : decode cX4_image 170 = .ok (.iadd, 1) := by decide +kernel
theorem dX4_image_171 : decode cX4_image 171 = .ok (.aload_n 0, 1) := by decide +kernel
theorem dX4_image_172 : decode cX4_image 172 = .ok (.getfield 126, 3) := by decide +kernel
theorem dX4_image_175 : decode cX4_image 175 = .ok (.iastore, 1) := by decide +kernel
theorem dX4_image_176 : decode cX4_image 176 = .ok (.aload_n 0, 1) := by decide +kernel
theorem dX4_image_177 : decode cX4_image 177 = .ok (.getfield 48, 3) := by decide +kernel
theorem dX4_image_180 : decode cX4_image 180 = .ok (.iload_n 1, 1) := by decide +kernel
theorem dX4_image_181 : decode cX4_image 181 = .ok (.iconst 1, 1) := by decide +kernel
theorem dX4_image_182 : decode cX4_image 182 = .ok (.bastore, 1) := by decide +kernel
theorem dX4_image_183 : decode cX4_image 183 = .ok (.iconst 1, 1) := by decide +kernel
theorem dX4_image_184 : decode cX4_image 184 = .ok (.ireturn, 1) := by decide +kernel
set_option maxRecDepth 20000 in
theorem ggX4_restore_X4_in : GoodIn wsX4_restore wsX4_in := goodIn_r _ [14] (by decide +kernel) (by decide +kernel)
set_option maxRecDepth 20000 in
theorem gX4_restore_X4_in : GoodIn wsX4_restore (va_wsS RX4 51 yX4_in wsX4_in) := goodIn_app (goodIn_of _ (by decide +kernel)) ggX4_restore_X4_in
theorem dX4_restore_0 : decode cX4_restore 0 = .ok (.iload_n 1, 1) := by decide +kernel
theorem dX4_restore_1 : decode cX4_restore 1 = .ok (.iconst 0, 1) := by decide +kernel
theorem dX4_restore_2 : decode cX4_restore 2 = .ok (.iconst 1, 1) := by decide +kernel
theorem dX4_restore_3 : decode cX4_restore 3 = .ok (.invokestatic 51, 3) := by decide +kernel
theorem dX4_restore_6 : decode cX4_restore 6 = .ok (.ifCond .ne 6, 3) := by decide +kernel
theorem dX4_restore_9 : decode cX4_restore 9 = .ok (.bipush (-2), 2) := by decide +kernel
theorem dX4_restore_11 : decode cX4_restore 11 = .ok (.ireturn, 1) := by decide +kernel
theorem dX4_restore_12 : decode cX4_restore 12 = .ok (.aload_n 0, 1) := by decide +kernel
theorem dX4_restore_13 : decode cX4_restore 13 = .ok (.getfield 48, 3) := by decide +kernel
theorem dX4_restore_16 : decode cX4_restore 16 = .ok (.iload_n 1, 1) := by decide +kernel
theorem dX4_restore_17 : decode cX4_restore 17 = .ok (.baload, 1) := by decide +kernel
theorem dX4_restore_18 : decode cX4_restore 18 = .ok (.ifCond .ne 6, 3) := by decide +kernel
theorem dX4_restore_21 : decode cX4_restore 21 = .ok (.bipush (-3), 2) := by decide +kernel
theorem dX4_restore_23 : decode cX4_restore 23 = .ok (.ireturn, 1) := by decide +kernel
theorem dX4_restore_24 : decode cX4_restore 24 = .ok (.bipush 118, 2) := by decide +kernel
theorem dX4_restore_26 : decode cX4_restore 26 = .ok (.iload_n 1, 1) := by decide +kernel
theorem dX4_restore_27 : decode cX4_restore 27 = .ok (.imul, 1) := by decide +kernel
theorem dX4_restore_28 : decode cX4_restore 28 = .ok (.istore_n 2, 1) := by decide +kernel
theorem dX4_restore_29 : decode cX4_restore 29 = .ok (.iconst 0, 1) := by decide +kernel
theorem dX4_restore_30 : decode cX4_restore 30 = .ok (.istore_n 3, 1) := by decide +kernel
theorem dX4_restore_31 : decode cX4_restore 31 = .ok (.iload_n 3, 1) := by decide +kernel
theorem dX4_restore_32 : decode cX4_restore 32 = .ok (.bipush 90, 2) := by decide +kernel
theorem dX4_restore_34 : decode cX4_restore 34 = .ok (.if_icmp .ge 23, 3) := by decide +kernel
theorem dX4_restore_37 : decode cX4_restore 37 = .ok (.aload_n 0, 1) := by decide +kernel
theorem dX4_restore_38 : decode cX4_restore 38 = .ok (.getfield 16, 3) := by decide +kernel
theorem dX4_restore_41 : decode cX4_restore 41 = .ok (.iload_n 3, 1) := by decide +kernel
theorem dX4_restore_42 : decode cX4_restore 42 = .ok (.aload_n 0, 1) := by decide +kernel
theorem dX4_restore_43 : decode cX4_restore 43 = .ok (.getfield 45, 3) := by decide +kernel
theorem dX4_restore_46 : decode cX4_restore 46 = .ok (.iload_n 2, 1) := by decide +kernel
theorem dX4_restore_47 : decode cX4_restore 47 = .ok (.iload_n 3, 1) := by decide +kernel
theorem dX4_restore_48 : decode cX4_restore 48 = .ok (.iadd, 1) := by decide +kernel
theorem dX4_restore_49 : decode cX4_restore 49 = .ok (.iaload, 1) := by decide +kernel
theorem dX4_restore_50 : decode cX4_restore 50 = .ok (.iastore, 1) := by decide +kernel
theorem dX4_restore_51 : decode cX4_restore 51 = .ok (.iinc 3 1, 3) := by decide +kernel
theorem dX4_restore_54 : decode cX4_restore 54 = .ok (.goto (-23), 3) := by decide +kernel
theorem dX4_restore_57 : decode cX4_restore 57 = .ok (.iconst 0, 1) := by decide +kernel
theorem dX4_restore_58 : decode cX4_restore 58 = .ok (.istore_n 3, 1) := by decide +kernel
theorem dX4_restore_59 : decode cX4_restore 59 = .ok (.iload_n 3, 1) := by decide +kernel
theorem dX4_restore_60 : decode cX4_restore 60 = .ok (.bipush 6, 2) := by decide +kernel
theorem dX4_restore_62 : decode cX4_restore 62 = .ok (.if_icmp .ge 43, 3) := by decide +kernel
theorem dX4_restore_65 : decode cX4_restore 65 = .ok (.aload_n 0, 1) := by decide +kernel
theorem dX4_restore_66 : decode cX4_restore 66 = .ok (.getfield 7, 3) := by decide +kernel
theorem dX4_restore_69 : decode cX4_restore 69 = .ok (.iload_n 3, 1) := by decide +kernel
theorem dX4_restore_70 : decode cX4_restore 70 = .ok (.aload_n 0, 1) := by decide +kernel
theorem dX4_restore_71 : decode cX4_restore 71 = .ok (.getfield 45, 3) := by decide +kernel
theorem dX4_restore_74 : decode cX4_restore 74 = .ok (.iload_n 2, 1) := by decide +kernel
theorem dX4_restore_75 : decode cX4_restore 75 = .ok (.bipush 90, 2) := by decide +kernel
theorem dX4_restore_77 : decode cX4_restore 77 = .ok (.iadd, 1) := by decide +kernel
theorem dX4_restore_78 : decode cX4_restore 78 = .ok (.iload_n 3, 1) := by decide +kernel
theorem dX4_restore_79 : decode cX4_restore 79 = .ok (.iadd, 1) := by decide +kernel
theorem dX4_restore_80 : decode cX4_restore 80 = .ok (.iaload, 1) := by decide +kernel
theorem dX4_restore_81 : decode cX4_restore 81 = .ok (.iastore, 1) := by decide +kernel
theorem dX4_restore_82 : decode cX4_restore 82 = .ok (.aload_n 0, 1) := by decide +kernel
theorem dX4_restore_83 : decode cX4_restore 83 = .ok (.getfield 13, 3) := by decide +kernel
theorem dX4_restore_86 : decode cX4_restore 86 = .ok (.iload_n 3, 1) := by decide +kernel
theorem dX4_restore_87 : decode cX4_restore 87 = .ok (.aload_n 0, 1) := by decide +kernel
theorem dX4_restore_88 : decode cX4_restore 88 = .ok (.getfield 45, 3) := by decide +kernel
theorem dX4_restore_91 : decode cX4_restore 91 = .ok (.iload_n 2, 1) := by decide +kernel
theorem dX4_restore_92 : decode cX4_restore 92 = .ok (.bipush 96, 2) := by decide +kernel
theorem dX4_restore_94 : decode cX4_restore 94 = .ok (.iadd, 1) := by decide +kernel
theorem dX4_restore_95 : decode cX4_restore 95 = .ok (.iload_n 3, 1) := by decide +kernel
theorem dX4_restore_96 : decode cX4_restore 96 = .ok (.iadd, 1) := by decide +kernel
theorem dX4_restore_97 : decode cX4_restore 97 = .ok (.iaload, 1) := by decide +kernel
theorem dX4_restore_98 : decode cX4_restore 98 = .ok (.iastore, 1) := by decide +kernel
theorem dX4_restore_99 : decode cX4_restore 99 = .ok (.iinc 3 1, 3) := by decide +kernel
theorem dX4_restore_102 : decode cX4_restore 102 = .ok (.goto (-43), 3) := by decide +kernel
theorem dX4_restore_105 : decode cX4_restore 105 = .ok (.iconst 0, 1) := by decide +kernel
theorem dX4_restore_106 : decode cX4_restore 106 = .ok (.istore_n 3, 1) := by decide +kernel
theorem dX4_restore_107 : decode cX4_restore 107 = .ok (.iload_n 3, 1) := by decide +kernel
theorem dX4_restore_108 : decode cX4_restore 108 = .ok (.bipush 12, 2) := by decide +kernel
theorem dX4_restore_110 : decode cX4_restore 110 = .ok (.if_icmp .ge 26, 3) := by decide +kernel
theorem dX4_restore_113 : decode cX4_restore 113 = .ok (.aload_n 0, 1) := by decide +kernel
theorem dX4_restore_114 : decode cX4_restore 114 = .ok (.getfield 19, 3) := by decide +kernel
theorem dX4_restore_117 : decode cX4_restore 117 = .ok (.iload_n 3, 1) := by decide +kernel
theorem dX4_restore_118 : decode cX4_restore 118 = .ok (.aload_n 0, 1) := by decide +kernel
theorem dX4_restore_119 : decode cX4_restore 119 = .ok (.getfield 45, 3) := by decide +kernel
theorem dX4_restore_122 : decode cX4_restore 122 = .ok (.iload_n 2, 1) := by decide +kernel
theorem dX4_restore_123 : decode cX4_restore 123 = .ok (.bipush 102, 2) := by decide +kernel
theorem dX4_restore_125 : decode cX4_restore 125 = .ok (.iadd, 1) := by decide +kernel
theorem dX4_restore_126 : decode cX4_restore 126 = .ok (.iload_n 3, 1) := by decide +kernel
theorem dX4_restore_127 : decode cX4_restore 127 = .ok (.iadd, 1) := by decide +kernel
theorem dX4_restore_128 : decode cX4_restore 128 = .ok (.iaload, 1) := by decide +kernel
theorem dX4_restore_129 : decode cX4_restore 129 = .ok (.iastore, 1) := by decide +kernel
theorem dX4_restore_130 : decode cX4_restore 130 = .ok (.iinc 3 1, 3) := by decide +kernel
theorem dX4_restore_133 : decode cX4_restore 133 = .ok (.goto (-26), 3) := by decide +kernel
theorem dX4_restore_136 : decode cX4_restore 136 = .ok (.aload_n 0, 1) := by decide +kernel
theorem dX4_restore_137 : decode cX4_restore 137 = .ok (.aload_n 0, 1) := by decide +kernel
theorem dX4_restore_138 : decode cX4_restore 138 = .ok (.getfield 45, 3) := by decide +kernel
theorem dX4_restore_141 : decode cX4_restore 141 = .ok (.iload_n 2, 1) := by decide +kernel
theorem dX4_restore_142 : decode cX4_restore 142 = .ok (.bipush 114, 2) := by decide +kernel
theorem dX4_restore_144 : decode cX4_restore 144 = .ok (.iadd, 1) := by decide +kernel
theorem dX4_restore_145 : decode cX4_restore 145 = .ok (.iaload, 1) := by decide +kernel
theorem dX4_restore_146 : decode cX4_restore 146 = .ok (.putfield 59, 3) := by decide +kernel
theorem dX4_restore_149 : decode cX4_restore 149 = .ok (.aload_n 0, 1) := by decide +kernel
theorem dX4_restore_150 : decode cX4_restore 150 = .ok (.aload_n 0, 1) := by decide +kernel
theorem dX4_restore_151 : decode cX4_restore 151 = .ok (.getfield 45, 3) := by decide +kernel
theorem dX4_restore_154 : decode cX4_restore 154 = .ok (.iload_n 2, 1) := by decide +kernel
theorem dX4_restore_155 : decode cX4_restore 155 = .ok (.bipush 115, 2) := by decide +kernel
theorem dX4_restore_157 : decode cX4_restore 157 = .ok (.iadd, 1) := by decide +kernel
theorem dX4_restore_158 : decode cX4_restore 158 = .ok (.iaload, 1) := by decide +kernel
theorem dX4_restore_159 : decode cX4_restore 159 = .ok (.putfield 63, 3) := by decide +kernel
theorem dX4_restore_162 : decode cX4_restore 162 = .ok (.aload_n 0, 1) := by decide +kernel
theorem dX4_restore_163 : decode cX4_restore 163 = .ok (.aload_n 0, 1) := by decide +kernel
theorem dX4_restore_164 : decode cX4_restore 164 = .ok (.getfield 45, 3) := by decide +kernel
theorem dX4_restore_167 : decode cX4_restore 167 = .ok (.iload_n 2, 1) := by decide +kernel
theorem dX4_restore_168 : decode cX4_restore 168 = .ok (.bipush 116, 2) := by decide +kernel
theorem dX4_restore_170 : decode cX4_restore 170 = .ok (.iadd, 1) := by decide +kernel
theorem dX4_restore_171 : decode cX4_restore 171 = .ok (.iaload, 1) := by decide +kernel
theorem dX4_restore_172 : decode cX4_restore 172 = .ok (.putfield 73, 3) := by decide +kernel
theorem dX4_restore_175 : decode cX4_restore 175 = .ok (.aload_n 0, 1) := by decide +kernel
theorem dX4_restore_176 : decode cX4_restore 176 = .ok (.aload_n 0, 1) := by decide +kernel
theorem dX4_restore_177 : decode cX4_restore 177 = .ok (.getfield 45, 3) := by decide +kernel
theorem dX4_restore_180 : decode cX4_restore 180 = .ok (.iload_n 2, 1) := by decide +kernel
theorem dX4_restore_181 : decode cX4_restore 181 = .ok (.bipush 117, 2) := by decide +kernel
theorem dX4_restore_183 : decode cX4_restore 183 = .ok (.iadd, 1) := by decide +kernel
theorem dX4_restore_184 : decode cX4_restore 184 = .ok (.iaload, 1) := by decide +kernel
theorem dX4_restore_185 : decode cX4_restore 185 = .ok (.putfield 126, 3) := by decide +kernel
theorem dX4_restore_188 : decode cX4_restore 188 = .ok (.iconst 1, 1) := by decide +kernel
theorem dX4_restore_189 : decode cX4_restore 189 = .ok (.ireturn, 1) := by decide +kernel
set_option maxRecDepth 20000 in
theorem ggX4_told_X4_in : GoodIn wsX4_told wsX4_in := goodIn_r _ [11] (by decide +kernel) (by decide +kernel)
set_option maxRecDepth 20000 in
theorem gX4_told_X4_in : GoodIn wsX4_told (va_wsS RX4 51 yX4_in wsX4_in) := goodIn_app (goodIn_of _ (by decide +kernel)) ggX4_told_X4_in
theorem dX4_told_0 : decode cX4_told 0 = .ok (.iload_n 1, 1) := by decide +kernel
theorem dX4_told_1 : decode cX4_told 1 = .ok (.bipush 10, 2) := by decide +kernel
theorem dX4_told_3 : decode cX4_told 3 = .ok (.bipush 15, 2) := by decide +kernel
theorem dX4_told_5 : decode cX4_told 5 = .ok (.invokestatic 51, 3) := by decide +kernel
theorem dX4_told_8 : decode cX4_told 8 = .ok (.ifCond .eq 13, 3) := by decide +kernel
theorem dX4_told_11 : decode cX4_told 11 = .ok (.aload_n 0, 1) := by decide +kernel
theorem dX4_told_12 : decode cX4_told 12 = .ok (.getfield 7, 3) := by decide +kernel
theorem dX4_told_15 : decode cX4_told 15 = .ok (.iload_n 1, 1) := by decide +kernel
theorem dX4_told_16 : decode cX4_told 16 = .ok (.bipush 10, 2) := by decide +kernel
theorem dX4_told_18 : decode cX4_told 18 = .ok (.isub, 1) := by decide +kernel
theorem dX4_told_19 : decode cX4_told 19 = .ok (.iaload, 1) := by decide +kernel
theorem dX4_told_20 : decode cX4_told 20 = .ok (.ireturn, 1) := by decide +kernel
theorem dX4_told_21 : decode cX4_told 21 = .ok (.iload_n 1, 1) := by decide +kernel
theorem dX4_told_22 : decode cX4_told 22 = .ok (.bipush 20, 2) := by decide +kernel
theorem dX4_told_24 : decode cX4_told 24 = .ok (.bipush 25, 2) := by decide +kernel
theorem dX4_told_26 : decode cX4_told 26 = .ok (.invokestatic 51, 3) := by decide +kernel
theorem dX4_told_29 : decode cX4_told 29 = .ok (.ifCond .eq 13, 3) := by decide +kernel
theorem dX4_told_32 : decode cX4_told 32 = .ok (.aload_n 0, 1) := by decide +kernel
theorem dX4_told_33 : decode cX4_told 33 = .ok (.getfield 13, 3) := by decide +kernel
theorem dX4_told_36 : decode cX4_told 36 = .ok (.iload_n 1, 1) := by decide +kernel
theorem dX4_told_37 : decode cX4_told 37 = .ok (.bipush 20, 2) := by decide +kernel
theorem dX4_told_39 : decode cX4_told 39 = .ok (.isub, 1) := by decide +kernel
theorem dX4_told_40 : decode cX4_told 40 = .ok (.iaload, 1) := by decide +kernel
theorem dX4_told_41 : decode cX4_told 41 = .ok (.ireturn, 1) := by decide +kernel
theorem dX4_told_42 : decode cX4_told 42 = .ok (.iload_n 1, 1) := by decide +kernel
theorem dX4_told_43 : decode cX4_told 43 = .ok (.tableswitch 49 0 3 #[29, 34, 39, 44], 29) := by decide +kernel
theorem dX4_told_72 : decode cX4_told 72 = .ok (.aload_n 0, 1) := by decide +kernel
theorem dX4_told_73 : decode cX4_told 73 = .ok (.getfield 66, 3) := by decide +kernel
theorem dX4_told_76 : decode cX4_told 76 = .ok (.ireturn, 1) := by decide +kernel
theorem dX4_told_77 : decode cX4_told 77 = .ok (.aload_n 0, 1) := by decide +kernel
theorem dX4_told_78 : decode cX4_told 78 = .ok (.getfield 73, 3) := by decide +kernel
theorem dX4_told_81 : decode cX4_told 81 = .ok (.ireturn, 1) := by decide +kernel
theorem dX4_told_82 : decode cX4_told 82 = .ok (.aload_n 0, 1) := by decide +kernel
theorem dX4_told_83 : decode cX4_told 83 = .ok (.getfield 59, 3) := by decide +kernel
theorem dX4_told_86 : decode cX4_told 86 = .ok (.ireturn, 1) := by decide +kernel
theorem dX4_told_87 : decode cX4_told 87 = .ok (.aload_n 0, 1) := by decide +kernel
theorem dX4_told_88 : decode cX4_told 88 = .ok (.getfield 63, 3) := by decide +kernel
theorem dX4_told_91 : decode cX4_told 91 = .ok (.ireturn, 1) := by decide +kernel
theorem dX4_told_92 : decode cX4_told 92 = .ok (.iload_n 1, 1) := by decide +kernel
theorem dX4_told_93 : decode cX4_told 93 = .ok (.iconst 4, 1) := by decide +kernel
theorem dX4_told_94 : decode cX4_told 94 = .ok (.if_icmp .ne 10, 3) := by decide +kernel
theorem dX4_told_97 : decode cX4_told 97 = .ok (.aload_n 0, 1) := by decide +kernel
theorem dX4_told_98 : decode cX4_told 98 = .ok (.getfield 126, 3) := by decide +kernel
theorem dX4_told_101 : decode cX4_told 101 = .ok (.goto 5, 3) := by decide +kernel
theorem dX4_told_104 : decode cX4_told 104 = .ok (.bipush (-2), 2) := by decide +kernel
theorem dX4_told_106 : decode cX4_told 106 = .ok (.ireturn, 1) := by decide +kernel
