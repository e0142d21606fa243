theorem dX0_init_0 : decode cX0_init 0 = .ok (.aload_n 0, 1) := by decide +kernel
theorem dX0_init_1 : decode cX0_init 1 = .ok (.invokespecial 3, 3) := by decide +kernel
theorem dX0_init_4 : decode cX0_init 4 = .ok (.aload_n 0, 1) := by decide +kernel
theorem dX0_init_5 : decode cX0_init 5 = .ok (.bipush 60, 2) := by decide +kernel
theorem dX0_init_7 : decode cX0_init 7 = .ok (.newarray .char, 2) := by decide +kernel
theorem dX0_init_9 : decode cX0_init 9 = .ok (.putfield 9, 3) := by decide +kernel
theorem dX0_init_12 : decode cX0_init 12 = .ok (.aload_n 0, 1) := by decide +kernel
theorem dX0_init_13 : decode cX0_init 13 = .ok (.bipush 60, 2) := by decide +kernel
theorem dX0_init_15 : decode cX0_init 15 = .ok (.newarray .int, 2) := by decide +kernel
theorem dX0_init_17 : decode cX0_init 17 = .ok (.putfield 15, 3) := by decide +kernel
theorem dX0_init_20 : decode cX0_init 20 = .ok (.aload_n 0, 1) := by decide +kernel
theorem dX0_init_21 : decode cX0_init 21 = .ok (.bipush 60, 2) := by decide +kernel
theorem dX0_init_23 : decode cX0_init 23 = .ok (.newarray .int, 2) := by decide +kernel
theorem dX0_init_25 : decode cX0_init 25 = .ok (.putfield 19, 3) := by decide +kernel
theorem dX0_init_28 : decode cX0_init 28 = .ok (.aload_n 0, 1) := by decide +kernel
theorem dX0_init_29 : decode cX0_init 29 = .ok (.bipush 60, 2) := by decide +kernel
theorem dX0_init_31 : decode cX0_init 31 = .ok (.newarray .int, 2) := by decide +kernel
theorem dX0_init_33 : decode cX0_init 33 = .ok (.putfield 22, 3) := by decide +kernel
theorem dX0_init_36 : decode cX0_init 36 = .ok (.aload_n 0, 1) := by decide +kernel
theorem dX0_init_37 : decode cX0_init 37 = .ok (.bipush 60, 2) := by decide +kernel
theorem dX0_init_39 : decode cX0_init 39 = .ok (.newarray .int, 2) := by decide +kernel
theorem dX0_init_41 : decode cX0_init 41 = .ok (.putfield 25, 3) := by decide +kernel
theorem dX0_init_44 : decode cX0_init 44 = .ok (.aload_n 0, 1) := by decide +kernel
theorem dX0_init_45 : decode cX0_init 45 = .ok (.iconst 3, 1) := by decide +kernel
theorem dX0_init_46 : decode cX0_init 46 = .ok (.newarray .int, 2) := by decide +kernel
theorem dX0_init_48 : decode cX0_init 48 = .ok (.putfield 28, 3) := by decide +kernel
theorem dX0_init_51 : decode cX0_init 51 = .ok (.aload_n 0, 1) := by decide +kernel
theorem dX0_init_52 : decode cX0_init 52 = .ok (.iconst 0, 1) := by decide +kernel
theorem dX0_init_53 : decode cX0_init 53 = .ok (.putfield 31, 3) := by decide +kernel
theorem dX0_init_56 : decode cX0_init 56 = .ok (.aload_n 0, 1) := by decide +kernel
theorem dX0_init_57 : decode cX0_init 57 = .ok (.iconst 0, 1) := by decide +kernel
theorem dX0_init_58 : decode cX0_init 58 = .ok (.putfield 35, 3) := by decide +kernel
theorem dX0_init_61 : decode cX0_init 61 = .ok (.aload_n 0, 1) := by decide +kernel
theorem dX0_init_62 : decode cX0_init 62 = .ok (.iconst 0, 1) := by decide +kernel
theorem dX0_init_63 : decode cX0_init 63 = .ok (.putfield 38, 3) := by decide +kernel
theorem dX0_init_66 : decode cX0_init 66 = .ok (.aload_n 0, 1) := by decide +kernel
theorem dX0_init_67 : decode cX0_init 67 = .ok (.iconst 0, 1) := by decide +kernel
theorem dX0_init_68 : decode cX0_init 68 = .ok (.putfield 41, 3) := by decide +kernel
theorem dX0_init_71 : decode cX0_init 71 = .ok (.return_, 1) := by decide +kernel
theorem dX0_write_0 : decode cX0_write 0 = .ok (.aload_n 0, 1) := by decide +kernel
theorem dX0_write_1 : decode cX0_write 1 = .ok (.getfield 31, 3) := by decide +kernel
theorem dX0_write_4 : decode cX0_write 4 = .ok (.ifCond .lt 12, 3) := by decide +kernel
theorem dX0_write_7 : decode cX0_write 7 = .ok (.aload_n 0, 1) := by decide +kernel
theorem dX0_write_8 : decode cX0_write 8 = .ok (.getfield 31, 3) := by decide +kernel
theorem dX0_write_11 : decode cX0_write 11 = .ok (.bipush 60, 2) := by decide +kernel
theorem dX0_write_13 : decode cX0_write 13 = .ok (.if_icmp .lt 5, 3) := by decide +kernel
theorem dX0_write_16 : decode cX0_write 16 = .ok (.iconst 0, 1) := by decide +kernel
theorem dX0_write_17 : decode cX0_write 17 = .ok (.ireturn, 1) := by decide +kernel
theorem dX0_write_18 : decode cX0_write 18 = .ok (.aload_n 0, 1) := by decide +kernel
theorem dX0_write_19 : decode cX0_write 19 = .ok (.getfield 9, 3) := by decide +kernel
theorem dX0_write_22 : decode cX0_write 22 = .ok (.aload_n 0, 1) := by decide +kernel
theorem dX0_write_23 : decode cX0_write 23 = .ok (.getfield 31, 3) := by decide +kernel
theorem dX0_write_26 : decode cX0_write 26 = .ok (.iload_n 1, 1) := by decide +kernel
theorem dX0_write_27 : decode cX0_write 27 = .ok (.castore, 1) := by decide +kernel
theorem dX0_write_28 : decode cX0_write 28 = .ok (.aload_n 0, 1) := by decide +kernel
theorem dX0_write_29 : decode cX0_write 29 = .ok (.dup, 1) := by decide +kernel
theorem dX0_write_30 : decode cX0_write 30 = .ok (.getfield 31, 3) := by decide +kernel
theorem dX0_write_33 : decode cX0_write 33 = .ok (.iconst 1, 1) := by decide +kernel
theorem dX0_write_34 : decode cX0_write 34 = .ok (.iadd, 1) := by decide +kernel
theorem dX0_write_35 : decode cX0_write 35 = .ok (.putfield 31, 3) := by decide +kernel
theorem dX0_write_38 : decode cX0_write 38 = .ok (.iconst 1, 1) := by decide +kernel
theorem dX0_write_39 : decode cX0_write 39 = .ok (.ireturn, 1) := by decide +kernel
theorem dX0_clear_0 : decode cX0_clear 0 = .ok (.aload_n 0, 1) := by decide +kernel
theorem dX0_clear_1 : decode cX0_clear 1 = .ok (.iconst 0, 1) := by decide +kernel
theorem dX0_clear_2 : decode cX0_clear 2 = .ok (.putfield 31, 3) := by decide +kernel
theorem dX0_clear_5 : decode cX0_clear 5 = .ok (.return_, 1) := by decide +kernel
set_option maxRecDepth 20000 in
theorem ggX0_read_X0_faultOfPart : GoodIn wsX0_read wsX0_faultOfPart := goodIn_r _ [8, 2, 9, 10, 11, 7, 12, 3, 13, 14, 15, 16, 17, 18, 19, 32, 33, 34, 35, 36, 37, 38, 39, 40, 41] (by decide +kernel) (by decide +kernel)
set_option maxRecDepth 20000 in
theorem gX0_read_X0_faultOfPart : GoodIn wsX0_read (wsV RX0 44 RX0 yX0_faultOfPart wsX0_faultOfPart) := goodIn_app (goodIn_of _ (by decide +kernel)) ggX0_read_X0_faultOfPart
set_option maxRecDepth 20000 in
theorem ggX0_read_X0_takePart : GoodIn wsX0_read wsX0_takePart := goodIn_r _ [23, 2, 9, 10, 11, 7, 12, 3, 13, 24, 25, 26, 27, 1, 28, 29, 30, 31, 17, 18, 19, 32, 33, 34, 35, 36, 37, 38, 39, 40, 41] (by decide +kernel) (by decide +kernel)
set_option maxRecDepth 20000 in
theorem gX0_read_X0_takePart : GoodIn wsX0_read (wsV RX0 48 RX0 yX0_takePart wsX0_takePart) := goodIn_app (goodIn_of _ (by decide +kernel)) ggX0_read_X0_takePart
theorem dX0_read_0 : decode cX0_read 0 = .ok (.aload_n 0, 1) := by decide +kernel
theorem dX0_read_1 : decode cX0_read 1 = .ok (.iconst 0, 1) := by decide +kernel
theorem dX0_read_2 : decode cX0_read 2 = .ok (.putfield 35, 3) := by decide +kernel
theorem dX0_read_5 : decode cX0_read 5 = .ok (.aload_n 0, 1) := by decide +kernel
theorem dX0_read_6 : decode cX0_read 6 = .ok (.iconst 0, 1) := by decide +kernel
theorem dX0_read_7 : decode cX0_read 7 = .ok (.putfield 38, 3) := by decide +kernel
theorem dX0_read_10 : decode cX0_read 10 = .ok (.iconst 0, 1) := by decide +kernel
theorem dX0_read_11 : decode cX0_read 11 = .ok (.istore_n 1, 1) := by decide +kernel
theorem dX0_read_12 : decode cX0_read 12 = .ok (.iconst 0, 1) := by decide +kernel
theorem dX0_read_13 : decode cX0_read 13 = .ok (.istore_n 2, 1) := by decide +kernel
theorem dX0_read_14 : decode cX0_read 14 = .ok (.iload_n 2, 1) := by decide +kernel
theorem dX0_read_15 : decode cX0_read 15 = .ok (.bipush 60, 2) := by decide +kernel
theorem dX0_read_17 : decode cX0_read 17 = .ok (.if_icmp .ge 39, 3) := by decide +kernel
theorem dX0_read_20 : decode cX0_read 20 = .ok (.iload_n 1, 1) := by decide +kernel
theorem dX0_read_21 : decode cX0_read 21 = .ok (.aload_n 0, 1) := by decide +kernel
theorem dX0_read_22 : decode cX0_read 22 = .ok (.getfield 31, 3) := by decide +kernel
theorem dX0_read_25 : decode cX0_read 25 = .ok (.if_icmp .ge 31, 3) := by decide +kernel
theorem dX0_read_28 : decode cX0_read 28 = .ok (.aload_n 0, 1) := by decide +kernel
theorem dX0_read_29 : decode cX0_read 29 = .ok (.iload_n 1, 1) := by decide +kernel
theorem dX0_read_30 : decode cX0_read 30 = .ok (.invokevirtual 44, 3) := by decide +kernel
theorem dX0_read_33 : decode cX0_read 33 = .ok (.istore_n 3, 1) := by decide +kernel
theorem dX0_read_34 : decode cX0_read 34 = .ok (.iload_n 3, 1) := by decide +kernel
theorem dX0_read_35 : decode cX0_read 35 = .ok (.bipush (-6), 2) := by decide +kernel
theorem dX0_read_37 : decode cX0_read 37 = .ok (.if_icmp .eq 5, 3) := by decide +kernel
theorem dX0_read_40 : decode cX0_read 40 = .ok (.iload_n 3, 1) := by decide +kernel
theorem dX0_read_41 : decode cX0_read 41 = .ok (.ireturn, 1) := by decide +kernel
theorem dX0_read_42 : decode cX0_read 42 = .ok (.iload_n 1, 1) := by decide +kernel
theorem dX0_read_43 : decode cX0_read 43 = .ok (.aload_n 0, 1) := by decide +kernel
theorem dX0_read_44 : decode cX0_read 44 = .ok (.iload_n 1, 1) := by decide +kernel
theorem dX0_read_45 : decode cX0_read 45 = .ok (.invokevirtual 48, 3) := by decide +kernel
theorem dX0_read_48 : decode cX0_read 48 = .ok (.iadd, 1) := by decide +kernel
theorem dX0_read_49 : decode cX0_read 49 = .ok (.istore_n 1, 1) := by decide +kernel
theorem dX0_read_50 : decode cX0_read 50 = .ok (.iinc 2 1, 3) := by decide +kernel
theorem dX0_read_53 : decode cX0_read 53 = .ok (.goto (-39), 3) := by decide +kernel
theorem dX0_read_56 : decode cX0_read 56 = .ok (.bipush (-6), 2) := by decide +kernel
theorem dX0_read_58 : decode cX0_read 58 = .ok (.ireturn, 1) := by decide +kernel
theorem dX0_signAt_0 : decode cX0_signAt 0 = .ok (.iload_n 1, 1) := by decide +kernel
theorem dX0_signAt_1 : decode cX0_signAt 1 = .ok (.ifCond .lt 26, 3) := by decide +kernel
theorem dX0_signAt_4 : decode cX0_signAt 4 = .ok (.iload_n 1, 1) := by decide +kernel
theorem dX0_signAt_5 : decode cX0_signAt 5 = .ok (.aload_n 0, 1) := by decide +kernel
theorem dX0_signAt_6 : decode cX0_signAt 6 = .ok (.getfield 31, 3) := by decide +kernel
theorem dX0_signAt_9 : decode cX0_signAt 9 = .ok (.if_icmp .ge 18, 3) := by decide +kernel
theorem dX0_signAt_12 : decode cX0_signAt 12 = .ok (.iload_n 1, 1) := by decide +kernel
theorem dX0_signAt_13 : decode cX0_signAt 13 = .ok (.bipush 60, 2) := by decide +kernel
theorem dX0_signAt_15 : decode cX0_signAt 15 = .ok (.if_icmp .ge 12, 3) := by decide +kernel
theorem dX0_signAt_18 : decode cX0_signAt 18 = .ok (.aload_n 0, 1) := by decide +kernel
theorem dX0_signAt_19 : decode cX0_signAt 19 = .ok (.getfield 9, 3) := by decide +kernel
theorem dX0_signAt_22 : decode cX0_signAt 22 = .ok (.iload_n 1, 1) := by decide +kernel
theorem dX0_signAt_23 : decode cX0_signAt 23 = .ok (.caload, 1) := by decide +kernel
theorem dX0_signAt_24 : decode cX0_signAt 24 = .ok (.goto 4, 3) := by decide +kernel
theorem dX0_signAt_27 : decode cX0_signAt 27 = .ok (.iconst 0, 1) := by decide +kernel
theorem dX0_signAt_28 : decode cX0_signAt 28 = .ok (.ireturn, 1) := by decide +kernel
theorem dX0_isLetter_0 : decode cX0_isLetter 0 = .ok (.iload_n 0, 1) := by decide +kernel
theorem dX0_isLetter_1 : decode cX0_isLetter 1 = .ok (.bipush 65, 2) := by decide +kernel
theorem dX0_isLetter_3 : decode cX0_isLetter 3 = .ok (.if_icmp .lt 13, 3) := by decide +kernel
theorem dX0_isLetter_6 : decode cX0_isLetter 6 = .ok (.iload_n 0, 1) := by decide +kernel
theorem dX0_isLetter_7 : decode cX0_isLetter 7 = .ok (.bipush 71, 2) := by decide +kernel
theorem dX0_isLetter_9 : decode cX0_isLetter 9 = .ok (.if_icmp .ge 7, 3) := by decide +kernel
theorem dX0_isLetter_12 : decode cX0_isLetter 12 = .ok (.iconst 1, 1) := by decide +kernel
theorem dX0_isLetter_13 : decode cX0_isLetter 13 = .ok (.goto 4, 3) := by decide +kernel
theorem dX0_isLetter_16 : decode cX0_isLetter 16 = .ok (.iconst 0, 1) := by decide +kernel
theorem dX0_isLetter_17 : decode cX0_isLetter 17 = .ok (.ireturn, 1) := by decide +kernel
theorem dX0_isDigit_0 : decode cX0_isDigit 0 = .ok (.iload_n 0, 1) := by decide +kernel
theorem dX0_isDigit_1 : decode cX0_isDigit 1 = .ok (.bipush 48, 2) := by decide +kernel
theorem dX0_isDigit_3 : decode cX0_isDigit 3 = .ok (.if_icmp .lt 13, 3) := by decide +kernel
theorem dX0_isDigit_6 : decode cX0_isDigit 6 = .ok (.iload_n 0, 1) := by decide +kernel
theorem dX0_isDigit_7 : decode cX0_isDigit 7 = .ok (.bipush 57, 2) := by decide +kernel
theorem dX0_isDigit_9 : decode cX0_isDigit 9 = .ok (.if_icmp .gt 7, 3) := by decide +kernel
theorem dX0_isDigit_12 : decode cX0_isDigit 12 = .ok (.iconst 1, 1) := by decide +kernel
theorem dX0_isDigit_13 : decode cX0_isDigit 13 = .ok (.goto 4, 3) := by decide +kernel
theorem dX0_isDigit_16 : decode cX0_isDigit 16 = .ok (.iconst 0, 1) := by decide +kernel
theorem dX0_isDigit_17 : decode cX0_isDigit 17 = .ok (.ireturn, 1) := by decide +kernel
set_option maxRecDepth 20000 in
theorem ggX0_faultOfPart_X0_signAt : GoodIn wsX0_faultOfPart wsX0_signAt := goodIn_r _ [6, 7, 8, 15, 16, 17, 18, 19, 20, 21, 22, 23, 24] (by decide +kernel) (by decide +kernel)
set_option maxRecDepth 20000 in
theorem gX0_faultOfPart_X0_signAt : GoodIn wsX0_faultOfPart (wsV RX0 51 RX0 yX0_signAt wsX0_signAt) := goodIn_app (goodIn_of _ (by decide +kernel)) ggX0_faultOfPart_X0_signAt
set_option maxRecDepth 20000 in
theorem ggX0_faultOfPart_X0_isLetter : GoodIn wsX0_faultOfPart wsX0_isLetter := goodIn_r _ [11] (by decide +kernel) (by decide +kernel)
set_option maxRecDepth 20000 in
theorem gX0_faultOfPart_X0_isLetter : GoodIn wsX0_faultOfPart (va_wsS RX0 55 yX0_isLetter wsX0_isLetter) := goodIn_app (goodIn_of _ (by decide +kernel)) ggX0_faultOfPart_X0_isLetter
set_option maxRecDepth 20000 in
theorem ggX0_faultOfPart_X0_isDigit : GoodIn wsX0_faultOfPart wsX0_isDigit := goodIn_r _ [14] (by decide +kernel) (by decide +kernel)
set_option maxRecDepth 20000 in
theorem gX0_faultOfPart_X0_isDigit : GoodIn wsX0_faultOfPart (va_wsS RX0 59 yX0_isDigit wsX0_isDigit) := goodIn_app (goodIn_of _ (by decide +kernel)) ggX0_faultOfPart_X0_isDigit
theorem dX0_faultOfPart_0 : decode cX0_faultOfPart 0 = .ok (.aload_n 0, 1) := by decide +kernel
theorem dX0_faultOfPart_1 : decode cX0_faultOfPart 1 = .ok (.iload_n 1, 1) := by decide +kernel
theorem dX0_faultOfPart_2 : decode cX0_faultOfPart 2 = .ok (.invokevirtual 51, 3) := by decide +kernel
theorem dX0_faultOfPart_5 : decode cX0_faultOfPart 5 = .ok (.istore_n 2, 1) := by decide +kernel
theorem dX0_faultOfPart_6 : decode cX0_faultOfPart 6 = .ok (.iload_n 2, 1) := by decide +kernel
theorem dX0_faultOfPart_7 : decode cX0_faultOfPart 7 = .ok (.bipush 46, 2) := by decide +kernel
theorem dX0_faultOfPart_9 : decode cX0_faultOfPart 9 = .ok (.if_icmp .ne 6, 3) := by decide +kernel
theorem dX0_faultOfPart_12 : decode cX0_faultOfPart 12 = .ok (.bipush (-6), 2) := by decide +kernel
theorem dX0_faultOfPart_14 : decode cX0_faultOfPart 14 = .ok (.ireturn, 1) := by decide +kernel
theorem dX0_faultOfPart_15 : decode cX0_faultOfPart 15 = .ok (.iload_n 2, 1) := by decide +kernel
theorem dX0_faultOfPart_16 : decode cX0_faultOfPart 16 = .ok (.bipush 63, 2) := by decide +kernel
theorem dX0_faultOfPart_18 : decode cX0_faultOfPart 18 = .ok (.if_icmp .ne 15, 3) := by decide +kernel
theorem dX0_faultOfPart_21 : decode cX0_faultOfPart 21 = .ok (.aload_n 0, 1) := by decide +kernel
theorem dX0_faultOfPart_22 : decode cX0_faultOfPart 22 = .ok (.getfield 38, 3) := by decide +kernel
theorem dX0_faultOfPart_25 : decode cX0_faultOfPart 25 = .ok (.iconst 3, 1) := by decide +kernel
theorem dX0_faultOfPart_26 : decode cX0_faultOfPart 26 = .ok (.if_icmp .ge 7, 3) := by decide +kernel
theorem dX0_faultOfPart_29 : decode cX0_faultOfPart 29 = .ok (.iconst 1, 1) := by decide +kernel
theorem dX0_faultOfPart_30 : decode cX0_faultOfPart 30 = .ok (.goto 4, 3) := by decide +kernel
theorem dX0_faultOfPart_33 : decode cX0_faultOfPart 33 = .ok (.iconst 0, 1) := by decide +kernel
theorem dX0_faultOfPart_34 : decode cX0_faultOfPart 34 = .ok (.istore_n 3, 1) := by decide +kernel
theorem dX0_faultOfPart_35 : decode cX0_faultOfPart 35 = .ok (.iload_n 3, 1) := by decide +kernel
theorem dX0_faultOfPart_36 : decode cX0_faultOfPart 36 = .ok (.ifCond .ne 12, 3) := by decide +kernel
theorem dX0_faultOfPart_39 : decode cX0_faultOfPart 39 = .ok (.iload_n 2, 1) := by decide +kernel
theorem dX0_faultOfPart_40 : decode cX0_faultOfPart 40 = .ok (.invokestatic 55, 3) := by decide +kernel
theorem dX0_faultOfPart_43 : decode cX0_faultOfPart 43 = .ok (.ifCond .ne 5, 3) := by decide +kernel
theorem dX0_faultOfPart_46 : decode cX0_faultOfPart 46 = .ok (.iload_n 1, 1) := by decide +kernel
theorem dX0_faultOfPart_47 : decode cX0_faultOfPart 47 = .ok (.ireturn, 1) := by decide +kernel
theorem dX0_faultOfPart_48 : decode cX0_faultOfPart 48 = .ok (.aload_n 0, 1) := by decide +kernel
theorem dX0_faultOfPart_49 : decode cX0_faultOfPart 49 = .ok (.iload_n 1, 1) := by decide +kernel
theorem dX0_faultOfPart_50 : decode cX0_faultOfPart 50 = .ok (.iconst 1, 1) := by decide +kernel
theorem dX0_faultOfPart_51 : decode cX0_faultOfPart 51 = .ok (.iadd, 1) := by decide +kernel
theorem dX0_faultOfPart_52 : decode cX0_faultOfPart 52 = .ok (.invokevirtual 51, 3) := by decide +kernel
theorem dX0_faultOfPart_55 : decode cX0_faultOfPart 55 = .ok (.istore 4, 2) := by decide +kernel
theorem dX0_faultOfPart_57 : decode cX0_faultOfPart 57 = .ok (.iload 4, 2) := by decide +kernel
theorem dX0_faultOfPart_59 : decode cX0_faultOfPart 59 = .ok (.bipush 33, 2) := by decide +kernel
theorem dX0_faultOfPart_61 : decode cX0_faultOfPart 61 = .ok (.if_icmp .ne 10, 3) := by decide +kernel
theorem dX0_faultOfPart_64 : decode cX0_faultOfPart 64 = .ok (.iload_n 3, 1) := by decide +kernel
theorem dX0_faultOfPart_65 : decode cX0_faultOfPart 65 = .ok (.ifCond .ne 6, 3) := by decide +kernel
theorem dX0_faultOfPart_68 : decode cX0_faultOfPart 68 = .ok (.bipush (-6), 2) := by decide +kernel
theorem dX0_faultOfPart_70 : decode cX0_faultOfPart 70 = .ok (.ireturn, 1) := by decide +kernel
theorem dX0_faultOfPart_71 : decode cX0_faultOfPart 71 = .ok (.iload 4, 2) := by decide +kernel
theorem dX0_faultOfPart_73 : decode cX0_faultOfPart 73 = .ok (.bipush 62, 2) := by decide +kernel
theorem dX0_faultOfPart_75 : decode cX0_faultOfPart 75 = .ok (.if_icmp .eq 7, 3) := by decide +kernel
theorem dX0_faultOfPart_78 : decode cX0_faultOfPart 78 = .ok (.iload_n 1, 1) := by decide +kernel
theorem dX0_faultOfPart_79 : decode cX0_faultOfPart 79 = .ok (.iconst 1, 1) := by decide +kernel
theorem dX0_faultOfPart_80 : decode cX0_faultOfPart 80 = .ok (.iadd, 1) := by decide +kernel
theorem dX0_faultOfPart_81 : decode cX0_faultOfPart 81 = .ok (.ireturn, 1) := by decide +kernel
theorem dX0_faultOfPart_82 : decode cX0_faultOfPart 82 = .ok (.aload_n 0, 1) := by decide +kernel
theorem dX0_faultOfPart_83 : decode cX0_faultOfPart 83 = .ok (.iload_n 1, 1) := by decide +kernel
theorem dX0_faultOfPart_84 : decode cX0_faultOfPart 84 = .ok (.iconst 2, 1) := by decide +kernel
theorem dX0_faultOfPart_85 : decode cX0_faultOfPart 85 = .ok (.iadd, 1) := by decide +kernel
theorem dX0_faultOfPart_86 : decode cX0_faultOfPart 86 = .ok (.invokevirtual 51, 3) := by decide +kernel
theorem dX0_faultOfPart_89 : decode cX0_faultOfPart 89 = .ok (.istore 5, 2) := by decide +kernel
theorem dX0_faultOfPart_91 : decode cX0_faultOfPart 91 = .ok (.iload 5, 2) := by decide +kernel
theorem dX0_faultOfPart_93 : decode cX0_faultOfPart 93 = .ok (.invokestatic 55, 3) := by decide +kernel
theorem dX0_faultOfPart_96 : decode cX0_faultOfPart 96 = .ok (.ifCond .eq 9, 3) := by decide +kernel
theorem dX0_faultOfPart_99 : decode cX0_faultOfPart 99 = .ok (.iload 5, 2) := by decide +kernel
theorem dX0_faultOfPart_101 : decode cX0_faultOfPart 101 = .ok (.iload_n 2, 1) := by decide +kernel
theorem dX0_faultOfPart_102 : decode cX0_faultOfPart 102 = .ok (.if_icmp .ne 7, 3) := by decide +kernel
theorem dX0_faultOfPart_105 : decode cX0_faultOfPart 105 = .ok (.iload_n 1, 1) := by decide +kernel
theorem dX0_faultOfPart_106 : decode cX0_faultOfPart 106 = .ok (.iconst 2, 1) := by decide +kernel
theorem dX0_faultOfPart_107 : decode cX0_faultOfPart 107 = .ok (.iadd, 1) := by decide +kernel
theorem dX0_faultOfPart_108 : decode cX0_faultOfPart 108 = .ok (.ireturn, 1) := by decide +kernel
theorem dX0_faultOfPart_109 : decode cX0_faultOfPart 109 = .ok (.aload_n 0, 1) := by decide +kernel
theorem dX0_faultOfPart_110 : decode cX0_faultOfPart 110 = .ok (.iload_n 1, 1) := by decide +kernel
theorem dX0_faultOfPart_111 : decode cX0_faultOfPart 111 = .ok (.iconst 3, 1) := by decide +kernel
theorem dX0_faultOfPart_112 : decode cX0_faultOfPart 112 = .ok (.iadd, 1) := by decide +kernel
theorem dX0_faultOfPart_113 : decode cX0_faultOfPart 113 = .ok (.invokevirtual 51, 3) := by decide +kernel
theorem dX0_faultOfPart_116 : decode cX0_faultOfPart 116 = .ok (.istore 6, 2) := by decide +kernel
theorem dX0_faultOfPart_118 : decode cX0_faultOfPart 118 = .ok (.iload 6, 2) := by decide +kernel
theorem dX0_faultOfPart_120 : decode cX0_faultOfPart 120 = .ok (.invokestatic 59, 3) := by decide +kernel
theorem dX0_faultOfPart_123 : decode cX0_faultOfPart 123 = .ok (.ifCond .eq 15, 3) := by decide +kernel
theorem dX0_faultOfPart_126 : decode cX0_faultOfPart 126 = .ok (.iload 6, 2) := by decide +kernel
theorem dX0_faultOfPart_128 : decode cX0_faultOfPart 128 = .ok (.bipush 48, 2) := by decide +kernel
theorem dX0_faultOfPart_130 : decode cX0_faultOfPart 130 = .ok (.if_icmp .eq 8, 3) := by decide +kernel
theorem dX0_faultOfPart_133 : decode cX0_faultOfPart 133 = .ok (.bipush (-6), 2) := by decide +kernel
theorem dX0_faultOfPart_135 : decode cX0_faultOfPart 135 = .ok (.goto 6, 3) := by decide +kernel
theorem dX0_faultOfPart_138 : decode cX0_faultOfPart 138 = .ok (.iload_n 1, 1) := by decide +kernel
theorem dX0_faultOfPart_139 : decode cX0_faultOfPart 139 = .ok (.iconst 3, 1) := by decide +kernel
theorem dX0_faultOfPart_140 : decode cX0_faultOfPart 140 = .ok (.iadd, 1) := by decide +kernel
theorem dX0_faultOfPart_141 : decode cX0_faultOfPart 141 = .ok (.ireturn, 1) := by decide +kernel
set_option maxRecDepth 20000 in
theorem ggX0_takePart_X0_signAt : GoodIn wsX0_takePart wsX0_signAt := goodIn_r _ [6, 7, 8, 21, 22, 23, 24, 25, 26, 27, 28, 29, 30] (by decide +kernel) (by decide +kernel)
set_option maxRecDepth 20000 in
theorem gX0_takePart_X0_signAt : GoodIn wsX0_takePart (wsV RX0 51 RX0 yX0_signAt wsX0_signAt) := goodIn_app (goodIn_of _ (by decide +kernel)) ggX0_takePart_X0_signAt
set_option maxRecDepth 20000 in
theorem ggX0_takePart_X0_addPart : GoodIn wsX0_takePart wsX0_addPart := goodIn_r _ [12, 13, 14, 15, 16, 17, 21, 22, 23, 24, 25, 26, 27, 28, 29, 30] (by decide +kernel) (by decide +kernel)
set_option maxRecDepth 20000 in
theorem gX0_takePart_X0_addPart : GoodIn wsX0_takePart (wsV RX0 62 RX0 yX0_addPart wsX0_addPart) := goodIn_app (goodIn_of _ (by decide +kernel)) ggX0_takePart_X0_addPart
set_option maxRecDepth 20000 in
theorem ggX0_takePart_X0_isDigit : GoodIn wsX0_takePart wsX0_isDigit := goodIn_r _ [20] (by decide +kernel) (by decide +kernel)
set_option maxRecDepth 20000 in
theorem gX0_takePart_X0_isDigit : GoodIn wsX0_takePart (va_wsS RX0 59 yX0_isDigit wsX0_isDigit) := goodIn_app (goodIn_of _ (by decide +kernel)) ggX0_takePart_X0_isDigit
theorem dX0_takePart_0 : decode cX0_takePart 0 = .ok (.aload_n 0, 1) := by decide +kernel
theorem dX0_takePart_1 : decode cX0_takePart 1 = .ok (.iload_n 1, 1) := by decide +kernel
theorem dX0_takePart_2 : decode cX0_takePart 2 = .ok (.invokevirtual 51, 3) := by decide +kernel
theorem dX0_takePart_5 : decode cX0_takePart 5 = .ok (.istore_n 2, 1) := by decide +kernel
theorem dX0_takePart_6 : decode cX0_takePart 6 = .ok (.iload_n 2, 1) := by decide +kernel
theorem dX0_takePart_7 : decode cX0_takePart 7 = .ok (.bipush 46, 2) := by decide +kernel
theorem dX0_takePart_9 : decode cX0_takePart 9 = .ok (.if_icmp .ne 13, 3) := by decide +kernel
theorem dX0_takePart_12 : decode cX0_takePart 12 = .ok (.aload_n 0, 1) := by decide +kernel
theorem dX0_takePart_13 : decode cX0_takePart 13 = .ok (.iconst 2, 1) := by decide +kernel
theorem dX0_takePart_14 : decode cX0_takePart 14 = .ok (.iconst 0, 1) := by decide +kernel
theorem dX0_takePart_15 : decode cX0_takePart 15 = .ok (.iconst 0, 1) := by decide +kernel
theorem dX0_takePart_16 : decode cX0_takePart 16 = .ok (.iconst 0, 1) := by decide +kernel
theorem dX0_takePart_17 : decode cX0_takePart 17 = .ok (.invokevirtual 62, 3) := by decide +kernel
theorem dX0_takePart_20 : decode cX0_takePart 20 = .ok (.iconst 1, 1) := by decide +kernel
theorem dX0_takePart_21 : decode cX0_takePart 21 = .ok (.ireturn, 1) := by decide +kernel
theorem dX0_takePart_22 : decode cX0_takePart 22 = .ok (.aload_n 0, 1) := by decide +kernel
theorem dX0_takePart_23 : decode cX0_takePart 23 = .ok (.iload_n 1, 1) := by decide +kernel
theorem dX0_takePart_24 : decode cX0_takePart 24 = .ok (.iconst 1, 1) := by decide +kernel
theorem dX0_takePart_25 : decode cX0_takePart 25 = .ok (.iadd, 1) := by decide +kernel
theorem dX0_takePart_26 : decode cX0_takePart 26 = .ok (.invokevirtual 51, 3) := by decide +kernel
theorem dX0_takePart_29 : decode cX0_takePart 29 = .ok (.bipush 33, 2) := by decide +kernel
theorem dX0_takePart_31 : decode cX0_takePart 31 = .ok (.if_icmp .ne 16, 3) := by decide +kernel
theorem dX0_takePart_34 : decode cX0_takePart 34 = .ok (.aload_n 0, 1) := by decide +kernel
theorem dX0_takePart_35 : decode cX0_takePart 35 = .ok (.iconst 1, 1) := by decide +kernel
theorem dX0_takePart_36 : decode cX0_takePart 36 = .ok (.iload_n 2, 1) := by decide +kernel
theorem dX0_takePart_37 : decode cX0_takePart 37 = .ok (.bipush 65, 2) := by decide +kernel
theorem dX0_takePart_39 : decode cX0_takePart 39 = .ok (.isub, 1) := by decide +kernel
theorem dX0_takePart_40 : decode cX0_takePart 40 = .ok (.iconst 0, 1) := by decide +kernel
theorem dX0_takePart_41 : decode cX0_takePart 41 = .ok (.iconst 0, 1) := by decide +kernel
theorem dX0_takePart_42 : decode cX0_takePart 42 = .ok (.invokevirtual 62, 3) := by decide +kernel
theorem dX0_takePart_45 : decode cX0_takePart 45 = .ok (.iconst 2, 1) := by decide +kernel
theorem dX0_takePart_46 : decode cX0_takePart 46 = .ok (.ireturn, 1) := by decide +kernel
theorem dX0_takePart_47 : decode cX0_takePart 47 = .ok (.iload_n 2, 1) := by decide +kernel
theorem dX0_takePart_48 : decode cX0_takePart 48 = .ok (.bipush 65, 2) := by decide +kernel
theorem dX0_takePart_50 : decode cX0_takePart 50 = .ok (.isub, 1) := by decide +kernel
theorem dX0_takePart_51 : decode cX0_takePart 51 = .ok (.istore_n 3, 1) := by decide +kernel
theorem dX0_takePart_52 : decode cX0_takePart 52 = .ok (.iload_n 2, 1) := by decide +kernel
theorem dX0_takePart_53 : decode cX0_takePart 53 = .ok (.bipush 63, 2) := by decide +kernel
theorem dX0_takePart_55 : decode cX0_takePart 55 = .ok (.if_icmp .ne 21, 3) := by decide +kernel
theorem dX0_takePart_58 : decode cX0_takePart 58 = .ok (.bipush 6, 2) := by decide +kernel
theorem dX0_takePart_60 : decode cX0_takePart 60 = .ok (.aload_n 0, 1) := by decide +kernel
theorem dX0_takePart_61 : decode cX0_takePart 61 = .ok (.getfield 38, 3) := by decide +kernel
theorem dX0_takePart_64 : decode cX0_takePart 64 = .ok (.iadd, 1) := by decide +kernel
theorem dX0_takePart_65 : decode cX0_takePart 65 = .ok (.istore_n 3, 1) := by decide +kernel
theorem dX0_takePart_66 : decode cX0_takePart 66 = .ok (.aload_n 0, 1) := by decide +kernel
theorem dX0_takePart_67 : decode cX0_takePart 67 = .ok (.dup, 1) := by decide +kernel
theorem dX0_takePart_68 : decode cX0_takePart 68 = .ok (.getfield 38, 3) := by decide +kernel
theorem dX0_takePart_71 : decode cX0_takePart 71 = .ok (.iconst 1, 1) := by decide +kernel
theorem dX0_takePart_72 : decode cX0_takePart 72 = .ok (.iadd, 1) := by decide +kernel
theorem dX0_takePart_73 : decode cX0_takePart 73 = .ok (.putfield 38, 3) := by decide +kernel
theorem dX0_takePart_76 : decode cX0_takePart 76 = .ok (.aload_n 0, 1) := by decide +kernel
theorem dX0_takePart_77 : decode cX0_takePart 77 = .ok (.iload_n 1, 1) := by decide +kernel
theorem dX0_takePart_78 : decode cX0_takePart 78 = .ok (.iconst 2, 1) := by decide +kernel
theorem dX0_takePart_79 : decode cX0_takePart 79 = .ok (.iadd, 1) := by decide +kernel
theorem dX0_takePart_80 : decode cX0_takePart 80 = .ok (.invokevirtual 51, 3) := by decide +kernel
theorem dX0_takePart_83 : decode cX0_takePart 83 = .ok (.bipush 65, 2) := by decide +kernel
theorem dX0_takePart_85 : decode cX0_takePart 85 = .ok (.isub, 1) := by decide +kernel
theorem dX0_takePart_86 : decode cX0_takePart 86 = .ok (.istore 4, 2) := by decide +kernel
theorem dX0_takePart_88 : decode cX0_takePart 88 = .ok (.aload_n 0, 1) := by decide +kernel
theorem dX0_takePart_89 : decode cX0_takePart 89 = .ok (.iload_n 1, 1) := by decide +kernel
theorem dX0_takePart_90 : decode cX0_takePart 90 = .ok (.iconst 3, 1) := by decide +kernel
theorem dX0_takePart_91 : decode cX0_takePart 91 = .ok (.iadd, 1) := by decide +kernel
theorem dX0_takePart_92 : decode cX0_takePart 92 = .ok (.invokevirtual 51, 3) := by decide +kernel
theorem dX0_takePart_95 : decode cX0_takePart 95 = .ok (.bipush 48, 2) := by decide +kernel
theorem dX0_takePart_97 : decode cX0_takePart 97 = .ok (.isub, 1) := by decide +kernel
theorem dX0_takePart_98 : decode cX0_takePart 98 = .ok (.istore 5, 2) := by decide +kernel
theorem dX0_takePart_100 : decode cX0_takePart 100 = .ok (.aload_n 0, 1) := by decide +kernel
theorem dX0_takePart_101 : decode cX0_takePart 101 = .ok (.iload_n 1, 1) := by decide +kernel
theorem dX0_takePart_102 : decode cX0_takePart 102 = .ok (.iconst 4, 1) := by decide +kernel
theorem dX0_takePart_103 : decode cX0_takePart 103 = .ok (.iadd, 1) := by decide +kernel
theorem dX0_takePart_104 : decode cX0_takePart 104 = .ok (.invokevirtual 51, 3) := by decide +kernel
theorem dX0_takePart_107 : decode cX0_takePart 107 = .ok (.istore 6, 2) := by decide +kernel
theorem dX0_takePart_109 : decode cX0_takePart 109 = .ok (.iload 6, 2) := by decide +kernel
theorem dX0_takePart_111 : decode cX0_takePart 111 = .ok (.invokestatic 59, 3) := by decide +kernel
theorem dX0_takePart_114 : decode cX0_takePart 114 = .ok (.ifCond .eq 24, 3) := by decide +kernel
theorem dX0_takePart_117 : decode cX0_takePart 117 = .ok (.aload_n 0, 1) := by decide +kernel
theorem dX0_takePart_118 : decode cX0_takePart 118 = .ok (.iconst 0, 1) := by decide +kernel
theorem dX0_takePart_119 : decode cX0_takePart 119 = .ok (.iload_n 3, 1) := by decide +kernel
theorem dX0_takePart_120 : decode cX0_takePart 120 = .ok (.iload 4, 2) := by decide +kernel
theorem dX0_takePart_122 : decode cX0_takePart 122 = .ok (.iload 5, 2) := by decide +kernel
theorem dX0_takePart_124 : decode cX0_takePart 124 = .ok (.bipush 10, 2) := by decide +kernel
theorem dX0_takePart_126 : decode cX0_takePart 126 = .ok (.imul, 1) := by decide +kernel
theorem dX0_takePart_127 : decode cX0_takePart 127 = .ok (.iload 6, 2) := by decide +kernel
theorem dX0_takePart_129 : decode cX0_takePart 129 = .ok (.iadd, 1) := by decide +kernel
theorem dX0_takePart_130 : decode cX0_takePart 130 = .ok (.bipush 48, 2) := by decide +kernel
theorem dX0_takePart_132 : decode cX0_takePart 132 = .ok (.isub, 1) := by decide +kernel
theorem dX0_takePart_133 : decode cX0_takePart 133 = .ok (.invokevirtual 62, 3) := by decide +kernel
theorem dX0_takePart_136 : decode cX0_takePart 136 = .ok (.iconst 5, 1) := by decide +kernel
theorem dX0_takePart_137 : decode cX0_takePart 137 = .ok (.ireturn, 1) := by decide +kernel
theorem dX0_takePart_138 : decode cX0_takePart 138 = .ok (.aload_n 0, 1) := by decide +kernel
theorem dX0_takePart_139 : decode cX0_takePart 139 = .ok (.iconst 0, 1) := by decide +kernel
theorem dX0_takePart_140 : decode cX0_takePart 140 = .ok (.iload_n 3, 1) := by decide +kernel
theorem dX0_takePart_141 : decode cX0_takePart 141 = .ok (.iload 4, 2) := by decide +kernel
theorem dX0_takePart_143 : decode cX0_takePart 143 = .ok (.iload 5, 2) := by decide +kernel
theorem dX0_takePart_145 : decode cX0_takePart 145 = .ok (.invokevirtual 62, 3) := by decide +kernel
theorem dX0_takePart_148 : decode cX0_takePart 148 = .ok (.iconst 4, 1) := by decide +kernel
theorem dX0_takePart_149 : decode cX0_takePart 149 = .ok (.ireturn, 1) := by decide +kernel
theorem dX0_addPart_0 : decode cX0_addPart 0 = .ok (.aload_n 0, 1) := by decide +kernel
theorem dX0_addPart_1 : decode cX0_addPart 1 = .ok (.getfield 35, 3) := by decide +kernel
theorem dX0_addPart_4 : decode cX0_addPart 4 = .ok (.ifCond .lt 12, 3) := by decide +kernel
theorem dX0_addPart_7 : decode cX0_addPart 7 = .ok (.aload_n 0, 1) := by decide +kernel
theorem dX0_addPart_8 : decode cX0_addPart 8 = .ok (.getfield 35, 3) := by decide +kernel
theorem dX0_addPart_11 : decode cX0_addPart 11 = .ok (.bipush 60, 2) := by decide +kernel
theorem dX0_addPart_13 : decode cX0_addPart 13 = .ok (.if_icmp .lt 4, 3) := by decide +kernel
theorem dX0_addPart_16 : decode cX0_addPart 16 = .ok (.return_, 1) := by decide +kernel
theorem dX0_addPart_17 : decode cX0_addPart 17 = .ok (.aload_n 0, 1) := by decide +kernel
theorem dX0_addPart_18 : decode cX0_addPart 18 = .ok (.getfield 15, 3) := by decide +kernel
theorem dX0_addPart_21 : decode cX0_addPart 21 = .ok (.aload_n 0, 1) := by decide +kernel
theorem dX0_addPart_22 : decode cX0_addPart 22 = .ok (.getfield 35, 3) := by decide +kernel
theorem dX0_addPart_25 : decode cX0_addPart 25 = .ok (.iload_n 1, 1) := by decide +kernel
theorem dX0_addPart_26 : decode cX0_addPart 26 = .ok (.iastore, 1) := by decide +kernel
theorem dX0_addPart_27 : decode cX0_addPart 27 = .ok (.aload_n 0, 1) := by decide +kernel
theorem dX0_addPart_28 : decode cX0_addPart 28 = .ok (.getfield 19, 3) := by decide +kernel
theorem dX0_addPart_31 : decode cX0_addPart 31 = .ok (.aload_n 0, 1) := by decide +kernel
theorem dX0_addPart_32 : decode cX0_addPart 32 = .ok (.getfield 35, 3) := by decide +kernel
theorem dX0_addPart_35 : decode cX0_addPart 35 = .ok (.iload_n 2, 1) := by decide +kernel
theorem dX0_addPart_36 : decode cX0_addPart 36 = .ok (.iastore, 1) := by decide +kernel
theorem dX0_addPart_37 : decode cX0_addPart 37 = .ok (.aload_n 0, 1) := by decide +kernel
theorem dX0_addPart_38 : decode cX0_addPart 38 = .ok (.getfield 22, 3) := by decide +kernel
theorem dX0_addPart_41 : decode cX0_addPart 41 = .ok (.aload_n 0, 1) := by decide +kernel
theorem dX0_addPart_42 : decode cX0_addPart 42 = .ok (.getfield 35, 3) := by decide +kernel
theorem dX0_addPart_45 : decode cX0_addPart 45 = .ok (.iload_n 3, 1) := by decide +kernel
theorem dX0_addPart_46 : decode cX0_addPart 46 = .ok (.iastore, 1) := by decide +kernel
theorem dX0_addPart_47 : decode cX0_addPart 47 = .ok (.aload_n 0, 1) := by decide +kernel
theorem dX0_addPart_48 : decode cX0_addPart 48 = .ok (.getfield 25, 3) := by decide +kernel
theorem dX0_addPart_51 : decode cX0_addPart 51 = .ok (.aload_n 0, 1) := by decide +kernel
theorem dX0_addPart_52 : decode cX0_addPart 52 = .ok (.getfield 35, 3) := by decide +kernel
theorem dX0_addPart_55 : decode cX0_addPart 55 = .ok (.iload 4, 2) := by decide +kernel
theorem dX0_addPart_57 : decode cX0_addPart 57 = .ok (.iastore, 1) := by decide +kernel
theorem dX0_addPart_58 : decode cX0_addPart 58 = .ok (.aload_n 0, 1) := by decide +kernel
theorem dX0_addPart_59 : decode cX0_addPart 59 = .ok (.dup, 1) := by decide +kernel
theorem dX0_addPart_60 : decode cX0_addPart 60 = .ok (.getfield 35, 3) := by decide +kernel
theorem dX0_addPart_63 : decode cX0_addPart 63 = .ok (.iconst 1, 1) := by decide +kernel
theorem dX0_addPart_64 : decode cX0_addPart 64 = .ok (.iadd, 1) := by decide +kernel
theorem dX0_addPart_65 : decode cX0_addPart 65 = .ok (.putfield 35, 3) := by decide +kernel
theorem dX0_addPart_68 : decode cX0_addPart 68 = .ok (.return_, 1) := by decide +kernel
theorem dX0_guesses_0 : decode cX0_guesses 0 = .ok (.iconst 1, 1) := by decide +kernel
theorem dX0_guesses_1 : decode cX0_guesses 1 = .ok (.istore_n 1, 1) := by decide +kernel
theorem dX0_guesses_2 : decode cX0_guesses 2 = .ok (.iconst 0, 1) := by decide +kernel
theorem dX0_guesses_3 : decode cX0_guesses 3 = .ok (.istore_n 2, 1) := by decide +kernel
theorem dX0_guesses_4 : decode cX0_guesses 4 = .ok (.iload_n 2, 1) := by decide +kernel
theorem dX0_guesses_5 : decode cX0_guesses 5 = .ok (.aload_n 0, 1) := by decide +kernel
theorem dX0_guesses_6 : decode cX0_guesses 6 = .ok (.getfield 38, 3) := by decide +kernel
theorem dX0_guesses_9 : decode cX0_guesses 9 = .ok (.if_icmp .ge 14, 3) := by decide +kernel
theorem dX0_guesses_12 : decode cX0_guesses 12 = .ok (.iload_n 1, 1) := by decide +kernel
theorem dX0_guesses_13 : decode cX0_guesses 13 = .ok (.bipush 6, 2) := by decide +kernel
theorem dX0_guesses_15 : decode cX0_guesses 15 = .ok (.imul, 1) := by decide +kernel
theorem dX0_guesses_16 : decode cX0_guesses 16 = .ok (.istore_n 1, 1) := by decide +kernel
theorem dX0_guesses_17 : decode cX0_guesses 17 = .ok (.iinc 2 1, 3) := by decide +kernel
theorem dX0_guesses_20 : decode cX0_guesses 20 = .ok (.goto (-16), 3) := by decide +kernel
theorem dX0_guesses_23 : decode cX0_guesses 23 = .ok (.iload_n 1, 1) := by decide +kernel
theorem dX0_guesses_24 : decode cX0_guesses 24 = .ok (.ireturn, 1) := by decide +kernel
theorem dX0_writeMen_0 : decode cX0_writeMen 0 = .ok (.iload_n 1, 1) := by decide +kernel
theorem dX0_writeMen_1 : decode cX0_writeMen 1 = .ok (.istore_n 2, 1) := by decide +kernel
theorem dX0_writeMen_2 : decode cX0_writeMen 2 = .ok (.aload_n 0, 1) := by decide +kernel
theorem dX0_writeMen_3 : decode cX0_writeMen 3 = .ok (.getfield 38, 3) := by decide +kernel
theorem dX0_writeMen_6 : decode cX0_writeMen 6 = .ok (.iconst 3, 1) := by decide +kernel
theorem dX0_writeMen_7 : decode cX0_writeMen 7 = .ok (.invokestatic 66, 3) := by decide +kernel
theorem dX0_writeMen_10 : decode cX0_writeMen 10 = .ok (.iconst 1, 1) := by decide +kernel
theorem dX0_writeMen_11 : decode cX0_writeMen 11 = .ok (.isub, 1) := by decide +kernel
theorem dX0_writeMen_12 : decode cX0_writeMen 12 = .ok (.istore_n 3, 1) := by decide +kernel
theorem dX0_writeMen_13 : decode cX0_writeMen 13 = .ok (.iload_n 3, 1) := by decide +kernel
theorem dX0_writeMen_14 : decode cX0_writeMen 14 = .ok (.ifCond .lt 24, 3) := by decide +kernel
theorem dX0_writeMen_17 : decode cX0_writeMen 17 = .ok (.aload_n 0, 1) := by decide +kernel
theorem dX0_writeMen_18 : decode cX0_writeMen 18 = .ok (.getfield 28, 3) := by decide +kernel
theorem dX0_writeMen_21 : decode cX0_writeMen 21 = .ok (.iload_n 3, 1) := by decide +kernel
theorem dX0_writeMen_22 : decode cX0_writeMen 22 = .ok (.iload_n 2, 1) := by decide +kernel
theorem dX0_writeMen_23 : decode cX0_writeMen 23 = .ok (.bipush 6, 2) := by decide +kernel
theorem dX0_writeMen_25 : decode cX0_writeMen 25 = .ok (.irem, 1) := by decide +kernel
theorem dX0_writeMen_26 : decode cX0_writeMen 26 = .ok (.iastore, 1) := by decide +kernel
theorem dX0_writeMen_27 : decode cX0_writeMen 27 = .ok (.iload_n 2, 1) := by decide +kernel
theorem dX0_writeMen_28 : decode cX0_writeMen 28 = .ok (.bipush 6, 2) := by decide +kernel
theorem dX0_writeMen_30 : decode cX0_writeMen 30 = .ok (.idiv, 1) := by decide +kernel
theorem dX0_writeMen_31 : decode cX0_writeMen 31 = .ok (.istore_n 2, 1) := by decide +kernel
theorem dX0_writeMen_32 : decode cX0_writeMen 32 = .ok (.iinc 3 (-1), 3) := by decide +kernel
theorem dX0_writeMen_35 : decode cX0_writeMen 35 = .ok (.goto (-22), 3) := by decide +kernel
theorem dX0_writeMen_38 : decode cX0_writeMen 38 = .ok (.return_, 1) := by decide +kernel
theorem dX0_manFor_0 : decode cX0_manFor 0 = .ok (.iload_n 1, 1) := by decide +kernel
theorem dX0_manFor_1 : decode cX0_manFor 1 = .ok (.ifCond .lt 25, 3) := by decide +kernel
theorem dX0_manFor_4 : decode cX0_manFor 4 = .ok (.iload_n 1, 1) := by decide +kernel
theorem dX0_manFor_5 : decode cX0_manFor 5 = .ok (.aload_n 0, 1) := by decide +kernel
theorem dX0_manFor_6 : decode cX0_manFor 6 = .ok (.getfield 38, 3) := by decide +kernel
theorem dX0_manFor_9 : decode cX0_manFor 9 = .ok (.if_icmp .ge 17, 3) := by decide +kernel
theorem dX0_manFor_12 : decode cX0_manFor 12 = .ok (.iload_n 1, 1) := by decide +kernel
theorem dX0_manFor_13 : decode cX0_manFor 13 = .ok (.iconst 3, 1) := by decide +kernel
theorem dX0_manFor_14 : decode cX0_manFor 14 = .ok (.if_icmp .ge 12, 3) := by decide +kernel
theorem dX0_manFor_17 : decode cX0_manFor 17 = .ok (.aload_n 0, 1) := by decide +kernel
theorem dX0_manFor_18 : decode cX0_manFor 18 = .ok (.getfield 28, 3) := by decide +kernel
theorem dX0_manFor_21 : decode cX0_manFor 21 = .ok (.iload_n 1, 1) := by decide +kernel
theorem dX0_manFor_22 : decode cX0_manFor 22 = .ok (.iaload, 1) := by decide +kernel
theorem dX0_manFor_23 : decode cX0_manFor 23 = .ok (.goto 5, 3) := by decide +kernel
theorem dX0_manFor_26 : decode cX0_manFor 26 = .ok (.bipush (-6), 2) := by decide +kernel
theorem dX0_manFor_28 : decode cX0_manFor 28 = .ok (.ireturn, 1) := by decide +kernel
set_option maxRecDepth 20000 in
theorem ggX0_manOf_X3_isMan : GoodIn wsX0_manOf wsX3_isMan := goodIn_r _ [3] (by decide +kernel) (by decide +kernel)
set_option maxRecDepth 20000 in
theorem gX0_manOf_X3_isMan_n72 : GoodIn wsX0_manOf (wsX3_isMan) := ggX0_manOf_X3_isMan
set_option maxRecDepth 20000 in
theorem ggX0_manOf_X0_manFor : GoodIn wsX0_manOf wsX0_manFor := goodIn_r _ [8, 9, 10, 11, 12, 13, 14, 15, 16, 17, 18, 19, 20] (by decide +kernel) (by decide +kernel)
set_option maxRecDepth 20000 in
theorem gX0_manOf_X0_manFor : GoodIn wsX0_manOf (wsV RX0 76 RX0 yX0_manFor wsX0_manFor) := goodIn_app (goodIn_of _ (by decide +kernel)) ggX0_manOf_X0_manFor
theorem dX0_manOf_0 : decode cX0_manOf 0 = .ok (.iload_n 1, 1) := by decide +kernel
theorem dX0_manOf_1 : decode cX0_manOf 1 = .ok (.invokestatic 72, 3) := by decide +kernel
theorem dX0_manOf_4 : decode cX0_manOf 4 = .ok (.ifCond .eq 7, 3) := by decide +kernel
theorem dX0_manOf_7 : decode cX0_manOf 7 = .ok (.iload_n 1, 1) := by decide +kernel
theorem dX0_manOf_8 : decode cX0_manOf 8 = .ok (.goto 11, 3) := by decide +kernel
theorem dX0_manOf_11 : decode cX0_manOf 11 = .ok (.aload_n 0, 1) := by decide +kernel
theorem dX0_manOf_12 : decode cX0_manOf 12 = .ok (.iload_n 1, 1) := by decide +kernel
theorem dX0_manOf_13 : decode cX0_manOf 13 = .ok (.bipush 6, 2) := by decide +kernel
theorem dX0_manOf_15 : decode cX0_manOf 15 = .ok (.isub, 1) := by decide +kernel
theorem dX0_manOf_16 : decode cX0_manOf 16 = .ok (.invokevirtual 76, 3) := by decide +kernel
theorem dX0_manOf_19 : decode cX0_manOf 19 = .ok (.ireturn, 1) := by decide +kernel
set_option maxRecDepth 20000 in
theorem ggX0_lendsToHimself_X0_manOf : GoodIn wsX0_lendsToHimself wsX0_manOf := goodIn_r _ [9, 10, 11, 12, 13, 14, 15, 8, 16, 17, 18, 19, 20, 21, 22, 23, 24, 25, 26, 27, 28] (by decide +kernel) (by decide +kernel)
set_option maxRecDepth 20000 in
theorem gX0_lendsToHimself_X0_manOf : GoodIn wsX0_lendsToHimself (wsV RX0 79 RX0 yX0_manOf wsX0_manOf) := goodIn_app (goodIn_of _ (by decide +kernel)) ggX0_lendsToHimself_X0_manOf
theorem dX0_lendsToHimself_0 : decode cX0_lendsToHimself 0 = .ok (.iconst 0, 1) := by decide +kernel
theorem dX0_lendsToHimself_1 : decode cX0_lendsToHimself 1 = .ok (.istore_n 1, 1) := by decide +kernel
theorem dX0_lendsToHimself_2 : decode cX0_lendsToHimself 2 = .ok (.iload_n 1, 1) := by decide +kernel
theorem dX0_lendsToHimself_3 : decode cX0_lendsToHimself 3 = .ok (.aload_n 0, 1) := by decide +kernel
theorem dX0_lendsToHimself_4 : decode cX0_lendsToHimself 4 = .ok (.getfield 35, 3) := by decide +kernel
theorem dX0_lendsToHimself_7 : decode cX0_lendsToHimself 7 = .ok (.if_icmp .ge 45, 3) := by decide +kernel
theorem dX0_lendsToHimself_10 : decode cX0_lendsToHimself 10 = .ok (.iload_n 1, 1) := by decide +kernel
theorem dX0_lendsToHimself_11 : decode cX0_lendsToHimself 11 = .ok (.bipush 60, 2) := by decide +kernel
theorem dX0_lendsToHimself_13 : decode cX0_lendsToHimself 13 = .ok (.if_icmp .ge 39, 3) := by decide +kernel
theorem dX0_lendsToHimself_16 : decode cX0_lendsToHimself 16 = .ok (.aload_n 0, 1) := by decide +kernel
theorem dX0_lendsToHimself_17 : decode cX0_lendsToHimself 17 = .ok (.getfield 15, 3) := by decide +kernel
theorem dX0_lendsToHimself_20 : decode cX0_lendsToHimself 20 = .ok (.iload_n 1, 1) := by decide +kernel
theorem dX0_lendsToHimself_21 : decode cX0_lendsToHimself 21 = .ok (.iaload, 1) := by decide +kernel
theorem dX0_lendsToHimself_22 : decode cX0_lendsToHimself 22 = .ok (.ifCond .ne 24, 3) := by decide +kernel
theorem dX0_lendsToHimself_25 : decode cX0_lendsToHimself 25 = .ok (.aload_n 0, 1) := by decide +kernel
theorem dX0_lendsToHimself_26 : decode cX0_lendsToHimself 26 = .ok (.aload_n 0, 1) := by decide +kernel
theorem dX0_lendsToHimself_27 : decode cX0_lendsToHimself 27 = .ok (.getfield 19, 3) := by decide +kernel
theorem dX0_lendsToHimself_30 : decode cX0_lendsToHimself 30 = .ok (.iload_n 1, 1) := by decide +kernel
theorem dX0_lendsToHimself_31 : decode cX0_lendsToHimself 31 = .ok (.iaload, 1) := by decide +kernel
theorem dX0_lendsToHimself_32 : decode cX0_lendsToHimself 32 = .ok (.invokevirtual 79, 3) := by decide +kernel
theorem dX0_lendsToHimself_35 : decode cX0_lendsToHimself 35 = .ok (.aload_n 0, 1) := by decide +kernel
theorem dX0_lendsToHimself_36 : decode cX0_lendsToHimself 36 = .ok (.getfield 22, 3) := by decide +kernel
theorem dX0_lendsToHimself_39 : decode cX0_lendsToHimself 39 = .ok (.iload_n 1, 1) := by decide +kernel
theorem dX0_lendsToHimself_40 : decode cX0_lendsToHimself 40 = .ok (.iaload, 1) := by decide +kernel
theorem dX0_lendsToHimself_41 : decode cX0_lendsToHimself 41 = .ok (.if_icmp .ne 5, 3) := by decide +kernel
theorem dX0_lendsToHimself_44 : decode cX0_lendsToHimself 44 = .ok (.iconst 1, 1) := by decide +kernel
theorem dX0_lendsToHimself_45 : decode cX0_lendsToHimself 45 = .ok (.ireturn, 1) := by decide +kernel
theorem dX0_lendsToHimself_46 : decode cX0_lendsToHimself 46 = .ok (.iinc 1 1, 3) := by decide +kernel
theorem dX0_lendsToHimself_49 : decode cX0_lendsToHimself 49 = .ok (.goto (-47), 3) := by decide +kernel
theorem dX0_lendsToHimself_52 : decode cX0_lendsToHimself 52 = .ok (.iconst 0, 1) := by decide +kernel
theorem dX0_lendsToHimself_53 : decode cX0_lendsToHimself 53 = .ok (.ireturn, 1) := by decide +kernel
set_option maxRecDepth 20000 in
theorem ggX0_perform_X2_copyFrom : GoodIn wsX0_perform wsX2_copyFrom := goodIn_r _ [7, 8, 9, 10, 11, 12, 13, 14, 15, 16, 17, 18, 19, 20, 21, 22, 109, 110, 111, 112, 113, 114, 115, 116, 117, 118, 119] (by decide +kernel) (by decide +kernel)
set_option maxRecDepth 20000 in
theorem gX0_perform_X2_copyFrom : GoodIn wsX0_perform (wsV RX0 82 RX2 yX2_copyFrom wsX2_copyFrom) := goodIn_app (goodIn_of _ (by decide +kernel)) ggX0_perform_X2_copyFrom
set_option maxRecDepth 20000 in
theorem ggX0_perform_X0_performPart : GoodIn wsX0_perform wsX0_performPart := goodIn_r _ [27, 28, 29, 30, 31, 32, 33, 34, 6, 35, 20, 13, 15, 22, 36, 37, 38, 39, 40, 41, 42, 43, 44, 45, 26, 46, 47, 48, 49, 50, 51, 52, 53, 54, 55, 56, 57, 58, 59, 60, 61, 62, 63, 64, 65, 66, 67, 68, 69, 70, 71, 72, 73, 74, 21, 75, 76, 77, 78, 79, 80, 81, 82, 8, 83, 84, 85, 86, 14, 87, 88, 89, 90, 91, 92, 93, 94, 16, 95, 96, 97, 98, 99, 100, 101, 102, 103, 104, 105, 106, 107, 108, 109, 110, 111, 112, 113, 114, 115, 116, 117, 118, 119] (by decide +kernel) (by decide +kernel)
set_option maxRecDepth 20000 in
theorem gX0_perform_X0_performPart : GoodIn wsX0_perform (wsV RX0 88 RX0 yX0_performPart wsX0_performPart) := goodIn_app (goodIn_of _ (by decide +kernel)) ggX0_perform_X0_performPart
theorem dX0_perform_0 : decode cX0_perform 0 = .ok (.aload_n 2, 1) := by decide +kernel
theorem dX0_perform_1 : decode cX0_perform 1 = .ok (.aload_n 1, 1) := by decide +kernel
theorem dX0_perform_2 : decode cX0_perform 2 = .ok (.invokevirtual 82, 3) := by decide +kernel
theorem dX0_perform_5 : decode cX0_perform 5 = .ok (.iconst 0, 1) := by decide +kernel
theorem dX0_perform_6 : decode cX0_perform 6 = .ok (.istore_n 3, 1) := by decide +kernel
theorem dX0_perform_7 : decode cX0_perform 7 = .ok (.iload_n 3, 1) := by decide +kernel
theorem dX0_perform_8 : decode cX0_perform 8 = .ok (.aload_n 0, 1) := by decide +kernel
theorem dX0_perform_9 : decode cX0_perform 9 = .ok (.getfield 35, 3) := by decide +kernel
theorem dX0_perform_12 : decode cX0_perform 12 = .ok (.if_icmp .ge 34, 3) := by decide +kernel
theorem dX0_perform_15 : decode cX0_perform 15 = .ok (.iload_n 3, 1) := by decide +kernel
theorem dX0_perform_16 : decode cX0_perform 16 = .ok (.bipush 60, 2) := by decide +kernel
theorem dX0_perform_18 : decode cX0_perform 18 = .ok (.if_icmp .ge 28, 3) := by decide +kernel
theorem dX0_perform_21 : decode cX0_perform 21 = .ok (.aload_n 0, 1) := by decide +kernel
theorem dX0_perform_22 : decode cX0_perform 22 = .ok (.aload_n 0, 1) := by decide +kernel
theorem dX0_perform_23 : decode cX0_perform 23 = .ok (.aload_n 2, 1) := by decide +kernel
theorem dX0_perform_24 : decode cX0_perform 24 = .ok (.iload_n 3, 1) := by decide +kernel
theorem dX0_perform_25 : decode cX0_perform 25 = .ok (.invokevirtual 88, 3) := by decide +kernel
theorem dX0_perform_28 : decode cX0_perform 28 = .ok (.putfield 41, 3) := by decide +kernel
theorem dX0_perform_31 : decode cX0_perform 31 = .ok (.aload_n 0, 1) := by decide +kernel
theorem dX0_perform_32 : decode cX0_perform 32 = .ok (.getfield 41, 3) := by decide +kernel
theorem dX0_perform_35 : decode cX0_perform 35 = .ok (.ifCond .eq 5, 3) := by decide +kernel
theorem dX0_perform_38 : decode cX0_perform 38 = .ok (.iload_n 3, 1) := by decide +kernel
theorem dX0_perform_39 : decode cX0_perform 39 = .ok (.ireturn, 1) := by decide +kernel
theorem dX0_perform_40 : decode cX0_perform 40 = .ok (.iinc 3 1, 3) := by decide +kernel
theorem dX0_perform_43 : decode cX0_perform 43 = .ok (.goto (-36), 3) := by decide +kernel
theorem dX0_perform_46 : decode cX0_perform 46 = .ok (.bipush (-6), 2) := by decide +kernel
theorem dX0_perform_48 : decode cX0_perform 48 = .ok (.ireturn, 1) := by decide +kernel
set_option maxRecDepth 20000 in
theorem ggX0_performPart_X2_passDay : GoodIn wsX0_performPart wsX2_passDay := goodIn_r _ [9, 10, 11, 12, 13, 14, 15, 16, 17, 18, 19, 20, 92, 93, 94, 95, 96, 97, 98, 99, 100, 101, 102] (by decide +kernel) (by decide +kernel)
set_option maxRecDepth 20000 in
theorem gX0_performPart_X2_passDay : GoodIn wsX0_performPart (wsV RX0 92 RX2 yX2_passDay wsX2_passDay) := goodIn_app (goodIn_of _ (by decide +kernel)) ggX0_performPart_X2_passDay
set_option maxRecDepth 20000 in
theorem ggX0_performPart_X0_manOf : GoodIn wsX0_performPart wsX0_manOf := goodIn_r _ [25, 26, 15, 27, 28, 29, 30, 24, 31, 32, 33, 82, 83, 84, 85, 86, 87, 88, 89, 90, 91] (by decide +kernel) (by decide +kernel)
set_option maxRecDepth 20000 in
theorem gX0_performPart_X0_manOf : GoodIn wsX0_performPart (wsV RX0 79 RX0 yX0_manOf wsX0_manOf) := goodIn_app (goodIn_of _ (by decide +kernel)) ggX0_performPart_X0_manOf
set_option maxRecDepth 20000 in
theorem ggX0_performPart_X2_repay : GoodIn wsX0_performPart wsX2_repay := goodIn_r _ [37, 38, 39, 40, 8, 41, 42, 43, 44, 45, 11, 46, 47, 48, 49, 26, 15, 27, 50, 51, 52, 53, 54, 12, 55, 56, 57, 58, 59, 60, 61, 62, 63, 64, 65, 66, 67, 68, 69, 70, 71, 72, 73, 74, 75, 76, 77, 92, 93, 94, 95, 96, 97, 98, 99, 100, 101, 102] (by decide +kernel) (by decide +kernel)
set_option maxRecDepth 20000 in
theorem gX0_performPart_X2_repay : GoodIn wsX0_performPart (wsV RX0 95 RX2 yX2_repay wsX2_repay) := goodIn_app (goodIn_of _ (by decide +kernel)) ggX0_performPart_X2_repay
set_option maxRecDepth 20000 in
theorem ggX0_performPart_X2_lend : GoodIn wsX0_performPart wsX2_lend := goodIn_r _ [81, 68, 12, 77, 10, 11, 59, 60, 61, 8, 62, 63, 26, 15, 27, 46, 47, 48, 49, 69, 70, 71, 72, 92, 93, 94, 95, 96, 97, 98, 99, 100, 101, 102] (by decide +kernel) (by decide +kernel)
set_option maxRecDepth 20000 in
theorem gX0_performPart_X2_lend : GoodIn wsX0_performPart (wsV RX0 98 RX2 yX2_lend wsX2_lend) := goodIn_app (goodIn_of _ (by decide +kernel)) ggX0_performPart_X2_lend
theorem dX0_performPart_0 : decode cX0_performPart 0 = .ok (.iload_n 2, 1) := by decide +kernel
theorem dX0_performPart_1 : decode cX0_performPart 1 = .ok (.ifCond .lt 9, 3) := by decide +kernel
theorem dX0_performPart_4 : decode cX0_performPart 4 = .ok (.iload_n 2, 1) := by decide +kernel
theorem dX0_performPart_5 : decode cX0_performPart 5 = .ok (.bipush 60, 2) := by decide +kernel
theorem dX0_performPart_7 : decode cX0_performPart 7 = .ok (.if_icmp .lt 5, 3) := by decide +kernel
theorem dX0_performPart_10 : decode cX0_performPart 10 = .ok (.iconst 0, 1) := by decide +kernel
theorem dX0_performPart_11 : decode cX0_performPart 11 = .ok (.ireturn, 1) := by decide +kernel
theorem dX0_performPart_12 : decode cX0_performPart 12 = .ok (.aload_n 0, 1) := by decide +kernel
theorem dX0_performPart_13 : decode cX0_performPart 13 = .ok (.getfield 15, 3) := by decide +kernel
theorem dX0_performPart_16 : decode cX0_performPart 16 = .ok (.iload_n 2, 1) := by decide +kernel
theorem dX0_performPart_17 : decode cX0_performPart 17 = .ok (.iaload, 1) := by decide +kernel
theorem dX0_performPart_18 : decode cX0_performPart 18 = .ok (.iconst 2, 1) := by decide +kernel
theorem dX0_performPart_19 : decode cX0_performPart 19 = .ok (.if_icmp .ne 9, 3) := by decide +kernel
theorem dX0_performPart_22 : decode cX0_performPart 22 = .ok (.aload_n 1, 1) := by decide +kernel
theorem dX0_performPart_23 : decode cX0_performPart 23 = .ok (.invokevirtual 92, 3) := by decide +kernel
theorem dX0_performPart_26 : decode cX0_performPart 26 = .ok (.iconst 0, 1) := by decide +kernel
theorem dX0_performPart_27 : decode cX0_performPart 27 = .ok (.ireturn, 1) := by decide +kernel
theorem dX0_performPart_28 : decode cX0_performPart 28 = .ok (.aload_n 0, 1) := by decide +kernel
theorem dX0_performPart_29 : decode cX0_performPart 29 = .ok (.aload_n 0, 1) := by decide +kernel
theorem dX0_performPart_30 : decode cX0_performPart 30 = .ok (.getfield 19, 3) := by decide +kernel
theorem dX0_performPart_33 : decode cX0_performPart 33 = .ok (.iload_n 2, 1) := by decide +kernel
theorem dX0_performPart_34 : decode cX0_performPart 34 = .ok (.iaload, 1) := by decide +kernel
theorem dX0_performPart_35 : decode cX0_performPart 35 = .ok (.invokevirtual 79, 3) := by decide +kernel
theorem dX0_performPart_38 : decode cX0_performPart 38 = .ok (.istore_n 3, 1) := by decide +kernel
theorem dX0_performPart_39 : decode cX0_performPart 39 = .ok (.aload_n 0, 1) := by decide +kernel
theorem dX0_performPart_40 : decode cX0_performPart 40 = .ok (.getfield 15, 3) := by decide +kernel
theorem dX0_performPart_43 : decode cX0_performPart 43 = .ok (.iload_n 2, 1) := by decide +kernel
theorem dX0_performPart_44 : decode cX0_performPart 44 = .ok (.iaload, 1) := by decide +kernel
theorem dX0_performPart_45 : decode cX0_performPart 45 = .ok (.iconst 1, 1) := by decide +kernel
theorem dX0_performPart_46 : decode cX0_performPart 46 = .ok (.if_icmp .ne 9, 3) := by decide +kernel
theorem dX0_performPart_49 : decode cX0_performPart 49 = .ok (.aload_n 1, 1) := by decide +kernel
theorem dX0_performPart_50 : decode cX0_performPart 50 = .ok (.iload_n 3, 1) := by decide +kernel
theorem dX0_performPart_51 : decode cX0_performPart 51 = .ok (.invokevirtual 95, 3) := by decide +kernel
theorem dX0_performPart_54 : decode cX0_performPart 54 = .ok (.ireturn, 1) := by decide +kernel
theorem dX0_performPart_55 : decode cX0_performPart 55 = .ok (.aload_n 1, 1) := by decide +kernel
theorem dX0_performPart_56 : decode cX0_performPart 56 = .ok (.iload_n 3, 1) := by decide +kernel
theorem dX0_performPart_57 : decode cX0_performPart 57 = .ok (.aload_n 0, 1) := by decide +kernel
theorem dX0_performPart_58 : decode cX0_performPart 58 = .ok (.getfield 22, 3) := by decide +kernel
theorem dX0_performPart_61 : decode cX0_performPart 61 = .ok (.iload_n 2, 1) := by decide +kernel
theorem dX0_performPart_62 : decode cX0_performPart 62 = .ok (.iaload, 1) := by decide +kernel
theorem dX0_performPart_63 : decode cX0_performPart 63 = .ok (.aload_n 0, 1) := by decide +kernel
theorem dX0_performPart_64 : decode cX0_performPart 64 = .ok (.getfield 25, 3) := by decide +kernel
theorem dX0_performPart_67 : decode cX0_performPart 67 = .ok (.iload_n 2, 1) := by decide +kernel
theorem dX0_performPart_68 : decode cX0_performPart 68 = .ok (.iaload, 1) := by decide +kernel
theorem dX0_performPart_69 : decode cX0_performPart 69 = .ok (.invokevirtual 98, 3) := by decide +kernel
theorem dX0_performPart_72 : decode cX0_performPart 72 = .ok (.ireturn, 1) := by decide +kernel
