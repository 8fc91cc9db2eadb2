theorem dX0_init_0 : decode cX0_init 0 = .ok (.aload_n 0, 1) := by decide +kernel
theorem dX0_init_1 : decode cX0_init 1 = .ok (.invokespecial 3, 3) := by decide +kernel
theorem dX0_init_4 : decode cX0_init 4 = .ok (.aload_n 0, 1) := by decide +kernel
theorem dX0_init_5 : decode cX0_init 5 = .ok (.bipush 100, 2) := by decide +kernel
theorem dX0_init_7 : decode cX0_init 7 = .ok (.newarray .int, 2) := by decide +kernel
theorem dX0_init_9 : decode cX0_init 9 = .ok (.putfield 9, 3) := by decide +kernel
theorem dX0_init_12 : decode cX0_init 12 = .ok (.aload_n 0, 1) := by decide +kernel
theorem dX0_init_13 : decode cX0_init 13 = .ok (.bipush 100, 2) := by decide +kernel
theorem dX0_init_15 : decode cX0_init 15 = .ok (.newarray .int, 2) := by decide +kernel
theorem dX0_init_17 : decode cX0_init 17 = .ok (.putfield 15, 3) := by decide +kernel
theorem dX0_init_20 : decode cX0_init 20 = .ok (.aload_n 0, 1) := by decide +kernel
theorem dX0_init_21 : decode cX0_init 21 = .ok (.bipush 100, 2) := by decide +kernel
theorem dX0_init_23 : decode cX0_init 23 = .ok (.newarray .int, 2) := by decide +kernel
theorem dX0_init_25 : decode cX0_init 25 = .ok (.putfield 18, 3) := by decide +kernel
theorem dX0_init_28 : decode cX0_init 28 = .ok (.return_, 1) := by decide +kernel
theorem dX0_clear_0 : decode cX0_clear 0 = .ok (.aload_n 0, 1) := by decide +kernel
theorem dX0_clear_1 : decode cX0_clear 1 = .ok (.iconst 0, 1) := by decide +kernel
theorem dX0_clear_2 : decode cX0_clear 2 = .ok (.putfield 21, 3) := by decide +kernel
theorem dX0_clear_5 : decode cX0_clear 5 = .ok (.aload_n 0, 1) := by decide +kernel
theorem dX0_clear_6 : decode cX0_clear 6 = .ok (.iconst 0, 1) := by decide +kernel
theorem dX0_clear_7 : decode cX0_clear 7 = .ok (.putfield 25, 3) := by decide +kernel
theorem dX0_clear_10 : decode cX0_clear 10 = .ok (.return_, 1) := by decide +kernel
theorem dX0_open_0 : decode cX0_open 0 = .ok (.aload_n 0, 1) := by decide +kernel
theorem dX0_open_1 : decode cX0_open 1 = .ok (.getfield 9, 3) := by decide +kernel
theorem dX0_open_4 : decode cX0_open 4 = .ok (.aload_n 0, 1) := by decide +kernel
theorem dX0_open_5 : decode cX0_open 5 = .ok (.getfield 21, 3) := by decide +kernel
theorem dX0_open_8 : decode cX0_open 8 = .ok (.iload_n 1, 1) := by decide +kernel
theorem dX0_open_9 : decode cX0_open 9 = .ok (.iastore, 1) := by decide +kernel
theorem dX0_open_10 : decode cX0_open 10 = .ok (.aload_n 0, 1) := by decide +kernel
theorem dX0_open_11 : decode cX0_open 11 = .ok (.getfield 15, 3) := by decide +kernel
theorem dX0_open_14 : decode cX0_open 14 = .ok (.aload_n 0, 1) := by decide +kernel
theorem dX0_open_15 : decode cX0_open 15 = .ok (.getfield 21, 3) := by decide +kernel
theorem dX0_open_18 : decode cX0_open 18 = .ok (.iload_n 2, 1) := by decide +kernel
theorem dX0_open_19 : decode cX0_open 19 = .ok (.iastore, 1) := by decide +kernel
theorem dX0_open_20 : decode cX0_open 20 = .ok (.aload_n 0, 1) := by decide +kernel
theorem dX0_open_21 : decode cX0_open 21 = .ok (.getfield 18, 3) := by decide +kernel
theorem dX0_open_24 : decode cX0_open 24 = .ok (.aload_n 0, 1) := by decide +kernel
theorem dX0_open_25 : decode cX0_open 25 = .ok (.getfield 21, 3) := by decide +kernel
theorem dX0_open_28 : decode cX0_open 28 = .ok (.iload_n 3, 1) := by decide +kernel
theorem dX0_open_29 : decode cX0_open 29 = .ok (.iastore, 1) := by decide +kernel
theorem dX0_open_30 : decode cX0_open 30 = .ok (.aload_n 0, 1) := by decide +kernel
theorem dX0_open_31 : decode cX0_open 31 = .ok (.aload_n 0, 1) := by decide +kernel
theorem dX0_open_32 : decode cX0_open 32 = .ok (.getfield 21, 3) := by decide +kernel
theorem dX0_open_35 : decode cX0_open 35 = .ok (.iconst 1, 1) := by decide +kernel
theorem dX0_open_36 : decode cX0_open 36 = .ok (.iadd, 1) := by decide +kernel
theorem dX0_open_37 : decode cX0_open 37 = .ok (.bipush 100, 2) := by decide +kernel
theorem dX0_open_39 : decode cX0_open 39 = .ok (.if_icmp .ge 12, 3) := by decide +kernel
theorem dX0_open_42 : decode cX0_open 42 = .ok (.aload_n 0, 1) := by decide +kernel
theorem dX0_open_43 : decode cX0_open 43 = .ok (.getfield 21, 3) := by decide +kernel
theorem dX0_open_46 : decode cX0_open 46 = .ok (.iconst 1, 1) := by decide +kernel
theorem dX0_open_47 : decode cX0_open 47 = .ok (.iadd, 1) := by decide +kernel
theorem dX0_open_48 : decode cX0_open 48 = .ok (.goto 4, 3) := by decide +kernel
theorem dX0_open_51 : decode cX0_open 51 = .ok (.iconst 0, 1) := by decide +kernel
theorem dX0_open_52 : decode cX0_open 52 = .ok (.putfield 21, 3) := by decide +kernel
theorem dX0_open_55 : decode cX0_open 55 = .ok (.aload_n 0, 1) := by decide +kernel
theorem dX0_open_56 : decode cX0_open 56 = .ok (.aload_n 0, 1) := by decide +kernel
theorem dX0_open_57 : decode cX0_open 57 = .ok (.getfield 25, 3) := by decide +kernel
theorem dX0_open_60 : decode cX0_open 60 = .ok (.iconst 1, 1) := by decide +kernel
theorem dX0_open_61 : decode cX0_open 61 = .ok (.iadd, 1) := by decide +kernel
theorem dX0_open_62 : decode cX0_open 62 = .ok (.bipush 100, 2) := by decide +kernel
theorem dX0_open_64 : decode cX0_open 64 = .ok (.invokestatic 28, 3) := by decide +kernel
theorem dX0_open_67 : decode cX0_open 67 = .ok (.putfield 25, 3) := by decide +kernel
theorem dX0_open_70 : decode cX0_open 70 = .ok (.return_, 1) := by decide +kernel
theorem dX0_latestSlot_0 : decode cX0_latestSlot 0 = .ok (.aload_n 0, 1) := by decide +kernel
theorem dX0_latestSlot_1 : decode cX0_latestSlot 1 = .ok (.getfield 21, 3) := by decide +kernel
theorem dX0_latestSlot_4 : decode cX0_latestSlot 4 = .ok (.ifCond .le 12, 3) := by decide +kernel
theorem dX0_latestSlot_7 : decode cX0_latestSlot 7 = .ok (.aload_n 0, 1) := by decide +kernel
theorem dX0_latestSlot_8 : decode cX0_latestSlot 8 = .ok (.getfield 21, 3) := by decide +kernel
theorem dX0_latestSlot_11 : decode cX0_latestSlot 11 = .ok (.iconst 1, 1) := by decide +kernel
theorem dX0_latestSlot_12 : decode cX0_latestSlot 12 = .ok (.isub, 1) := by decide +kernel
theorem dX0_latestSlot_13 : decode cX0_latestSlot 13 = .ok (.goto 5, 3) := by decide +kernel
theorem dX0_latestSlot_16 : decode cX0_latestSlot 16 = .ok (.bipush 99, 2) := by decide +kernel
theorem dX0_latestSlot_18 : decode cX0_latestSlot 18 = .ok (.ireturn, 1) := by decide +kernel
set_option maxRecDepth 20000 in
theorem ggX0_latestKind_X0_latestSlot : GoodIn wsX0_latestKind wsX0_latestSlot := goodIn_r _ [7, 8, 9, 10, 11, 12, 13] (by decide +kernel) (by decide +kernel)
set_option maxRecDepth 20000 in
theorem gX0_latestKind_X0_latestSlot : GoodIn wsX0_latestKind (wsV RX0 34 RX0 yX0_latestSlot wsX0_latestSlot) := goodIn_app (goodIn_of _ (by decide +kernel)) ggX0_latestKind_X0_latestSlot
theorem dX0_latestKind_0 : decode cX0_latestKind 0 = .ok (.aload_n 0, 1) := by decide +kernel
theorem dX0_latestKind_1 : decode cX0_latestKind 1 = .ok (.getfield 25, 3) := by decide +kernel
theorem dX0_latestKind_4 : decode cX0_latestKind 4 = .ok (.ifCond .le 15, 3) := by decide +kernel
theorem dX0_latestKind_7 : decode cX0_latestKind 7 = .ok (.aload_n 0, 1) := by decide +kernel
theorem dX0_latestKind_8 : decode cX0_latestKind 8 = .ok (.getfield 9, 3) := by decide +kernel
theorem dX0_latestKind_11 : decode cX0_latestKind 11 = .ok (.aload_n 0, 1) := by decide +kernel
theorem dX0_latestKind_12 : decode cX0_latestKind 12 = .ok (.invokevirtual 34, 3) := by decide +kernel
theorem dX0_latestKind_15 : decode cX0_latestKind 15 = .ok (.iaload, 1) := by decide +kernel
theorem dX0_latestKind_16 : decode cX0_latestKind 16 = .ok (.goto 4, 3) := by decide +kernel
theorem dX0_latestKind_19 : decode cX0_latestKind 19 = .ok (.iconst (-1), 1) := by decide +kernel
theorem dX0_latestKind_20 : decode cX0_latestKind 20 = .ok (.ireturn, 1) := by decide +kernel
set_option maxRecDepth 20000 in
theorem ggX0_latestItem_X0_latestSlot : GoodIn wsX0_latestItem wsX0_latestSlot := goodIn_r _ [6, 7, 8, 9, 10, 11, 12] (by decide +kernel) (by decide +kernel)
set_option maxRecDepth 20000 in
theorem gX0_latestItem_X0_latestSlot : GoodIn wsX0_latestItem (wsV RX0 34 RX0 yX0_latestSlot wsX0_latestSlot) := goodIn_app (goodIn_of _ (by decide +kernel)) ggX0_latestItem_X0_latestSlot
theorem dX0_latestItem_0 : decode cX0_latestItem 0 = .ok (.aload_n 0, 1) := by decide +kernel
theorem dX0_latestItem_1 : decode cX0_latestItem 1 = .ok (.getfield 15, 3) := by decide +kernel
theorem dX0_latestItem_4 : decode cX0_latestItem 4 = .ok (.aload_n 0, 1) := by decide +kernel
theorem dX0_latestItem_5 : decode cX0_latestItem 5 = .ok (.invokevirtual 34, 3) := by decide +kernel
theorem dX0_latestItem_8 : decode cX0_latestItem 8 = .ok (.iaload, 1) := by decide +kernel
theorem dX0_latestItem_9 : decode cX0_latestItem 9 = .ok (.ireturn, 1) := by decide +kernel
set_option maxRecDepth 20000 in
theorem ggX0_latestMark_X0_latestSlot : GoodIn wsX0_latestMark wsX0_latestSlot := goodIn_r _ [6, 7, 8, 9, 10, 11, 12] (by decide +kernel) (by decide +kernel)
set_option maxRecDepth 20000 in
theorem gX0_latestMark_X0_latestSlot : GoodIn wsX0_latestMark (wsV RX0 34 RX0 yX0_latestSlot wsX0_latestSlot) := goodIn_app (goodIn_of _ (by decide +kernel)) ggX0_latestMark_X0_latestSlot
theorem dX0_latestMark_0 : decode cX0_latestMark 0 = .ok (.aload_n 0, 1) := by decide +kernel
theorem dX0_latestMark_1 : decode cX0_latestMark 1 = .ok (.getfield 18, 3) := by decide +kernel
theorem dX0_latestMark_4 : decode cX0_latestMark 4 = .ok (.aload_n 0, 1) := by decide +kernel
theorem dX0_latestMark_5 : decode cX0_latestMark 5 = .ok (.invokevirtual 34, 3) := by decide +kernel
theorem dX0_latestMark_8 : decode cX0_latestMark 8 = .ok (.iaload, 1) := by decide +kernel
theorem dX0_latestMark_9 : decode cX0_latestMark 9 = .ok (.ireturn, 1) := by decide +kernel
set_option maxRecDepth 20000 in
theorem ggX0_close_X0_latestSlot : GoodIn wsX0_close wsX0_latestSlot := goodIn_r _ [7, 2, 8, 9, 10, 11, 12] (by decide +kernel) (by decide +kernel)
set_option maxRecDepth 20000 in
theorem gX0_close_X0_latestSlot : GoodIn wsX0_close (wsV RX0 34 RX0 yX0_latestSlot wsX0_latestSlot) := goodIn_app (goodIn_of _ (by decide +kernel)) ggX0_close_X0_latestSlot
theorem dX0_close_0 : decode cX0_close 0 = .ok (.aload_n 0, 1) := by decide +kernel
theorem dX0_close_1 : decode cX0_close 1 = .ok (.getfield 25, 3) := by decide +kernel
theorem dX0_close_4 : decode cX0_close 4 = .ok (.ifCond .le 21, 3) := by decide +kernel
theorem dX0_close_7 : decode cX0_close 7 = .ok (.aload_n 0, 1) := by decide +kernel
theorem dX0_close_8 : decode cX0_close 8 = .ok (.aload_n 0, 1) := by decide +kernel
theorem dX0_close_9 : decode cX0_close 9 = .ok (.invokevirtual 34, 3) := by decide +kernel
theorem dX0_close_12 : decode cX0_close 12 = .ok (.putfield 21, 3) := by decide +kernel
theorem dX0_close_15 : decode cX0_close 15 = .ok (.aload_n 0, 1) := by decide +kernel
theorem dX0_close_16 : decode cX0_close 16 = .ok (.dup, 1) := by decide +kernel
theorem dX0_close_17 : decode cX0_close 17 = .ok (.getfield 25, 3) := by decide +kernel
theorem dX0_close_20 : decode cX0_close 20 = .ok (.iconst 1, 1) := by decide +kernel
theorem dX0_close_21 : decode cX0_close 21 = .ok (.isub, 1) := by decide +kernel
theorem dX0_close_22 : decode cX0_close 22 = .ok (.putfield 25, 3) := by decide +kernel
theorem dX0_close_25 : decode cX0_close 25 = .ok (.return_, 1) := by decide +kernel
set_option maxRecDepth 20000 in
theorem ggX1_writeLabel_X5_numberOf : GoodIn wsX1_writeLabel wsX5_numberOf := goodIn_r _ [4] (by decide +kernel) (by decide +kernel)
set_option maxRecDepth 20000 in
theorem gX1_writeLabel_X5_numberOf : GoodIn wsX1_writeLabel (va_wsS RX1 9 yX5_numberOf wsX5_numberOf) := goodIn_app (goodIn_of _ (by decide +kernel)) ggX1_writeLabel_X5_numberOf
set_option maxRecDepth 20000 in
theorem ggX1_writeLabel_X1_writeRoman : GoodIn wsX1_writeLabel wsX1_writeRoman := goodIn_r _ [8, 9, 10, 11, 12, 13, 14, 15, 16, 17, 18, 32, 33] (by decide +kernel) (by decide +kernel)
set_option maxRecDepth 20000 in
theorem gX1_writeLabel_X1_writeRoman : GoodIn wsX1_writeLabel (va_wsS RX1 15 yX1_writeRoman wsX1_writeRoman) := goodIn_app (goodIn_of _ (by decide +kernel)) ggX1_writeLabel_X1_writeRoman
set_option maxRecDepth 20000 in
theorem ggX1_writeLabel_X1_writeLetters : GoodIn wsX1_writeLabel wsX1_writeLetters := goodIn_r _ [21, 12, 13, 14, 15, 16, 17, 18, 32, 33] (by decide +kernel) (by decide +kernel)
set_option maxRecDepth 20000 in
theorem gX1_writeLabel_X1_writeLetters : GoodIn wsX1_writeLabel (va_wsS RX1 21 yX1_writeLetters wsX1_writeLetters) := goodIn_app (goodIn_of _ (by decide +kernel)) ggX1_writeLabel_X1_writeLetters
set_option maxRecDepth 20000 in
theorem ggX1_writeLabel_X1_writeDigits : GoodIn wsX1_writeLabel wsX1_writeDigits := goodIn_r _ [24, 12, 13, 14, 15, 16, 17, 18, 32, 33] (by decide +kernel) (by decide +kernel)
set_option maxRecDepth 20000 in
theorem gX1_writeLabel_X1_writeDigits : GoodIn wsX1_writeLabel (va_wsS RX1 25 yX1_writeDigits wsX1_writeDigits) := goodIn_app (goodIn_of _ (by decide +kernel)) ggX1_writeLabel_X1_writeDigits
set_option maxRecDepth 20000 in
theorem ggX1_writeLabel_X5_lettersIn : GoodIn wsX1_writeLabel wsX5_lettersIn := goodIn_r _ [27, 28, 29, 3, 30] (by decide +kernel) (by decide +kernel)
set_option maxRecDepth 20000 in
theorem gX1_writeLabel_X5_lettersIn : GoodIn wsX1_writeLabel (va_wsS RX1 28 yX5_lettersIn wsX5_lettersIn) := goodIn_app (goodIn_of _ (by decide +kernel)) ggX1_writeLabel_X5_lettersIn
set_option maxRecDepth 20000 in
theorem ggX1_writeLabel_X8_put : GoodIn wsX1_writeLabel wsX8_put := goodIn_r _ [16, 17, 18, 32, 33] (by decide +kernel) (by decide +kernel)
set_option maxRecDepth 20000 in
theorem gX1_writeLabel_X8_put : GoodIn wsX1_writeLabel (wsV RX1 31 RX8 yX8_put wsX8_put) := goodIn_app (goodIn_of _ (by decide +kernel)) ggX1_writeLabel_X8_put
set_option maxRecDepth 20000 in
theorem ggX1_writeLabel_X5_letterOf : GoodIn wsX1_writeLabel wsX5_letterOf := goodIn_r _ [30] (by decide +kernel) (by decide +kernel)
set_option maxRecDepth 20000 in
theorem gX1_writeLabel_X5_letterOf : GoodIn wsX1_writeLabel (va_wsS RX1 37 yX5_letterOf wsX5_letterOf) := goodIn_app (goodIn_of _ (by decide +kernel)) ggX1_writeLabel_X5_letterOf
theorem dX1_writeLabel_0 : decode cX1_writeLabel 0 = .ok (.iload_n 2, 1) := by decide +kernel
theorem dX1_writeLabel_1 : decode cX1_writeLabel 1 = .ok (.invokestatic 9, 3) := by decide +kernel
theorem dX1_writeLabel_4 : decode cX1_writeLabel 4 = .ok (.istore_n 3, 1) := by decide +kernel
theorem dX1_writeLabel_5 : decode cX1_writeLabel 5 = .ok (.iload_n 1, 1) := by decide +kernel
theorem dX1_writeLabel_6 : decode cX1_writeLabel 6 = .ok (.tableswitch 53 1 3 #[26, 35, 43], 26) := by decide +kernel
theorem dX1_writeLabel_32 : decode cX1_writeLabel 32 = .ok (.aload_n 0, 1) := by decide +kernel
theorem dX1_writeLabel_33 : decode cX1_writeLabel 33 = .ok (.iload_n 3, 1) := by decide +kernel
theorem dX1_writeLabel_34 : decode cX1_writeLabel 34 = .ok (.iconst 0, 1) := by decide +kernel
theorem dX1_writeLabel_35 : decode cX1_writeLabel 35 = .ok (.invokestatic 15, 3) := by decide +kernel
theorem dX1_writeLabel_38 : decode cX1_writeLabel 38 = .ok (.goto 26, 3) := by decide +kernel
theorem dX1_writeLabel_41 : decode cX1_writeLabel 41 = .ok (.aload_n 0, 1) := by decide +kernel
theorem dX1_writeLabel_42 : decode cX1_writeLabel 42 = .ok (.iload_n 3, 1) := by decide +kernel
theorem dX1_writeLabel_43 : decode cX1_writeLabel 43 = .ok (.invokestatic 21, 3) := by decide +kernel
theorem dX1_writeLabel_46 : decode cX1_writeLabel 46 = .ok (.goto 18, 3) := by decide +kernel
theorem dX1_writeLabel_49 : decode cX1_writeLabel 49 = .ok (.aload_n 0, 1) := by decide +kernel
theorem dX1_writeLabel_50 : decode cX1_writeLabel 50 = .ok (.iload_n 3, 1) := by decide +kernel
theorem dX1_writeLabel_51 : decode cX1_writeLabel 51 = .ok (.bipush 32, 2) := by decide +kernel
theorem dX1_writeLabel_53 : decode cX1_writeLabel 53 = .ok (.invokestatic 15, 3) := by decide +kernel
theorem dX1_writeLabel_56 : decode cX1_writeLabel 56 = .ok (.goto 8, 3) := by decide +kernel
theorem dX1_writeLabel_59 : decode cX1_writeLabel 59 = .ok (.aload_n 0, 1) := by decide +kernel
theorem dX1_writeLabel_60 : decode cX1_writeLabel 60 = .ok (.iload_n 3, 1) := by decide +kernel
theorem dX1_writeLabel_61 : decode cX1_writeLabel 61 = .ok (.invokestatic 25, 3) := by decide +kernel
theorem dX1_writeLabel_64 : decode cX1_writeLabel 64 = .ok (.iload_n 2, 1) := by decide +kernel
theorem dX1_writeLabel_65 : decode cX1_writeLabel 65 = .ok (.invokestatic 28, 3) := by decide +kernel
theorem dX1_writeLabel_68 : decode cX1_writeLabel 68 = .ok (.istore 4, 2) := by decide +kernel
theorem dX1_writeLabel_70 : decode cX1_writeLabel 70 = .ok (.iload 4, 2) := by decide +kernel
theorem dX1_writeLabel_72 : decode cX1_writeLabel 72 = .ok (.ifCond .le 13, 3) := by decide +kernel
theorem dX1_writeLabel_75 : decode cX1_writeLabel 75 = .ok (.iload_n 1, 1) := by decide +kernel
theorem dX1_writeLabel_76 : decode cX1_writeLabel 76 = .ok (.ifCond .eq 9, 3) := by decide +kernel
theorem dX1_writeLabel_79 : decode cX1_writeLabel 79 = .ok (.aload_n 0, 1) := by decide +kernel
theorem dX1_writeLabel_80 : decode cX1_writeLabel 80 = .ok (.bipush 45, 2) := by decide +kernel
theorem dX1_writeLabel_82 : decode cX1_writeLabel 82 = .ok (.invokevirtual 31, 3) := by decide +kernel
theorem dX1_writeLabel_85 : decode cX1_writeLabel 85 = .ok (.iconst 0, 1) := by decide +kernel
theorem dX1_writeLabel_86 : decode cX1_writeLabel 86 = .ok (.istore 5, 2) := by decide +kernel
theorem dX1_writeLabel_88 : decode cX1_writeLabel 88 = .ok (.iload 5, 2) := by decide +kernel
theorem dX1_writeLabel_90 : decode cX1_writeLabel 90 = .ok (.iload 4, 2) := by decide +kernel
theorem dX1_writeLabel_92 : decode cX1_writeLabel 92 = .ok (.if_icmp .ge 22, 3) := by decide +kernel
theorem dX1_writeLabel_95 : decode cX1_writeLabel 95 = .ok (.aload_n 0, 1) := by decide +kernel
theorem dX1_writeLabel_96 : decode cX1_writeLabel 96 = .ok (.bipush 64, 2) := by decide +kernel
theorem dX1_writeLabel_98 : decode cX1_writeLabel 98 = .ok (.iload_n 2, 1) := by decide +kernel
theorem dX1_writeLabel_99 : decode cX1_writeLabel 99 = .ok (.iload 5, 2) := by decide +kernel
theorem dX1_writeLabel_101 : decode cX1_writeLabel 101 = .ok (.invokestatic 37, 3) := by decide +kernel
theorem dX1_writeLabel_104 : decode cX1_writeLabel 104 = .ok (.iadd, 1) := by decide +kernel
theorem dX1_writeLabel_105 : decode cX1_writeLabel 105 = .ok (.invokevirtual 31, 3) := by decide +kernel
theorem dX1_writeLabel_108 : decode cX1_writeLabel 108 = .ok (.iinc 5 1, 3) := by decide +kernel
theorem dX1_writeLabel_111 : decode cX1_writeLabel 111 = .ok (.goto (-23), 3) := by decide +kernel
theorem dX1_writeLabel_114 : decode cX1_writeLabel 114 = .ok (.return_, 1) := by decide +kernel
set_option maxRecDepth 20000 in
theorem ggX1_writeDigits_X8_put : GoodIn wsX1_writeDigits wsX8_put := goodIn_r _ [5, 6, 7, 8, 9] (by decide +kernel) (by decide +kernel)
set_option maxRecDepth 20000 in
theorem gX1_writeDigits_X8_put : GoodIn wsX1_writeDigits (wsV RX1 31 RX8 yX8_put wsX8_put) := goodIn_app (goodIn_of _ (by decide +kernel)) ggX1_writeDigits_X8_put
theorem dX1_writeDigits_0 : decode cX1_writeDigits 0 = .ok (.iload_n 1, 1) := by decide +kernel
theorem dX1_writeDigits_1 : decode cX1_writeDigits 1 = .ok (.bipush 100, 2) := by decide +kernel
theorem dX1_writeDigits_3 : decode cX1_writeDigits 3 = .ok (.if_icmp .lt 14, 3) := by decide +kernel
theorem dX1_writeDigits_6 : decode cX1_writeDigits 6 = .ok (.aload_n 0, 1) := by decide +kernel
theorem dX1_writeDigits_7 : decode cX1_writeDigits 7 = .ok (.bipush 48, 2) := by decide +kernel
theorem dX1_writeDigits_9 : decode cX1_writeDigits 9 = .ok (.iload_n 1, 1) := by decide +kernel
theorem dX1_writeDigits_10 : decode cX1_writeDigits 10 = .ok (.bipush 100, 2) := by decide +kernel
theorem dX1_writeDigits_12 : decode cX1_writeDigits 12 = .ok (.idiv, 1) := by decide +kernel
theorem dX1_writeDigits_13 : decode cX1_writeDigits 13 = .ok (.iadd, 1) := by decide +kernel
theorem dX1_writeDigits_14 : decode cX1_writeDigits 14 = .ok (.invokevirtual 31, 3) := by decide +kernel
theorem dX1_writeDigits_17 : decode cX1_writeDigits 17 = .ok (.iload_n 1, 1) := by decide +kernel
theorem dX1_writeDigits_18 : decode cX1_writeDigits 18 = .ok (.bipush 10, 2) := by decide +kernel
theorem dX1_writeDigits_20 : decode cX1_writeDigits 20 = .ok (.if_icmp .lt 17, 3) := by decide +kernel
theorem dX1_writeDigits_23 : decode cX1_writeDigits 23 = .ok (.aload_n 0, 1) := by decide +kernel
theorem dX1_writeDigits_24 : decode cX1_writeDigits 24 = .ok (.bipush 48, 2) := by decide +kernel
theorem dX1_writeDigits_26 : decode cX1_writeDigits 26 = .ok (.iload_n 1, 1) := by decide +kernel
theorem dX1_writeDigits_27 : decode cX1_writeDigits 27 = .ok (.bipush 10, 2) := by decide +kernel
theorem dX1_writeDigits_29 : decode cX1_writeDigits 29 = .ok (.idiv, 1) := by decide +kernel
theorem dX1_writeDigits_30 : decode cX1_writeDigits 30 = .ok (.bipush 10, 2) := by decide +kernel
theorem dX1_writeDigits_32 : decode cX1_writeDigits 32 = .ok (.irem, 1) := by decide +kernel
theorem dX1_writeDigits_33 : decode cX1_writeDigits 33 = .ok (.iadd, 1) := by decide +kernel
theorem dX1_writeDigits_34 : decode cX1_writeDigits 34 = .ok (.invokevirtual 31, 3) := by decide +kernel
theorem dX1_writeDigits_37 : decode cX1_writeDigits 37 = .ok (.aload_n 0, 1) := by decide +kernel
theorem dX1_writeDigits_38 : decode cX1_writeDigits 38 = .ok (.bipush 48, 2) := by decide +kernel
theorem dX1_writeDigits_40 : decode cX1_writeDigits 40 = .ok (.iload_n 1, 1) := by decide +kernel
theorem dX1_writeDigits_41 : decode cX1_writeDigits 41 = .ok (.bipush 10, 2) := by decide +kernel
theorem dX1_writeDigits_43 : decode cX1_writeDigits 43 = .ok (.irem, 1) := by decide +kernel
theorem dX1_writeDigits_44 : decode cX1_writeDigits 44 = .ok (.iadd, 1) := by decide +kernel
theorem dX1_writeDigits_45 : decode cX1_writeDigits 45 = .ok (.invokevirtual 31, 3) := by decide +kernel
theorem dX1_writeDigits_48 : decode cX1_writeDigits 48 = .ok (.return_, 1) := by decide +kernel
set_option maxRecDepth 20000 in
theorem ggX1_writeRoman_X8_put : GoodIn wsX1_writeRoman wsX8_put := goodIn_r _ [8, 9, 10, 11, 12] (by decide +kernel) (by decide +kernel)
set_option maxRecDepth 20000 in
theorem gX1_writeRoman_X8_put : GoodIn wsX1_writeRoman (wsV RX1 31 RX8 yX8_put wsX8_put) := goodIn_app (goodIn_of _ (by decide +kernel)) ggX1_writeRoman_X8_put
theorem dX1_writeRoman_0 : decode cX1_writeRoman 0 = .ok (.iload_n 1, 1) := by decide +kernel
theorem dX1_writeRoman_1 : decode cX1_writeRoman 1 = .ok (.istore_n 3, 1) := by decide +kernel
theorem dX1_writeRoman_2 : decode cX1_writeRoman 2 = .ok (.iconst 0, 1) := by decide +kernel
theorem dX1_writeRoman_3 : decode cX1_writeRoman 3 = .ok (.istore 4, 2) := by decide +kernel
theorem dX1_writeRoman_5 : decode cX1_writeRoman 5 = .ok (.iload 4, 2) := by decide +kernel
theorem dX1_writeRoman_7 : decode cX1_writeRoman 7 = .ok (.getstatic 41, 3) := by decide +kernel
theorem dX1_writeRoman_10 : decode cX1_writeRoman 10 = .ok (.arraylength, 1) := by decide +kernel
theorem dX1_writeRoman_11 : decode cX1_writeRoman 11 = .ok (.if_icmp .ge 64, 3) := by decide +kernel
theorem dX1_writeRoman_14 : decode cX1_writeRoman 14 = .ok (.iload_n 3, 1) := by decide +kernel
theorem dX1_writeRoman_15 : decode cX1_writeRoman 15 = .ok (.getstatic 41, 3) := by decide +kernel
theorem dX1_writeRoman_18 : decode cX1_writeRoman 18 = .ok (.iload 4, 2) := by decide +kernel
theorem dX1_writeRoman_20 : decode cX1_writeRoman 20 = .ok (.iaload, 1) := by decide +kernel
theorem dX1_writeRoman_21 : decode cX1_writeRoman 21 = .ok (.if_icmp .lt 48, 3) := by decide +kernel
theorem dX1_writeRoman_24 : decode cX1_writeRoman 24 = .ok (.iload_n 3, 1) := by decide +kernel
theorem dX1_writeRoman_25 : decode cX1_writeRoman 25 = .ok (.getstatic 41, 3) := by decide +kernel
theorem dX1_writeRoman_28 : decode cX1_writeRoman 28 = .ok (.iload 4, 2) := by decide +kernel
theorem dX1_writeRoman_30 : decode cX1_writeRoman 30 = .ok (.iaload, 1) := by decide +kernel
theorem dX1_writeRoman_31 : decode cX1_writeRoman 31 = .ok (.isub, 1) := by decide +kernel
theorem dX1_writeRoman_32 : decode cX1_writeRoman 32 = .ok (.istore_n 3, 1) := by decide +kernel
theorem dX1_writeRoman_33 : decode cX1_writeRoman 33 = .ok (.aload_n 0, 1) := by decide +kernel
theorem dX1_writeRoman_34 : decode cX1_writeRoman 34 = .ok (.getstatic 45, 3) := by decide +kernel
theorem dX1_writeRoman_37 : decode cX1_writeRoman 37 = .ok (.iload 4, 2) := by decide +kernel
theorem dX1_writeRoman_39 : decode cX1_writeRoman 39 = .ok (.caload, 1) := by decide +kernel
theorem dX1_writeRoman_40 : decode cX1_writeRoman 40 = .ok (.iload_n 2, 1) := by decide +kernel
theorem dX1_writeRoman_41 : decode cX1_writeRoman 41 = .ok (.iadd, 1) := by decide +kernel
theorem dX1_writeRoman_42 : decode cX1_writeRoman 42 = .ok (.invokevirtual 31, 3) := by decide +kernel
theorem dX1_writeRoman_45 : decode cX1_writeRoman 45 = .ok (.getstatic 49, 3) := by decide +kernel
theorem dX1_writeRoman_48 : decode cX1_writeRoman 48 = .ok (.iload 4, 2) := by decide +kernel
theorem dX1_writeRoman_50 : decode cX1_writeRoman 50 = .ok (.caload, 1) := by decide +kernel
theorem dX1_writeRoman_51 : decode cX1_writeRoman 51 = .ok (.ifCond .eq (-37), 3) := by decide +kernel
theorem dX1_writeRoman_54 : decode cX1_writeRoman 54 = .ok (.aload_n 0, 1) := by decide +kernel
theorem dX1_writeRoman_55 : decode cX1_writeRoman 55 = .ok (.getstatic 49, 3) := by decide +kernel
theorem dX1_writeRoman_58 : decode cX1_writeRoman 58 = .ok (.iload 4, 2) := by decide +kernel
theorem dX1_writeRoman_60 : decode cX1_writeRoman 60 = .ok (.caload, 1) := by decide +kernel
theorem dX1_writeRoman_61 : decode cX1_writeRoman 61 = .ok (.iload_n 2, 1) := by decide +kernel
theorem dX1_writeRoman_62 : decode cX1_writeRoman 62 = .ok (.iadd, 1) := by decide +kernel
theorem dX1_writeRoman_63 : decode cX1_writeRoman 63 = .ok (.invokevirtual 31, 3) := by decide +kernel
theorem dX1_writeRoman_66 : decode cX1_writeRoman 66 = .ok (.goto (-52), 3) := by decide +kernel
theorem dX1_writeRoman_69 : decode cX1_writeRoman 69 = .ok (.iinc 4 1, 3) := by decide +kernel
theorem dX1_writeRoman_72 : decode cX1_writeRoman 72 = .ok (.goto (-67), 3) := by decide +kernel
theorem dX1_writeRoman_75 : decode cX1_writeRoman 75 = .ok (.return_, 1) := by decide +kernel
set_option maxRecDepth 20000 in
theorem ggX1_writeLetters_X8_put : GoodIn wsX1_writeLetters wsX8_put := goodIn_r _ [5, 6, 7, 8, 9] (by decide +kernel) (by decide +kernel)
set_option maxRecDepth 20000 in
theorem gX1_writeLetters_X8_put : GoodIn wsX1_writeLetters (wsV RX1 31 RX8 yX8_put wsX8_put) := goodIn_app (goodIn_of _ (by decide +kernel)) ggX1_writeLetters_X8_put
theorem dX1_writeLetters_0 : decode cX1_writeLetters 0 = .ok (.iload_n 1, 1) := by decide +kernel
theorem dX1_writeLetters_1 : decode cX1_writeLetters 1 = .ok (.iconst 1, 1) := by decide +kernel
theorem dX1_writeLetters_2 : decode cX1_writeLetters 2 = .ok (.isub, 1) := by decide +kernel
theorem dX1_writeLetters_3 : decode cX1_writeLetters 3 = .ok (.bipush 26, 2) := by decide +kernel
theorem dX1_writeLetters_5 : decode cX1_writeLetters 5 = .ok (.idiv, 1) := by decide +kernel
theorem dX1_writeLetters_6 : decode cX1_writeLetters 6 = .ok (.istore_n 2, 1) := by decide +kernel
theorem dX1_writeLetters_7 : decode cX1_writeLetters 7 = .ok (.iload_n 2, 1) := by decide +kernel
theorem dX1_writeLetters_8 : decode cX1_writeLetters 8 = .ok (.bipush 26, 2) := by decide +kernel
theorem dX1_writeLetters_10 : decode cX1_writeLetters 10 = .ok (.if_icmp .le 16, 3) := by decide +kernel
theorem dX1_writeLetters_13 : decode cX1_writeLetters 13 = .ok (.aload_n 0, 1) := by decide +kernel
theorem dX1_writeLetters_14 : decode cX1_writeLetters 14 = .ok (.bipush 96, 2) := by decide +kernel
theorem dX1_writeLetters_16 : decode cX1_writeLetters 16 = .ok (.iload_n 2, 1) := by decide +kernel
theorem dX1_writeLetters_17 : decode cX1_writeLetters 17 = .ok (.iconst 1, 1) := by decide +kernel
theorem dX1_writeLetters_18 : decode cX1_writeLetters 18 = .ok (.isub, 1) := by decide +kernel
theorem dX1_writeLetters_19 : decode cX1_writeLetters 19 = .ok (.bipush 26, 2) := by decide +kernel
theorem dX1_writeLetters_21 : decode cX1_writeLetters 21 = .ok (.idiv, 1) := by decide +kernel
theorem dX1_writeLetters_22 : decode cX1_writeLetters 22 = .ok (.iadd, 1) := by decide +kernel
theorem dX1_writeLetters_23 : decode cX1_writeLetters 23 = .ok (.invokevirtual 31, 3) := by decide +kernel
theorem dX1_writeLetters_26 : decode cX1_writeLetters 26 = .ok (.iload_n 2, 1) := by decide +kernel
theorem dX1_writeLetters_27 : decode cX1_writeLetters 27 = .ok (.ifCond .le 16, 3) := by decide +kernel
theorem dX1_writeLetters_30 : decode cX1_writeLetters 30 = .ok (.aload_n 0, 1) := by decide +kernel
theorem dX1_writeLetters_31 : decode cX1_writeLetters 31 = .ok (.bipush 97, 2) := by decide +kernel
theorem dX1_writeLetters_33 : decode cX1_writeLetters 33 = .ok (.iload_n 2, 1) := by decide +kernel
theorem dX1_writeLetters_34 : decode cX1_writeLetters 34 = .ok (.iconst 1, 1) := by decide +kernel
theorem dX1_writeLetters_35 : decode cX1_writeLetters 35 = .ok (.isub, 1) := by decide +kernel
theorem dX1_writeLetters_36 : decode cX1_writeLetters 36 = .ok (.bipush 26, 2) := by decide +kernel
theorem dX1_writeLetters_38 : decode cX1_writeLetters 38 = .ok (.irem, 1) := by decide +kernel
theorem dX1_writeLetters_39 : decode cX1_writeLetters 39 = .ok (.iadd, 1) := by decide +kernel
theorem dX1_writeLetters_40 : decode cX1_writeLetters 40 = .ok (.invokevirtual 31, 3) := by decide +kernel
theorem dX1_writeLetters_43 : decode cX1_writeLetters 43 = .ok (.aload_n 0, 1) := by decide +kernel
theorem dX1_writeLetters_44 : decode cX1_writeLetters 44 = .ok (.bipush 97, 2) := by decide +kernel
theorem dX1_writeLetters_46 : decode cX1_writeLetters 46 = .ok (.iload_n 1, 1) := by decide +kernel
theorem dX1_writeLetters_47 : decode cX1_writeLetters 47 = .ok (.iconst 1, 1) := by decide +kernel
theorem dX1_writeLetters_48 : decode cX1_writeLetters 48 = .ok (.isub, 1) := by decide +kernel
theorem dX1_writeLetters_49 : decode cX1_writeLetters 49 = .ok (.bipush 26, 2) := by decide +kernel
theorem dX1_writeLetters_51 : decode cX1_writeLetters 51 = .ok (.irem, 1) := by decide +kernel
theorem dX1_writeLetters_52 : decode cX1_writeLetters 52 = .ok (.iadd, 1) := by decide +kernel
theorem dX1_writeLetters_53 : decode cX1_writeLetters 53 = .ok (.invokevirtual 31, 3) := by decide +kernel
theorem dX1_writeLetters_56 : decode cX1_writeLetters 56 = .ok (.return_, 1) := by decide +kernel
set_option maxRecDepth 20000 in
theorem ggX1_isNumeral_X1_romanWorth : GoodIn wsX1_isNumeral wsX1_romanWorth := goodIn_r _ [4] (by decide +kernel) (by decide +kernel)
set_option maxRecDepth 20000 in
theorem gX1_isNumeral_X1_romanWorth : GoodIn wsX1_isNumeral (va_wsS RX1 52 yX1_romanWorth wsX1_romanWorth) := goodIn_app (goodIn_of _ (by decide +kernel)) ggX1_isNumeral_X1_romanWorth
theorem dX1_isNumeral_0 : decode cX1_isNumeral 0 = .ok (.iload_n 0, 1) := by decide +kernel
theorem dX1_isNumeral_1 : decode cX1_isNumeral 1 = .ok (.tableswitch 74 1 3 #[27, 40, 58], 27) := by decide +kernel
theorem dX1_isNumeral_28 : decode cX1_isNumeral 28 = .ok (.iload_n 1, 1) := by decide +kernel
theorem dX1_isNumeral_29 : decode cX1_isNumeral 29 = .ok (.invokestatic 52, 3) := by decide +kernel
theorem dX1_isNumeral_32 : decode cX1_isNumeral 32 = .ok (.ifCond .le 7, 3) := by decide +kernel
theorem dX1_isNumeral_35 : decode cX1_isNumeral 35 = .ok (.iconst 1, 1) := by decide +kernel
theorem dX1_isNumeral_36 : decode cX1_isNumeral 36 = .ok (.goto 4, 3) := by decide +kernel
theorem dX1_isNumeral_39 : decode cX1_isNumeral 39 = .ok (.iconst 0, 1) := by decide +kernel
theorem dX1_isNumeral_40 : decode cX1_isNumeral 40 = .ok (.ireturn, 1) := by decide +kernel
theorem dX1_isNumeral_41 : decode cX1_isNumeral 41 = .ok (.iload_n 1, 1) := by decide +kernel
theorem dX1_isNumeral_42 : decode cX1_isNumeral 42 = .ok (.bipush 97, 2) := by decide +kernel
theorem dX1_isNumeral_44 : decode cX1_isNumeral 44 = .ok (.if_icmp .lt 13, 3) := by decide +kernel
theorem dX1_isNumeral_47 : decode cX1_isNumeral 47 = .ok (.iload_n 1, 1) := by decide +kernel
theorem dX1_isNumeral_48 : decode cX1_isNumeral 48 = .ok (.bipush 122, 2) := by decide +kernel
theorem dX1_isNumeral_50 : decode cX1_isNumeral 50 = .ok (.if_icmp .gt 7, 3) := by decide +kernel
theorem dX1_isNumeral_53 : decode cX1_isNumeral 53 = .ok (.iconst 1, 1) := by decide +kernel
theorem dX1_isNumeral_54 : decode cX1_isNumeral 54 = .ok (.goto 4, 3) := by decide +kernel
theorem dX1_isNumeral_57 : decode cX1_isNumeral 57 = .ok (.iconst 0, 1) := by decide +kernel
theorem dX1_isNumeral_58 : decode cX1_isNumeral 58 = .ok (.ireturn, 1) := by decide +kernel
theorem dX1_isNumeral_59 : decode cX1_isNumeral 59 = .ok (.iload_n 1, 1) := by decide +kernel
theorem dX1_isNumeral_60 : decode cX1_isNumeral 60 = .ok (.bipush 32, 2) := by decide +kernel
theorem dX1_isNumeral_62 : decode cX1_isNumeral 62 = .ok (.isub, 1) := by decide +kernel
theorem dX1_isNumeral_63 : decode cX1_isNumeral 63 = .ok (.invokestatic 52, 3) := by decide +kernel
theorem dX1_isNumeral_66 : decode cX1_isNumeral 66 = .ok (.ifCond .le 7, 3) := by decide +kernel
theorem dX1_isNumeral_69 : decode cX1_isNumeral 69 = .ok (.iconst 1, 1) := by decide +kernel
theorem dX1_isNumeral_70 : decode cX1_isNumeral 70 = .ok (.goto 4, 3) := by decide +kernel
theorem dX1_isNumeral_73 : decode cX1_isNumeral 73 = .ok (.iconst 0, 1) := by decide +kernel
theorem dX1_isNumeral_74 : decode cX1_isNumeral 74 = .ok (.ireturn, 1) := by decide +kernel
theorem dX1_isNumeral_75 : decode cX1_isNumeral 75 = .ok (.iload_n 1, 1) := by decide +kernel
theorem dX1_isNumeral_76 : decode cX1_isNumeral 76 = .ok (.bipush 48, 2) := by decide +kernel
theorem dX1_isNumeral_78 : decode cX1_isNumeral 78 = .ok (.if_icmp .lt 13, 3) := by decide +kernel
theorem dX1_isNumeral_81 : decode cX1_isNumeral 81 = .ok (.iload_n 1, 1) := by decide +kernel
theorem dX1_isNumeral_82 : decode cX1_isNumeral 82 = .ok (.bipush 57, 2) := by decide +kernel
theorem dX1_isNumeral_84 : decode cX1_isNumeral 84 = .ok (.if_icmp .gt 7, 3) := by decide +kernel
theorem dX1_isNumeral_87 : decode cX1_isNumeral 87 = .ok (.iconst 1, 1) := by decide +kernel
theorem dX1_isNumeral_88 : decode cX1_isNumeral 88 = .ok (.goto 4, 3) := by decide +kernel
theorem dX1_isNumeral_91 : decode cX1_isNumeral 91 = .ok (.iconst 0, 1) := by decide +kernel
theorem dX1_isNumeral_92 : decode cX1_isNumeral 92 = .ok (.ireturn, 1) := by decide +kernel
theorem dX1_romanWorth_0 : decode cX1_romanWorth 0 = .ok (.iload_n 0, 1) := by decide +kernel
theorem dX1_romanWorth_1 : decode cX1_romanWorth 1 = .ok (.tableswitch 124 67 88 #[113, 116, 124, 124, 124, 124, 103, 124, 124, 110, 120, 124, 124, 124, 124, 124, 124, 124, 124, 105, 124, 107], 103) := by decide +kernel
theorem dX1_romanWorth_104 : decode cX1_romanWorth 104 = .ok (.iconst 1, 1) := by decide +kernel
theorem dX1_romanWorth_105 : decode cX1_romanWorth 105 = .ok (.ireturn, 1) := by decide +kernel
theorem dX1_romanWorth_106 : decode cX1_romanWorth 106 = .ok (.iconst 5, 1) := by decide +kernel
theorem dX1_romanWorth_107 : decode cX1_romanWorth 107 = .ok (.ireturn, 1) := by decide +kernel
theorem dX1_romanWorth_108 : decode cX1_romanWorth 108 = .ok (.bipush 10, 2) := by decide +kernel
theorem dX1_romanWorth_110 : decode cX1_romanWorth 110 = .ok (.ireturn, 1) := by decide +kernel
theorem dX1_romanWorth_111 : decode cX1_romanWorth 111 = .ok (.bipush 50, 2) := by decide +kernel
theorem dX1_romanWorth_113 : decode cX1_romanWorth 113 = .ok (.ireturn, 1) := by decide +kernel
theorem dX1_romanWorth_114 : decode cX1_romanWorth 114 = .ok (.bipush 100, 2) := by decide +kernel
theorem dX1_romanWorth_116 : decode cX1_romanWorth 116 = .ok (.ireturn, 1) := by decide +kernel
theorem dX1_romanWorth_117 : decode cX1_romanWorth 117 = .ok (.sipush 500, 3) := by decide +kernel
theorem dX1_romanWorth_120 : decode cX1_romanWorth 120 = .ok (.ireturn, 1) := by decide +kernel
theorem dX1_romanWorth_121 : decode cX1_romanWorth 121 = .ok (.sipush 1000, 3) := by decide +kernel
theorem dX1_romanWorth_124 : decode cX1_romanWorth 124 = .ok (.ireturn, 1) := by decide +kernel
theorem dX1_romanWorth_125 : decode cX1_romanWorth 125 = .ok (.iconst 0, 1) := by decide +kernel
theorem dX1_romanWorth_126 : decode cX1_romanWorth 126 = .ok (.ireturn, 1) := by decide +kernel
set_option maxRecDepth 20000 in
theorem ggX1_numberIn_X1_romanIn : GoodIn wsX1_numberIn wsX1_romanIn := goodIn_r _ [4, 5, 6, 7, 8, 9, 10, 11, 12, 13, 3, 14, 18, 19] (by decide +kernel) (by decide +kernel)
set_option maxRecDepth 20000 in
theorem gX1_numberIn_X1_romanIn : GoodIn wsX1_numberIn (va_wsS RX1 55 yX1_romanIn wsX1_romanIn) := goodIn_app (goodIn_of _ (by decide +kernel)) ggX1_numberIn_X1_romanIn
set_option maxRecDepth 20000 in
theorem ggX1_numberIn_X1_placesIn : GoodIn wsX1_numberIn wsX1_placesIn := goodIn_r _ [17, 5, 6, 7, 8, 9, 10, 11, 18, 19] (by decide +kernel) (by decide +kernel)
set_option maxRecDepth 20000 in
theorem gX1_numberIn_X1_placesIn : GoodIn wsX1_numberIn (va_wsS RX1 59 yX1_placesIn wsX1_placesIn) := goodIn_app (goodIn_of _ (by decide +kernel)) ggX1_numberIn_X1_placesIn
theorem dX1_numberIn_0 : decode cX1_numberIn 0 = .ok (.iload_n 3, 1) := by decide +kernel
theorem dX1_numberIn_1 : decode cX1_numberIn 1 = .ok (.tableswitch 55 1 3 #[27, 35, 46], 27) := by decide +kernel
theorem dX1_numberIn_28 : decode cX1_numberIn 28 = .ok (.aload_n 0, 1) := by decide +kernel
theorem dX1_numberIn_29 : decode cX1_numberIn 29 = .ok (.iload_n 1, 1) := by decide +kernel
theorem dX1_numberIn_30 : decode cX1_numberIn 30 = .ok (.iload_n 2, 1) := by decide +kernel
theorem dX1_numberIn_31 : decode cX1_numberIn 31 = .ok (.iconst 0, 1) := by decide +kernel
theorem dX1_numberIn_32 : decode cX1_numberIn 32 = .ok (.invokestatic 55, 3) := by decide +kernel
theorem dX1_numberIn_35 : decode cX1_numberIn 35 = .ok (.ireturn, 1) := by decide +kernel
theorem dX1_numberIn_36 : decode cX1_numberIn 36 = .ok (.aload_n 0, 1) := by decide +kernel
theorem dX1_numberIn_37 : decode cX1_numberIn 37 = .ok (.iload_n 1, 1) := by decide +kernel
theorem dX1_numberIn_38 : decode cX1_numberIn 38 = .ok (.iload_n 2, 1) := by decide +kernel
theorem dX1_numberIn_39 : decode cX1_numberIn 39 = .ok (.bipush 26, 2) := by decide +kernel
theorem dX1_numberIn_41 : decode cX1_numberIn 41 = .ok (.bipush 96, 2) := by decide +kernel
theorem dX1_numberIn_43 : decode cX1_numberIn 43 = .ok (.invokestatic 59, 3) := by decide +kernel
theorem dX1_numberIn_46 : decode cX1_numberIn 46 = .ok (.ireturn, 1) := by decide +kernel
theorem dX1_numberIn_47 : decode cX1_numberIn 47 = .ok (.aload_n 0, 1) := by decide +kernel
theorem dX1_numberIn_48 : decode cX1_numberIn 48 = .ok (.iload_n 1, 1) := by decide +kernel
theorem dX1_numberIn_49 : decode cX1_numberIn 49 = .ok (.iload_n 2, 1) := by decide +kernel
theorem dX1_numberIn_50 : decode cX1_numberIn 50 = .ok (.bipush 32, 2) := by decide +kernel
theorem dX1_numberIn_52 : decode cX1_numberIn 52 = .ok (.invokestatic 55, 3) := by decide +kernel
theorem dX1_numberIn_55 : decode cX1_numberIn 55 = .ok (.ireturn, 1) := by decide +kernel
theorem dX1_numberIn_56 : decode cX1_numberIn 56 = .ok (.aload_n 0, 1) := by decide +kernel
theorem dX1_numberIn_57 : decode cX1_numberIn 57 = .ok (.iload_n 1, 1) := by decide +kernel
theorem dX1_numberIn_58 : decode cX1_numberIn 58 = .ok (.iload_n 2, 1) := by decide +kernel
theorem dX1_numberIn_59 : decode cX1_numberIn 59 = .ok (.bipush 10, 2) := by decide +kernel
theorem dX1_numberIn_61 : decode cX1_numberIn 61 = .ok (.bipush 48, 2) := by decide +kernel
theorem dX1_numberIn_63 : decode cX1_numberIn 63 = .ok (.invokestatic 59, 3) := by decide +kernel
theorem dX1_numberIn_66 : decode cX1_numberIn 66 = .ok (.ireturn, 1) := by decide +kernel
set_option maxRecDepth 20000 in
theorem ggX1_placesIn_X8_byteAt : GoodIn wsX1_placesIn wsX8_byteAt := goodIn_r _ [5, 6, 7, 8, 9] (by decide +kernel) (by decide +kernel)
set_option maxRecDepth 20000 in
theorem gX1_placesIn_X8_byteAt : GoodIn wsX1_placesIn (wsV RX1 63 RX8 yX8_byteAt wsX8_byteAt) := goodIn_app (goodIn_of _ (by decide +kernel)) ggX1_placesIn_X8_byteAt
theorem dX1_placesIn_0 : decode cX1_placesIn 0 = .ok (.iconst 0, 1) := by decide +kernel
theorem dX1_placesIn_1 : decode cX1_placesIn 1 = .ok (.istore 5, 2) := by decide +kernel
theorem dX1_placesIn_3 : decode cX1_placesIn 3 = .ok (.iload_n 1, 1) := by decide +kernel
theorem dX1_placesIn_4 : decode cX1_placesIn 4 = .ok (.istore 6, 2) := by decide +kernel
theorem dX1_placesIn_6 : decode cX1_placesIn 6 = .ok (.iload 6, 2) := by decide +kernel
theorem dX1_placesIn_8 : decode cX1_placesIn 8 = .ok (.iload_n 2, 1) := by decide +kernel
theorem dX1_placesIn_9 : decode cX1_placesIn 9 = .ok (.if_icmp .ge 33, 3) := by decide +kernel
theorem dX1_placesIn_12 : decode cX1_placesIn 12 = .ok (.iload 5, 2) := by decide +kernel
theorem dX1_placesIn_14 : decode cX1_placesIn 14 = .ok (.sipush 999, 3) := by decide +kernel
theorem dX1_placesIn_17 : decode cX1_placesIn 17 = .ok (.if_icmp .gt 25, 3) := by decide +kernel
theorem dX1_placesIn_20 : decode cX1_placesIn 20 = .ok (.iload 5, 2) := by decide +kernel
theorem dX1_placesIn_22 : decode cX1_placesIn 22 = .ok (.iload_n 3, 1) := by decide +kernel
theorem dX1_placesIn_23 : decode cX1_placesIn 23 = .ok (.imul, 1) := by decide +kernel
theorem dX1_placesIn_24 : decode cX1_placesIn 24 = .ok (.aload_n 0, 1) := by decide +kernel
theorem dX1_placesIn_25 : decode cX1_placesIn 25 = .ok (.iload 6, 2) := by decide +kernel
theorem dX1_placesIn_27 : decode cX1_placesIn 27 = .ok (.invokevirtual 63, 3) := by decide +kernel
theorem dX1_placesIn_30 : decode cX1_placesIn 30 = .ok (.iadd, 1) := by decide +kernel
theorem dX1_placesIn_31 : decode cX1_placesIn 31 = .ok (.iload 4, 2) := by decide +kernel
theorem dX1_placesIn_33 : decode cX1_placesIn 33 = .ok (.isub, 1) := by decide +kernel
theorem dX1_placesIn_34 : decode cX1_placesIn 34 = .ok (.istore 5, 2) := by decide +kernel
theorem dX1_placesIn_36 : decode cX1_placesIn 36 = .ok (.iinc 6 1, 3) := by decide +kernel
theorem dX1_placesIn_39 : decode cX1_placesIn 39 = .ok (.goto (-33), 3) := by decide +kernel
theorem dX1_placesIn_42 : decode cX1_placesIn 42 = .ok (.iload 5, 2) := by decide +kernel
theorem dX1_placesIn_44 : decode cX1_placesIn 44 = .ok (.ireturn, 1) := by decide +kernel
set_option maxRecDepth 20000 in
theorem ggX1_romanIn_X8_byteAt : GoodIn wsX1_romanIn wsX8_byteAt := goodIn_r _ [5, 6, 7, 12, 13] (by decide +kernel) (by decide +kernel)
set_option maxRecDepth 20000 in
theorem gX1_romanIn_X8_byteAt : GoodIn wsX1_romanIn (wsV RX1 63 RX8 yX8_byteAt wsX8_byteAt) := goodIn_app (goodIn_of _ (by decide +kernel)) ggX1_romanIn_X8_byteAt
set_option maxRecDepth 20000 in
theorem ggX1_romanIn_X1_romanWorth : GoodIn wsX1_romanIn wsX1_romanWorth := goodIn_r _ [11] (by decide +kernel) (by decide +kernel)
set_option maxRecDepth 20000 in
theorem gX1_romanIn_X1_romanWorth : GoodIn wsX1_romanIn (va_wsS RX1 52 yX1_romanWorth wsX1_romanWorth) := goodIn_app (goodIn_of _ (by decide +kernel)) ggX1_romanIn_X1_romanWorth
theorem dX1_romanIn_0 : decode cX1_romanIn 0 = .ok (.iconst 0, 1) := by decide +kernel
theorem dX1_romanIn_1 : decode cX1_romanIn 1 = .ok (.istore 4, 2) := by decide +kernel
theorem dX1_romanIn_3 : decode cX1_romanIn 3 = .ok (.iload_n 1, 1) := by decide +kernel
theorem dX1_romanIn_4 : decode cX1_romanIn 4 = .ok (.istore 5, 2) := by decide +kernel
theorem dX1_romanIn_6 : decode cX1_romanIn 6 = .ok (.iload 5, 2) := by decide +kernel
theorem dX1_romanIn_8 : decode cX1_romanIn 8 = .ok (.iload_n 2, 1) := by decide +kernel
theorem dX1_romanIn_9 : decode cX1_romanIn 9 = .ok (.if_icmp .ge 69, 3) := by decide +kernel
theorem dX1_romanIn_12 : decode cX1_romanIn 12 = .ok (.aload_n 0, 1) := by decide +kernel
theorem dX1_romanIn_13 : decode cX1_romanIn 13 = .ok (.iload 5, 2) := by decide +kernel
theorem dX1_romanIn_15 : decode cX1_romanIn 15 = .ok (.invokevirtual 63, 3) := by decide +kernel
theorem dX1_romanIn_18 : decode cX1_romanIn 18 = .ok (.iload_n 3, 1) := by decide +kernel
theorem dX1_romanIn_19 : decode cX1_romanIn 19 = .ok (.isub, 1) := by decide +kernel
theorem dX1_romanIn_20 : decode cX1_romanIn 20 = .ok (.invokestatic 52, 3) := by decide +kernel
theorem dX1_romanIn_23 : decode cX1_romanIn 23 = .ok (.istore 6, 2) := by decide +kernel
theorem dX1_romanIn_25 : decode cX1_romanIn 25 = .ok (.iload 5, 2) := by decide +kernel
theorem dX1_romanIn_27 : decode cX1_romanIn 27 = .ok (.iconst 1, 1) := by decide +kernel
theorem dX1_romanIn_28 : decode cX1_romanIn 28 = .ok (.iadd, 1) := by decide +kernel
theorem dX1_romanIn_29 : decode cX1_romanIn 29 = .ok (.iload_n 2, 1) := by decide +kernel
theorem dX1_romanIn_30 : decode cX1_romanIn 30 = .ok (.if_icmp .ge 19, 3) := by decide +kernel
theorem dX1_romanIn_33 : decode cX1_romanIn 33 = .ok (.aload_n 0, 1) := by decide +kernel
theorem dX1_romanIn_34 : decode cX1_romanIn 34 = .ok (.iload 5, 2) := by decide +kernel
theorem dX1_romanIn_36 : decode cX1_romanIn 36 = .ok (.iconst 1, 1) := by decide +kernel
theorem dX1_romanIn_37 : decode cX1_romanIn 37 = .ok (.iadd, 1) := by decide +kernel
theorem dX1_romanIn_38 : decode cX1_romanIn 38 = .ok (.invokevirtual 63, 3) := by decide +kernel
theorem dX1_romanIn_41 : decode cX1_romanIn 41 = .ok (.iload_n 3, 1) := by decide +kernel
theorem dX1_romanIn_42 : decode cX1_romanIn 42 = .ok (.isub, 1) := by decide +kernel
theorem dX1_romanIn_43 : decode cX1_romanIn 43 = .ok (.invokestatic 52, 3) := by decide +kernel
theorem dX1_romanIn_46 : decode cX1_romanIn 46 = .ok (.goto 4, 3) := by decide +kernel
theorem dX1_romanIn_49 : decode cX1_romanIn 49 = .ok (.iconst 0, 1) := by decide +kernel
theorem dX1_romanIn_50 : decode cX1_romanIn 50 = .ok (.istore 7, 2) := by decide +kernel
theorem dX1_romanIn_52 : decode cX1_romanIn 52 = .ok (.iload 4, 2) := by decide +kernel
theorem dX1_romanIn_54 : decode cX1_romanIn 54 = .ok (.iload 6, 2) := by decide +kernel
theorem dX1_romanIn_56 : decode cX1_romanIn 56 = .ok (.iload 7, 2) := by decide +kernel
theorem dX1_romanIn_58 : decode cX1_romanIn 58 = .ok (.if_icmp .ge 9, 3) := by decide +kernel
theorem dX1_romanIn_61 : decode cX1_romanIn 61 = .ok (.iload 6, 2) := by decide +kernel
theorem dX1_romanIn_63 : decode cX1_romanIn 63 = .ok (.ineg, 1) := by decide +kernel
theorem dX1_romanIn_64 : decode cX1_romanIn 64 = .ok (.goto 5, 3) := by decide +kernel
theorem dX1_romanIn_67 : decode cX1_romanIn 67 = .ok (.iload 6, 2) := by decide +kernel
theorem dX1_romanIn_69 : decode cX1_romanIn 69 = .ok (.iadd, 1) := by decide +kernel
theorem dX1_romanIn_70 : decode cX1_romanIn 70 = .ok (.istore 4, 2) := by decide +kernel
theorem dX1_romanIn_72 : decode cX1_romanIn 72 = .ok (.iinc 5 1, 3) := by decide +kernel
theorem dX1_romanIn_75 : decode cX1_romanIn 75 = .ok (.goto (-69), 3) := by decide +kernel
theorem dX1_romanIn_78 : decode cX1_romanIn 78 = .ok (.iload 4, 2) := by decide +kernel
theorem dX1_romanIn_80 : decode cX1_romanIn 80 = .ok (.ireturn, 1) := by decide +kernel
set_option maxRecDepth 20000 in
theorem ggX2_init_J7_fill_53178 : GoodIn wsX2_init wsJ7_fill_53178 := goodIn_r _ [13] (by decide +kernel) (by decide +kernel)
set_option maxRecDepth 20000 in
theorem gX2_init_J7_fill_53178 : GoodIn wsX2_init (va_wsS RX2 27 yJ7_fill_53178 wsJ7_fill_53178) := goodIn_app (goodIn_of _ (by decide +kernel)) ggX2_init_J7_fill_53178
theorem dX2_init_0 : decode cX2_init 0 = .ok (.aload_n 0, 1) := by decide +kernel
theorem dX2_init_1 : decode cX2_init 1 = .ok (.invokespecial 3, 3) := by decide +kernel
theorem dX2_init_4 : decode cX2_init 4 = .ok (.aload_n 0, 1) := by decide +kernel
theorem dX2_init_5 : decode cX2_init 5 = .ok (.sipush 256, 3) := by decide +kernel
theorem dX2_init_8 : decode cX2_init 8 = .ok (.newarray .int, 2) := by decide +kernel
theorem dX2_init_10 : decode cX2_init 10 = .ok (.putfield 11, 3) := by decide +kernel
theorem dX2_init_13 : decode cX2_init 13 = .ok (.aload_n 0, 1) := by decide +kernel
theorem dX2_init_14 : decode cX2_init 14 = .ok (.sipush 256, 3) := by decide +kernel
theorem dX2_init_17 : decode cX2_init 17 = .ok (.newarray .int, 2) := by decide +kernel
theorem dX2_init_19 : decode cX2_init 19 = .ok (.putfield 15, 3) := by decide +kernel
theorem dX2_init_22 : decode cX2_init 22 = .ok (.aload_n 0, 1) := by decide +kernel
theorem dX2_init_23 : decode cX2_init 23 = .ok (.sipush 256, 3) := by decide +kernel
theorem dX2_init_26 : decode cX2_init 26 = .ok (.newarray .int, 2) := by decide +kernel
theorem dX2_init_28 : decode cX2_init 28 = .ok (.putfield 18, 3) := by decide +kernel
theorem dX2_init_31 : decode cX2_init 31 = .ok (.aload_n 0, 1) := by decide +kernel
theorem dX2_init_32 : decode cX2_init 32 = .ok (.sipush 256, 3) := by decide +kernel
theorem dX2_init_35 : decode cX2_init 35 = .ok (.newarray .int, 2) := by decide +kernel
theorem dX2_init_37 : decode cX2_init 37 = .ok (.putfield 21, 3) := by decide +kernel
theorem dX2_init_40 : decode cX2_init 40 = .ok (.aload_n 0, 1) := by decide +kernel
theorem dX2_init_41 : decode cX2_init 41 = .ok (.bipush 80, 2) := by decide +kernel
theorem dX2_init_43 : decode cX2_init 43 = .ok (.newarray .int, 2) := by decide +kernel
theorem dX2_init_45 : decode cX2_init 45 = .ok (.putfield 24, 3) := by decide +kernel
theorem dX2_init_48 : decode cX2_init 48 = .ok (.aload_n 0, 1) := by decide +kernel
theorem dX2_init_49 : decode cX2_init 49 = .ok (.getfield 24, 3) := by decide +kernel
theorem dX2_init_52 : decode cX2_init 52 = .ok (.iconst (-1), 1) := by decide +kernel
theorem dX2_init_53 : decode cX2_init 53 = .ok (.invokestatic 27, 3) := by decide +kernel
theorem dX2_init_56 : decode cX2_init 56 = .ok (.return_, 1) := by decide +kernel
set_option maxRecDepth 20000 in
theorem ggX2_clear_J7_fill_53178 : GoodIn wsX2_clear wsJ7_fill_53178 := goodIn_r _ [6] (by decide +kernel) (by decide +kernel)
set_option maxRecDepth 20000 in
theorem gX2_clear_J7_fill_53178 : GoodIn wsX2_clear (va_wsS RX2 27 yJ7_fill_53178 wsJ7_fill_53178) := goodIn_app (goodIn_of _ (by decide +kernel)) ggX2_clear_J7_fill_53178
theorem dX2_clear_0 : decode cX2_clear 0 = .ok (.aload_n 0, 1) := by decide +kernel
theorem dX2_clear_1 : decode cX2_clear 1 = .ok (.getfield 24, 3) := by decide +kernel
theorem dX2_clear_4 : decode cX2_clear 4 = .ok (.iconst (-1), 1) := by decide +kernel
theorem dX2_clear_5 : decode cX2_clear 5 = .ok (.invokestatic 27, 3) := by decide +kernel
theorem dX2_clear_8 : decode cX2_clear 8 = .ok (.aload_n 0, 1) := by decide +kernel
theorem dX2_clear_9 : decode cX2_clear 9 = .ok (.iconst 0, 1) := by decide +kernel
theorem dX2_clear_10 : decode cX2_clear 10 = .ok (.putfield 33, 3) := by decide +kernel
theorem dX2_clear_13 : decode cX2_clear 13 = .ok (.return_, 1) := by decide +kernel
theorem dX2_latest_0 : decode cX2_latest 0 = .ok (.iload_n 1, 1) := by decide +kernel
theorem dX2_latest_1 : decode cX2_latest 1 = .ok (.ifCond .lt 32, 3) := by decide +kernel
theorem dX2_latest_4 : decode cX2_latest 4 = .ok (.iload_n 1, 1) := by decide +kernel
theorem dX2_latest_5 : decode cX2_latest 5 = .ok (.bipush 80, 2) := by decide +kernel
theorem dX2_latest_7 : decode cX2_latest 7 = .ok (.if_icmp .ge 26, 3) := by decide +kernel
theorem dX2_latest_10 : decode cX2_latest 10 = .ok (.aload_n 0, 1) := by decide +kernel
theorem dX2_latest_11 : decode cX2_latest 11 = .ok (.getfield 24, 3) := by decide +kernel
theorem dX2_latest_14 : decode cX2_latest 14 = .ok (.iload_n 1, 1) := by decide +kernel
theorem dX2_latest_15 : decode cX2_latest 15 = .ok (.iaload, 1) := by decide +kernel
theorem dX2_latest_16 : decode cX2_latest 16 = .ok (.ifCond .lt 17, 3) := by decide +kernel
theorem dX2_latest_19 : decode cX2_latest 19 = .ok (.aload_n 0, 1) := by decide +kernel
theorem dX2_latest_20 : decode cX2_latest 20 = .ok (.getfield 18, 3) := by decide +kernel
theorem dX2_latest_23 : decode cX2_latest 23 = .ok (.aload_n 0, 1) := by decide +kernel
theorem dX2_latest_24 : decode cX2_latest 24 = .ok (.getfield 24, 3) := by decide +kernel
theorem dX2_latest_27 : decode cX2_latest 27 = .ok (.iload_n 1, 1) := by decide +kernel
theorem dX2_latest_28 : decode cX2_latest 28 = .ok (.iaload, 1) := by decide +kernel
theorem dX2_latest_29 : decode cX2_latest 29 = .ok (.iaload, 1) := by decide +kernel
theorem dX2_latest_30 : decode cX2_latest 30 = .ok (.goto 4, 3) := by decide +kernel
theorem dX2_latest_33 : decode cX2_latest 33 = .ok (.iconst 0, 1) := by decide +kernel
theorem dX2_latest_34 : decode cX2_latest 34 = .ok (.ireturn, 1) := by decide +kernel
theorem dX2_asOf_0 : decode cX2_asOf 0 = .ok (.iload_n 1, 1) := by decide +kernel
theorem dX2_asOf_1 : decode cX2_asOf 1 = .ok (.ifCond .lt 18, 3) := by decide +kernel
theorem dX2_asOf_4 : decode cX2_asOf 4 = .ok (.iload_n 1, 1) := by decide +kernel
theorem dX2_asOf_5 : decode cX2_asOf 5 = .ok (.bipush 80, 2) := by decide +kernel
theorem dX2_asOf_7 : decode cX2_asOf 7 = .ok (.if_icmp .ge 12, 3) := by decide +kernel
theorem dX2_asOf_10 : decode cX2_asOf 10 = .ok (.aload_n 0, 1) := by decide +kernel
theorem dX2_asOf_11 : decode cX2_asOf 11 = .ok (.getfield 24, 3) := by decide +kernel
theorem dX2_asOf_14 : decode cX2_asOf 14 = .ok (.iload_n 1, 1) := by decide +kernel
theorem dX2_asOf_15 : decode cX2_asOf 15 = .ok (.iaload, 1) := by decide +kernel
theorem dX2_asOf_16 : decode cX2_asOf 16 = .ok (.goto 4, 3) := by decide +kernel
theorem dX2_asOf_19 : decode cX2_asOf 19 = .ok (.iconst (-1), 1) := by decide +kernel
theorem dX2_asOf_20 : decode cX2_asOf 20 = .ok (.istore_n 3, 1) := by decide +kernel
theorem dX2_asOf_21 : decode cX2_asOf 21 = .ok (.iload_n 3, 1) := by decide +kernel
theorem dX2_asOf_22 : decode cX2_asOf 22 = .ok (.ifCond .lt 37, 3) := by decide +kernel
theorem dX2_asOf_25 : decode cX2_asOf 25 = .ok (.aload_n 0, 1) := by decide +kernel
theorem dX2_asOf_26 : decode cX2_asOf 26 = .ok (.getfield 15, 3) := by decide +kernel
theorem dX2_asOf_29 : decode cX2_asOf 29 = .ok (.iload_n 3, 1) := by decide +kernel
theorem dX2_asOf_30 : decode cX2_asOf 30 = .ok (.iaload, 1) := by decide +kernel
theorem dX2_asOf_31 : decode cX2_asOf 31 = .ok (.iload_n 2, 1) := by decide +kernel
theorem dX2_asOf_32 : decode cX2_asOf 32 = .ok (.if_icmp .le 27, 3) := by decide +kernel
theorem dX2_asOf_35 : decode cX2_asOf 35 = .ok (.aload_n 0, 1) := by decide +kernel
theorem dX2_asOf_36 : decode cX2_asOf 36 = .ok (.getfield 21, 3) := by decide +kernel
theorem dX2_asOf_39 : decode cX2_asOf 39 = .ok (.iload_n 3, 1) := by decide +kernel
theorem dX2_asOf_40 : decode cX2_asOf 40 = .ok (.iaload, 1) := by decide +kernel
theorem dX2_asOf_41 : decode cX2_asOf 41 = .ok (.iload_n 3, 1) := by decide +kernel
theorem dX2_asOf_42 : decode cX2_asOf 42 = .ok (.if_icmp .ge 12, 3) := by decide +kernel
theorem dX2_asOf_45 : decode cX2_asOf 45 = .ok (.aload_n 0, 1) := by decide +kernel
theorem dX2_asOf_46 : decode cX2_asOf 46 = .ok (.getfield 21, 3) := by decide +kernel
theorem dX2_asOf_49 : decode cX2_asOf 49 = .ok (.iload_n 3, 1) := by decide +kernel
theorem dX2_asOf_50 : decode cX2_asOf 50 = .ok (.iaload, 1) := by decide +kernel
theorem dX2_asOf_51 : decode cX2_asOf 51 = .ok (.goto 4, 3) := by decide +kernel
theorem dX2_asOf_54 : decode cX2_asOf 54 = .ok (.iconst (-1), 1) := by decide +kernel
theorem dX2_asOf_55 : decode cX2_asOf 55 = .ok (.istore_n 3, 1) := by decide +kernel
theorem dX2_asOf_56 : decode cX2_asOf 56 = .ok (.goto (-35), 3) := by decide +kernel
theorem dX2_asOf_59 : decode cX2_asOf 59 = .ok (.iload_n 3, 1) := by decide +kernel
theorem dX2_asOf_60 : decode cX2_asOf 60 = .ok (.ifCond .lt 12, 3) := by decide +kernel
theorem dX2_asOf_63 : decode cX2_asOf 63 = .ok (.aload_n 0, 1) := by decide +kernel
theorem dX2_asOf_64 : decode cX2_asOf 64 = .ok (.getfield 18, 3) := by decide +kernel
theorem dX2_asOf_67 : decode cX2_asOf 67 = .ok (.iload_n 3, 1) := by decide +kernel
theorem dX2_asOf_68 : decode cX2_asOf 68 = .ok (.iaload, 1) := by decide +kernel
theorem dX2_asOf_69 : decode cX2_asOf 69 = .ok (.goto 4, 3) := by decide +kernel
theorem dX2_asOf_72 : decode cX2_asOf 72 = .ok (.iconst 0, 1) := by decide +kernel
theorem dX2_asOf_73 : decode cX2_asOf 73 = .ok (.ireturn, 1) := by decide +kernel
set_option maxRecDepth 20000 in
theorem ggX2_give_X2_latest : GoodIn wsX2_give wsX2_latest := goodIn_r _ [11, 6, 4, 37, 38, 39, 40, 41, 42] (by decide +kernel) (by decide +kernel)
set_option maxRecDepth 20000 in
theorem gX2_give_X2_latest : GoodIn wsX2_give (wsV RX2 39 RX2 yX2_latest wsX2_latest) := goodIn_app (goodIn_of _ (by decide +kernel)) ggX2_give_X2_latest
set_option maxRecDepth 20000 in
theorem ggX2_give_X2_hasRoom : GoodIn wsX2_give wsX2_hasRoom := goodIn_r _ [15, 2, 3, 16, 17, 18, 19, 20, 1, 4, 5, 21, 22, 23, 24, 25, 26, 27, 28, 29, 30, 31, 32, 33, 34, 35, 36, 37, 38, 39, 40, 41, 42] (by decide +kernel) (by decide +kernel)
set_option maxRecDepth 20000 in
theorem gX2_give_X2_hasRoom : GoodIn wsX2_give (wsV RX2 43 RX2 yX2_hasRoom wsX2_hasRoom) := goodIn_app (goodIn_of _ (by decide +kernel)) ggX2_give_X2_hasRoom
theorem dX2_give_0 : decode cX2_give 0 = .ok (.iload_n 1, 1) := by decide +kernel
theorem dX2_give_1 : decode cX2_give 1 = .ok (.ifCond .lt 25, 3) := by decide +kernel
theorem dX2_give_4 : decode cX2_give 4 = .ok (.iload_n 1, 1) := by decide +kernel
theorem dX2_give_5 : decode cX2_give 5 = .ok (.bipush 80, 2) := by decide +kernel
theorem dX2_give_7 : decode cX2_give 7 = .ok (.if_icmp .ge 19, 3) := by decide +kernel
theorem dX2_give_10 : decode cX2_give 10 = .ok (.aload_n 0, 1) := by decide +kernel
theorem dX2_give_11 : decode cX2_give 11 = .ok (.iload_n 1, 1) := by decide +kernel
theorem dX2_give_12 : decode cX2_give 12 = .ok (.invokevirtual 39, 3) := by decide +kernel
theorem dX2_give_15 : decode cX2_give 15 = .ok (.iload_n 3, 1) := by decide +kernel
theorem dX2_give_16 : decode cX2_give 16 = .ok (.if_icmp .eq 10, 3) := by decide +kernel
theorem dX2_give_19 : decode cX2_give 19 = .ok (.aload_n 0, 1) := by decide +kernel
theorem dX2_give_20 : decode cX2_give 20 = .ok (.invokevirtual 43, 3) := by decide +kernel
theorem dX2_give_23 : decode cX2_give 23 = .ok (.ifCond .ne 4, 3) := by decide +kernel
theorem dX2_give_26 : decode cX2_give 26 = .ok (.return_, 1) := by decide +kernel
theorem dX2_give_27 : decode cX2_give 27 = .ok (.aload_n 0, 1) := by decide +kernel
theorem dX2_give_28 : decode cX2_give 28 = .ok (.getfield 11, 3) := by decide +kernel
theorem dX2_give_31 : decode cX2_give 31 = .ok (.aload_n 0, 1) := by decide +kernel
theorem dX2_give_32 : decode cX2_give 32 = .ok (.getfield 33, 3) := by decide +kernel
theorem dX2_give_35 : decode cX2_give 35 = .ok (.iload_n 1, 1) := by decide +kernel
theorem dX2_give_36 : decode cX2_give 36 = .ok (.iastore, 1) := by decide +kernel
theorem dX2_give_37 : decode cX2_give 37 = .ok (.aload_n 0, 1) := by decide +kernel
theorem dX2_give_38 : decode cX2_give 38 = .ok (.getfield 15, 3) := by decide +kernel
theorem dX2_give_41 : decode cX2_give 41 = .ok (.aload_n 0, 1) := by decide +kernel
theorem dX2_give_42 : decode cX2_give 42 = .ok (.getfield 33, 3) := by decide +kernel
theorem dX2_give_45 : decode cX2_give 45 = .ok (.iload_n 2, 1) := by decide +kernel
theorem dX2_give_46 : decode cX2_give 46 = .ok (.iastore, 1) := by decide +kernel
theorem dX2_give_47 : decode cX2_give 47 = .ok (.aload_n 0, 1) := by decide +kernel
theorem dX2_give_48 : decode cX2_give 48 = .ok (.getfield 18, 3) := by decide +kernel
theorem dX2_give_51 : decode cX2_give 51 = .ok (.aload_n 0, 1) := by decide +kernel
theorem dX2_give_52 : decode cX2_give 52 = .ok (.getfield 33, 3) := by decide +kernel
theorem dX2_give_55 : decode cX2_give 55 = .ok (.iload_n 3, 1) := by decide +kernel
theorem dX2_give_56 : decode cX2_give 56 = .ok (.iastore, 1) := by decide +kernel
theorem dX2_give_57 : decode cX2_give 57 = .ok (.aload_n 0, 1) := by decide +kernel
theorem dX2_give_58 : decode cX2_give 58 = .ok (.getfield 21, 3) := by decide +kernel
theorem dX2_give_61 : decode cX2_give 61 = .ok (.aload_n 0, 1) := by decide +kernel
theorem dX2_give_62 : decode cX2_give 62 = .ok (.getfield 33, 3) := by decide +kernel
theorem dX2_give_65 : decode cX2_give 65 = .ok (.aload_n 0, 1) := by decide +kernel
theorem dX2_give_66 : decode cX2_give 66 = .ok (.getfield 24, 3) := by decide +kernel
theorem dX2_give_69 : decode cX2_give 69 = .ok (.iload_n 1, 1) := by decide +kernel
theorem dX2_give_70 : decode cX2_give 70 = .ok (.iaload, 1) := by decide +kernel
theorem dX2_give_71 : decode cX2_give 71 = .ok (.iastore, 1) := by decide +kernel
theorem dX2_give_72 : decode cX2_give 72 = .ok (.aload_n 0, 1) := by decide +kernel
theorem dX2_give_73 : decode cX2_give 73 = .ok (.getfield 24, 3) := by decide +kernel
theorem dX2_give_76 : decode cX2_give 76 = .ok (.iload_n 1, 1) := by decide +kernel
theorem dX2_give_77 : decode cX2_give 77 = .ok (.aload_n 0, 1) := by decide +kernel
theorem dX2_give_78 : decode cX2_give 78 = .ok (.getfield 33, 3) := by decide +kernel
theorem dX2_give_81 : decode cX2_give 81 = .ok (.iastore, 1) := by decide +kernel
theorem dX2_give_82 : decode cX2_give 82 = .ok (.aload_n 0, 1) := by decide +kernel
theorem dX2_give_83 : decode cX2_give 83 = .ok (.dup, 1) := by decide +kernel
theorem dX2_give_84 : decode cX2_give 84 = .ok (.getfield 33, 3) := by decide +kernel
theorem dX2_give_87 : decode cX2_give 87 = .ok (.iconst 1, 1) := by decide +kernel
theorem dX2_give_88 : decode cX2_give 88 = .ok (.iadd, 1) := by decide +kernel
theorem dX2_give_89 : decode cX2_give 89 = .ok (.putfield 33, 3) := by decide +kernel
theorem dX2_give_92 : decode cX2_give 92 = .ok (.return_, 1) := by decide +kernel
theorem dX2_cutTo_0 : decode cX2_cutTo 0 = .ok (.aload_n 0, 1) := by decide +kernel
theorem dX2_cutTo_1 : decode cX2_cutTo 1 = .ok (.getfield 33, 3) := by decide +kernel
theorem dX2_cutTo_4 : decode cX2_cutTo 4 = .ok (.iload_n 1, 1) := by decide +kernel
theorem dX2_cutTo_5 : decode cX2_cutTo 5 = .ok (.if_icmp .le 46, 3) := by decide +kernel
theorem dX2_cutTo_8 : decode cX2_cutTo 8 = .ok (.aload_n 0, 1) := by decide +kernel
theorem dX2_cutTo_9 : decode cX2_cutTo 9 = .ok (.getfield 33, 3) := by decide +kernel
theorem dX2_cutTo_12 : decode cX2_cutTo 12 = .ok (.ifCond .le 39, 3) := by decide +kernel
theorem dX2_cutTo_15 : decode cX2_cutTo 15 = .ok (.aload_n 0, 1) := by decide +kernel
theorem dX2_cutTo_16 : decode cX2_cutTo 16 = .ok (.dup, 1) := by decide +kernel
theorem dX2_cutTo_17 : decode cX2_cutTo 17 = .ok (.getfield 33, 3) := by decide +kernel
theorem dX2_cutTo_20 : decode cX2_cutTo 20 = .ok (.iconst 1, 1) := by decide +kernel
theorem dX2_cutTo_21 : decode cX2_cutTo 21 = .ok (.isub, 1) := by decide +kernel
theorem dX2_cutTo_22 : decode cX2_cutTo 22 = .ok (.putfield 33, 3) := by decide +kernel
theorem dX2_cutTo_25 : decode cX2_cutTo 25 = .ok (.aload_n 0, 1) := by decide +kernel
theorem dX2_cutTo_26 : decode cX2_cutTo 26 = .ok (.getfield 24, 3) := by decide +kernel
theorem dX2_cutTo_29 : decode cX2_cutTo 29 = .ok (.aload_n 0, 1) := by decide +kernel
theorem dX2_cutTo_30 : decode cX2_cutTo 30 = .ok (.getfield 11, 3) := by decide +kernel
theorem dX2_cutTo_33 : decode cX2_cutTo 33 = .ok (.aload_n 0, 1) := by decide +kernel
theorem dX2_cutTo_34 : decode cX2_cutTo 34 = .ok (.getfield 33, 3) := by decide +kernel
theorem dX2_cutTo_37 : decode cX2_cutTo 37 = .ok (.iaload, 1) := by decide +kernel
theorem dX2_cutTo_38 : decode cX2_cutTo 38 = .ok (.aload_n 0, 1) := by decide +kernel
theorem dX2_cutTo_39 : decode cX2_cutTo 39 = .ok (.getfield 21, 3) := by decide +kernel
theorem dX2_cutTo_42 : decode cX2_cutTo 42 = .ok (.aload_n 0, 1) := by decide +kernel
theorem dX2_cutTo_43 : decode cX2_cutTo 43 = .ok (.getfield 33, 3) := by decide +kernel
theorem dX2_cutTo_46 : decode cX2_cutTo 46 = .ok (.iaload, 1) := by decide +kernel
theorem dX2_cutTo_47 : decode cX2_cutTo 47 = .ok (.iastore, 1) := by decide +kernel
theorem dX2_cutTo_48 : decode cX2_cutTo 48 = .ok (.goto (-48), 3) := by decide +kernel
theorem dX2_cutTo_51 : decode cX2_cutTo 51 = .ok (.return_, 1) := by decide +kernel
set_option maxRecDepth 20000 in
theorem ggX2_hasRoom_J7_copyOf_59c91 : GoodIn wsX2_hasRoom wsJ7_copyOf_59c91 := goodIn_r _ [14, 15, 16, 17, 18, 19, 20, 21, 22, 5, 6, 7, 23, 24, 25, 26] (by decide +kernel) (by decide +kernel)
set_option maxRecDepth 20000 in
theorem gX2_hasRoom_J7_copyOf_59c91 : GoodIn wsX2_hasRoom (va_wsS RX2 54 yJ7_copyOf_59c91 wsJ7_copyOf_59c91) := goodIn_app (goodIn_of _ (by decide +kernel)) ggX2_hasRoom_J7_copyOf_59c91
theorem dX2_hasRoom_0 : decode cX2_hasRoom 0 = .ok (.aload_n 0, 1) := by decide +kernel
theorem dX2_hasRoom_1 : decode cX2_hasRoom 1 = .ok (.getfield 33, 3) := by decide +kernel
theorem dX2_hasRoom_4 : decode cX2_hasRoom 4 = .ok (.aload_n 0, 1) := by decide +kernel
theorem dX2_hasRoom_5 : decode cX2_hasRoom 5 = .ok (.getfield 15, 3) := by decide +kernel
theorem dX2_hasRoom_8 : decode cX2_hasRoom 8 = .ok (.arraylength, 1) := by decide +kernel
theorem dX2_hasRoom_9 : decode cX2_hasRoom 9 = .ok (.if_icmp .ge 5, 3) := by decide +kernel
theorem dX2_hasRoom_12 : decode cX2_hasRoom 12 = .ok (.iconst 1, 1) := by decide +kernel
theorem dX2_hasRoom_13 : decode cX2_hasRoom 13 = .ok (.ireturn, 1) := by decide +kernel
theorem dX2_hasRoom_14 : decode cX2_hasRoom 14 = .ok (.aload_n 0, 1) := by decide +kernel
theorem dX2_hasRoom_15 : decode cX2_hasRoom 15 = .ok (.getfield 33, 3) := by decide +kernel
theorem dX2_hasRoom_18 : decode cX2_hasRoom 18 = .ok (.ldc 47, 2) := by decide +kernel
theorem dX2_hasRoom_20 : decode cX2_hasRoom 20 = .ok (.if_icmp .lt 5, 3) := by decide +kernel
theorem dX2_hasRoom_23 : decode cX2_hasRoom 23 = .ok (.iconst 0, 1) := by decide +kernel
theorem dX2_hasRoom_24 : decode cX2_hasRoom 24 = .ok (.ireturn, 1) := by decide +kernel
theorem dX2_hasRoom_25 : decode cX2_hasRoom 25 = .ok (.aload_n 0, 1) := by decide +kernel
theorem dX2_hasRoom_26 : decode cX2_hasRoom 26 = .ok (.getfield 33, 3) := by decide +kernel
theorem dX2_hasRoom_29 : decode cX2_hasRoom 29 = .ok (.iconst 2, 1) := by decide +kernel
theorem dX2_hasRoom_30 : decode cX2_hasRoom 30 = .ok (.imul, 1) := by decide +kernel
theorem dX2_hasRoom_31 : decode cX2_hasRoom 31 = .ok (.ldc 47, 2) := by decide +kernel
theorem dX2_hasRoom_33 : decode cX2_hasRoom 33 = .ok (.invokestatic 48, 3) := by decide +kernel
theorem dX2_hasRoom_36 : decode cX2_hasRoom 36 = .ok (.istore_n 1, 1) := by decide +kernel
theorem dX2_hasRoom_37 : decode cX2_hasRoom 37 = .ok (.aload_n 0, 1) := by decide +kernel
theorem dX2_hasRoom_38 : decode cX2_hasRoom 38 = .ok (.aload_n 0, 1) := by decide +kernel
theorem dX2_hasRoom_39 : decode cX2_hasRoom 39 = .ok (.getfield 11, 3) := by decide +kernel
theorem dX2_hasRoom_42 : decode cX2_hasRoom 42 = .ok (.iload_n 1, 1) := by decide +kernel
theorem dX2_hasRoom_43 : decode cX2_hasRoom 43 = .ok (.invokestatic 54, 3) := by decide +kernel
theorem dX2_hasRoom_46 : decode cX2_hasRoom 46 = .ok (.putfield 11, 3) := by decide +kernel
theorem dX2_hasRoom_49 : decode cX2_hasRoom 49 = .ok (.aload_n 0, 1) := by decide +kernel
theorem dX2_hasRoom_50 : decode cX2_hasRoom 50 = .ok (.aload_n 0, 1) := by decide +kernel
theorem dX2_hasRoom_51 : decode cX2_hasRoom 51 = .ok (.getfield 15, 3) := by decide +kernel
theorem dX2_hasRoom_54 : decode cX2_hasRoom 54 = .ok (.iload_n 1, 1) := by decide +kernel
theorem dX2_hasRoom_55 : decode cX2_hasRoom 55 = .ok (.invokestatic 54, 3) := by decide +kernel
theorem dX2_hasRoom_58 : decode cX2_hasRoom 58 = .ok (.putfield 15, 3) := by decide +kernel
theorem dX2_hasRoom_61 : decode cX2_hasRoom 61 = .ok (.aload_n 0, 1) := by decide +kernel
theorem dX2_hasRoom_62 : decode cX2_hasRoom 62 = .ok (.aload_n 0, 1) := by decide +kernel
theorem dX2_hasRoom_63 : decode cX2_hasRoom 63 = .ok (.getfield 18, 3) := by decide +kernel
theorem dX2_hasRoom_66 : decode cX2_hasRoom 66 = .ok (.iload_n 1, 1) := by decide +kernel
theorem dX2_hasRoom_67 : decode cX2_hasRoom 67 = .ok (.invokestatic 54, 3) := by decide +kernel
theorem dX2_hasRoom_70 : decode cX2_hasRoom 70 = .ok (.putfield 18, 3) := by decide +kernel
theorem dX2_hasRoom_73 : decode cX2_hasRoom 73 = .ok (.aload_n 0, 1) := by decide +kernel
theorem dX2_hasRoom_74 : decode cX2_hasRoom 74 = .ok (.aload_n 0, 1) := by decide +kernel
theorem dX2_hasRoom_75 : decode cX2_hasRoom 75 = .ok (.getfield 21, 3) := by decide +kernel
theorem dX2_hasRoom_78 : decode cX2_hasRoom 78 = .ok (.iload_n 1, 1) := by decide +kernel
theorem dX2_hasRoom_79 : decode cX2_hasRoom 79 = .ok (.invokestatic 54, 3) := by decide +kernel
theorem dX2_hasRoom_82 : decode cX2_hasRoom 82 = .ok (.putfield 21, 3) := by decide +kernel
theorem dX2_hasRoom_85 : decode cX2_hasRoom 85 = .ok (.iconst 1, 1) := by decide +kernel
theorem dX2_hasRoom_86 : decode cX2_hasRoom 86 = .ok (.ireturn, 1) := by decide +kernel
theorem dX3_init_0 : decode cX3_init 0 = .ok (.aload_n 0, 1) := by decide +kernel
theorem dX3_init_1 : decode cX3_init 1 = .ok (.invokespecial 3, 3) := by decide +kernel
theorem dX3_init_4 : decode cX3_init 4 = .ok (.aload_n 0, 1) := by decide +kernel
theorem dX3_init_5 : decode cX3_init 5 = .ok (.bipush 80, 2) := by decide +kernel
theorem dX3_init_7 : decode cX3_init 7 = .ok (.newarray .int, 2) := by decide +kernel
theorem dX3_init_9 : decode cX3_init 9 = .ok (.putfield 9, 3) := by decide +kernel
theorem dX3_init_12 : decode cX3_init 12 = .ok (.aload_n 0, 1) := by decide +kernel
theorem dX3_init_13 : decode cX3_init 13 = .ok (.bipush 80, 2) := by decide +kernel
theorem dX3_init_15 : decode cX3_init 15 = .ok (.newarray .int, 2) := by decide +kernel
theorem dX3_init_17 : decode cX3_init 17 = .ok (.putfield 15, 3) := by decide +kernel
theorem dX3_init_20 : decode cX3_init 20 = .ok (.aload_n 0, 1) := by decide +kernel
theorem dX3_init_21 : decode cX3_init 21 = .ok (.bipush 80, 2) := by decide +kernel
theorem dX3_init_23 : decode cX3_init 23 = .ok (.newarray .int, 2) := by decide +kernel
theorem dX3_init_25 : decode cX3_init 25 = .ok (.putfield 18, 3) := by decide +kernel
theorem dX3_init_28 : decode cX3_init 28 = .ok (.aload_n 0, 1) := by decide +kernel
theorem dX3_init_29 : decode cX3_init 29 = .ok (.bipush 80, 2) := by decide +kernel
theorem dX3_init_31 : decode cX3_init 31 = .ok (.newarray .boolean, 2) := by decide +kernel
theorem dX3_init_33 : decode cX3_init 33 = .ok (.putfield 21, 3) := by decide +kernel
theorem dX3_init_36 : decode cX3_init 36 = .ok (.aload_n 0, 1) := by decide +kernel
theorem dX3_init_37 : decode cX3_init 37 = .ok (.bipush 80, 2) := by decide +kernel
theorem dX3_init_39 : decode cX3_init 39 = .ok (.newarray .int, 2) := by decide +kernel
theorem dX3_init_41 : decode cX3_init 41 = .ok (.putfield 25, 3) := by decide +kernel
theorem dX3_init_44 : decode cX3_init 44 = .ok (.return_, 1) := by decide +kernel
theorem dX3_clear_0 : decode cX3_clear 0 = .ok (.aload_n 0, 1) := by decide +kernel
theorem dX3_clear_1 : decode cX3_clear 1 = .ok (.iconst 0, 1) := by decide +kernel
theorem dX3_clear_2 : decode cX3_clear 2 = .ok (.putfield 28, 3) := by decide +kernel
theorem dX3_clear_5 : decode cX3_clear 5 = .ok (.aload_n 0, 1) := by decide +kernel
theorem dX3_clear_6 : decode cX3_clear 6 = .ok (.iconst 0, 1) := by decide +kernel
theorem dX3_clear_7 : decode cX3_clear 7 = .ok (.putfield 32, 3) := by decide +kernel
theorem dX3_clear_10 : decode cX3_clear 10 = .ok (.return_, 1) := by decide +kernel
theorem dX3_has_0 : decode cX3_has 0 = .ok (.iload_n 1, 1) := by decide +kernel
theorem dX3_has_1 : decode cX3_has 1 = .ok (.ifCond .lt 15, 3) := by decide +kernel
theorem dX3_has_4 : decode cX3_has 4 = .ok (.iload_n 1, 1) := by decide +kernel
theorem dX3_has_5 : decode cX3_has 5 = .ok (.aload_n 0, 1) := by decide +kernel
theorem dX3_has_6 : decode cX3_has 6 = .ok (.getfield 28, 3) := by decide +kernel
theorem dX3_has_9 : decode cX3_has 9 = .ok (.if_icmp .ge 7, 3) := by decide +kernel
theorem dX3_has_12 : decode cX3_has 12 = .ok (.iconst 1, 1) := by decide +kernel
theorem dX3_has_13 : decode cX3_has 13 = .ok (.goto 4, 3) := by decide +kernel
theorem dX3_has_16 : decode cX3_has 16 = .ok (.iconst 0, 1) := by decide +kernel
theorem dX3_has_17 : decode cX3_has 17 = .ok (.ireturn, 1) := by decide +kernel
set_option maxRecDepth 20000 in
theorem ggX3_isInRow_X3_has : GoodIn wsX3_isInRow wsX3_has := goodIn_r _ [7, 8, 9, 10, 11, 12, 13, 14, 15] (by decide +kernel) (by decide +kernel)
set_option maxRecDepth 20000 in
theorem gX3_isInRow_X3_has : GoodIn wsX3_isInRow (wsV RX3 35 RX3 yX3_has wsX3_has) := goodIn_app (goodIn_of _ (by decide +kernel)) ggX3_isInRow_X3_has
theorem dX3_isInRow_0 : decode cX3_isInRow 0 = .ok (.aload_n 0, 1) := by decide +kernel
theorem dX3_isInRow_1 : decode cX3_isInRow 1 = .ok (.iload_n 1, 1) := by decide +kernel
theorem dX3_isInRow_2 : decode cX3_isInRow 2 = .ok (.invokevirtual 35, 3) := by decide +kernel
theorem dX3_isInRow_5 : decode cX3_isInRow 5 = .ok (.ifCond .eq 32, 3) := by decide +kernel
theorem dX3_isInRow_8 : decode cX3_isInRow 8 = .ok (.aload_n 0, 1) := by decide +kernel
theorem dX3_isInRow_9 : decode cX3_isInRow 9 = .ok (.getfield 9, 3) := by decide +kernel
theorem dX3_isInRow_12 : decode cX3_isInRow 12 = .ok (.iload_n 1, 1) := by decide +kernel
theorem dX3_isInRow_13 : decode cX3_isInRow 13 = .ok (.iaload, 1) := by decide +kernel
theorem dX3_isInRow_14 : decode cX3_isInRow 14 = .ok (.iload_n 2, 1) := by decide +kernel
theorem dX3_isInRow_15 : decode cX3_isInRow 15 = .ok (.if_icmp .ne 22, 3) := by decide +kernel
theorem dX3_isInRow_18 : decode cX3_isInRow 18 = .ok (.iload 4, 2) := by decide +kernel
theorem dX3_isInRow_20 : decode cX3_isInRow 20 = .ok (.ifCond .ne 13, 3) := by decide +kernel
theorem dX3_isInRow_23 : decode cX3_isInRow 23 = .ok (.aload_n 0, 1) := by decide +kernel
theorem dX3_isInRow_24 : decode cX3_isInRow 24 = .ok (.getfield 15, 3) := by decide +kernel
theorem dX3_isInRow_27 : decode cX3_isInRow 27 = .ok (.iload_n 1, 1) := by decide +kernel
theorem dX3_isInRow_28 : decode cX3_isInRow 28 = .ok (.iaload, 1) := by decide +kernel
theorem dX3_isInRow_29 : decode cX3_isInRow 29 = .ok (.iload_n 3, 1) := by decide +kernel
theorem dX3_isInRow_30 : decode cX3_isInRow 30 = .ok (.if_icmp .ne 7, 3) := by decide +kernel
theorem dX3_isInRow_33 : decode cX3_isInRow 33 = .ok (.iconst 1, 1) := by decide +kernel
theorem dX3_isInRow_34 : decode cX3_isInRow 34 = .ok (.goto 4, 3) := by decide +kernel
theorem dX3_isInRow_37 : decode cX3_isInRow 37 = .ok (.iconst 0, 1) := by decide +kernel
theorem dX3_isInRow_38 : decode cX3_isInRow 38 = .ok (.ireturn, 1) := by decide +kernel
theorem dX3_placeOf_0 : decode cX3_placeOf 0 = .ok (.iconst 0, 1) := by decide +kernel
theorem dX3_placeOf_1 : decode cX3_placeOf 1 = .ok (.istore_n 2, 1) := by decide +kernel
theorem dX3_placeOf_2 : decode cX3_placeOf 2 = .ok (.iload_n 2, 1) := by decide +kernel
theorem dX3_placeOf_3 : decode cX3_placeOf 3 = .ok (.aload_n 0, 1) := by decide +kernel
theorem dX3_placeOf_4 : decode cX3_placeOf 4 = .ok (.getfield 28, 3) := by decide +kernel
theorem dX3_placeOf_7 : decode cX3_placeOf 7 = .ok (.if_icmp .ge 21, 3) := by decide +kernel
theorem dX3_placeOf_10 : decode cX3_placeOf 10 = .ok (.aload_n 0, 1) := by decide +kernel
theorem dX3_placeOf_11 : decode cX3_placeOf 11 = .ok (.getfield 25, 3) := by decide +kernel
theorem dX3_placeOf_14 : decode cX3_placeOf 14 = .ok (.iload_n 2, 1) := by decide +kernel
theorem dX3_placeOf_15 : decode cX3_placeOf 15 = .ok (.iaload, 1) := by decide +kernel
theorem dX3_placeOf_16 : decode cX3_placeOf 16 = .ok (.iload_n 1, 1) := by decide +kernel
theorem dX3_placeOf_17 : decode cX3_placeOf 17 = .ok (.if_icmp .ne 5, 3) := by decide +kernel
theorem dX3_placeOf_20 : decode cX3_placeOf 20 = .ok (.iload_n 2, 1) := by decide +kernel
theorem dX3_placeOf_21 : decode cX3_placeOf 21 = .ok (.ireturn, 1) := by decide +kernel
theorem dX3_placeOf_22 : decode cX3_placeOf 22 = .ok (.iinc 2 1, 3) := by decide +kernel
theorem dX3_placeOf_25 : decode cX3_placeOf 25 = .ok (.goto (-23), 3) := by decide +kernel
theorem dX3_placeOf_28 : decode cX3_placeOf 28 = .ok (.iconst (-1), 1) := by decide +kernel
theorem dX3_placeOf_29 : decode cX3_placeOf 29 = .ok (.ireturn, 1) := by decide +kernel
set_option maxRecDepth 20000 in
theorem ggX3_placeInRow_X3_placeOf : GoodIn wsX3_placeInRow wsX3_placeOf := goodIn_r _ [8, 9, 1, 18, 19, 20, 21, 22, 23, 24] (by decide +kernel) (by decide +kernel)
set_option maxRecDepth 20000 in
theorem gX3_placeInRow_X3_placeOf : GoodIn wsX3_placeInRow (wsV RX3 39 RX3 yX3_placeOf wsX3_placeOf) := goodIn_app (goodIn_of _ (by decide +kernel)) ggX3_placeInRow_X3_placeOf
set_option maxRecDepth 20000 in
theorem ggX3_placeInRow_X3_isInRow : GoodIn wsX3_placeInRow wsX3_isInRow := goodIn_r _ [13, 2, 3, 14, 15, 16, 7, 17, 9, 18, 19, 20, 21, 22, 23, 24] (by decide +kernel) (by decide +kernel)
set_option maxRecDepth 20000 in
theorem gX3_placeInRow_X3_isInRow : GoodIn wsX3_placeInRow (wsV RX3 43 RX3 yX3_isInRow wsX3_isInRow) := goodIn_app (goodIn_of _ (by decide +kernel)) ggX3_placeInRow_X3_isInRow
theorem dX3_placeInRow_0 : decode cX3_placeInRow 0 = .ok (.iconst 0, 1) := by decide +kernel
theorem dX3_placeInRow_1 : decode cX3_placeInRow 1 = .ok (.istore_n 3, 1) := by decide +kernel
theorem dX3_placeInRow_2 : decode cX3_placeInRow 2 = .ok (.aload_n 0, 1) := by decide +kernel
theorem dX3_placeInRow_3 : decode cX3_placeInRow 3 = .ok (.iload_n 1, 1) := by decide +kernel
theorem dX3_placeInRow_4 : decode cX3_placeInRow 4 = .ok (.invokevirtual 39, 3) := by decide +kernel
theorem dX3_placeInRow_7 : decode cX3_placeInRow 7 = .ok (.istore 4, 2) := by decide +kernel
theorem dX3_placeInRow_9 : decode cX3_placeInRow 9 = .ok (.iconst 0, 1) := by decide +kernel
theorem dX3_placeInRow_10 : decode cX3_placeInRow 10 = .ok (.istore 5, 2) := by decide +kernel
theorem dX3_placeInRow_12 : decode cX3_placeInRow 12 = .ok (.iload 5, 2) := by decide +kernel
theorem dX3_placeInRow_14 : decode cX3_placeInRow 14 = .ok (.iload 4, 2) := by decide +kernel
theorem dX3_placeInRow_16 : decode cX3_placeInRow 16 = .ok (.if_icmp .ge 39, 3) := by decide +kernel
theorem dX3_placeInRow_19 : decode cX3_placeInRow 19 = .ok (.aload_n 0, 1) := by decide +kernel
theorem dX3_placeInRow_20 : decode cX3_placeInRow 20 = .ok (.aload_n 0, 1) := by decide +kernel
theorem dX3_placeInRow_21 : decode cX3_placeInRow 21 = .ok (.getfield 25, 3) := by decide +kernel
theorem dX3_placeInRow_24 : decode cX3_placeInRow 24 = .ok (.iload 5, 2) := by decide +kernel
theorem dX3_placeInRow_26 : decode cX3_placeInRow 26 = .ok (.iaload, 1) := by decide +kernel
theorem dX3_placeInRow_27 : decode cX3_placeInRow 27 = .ok (.aload_n 0, 1) := by decide +kernel
theorem dX3_placeInRow_28 : decode cX3_placeInRow 28 = .ok (.getfield 9, 3) := by decide +kernel
theorem dX3_placeInRow_31 : decode cX3_placeInRow 31 = .ok (.iload_n 1, 1) := by decide +kernel
theorem dX3_placeInRow_32 : decode cX3_placeInRow 32 = .ok (.iaload, 1) := by decide +kernel
theorem dX3_placeInRow_33 : decode cX3_placeInRow 33 = .ok (.aload_n 0, 1) := by decide +kernel
theorem dX3_placeInRow_34 : decode cX3_placeInRow 34 = .ok (.getfield 15, 3) := by decide +kernel
theorem dX3_placeInRow_37 : decode cX3_placeInRow 37 = .ok (.iload_n 1, 1) := by decide +kernel
theorem dX3_placeInRow_38 : decode cX3_placeInRow 38 = .ok (.iaload, 1) := by decide +kernel
theorem dX3_placeInRow_39 : decode cX3_placeInRow 39 = .ok (.iload_n 2, 1) := by decide +kernel
theorem dX3_placeInRow_40 : decode cX3_placeInRow 40 = .ok (.invokevirtual 43, 3) := by decide +kernel
theorem dX3_placeInRow_43 : decode cX3_placeInRow 43 = .ok (.ifCond .eq 6, 3) := by decide +kernel
theorem dX3_placeInRow_46 : decode cX3_placeInRow 46 = .ok (.iinc 3 1, 3) := by decide +kernel
theorem dX3_placeInRow_49 : decode cX3_placeInRow 49 = .ok (.iinc 5 1, 3) := by decide +kernel
theorem dX3_placeInRow_52 : decode cX3_placeInRow 52 = .ok (.goto (-40), 3) := by decide +kernel
theorem dX3_placeInRow_55 : decode cX3_placeInRow 55 = .ok (.iload_n 3, 1) := by decide +kernel
theorem dX3_placeInRow_56 : decode cX3_placeInRow 56 = .ok (.ireturn, 1) := by decide +kernel
set_option maxRecDepth 20000 in
theorem ggX3_placeBehind_X3_placeOf : GoodIn wsX3_placeBehind wsX3_placeOf := goodIn_r _ [8, 1, 3, 9, 10, 11, 12, 13, 14, 15] (by decide +kernel) (by decide +kernel)
set_option maxRecDepth 20000 in
theorem gX3_placeBehind_X3_placeOf : GoodIn wsX3_placeBehind (wsV RX3 39 RX3 yX3_placeOf wsX3_placeOf) := goodIn_app (goodIn_of _ (by decide +kernel)) ggX3_placeBehind_X3_placeOf
theorem dX3_placeBehind_0 : decode cX3_placeBehind 0 = .ok (.aload_n 0, 1) := by decide +kernel
theorem dX3_placeBehind_1 : decode cX3_placeBehind 1 = .ok (.iload_n 1, 1) := by decide +kernel
theorem dX3_placeBehind_2 : decode cX3_placeBehind 2 = .ok (.invokevirtual 39, 3) := by decide +kernel
theorem dX3_placeBehind_5 : decode cX3_placeBehind 5 = .ok (.iconst 1, 1) := by decide +kernel
theorem dX3_placeBehind_6 : decode cX3_placeBehind 6 = .ok (.iadd, 1) := by decide +kernel
theorem dX3_placeBehind_7 : decode cX3_placeBehind 7 = .ok (.istore_n 2, 1) := by decide +kernel
theorem dX3_placeBehind_8 : decode cX3_placeBehind 8 = .ok (.iload_n 2, 1) := by decide +kernel
theorem dX3_placeBehind_9 : decode cX3_placeBehind 9 = .ok (.aload_n 0, 1) := by decide +kernel
theorem dX3_placeBehind_10 : decode cX3_placeBehind 10 = .ok (.getfield 28, 3) := by decide +kernel
theorem dX3_placeBehind_13 : decode cX3_placeBehind 13 = .ok (.if_icmp .ge 29, 3) := by decide +kernel
theorem dX3_placeBehind_16 : decode cX3_placeBehind 16 = .ok (.aload_n 0, 1) := by decide +kernel
theorem dX3_placeBehind_17 : decode cX3_placeBehind 17 = .ok (.getfield 9, 3) := by decide +kernel
theorem dX3_placeBehind_20 : decode cX3_placeBehind 20 = .ok (.aload_n 0, 1) := by decide +kernel
theorem dX3_placeBehind_21 : decode cX3_placeBehind 21 = .ok (.getfield 25, 3) := by decide +kernel
theorem dX3_placeBehind_24 : decode cX3_placeBehind 24 = .ok (.iload_n 2, 1) := by decide +kernel
theorem dX3_placeBehind_25 : decode cX3_placeBehind 25 = .ok (.iaload, 1) := by decide +kernel
theorem dX3_placeBehind_26 : decode cX3_placeBehind 26 = .ok (.iaload, 1) := by decide +kernel
theorem dX3_placeBehind_27 : decode cX3_placeBehind 27 = .ok (.aload_n 0, 1) := by decide +kernel
theorem dX3_placeBehind_28 : decode cX3_placeBehind 28 = .ok (.getfield 9, 3) := by decide +kernel
theorem dX3_placeBehind_31 : decode cX3_placeBehind 31 = .ok (.iload_n 1, 1) := by decide +kernel
theorem dX3_placeBehind_32 : decode cX3_placeBehind 32 = .ok (.iaload, 1) := by decide +kernel
theorem dX3_placeBehind_33 : decode cX3_placeBehind 33 = .ok (.if_icmp .le 9, 3) := by decide +kernel
theorem dX3_placeBehind_36 : decode cX3_placeBehind 36 = .ok (.iinc 2 1, 3) := by decide +kernel
theorem dX3_placeBehind_39 : decode cX3_placeBehind 39 = .ok (.goto (-31), 3) := by decide +kernel
theorem dX3_placeBehind_42 : decode cX3_placeBehind 42 = .ok (.iload_n 2, 1) := by decide +kernel
theorem dX3_placeBehind_43 : decode cX3_placeBehind 43 = .ok (.ireturn, 1) := by decide +kernel
theorem dX3_insert_0 : decode cX3_insert 0 = .ok (.aload_n 0, 1) := by decide +kernel
theorem dX3_insert_1 : decode cX3_insert 1 = .ok (.getfield 28, 3) := by decide +kernel
theorem dX3_insert_4 : decode cX3_insert 4 = .ok (.bipush 80, 2) := by decide +kernel
theorem dX3_insert_6 : decode cX3_insert 6 = .ok (.if_icmp .ge 15, 3) := by decide +kernel
theorem dX3_insert_9 : decode cX3_insert 9 = .ok (.iload_n 1, 1) := by decide +kernel
theorem dX3_insert_10 : decode cX3_insert 10 = .ok (.ifCond .lt 11, 3) := by decide +kernel
theorem dX3_insert_13 : decode cX3_insert 13 = .ok (.iload_n 1, 1) := by decide +kernel
theorem dX3_insert_14 : decode cX3_insert 14 = .ok (.aload_n 0, 1) := by decide +kernel
theorem dX3_insert_15 : decode cX3_insert 15 = .ok (.getfield 28, 3) := by decide +kernel
theorem dX3_insert_18 : decode cX3_insert 18 = .ok (.if_icmp .le 4, 3) := by decide +kernel
theorem dX3_insert_21 : decode cX3_insert 21 = .ok (.return_, 1) := by decide +kernel
theorem dX3_insert_22 : decode cX3_insert 22 = .ok (.aload_n 0, 1) := by decide +kernel
theorem dX3_insert_23 : decode cX3_insert 23 = .ok (.getfield 25, 3) := by decide +kernel
theorem dX3_insert_26 : decode cX3_insert 26 = .ok (.iload_n 1, 1) := by decide +kernel
theorem dX3_insert_27 : decode cX3_insert 27 = .ok (.aload_n 0, 1) := by decide +kernel
theorem dX3_insert_28 : decode cX3_insert 28 = .ok (.getfield 25, 3) := by decide +kernel
theorem dX3_insert_31 : decode cX3_insert 31 = .ok (.iload_n 1, 1) := by decide +kernel
theorem dX3_insert_32 : decode cX3_insert 32 = .ok (.iconst 1, 1) := by decide +kernel
theorem dX3_insert_33 : decode cX3_insert 33 = .ok (.iadd, 1) := by decide +kernel
theorem dX3_insert_34 : decode cX3_insert 34 = .ok (.aload_n 0, 1) := by decide +kernel
theorem dX3_insert_35 : decode cX3_insert 35 = .ok (.getfield 28, 3) := by decide +kernel
theorem dX3_insert_38 : decode cX3_insert 38 = .ok (.iload_n 1, 1) := by decide +kernel
theorem dX3_insert_39 : decode cX3_insert 39 = .ok (.isub, 1) := by decide +kernel
theorem dX3_insert_40 : decode cX3_insert 40 = .ok (.invokestatic 47, 3) := by decide +kernel
theorem dX3_insert_43 : decode cX3_insert 43 = .ok (.aload_n 0, 1) := by decide +kernel
theorem dX3_insert_44 : decode cX3_insert 44 = .ok (.getfield 25, 3) := by decide +kernel
theorem dX3_insert_47 : decode cX3_insert 47 = .ok (.iload_n 1, 1) := by decide +kernel
theorem dX3_insert_48 : decode cX3_insert 48 = .ok (.aload_n 0, 1) := by decide +kernel
theorem dX3_insert_49 : decode cX3_insert 49 = .ok (.getfield 28, 3) := by decide +kernel
theorem dX3_insert_52 : decode cX3_insert 52 = .ok (.iastore, 1) := by decide +kernel
theorem dX3_insert_53 : decode cX3_insert 53 = .ok (.aload_n 0, 1) := by decide +kernel
theorem dX3_insert_54 : decode cX3_insert 54 = .ok (.getfield 9, 3) := by decide +kernel
theorem dX3_insert_57 : decode cX3_insert 57 = .ok (.aload_n 0, 1) := by decide +kernel
theorem dX3_insert_58 : decode cX3_insert 58 = .ok (.getfield 28, 3) := by decide +kernel
theorem dX3_insert_61 : decode cX3_insert 61 = .ok (.iload_n 2, 1) := by decide +kernel
theorem dX3_insert_62 : decode cX3_insert 62 = .ok (.iastore, 1) := by decide +kernel
theorem dX3_insert_63 : decode cX3_insert 63 = .ok (.aload_n 0, 1) := by decide +kernel
theorem dX3_insert_64 : decode cX3_insert 64 = .ok (.getfield 15, 3) := by decide +kernel
theorem dX3_insert_67 : decode cX3_insert 67 = .ok (.aload_n 0, 1) := by decide +kernel
theorem dX3_insert_68 : decode cX3_insert 68 = .ok (.getfield 28, 3) := by decide +kernel
theorem dX3_insert_71 : decode cX3_insert 71 = .ok (.iload_n 3, 1) := by decide +kernel
theorem dX3_insert_72 : decode cX3_insert 72 = .ok (.iastore, 1) := by decide +kernel
theorem dX3_insert_73 : decode cX3_insert 73 = .ok (.aload_n 0, 1) := by decide +kernel
theorem dX3_insert_74 : decode cX3_insert 74 = .ok (.getfield 18, 3) := by decide +kernel
theorem dX3_insert_77 : decode cX3_insert 77 = .ok (.aload_n 0, 1) := by decide +kernel
theorem dX3_insert_78 : decode cX3_insert 78 = .ok (.getfield 28, 3) := by decide +kernel
theorem dX3_insert_81 : decode cX3_insert 81 = .ok (.iload 4, 2) := by decide +kernel
theorem dX3_insert_83 : decode cX3_insert 83 = .ok (.iastore, 1) := by decide +kernel
theorem dX3_insert_84 : decode cX3_insert 84 = .ok (.aload_n 0, 1) := by decide +kernel
theorem dX3_insert_85 : decode cX3_insert 85 = .ok (.getfield 21, 3) := by decide +kernel
theorem dX3_insert_88 : decode cX3_insert 88 = .ok (.aload_n 0, 1) := by decide +kernel
theorem dX3_insert_89 : decode cX3_insert 89 = .ok (.getfield 28, 3) := by decide +kernel
theorem dX3_insert_92 : decode cX3_insert 92 = .ok (.iconst 0, 1) := by decide +kernel
theorem dX3_insert_93 : decode cX3_insert 93 = .ok (.bastore, 1) := by decide +kernel
theorem dX3_insert_94 : decode cX3_insert 94 = .ok (.aload_n 0, 1) := by decide +kernel
theorem dX3_insert_95 : decode cX3_insert 95 = .ok (.dup, 1) := by decide +kernel
theorem dX3_insert_96 : decode cX3_insert 96 = .ok (.getfield 28, 3) := by decide +kernel
theorem dX3_insert_99 : decode cX3_insert 99 = .ok (.iconst 1, 1) := by decide +kernel
theorem dX3_insert_100 : decode cX3_insert 100 = .ok (.iadd, 1) := by decide +kernel
theorem dX3_insert_101 : decode cX3_insert 101 = .ok (.putfield 28, 3) := by decide +kernel
theorem dX3_insert_104 : decode cX3_insert 104 = .ok (.return_, 1) := by decide +kernel
set_option maxRecDepth 20000 in
theorem ggX3_dropLast_X3_placeOf : GoodIn wsX3_dropLast wsX3_placeOf := goodIn_r _ [11, 1, 2, 12, 13, 14, 15, 16, 17, 18] (by decide +kernel) (by decide +kernel)
set_option maxRecDepth 20000 in
theorem gX3_dropLast_X3_placeOf : GoodIn wsX3_dropLast (wsV RX3 39 RX3 yX3_placeOf wsX3_placeOf) := goodIn_app (goodIn_of _ (by decide +kernel)) ggX3_dropLast_X3_placeOf
theorem dX3_dropLast_0 : decode cX3_dropLast 0 = .ok (.aload_n 0, 1) := by decide +kernel
theorem dX3_dropLast_1 : decode cX3_dropLast 1 = .ok (.aload_n 0, 1) := by decide +kernel
theorem dX3_dropLast_2 : decode cX3_dropLast 2 = .ok (.getfield 28, 3) := by decide +kernel
theorem dX3_dropLast_5 : decode cX3_dropLast 5 = .ok (.iconst 1, 1) := by decide +kernel
theorem dX3_dropLast_6 : decode cX3_dropLast 6 = .ok (.isub, 1) := by decide +kernel
theorem dX3_dropLast_7 : decode cX3_dropLast 7 = .ok (.invokevirtual 39, 3) := by decide +kernel
theorem dX3_dropLast_10 : decode cX3_dropLast 10 = .ok (.istore_n 1, 1) := by decide +kernel
theorem dX3_dropLast_11 : decode cX3_dropLast 11 = .ok (.iload_n 1, 1) := by decide +kernel
theorem dX3_dropLast_12 : decode cX3_dropLast 12 = .ok (.iconst (-1), 1) := by decide +kernel
theorem dX3_dropLast_13 : decode cX3_dropLast 13 = .ok (.if_icmp .ne 4, 3) := by decide +kernel
theorem dX3_dropLast_16 : decode cX3_dropLast 16 = .ok (.return_, 1) := by decide +kernel
theorem dX3_dropLast_17 : decode cX3_dropLast 17 = .ok (.aload_n 0, 1) := by decide +kernel
theorem dX3_dropLast_18 : decode cX3_dropLast 18 = .ok (.getfield 25, 3) := by decide +kernel
theorem dX3_dropLast_21 : decode cX3_dropLast 21 = .ok (.iload_n 1, 1) := by decide +kernel
theorem dX3_dropLast_22 : decode cX3_dropLast 22 = .ok (.iconst 1, 1) := by decide +kernel
theorem dX3_dropLast_23 : decode cX3_dropLast 23 = .ok (.iadd, 1) := by decide +kernel
theorem dX3_dropLast_24 : decode cX3_dropLast 24 = .ok (.aload_n 0, 1) := by decide +kernel
theorem dX3_dropLast_25 : decode cX3_dropLast 25 = .ok (.getfield 25, 3) := by decide +kernel
theorem dX3_dropLast_28 : decode cX3_dropLast 28 = .ok (.iload_n 1, 1) := by decide +kernel
theorem dX3_dropLast_29 : decode cX3_dropLast 29 = .ok (.aload_n 0, 1) := by decide +kernel
theorem dX3_dropLast_30 : decode cX3_dropLast 30 = .ok (.getfield 28, 3) := by decide +kernel
theorem dX3_dropLast_33 : decode cX3_dropLast 33 = .ok (.iload_n 1, 1) := by decide +kernel
theorem dX3_dropLast_34 : decode cX3_dropLast 34 = .ok (.isub, 1) := by decide +kernel
theorem dX3_dropLast_35 : decode cX3_dropLast 35 = .ok (.iconst 1, 1) := by decide +kernel
theorem dX3_dropLast_36 : decode cX3_dropLast 36 = .ok (.isub, 1) := by decide +kernel
theorem dX3_dropLast_37 : decode cX3_dropLast 37 = .ok (.invokestatic 47, 3) := by decide +kernel
theorem dX3_dropLast_40 : decode cX3_dropLast 40 = .ok (.aload_n 0, 1) := by decide +kernel
theorem dX3_dropLast_41 : decode cX3_dropLast 41 = .ok (.dup, 1) := by decide +kernel
theorem dX3_dropLast_42 : decode cX3_dropLast 42 = .ok (.getfield 28, 3) := by decide +kernel
theorem dX3_dropLast_45 : decode cX3_dropLast 45 = .ok (.iconst 1, 1) := by decide +kernel
theorem dX3_dropLast_46 : decode cX3_dropLast 46 = .ok (.isub, 1) := by decide +kernel
theorem dX3_dropLast_47 : decode cX3_dropLast 47 = .ok (.putfield 28, 3) := by decide +kernel
theorem dX3_dropLast_50 : decode cX3_dropLast 50 = .ok (.return_, 1) := by decide +kernel
set_option maxRecDepth 20000 in
theorem ggX3_setStruck_X3_has : GoodIn wsX3_setStruck wsX3_has := goodIn_r _ [7, 8, 9, 10, 11, 12, 13, 14, 15] (by decide +kernel) (by decide +kernel)
set_option maxRecDepth 20000 in
theorem gX3_setStruck_X3_has : GoodIn wsX3_setStruck (wsV RX3 35 RX3 yX3_has wsX3_has) := goodIn_app (goodIn_of _ (by decide +kernel)) ggX3_setStruck_X3_has
theorem dX3_setStruck_0 : decode cX3_setStruck 0 = .ok (.aload_n 0, 1) := by decide +kernel
theorem dX3_setStruck_1 : decode cX3_setStruck 1 = .ok (.iload_n 1, 1) := by decide +kernel
theorem dX3_setStruck_2 : decode cX3_setStruck 2 = .ok (.invokevirtual 35, 3) := by decide +kernel
theorem dX3_setStruck_5 : decode cX3_setStruck 5 = .ok (.ifCond .eq 38, 3) := by decide +kernel
theorem dX3_setStruck_8 : decode cX3_setStruck 8 = .ok (.aload_n 0, 1) := by decide +kernel
theorem dX3_setStruck_9 : decode cX3_setStruck 9 = .ok (.getfield 21, 3) := by decide +kernel
theorem dX3_setStruck_12 : decode cX3_setStruck 12 = .ok (.iload_n 1, 1) := by decide +kernel
theorem dX3_setStruck_13 : decode cX3_setStruck 13 = .ok (.baload, 1) := by decide +kernel
theorem dX3_setStruck_14 : decode cX3_setStruck 14 = .ok (.iload_n 2, 1) := by decide +kernel
theorem dX3_setStruck_15 : decode cX3_setStruck 15 = .ok (.if_icmp .eq 28, 3) := by decide +kernel
theorem dX3_setStruck_18 : decode cX3_setStruck 18 = .ok (.aload_n 0, 1) := by decide +kernel
theorem dX3_setStruck_19 : decode cX3_setStruck 19 = .ok (.getfield 21, 3) := by decide +kernel
theorem dX3_setStruck_22 : decode cX3_setStruck 22 = .ok (.iload_n 1, 1) := by decide +kernel
theorem dX3_setStruck_23 : decode cX3_setStruck 23 = .ok (.iload_n 2, 1) := by decide +kernel
theorem dX3_setStruck_24 : decode cX3_setStruck 24 = .ok (.bastore, 1) := by decide +kernel
theorem dX3_setStruck_25 : decode cX3_setStruck 25 = .ok (.aload_n 0, 1) := by decide +kernel
theorem dX3_setStruck_26 : decode cX3_setStruck 26 = .ok (.dup, 1) := by decide +kernel
theorem dX3_setStruck_27 : decode cX3_setStruck 27 = .ok (.getfield 32, 3) := by decide +kernel
theorem dX3_setStruck_30 : decode cX3_setStruck 30 = .ok (.iload_n 2, 1) := by decide +kernel
theorem dX3_setStruck_31 : decode cX3_setStruck 31 = .ok (.ifCond .eq 7, 3) := by decide +kernel
theorem dX3_setStruck_34 : decode cX3_setStruck 34 = .ok (.iconst 1, 1) := by decide +kernel
theorem dX3_setStruck_35 : decode cX3_setStruck 35 = .ok (.goto 4, 3) := by decide +kernel
theorem dX3_setStruck_38 : decode cX3_setStruck 38 = .ok (.iconst (-1), 1) := by decide +kernel
theorem dX3_setStruck_39 : decode cX3_setStruck 39 = .ok (.iadd, 1) := by decide +kernel
theorem dX3_setStruck_40 : decode cX3_setStruck 40 = .ok (.putfield 32, 3) := by decide +kernel
theorem dX3_setStruck_43 : decode cX3_setStruck 43 = .ok (.return_, 1) := by decide +kernel
set_option maxRecDepth 20000 in
theorem ggX4_init_X8_init : GoodIn wsX4_init wsX8_init := goodIn_r _ [9, 10, 2, 3, 11, 12, 13, 14] (by decide +kernel) (by decide +kernel)
set_option maxRecDepth 20000 in
theorem gX4_init_X8_init_n11 : GoodIn wsX4_init (wsX8_init) := ggX4_init_X8_init
theorem dX4_init_0 : decode cX4_init 0 = .ok (.aload_n 0, 1) := by decide +kernel
theorem dX4_init_1 : decode cX4_init 1 = .ok (.invokespecial 3, 3) := by decide +kernel
theorem dX4_init_4 : decode cX4_init 4 = .ok (.aload_n 0, 1) := by decide +kernel
theorem dX4_init_5 : decode cX4_init 5 = .ok (.new 9, 3) := by decide +kernel
theorem dX4_init_8 : decode cX4_init 8 = .ok (.dup, 1) := by decide +kernel
theorem dX4_init_9 : decode cX4_init 9 = .ok (.invokespecial 11, 3) := by decide +kernel
theorem dX4_init_12 : decode cX4_init 12 = .ok (.putfield 12, 3) := by decide +kernel
theorem dX4_init_15 : decode cX4_init 15 = .ok (.return_, 1) := by decide +kernel
set_option maxRecDepth 20000 in
theorem ggX4_readAt_X4_numeralsEnd : GoodIn wsX4_readAt wsX4_numeralsEnd := goodIn_r _ [8, 9, 10, 11, 12, 13, 14, 15, 16, 17, 18, 19, 20, 21, 22, 23, 99, 100] (by decide +kernel) (by decide +kernel)
set_option maxRecDepth 20000 in
theorem gX4_readAt_X4_numeralsEnd : GoodIn wsX4_readAt (va_wsS RX4 30 yX4_numeralsEnd wsX4_numeralsEnd) := goodIn_app (goodIn_of _ (by decide +kernel)) ggX4_readAt_X4_numeralsEnd
set_option maxRecDepth 20000 in
theorem ggX4_readAt_X4_failAt : GoodIn wsX4_readAt wsX4_failAt := goodIn_r _ [27, 1, 2, 94, 95, 96, 97, 98] (by decide +kernel) (by decide +kernel)
set_option maxRecDepth 20000 in
theorem gX4_readAt_X4_failAt : GoodIn wsX4_readAt (wsV RX4 34 RX4 yX4_failAt wsX4_failAt) := goodIn_app (goodIn_of _ (by decide +kernel)) ggX4_readAt_X4_failAt
set_option maxRecDepth 20000 in
theorem ggX4_readAt_X8_byteAt : GoodIn wsX4_readAt wsX8_byteAt := goodIn_r _ [14, 15, 16, 99, 100] (by decide +kernel) (by decide +kernel)
set_option maxRecDepth 20000 in
theorem gX4_readAt_X8_byteAt : GoodIn wsX4_readAt (wsV RX4 38 RX8 yX8_byteAt wsX8_byteAt) := goodIn_app (goodIn_of _ (by decide +kernel)) ggX4_readAt_X8_byteAt
set_option maxRecDepth 20000 in
theorem ggX4_readAt_X4_capitalsEnd : GoodIn wsX4_readAt wsX4_capitalsEnd := goodIn_r _ [30, 9, 10, 11, 12, 13, 14, 15, 16, 99, 100] (by decide +kernel) (by decide +kernel)
set_option maxRecDepth 20000 in
theorem gX4_readAt_X4_capitalsEnd : GoodIn wsX4_readAt (va_wsS RX4 45 yX4_capitalsEnd wsX4_capitalsEnd) := goodIn_app (goodIn_of _ (by decide +kernel)) ggX4_readAt_X4_capitalsEnd
set_option maxRecDepth 20000 in
theorem ggX4_readAt_X1_numberIn : GoodIn wsX4_readAt wsX1_numberIn := goodIn_r _ [33, 34, 35, 19, 36, 37, 11, 12, 13, 14, 15, 16, 21, 22, 23, 38, 39, 40, 99, 100] (by decide +kernel) (by decide +kernel)
set_option maxRecDepth 20000 in
theorem gX4_readAt_X1_numberIn : GoodIn wsX4_readAt (va_wsS RX4 49 yX1_numberIn wsX1_numberIn) := goodIn_app (goodIn_of _ (by decide +kernel)) ggX4_readAt_X1_numberIn
set_option maxRecDepth 20000 in
theorem ggX4_readAt_X4_meant : GoodIn wsX4_readAt wsX4_meant := goodIn_r _ [44, 4, 10, 11, 12, 13, 14, 15, 16, 45, 46, 47, 48, 49, 50, 51, 52, 53, 54, 94, 95, 96, 97, 98, 99, 100] (by decide +kernel) (by decide +kernel)
set_option maxRecDepth 20000 in
theorem gX4_readAt_X4_meant : GoodIn wsX4_readAt (wsV RX4 55 RX4 yX4_meant wsX4_meant) := goodIn_app (goodIn_of _ (by decide +kernel)) ggX4_readAt_X4_meant
set_option maxRecDepth 20000 in
theorem ggX4_readAt_X4_isAsWritten : GoodIn wsX4_readAt wsX4_isAsWritten := goodIn_r _ [58, 59, 9, 3, 4, 60, 61, 19, 62, 63, 64, 47, 65, 66, 67, 68, 69, 70, 71, 72, 73, 74, 13, 75, 15, 16, 76, 77, 78, 79, 80, 81, 82, 83, 84, 85, 86, 87, 88, 89, 90, 91, 92, 93, 11, 12, 14, 94, 95, 96, 97, 98, 99, 100] (by decide +kernel) (by decide +kernel)
set_option maxRecDepth 20000 in
theorem gX4_readAt_X4_isAsWritten : GoodIn wsX4_readAt (wsV RX4 58 RX4 yX4_isAsWritten wsX4_isAsWritten) := goodIn_app (goodIn_of _ (by decide +kernel)) ggX4_readAt_X4_isAsWritten
theorem dX4_readAt_0 : decode cX4_readAt 0 = .ok (.aload_n 0, 1) := by decide +kernel
theorem dX4_readAt_1 : decode cX4_readAt 1 = .ok (.iconst 0, 1) := by decide +kernel
theorem dX4_readAt_2 : decode cX4_readAt 2 = .ok (.putfield 18, 3) := by decide +kernel
theorem dX4_readAt_5 : decode cX4_readAt 5 = .ok (.aload_n 0, 1) := by decide +kernel
theorem dX4_readAt_6 : decode cX4_readAt 6 = .ok (.iconst (-1), 1) := by decide +kernel
theorem dX4_readAt_7 : decode cX4_readAt 7 = .ok (.putfield 22, 3) := by decide +kernel
theorem dX4_readAt_10 : decode cX4_readAt 10 = .ok (.aload_n 0, 1) := by decide +kernel
theorem dX4_readAt_11 : decode cX4_readAt 11 = .ok (.iconst 0, 1) := by decide +kernel
theorem dX4_readAt_12 : decode cX4_readAt 12 = .ok (.putfield 27, 3) := by decide +kernel
theorem dX4_readAt_15 : decode cX4_readAt 15 = .ok (.aload_n 1, 1) := by decide +kernel
theorem dX4_readAt_16 : decode cX4_readAt 16 = .ok (.iload_n 2, 1) := by decide +kernel
theorem dX4_readAt_17 : decode cX4_readAt 17 = .ok (.iload_n 3, 1) := by decide +kernel
theorem dX4_readAt_18 : decode cX4_readAt 18 = .ok (.invokestatic 30, 3) := by decide +kernel
theorem dX4_readAt_21 : decode cX4_readAt 21 = .ok (.istore 4, 2) := by decide +kernel
theorem dX4_readAt_23 : decode cX4_readAt 23 = .ok (.iload 4, 2) := by decide +kernel
theorem dX4_readAt_25 : decode cX4_readAt 25 = .ok (.iload_n 2, 1) := by decide +kernel
theorem dX4_readAt_26 : decode cX4_readAt 26 = .ok (.if_icmp .ne 10, 3) := by decide +kernel
theorem dX4_readAt_29 : decode cX4_readAt 29 = .ok (.aload_n 0, 1) := by decide +kernel
theorem dX4_readAt_30 : decode cX4_readAt 30 = .ok (.iload_n 2, 1) := by decide +kernel
theorem dX4_readAt_31 : decode cX4_readAt 31 = .ok (.iconst 1, 1) := by decide +kernel
theorem dX4_readAt_32 : decode cX4_readAt 32 = .ok (.invokevirtual 34, 3) := by decide +kernel
theorem dX4_readAt_35 : decode cX4_readAt 35 = .ok (.return_, 1) := by decide +kernel
theorem dX4_readAt_36 : decode cX4_readAt 36 = .ok (.iload_n 3, 1) := by decide +kernel
theorem dX4_readAt_37 : decode cX4_readAt 37 = .ok (.ifCond .eq 18, 3) := by decide +kernel
theorem dX4_readAt_40 : decode cX4_readAt 40 = .ok (.aload_n 1, 1) := by decide +kernel
theorem dX4_readAt_41 : decode cX4_readAt 41 = .ok (.iload 4, 2) := by decide +kernel
theorem dX4_readAt_43 : decode cX4_readAt 43 = .ok (.invokevirtual 38, 3) := by decide +kernel
theorem dX4_readAt_46 : decode cX4_readAt 46 = .ok (.bipush 45, 2) := by decide +kernel
theorem dX4_readAt_48 : decode cX4_readAt 48 = .ok (.if_icmp .ne 7, 3) := by decide +kernel
theorem dX4_readAt_51 : decode cX4_readAt 51 = .ok (.iconst 1, 1) := by decide +kernel
theorem dX4_readAt_52 : decode cX4_readAt 52 = .ok (.goto 4, 3) := by decide +kernel
theorem dX4_readAt_55 : decode cX4_readAt 55 = .ok (.iconst 0, 1) := by decide +kernel
theorem dX4_readAt_56 : decode cX4_readAt 56 = .ok (.istore 5, 2) := by decide +kernel
theorem dX4_readAt_58 : decode cX4_readAt 58 = .ok (.iload 5, 2) := by decide +kernel
theorem dX4_readAt_60 : decode cX4_readAt 60 = .ok (.ifCond .eq 10, 3) := by decide +kernel
theorem dX4_readAt_63 : decode cX4_readAt 63 = .ok (.iload 4, 2) := by decide +kernel
theorem dX4_readAt_65 : decode cX4_readAt 65 = .ok (.iconst 1, 1) := by decide +kernel
theorem dX4_readAt_66 : decode cX4_readAt 66 = .ok (.iadd, 1) := by decide +kernel
theorem dX4_readAt_67 : decode cX4_readAt 67 = .ok (.goto 5, 3) := by decide +kernel
theorem dX4_readAt_70 : decode cX4_readAt 70 = .ok (.iload 4, 2) := by decide +kernel
theorem dX4_readAt_72 : decode cX4_readAt 72 = .ok (.istore 6, 2) := by decide +kernel
theorem dX4_readAt_74 : decode cX4_readAt 74 = .ok (.aload_n 0, 1) := by decide +kernel
theorem dX4_readAt_75 : decode cX4_readAt 75 = .ok (.iload 6, 2) := by decide +kernel
theorem dX4_readAt_77 : decode cX4_readAt 77 = .ok (.putfield 42, 3) := by decide +kernel
theorem dX4_readAt_80 : decode cX4_readAt 80 = .ok (.iload 5, 2) := by decide +kernel
theorem dX4_readAt_82 : decode cX4_readAt 82 = .ok (.ifCond .ne 7, 3) := by decide +kernel
theorem dX4_readAt_85 : decode cX4_readAt 85 = .ok (.iload_n 3, 1) := by decide +kernel
theorem dX4_readAt_86 : decode cX4_readAt 86 = .ok (.ifCond .ne 13, 3) := by decide +kernel
theorem dX4_readAt_89 : decode cX4_readAt 89 = .ok (.aload_n 0, 1) := by decide +kernel
theorem dX4_readAt_90 : decode cX4_readAt 90 = .ok (.aload_n 1, 1) := by decide +kernel
theorem dX4_readAt_91 : decode cX4_readAt 91 = .ok (.iload 6, 2) := by decide +kernel
theorem dX4_readAt_93 : decode cX4_readAt 93 = .ok (.invokestatic 45, 3) := by decide +kernel
theorem dX4_readAt_96 : decode cX4_readAt 96 = .ok (.putfield 42, 3) := by decide +kernel
theorem dX4_readAt_99 : decode cX4_readAt 99 = .ok (.iload 5, 2) := by decide +kernel
theorem dX4_readAt_101 : decode cX4_readAt 101 = .ok (.ifCond .eq 20, 3) := by decide +kernel
theorem dX4_readAt_104 : decode cX4_readAt 104 = .ok (.aload_n 0, 1) := by decide +kernel
theorem dX4_readAt_105 : decode cX4_readAt 105 = .ok (.getfield 42, 3) := by decide +kernel
theorem dX4_readAt_108 : decode cX4_readAt 108 = .ok (.iload 6, 2) := by decide +kernel
theorem dX4_readAt_110 : decode cX4_readAt 110 = .ok (.if_icmp .ne 11, 3) := by decide +kernel
theorem dX4_readAt_113 : decode cX4_readAt 113 = .ok (.aload_n 0, 1) := by decide +kernel
theorem dX4_readAt_114 : decode cX4_readAt 114 = .ok (.iload 6, 2) := by decide +kernel
theorem dX4_readAt_116 : decode cX4_readAt 116 = .ok (.iconst 1, 1) := by decide +kernel
theorem dX4_readAt_117 : decode cX4_readAt 117 = .ok (.invokevirtual 34, 3) := by decide +kernel
theorem dX4_readAt_120 : decode cX4_readAt 120 = .ok (.return_, 1) := by decide +kernel
theorem dX4_readAt_121 : decode cX4_readAt 121 = .ok (.aload_n 0, 1) := by decide +kernel
theorem dX4_readAt_122 : decode cX4_readAt 122 = .ok (.aload_n 0, 1) := by decide +kernel
theorem dX4_readAt_123 : decode cX4_readAt 123 = .ok (.aload_n 1, 1) := by decide +kernel
theorem dX4_readAt_124 : decode cX4_readAt 124 = .ok (.iload 6, 2) := by decide +kernel
theorem dX4_readAt_126 : decode cX4_readAt 126 = .ok (.aload_n 1, 1) := by decide +kernel
theorem dX4_readAt_127 : decode cX4_readAt 127 = .ok (.iload_n 2, 1) := by decide +kernel
theorem dX4_readAt_128 : decode cX4_readAt 128 = .ok (.iload 4, 2) := by decide +kernel
theorem dX4_readAt_130 : decode cX4_readAt 130 = .ok (.iload_n 3, 1) := by decide +kernel
theorem dX4_readAt_131 : decode cX4_readAt 131 = .ok (.invokestatic 49, 3) := by decide +kernel
theorem dX4_readAt_134 : decode cX4_readAt 134 = .ok (.invokevirtual 55, 3) := by decide +kernel
theorem dX4_readAt_137 : decode cX4_readAt 137 = .ok (.putfield 27, 3) := by decide +kernel
theorem dX4_readAt_140 : decode cX4_readAt 140 = .ok (.aload_n 0, 1) := by decide +kernel
theorem dX4_readAt_141 : decode cX4_readAt 141 = .ok (.getfield 27, 3) := by decide +kernel
theorem dX4_readAt_144 : decode cX4_readAt 144 = .ok (.ifCond .eq 13, 3) := by decide +kernel
theorem dX4_readAt_147 : decode cX4_readAt 147 = .ok (.aload_n 0, 1) := by decide +kernel
theorem dX4_readAt_148 : decode cX4_readAt 148 = .ok (.aload_n 1, 1) := by decide +kernel
theorem dX4_readAt_149 : decode cX4_readAt 149 = .ok (.iload_n 2, 1) := by decide +kernel
theorem dX4_readAt_150 : decode cX4_readAt 150 = .ok (.iload_n 3, 1) := by decide +kernel
theorem dX4_readAt_151 : decode cX4_readAt 151 = .ok (.invokevirtual 58, 3) := by decide +kernel
theorem dX4_readAt_154 : decode cX4_readAt 154 = .ok (.ifCond .ne 9, 3) := by decide +kernel
theorem dX4_readAt_157 : decode cX4_readAt 157 = .ok (.aload_n 0, 1) := by decide +kernel
theorem dX4_readAt_158 : decode cX4_readAt 158 = .ok (.iload_n 2, 1) := by decide +kernel
theorem dX4_readAt_159 : decode cX4_readAt 159 = .ok (.iconst 2, 1) := by decide +kernel
theorem dX4_readAt_160 : decode cX4_readAt 160 = .ok (.invokevirtual 34, 3) := by decide +kernel
theorem dX4_readAt_163 : decode cX4_readAt 163 = .ok (.return_, 1) := by decide +kernel
set_option maxRecDepth 20000 in
theorem ggX4_isAsWritten_X1_writeLabel : GoodIn wsX4_isAsWritten wsX1_writeLabel := goodIn_r _ [8, 9, 10, 11, 12, 13, 14, 7, 15, 16, 17, 18, 19, 20, 21, 22, 23, 24, 25, 26, 27, 28, 29, 30, 31, 32, 33, 34, 35, 36, 37, 38, 52, 53] (by decide +kernel) (by decide +kernel)
set_option maxRecDepth 20000 in
theorem gX4_isAsWritten_X1_writeLabel : GoodIn wsX4_isAsWritten (va_wsS RX4 65 yX1_writeLabel wsX1_writeLabel) := goodIn_app (goodIn_of _ (by decide +kernel)) ggX4_isAsWritten_X1_writeLabel
set_option maxRecDepth 20000 in
theorem ggX4_isAsWritten_X8_isPart : GoodIn wsX4_isAsWritten wsX8_isPart := goodIn_r _ [42, 24, 43, 44, 45, 22, 46, 25, 52, 53] (by decide +kernel) (by decide +kernel)
set_option maxRecDepth 20000 in
theorem gX4_isAsWritten_X8_isPart : GoodIn wsX4_isAsWritten (wsV RX4 69 RX8 yX8_isPart wsX8_isPart) := goodIn_app (goodIn_of _ (by decide +kernel)) ggX4_isAsWritten_X8_isPart
theorem dX4_isAsWritten_0 : decode cX4_isAsWritten 0 = .ok (.aload_n 0, 1) := by decide +kernel
theorem dX4_isAsWritten_1 : decode cX4_isAsWritten 1 = .ok (.getfield 12, 3) := by decide +kernel
theorem dX4_isAsWritten_4 : decode cX4_isAsWritten 4 = .ok (.iconst 0, 1) := by decide +kernel
theorem dX4_isAsWritten_5 : decode cX4_isAsWritten 5 = .ok (.putfield 62, 3) := by decide +kernel
theorem dX4_isAsWritten_8 : decode cX4_isAsWritten 8 = .ok (.aload_n 0, 1) := by decide +kernel
theorem dX4_isAsWritten_9 : decode cX4_isAsWritten 9 = .ok (.getfield 12, 3) := by decide +kernel
theorem dX4_isAsWritten_12 : decode cX4_isAsWritten 12 = .ok (.iload_n 3, 1) := by decide +kernel
theorem dX4_isAsWritten_13 : decode cX4_isAsWritten 13 = .ok (.aload_n 0, 1) := by decide +kernel
theorem dX4_isAsWritten_14 : decode cX4_isAsWritten 14 = .ok (.getfield 27, 3) := by decide +kernel
theorem dX4_isAsWritten_17 : decode cX4_isAsWritten 17 = .ok (.invokestatic 65, 3) := by decide +kernel
theorem dX4_isAsWritten_20 : decode cX4_isAsWritten 20 = .ok (.aload_n 1, 1) := by decide +kernel
theorem dX4_isAsWritten_21 : decode cX4_isAsWritten 21 = .ok (.iload_n 2, 1) := by decide +kernel
theorem dX4_isAsWritten_22 : decode cX4_isAsWritten 22 = .ok (.aload_n 0, 1) := by decide +kernel
theorem dX4_isAsWritten_23 : decode cX4_isAsWritten 23 = .ok (.getfield 42, 3) := by decide +kernel
theorem dX4_isAsWritten_26 : decode cX4_isAsWritten 26 = .ok (.aload_n 0, 1) := by decide +kernel
theorem dX4_isAsWritten_27 : decode cX4_isAsWritten 27 = .ok (.getfield 12, 3) := by decide +kernel
theorem dX4_isAsWritten_30 : decode cX4_isAsWritten 30 = .ok (.invokevirtual 69, 3) := by decide +kernel
theorem dX4_isAsWritten_33 : decode cX4_isAsWritten 33 = .ok (.ireturn, 1) := by decide +kernel
theorem dX4_failAt_0 : decode cX4_failAt 0 = .ok (.aload_n 0, 1) := by decide +kernel
theorem dX4_failAt_1 : decode cX4_failAt 1 = .ok (.iload_n 2, 1) := by decide +kernel
theorem dX4_failAt_2 : decode cX4_failAt 2 = .ok (.putfield 18, 3) := by decide +kernel
theorem dX4_failAt_5 : decode cX4_failAt 5 = .ok (.aload_n 0, 1) := by decide +kernel
theorem dX4_failAt_6 : decode cX4_failAt 6 = .ok (.iload_n 1, 1) := by decide +kernel
theorem dX4_failAt_7 : decode cX4_failAt 7 = .ok (.putfield 22, 3) := by decide +kernel
theorem dX4_failAt_10 : decode cX4_failAt 10 = .ok (.return_, 1) := by decide +kernel
set_option maxRecDepth 20000 in
theorem ggX4_meant_X8_byteAt : GoodIn wsX4_meant wsX8_byteAt := goodIn_r _ [6, 7, 8, 24, 25] (by decide +kernel) (by decide +kernel)
set_option maxRecDepth 20000 in
theorem gX4_meant_X8_byteAt : GoodIn wsX4_meant (wsV RX4 38 RX8 yX8_byteAt wsX8_byteAt) := goodIn_app (goodIn_of _ (by decide +kernel)) ggX4_meant_X8_byteAt
set_option maxRecDepth 20000 in
theorem ggX4_meant_X5_plain : GoodIn wsX4_meant wsX5_plain := goodIn_r _ [12] (by decide +kernel) (by decide +kernel)
set_option maxRecDepth 20000 in
theorem gX4_meant_X5_plain : GoodIn wsX4_meant (va_wsS RX4 73 yX5_plain wsX5_plain) := goodIn_app (goodIn_of _ (by decide +kernel)) ggX4_meant_X5_plain
set_option maxRecDepth 20000 in
theorem ggX4_meant_X5_withSuffix : GoodIn wsX4_meant wsX5_withSuffix := goodIn_r _ [15, 16, 17, 11, 18] (by decide +kernel) (by decide +kernel)
set_option maxRecDepth 20000 in
theorem gX4_meant_X5_withSuffix : GoodIn wsX4_meant (va_wsS RX4 76 yX5_withSuffix wsX5_withSuffix) := goodIn_app (goodIn_of _ (by decide +kernel)) ggX4_meant_X5_withSuffix
theorem dX4_meant_0 : decode cX4_meant 0 = .ok (.aload_n 0, 1) := by decide +kernel
theorem dX4_meant_1 : decode cX4_meant 1 = .ok (.getfield 42, 3) := by decide +kernel
theorem dX4_meant_4 : decode cX4_meant 4 = .ok (.iload_n 2, 1) := by decide +kernel
theorem dX4_meant_5 : decode cX4_meant 5 = .ok (.isub, 1) := by decide +kernel
theorem dX4_meant_6 : decode cX4_meant 6 = .ok (.iconst 4, 1) := by decide +kernel
theorem dX4_meant_7 : decode cX4_meant 7 = .ok (.if_icmp .le 5, 3) := by decide +kernel
theorem dX4_meant_10 : decode cX4_meant 10 = .ok (.iconst 0, 1) := by decide +kernel
theorem dX4_meant_11 : decode cX4_meant 11 = .ok (.ireturn, 1) := by decide +kernel
theorem dX4_meant_12 : decode cX4_meant 12 = .ok (.iconst 0, 1) := by decide +kernel
theorem dX4_meant_13 : decode cX4_meant 13 = .ok (.istore 4, 2) := by decide +kernel
theorem dX4_meant_15 : decode cX4_meant 15 = .ok (.iload_n 2, 1) := by decide +kernel
theorem dX4_meant_16 : decode cX4_meant 16 = .ok (.istore 5, 2) := by decide +kernel
theorem dX4_meant_18 : decode cX4_meant 18 = .ok (.iload 5, 2) := by decide +kernel
theorem dX4_meant_20 : decode cX4_meant 20 = .ok (.aload_n 0, 1) := by decide +kernel
theorem dX4_meant_21 : decode cX4_meant 21 = .ok (.getfield 42, 3) := by decide +kernel
theorem dX4_meant_24 : decode cX4_meant 24 = .ok (.if_icmp .ge 23, 3) := by decide +kernel
theorem dX4_meant_27 : decode cX4_meant 27 = .ok (.iload 4, 2) := by decide +kernel
theorem dX4_meant_29 : decode cX4_meant 29 = .ok (.bipush 8, 2) := by decide +kernel
theorem dX4_meant_31 : decode cX4_meant 31 = .ok (.ishl, 1) := by decide +kernel
theorem dX4_meant_32 : decode cX4_meant 32 = .ok (.aload_n 1, 1) := by decide +kernel
theorem dX4_meant_33 : decode cX4_meant 33 = .ok (.iload 5, 2) := by decide +kernel
theorem dX4_meant_35 : decode cX4_meant 35 = .ok (.invokevirtual 38, 3) := by decide +kernel
theorem dX4_meant_38 : decode cX4_meant 38 = .ok (.ior, 1) := by decide +kernel
theorem dX4_meant_39 : decode cX4_meant 39 = .ok (.istore 4, 2) := by decide +kernel
theorem dX4_meant_41 : decode cX4_meant 41 = .ok (.iinc 5 1, 3) := by decide +kernel
theorem dX4_meant_44 : decode cX4_meant 44 = .ok (.goto (-26), 3) := by decide +kernel
theorem dX4_meant_47 : decode cX4_meant 47 = .ok (.iload_n 3, 1) := by decide +kernel
theorem dX4_meant_48 : decode cX4_meant 48 = .ok (.invokestatic 73, 3) := by decide +kernel
theorem dX4_meant_51 : decode cX4_meant 51 = .ok (.iload 4, 2) := by decide +kernel
theorem dX4_meant_53 : decode cX4_meant 53 = .ok (.invokestatic 76, 3) := by decide +kernel
theorem dX4_meant_56 : decode cX4_meant 56 = .ok (.ireturn, 1) := by decide +kernel
set_option maxRecDepth 20000 in
theorem ggX4_numeralsEnd_X8_byteAt : GoodIn wsX4_numeralsEnd wsX8_byteAt := goodIn_r _ [6, 7, 8, 16, 17] (by decide +kernel) (by decide +kernel)
set_option maxRecDepth 20000 in
theorem gX4_numeralsEnd_X8_byteAt : GoodIn wsX4_numeralsEnd (wsV RX4 38 RX8 yX8_byteAt wsX8_byteAt) := goodIn_app (goodIn_of _ (by decide +kernel)) ggX4_numeralsEnd_X8_byteAt
set_option maxRecDepth 20000 in
theorem ggX4_numeralsEnd_X1_isNumeral : GoodIn wsX4_numeralsEnd wsX1_isNumeral := goodIn_r _ [12, 13, 14, 11, 15] (by decide +kernel) (by decide +kernel)
set_option maxRecDepth 20000 in
theorem gX4_numeralsEnd_X1_isNumeral : GoodIn wsX4_numeralsEnd (va_wsS RX4 80 yX1_isNumeral wsX1_isNumeral) := goodIn_app (goodIn_of _ (by decide +kernel)) ggX4_numeralsEnd_X1_isNumeral
theorem dX4_numeralsEnd_0 : decode cX4_numeralsEnd 0 = .ok (.iload_n 1, 1) := by decide +kernel
theorem dX4_numeralsEnd_1 : decode cX4_numeralsEnd 1 = .ok (.istore_n 3, 1) := by decide +kernel
theorem dX4_numeralsEnd_2 : decode cX4_numeralsEnd 2 = .ok (.iload_n 3, 1) := by decide +kernel
theorem dX4_numeralsEnd_3 : decode cX4_numeralsEnd 3 = .ok (.aload_n 0, 1) := by decide +kernel
theorem dX4_numeralsEnd_4 : decode cX4_numeralsEnd 4 = .ok (.getfield 62, 3) := by decide +kernel
theorem dX4_numeralsEnd_7 : decode cX4_numeralsEnd 7 = .ok (.if_icmp .ge 21, 3) := by decide +kernel
theorem dX4_numeralsEnd_10 : decode cX4_numeralsEnd 10 = .ok (.iload_n 2, 1) := by decide +kernel
theorem dX4_numeralsEnd_11 : decode cX4_numeralsEnd 11 = .ok (.aload_n 0, 1) := by decide +kernel
theorem dX4_numeralsEnd_12 : decode cX4_numeralsEnd 12 = .ok (.iload_n 3, 1) := by decide +kernel
theorem dX4_numeralsEnd_13 : decode cX4_numeralsEnd 13 = .ok (.invokevirtual 38, 3) := by decide +kernel
theorem dX4_numeralsEnd_16 : decode cX4_numeralsEnd 16 = .ok (.invokestatic 80, 3) := by decide +kernel
theorem dX4_numeralsEnd_19 : decode cX4_numeralsEnd 19 = .ok (.ifCond .eq 9, 3) := by decide +kernel
theorem dX4_numeralsEnd_22 : decode cX4_numeralsEnd 22 = .ok (.iinc 3 1, 3) := by decide +kernel
theorem dX4_numeralsEnd_25 : decode cX4_numeralsEnd 25 = .ok (.goto (-23), 3) := by decide +kernel
theorem dX4_numeralsEnd_28 : decode cX4_numeralsEnd 28 = .ok (.iload_n 3, 1) := by decide +kernel
theorem dX4_numeralsEnd_29 : decode cX4_numeralsEnd 29 = .ok (.ireturn, 1) := by decide +kernel
set_option maxRecDepth 20000 in
theorem ggX4_capitalsEnd_X8_byteAt : GoodIn wsX4_capitalsEnd wsX8_byteAt := goodIn_r _ [6, 7, 8, 9, 10] (by decide +kernel) (by decide +kernel)
set_option maxRecDepth 20000 in
theorem gX4_capitalsEnd_X8_byteAt : GoodIn wsX4_capitalsEnd (wsV RX4 38 RX8 yX8_byteAt wsX8_byteAt) := goodIn_app (goodIn_of _ (by decide +kernel)) ggX4_capitalsEnd_X8_byteAt
theorem dX4_capitalsEnd_0 : decode cX4_capitalsEnd 0 = .ok (.iload_n 1, 1) := by decide +kernel
theorem dX4_capitalsEnd_1 : decode cX4_capitalsEnd 1 = .ok (.istore_n 2, 1) := by decide +kernel
theorem dX4_capitalsEnd_2 : decode cX4_capitalsEnd 2 = .ok (.iload_n 2, 1) := by decide +kernel
theorem dX4_capitalsEnd_3 : decode cX4_capitalsEnd 3 = .ok (.aload_n 0, 1) := by decide +kernel
theorem dX4_capitalsEnd_4 : decode cX4_capitalsEnd 4 = .ok (.getfield 62, 3) := by decide +kernel
theorem dX4_capitalsEnd_7 : decode cX4_capitalsEnd 7 = .ok (.if_icmp .ge 29, 3) := by decide +kernel
theorem dX4_capitalsEnd_10 : decode cX4_capitalsEnd 10 = .ok (.aload_n 0, 1) := by decide +kernel
theorem dX4_capitalsEnd_11 : decode cX4_capitalsEnd 11 = .ok (.iload_n 2, 1) := by decide +kernel
theorem dX4_capitalsEnd_12 : decode cX4_capitalsEnd 12 = .ok (.invokevirtual 38, 3) := by decide +kernel
theorem dX4_capitalsEnd_15 : decode cX4_capitalsEnd 15 = .ok (.bipush 65, 2) := by decide +kernel
theorem dX4_capitalsEnd_17 : decode cX4_capitalsEnd 17 = .ok (.if_icmp .lt 19, 3) := by decide +kernel
theorem dX4_capitalsEnd_20 : decode cX4_capitalsEnd 20 = .ok (.aload_n 0, 1) := by decide +kernel
theorem dX4_capitalsEnd_21 : decode cX4_capitalsEnd 21 = .ok (.iload_n 2, 1) := by decide +kernel
theorem dX4_capitalsEnd_22 : decode cX4_capitalsEnd 22 = .ok (.invokevirtual 38, 3) := by decide +kernel
theorem dX4_capitalsEnd_25 : decode cX4_capitalsEnd 25 = .ok (.bipush 90, 2) := by decide +kernel
theorem dX4_capitalsEnd_27 : decode cX4_capitalsEnd 27 = .ok (.if_icmp .gt 9, 3) := by decide +kernel
theorem dX4_capitalsEnd_30 : decode cX4_capitalsEnd 30 = .ok (.iinc 2 1, 3) := by decide +kernel
theorem dX4_capitalsEnd_33 : decode cX4_capitalsEnd 33 = .ok (.goto (-31), 3) := by decide +kernel
theorem dX4_capitalsEnd_36 : decode cX4_capitalsEnd 36 = .ok (.iload_n 2, 1) := by decide +kernel
theorem dX4_capitalsEnd_37 : decode cX4_capitalsEnd 37 = .ok (.ireturn, 1) := by decide +kernel
theorem dX5_plain_0 : decode cX5_plain 0 = .ok (.iload_n 0, 1) := by decide +kernel
theorem dX5_plain_1 : decode cX5_plain 1 = .ok (.iconst 1, 1) := by decide +kernel
theorem dX5_plain_2 : decode cX5_plain 2 = .ok (.if_icmp .lt 10, 3) := by decide +kernel
theorem dX5_plain_5 : decode cX5_plain 5 = .ok (.iload_n 0, 1) := by decide +kernel
theorem dX5_plain_6 : decode cX5_plain 6 = .ok (.sipush 999, 3) := by decide +kernel
theorem dX5_plain_9 : decode cX5_plain 9 = .ok (.if_icmp .le 7, 3) := by decide +kernel
theorem dX5_plain_12 : decode cX5_plain 12 = .ok (.iconst 0, 1) := by decide +kernel
theorem dX5_plain_13 : decode cX5_plain 13 = .ok (.goto 7, 3) := by decide +kernel
theorem dX5_plain_16 : decode cX5_plain 16 = .ok (.iload_n 0, 1) := by decide +kernel
theorem dX5_plain_17 : decode cX5_plain 17 = .ok (.bipush 20, 2) := by decide +kernel
theorem dX5_plain_19 : decode cX5_plain 19 = .ok (.ishl, 1) := by decide +kernel
theorem dX5_plain_20 : decode cX5_plain 20 = .ok (.ireturn, 1) := by decide +kernel
theorem dX5_numberOf_0 : decode cX5_numberOf 0 = .ok (.iload_n 0, 1) := by decide +kernel
theorem dX5_numberOf_1 : decode cX5_numberOf 1 = .ok (.bipush 20, 2) := by decide +kernel
theorem dX5_numberOf_3 : decode cX5_numberOf 3 = .ok (.ishr, 1) := by decide +kernel
theorem dX5_numberOf_4 : decode cX5_numberOf 4 = .ok (.ireturn, 1) := by decide +kernel
theorem dX5_letterOf_0 : decode cX5_letterOf 0 = .ok (.iload_n 0, 1) := by decide +kernel
theorem dX5_letterOf_1 : decode cX5_letterOf 1 = .ok (.bipush 20, 2) := by decide +kernel
theorem dX5_letterOf_3 : decode cX5_letterOf 3 = .ok (.iconst 5, 1) := by decide +kernel
theorem dX5_letterOf_4 : decode cX5_letterOf 4 = .ok (.iload_n 1, 1) := by decide +kernel
theorem dX5_letterOf_5 : decode cX5_letterOf 5 = .ok (.iconst 1, 1) := by decide +kernel
theorem dX5_letterOf_6 : decode cX5_letterOf 6 = .ok (.iadd, 1) := by decide +kernel
theorem dX5_letterOf_7 : decode cX5_letterOf 7 = .ok (.imul, 1) := by decide +kernel
theorem dX5_letterOf_8 : decode cX5_letterOf 8 = .ok (.isub, 1) := by decide +kernel
theorem dX5_letterOf_9 : decode cX5_letterOf 9 = .ok (.ishr, 1) := by decide +kernel
theorem dX5_letterOf_10 : decode cX5_letterOf 10 = .ok (.bipush 31, 2) := by decide +kernel
theorem dX5_letterOf_12 : decode cX5_letterOf 12 = .ok (.iand, 1) := by decide +kernel
theorem dX5_letterOf_13 : decode cX5_letterOf 13 = .ok (.ireturn, 1) := by decide +kernel
theorem dX5_setLetter_0 : decode cX5_setLetter 0 = .ok (.bipush 20, 2) := by decide +kernel
theorem dX5_setLetter_2 : decode cX5_setLetter 2 = .ok (.iconst 5, 1) := by decide +kernel
theorem dX5_setLetter_3 : decode cX5_setLetter 3 = .ok (.iload_n 1, 1) := by decide +kernel
theorem dX5_setLetter_4 : decode cX5_setLetter 4 = .ok (.iconst 1, 1) := by decide +kernel
theorem dX5_setLetter_5 : decode cX5_setLetter 5 = .ok (.iadd, 1) := by decide +kernel
theorem dX5_setLetter_6 : decode cX5_setLetter 6 = .ok (.imul, 1) := by decide +kernel
theorem dX5_setLetter_7 : decode cX5_setLetter 7 = .ok (.isub, 1) := by decide +kernel
theorem dX5_setLetter_8 : decode cX5_setLetter 8 = .ok (.istore_n 3, 1) := by decide +kernel
theorem dX5_setLetter_9 : decode cX5_setLetter 9 = .ok (.iload_n 0, 1) := by decide +kernel
theorem dX5_setLetter_10 : decode cX5_setLetter 10 = .ok (.bipush 31, 2) := by decide +kernel
theorem dX5_setLetter_12 : decode cX5_setLetter 12 = .ok (.iload_n 3, 1) := by decide +kernel
theorem dX5_setLetter_13 : decode cX5_setLetter 13 = .ok (.ishl, 1) := by decide +kernel
theorem dX5_setLetter_14 : decode cX5_setLetter 14 = .ok (.iconst (-1), 1) := by decide +kernel
theorem dX5_setLetter_15 : decode cX5_setLetter 15 = .ok (.ixor, 1) := by decide +kernel
theorem dX5_setLetter_16 : decode cX5_setLetter 16 = .ok (.iand, 1) := by decide +kernel
theorem dX5_setLetter_17 : decode cX5_setLetter 17 = .ok (.iload_n 2, 1) := by decide +kernel
theorem dX5_setLetter_18 : decode cX5_setLetter 18 = .ok (.iload_n 3, 1) := by decide +kernel
theorem dX5_setLetter_19 : decode cX5_setLetter 19 = .ok (.ishl, 1) := by decide +kernel
theorem dX5_setLetter_20 : decode cX5_setLetter 20 = .ok (.ior, 1) := by decide +kernel
theorem dX5_setLetter_21 : decode cX5_setLetter 21 = .ok (.ireturn, 1) := by decide +kernel
set_option maxRecDepth 20000 in
theorem ggX5_lettersIn_X5_letterOf : GoodIn wsX5_lettersIn wsX5_letterOf := goodIn_r _ [4] (by decide +kernel) (by decide +kernel)
set_option maxRecDepth 20000 in
theorem gX5_lettersIn_X5_letterOf : GoodIn wsX5_lettersIn (va_wsS RX5 11 yX5_letterOf wsX5_letterOf) := goodIn_app (goodIn_of _ (by decide +kernel)) ggX5_lettersIn_X5_letterOf
theorem dX5_lettersIn_0 : decode cX5_lettersIn 0 = .ok (.iconst 0, 1) := by decide +kernel
theorem dX5_lettersIn_1 : decode cX5_lettersIn 1 = .ok (.istore_n 1, 1) := by decide +kernel
theorem dX5_lettersIn_2 : decode cX5_lettersIn 2 = .ok (.iload_n 1, 1) := by decide +kernel
theorem dX5_lettersIn_3 : decode cX5_lettersIn 3 = .ok (.iconst 4, 1) := by decide +kernel
theorem dX5_lettersIn_4 : decode cX5_lettersIn 4 = .ok (.if_icmp .ge 17, 3) := by decide +kernel
theorem dX5_lettersIn_7 : decode cX5_lettersIn 7 = .ok (.iload_n 0, 1) := by decide +kernel
theorem dX5_lettersIn_8 : decode cX5_lettersIn 8 = .ok (.iload_n 1, 1) := by decide +kernel
theorem dX5_lettersIn_9 : decode cX5_lettersIn 9 = .ok (.invokestatic 11, 3) := by decide +kernel
theorem dX5_lettersIn_12 : decode cX5_lettersIn 12 = .ok (.ifCond .eq 9, 3) := by decide +kernel
theorem dX5_lettersIn_15 : decode cX5_lettersIn 15 = .ok (.iinc 1 1, 3) := by decide +kernel
theorem dX5_lettersIn_18 : decode cX5_lettersIn 18 = .ok (.goto (-16), 3) := by decide +kernel
theorem dX5_lettersIn_21 : decode cX5_lettersIn 21 = .ok (.iload_n 1, 1) := by decide +kernel
theorem dX5_lettersIn_22 : decode cX5_lettersIn 22 = .ok (.ireturn, 1) := by decide +kernel
set_option maxRecDepth 20000 in
theorem ggX5_suffixOf_X5_lettersIn : GoodIn wsX5_suffixOf wsX5_lettersIn := goodIn_r _ [4, 5, 6, 3, 7] (by decide +kernel) (by decide +kernel)
set_option maxRecDepth 20000 in
theorem gX5_suffixOf_X5_lettersIn : GoodIn wsX5_suffixOf (va_wsS RX5 15 yX5_lettersIn wsX5_lettersIn) := goodIn_app (goodIn_of _ (by decide +kernel)) ggX5_suffixOf_X5_lettersIn
set_option maxRecDepth 20000 in
theorem ggX5_suffixOf_X5_letterOf : GoodIn wsX5_suffixOf wsX5_letterOf := goodIn_r _ [7] (by decide +kernel) (by decide +kernel)
set_option maxRecDepth 20000 in
theorem gX5_suffixOf_X5_letterOf : GoodIn wsX5_suffixOf (va_wsS RX5 11 yX5_letterOf wsX5_letterOf) := goodIn_app (goodIn_of _ (by decide +kernel)) ggX5_suffixOf_X5_letterOf
theorem dX5_suffixOf_0 : decode cX5_suffixOf 0 = .ok (.iconst 0, 1) := by decide +kernel
theorem dX5_suffixOf_1 : decode cX5_suffixOf 1 = .ok (.istore_n 1, 1) := by decide +kernel
theorem dX5_suffixOf_2 : decode cX5_suffixOf 2 = .ok (.iconst 0, 1) := by decide +kernel
theorem dX5_suffixOf_3 : decode cX5_suffixOf 3 = .ok (.istore_n 2, 1) := by decide +kernel
theorem dX5_suffixOf_4 : decode cX5_suffixOf 4 = .ok (.iload_n 2, 1) := by decide +kernel
theorem dX5_suffixOf_5 : decode cX5_suffixOf 5 = .ok (.iload_n 0, 1) := by decide +kernel
theorem dX5_suffixOf_6 : decode cX5_suffixOf 6 = .ok (.invokestatic 15, 3) := by decide +kernel
theorem dX5_suffixOf_9 : decode cX5_suffixOf 9 = .ok (.if_icmp .ge 23, 3) := by decide +kernel
theorem dX5_suffixOf_12 : decode cX5_suffixOf 12 = .ok (.iload_n 1, 1) := by decide +kernel
theorem dX5_suffixOf_13 : decode cX5_suffixOf 13 = .ok (.bipush 8, 2) := by decide +kernel
theorem dX5_suffixOf_15 : decode cX5_suffixOf 15 = .ok (.ishl, 1) := by decide +kernel
theorem dX5_suffixOf_16 : decode cX5_suffixOf 16 = .ok (.bipush 64, 2) := by decide +kernel
theorem dX5_suffixOf_18 : decode cX5_suffixOf 18 = .ok (.iload_n 0, 1) := by decide +kernel
theorem dX5_suffixOf_19 : decode cX5_suffixOf 19 = .ok (.iload_n 2, 1) := by decide +kernel
theorem dX5_suffixOf_20 : decode cX5_suffixOf 20 = .ok (.invokestatic 11, 3) := by decide +kernel
theorem dX5_suffixOf_23 : decode cX5_suffixOf 23 = .ok (.iadd, 1) := by decide +kernel
theorem dX5_suffixOf_24 : decode cX5_suffixOf 24 = .ok (.ior, 1) := by decide +kernel
theorem dX5_suffixOf_25 : decode cX5_suffixOf 25 = .ok (.istore_n 1, 1) := by decide +kernel
theorem dX5_suffixOf_26 : decode cX5_suffixOf 26 = .ok (.iinc 2 1, 3) := by decide +kernel
theorem dX5_suffixOf_29 : decode cX5_suffixOf 29 = .ok (.goto (-25), 3) := by decide +kernel
theorem dX5_suffixOf_32 : decode cX5_suffixOf 32 = .ok (.iload_n 1, 1) := by decide +kernel
theorem dX5_suffixOf_33 : decode cX5_suffixOf 33 = .ok (.ireturn, 1) := by decide +kernel
set_option maxRecDepth 20000 in
theorem ggX5_withSuffix_X5_setLetter : GoodIn wsX5_withSuffix wsX5_setLetter := goodIn_r _ [4] (by decide +kernel) (by decide +kernel)
set_option maxRecDepth 20000 in
theorem gX5_withSuffix_X5_setLetter : GoodIn wsX5_withSuffix (va_wsS RX5 19 yX5_setLetter wsX5_setLetter) := goodIn_app (goodIn_of _ (by decide +kernel)) ggX5_withSuffix_X5_setLetter
theorem dX5_withSuffix_0 : decode cX5_withSuffix 0 = .ok (.iload_n 0, 1) := by decide +kernel
theorem dX5_withSuffix_1 : decode cX5_withSuffix 1 = .ok (.ifCond .ne 5, 3) := by decide +kernel
theorem dX5_withSuffix_4 : decode cX5_withSuffix 4 = .ok (.iconst 0, 1) := by decide +kernel
theorem dX5_withSuffix_5 : decode cX5_withSuffix 5 = .ok (.ireturn, 1) := by decide +kernel
theorem dX5_withSuffix_6 : decode cX5_withSuffix 6 = .ok (.iload_n 0, 1) := by decide +kernel
theorem dX5_withSuffix_7 : decode cX5_withSuffix 7 = .ok (.istore_n 2, 1) := by decide +kernel
theorem dX5_withSuffix_8 : decode cX5_withSuffix 8 = .ok (.iconst 0, 1) := by decide +kernel
theorem dX5_withSuffix_9 : decode cX5_withSuffix 9 = .ok (.istore_n 3, 1) := by decide +kernel
theorem dX5_withSuffix_10 : decode cX5_withSuffix 10 = .ok (.bipush 24, 2) := by decide +kernel
theorem dX5_withSuffix_12 : decode cX5_withSuffix 12 = .ok (.istore 4, 2) := by decide +kernel
theorem dX5_withSuffix_14 : decode cX5_withSuffix 14 = .ok (.iload 4, 2) := by decide +kernel
theorem dX5_withSuffix_16 : decode cX5_withSuffix 16 = .ok (.ifCond .lt 61, 3) := by decide +kernel
theorem dX5_withSuffix_19 : decode cX5_withSuffix 19 = .ok (.iload_n 1, 1) := by decide +kernel
theorem dX5_withSuffix_20 : decode cX5_withSuffix 20 = .ok (.iload 4, 2) := by decide +kernel
theorem dX5_withSuffix_22 : decode cX5_withSuffix 22 = .ok (.iushr, 1) := by decide +kernel
theorem dX5_withSuffix_23 : decode cX5_withSuffix 23 = .ok (.sipush 255, 3) := by decide +kernel
theorem dX5_withSuffix_26 : decode cX5_withSuffix 26 = .ok (.iand, 1) := by decide +kernel
theorem dX5_withSuffix_27 : decode cX5_withSuffix 27 = .ok (.istore 5, 2) := by decide +kernel
theorem dX5_withSuffix_29 : decode cX5_withSuffix 29 = .ok (.iload 5, 2) := by decide +kernel
theorem dX5_withSuffix_31 : decode cX5_withSuffix 31 = .ok (.ifCond .ne 10, 3) := by decide +kernel
theorem dX5_withSuffix_34 : decode cX5_withSuffix 34 = .ok (.iload_n 3, 1) := by decide +kernel
theorem dX5_withSuffix_35 : decode cX5_withSuffix 35 = .ok (.ifCond .ne 6, 3) := by decide +kernel
theorem dX5_withSuffix_38 : decode cX5_withSuffix 38 = .ok (.goto 33, 3) := by decide +kernel
theorem dX5_withSuffix_41 : decode cX5_withSuffix 41 = .ok (.iload 5, 2) := by decide +kernel
theorem dX5_withSuffix_43 : decode cX5_withSuffix 43 = .ok (.bipush 65, 2) := by decide +kernel
theorem dX5_withSuffix_45 : decode cX5_withSuffix 45 = .ok (.if_icmp .lt 10, 3) := by decide +kernel
theorem dX5_withSuffix_48 : decode cX5_withSuffix 48 = .ok (.iload 5, 2) := by decide +kernel
theorem dX5_withSuffix_50 : decode cX5_withSuffix 50 = .ok (.bipush 90, 2) := by decide +kernel
theorem dX5_withSuffix_52 : decode cX5_withSuffix 52 = .ok (.if_icmp .le 5, 3) := by decide +kernel
theorem dX5_withSuffix_55 : decode cX5_withSuffix 55 = .ok (.iconst 0, 1) := by decide +kernel
theorem dX5_withSuffix_56 : decode cX5_withSuffix 56 = .ok (.ireturn, 1) := by decide +kernel
theorem dX5_withSuffix_57 : decode cX5_withSuffix 57 = .ok (.iload_n 2, 1) := by decide +kernel
theorem dX5_withSuffix_58 : decode cX5_withSuffix 58 = .ok (.iload_n 3, 1) := by decide +kernel
theorem dX5_withSuffix_59 : decode cX5_withSuffix 59 = .ok (.iload 5, 2) := by decide +kernel
theorem dX5_withSuffix_61 : decode cX5_withSuffix 61 = .ok (.bipush 64, 2) := by decide +kernel
theorem dX5_withSuffix_63 : decode cX5_withSuffix 63 = .ok (.isub, 1) := by decide +kernel
theorem dX5_withSuffix_64 : decode cX5_withSuffix 64 = .ok (.invokestatic 19, 3) := by decide +kernel
theorem dX5_withSuffix_67 : decode cX5_withSuffix 67 = .ok (.istore_n 2, 1) := by decide +kernel
theorem dX5_withSuffix_68 : decode cX5_withSuffix 68 = .ok (.iinc 3 1, 3) := by decide +kernel
theorem dX5_withSuffix_71 : decode cX5_withSuffix 71 = .ok (.iinc 4 (-8), 3) := by decide +kernel
theorem dX5_withSuffix_74 : decode cX5_withSuffix 74 = .ok (.goto (-60), 3) := by decide +kernel
theorem dX5_withSuffix_77 : decode cX5_withSuffix 77 = .ok (.iload_n 2, 1) := by decide +kernel
theorem dX5_withSuffix_78 : decode cX5_withSuffix 78 = .ok (.ireturn, 1) := by decide +kernel
set_option maxRecDepth 20000 in
theorem ggX5_between_X5_numberOf : GoodIn wsX5_between wsX5_numberOf := goodIn_r _ [4] (by decide +kernel) (by decide +kernel)
set_option maxRecDepth 20000 in
theorem gX5_between_X5_numberOf : GoodIn wsX5_between (va_wsS RX5 23 yX5_numberOf wsX5_numberOf) := goodIn_app (goodIn_of _ (by decide +kernel)) ggX5_between_X5_numberOf
set_option maxRecDepth 20000 in
theorem ggX5_between_X5_plain : GoodIn wsX5_between wsX5_plain := goodIn_r _ [7] (by decide +kernel) (by decide +kernel)
set_option maxRecDepth 20000 in
theorem gX5_between_X5_plain : GoodIn wsX5_between (va_wsS RX5 26 yX5_plain wsX5_plain) := goodIn_app (goodIn_of _ (by decide +kernel)) ggX5_between_X5_plain
set_option maxRecDepth 20000 in
theorem ggX5_between_X5_leastAbove : GoodIn wsX5_between wsX5_leastAbove := goodIn_r _ [10, 11, 12, 3, 13, 14, 15, 16, 5, 6, 7, 17, 18, 19, 20, 21, 22, 1, 2, 4] (by decide +kernel) (by decide +kernel)
set_option maxRecDepth 20000 in
theorem gX5_between_X5_leastAbove : GoodIn wsX5_between (va_wsS RX5 29 yX5_leastAbove wsX5_leastAbove) := goodIn_app (goodIn_of _ (by decide +kernel)) ggX5_between_X5_leastAbove
theorem dX5_between_0 : decode cX5_between 0 = .ok (.iload_n 1, 1) := by decide +kernel
theorem dX5_between_1 : decode cX5_between 1 = .ok (.ifCond .ne 13, 3) := by decide +kernel
theorem dX5_between_4 : decode cX5_between 4 = .ok (.iload_n 0, 1) := by decide +kernel
theorem dX5_between_5 : decode cX5_between 5 = .ok (.invokestatic 23, 3) := by decide +kernel
theorem dX5_between_8 : decode cX5_between 8 = .ok (.iconst 1, 1) := by decide +kernel
theorem dX5_between_9 : decode cX5_between 9 = .ok (.iadd, 1) := by decide +kernel
theorem dX5_between_10 : decode cX5_between 10 = .ok (.invokestatic 26, 3) := by decide +kernel
theorem dX5_between_13 : decode cX5_between 13 = .ok (.ireturn, 1) := by decide +kernel
theorem dX5_between_14 : decode cX5_between 14 = .ok (.iconst 0, 1) := by decide +kernel
theorem dX5_between_15 : decode cX5_between 15 = .ok (.istore_n 2, 1) := by decide +kernel
theorem dX5_between_16 : decode cX5_between 16 = .ok (.iload_n 2, 1) := by decide +kernel
theorem dX5_between_17 : decode cX5_between 17 = .ok (.iconst 4, 1) := by decide +kernel
theorem dX5_between_18 : decode cX5_between 18 = .ok (.if_icmp .gt 26, 3) := by decide +kernel
theorem dX5_between_21 : decode cX5_between 21 = .ok (.iload_n 0, 1) := by decide +kernel
theorem dX5_between_22 : decode cX5_between 22 = .ok (.iload_n 2, 1) := by decide +kernel
theorem dX5_between_23 : decode cX5_between 23 = .ok (.invokestatic 29, 3) := by decide +kernel
theorem dX5_between_26 : decode cX5_between 26 = .ok (.istore_n 3, 1) := by decide +kernel
theorem dX5_between_27 : decode cX5_between 27 = .ok (.iload_n 3, 1) := by decide +kernel
theorem dX5_between_28 : decode cX5_between 28 = .ok (.ifCond .eq 10, 3) := by decide +kernel
theorem dX5_between_31 : decode cX5_between 31 = .ok (.iload_n 3, 1) := by decide +kernel
theorem dX5_between_32 : decode cX5_between 32 = .ok (.iload_n 1, 1) := by decide +kernel
theorem dX5_between_33 : decode cX5_between 33 = .ok (.if_icmp .ge 5, 3) := by decide +kernel
theorem dX5_between_36 : decode cX5_between 36 = .ok (.iload_n 3, 1) := by decide +kernel
theorem dX5_between_37 : decode cX5_between 37 = .ok (.ireturn, 1) := by decide +kernel
theorem dX5_between_38 : decode cX5_between 38 = .ok (.iinc 2 1, 3) := by decide +kernel
theorem dX5_between_41 : decode cX5_between 41 = .ok (.goto (-25), 3) := by decide +kernel
theorem dX5_between_44 : decode cX5_between 44 = .ok (.iconst 0, 1) := by decide +kernel
theorem dX5_between_45 : decode cX5_between 45 = .ok (.ireturn, 1) := by decide +kernel
set_option maxRecDepth 20000 in
theorem ggX5_leastAbove_X5_lettersIn : GoodIn wsX5_leastAbove wsX5_lettersIn := goodIn_r _ [4, 5, 6, 3, 7] (by decide +kernel) (by decide +kernel)
set_option maxRecDepth 20000 in
theorem gX5_leastAbove_X5_lettersIn : GoodIn wsX5_leastAbove (va_wsS RX5 15 yX5_lettersIn wsX5_lettersIn) := goodIn_app (goodIn_of _ (by decide +kernel)) ggX5_leastAbove_X5_lettersIn
set_option maxRecDepth 20000 in
theorem ggX5_leastAbove_X5_plain : GoodIn wsX5_leastAbove wsX5_plain := goodIn_r _ [10] (by decide +kernel) (by decide +kernel)
set_option maxRecDepth 20000 in
theorem gX5_leastAbove_X5_plain : GoodIn wsX5_leastAbove (va_wsS RX5 26 yX5_plain wsX5_plain) := goodIn_app (goodIn_of _ (by decide +kernel)) ggX5_leastAbove_X5_plain
set_option maxRecDepth 20000 in
theorem ggX5_leastAbove_X5_fillWithA : GoodIn wsX5_leastAbove wsX5_fillWithA := goodIn_r _ [13, 14, 15, 3, 16] (by decide +kernel) (by decide +kernel)
set_option maxRecDepth 20000 in
theorem gX5_leastAbove_X5_fillWithA : GoodIn wsX5_leastAbove (va_wsS RX5 32 yX5_fillWithA wsX5_fillWithA) := goodIn_app (goodIn_of _ (by decide +kernel)) ggX5_leastAbove_X5_fillWithA
set_option maxRecDepth 20000 in
theorem ggX5_leastAbove_X5_setLetter : GoodIn wsX5_leastAbove wsX5_setLetter := goodIn_r _ [16] (by decide +kernel) (by decide +kernel)
set_option maxRecDepth 20000 in
theorem gX5_leastAbove_X5_setLetter : GoodIn wsX5_leastAbove (va_wsS RX5 19 yX5_setLetter wsX5_setLetter) := goodIn_app (goodIn_of _ (by decide +kernel)) ggX5_leastAbove_X5_setLetter
set_option maxRecDepth 20000 in
theorem ggX5_leastAbove_X5_letterOf : GoodIn wsX5_leastAbove wsX5_letterOf := goodIn_r _ [7] (by decide +kernel) (by decide +kernel)
set_option maxRecDepth 20000 in
theorem gX5_leastAbove_X5_letterOf : GoodIn wsX5_leastAbove (va_wsS RX5 11 yX5_letterOf wsX5_letterOf) := goodIn_app (goodIn_of _ (by decide +kernel)) ggX5_leastAbove_X5_letterOf
set_option maxRecDepth 20000 in
theorem ggX5_leastAbove_X5_numberOf : GoodIn wsX5_leastAbove wsX5_numberOf := goodIn_r _ [19] (by decide +kernel) (by decide +kernel)
set_option maxRecDepth 20000 in
theorem gX5_leastAbove_X5_numberOf : GoodIn wsX5_leastAbove (va_wsS RX5 23 yX5_numberOf wsX5_numberOf) := goodIn_app (goodIn_of _ (by decide +kernel)) ggX5_leastAbove_X5_numberOf
theorem dX5_leastAbove_0 : decode cX5_leastAbove 0 = .ok (.iload_n 0, 1) := by decide +kernel
theorem dX5_leastAbove_1 : decode cX5_leastAbove 1 = .ok (.invokestatic 15, 3) := by decide +kernel
theorem dX5_leastAbove_4 : decode cX5_leastAbove 4 = .ok (.istore_n 2, 1) := by decide +kernel
theorem dX5_leastAbove_5 : decode cX5_leastAbove 5 = .ok (.iload_n 0, 1) := by decide +kernel
theorem dX5_leastAbove_6 : decode cX5_leastAbove 6 = .ok (.ifCond .ne 13, 3) := by decide +kernel
theorem dX5_leastAbove_9 : decode cX5_leastAbove 9 = .ok (.iconst 1, 1) := by decide +kernel
theorem dX5_leastAbove_10 : decode cX5_leastAbove 10 = .ok (.invokestatic 26, 3) := by decide +kernel
theorem dX5_leastAbove_13 : decode cX5_leastAbove 13 = .ok (.iconst 0, 1) := by decide +kernel
theorem dX5_leastAbove_14 : decode cX5_leastAbove 14 = .ok (.iload_n 1, 1) := by decide +kernel
theorem dX5_leastAbove_15 : decode cX5_leastAbove 15 = .ok (.invokestatic 32, 3) := by decide +kernel
theorem dX5_leastAbove_18 : decode cX5_leastAbove 18 = .ok (.ireturn, 1) := by decide +kernel
theorem dX5_leastAbove_19 : decode cX5_leastAbove 19 = .ok (.iload_n 2, 1) := by decide +kernel
theorem dX5_leastAbove_20 : decode cX5_leastAbove 20 = .ok (.iload_n 1, 1) := by decide +kernel
theorem dX5_leastAbove_21 : decode cX5_leastAbove 21 = .ok (.if_icmp .ge 10, 3) := by decide +kernel
theorem dX5_leastAbove_24 : decode cX5_leastAbove 24 = .ok (.iload_n 0, 1) := by decide +kernel
theorem dX5_leastAbove_25 : decode cX5_leastAbove 25 = .ok (.iload_n 2, 1) := by decide +kernel
theorem dX5_leastAbove_26 : decode cX5_leastAbove 26 = .ok (.iload_n 1, 1) := by decide +kernel
theorem dX5_leastAbove_27 : decode cX5_leastAbove 27 = .ok (.invokestatic 32, 3) := by decide +kernel
theorem dX5_leastAbove_30 : decode cX5_leastAbove 30 = .ok (.ireturn, 1) := by decide +kernel
theorem dX5_leastAbove_31 : decode cX5_leastAbove 31 = .ok (.iload_n 0, 1) := by decide +kernel
theorem dX5_leastAbove_32 : decode cX5_leastAbove 32 = .ok (.istore_n 3, 1) := by decide +kernel
theorem dX5_leastAbove_33 : decode cX5_leastAbove 33 = .ok (.iload_n 1, 1) := by decide +kernel
theorem dX5_leastAbove_34 : decode cX5_leastAbove 34 = .ok (.istore 4, 2) := by decide +kernel
theorem dX5_leastAbove_36 : decode cX5_leastAbove 36 = .ok (.iload 4, 2) := by decide +kernel
theorem dX5_leastAbove_38 : decode cX5_leastAbove 38 = .ok (.iconst 4, 1) := by decide +kernel
theorem dX5_leastAbove_39 : decode cX5_leastAbove 39 = .ok (.if_icmp .ge 17, 3) := by decide +kernel
theorem dX5_leastAbove_42 : decode cX5_leastAbove 42 = .ok (.iload_n 3, 1) := by decide +kernel
theorem dX5_leastAbove_43 : decode cX5_leastAbove 43 = .ok (.iload 4, 2) := by decide +kernel
theorem dX5_leastAbove_45 : decode cX5_leastAbove 45 = .ok (.iconst 0, 1) := by decide +kernel
theorem dX5_leastAbove_46 : decode cX5_leastAbove 46 = .ok (.invokestatic 19, 3) := by decide +kernel
theorem dX5_leastAbove_49 : decode cX5_leastAbove 49 = .ok (.istore_n 3, 1) := by decide +kernel
theorem dX5_leastAbove_50 : decode cX5_leastAbove 50 = .ok (.iinc 4 1, 3) := by decide +kernel
theorem dX5_leastAbove_53 : decode cX5_leastAbove 53 = .ok (.goto (-17), 3) := by decide +kernel
theorem dX5_leastAbove_56 : decode cX5_leastAbove 56 = .ok (.iload_n 1, 1) := by decide +kernel
theorem dX5_leastAbove_57 : decode cX5_leastAbove 57 = .ok (.iconst 1, 1) := by decide +kernel
theorem dX5_leastAbove_58 : decode cX5_leastAbove 58 = .ok (.isub, 1) := by decide +kernel
theorem dX5_leastAbove_59 : decode cX5_leastAbove 59 = .ok (.istore 4, 2) := by decide +kernel
theorem dX5_leastAbove_61 : decode cX5_leastAbove 61 = .ok (.iload 4, 2) := by decide +kernel
theorem dX5_leastAbove_63 : decode cX5_leastAbove 63 = .ok (.ifCond .lt 43, 3) := by decide +kernel
theorem dX5_leastAbove_66 : decode cX5_leastAbove 66 = .ok (.iload_n 3, 1) := by decide +kernel
theorem dX5_leastAbove_67 : decode cX5_leastAbove 67 = .ok (.iload 4, 2) := by decide +kernel
theorem dX5_leastAbove_69 : decode cX5_leastAbove 69 = .ok (.invokestatic 11, 3) := by decide +kernel
theorem dX5_leastAbove_72 : decode cX5_leastAbove 72 = .ok (.istore 5, 2) := by decide +kernel
theorem dX5_leastAbove_74 : decode cX5_leastAbove 74 = .ok (.iload 5, 2) := by decide +kernel
theorem dX5_leastAbove_76 : decode cX5_leastAbove 76 = .ok (.bipush 26, 2) := by decide +kernel
theorem dX5_leastAbove_78 : decode cX5_leastAbove 78 = .ok (.if_icmp .ge 22, 3) := by decide +kernel
theorem dX5_leastAbove_81 : decode cX5_leastAbove 81 = .ok (.iload_n 3, 1) := by decide +kernel
theorem dX5_leastAbove_82 : decode cX5_leastAbove 82 = .ok (.iload 4, 2) := by decide +kernel
theorem dX5_leastAbove_84 : decode cX5_leastAbove 84 = .ok (.iload 5, 2) := by decide +kernel
theorem dX5_leastAbove_86 : decode cX5_leastAbove 86 = .ok (.iconst 1, 1) := by decide +kernel
theorem dX5_leastAbove_87 : decode cX5_leastAbove 87 = .ok (.iadd, 1) := by decide +kernel
theorem dX5_leastAbove_88 : decode cX5_leastAbove 88 = .ok (.invokestatic 19, 3) := by decide +kernel
theorem dX5_leastAbove_91 : decode cX5_leastAbove 91 = .ok (.iload 4, 2) := by decide +kernel
theorem dX5_leastAbove_93 : decode cX5_leastAbove 93 = .ok (.iconst 1, 1) := by decide +kernel
theorem dX5_leastAbove_94 : decode cX5_leastAbove 94 = .ok (.iadd, 1) := by decide +kernel
theorem dX5_leastAbove_95 : decode cX5_leastAbove 95 = .ok (.iload_n 1, 1) := by decide +kernel
theorem dX5_leastAbove_96 : decode cX5_leastAbove 96 = .ok (.invokestatic 32, 3) := by decide +kernel
theorem dX5_leastAbove_99 : decode cX5_leastAbove 99 = .ok (.ireturn, 1) := by decide +kernel
theorem dX5_leastAbove_100 : decode cX5_leastAbove 100 = .ok (.iinc 4 (-1), 3) := by decide +kernel
theorem dX5_leastAbove_103 : decode cX5_leastAbove 103 = .ok (.goto (-42), 3) := by decide +kernel
theorem dX5_leastAbove_106 : decode cX5_leastAbove 106 = .ok (.iload_n 0, 1) := by decide +kernel
theorem dX5_leastAbove_107 : decode cX5_leastAbove 107 = .ok (.invokestatic 23, 3) := by decide +kernel
theorem dX5_leastAbove_110 : decode cX5_leastAbove 110 = .ok (.iconst 1, 1) := by decide +kernel
theorem dX5_leastAbove_111 : decode cX5_leastAbove 111 = .ok (.iadd, 1) := by decide +kernel
theorem dX5_leastAbove_112 : decode cX5_leastAbove 112 = .ok (.invokestatic 26, 3) := by decide +kernel
theorem dX5_leastAbove_115 : decode cX5_leastAbove 115 = .ok (.istore 4, 2) := by decide +kernel
theorem dX5_leastAbove_117 : decode cX5_leastAbove 117 = .ok (.iload 4, 2) := by decide +kernel
theorem dX5_leastAbove_119 : decode cX5_leastAbove 119 = .ok (.ifCond .ne 7, 3) := by decide +kernel
theorem dX5_leastAbove_122 : decode cX5_leastAbove 122 = .ok (.iconst 0, 1) := by decide +kernel
theorem dX5_leastAbove_123 : decode cX5_leastAbove 123 = .ok (.goto 10, 3) := by decide +kernel
theorem dX5_leastAbove_126 : decode cX5_leastAbove 126 = .ok (.iload 4, 2) := by decide +kernel
theorem dX5_leastAbove_128 : decode cX5_leastAbove 128 = .ok (.iconst 0, 1) := by decide +kernel
theorem dX5_leastAbove_129 : decode cX5_leastAbove 129 = .ok (.iload_n 1, 1) := by decide +kernel
theorem dX5_leastAbove_130 : decode cX5_leastAbove 130 = .ok (.invokestatic 32, 3) := by decide +kernel
theorem dX5_leastAbove_133 : decode cX5_leastAbove 133 = .ok (.ireturn, 1) := by decide +kernel
set_option maxRecDepth 20000 in
theorem ggX5_fillWithA_X5_setLetter : GoodIn wsX5_fillWithA wsX5_setLetter := goodIn_r _ [4] (by decide +kernel) (by decide +kernel)
set_option maxRecDepth 20000 in
theorem gX5_fillWithA_X5_setLetter : GoodIn wsX5_fillWithA (va_wsS RX5 19 yX5_setLetter wsX5_setLetter) := goodIn_app (goodIn_of _ (by decide +kernel)) ggX5_fillWithA_X5_setLetter
theorem dX5_fillWithA_0 : decode cX5_fillWithA 0 = .ok (.iload_n 0, 1) := by decide +kernel
theorem dX5_fillWithA_1 : decode cX5_fillWithA 1 = .ok (.istore_n 3, 1) := by decide +kernel
theorem dX5_fillWithA_2 : decode cX5_fillWithA 2 = .ok (.iload_n 1, 1) := by decide +kernel
theorem dX5_fillWithA_3 : decode cX5_fillWithA 3 = .ok (.istore 4, 2) := by decide +kernel
theorem dX5_fillWithA_5 : decode cX5_fillWithA 5 = .ok (.iload 4, 2) := by decide +kernel
theorem dX5_fillWithA_7 : decode cX5_fillWithA 7 = .ok (.iload_n 2, 1) := by decide +kernel
theorem dX5_fillWithA_8 : decode cX5_fillWithA 8 = .ok (.if_icmp .ge 17, 3) := by decide +kernel
theorem dX5_fillWithA_11 : decode cX5_fillWithA 11 = .ok (.iload_n 3, 1) := by decide +kernel
theorem dX5_fillWithA_12 : decode cX5_fillWithA 12 = .ok (.iload 4, 2) := by decide +kernel
theorem dX5_fillWithA_14 : decode cX5_fillWithA 14 = .ok (.iconst 1, 1) := by decide +kernel
theorem dX5_fillWithA_15 : decode cX5_fillWithA 15 = .ok (.invokestatic 19, 3) := by decide +kernel
theorem dX5_fillWithA_18 : decode cX5_fillWithA 18 = .ok (.istore_n 3, 1) := by decide +kernel
theorem dX5_fillWithA_19 : decode cX5_fillWithA 19 = .ok (.iinc 4 1, 3) := by decide +kernel
theorem dX5_fillWithA_22 : decode cX5_fillWithA 22 = .ok (.goto (-17), 3) := by decide +kernel
theorem dX5_fillWithA_25 : decode cX5_fillWithA 25 = .ok (.iload_n 3, 1) := by decide +kernel
theorem dX5_fillWithA_26 : decode cX5_fillWithA 26 = .ok (.ireturn, 1) := by decide +kernel
theorem dX6_init_0 : decode cX6_init 0 = .ok (.aload_n 0, 1) := by decide +kernel
theorem dX6_init_1 : decode cX6_init 1 = .ok (.invokespecial 3, 3) := by decide +kernel
theorem dX6_init_4 : decode cX6_init 4 = .ok (.aload_n 0, 1) := by decide +kernel
theorem dX6_init_5 : decode cX6_init 5 = .ok (.iconst 4, 1) := by decide +kernel
theorem dX6_init_6 : decode cX6_init 6 = .ok (.newarray .int, 2) := by decide +kernel
theorem dX6_init_8 : decode cX6_init 8 = .ok (.putfield 9, 3) := by decide +kernel
theorem dX6_init_11 : decode cX6_init 11 = .ok (.aload_n 0, 1) := by decide +kernel
theorem dX6_init_12 : decode cX6_init 12 = .ok (.iconst 4, 1) := by decide +kernel
theorem dX6_init_13 : decode cX6_init 13 = .ok (.newarray .boolean, 2) := by decide +kernel
theorem dX6_init_15 : decode cX6_init 15 = .ok (.putfield 15, 3) := by decide +kernel
theorem dX6_init_18 : decode cX6_init 18 = .ok (.return_, 1) := by decide +kernel
theorem dX6_formOf_0 : decode cX6_formOf 0 = .ok (.iload_n 1, 1) := by decide +kernel
theorem dX6_formOf_1 : decode cX6_formOf 1 = .ok (.ifCond .lt 20, 3) := by decide +kernel
theorem dX6_formOf_4 : decode cX6_formOf 4 = .ok (.iload_n 1, 1) := by decide +kernel
theorem dX6_formOf_5 : decode cX6_formOf 5 = .ok (.aload_n 0, 1) := by decide +kernel
theorem dX6_formOf_6 : decode cX6_formOf 6 = .ok (.getfield 19, 3) := by decide +kernel
theorem dX6_formOf_9 : decode cX6_formOf 9 = .ok (.if_icmp .ge 12, 3) := by decide +kernel
theorem dX6_formOf_12 : decode cX6_formOf 12 = .ok (.aload_n 0, 1) := by decide +kernel
theorem dX6_formOf_13 : decode cX6_formOf 13 = .ok (.getfield 9, 3) := by decide +kernel
theorem dX6_formOf_16 : decode cX6_formOf 16 = .ok (.iload_n 1, 1) := by decide +kernel
theorem dX6_formOf_17 : decode cX6_formOf 17 = .ok (.iaload, 1) := by decide +kernel
theorem dX6_formOf_18 : decode cX6_formOf 18 = .ok (.goto 4, 3) := by decide +kernel
theorem dX6_formOf_21 : decode cX6_formOf 21 = .ok (.iconst 0, 1) := by decide +kernel
theorem dX6_formOf_22 : decode cX6_formOf 22 = .ok (.ireturn, 1) := by decide +kernel
theorem dX6_isThrough_0 : decode cX6_isThrough 0 = .ok (.iload_n 1, 1) := by decide +kernel
theorem dX6_isThrough_1 : decode cX6_isThrough 1 = .ok (.ifCond .lt 24, 3) := by decide +kernel
theorem dX6_isThrough_4 : decode cX6_isThrough 4 = .ok (.iload_n 1, 1) := by decide +kernel
theorem dX6_isThrough_5 : decode cX6_isThrough 5 = .ok (.aload_n 0, 1) := by decide +kernel
theorem dX6_isThrough_6 : decode cX6_isThrough 6 = .ok (.getfield 19, 3) := by decide +kernel
theorem dX6_isThrough_9 : decode cX6_isThrough 9 = .ok (.if_icmp .ge 16, 3) := by decide +kernel
theorem dX6_isThrough_12 : decode cX6_isThrough 12 = .ok (.aload_n 0, 1) := by decide +kernel
theorem dX6_isThrough_13 : decode cX6_isThrough 13 = .ok (.getfield 15, 3) := by decide +kernel
theorem dX6_isThrough_16 : decode cX6_isThrough 16 = .ok (.iload_n 1, 1) := by decide +kernel
theorem dX6_isThrough_17 : decode cX6_isThrough 17 = .ok (.baload, 1) := by decide +kernel
theorem dX6_isThrough_18 : decode cX6_isThrough 18 = .ok (.ifCond .eq 7, 3) := by decide +kernel
theorem dX6_isThrough_21 : decode cX6_isThrough 21 = .ok (.iconst 1, 1) := by decide +kernel
theorem dX6_isThrough_22 : decode cX6_isThrough 22 = .ok (.goto 4, 3) := by decide +kernel
theorem dX6_isThrough_25 : decode cX6_isThrough 25 = .ok (.iconst 0, 1) := by decide +kernel
theorem dX6_isThrough_26 : decode cX6_isThrough 26 = .ok (.ireturn, 1) := by decide +kernel
theorem dX6_become_0 : decode cX6_become 0 = .ok (.iconst 0, 1) := by decide +kernel
theorem dX6_become_1 : decode cX6_become 1 = .ok (.istore_n 2, 1) := by decide +kernel
theorem dX6_become_2 : decode cX6_become 2 = .ok (.iload_n 2, 1) := by decide +kernel
theorem dX6_become_3 : decode cX6_become 3 = .ok (.iconst 4, 1) := by decide +kernel
theorem dX6_become_4 : decode cX6_become 4 = .ok (.if_icmp .ge 33, 3) := by decide +kernel
theorem dX6_become_7 : decode cX6_become 7 = .ok (.aload_n 0, 1) := by decide +kernel
theorem dX6_become_8 : decode cX6_become 8 = .ok (.getfield 9, 3) := by decide +kernel
theorem dX6_become_11 : decode cX6_become 11 = .ok (.iload_n 2, 1) := by decide +kernel
theorem dX6_become_12 : decode cX6_become 12 = .ok (.aload_n 1, 1) := by decide +kernel
theorem dX6_become_13 : decode cX6_become 13 = .ok (.getfield 9, 3) := by decide +kernel
theorem dX6_become_16 : decode cX6_become 16 = .ok (.iload_n 2, 1) := by decide +kernel
theorem dX6_become_17 : decode cX6_become 17 = .ok (.iaload, 1) := by decide +kernel
theorem dX6_become_18 : decode cX6_become 18 = .ok (.iastore, 1) := by decide +kernel
theorem dX6_become_19 : decode cX6_become 19 = .ok (.aload_n 0, 1) := by decide +kernel
theorem dX6_become_20 : decode cX6_become 20 = .ok (.getfield 15, 3) := by decide +kernel
theorem dX6_become_23 : decode cX6_become 23 = .ok (.iload_n 2, 1) := by decide +kernel
theorem dX6_become_24 : decode cX6_become 24 = .ok (.aload_n 1, 1) := by decide +kernel
theorem dX6_become_25 : decode cX6_become 25 = .ok (.getfield 15, 3) := by decide +kernel
theorem dX6_become_28 : decode cX6_become 28 = .ok (.iload_n 2, 1) := by decide +kernel
theorem dX6_become_29 : decode cX6_become 29 = .ok (.baload, 1) := by decide +kernel
theorem dX6_become_30 : decode cX6_become 30 = .ok (.bastore, 1) := by decide +kernel
theorem dX6_become_31 : decode cX6_become 31 = .ok (.iinc 2 1, 3) := by decide +kernel
theorem dX6_become_34 : decode cX6_become 34 = .ok (.goto (-32), 3) := by decide +kernel
theorem dX6_become_37 : decode cX6_become 37 = .ok (.aload_n 0, 1) := by decide +kernel
theorem dX6_become_38 : decode cX6_become 38 = .ok (.aload_n 1, 1) := by decide +kernel
theorem dX6_become_39 : decode cX6_become 39 = .ok (.getfield 19, 3) := by decide +kernel
theorem dX6_become_42 : decode cX6_become 42 = .ok (.putfield 19, 3) := by decide +kernel
theorem dX6_become_45 : decode cX6_become 45 = .ok (.return_, 1) := by decide +kernel
theorem dX6_append_0 : decode cX6_append 0 = .ok (.aload_n 0, 1) := by decide +kernel
theorem dX6_append_1 : decode cX6_append 1 = .ok (.getfield 19, 3) := by decide +kernel
theorem dX6_append_4 : decode cX6_append 4 = .ok (.iconst 4, 1) := by decide +kernel
theorem dX6_append_5 : decode cX6_append 5 = .ok (.if_icmp .ge 33, 3) := by decide +kernel
theorem dX6_append_8 : decode cX6_append 8 = .ok (.aload_n 0, 1) := by decide +kernel
theorem dX6_append_9 : decode cX6_append 9 = .ok (.getfield 9, 3) := by decide +kernel
theorem dX6_append_12 : decode cX6_append 12 = .ok (.aload_n 0, 1) := by decide +kernel
theorem dX6_append_13 : decode cX6_append 13 = .ok (.getfield 19, 3) := by decide +kernel
theorem dX6_append_16 : decode cX6_append 16 = .ok (.iload_n 1, 1) := by decide +kernel
theorem dX6_append_17 : decode cX6_append 17 = .ok (.iastore, 1) := by decide +kernel
theorem dX6_append_18 : decode cX6_append 18 = .ok (.aload_n 0, 1) := by decide +kernel
theorem dX6_append_19 : decode cX6_append 19 = .ok (.getfield 15, 3) := by decide +kernel
theorem dX6_append_22 : decode cX6_append 22 = .ok (.aload_n 0, 1) := by decide +kernel
theorem dX6_append_23 : decode cX6_append 23 = .ok (.getfield 19, 3) := by decide +kernel
theorem dX6_append_26 : decode cX6_append 26 = .ok (.iconst 0, 1) := by decide +kernel
theorem dX6_append_27 : decode cX6_append 27 = .ok (.bastore, 1) := by decide +kernel
theorem dX6_append_28 : decode cX6_append 28 = .ok (.aload_n 0, 1) := by decide +kernel
theorem dX6_append_29 : decode cX6_append 29 = .ok (.dup, 1) := by decide +kernel
theorem dX6_append_30 : decode cX6_append 30 = .ok (.getfield 19, 3) := by decide +kernel
theorem dX6_append_33 : decode cX6_append 33 = .ok (.iconst 1, 1) := by decide +kernel
theorem dX6_append_34 : decode cX6_append 34 = .ok (.iadd, 1) := by decide +kernel
theorem dX6_append_35 : decode cX6_append 35 = .ok (.putfield 19, 3) := by decide +kernel
