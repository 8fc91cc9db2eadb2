theorem dX6_append_38 : decode cX6_append 38 = .ok (.return_, 1) := by decide +kernel
theorem dX6_makeLastThrough_0 : decode cX6_makeLastThrough 0 = .ok (.aload_n 0, 1) := by decide +kernel
theorem dX6_makeLastThrough_1 : decode cX6_makeLastThrough 1 = .ok (.getfield 19, 3) := by decide +kernel
theorem dX6_makeLastThrough_4 : decode cX6_makeLastThrough 4 = .ok (.ifCond .le 15, 3) := by decide +kernel
theorem dX6_makeLastThrough_7 : decode cX6_makeLastThrough 7 = .ok (.aload_n 0, 1) := by decide +kernel
theorem dX6_makeLastThrough_8 : decode cX6_makeLastThrough 8 = .ok (.getfield 15, 3) := by decide +kernel
theorem dX6_makeLastThrough_11 : decode cX6_makeLastThrough 11 = .ok (.aload_n 0, 1) := by decide +kernel
theorem dX6_makeLastThrough_12 : decode cX6_makeLastThrough 12 = .ok (.getfield 19, 3) := by decide +kernel
theorem dX6_makeLastThrough_15 : decode cX6_makeLastThrough 15 = .ok (.iconst 1, 1) := by decide +kernel
theorem dX6_makeLastThrough_16 : decode cX6_makeLastThrough 16 = .ok (.isub, 1) := by decide +kernel
theorem dX6_makeLastThrough_17 : decode cX6_makeLastThrough 17 = .ok (.iconst 1, 1) := by decide +kernel
theorem dX6_makeLastThrough_18 : decode cX6_makeLastThrough 18 = .ok (.bastore, 1) := by decide +kernel
theorem dX6_makeLastThrough_19 : decode cX6_makeLastThrough 19 = .ok (.return_, 1) := by decide +kernel
theorem dX7_init_0 : decode cX7_init 0 = .ok (.aload_n 0, 1) := by decide +kernel
theorem dX7_init_1 : decode cX7_init 1 = .ok (.invokespecial 3, 3) := by decide +kernel
theorem dX7_init_4 : decode cX7_init 4 = .ok (.return_, 1) := by decide +kernel
set_option maxRecDepth 20000 in
theorem ggX7_readInto_X8_byteAt : GoodIn wsX7_readInto wsX8_byteAt := goodIn_r _ [10, 11, 12, 107, 108] (by decide +kernel) (by decide +kernel)
set_option maxRecDepth 20000 in
theorem gX7_readInto_X8_byteAt : GoodIn wsX7_readInto (wsV RX7 31 RX8 yX8_byteAt wsX8_byteAt) := goodIn_app (goodIn_of _ (by decide +kernel)) ggX7_readInto_X8_byteAt
set_option maxRecDepth 20000 in
theorem ggX7_readInto_X7_takeSemicolon : GoodIn wsX7_readInto wsX7_takeSemicolon := goodIn_r _ [17, 4, 18, 19, 20, 16, 21, 2, 3, 104, 105, 106] (by decide +kernel) (by decide +kernel)
set_option maxRecDepth 20000 in
theorem gX7_readInto_X7_takeSemicolon : GoodIn wsX7_readInto (wsV RX7 35 RX7 yX7_takeSemicolon wsX7_takeSemicolon) := goodIn_app (goodIn_of _ (by decide +kernel)) ggX7_readInto_X7_takeSemicolon
set_option maxRecDepth 20000 in
theorem ggX7_readInto_X7_isSmallLetter : GoodIn wsX7_readInto wsX7_isSmallLetter := goodIn_r _ [24] (by decide +kernel) (by decide +kernel)
set_option maxRecDepth 20000 in
theorem gX7_readInto_X7_isSmallLetter : GoodIn wsX7_readInto (va_wsS RX7 39 yX7_isSmallLetter wsX7_isSmallLetter) := goodIn_app (goodIn_of _ (by decide +kernel)) ggX7_readInto_X7_isSmallLetter
set_option maxRecDepth 20000 in
theorem ggX7_readInto_X7_wordEnd : GoodIn wsX7_readInto wsX7_wordEnd := goodIn_r _ [27, 5, 6, 7, 8, 9, 10, 11, 12, 22, 23, 16, 24, 107, 108] (by decide +kernel) (by decide +kernel)
set_option maxRecDepth 20000 in
theorem gX7_readInto_X7_wordEnd : GoodIn wsX7_readInto (va_wsS RX7 43 yX7_wordEnd wsX7_wordEnd) := goodIn_app (goodIn_of _ (by decide +kernel)) ggX7_readInto_X7_wordEnd
set_option maxRecDepth 20000 in
theorem ggX7_readInto_X7_takeWord : GoodIn wsX7_readInto wsX7_takeWord := goodIn_r _ [31, 4, 1, 32, 33, 34, 9, 35, 36, 37, 38, 39, 40, 41, 42, 43, 44, 45, 46, 47, 48, 7, 8, 10, 11, 12, 49, 50, 51, 52, 53, 54, 55, 56, 57, 58, 59, 60, 61, 62, 63, 64, 65, 66, 67, 68, 69, 70, 71, 72, 73, 74, 75, 76, 77, 78, 79, 80, 81, 82, 83, 84, 85, 86, 87, 88, 89, 90, 91, 92, 93, 94, 16, 95, 18, 19, 20, 21, 2, 3, 96, 97, 98, 99, 100, 104, 105, 106, 101, 102, 103, 107, 108] (by decide +kernel) (by decide +kernel)
set_option maxRecDepth 20000 in
theorem gX7_readInto_X7_takeWord : GoodIn wsX7_readInto (wsV RX7 47 RX7 yX7_takeWord wsX7_takeWord) := goodIn_app (goodIn_of _ (by decide +kernel)) ggX7_readInto_X7_takeWord
set_option maxRecDepth 20000 in
theorem ggX7_readInto_X7_failAt : GoodIn wsX7_readInto wsX7_failAt := goodIn_r _ [21, 2, 3, 104, 105, 106] (by decide +kernel) (by decide +kernel)
set_option maxRecDepth 20000 in
theorem gX7_readInto_X7_failAt : GoodIn wsX7_readInto (wsV RX7 51 RX7 yX7_failAt wsX7_failAt) := goodIn_app (goodIn_of _ (by decide +kernel)) ggX7_readInto_X7_failAt
theorem dX7_readInto_0 : decode cX7_readInto 0 = .ok (.aload_n 1, 1) := by decide +kernel
theorem dX7_readInto_1 : decode cX7_readInto 1 = .ok (.iconst 0, 1) := by decide +kernel
theorem dX7_readInto_2 : decode cX7_readInto 2 = .ok (.putfield 9, 3) := by decide +kernel
theorem dX7_readInto_5 : decode cX7_readInto 5 = .ok (.aload_n 0, 1) := by decide +kernel
theorem dX7_readInto_6 : decode cX7_readInto 6 = .ok (.iconst 0, 1) := by decide +kernel
theorem dX7_readInto_7 : decode cX7_readInto 7 = .ok (.putfield 15, 3) := by decide +kernel
theorem dX7_readInto_10 : decode cX7_readInto 10 = .ok (.aload_n 0, 1) := by decide +kernel
theorem dX7_readInto_11 : decode cX7_readInto 11 = .ok (.iconst (-1), 1) := by decide +kernel
theorem dX7_readInto_12 : decode cX7_readInto 12 = .ok (.putfield 20, 3) := by decide +kernel
theorem dX7_readInto_15 : decode cX7_readInto 15 = .ok (.aload_n 0, 1) := by decide +kernel
theorem dX7_readInto_16 : decode cX7_readInto 16 = .ok (.iconst 0, 1) := by decide +kernel
theorem dX7_readInto_17 : decode cX7_readInto 17 = .ok (.putfield 23, 3) := by decide +kernel
theorem dX7_readInto_20 : decode cX7_readInto 20 = .ok (.iconst 0, 1) := by decide +kernel
theorem dX7_readInto_21 : decode cX7_readInto 21 = .ok (.istore_n 3, 1) := by decide +kernel
theorem dX7_readInto_22 : decode cX7_readInto 22 = .ok (.iload_n 3, 1) := by decide +kernel
theorem dX7_readInto_23 : decode cX7_readInto 23 = .ok (.aload_n 2, 1) := by decide +kernel
theorem dX7_readInto_24 : decode cX7_readInto 24 = .ok (.getfield 26, 3) := by decide +kernel
theorem dX7_readInto_27 : decode cX7_readInto 27 = .ok (.if_icmp .ge 94, 3) := by decide +kernel
theorem dX7_readInto_30 : decode cX7_readInto 30 = .ok (.aload_n 0, 1) := by decide +kernel
theorem dX7_readInto_31 : decode cX7_readInto 31 = .ok (.getfield 15, 3) := by decide +kernel
theorem dX7_readInto_34 : decode cX7_readInto 34 = .ok (.ifCond .ne 87, 3) := by decide +kernel
theorem dX7_readInto_37 : decode cX7_readInto 37 = .ok (.aload_n 2, 1) := by decide +kernel
theorem dX7_readInto_38 : decode cX7_readInto 38 = .ok (.iload_n 3, 1) := by decide +kernel
theorem dX7_readInto_39 : decode cX7_readInto 39 = .ok (.invokevirtual 31, 3) := by decide +kernel
theorem dX7_readInto_42 : decode cX7_readInto 42 = .ok (.istore 4, 2) := by decide +kernel
theorem dX7_readInto_44 : decode cX7_readInto 44 = .ok (.iload 4, 2) := by decide +kernel
theorem dX7_readInto_46 : decode cX7_readInto 46 = .ok (.bipush 32, 2) := by decide +kernel
theorem dX7_readInto_48 : decode cX7_readInto 48 = .ok (.if_icmp .eq 10, 3) := by decide +kernel
theorem dX7_readInto_51 : decode cX7_readInto 51 = .ok (.iload 4, 2) := by decide +kernel
theorem dX7_readInto_53 : decode cX7_readInto 53 = .ok (.bipush 10, 2) := by decide +kernel
theorem dX7_readInto_55 : decode cX7_readInto 55 = .ok (.if_icmp .ne 9, 3) := by decide +kernel
theorem dX7_readInto_58 : decode cX7_readInto 58 = .ok (.iinc 3 1, 3) := by decide +kernel
theorem dX7_readInto_61 : decode cX7_readInto 61 = .ok (.goto 57, 3) := by decide +kernel
theorem dX7_readInto_64 : decode cX7_readInto 64 = .ok (.iload 4, 2) := by decide +kernel
theorem dX7_readInto_66 : decode cX7_readInto 66 = .ok (.bipush 59, 2) := by decide +kernel
theorem dX7_readInto_68 : decode cX7_readInto 68 = .ok (.if_icmp .ne 14, 3) := by decide +kernel
theorem dX7_readInto_71 : decode cX7_readInto 71 = .ok (.aload_n 0, 1) := by decide +kernel
theorem dX7_readInto_72 : decode cX7_readInto 72 = .ok (.iload_n 3, 1) := by decide +kernel
theorem dX7_readInto_73 : decode cX7_readInto 73 = .ok (.invokevirtual 35, 3) := by decide +kernel
theorem dX7_readInto_76 : decode cX7_readInto 76 = .ok (.iinc 3 1, 3) := by decide +kernel
theorem dX7_readInto_79 : decode cX7_readInto 79 = .ok (.goto 39, 3) := by decide +kernel
theorem dX7_readInto_82 : decode cX7_readInto 82 = .ok (.iload 4, 2) := by decide +kernel
theorem dX7_readInto_84 : decode cX7_readInto 84 = .ok (.invokestatic 39, 3) := by decide +kernel
theorem dX7_readInto_87 : decode cX7_readInto 87 = .ok (.ifCond .eq 25, 3) := by decide +kernel
theorem dX7_readInto_90 : decode cX7_readInto 90 = .ok (.aload_n 2, 1) := by decide +kernel
theorem dX7_readInto_91 : decode cX7_readInto 91 = .ok (.iload_n 3, 1) := by decide +kernel
theorem dX7_readInto_92 : decode cX7_readInto 92 = .ok (.invokestatic 43, 3) := by decide +kernel
theorem dX7_readInto_95 : decode cX7_readInto 95 = .ok (.istore 5, 2) := by decide +kernel
theorem dX7_readInto_97 : decode cX7_readInto 97 = .ok (.aload_n 0, 1) := by decide +kernel
theorem dX7_readInto_98 : decode cX7_readInto 98 = .ok (.aload_n 1, 1) := by decide +kernel
theorem dX7_readInto_99 : decode cX7_readInto 99 = .ok (.aload_n 2, 1) := by decide +kernel
theorem dX7_readInto_100 : decode cX7_readInto 100 = .ok (.iload_n 3, 1) := by decide +kernel
theorem dX7_readInto_101 : decode cX7_readInto 101 = .ok (.iload 5, 2) := by decide +kernel
theorem dX7_readInto_103 : decode cX7_readInto 103 = .ok (.invokevirtual 47, 3) := by decide +kernel
theorem dX7_readInto_106 : decode cX7_readInto 106 = .ok (.iload 5, 2) := by decide +kernel
theorem dX7_readInto_108 : decode cX7_readInto 108 = .ok (.istore_n 3, 1) := by decide +kernel
theorem dX7_readInto_109 : decode cX7_readInto 109 = .ok (.goto 9, 3) := by decide +kernel
theorem dX7_readInto_112 : decode cX7_readInto 112 = .ok (.aload_n 0, 1) := by decide +kernel
theorem dX7_readInto_113 : decode cX7_readInto 113 = .ok (.iload_n 3, 1) := by decide +kernel
theorem dX7_readInto_114 : decode cX7_readInto 114 = .ok (.iconst 1, 1) := by decide +kernel
theorem dX7_readInto_115 : decode cX7_readInto 115 = .ok (.invokevirtual 51, 3) := by decide +kernel
theorem dX7_readInto_118 : decode cX7_readInto 118 = .ok (.goto (-96), 3) := by decide +kernel
theorem dX7_readInto_121 : decode cX7_readInto 121 = .ok (.aload_n 0, 1) := by decide +kernel
theorem dX7_readInto_122 : decode cX7_readInto 122 = .ok (.getfield 15, 3) := by decide +kernel
theorem dX7_readInto_125 : decode cX7_readInto 125 = .ok (.ifCond .ne 26, 3) := by decide +kernel
theorem dX7_readInto_128 : decode cX7_readInto 128 = .ok (.aload_n 0, 1) := by decide +kernel
theorem dX7_readInto_129 : decode cX7_readInto 129 = .ok (.getfield 23, 3) := by decide +kernel
theorem dX7_readInto_132 : decode cX7_readInto 132 = .ok (.ifCond .ne 10, 3) := by decide +kernel
theorem dX7_readInto_135 : decode cX7_readInto 135 = .ok (.aload_n 1, 1) := by decide +kernel
theorem dX7_readInto_136 : decode cX7_readInto 136 = .ok (.getfield 9, 3) := by decide +kernel
theorem dX7_readInto_139 : decode cX7_readInto 139 = .ok (.ifCond .ne 12, 3) := by decide +kernel
theorem dX7_readInto_142 : decode cX7_readInto 142 = .ok (.aload_n 0, 1) := by decide +kernel
theorem dX7_readInto_143 : decode cX7_readInto 143 = .ok (.aload_n 2, 1) := by decide +kernel
theorem dX7_readInto_144 : decode cX7_readInto 144 = .ok (.getfield 26, 3) := by decide +kernel
theorem dX7_readInto_147 : decode cX7_readInto 147 = .ok (.iconst 2, 1) := by decide +kernel
theorem dX7_readInto_148 : decode cX7_readInto 148 = .ok (.invokevirtual 51, 3) := by decide +kernel
theorem dX7_readInto_151 : decode cX7_readInto 151 = .ok (.return_, 1) := by decide +kernel
theorem dX7_failAt_0 : decode cX7_failAt 0 = .ok (.aload_n 0, 1) := by decide +kernel
theorem dX7_failAt_1 : decode cX7_failAt 1 = .ok (.iload_n 2, 1) := by decide +kernel
theorem dX7_failAt_2 : decode cX7_failAt 2 = .ok (.putfield 15, 3) := by decide +kernel
theorem dX7_failAt_5 : decode cX7_failAt 5 = .ok (.aload_n 0, 1) := by decide +kernel
theorem dX7_failAt_6 : decode cX7_failAt 6 = .ok (.iload_n 1, 1) := by decide +kernel
theorem dX7_failAt_7 : decode cX7_failAt 7 = .ok (.putfield 20, 3) := by decide +kernel
theorem dX7_failAt_10 : decode cX7_failAt 10 = .ok (.return_, 1) := by decide +kernel
set_option maxRecDepth 20000 in
theorem ggX7_takeSemicolon_X7_failAt : GoodIn wsX7_takeSemicolon wsX7_failAt := goodIn_r _ [6, 7, 8, 9, 10, 11] (by decide +kernel) (by decide +kernel)
set_option maxRecDepth 20000 in
theorem gX7_takeSemicolon_X7_failAt : GoodIn wsX7_takeSemicolon (wsV RX7 51 RX7 yX7_failAt wsX7_failAt) := goodIn_app (goodIn_of _ (by decide +kernel)) ggX7_takeSemicolon_X7_failAt
theorem dX7_takeSemicolon_0 : decode cX7_takeSemicolon 0 = .ok (.aload_n 0, 1) := by decide +kernel
theorem dX7_takeSemicolon_1 : decode cX7_takeSemicolon 1 = .ok (.getfield 23, 3) := by decide +kernel
theorem dX7_takeSemicolon_4 : decode cX7_takeSemicolon 4 = .ok (.ifCond .ne 9, 3) := by decide +kernel
theorem dX7_takeSemicolon_7 : decode cX7_takeSemicolon 7 = .ok (.aload_n 0, 1) := by decide +kernel
theorem dX7_takeSemicolon_8 : decode cX7_takeSemicolon 8 = .ok (.iload_n 1, 1) := by decide +kernel
theorem dX7_takeSemicolon_9 : decode cX7_takeSemicolon 9 = .ok (.iconst 2, 1) := by decide +kernel
theorem dX7_takeSemicolon_10 : decode cX7_takeSemicolon 10 = .ok (.invokevirtual 51, 3) := by decide +kernel
theorem dX7_takeSemicolon_13 : decode cX7_takeSemicolon 13 = .ok (.aload_n 0, 1) := by decide +kernel
theorem dX7_takeSemicolon_14 : decode cX7_takeSemicolon 14 = .ok (.iconst 0, 1) := by decide +kernel
theorem dX7_takeSemicolon_15 : decode cX7_takeSemicolon 15 = .ok (.putfield 23, 3) := by decide +kernel
theorem dX7_takeSemicolon_18 : decode cX7_takeSemicolon 18 = .ok (.return_, 1) := by decide +kernel
set_option maxRecDepth 20000 in
theorem ggX7_takeWord_X8_isWord : GoodIn wsX7_takeWord wsX8_isWord := goodIn_r _ [7, 8, 9, 10, 11, 12, 13, 14, 15, 16, 17, 18, 19, 20, 21, 22, 6, 23, 24, 25, 26, 27, 28, 29, 30, 31, 32, 33, 34, 35, 36, 37, 38, 39, 40, 41, 42, 43, 44, 45, 46, 47, 48, 49, 50, 51, 52, 53, 54, 55, 56, 57, 58, 59, 60, 61, 62, 91, 92] (by decide +kernel) (by decide +kernel)
set_option maxRecDepth 20000 in
theorem gX7_takeWord_X8_isWord : GoodIn wsX7_takeWord (wsV RX7 57 RX8 yX8_isWord wsX8_isWord) := goodIn_app (goodIn_of _ (by decide +kernel)) ggX7_takeWord_X8_isWord
set_option maxRecDepth 20000 in
theorem ggX7_takeWord_X6_makeLastThrough : GoodIn wsX7_takeWord wsX6_makeLastThrough := goodIn_r _ [67, 68, 69, 88, 89, 90] (by decide +kernel) (by decide +kernel)
set_option maxRecDepth 20000 in
theorem gX7_takeWord_X6_makeLastThrough : GoodIn wsX7_takeWord (wsV RX7 61 RX6 yX6_makeLastThrough wsX6_makeLastThrough) := goodIn_app (goodIn_of _ (by decide +kernel)) ggX7_takeWord_X6_makeLastThrough
set_option maxRecDepth 20000 in
theorem ggX7_takeWord_X7_formNamed : GoodIn wsX7_takeWord wsX7_formNamed := goodIn_r _ [73, 3, 4, 5, 6, 7, 8, 9, 10, 11, 12, 13, 14, 15, 16, 17, 18, 19, 20, 21, 22, 23, 24, 25, 26, 27, 28, 29, 30, 31, 32, 33, 34, 35, 36, 37, 38, 39, 40, 41, 42, 43, 44, 45, 46, 47, 48, 49, 50, 51, 52, 53, 54, 55, 56, 57, 58, 59, 60, 61, 62, 91, 92] (by decide +kernel) (by decide +kernel)
set_option maxRecDepth 20000 in
theorem gX7_takeWord_X7_formNamed : GoodIn wsX7_takeWord (va_wsS RX7 64 yX7_formNamed wsX7_formNamed) := goodIn_app (goodIn_of _ (by decide +kernel)) ggX7_takeWord_X7_formNamed
set_option maxRecDepth 20000 in
theorem ggX7_takeWord_X7_failAt : GoodIn wsX7_takeWord wsX7_failAt := goodIn_r _ [77, 78, 79, 85, 86, 87] (by decide +kernel) (by decide +kernel)
set_option maxRecDepth 20000 in
theorem gX7_takeWord_X7_failAt : GoodIn wsX7_takeWord (wsV RX7 51 RX7 yX7_failAt wsX7_failAt) := goodIn_app (goodIn_of _ (by decide +kernel)) ggX7_takeWord_X7_failAt
set_option maxRecDepth 20000 in
theorem ggX7_takeWord_X6_append : GoodIn wsX7_takeWord wsX6_append := goodIn_r _ [83, 68, 84, 69, 88, 89, 90] (by decide +kernel) (by decide +kernel)
set_option maxRecDepth 20000 in
theorem gX7_takeWord_X6_append : GoodIn wsX7_takeWord (wsV RX7 68 RX6 yX6_append wsX6_append) := goodIn_app (goodIn_of _ (by decide +kernel)) ggX7_takeWord_X6_append
theorem dX7_takeWord_0 : decode cX7_takeWord 0 = .ok (.aload_n 0, 1) := by decide +kernel
theorem dX7_takeWord_1 : decode cX7_takeWord 1 = .ok (.getfield 23, 3) := by decide +kernel
theorem dX7_takeWord_4 : decode cX7_takeWord 4 = .ok (.iconst 1, 1) := by decide +kernel
theorem dX7_takeWord_5 : decode cX7_takeWord 5 = .ok (.if_icmp .ne 25, 3) := by decide +kernel
theorem dX7_takeWord_8 : decode cX7_takeWord 8 = .ok (.aload_n 2, 1) := by decide +kernel
theorem dX7_takeWord_9 : decode cX7_takeWord 9 = .ok (.iload_n 3, 1) := by decide +kernel
theorem dX7_takeWord_10 : decode cX7_takeWord 10 = .ok (.iload 4, 2) := by decide +kernel
theorem dX7_takeWord_12 : decode cX7_takeWord 12 = .ok (.ldc 55, 2) := by decide +kernel
theorem dX7_takeWord_14 : decode cX7_takeWord 14 = .ok (.invokevirtual 57, 3) := by decide +kernel
theorem dX7_takeWord_17 : decode cX7_takeWord 17 = .ok (.ifCond .eq 13, 3) := by decide +kernel
theorem dX7_takeWord_20 : decode cX7_takeWord 20 = .ok (.aload_n 1, 1) := by decide +kernel
theorem dX7_takeWord_21 : decode cX7_takeWord 21 = .ok (.invokevirtual 61, 3) := by decide +kernel
theorem dX7_takeWord_24 : decode cX7_takeWord 24 = .ok (.aload_n 0, 1) := by decide +kernel
theorem dX7_takeWord_25 : decode cX7_takeWord 25 = .ok (.iconst 2, 1) := by decide +kernel
theorem dX7_takeWord_26 : decode cX7_takeWord 26 = .ok (.putfield 23, 3) := by decide +kernel
theorem dX7_takeWord_29 : decode cX7_takeWord 29 = .ok (.return_, 1) := by decide +kernel
theorem dX7_takeWord_30 : decode cX7_takeWord 30 = .ok (.aload_n 2, 1) := by decide +kernel
theorem dX7_takeWord_31 : decode cX7_takeWord 31 = .ok (.iload_n 3, 1) := by decide +kernel
theorem dX7_takeWord_32 : decode cX7_takeWord 32 = .ok (.iload 4, 2) := by decide +kernel
theorem dX7_takeWord_34 : decode cX7_takeWord 34 = .ok (.invokestatic 64, 3) := by decide +kernel
theorem dX7_takeWord_37 : decode cX7_takeWord 37 = .ok (.istore 5, 2) := by decide +kernel
theorem dX7_takeWord_39 : decode cX7_takeWord 39 = .ok (.aload_n 0, 1) := by decide +kernel
theorem dX7_takeWord_40 : decode cX7_takeWord 40 = .ok (.getfield 23, 3) := by decide +kernel
theorem dX7_takeWord_43 : decode cX7_takeWord 43 = .ok (.ifCond .ne 9, 3) := by decide +kernel
theorem dX7_takeWord_46 : decode cX7_takeWord 46 = .ok (.iload 5, 2) := by decide +kernel
theorem dX7_takeWord_48 : decode cX7_takeWord 48 = .ok (.iconst (-1), 1) := by decide +kernel
theorem dX7_takeWord_49 : decode cX7_takeWord 49 = .ok (.if_icmp .ne 12, 3) := by decide +kernel
theorem dX7_takeWord_52 : decode cX7_takeWord 52 = .ok (.aload_n 0, 1) := by decide +kernel
theorem dX7_takeWord_53 : decode cX7_takeWord 53 = .ok (.iload_n 3, 1) := by decide +kernel
theorem dX7_takeWord_54 : decode cX7_takeWord 54 = .ok (.iconst 2, 1) := by decide +kernel
theorem dX7_takeWord_55 : decode cX7_takeWord 55 = .ok (.invokevirtual 51, 3) := by decide +kernel
theorem dX7_takeWord_58 : decode cX7_takeWord 58 = .ok (.goto 31, 3) := by decide +kernel
theorem dX7_takeWord_61 : decode cX7_takeWord 61 = .ok (.aload_n 1, 1) := by decide +kernel
theorem dX7_takeWord_62 : decode cX7_takeWord 62 = .ok (.getfield 9, 3) := by decide +kernel
theorem dX7_takeWord_65 : decode cX7_takeWord 65 = .ok (.iconst 4, 1) := by decide +kernel
theorem dX7_takeWord_66 : decode cX7_takeWord 66 = .ok (.if_icmp .ne 12, 3) := by decide +kernel
theorem dX7_takeWord_69 : decode cX7_takeWord 69 = .ok (.aload_n 0, 1) := by decide +kernel
theorem dX7_takeWord_70 : decode cX7_takeWord 70 = .ok (.iload_n 3, 1) := by decide +kernel
theorem dX7_takeWord_71 : decode cX7_takeWord 71 = .ok (.iconst 3, 1) := by decide +kernel
theorem dX7_takeWord_72 : decode cX7_takeWord 72 = .ok (.invokevirtual 51, 3) := by decide +kernel
theorem dX7_takeWord_75 : decode cX7_takeWord 75 = .ok (.goto 14, 3) := by decide +kernel
theorem dX7_takeWord_78 : decode cX7_takeWord 78 = .ok (.aload_n 1, 1) := by decide +kernel
theorem dX7_takeWord_79 : decode cX7_takeWord 79 = .ok (.iload 5, 2) := by decide +kernel
theorem dX7_takeWord_81 : decode cX7_takeWord 81 = .ok (.invokevirtual 68, 3) := by decide +kernel
theorem dX7_takeWord_84 : decode cX7_takeWord 84 = .ok (.aload_n 0, 1) := by decide +kernel
theorem dX7_takeWord_85 : decode cX7_takeWord 85 = .ok (.iconst 1, 1) := by decide +kernel
theorem dX7_takeWord_86 : decode cX7_takeWord 86 = .ok (.putfield 23, 3) := by decide +kernel
theorem dX7_takeWord_89 : decode cX7_takeWord 89 = .ok (.return_, 1) := by decide +kernel
theorem dX7_isSmallLetter_0 : decode cX7_isSmallLetter 0 = .ok (.iload_n 0, 1) := by decide +kernel
theorem dX7_isSmallLetter_1 : decode cX7_isSmallLetter 1 = .ok (.bipush 97, 2) := by decide +kernel
theorem dX7_isSmallLetter_3 : decode cX7_isSmallLetter 3 = .ok (.if_icmp .lt 13, 3) := by decide +kernel
theorem dX7_isSmallLetter_6 : decode cX7_isSmallLetter 6 = .ok (.iload_n 0, 1) := by decide +kernel
theorem dX7_isSmallLetter_7 : decode cX7_isSmallLetter 7 = .ok (.bipush 122, 2) := by decide +kernel
theorem dX7_isSmallLetter_9 : decode cX7_isSmallLetter 9 = .ok (.if_icmp .gt 7, 3) := by decide +kernel
theorem dX7_isSmallLetter_12 : decode cX7_isSmallLetter 12 = .ok (.iconst 1, 1) := by decide +kernel
theorem dX7_isSmallLetter_13 : decode cX7_isSmallLetter 13 = .ok (.goto 4, 3) := by decide +kernel
theorem dX7_isSmallLetter_16 : decode cX7_isSmallLetter 16 = .ok (.iconst 0, 1) := by decide +kernel
theorem dX7_isSmallLetter_17 : decode cX7_isSmallLetter 17 = .ok (.ireturn, 1) := by decide +kernel
set_option maxRecDepth 20000 in
theorem ggX7_wordEnd_X8_byteAt : GoodIn wsX7_wordEnd wsX8_byteAt := goodIn_r _ [6, 7, 8, 13, 14] (by decide +kernel) (by decide +kernel)
set_option maxRecDepth 20000 in
theorem gX7_wordEnd_X8_byteAt : GoodIn wsX7_wordEnd (wsV RX7 31 RX8 yX8_byteAt wsX8_byteAt) := goodIn_app (goodIn_of _ (by decide +kernel)) ggX7_wordEnd_X8_byteAt
set_option maxRecDepth 20000 in
theorem ggX7_wordEnd_X7_isSmallLetter : GoodIn wsX7_wordEnd wsX7_isSmallLetter := goodIn_r _ [12] (by decide +kernel) (by decide +kernel)
set_option maxRecDepth 20000 in
theorem gX7_wordEnd_X7_isSmallLetter : GoodIn wsX7_wordEnd (va_wsS RX7 39 yX7_isSmallLetter wsX7_isSmallLetter) := goodIn_app (goodIn_of _ (by decide +kernel)) ggX7_wordEnd_X7_isSmallLetter
theorem dX7_wordEnd_0 : decode cX7_wordEnd 0 = .ok (.iload_n 1, 1) := by decide +kernel
theorem dX7_wordEnd_1 : decode cX7_wordEnd 1 = .ok (.iconst 1, 1) := by decide +kernel
theorem dX7_wordEnd_2 : decode cX7_wordEnd 2 = .ok (.iadd, 1) := by decide +kernel
theorem dX7_wordEnd_3 : decode cX7_wordEnd 3 = .ok (.istore_n 2, 1) := by decide +kernel
theorem dX7_wordEnd_4 : decode cX7_wordEnd 4 = .ok (.iload_n 2, 1) := by decide +kernel
theorem dX7_wordEnd_5 : decode cX7_wordEnd 5 = .ok (.aload_n 0, 1) := by decide +kernel
theorem dX7_wordEnd_6 : decode cX7_wordEnd 6 = .ok (.getfield 26, 3) := by decide +kernel
theorem dX7_wordEnd_9 : decode cX7_wordEnd 9 = .ok (.if_icmp .ge 20, 3) := by decide +kernel
theorem dX7_wordEnd_12 : decode cX7_wordEnd 12 = .ok (.aload_n 0, 1) := by decide +kernel
theorem dX7_wordEnd_13 : decode cX7_wordEnd 13 = .ok (.iload_n 2, 1) := by decide +kernel
theorem dX7_wordEnd_14 : decode cX7_wordEnd 14 = .ok (.invokevirtual 31, 3) := by decide +kernel
theorem dX7_wordEnd_17 : decode cX7_wordEnd 17 = .ok (.invokestatic 39, 3) := by decide +kernel
theorem dX7_wordEnd_20 : decode cX7_wordEnd 20 = .ok (.ifCond .eq 9, 3) := by decide +kernel
theorem dX7_wordEnd_23 : decode cX7_wordEnd 23 = .ok (.iinc 2 1, 3) := by decide +kernel
theorem dX7_wordEnd_26 : decode cX7_wordEnd 26 = .ok (.goto (-22), 3) := by decide +kernel
theorem dX7_wordEnd_29 : decode cX7_wordEnd 29 = .ok (.iload_n 2, 1) := by decide +kernel
theorem dX7_wordEnd_30 : decode cX7_wordEnd 30 = .ok (.ireturn, 1) := by decide +kernel
set_option maxRecDepth 20000 in
theorem ggX7_formNamed_X8_isWord : GoodIn wsX7_formNamed wsX8_isWord := goodIn_r _ [5, 6, 7, 8, 9, 10, 11, 12, 13, 14, 15, 16, 17, 18, 19, 20, 4, 21, 22, 23, 24, 25, 26, 27, 28, 29, 30, 31, 32, 33, 34, 35, 36, 37, 38, 39, 40, 41, 42, 43, 44, 45, 46, 47, 48, 49, 50, 51, 52, 53, 54, 55, 56, 57, 58, 59, 60, 61, 62] (by decide +kernel) (by decide +kernel)
set_option maxRecDepth 20000 in
theorem gX7_formNamed_X8_isWord : GoodIn wsX7_formNamed (wsV RX7 57 RX8 yX8_isWord wsX8_isWord) := goodIn_app (goodIn_of _ (by decide +kernel)) ggX7_formNamed_X8_isWord
theorem dX7_formNamed_0 : decode cX7_formNamed 0 = .ok (.aload_n 0, 1) := by decide +kernel
theorem dX7_formNamed_1 : decode cX7_formNamed 1 = .ok (.iload_n 1, 1) := by decide +kernel
theorem dX7_formNamed_2 : decode cX7_formNamed 2 = .ok (.iload_n 2, 1) := by decide +kernel
theorem dX7_formNamed_3 : decode cX7_formNamed 3 = .ok (.ldc 71, 2) := by decide +kernel
theorem dX7_formNamed_5 : decode cX7_formNamed 5 = .ok (.invokevirtual 57, 3) := by decide +kernel
theorem dX7_formNamed_8 : decode cX7_formNamed 8 = .ok (.ifCond .eq 5, 3) := by decide +kernel
theorem dX7_formNamed_11 : decode cX7_formNamed 11 = .ok (.iconst 0, 1) := by decide +kernel
theorem dX7_formNamed_12 : decode cX7_formNamed 12 = .ok (.ireturn, 1) := by decide +kernel
theorem dX7_formNamed_13 : decode cX7_formNamed 13 = .ok (.aload_n 0, 1) := by decide +kernel
theorem dX7_formNamed_14 : decode cX7_formNamed 14 = .ok (.iload_n 1, 1) := by decide +kernel
theorem dX7_formNamed_15 : decode cX7_formNamed 15 = .ok (.iload_n 2, 1) := by decide +kernel
theorem dX7_formNamed_16 : decode cX7_formNamed 16 = .ok (.ldc 73, 2) := by decide +kernel
theorem dX7_formNamed_18 : decode cX7_formNamed 18 = .ok (.invokevirtual 57, 3) := by decide +kernel
theorem dX7_formNamed_21 : decode cX7_formNamed 21 = .ok (.ifCond .eq 5, 3) := by decide +kernel
theorem dX7_formNamed_24 : decode cX7_formNamed 24 = .ok (.iconst 1, 1) := by decide +kernel
theorem dX7_formNamed_25 : decode cX7_formNamed 25 = .ok (.ireturn, 1) := by decide +kernel
theorem dX7_formNamed_26 : decode cX7_formNamed 26 = .ok (.aload_n 0, 1) := by decide +kernel
theorem dX7_formNamed_27 : decode cX7_formNamed 27 = .ok (.iload_n 1, 1) := by decide +kernel
theorem dX7_formNamed_28 : decode cX7_formNamed 28 = .ok (.iload_n 2, 1) := by decide +kernel
theorem dX7_formNamed_29 : decode cX7_formNamed 29 = .ok (.ldc 75, 2) := by decide +kernel
theorem dX7_formNamed_31 : decode cX7_formNamed 31 = .ok (.invokevirtual 57, 3) := by decide +kernel
theorem dX7_formNamed_34 : decode cX7_formNamed 34 = .ok (.ifCond .eq 5, 3) := by decide +kernel
theorem dX7_formNamed_37 : decode cX7_formNamed 37 = .ok (.iconst 2, 1) := by decide +kernel
theorem dX7_formNamed_38 : decode cX7_formNamed 38 = .ok (.ireturn, 1) := by decide +kernel
theorem dX7_formNamed_39 : decode cX7_formNamed 39 = .ok (.aload_n 0, 1) := by decide +kernel
theorem dX7_formNamed_40 : decode cX7_formNamed 40 = .ok (.iload_n 1, 1) := by decide +kernel
theorem dX7_formNamed_41 : decode cX7_formNamed 41 = .ok (.iload_n 2, 1) := by decide +kernel
theorem dX7_formNamed_42 : decode cX7_formNamed 42 = .ok (.ldc 77, 2) := by decide +kernel
theorem dX7_formNamed_44 : decode cX7_formNamed 44 = .ok (.invokevirtual 57, 3) := by decide +kernel
theorem dX7_formNamed_47 : decode cX7_formNamed 47 = .ok (.ifCond .eq 7, 3) := by decide +kernel
theorem dX7_formNamed_50 : decode cX7_formNamed 50 = .ok (.iconst 3, 1) := by decide +kernel
theorem dX7_formNamed_51 : decode cX7_formNamed 51 = .ok (.goto 4, 3) := by decide +kernel
theorem dX7_formNamed_54 : decode cX7_formNamed 54 = .ok (.iconst (-1), 1) := by decide +kernel
theorem dX7_formNamed_55 : decode cX7_formNamed 55 = .ok (.ireturn, 1) := by decide +kernel
theorem dX8_init_0 : decode cX8_init 0 = .ok (.aload_n 0, 1) := by decide +kernel
theorem dX8_init_1 : decode cX8_init 1 = .ok (.invokespecial 3, 3) := by decide +kernel
theorem dX8_init_4 : decode cX8_init 4 = .ok (.aload_n 0, 1) := by decide +kernel
theorem dX8_init_5 : decode cX8_init 5 = .ok (.sipush 200, 3) := by decide +kernel
theorem dX8_init_8 : decode cX8_init 8 = .ok (.newarray .int, 2) := by decide +kernel
theorem dX8_init_10 : decode cX8_init 10 = .ok (.putfield 9, 3) := by decide +kernel
theorem dX8_init_13 : decode cX8_init 13 = .ok (.return_, 1) := by decide +kernel
theorem dX8_put_0 : decode cX8_put 0 = .ok (.aload_n 0, 1) := by decide +kernel
theorem dX8_put_1 : decode cX8_put 1 = .ok (.getfield 15, 3) := by decide +kernel
theorem dX8_put_4 : decode cX8_put 4 = .ok (.aload_n 0, 1) := by decide +kernel
theorem dX8_put_5 : decode cX8_put 5 = .ok (.getfield 9, 3) := by decide +kernel
theorem dX8_put_8 : decode cX8_put 8 = .ok (.arraylength, 1) := by decide +kernel
theorem dX8_put_9 : decode cX8_put 9 = .ok (.if_icmp .ge 23, 3) := by decide +kernel
theorem dX8_put_12 : decode cX8_put 12 = .ok (.aload_n 0, 1) := by decide +kernel
theorem dX8_put_13 : decode cX8_put 13 = .ok (.getfield 9, 3) := by decide +kernel
theorem dX8_put_16 : decode cX8_put 16 = .ok (.aload_n 0, 1) := by decide +kernel
theorem dX8_put_17 : decode cX8_put 17 = .ok (.getfield 15, 3) := by decide +kernel
theorem dX8_put_20 : decode cX8_put 20 = .ok (.iload_n 1, 1) := by decide +kernel
theorem dX8_put_21 : decode cX8_put 21 = .ok (.iastore, 1) := by decide +kernel
theorem dX8_put_22 : decode cX8_put 22 = .ok (.aload_n 0, 1) := by decide +kernel
theorem dX8_put_23 : decode cX8_put 23 = .ok (.dup, 1) := by decide +kernel
theorem dX8_put_24 : decode cX8_put 24 = .ok (.getfield 15, 3) := by decide +kernel
theorem dX8_put_27 : decode cX8_put 27 = .ok (.iconst 1, 1) := by decide +kernel
theorem dX8_put_28 : decode cX8_put 28 = .ok (.iadd, 1) := by decide +kernel
theorem dX8_put_29 : decode cX8_put 29 = .ok (.putfield 15, 3) := by decide +kernel
theorem dX8_put_32 : decode cX8_put 32 = .ok (.return_, 1) := by decide +kernel
set_option maxRecDepth 20000 in
theorem ggX8_putFour_X8_put : GoodIn wsX8_putFour wsX8_put := goodIn_r _ [5, 6, 7, 8, 9] (by decide +kernel) (by decide +kernel)
set_option maxRecDepth 20000 in
theorem gX8_putFour_X8_put : GoodIn wsX8_putFour (wsV RX8 19 RX8 yX8_put wsX8_put) := goodIn_app (goodIn_of _ (by decide +kernel)) ggX8_putFour_X8_put
theorem dX8_putFour_0 : decode cX8_putFour 0 = .ok (.aload_n 0, 1) := by decide +kernel
theorem dX8_putFour_1 : decode cX8_putFour 1 = .ok (.iload_n 1, 1) := by decide +kernel
theorem dX8_putFour_2 : decode cX8_putFour 2 = .ok (.bipush 24, 2) := by decide +kernel
theorem dX8_putFour_4 : decode cX8_putFour 4 = .ok (.iushr, 1) := by decide +kernel
theorem dX8_putFour_5 : decode cX8_putFour 5 = .ok (.invokevirtual 19, 3) := by decide +kernel
theorem dX8_putFour_8 : decode cX8_putFour 8 = .ok (.aload_n 0, 1) := by decide +kernel
theorem dX8_putFour_9 : decode cX8_putFour 9 = .ok (.iload_n 1, 1) := by decide +kernel
theorem dX8_putFour_10 : decode cX8_putFour 10 = .ok (.bipush 16, 2) := by decide +kernel
theorem dX8_putFour_12 : decode cX8_putFour 12 = .ok (.iushr, 1) := by decide +kernel
theorem dX8_putFour_13 : decode cX8_putFour 13 = .ok (.sipush 255, 3) := by decide +kernel
theorem dX8_putFour_16 : decode cX8_putFour 16 = .ok (.iand, 1) := by decide +kernel
theorem dX8_putFour_17 : decode cX8_putFour 17 = .ok (.invokevirtual 19, 3) := by decide +kernel
theorem dX8_putFour_20 : decode cX8_putFour 20 = .ok (.aload_n 0, 1) := by decide +kernel
theorem dX8_putFour_21 : decode cX8_putFour 21 = .ok (.iload_n 1, 1) := by decide +kernel
theorem dX8_putFour_22 : decode cX8_putFour 22 = .ok (.bipush 8, 2) := by decide +kernel
theorem dX8_putFour_24 : decode cX8_putFour 24 = .ok (.iushr, 1) := by decide +kernel
theorem dX8_putFour_25 : decode cX8_putFour 25 = .ok (.sipush 255, 3) := by decide +kernel
theorem dX8_putFour_28 : decode cX8_putFour 28 = .ok (.iand, 1) := by decide +kernel
theorem dX8_putFour_29 : decode cX8_putFour 29 = .ok (.invokevirtual 19, 3) := by decide +kernel
theorem dX8_putFour_32 : decode cX8_putFour 32 = .ok (.aload_n 0, 1) := by decide +kernel
theorem dX8_putFour_33 : decode cX8_putFour 33 = .ok (.iload_n 1, 1) := by decide +kernel
theorem dX8_putFour_34 : decode cX8_putFour 34 = .ok (.sipush 255, 3) := by decide +kernel
theorem dX8_putFour_37 : decode cX8_putFour 37 = .ok (.iand, 1) := by decide +kernel
theorem dX8_putFour_38 : decode cX8_putFour 38 = .ok (.invokevirtual 19, 3) := by decide +kernel
theorem dX8_putFour_41 : decode cX8_putFour 41 = .ok (.return_, 1) := by decide +kernel
theorem dX8_byteAt_0 : decode cX8_byteAt 0 = .ok (.iload_n 1, 1) := by decide +kernel
theorem dX8_byteAt_1 : decode cX8_byteAt 1 = .ok (.ifCond .lt 29, 3) := by decide +kernel
theorem dX8_byteAt_4 : decode cX8_byteAt 4 = .ok (.iload_n 1, 1) := by decide +kernel
theorem dX8_byteAt_5 : decode cX8_byteAt 5 = .ok (.aload_n 0, 1) := by decide +kernel
theorem dX8_byteAt_6 : decode cX8_byteAt 6 = .ok (.getfield 15, 3) := by decide +kernel
theorem dX8_byteAt_9 : decode cX8_byteAt 9 = .ok (.if_icmp .ge 21, 3) := by decide +kernel
theorem dX8_byteAt_12 : decode cX8_byteAt 12 = .ok (.iload_n 1, 1) := by decide +kernel
theorem dX8_byteAt_13 : decode cX8_byteAt 13 = .ok (.aload_n 0, 1) := by decide +kernel
theorem dX8_byteAt_14 : decode cX8_byteAt 14 = .ok (.getfield 9, 3) := by decide +kernel
theorem dX8_byteAt_17 : decode cX8_byteAt 17 = .ok (.arraylength, 1) := by decide +kernel
theorem dX8_byteAt_18 : decode cX8_byteAt 18 = .ok (.if_icmp .ge 12, 3) := by decide +kernel
theorem dX8_byteAt_21 : decode cX8_byteAt 21 = .ok (.aload_n 0, 1) := by decide +kernel
theorem dX8_byteAt_22 : decode cX8_byteAt 22 = .ok (.getfield 9, 3) := by decide +kernel
theorem dX8_byteAt_25 : decode cX8_byteAt 25 = .ok (.iload_n 1, 1) := by decide +kernel
theorem dX8_byteAt_26 : decode cX8_byteAt 26 = .ok (.iaload, 1) := by decide +kernel
theorem dX8_byteAt_27 : decode cX8_byteAt 27 = .ok (.goto 4, 3) := by decide +kernel
theorem dX8_byteAt_30 : decode cX8_byteAt 30 = .ok (.iconst (-1), 1) := by decide +kernel
theorem dX8_byteAt_31 : decode cX8_byteAt 31 = .ok (.ireturn, 1) := by decide +kernel
set_option maxRecDepth 20000 in
theorem ggX8_isWord_J0_length_8abf5 : GoodIn wsX8_isWord wsJ0_length_8abf5 := goodIn_r _ [5, 6, 7, 8, 9, 4, 10, 11, 12] (by decide +kernel) (by decide +kernel)
set_option maxRecDepth 20000 in
theorem gX8_isWord_J0_length_8abf5 : GoodIn wsX8_isWord (wsV RX8 23 RJ0 yJ0_length_8abf5 wsJ0_length_8abf5) := goodIn_app (goodIn_of _ (by decide +kernel)) ggX8_isWord_J0_length_8abf5
set_option maxRecDepth 20000 in
theorem ggX8_isWord_X8_byteAt : GoodIn wsX8_isWord wsX8_byteAt := goodIn_r _ [17, 18, 19, 57, 58] (by decide +kernel) (by decide +kernel)
set_option maxRecDepth 20000 in
theorem gX8_isWord_X8_byteAt : GoodIn wsX8_isWord (wsV RX8 28 RX8 yX8_byteAt wsX8_byteAt) := goodIn_app (goodIn_of _ (by decide +kernel)) ggX8_isWord_X8_byteAt
set_option maxRecDepth 20000 in
theorem ggX8_isWord_J0_charAt_5068e : GoodIn wsX8_isWord wsJ0_charAt_5068e := goodIn_r _ [23, 6, 24, 25, 26, 4, 27, 11, 12, 28, 29, 30, 31, 32, 33, 34, 35, 36, 37, 38, 39, 40, 41, 42, 43, 44, 45, 46, 47, 48, 49, 50, 51, 52, 53, 54, 55, 56] (by decide +kernel) (by decide +kernel)
set_option maxRecDepth 20000 in
theorem gX8_isWord_J0_charAt_5068e : GoodIn wsX8_isWord (wsV RX8 32 RJ0 yJ0_charAt_5068e wsJ0_charAt_5068e) := goodIn_app (goodIn_of _ (by decide +kernel)) ggX8_isWord_J0_charAt_5068e
theorem dX8_isWord_0 : decode cX8_isWord 0 = .ok (.iload_n 2, 1) := by decide +kernel
theorem dX8_isWord_1 : decode cX8_isWord 1 = .ok (.iload_n 1, 1) := by decide +kernel
theorem dX8_isWord_2 : decode cX8_isWord 2 = .ok (.isub, 1) := by decide +kernel
theorem dX8_isWord_3 : decode cX8_isWord 3 = .ok (.aload_n 3, 1) := by decide +kernel
theorem dX8_isWord_4 : decode cX8_isWord 4 = .ok (.invokevirtual 23, 3) := by decide +kernel
theorem dX8_isWord_7 : decode cX8_isWord 7 = .ok (.if_icmp .eq 5, 3) := by decide +kernel
theorem dX8_isWord_10 : decode cX8_isWord 10 = .ok (.iconst 0, 1) := by decide +kernel
theorem dX8_isWord_11 : decode cX8_isWord 11 = .ok (.ireturn, 1) := by decide +kernel
theorem dX8_isWord_12 : decode cX8_isWord 12 = .ok (.iconst 0, 1) := by decide +kernel
theorem dX8_isWord_13 : decode cX8_isWord 13 = .ok (.istore 4, 2) := by decide +kernel
theorem dX8_isWord_15 : decode cX8_isWord 15 = .ok (.iload 4, 2) := by decide +kernel
theorem dX8_isWord_17 : decode cX8_isWord 17 = .ok (.aload_n 3, 1) := by decide +kernel
theorem dX8_isWord_18 : decode cX8_isWord 18 = .ok (.invokevirtual 23, 3) := by decide +kernel
theorem dX8_isWord_21 : decode cX8_isWord 21 = .ok (.if_icmp .ge 28, 3) := by decide +kernel
theorem dX8_isWord_24 : decode cX8_isWord 24 = .ok (.aload_n 0, 1) := by decide +kernel
theorem dX8_isWord_25 : decode cX8_isWord 25 = .ok (.iload_n 1, 1) := by decide +kernel
theorem dX8_isWord_26 : decode cX8_isWord 26 = .ok (.iload 4, 2) := by decide +kernel
theorem dX8_isWord_28 : decode cX8_isWord 28 = .ok (.iadd, 1) := by decide +kernel
theorem dX8_isWord_29 : decode cX8_isWord 29 = .ok (.invokevirtual 28, 3) := by decide +kernel
theorem dX8_isWord_32 : decode cX8_isWord 32 = .ok (.aload_n 3, 1) := by decide +kernel
theorem dX8_isWord_33 : decode cX8_isWord 33 = .ok (.iload 4, 2) := by decide +kernel
theorem dX8_isWord_35 : decode cX8_isWord 35 = .ok (.invokevirtual 32, 3) := by decide +kernel
theorem dX8_isWord_38 : decode cX8_isWord 38 = .ok (.if_icmp .eq 5, 3) := by decide +kernel
theorem dX8_isWord_41 : decode cX8_isWord 41 = .ok (.iconst 0, 1) := by decide +kernel
theorem dX8_isWord_42 : decode cX8_isWord 42 = .ok (.ireturn, 1) := by decide +kernel
theorem dX8_isWord_43 : decode cX8_isWord 43 = .ok (.iinc 4 1, 3) := by decide +kernel
theorem dX8_isWord_46 : decode cX8_isWord 46 = .ok (.goto (-31), 3) := by decide +kernel
theorem dX8_isWord_49 : decode cX8_isWord 49 = .ok (.iconst 1, 1) := by decide +kernel
theorem dX8_isWord_50 : decode cX8_isWord 50 = .ok (.ireturn, 1) := by decide +kernel
set_option maxRecDepth 20000 in
theorem ggX8_isPart_X8_byteAt : GoodIn wsX8_isPart wsX8_byteAt := goodIn_r _ [6, 1, 7, 8, 9] (by decide +kernel) (by decide +kernel)
set_option maxRecDepth 20000 in
theorem gX8_isPart_X8_byteAt : GoodIn wsX8_isPart (wsV RX8 28 RX8 yX8_byteAt wsX8_byteAt) := goodIn_app (goodIn_of _ (by decide +kernel)) ggX8_isPart_X8_byteAt
theorem dX8_isPart_0 : decode cX8_isPart 0 = .ok (.iload_n 2, 1) := by decide +kernel
theorem dX8_isPart_1 : decode cX8_isPart 1 = .ok (.iload_n 1, 1) := by decide +kernel
theorem dX8_isPart_2 : decode cX8_isPart 2 = .ok (.isub, 1) := by decide +kernel
theorem dX8_isPart_3 : decode cX8_isPart 3 = .ok (.aload_n 3, 1) := by decide +kernel
theorem dX8_isPart_4 : decode cX8_isPart 4 = .ok (.getfield 15, 3) := by decide +kernel
theorem dX8_isPart_7 : decode cX8_isPart 7 = .ok (.if_icmp .eq 5, 3) := by decide +kernel
theorem dX8_isPart_10 : decode cX8_isPart 10 = .ok (.iconst 0, 1) := by decide +kernel
theorem dX8_isPart_11 : decode cX8_isPart 11 = .ok (.ireturn, 1) := by decide +kernel
theorem dX8_isPart_12 : decode cX8_isPart 12 = .ok (.iconst 0, 1) := by decide +kernel
theorem dX8_isPart_13 : decode cX8_isPart 13 = .ok (.istore 4, 2) := by decide +kernel
theorem dX8_isPart_15 : decode cX8_isPart 15 = .ok (.iload 4, 2) := by decide +kernel
theorem dX8_isPart_17 : decode cX8_isPart 17 = .ok (.aload_n 3, 1) := by decide +kernel
theorem dX8_isPart_18 : decode cX8_isPart 18 = .ok (.getfield 15, 3) := by decide +kernel
theorem dX8_isPart_21 : decode cX8_isPart 21 = .ok (.if_icmp .ge 28, 3) := by decide +kernel
theorem dX8_isPart_24 : decode cX8_isPart 24 = .ok (.aload_n 0, 1) := by decide +kernel
theorem dX8_isPart_25 : decode cX8_isPart 25 = .ok (.iload_n 1, 1) := by decide +kernel
theorem dX8_isPart_26 : decode cX8_isPart 26 = .ok (.iload 4, 2) := by decide +kernel
theorem dX8_isPart_28 : decode cX8_isPart 28 = .ok (.iadd, 1) := by decide +kernel
theorem dX8_isPart_29 : decode cX8_isPart 29 = .ok (.invokevirtual 28, 3) := by decide +kernel
theorem dX8_isPart_32 : decode cX8_isPart 32 = .ok (.aload_n 3, 1) := by decide +kernel
theorem dX8_isPart_33 : decode cX8_isPart 33 = .ok (.iload 4, 2) := by decide +kernel
theorem dX8_isPart_35 : decode cX8_isPart 35 = .ok (.invokevirtual 28, 3) := by decide +kernel
theorem dX8_isPart_38 : decode cX8_isPart 38 = .ok (.if_icmp .eq 5, 3) := by decide +kernel
theorem dX8_isPart_41 : decode cX8_isPart 41 = .ok (.iconst 0, 1) := by decide +kernel
theorem dX8_isPart_42 : decode cX8_isPart 42 = .ok (.ireturn, 1) := by decide +kernel
theorem dX8_isPart_43 : decode cX8_isPart 43 = .ok (.iinc 4 1, 3) := by decide +kernel
theorem dX8_isPart_46 : decode cX8_isPart 46 = .ok (.goto (-31), 3) := by decide +kernel
theorem dX8_isPart_49 : decode cX8_isPart 49 = .ok (.iconst 1, 1) := by decide +kernel
theorem dX8_isPart_50 : decode cX8_isPart 50 = .ok (.ireturn, 1) := by decide +kernel
set_option maxRecDepth 20000 in
theorem ggX9_init_X8_init : GoodIn wsX9_init wsX8_init := goodIn_r _ [40, 41, 2, 3, 34, 42, 84, 85] (by decide +kernel) (by decide +kernel)
set_option maxRecDepth 20000 in
theorem gX9_init_X8_init_n9 : GoodIn wsX9_init (wsX8_init) := ggX9_init_X8_init
set_option maxRecDepth 20000 in
theorem ggX9_init_X6_init : GoodIn wsX9_init wsX6_init := goodIn_r _ [44, 45, 2, 3, 34, 46, 47, 48, 101, 102, 103] (by decide +kernel) (by decide +kernel)
set_option maxRecDepth 20000 in
theorem gX9_init_X6_init_n21 : GoodIn wsX9_init (wsX6_init) := ggX9_init_X6_init
set_option maxRecDepth 20000 in
theorem ggX9_init_X7_init : GoodIn wsX9_init wsX7_init := goodIn_r _ [50, 51, 2, 3] (by decide +kernel) (by decide +kernel)
set_option maxRecDepth 20000 in
theorem gX9_init_X7_init_n31 : GoodIn wsX9_init (wsX7_init) := ggX9_init_X7_init
set_option maxRecDepth 20000 in
theorem ggX9_init_X4_init : GoodIn wsX9_init wsX4_init := goodIn_r _ [53, 54, 2, 3, 55, 5, 6, 56, 39, 40, 41, 34, 42, 84, 85, 107, 108, 109, 110, 111] (by decide +kernel) (by decide +kernel)
set_option maxRecDepth 20000 in
theorem gX9_init_X4_init_n38 : GoodIn wsX9_init (wsX4_init) := ggX9_init_X4_init
set_option maxRecDepth 20000 in
theorem ggX9_init_X3_init : GoodIn wsX9_init wsX3_init := goodIn_r _ [58, 59, 2, 3, 34, 60, 61, 62, 47, 63, 64, 112, 113, 114, 115, 116, 117, 118] (by decide +kernel) (by decide +kernel)
set_option maxRecDepth 20000 in
theorem gX9_init_X3_init_n45 : GoodIn wsX9_init (wsX3_init) := ggX9_init_X3_init
set_option maxRecDepth 20000 in
theorem ggX9_init_X2_init : GoodIn wsX9_init wsX2_init := goodIn_r _ [67, 68, 2, 3, 34, 69, 70, 71, 72, 73, 74, 75, 76, 77, 119, 120, 121, 122, 123, 124] (by decide +kernel) (by decide +kernel)
set_option maxRecDepth 20000 in
theorem gX9_init_X2_init : GoodIn wsX9_init (wsX2_init) := ggX9_init_X2_init
set_option maxRecDepth 20000 in
theorem ggX9_init_X0_init : GoodIn wsX9_init wsX0_init := goodIn_r _ [79, 80, 2, 3, 34, 81, 82, 83, 125, 126, 127, 128, 129] (by decide +kernel) (by decide +kernel)
set_option maxRecDepth 20000 in
theorem gX9_init_X0_init_n59 : GoodIn wsX9_init (wsX0_init) := ggX9_init_X0_init
theorem dX9_init_0 : decode cX9_init 0 = .ok (.aload_n 0, 1) := by decide +kernel
theorem dX9_init_1 : decode cX9_init 1 = .ok (.invokespecial 1, 3) := by decide +kernel
theorem dX9_init_4 : decode cX9_init 4 = .ok (.aload_n 0, 1) := by decide +kernel
theorem dX9_init_5 : decode cX9_init 5 = .ok (.new 7, 3) := by decide +kernel
theorem dX9_init_8 : decode cX9_init 8 = .ok (.dup, 1) := by decide +kernel
theorem dX9_init_9 : decode cX9_init 9 = .ok (.invokespecial 9, 3) := by decide +kernel
theorem dX9_init_12 : decode cX9_init 12 = .ok (.putfield 10, 3) := by decide +kernel
theorem dX9_init_15 : decode cX9_init 15 = .ok (.aload_n 0, 1) := by decide +kernel
theorem dX9_init_16 : decode cX9_init 16 = .ok (.new 7, 3) := by decide +kernel
theorem dX9_init_19 : decode cX9_init 19 = .ok (.dup, 1) := by decide +kernel
theorem dX9_init_20 : decode cX9_init 20 = .ok (.invokespecial 9, 3) := by decide +kernel
theorem dX9_init_23 : decode cX9_init 23 = .ok (.putfield 16, 3) := by decide +kernel
theorem dX9_init_26 : decode cX9_init 26 = .ok (.aload_n 0, 1) := by decide +kernel
theorem dX9_init_27 : decode cX9_init 27 = .ok (.new 19, 3) := by decide +kernel
theorem dX9_init_30 : decode cX9_init 30 = .ok (.dup, 1) := by decide +kernel
theorem dX9_init_31 : decode cX9_init 31 = .ok (.invokespecial 21, 3) := by decide +kernel
theorem dX9_init_34 : decode cX9_init 34 = .ok (.putfield 22, 3) := by decide +kernel
theorem dX9_init_37 : decode cX9_init 37 = .ok (.aload_n 0, 1) := by decide +kernel
theorem dX9_init_38 : decode cX9_init 38 = .ok (.new 19, 3) := by decide +kernel
theorem dX9_init_41 : decode cX9_init 41 = .ok (.dup, 1) := by decide +kernel
theorem dX9_init_42 : decode cX9_init 42 = .ok (.invokespecial 21, 3) := by decide +kernel
theorem dX9_init_45 : decode cX9_init 45 = .ok (.putfield 26, 3) := by decide +kernel
theorem dX9_init_48 : decode cX9_init 48 = .ok (.aload_n 0, 1) := by decide +kernel
theorem dX9_init_49 : decode cX9_init 49 = .ok (.new 29, 3) := by decide +kernel
theorem dX9_init_52 : decode cX9_init 52 = .ok (.dup, 1) := by decide +kernel
theorem dX9_init_53 : decode cX9_init 53 = .ok (.invokespecial 31, 3) := by decide +kernel
theorem dX9_init_56 : decode cX9_init 56 = .ok (.putfield 32, 3) := by decide +kernel
theorem dX9_init_59 : decode cX9_init 59 = .ok (.aload_n 0, 1) := by decide +kernel
theorem dX9_init_60 : decode cX9_init 60 = .ok (.new 36, 3) := by decide +kernel
theorem dX9_init_63 : decode cX9_init 63 = .ok (.dup, 1) := by decide +kernel
theorem dX9_init_64 : decode cX9_init 64 = .ok (.invokespecial 38, 3) := by decide +kernel
theorem dX9_init_67 : decode cX9_init 67 = .ok (.putfield 39, 3) := by decide +kernel
theorem dX9_init_70 : decode cX9_init 70 = .ok (.aload_n 0, 1) := by decide +kernel
theorem dX9_init_71 : decode cX9_init 71 = .ok (.new 43, 3) := by decide +kernel
theorem dX9_init_74 : decode cX9_init 74 = .ok (.dup, 1) := by decide +kernel
theorem dX9_init_75 : decode cX9_init 75 = .ok (.invokespecial 45, 3) := by decide +kernel
theorem dX9_init_78 : decode cX9_init 78 = .ok (.putfield 46, 3) := by decide +kernel
theorem dX9_init_81 : decode cX9_init 81 = .ok (.aload_n 0, 1) := by decide +kernel
theorem dX9_init_82 : decode cX9_init 82 = .ok (.new 50, 3) := by decide +kernel
theorem dX9_init_85 : decode cX9_init 85 = .ok (.dup, 1) := by decide +kernel
theorem dX9_init_86 : decode cX9_init 86 = .ok (.invokespecial 52, 3) := by decide +kernel
theorem dX9_init_89 : decode cX9_init 89 = .ok (.putfield 53, 3) := by decide +kernel
theorem dX9_init_92 : decode cX9_init 92 = .ok (.aload_n 0, 1) := by decide +kernel
theorem dX9_init_93 : decode cX9_init 93 = .ok (.new 57, 3) := by decide +kernel
theorem dX9_init_96 : decode cX9_init 96 = .ok (.dup, 1) := by decide +kernel
theorem dX9_init_97 : decode cX9_init 97 = .ok (.invokespecial 59, 3) := by decide +kernel
theorem dX9_init_100 : decode cX9_init 100 = .ok (.putfield 60, 3) := by decide +kernel
theorem dX9_init_103 : decode cX9_init 103 = .ok (.aload_n 0, 1) := by decide +kernel
theorem dX9_init_104 : decode cX9_init 104 = .ok (.iconst 4, 1) := by decide +kernel
theorem dX9_init_105 : decode cX9_init 105 = .ok (.newarray .int, 2) := by decide +kernel
theorem dX9_init_107 : decode cX9_init 107 = .ok (.putfield 64, 3) := by decide +kernel
theorem dX9_init_110 : decode cX9_init 110 = .ok (.aload_n 0, 1) := by decide +kernel
theorem dX9_init_111 : decode cX9_init 111 = .ok (.getfield 22, 3) := by decide +kernel
theorem dX9_init_114 : decode cX9_init 114 = .ok (.getfield 68, 3) := by decide +kernel
theorem dX9_init_117 : decode cX9_init 117 = .ok (.iconst 0, 1) := by decide +kernel
theorem dX9_init_118 : decode cX9_init 118 = .ok (.iconst 0, 1) := by decide +kernel
theorem dX9_init_119 : decode cX9_init 119 = .ok (.iastore, 1) := by decide +kernel
theorem dX9_init_120 : decode cX9_init 120 = .ok (.aload_n 0, 1) := by decide +kernel
theorem dX9_init_121 : decode cX9_init 121 = .ok (.getfield 22, 3) := by decide +kernel
theorem dX9_init_124 : decode cX9_init 124 = .ok (.getfield 68, 3) := by decide +kernel
theorem dX9_init_127 : decode cX9_init 127 = .ok (.iconst 1, 1) := by decide +kernel
theorem dX9_init_128 : decode cX9_init 128 = .ok (.iconst 2, 1) := by decide +kernel
theorem dX9_init_129 : decode cX9_init 129 = .ok (.iastore, 1) := by decide +kernel
theorem dX9_init_130 : decode cX9_init 130 = .ok (.aload_n 0, 1) := by decide +kernel
theorem dX9_init_131 : decode cX9_init 131 = .ok (.getfield 22, 3) := by decide +kernel
theorem dX9_init_134 : decode cX9_init 134 = .ok (.iconst 2, 1) := by decide +kernel
theorem dX9_init_135 : decode cX9_init 135 = .ok (.putfield 71, 3) := by decide +kernel
theorem dX9_init_138 : decode cX9_init 138 = .ok (.aload_n 0, 1) := by decide +kernel
theorem dX9_init_139 : decode cX9_init 139 = .ok (.iconst (-1), 1) := by decide +kernel
theorem dX9_init_140 : decode cX9_init 140 = .ok (.putfield 75, 3) := by decide +kernel
theorem dX9_init_143 : decode cX9_init 143 = .ok (.return_, 1) := by decide +kernel
set_option maxRecDepth 20000 in
theorem ggX9_feed_X8_putFour : GoodIn wsX9_feed wsX8_putFour := goodIn_r _ [7, 8, 9, 10, 6, 11, 12, 13, 29, 30] (by decide +kernel) (by decide +kernel)
set_option maxRecDepth 20000 in
theorem gX9_feed_X8_putFour : GoodIn wsX9_feed (wsV RX9 81 RX8 yX8_putFour wsX8_putFour) := goodIn_app (goodIn_of _ (by decide +kernel)) ggX9_feed_X8_putFour
theorem dX9_feed_0 : decode cX9_feed 0 = .ok (.aload_n 0, 1) := by decide +kernel
theorem dX9_feed_1 : decode cX9_feed 1 = .ok (.getfield 10, 3) := by decide +kernel
theorem dX9_feed_4 : decode cX9_feed 4 = .ok (.getfield 78, 3) := by decide +kernel
theorem dX9_feed_7 : decode cX9_feed 7 = .ok (.bipush 20, 2) := by decide +kernel
theorem dX9_feed_9 : decode cX9_feed 9 = .ok (.iadd, 1) := by decide +kernel
theorem dX9_feed_10 : decode cX9_feed 10 = .ok (.sipush 200, 3) := by decide +kernel
theorem dX9_feed_13 : decode cX9_feed 13 = .ok (.if_icmp .le 5, 3) := by decide +kernel
theorem dX9_feed_16 : decode cX9_feed 16 = .ok (.iconst (-1), 1) := by decide +kernel
theorem dX9_feed_17 : decode cX9_feed 17 = .ok (.ireturn, 1) := by decide +kernel
theorem dX9_feed_18 : decode cX9_feed 18 = .ok (.aload_n 0, 1) := by decide +kernel
theorem dX9_feed_19 : decode cX9_feed 19 = .ok (.getfield 10, 3) := by decide +kernel
theorem dX9_feed_22 : decode cX9_feed 22 = .ok (.iload_n 1, 1) := by decide +kernel
theorem dX9_feed_23 : decode cX9_feed 23 = .ok (.invokevirtual 81, 3) := by decide +kernel
theorem dX9_feed_26 : decode cX9_feed 26 = .ok (.aload_n 0, 1) := by decide +kernel
theorem dX9_feed_27 : decode cX9_feed 27 = .ok (.getfield 10, 3) := by decide +kernel
theorem dX9_feed_30 : decode cX9_feed 30 = .ok (.iload_n 2, 1) := by decide +kernel
theorem dX9_feed_31 : decode cX9_feed 31 = .ok (.invokevirtual 81, 3) := by decide +kernel
theorem dX9_feed_34 : decode cX9_feed 34 = .ok (.aload_n 0, 1) := by decide +kernel
theorem dX9_feed_35 : decode cX9_feed 35 = .ok (.getfield 10, 3) := by decide +kernel
theorem dX9_feed_38 : decode cX9_feed 38 = .ok (.iload_n 3, 1) := by decide +kernel
theorem dX9_feed_39 : decode cX9_feed 39 = .ok (.invokevirtual 81, 3) := by decide +kernel
theorem dX9_feed_42 : decode cX9_feed 42 = .ok (.aload_n 0, 1) := by decide +kernel
theorem dX9_feed_43 : decode cX9_feed 43 = .ok (.getfield 10, 3) := by decide +kernel
theorem dX9_feed_46 : decode cX9_feed 46 = .ok (.iload 4, 2) := by decide +kernel
theorem dX9_feed_48 : decode cX9_feed 48 = .ok (.invokevirtual 81, 3) := by decide +kernel
theorem dX9_feed_51 : decode cX9_feed 51 = .ok (.aload_n 0, 1) := by decide +kernel
theorem dX9_feed_52 : decode cX9_feed 52 = .ok (.getfield 10, 3) := by decide +kernel
theorem dX9_feed_55 : decode cX9_feed 55 = .ok (.iload 5, 2) := by decide +kernel
theorem dX9_feed_57 : decode cX9_feed 57 = .ok (.invokevirtual 81, 3) := by decide +kernel
theorem dX9_feed_60 : decode cX9_feed 60 = .ok (.aload_n 0, 1) := by decide +kernel
theorem dX9_feed_61 : decode cX9_feed 61 = .ok (.getfield 10, 3) := by decide +kernel
theorem dX9_feed_64 : decode cX9_feed 64 = .ok (.getfield 78, 3) := by decide +kernel
theorem dX9_feed_67 : decode cX9_feed 67 = .ok (.ireturn, 1) := by decide +kernel
theorem dX9_end_0 : decode cX9_end 0 = .ok (.iload_n 1, 1) := by decide +kernel
theorem dX9_end_1 : decode cX9_end 1 = .ok (.ifCond .lt 14, 3) := by decide +kernel
theorem dX9_end_4 : decode cX9_end 4 = .ok (.iload_n 1, 1) := by decide +kernel
theorem dX9_end_5 : decode cX9_end 5 = .ok (.aload_n 0, 1) := by decide +kernel
theorem dX9_end_6 : decode cX9_end 6 = .ok (.getfield 10, 3) := by decide +kernel
theorem dX9_end_9 : decode cX9_end 9 = .ok (.getfield 78, 3) := by decide +kernel
theorem dX9_end_12 : decode cX9_end 12 = .ok (.if_icmp .le 5, 3) := by decide +kernel
theorem dX9_end_15 : decode cX9_end 15 = .ok (.iconst 0, 1) := by decide +kernel
theorem dX9_end_16 : decode cX9_end 16 = .ok (.ireturn, 1) := by decide +kernel
theorem dX9_end_17 : decode cX9_end 17 = .ok (.aload_n 0, 1) := by decide +kernel
theorem dX9_end_18 : decode cX9_end 18 = .ok (.getfield 10, 3) := by decide +kernel
theorem dX9_end_21 : decode cX9_end 21 = .ok (.iload_n 1, 1) := by decide +kernel
theorem dX9_end_22 : decode cX9_end 22 = .ok (.putfield 78, 3) := by decide +kernel
theorem dX9_end_25 : decode cX9_end 25 = .ok (.iconst 1, 1) := by decide +kernel
theorem dX9_end_26 : decode cX9_end 26 = .ok (.ireturn, 1) := by decide +kernel
set_option maxRecDepth 20000 in
theorem ggX9_levels_X7_readInto : GoodIn wsX9_levels wsX7_readInto := goodIn_r _ [19, 20, 21, 22, 23, 24, 25, 26, 27, 28, 29, 30, 31, 32, 33, 34, 18, 35, 36, 37, 38, 39, 40, 41, 42, 43, 44, 45, 46, 47, 48, 49, 50, 51, 52, 53, 54, 55, 56, 57, 58, 59, 60, 61, 62, 63, 64, 65, 66, 67, 68, 69, 70, 71, 72, 73, 74, 75, 76, 77, 78, 79, 80, 81, 82, 83, 84, 85, 86, 87, 88, 89, 90, 91, 92, 93, 94, 95, 96, 97, 98, 99, 100, 101, 102, 103, 104, 105, 106, 107, 108, 109, 110, 111, 112, 113, 114, 115, 116, 117, 118, 168, 169, 170, 165, 166, 167, 163, 164] (by decide +kernel) (by decide +kernel)
set_option maxRecDepth 20000 in
theorem gX9_levels_X7_readInto : GoodIn wsX9_levels (wsV RX9 85 RX7 yX7_readInto wsX7_readInto) := goodIn_app (goodIn_of _ (by decide +kernel)) ggX9_levels_X7_readInto
set_option maxRecDepth 20000 in
theorem ggX9_levels_X6_become : GoodIn wsX9_levels wsX6_become := goodIn_r _ [122, 118, 110, 109, 168, 169, 170] (by decide +kernel) (by decide +kernel)
set_option maxRecDepth 20000 in
theorem gX9_levels_X6_become : GoodIn wsX9_levels (wsV RX9 96 RX6 yX6_become wsX6_become) := goodIn_app (goodIn_of _ (by decide +kernel)) ggX9_levels_X6_become
set_option maxRecDepth 20000 in
theorem ggX9_levels_X3_clear : GoodIn wsX9_levels wsX3_clear := goodIn_r _ [127, 128, 129, 171, 172, 173, 174, 175, 176, 177] (by decide +kernel) (by decide +kernel)
set_option maxRecDepth 20000 in
theorem gX9_levels_X3_clear : GoodIn wsX9_levels (wsV RX9 100 RX3 yX3_clear wsX3_clear) := goodIn_app (goodIn_of _ (by decide +kernel)) ggX9_levels_X3_clear
set_option maxRecDepth 20000 in
theorem ggX9_levels_X2_clear : GoodIn wsX9_levels wsX2_clear := goodIn_r _ [134, 135, 136, 137, 138, 139, 140, 178, 179, 180, 181, 182, 183] (by decide +kernel) (by decide +kernel)
set_option maxRecDepth 20000 in
theorem gX9_levels_X2_clear : GoodIn wsX9_levels (wsV RX9 103 RX2 yX2_clear wsX2_clear) := goodIn_app (goodIn_of _ (by decide +kernel)) ggX9_levels_X2_clear
set_option maxRecDepth 20000 in
theorem ggX9_levels_X0_clear : GoodIn wsX9_levels wsX0_clear := goodIn_r _ [145, 146, 147, 184, 185, 186, 187, 188] (by decide +kernel) (by decide +kernel)
set_option maxRecDepth 20000 in
theorem gX9_levels_X0_clear : GoodIn wsX9_levels (wsV RX9 104 RX0 yX0_clear wsX0_clear) := goodIn_app (goodIn_of _ (by decide +kernel)) ggX9_levels_X0_clear
theorem dX9_levels_0 : decode cX9_levels 0 = .ok (.aload_n 0, 1) := by decide +kernel
theorem dX9_levels_1 : decode cX9_levels 1 = .ok (.getfield 32, 3) := by decide +kernel
theorem dX9_levels_4 : decode cX9_levels 4 = .ok (.aload_n 0, 1) := by decide +kernel
theorem dX9_levels_5 : decode cX9_levels 5 = .ok (.getfield 26, 3) := by decide +kernel
theorem dX9_levels_8 : decode cX9_levels 8 = .ok (.aload_n 0, 1) := by decide +kernel
theorem dX9_levels_9 : decode cX9_levels 9 = .ok (.getfield 10, 3) := by decide +kernel
theorem dX9_levels_12 : decode cX9_levels 12 = .ok (.invokevirtual 85, 3) := by decide +kernel
theorem dX9_levels_15 : decode cX9_levels 15 = .ok (.aload_n 0, 1) := by decide +kernel
theorem dX9_levels_16 : decode cX9_levels 16 = .ok (.getfield 10, 3) := by decide +kernel
theorem dX9_levels_19 : decode cX9_levels 19 = .ok (.iconst 0, 1) := by decide +kernel
theorem dX9_levels_20 : decode cX9_levels 20 = .ok (.putfield 78, 3) := by decide +kernel
theorem dX9_levels_23 : decode cX9_levels 23 = .ok (.aload_n 0, 1) := by decide +kernel
theorem dX9_levels_24 : decode cX9_levels 24 = .ok (.aload_n 0, 1) := by decide +kernel
theorem dX9_levels_25 : decode cX9_levels 25 = .ok (.getfield 32, 3) := by decide +kernel
theorem dX9_levels_28 : decode cX9_levels 28 = .ok (.getfield 89, 3) := by decide +kernel
theorem dX9_levels_31 : decode cX9_levels 31 = .ok (.putfield 92, 3) := by decide +kernel
theorem dX9_levels_34 : decode cX9_levels 34 = .ok (.aload_n 0, 1) := by decide +kernel
theorem dX9_levels_35 : decode cX9_levels 35 = .ok (.aload_n 0, 1) := by decide +kernel
theorem dX9_levels_36 : decode cX9_levels 36 = .ok (.getfield 32, 3) := by decide +kernel
theorem dX9_levels_39 : decode cX9_levels 39 = .ok (.getfield 95, 3) := by decide +kernel
theorem dX9_levels_42 : decode cX9_levels 42 = .ok (.putfield 75, 3) := by decide +kernel
theorem dX9_levels_45 : decode cX9_levels 45 = .ok (.aload_n 0, 1) := by decide +kernel
theorem dX9_levels_46 : decode cX9_levels 46 = .ok (.getfield 92, 3) := by decide +kernel
theorem dX9_levels_49 : decode cX9_levels 49 = .ok (.ifCond .eq 10, 3) := by decide +kernel
theorem dX9_levels_52 : decode cX9_levels 52 = .ok (.iconst (-1), 1) := by decide +kernel
theorem dX9_levels_53 : decode cX9_levels 53 = .ok (.aload_n 0, 1) := by decide +kernel
theorem dX9_levels_54 : decode cX9_levels 54 = .ok (.getfield 75, 3) := by decide +kernel
theorem dX9_levels_57 : decode cX9_levels 57 = .ok (.isub, 1) := by decide +kernel
theorem dX9_levels_58 : decode cX9_levels 58 = .ok (.ireturn, 1) := by decide +kernel
theorem dX9_levels_59 : decode cX9_levels 59 = .ok (.aload_n 0, 1) := by decide +kernel
theorem dX9_levels_60 : decode cX9_levels 60 = .ok (.getfield 22, 3) := by decide +kernel
theorem dX9_levels_63 : decode cX9_levels 63 = .ok (.aload_n 0, 1) := by decide +kernel
theorem dX9_levels_64 : decode cX9_levels 64 = .ok (.getfield 26, 3) := by decide +kernel
theorem dX9_levels_67 : decode cX9_levels 67 = .ok (.invokevirtual 96, 3) := by decide +kernel
theorem dX9_levels_70 : decode cX9_levels 70 = .ok (.aload_n 0, 1) := by decide +kernel
theorem dX9_levels_71 : decode cX9_levels 71 = .ok (.getfield 46, 3) := by decide +kernel
theorem dX9_levels_74 : decode cX9_levels 74 = .ok (.invokevirtual 100, 3) := by decide +kernel
theorem dX9_levels_77 : decode cX9_levels 77 = .ok (.aload_n 0, 1) := by decide +kernel
theorem dX9_levels_78 : decode cX9_levels 78 = .ok (.getfield 53, 3) := by decide +kernel
theorem dX9_levels_81 : decode cX9_levels 81 = .ok (.invokevirtual 103, 3) := by decide +kernel
theorem dX9_levels_84 : decode cX9_levels 84 = .ok (.aload_n 0, 1) := by decide +kernel
theorem dX9_levels_85 : decode cX9_levels 85 = .ok (.getfield 60, 3) := by decide +kernel
theorem dX9_levels_88 : decode cX9_levels 88 = .ok (.invokevirtual 104, 3) := by decide +kernel
theorem dX9_levels_91 : decode cX9_levels 91 = .ok (.aload_n 0, 1) := by decide +kernel
theorem dX9_levels_92 : decode cX9_levels 92 = .ok (.iconst 0, 1) := by decide +kernel
theorem dX9_levels_93 : decode cX9_levels 93 = .ok (.putfield 105, 3) := by decide +kernel
theorem dX9_levels_96 : decode cX9_levels 96 = .ok (.aload_n 0, 1) := by decide +kernel
theorem dX9_levels_97 : decode cX9_levels 97 = .ok (.getfield 22, 3) := by decide +kernel
theorem dX9_levels_100 : decode cX9_levels 100 = .ok (.getfield 71, 3) := by decide +kernel
theorem dX9_levels_103 : decode cX9_levels 103 = .ok (.ireturn, 1) := by decide +kernel
theorem dX9_fault_0 : decode cX9_fault 0 = .ok (.aload_n 0, 1) := by decide +kernel
theorem dX9_fault_1 : decode cX9_fault 1 = .ok (.getfield 92, 3) := by decide +kernel
theorem dX9_fault_4 : decode cX9_fault 4 = .ok (.ireturn, 1) := by decide +kernel
set_option maxRecDepth 20000 in
theorem ggX9_add_X9_isPlaceTold : GoodIn wsX9_add wsX9_isPlaceTold := goodIn_r _ [13, 1, 3, 4, 14, 15, 16, 17, 18, 19, 20, 21, 143, 144, 145, 146, 147, 148, 149, 150, 151, 152, 153, 154, 155, 156, 157, 158, 159, 160, 161, 162, 163, 164, 171, 172, 173] (by decide +kernel) (by decide +kernel)
set_option maxRecDepth 20000 in
theorem gX9_add_X9_isPlaceTold : GoodIn wsX9_add (wsV RX9 109 RX9 yX9_isPlaceTold wsX9_isPlaceTold) := goodIn_app (goodIn_of _ (by decide +kernel)) ggX9_add_X9_isPlaceTold
set_option maxRecDepth 20000 in
theorem ggX9_add_X9_placeOfNew : GoodIn wsX9_add wsX9_placeOfNew := goodIn_r _ [25, 1, 26, 27, 28, 19, 29, 21, 30, 31, 32, 33, 34, 35, 36, 143, 144, 145, 146, 147, 148, 149, 150, 151, 152, 153, 154, 155, 156, 157, 158, 159, 160, 161, 162, 163, 164] (by decide +kernel) (by decide +kernel)
set_option maxRecDepth 20000 in
theorem gX9_add_X9_placeOfNew : GoodIn wsX9_add (wsV RX9 116 RX9 yX9_placeOfNew wsX9_placeOfNew) := goodIn_app (goodIn_of _ (by decide +kernel)) ggX9_add_X9_placeOfNew
set_option maxRecDepth 20000 in
theorem ggX9_add_X6_isThrough : GoodIn wsX9_add wsX6_isThrough := goodIn_r _ [41, 42, 43, 171, 172, 173] (by decide +kernel) (by decide +kernel)
set_option maxRecDepth 20000 in
theorem gX9_add_X6_isThrough : GoodIn wsX9_add (wsV RX9 120 RX6 yX6_isThrough wsX6_isThrough) := goodIn_app (goodIn_of _ (by decide +kernel)) ggX9_add_X6_isThrough
set_option maxRecDepth 20000 in
theorem ggX9_add_X9_labelAhead : GoodIn wsX9_add wsX9_labelAhead := goodIn_r _ [47, 1, 48, 6, 49, 50, 51, 19, 52, 30, 53, 54, 17, 18, 20, 21, 55, 56, 57, 58, 59, 60, 61, 143, 144, 145, 146, 147, 148, 149, 150, 151, 152, 153, 154, 155, 156, 157, 158, 159, 160, 161, 162, 163, 164, 165, 166, 167, 168, 169, 170] (by decide +kernel) (by decide +kernel)
set_option maxRecDepth 20000 in
theorem gX9_add_X9_labelAhead : GoodIn wsX9_add (wsV RX9 124 RX9 yX9_labelAhead wsX9_labelAhead) := goodIn_app (goodIn_of _ (by decide +kernel)) ggX9_add_X9_labelAhead
set_option maxRecDepth 20000 in
theorem ggX9_add_X9_labelFrom : GoodIn wsX9_add wsX9_labelFrom := goodIn_r _ [65, 1, 2, 48, 6, 49, 50, 51, 19, 52, 30, 53, 54, 17, 18, 20, 21, 55, 56, 57, 58, 59, 60, 61, 143, 144, 145, 146, 147, 148, 149, 150, 151, 152, 153, 154, 155, 156, 157, 158, 159, 160, 161, 162, 163, 164, 165, 166, 167, 168, 169, 170] (by decide +kernel) (by decide +kernel)
set_option maxRecDepth 20000 in
theorem gX9_add_X9_labelFrom : GoodIn wsX9_add (wsV RX9 128 RX9 yX9_labelFrom wsX9_labelFrom) := goodIn_app (goodIn_of _ (by decide +kernel)) ggX9_add_X9_labelFrom
set_option maxRecDepth 20000 in
theorem ggX9_add_X5_between : GoodIn wsX9_add wsX5_between := goodIn_r _ [69, 70, 71, 68, 72, 73, 74, 75, 76, 77, 78, 79, 80, 81, 82, 83, 84, 85, 86, 87, 88, 89, 90] (by decide +kernel) (by decide +kernel)
set_option maxRecDepth 20000 in
theorem gX9_add_X5_between : GoodIn wsX9_add (va_wsS RX9 131 yX5_between wsX5_between) := goodIn_app (goodIn_of _ (by decide +kernel)) ggX9_add_X5_between
set_option maxRecDepth 20000 in
theorem ggX9_add_X0_open : GoodIn wsX9_add wsX0_open := goodIn_r _ [95, 96, 97, 98, 99, 100, 101, 102, 103, 104, 174, 175, 176, 177, 178] (by decide +kernel) (by decide +kernel)
set_option maxRecDepth 20000 in
theorem gX9_add_X0_open : GoodIn wsX9_add (wsV RX9 137 RX0 yX0_open wsX0_open) := goodIn_app (goodIn_of _ (by decide +kernel)) ggX9_add_X0_open
set_option maxRecDepth 20000 in
theorem ggX9_add_X3_insert : GoodIn wsX9_add wsX3_insert := goodIn_r _ [108, 21, 31, 109, 110, 111, 112, 30, 53, 113, 114, 158, 159, 160, 161, 162, 163, 164] (by decide +kernel) (by decide +kernel)
set_option maxRecDepth 20000 in
theorem gX9_add_X3_insert : GoodIn wsX9_add (wsV RX9 141 RX3 yX3_insert wsX3_insert) := goodIn_app (goodIn_of _ (by decide +kernel)) ggX9_add_X3_insert
set_option maxRecDepth 20000 in
theorem ggX9_add_X2_give : GoodIn wsX9_add wsX2_give := goodIn_r _ [118, 119, 120, 121, 61, 122, 60, 123, 56, 57, 58, 59, 124, 125, 126, 127, 128, 129, 102, 103, 104, 130, 131, 132, 133, 134, 135, 136, 137, 138, 139, 140, 141, 142, 110, 111, 112, 165, 166, 167, 168, 169, 170] (by decide +kernel) (by decide +kernel)
set_option maxRecDepth 20000 in
theorem gX9_add_X2_give : GoodIn wsX9_add (wsV RX9 145 RX2 yX2_give wsX2_give) := goodIn_app (goodIn_of _ (by decide +kernel)) ggX9_add_X2_give
theorem dX9_add_0 : decode cX9_add 0 = .ok (.aload_n 0, 1) := by decide +kernel
theorem dX9_add_1 : decode cX9_add 1 = .ok (.getfield 46, 3) := by decide +kernel
theorem dX9_add_4 : decode cX9_add 4 = .ok (.getfield 108, 3) := by decide +kernel
theorem dX9_add_7 : decode cX9_add 7 = .ok (.bipush 80, 2) := by decide +kernel
theorem dX9_add_9 : decode cX9_add 9 = .ok (.if_icmp .ge 12, 3) := by decide +kernel
theorem dX9_add_12 : decode cX9_add 12 = .ok (.aload_n 0, 1) := by decide +kernel
theorem dX9_add_13 : decode cX9_add 13 = .ok (.iload_n 1, 1) := by decide +kernel
theorem dX9_add_14 : decode cX9_add 14 = .ok (.iload_n 2, 1) := by decide +kernel
theorem dX9_add_15 : decode cX9_add 15 = .ok (.invokevirtual 109, 3) := by decide +kernel
theorem dX9_add_18 : decode cX9_add 18 = .ok (.ifCond .ne 5, 3) := by decide +kernel
theorem dX9_add_21 : decode cX9_add 21 = .ok (.iconst (-1), 1) := by decide +kernel
theorem dX9_add_22 : decode cX9_add 22 = .ok (.ireturn, 1) := by decide +kernel
theorem dX9_add_23 : decode cX9_add 23 = .ok (.iload_n 1, 1) := by decide +kernel
theorem dX9_add_24 : decode cX9_add 24 = .ok (.iconst (-1), 1) := by decide +kernel
theorem dX9_add_25 : decode cX9_add 25 = .ok (.if_icmp .ne 7, 3) := by decide +kernel
theorem dX9_add_28 : decode cX9_add 28 = .ok (.iconst 0, 1) := by decide +kernel
theorem dX9_add_29 : decode cX9_add 29 = .ok (.goto 14, 3) := by decide +kernel
theorem dX9_add_32 : decode cX9_add 32 = .ok (.aload_n 0, 1) := by decide +kernel
theorem dX9_add_33 : decode cX9_add 33 = .ok (.getfield 46, 3) := by decide +kernel
theorem dX9_add_36 : decode cX9_add 36 = .ok (.getfield 113, 3) := by decide +kernel
theorem dX9_add_39 : decode cX9_add 39 = .ok (.iload_n 1, 1) := by decide +kernel
theorem dX9_add_40 : decode cX9_add 40 = .ok (.iaload, 1) := by decide +kernel
theorem dX9_add_41 : decode cX9_add 41 = .ok (.iconst 1, 1) := by decide +kernel
theorem dX9_add_42 : decode cX9_add 42 = .ok (.iadd, 1) := by decide +kernel
theorem dX9_add_43 : decode cX9_add 43 = .ok (.istore_n 3, 1) := by decide +kernel
theorem dX9_add_44 : decode cX9_add 44 = .ok (.aload_n 0, 1) := by decide +kernel
theorem dX9_add_45 : decode cX9_add 45 = .ok (.iload_n 1, 1) := by decide +kernel
theorem dX9_add_46 : decode cX9_add 46 = .ok (.iload_n 2, 1) := by decide +kernel
theorem dX9_add_47 : decode cX9_add 47 = .ok (.invokevirtual 116, 3) := by decide +kernel
theorem dX9_add_50 : decode cX9_add 50 = .ok (.istore 4, 2) := by decide +kernel
theorem dX9_add_52 : decode cX9_add 52 = .ok (.aload_n 0, 1) := by decide +kernel
theorem dX9_add_53 : decode cX9_add 53 = .ok (.getfield 22, 3) := by decide +kernel
theorem dX9_add_56 : decode cX9_add 56 = .ok (.iload_n 3, 1) := by decide +kernel
theorem dX9_add_57 : decode cX9_add 57 = .ok (.invokevirtual 120, 3) := by decide +kernel
theorem dX9_add_60 : decode cX9_add 60 = .ok (.istore 5, 2) := by decide +kernel
theorem dX9_add_62 : decode cX9_add 62 = .ok (.aload_n 0, 1) := by decide +kernel
theorem dX9_add_63 : decode cX9_add 63 = .ok (.iload 4, 2) := by decide +kernel
theorem dX9_add_65 : decode cX9_add 65 = .ok (.iload_n 3, 1) := by decide +kernel
theorem dX9_add_66 : decode cX9_add 66 = .ok (.iload_n 1, 1) := by decide +kernel
theorem dX9_add_67 : decode cX9_add 67 = .ok (.iload 5, 2) := by decide +kernel
theorem dX9_add_69 : decode cX9_add 69 = .ok (.invokevirtual 124, 3) := by decide +kernel
theorem dX9_add_72 : decode cX9_add 72 = .ok (.istore 6, 2) := by decide +kernel
theorem dX9_add_74 : decode cX9_add 74 = .ok (.aload_n 0, 1) := by decide +kernel
theorem dX9_add_75 : decode cX9_add 75 = .ok (.iload 4, 2) := by decide +kernel
theorem dX9_add_77 : decode cX9_add 77 = .ok (.iload_n 3, 1) := by decide +kernel
theorem dX9_add_78 : decode cX9_add 78 = .ok (.iload_n 1, 1) := by decide +kernel
theorem dX9_add_79 : decode cX9_add 79 = .ok (.iload 5, 2) := by decide +kernel
theorem dX9_add_81 : decode cX9_add 81 = .ok (.invokevirtual 128, 3) := by decide +kernel
theorem dX9_add_84 : decode cX9_add 84 = .ok (.istore 7, 2) := by decide +kernel
theorem dX9_add_86 : decode cX9_add 86 = .ok (.iload 6, 2) := by decide +kernel
theorem dX9_add_88 : decode cX9_add 88 = .ok (.iload 7, 2) := by decide +kernel
theorem dX9_add_90 : decode cX9_add 90 = .ok (.invokestatic 131, 3) := by decide +kernel
theorem dX9_add_93 : decode cX9_add 93 = .ok (.istore 8, 2) := by decide +kernel
theorem dX9_add_95 : decode cX9_add 95 = .ok (.iload 8, 2) := by decide +kernel
theorem dX9_add_97 : decode cX9_add 97 = .ok (.ifCond .ne 6, 3) := by decide +kernel
theorem dX9_add_100 : decode cX9_add 100 = .ok (.bipush (-2), 2) := by decide +kernel
theorem dX9_add_102 : decode cX9_add 102 = .ok (.ireturn, 1) := by decide +kernel
theorem dX9_add_103 : decode cX9_add 103 = .ok (.aload_n 0, 1) := by decide +kernel
theorem dX9_add_104 : decode cX9_add 104 = .ok (.getfield 46, 3) := by decide +kernel
theorem dX9_add_107 : decode cX9_add 107 = .ok (.getfield 108, 3) := by decide +kernel
theorem dX9_add_110 : decode cX9_add 110 = .ok (.istore 9, 2) := by decide +kernel
theorem dX9_add_112 : decode cX9_add 112 = .ok (.aload_n 0, 1) := by decide +kernel
theorem dX9_add_113 : decode cX9_add 113 = .ok (.getfield 60, 3) := by decide +kernel
theorem dX9_add_116 : decode cX9_add 116 = .ok (.iconst 1, 1) := by decide +kernel
theorem dX9_add_117 : decode cX9_add 117 = .ok (.iload 9, 2) := by decide +kernel
theorem dX9_add_119 : decode cX9_add 119 = .ok (.aload_n 0, 1) := by decide +kernel
theorem dX9_add_120 : decode cX9_add 120 = .ok (.getfield 53, 3) := by decide +kernel
theorem dX9_add_123 : decode cX9_add 123 = .ok (.getfield 136, 3) := by decide +kernel
theorem dX9_add_126 : decode cX9_add 126 = .ok (.invokevirtual 137, 3) := by decide +kernel
theorem dX9_add_129 : decode cX9_add 129 = .ok (.aload_n 0, 1) := by decide +kernel
theorem dX9_add_130 : decode cX9_add 130 = .ok (.getfield 46, 3) := by decide +kernel
theorem dX9_add_133 : decode cX9_add 133 = .ok (.iload 4, 2) := by decide +kernel
theorem dX9_add_135 : decode cX9_add 135 = .ok (.iload_n 3, 1) := by decide +kernel
theorem dX9_add_136 : decode cX9_add 136 = .ok (.iload_n 1, 1) := by decide +kernel
theorem dX9_add_137 : decode cX9_add 137 = .ok (.aload_n 0, 1) := by decide +kernel
theorem dX9_add_138 : decode cX9_add 138 = .ok (.getfield 105, 3) := by decide +kernel
theorem dX9_add_141 : decode cX9_add 141 = .ok (.invokevirtual 141, 3) := by decide +kernel
theorem dX9_add_144 : decode cX9_add 144 = .ok (.aload_n 0, 1) := by decide +kernel
theorem dX9_add_145 : decode cX9_add 145 = .ok (.getfield 53, 3) := by decide +kernel
theorem dX9_add_148 : decode cX9_add 148 = .ok (.iload 9, 2) := by decide +kernel
theorem dX9_add_150 : decode cX9_add 150 = .ok (.aload_n 0, 1) := by decide +kernel
theorem dX9_add_151 : decode cX9_add 151 = .ok (.getfield 105, 3) := by decide +kernel
theorem dX9_add_154 : decode cX9_add 154 = .ok (.iload 8, 2) := by decide +kernel
theorem dX9_add_156 : decode cX9_add 156 = .ok (.invokevirtual 145, 3) := by decide +kernel
theorem dX9_add_159 : decode cX9_add 159 = .ok (.iload 9, 2) := by decide +kernel
theorem dX9_add_161 : decode cX9_add 161 = .ok (.ireturn, 1) := by decide +kernel
set_option maxRecDepth 20000 in
theorem ggX9_strike_X3_has : GoodIn wsX9_strike wsX3_has := goodIn_r _ [10, 11, 48, 49, 50, 51, 52, 53, 54] (by decide +kernel) (by decide +kernel)
set_option maxRecDepth 20000 in
theorem gX9_strike_X3_has : GoodIn wsX9_strike (wsV RX9 148 RX3 yX3_has wsX3_has) := goodIn_app (goodIn_of _ (by decide +kernel)) ggX9_strike_X3_has
set_option maxRecDepth 20000 in
theorem ggX9_strike_X0_open : GoodIn wsX9_strike wsX0_open := goodIn_r _ [16, 17, 18, 19, 20, 21, 22, 23, 24, 25, 61, 62, 63, 64, 65] (by decide +kernel) (by decide +kernel)
set_option maxRecDepth 20000 in
theorem gX9_strike_X0_open : GoodIn wsX9_strike (wsV RX9 137 RX0 yX0_open wsX0_open) := goodIn_app (goodIn_of _ (by decide +kernel)) ggX9_strike_X0_open
set_option maxRecDepth 20000 in
theorem ggX9_strike_X3_setStruck : GoodIn wsX9_strike wsX3_setStruck := goodIn_r _ [29, 30, 31, 32, 7, 8, 9, 10, 11, 48, 49, 50, 51, 52, 53, 54] (by decide +kernel) (by decide +kernel)
set_option maxRecDepth 20000 in
theorem gX9_strike_X3_setStruck : GoodIn wsX9_strike (wsV RX9 155 RX3 yX3_setStruck wsX3_setStruck) := goodIn_app (goodIn_of _ (by decide +kernel)) ggX9_strike_X3_setStruck
theorem dX9_strike_0 : decode cX9_strike 0 = .ok (.aload_n 0, 1) := by decide +kernel
theorem dX9_strike_1 : decode cX9_strike 1 = .ok (.getfield 46, 3) := by decide +kernel
theorem dX9_strike_4 : decode cX9_strike 4 = .ok (.iload_n 1, 1) := by decide +kernel
theorem dX9_strike_5 : decode cX9_strike 5 = .ok (.invokevirtual 148, 3) := by decide +kernel
theorem dX9_strike_8 : decode cX9_strike 8 = .ok (.ifCond .eq 15, 3) := by decide +kernel
theorem dX9_strike_11 : decode cX9_strike 11 = .ok (.aload_n 0, 1) := by decide +kernel
theorem dX9_strike_12 : decode cX9_strike 12 = .ok (.getfield 46, 3) := by decide +kernel
theorem dX9_strike_15 : decode cX9_strike 15 = .ok (.getfield 151, 3) := by decide +kernel
theorem dX9_strike_18 : decode cX9_strike 18 = .ok (.iload_n 1, 1) := by decide +kernel
theorem dX9_strike_19 : decode cX9_strike 19 = .ok (.baload, 1) := by decide +kernel
theorem dX9_strike_20 : decode cX9_strike 20 = .ok (.ifCond .eq 5, 3) := by decide +kernel
theorem dX9_strike_23 : decode cX9_strike 23 = .ok (.iconst 0, 1) := by decide +kernel
theorem dX9_strike_24 : decode cX9_strike 24 = .ok (.ireturn, 1) := by decide +kernel
theorem dX9_strike_25 : decode cX9_strike 25 = .ok (.aload_n 0, 1) := by decide +kernel
theorem dX9_strike_26 : decode cX9_strike 26 = .ok (.getfield 60, 3) := by decide +kernel
theorem dX9_strike_29 : decode cX9_strike 29 = .ok (.iconst 2, 1) := by decide +kernel
theorem dX9_strike_30 : decode cX9_strike 30 = .ok (.iload_n 1, 1) := by decide +kernel
theorem dX9_strike_31 : decode cX9_strike 31 = .ok (.aload_n 0, 1) := by decide +kernel
theorem dX9_strike_32 : decode cX9_strike 32 = .ok (.getfield 53, 3) := by decide +kernel
theorem dX9_strike_35 : decode cX9_strike 35 = .ok (.getfield 136, 3) := by decide +kernel
theorem dX9_strike_38 : decode cX9_strike 38 = .ok (.invokevirtual 137, 3) := by decide +kernel
theorem dX9_strike_41 : decode cX9_strike 41 = .ok (.aload_n 0, 1) := by decide +kernel
theorem dX9_strike_42 : decode cX9_strike 42 = .ok (.getfield 46, 3) := by decide +kernel
theorem dX9_strike_45 : decode cX9_strike 45 = .ok (.iload_n 1, 1) := by decide +kernel
theorem dX9_strike_46 : decode cX9_strike 46 = .ok (.iconst 1, 1) := by decide +kernel
theorem dX9_strike_47 : decode cX9_strike 47 = .ok (.invokevirtual 155, 3) := by decide +kernel
theorem dX9_strike_50 : decode cX9_strike 50 = .ok (.iconst 1, 1) := by decide +kernel
theorem dX9_strike_51 : decode cX9_strike 51 = .ok (.ireturn, 1) := by decide +kernel
set_option maxRecDepth 20000 in
theorem ggX9_renumber_X3_has : GoodIn wsX9_renumber wsX3_has := goodIn_r _ [16, 17, 108, 109, 110, 111, 112, 113, 114] (by decide +kernel) (by decide +kernel)
set_option maxRecDepth 20000 in
theorem gX9_renumber_X3_has : GoodIn wsX9_renumber (wsV RX9 148 RX3 yX3_has wsX3_has) := goodIn_app (goodIn_of _ (by decide +kernel)) ggX9_renumber_X3_has
set_option maxRecDepth 20000 in
theorem ggX9_renumber_X0_open : GoodIn wsX9_renumber wsX0_open := goodIn_r _ [22, 23, 24, 25, 26, 27, 28, 29, 30, 31, 115, 116, 117, 118, 119] (by decide +kernel) (by decide +kernel)
set_option maxRecDepth 20000 in
theorem gX9_renumber_X0_open : GoodIn wsX9_renumber (wsV RX9 137 RX0 yX0_open wsX0_open) := goodIn_app (goodIn_of _ (by decide +kernel)) ggX9_renumber_X0_open
set_option maxRecDepth 20000 in
theorem ggX9_renumber_X6_isThrough : GoodIn wsX9_renumber wsX6_isThrough := goodIn_r _ [36, 37, 38, 120, 121, 122] (by decide +kernel) (by decide +kernel)
set_option maxRecDepth 20000 in
theorem gX9_renumber_X6_isThrough : GoodIn wsX9_renumber (wsV RX9 120 RX6 yX6_isThrough wsX6_isThrough) := goodIn_app (goodIn_of _ (by decide +kernel)) ggX9_renumber_X6_isThrough
set_option maxRecDepth 20000 in
theorem ggX9_renumber_X3_isInRow : GoodIn wsX9_renumber wsX3_isInRow := goodIn_r _ [42, 43, 44, 45, 13, 14, 15, 16, 17, 108, 109, 110, 111, 112, 113, 114] (by decide +kernel) (by decide +kernel)
set_option maxRecDepth 20000 in
theorem gX9_renumber_X3_isInRow : GoodIn wsX9_renumber (wsV RX9 165 RX3 yX3_isInRow wsX3_isInRow) := goodIn_app (goodIn_of _ (by decide +kernel)) ggX9_renumber_X3_isInRow
set_option maxRecDepth 20000 in
theorem ggX9_renumber_X2_give : GoodIn wsX9_renumber wsX2_give := goodIn_r _ [50, 51, 52, 53, 54, 55, 56, 57, 58, 59, 49, 60, 61, 62, 63, 64, 65, 66, 29, 30, 31, 67, 68, 69, 70, 71, 72, 73, 74, 75, 76, 77, 78, 79, 80, 81, 82, 102, 103, 104, 105, 106, 107] (by decide +kernel) (by decide +kernel)
set_option maxRecDepth 20000 in
theorem gX9_renumber_X2_give : GoodIn wsX9_renumber (wsV RX9 145 RX2 yX2_give wsX2_give) := goodIn_app (goodIn_of _ (by decide +kernel)) ggX9_renumber_X2_give
set_option maxRecDepth 20000 in
theorem ggX9_renumber_X5_plain : GoodIn wsX9_renumber wsX5_plain := goodIn_r _ [86] (by decide +kernel) (by decide +kernel)
set_option maxRecDepth 20000 in
theorem gX9_renumber_X5_plain : GoodIn wsX9_renumber (va_wsS RX9 169 yX5_plain wsX5_plain) := goodIn_app (goodIn_of _ (by decide +kernel)) ggX9_renumber_X5_plain
theorem dX9_renumber_0 : decode cX9_renumber 0 = .ok (.aload_n 0, 1) := by decide +kernel
theorem dX9_renumber_1 : decode cX9_renumber 1 = .ok (.getfield 46, 3) := by decide +kernel
theorem dX9_renumber_4 : decode cX9_renumber 4 = .ok (.iload_n 1, 1) := by decide +kernel
theorem dX9_renumber_5 : decode cX9_renumber 5 = .ok (.invokevirtual 148, 3) := by decide +kernel
theorem dX9_renumber_8 : decode cX9_renumber 8 = .ok (.ifCond .ne 5, 3) := by decide +kernel
theorem dX9_renumber_11 : decode cX9_renumber 11 = .ok (.iconst 0, 1) := by decide +kernel
theorem dX9_renumber_12 : decode cX9_renumber 12 = .ok (.ireturn, 1) := by decide +kernel
theorem dX9_renumber_13 : decode cX9_renumber 13 = .ok (.aload_n 0, 1) := by decide +kernel
theorem dX9_renumber_14 : decode cX9_renumber 14 = .ok (.getfield 60, 3) := by decide +kernel
theorem dX9_renumber_17 : decode cX9_renumber 17 = .ok (.iconst 3, 1) := by decide +kernel
theorem dX9_renumber_18 : decode cX9_renumber 18 = .ok (.iload_n 1, 1) := by decide +kernel
theorem dX9_renumber_19 : decode cX9_renumber 19 = .ok (.aload_n 0, 1) := by decide +kernel
theorem dX9_renumber_20 : decode cX9_renumber 20 = .ok (.getfield 53, 3) := by decide +kernel
theorem dX9_renumber_23 : decode cX9_renumber 23 = .ok (.getfield 136, 3) := by decide +kernel
theorem dX9_renumber_26 : decode cX9_renumber 26 = .ok (.invokevirtual 137, 3) := by decide +kernel
theorem dX9_renumber_29 : decode cX9_renumber 29 = .ok (.aload_n 0, 1) := by decide +kernel
theorem dX9_renumber_30 : decode cX9_renumber 30 = .ok (.getfield 22, 3) := by decide +kernel
theorem dX9_renumber_33 : decode cX9_renumber 33 = .ok (.aload_n 0, 1) := by decide +kernel
theorem dX9_renumber_34 : decode cX9_renumber 34 = .ok (.getfield 46, 3) := by decide +kernel
theorem dX9_renumber_37 : decode cX9_renumber 37 = .ok (.getfield 113, 3) := by decide +kernel
theorem dX9_renumber_40 : decode cX9_renumber 40 = .ok (.iload_n 1, 1) := by decide +kernel
theorem dX9_renumber_41 : decode cX9_renumber 41 = .ok (.iaload, 1) := by decide +kernel
theorem dX9_renumber_42 : decode cX9_renumber 42 = .ok (.invokevirtual 120, 3) := by decide +kernel
theorem dX9_renumber_45 : decode cX9_renumber 45 = .ok (.istore_n 2, 1) := by decide +kernel
theorem dX9_renumber_46 : decode cX9_renumber 46 = .ok (.iconst 0, 1) := by decide +kernel
theorem dX9_renumber_47 : decode cX9_renumber 47 = .ok (.istore_n 3, 1) := by decide +kernel
theorem dX9_renumber_48 : decode cX9_renumber 48 = .ok (.iconst 0, 1) := by decide +kernel
theorem dX9_renumber_49 : decode cX9_renumber 49 = .ok (.istore 4, 2) := by decide +kernel
theorem dX9_renumber_51 : decode cX9_renumber 51 = .ok (.iload 4, 2) := by decide +kernel
theorem dX9_renumber_53 : decode cX9_renumber 53 = .ok (.aload_n 0, 1) := by decide +kernel
theorem dX9_renumber_54 : decode cX9_renumber 54 = .ok (.getfield 46, 3) := by decide +kernel
theorem dX9_renumber_57 : decode cX9_renumber 57 = .ok (.getfield 108, 3) := by decide +kernel
theorem dX9_renumber_60 : decode cX9_renumber 60 = .ok (.if_icmp .ge 105, 3) := by decide +kernel
theorem dX9_renumber_63 : decode cX9_renumber 63 = .ok (.aload_n 0, 1) := by decide +kernel
theorem dX9_renumber_64 : decode cX9_renumber 64 = .ok (.getfield 46, 3) := by decide +kernel
theorem dX9_renumber_67 : decode cX9_renumber 67 = .ok (.getfield 159, 3) := by decide +kernel
theorem dX9_renumber_70 : decode cX9_renumber 70 = .ok (.iload 4, 2) := by decide +kernel
theorem dX9_renumber_72 : decode cX9_renumber 72 = .ok (.iaload, 1) := by decide +kernel
theorem dX9_renumber_73 : decode cX9_renumber 73 = .ok (.istore 5, 2) := by decide +kernel
theorem dX9_renumber_75 : decode cX9_renumber 75 = .ok (.aload_n 0, 1) := by decide +kernel
theorem dX9_renumber_76 : decode cX9_renumber 76 = .ok (.getfield 46, 3) := by decide +kernel
theorem dX9_renumber_79 : decode cX9_renumber 79 = .ok (.iload 5, 2) := by decide +kernel
theorem dX9_renumber_81 : decode cX9_renumber 81 = .ok (.aload_n 0, 1) := by decide +kernel
theorem dX9_renumber_82 : decode cX9_renumber 82 = .ok (.getfield 46, 3) := by decide +kernel
theorem dX9_renumber_85 : decode cX9_renumber 85 = .ok (.getfield 113, 3) := by decide +kernel
theorem dX9_renumber_88 : decode cX9_renumber 88 = .ok (.iload_n 1, 1) := by decide +kernel
theorem dX9_renumber_89 : decode cX9_renumber 89 = .ok (.iaload, 1) := by decide +kernel
theorem dX9_renumber_90 : decode cX9_renumber 90 = .ok (.aload_n 0, 1) := by decide +kernel
theorem dX9_renumber_91 : decode cX9_renumber 91 = .ok (.getfield 46, 3) := by decide +kernel
theorem dX9_renumber_94 : decode cX9_renumber 94 = .ok (.getfield 162, 3) := by decide +kernel
theorem dX9_renumber_97 : decode cX9_renumber 97 = .ok (.iload_n 1, 1) := by decide +kernel
theorem dX9_renumber_98 : decode cX9_renumber 98 = .ok (.iaload, 1) := by decide +kernel
theorem dX9_renumber_99 : decode cX9_renumber 99 = .ok (.iload_n 2, 1) := by decide +kernel
theorem dX9_renumber_100 : decode cX9_renumber 100 = .ok (.invokevirtual 165, 3) := by decide +kernel
theorem dX9_renumber_103 : decode cX9_renumber 103 = .ok (.ifCond .ne 6, 3) := by decide +kernel
theorem dX9_renumber_106 : decode cX9_renumber 106 = .ok (.goto 53, 3) := by decide +kernel
theorem dX9_renumber_109 : decode cX9_renumber 109 = .ok (.aload_n 0, 1) := by decide +kernel
theorem dX9_renumber_110 : decode cX9_renumber 110 = .ok (.getfield 46, 3) := by decide +kernel
theorem dX9_renumber_113 : decode cX9_renumber 113 = .ok (.getfield 151, 3) := by decide +kernel
theorem dX9_renumber_116 : decode cX9_renumber 116 = .ok (.iload 5, 2) := by decide +kernel
theorem dX9_renumber_118 : decode cX9_renumber 118 = .ok (.baload, 1) := by decide +kernel
theorem dX9_renumber_119 : decode cX9_renumber 119 = .ok (.ifCond .eq 20, 3) := by decide +kernel
theorem dX9_renumber_122 : decode cX9_renumber 122 = .ok (.aload_n 0, 1) := by decide +kernel
theorem dX9_renumber_123 : decode cX9_renumber 123 = .ok (.getfield 53, 3) := by decide +kernel
theorem dX9_renumber_126 : decode cX9_renumber 126 = .ok (.iload 5, 2) := by decide +kernel
theorem dX9_renumber_128 : decode cX9_renumber 128 = .ok (.aload_n 0, 1) := by decide +kernel
theorem dX9_renumber_129 : decode cX9_renumber 129 = .ok (.getfield 105, 3) := by decide +kernel
theorem dX9_renumber_132 : decode cX9_renumber 132 = .ok (.iconst 0, 1) := by decide +kernel
theorem dX9_renumber_133 : decode cX9_renumber 133 = .ok (.invokevirtual 145, 3) := by decide +kernel
theorem dX9_renumber_136 : decode cX9_renumber 136 = .ok (.goto 23, 3) := by decide +kernel
theorem dX9_renumber_139 : decode cX9_renumber 139 = .ok (.iinc 3 1, 3) := by decide +kernel
theorem dX9_renumber_142 : decode cX9_renumber 142 = .ok (.aload_n 0, 1) := by decide +kernel
theorem dX9_renumber_143 : decode cX9_renumber 143 = .ok (.getfield 53, 3) := by decide +kernel
theorem dX9_renumber_146 : decode cX9_renumber 146 = .ok (.iload 5, 2) := by decide +kernel
theorem dX9_renumber_148 : decode cX9_renumber 148 = .ok (.aload_n 0, 1) := by decide +kernel
theorem dX9_renumber_149 : decode cX9_renumber 149 = .ok (.getfield 105, 3) := by decide +kernel
theorem dX9_renumber_152 : decode cX9_renumber 152 = .ok (.iload_n 3, 1) := by decide +kernel
theorem dX9_renumber_153 : decode cX9_renumber 153 = .ok (.invokestatic 169, 3) := by decide +kernel
theorem dX9_renumber_156 : decode cX9_renumber 156 = .ok (.invokevirtual 145, 3) := by decide +kernel
theorem dX9_renumber_159 : decode cX9_renumber 159 = .ok (.iinc 4 1, 3) := by decide +kernel
theorem dX9_renumber_162 : decode cX9_renumber 162 = .ok (.goto (-111), 3) := by decide +kernel
theorem dX9_renumber_165 : decode cX9_renumber 165 = .ok (.iconst 1, 1) := by decide +kernel
theorem dX9_renumber_166 : decode cX9_renumber 166 = .ok (.ireturn, 1) := by decide +kernel
set_option maxRecDepth 20000 in
theorem ggX9_error_X5_plain : GoodIn wsX9_error wsX5_plain := goodIn_r _ [9] (by decide +kernel) (by decide +kernel)
set_option maxRecDepth 20000 in
theorem gX9_error_X5_plain : GoodIn wsX9_error (va_wsS RX9 169 yX5_plain wsX5_plain) := goodIn_app (goodIn_of _ (by decide +kernel)) ggX9_error_X5_plain
set_option maxRecDepth 20000 in
theorem ggX9_error_X5_withSuffix : GoodIn wsX9_error wsX5_withSuffix := goodIn_r _ [12, 13, 14, 8, 15] (by decide +kernel) (by decide +kernel)
set_option maxRecDepth 20000 in
theorem gX9_error_X5_withSuffix : GoodIn wsX9_error (va_wsS RX9 173 yX5_withSuffix wsX5_withSuffix) := goodIn_app (goodIn_of _ (by decide +kernel)) ggX9_error_X5_withSuffix
set_option maxRecDepth 20000 in
theorem ggX9_error_X3_has : GoodIn wsX9_error wsX3_has := goodIn_r _ [20, 21, 94, 95, 96, 97, 98, 99, 100] (by decide +kernel) (by decide +kernel)
set_option maxRecDepth 20000 in
theorem gX9_error_X3_has : GoodIn wsX9_error (wsV RX9 148 RX3 yX3_has wsX3_has) := goodIn_app (goodIn_of _ (by decide +kernel)) ggX9_error_X3_has
set_option maxRecDepth 20000 in
theorem ggX9_error_X0_open : GoodIn wsX9_error wsX0_open := goodIn_r _ [26, 27, 28, 29, 30, 31, 32, 33, 34, 35, 101, 102, 103, 104, 105] (by decide +kernel) (by decide +kernel)
set_option maxRecDepth 20000 in
theorem gX9_error_X0_open : GoodIn wsX9_error (wsV RX9 137 RX0 yX0_open wsX0_open) := goodIn_app (goodIn_of _ (by decide +kernel)) ggX9_error_X0_open
set_option maxRecDepth 20000 in
theorem ggX9_error_X2_give : GoodIn wsX9_error wsX2_give := goodIn_r _ [40, 41, 42, 43, 44, 45, 46, 47, 48, 49, 39, 50, 51, 52, 53, 54, 55, 56, 33, 34, 35, 57, 58, 59, 60, 61, 62, 63, 64, 65, 66, 67, 68, 69, 70, 71, 72, 88, 89, 90, 91, 92, 93] (by decide +kernel) (by decide +kernel)
set_option maxRecDepth 20000 in
theorem gX9_error_X2_give : GoodIn wsX9_error (wsV RX9 145 RX2 yX2_give wsX2_give) := goodIn_app (goodIn_of _ (by decide +kernel)) ggX9_error_X2_give
theorem dX9_error_0 : decode cX9_error 0 = .ok (.iload_n 2, 1) := by decide +kernel
theorem dX9_error_1 : decode cX9_error 1 = .ok (.invokestatic 169, 3) := by decide +kernel
theorem dX9_error_4 : decode cX9_error 4 = .ok (.iload_n 3, 1) := by decide +kernel
theorem dX9_error_5 : decode cX9_error 5 = .ok (.invokestatic 173, 3) := by decide +kernel
theorem dX9_error_8 : decode cX9_error 8 = .ok (.istore 4, 2) := by decide +kernel
theorem dX9_error_10 : decode cX9_error 10 = .ok (.aload_n 0, 1) := by decide +kernel
theorem dX9_error_11 : decode cX9_error 11 = .ok (.getfield 46, 3) := by decide +kernel
theorem dX9_error_14 : decode cX9_error 14 = .ok (.iload_n 1, 1) := by decide +kernel
theorem dX9_error_15 : decode cX9_error 15 = .ok (.invokevirtual 148, 3) := by decide +kernel
theorem dX9_error_18 : decode cX9_error 18 = .ok (.ifCond .eq 8, 3) := by decide +kernel
theorem dX9_error_21 : decode cX9_error 21 = .ok (.iload 4, 2) := by decide +kernel
theorem dX9_error_23 : decode cX9_error 23 = .ok (.ifCond .ne 5, 3) := by decide +kernel
theorem dX9_error_26 : decode cX9_error 26 = .ok (.iconst 0, 1) := by decide +kernel
theorem dX9_error_27 : decode cX9_error 27 = .ok (.ireturn, 1) := by decide +kernel
theorem dX9_error_28 : decode cX9_error 28 = .ok (.aload_n 0, 1) := by decide +kernel
theorem dX9_error_29 : decode cX9_error 29 = .ok (.getfield 60, 3) := by decide +kernel
theorem dX9_error_32 : decode cX9_error 32 = .ok (.iconst 3, 1) := by decide +kernel
theorem dX9_error_33 : decode cX9_error 33 = .ok (.iload_n 1, 1) := by decide +kernel
theorem dX9_error_34 : decode cX9_error 34 = .ok (.aload_n 0, 1) := by decide +kernel
theorem dX9_error_35 : decode cX9_error 35 = .ok (.getfield 53, 3) := by decide +kernel
theorem dX9_error_38 : decode cX9_error 38 = .ok (.getfield 136, 3) := by decide +kernel
theorem dX9_error_41 : decode cX9_error 41 = .ok (.invokevirtual 137, 3) := by decide +kernel
theorem dX9_error_44 : decode cX9_error 44 = .ok (.aload_n 0, 1) := by decide +kernel
theorem dX9_error_45 : decode cX9_error 45 = .ok (.getfield 53, 3) := by decide +kernel
theorem dX9_error_48 : decode cX9_error 48 = .ok (.iload_n 1, 1) := by decide +kernel
theorem dX9_error_49 : decode cX9_error 49 = .ok (.aload_n 0, 1) := by decide +kernel
theorem dX9_error_50 : decode cX9_error 50 = .ok (.getfield 105, 3) := by decide +kernel
theorem dX9_error_53 : decode cX9_error 53 = .ok (.iload 4, 2) := by decide +kernel
theorem dX9_error_55 : decode cX9_error 55 = .ok (.invokevirtual 145, 3) := by decide +kernel
theorem dX9_error_58 : decode cX9_error 58 = .ok (.iconst 1, 1) := by decide +kernel
theorem dX9_error_59 : decode cX9_error 59 = .ok (.ireturn, 1) := by decide +kernel
set_option maxRecDepth 20000 in
theorem ggX9_undo_X0_latestKind : GoodIn wsX9_undo wsX0_latestKind := goodIn_r _ [8, 9, 10, 11, 12, 13, 7, 14, 15, 79, 80, 81, 82, 83] (by decide +kernel) (by decide +kernel)
set_option maxRecDepth 20000 in
theorem gX9_undo_X0_latestKind : GoodIn wsX9_undo (wsV RX9 176 RX0 yX0_latestKind wsX0_latestKind) := goodIn_app (goodIn_of _ (by decide +kernel)) ggX9_undo_X0_latestKind
set_option maxRecDepth 20000 in
theorem ggX9_undo_X0_latestMark : GoodIn wsX9_undo wsX0_latestMark := goodIn_r _ [19, 20, 11, 12, 13, 7, 14, 15, 79, 80, 81, 82, 83] (by decide +kernel) (by decide +kernel)
set_option maxRecDepth 20000 in
theorem gX9_undo_X0_latestMark : GoodIn wsX9_undo (wsV RX9 180 RX0 yX0_latestMark wsX0_latestMark) := goodIn_app (goodIn_of _ (by decide +kernel)) ggX9_undo_X0_latestMark
set_option maxRecDepth 20000 in
theorem ggX9_undo_X2_cutTo : GoodIn wsX9_undo wsX2_cutTo := goodIn_r _ [25, 26, 27, 28, 29, 84, 85, 86, 87, 88, 89] (by decide +kernel) (by decide +kernel)
set_option maxRecDepth 20000 in
theorem gX9_undo_X2_cutTo : GoodIn wsX9_undo (wsV RX9 183 RX2 yX2_cutTo wsX2_cutTo) := goodIn_app (goodIn_of _ (by decide +kernel)) ggX9_undo_X2_cutTo
set_option maxRecDepth 20000 in
theorem ggX9_undo_X3_dropLast : GoodIn wsX9_undo wsX3_dropLast := goodIn_r _ [34, 35, 36, 37, 38, 39, 40, 41, 42, 43, 33, 44, 90, 91, 92, 93, 94, 95, 96] (by decide +kernel) (by decide +kernel)
set_option maxRecDepth 20000 in
theorem gX9_undo_X3_dropLast : GoodIn wsX9_undo (wsV RX9 186 RX3 yX3_dropLast wsX3_dropLast) := goodIn_app (goodIn_of _ (by decide +kernel)) ggX9_undo_X3_dropLast
set_option maxRecDepth 20000 in
theorem ggX9_undo_X0_latestItem : GoodIn wsX9_undo wsX0_latestItem := goodIn_r _ [48, 49, 11, 12, 13, 7, 14, 15, 79, 80, 81, 82, 83] (by decide +kernel) (by decide +kernel)
set_option maxRecDepth 20000 in
theorem gX9_undo_X0_latestItem : GoodIn wsX9_undo (wsV RX9 189 RX0 yX0_latestItem wsX0_latestItem) := goodIn_app (goodIn_of _ (by decide +kernel)) ggX9_undo_X0_latestItem
set_option maxRecDepth 20000 in
theorem ggX9_undo_X3_setStruck : GoodIn wsX9_undo wsX3_setStruck := goodIn_r _ [53, 54, 55, 56, 57, 58, 33, 59, 35, 90, 91, 92, 93, 94, 95, 96] (by decide +kernel) (by decide +kernel)
set_option maxRecDepth 20000 in
theorem gX9_undo_X3_setStruck : GoodIn wsX9_undo (wsV RX9 155 RX3 yX3_setStruck wsX3_setStruck) := goodIn_app (goodIn_of _ (by decide +kernel)) ggX9_undo_X3_setStruck
set_option maxRecDepth 20000 in
theorem ggX9_undo_X0_close : GoodIn wsX9_undo wsX0_close := goodIn_r _ [63, 9, 15, 11, 12, 13, 7, 14, 79, 80, 81, 82, 83] (by decide +kernel) (by decide +kernel)
set_option maxRecDepth 20000 in
theorem gX9_undo_X0_close : GoodIn wsX9_undo (wsV RX9 192 RX0 yX0_close wsX0_close) := goodIn_app (goodIn_of _ (by decide +kernel)) ggX9_undo_X0_close
theorem dX9_undo_0 : decode cX9_undo 0 = .ok (.aload_n 0, 1) := by decide +kernel
theorem dX9_undo_1 : decode cX9_undo 1 = .ok (.getfield 60, 3) := by decide +kernel
theorem dX9_undo_4 : decode cX9_undo 4 = .ok (.invokevirtual 176, 3) := by decide +kernel
theorem dX9_undo_7 : decode cX9_undo 7 = .ok (.istore_n 1, 1) := by decide +kernel
theorem dX9_undo_8 : decode cX9_undo 8 = .ok (.iload_n 1, 1) := by decide +kernel
theorem dX9_undo_9 : decode cX9_undo 9 = .ok (.iconst (-1), 1) := by decide +kernel
theorem dX9_undo_10 : decode cX9_undo 10 = .ok (.if_icmp .ne 5, 3) := by decide +kernel
theorem dX9_undo_13 : decode cX9_undo 13 = .ok (.iconst 0, 1) := by decide +kernel
theorem dX9_undo_14 : decode cX9_undo 14 = .ok (.ireturn, 1) := by decide +kernel
theorem dX9_undo_15 : decode cX9_undo 15 = .ok (.aload_n 0, 1) := by decide +kernel
theorem dX9_undo_16 : decode cX9_undo 16 = .ok (.getfield 53, 3) := by decide +kernel
theorem dX9_undo_19 : decode cX9_undo 19 = .ok (.aload_n 0, 1) := by decide +kernel
theorem dX9_undo_20 : decode cX9_undo 20 = .ok (.getfield 60, 3) := by decide +kernel
theorem dX9_undo_23 : decode cX9_undo 23 = .ok (.invokevirtual 180, 3) := by decide +kernel
theorem dX9_undo_26 : decode cX9_undo 26 = .ok (.invokevirtual 183, 3) := by decide +kernel
theorem dX9_undo_29 : decode cX9_undo 29 = .ok (.iload_n 1, 1) := by decide +kernel
theorem dX9_undo_30 : decode cX9_undo 30 = .ok (.iconst 1, 1) := by decide +kernel
theorem dX9_undo_31 : decode cX9_undo 31 = .ok (.if_icmp .ne 13, 3) := by decide +kernel
theorem dX9_undo_34 : decode cX9_undo 34 = .ok (.aload_n 0, 1) := by decide +kernel
theorem dX9_undo_35 : decode cX9_undo 35 = .ok (.getfield 46, 3) := by decide +kernel
theorem dX9_undo_38 : decode cX9_undo 38 = .ok (.invokevirtual 186, 3) := by decide +kernel
theorem dX9_undo_41 : decode cX9_undo 41 = .ok (.goto 23, 3) := by decide +kernel
theorem dX9_undo_44 : decode cX9_undo 44 = .ok (.iload_n 1, 1) := by decide +kernel
theorem dX9_undo_45 : decode cX9_undo 45 = .ok (.iconst 2, 1) := by decide +kernel
theorem dX9_undo_46 : decode cX9_undo 46 = .ok (.if_icmp .ne 18, 3) := by decide +kernel
theorem dX9_undo_49 : decode cX9_undo 49 = .ok (.aload_n 0, 1) := by decide +kernel
theorem dX9_undo_50 : decode cX9_undo 50 = .ok (.getfield 46, 3) := by decide +kernel
theorem dX9_undo_53 : decode cX9_undo 53 = .ok (.aload_n 0, 1) := by decide +kernel
theorem dX9_undo_54 : decode cX9_undo 54 = .ok (.getfield 60, 3) := by decide +kernel
theorem dX9_undo_57 : decode cX9_undo 57 = .ok (.invokevirtual 189, 3) := by decide +kernel
theorem dX9_undo_60 : decode cX9_undo 60 = .ok (.iconst 0, 1) := by decide +kernel
theorem dX9_undo_61 : decode cX9_undo 61 = .ok (.invokevirtual 155, 3) := by decide +kernel
theorem dX9_undo_64 : decode cX9_undo 64 = .ok (.aload_n 0, 1) := by decide +kernel
theorem dX9_undo_65 : decode cX9_undo 65 = .ok (.getfield 60, 3) := by decide +kernel
theorem dX9_undo_68 : decode cX9_undo 68 = .ok (.invokevirtual 192, 3) := by decide +kernel
theorem dX9_undo_71 : decode cX9_undo 71 = .ok (.iconst 1, 1) := by decide +kernel
theorem dX9_undo_72 : decode cX9_undo 72 = .ok (.ireturn, 1) := by decide +kernel
theorem dX9_wait_0 : decode cX9_wait 0 = .ok (.iload_n 1, 1) := by decide +kernel
theorem dX9_wait_1 : decode cX9_wait 1 = .ok (.ifCond .lt 22, 3) := by decide +kernel
theorem dX9_wait_4 : decode cX9_wait 4 = .ok (.iload_n 1, 1) := by decide +kernel
theorem dX9_wait_5 : decode cX9_wait 5 = .ok (.sipush 1000, 3) := by decide +kernel
theorem dX9_wait_8 : decode cX9_wait 8 = .ok (.if_icmp .gt 15, 3) := by decide +kernel
theorem dX9_wait_11 : decode cX9_wait 11 = .ok (.aload_n 0, 1) := by decide +kernel
theorem dX9_wait_12 : decode cX9_wait 12 = .ok (.getfield 105, 3) := by decide +kernel
theorem dX9_wait_15 : decode cX9_wait 15 = .ok (.iload_n 1, 1) := by decide +kernel
theorem dX9_wait_16 : decode cX9_wait 16 = .ok (.iadd, 1) := by decide +kernel
theorem dX9_wait_17 : decode cX9_wait 17 = .ok (.sipush 9999, 3) := by decide +kernel
theorem dX9_wait_20 : decode cX9_wait 20 = .ok (.if_icmp .le 5, 3) := by decide +kernel
theorem dX9_wait_23 : decode cX9_wait 23 = .ok (.iconst 0, 1) := by decide +kernel
theorem dX9_wait_24 : decode cX9_wait 24 = .ok (.ireturn, 1) := by decide +kernel
theorem dX9_wait_25 : decode cX9_wait 25 = .ok (.aload_n 0, 1) := by decide +kernel
theorem dX9_wait_26 : decode cX9_wait 26 = .ok (.dup, 1) := by decide +kernel
theorem dX9_wait_27 : decode cX9_wait 27 = .ok (.getfield 105, 3) := by decide +kernel
theorem dX9_wait_30 : decode cX9_wait 30 = .ok (.iload_n 1, 1) := by decide +kernel
theorem dX9_wait_31 : decode cX9_wait 31 = .ok (.iadd, 1) := by decide +kernel
theorem dX9_wait_32 : decode cX9_wait 32 = .ok (.putfield 105, 3) := by decide +kernel
theorem dX9_wait_35 : decode cX9_wait 35 = .ok (.iconst 1, 1) := by decide +kernel
theorem dX9_wait_36 : decode cX9_wait 36 = .ok (.ireturn, 1) := by decide +kernel
set_option maxRecDepth 20000 in
theorem ggX9_about_X3_has : GoodIn wsX9_about wsX3_has := goodIn_r _ [13, 14, 54, 55, 56, 57, 58, 59, 60] (by decide +kernel) (by decide +kernel)
set_option maxRecDepth 20000 in
theorem gX9_about_X3_has : GoodIn wsX9_about (wsV RX9 148 RX3 yX3_has wsX3_has) := goodIn_app (goodIn_of _ (by decide +kernel)) ggX9_about_X3_has
set_option maxRecDepth 20000 in
theorem ggX9_about_X6_isThrough : GoodIn wsX9_about wsX6_isThrough := goodIn_r _ [19, 20, 21, 61, 62, 63] (by decide +kernel) (by decide +kernel)
set_option maxRecDepth 20000 in
theorem gX9_about_X6_isThrough : GoodIn wsX9_about (wsV RX9 120 RX6 yX6_isThrough wsX6_isThrough) := goodIn_app (goodIn_of _ (by decide +kernel)) ggX9_about_X6_isThrough
set_option maxRecDepth 20000 in
theorem ggX9_about_X3_placeInRow : GoodIn wsX9_about wsX3_placeInRow := goodIn_r _ [25, 26, 27, 28, 29, 30, 31, 12, 32, 14, 33, 34, 35, 36, 37, 10, 11, 13, 54, 55, 56, 57, 58, 59, 60] (by decide +kernel) (by decide +kernel)
set_option maxRecDepth 20000 in
theorem gX9_about_X3_placeInRow : GoodIn wsX9_about (wsV RX9 202 RX3 yX3_placeInRow wsX3_placeInRow) := goodIn_app (goodIn_of _ (by decide +kernel)) ggX9_about_X3_placeInRow
set_option maxRecDepth 20000 in
theorem ggX9_about_X3_placeOf : GoodIn wsX9_about wsX3_placeOf := goodIn_r _ [32, 14, 26, 54, 55, 56, 57, 58, 59, 60] (by decide +kernel) (by decide +kernel)
set_option maxRecDepth 20000 in
theorem gX9_about_X3_placeOf : GoodIn wsX9_about (wsV RX9 206 RX3 yX3_placeOf wsX3_placeOf) := goodIn_app (goodIn_of _ (by decide +kernel)) ggX9_about_X3_placeOf
theorem dX9_about_0 : decode cX9_about 0 = .ok (.aload_n 0, 1) := by decide +kernel
theorem dX9_about_1 : decode cX9_about 1 = .ok (.getfield 46, 3) := by decide +kernel
theorem dX9_about_4 : decode cX9_about 4 = .ok (.iload_n 1, 1) := by decide +kernel
theorem dX9_about_5 : decode cX9_about 5 = .ok (.invokevirtual 148, 3) := by decide +kernel
theorem dX9_about_8 : decode cX9_about 8 = .ok (.ifCond .ne 13, 3) := by decide +kernel
theorem dX9_about_11 : decode cX9_about 11 = .ok (.new 195, 3) := by decide +kernel
theorem dX9_about_14 : decode cX9_about 14 = .ok (.dup, 1) := by decide +kernel
theorem dX9_about_15 : decode cX9_about 15 = .ok (.ldc 197, 2) := by decide +kernel
theorem dX9_about_17 : decode cX9_about 17 = .ok (.invokespecial 199, 3) := by decide +kernel
theorem dX9_about_20 : decode cX9_about 20 = .ok (.athrow, 1) := by decide +kernel
theorem dX9_about_21 : decode cX9_about 21 = .ok (.iload_n 2, 1) := by decide +kernel
theorem dX9_about_22 : decode cX9_about 22 = .ok (.tableswitch 120 0 5 #[38, 48, 58, 76, 101, 110], 38) := by decide +kernel
theorem dX9_about_60 : decode cX9_about 60 = .ok (.aload_n 0, 1) := by decide +kernel
theorem dX9_about_61 : decode cX9_about 61 = .ok (.getfield 46, 3) := by decide +kernel
theorem dX9_about_64 : decode cX9_about 64 = .ok (.getfield 113, 3) := by decide +kernel
theorem dX9_about_67 : decode cX9_about 67 = .ok (.iload_n 1, 1) := by decide +kernel
theorem dX9_about_68 : decode cX9_about 68 = .ok (.iaload, 1) := by decide +kernel
theorem dX9_about_69 : decode cX9_about 69 = .ok (.ireturn, 1) := by decide +kernel
theorem dX9_about_70 : decode cX9_about 70 = .ok (.aload_n 0, 1) := by decide +kernel
theorem dX9_about_71 : decode cX9_about 71 = .ok (.getfield 46, 3) := by decide +kernel
theorem dX9_about_74 : decode cX9_about 74 = .ok (.getfield 162, 3) := by decide +kernel
theorem dX9_about_77 : decode cX9_about 77 = .ok (.iload_n 1, 1) := by decide +kernel
theorem dX9_about_78 : decode cX9_about 78 = .ok (.iaload, 1) := by decide +kernel
theorem dX9_about_79 : decode cX9_about 79 = .ok (.ireturn, 1) := by decide +kernel
theorem dX9_about_80 : decode cX9_about 80 = .ok (.aload_n 0, 1) := by decide +kernel
theorem dX9_about_81 : decode cX9_about 81 = .ok (.getfield 46, 3) := by decide +kernel
theorem dX9_about_84 : decode cX9_about 84 = .ok (.getfield 151, 3) := by decide +kernel
theorem dX9_about_87 : decode cX9_about 87 = .ok (.iload_n 1, 1) := by decide +kernel
theorem dX9_about_88 : decode cX9_about 88 = .ok (.baload, 1) := by decide +kernel
theorem dX9_about_89 : decode cX9_about 89 = .ok (.ifCond .eq 7, 3) := by decide +kernel
theorem dX9_about_92 : decode cX9_about 92 = .ok (.iconst 1, 1) := by decide +kernel
theorem dX9_about_93 : decode cX9_about 93 = .ok (.goto 4, 3) := by decide +kernel
theorem dX9_about_96 : decode cX9_about 96 = .ok (.iconst 0, 1) := by decide +kernel
theorem dX9_about_97 : decode cX9_about 97 = .ok (.ireturn, 1) := by decide +kernel
theorem dX9_about_98 : decode cX9_about 98 = .ok (.aload_n 0, 1) := by decide +kernel
theorem dX9_about_99 : decode cX9_about 99 = .ok (.getfield 46, 3) := by decide +kernel
theorem dX9_about_102 : decode cX9_about 102 = .ok (.iload_n 1, 1) := by decide +kernel
theorem dX9_about_103 : decode cX9_about 103 = .ok (.aload_n 0, 1) := by decide +kernel
theorem dX9_about_104 : decode cX9_about 104 = .ok (.getfield 22, 3) := by decide +kernel
theorem dX9_about_107 : decode cX9_about 107 = .ok (.aload_n 0, 1) := by decide +kernel
theorem dX9_about_108 : decode cX9_about 108 = .ok (.getfield 46, 3) := by decide +kernel
theorem dX9_about_111 : decode cX9_about 111 = .ok (.getfield 113, 3) := by decide +kernel
theorem dX9_about_114 : decode cX9_about 114 = .ok (.iload_n 1, 1) := by decide +kernel
theorem dX9_about_115 : decode cX9_about 115 = .ok (.iaload, 1) := by decide +kernel
theorem dX9_about_116 : decode cX9_about 116 = .ok (.invokevirtual 120, 3) := by decide +kernel
theorem dX9_about_119 : decode cX9_about 119 = .ok (.invokevirtual 202, 3) := by decide +kernel
theorem dX9_about_122 : decode cX9_about 122 = .ok (.ireturn, 1) := by decide +kernel
theorem dX9_about_123 : decode cX9_about 123 = .ok (.aload_n 0, 1) := by decide +kernel
theorem dX9_about_124 : decode cX9_about 124 = .ok (.getfield 46, 3) := by decide +kernel
theorem dX9_about_127 : decode cX9_about 127 = .ok (.iload_n 1, 1) := by decide +kernel
theorem dX9_about_128 : decode cX9_about 128 = .ok (.invokevirtual 206, 3) := by decide +kernel
theorem dX9_about_131 : decode cX9_about 131 = .ok (.ireturn, 1) := by decide +kernel
theorem dX9_about_132 : decode cX9_about 132 = .ok (.aload_n 0, 1) := by decide +kernel
theorem dX9_about_133 : decode cX9_about 133 = .ok (.getfield 46, 3) := by decide +kernel
theorem dX9_about_136 : decode cX9_about 136 = .ok (.getfield 209, 3) := by decide +kernel
theorem dX9_about_139 : decode cX9_about 139 = .ok (.iload_n 1, 1) := by decide +kernel
theorem dX9_about_140 : decode cX9_about 140 = .ok (.iaload, 1) := by decide +kernel
theorem dX9_about_141 : decode cX9_about 141 = .ok (.ireturn, 1) := by decide +kernel
theorem dX9_about_142 : decode cX9_about 142 = .ok (.new 195, 3) := by decide +kernel
theorem dX9_about_145 : decode cX9_about 145 = .ok (.dup, 1) := by decide +kernel
theorem dX9_about_146 : decode cX9_about 146 = .ok (.ldc 212, 2) := by decide +kernel
theorem dX9_about_148 : decode cX9_about 148 = .ok (.invokespecial 199, 3) := by decide +kernel
theorem dX9_about_151 : decode cX9_about 151 = .ok (.athrow, 1) := by decide +kernel
set_option maxRecDepth 20000 in
theorem ggX9_label_X2_asOf : GoodIn wsX9_label wsX2_asOf := goodIn_r _ [11, 12, 13, 14, 15, 87, 88, 89, 90, 91, 92] (by decide +kernel) (by decide +kernel)
set_option maxRecDepth 20000 in
theorem gX9_label_X2_asOf : GoodIn wsX9_label (wsV RX9 214 RX2 yX2_asOf wsX2_asOf) := goodIn_app (goodIn_of _ (by decide +kernel)) ggX9_label_X2_asOf
set_option maxRecDepth 20000 in
theorem ggX9_label_X3_has : GoodIn wsX9_label wsX3_has := goodIn_r _ [20, 21, 80, 81, 82, 83, 84, 85, 86] (by decide +kernel) (by decide +kernel)
set_option maxRecDepth 20000 in
theorem gX9_label_X3_has : GoodIn wsX9_label (wsV RX9 148 RX3 yX3_has wsX3_has) := goodIn_app (goodIn_of _ (by decide +kernel)) ggX9_label_X3_has
set_option maxRecDepth 20000 in
theorem ggX9_label_X6_formOf : GoodIn wsX9_label wsX6_formOf := goodIn_r _ [26, 27, 28, 93, 94, 95] (by decide +kernel) (by decide +kernel)
set_option maxRecDepth 20000 in
theorem gX9_label_X6_formOf : GoodIn wsX9_label (wsV RX9 217 RX6 yX6_formOf wsX6_formOf) := goodIn_app (goodIn_of _ (by decide +kernel)) ggX9_label_X6_formOf
set_option maxRecDepth 20000 in
theorem ggX9_label_X1_writeLabel : GoodIn wsX9_label wsX1_writeLabel := goodIn_r _ [32, 33, 34, 35, 36, 37, 38, 31, 39, 40, 41, 42, 43, 44, 45, 46, 47, 48, 49, 50, 51, 52, 53, 54, 55, 56, 57, 58, 59, 60, 61, 62, 78, 79] (by decide +kernel) (by decide +kernel)
set_option maxRecDepth 20000 in
theorem gX9_label_X1_writeLabel : GoodIn wsX9_label (va_wsS RX9 220 yX1_writeLabel wsX1_writeLabel) := goodIn_app (goodIn_of _ (by decide +kernel)) ggX9_label_X1_writeLabel
theorem dX9_label_0 : decode cX9_label 0 = .ok (.aload_n 0, 1) := by decide +kernel
theorem dX9_label_1 : decode cX9_label 1 = .ok (.getfield 53, 3) := by decide +kernel
theorem dX9_label_4 : decode cX9_label 4 = .ok (.iload_n 1, 1) := by decide +kernel
theorem dX9_label_5 : decode cX9_label 5 = .ok (.iload_n 2, 1) := by decide +kernel
theorem dX9_label_6 : decode cX9_label 6 = .ok (.invokevirtual 214, 3) := by decide +kernel
theorem dX9_label_9 : decode cX9_label 9 = .ok (.istore_n 3, 1) := by decide +kernel
theorem dX9_label_10 : decode cX9_label 10 = .ok (.aload_n 0, 1) := by decide +kernel
theorem dX9_label_11 : decode cX9_label 11 = .ok (.getfield 46, 3) := by decide +kernel
theorem dX9_label_14 : decode cX9_label 14 = .ok (.iload_n 1, 1) := by decide +kernel
theorem dX9_label_15 : decode cX9_label 15 = .ok (.invokevirtual 148, 3) := by decide +kernel
theorem dX9_label_18 : decode cX9_label 18 = .ok (.ifCond .eq 7, 3) := by decide +kernel
theorem dX9_label_21 : decode cX9_label 21 = .ok (.iload_n 3, 1) := by decide +kernel
theorem dX9_label_22 : decode cX9_label 22 = .ok (.ifCond .ne 5, 3) := by decide +kernel
theorem dX9_label_25 : decode cX9_label 25 = .ok (.iconst (-1), 1) := by decide +kernel
theorem dX9_label_26 : decode cX9_label 26 = .ok (.ireturn, 1) := by decide +kernel
theorem dX9_label_27 : decode cX9_label 27 = .ok (.aload_n 0, 1) := by decide +kernel
theorem dX9_label_28 : decode cX9_label 28 = .ok (.getfield 16, 3) := by decide +kernel
theorem dX9_label_31 : decode cX9_label 31 = .ok (.iconst 0, 1) := by decide +kernel
theorem dX9_label_32 : decode cX9_label 32 = .ok (.putfield 78, 3) := by decide +kernel
theorem dX9_label_35 : decode cX9_label 35 = .ok (.aload_n 0, 1) := by decide +kernel
theorem dX9_label_36 : decode cX9_label 36 = .ok (.getfield 16, 3) := by decide +kernel
theorem dX9_label_39 : decode cX9_label 39 = .ok (.aload_n 0, 1) := by decide +kernel
theorem dX9_label_40 : decode cX9_label 40 = .ok (.getfield 22, 3) := by decide +kernel
theorem dX9_label_43 : decode cX9_label 43 = .ok (.aload_n 0, 1) := by decide +kernel
theorem dX9_label_44 : decode cX9_label 44 = .ok (.getfield 46, 3) := by decide +kernel
theorem dX9_label_47 : decode cX9_label 47 = .ok (.getfield 113, 3) := by decide +kernel
theorem dX9_label_50 : decode cX9_label 50 = .ok (.iload_n 1, 1) := by decide +kernel
theorem dX9_label_51 : decode cX9_label 51 = .ok (.iaload, 1) := by decide +kernel
theorem dX9_label_52 : decode cX9_label 52 = .ok (.invokevirtual 217, 3) := by decide +kernel
theorem dX9_label_55 : decode cX9_label 55 = .ok (.iload_n 3, 1) := by decide +kernel
theorem dX9_label_56 : decode cX9_label 56 = .ok (.invokestatic 220, 3) := by decide +kernel
theorem dX9_label_59 : decode cX9_label 59 = .ok (.aload_n 0, 1) := by decide +kernel
theorem dX9_label_60 : decode cX9_label 60 = .ok (.getfield 16, 3) := by decide +kernel
theorem dX9_label_63 : decode cX9_label 63 = .ok (.getfield 78, 3) := by decide +kernel
theorem dX9_label_66 : decode cX9_label 66 = .ok (.ireturn, 1) := by decide +kernel
set_option maxRecDepth 20000 in
theorem ggX9_cited_X3_has : GoodIn wsX9_cited wsX3_has := goodIn_r _ [13, 14, 81, 82, 83, 84, 85, 86, 87] (by decide +kernel) (by decide +kernel)
set_option maxRecDepth 20000 in
theorem gX9_cited_X3_has : GoodIn wsX9_cited (wsV RX9 148 RX3 yX3_has wsX3_has) := goodIn_app (goodIn_of _ (by decide +kernel)) ggX9_cited_X3_has
set_option maxRecDepth 20000 in
theorem ggX9_cited_X2_asOf : GoodIn wsX9_cited wsX2_asOf := goodIn_r _ [19, 20, 21, 22, 23, 90, 91, 92, 93, 94, 95] (by decide +kernel) (by decide +kernel)
set_option maxRecDepth 20000 in
theorem gX9_cited_X2_asOf : GoodIn wsX9_cited (wsV RX9 214 RX2 yX2_asOf wsX2_asOf) := goodIn_app (goodIn_of _ (by decide +kernel)) ggX9_cited_X2_asOf
set_option maxRecDepth 20000 in
theorem ggX9_cited_X8_put : GoodIn wsX9_cited wsX8_put := goodIn_r _ [28, 29, 30, 88, 89] (by decide +kernel) (by decide +kernel)
set_option maxRecDepth 20000 in
theorem gX9_cited_X8_put : GoodIn wsX9_cited (wsV RX9 226 RX8 yX8_put wsX8_put) := goodIn_app (goodIn_of _ (by decide +kernel)) ggX9_cited_X8_put
set_option maxRecDepth 20000 in
theorem ggX9_cited_X6_formOf : GoodIn wsX9_cited wsX6_formOf := goodIn_r _ [35, 36, 37, 96, 97, 98] (by decide +kernel) (by decide +kernel)
set_option maxRecDepth 20000 in
theorem gX9_cited_X6_formOf : GoodIn wsX9_cited (wsV RX9 217 RX6 yX6_formOf wsX6_formOf) := goodIn_app (goodIn_of _ (by decide +kernel)) ggX9_cited_X6_formOf
set_option maxRecDepth 20000 in
theorem ggX9_cited_X1_writeLabel : GoodIn wsX9_cited wsX1_writeLabel := goodIn_r _ [41, 42, 43, 44, 45, 46, 47, 40, 48, 49, 50, 51, 52, 25, 26, 27, 28, 29, 30, 53, 54, 55, 56, 57, 58, 59, 60, 61, 62, 63, 64, 65, 88, 89] (by decide +kernel) (by decide +kernel)
set_option maxRecDepth 20000 in
theorem gX9_cited_X1_writeLabel : GoodIn wsX9_cited (va_wsS RX9 220 yX1_writeLabel wsX1_writeLabel) := goodIn_app (goodIn_of _ (by decide +kernel)) ggX9_cited_X1_writeLabel
theorem dX9_cited_0 : decode cX9_cited 0 = .ok (.aload_n 0, 1) := by decide +kernel
theorem dX9_cited_1 : decode cX9_cited 1 = .ok (.getfield 46, 3) := by decide +kernel
theorem dX9_cited_4 : decode cX9_cited 4 = .ok (.iload_n 1, 1) := by decide +kernel
theorem dX9_cited_5 : decode cX9_cited 5 = .ok (.invokevirtual 148, 3) := by decide +kernel
theorem dX9_cited_8 : decode cX9_cited 8 = .ok (.ifCond .ne 5, 3) := by decide +kernel
theorem dX9_cited_11 : decode cX9_cited 11 = .ok (.iconst (-1), 1) := by decide +kernel
theorem dX9_cited_12 : decode cX9_cited 12 = .ok (.ireturn, 1) := by decide +kernel
theorem dX9_cited_13 : decode cX9_cited 13 = .ok (.iload_n 1, 1) := by decide +kernel
theorem dX9_cited_14 : decode cX9_cited 14 = .ok (.istore_n 3, 1) := by decide +kernel
theorem dX9_cited_15 : decode cX9_cited 15 = .ok (.aload_n 0, 1) := by decide +kernel
theorem dX9_cited_16 : decode cX9_cited 16 = .ok (.getfield 46, 3) := by decide +kernel
theorem dX9_cited_19 : decode cX9_cited 19 = .ok (.getfield 113, 3) := by decide +kernel
theorem dX9_cited_22 : decode cX9_cited 22 = .ok (.iload_n 1, 1) := by decide +kernel
theorem dX9_cited_23 : decode cX9_cited 23 = .ok (.iaload, 1) := by decide +kernel
theorem dX9_cited_24 : decode cX9_cited 24 = .ok (.istore 4, 2) := by decide +kernel
theorem dX9_cited_26 : decode cX9_cited 26 = .ok (.iload 4, 2) := by decide +kernel
theorem dX9_cited_28 : decode cX9_cited 28 = .ok (.ifCond .lt 58, 3) := by decide +kernel
theorem dX9_cited_31 : decode cX9_cited 31 = .ok (.aload_n 0, 1) := by decide +kernel
theorem dX9_cited_32 : decode cX9_cited 32 = .ok (.getfield 46, 3) := by decide +kernel
theorem dX9_cited_35 : decode cX9_cited 35 = .ok (.iload_n 3, 1) := by decide +kernel
theorem dX9_cited_36 : decode cX9_cited 36 = .ok (.invokevirtual 148, 3) := by decide +kernel
theorem dX9_cited_39 : decode cX9_cited 39 = .ok (.ifCond .eq 47, 3) := by decide +kernel
theorem dX9_cited_42 : decode cX9_cited 42 = .ok (.aload_n 0, 1) := by decide +kernel
theorem dX9_cited_43 : decode cX9_cited 43 = .ok (.getfield 64, 3) := by decide +kernel
theorem dX9_cited_46 : decode cX9_cited 46 = .ok (.iload 4, 2) := by decide +kernel
theorem dX9_cited_48 : decode cX9_cited 48 = .ok (.aload_n 0, 1) := by decide +kernel
theorem dX9_cited_49 : decode cX9_cited 49 = .ok (.getfield 53, 3) := by decide +kernel
theorem dX9_cited_52 : decode cX9_cited 52 = .ok (.iload_n 3, 1) := by decide +kernel
theorem dX9_cited_53 : decode cX9_cited 53 = .ok (.iload_n 2, 1) := by decide +kernel
theorem dX9_cited_54 : decode cX9_cited 54 = .ok (.invokevirtual 214, 3) := by decide +kernel
theorem dX9_cited_57 : decode cX9_cited 57 = .ok (.iastore, 1) := by decide +kernel
theorem dX9_cited_58 : decode cX9_cited 58 = .ok (.aload_n 0, 1) := by decide +kernel
theorem dX9_cited_59 : decode cX9_cited 59 = .ok (.getfield 64, 3) := by decide +kernel
theorem dX9_cited_62 : decode cX9_cited 62 = .ok (.iload 4, 2) := by decide +kernel
theorem dX9_cited_64 : decode cX9_cited 64 = .ok (.iaload, 1) := by decide +kernel
theorem dX9_cited_65 : decode cX9_cited 65 = .ok (.ifCond .ne 5, 3) := by decide +kernel
theorem dX9_cited_68 : decode cX9_cited 68 = .ok (.iconst (-1), 1) := by decide +kernel
theorem dX9_cited_69 : decode cX9_cited 69 = .ok (.ireturn, 1) := by decide +kernel
theorem dX9_cited_70 : decode cX9_cited 70 = .ok (.aload_n 0, 1) := by decide +kernel
theorem dX9_cited_71 : decode cX9_cited 71 = .ok (.getfield 46, 3) := by decide +kernel
theorem dX9_cited_74 : decode cX9_cited 74 = .ok (.getfield 162, 3) := by decide +kernel
theorem dX9_cited_77 : decode cX9_cited 77 = .ok (.iload_n 3, 1) := by decide +kernel
theorem dX9_cited_78 : decode cX9_cited 78 = .ok (.iaload, 1) := by decide +kernel
theorem dX9_cited_79 : decode cX9_cited 79 = .ok (.istore_n 3, 1) := by decide +kernel
theorem dX9_cited_80 : decode cX9_cited 80 = .ok (.iinc 4 (-1), 3) := by decide +kernel
theorem dX9_cited_83 : decode cX9_cited 83 = .ok (.goto (-57), 3) := by decide +kernel
theorem dX9_cited_86 : decode cX9_cited 86 = .ok (.aload_n 0, 1) := by decide +kernel
theorem dX9_cited_87 : decode cX9_cited 87 = .ok (.getfield 16, 3) := by decide +kernel
theorem dX9_cited_90 : decode cX9_cited 90 = .ok (.iconst 0, 1) := by decide +kernel
theorem dX9_cited_91 : decode cX9_cited 91 = .ok (.putfield 78, 3) := by decide +kernel
theorem dX9_cited_94 : decode cX9_cited 94 = .ok (.iconst 0, 1) := by decide +kernel
theorem dX9_cited_95 : decode cX9_cited 95 = .ok (.istore 4, 2) := by decide +kernel
theorem dX9_cited_97 : decode cX9_cited 97 = .ok (.iload 4, 2) := by decide +kernel
theorem dX9_cited_99 : decode cX9_cited 99 = .ok (.aload_n 0, 1) := by decide +kernel
theorem dX9_cited_100 : decode cX9_cited 100 = .ok (.getfield 46, 3) := by decide +kernel
theorem dX9_cited_103 : decode cX9_cited 103 = .ok (.getfield 113, 3) := by decide +kernel
theorem dX9_cited_106 : decode cX9_cited 106 = .ok (.iload_n 1, 1) := by decide +kernel
theorem dX9_cited_107 : decode cX9_cited 107 = .ok (.iaload, 1) := by decide +kernel
theorem dX9_cited_108 : decode cX9_cited 108 = .ok (.if_icmp .gt 46, 3) := by decide +kernel
theorem dX9_cited_111 : decode cX9_cited 111 = .ok (.iload 4, 2) := by decide +kernel
theorem dX9_cited_113 : decode cX9_cited 113 = .ok (.ifCond .le 12, 3) := by decide +kernel
theorem dX9_cited_116 : decode cX9_cited 116 = .ok (.aload_n 0, 1) := by decide +kernel
theorem dX9_cited_117 : decode cX9_cited 117 = .ok (.getfield 16, 3) := by decide +kernel
theorem dX9_cited_120 : decode cX9_cited 120 = .ok (.bipush 46, 2) := by decide +kernel
theorem dX9_cited_122 : decode cX9_cited 122 = .ok (.invokevirtual 226, 3) := by decide +kernel
theorem dX9_cited_125 : decode cX9_cited 125 = .ok (.aload_n 0, 1) := by decide +kernel
theorem dX9_cited_126 : decode cX9_cited 126 = .ok (.getfield 16, 3) := by decide +kernel
theorem dX9_cited_129 : decode cX9_cited 129 = .ok (.aload_n 0, 1) := by decide +kernel
theorem dX9_cited_130 : decode cX9_cited 130 = .ok (.getfield 22, 3) := by decide +kernel
theorem dX9_cited_133 : decode cX9_cited 133 = .ok (.iload 4, 2) := by decide +kernel
theorem dX9_cited_135 : decode cX9_cited 135 = .ok (.invokevirtual 217, 3) := by decide +kernel
theorem dX9_cited_138 : decode cX9_cited 138 = .ok (.aload_n 0, 1) := by decide +kernel
theorem dX9_cited_139 : decode cX9_cited 139 = .ok (.getfield 64, 3) := by decide +kernel
theorem dX9_cited_142 : decode cX9_cited 142 = .ok (.iload 4, 2) := by decide +kernel
theorem dX9_cited_144 : decode cX9_cited 144 = .ok (.iaload, 1) := by decide +kernel
theorem dX9_cited_145 : decode cX9_cited 145 = .ok (.invokestatic 220, 3) := by decide +kernel
theorem dX9_cited_148 : decode cX9_cited 148 = .ok (.iinc 4 1, 3) := by decide +kernel
theorem dX9_cited_151 : decode cX9_cited 151 = .ok (.goto (-54), 3) := by decide +kernel
theorem dX9_cited_154 : decode cX9_cited 154 = .ok (.aload_n 0, 1) := by decide +kernel
theorem dX9_cited_155 : decode cX9_cited 155 = .ok (.getfield 16, 3) := by decide +kernel
theorem dX9_cited_158 : decode cX9_cited 158 = .ok (.getfield 78, 3) := by decide +kernel
theorem dX9_cited_161 : decode cX9_cited 161 = .ok (.ireturn, 1) := by decide +kernel
set_option maxRecDepth 20000 in
theorem ggX9_octet_X8_byteAt : GoodIn wsX9_octet wsX8_byteAt := goodIn_r _ [9, 10, 11, 27, 28] (by decide +kernel) (by decide +kernel)
set_option maxRecDepth 20000 in
theorem gX9_octet_X8_byteAt : GoodIn wsX9_octet (wsV RX9 231 RX8 yX8_byteAt wsX8_byteAt) := goodIn_app (goodIn_of _ (by decide +kernel)) ggX9_octet_X8_byteAt
theorem dX9_octet_0 : decode cX9_octet 0 = .ok (.iload_n 1, 1) := by decide +kernel
theorem dX9_octet_1 : decode cX9_octet 1 = .ok (.ifCond .lt 14, 3) := by decide +kernel
theorem dX9_octet_4 : decode cX9_octet 4 = .ok (.iload_n 1, 1) := by decide +kernel
theorem dX9_octet_5 : decode cX9_octet 5 = .ok (.aload_n 0, 1) := by decide +kernel
theorem dX9_octet_6 : decode cX9_octet 6 = .ok (.getfield 16, 3) := by decide +kernel
theorem dX9_octet_9 : decode cX9_octet 9 = .ok (.getfield 78, 3) := by decide +kernel
theorem dX9_octet_12 : decode cX9_octet 12 = .ok (.if_icmp .lt 13, 3) := by decide +kernel
theorem dX9_octet_15 : decode cX9_octet 15 = .ok (.new 195, 3) := by decide +kernel
theorem dX9_octet_18 : decode cX9_octet 18 = .ok (.dup, 1) := by decide +kernel
theorem dX9_octet_19 : decode cX9_octet 19 = .ok (.ldc 229, 2) := by decide +kernel
theorem dX9_octet_21 : decode cX9_octet 21 = .ok (.invokespecial 199, 3) := by decide +kernel
theorem dX9_octet_24 : decode cX9_octet 24 = .ok (.athrow, 1) := by decide +kernel
theorem dX9_octet_25 : decode cX9_octet 25 = .ok (.aload_n 0, 1) := by decide +kernel
theorem dX9_octet_26 : decode cX9_octet 26 = .ok (.getfield 16, 3) := by decide +kernel
theorem dX9_octet_29 : decode cX9_octet 29 = .ok (.iload_n 1, 1) := by decide +kernel
theorem dX9_octet_30 : decode cX9_octet 30 = .ok (.invokevirtual 231, 3) := by decide +kernel
theorem dX9_octet_33 : decode cX9_octet 33 = .ok (.ireturn, 1) := by decide +kernel
set_option maxRecDepth 20000 in
theorem ggX9_cite_X9_readCitation : GoodIn wsX9_cite wsX9_readCitation := goodIn_r _ [14, 15, 16, 17, 3, 18, 1, 19, 2, 20, 21, 22, 4, 23, 24, 25, 26, 27, 28, 29, 30, 31, 32, 33, 34, 35, 36, 37, 38, 39, 40, 41, 42, 43, 44, 45, 46, 47, 48, 49, 50, 51, 52, 53, 54, 55, 56, 57, 58, 59, 60, 61, 62, 63, 64, 65, 66, 67, 68, 69, 70, 71, 72, 73, 74, 75, 76, 77, 78, 79, 80, 81, 82, 83, 84, 85, 86, 87, 88, 89, 90, 91, 92, 93, 94, 95, 96, 97, 98, 99, 100, 101, 102, 103, 104, 105, 106, 107, 108, 109, 110, 111, 112, 113, 114, 115, 116, 117, 118, 119, 120, 121, 122, 123, 124, 125, 126, 127, 149, 150, 151, 152, 153, 154, 155, 156, 157, 158, 159, 160, 161, 162, 163, 173, 174, 175, 176, 177, 178, 179, 180, 164, 165] (by decide +kernel) (by decide +kernel)
set_option maxRecDepth 20000 in
theorem gX9_cite_X9_readCitation : GoodIn wsX9_cite (wsV RX9 234 RX9 yX9_readCitation wsX9_readCitation) := goodIn_app (goodIn_of _ (by decide +kernel)) ggX9_cite_X9_readCitation
set_option maxRecDepth 20000 in
theorem ggX9_cite_X9_bearsPath : GoodIn wsX9_cite wsX9_bearsPath := goodIn_r _ [131, 6, 9, 132, 20, 133, 134, 135, 136, 137, 138, 139, 140, 141, 142, 143, 144, 145, 146, 147, 148, 149, 150, 151, 152, 153, 154, 155, 156, 157, 158, 159, 160, 161, 162, 163, 166, 167, 168, 169, 170, 171, 172, 181, 182, 183, 184, 185, 186] (by decide +kernel) (by decide +kernel)
set_option maxRecDepth 20000 in
theorem gX9_cite_X9_bearsPath : GoodIn wsX9_cite (wsV RX9 240 RX9 yX9_bearsPath wsX9_bearsPath) := goodIn_app (goodIn_of _ (by decide +kernel)) ggX9_cite_X9_bearsPath
theorem dX9_cite_0 : decode cX9_cite 0 = .ok (.aload_n 0, 1) := by decide +kernel
theorem dX9_cite_1 : decode cX9_cite 1 = .ok (.iconst 0, 1) := by decide +kernel
theorem dX9_cite_2 : decode cX9_cite 2 = .ok (.putfield 92, 3) := by decide +kernel
theorem dX9_cite_5 : decode cX9_cite 5 = .ok (.aload_n 0, 1) := by decide +kernel
theorem dX9_cite_6 : decode cX9_cite 6 = .ok (.iconst (-1), 1) := by decide +kernel
theorem dX9_cite_7 : decode cX9_cite 7 = .ok (.putfield 75, 3) := by decide +kernel
theorem dX9_cite_10 : decode cX9_cite 10 = .ok (.iload_n 1, 1) := by decide +kernel
theorem dX9_cite_11 : decode cX9_cite 11 = .ok (.ifCond .ge 14, 3) := by decide +kernel
theorem dX9_cite_14 : decode cX9_cite 14 = .ok (.aload_n 0, 1) := by decide +kernel
theorem dX9_cite_15 : decode cX9_cite 15 = .ok (.getfield 10, 3) := by decide +kernel
theorem dX9_cite_18 : decode cX9_cite 18 = .ok (.iconst 0, 1) := by decide +kernel
theorem dX9_cite_19 : decode cX9_cite 19 = .ok (.putfield 78, 3) := by decide +kernel
theorem dX9_cite_22 : decode cX9_cite 22 = .ok (.bipush (-3), 2) := by decide +kernel
theorem dX9_cite_24 : decode cX9_cite 24 = .ok (.ireturn, 1) := by decide +kernel
theorem dX9_cite_25 : decode cX9_cite 25 = .ok (.aload_n 0, 1) := by decide +kernel
theorem dX9_cite_26 : decode cX9_cite 26 = .ok (.invokevirtual 234, 3) := by decide +kernel
theorem dX9_cite_29 : decode cX9_cite 29 = .ok (.istore_n 2, 1) := by decide +kernel
theorem dX9_cite_30 : decode cX9_cite 30 = .ok (.aload_n 0, 1) := by decide +kernel
theorem dX9_cite_31 : decode cX9_cite 31 = .ok (.getfield 10, 3) := by decide +kernel
theorem dX9_cite_34 : decode cX9_cite 34 = .ok (.iconst 0, 1) := by decide +kernel
theorem dX9_cite_35 : decode cX9_cite 35 = .ok (.putfield 78, 3) := by decide +kernel
theorem dX9_cite_38 : decode cX9_cite 38 = .ok (.aload_n 0, 1) := by decide +kernel
theorem dX9_cite_39 : decode cX9_cite 39 = .ok (.getfield 92, 3) := by decide +kernel
theorem dX9_cite_42 : decode cX9_cite 42 = .ok (.ifCond .eq 6, 3) := by decide +kernel
theorem dX9_cite_45 : decode cX9_cite 45 = .ok (.bipush (-2), 2) := by decide +kernel
theorem dX9_cite_47 : decode cX9_cite 47 = .ok (.ireturn, 1) := by decide +kernel
theorem dX9_cite_48 : decode cX9_cite 48 = .ok (.aload_n 0, 1) := by decide +kernel
theorem dX9_cite_49 : decode cX9_cite 49 = .ok (.iconst 0, 1) := by decide +kernel
theorem dX9_cite_50 : decode cX9_cite 50 = .ok (.putfield 237, 3) := by decide +kernel
theorem dX9_cite_53 : decode cX9_cite 53 = .ok (.iconst (-1), 1) := by decide +kernel
theorem dX9_cite_54 : decode cX9_cite 54 = .ok (.istore_n 3, 1) := by decide +kernel
theorem dX9_cite_55 : decode cX9_cite 55 = .ok (.iconst 0, 1) := by decide +kernel
theorem dX9_cite_56 : decode cX9_cite 56 = .ok (.istore 4, 2) := by decide +kernel
theorem dX9_cite_58 : decode cX9_cite 58 = .ok (.iload 4, 2) := by decide +kernel
theorem dX9_cite_60 : decode cX9_cite 60 = .ok (.aload_n 0, 1) := by decide +kernel
theorem dX9_cite_61 : decode cX9_cite 61 = .ok (.getfield 46, 3) := by decide +kernel
theorem dX9_cite_64 : decode cX9_cite 64 = .ok (.getfield 108, 3) := by decide +kernel
theorem dX9_cite_67 : decode cX9_cite 67 = .ok (.if_icmp .ge 69, 3) := by decide +kernel
theorem dX9_cite_70 : decode cX9_cite 70 = .ok (.aload_n 0, 1) := by decide +kernel
theorem dX9_cite_71 : decode cX9_cite 71 = .ok (.getfield 46, 3) := by decide +kernel
theorem dX9_cite_74 : decode cX9_cite 74 = .ok (.getfield 159, 3) := by decide +kernel
theorem dX9_cite_77 : decode cX9_cite 77 = .ok (.iload 4, 2) := by decide +kernel
theorem dX9_cite_79 : decode cX9_cite 79 = .ok (.iaload, 1) := by decide +kernel
theorem dX9_cite_80 : decode cX9_cite 80 = .ok (.istore 5, 2) := by decide +kernel
theorem dX9_cite_82 : decode cX9_cite 82 = .ok (.aload_n 0, 1) := by decide +kernel
theorem dX9_cite_83 : decode cX9_cite 83 = .ok (.getfield 46, 3) := by decide +kernel
theorem dX9_cite_86 : decode cX9_cite 86 = .ok (.getfield 113, 3) := by decide +kernel
theorem dX9_cite_89 : decode cX9_cite 89 = .ok (.iload 5, 2) := by decide +kernel
theorem dX9_cite_91 : decode cX9_cite 91 = .ok (.iaload, 1) := by decide +kernel
theorem dX9_cite_92 : decode cX9_cite 92 = .ok (.iload_n 2, 1) := by decide +kernel
theorem dX9_cite_93 : decode cX9_cite 93 = .ok (.iconst 1, 1) := by decide +kernel
theorem dX9_cite_94 : decode cX9_cite 94 = .ok (.isub, 1) := by decide +kernel
theorem dX9_cite_95 : decode cX9_cite 95 = .ok (.if_icmp .ne 35, 3) := by decide +kernel
theorem dX9_cite_98 : decode cX9_cite 98 = .ok (.aload_n 0, 1) := by decide +kernel
theorem dX9_cite_99 : decode cX9_cite 99 = .ok (.iload 5, 2) := by decide +kernel
theorem dX9_cite_101 : decode cX9_cite 101 = .ok (.iload_n 1, 1) := by decide +kernel
theorem dX9_cite_102 : decode cX9_cite 102 = .ok (.invokevirtual 240, 3) := by decide +kernel
theorem dX9_cite_105 : decode cX9_cite 105 = .ok (.ifCond .eq 25, 3) := by decide +kernel
theorem dX9_cite_108 : decode cX9_cite 108 = .ok (.aload_n 0, 1) := by decide +kernel
theorem dX9_cite_109 : decode cX9_cite 109 = .ok (.dup, 1) := by decide +kernel
theorem dX9_cite_110 : decode cX9_cite 110 = .ok (.getfield 237, 3) := by decide +kernel
theorem dX9_cite_113 : decode cX9_cite 113 = .ok (.iconst 1, 1) := by decide +kernel
theorem dX9_cite_114 : decode cX9_cite 114 = .ok (.iadd, 1) := by decide +kernel
theorem dX9_cite_115 : decode cX9_cite 115 = .ok (.putfield 237, 3) := by decide +kernel
theorem dX9_cite_118 : decode cX9_cite 118 = .ok (.iload_n 3, 1) := by decide +kernel
theorem dX9_cite_119 : decode cX9_cite 119 = .ok (.iconst (-1), 1) := by decide +kernel
theorem dX9_cite_120 : decode cX9_cite 120 = .ok (.if_icmp .ne 8, 3) := by decide +kernel
theorem dX9_cite_123 : decode cX9_cite 123 = .ok (.iload 5, 2) := by decide +kernel
theorem dX9_cite_125 : decode cX9_cite 125 = .ok (.goto 4, 3) := by decide +kernel
theorem dX9_cite_128 : decode cX9_cite 128 = .ok (.iload_n 3, 1) := by decide +kernel
theorem dX9_cite_129 : decode cX9_cite 129 = .ok (.istore_n 3, 1) := by decide +kernel
theorem dX9_cite_130 : decode cX9_cite 130 = .ok (.iinc 4 1, 3) := by decide +kernel
theorem dX9_cite_133 : decode cX9_cite 133 = .ok (.goto (-75), 3) := by decide +kernel
theorem dX9_cite_136 : decode cX9_cite 136 = .ok (.iload_n 3, 1) := by decide +kernel
theorem dX9_cite_137 : decode cX9_cite 137 = .ok (.ireturn, 1) := by decide +kernel
theorem dX9_place_0 : decode cX9_place 0 = .ok (.aload_n 0, 1) := by decide +kernel
theorem dX9_place_1 : decode cX9_place 1 = .ok (.getfield 75, 3) := by decide +kernel
theorem dX9_place_4 : decode cX9_place 4 = .ok (.ireturn, 1) := by decide +kernel
theorem dX9_bearers_0 : decode cX9_bearers 0 = .ok (.aload_n 0, 1) := by decide +kernel
theorem dX9_bearers_1 : decode cX9_bearers 1 = .ok (.getfield 237, 3) := by decide +kernel
theorem dX9_bearers_4 : decode cX9_bearers 4 = .ok (.ireturn, 1) := by decide +kernel
set_option maxRecDepth 20000 in
theorem ggX9_read_X4_readAt : GoodIn wsX9_read wsX4_readAt := goodIn_r _ [12, 13, 14, 15, 16, 17, 18, 11, 19, 20, 21, 22, 23, 24, 25, 26, 27, 28, 29, 30, 31, 32, 33, 34, 35, 36, 37, 38, 39, 40, 41, 42, 43, 44, 45, 46, 47, 48, 49, 50, 51, 52, 53, 54, 55, 56, 57, 58, 59, 60, 61, 62, 63, 64, 65, 66, 67, 68, 69, 70, 71, 72, 73, 74, 75, 76, 77, 78, 79, 80, 81, 82, 83, 84, 85, 86, 87, 88, 89, 90, 91, 92, 93, 94, 95, 96, 97, 98, 99, 100, 101, 102, 103, 104, 125, 126, 127, 128, 129, 130, 131] (by decide +kernel) (by decide +kernel)
set_option maxRecDepth 20000 in
theorem gX9_read_X4_readAt : GoodIn wsX9_read (wsV RX9 243 RX4 yX4_readAt wsX4_readAt) := goodIn_app (goodIn_of _ (by decide +kernel)) ggX9_read_X4_readAt
set_option maxRecDepth 20000 in
theorem ggX9_read_X5_numberOf : GoodIn wsX9_read wsX5_numberOf := goodIn_r _ [76] (by decide +kernel) (by decide +kernel)
set_option maxRecDepth 20000 in
theorem gX9_read_X5_numberOf : GoodIn wsX9_read (va_wsS RX9 253 yX5_numberOf wsX5_numberOf) := goodIn_app (goodIn_of _ (by decide +kernel)) ggX9_read_X5_numberOf
set_option maxRecDepth 20000 in
theorem ggX9_read_X5_suffixOf : GoodIn wsX9_read wsX5_suffixOf := goodIn_r _ [108, 109, 94, 58, 95, 96, 97, 98] (by decide +kernel) (by decide +kernel)
set_option maxRecDepth 20000 in
theorem gX9_read_X5_suffixOf : GoodIn wsX9_read (va_wsS RX9 256 yX5_suffixOf wsX5_suffixOf) := goodIn_app (goodIn_of _ (by decide +kernel)) ggX9_read_X5_suffixOf
theorem dX9_read_0 : decode cX9_read 0 = .ok (.iconst (-1), 1) := by decide +kernel
theorem dX9_read_1 : decode cX9_read 1 = .ok (.istore_n 2, 1) := by decide +kernel
theorem dX9_read_2 : decode cX9_read 2 = .ok (.iload_n 1, 1) := by decide +kernel
theorem dX9_read_3 : decode cX9_read 3 = .ok (.ifCond .lt 73, 3) := by decide +kernel
theorem dX9_read_6 : decode cX9_read 6 = .ok (.iload_n 1, 1) := by decide +kernel
theorem dX9_read_7 : decode cX9_read 7 = .ok (.iconst 4, 1) := by decide +kernel
theorem dX9_read_8 : decode cX9_read 8 = .ok (.if_icmp .ge 68, 3) := by decide +kernel
theorem dX9_read_11 : decode cX9_read 11 = .ok (.aload_n 0, 1) := by decide +kernel
theorem dX9_read_12 : decode cX9_read 12 = .ok (.getfield 39, 3) := by decide +kernel
theorem dX9_read_15 : decode cX9_read 15 = .ok (.aload_n 0, 1) := by decide +kernel
theorem dX9_read_16 : decode cX9_read 16 = .ok (.getfield 10, 3) := by decide +kernel
theorem dX9_read_19 : decode cX9_read 19 = .ok (.iconst 0, 1) := by decide +kernel
theorem dX9_read_20 : decode cX9_read 20 = .ok (.iload_n 1, 1) := by decide +kernel
theorem dX9_read_21 : decode cX9_read 21 = .ok (.invokevirtual 243, 3) := by decide +kernel
theorem dX9_read_24 : decode cX9_read 24 = .ok (.aload_n 0, 1) := by decide +kernel
theorem dX9_read_25 : decode cX9_read 25 = .ok (.getfield 39, 3) := by decide +kernel
theorem dX9_read_28 : decode cX9_read 28 = .ok (.getfield 246, 3) := by decide +kernel
theorem dX9_read_31 : decode cX9_read 31 = .ok (.ifCond .ne 45, 3) := by decide +kernel
theorem dX9_read_34 : decode cX9_read 34 = .ok (.aload_n 0, 1) := by decide +kernel
theorem dX9_read_35 : decode cX9_read 35 = .ok (.getfield 39, 3) := by decide +kernel
theorem dX9_read_38 : decode cX9_read 38 = .ok (.getfield 247, 3) := by decide +kernel
theorem dX9_read_41 : decode cX9_read 41 = .ok (.aload_n 0, 1) := by decide +kernel
theorem dX9_read_42 : decode cX9_read 42 = .ok (.getfield 10, 3) := by decide +kernel
theorem dX9_read_45 : decode cX9_read 45 = .ok (.getfield 78, 3) := by decide +kernel
theorem dX9_read_48 : decode cX9_read 48 = .ok (.if_icmp .ne 28, 3) := by decide +kernel
theorem dX9_read_51 : decode cX9_read 51 = .ok (.aload_n 0, 1) := by decide +kernel
theorem dX9_read_52 : decode cX9_read 52 = .ok (.getfield 39, 3) := by decide +kernel
theorem dX9_read_55 : decode cX9_read 55 = .ok (.getfield 250, 3) := by decide +kernel
theorem dX9_read_58 : decode cX9_read 58 = .ok (.invokestatic 253, 3) := by decide +kernel
theorem dX9_read_61 : decode cX9_read 61 = .ok (.istore_n 2, 1) := by decide +kernel
theorem dX9_read_62 : decode cX9_read 62 = .ok (.aload_n 0, 1) := by decide +kernel
theorem dX9_read_63 : decode cX9_read 63 = .ok (.aload_n 0, 1) := by decide +kernel
theorem dX9_read_64 : decode cX9_read 64 = .ok (.getfield 39, 3) := by decide +kernel
theorem dX9_read_67 : decode cX9_read 67 = .ok (.getfield 250, 3) := by decide +kernel
theorem dX9_read_70 : decode cX9_read 70 = .ok (.invokestatic 256, 3) := by decide +kernel
theorem dX9_read_73 : decode cX9_read 73 = .ok (.putfield 259, 3) := by decide +kernel
theorem dX9_read_76 : decode cX9_read 76 = .ok (.aload_n 0, 1) := by decide +kernel
theorem dX9_read_77 : decode cX9_read 77 = .ok (.getfield 10, 3) := by decide +kernel
theorem dX9_read_80 : decode cX9_read 80 = .ok (.iconst 0, 1) := by decide +kernel
theorem dX9_read_81 : decode cX9_read 81 = .ok (.putfield 78, 3) := by decide +kernel
theorem dX9_read_84 : decode cX9_read 84 = .ok (.iload_n 2, 1) := by decide +kernel
theorem dX9_read_85 : decode cX9_read 85 = .ok (.ireturn, 1) := by decide +kernel
theorem dX9_suffix_0 : decode cX9_suffix 0 = .ok (.aload_n 0, 1) := by decide +kernel
theorem dX9_suffix_1 : decode cX9_suffix 1 = .ok (.getfield 259, 3) := by decide +kernel
theorem dX9_suffix_4 : decode cX9_suffix 4 = .ok (.ireturn, 1) := by decide +kernel
set_option maxRecDepth 20000 in
theorem ggX9_clash_X2_latest : GoodIn wsX9_clash wsX2_latest := goodIn_r _ [12, 13, 14, 61, 62, 63, 64, 65, 66] (by decide +kernel) (by decide +kernel)
set_option maxRecDepth 20000 in
theorem gX9_clash_X2_latest : GoodIn wsX9_clash (wsV RX9 262 RX2 yX2_latest wsX2_latest) := goodIn_app (goodIn_of _ (by decide +kernel)) ggX9_clash_X2_latest
set_option maxRecDepth 20000 in
theorem ggX9_clash_X6_isThrough : GoodIn wsX9_clash wsX6_isThrough := goodIn_r _ [19, 20, 21, 67, 68, 69] (by decide +kernel) (by decide +kernel)
set_option maxRecDepth 20000 in
theorem gX9_clash_X6_isThrough : GoodIn wsX9_clash (wsV RX9 120 RX6 yX6_isThrough wsX6_isThrough) := goodIn_app (goodIn_of _ (by decide +kernel)) ggX9_clash_X6_isThrough
set_option maxRecDepth 20000 in
theorem ggX9_clash_X9_labelAhead : GoodIn wsX9_clash wsX9_labelAhead := goodIn_r _ [26, 1, 3, 5, 27, 28, 29, 30, 31, 32, 33, 34, 35, 36, 37, 38, 8, 9, 10, 11, 12, 13, 14, 39, 40, 41, 42, 43, 44, 45, 46, 47, 48, 49, 50, 51, 52, 53, 54, 55, 56, 57, 58, 59, 60, 61, 62, 63, 64, 65, 66] (by decide +kernel) (by decide +kernel)
set_option maxRecDepth 20000 in
theorem gX9_clash_X9_labelAhead : GoodIn wsX9_clash (wsV RX9 124 RX9 yX9_labelAhead wsX9_labelAhead) := goodIn_app (goodIn_of _ (by decide +kernel)) ggX9_clash_X9_labelAhead
theorem dX9_clash_0 : decode cX9_clash 0 = .ok (.iconst 0, 1) := by decide +kernel
theorem dX9_clash_1 : decode cX9_clash 1 = .ok (.istore_n 1, 1) := by decide +kernel
theorem dX9_clash_2 : decode cX9_clash 2 = .ok (.iload_n 1, 1) := by decide +kernel
theorem dX9_clash_3 : decode cX9_clash 3 = .ok (.aload_n 0, 1) := by decide +kernel
theorem dX9_clash_4 : decode cX9_clash 4 = .ok (.getfield 46, 3) := by decide +kernel
theorem dX9_clash_7 : decode cX9_clash 7 = .ok (.getfield 108, 3) := by decide +kernel
theorem dX9_clash_10 : decode cX9_clash 10 = .ok (.if_icmp .ge 77, 3) := by decide +kernel
theorem dX9_clash_13 : decode cX9_clash 13 = .ok (.aload_n 0, 1) := by decide +kernel
theorem dX9_clash_14 : decode cX9_clash 14 = .ok (.getfield 46, 3) := by decide +kernel
theorem dX9_clash_17 : decode cX9_clash 17 = .ok (.getfield 159, 3) := by decide +kernel
theorem dX9_clash_20 : decode cX9_clash 20 = .ok (.iload_n 1, 1) := by decide +kernel
theorem dX9_clash_21 : decode cX9_clash 21 = .ok (.iaload, 1) := by decide +kernel
theorem dX9_clash_22 : decode cX9_clash 22 = .ok (.istore_n 2, 1) := by decide +kernel
theorem dX9_clash_23 : decode cX9_clash 23 = .ok (.aload_n 0, 1) := by decide +kernel
theorem dX9_clash_24 : decode cX9_clash 24 = .ok (.getfield 46, 3) := by decide +kernel
theorem dX9_clash_27 : decode cX9_clash 27 = .ok (.getfield 113, 3) := by decide +kernel
theorem dX9_clash_30 : decode cX9_clash 30 = .ok (.iload_n 2, 1) := by decide +kernel
theorem dX9_clash_31 : decode cX9_clash 31 = .ok (.iaload, 1) := by decide +kernel
theorem dX9_clash_32 : decode cX9_clash 32 = .ok (.istore_n 3, 1) := by decide +kernel
theorem dX9_clash_33 : decode cX9_clash 33 = .ok (.aload_n 0, 1) := by decide +kernel
theorem dX9_clash_34 : decode cX9_clash 34 = .ok (.getfield 53, 3) := by decide +kernel
theorem dX9_clash_37 : decode cX9_clash 37 = .ok (.iload_n 2, 1) := by decide +kernel
theorem dX9_clash_38 : decode cX9_clash 38 = .ok (.invokevirtual 262, 3) := by decide +kernel
theorem dX9_clash_41 : decode cX9_clash 41 = .ok (.istore 4, 2) := by decide +kernel
theorem dX9_clash_43 : decode cX9_clash 43 = .ok (.iload 4, 2) := by decide +kernel
theorem dX9_clash_45 : decode cX9_clash 45 = .ok (.ifCond .ne 6, 3) := by decide +kernel
theorem dX9_clash_48 : decode cX9_clash 48 = .ok (.goto 33, 3) := by decide +kernel
theorem dX9_clash_51 : decode cX9_clash 51 = .ok (.iload 4, 2) := by decide +kernel
theorem dX9_clash_53 : decode cX9_clash 53 = .ok (.aload_n 0, 1) := by decide +kernel
theorem dX9_clash_54 : decode cX9_clash 54 = .ok (.iload_n 1, 1) := by decide +kernel
theorem dX9_clash_55 : decode cX9_clash 55 = .ok (.iload_n 3, 1) := by decide +kernel
theorem dX9_clash_56 : decode cX9_clash 56 = .ok (.aload_n 0, 1) := by decide +kernel
theorem dX9_clash_57 : decode cX9_clash 57 = .ok (.getfield 46, 3) := by decide +kernel
theorem dX9_clash_60 : decode cX9_clash 60 = .ok (.getfield 162, 3) := by decide +kernel
theorem dX9_clash_63 : decode cX9_clash 63 = .ok (.iload_n 2, 1) := by decide +kernel
theorem dX9_clash_64 : decode cX9_clash 64 = .ok (.iaload, 1) := by decide +kernel
theorem dX9_clash_65 : decode cX9_clash 65 = .ok (.aload_n 0, 1) := by decide +kernel
theorem dX9_clash_66 : decode cX9_clash 66 = .ok (.getfield 22, 3) := by decide +kernel
theorem dX9_clash_69 : decode cX9_clash 69 = .ok (.iload_n 3, 1) := by decide +kernel
theorem dX9_clash_70 : decode cX9_clash 70 = .ok (.invokevirtual 120, 3) := by decide +kernel
theorem dX9_clash_73 : decode cX9_clash 73 = .ok (.invokevirtual 124, 3) := by decide +kernel
theorem dX9_clash_76 : decode cX9_clash 76 = .ok (.if_icmp .gt 5, 3) := by decide +kernel
theorem dX9_clash_79 : decode cX9_clash 79 = .ok (.iload_n 2, 1) := by decide +kernel
theorem dX9_clash_80 : decode cX9_clash 80 = .ok (.ireturn, 1) := by decide +kernel
theorem dX9_clash_81 : decode cX9_clash 81 = .ok (.iinc 1 1, 3) := by decide +kernel
theorem dX9_clash_84 : decode cX9_clash 84 = .ok (.goto (-82), 3) := by decide +kernel
theorem dX9_clash_87 : decode cX9_clash 87 = .ok (.iconst (-1), 1) := by decide +kernel
theorem dX9_clash_88 : decode cX9_clash 88 = .ok (.ireturn, 1) := by decide +kernel
theorem dX9_at_0 : decode cX9_at 0 = .ok (.iload_n 1, 1) := by decide +kernel
theorem dX9_at_1 : decode cX9_at 1 = .ok (.ifCond .lt 14, 3) := by decide +kernel
theorem dX9_at_4 : decode cX9_at 4 = .ok (.iload_n 1, 1) := by decide +kernel
theorem dX9_at_5 : decode cX9_at 5 = .ok (.aload_n 0, 1) := by decide +kernel
theorem dX9_at_6 : decode cX9_at 6 = .ok (.getfield 46, 3) := by decide +kernel
theorem dX9_at_9 : decode cX9_at 9 = .ok (.getfield 108, 3) := by decide +kernel
theorem dX9_at_12 : decode cX9_at 12 = .ok (.if_icmp .lt 7, 3) := by decide +kernel
theorem dX9_at_15 : decode cX9_at 15 = .ok (.iconst (-1), 1) := by decide +kernel
theorem dX9_at_16 : decode cX9_at 16 = .ok (.goto 12, 3) := by decide +kernel
theorem dX9_at_19 : decode cX9_at 19 = .ok (.aload_n 0, 1) := by decide +kernel
theorem dX9_at_20 : decode cX9_at 20 = .ok (.getfield 46, 3) := by decide +kernel
theorem dX9_at_23 : decode cX9_at 23 = .ok (.getfield 159, 3) := by decide +kernel
theorem dX9_at_26 : decode cX9_at 26 = .ok (.iload_n 1, 1) := by decide +kernel
theorem dX9_at_27 : decode cX9_at 27 = .ok (.iaload, 1) := by decide +kernel
theorem dX9_at_28 : decode cX9_at 28 = .ok (.ireturn, 1) := by decide +kernel
theorem dX9_count_0 : decode cX9_count 0 = .ok (.iload_n 1, 1) := by decide +kernel
theorem dX9_count_1 : decode cX9_count 1 = .ok (.tableswitch 96 0 6 #[43, 51, 59, 67, 72, 80, 88], 43) := by decide +kernel
theorem dX9_count_44 : decode cX9_count 44 = .ok (.aload_n 0, 1) := by decide +kernel
theorem dX9_count_45 : decode cX9_count 45 = .ok (.getfield 22, 3) := by decide +kernel
theorem dX9_count_48 : decode cX9_count 48 = .ok (.getfield 71, 3) := by decide +kernel
theorem dX9_count_51 : decode cX9_count 51 = .ok (.ireturn, 1) := by decide +kernel
theorem dX9_count_52 : decode cX9_count 52 = .ok (.aload_n 0, 1) := by decide +kernel
theorem dX9_count_53 : decode cX9_count 53 = .ok (.getfield 46, 3) := by decide +kernel
theorem dX9_count_56 : decode cX9_count 56 = .ok (.getfield 108, 3) := by decide +kernel
theorem dX9_count_59 : decode cX9_count 59 = .ok (.ireturn, 1) := by decide +kernel
theorem dX9_count_60 : decode cX9_count 60 = .ok (.aload_n 0, 1) := by decide +kernel
theorem dX9_count_61 : decode cX9_count 61 = .ok (.getfield 46, 3) := by decide +kernel
theorem dX9_count_64 : decode cX9_count 64 = .ok (.getfield 265, 3) := by decide +kernel
theorem dX9_count_67 : decode cX9_count 67 = .ok (.ireturn, 1) := by decide +kernel
theorem dX9_count_68 : decode cX9_count 68 = .ok (.aload_n 0, 1) := by decide +kernel
theorem dX9_count_69 : decode cX9_count 69 = .ok (.getfield 105, 3) := by decide +kernel
theorem dX9_count_72 : decode cX9_count 72 = .ok (.ireturn, 1) := by decide +kernel
theorem dX9_count_73 : decode cX9_count 73 = .ok (.aload_n 0, 1) := by decide +kernel
theorem dX9_count_74 : decode cX9_count 74 = .ok (.getfield 60, 3) := by decide +kernel
theorem dX9_count_77 : decode cX9_count 77 = .ok (.getfield 268, 3) := by decide +kernel
theorem dX9_count_80 : decode cX9_count 80 = .ok (.ireturn, 1) := by decide +kernel
theorem dX9_count_81 : decode cX9_count 81 = .ok (.aload_n 0, 1) := by decide +kernel
theorem dX9_count_82 : decode cX9_count 82 = .ok (.getfield 16, 3) := by decide +kernel
theorem dX9_count_85 : decode cX9_count 85 = .ok (.getfield 78, 3) := by decide +kernel
theorem dX9_count_88 : decode cX9_count 88 = .ok (.ireturn, 1) := by decide +kernel
theorem dX9_count_89 : decode cX9_count 89 = .ok (.aload_n 0, 1) := by decide +kernel
theorem dX9_count_90 : decode cX9_count 90 = .ok (.getfield 10, 3) := by decide +kernel
theorem dX9_count_93 : decode cX9_count 93 = .ok (.getfield 78, 3) := by decide +kernel
theorem dX9_count_96 : decode cX9_count 96 = .ok (.ireturn, 1) := by decide +kernel
theorem dX9_count_97 : decode cX9_count 97 = .ok (.iconst (-1), 1) := by decide +kernel
theorem dX9_count_98 : decode cX9_count 98 = .ok (.ireturn, 1) := by decide +kernel
set_option maxRecDepth 20000 in
theorem ggX9_isPlaceTold_X3_has : GoodIn wsX9_isPlaceTold wsX3_has := goodIn_r _ [10, 11, 27, 28, 29, 30, 31, 32, 33] (by decide +kernel) (by decide +kernel)
set_option maxRecDepth 20000 in
theorem gX9_isPlaceTold_X3_has : GoodIn wsX9_isPlaceTold (wsV RX9 148 RX3 yX3_has wsX3_has) := goodIn_app (goodIn_of _ (by decide +kernel)) ggX9_isPlaceTold_X3_has
theorem dX9_isPlaceTold_0 : decode cX9_isPlaceTold 0 = .ok (.iload_n 1, 1) := by decide +kernel
theorem dX9_isPlaceTold_1 : decode cX9_isPlaceTold 1 = .ok (.iconst (-1), 1) := by decide +kernel
theorem dX9_isPlaceTold_2 : decode cX9_isPlaceTold 2 = .ok (.if_icmp .eq 37, 3) := by decide +kernel
theorem dX9_isPlaceTold_5 : decode cX9_isPlaceTold 5 = .ok (.aload_n 0, 1) := by decide +kernel
theorem dX9_isPlaceTold_6 : decode cX9_isPlaceTold 6 = .ok (.getfield 46, 3) := by decide +kernel
theorem dX9_isPlaceTold_9 : decode cX9_isPlaceTold 9 = .ok (.iload_n 1, 1) := by decide +kernel
theorem dX9_isPlaceTold_10 : decode cX9_isPlaceTold 10 = .ok (.invokevirtual 148, 3) := by decide +kernel
theorem dX9_isPlaceTold_13 : decode cX9_isPlaceTold 13 = .ok (.ifCond .eq 24, 3) := by decide +kernel
theorem dX9_isPlaceTold_16 : decode cX9_isPlaceTold 16 = .ok (.aload_n 0, 1) := by decide +kernel
theorem dX9_isPlaceTold_17 : decode cX9_isPlaceTold 17 = .ok (.getfield 46, 3) := by decide +kernel
theorem dX9_isPlaceTold_20 : decode cX9_isPlaceTold 20 = .ok (.getfield 113, 3) := by decide +kernel
theorem dX9_isPlaceTold_23 : decode cX9_isPlaceTold 23 = .ok (.iload_n 1, 1) := by decide +kernel
theorem dX9_isPlaceTold_24 : decode cX9_isPlaceTold 24 = .ok (.iaload, 1) := by decide +kernel
theorem dX9_isPlaceTold_25 : decode cX9_isPlaceTold 25 = .ok (.iconst 1, 1) := by decide +kernel
theorem dX9_isPlaceTold_26 : decode cX9_isPlaceTold 26 = .ok (.iadd, 1) := by decide +kernel
theorem dX9_isPlaceTold_27 : decode cX9_isPlaceTold 27 = .ok (.aload_n 0, 1) := by decide +kernel
theorem dX9_isPlaceTold_28 : decode cX9_isPlaceTold 28 = .ok (.getfield 22, 3) := by decide +kernel
theorem dX9_isPlaceTold_31 : decode cX9_isPlaceTold 31 = .ok (.getfield 71, 3) := by decide +kernel
theorem dX9_isPlaceTold_34 : decode cX9_isPlaceTold 34 = .ok (.if_icmp .lt 5, 3) := by decide +kernel
theorem dX9_isPlaceTold_37 : decode cX9_isPlaceTold 37 = .ok (.iconst 0, 1) := by decide +kernel
theorem dX9_isPlaceTold_38 : decode cX9_isPlaceTold 38 = .ok (.ireturn, 1) := by decide +kernel
theorem dX9_isPlaceTold_39 : decode cX9_isPlaceTold 39 = .ok (.iload_n 2, 1) := by decide +kernel
theorem dX9_isPlaceTold_40 : decode cX9_isPlaceTold 40 = .ok (.iconst (-1), 1) := by decide +kernel
theorem dX9_isPlaceTold_41 : decode cX9_isPlaceTold 41 = .ok (.if_icmp .eq 27, 3) := by decide +kernel
theorem dX9_isPlaceTold_44 : decode cX9_isPlaceTold 44 = .ok (.aload_n 0, 1) := by decide +kernel
theorem dX9_isPlaceTold_45 : decode cX9_isPlaceTold 45 = .ok (.getfield 46, 3) := by decide +kernel
theorem dX9_isPlaceTold_48 : decode cX9_isPlaceTold 48 = .ok (.iload_n 2, 1) := by decide +kernel
theorem dX9_isPlaceTold_49 : decode cX9_isPlaceTold 49 = .ok (.invokevirtual 148, 3) := by decide +kernel
theorem dX9_isPlaceTold_52 : decode cX9_isPlaceTold 52 = .ok (.ifCond .eq 20, 3) := by decide +kernel
theorem dX9_isPlaceTold_55 : decode cX9_isPlaceTold 55 = .ok (.aload_n 0, 1) := by decide +kernel
theorem dX9_isPlaceTold_56 : decode cX9_isPlaceTold 56 = .ok (.getfield 46, 3) := by decide +kernel
theorem dX9_isPlaceTold_59 : decode cX9_isPlaceTold 59 = .ok (.getfield 162, 3) := by decide +kernel
theorem dX9_isPlaceTold_62 : decode cX9_isPlaceTold 62 = .ok (.iload_n 2, 1) := by decide +kernel
theorem dX9_isPlaceTold_63 : decode cX9_isPlaceTold 63 = .ok (.iaload, 1) := by decide +kernel
theorem dX9_isPlaceTold_64 : decode cX9_isPlaceTold 64 = .ok (.iload_n 1, 1) := by decide +kernel
theorem dX9_isPlaceTold_65 : decode cX9_isPlaceTold 65 = .ok (.if_icmp .ne 7, 3) := by decide +kernel
theorem dX9_isPlaceTold_68 : decode cX9_isPlaceTold 68 = .ok (.iconst 1, 1) := by decide +kernel
theorem dX9_isPlaceTold_69 : decode cX9_isPlaceTold 69 = .ok (.goto 4, 3) := by decide +kernel
theorem dX9_isPlaceTold_72 : decode cX9_isPlaceTold 72 = .ok (.iconst 0, 1) := by decide +kernel
theorem dX9_isPlaceTold_73 : decode cX9_isPlaceTold 73 = .ok (.ireturn, 1) := by decide +kernel
set_option maxRecDepth 20000 in
theorem ggX9_placeOfNew_X3_placeBehind : GoodIn wsX9_placeOfNew wsX3_placeBehind := goodIn_r _ [6, 7, 8, 9, 10, 11, 12, 5, 13, 30, 31, 32, 33, 34, 35, 36] (by decide +kernel) (by decide +kernel)
set_option maxRecDepth 20000 in
theorem gX9_placeOfNew_X3_placeBehind : GoodIn wsX9_placeOfNew (wsV RX9 269 RX3 yX3_placeBehind wsX3_placeBehind) := goodIn_app (goodIn_of _ (by decide +kernel)) ggX9_placeOfNew_X3_placeBehind
set_option maxRecDepth 20000 in
theorem ggX9_placeOfNew_X3_placeOf : GoodIn wsX9_placeOfNew wsX3_placeOf := goodIn_r _ [13, 7, 9, 30, 31, 32, 33, 34, 35, 36] (by decide +kernel) (by decide +kernel)
set_option maxRecDepth 20000 in
theorem gX9_placeOfNew_X3_placeOf : GoodIn wsX9_placeOfNew (wsV RX9 206 RX3 yX3_placeOf wsX3_placeOf) := goodIn_app (goodIn_of _ (by decide +kernel)) ggX9_placeOfNew_X3_placeOf
theorem dX9_placeOfNew_0 : decode cX9_placeOfNew 0 = .ok (.iload_n 2, 1) := by decide +kernel
theorem dX9_placeOfNew_1 : decode cX9_placeOfNew 1 = .ok (.iconst (-1), 1) := by decide +kernel
theorem dX9_placeOfNew_2 : decode cX9_placeOfNew 2 = .ok (.if_icmp .eq 12, 3) := by decide +kernel
theorem dX9_placeOfNew_5 : decode cX9_placeOfNew 5 = .ok (.aload_n 0, 1) := by decide +kernel
theorem dX9_placeOfNew_6 : decode cX9_placeOfNew 6 = .ok (.getfield 46, 3) := by decide +kernel
theorem dX9_placeOfNew_9 : decode cX9_placeOfNew 9 = .ok (.iload_n 2, 1) := by decide +kernel
theorem dX9_placeOfNew_10 : decode cX9_placeOfNew 10 = .ok (.invokevirtual 269, 3) := by decide +kernel
theorem dX9_placeOfNew_13 : decode cX9_placeOfNew 13 = .ok (.ireturn, 1) := by decide +kernel
theorem dX9_placeOfNew_14 : decode cX9_placeOfNew 14 = .ok (.iload_n 1, 1) := by decide +kernel
theorem dX9_placeOfNew_15 : decode cX9_placeOfNew 15 = .ok (.iconst (-1), 1) := by decide +kernel
theorem dX9_placeOfNew_16 : decode cX9_placeOfNew 16 = .ok (.if_icmp .ne 7, 3) := by decide +kernel
theorem dX9_placeOfNew_19 : decode cX9_placeOfNew 19 = .ok (.iconst 0, 1) := by decide +kernel
theorem dX9_placeOfNew_20 : decode cX9_placeOfNew 20 = .ok (.goto 13, 3) := by decide +kernel
theorem dX9_placeOfNew_23 : decode cX9_placeOfNew 23 = .ok (.aload_n 0, 1) := by decide +kernel
theorem dX9_placeOfNew_24 : decode cX9_placeOfNew 24 = .ok (.getfield 46, 3) := by decide +kernel
theorem dX9_placeOfNew_27 : decode cX9_placeOfNew 27 = .ok (.iload_n 1, 1) := by decide +kernel
theorem dX9_placeOfNew_28 : decode cX9_placeOfNew 28 = .ok (.invokevirtual 206, 3) := by decide +kernel
theorem dX9_placeOfNew_31 : decode cX9_placeOfNew 31 = .ok (.iconst 1, 1) := by decide +kernel
theorem dX9_placeOfNew_32 : decode cX9_placeOfNew 32 = .ok (.iadd, 1) := by decide +kernel
theorem dX9_placeOfNew_33 : decode cX9_placeOfNew 33 = .ok (.ireturn, 1) := by decide +kernel
set_option maxRecDepth 20000 in
theorem ggX9_labelAhead_X3_isInRow : GoodIn wsX9_labelAhead wsX3_isInRow := goodIn_r _ [8, 9, 10, 11, 12, 13, 7, 14, 15, 38, 39, 40, 41, 42, 43, 44] (by decide +kernel) (by decide +kernel)
set_option maxRecDepth 20000 in
theorem gX9_labelAhead_X3_isInRow : GoodIn wsX9_labelAhead (wsV RX9 165 RX3 yX3_isInRow wsX3_isInRow) := goodIn_app (goodIn_of _ (by decide +kernel)) ggX9_labelAhead_X3_isInRow
set_option maxRecDepth 20000 in
theorem ggX9_labelAhead_X2_latest : GoodIn wsX9_labelAhead wsX2_latest := goodIn_r _ [20, 21, 22, 45, 46, 47, 48, 49, 50] (by decide +kernel) (by decide +kernel)
set_option maxRecDepth 20000 in
theorem gX9_labelAhead_X2_latest : GoodIn wsX9_labelAhead (wsV RX9 262 RX2 yX2_latest wsX2_latest) := goodIn_app (goodIn_of _ (by decide +kernel)) ggX9_labelAhead_X2_latest
theorem dX9_labelAhead_0 : decode cX9_labelAhead 0 = .ok (.iload_n 1, 1) := by decide +kernel
theorem dX9_labelAhead_1 : decode cX9_labelAhead 1 = .ok (.iconst 1, 1) := by decide +kernel
theorem dX9_labelAhead_2 : decode cX9_labelAhead 2 = .ok (.isub, 1) := by decide +kernel
theorem dX9_labelAhead_3 : decode cX9_labelAhead 3 = .ok (.istore 5, 2) := by decide +kernel
theorem dX9_labelAhead_5 : decode cX9_labelAhead 5 = .ok (.iload 5, 2) := by decide +kernel
theorem dX9_labelAhead_7 : decode cX9_labelAhead 7 = .ok (.ifCond .lt 59, 3) := by decide +kernel
theorem dX9_labelAhead_10 : decode cX9_labelAhead 10 = .ok (.aload_n 0, 1) := by decide +kernel
theorem dX9_labelAhead_11 : decode cX9_labelAhead 11 = .ok (.getfield 46, 3) := by decide +kernel
theorem dX9_labelAhead_14 : decode cX9_labelAhead 14 = .ok (.getfield 159, 3) := by decide +kernel
theorem dX9_labelAhead_17 : decode cX9_labelAhead 17 = .ok (.iload 5, 2) := by decide +kernel
theorem dX9_labelAhead_19 : decode cX9_labelAhead 19 = .ok (.iaload, 1) := by decide +kernel
theorem dX9_labelAhead_20 : decode cX9_labelAhead 20 = .ok (.istore 6, 2) := by decide +kernel
theorem dX9_labelAhead_22 : decode cX9_labelAhead 22 = .ok (.aload_n 0, 1) := by decide +kernel
theorem dX9_labelAhead_23 : decode cX9_labelAhead 23 = .ok (.getfield 46, 3) := by decide +kernel
theorem dX9_labelAhead_26 : decode cX9_labelAhead 26 = .ok (.iload 6, 2) := by decide +kernel
theorem dX9_labelAhead_28 : decode cX9_labelAhead 28 = .ok (.iload_n 2, 1) := by decide +kernel
theorem dX9_labelAhead_29 : decode cX9_labelAhead 29 = .ok (.iload_n 3, 1) := by decide +kernel
theorem dX9_labelAhead_30 : decode cX9_labelAhead 30 = .ok (.iload 4, 2) := by decide +kernel
theorem dX9_labelAhead_32 : decode cX9_labelAhead 32 = .ok (.invokevirtual 165, 3) := by decide +kernel
theorem dX9_labelAhead_35 : decode cX9_labelAhead 35 = .ok (.ifCond .eq 25, 3) := by decide +kernel
theorem dX9_labelAhead_38 : decode cX9_labelAhead 38 = .ok (.aload_n 0, 1) := by decide +kernel
theorem dX9_labelAhead_39 : decode cX9_labelAhead 39 = .ok (.getfield 53, 3) := by decide +kernel
theorem dX9_labelAhead_42 : decode cX9_labelAhead 42 = .ok (.iload 6, 2) := by decide +kernel
theorem dX9_labelAhead_44 : decode cX9_labelAhead 44 = .ok (.invokevirtual 262, 3) := by decide +kernel
theorem dX9_labelAhead_47 : decode cX9_labelAhead 47 = .ok (.ifCond .eq 13, 3) := by decide +kernel
theorem dX9_labelAhead_50 : decode cX9_labelAhead 50 = .ok (.aload_n 0, 1) := by decide +kernel
theorem dX9_labelAhead_51 : decode cX9_labelAhead 51 = .ok (.getfield 53, 3) := by decide +kernel
theorem dX9_labelAhead_54 : decode cX9_labelAhead 54 = .ok (.iload 6, 2) := by decide +kernel
theorem dX9_labelAhead_56 : decode cX9_labelAhead 56 = .ok (.invokevirtual 262, 3) := by decide +kernel
theorem dX9_labelAhead_59 : decode cX9_labelAhead 59 = .ok (.ireturn, 1) := by decide +kernel
theorem dX9_labelAhead_60 : decode cX9_labelAhead 60 = .ok (.iinc 5 (-1), 3) := by decide +kernel
theorem dX9_labelAhead_63 : decode cX9_labelAhead 63 = .ok (.goto (-58), 3) := by decide +kernel
theorem dX9_labelAhead_66 : decode cX9_labelAhead 66 = .ok (.iconst 0, 1) := by decide +kernel
theorem dX9_labelAhead_67 : decode cX9_labelAhead 67 = .ok (.ireturn, 1) := by decide +kernel
set_option maxRecDepth 20000 in
theorem ggX9_labelFrom_X3_isInRow : GoodIn wsX9_labelFrom wsX3_isInRow := goodIn_r _ [9, 10, 11, 12, 13, 14, 8, 15, 16, 39, 40, 41, 42, 43, 44, 45] (by decide +kernel) (by decide +kernel)
set_option maxRecDepth 20000 in
theorem gX9_labelFrom_X3_isInRow : GoodIn wsX9_labelFrom (wsV RX9 165 RX3 yX3_isInRow wsX3_isInRow) := goodIn_app (goodIn_of _ (by decide +kernel)) ggX9_labelFrom_X3_isInRow
set_option maxRecDepth 20000 in
theorem ggX9_labelFrom_X2_latest : GoodIn wsX9_labelFrom wsX2_latest := goodIn_r _ [21, 22, 23, 46, 47, 48, 49, 50, 51] (by decide +kernel) (by decide +kernel)
set_option maxRecDepth 20000 in
theorem gX9_labelFrom_X2_latest : GoodIn wsX9_labelFrom (wsV RX9 262 RX2 yX2_latest wsX2_latest) := goodIn_app (goodIn_of _ (by decide +kernel)) ggX9_labelFrom_X2_latest
theorem dX9_labelFrom_0 : decode cX9_labelFrom 0 = .ok (.iload_n 1, 1) := by decide +kernel
theorem dX9_labelFrom_1 : decode cX9_labelFrom 1 = .ok (.istore 5, 2) := by decide +kernel
theorem dX9_labelFrom_3 : decode cX9_labelFrom 3 = .ok (.iload 5, 2) := by decide +kernel
theorem dX9_labelFrom_5 : decode cX9_labelFrom 5 = .ok (.aload_n 0, 1) := by decide +kernel
theorem dX9_labelFrom_6 : decode cX9_labelFrom 6 = .ok (.getfield 46, 3) := by decide +kernel
theorem dX9_labelFrom_9 : decode cX9_labelFrom 9 = .ok (.getfield 108, 3) := by decide +kernel
theorem dX9_labelFrom_12 : decode cX9_labelFrom 12 = .ok (.if_icmp .ge 59, 3) := by decide +kernel
theorem dX9_labelFrom_15 : decode cX9_labelFrom 15 = .ok (.aload_n 0, 1) := by decide +kernel
theorem dX9_labelFrom_16 : decode cX9_labelFrom 16 = .ok (.getfield 46, 3) := by decide +kernel
theorem dX9_labelFrom_19 : decode cX9_labelFrom 19 = .ok (.getfield 159, 3) := by decide +kernel
theorem dX9_labelFrom_22 : decode cX9_labelFrom 22 = .ok (.iload 5, 2) := by decide +kernel
theorem dX9_labelFrom_24 : decode cX9_labelFrom 24 = .ok (.iaload, 1) := by decide +kernel
theorem dX9_labelFrom_25 : decode cX9_labelFrom 25 = .ok (.istore 6, 2) := by decide +kernel
theorem dX9_labelFrom_27 : decode cX9_labelFrom 27 = .ok (.aload_n 0, 1) := by decide +kernel
theorem dX9_labelFrom_28 : decode cX9_labelFrom 28 = .ok (.getfield 46, 3) := by decide +kernel
theorem dX9_labelFrom_31 : decode cX9_labelFrom 31 = .ok (.iload 6, 2) := by decide +kernel
theorem dX9_labelFrom_33 : decode cX9_labelFrom 33 = .ok (.iload_n 2, 1) := by decide +kernel
theorem dX9_labelFrom_34 : decode cX9_labelFrom 34 = .ok (.iload_n 3, 1) := by decide +kernel
theorem dX9_labelFrom_35 : decode cX9_labelFrom 35 = .ok (.iload 4, 2) := by decide +kernel
theorem dX9_labelFrom_37 : decode cX9_labelFrom 37 = .ok (.invokevirtual 165, 3) := by decide +kernel
theorem dX9_labelFrom_40 : decode cX9_labelFrom 40 = .ok (.ifCond .eq 25, 3) := by decide +kernel
theorem dX9_labelFrom_43 : decode cX9_labelFrom 43 = .ok (.aload_n 0, 1) := by decide +kernel
theorem dX9_labelFrom_44 : decode cX9_labelFrom 44 = .ok (.getfield 53, 3) := by decide +kernel
theorem dX9_labelFrom_47 : decode cX9_labelFrom 47 = .ok (.iload 6, 2) := by decide +kernel
theorem dX9_labelFrom_49 : decode cX9_labelFrom 49 = .ok (.invokevirtual 262, 3) := by decide +kernel
theorem dX9_labelFrom_52 : decode cX9_labelFrom 52 = .ok (.ifCond .eq 13, 3) := by decide +kernel
theorem dX9_labelFrom_55 : decode cX9_labelFrom 55 = .ok (.aload_n 0, 1) := by decide +kernel
theorem dX9_labelFrom_56 : decode cX9_labelFrom 56 = .ok (.getfield 53, 3) := by decide +kernel
theorem dX9_labelFrom_59 : decode cX9_labelFrom 59 = .ok (.iload 6, 2) := by decide +kernel
theorem dX9_labelFrom_61 : decode cX9_labelFrom 61 = .ok (.invokevirtual 262, 3) := by decide +kernel
theorem dX9_labelFrom_64 : decode cX9_labelFrom 64 = .ok (.ireturn, 1) := by decide +kernel
theorem dX9_labelFrom_65 : decode cX9_labelFrom 65 = .ok (.iinc 5 1, 3) := by decide +kernel
theorem dX9_labelFrom_68 : decode cX9_labelFrom 68 = .ok (.goto (-65), 3) := by decide +kernel
theorem dX9_labelFrom_71 : decode cX9_labelFrom 71 = .ok (.iconst 0, 1) := by decide +kernel
theorem dX9_labelFrom_72 : decode cX9_labelFrom 72 = .ok (.ireturn, 1) := by decide +kernel
set_option maxRecDepth 20000 in
theorem ggX9_readCitation_X6_formOf : GoodIn wsX9_readCitation wsX6_formOf := goodIn_r _ [17, 18, 19, 133, 134, 135] (by decide +kernel) (by decide +kernel)
set_option maxRecDepth 20000 in
theorem gX9_readCitation_X6_formOf : GoodIn wsX9_readCitation (wsV RX9 217 RX6 yX6_formOf wsX6_formOf) := goodIn_app (goodIn_of _ (by decide +kernel)) ggX9_readCitation_X6_formOf
set_option maxRecDepth 20000 in
theorem ggX9_readCitation_X4_readAt : GoodIn wsX9_readCitation wsX4_readAt := goodIn_r _ [24, 25, 26, 27, 28, 29, 30, 23, 31, 32, 33, 34, 35, 36, 37, 38, 39, 40, 41, 42, 43, 44, 45, 46, 47, 48, 49, 50, 51, 52, 53, 54, 55, 56, 57, 58, 59, 60, 61, 62, 63, 64, 65, 66, 67, 68, 69, 70, 71, 72, 73, 74, 75, 76, 77, 78, 79, 80, 81, 82, 83, 84, 85, 86, 87, 88, 89, 90, 91, 92, 93, 94, 95, 96, 97, 98, 99, 100, 101, 102, 103, 104, 105, 106, 107, 108, 109, 110, 111, 112, 113, 114, 115, 116, 136, 137, 138, 139, 140, 141, 142] (by decide +kernel) (by decide +kernel)
set_option maxRecDepth 20000 in
theorem gX9_readCitation_X4_readAt : GoodIn wsX9_readCitation (wsV RX9 243 RX4 yX4_readAt wsX4_readAt) := goodIn_app (goodIn_of _ (by decide +kernel)) ggX9_readCitation_X4_readAt
set_option maxRecDepth 20000 in
theorem ggX9_readCitation_X8_byteAt : GoodIn wsX9_readCitation wsX8_byteAt := goodIn_r _ [37, 38, 39, 141, 142] (by decide +kernel) (by decide +kernel)
set_option maxRecDepth 20000 in
theorem gX9_readCitation_X8_byteAt : GoodIn wsX9_readCitation (wsV RX9 231 RX8 yX8_byteAt wsX8_byteAt) := goodIn_app (goodIn_of _ (by decide +kernel)) ggX9_readCitation_X8_byteAt
theorem dX9_readCitation_0 : decode cX9_readCitation 0 = .ok (.iconst 0, 1) := by decide +kernel
theorem dX9_readCitation_1 : decode cX9_readCitation 1 = .ok (.istore_n 1, 1) := by decide +kernel
theorem dX9_readCitation_2 : decode cX9_readCitation 2 = .ok (.iconst 0, 1) := by decide +kernel
theorem dX9_readCitation_3 : decode cX9_readCitation 3 = .ok (.istore_n 2, 1) := by decide +kernel
theorem dX9_readCitation_4 : decode cX9_readCitation 4 = .ok (.iload_n 2, 1) := by decide +kernel
theorem dX9_readCitation_5 : decode cX9_readCitation 5 = .ok (.aload_n 0, 1) := by decide +kernel
theorem dX9_readCitation_6 : decode cX9_readCitation 6 = .ok (.getfield 22, 3) := by decide +kernel
theorem dX9_readCitation_9 : decode cX9_readCitation 9 = .ok (.getfield 71, 3) := by decide +kernel
