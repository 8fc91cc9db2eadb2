theorem dX10_error_103 : decode cX10_error 103 = .ok (.bipush 64, 2) := by decide +kernel
theorem dX10_error_105 : decode cX10_error 105 = .ok (.isub, 1) := by decide +kernel
theorem dX10_error_106 : decode cX10_error 106 = .ok (.iastore, 1) := by decide +kernel
theorem dX10_error_107 : decode cX10_error 107 = .ok (.iinc 4 1, 3) := by decide +kernel
theorem dX10_error_110 : decode cX10_error 110 = .ok (.iinc 5 (-8), 3) := by decide +kernel
theorem dX10_error_113 : decode cX10_error 113 = .ok (.goto (-56), 3) := by decide +kernel
theorem dX10_error_116 : decode cX10_error 116 = .ok (.aload_n 0, 1) := by decide +kernel
theorem dX10_error_117 : decode cX10_error 117 = .ok (.iconst 3, 1) := by decide +kernel
theorem dX10_error_118 : decode cX10_error 118 = .ok (.iload_n 1, 1) := by decide +kernel
theorem dX10_error_119 : decode cX10_error 119 = .ok (.invokevirtual 199, 3) := by decide +kernel
theorem dX10_error_122 : decode cX10_error 122 = .ok (.aload_n 0, 1) := by decide +kernel
theorem dX10_error_123 : decode cX10_error 123 = .ok (.iload_n 1, 1) := by decide +kernel
theorem dX10_error_124 : decode cX10_error 124 = .ok (.iload_n 2, 1) := by decide +kernel
theorem dX10_error_125 : decode cX10_error 125 = .ok (.ldc 173, 2) := by decide +kernel
theorem dX10_error_127 : decode cX10_error 127 = .ok (.imul, 1) := by decide +kernel
theorem dX10_error_128 : decode cX10_error 128 = .ok (.aload_n 0, 1) := by decide +kernel
theorem dX10_error_129 : decode cX10_error 129 = .ok (.invokevirtual 178, 3) := by decide +kernel
theorem dX10_error_132 : decode cX10_error 132 = .ok (.iadd, 1) := by decide +kernel
theorem dX10_error_133 : decode cX10_error 133 = .ok (.invokevirtual 203, 3) := by decide +kernel
theorem dX10_error_136 : decode cX10_error 136 = .ok (.iconst 1, 1) := by decide +kernel
theorem dX10_error_137 : decode cX10_error 137 = .ok (.ireturn, 1) := by decide +kernel
set_option maxRecDepth 20000 in
theorem ggX10_undo_X10_placeOf : GoodIn wsX10_undo wsX10_placeOf := goodIn_r _ [14, 9, 15, 16, 17, 18, 19, 20, 21, 22, 23, 24, 25, 26, 27, 28, 29, 30, 31, 32, 33, 34, 35, 36, 37, 38, 39, 40, 41, 42, 43, 44, 45, 46, 47, 48, 49, 50, 51, 52, 53, 54, 55, 56] (by decide +kernel) (by decide +kernel)
set_option maxRecDepth 20000 in
theorem gX10_undo_X10_placeOf : GoodIn wsX10_undo (wsV RX10 184 RX10 yX10_placeOf wsX10_placeOf) := goodIn_app (goodIn_of _ (by decide +kernel)) ggX10_undo_X10_placeOf
theorem dX10_undo_0 : decode cX10_undo 0 = .ok (.aload_n 0, 1) := by decide +kernel
theorem dX10_undo_1 : decode cX10_undo 1 = .ok (.iconst 0, 1) := by decide +kernel
theorem dX10_undo_2 : decode cX10_undo 2 = .ok (.putfield 86, 3) := by decide +kernel
theorem dX10_undo_5 : decode cX10_undo 5 = .ok (.aload_n 0, 1) := by decide +kernel
theorem dX10_undo_6 : decode cX10_undo 6 = .ok (.getfield 163, 3) := by decide +kernel
theorem dX10_undo_9 : decode cX10_undo 9 = .ok (.ifCond .ne 5, 3) := by decide +kernel
theorem dX10_undo_12 : decode cX10_undo 12 = .ok (.iconst 0, 1) := by decide +kernel
theorem dX10_undo_13 : decode cX10_undo 13 = .ok (.ireturn, 1) := by decide +kernel
theorem dX10_undo_14 : decode cX10_undo 14 = .ok (.aload_n 0, 1) := by decide +kernel
theorem dX10_undo_15 : decode cX10_undo 15 = .ok (.dup, 1) := by decide +kernel
theorem dX10_undo_16 : decode cX10_undo 16 = .ok (.getfield 163, 3) := by decide +kernel
theorem dX10_undo_19 : decode cX10_undo 19 = .ok (.iconst 1, 1) := by decide +kernel
theorem dX10_undo_20 : decode cX10_undo 20 = .ok (.isub, 1) := by decide +kernel
theorem dX10_undo_21 : decode cX10_undo 21 = .ok (.putfield 163, 3) := by decide +kernel
theorem dX10_undo_24 : decode cX10_undo 24 = .ok (.aload_n 0, 1) := by decide +kernel
theorem dX10_undo_25 : decode cX10_undo 25 = .ok (.aload_n 0, 1) := by decide +kernel
theorem dX10_undo_26 : decode cX10_undo 26 = .ok (.getfield 65, 3) := by decide +kernel
theorem dX10_undo_29 : decode cX10_undo 29 = .ok (.aload_n 0, 1) := by decide +kernel
theorem dX10_undo_30 : decode cX10_undo 30 = .ok (.getfield 163, 3) := by decide +kernel
theorem dX10_undo_33 : decode cX10_undo 33 = .ok (.iaload, 1) := by decide +kernel
theorem dX10_undo_34 : decode cX10_undo 34 = .ok (.putfield 160, 3) := by decide +kernel
theorem dX10_undo_37 : decode cX10_undo 37 = .ok (.aload_n 0, 1) := by decide +kernel
theorem dX10_undo_38 : decode cX10_undo 38 = .ok (.getfield 62, 3) := by decide +kernel
theorem dX10_undo_41 : decode cX10_undo 41 = .ok (.aload_n 0, 1) := by decide +kernel
theorem dX10_undo_42 : decode cX10_undo 42 = .ok (.getfield 163, 3) := by decide +kernel
theorem dX10_undo_45 : decode cX10_undo 45 = .ok (.iaload, 1) := by decide +kernel
theorem dX10_undo_46 : decode cX10_undo 46 = .ok (.istore_n 1, 1) := by decide +kernel
theorem dX10_undo_47 : decode cX10_undo 47 = .ok (.aload_n 0, 1) := by decide +kernel
theorem dX10_undo_48 : decode cX10_undo 48 = .ok (.getfield 59, 3) := by decide +kernel
theorem dX10_undo_51 : decode cX10_undo 51 = .ok (.aload_n 0, 1) := by decide +kernel
theorem dX10_undo_52 : decode cX10_undo 52 = .ok (.getfield 163, 3) := by decide +kernel
theorem dX10_undo_55 : decode cX10_undo 55 = .ok (.iaload, 1) := by decide +kernel
theorem dX10_undo_56 : decode cX10_undo 56 = .ok (.iconst 1, 1) := by decide +kernel
theorem dX10_undo_57 : decode cX10_undo 57 = .ok (.if_icmp .ne 10, 3) := by decide +kernel
theorem dX10_undo_60 : decode cX10_undo 60 = .ok (.aload_n 0, 1) := by decide +kernel
theorem dX10_undo_61 : decode cX10_undo 61 = .ok (.getfield 46, 3) := by decide +kernel
theorem dX10_undo_64 : decode cX10_undo 64 = .ok (.iload_n 1, 1) := by decide +kernel
theorem dX10_undo_65 : decode cX10_undo 65 = .ok (.iconst 0, 1) := by decide +kernel
theorem dX10_undo_66 : decode cX10_undo 66 = .ok (.bastore, 1) := by decide +kernel
theorem dX10_undo_67 : decode cX10_undo 67 = .ok (.aload_n 0, 1) := by decide +kernel
theorem dX10_undo_68 : decode cX10_undo 68 = .ok (.getfield 59, 3) := by decide +kernel
theorem dX10_undo_71 : decode cX10_undo 71 = .ok (.aload_n 0, 1) := by decide +kernel
theorem dX10_undo_72 : decode cX10_undo 72 = .ok (.getfield 163, 3) := by decide +kernel
theorem dX10_undo_75 : decode cX10_undo 75 = .ok (.iaload, 1) := by decide +kernel
theorem dX10_undo_76 : decode cX10_undo 76 = .ok (.ifCond .eq 5, 3) := by decide +kernel
theorem dX10_undo_79 : decode cX10_undo 79 = .ok (.iconst 1, 1) := by decide +kernel
theorem dX10_undo_80 : decode cX10_undo 80 = .ok (.ireturn, 1) := by decide +kernel
theorem dX10_undo_81 : decode cX10_undo 81 = .ok (.aload_n 0, 1) := by decide +kernel
theorem dX10_undo_82 : decode cX10_undo 82 = .ok (.iload_n 1, 1) := by decide +kernel
theorem dX10_undo_83 : decode cX10_undo 83 = .ok (.invokevirtual 184, 3) := by decide +kernel
theorem dX10_undo_86 : decode cX10_undo 86 = .ok (.istore_n 2, 1) := by decide +kernel
theorem dX10_undo_87 : decode cX10_undo 87 = .ok (.aload_n 0, 1) := by decide +kernel
theorem dX10_undo_88 : decode cX10_undo 88 = .ok (.dup, 1) := by decide +kernel
theorem dX10_undo_89 : decode cX10_undo 89 = .ok (.getfield 157, 3) := by decide +kernel
theorem dX10_undo_92 : decode cX10_undo 92 = .ok (.iconst 1, 1) := by decide +kernel
theorem dX10_undo_93 : decode cX10_undo 93 = .ok (.isub, 1) := by decide +kernel
theorem dX10_undo_94 : decode cX10_undo 94 = .ok (.putfield 157, 3) := by decide +kernel
theorem dX10_undo_97 : decode cX10_undo 97 = .ok (.iload_n 2, 1) := by decide +kernel
theorem dX10_undo_98 : decode cX10_undo 98 = .ok (.istore_n 3, 1) := by decide +kernel
theorem dX10_undo_99 : decode cX10_undo 99 = .ok (.iload_n 3, 1) := by decide +kernel
theorem dX10_undo_100 : decode cX10_undo 100 = .ok (.aload_n 0, 1) := by decide +kernel
theorem dX10_undo_101 : decode cX10_undo 101 = .ok (.getfield 157, 3) := by decide +kernel
theorem dX10_undo_104 : decode cX10_undo 104 = .ok (.if_icmp .ge 23, 3) := by decide +kernel
theorem dX10_undo_107 : decode cX10_undo 107 = .ok (.aload_n 0, 1) := by decide +kernel
theorem dX10_undo_108 : decode cX10_undo 108 = .ok (.getfield 43, 3) := by decide +kernel
theorem dX10_undo_111 : decode cX10_undo 111 = .ok (.iload_n 3, 1) := by decide +kernel
theorem dX10_undo_112 : decode cX10_undo 112 = .ok (.aload_n 0, 1) := by decide +kernel
theorem dX10_undo_113 : decode cX10_undo 113 = .ok (.getfield 43, 3) := by decide +kernel
theorem dX10_undo_116 : decode cX10_undo 116 = .ok (.iload_n 3, 1) := by decide +kernel
theorem dX10_undo_117 : decode cX10_undo 117 = .ok (.iconst 1, 1) := by decide +kernel
theorem dX10_undo_118 : decode cX10_undo 118 = .ok (.iadd, 1) := by decide +kernel
theorem dX10_undo_119 : decode cX10_undo 119 = .ok (.iaload, 1) := by decide +kernel
theorem dX10_undo_120 : decode cX10_undo 120 = .ok (.iastore, 1) := by decide +kernel
theorem dX10_undo_121 : decode cX10_undo 121 = .ok (.iinc 3 1, 3) := by decide +kernel
theorem dX10_undo_124 : decode cX10_undo 124 = .ok (.goto (-25), 3) := by decide +kernel
theorem dX10_undo_127 : decode cX10_undo 127 = .ok (.iconst 1, 1) := by decide +kernel
theorem dX10_undo_128 : decode cX10_undo 128 = .ok (.ireturn, 1) := by decide +kernel
theorem dX10_wait_0 : decode cX10_wait 0 = .ok (.aload_n 0, 1) := by decide +kernel
theorem dX10_wait_1 : decode cX10_wait 1 = .ok (.iconst 0, 1) := by decide +kernel
theorem dX10_wait_2 : decode cX10_wait 2 = .ok (.putfield 86, 3) := by decide +kernel
theorem dX10_wait_5 : decode cX10_wait 5 = .ok (.iload_n 1, 1) := by decide +kernel
theorem dX10_wait_6 : decode cX10_wait 6 = .ok (.ifCond .lt 22, 3) := by decide +kernel
theorem dX10_wait_9 : decode cX10_wait 9 = .ok (.iload_n 1, 1) := by decide +kernel
theorem dX10_wait_10 : decode cX10_wait 10 = .ok (.sipush 1000, 3) := by decide +kernel
theorem dX10_wait_13 : decode cX10_wait 13 = .ok (.if_icmp .gt 15, 3) := by decide +kernel
theorem dX10_wait_16 : decode cX10_wait 16 = .ok (.aload_n 0, 1) := by decide +kernel
theorem dX10_wait_17 : decode cX10_wait 17 = .ok (.getfield 166, 3) := by decide +kernel
theorem dX10_wait_20 : decode cX10_wait 20 = .ok (.iload_n 1, 1) := by decide +kernel
theorem dX10_wait_21 : decode cX10_wait 21 = .ok (.iadd, 1) := by decide +kernel
theorem dX10_wait_22 : decode cX10_wait 22 = .ok (.sipush 9999, 3) := by decide +kernel
theorem dX10_wait_25 : decode cX10_wait 25 = .ok (.if_icmp .le 5, 3) := by decide +kernel
theorem dX10_wait_28 : decode cX10_wait 28 = .ok (.iconst 0, 1) := by decide +kernel
theorem dX10_wait_29 : decode cX10_wait 29 = .ok (.ireturn, 1) := by decide +kernel
theorem dX10_wait_30 : decode cX10_wait 30 = .ok (.aload_n 0, 1) := by decide +kernel
theorem dX10_wait_31 : decode cX10_wait 31 = .ok (.dup, 1) := by decide +kernel
theorem dX10_wait_32 : decode cX10_wait 32 = .ok (.getfield 166, 3) := by decide +kernel
theorem dX10_wait_35 : decode cX10_wait 35 = .ok (.iload_n 1, 1) := by decide +kernel
theorem dX10_wait_36 : decode cX10_wait 36 = .ok (.iadd, 1) := by decide +kernel
theorem dX10_wait_37 : decode cX10_wait 37 = .ok (.putfield 166, 3) := by decide +kernel
theorem dX10_wait_40 : decode cX10_wait 40 = .ok (.iconst 1, 1) := by decide +kernel
theorem dX10_wait_41 : decode cX10_wait 41 = .ok (.ireturn, 1) := by decide +kernel
set_option maxRecDepth 20000 in
theorem ggX10_about_X10_isItem : GoodIn wsX10_about wsX10_isItem := goodIn_r _ [10, 11, 26, 27, 28, 29, 30, 31, 32, 33, 34, 35, 36, 37, 38, 39, 40, 41, 42, 43, 44, 45, 46, 47, 48, 49, 50, 51, 52, 53, 54, 55, 56, 57, 58, 59, 60, 61, 62, 63, 64, 65, 66, 67] (by decide +kernel) (by decide +kernel)
set_option maxRecDepth 20000 in
theorem gX10_about_X10_isItem : GoodIn wsX10_about (wsV RX10 181 RX10 yX10_isItem wsX10_isItem) := goodIn_app (goodIn_of _ (by decide +kernel)) ggX10_about_X10_isItem
set_option maxRecDepth 20000 in
theorem ggX10_about_X10_throwsIf : GoodIn wsX10_about wsX10_throwsIf := goodIn_r _ [15, 16, 26, 27, 28, 29, 30, 31, 32, 33, 34, 35, 36, 37, 38, 39, 40, 41, 42, 43, 44, 45, 46, 47, 48, 49, 50, 51, 52, 53, 54, 55, 56, 57, 58, 59, 60, 61, 62, 63, 64, 65, 66, 67] (by decide +kernel) (by decide +kernel)
set_option maxRecDepth 20000 in
theorem gX10_about_X10_throwsIf : GoodIn wsX10_about (wsV RX10 209 RX10 yX10_throwsIf wsX10_throwsIf) := goodIn_app (goodIn_of _ (by decide +kernel)) ggX10_about_X10_throwsIf
set_option maxRecDepth 20000 in
theorem ggX10_about_X10_placeOf : GoodIn wsX10_about wsX10_placeOf := goodIn_r _ [20, 4, 26, 27, 28, 29, 30, 31, 32, 33, 34, 35, 36, 37, 38, 39, 40, 41, 42, 43, 44, 45, 46, 47, 48, 49, 50, 51, 52, 53, 54, 55, 56, 57, 58, 59, 60, 61, 62, 63, 64, 65, 66, 67] (by decide +kernel) (by decide +kernel)
set_option maxRecDepth 20000 in
theorem gX10_about_X10_placeOf : GoodIn wsX10_about (wsV RX10 184 RX10 yX10_placeOf wsX10_placeOf) := goodIn_app (goodIn_of _ (by decide +kernel)) ggX10_about_X10_placeOf
set_option maxRecDepth 20000 in
theorem ggX10_about_X10_isInRow : GoodIn wsX10_about wsX10_isInRow := goodIn_r _ [24, 1, 25, 2, 26, 27, 28, 29, 30, 31, 32, 33, 34, 35, 36, 37, 38, 39, 40, 41, 42, 43, 44, 45, 46, 47, 48, 49, 50, 51, 52, 53, 54, 55, 56, 57, 58, 59, 60, 61, 62, 63, 64, 65, 66, 67] (by decide +kernel) (by decide +kernel)
set_option maxRecDepth 20000 in
theorem gX10_about_X10_isInRow : GoodIn wsX10_about (wsV RX10 190 RX10 yX10_isInRow wsX10_isInRow) := goodIn_app (goodIn_of _ (by decide +kernel)) ggX10_about_X10_isInRow
theorem dX10_about_0 : decode cX10_about 0 = .ok (.aload_n 0, 1) := by decide +kernel
theorem dX10_about_1 : decode cX10_about 1 = .ok (.aload_n 0, 1) := by decide +kernel
theorem dX10_about_2 : decode cX10_about 2 = .ok (.iload_n 1, 1) := by decide +kernel
theorem dX10_about_3 : decode cX10_about 3 = .ok (.invokevirtual 181, 3) := by decide +kernel
theorem dX10_about_6 : decode cX10_about 6 = .ok (.ifCond .eq 12, 3) := by decide +kernel
theorem dX10_about_9 : decode cX10_about 9 = .ok (.iload_n 2, 1) := by decide +kernel
theorem dX10_about_10 : decode cX10_about 10 = .ok (.ifCond .lt 8, 3) := by decide +kernel
theorem dX10_about_13 : decode cX10_about 13 = .ok (.iload_n 2, 1) := by decide +kernel
theorem dX10_about_14 : decode cX10_about 14 = .ok (.iconst 5, 1) := by decide +kernel
theorem dX10_about_15 : decode cX10_about 15 = .ok (.if_icmp .le 7, 3) := by decide +kernel
theorem dX10_about_18 : decode cX10_about 18 = .ok (.iconst 1, 1) := by decide +kernel
theorem dX10_about_19 : decode cX10_about 19 = .ok (.goto 4, 3) := by decide +kernel
theorem dX10_about_22 : decode cX10_about 22 = .ok (.iconst 0, 1) := by decide +kernel
theorem dX10_about_23 : decode cX10_about 23 = .ok (.invokevirtual 209, 3) := by decide +kernel
theorem dX10_about_26 : decode cX10_about 26 = .ok (.ifCond .eq 5, 3) := by decide +kernel
theorem dX10_about_29 : decode cX10_about 29 = .ok (.iconst 0, 1) := by decide +kernel
theorem dX10_about_30 : decode cX10_about 30 = .ok (.ireturn, 1) := by decide +kernel
theorem dX10_about_31 : decode cX10_about 31 = .ok (.iconst 0, 1) := by decide +kernel
theorem dX10_about_32 : decode cX10_about 32 = .ok (.istore_n 3, 1) := by decide +kernel
theorem dX10_about_33 : decode cX10_about 33 = .ok (.iload_n 2, 1) := by decide +kernel
theorem dX10_about_34 : decode cX10_about 34 = .ok (.tableswitch 113 0 4 #[34, 41, 48, 63, 107], 34) := by decide +kernel
theorem dX10_about_68 : decode cX10_about 68 = .ok (.aload_n 0, 1) := by decide +kernel
theorem dX10_about_69 : decode cX10_about 69 = .ok (.getfield 34, 3) := by decide +kernel
theorem dX10_about_72 : decode cX10_about 72 = .ok (.iload_n 1, 1) := by decide +kernel
theorem dX10_about_73 : decode cX10_about 73 = .ok (.iaload, 1) := by decide +kernel
theorem dX10_about_74 : decode cX10_about 74 = .ok (.ireturn, 1) := by decide +kernel
theorem dX10_about_75 : decode cX10_about 75 = .ok (.aload_n 0, 1) := by decide +kernel
theorem dX10_about_76 : decode cX10_about 76 = .ok (.getfield 37, 3) := by decide +kernel
theorem dX10_about_79 : decode cX10_about 79 = .ok (.iload_n 1, 1) := by decide +kernel
theorem dX10_about_80 : decode cX10_about 80 = .ok (.iaload, 1) := by decide +kernel
theorem dX10_about_81 : decode cX10_about 81 = .ok (.ireturn, 1) := by decide +kernel
theorem dX10_about_82 : decode cX10_about 82 = .ok (.aload_n 0, 1) := by decide +kernel
theorem dX10_about_83 : decode cX10_about 83 = .ok (.getfield 46, 3) := by decide +kernel
theorem dX10_about_86 : decode cX10_about 86 = .ok (.iload_n 1, 1) := by decide +kernel
theorem dX10_about_87 : decode cX10_about 87 = .ok (.baload, 1) := by decide +kernel
theorem dX10_about_88 : decode cX10_about 88 = .ok (.ifCond .eq 7, 3) := by decide +kernel
theorem dX10_about_91 : decode cX10_about 91 = .ok (.iconst 1, 1) := by decide +kernel
theorem dX10_about_92 : decode cX10_about 92 = .ok (.goto 4, 3) := by decide +kernel
theorem dX10_about_95 : decode cX10_about 95 = .ok (.iconst 0, 1) := by decide +kernel
theorem dX10_about_96 : decode cX10_about 96 = .ok (.ireturn, 1) := by decide +kernel
theorem dX10_about_97 : decode cX10_about 97 = .ok (.iconst 0, 1) := by decide +kernel
theorem dX10_about_98 : decode cX10_about 98 = .ok (.istore 4, 2) := by decide +kernel
theorem dX10_about_100 : decode cX10_about 100 = .ok (.iload 4, 2) := by decide +kernel
theorem dX10_about_102 : decode cX10_about 102 = .ok (.aload_n 0, 1) := by decide +kernel
theorem dX10_about_103 : decode cX10_about 103 = .ok (.iload_n 1, 1) := by decide +kernel
theorem dX10_about_104 : decode cX10_about 104 = .ok (.invokevirtual 184, 3) := by decide +kernel
theorem dX10_about_107 : decode cX10_about 107 = .ok (.if_icmp .ge 32, 3) := by decide +kernel
theorem dX10_about_110 : decode cX10_about 110 = .ok (.iload_n 3, 1) := by decide +kernel
theorem dX10_about_111 : decode cX10_about 111 = .ok (.aload_n 0, 1) := by decide +kernel
theorem dX10_about_112 : decode cX10_about 112 = .ok (.aload_n 0, 1) := by decide +kernel
theorem dX10_about_113 : decode cX10_about 113 = .ok (.getfield 43, 3) := by decide +kernel
theorem dX10_about_116 : decode cX10_about 116 = .ok (.iload 4, 2) := by decide +kernel
theorem dX10_about_118 : decode cX10_about 118 = .ok (.iaload, 1) := by decide +kernel
theorem dX10_about_119 : decode cX10_about 119 = .ok (.iload_n 1, 1) := by decide +kernel
theorem dX10_about_120 : decode cX10_about 120 = .ok (.invokevirtual 190, 3) := by decide +kernel
theorem dX10_about_123 : decode cX10_about 123 = .ok (.ifCond .eq 7, 3) := by decide +kernel
theorem dX10_about_126 : decode cX10_about 126 = .ok (.iconst 1, 1) := by decide +kernel
theorem dX10_about_127 : decode cX10_about 127 = .ok (.goto 4, 3) := by decide +kernel
theorem dX10_about_130 : decode cX10_about 130 = .ok (.iconst 0, 1) := by decide +kernel
theorem dX10_about_131 : decode cX10_about 131 = .ok (.iadd, 1) := by decide +kernel
theorem dX10_about_132 : decode cX10_about 132 = .ok (.istore_n 3, 1) := by decide +kernel
theorem dX10_about_133 : decode cX10_about 133 = .ok (.iinc 4 1, 3) := by decide +kernel
theorem dX10_about_136 : decode cX10_about 136 = .ok (.goto (-36), 3) := by decide +kernel
theorem dX10_about_139 : decode cX10_about 139 = .ok (.iload_n 3, 1) := by decide +kernel
theorem dX10_about_140 : decode cX10_about 140 = .ok (.ireturn, 1) := by decide +kernel
theorem dX10_about_141 : decode cX10_about 141 = .ok (.aload_n 0, 1) := by decide +kernel
theorem dX10_about_142 : decode cX10_about 142 = .ok (.iload_n 1, 1) := by decide +kernel
theorem dX10_about_143 : decode cX10_about 143 = .ok (.invokevirtual 184, 3) := by decide +kernel
theorem dX10_about_146 : decode cX10_about 146 = .ok (.ireturn, 1) := by decide +kernel
theorem dX10_about_147 : decode cX10_about 147 = .ok (.aload_n 0, 1) := by decide +kernel
theorem dX10_about_148 : decode cX10_about 148 = .ok (.getfield 40, 3) := by decide +kernel
theorem dX10_about_151 : decode cX10_about 151 = .ok (.iload_n 1, 1) := by decide +kernel
theorem dX10_about_152 : decode cX10_about 152 = .ok (.iaload, 1) := by decide +kernel
theorem dX10_about_153 : decode cX10_about 153 = .ok (.ireturn, 1) := by decide +kernel
theorem dX10_put_0 : decode cX10_put 0 = .ok (.aload_n 0, 1) := by decide +kernel
theorem dX10_put_1 : decode cX10_put 1 = .ok (.getfield 71, 3) := by decide +kernel
theorem dX10_put_4 : decode cX10_put 4 = .ok (.aload_n 0, 1) := by decide +kernel
theorem dX10_put_5 : decode cX10_put 5 = .ok (.getfield 213, 3) := by decide +kernel
theorem dX10_put_8 : decode cX10_put 8 = .ok (.iload_n 1, 1) := by decide +kernel
theorem dX10_put_9 : decode cX10_put 9 = .ok (.i2b, 1) := by decide +kernel
theorem dX10_put_10 : decode cX10_put 10 = .ok (.bastore, 1) := by decide +kernel
theorem dX10_put_11 : decode cX10_put 11 = .ok (.aload_n 0, 1) := by decide +kernel
theorem dX10_put_12 : decode cX10_put 12 = .ok (.dup, 1) := by decide +kernel
theorem dX10_put_13 : decode cX10_put 13 = .ok (.getfield 213, 3) := by decide +kernel
theorem dX10_put_16 : decode cX10_put 16 = .ok (.iconst 1, 1) := by decide +kernel
theorem dX10_put_17 : decode cX10_put 17 = .ok (.iadd, 1) := by decide +kernel
theorem dX10_put_18 : decode cX10_put 18 = .ok (.putfield 213, 3) := by decide +kernel
theorem dX10_put_21 : decode cX10_put 21 = .ok (.return_, 1) := by decide +kernel
theorem dX10_romanLetter_0 : decode cX10_romanLetter 0 = .ok (.iload_n 0, 1) := by decide +kernel
theorem dX10_romanLetter_1 : decode cX10_romanLetter 1 = .ok (.iconst 1, 1) := by decide +kernel
theorem dX10_romanLetter_2 : decode cX10_romanLetter 2 = .ok (.if_icmp .ne 8, 3) := by decide +kernel
theorem dX10_romanLetter_5 : decode cX10_romanLetter 5 = .ok (.bipush 73, 2) := by decide +kernel
theorem dX10_romanLetter_7 : decode cX10_romanLetter 7 = .ok (.goto 56, 3) := by decide +kernel
theorem dX10_romanLetter_10 : decode cX10_romanLetter 10 = .ok (.iload_n 0, 1) := by decide +kernel
theorem dX10_romanLetter_11 : decode cX10_romanLetter 11 = .ok (.iconst 2, 1) := by decide +kernel
theorem dX10_romanLetter_12 : decode cX10_romanLetter 12 = .ok (.if_icmp .ne 8, 3) := by decide +kernel
theorem dX10_romanLetter_15 : decode cX10_romanLetter 15 = .ok (.bipush 86, 2) := by decide +kernel
theorem dX10_romanLetter_17 : decode cX10_romanLetter 17 = .ok (.goto 46, 3) := by decide +kernel
theorem dX10_romanLetter_20 : decode cX10_romanLetter 20 = .ok (.iload_n 0, 1) := by decide +kernel
theorem dX10_romanLetter_21 : decode cX10_romanLetter 21 = .ok (.iconst 3, 1) := by decide +kernel
theorem dX10_romanLetter_22 : decode cX10_romanLetter 22 = .ok (.if_icmp .ne 8, 3) := by decide +kernel
theorem dX10_romanLetter_25 : decode cX10_romanLetter 25 = .ok (.bipush 88, 2) := by decide +kernel
theorem dX10_romanLetter_27 : decode cX10_romanLetter 27 = .ok (.goto 36, 3) := by decide +kernel
theorem dX10_romanLetter_30 : decode cX10_romanLetter 30 = .ok (.iload_n 0, 1) := by decide +kernel
theorem dX10_romanLetter_31 : decode cX10_romanLetter 31 = .ok (.iconst 4, 1) := by decide +kernel
theorem dX10_romanLetter_32 : decode cX10_romanLetter 32 = .ok (.if_icmp .ne 8, 3) := by decide +kernel
theorem dX10_romanLetter_35 : decode cX10_romanLetter 35 = .ok (.bipush 76, 2) := by decide +kernel
theorem dX10_romanLetter_37 : decode cX10_romanLetter 37 = .ok (.goto 26, 3) := by decide +kernel
theorem dX10_romanLetter_40 : decode cX10_romanLetter 40 = .ok (.iload_n 0, 1) := by decide +kernel
theorem dX10_romanLetter_41 : decode cX10_romanLetter 41 = .ok (.iconst 5, 1) := by decide +kernel
theorem dX10_romanLetter_42 : decode cX10_romanLetter 42 = .ok (.if_icmp .ne 8, 3) := by decide +kernel
theorem dX10_romanLetter_45 : decode cX10_romanLetter 45 = .ok (.bipush 67, 2) := by decide +kernel
theorem dX10_romanLetter_47 : decode cX10_romanLetter 47 = .ok (.goto 16, 3) := by decide +kernel
theorem dX10_romanLetter_50 : decode cX10_romanLetter 50 = .ok (.iload_n 0, 1) := by decide +kernel
theorem dX10_romanLetter_51 : decode cX10_romanLetter 51 = .ok (.bipush 6, 2) := by decide +kernel
theorem dX10_romanLetter_53 : decode cX10_romanLetter 53 = .ok (.if_icmp .ne 8, 3) := by decide +kernel
theorem dX10_romanLetter_56 : decode cX10_romanLetter 56 = .ok (.bipush 68, 2) := by decide +kernel
theorem dX10_romanLetter_58 : decode cX10_romanLetter 58 = .ok (.goto 5, 3) := by decide +kernel
theorem dX10_romanLetter_61 : decode cX10_romanLetter 61 = .ok (.bipush 77, 2) := by decide +kernel
theorem dX10_romanLetter_63 : decode cX10_romanLetter 63 = .ok (.ireturn, 1) := by decide +kernel
set_option maxRecDepth 20000 in
theorem ggX10_roman_X10_romanLetter : GoodIn wsX10_roman wsX10_romanLetter := goodIn_r _ [6] (by decide +kernel) (by decide +kernel)
set_option maxRecDepth 20000 in
theorem gX10_roman_X10_romanLetter : GoodIn wsX10_roman (va_wsS RX10 216 yX10_romanLetter wsX10_romanLetter) := goodIn_app (goodIn_of _ (by decide +kernel)) ggX10_roman_X10_romanLetter
set_option maxRecDepth 20000 in
theorem ggX10_roman_X10_put : GoodIn wsX10_roman wsX10_put := goodIn_r _ [10, 11, 12, 13, 14, 15, 16, 17, 18, 19, 20, 21, 22, 23, 24, 25, 26, 27, 28, 29, 30, 31, 32, 33, 34, 35, 36, 37, 38, 39, 40, 41, 42, 43, 44, 45, 46, 47, 48, 49, 50, 51, 52, 53, 54] (by decide +kernel) (by decide +kernel)
set_option maxRecDepth 20000 in
theorem gX10_roman_X10_put : GoodIn wsX10_roman (wsV RX10 219 RX10 yX10_put wsX10_put) := goodIn_app (goodIn_of _ (by decide +kernel)) ggX10_roman_X10_put
theorem dX10_roman_0 : decode cX10_roman 0 = .ok (.iload_n 1, 1) := by decide +kernel
theorem dX10_roman_1 : decode cX10_roman 1 = .ok (.istore_n 3, 1) := by decide +kernel
theorem dX10_roman_2 : decode cX10_roman 2 = .ok (.iconst 0, 1) := by decide +kernel
theorem dX10_roman_3 : decode cX10_roman 3 = .ok (.istore 4, 2) := by decide +kernel
theorem dX10_roman_5 : decode cX10_roman 5 = .ok (.iload 4, 2) := by decide +kernel
theorem dX10_roman_7 : decode cX10_roman 7 = .ok (.bipush 12, 2) := by decide +kernel
theorem dX10_roman_9 : decode cX10_roman 9 = .ok (.if_icmp .ge 83, 3) := by decide +kernel
theorem dX10_roman_12 : decode cX10_roman 12 = .ok (.iload_n 3, 1) := by decide +kernel
theorem dX10_roman_13 : decode cX10_roman 13 = .ok (.aload_n 0, 1) := by decide +kernel
theorem dX10_roman_14 : decode cX10_roman 14 = .ok (.getfield 74, 3) := by decide +kernel
theorem dX10_roman_17 : decode cX10_roman 17 = .ok (.iload 4, 2) := by decide +kernel
theorem dX10_roman_19 : decode cX10_roman 19 = .ok (.iaload, 1) := by decide +kernel
theorem dX10_roman_20 : decode cX10_roman 20 = .ok (.if_icmp .lt 66, 3) := by decide +kernel
theorem dX10_roman_23 : decode cX10_roman 23 = .ok (.iload_n 3, 1) := by decide +kernel
theorem dX10_roman_24 : decode cX10_roman 24 = .ok (.aload_n 0, 1) := by decide +kernel
theorem dX10_roman_25 : decode cX10_roman 25 = .ok (.getfield 74, 3) := by decide +kernel
theorem dX10_roman_28 : decode cX10_roman 28 = .ok (.iload 4, 2) := by decide +kernel
theorem dX10_roman_30 : decode cX10_roman 30 = .ok (.iaload, 1) := by decide +kernel
theorem dX10_roman_31 : decode cX10_roman 31 = .ok (.isub, 1) := by decide +kernel
theorem dX10_roman_32 : decode cX10_roman 32 = .ok (.istore_n 3, 1) := by decide +kernel
theorem dX10_roman_33 : decode cX10_roman 33 = .ok (.aload_n 0, 1) := by decide +kernel
theorem dX10_roman_34 : decode cX10_roman 34 = .ok (.getfield 77, 3) := by decide +kernel
theorem dX10_roman_37 : decode cX10_roman 37 = .ok (.iload 4, 2) := by decide +kernel
theorem dX10_roman_39 : decode cX10_roman 39 = .ok (.iaload, 1) := by decide +kernel
theorem dX10_roman_40 : decode cX10_roman 40 = .ok (.bipush 9, 2) := by decide +kernel
theorem dX10_roman_42 : decode cX10_roman 42 = .ok (.if_icmp .le 22, 3) := by decide +kernel
theorem dX10_roman_45 : decode cX10_roman 45 = .ok (.aload_n 0, 1) := by decide +kernel
theorem dX10_roman_46 : decode cX10_roman 46 = .ok (.aload_n 0, 1) := by decide +kernel
theorem dX10_roman_47 : decode cX10_roman 47 = .ok (.getfield 77, 3) := by decide +kernel
theorem dX10_roman_50 : decode cX10_roman 50 = .ok (.iload 4, 2) := by decide +kernel
theorem dX10_roman_52 : decode cX10_roman 52 = .ok (.iaload, 1) := by decide +kernel
theorem dX10_roman_53 : decode cX10_roman 53 = .ok (.bipush 10, 2) := by decide +kernel
theorem dX10_roman_55 : decode cX10_roman 55 = .ok (.idiv, 1) := by decide +kernel
theorem dX10_roman_56 : decode cX10_roman 56 = .ok (.invokestatic 216, 3) := by decide +kernel
theorem dX10_roman_59 : decode cX10_roman 59 = .ok (.iload_n 2, 1) := by decide +kernel
theorem dX10_roman_60 : decode cX10_roman 60 = .ok (.iadd, 1) := by decide +kernel
theorem dX10_roman_61 : decode cX10_roman 61 = .ok (.invokevirtual 219, 3) := by decide +kernel
theorem dX10_roman_64 : decode cX10_roman 64 = .ok (.aload_n 0, 1) := by decide +kernel
theorem dX10_roman_65 : decode cX10_roman 65 = .ok (.aload_n 0, 1) := by decide +kernel
theorem dX10_roman_66 : decode cX10_roman 66 = .ok (.getfield 77, 3) := by decide +kernel
theorem dX10_roman_69 : decode cX10_roman 69 = .ok (.iload 4, 2) := by decide +kernel
theorem dX10_roman_71 : decode cX10_roman 71 = .ok (.iaload, 1) := by decide +kernel
theorem dX10_roman_72 : decode cX10_roman 72 = .ok (.bipush 10, 2) := by decide +kernel
theorem dX10_roman_74 : decode cX10_roman 74 = .ok (.irem, 1) := by decide +kernel
theorem dX10_roman_75 : decode cX10_roman 75 = .ok (.invokestatic 216, 3) := by decide +kernel
theorem dX10_roman_78 : decode cX10_roman 78 = .ok (.iload_n 2, 1) := by decide +kernel
theorem dX10_roman_79 : decode cX10_roman 79 = .ok (.iadd, 1) := by decide +kernel
theorem dX10_roman_80 : decode cX10_roman 80 = .ok (.invokevirtual 219, 3) := by decide +kernel
theorem dX10_roman_83 : decode cX10_roman 83 = .ok (.goto (-71), 3) := by decide +kernel
theorem dX10_roman_86 : decode cX10_roman 86 = .ok (.iinc 4 1, 3) := by decide +kernel
theorem dX10_roman_89 : decode cX10_roman 89 = .ok (.goto (-84), 3) := by decide +kernel
theorem dX10_roman_92 : decode cX10_roman 92 = .ok (.return_, 1) := by decide +kernel
set_option maxRecDepth 20000 in
theorem ggX10_decimal_X10_put : GoodIn wsX10_decimal wsX10_put := goodIn_r _ [5, 6, 7, 8, 9, 10, 11, 12, 13, 14, 15, 16, 17, 18, 19, 20, 21, 22, 23, 24, 25, 26, 27, 28, 29, 30, 31, 32, 33, 34, 35, 36, 37, 38, 39, 40, 41, 42, 43, 44, 45, 46, 47, 48, 49] (by decide +kernel) (by decide +kernel)
set_option maxRecDepth 20000 in
theorem gX10_decimal_X10_put : GoodIn wsX10_decimal (wsV RX10 219 RX10 yX10_put wsX10_put) := goodIn_app (goodIn_of _ (by decide +kernel)) ggX10_decimal_X10_put
theorem dX10_decimal_0 : decode cX10_decimal 0 = .ok (.iload_n 1, 1) := by decide +kernel
theorem dX10_decimal_1 : decode cX10_decimal 1 = .ok (.bipush 99, 2) := by decide +kernel
theorem dX10_decimal_3 : decode cX10_decimal 3 = .ok (.if_icmp .le 14, 3) := by decide +kernel
theorem dX10_decimal_6 : decode cX10_decimal 6 = .ok (.aload_n 0, 1) := by decide +kernel
theorem dX10_decimal_7 : decode cX10_decimal 7 = .ok (.bipush 48, 2) := by decide +kernel
theorem dX10_decimal_9 : decode cX10_decimal 9 = .ok (.iload_n 1, 1) := by decide +kernel
theorem dX10_decimal_10 : decode cX10_decimal 10 = .ok (.bipush 100, 2) := by decide +kernel
theorem dX10_decimal_12 : decode cX10_decimal 12 = .ok (.idiv, 1) := by decide +kernel
theorem dX10_decimal_13 : decode cX10_decimal 13 = .ok (.iadd, 1) := by decide +kernel
theorem dX10_decimal_14 : decode cX10_decimal 14 = .ok (.invokevirtual 219, 3) := by decide +kernel
theorem dX10_decimal_17 : decode cX10_decimal 17 = .ok (.iload_n 1, 1) := by decide +kernel
theorem dX10_decimal_18 : decode cX10_decimal 18 = .ok (.bipush 9, 2) := by decide +kernel
theorem dX10_decimal_20 : decode cX10_decimal 20 = .ok (.if_icmp .le 17, 3) := by decide +kernel
theorem dX10_decimal_23 : decode cX10_decimal 23 = .ok (.aload_n 0, 1) := by decide +kernel
theorem dX10_decimal_24 : decode cX10_decimal 24 = .ok (.bipush 48, 2) := by decide +kernel
theorem dX10_decimal_26 : decode cX10_decimal 26 = .ok (.iload_n 1, 1) := by decide +kernel
theorem dX10_decimal_27 : decode cX10_decimal 27 = .ok (.bipush 10, 2) := by decide +kernel
theorem dX10_decimal_29 : decode cX10_decimal 29 = .ok (.idiv, 1) := by decide +kernel
theorem dX10_decimal_30 : decode cX10_decimal 30 = .ok (.bipush 10, 2) := by decide +kernel
theorem dX10_decimal_32 : decode cX10_decimal 32 = .ok (.irem, 1) := by decide +kernel
theorem dX10_decimal_33 : decode cX10_decimal 33 = .ok (.iadd, 1) := by decide +kernel
theorem dX10_decimal_34 : decode cX10_decimal 34 = .ok (.invokevirtual 219, 3) := by decide +kernel
theorem dX10_decimal_37 : decode cX10_decimal 37 = .ok (.aload_n 0, 1) := by decide +kernel
theorem dX10_decimal_38 : decode cX10_decimal 38 = .ok (.bipush 48, 2) := by decide +kernel
theorem dX10_decimal_40 : decode cX10_decimal 40 = .ok (.iload_n 1, 1) := by decide +kernel
theorem dX10_decimal_41 : decode cX10_decimal 41 = .ok (.bipush 10, 2) := by decide +kernel
theorem dX10_decimal_43 : decode cX10_decimal 43 = .ok (.irem, 1) := by decide +kernel
theorem dX10_decimal_44 : decode cX10_decimal 44 = .ok (.iadd, 1) := by decide +kernel
theorem dX10_decimal_45 : decode cX10_decimal 45 = .ok (.invokevirtual 219, 3) := by decide +kernel
theorem dX10_decimal_48 : decode cX10_decimal 48 = .ok (.return_, 1) := by decide +kernel
set_option maxRecDepth 20000 in
theorem ggX10_letters_X10_put : GoodIn wsX10_letters wsX10_put := goodIn_r _ [5, 6, 7, 8, 9, 10, 11, 12, 13, 14, 15, 16, 17, 18, 19, 20, 21, 22, 23, 24, 25, 26, 27, 28, 29, 30, 31, 32, 33, 34, 35, 36, 37, 38, 39, 40, 41, 42, 43, 44, 45, 46, 47, 48, 49] (by decide +kernel) (by decide +kernel)
set_option maxRecDepth 20000 in
theorem gX10_letters_X10_put : GoodIn wsX10_letters (wsV RX10 219 RX10 yX10_put wsX10_put) := goodIn_app (goodIn_of _ (by decide +kernel)) ggX10_letters_X10_put
theorem dX10_letters_0 : decode cX10_letters 0 = .ok (.iload_n 1, 1) := by decide +kernel
theorem dX10_letters_1 : decode cX10_letters 1 = .ok (.sipush 703, 3) := by decide +kernel
theorem dX10_letters_4 : decode cX10_letters 4 = .ok (.isub, 1) := by decide +kernel
theorem dX10_letters_5 : decode cX10_letters 5 = .ok (.sipush 676, 3) := by decide +kernel
theorem dX10_letters_8 : decode cX10_letters 8 = .ok (.idiv, 1) := by decide +kernel
theorem dX10_letters_9 : decode cX10_letters 9 = .ok (.istore_n 2, 1) := by decide +kernel
theorem dX10_letters_10 : decode cX10_letters 10 = .ok (.iload_n 1, 1) := by decide +kernel
theorem dX10_letters_11 : decode cX10_letters 11 = .ok (.bipush 27, 2) := by decide +kernel
theorem dX10_letters_13 : decode cX10_letters 13 = .ok (.isub, 1) := by decide +kernel
theorem dX10_letters_14 : decode cX10_letters 14 = .ok (.bipush 26, 2) := by decide +kernel
theorem dX10_letters_16 : decode cX10_letters 16 = .ok (.idiv, 1) := by decide +kernel
theorem dX10_letters_17 : decode cX10_letters 17 = .ok (.istore_n 3, 1) := by decide +kernel
theorem dX10_letters_18 : decode cX10_letters 18 = .ok (.iload_n 1, 1) := by decide +kernel
theorem dX10_letters_19 : decode cX10_letters 19 = .ok (.sipush 702, 3) := by decide +kernel
theorem dX10_letters_22 : decode cX10_letters 22 = .ok (.if_icmp .le 11, 3) := by decide +kernel
theorem dX10_letters_25 : decode cX10_letters 25 = .ok (.aload_n 0, 1) := by decide +kernel
theorem dX10_letters_26 : decode cX10_letters 26 = .ok (.bipush 97, 2) := by decide +kernel
theorem dX10_letters_28 : decode cX10_letters 28 = .ok (.iload_n 2, 1) := by decide +kernel
theorem dX10_letters_29 : decode cX10_letters 29 = .ok (.iadd, 1) := by decide +kernel
theorem dX10_letters_30 : decode cX10_letters 30 = .ok (.invokevirtual 219, 3) := by decide +kernel
theorem dX10_letters_33 : decode cX10_letters 33 = .ok (.iload_n 1, 1) := by decide +kernel
theorem dX10_letters_34 : decode cX10_letters 34 = .ok (.bipush 26, 2) := by decide +kernel
theorem dX10_letters_36 : decode cX10_letters 36 = .ok (.if_icmp .le 14, 3) := by decide +kernel
theorem dX10_letters_39 : decode cX10_letters 39 = .ok (.aload_n 0, 1) := by decide +kernel
theorem dX10_letters_40 : decode cX10_letters 40 = .ok (.bipush 97, 2) := by decide +kernel
theorem dX10_letters_42 : decode cX10_letters 42 = .ok (.iload_n 3, 1) := by decide +kernel
theorem dX10_letters_43 : decode cX10_letters 43 = .ok (.bipush 26, 2) := by decide +kernel
theorem dX10_letters_45 : decode cX10_letters 45 = .ok (.irem, 1) := by decide +kernel
theorem dX10_letters_46 : decode cX10_letters 46 = .ok (.iadd, 1) := by decide +kernel
theorem dX10_letters_47 : decode cX10_letters 47 = .ok (.invokevirtual 219, 3) := by decide +kernel
theorem dX10_letters_50 : decode cX10_letters 50 = .ok (.aload_n 0, 1) := by decide +kernel
theorem dX10_letters_51 : decode cX10_letters 51 = .ok (.bipush 97, 2) := by decide +kernel
theorem dX10_letters_53 : decode cX10_letters 53 = .ok (.iload_n 1, 1) := by decide +kernel
theorem dX10_letters_54 : decode cX10_letters 54 = .ok (.iconst 1, 1) := by decide +kernel
theorem dX10_letters_55 : decode cX10_letters 55 = .ok (.isub, 1) := by decide +kernel
theorem dX10_letters_56 : decode cX10_letters 56 = .ok (.bipush 26, 2) := by decide +kernel
theorem dX10_letters_58 : decode cX10_letters 58 = .ok (.irem, 1) := by decide +kernel
theorem dX10_letters_59 : decode cX10_letters 59 = .ok (.iadd, 1) := by decide +kernel
theorem dX10_letters_60 : decode cX10_letters 60 = .ok (.invokevirtual 219, 3) := by decide +kernel
theorem dX10_letters_63 : decode cX10_letters 63 = .ok (.return_, 1) := by decide +kernel
set_option maxRecDepth 20000 in
theorem ggX10_write_X10_decimal : GoodIn wsX10_write wsX10_decimal := goodIn_r _ [6, 7, 8, 9, 5, 10, 11, 12, 32, 33, 34, 35, 36, 37, 38, 39, 40, 41, 42, 43, 44, 45, 46, 47, 48, 49, 50, 51, 52, 53, 54, 55, 56, 57, 58, 59, 60, 61, 62, 63, 64, 65, 66, 67, 68, 69, 70, 71, 72, 73] (by decide +kernel) (by decide +kernel)
set_option maxRecDepth 20000 in
theorem gX10_write_X10_decimal : GoodIn wsX10_write (wsV RX10 222 RX10 yX10_decimal wsX10_decimal) := goodIn_app (goodIn_of _ (by decide +kernel)) ggX10_write_X10_decimal
set_option maxRecDepth 20000 in
theorem ggX10_write_X10_letters : GoodIn wsX10_write wsX10_letters := goodIn_r _ [16, 7, 8, 9, 5, 10, 11, 12, 32, 33, 34, 35, 36, 37, 38, 39, 40, 41, 42, 43, 44, 45, 46, 47, 48, 49, 50, 51, 52, 53, 54, 55, 56, 57, 58, 59, 60, 61, 62, 63, 64, 65, 66, 67, 68, 69, 70, 71, 72, 73] (by decide +kernel) (by decide +kernel)
set_option maxRecDepth 20000 in
theorem gX10_write_X10_letters : GoodIn wsX10_write (wsV RX10 225 RX10 yX10_letters wsX10_letters) := goodIn_app (goodIn_of _ (by decide +kernel)) ggX10_write_X10_letters
set_option maxRecDepth 20000 in
theorem ggX10_write_X10_roman : GoodIn wsX10_write wsX10_roman := goodIn_r _ [20, 21, 22, 23, 24, 5, 25, 7, 8, 9, 10, 11, 12, 32, 33, 34, 35, 36, 37, 38, 39, 40, 41, 42, 43, 44, 45, 46, 47, 48, 49, 50, 51, 52, 53, 54, 55, 56, 57, 58, 59, 60, 61, 62, 63, 64, 65, 66, 67, 68, 69, 70, 71, 72, 73] (by decide +kernel) (by decide +kernel)
set_option maxRecDepth 20000 in
theorem gX10_write_X10_roman : GoodIn wsX10_write (wsV RX10 228 RX10 yX10_roman wsX10_roman) := goodIn_app (goodIn_of _ (by decide +kernel)) ggX10_write_X10_roman
set_option maxRecDepth 20000 in
theorem ggX10_write_X10_put : GoodIn wsX10_write wsX10_put := goodIn_r _ [10, 11, 12, 32, 33, 34, 35, 36, 37, 38, 39, 40, 41, 42, 43, 44, 45, 46, 47, 48, 49, 50, 51, 52, 53, 54, 55, 56, 57, 58, 59, 60, 61, 62, 63, 64, 65, 66, 67, 68, 69, 70, 71, 72, 73] (by decide +kernel) (by decide +kernel)
set_option maxRecDepth 20000 in
theorem gX10_write_X10_put : GoodIn wsX10_write (wsV RX10 219 RX10 yX10_put wsX10_put) := goodIn_app (goodIn_of _ (by decide +kernel)) ggX10_write_X10_put
set_option maxRecDepth 20000 in
theorem ggX10_write_X10_lettersOf : GoodIn wsX10_write wsX10_lettersOf := goodIn_r _ [28, 29, 30, 5, 31] (by decide +kernel) (by decide +kernel)
set_option maxRecDepth 20000 in
theorem gX10_write_X10_lettersOf : GoodIn wsX10_write (va_wsS RX10 174 yX10_lettersOf wsX10_lettersOf) := goodIn_app (goodIn_of _ (by decide +kernel)) ggX10_write_X10_lettersOf
set_option maxRecDepth 20000 in
theorem ggX10_write_X10_letterAt : GoodIn wsX10_write wsX10_letterAt := goodIn_r _ [31] (by decide +kernel) (by decide +kernel)
set_option maxRecDepth 20000 in
theorem gX10_write_X10_letterAt : GoodIn wsX10_write (va_wsS RX10 169 yX10_letterAt wsX10_letterAt) := goodIn_app (goodIn_of _ (by decide +kernel)) ggX10_write_X10_letterAt
theorem dX10_write_0 : decode cX10_write 0 = .ok (.iload_n 1, 1) := by decide +kernel
theorem dX10_write_1 : decode cX10_write 1 = .ok (.ldc 173, 2) := by decide +kernel
theorem dX10_write_3 : decode cX10_write 3 = .ok (.idiv, 1) := by decide +kernel
theorem dX10_write_4 : decode cX10_write 4 = .ok (.istore_n 3, 1) := by decide +kernel
theorem dX10_write_5 : decode cX10_write 5 = .ok (.iload_n 2, 1) := by decide +kernel
theorem dX10_write_6 : decode cX10_write 6 = .ok (.ifCond .ne 11, 3) := by decide +kernel
theorem dX10_write_9 : decode cX10_write 9 = .ok (.aload_n 0, 1) := by decide +kernel
theorem dX10_write_10 : decode cX10_write 10 = .ok (.iload_n 3, 1) := by decide +kernel
theorem dX10_write_11 : decode cX10_write 11 = .ok (.invokevirtual 222, 3) := by decide +kernel
theorem dX10_write_14 : decode cX10_write 14 = .ok (.goto 32, 3) := by decide +kernel
theorem dX10_write_17 : decode cX10_write 17 = .ok (.iload_n 2, 1) := by decide +kernel
theorem dX10_write_18 : decode cX10_write 18 = .ok (.iconst 2, 1) := by decide +kernel
theorem dX10_write_19 : decode cX10_write 19 = .ok (.if_icmp .ne 11, 3) := by decide +kernel
theorem dX10_write_22 : decode cX10_write 22 = .ok (.aload_n 0, 1) := by decide +kernel
theorem dX10_write_23 : decode cX10_write 23 = .ok (.iload_n 3, 1) := by decide +kernel
theorem dX10_write_24 : decode cX10_write 24 = .ok (.invokevirtual 225, 3) := by decide +kernel
theorem dX10_write_27 : decode cX10_write 27 = .ok (.goto 19, 3) := by decide +kernel
theorem dX10_write_30 : decode cX10_write 30 = .ok (.aload_n 0, 1) := by decide +kernel
theorem dX10_write_31 : decode cX10_write 31 = .ok (.iload_n 3, 1) := by decide +kernel
theorem dX10_write_32 : decode cX10_write 32 = .ok (.iload_n 2, 1) := by decide +kernel
theorem dX10_write_33 : decode cX10_write 33 = .ok (.iconst 3, 1) := by decide +kernel
theorem dX10_write_34 : decode cX10_write 34 = .ok (.if_icmp .ne 8, 3) := by decide +kernel
theorem dX10_write_37 : decode cX10_write 37 = .ok (.bipush 32, 2) := by decide +kernel
theorem dX10_write_39 : decode cX10_write 39 = .ok (.goto 4, 3) := by decide +kernel
theorem dX10_write_42 : decode cX10_write 42 = .ok (.iconst 0, 1) := by decide +kernel
theorem dX10_write_43 : decode cX10_write 43 = .ok (.invokevirtual 228, 3) := by decide +kernel
theorem dX10_write_46 : decode cX10_write 46 = .ok (.iload_n 1, 1) := by decide +kernel
theorem dX10_write_47 : decode cX10_write 47 = .ok (.ldc 173, 2) := by decide +kernel
theorem dX10_write_49 : decode cX10_write 49 = .ok (.irem, 1) := by decide +kernel
theorem dX10_write_50 : decode cX10_write 50 = .ok (.istore 4, 2) := by decide +kernel
theorem dX10_write_52 : decode cX10_write 52 = .ok (.iload 4, 2) := by decide +kernel
theorem dX10_write_54 : decode cX10_write 54 = .ok (.ifCond .le 13, 3) := by decide +kernel
theorem dX10_write_57 : decode cX10_write 57 = .ok (.iload_n 2, 1) := by decide +kernel
theorem dX10_write_58 : decode cX10_write 58 = .ok (.ifCond .eq 9, 3) := by decide +kernel
theorem dX10_write_61 : decode cX10_write 61 = .ok (.aload_n 0, 1) := by decide +kernel
theorem dX10_write_62 : decode cX10_write 62 = .ok (.bipush 45, 2) := by decide +kernel
theorem dX10_write_64 : decode cX10_write 64 = .ok (.invokevirtual 219, 3) := by decide +kernel
theorem dX10_write_67 : decode cX10_write 67 = .ok (.iconst 0, 1) := by decide +kernel
theorem dX10_write_68 : decode cX10_write 68 = .ok (.istore 5, 2) := by decide +kernel
theorem dX10_write_70 : decode cX10_write 70 = .ok (.iload 5, 2) := by decide +kernel
theorem dX10_write_72 : decode cX10_write 72 = .ok (.iload 4, 2) := by decide +kernel
theorem dX10_write_74 : decode cX10_write 74 = .ok (.invokestatic 174, 3) := by decide +kernel
theorem dX10_write_77 : decode cX10_write 77 = .ok (.if_icmp .ge 23, 3) := by decide +kernel
theorem dX10_write_80 : decode cX10_write 80 = .ok (.aload_n 0, 1) := by decide +kernel
theorem dX10_write_81 : decode cX10_write 81 = .ok (.bipush 64, 2) := by decide +kernel
theorem dX10_write_83 : decode cX10_write 83 = .ok (.iload 4, 2) := by decide +kernel
theorem dX10_write_85 : decode cX10_write 85 = .ok (.iload 5, 2) := by decide +kernel
theorem dX10_write_87 : decode cX10_write 87 = .ok (.invokestatic 169, 3) := by decide +kernel
theorem dX10_write_90 : decode cX10_write 90 = .ok (.iadd, 1) := by decide +kernel
theorem dX10_write_91 : decode cX10_write 91 = .ok (.invokevirtual 219, 3) := by decide +kernel
theorem dX10_write_94 : decode cX10_write 94 = .ok (.iinc 5 1, 3) := by decide +kernel
theorem dX10_write_97 : decode cX10_write 97 = .ok (.goto (-27), 3) := by decide +kernel
theorem dX10_write_100 : decode cX10_write 100 = .ok (.return_, 1) := by decide +kernel
set_option maxRecDepth 20000 in
theorem ggX10_label_X10_isItem : GoodIn wsX10_label wsX10_isItem := goodIn_r _ [9, 10, 52, 53, 54, 55, 56, 57, 58, 59, 60, 61, 62, 63, 64, 65, 66, 67, 68, 69, 70, 71, 72, 73, 74, 75, 76, 77, 78, 79, 80, 81, 82, 83, 84, 85, 86, 87, 88, 89, 90, 91, 92, 93] (by decide +kernel) (by decide +kernel)
set_option maxRecDepth 20000 in
theorem gX10_label_X10_isItem : GoodIn wsX10_label (wsV RX10 181 RX10 yX10_isItem wsX10_isItem) := goodIn_app (goodIn_of _ (by decide +kernel)) ggX10_label_X10_isItem
set_option maxRecDepth 20000 in
theorem ggX10_label_X10_labelOf : GoodIn wsX10_label wsX10_labelOf := goodIn_r _ [14, 15, 16, 17, 18, 52, 53, 54, 55, 56, 57, 58, 59, 60, 61, 62, 63, 64, 65, 66, 67, 68, 69, 70, 71, 72, 73, 74, 75, 76, 77, 78, 79, 80, 81, 82, 83, 84, 85, 86, 87, 88, 89, 90, 91, 92, 93] (by decide +kernel) (by decide +kernel)
set_option maxRecDepth 20000 in
theorem gX10_label_X10_labelOf : GoodIn wsX10_label (wsV RX10 193 RX10 yX10_labelOf wsX10_labelOf) := goodIn_app (goodIn_of _ (by decide +kernel)) ggX10_label_X10_labelOf
set_option maxRecDepth 20000 in
theorem ggX10_label_X10_write : GoodIn wsX10_label wsX10_write := goodIn_r _ [22, 23, 24, 25, 26, 8, 27, 28, 29, 30, 31, 32, 2, 33, 34, 35, 36, 37, 38, 39, 40, 41, 42, 43, 44, 45, 46, 47, 48, 49, 50, 51, 52, 53, 54, 55, 56, 57, 58, 59, 60, 61, 62, 63, 64, 65, 66, 67, 68, 69, 70, 71, 72, 73, 74, 75, 76, 77, 78, 79, 80, 81, 82, 83, 84, 85, 86, 87, 88, 89, 90, 91, 92, 93] (by decide +kernel) (by decide +kernel)
set_option maxRecDepth 20000 in
theorem gX10_label_X10_write : GoodIn wsX10_label (wsV RX10 231 RX10 yX10_write wsX10_write) := goodIn_app (goodIn_of _ (by decide +kernel)) ggX10_label_X10_write
theorem dX10_label_0 : decode cX10_label 0 = .ok (.aload_n 0, 1) := by decide +kernel
theorem dX10_label_1 : decode cX10_label 1 = .ok (.iconst 0, 1) := by decide +kernel
theorem dX10_label_2 : decode cX10_label 2 = .ok (.putfield 86, 3) := by decide +kernel
theorem dX10_label_5 : decode cX10_label 5 = .ok (.aload_n 0, 1) := by decide +kernel
theorem dX10_label_6 : decode cX10_label 6 = .ok (.iload_n 1, 1) := by decide +kernel
theorem dX10_label_7 : decode cX10_label 7 = .ok (.invokevirtual 181, 3) := by decide +kernel
theorem dX10_label_10 : decode cX10_label 10 = .ok (.ifCond .eq 16, 3) := by decide +kernel
theorem dX10_label_13 : decode cX10_label 13 = .ok (.iload_n 2, 1) := by decide +kernel
theorem dX10_label_14 : decode cX10_label 14 = .ok (.ifCond .lt 12, 3) := by decide +kernel
theorem dX10_label_17 : decode cX10_label 17 = .ok (.aload_n 0, 1) := by decide +kernel
theorem dX10_label_18 : decode cX10_label 18 = .ok (.iload_n 1, 1) := by decide +kernel
theorem dX10_label_19 : decode cX10_label 19 = .ok (.iload_n 2, 1) := by decide +kernel
theorem dX10_label_20 : decode cX10_label 20 = .ok (.invokevirtual 193, 3) := by decide +kernel
theorem dX10_label_23 : decode cX10_label 23 = .ok (.goto 4, 3) := by decide +kernel
theorem dX10_label_26 : decode cX10_label 26 = .ok (.iconst 0, 1) := by decide +kernel
theorem dX10_label_27 : decode cX10_label 27 = .ok (.istore_n 3, 1) := by decide +kernel
theorem dX10_label_28 : decode cX10_label 28 = .ok (.iload_n 3, 1) := by decide +kernel
theorem dX10_label_29 : decode cX10_label 29 = .ok (.ifCond .ne 5, 3) := by decide +kernel
theorem dX10_label_32 : decode cX10_label 32 = .ok (.iconst (-1), 1) := by decide +kernel
theorem dX10_label_33 : decode cX10_label 33 = .ok (.ireturn, 1) := by decide +kernel
theorem dX10_label_34 : decode cX10_label 34 = .ok (.aload_n 0, 1) := by decide +kernel
theorem dX10_label_35 : decode cX10_label 35 = .ok (.iconst 0, 1) := by decide +kernel
theorem dX10_label_36 : decode cX10_label 36 = .ok (.putfield 213, 3) := by decide +kernel
theorem dX10_label_39 : decode cX10_label 39 = .ok (.aload_n 0, 1) := by decide +kernel
theorem dX10_label_40 : decode cX10_label 40 = .ok (.iload_n 3, 1) := by decide +kernel
theorem dX10_label_41 : decode cX10_label 41 = .ok (.aload_n 0, 1) := by decide +kernel
theorem dX10_label_42 : decode cX10_label 42 = .ok (.getfield 13, 3) := by decide +kernel
theorem dX10_label_45 : decode cX10_label 45 = .ok (.aload_n 0, 1) := by decide +kernel
theorem dX10_label_46 : decode cX10_label 46 = .ok (.getfield 34, 3) := by decide +kernel
theorem dX10_label_49 : decode cX10_label 49 = .ok (.iload_n 1, 1) := by decide +kernel
theorem dX10_label_50 : decode cX10_label 50 = .ok (.iaload, 1) := by decide +kernel
theorem dX10_label_51 : decode cX10_label 51 = .ok (.iaload, 1) := by decide +kernel
theorem dX10_label_52 : decode cX10_label 52 = .ok (.invokevirtual 231, 3) := by decide +kernel
theorem dX10_label_55 : decode cX10_label 55 = .ok (.aload_n 0, 1) := by decide +kernel
theorem dX10_label_56 : decode cX10_label 56 = .ok (.getfield 213, 3) := by decide +kernel
theorem dX10_label_59 : decode cX10_label 59 = .ok (.ireturn, 1) := by decide +kernel
theorem dX10_over_0 : decode cX10_over 0 = .ok (.iload_n 1, 1) := by decide +kernel
theorem dX10_over_1 : decode cX10_over 1 = .ok (.istore_n 3, 1) := by decide +kernel
theorem dX10_over_2 : decode cX10_over 2 = .ok (.aload_n 0, 1) := by decide +kernel
theorem dX10_over_3 : decode cX10_over 3 = .ok (.getfield 34, 3) := by decide +kernel
theorem dX10_over_6 : decode cX10_over 6 = .ok (.iload_n 3, 1) := by decide +kernel
theorem dX10_over_7 : decode cX10_over 7 = .ok (.iaload, 1) := by decide +kernel
theorem dX10_over_8 : decode cX10_over 8 = .ok (.iload_n 2, 1) := by decide +kernel
theorem dX10_over_9 : decode cX10_over 9 = .ok (.if_icmp .le 13, 3) := by decide +kernel
theorem dX10_over_12 : decode cX10_over 12 = .ok (.aload_n 0, 1) := by decide +kernel
theorem dX10_over_13 : decode cX10_over 13 = .ok (.getfield 37, 3) := by decide +kernel
theorem dX10_over_16 : decode cX10_over 16 = .ok (.iload_n 3, 1) := by decide +kernel
theorem dX10_over_17 : decode cX10_over 17 = .ok (.iaload, 1) := by decide +kernel
theorem dX10_over_18 : decode cX10_over 18 = .ok (.istore_n 3, 1) := by decide +kernel
theorem dX10_over_19 : decode cX10_over 19 = .ok (.goto (-17), 3) := by decide +kernel
theorem dX10_over_22 : decode cX10_over 22 = .ok (.iload_n 3, 1) := by decide +kernel
theorem dX10_over_23 : decode cX10_over 23 = .ok (.ireturn, 1) := by decide +kernel
set_option maxRecDepth 20000 in
theorem ggX10_cited_X10_isItem : GoodIn wsX10_cited wsX10_isItem := goodIn_r _ [9, 10, 57, 58, 59, 60, 61, 62, 63, 64, 65, 66, 67, 68, 69, 70, 71, 72, 73, 74, 75, 76, 77, 78, 79, 80, 81, 82, 83, 84, 85, 86, 87, 88, 89, 90, 91, 92, 93, 94, 95, 96, 97, 98] (by decide +kernel) (by decide +kernel)
set_option maxRecDepth 20000 in
theorem gX10_cited_X10_isItem : GoodIn wsX10_cited (wsV RX10 181 RX10 yX10_isItem wsX10_isItem) := goodIn_app (goodIn_of _ (by decide +kernel)) ggX10_cited_X10_isItem
set_option maxRecDepth 20000 in
theorem ggX10_cited_X10_over : GoodIn wsX10_cited wsX10_over := goodIn_r _ [14, 2, 15, 57, 58, 59, 60, 61, 62, 63, 64, 65, 66, 67, 68, 69, 70, 71, 72, 73, 74, 75, 76, 77, 78, 79, 80, 81, 82, 83, 84, 85, 86, 87, 88, 89, 90, 91, 92, 93, 94, 95, 96, 97, 98] (by decide +kernel) (by decide +kernel)
set_option maxRecDepth 20000 in
theorem gX10_cited_X10_over : GoodIn wsX10_cited (wsV RX10 234 RX10 yX10_over wsX10_over) := goodIn_app (goodIn_of _ (by decide +kernel)) ggX10_cited_X10_over
set_option maxRecDepth 20000 in
theorem ggX10_cited_X10_labelOf : GoodIn wsX10_cited wsX10_labelOf := goodIn_r _ [19, 20, 21, 22, 23, 57, 58, 59, 60, 61, 62, 63, 64, 65, 66, 67, 68, 69, 70, 71, 72, 73, 74, 75, 76, 77, 78, 79, 80, 81, 82, 83, 84, 85, 86, 87, 88, 89, 90, 91, 92, 93, 94, 95, 96, 97, 98] (by decide +kernel) (by decide +kernel)
set_option maxRecDepth 20000 in
theorem gX10_cited_X10_labelOf : GoodIn wsX10_cited (wsV RX10 193 RX10 yX10_labelOf wsX10_labelOf) := goodIn_app (goodIn_of _ (by decide +kernel)) ggX10_cited_X10_labelOf
set_option maxRecDepth 20000 in
theorem ggX10_cited_X10_put : GoodIn wsX10_cited wsX10_put := goodIn_r _ [27, 28, 3, 57, 58, 59, 60, 61, 62, 63, 64, 65, 66, 67, 68, 69, 70, 71, 72, 73, 74, 75, 76, 77, 78, 79, 80, 81, 82, 83, 84, 85, 86, 87, 88, 89, 90, 91, 92, 93, 94, 95, 96, 97, 98] (by decide +kernel) (by decide +kernel)
set_option maxRecDepth 20000 in
theorem gX10_cited_X10_put : GoodIn wsX10_cited (wsV RX10 219 RX10 yX10_put wsX10_put) := goodIn_app (goodIn_of _ (by decide +kernel)) ggX10_cited_X10_put
set_option maxRecDepth 20000 in
theorem ggX10_cited_X10_write : GoodIn wsX10_cited wsX10_write := goodIn_r _ [32, 33, 34, 35, 36, 8, 37, 24, 25, 26, 27, 28, 3, 38, 39, 40, 41, 42, 43, 44, 45, 46, 47, 48, 49, 50, 51, 52, 53, 54, 55, 56, 57, 58, 59, 60, 61, 62, 63, 64, 65, 66, 67, 68, 69, 70, 71, 72, 73, 74, 75, 76, 77, 78, 79, 80, 81, 82, 83, 84, 85, 86, 87, 88, 89, 90, 91, 92, 93, 94, 95, 96, 97, 98] (by decide +kernel) (by decide +kernel)
set_option maxRecDepth 20000 in
theorem gX10_cited_X10_write : GoodIn wsX10_cited (wsV RX10 231 RX10 yX10_write wsX10_write) := goodIn_app (goodIn_of _ (by decide +kernel)) ggX10_cited_X10_write
theorem dX10_cited_0 : decode cX10_cited 0 = .ok (.aload_n 0, 1) := by decide +kernel
theorem dX10_cited_1 : decode cX10_cited 1 = .ok (.iconst 0, 1) := by decide +kernel
theorem dX10_cited_2 : decode cX10_cited 2 = .ok (.putfield 86, 3) := by decide +kernel
theorem dX10_cited_5 : decode cX10_cited 5 = .ok (.aload_n 0, 1) := by decide +kernel
theorem dX10_cited_6 : decode cX10_cited 6 = .ok (.iload_n 1, 1) := by decide +kernel
theorem dX10_cited_7 : decode cX10_cited 7 = .ok (.invokevirtual 181, 3) := by decide +kernel
theorem dX10_cited_10 : decode cX10_cited 10 = .ok (.ifCond .eq 7, 3) := by decide +kernel
theorem dX10_cited_13 : decode cX10_cited 13 = .ok (.iload_n 2, 1) := by decide +kernel
theorem dX10_cited_14 : decode cX10_cited 14 = .ok (.ifCond .ge 5, 3) := by decide +kernel
theorem dX10_cited_17 : decode cX10_cited 17 = .ok (.iconst (-1), 1) := by decide +kernel
theorem dX10_cited_18 : decode cX10_cited 18 = .ok (.ireturn, 1) := by decide +kernel
theorem dX10_cited_19 : decode cX10_cited 19 = .ok (.iconst 0, 1) := by decide +kernel
theorem dX10_cited_20 : decode cX10_cited 20 = .ok (.istore_n 3, 1) := by decide +kernel
theorem dX10_cited_21 : decode cX10_cited 21 = .ok (.iload_n 3, 1) := by decide +kernel
theorem dX10_cited_22 : decode cX10_cited 22 = .ok (.aload_n 0, 1) := by decide +kernel
theorem dX10_cited_23 : decode cX10_cited 23 = .ok (.getfield 34, 3) := by decide +kernel
theorem dX10_cited_26 : decode cX10_cited 26 = .ok (.iload_n 1, 1) := by decide +kernel
theorem dX10_cited_27 : decode cX10_cited 27 = .ok (.iaload, 1) := by decide +kernel
theorem dX10_cited_28 : decode cX10_cited 28 = .ok (.if_icmp .gt 25, 3) := by decide +kernel
theorem dX10_cited_31 : decode cX10_cited 31 = .ok (.aload_n 0, 1) := by decide +kernel
theorem dX10_cited_32 : decode cX10_cited 32 = .ok (.aload_n 0, 1) := by decide +kernel
theorem dX10_cited_33 : decode cX10_cited 33 = .ok (.iload_n 1, 1) := by decide +kernel
theorem dX10_cited_34 : decode cX10_cited 34 = .ok (.iload_n 3, 1) := by decide +kernel
theorem dX10_cited_35 : decode cX10_cited 35 = .ok (.invokevirtual 234, 3) := by decide +kernel
theorem dX10_cited_38 : decode cX10_cited 38 = .ok (.iload_n 2, 1) := by decide +kernel
theorem dX10_cited_39 : decode cX10_cited 39 = .ok (.invokevirtual 193, 3) := by decide +kernel
theorem dX10_cited_42 : decode cX10_cited 42 = .ok (.ifCond .ne 5, 3) := by decide +kernel
theorem dX10_cited_45 : decode cX10_cited 45 = .ok (.iconst (-1), 1) := by decide +kernel
theorem dX10_cited_46 : decode cX10_cited 46 = .ok (.ireturn, 1) := by decide +kernel
theorem dX10_cited_47 : decode cX10_cited 47 = .ok (.iinc 3 1, 3) := by decide +kernel
theorem dX10_cited_50 : decode cX10_cited 50 = .ok (.goto (-29), 3) := by decide +kernel
theorem dX10_cited_53 : decode cX10_cited 53 = .ok (.aload_n 0, 1) := by decide +kernel
theorem dX10_cited_54 : decode cX10_cited 54 = .ok (.iconst 0, 1) := by decide +kernel
theorem dX10_cited_55 : decode cX10_cited 55 = .ok (.putfield 213, 3) := by decide +kernel
theorem dX10_cited_58 : decode cX10_cited 58 = .ok (.iconst 0, 1) := by decide +kernel
theorem dX10_cited_59 : decode cX10_cited 59 = .ok (.istore_n 3, 1) := by decide +kernel
theorem dX10_cited_60 : decode cX10_cited 60 = .ok (.iload_n 3, 1) := by decide +kernel
theorem dX10_cited_61 : decode cX10_cited 61 = .ok (.aload_n 0, 1) := by decide +kernel
theorem dX10_cited_62 : decode cX10_cited 62 = .ok (.getfield 34, 3) := by decide +kernel
theorem dX10_cited_65 : decode cX10_cited 65 = .ok (.iload_n 1, 1) := by decide +kernel
theorem dX10_cited_66 : decode cX10_cited 66 = .ok (.iaload, 1) := by decide +kernel
theorem dX10_cited_67 : decode cX10_cited 67 = .ok (.if_icmp .gt 40, 3) := by decide +kernel
theorem dX10_cited_70 : decode cX10_cited 70 = .ok (.iload_n 3, 1) := by decide +kernel
theorem dX10_cited_71 : decode cX10_cited 71 = .ok (.ifCond .le 9, 3) := by decide +kernel
theorem dX10_cited_74 : decode cX10_cited 74 = .ok (.aload_n 0, 1) := by decide +kernel
theorem dX10_cited_75 : decode cX10_cited 75 = .ok (.bipush 46, 2) := by decide +kernel
theorem dX10_cited_77 : decode cX10_cited 77 = .ok (.invokevirtual 219, 3) := by decide +kernel
theorem dX10_cited_80 : decode cX10_cited 80 = .ok (.aload_n 0, 1) := by decide +kernel
theorem dX10_cited_81 : decode cX10_cited 81 = .ok (.aload_n 0, 1) := by decide +kernel
theorem dX10_cited_82 : decode cX10_cited 82 = .ok (.aload_n 0, 1) := by decide +kernel
theorem dX10_cited_83 : decode cX10_cited 83 = .ok (.iload_n 1, 1) := by decide +kernel
theorem dX10_cited_84 : decode cX10_cited 84 = .ok (.iload_n 3, 1) := by decide +kernel
theorem dX10_cited_85 : decode cX10_cited 85 = .ok (.invokevirtual 234, 3) := by decide +kernel
theorem dX10_cited_88 : decode cX10_cited 88 = .ok (.iload_n 2, 1) := by decide +kernel
theorem dX10_cited_89 : decode cX10_cited 89 = .ok (.invokevirtual 193, 3) := by decide +kernel
theorem dX10_cited_92 : decode cX10_cited 92 = .ok (.aload_n 0, 1) := by decide +kernel
theorem dX10_cited_93 : decode cX10_cited 93 = .ok (.getfield 13, 3) := by decide +kernel
theorem dX10_cited_96 : decode cX10_cited 96 = .ok (.iload_n 3, 1) := by decide +kernel
theorem dX10_cited_97 : decode cX10_cited 97 = .ok (.iaload, 1) := by decide +kernel
theorem dX10_cited_98 : decode cX10_cited 98 = .ok (.invokevirtual 231, 3) := by decide +kernel
theorem dX10_cited_101 : decode cX10_cited 101 = .ok (.iinc 3 1, 3) := by decide +kernel
theorem dX10_cited_104 : decode cX10_cited 104 = .ok (.goto (-44), 3) := by decide +kernel
theorem dX10_cited_107 : decode cX10_cited 107 = .ok (.aload_n 0, 1) := by decide +kernel
theorem dX10_cited_108 : decode cX10_cited 108 = .ok (.getfield 213, 3) := by decide +kernel
theorem dX10_cited_111 : decode cX10_cited 111 = .ok (.ireturn, 1) := by decide +kernel
set_option maxRecDepth 20000 in
theorem ggX10_octet_X10_throwsIf : GoodIn wsX10_octet wsX10_throwsIf := goodIn_r _ [7, 8, 9, 10, 11, 12, 13, 14, 15, 16, 17, 18, 19, 20, 21, 22, 23, 24, 25, 26, 27, 28, 29, 30, 31, 32, 33, 34, 35, 36, 37, 38, 39, 40, 41, 42, 43, 44, 45, 46, 47, 48, 49, 50] (by decide +kernel) (by decide +kernel)
set_option maxRecDepth 20000 in
theorem gX10_octet_X10_throwsIf : GoodIn wsX10_octet (wsV RX10 209 RX10 yX10_throwsIf wsX10_throwsIf) := goodIn_app (goodIn_of _ (by decide +kernel)) ggX10_octet_X10_throwsIf
theorem dX10_octet_0 : decode cX10_octet 0 = .ok (.aload_n 0, 1) := by decide +kernel
theorem dX10_octet_1 : decode cX10_octet 1 = .ok (.iload_n 1, 1) := by decide +kernel
theorem dX10_octet_2 : decode cX10_octet 2 = .ok (.ifCond .lt 11, 3) := by decide +kernel
theorem dX10_octet_5 : decode cX10_octet 5 = .ok (.iload_n 1, 1) := by decide +kernel
theorem dX10_octet_6 : decode cX10_octet 6 = .ok (.aload_n 0, 1) := by decide +kernel
theorem dX10_octet_7 : decode cX10_octet 7 = .ok (.getfield 213, 3) := by decide +kernel
theorem dX10_octet_10 : decode cX10_octet 10 = .ok (.if_icmp .lt 7, 3) := by decide +kernel
theorem dX10_octet_13 : decode cX10_octet 13 = .ok (.iconst 1, 1) := by decide +kernel
theorem dX10_octet_14 : decode cX10_octet 14 = .ok (.goto 4, 3) := by decide +kernel
theorem dX10_octet_17 : decode cX10_octet 17 = .ok (.iconst 0, 1) := by decide +kernel
theorem dX10_octet_18 : decode cX10_octet 18 = .ok (.invokevirtual 209, 3) := by decide +kernel
theorem dX10_octet_21 : decode cX10_octet 21 = .ok (.ifCond .eq 7, 3) := by decide +kernel
theorem dX10_octet_24 : decode cX10_octet 24 = .ok (.iconst 0, 1) := by decide +kernel
theorem dX10_octet_25 : decode cX10_octet 25 = .ok (.goto 9, 3) := by decide +kernel
theorem dX10_octet_28 : decode cX10_octet 28 = .ok (.aload_n 0, 1) := by decide +kernel
theorem dX10_octet_29 : decode cX10_octet 29 = .ok (.getfield 71, 3) := by decide +kernel
theorem dX10_octet_32 : decode cX10_octet 32 = .ok (.iload_n 1, 1) := by decide +kernel
theorem dX10_octet_33 : decode cX10_octet 33 = .ok (.baload, 1) := by decide +kernel
theorem dX10_octet_34 : decode cX10_octet 34 = .ok (.ireturn, 1) := by decide +kernel
theorem dX10_breaks_0 : decode cX10_breaks 0 = .ok (.aload_n 0, 1) := by decide +kernel
theorem dX10_breaks_1 : decode cX10_breaks 1 = .ok (.iload_n 1, 1) := by decide +kernel
theorem dX10_breaks_2 : decode cX10_breaks 2 = .ok (.putfield 237, 3) := by decide +kernel
theorem dX10_breaks_5 : decode cX10_breaks 5 = .ok (.aload_n 0, 1) := by decide +kernel
theorem dX10_breaks_6 : decode cX10_breaks 6 = .ok (.iload_n 2, 1) := by decide +kernel
theorem dX10_breaks_7 : decode cX10_breaks 7 = .ok (.putfield 240, 3) := by decide +kernel
theorem dX10_breaks_10 : decode cX10_breaks 10 = .ok (.iconst 0, 1) := by decide +kernel
theorem dX10_breaks_11 : decode cX10_breaks 11 = .ok (.ireturn, 1) := by decide +kernel
set_option maxRecDepth 20000 in
theorem ggX10_fitsForm_X10_isDigit : GoodIn wsX10_fitsForm wsX10_isDigit := goodIn_r _ [4] (by decide +kernel) (by decide +kernel)
set_option maxRecDepth 20000 in
theorem gX10_fitsForm_X10_isDigit : GoodIn wsX10_fitsForm (va_wsS RX10 243 yX10_isDigit wsX10_isDigit) := goodIn_app (goodIn_of _ (by decide +kernel)) ggX10_fitsForm_X10_isDigit
set_option maxRecDepth 20000 in
theorem ggX10_fitsForm_X10_isSmall : GoodIn wsX10_fitsForm wsX10_isSmall := goodIn_r _ [7] (by decide +kernel) (by decide +kernel)
set_option maxRecDepth 20000 in
theorem gX10_fitsForm_X10_isSmall : GoodIn wsX10_fitsForm (va_wsS RX10 116 yX10_isSmall wsX10_isSmall) := goodIn_app (goodIn_of _ (by decide +kernel)) ggX10_fitsForm_X10_isSmall
set_option maxRecDepth 20000 in
theorem ggX10_fitsForm_X10_romanLetter : GoodIn wsX10_fitsForm wsX10_romanLetter := goodIn_r _ [10] (by decide +kernel) (by decide +kernel)
set_option maxRecDepth 20000 in
theorem gX10_fitsForm_X10_romanLetter : GoodIn wsX10_fitsForm (va_wsS RX10 216 yX10_romanLetter wsX10_romanLetter) := goodIn_app (goodIn_of _ (by decide +kernel)) ggX10_fitsForm_X10_romanLetter
theorem dX10_fitsForm_0 : decode cX10_fitsForm 0 = .ok (.iload_n 1, 1) := by decide +kernel
theorem dX10_fitsForm_1 : decode cX10_fitsForm 1 = .ok (.ifCond .ne 8, 3) := by decide +kernel
theorem dX10_fitsForm_4 : decode cX10_fitsForm 4 = .ok (.iload_n 0, 1) := by decide +kernel
theorem dX10_fitsForm_5 : decode cX10_fitsForm 5 = .ok (.invokestatic 243, 3) := by decide +kernel
theorem dX10_fitsForm_8 : decode cX10_fitsForm 8 = .ok (.ireturn, 1) := by decide +kernel
theorem dX10_fitsForm_9 : decode cX10_fitsForm 9 = .ok (.iload_n 1, 1) := by decide +kernel
theorem dX10_fitsForm_10 : decode cX10_fitsForm 10 = .ok (.iconst 2, 1) := by decide +kernel
theorem dX10_fitsForm_11 : decode cX10_fitsForm 11 = .ok (.if_icmp .ne 8, 3) := by decide +kernel
theorem dX10_fitsForm_14 : decode cX10_fitsForm 14 = .ok (.iload_n 0, 1) := by decide +kernel
theorem dX10_fitsForm_15 : decode cX10_fitsForm 15 = .ok (.invokestatic 116, 3) := by decide +kernel
theorem dX10_fitsForm_18 : decode cX10_fitsForm 18 = .ok (.ireturn, 1) := by decide +kernel
theorem dX10_fitsForm_19 : decode cX10_fitsForm 19 = .ok (.iload_n 1, 1) := by decide +kernel
theorem dX10_fitsForm_20 : decode cX10_fitsForm 20 = .ok (.iconst 3, 1) := by decide +kernel
theorem dX10_fitsForm_21 : decode cX10_fitsForm 21 = .ok (.if_icmp .ne 10, 3) := by decide +kernel
theorem dX10_fitsForm_24 : decode cX10_fitsForm 24 = .ok (.iload_n 0, 1) := by decide +kernel
theorem dX10_fitsForm_25 : decode cX10_fitsForm 25 = .ok (.bipush 32, 2) := by decide +kernel
theorem dX10_fitsForm_27 : decode cX10_fitsForm 27 = .ok (.isub, 1) := by decide +kernel
theorem dX10_fitsForm_28 : decode cX10_fitsForm 28 = .ok (.goto 4, 3) := by decide +kernel
theorem dX10_fitsForm_31 : decode cX10_fitsForm 31 = .ok (.iload_n 0, 1) := by decide +kernel
theorem dX10_fitsForm_32 : decode cX10_fitsForm 32 = .ok (.istore_n 2, 1) := by decide +kernel
theorem dX10_fitsForm_33 : decode cX10_fitsForm 33 = .ok (.iload_n 1, 1) := by decide +kernel
theorem dX10_fitsForm_34 : decode cX10_fitsForm 34 = .ok (.iconst 3, 1) := by decide +kernel
theorem dX10_fitsForm_35 : decode cX10_fitsForm 35 = .ok (.if_icmp .ne 12, 3) := by decide +kernel
theorem dX10_fitsForm_38 : decode cX10_fitsForm 38 = .ok (.iload_n 0, 1) := by decide +kernel
theorem dX10_fitsForm_39 : decode cX10_fitsForm 39 = .ok (.invokestatic 116, 3) := by decide +kernel
theorem dX10_fitsForm_42 : decode cX10_fitsForm 42 = .ok (.ifCond .ne 5, 3) := by decide +kernel
theorem dX10_fitsForm_45 : decode cX10_fitsForm 45 = .ok (.iconst 0, 1) := by decide +kernel
theorem dX10_fitsForm_46 : decode cX10_fitsForm 46 = .ok (.ireturn, 1) := by decide +kernel
theorem dX10_fitsForm_47 : decode cX10_fitsForm 47 = .ok (.iconst 1, 1) := by decide +kernel
theorem dX10_fitsForm_48 : decode cX10_fitsForm 48 = .ok (.istore_n 3, 1) := by decide +kernel
theorem dX10_fitsForm_49 : decode cX10_fitsForm 49 = .ok (.iload_n 3, 1) := by decide +kernel
theorem dX10_fitsForm_50 : decode cX10_fitsForm 50 = .ok (.bipush 8, 2) := by decide +kernel
theorem dX10_fitsForm_52 : decode cX10_fitsForm 52 = .ok (.if_icmp .ge 19, 3) := by decide +kernel
theorem dX10_fitsForm_55 : decode cX10_fitsForm 55 = .ok (.iload_n 3, 1) := by decide +kernel
theorem dX10_fitsForm_56 : decode cX10_fitsForm 56 = .ok (.invokestatic 216, 3) := by decide +kernel
theorem dX10_fitsForm_59 : decode cX10_fitsForm 59 = .ok (.iload_n 2, 1) := by decide +kernel
theorem dX10_fitsForm_60 : decode cX10_fitsForm 60 = .ok (.if_icmp .ne 5, 3) := by decide +kernel
theorem dX10_fitsForm_63 : decode cX10_fitsForm 63 = .ok (.iconst 1, 1) := by decide +kernel
theorem dX10_fitsForm_64 : decode cX10_fitsForm 64 = .ok (.ireturn, 1) := by decide +kernel
theorem dX10_fitsForm_65 : decode cX10_fitsForm 65 = .ok (.iinc 3 1, 3) := by decide +kernel
theorem dX10_fitsForm_68 : decode cX10_fitsForm 68 = .ok (.goto (-19), 3) := by decide +kernel
theorem dX10_fitsForm_71 : decode cX10_fitsForm 71 = .ok (.iconst 0, 1) := by decide +kernel
theorem dX10_fitsForm_72 : decode cX10_fitsForm 72 = .ok (.ireturn, 1) := by decide +kernel
theorem dX10_romanWorth_0 : decode cX10_romanWorth 0 = .ok (.iload_n 0, 1) := by decide +kernel
theorem dX10_romanWorth_1 : decode cX10_romanWorth 1 = .ok (.bipush 73, 2) := by decide +kernel
theorem dX10_romanWorth_3 : decode cX10_romanWorth 3 = .ok (.if_icmp .ne 7, 3) := by decide +kernel
theorem dX10_romanWorth_6 : decode cX10_romanWorth 6 = .ok (.iconst 1, 1) := by decide +kernel
theorem dX10_romanWorth_7 : decode cX10_romanWorth 7 = .ok (.goto 61, 3) := by decide +kernel
theorem dX10_romanWorth_10 : decode cX10_romanWorth 10 = .ok (.iload_n 0, 1) := by decide +kernel
theorem dX10_romanWorth_11 : decode cX10_romanWorth 11 = .ok (.bipush 86, 2) := by decide +kernel
theorem dX10_romanWorth_13 : decode cX10_romanWorth 13 = .ok (.if_icmp .ne 7, 3) := by decide +kernel
theorem dX10_romanWorth_16 : decode cX10_romanWorth 16 = .ok (.iconst 5, 1) := by decide +kernel
theorem dX10_romanWorth_17 : decode cX10_romanWorth 17 = .ok (.goto 51, 3) := by decide +kernel
theorem dX10_romanWorth_20 : decode cX10_romanWorth 20 = .ok (.iload_n 0, 1) := by decide +kernel
theorem dX10_romanWorth_21 : decode cX10_romanWorth 21 = .ok (.bipush 88, 2) := by decide +kernel
theorem dX10_romanWorth_23 : decode cX10_romanWorth 23 = .ok (.if_icmp .ne 8, 3) := by decide +kernel
theorem dX10_romanWorth_26 : decode cX10_romanWorth 26 = .ok (.bipush 10, 2) := by decide +kernel
theorem dX10_romanWorth_28 : decode cX10_romanWorth 28 = .ok (.goto 40, 3) := by decide +kernel
theorem dX10_romanWorth_31 : decode cX10_romanWorth 31 = .ok (.iload_n 0, 1) := by decide +kernel
theorem dX10_romanWorth_32 : decode cX10_romanWorth 32 = .ok (.bipush 76, 2) := by decide +kernel
theorem dX10_romanWorth_34 : decode cX10_romanWorth 34 = .ok (.if_icmp .ne 8, 3) := by decide +kernel
theorem dX10_romanWorth_37 : decode cX10_romanWorth 37 = .ok (.bipush 50, 2) := by decide +kernel
theorem dX10_romanWorth_39 : decode cX10_romanWorth 39 = .ok (.goto 29, 3) := by decide +kernel
theorem dX10_romanWorth_42 : decode cX10_romanWorth 42 = .ok (.iload_n 0, 1) := by decide +kernel
theorem dX10_romanWorth_43 : decode cX10_romanWorth 43 = .ok (.bipush 67, 2) := by decide +kernel
theorem dX10_romanWorth_45 : decode cX10_romanWorth 45 = .ok (.if_icmp .ne 8, 3) := by decide +kernel
theorem dX10_romanWorth_48 : decode cX10_romanWorth 48 = .ok (.bipush 100, 2) := by decide +kernel
theorem dX10_romanWorth_50 : decode cX10_romanWorth 50 = .ok (.goto 18, 3) := by decide +kernel
theorem dX10_romanWorth_53 : decode cX10_romanWorth 53 = .ok (.iload_n 0, 1) := by decide +kernel
theorem dX10_romanWorth_54 : decode cX10_romanWorth 54 = .ok (.bipush 68, 2) := by decide +kernel
theorem dX10_romanWorth_56 : decode cX10_romanWorth 56 = .ok (.if_icmp .ne 9, 3) := by decide +kernel
theorem dX10_romanWorth_59 : decode cX10_romanWorth 59 = .ok (.sipush 500, 3) := by decide +kernel
theorem dX10_romanWorth_62 : decode cX10_romanWorth 62 = .ok (.goto 6, 3) := by decide +kernel
theorem dX10_romanWorth_65 : decode cX10_romanWorth 65 = .ok (.sipush 1000, 3) := by decide +kernel
theorem dX10_romanWorth_68 : decode cX10_romanWorth 68 = .ok (.ireturn, 1) := by decide +kernel
set_option maxRecDepth 20000 in
theorem ggX10_readLabel_X10_peek : GoodIn wsX10_readLabel wsX10_peek := goodIn_r _ [11, 1, 12, 4, 76, 77, 78, 79, 80, 81, 82, 83, 84, 85, 86, 87, 88, 89, 90, 91, 92, 93, 94, 95, 96, 97, 98, 99, 100, 101, 102, 103, 104, 105, 106, 107, 108, 109, 110, 111, 112, 113, 114, 115, 116, 117] (by decide +kernel) (by decide +kernel)
set_option maxRecDepth 20000 in
theorem gX10_readLabel_X10_peek : GoodIn wsX10_readLabel (wsV RX10 105 RX10 yX10_peek wsX10_peek) := goodIn_app (goodIn_of _ (by decide +kernel)) ggX10_readLabel_X10_peek
set_option maxRecDepth 20000 in
theorem ggX10_readLabel_X10_fitsForm : GoodIn wsX10_readLabel wsX10_fitsForm := goodIn_r _ [15, 16, 17, 10, 18, 19, 20, 21, 22, 23, 24] (by decide +kernel) (by decide +kernel)
set_option maxRecDepth 20000 in
theorem gX10_readLabel_X10_fitsForm : GoodIn wsX10_readLabel (va_wsS RX10 246 yX10_fitsForm wsX10_fitsForm) := goodIn_app (goodIn_of _ (by decide +kernel)) ggX10_readLabel_X10_fitsForm
set_option maxRecDepth 20000 in
theorem ggX10_readLabel_X10_breaks : GoodIn wsX10_readLabel wsX10_breaks := goodIn_r _ [28, 29, 30, 76, 77, 78, 79, 80, 81, 82, 83, 84, 85, 86, 87, 88, 89, 90, 91, 92, 93, 94, 95, 96, 97, 98, 99, 100, 101, 102, 103, 104, 105, 106, 107, 108, 109, 110, 111, 112, 113, 114, 115, 116, 117] (by decide +kernel) (by decide +kernel)
set_option maxRecDepth 20000 in
theorem gX10_readLabel_X10_breaks : GoodIn wsX10_readLabel (wsV RX10 249 RX10 yX10_breaks wsX10_breaks) := goodIn_app (goodIn_of _ (by decide +kernel)) ggX10_readLabel_X10_breaks
set_option maxRecDepth 20000 in
theorem ggX10_readLabel_X10_romanWorth : GoodIn wsX10_readLabel wsX10_romanWorth := goodIn_r _ [33] (by decide +kernel) (by decide +kernel)
set_option maxRecDepth 20000 in
theorem gX10_readLabel_X10_romanWorth : GoodIn wsX10_readLabel (va_wsS RX10 252 yX10_romanWorth wsX10_romanWorth) := goodIn_app (goodIn_of _ (by decide +kernel)) ggX10_readLabel_X10_romanWorth
set_option maxRecDepth 20000 in
theorem ggX10_readLabel_X10_isGreat : GoodIn wsX10_readLabel wsX10_isGreat := goodIn_r _ [36] (by decide +kernel) (by decide +kernel)
set_option maxRecDepth 20000 in
theorem gX10_readLabel_X10_isGreat : GoodIn wsX10_readLabel (va_wsS RX10 206 yX10_isGreat wsX10_isGreat) := goodIn_app (goodIn_of _ (by decide +kernel)) ggX10_readLabel_X10_isGreat
set_option maxRecDepth 20000 in
theorem ggX10_readLabel_X10_suffixInHand : GoodIn wsX10_readLabel wsX10_suffixInHand := goodIn_r _ [40, 3, 76, 77, 78, 79, 80, 81, 82, 83, 84, 85, 86, 87, 88, 89, 90, 91, 92, 93, 94, 95, 96, 97, 98, 99, 100, 101, 102, 103, 104, 105, 106, 107, 108, 109, 110, 111, 112, 113, 114, 115, 116, 117] (by decide +kernel) (by decide +kernel)
set_option maxRecDepth 20000 in
theorem gX10_readLabel_X10_suffixInHand : GoodIn wsX10_readLabel (wsV RX10 178 RX10 yX10_suffixInHand wsX10_suffixInHand) := goodIn_app (goodIn_of _ (by decide +kernel)) ggX10_readLabel_X10_suffixInHand
set_option maxRecDepth 20000 in
theorem ggX10_readLabel_X10_isWritten : GoodIn wsX10_readLabel wsX10_isWritten := goodIn_r _ [44, 45, 46, 47, 6, 1, 4, 48, 49, 50, 10, 51, 5, 52, 53, 54, 55, 56, 57, 58, 59, 60, 61, 62, 63, 64, 65, 66, 67, 68, 69, 22, 23, 24, 70, 71, 72, 73, 74, 75, 76, 77, 78, 79, 80, 81, 82, 83, 84, 85, 86, 87, 88, 89, 90, 91, 92, 93, 94, 95, 96, 97, 98, 99, 100, 101, 102, 103, 104, 105, 106, 107, 108, 109, 110, 111, 112, 113, 114, 115, 116, 117] (by decide +kernel) (by decide +kernel)
set_option maxRecDepth 20000 in
theorem gX10_readLabel_X10_isWritten : GoodIn wsX10_readLabel (wsV RX10 259 RX10 yX10_isWritten wsX10_isWritten) := goodIn_app (goodIn_of _ (by decide +kernel)) ggX10_readLabel_X10_isWritten
theorem dX10_readLabel_0 : decode cX10_readLabel 0 = .ok (.aload_n 0, 1) := by decide +kernel
theorem dX10_readLabel_1 : decode cX10_readLabel 1 = .ok (.getfield 99, 3) := by decide +kernel
theorem dX10_readLabel_4 : decode cX10_readLabel 4 = .ok (.istore_n 2, 1) := by decide +kernel
theorem dX10_readLabel_5 : decode cX10_readLabel 5 = .ok (.aload_n 0, 1) := by decide +kernel
theorem dX10_readLabel_6 : decode cX10_readLabel 6 = .ok (.invokevirtual 105, 3) := by decide +kernel
theorem dX10_readLabel_9 : decode cX10_readLabel 9 = .ok (.iload_n 1, 1) := by decide +kernel
theorem dX10_readLabel_10 : decode cX10_readLabel 10 = .ok (.invokestatic 246, 3) := by decide +kernel
theorem dX10_readLabel_13 : decode cX10_readLabel 13 = .ok (.ifCond .ne 13, 3) := by decide +kernel
theorem dX10_readLabel_16 : decode cX10_readLabel 16 = .ok (.aload_n 0, 1) := by decide +kernel
theorem dX10_readLabel_17 : decode cX10_readLabel 17 = .ok (.iconst 1, 1) := by decide +kernel
theorem dX10_readLabel_18 : decode cX10_readLabel 18 = .ok (.aload_n 0, 1) := by decide +kernel
theorem dX10_readLabel_19 : decode cX10_readLabel 19 = .ok (.getfield 99, 3) := by decide +kernel
theorem dX10_readLabel_22 : decode cX10_readLabel 22 = .ok (.invokevirtual 249, 3) := by decide +kernel
theorem dX10_readLabel_25 : decode cX10_readLabel 25 = .ok (.ireturn, 1) := by decide +kernel
theorem dX10_readLabel_26 : decode cX10_readLabel 26 = .ok (.iconst 0, 1) := by decide +kernel
theorem dX10_readLabel_27 : decode cX10_readLabel 27 = .ok (.istore_n 3, 1) := by decide +kernel
theorem dX10_readLabel_28 : decode cX10_readLabel 28 = .ok (.iconst 0, 1) := by decide +kernel
theorem dX10_readLabel_29 : decode cX10_readLabel 29 = .ok (.istore 4, 2) := by decide +kernel
theorem dX10_readLabel_31 : decode cX10_readLabel 31 = .ok (.aload_n 0, 1) := by decide +kernel
theorem dX10_readLabel_32 : decode cX10_readLabel 32 = .ok (.invokevirtual 105, 3) := by decide +kernel
theorem dX10_readLabel_35 : decode cX10_readLabel 35 = .ok (.iload_n 1, 1) := by decide +kernel
theorem dX10_readLabel_36 : decode cX10_readLabel 36 = .ok (.invokestatic 246, 3) := by decide +kernel
theorem dX10_readLabel_39 : decode cX10_readLabel 39 = .ok (.ifCond .eq 118, 3) := by decide +kernel
theorem dX10_readLabel_42 : decode cX10_readLabel 42 = .ok (.aload_n 0, 1) := by decide +kernel
theorem dX10_readLabel_43 : decode cX10_readLabel 43 = .ok (.invokevirtual 105, 3) := by decide +kernel
theorem dX10_readLabel_46 : decode cX10_readLabel 46 = .ok (.istore 5, 2) := by decide +kernel
theorem dX10_readLabel_48 : decode cX10_readLabel 48 = .ok (.iload_n 1, 1) := by decide +kernel
theorem dX10_readLabel_49 : decode cX10_readLabel 49 = .ok (.ifCond .ne 17, 3) := by decide +kernel
theorem dX10_readLabel_52 : decode cX10_readLabel 52 = .ok (.bipush 10, 2) := by decide +kernel
theorem dX10_readLabel_54 : decode cX10_readLabel 54 = .ok (.iload_n 3, 1) := by decide +kernel
theorem dX10_readLabel_55 : decode cX10_readLabel 55 = .ok (.imul, 1) := by decide +kernel
theorem dX10_readLabel_56 : decode cX10_readLabel 56 = .ok (.iload 5, 2) := by decide +kernel
theorem dX10_readLabel_58 : decode cX10_readLabel 58 = .ok (.iadd, 1) := by decide +kernel
theorem dX10_readLabel_59 : decode cX10_readLabel 59 = .ok (.bipush 48, 2) := by decide +kernel
theorem dX10_readLabel_61 : decode cX10_readLabel 61 = .ok (.isub, 1) := by decide +kernel
theorem dX10_readLabel_62 : decode cX10_readLabel 62 = .ok (.istore_n 3, 1) := by decide +kernel
theorem dX10_readLabel_63 : decode cX10_readLabel 63 = .ok (.goto 68, 3) := by decide +kernel
theorem dX10_readLabel_66 : decode cX10_readLabel 66 = .ok (.iload_n 1, 1) := by decide +kernel
theorem dX10_readLabel_67 : decode cX10_readLabel 67 = .ok (.iconst 2, 1) := by decide +kernel
theorem dX10_readLabel_68 : decode cX10_readLabel 68 = .ok (.if_icmp .ne 17, 3) := by decide +kernel
theorem dX10_readLabel_71 : decode cX10_readLabel 71 = .ok (.bipush 26, 2) := by decide +kernel
theorem dX10_readLabel_73 : decode cX10_readLabel 73 = .ok (.iload_n 3, 1) := by decide +kernel
theorem dX10_readLabel_74 : decode cX10_readLabel 74 = .ok (.imul, 1) := by decide +kernel
theorem dX10_readLabel_75 : decode cX10_readLabel 75 = .ok (.iload 5, 2) := by decide +kernel
theorem dX10_readLabel_77 : decode cX10_readLabel 77 = .ok (.iadd, 1) := by decide +kernel
theorem dX10_readLabel_78 : decode cX10_readLabel 78 = .ok (.bipush 96, 2) := by decide +kernel
theorem dX10_readLabel_80 : decode cX10_readLabel 80 = .ok (.isub, 1) := by decide +kernel
theorem dX10_readLabel_81 : decode cX10_readLabel 81 = .ok (.istore_n 3, 1) := by decide +kernel
theorem dX10_readLabel_82 : decode cX10_readLabel 82 = .ok (.goto 49, 3) := by decide +kernel
theorem dX10_readLabel_85 : decode cX10_readLabel 85 = .ok (.iload_n 1, 1) := by decide +kernel
theorem dX10_readLabel_86 : decode cX10_readLabel 86 = .ok (.iconst 3, 1) := by decide +kernel
theorem dX10_readLabel_87 : decode cX10_readLabel 87 = .ok (.if_icmp .ne 11, 3) := by decide +kernel
theorem dX10_readLabel_90 : decode cX10_readLabel 90 = .ok (.iload 5, 2) := by decide +kernel
theorem dX10_readLabel_92 : decode cX10_readLabel 92 = .ok (.bipush 32, 2) := by decide +kernel
theorem dX10_readLabel_94 : decode cX10_readLabel 94 = .ok (.isub, 1) := by decide +kernel
theorem dX10_readLabel_95 : decode cX10_readLabel 95 = .ok (.goto 5, 3) := by decide +kernel
theorem dX10_readLabel_98 : decode cX10_readLabel 98 = .ok (.iload 5, 2) := by decide +kernel
theorem dX10_readLabel_100 : decode cX10_readLabel 100 = .ok (.invokestatic 252, 3) := by decide +kernel
theorem dX10_readLabel_103 : decode cX10_readLabel 103 = .ok (.istore 6, 2) := by decide +kernel
theorem dX10_readLabel_105 : decode cX10_readLabel 105 = .ok (.iload_n 3, 1) := by decide +kernel
theorem dX10_readLabel_106 : decode cX10_readLabel 106 = .ok (.iload 4, 2) := by decide +kernel
theorem dX10_readLabel_108 : decode cX10_readLabel 108 = .ok (.iload 6, 2) := by decide +kernel
theorem dX10_readLabel_110 : decode cX10_readLabel 110 = .ok (.if_icmp .ge 13, 3) := by decide +kernel
theorem dX10_readLabel_113 : decode cX10_readLabel 113 = .ok (.iload 6, 2) := by decide +kernel
theorem dX10_readLabel_115 : decode cX10_readLabel 115 = .ok (.iconst 2, 1) := by decide +kernel
theorem dX10_readLabel_116 : decode cX10_readLabel 116 = .ok (.iload 4, 2) := by decide +kernel
theorem dX10_readLabel_118 : decode cX10_readLabel 118 = .ok (.imul, 1) := by decide +kernel
theorem dX10_readLabel_119 : decode cX10_readLabel 119 = .ok (.isub, 1) := by decide +kernel
theorem dX10_readLabel_120 : decode cX10_readLabel 120 = .ok (.goto 5, 3) := by decide +kernel
theorem dX10_readLabel_123 : decode cX10_readLabel 123 = .ok (.iload 6, 2) := by decide +kernel
theorem dX10_readLabel_125 : decode cX10_readLabel 125 = .ok (.iadd, 1) := by decide +kernel
theorem dX10_readLabel_126 : decode cX10_readLabel 126 = .ok (.istore_n 3, 1) := by decide +kernel
theorem dX10_readLabel_127 : decode cX10_readLabel 127 = .ok (.iload 6, 2) := by decide +kernel
theorem dX10_readLabel_129 : decode cX10_readLabel 129 = .ok (.istore 4, 2) := by decide +kernel
theorem dX10_readLabel_131 : decode cX10_readLabel 131 = .ok (.iload_n 3, 1) := by decide +kernel
theorem dX10_readLabel_132 : decode cX10_readLabel 132 = .ok (.ldc 255, 2) := by decide +kernel
theorem dX10_readLabel_134 : decode cX10_readLabel 134 = .ok (.if_icmp .le 8, 3) := by decide +kernel
theorem dX10_readLabel_137 : decode cX10_readLabel 137 = .ok (.ldc 255, 2) := by decide +kernel
theorem dX10_readLabel_139 : decode cX10_readLabel 139 = .ok (.goto 4, 3) := by decide +kernel
theorem dX10_readLabel_142 : decode cX10_readLabel 142 = .ok (.iload_n 3, 1) := by decide +kernel
theorem dX10_readLabel_143 : decode cX10_readLabel 143 = .ok (.istore_n 3, 1) := by decide +kernel
theorem dX10_readLabel_144 : decode cX10_readLabel 144 = .ok (.aload_n 0, 1) := by decide +kernel
theorem dX10_readLabel_145 : decode cX10_readLabel 145 = .ok (.dup, 1) := by decide +kernel
theorem dX10_readLabel_146 : decode cX10_readLabel 146 = .ok (.getfield 99, 3) := by decide +kernel
theorem dX10_readLabel_149 : decode cX10_readLabel 149 = .ok (.iconst 1, 1) := by decide +kernel
theorem dX10_readLabel_150 : decode cX10_readLabel 150 = .ok (.iadd, 1) := by decide +kernel
theorem dX10_readLabel_151 : decode cX10_readLabel 151 = .ok (.putfield 99, 3) := by decide +kernel
theorem dX10_readLabel_154 : decode cX10_readLabel 154 = .ok (.goto (-123), 3) := by decide +kernel
theorem dX10_readLabel_157 : decode cX10_readLabel 157 = .ok (.iconst 0, 1) := by decide +kernel
theorem dX10_readLabel_158 : decode cX10_readLabel 158 = .ok (.istore 5, 2) := by decide +kernel
theorem dX10_readLabel_160 : decode cX10_readLabel 160 = .ok (.iload 5, 2) := by decide +kernel
theorem dX10_readLabel_162 : decode cX10_readLabel 162 = .ok (.iconst 4, 1) := by decide +kernel
theorem dX10_readLabel_163 : decode cX10_readLabel 163 = .ok (.if_icmp .ge 17, 3) := by decide +kernel
theorem dX10_readLabel_166 : decode cX10_readLabel 166 = .ok (.aload_n 0, 1) := by decide +kernel
theorem dX10_readLabel_167 : decode cX10_readLabel 167 = .ok (.getfield 68, 3) := by decide +kernel
theorem dX10_readLabel_170 : decode cX10_readLabel 170 = .ok (.iload 5, 2) := by decide +kernel
theorem dX10_readLabel_172 : decode cX10_readLabel 172 = .ok (.iconst 0, 1) := by decide +kernel
theorem dX10_readLabel_173 : decode cX10_readLabel 173 = .ok (.iastore, 1) := by decide +kernel
theorem dX10_readLabel_174 : decode cX10_readLabel 174 = .ok (.iinc 5 1, 3) := by decide +kernel
theorem dX10_readLabel_177 : decode cX10_readLabel 177 = .ok (.goto (-17), 3) := by decide +kernel
theorem dX10_readLabel_180 : decode cX10_readLabel 180 = .ok (.iconst 0, 1) := by decide +kernel
theorem dX10_readLabel_181 : decode cX10_readLabel 181 = .ok (.istore 5, 2) := by decide +kernel
theorem dX10_readLabel_183 : decode cX10_readLabel 183 = .ok (.iload_n 1, 1) := by decide +kernel
theorem dX10_readLabel_184 : decode cX10_readLabel 184 = .ok (.ifCond .eq 42, 3) := by decide +kernel
theorem dX10_readLabel_187 : decode cX10_readLabel 187 = .ok (.aload_n 0, 1) := by decide +kernel
theorem dX10_readLabel_188 : decode cX10_readLabel 188 = .ok (.invokevirtual 105, 3) := by decide +kernel
theorem dX10_readLabel_191 : decode cX10_readLabel 191 = .ok (.bipush 45, 2) := by decide +kernel
theorem dX10_readLabel_193 : decode cX10_readLabel 193 = .ok (.if_icmp .ne 33, 3) := by decide +kernel
theorem dX10_readLabel_196 : decode cX10_readLabel 196 = .ok (.aload_n 0, 1) := by decide +kernel
theorem dX10_readLabel_197 : decode cX10_readLabel 197 = .ok (.dup, 1) := by decide +kernel
theorem dX10_readLabel_198 : decode cX10_readLabel 198 = .ok (.getfield 99, 3) := by decide +kernel
theorem dX10_readLabel_201 : decode cX10_readLabel 201 = .ok (.iconst 1, 1) := by decide +kernel
theorem dX10_readLabel_202 : decode cX10_readLabel 202 = .ok (.iadd, 1) := by decide +kernel
theorem dX10_readLabel_203 : decode cX10_readLabel 203 = .ok (.putfield 99, 3) := by decide +kernel
theorem dX10_readLabel_206 : decode cX10_readLabel 206 = .ok (.aload_n 0, 1) := by decide +kernel
theorem dX10_readLabel_207 : decode cX10_readLabel 207 = .ok (.invokevirtual 105, 3) := by decide +kernel
theorem dX10_readLabel_210 : decode cX10_readLabel 210 = .ok (.invokestatic 206, 3) := by decide +kernel
theorem dX10_readLabel_213 : decode cX10_readLabel 213 = .ok (.ifCond .ne 13, 3) := by decide +kernel
theorem dX10_readLabel_216 : decode cX10_readLabel 216 = .ok (.aload_n 0, 1) := by decide +kernel
theorem dX10_readLabel_217 : decode cX10_readLabel 217 = .ok (.iconst 1, 1) := by decide +kernel
theorem dX10_readLabel_218 : decode cX10_readLabel 218 = .ok (.aload_n 0, 1) := by decide +kernel
theorem dX10_readLabel_219 : decode cX10_readLabel 219 = .ok (.getfield 99, 3) := by decide +kernel
theorem dX10_readLabel_222 : decode cX10_readLabel 222 = .ok (.invokevirtual 249, 3) := by decide +kernel
theorem dX10_readLabel_225 : decode cX10_readLabel 225 = .ok (.ireturn, 1) := by decide +kernel
theorem dX10_readLabel_226 : decode cX10_readLabel 226 = .ok (.iload_n 1, 1) := by decide +kernel
theorem dX10_readLabel_227 : decode cX10_readLabel 227 = .ok (.ifCond .eq 27, 3) := by decide +kernel
theorem dX10_readLabel_230 : decode cX10_readLabel 230 = .ok (.aload_n 0, 1) := by decide +kernel
theorem dX10_readLabel_231 : decode cX10_readLabel 231 = .ok (.getfield 99, 3) := by decide +kernel
theorem dX10_readLabel_234 : decode cX10_readLabel 234 = .ok (.iload_n 2, 1) := by decide +kernel
theorem dX10_readLabel_235 : decode cX10_readLabel 235 = .ok (.if_icmp .le 65, 3) := by decide +kernel
theorem dX10_readLabel_238 : decode cX10_readLabel 238 = .ok (.aload_n 0, 1) := by decide +kernel
theorem dX10_readLabel_239 : decode cX10_readLabel 239 = .ok (.getfield 7, 3) := by decide +kernel
theorem dX10_readLabel_242 : decode cX10_readLabel 242 = .ok (.aload_n 0, 1) := by decide +kernel
theorem dX10_readLabel_243 : decode cX10_readLabel 243 = .ok (.getfield 99, 3) := by decide +kernel
theorem dX10_readLabel_246 : decode cX10_readLabel 246 = .ok (.iconst 1, 1) := by decide +kernel
theorem dX10_readLabel_247 : decode cX10_readLabel 247 = .ok (.isub, 1) := by decide +kernel
theorem dX10_readLabel_248 : decode cX10_readLabel 248 = .ok (.baload, 1) := by decide +kernel
theorem dX10_readLabel_249 : decode cX10_readLabel 249 = .ok (.bipush 45, 2) := by decide +kernel
theorem dX10_readLabel_251 : decode cX10_readLabel 251 = .ok (.if_icmp .ne 49, 3) := by decide +kernel
theorem dX10_readLabel_254 : decode cX10_readLabel 254 = .ok (.aload_n 0, 1) := by decide +kernel
theorem dX10_readLabel_255 : decode cX10_readLabel 255 = .ok (.invokevirtual 105, 3) := by decide +kernel
theorem dX10_readLabel_258 : decode cX10_readLabel 258 = .ok (.invokestatic 206, 3) := by decide +kernel
theorem dX10_readLabel_261 : decode cX10_readLabel 261 = .ok (.ifCond .eq 39, 3) := by decide +kernel
theorem dX10_readLabel_264 : decode cX10_readLabel 264 = .ok (.iload 5, 2) := by decide +kernel
theorem dX10_readLabel_266 : decode cX10_readLabel 266 = .ok (.iconst 4, 1) := by decide +kernel
theorem dX10_readLabel_267 : decode cX10_readLabel 267 = .ok (.if_icmp .ge 17, 3) := by decide +kernel
theorem dX10_readLabel_270 : decode cX10_readLabel 270 = .ok (.aload_n 0, 1) := by decide +kernel
theorem dX10_readLabel_271 : decode cX10_readLabel 271 = .ok (.getfield 68, 3) := by decide +kernel
theorem dX10_readLabel_274 : decode cX10_readLabel 274 = .ok (.iload 5, 2) := by decide +kernel
theorem dX10_readLabel_276 : decode cX10_readLabel 276 = .ok (.aload_n 0, 1) := by decide +kernel
theorem dX10_readLabel_277 : decode cX10_readLabel 277 = .ok (.invokevirtual 105, 3) := by decide +kernel
theorem dX10_readLabel_280 : decode cX10_readLabel 280 = .ok (.bipush 64, 2) := by decide +kernel
theorem dX10_readLabel_282 : decode cX10_readLabel 282 = .ok (.isub, 1) := by decide +kernel
theorem dX10_readLabel_283 : decode cX10_readLabel 283 = .ok (.iastore, 1) := by decide +kernel
theorem dX10_readLabel_284 : decode cX10_readLabel 284 = .ok (.iinc 5 1, 3) := by decide +kernel
theorem dX10_readLabel_287 : decode cX10_readLabel 287 = .ok (.aload_n 0, 1) := by decide +kernel
theorem dX10_readLabel_288 : decode cX10_readLabel 288 = .ok (.dup, 1) := by decide +kernel
theorem dX10_readLabel_289 : decode cX10_readLabel 289 = .ok (.getfield 99, 3) := by decide +kernel
theorem dX10_readLabel_292 : decode cX10_readLabel 292 = .ok (.iconst 1, 1) := by decide +kernel
theorem dX10_readLabel_293 : decode cX10_readLabel 293 = .ok (.iadd, 1) := by decide +kernel
theorem dX10_readLabel_294 : decode cX10_readLabel 294 = .ok (.putfield 99, 3) := by decide +kernel
theorem dX10_readLabel_297 : decode cX10_readLabel 297 = .ok (.goto (-43), 3) := by decide +kernel
theorem dX10_readLabel_300 : decode cX10_readLabel 300 = .ok (.iload_n 3, 1) := by decide +kernel
theorem dX10_readLabel_301 : decode cX10_readLabel 301 = .ok (.iconst 1, 1) := by decide +kernel
theorem dX10_readLabel_302 : decode cX10_readLabel 302 = .ok (.if_icmp .lt 16, 3) := by decide +kernel
theorem dX10_readLabel_305 : decode cX10_readLabel 305 = .ok (.iload_n 3, 1) := by decide +kernel
theorem dX10_readLabel_306 : decode cX10_readLabel 306 = .ok (.sipush 999, 3) := by decide +kernel
theorem dX10_readLabel_309 : decode cX10_readLabel 309 = .ok (.if_icmp .gt 9, 3) := by decide +kernel
theorem dX10_readLabel_312 : decode cX10_readLabel 312 = .ok (.iload 5, 2) := by decide +kernel
theorem dX10_readLabel_314 : decode cX10_readLabel 314 = .ok (.iconst 4, 1) := by decide +kernel
theorem dX10_readLabel_315 : decode cX10_readLabel 315 = .ok (.if_icmp .le 10, 3) := by decide +kernel
theorem dX10_readLabel_318 : decode cX10_readLabel 318 = .ok (.aload_n 0, 1) := by decide +kernel
theorem dX10_readLabel_319 : decode cX10_readLabel 319 = .ok (.iconst 2, 1) := by decide +kernel
theorem dX10_readLabel_320 : decode cX10_readLabel 320 = .ok (.iload_n 2, 1) := by decide +kernel
theorem dX10_readLabel_321 : decode cX10_readLabel 321 = .ok (.invokevirtual 249, 3) := by decide +kernel
theorem dX10_readLabel_324 : decode cX10_readLabel 324 = .ok (.ireturn, 1) := by decide +kernel
theorem dX10_readLabel_325 : decode cX10_readLabel 325 = .ok (.aload_n 0, 1) := by decide +kernel
theorem dX10_readLabel_326 : decode cX10_readLabel 326 = .ok (.iload_n 3, 1) := by decide +kernel
theorem dX10_readLabel_327 : decode cX10_readLabel 327 = .ok (.ldc 173, 2) := by decide +kernel
theorem dX10_readLabel_329 : decode cX10_readLabel 329 = .ok (.imul, 1) := by decide +kernel
theorem dX10_readLabel_330 : decode cX10_readLabel 330 = .ok (.aload_n 0, 1) := by decide +kernel
theorem dX10_readLabel_331 : decode cX10_readLabel 331 = .ok (.invokevirtual 178, 3) := by decide +kernel
theorem dX10_readLabel_334 : decode cX10_readLabel 334 = .ok (.iadd, 1) := by decide +kernel
theorem dX10_readLabel_335 : decode cX10_readLabel 335 = .ok (.putfield 256, 3) := by decide +kernel
theorem dX10_readLabel_338 : decode cX10_readLabel 338 = .ok (.aload_n 0, 1) := by decide +kernel
theorem dX10_readLabel_339 : decode cX10_readLabel 339 = .ok (.iload_n 2, 1) := by decide +kernel
theorem dX10_readLabel_340 : decode cX10_readLabel 340 = .ok (.iload_n 1, 1) := by decide +kernel
theorem dX10_readLabel_341 : decode cX10_readLabel 341 = .ok (.invokevirtual 259, 3) := by decide +kernel
theorem dX10_readLabel_344 : decode cX10_readLabel 344 = .ok (.ifCond .ne 12, 3) := by decide +kernel
theorem dX10_readLabel_347 : decode cX10_readLabel 347 = .ok (.aload_n 0, 1) := by decide +kernel
theorem dX10_readLabel_348 : decode cX10_readLabel 348 = .ok (.iconst 2, 1) := by decide +kernel
theorem dX10_readLabel_349 : decode cX10_readLabel 349 = .ok (.iload_n 2, 1) := by decide +kernel
theorem dX10_readLabel_350 : decode cX10_readLabel 350 = .ok (.invokevirtual 249, 3) := by decide +kernel
theorem dX10_readLabel_353 : decode cX10_readLabel 353 = .ok (.ifCond .eq 7, 3) := by decide +kernel
theorem dX10_readLabel_356 : decode cX10_readLabel 356 = .ok (.iconst 1, 1) := by decide +kernel
theorem dX10_readLabel_357 : decode cX10_readLabel 357 = .ok (.goto 4, 3) := by decide +kernel
theorem dX10_readLabel_360 : decode cX10_readLabel 360 = .ok (.iconst 0, 1) := by decide +kernel
theorem dX10_readLabel_361 : decode cX10_readLabel 361 = .ok (.ireturn, 1) := by decide +kernel
set_option maxRecDepth 20000 in
theorem ggX10_isWritten_X10_write : GoodIn wsX10_isWritten wsX10_write := goodIn_r _ [11, 12, 13, 14, 15, 10, 16, 17, 18, 19, 20, 3, 1, 21, 22, 23, 24, 25, 26, 27, 28, 29, 30, 31, 32, 33, 34, 35, 36, 37, 38, 39, 40, 41, 42, 43, 44, 45, 46, 47, 48, 49, 50, 51, 52, 53, 54, 55, 56, 57, 58, 59, 60, 61, 62, 63, 64, 65, 66, 67, 68, 69, 70, 71, 72, 73, 74, 75, 76, 77, 78, 79, 80, 81] (by decide +kernel) (by decide +kernel)
set_option maxRecDepth 20000 in
theorem gX10_isWritten_X10_write : GoodIn wsX10_isWritten (wsV RX10 231 RX10 yX10_write wsX10_write) := goodIn_app (goodIn_of _ (by decide +kernel)) ggX10_isWritten_X10_write
theorem dX10_isWritten_0 : decode cX10_isWritten 0 = .ok (.aload_n 0, 1) := by decide +kernel
theorem dX10_isWritten_1 : decode cX10_isWritten 1 = .ok (.getfield 213, 3) := by decide +kernel
theorem dX10_isWritten_4 : decode cX10_isWritten 4 = .ok (.istore_n 3, 1) := by decide +kernel
theorem dX10_isWritten_5 : decode cX10_isWritten 5 = .ok (.iconst 0, 1) := by decide +kernel
theorem dX10_isWritten_6 : decode cX10_isWritten 6 = .ok (.istore 4, 2) := by decide +kernel
theorem dX10_isWritten_8 : decode cX10_isWritten 8 = .ok (.iload 4, 2) := by decide +kernel
theorem dX10_isWritten_10 : decode cX10_isWritten 10 = .ok (.iload_n 3, 1) := by decide +kernel
theorem dX10_isWritten_11 : decode cX10_isWritten 11 = .ok (.if_icmp .ge 23, 3) := by decide +kernel
theorem dX10_isWritten_14 : decode cX10_isWritten 14 = .ok (.aload_n 0, 1) := by decide +kernel
theorem dX10_isWritten_15 : decode cX10_isWritten 15 = .ok (.getfield 80, 3) := by decide +kernel
theorem dX10_isWritten_18 : decode cX10_isWritten 18 = .ok (.iload 4, 2) := by decide +kernel
theorem dX10_isWritten_20 : decode cX10_isWritten 20 = .ok (.aload_n 0, 1) := by decide +kernel
theorem dX10_isWritten_21 : decode cX10_isWritten 21 = .ok (.getfield 71, 3) := by decide +kernel
theorem dX10_isWritten_24 : decode cX10_isWritten 24 = .ok (.iload 4, 2) := by decide +kernel
theorem dX10_isWritten_26 : decode cX10_isWritten 26 = .ok (.baload, 1) := by decide +kernel
theorem dX10_isWritten_27 : decode cX10_isWritten 27 = .ok (.bastore, 1) := by decide +kernel
theorem dX10_isWritten_28 : decode cX10_isWritten 28 = .ok (.iinc 4 1, 3) := by decide +kernel
theorem dX10_isWritten_31 : decode cX10_isWritten 31 = .ok (.goto (-23), 3) := by decide +kernel
theorem dX10_isWritten_34 : decode cX10_isWritten 34 = .ok (.aload_n 0, 1) := by decide +kernel
theorem dX10_isWritten_35 : decode cX10_isWritten 35 = .ok (.iconst 0, 1) := by decide +kernel
theorem dX10_isWritten_36 : decode cX10_isWritten 36 = .ok (.putfield 213, 3) := by decide +kernel
theorem dX10_isWritten_39 : decode cX10_isWritten 39 = .ok (.aload_n 0, 1) := by decide +kernel
theorem dX10_isWritten_40 : decode cX10_isWritten 40 = .ok (.aload_n 0, 1) := by decide +kernel
theorem dX10_isWritten_41 : decode cX10_isWritten 41 = .ok (.getfield 256, 3) := by decide +kernel
theorem dX10_isWritten_44 : decode cX10_isWritten 44 = .ok (.iload_n 2, 1) := by decide +kernel
theorem dX10_isWritten_45 : decode cX10_isWritten 45 = .ok (.invokevirtual 231, 3) := by decide +kernel
theorem dX10_isWritten_48 : decode cX10_isWritten 48 = .ok (.aload_n 0, 1) := by decide +kernel
theorem dX10_isWritten_49 : decode cX10_isWritten 49 = .ok (.getfield 213, 3) := by decide +kernel
theorem dX10_isWritten_52 : decode cX10_isWritten 52 = .ok (.aload_n 0, 1) := by decide +kernel
theorem dX10_isWritten_53 : decode cX10_isWritten 53 = .ok (.getfield 99, 3) := by decide +kernel
theorem dX10_isWritten_56 : decode cX10_isWritten 56 = .ok (.iload_n 1, 1) := by decide +kernel
theorem dX10_isWritten_57 : decode cX10_isWritten 57 = .ok (.isub, 1) := by decide +kernel
theorem dX10_isWritten_58 : decode cX10_isWritten 58 = .ok (.if_icmp .ne 7, 3) := by decide +kernel
theorem dX10_isWritten_61 : decode cX10_isWritten 61 = .ok (.iconst 1, 1) := by decide +kernel
theorem dX10_isWritten_62 : decode cX10_isWritten 62 = .ok (.goto 4, 3) := by decide +kernel
theorem dX10_isWritten_65 : decode cX10_isWritten 65 = .ok (.iconst 0, 1) := by decide +kernel
theorem dX10_isWritten_66 : decode cX10_isWritten 66 = .ok (.istore 4, 2) := by decide +kernel
theorem dX10_isWritten_68 : decode cX10_isWritten 68 = .ok (.iconst 0, 1) := by decide +kernel
theorem dX10_isWritten_69 : decode cX10_isWritten 69 = .ok (.istore 5, 2) := by decide +kernel
theorem dX10_isWritten_71 : decode cX10_isWritten 71 = .ok (.iload 5, 2) := by decide +kernel
theorem dX10_isWritten_73 : decode cX10_isWritten 73 = .ok (.aload_n 0, 1) := by decide +kernel
theorem dX10_isWritten_74 : decode cX10_isWritten 74 = .ok (.getfield 213, 3) := by decide +kernel
theorem dX10_isWritten_77 : decode cX10_isWritten 77 = .ok (.if_icmp .ge 40, 3) := by decide +kernel
theorem dX10_isWritten_80 : decode cX10_isWritten 80 = .ok (.iload 4, 2) := by decide +kernel
theorem dX10_isWritten_82 : decode cX10_isWritten 82 = .ok (.ifCond .eq 35, 3) := by decide +kernel
theorem dX10_isWritten_85 : decode cX10_isWritten 85 = .ok (.aload_n 0, 1) := by decide +kernel
theorem dX10_isWritten_86 : decode cX10_isWritten 86 = .ok (.getfield 71, 3) := by decide +kernel
theorem dX10_isWritten_89 : decode cX10_isWritten 89 = .ok (.iload 5, 2) := by decide +kernel
theorem dX10_isWritten_91 : decode cX10_isWritten 91 = .ok (.baload, 1) := by decide +kernel
theorem dX10_isWritten_92 : decode cX10_isWritten 92 = .ok (.aload_n 0, 1) := by decide +kernel
theorem dX10_isWritten_93 : decode cX10_isWritten 93 = .ok (.getfield 7, 3) := by decide +kernel
theorem dX10_isWritten_96 : decode cX10_isWritten 96 = .ok (.iload_n 1, 1) := by decide +kernel
theorem dX10_isWritten_97 : decode cX10_isWritten 97 = .ok (.iload 5, 2) := by decide +kernel
theorem dX10_isWritten_99 : decode cX10_isWritten 99 = .ok (.iadd, 1) := by decide +kernel
theorem dX10_isWritten_100 : decode cX10_isWritten 100 = .ok (.baload, 1) := by decide +kernel
theorem dX10_isWritten_101 : decode cX10_isWritten 101 = .ok (.if_icmp .ne 7, 3) := by decide +kernel
theorem dX10_isWritten_104 : decode cX10_isWritten 104 = .ok (.iconst 1, 1) := by decide +kernel
theorem dX10_isWritten_105 : decode cX10_isWritten 105 = .ok (.goto 4, 3) := by decide +kernel
theorem dX10_isWritten_108 : decode cX10_isWritten 108 = .ok (.iconst 0, 1) := by decide +kernel
theorem dX10_isWritten_109 : decode cX10_isWritten 109 = .ok (.istore 4, 2) := by decide +kernel
theorem dX10_isWritten_111 : decode cX10_isWritten 111 = .ok (.iinc 5 1, 3) := by decide +kernel
theorem dX10_isWritten_114 : decode cX10_isWritten 114 = .ok (.goto (-43), 3) := by decide +kernel
theorem dX10_isWritten_117 : decode cX10_isWritten 117 = .ok (.iconst 0, 1) := by decide +kernel
theorem dX10_isWritten_118 : decode cX10_isWritten 118 = .ok (.istore 5, 2) := by decide +kernel
theorem dX10_isWritten_120 : decode cX10_isWritten 120 = .ok (.iload 5, 2) := by decide +kernel
theorem dX10_isWritten_122 : decode cX10_isWritten 122 = .ok (.iload_n 3, 1) := by decide +kernel
theorem dX10_isWritten_123 : decode cX10_isWritten 123 = .ok (.if_icmp .ge 23, 3) := by decide +kernel
theorem dX10_isWritten_126 : decode cX10_isWritten 126 = .ok (.aload_n 0, 1) := by decide +kernel
theorem dX10_isWritten_127 : decode cX10_isWritten 127 = .ok (.getfield 71, 3) := by decide +kernel
theorem dX10_isWritten_130 : decode cX10_isWritten 130 = .ok (.iload 5, 2) := by decide +kernel
theorem dX10_isWritten_132 : decode cX10_isWritten 132 = .ok (.aload_n 0, 1) := by decide +kernel
theorem dX10_isWritten_133 : decode cX10_isWritten 133 = .ok (.getfield 80, 3) := by decide +kernel
theorem dX10_isWritten_136 : decode cX10_isWritten 136 = .ok (.iload 5, 2) := by decide +kernel
theorem dX10_isWritten_138 : decode cX10_isWritten 138 = .ok (.baload, 1) := by decide +kernel
theorem dX10_isWritten_139 : decode cX10_isWritten 139 = .ok (.bastore, 1) := by decide +kernel
theorem dX10_isWritten_140 : decode cX10_isWritten 140 = .ok (.iinc 5 1, 3) := by decide +kernel
theorem dX10_isWritten_143 : decode cX10_isWritten 143 = .ok (.goto (-23), 3) := by decide +kernel
theorem dX10_isWritten_146 : decode cX10_isWritten 146 = .ok (.aload_n 0, 1) := by decide +kernel
theorem dX10_isWritten_147 : decode cX10_isWritten 147 = .ok (.iload_n 3, 1) := by decide +kernel
theorem dX10_isWritten_148 : decode cX10_isWritten 148 = .ok (.putfield 213, 3) := by decide +kernel
theorem dX10_isWritten_151 : decode cX10_isWritten 151 = .ok (.iload 4, 2) := by decide +kernel
theorem dX10_isWritten_153 : decode cX10_isWritten 153 = .ok (.ireturn, 1) := by decide +kernel
set_option maxRecDepth 20000 in
theorem ggX10_readCitation_X10_readLabel : GoodIn wsX10_readCitation wsX10_readLabel := goodIn_r _ [11, 4, 12, 13, 14, 15, 3, 16, 17, 18, 10, 19, 5, 20, 21, 22, 23, 24, 25, 26, 27, 28, 29, 30, 31, 32, 33, 34, 35, 36, 37, 38, 39, 40, 41, 42, 43, 44, 45, 46, 47, 48, 49, 50, 51, 52, 53, 54, 55, 56, 57, 58, 59, 60, 61, 62, 63, 64, 65, 66, 67, 68, 69, 70, 71, 72, 73, 74, 75, 76, 77, 78, 79, 80, 81, 82, 83, 84, 85, 86, 87, 88, 89, 90, 91, 92, 93, 94, 95, 96, 97, 98, 99, 100, 101, 102, 103, 104, 105, 106, 107, 108, 109, 110, 111, 112, 113, 114, 115, 116, 117, 118, 119, 120, 121, 122, 123, 124] (by decide +kernel) (by decide +kernel)
set_option maxRecDepth 20000 in
theorem gX10_readCitation_X10_readLabel : GoodIn wsX10_readCitation (wsV RX10 262 RX10 yX10_readLabel wsX10_readLabel) := goodIn_app (goodIn_of _ (by decide +kernel)) ggX10_readCitation_X10_readLabel
set_option maxRecDepth 20000 in
theorem ggX10_readCitation_X10_peek : GoodIn wsX10_readCitation wsX10_peek := goodIn_r _ [19, 4, 5, 14, 83, 84, 85, 86, 87, 88, 89, 90, 91, 92, 93, 94, 95, 96, 97, 98, 99, 100, 101, 102, 103, 104, 105, 106, 107, 108, 109, 110, 111, 112, 113, 114, 115, 116, 117, 118, 119, 120, 121, 122, 123, 124] (by decide +kernel) (by decide +kernel)
set_option maxRecDepth 20000 in
theorem gX10_readCitation_X10_peek : GoodIn wsX10_readCitation (wsV RX10 105 RX10 yX10_peek wsX10_peek) := goodIn_app (goodIn_of _ (by decide +kernel)) ggX10_readCitation_X10_peek
set_option maxRecDepth 20000 in
theorem ggX10_readCitation_X10_breaks : GoodIn wsX10_readCitation wsX10_breaks := goodIn_r _ [35, 36, 37, 83, 84, 85, 86, 87, 88, 89, 90, 91, 92, 93, 94, 95, 96, 97, 98, 99, 100, 101, 102, 103, 104, 105, 106, 107, 108, 109, 110, 111, 112, 113, 114, 115, 116, 117, 118, 119, 120, 121, 122, 123, 124] (by decide +kernel) (by decide +kernel)
set_option maxRecDepth 20000 in
theorem gX10_readCitation_X10_breaks : GoodIn wsX10_readCitation (wsV RX10 249 RX10 yX10_breaks wsX10_breaks) := goodIn_app (goodIn_of _ (by decide +kernel)) ggX10_readCitation_X10_breaks
theorem dX10_readCitation_0 : decode cX10_readCitation 0 = .ok (.iconst 0, 1) := by decide +kernel
theorem dX10_readCitation_1 : decode cX10_readCitation 1 = .ok (.istore_n 1, 1) := by decide +kernel
theorem dX10_readCitation_2 : decode cX10_readCitation 2 = .ok (.aload_n 0, 1) := by decide +kernel
theorem dX10_readCitation_3 : decode cX10_readCitation 3 = .ok (.aload_n 0, 1) := by decide +kernel
theorem dX10_readCitation_4 : decode cX10_readCitation 4 = .ok (.getfield 13, 3) := by decide +kernel
theorem dX10_readCitation_7 : decode cX10_readCitation 7 = .ok (.iload_n 1, 1) := by decide +kernel
theorem dX10_readCitation_8 : decode cX10_readCitation 8 = .ok (.iaload, 1) := by decide +kernel
theorem dX10_readCitation_9 : decode cX10_readCitation 9 = .ok (.invokevirtual 262, 3) := by decide +kernel
theorem dX10_readCitation_12 : decode cX10_readCitation 12 = .ok (.ifCond .ne 5, 3) := by decide +kernel
theorem dX10_readCitation_15 : decode cX10_readCitation 15 = .ok (.iconst (-1), 1) := by decide +kernel
theorem dX10_readCitation_16 : decode cX10_readCitation 16 = .ok (.ireturn, 1) := by decide +kernel
theorem dX10_readCitation_17 : decode cX10_readCitation 17 = .ok (.aload_n 0, 1) := by decide +kernel
theorem dX10_readCitation_18 : decode cX10_readCitation 18 = .ok (.getfield 83, 3) := by decide +kernel
theorem dX10_readCitation_21 : decode cX10_readCitation 21 = .ok (.iload_n 1, 1) := by decide +kernel
theorem dX10_readCitation_22 : decode cX10_readCitation 22 = .ok (.aload_n 0, 1) := by decide +kernel
theorem dX10_readCitation_23 : decode cX10_readCitation 23 = .ok (.getfield 256, 3) := by decide +kernel
theorem dX10_readCitation_26 : decode cX10_readCitation 26 = .ok (.iastore, 1) := by decide +kernel
theorem dX10_readCitation_27 : decode cX10_readCitation 27 = .ok (.iinc 1 1, 3) := by decide +kernel
theorem dX10_readCitation_30 : decode cX10_readCitation 30 = .ok (.aload_n 0, 1) := by decide +kernel
theorem dX10_readCitation_31 : decode cX10_readCitation 31 = .ok (.getfield 99, 3) := by decide +kernel
theorem dX10_readCitation_34 : decode cX10_readCitation 34 = .ok (.aload_n 0, 1) := by decide +kernel
theorem dX10_readCitation_35 : decode cX10_readCitation 35 = .ok (.getfield 96, 3) := by decide +kernel
theorem dX10_readCitation_38 : decode cX10_readCitation 38 = .ok (.if_icmp .ne 5, 3) := by decide +kernel
theorem dX10_readCitation_41 : decode cX10_readCitation 41 = .ok (.iload_n 1, 1) := by decide +kernel
theorem dX10_readCitation_42 : decode cX10_readCitation 42 = .ok (.ireturn, 1) := by decide +kernel
theorem dX10_readCitation_43 : decode cX10_readCitation 43 = .ok (.aload_n 0, 1) := by decide +kernel
theorem dX10_readCitation_44 : decode cX10_readCitation 44 = .ok (.invokevirtual 105, 3) := by decide +kernel
theorem dX10_readCitation_47 : decode cX10_readCitation 47 = .ok (.bipush 46, 2) := by decide +kernel
theorem dX10_readCitation_49 : decode cX10_readCitation 49 = .ok (.if_icmp .ne 11, 3) := by decide +kernel
theorem dX10_readCitation_52 : decode cX10_readCitation 52 = .ok (.iload_n 1, 1) := by decide +kernel
theorem dX10_readCitation_53 : decode cX10_readCitation 53 = .ok (.aload_n 0, 1) := by decide +kernel
theorem dX10_readCitation_54 : decode cX10_readCitation 54 = .ok (.getfield 27, 3) := by decide +kernel
theorem dX10_readCitation_57 : decode cX10_readCitation 57 = .ok (.if_icmp .ne 15, 3) := by decide +kernel
theorem dX10_readCitation_60 : decode cX10_readCitation 60 = .ok (.aload_n 0, 1) := by decide +kernel
theorem dX10_readCitation_61 : decode cX10_readCitation 61 = .ok (.iconst 1, 1) := by decide +kernel
theorem dX10_readCitation_62 : decode cX10_readCitation 62 = .ok (.aload_n 0, 1) := by decide +kernel
theorem dX10_readCitation_63 : decode cX10_readCitation 63 = .ok (.getfield 99, 3) := by decide +kernel
theorem dX10_readCitation_66 : decode cX10_readCitation 66 = .ok (.invokevirtual 249, 3) := by decide +kernel
theorem dX10_readCitation_69 : decode cX10_readCitation 69 = .ok (.pop, 1) := by decide +kernel
theorem dX10_readCitation_70 : decode cX10_readCitation 70 = .ok (.iconst (-1), 1) := by decide +kernel
theorem dX10_readCitation_71 : decode cX10_readCitation 71 = .ok (.ireturn, 1) := by decide +kernel
theorem dX10_readCitation_72 : decode cX10_readCitation 72 = .ok (.aload_n 0, 1) := by decide +kernel
theorem dX10_readCitation_73 : decode cX10_readCitation 73 = .ok (.dup, 1) := by decide +kernel
theorem dX10_readCitation_74 : decode cX10_readCitation 74 = .ok (.getfield 99, 3) := by decide +kernel
theorem dX10_readCitation_77 : decode cX10_readCitation 77 = .ok (.iconst 1, 1) := by decide +kernel
theorem dX10_readCitation_78 : decode cX10_readCitation 78 = .ok (.iadd, 1) := by decide +kernel
theorem dX10_readCitation_79 : decode cX10_readCitation 79 = .ok (.putfield 99, 3) := by decide +kernel
theorem dX10_readCitation_82 : decode cX10_readCitation 82 = .ok (.goto (-80), 3) := by decide +kernel
set_option maxRecDepth 20000 in
theorem ggX10_cite_X10_taken : GoodIn wsX10_cite wsX10_taken := goodIn_r _ [15, 16, 17, 18, 112, 113, 114, 115, 116, 117, 118, 119, 120, 121, 122, 123, 124, 125, 126, 127, 128, 129, 130, 131, 132, 133, 134, 135, 136, 137, 138, 139, 140, 141, 142, 143, 144, 145, 146, 147, 148, 149, 150, 151, 152, 153] (by decide +kernel) (by decide +kernel)
set_option maxRecDepth 20000 in
theorem gX10_cite_X10_taken : GoodIn wsX10_cite (wsV RX10 151 RX10 yX10_taken wsX10_taken) := goodIn_app (goodIn_of _ (by decide +kernel)) ggX10_cite_X10_taken
set_option maxRecDepth 20000 in
theorem ggX10_cite_X10_readCitation : GoodIn wsX10_cite wsX10_readCitation := goodIn_r _ [22, 23, 10, 24, 18, 17, 25, 26, 27, 28, 14, 29, 30, 31, 32, 33, 34, 35, 36, 37, 38, 39, 40, 41, 42, 43, 44, 45, 46, 47, 48, 49, 50, 51, 52, 53, 4, 5, 54, 55, 56, 57, 58, 59, 60, 61, 62, 63, 64, 65, 66, 67, 68, 69, 70, 71, 72, 73, 74, 75, 76, 77, 78, 79, 80, 81, 82, 83, 84, 85, 86, 87, 88, 89, 90, 91, 92, 93, 94, 95, 96, 97, 98, 112, 113, 114, 115, 116, 117, 118, 119, 120, 121, 122, 123, 124, 125, 126, 127, 128, 129, 130, 131, 132, 133, 134, 135, 136, 137, 138, 139, 140, 141, 142, 143, 144, 145, 146, 147, 148, 149, 150, 151, 152, 153] (by decide +kernel) (by decide +kernel)
set_option maxRecDepth 20000 in
theorem gX10_cite_X10_readCitation : GoodIn wsX10_cite (wsV RX10 265 RX10 yX10_readCitation wsX10_readCitation) := goodIn_app (goodIn_of _ (by decide +kernel)) ggX10_cite_X10_readCitation
set_option maxRecDepth 20000 in
theorem ggX10_cite_X10_over : GoodIn wsX10_cite wsX10_over := goodIn_r _ [102, 9, 103, 112, 113, 114, 115, 116, 117, 118, 119, 120, 121, 122, 123, 124, 125, 126, 127, 128, 129, 130, 131, 132, 133, 134, 135, 136, 137, 138, 139, 140, 141, 142, 143, 144, 145, 146, 147, 148, 149, 150, 151, 152, 153] (by decide +kernel) (by decide +kernel)
set_option maxRecDepth 20000 in
theorem gX10_cite_X10_over : GoodIn wsX10_cite (wsV RX10 234 RX10 yX10_over wsX10_over) := goodIn_app (goodIn_of _ (by decide +kernel)) ggX10_cite_X10_over
set_option maxRecDepth 20000 in
theorem ggX10_cite_X10_labelOf : GoodIn wsX10_cite wsX10_labelOf := goodIn_r _ [107, 108, 109, 110, 111, 112, 113, 114, 115, 116, 117, 118, 119, 120, 121, 122, 123, 124, 125, 126, 127, 128, 129, 130, 131, 132, 133, 134, 135, 136, 137, 138, 139, 140, 141, 142, 143, 144, 145, 146, 147, 148, 149, 150, 151, 152, 153] (by decide +kernel) (by decide +kernel)
set_option maxRecDepth 20000 in
theorem gX10_cite_X10_labelOf : GoodIn wsX10_cite (wsV RX10 193 RX10 yX10_labelOf wsX10_labelOf) := goodIn_app (goodIn_of _ (by decide +kernel)) ggX10_cite_X10_labelOf
theorem dX10_cite_0 : decode cX10_cite 0 = .ok (.aload_n 0, 1) := by decide +kernel
theorem dX10_cite_1 : decode cX10_cite 1 = .ok (.iconst 0, 1) := by decide +kernel
theorem dX10_cite_2 : decode cX10_cite 2 = .ok (.putfield 86, 3) := by decide +kernel
theorem dX10_cite_5 : decode cX10_cite 5 = .ok (.aload_n 0, 1) := by decide +kernel
theorem dX10_cite_6 : decode cX10_cite 6 = .ok (.invokevirtual 151, 3) := by decide +kernel
theorem dX10_cite_9 : decode cX10_cite 9 = .ok (.aload_n 0, 1) := by decide +kernel
theorem dX10_cite_10 : decode cX10_cite 10 = .ok (.iconst 0, 1) := by decide +kernel
theorem dX10_cite_11 : decode cX10_cite 11 = .ok (.putfield 102, 3) := by decide +kernel
theorem dX10_cite_14 : decode cX10_cite 14 = .ok (.aload_n 0, 1) := by decide +kernel
theorem dX10_cite_15 : decode cX10_cite 15 = .ok (.iconst (-1), 1) := by decide +kernel
theorem dX10_cite_16 : decode cX10_cite 16 = .ok (.putfield 31, 3) := by decide +kernel
theorem dX10_cite_19 : decode cX10_cite 19 = .ok (.iload_n 1, 1) := by decide +kernel
theorem dX10_cite_20 : decode cX10_cite 20 = .ok (.ifCond .ge 6, 3) := by decide +kernel
theorem dX10_cite_23 : decode cX10_cite 23 = .ok (.bipush (-3), 2) := by decide +kernel
theorem dX10_cite_25 : decode cX10_cite 25 = .ok (.ireturn, 1) := by decide +kernel
theorem dX10_cite_26 : decode cX10_cite 26 = .ok (.aload_n 0, 1) := by decide +kernel
theorem dX10_cite_27 : decode cX10_cite 27 = .ok (.invokevirtual 265, 3) := by decide +kernel
theorem dX10_cite_30 : decode cX10_cite 30 = .ok (.istore_n 2, 1) := by decide +kernel
theorem dX10_cite_31 : decode cX10_cite 31 = .ok (.iload_n 2, 1) := by decide +kernel
theorem dX10_cite_32 : decode cX10_cite 32 = .ok (.ifCond .ge 22, 3) := by decide +kernel
theorem dX10_cite_35 : decode cX10_cite 35 = .ok (.aload_n 0, 1) := by decide +kernel
theorem dX10_cite_36 : decode cX10_cite 36 = .ok (.aload_n 0, 1) := by decide +kernel
theorem dX10_cite_37 : decode cX10_cite 37 = .ok (.getfield 237, 3) := by decide +kernel
theorem dX10_cite_40 : decode cX10_cite 40 = .ok (.putfield 102, 3) := by decide +kernel
theorem dX10_cite_43 : decode cX10_cite 43 = .ok (.aload_n 0, 1) := by decide +kernel
theorem dX10_cite_44 : decode cX10_cite 44 = .ok (.aload_n 0, 1) := by decide +kernel
theorem dX10_cite_45 : decode cX10_cite 45 = .ok (.getfield 240, 3) := by decide +kernel
theorem dX10_cite_48 : decode cX10_cite 48 = .ok (.putfield 31, 3) := by decide +kernel
theorem dX10_cite_51 : decode cX10_cite 51 = .ok (.bipush (-2), 2) := by decide +kernel
theorem dX10_cite_53 : decode cX10_cite 53 = .ok (.ireturn, 1) := by decide +kernel
theorem dX10_cite_54 : decode cX10_cite 54 = .ok (.aload_n 0, 1) := by decide +kernel
theorem dX10_cite_55 : decode cX10_cite 55 = .ok (.iconst 0, 1) := by decide +kernel
theorem dX10_cite_56 : decode cX10_cite 56 = .ok (.putfield 268, 3) := by decide +kernel
theorem dX10_cite_59 : decode cX10_cite 59 = .ok (.iconst (-1), 1) := by decide +kernel
theorem dX10_cite_60 : decode cX10_cite 60 = .ok (.istore_n 3, 1) := by decide +kernel
theorem dX10_cite_61 : decode cX10_cite 61 = .ok (.iconst 0, 1) := by decide +kernel
theorem dX10_cite_62 : decode cX10_cite 62 = .ok (.istore 4, 2) := by decide +kernel
theorem dX10_cite_64 : decode cX10_cite 64 = .ok (.iload 4, 2) := by decide +kernel
theorem dX10_cite_66 : decode cX10_cite 66 = .ok (.aload_n 0, 1) := by decide +kernel
theorem dX10_cite_67 : decode cX10_cite 67 = .ok (.getfield 157, 3) := by decide +kernel
theorem dX10_cite_70 : decode cX10_cite 70 = .ok (.if_icmp .ge 117, 3) := by decide +kernel
theorem dX10_cite_73 : decode cX10_cite 73 = .ok (.aload_n 0, 1) := by decide +kernel
theorem dX10_cite_74 : decode cX10_cite 74 = .ok (.getfield 43, 3) := by decide +kernel
theorem dX10_cite_77 : decode cX10_cite 77 = .ok (.iload 4, 2) := by decide +kernel
theorem dX10_cite_79 : decode cX10_cite 79 = .ok (.iaload, 1) := by decide +kernel
theorem dX10_cite_80 : decode cX10_cite 80 = .ok (.istore 5, 2) := by decide +kernel
theorem dX10_cite_82 : decode cX10_cite 82 = .ok (.aload_n 0, 1) := by decide +kernel
theorem dX10_cite_83 : decode cX10_cite 83 = .ok (.getfield 34, 3) := by decide +kernel
theorem dX10_cite_86 : decode cX10_cite 86 = .ok (.iload 5, 2) := by decide +kernel
theorem dX10_cite_88 : decode cX10_cite 88 = .ok (.iaload, 1) := by decide +kernel
theorem dX10_cite_89 : decode cX10_cite 89 = .ok (.iload_n 2, 1) := by decide +kernel
theorem dX10_cite_90 : decode cX10_cite 90 = .ok (.iconst 1, 1) := by decide +kernel
theorem dX10_cite_91 : decode cX10_cite 91 = .ok (.isub, 1) := by decide +kernel
theorem dX10_cite_92 : decode cX10_cite 92 = .ok (.if_icmp .ne 7, 3) := by decide +kernel
theorem dX10_cite_95 : decode cX10_cite 95 = .ok (.iconst 1, 1) := by decide +kernel
theorem dX10_cite_96 : decode cX10_cite 96 = .ok (.goto 4, 3) := by decide +kernel
theorem dX10_cite_99 : decode cX10_cite 99 = .ok (.iconst 0, 1) := by decide +kernel
theorem dX10_cite_100 : decode cX10_cite 100 = .ok (.istore 6, 2) := by decide +kernel
theorem dX10_cite_102 : decode cX10_cite 102 = .ok (.iconst 0, 1) := by decide +kernel
theorem dX10_cite_103 : decode cX10_cite 103 = .ok (.istore 7, 2) := by decide +kernel
theorem dX10_cite_105 : decode cX10_cite 105 = .ok (.iload 7, 2) := by decide +kernel
theorem dX10_cite_107 : decode cX10_cite 107 = .ok (.iload_n 2, 1) := by decide +kernel
theorem dX10_cite_108 : decode cX10_cite 108 = .ok (.if_icmp .ge 44, 3) := by decide +kernel
theorem dX10_cite_111 : decode cX10_cite 111 = .ok (.iload 6, 2) := by decide +kernel
theorem dX10_cite_113 : decode cX10_cite 113 = .ok (.ifCond .eq 39, 3) := by decide +kernel
theorem dX10_cite_116 : decode cX10_cite 116 = .ok (.aload_n 0, 1) := by decide +kernel
theorem dX10_cite_117 : decode cX10_cite 117 = .ok (.aload_n 0, 1) := by decide +kernel
theorem dX10_cite_118 : decode cX10_cite 118 = .ok (.iload 5, 2) := by decide +kernel
theorem dX10_cite_120 : decode cX10_cite 120 = .ok (.iload 7, 2) := by decide +kernel
theorem dX10_cite_122 : decode cX10_cite 122 = .ok (.invokevirtual 234, 3) := by decide +kernel
theorem dX10_cite_125 : decode cX10_cite 125 = .ok (.iload_n 1, 1) := by decide +kernel
theorem dX10_cite_126 : decode cX10_cite 126 = .ok (.invokevirtual 193, 3) := by decide +kernel
theorem dX10_cite_129 : decode cX10_cite 129 = .ok (.aload_n 0, 1) := by decide +kernel
theorem dX10_cite_130 : decode cX10_cite 130 = .ok (.getfield 83, 3) := by decide +kernel
theorem dX10_cite_133 : decode cX10_cite 133 = .ok (.iload 7, 2) := by decide +kernel
theorem dX10_cite_135 : decode cX10_cite 135 = .ok (.iaload, 1) := by decide +kernel
theorem dX10_cite_136 : decode cX10_cite 136 = .ok (.if_icmp .ne 7, 3) := by decide +kernel
theorem dX10_cite_139 : decode cX10_cite 139 = .ok (.iconst 1, 1) := by decide +kernel
theorem dX10_cite_140 : decode cX10_cite 140 = .ok (.goto 4, 3) := by decide +kernel
theorem dX10_cite_143 : decode cX10_cite 143 = .ok (.iconst 0, 1) := by decide +kernel
theorem dX10_cite_144 : decode cX10_cite 144 = .ok (.istore 6, 2) := by decide +kernel
theorem dX10_cite_146 : decode cX10_cite 146 = .ok (.iinc 7 1, 3) := by decide +kernel
theorem dX10_cite_149 : decode cX10_cite 149 = .ok (.goto (-44), 3) := by decide +kernel
theorem dX10_cite_152 : decode cX10_cite 152 = .ok (.iload 6, 2) := by decide +kernel
theorem dX10_cite_154 : decode cX10_cite 154 = .ok (.ifCond .ne 6, 3) := by decide +kernel
theorem dX10_cite_157 : decode cX10_cite 157 = .ok (.goto 24, 3) := by decide +kernel
theorem dX10_cite_160 : decode cX10_cite 160 = .ok (.aload_n 0, 1) := by decide +kernel
theorem dX10_cite_161 : decode cX10_cite 161 = .ok (.dup, 1) := by decide +kernel
theorem dX10_cite_162 : decode cX10_cite 162 = .ok (.getfield 268, 3) := by decide +kernel
theorem dX10_cite_165 : decode cX10_cite 165 = .ok (.iconst 1, 1) := by decide +kernel
theorem dX10_cite_166 : decode cX10_cite 166 = .ok (.iadd, 1) := by decide +kernel
theorem dX10_cite_167 : decode cX10_cite 167 = .ok (.putfield 268, 3) := by decide +kernel
theorem dX10_cite_170 : decode cX10_cite 170 = .ok (.iload_n 3, 1) := by decide +kernel
theorem dX10_cite_171 : decode cX10_cite 171 = .ok (.ifCond .ge 8, 3) := by decide +kernel
theorem dX10_cite_174 : decode cX10_cite 174 = .ok (.iload 5, 2) := by decide +kernel
theorem dX10_cite_176 : decode cX10_cite 176 = .ok (.goto 4, 3) := by decide +kernel
theorem dX10_cite_179 : decode cX10_cite 179 = .ok (.iload_n 3, 1) := by decide +kernel
theorem dX10_cite_180 : decode cX10_cite 180 = .ok (.istore_n 3, 1) := by decide +kernel
theorem dX10_cite_181 : decode cX10_cite 181 = .ok (.iinc 4 1, 3) := by decide +kernel
theorem dX10_cite_184 : decode cX10_cite 184 = .ok (.goto (-120), 3) := by decide +kernel
theorem dX10_cite_187 : decode cX10_cite 187 = .ok (.iload_n 3, 1) := by decide +kernel
theorem dX10_cite_188 : decode cX10_cite 188 = .ok (.ireturn, 1) := by decide +kernel
theorem dX10_bearers_0 : decode cX10_bearers 0 = .ok (.aload_n 0, 1) := by decide +kernel
theorem dX10_bearers_1 : decode cX10_bearers 1 = .ok (.iconst 0, 1) := by decide +kernel
theorem dX10_bearers_2 : decode cX10_bearers 2 = .ok (.putfield 86, 3) := by decide +kernel
theorem dX10_bearers_5 : decode cX10_bearers 5 = .ok (.aload_n 0, 1) := by decide +kernel
theorem dX10_bearers_6 : decode cX10_bearers 6 = .ok (.getfield 268, 3) := by decide +kernel
theorem dX10_bearers_9 : decode cX10_bearers 9 = .ok (.ireturn, 1) := by decide +kernel
set_option maxRecDepth 20000 in
theorem ggX10_read_X10_taken : GoodIn wsX10_read wsX10_taken := goodIn_r _ [11, 12, 3, 2, 87, 88, 89, 90, 91, 92, 93, 94, 95, 96, 97, 98, 99, 100, 101, 102, 103, 104, 105, 106, 107, 108, 109, 110, 111, 112, 113, 114, 115, 116, 117, 118, 119, 120, 121, 122, 123, 124, 125, 126, 127, 128] (by decide +kernel) (by decide +kernel)
set_option maxRecDepth 20000 in
theorem gX10_read_X10_taken : GoodIn wsX10_read (wsV RX10 151 RX10 yX10_taken wsX10_taken) := goodIn_app (goodIn_of _ (by decide +kernel)) ggX10_read_X10_taken
set_option maxRecDepth 20000 in
theorem ggX10_read_X10_readLabel : GoodIn wsX10_read wsX10_readLabel := goodIn_r _ [16, 2, 17, 18, 19, 6, 5, 20, 21, 22, 10, 23, 3, 24, 25, 26, 27, 28, 29, 30, 31, 32, 33, 34, 35, 36, 37, 38, 39, 40, 41, 42, 43, 44, 45, 46, 47, 48, 49, 50, 51, 52, 53, 54, 55, 56, 57, 58, 59, 60, 61, 62, 63, 64, 65, 66, 67, 68, 69, 70, 71, 72, 73, 74, 75, 76, 77, 78, 79, 80, 81, 82, 83, 84, 85, 86, 87, 88, 89, 90, 91, 92, 93, 94, 95, 96, 97, 98, 99, 100, 101, 102, 103, 104, 105, 106, 107, 108, 109, 110, 111, 112, 113, 114, 115, 116, 117, 118, 119, 120, 121, 122, 123, 124, 125, 126, 127, 128] (by decide +kernel) (by decide +kernel)
set_option maxRecDepth 20000 in
theorem gX10_read_X10_readLabel : GoodIn wsX10_read (wsV RX10 262 RX10 yX10_readLabel wsX10_readLabel) := goodIn_app (goodIn_of _ (by decide +kernel)) ggX10_read_X10_readLabel
set_option maxRecDepth 20000 in
theorem ggX10_read_X10_lettersOf : GoodIn wsX10_read wsX10_lettersOf := goodIn_r _ [83, 84, 85, 10, 86] (by decide +kernel) (by decide +kernel)
set_option maxRecDepth 20000 in
theorem gX10_read_X10_lettersOf : GoodIn wsX10_read (va_wsS RX10 174 yX10_lettersOf wsX10_lettersOf) := goodIn_app (goodIn_of _ (by decide +kernel)) ggX10_read_X10_lettersOf
set_option maxRecDepth 20000 in
theorem ggX10_read_X10_letterAt : GoodIn wsX10_read wsX10_letterAt := goodIn_r _ [86] (by decide +kernel) (by decide +kernel)
set_option maxRecDepth 20000 in
theorem gX10_read_X10_letterAt : GoodIn wsX10_read (va_wsS RX10 169 yX10_letterAt wsX10_letterAt) := goodIn_app (goodIn_of _ (by decide +kernel)) ggX10_read_X10_letterAt
theorem dX10_read_0 : decode cX10_read 0 = .ok (.aload_n 0, 1) := by decide +kernel
theorem dX10_read_1 : decode cX10_read 1 = .ok (.iconst 0, 1) := by decide +kernel
theorem dX10_read_2 : decode cX10_read 2 = .ok (.putfield 86, 3) := by decide +kernel
theorem dX10_read_5 : decode cX10_read 5 = .ok (.aload_n 0, 1) := by decide +kernel
theorem dX10_read_6 : decode cX10_read 6 = .ok (.invokevirtual 151, 3) := by decide +kernel
theorem dX10_read_9 : decode cX10_read 9 = .ok (.iload_n 1, 1) := by decide +kernel
theorem dX10_read_10 : decode cX10_read 10 = .ok (.ifCond .lt 27, 3) := by decide +kernel
theorem dX10_read_13 : decode cX10_read 13 = .ok (.iload_n 1, 1) := by decide +kernel
theorem dX10_read_14 : decode cX10_read 14 = .ok (.iconst 3, 1) := by decide +kernel
theorem dX10_read_15 : decode cX10_read 15 = .ok (.if_icmp .gt 22, 3) := by decide +kernel
theorem dX10_read_18 : decode cX10_read 18 = .ok (.aload_n 0, 1) := by decide +kernel
theorem dX10_read_19 : decode cX10_read 19 = .ok (.iload_n 1, 1) := by decide +kernel
theorem dX10_read_20 : decode cX10_read 20 = .ok (.invokevirtual 262, 3) := by decide +kernel
theorem dX10_read_23 : decode cX10_read 23 = .ok (.ifCond .eq 14, 3) := by decide +kernel
theorem dX10_read_26 : decode cX10_read 26 = .ok (.aload_n 0, 1) := by decide +kernel
theorem dX10_read_27 : decode cX10_read 27 = .ok (.getfield 99, 3) := by decide +kernel
theorem dX10_read_30 : decode cX10_read 30 = .ok (.aload_n 0, 1) := by decide +kernel
theorem dX10_read_31 : decode cX10_read 31 = .ok (.getfield 96, 3) := by decide +kernel
theorem dX10_read_34 : decode cX10_read 34 = .ok (.if_icmp .eq 5, 3) := by decide +kernel
theorem dX10_read_37 : decode cX10_read 37 = .ok (.iconst (-1), 1) := by decide +kernel
theorem dX10_read_38 : decode cX10_read 38 = .ok (.ireturn, 1) := by decide +kernel
theorem dX10_read_39 : decode cX10_read 39 = .ok (.aload_n 0, 1) := by decide +kernel
theorem dX10_read_40 : decode cX10_read 40 = .ok (.iconst 0, 1) := by decide +kernel
theorem dX10_read_41 : decode cX10_read 41 = .ok (.putfield 271, 3) := by decide +kernel
theorem dX10_read_44 : decode cX10_read 44 = .ok (.iconst 0, 1) := by decide +kernel
theorem dX10_read_45 : decode cX10_read 45 = .ok (.istore_n 2, 1) := by decide +kernel
theorem dX10_read_46 : decode cX10_read 46 = .ok (.iload_n 2, 1) := by decide +kernel
theorem dX10_read_47 : decode cX10_read 47 = .ok (.aload_n 0, 1) := by decide +kernel
theorem dX10_read_48 : decode cX10_read 48 = .ok (.getfield 256, 3) := by decide +kernel
theorem dX10_read_51 : decode cX10_read 51 = .ok (.ldc 173, 2) := by decide +kernel
theorem dX10_read_53 : decode cX10_read 53 = .ok (.irem, 1) := by decide +kernel
theorem dX10_read_54 : decode cX10_read 54 = .ok (.invokestatic 174, 3) := by decide +kernel
theorem dX10_read_57 : decode cX10_read 57 = .ok (.if_icmp .ge 35, 3) := by decide +kernel
theorem dX10_read_60 : decode cX10_read 60 = .ok (.aload_n 0, 1) := by decide +kernel
theorem dX10_read_61 : decode cX10_read 61 = .ok (.aload_n 0, 1) := by decide +kernel
theorem dX10_read_62 : decode cX10_read 62 = .ok (.getfield 271, 3) := by decide +kernel
theorem dX10_read_65 : decode cX10_read 65 = .ok (.bipush 8, 2) := by decide +kernel
theorem dX10_read_67 : decode cX10_read 67 = .ok (.ishl, 1) := by decide +kernel
theorem dX10_read_68 : decode cX10_read 68 = .ok (.bipush 64, 2) := by decide +kernel
theorem dX10_read_70 : decode cX10_read 70 = .ok (.aload_n 0, 1) := by decide +kernel
theorem dX10_read_71 : decode cX10_read 71 = .ok (.getfield 256, 3) := by decide +kernel
theorem dX10_read_74 : decode cX10_read 74 = .ok (.ldc 173, 2) := by decide +kernel
theorem dX10_read_76 : decode cX10_read 76 = .ok (.irem, 1) := by decide +kernel
theorem dX10_read_77 : decode cX10_read 77 = .ok (.iload_n 2, 1) := by decide +kernel
theorem dX10_read_78 : decode cX10_read 78 = .ok (.invokestatic 169, 3) := by decide +kernel
theorem dX10_read_81 : decode cX10_read 81 = .ok (.iadd, 1) := by decide +kernel
theorem dX10_read_82 : decode cX10_read 82 = .ok (.ior, 1) := by decide +kernel
theorem dX10_read_83 : decode cX10_read 83 = .ok (.putfield 271, 3) := by decide +kernel
theorem dX10_read_86 : decode cX10_read 86 = .ok (.iinc 2 1, 3) := by decide +kernel
theorem dX10_read_89 : decode cX10_read 89 = .ok (.goto (-43), 3) := by decide +kernel
theorem dX10_read_92 : decode cX10_read 92 = .ok (.aload_n 0, 1) := by decide +kernel
theorem dX10_read_93 : decode cX10_read 93 = .ok (.getfield 256, 3) := by decide +kernel
theorem dX10_read_96 : decode cX10_read 96 = .ok (.ldc 173, 2) := by decide +kernel
theorem dX10_read_98 : decode cX10_read 98 = .ok (.idiv, 1) := by decide +kernel
theorem dX10_read_99 : decode cX10_read 99 = .ok (.ireturn, 1) := by decide +kernel
theorem dX10_suffix_0 : decode cX10_suffix 0 = .ok (.aload_n 0, 1) := by decide +kernel
theorem dX10_suffix_1 : decode cX10_suffix 1 = .ok (.iconst 0, 1) := by decide +kernel
theorem dX10_suffix_2 : decode cX10_suffix 2 = .ok (.putfield 86, 3) := by decide +kernel
theorem dX10_suffix_5 : decode cX10_suffix 5 = .ok (.aload_n 0, 1) := by decide +kernel
theorem dX10_suffix_6 : decode cX10_suffix 6 = .ok (.getfield 271, 3) := by decide +kernel
theorem dX10_suffix_9 : decode cX10_suffix 9 = .ok (.ireturn, 1) := by decide +kernel
set_option maxRecDepth 20000 in
theorem ggX10_clash_X10_labelOf : GoodIn wsX10_clash wsX10_labelOf := goodIn_r _ [9, 10, 11, 12, 13, 21, 22, 23, 24, 25, 26, 27, 28, 29, 30, 31, 32, 33, 34, 35, 36, 37, 38, 39, 40, 41, 42, 43, 44, 45, 46, 47, 48, 49, 50, 51, 52, 53, 54, 55, 56, 57, 58, 59, 60, 61, 62] (by decide +kernel) (by decide +kernel)
set_option maxRecDepth 20000 in
theorem gX10_clash_X10_labelOf : GoodIn wsX10_clash (wsV RX10 193 RX10 yX10_labelOf wsX10_labelOf) := goodIn_app (goodIn_of _ (by decide +kernel)) ggX10_clash_X10_labelOf
set_option maxRecDepth 20000 in
theorem ggX10_clash_X10_isInRow : GoodIn wsX10_clash wsX10_isInRow := goodIn_r _ [17, 18, 19, 20, 21, 22, 23, 24, 25, 26, 27, 28, 29, 30, 31, 32, 33, 34, 35, 36, 37, 38, 39, 40, 41, 42, 43, 44, 45, 46, 47, 48, 49, 50, 51, 52, 53, 54, 55, 56, 57, 58, 59, 60, 61, 62] (by decide +kernel) (by decide +kernel)
set_option maxRecDepth 20000 in
theorem gX10_clash_X10_isInRow : GoodIn wsX10_clash (wsV RX10 190 RX10 yX10_isInRow wsX10_isInRow) := goodIn_app (goodIn_of _ (by decide +kernel)) ggX10_clash_X10_isInRow
theorem dX10_clash_0 : decode cX10_clash 0 = .ok (.aload_n 0, 1) := by decide +kernel
theorem dX10_clash_1 : decode cX10_clash 1 = .ok (.iconst 0, 1) := by decide +kernel
theorem dX10_clash_2 : decode cX10_clash 2 = .ok (.putfield 86, 3) := by decide +kernel
theorem dX10_clash_5 : decode cX10_clash 5 = .ok (.iconst 0, 1) := by decide +kernel
theorem dX10_clash_6 : decode cX10_clash 6 = .ok (.istore_n 1, 1) := by decide +kernel
theorem dX10_clash_7 : decode cX10_clash 7 = .ok (.iload_n 1, 1) := by decide +kernel
theorem dX10_clash_8 : decode cX10_clash 8 = .ok (.aload_n 0, 1) := by decide +kernel
theorem dX10_clash_9 : decode cX10_clash 9 = .ok (.getfield 157, 3) := by decide +kernel
theorem dX10_clash_12 : decode cX10_clash 12 = .ok (.if_icmp .ge 114, 3) := by decide +kernel
theorem dX10_clash_15 : decode cX10_clash 15 = .ok (.aload_n 0, 1) := by decide +kernel
theorem dX10_clash_16 : decode cX10_clash 16 = .ok (.aload_n 0, 1) := by decide +kernel
theorem dX10_clash_17 : decode cX10_clash 17 = .ok (.getfield 43, 3) := by decide +kernel
theorem dX10_clash_20 : decode cX10_clash 20 = .ok (.iload_n 1, 1) := by decide +kernel
theorem dX10_clash_21 : decode cX10_clash 21 = .ok (.iaload, 1) := by decide +kernel
theorem dX10_clash_22 : decode cX10_clash 22 = .ok (.aload_n 0, 1) := by decide +kernel
theorem dX10_clash_23 : decode cX10_clash 23 = .ok (.getfield 166, 3) := by decide +kernel
theorem dX10_clash_26 : decode cX10_clash 26 = .ok (.invokevirtual 193, 3) := by decide +kernel
theorem dX10_clash_29 : decode cX10_clash 29 = .ok (.istore_n 2, 1) := by decide +kernel
theorem dX10_clash_30 : decode cX10_clash 30 = .ok (.iconst 0, 1) := by decide +kernel
theorem dX10_clash_31 : decode cX10_clash 31 = .ok (.istore_n 3, 1) := by decide +kernel
theorem dX10_clash_32 : decode cX10_clash 32 = .ok (.iconst 0, 1) := by decide +kernel
theorem dX10_clash_33 : decode cX10_clash 33 = .ok (.istore 4, 2) := by decide +kernel
theorem dX10_clash_35 : decode cX10_clash 35 = .ok (.iload 4, 2) := by decide +kernel
theorem dX10_clash_37 : decode cX10_clash 37 = .ok (.iload_n 1, 1) := by decide +kernel
theorem dX10_clash_38 : decode cX10_clash 38 = .ok (.if_icmp .ge 66, 3) := by decide +kernel
theorem dX10_clash_41 : decode cX10_clash 41 = .ok (.iload_n 2, 1) := by decide +kernel
theorem dX10_clash_42 : decode cX10_clash 42 = .ok (.ifCond .le 62, 3) := by decide +kernel
theorem dX10_clash_45 : decode cX10_clash 45 = .ok (.aload_n 0, 1) := by decide +kernel
theorem dX10_clash_46 : decode cX10_clash 46 = .ok (.aload_n 0, 1) := by decide +kernel
theorem dX10_clash_47 : decode cX10_clash 47 = .ok (.getfield 43, 3) := by decide +kernel
theorem dX10_clash_50 : decode cX10_clash 50 = .ok (.iload 4, 2) := by decide +kernel
theorem dX10_clash_52 : decode cX10_clash 52 = .ok (.iaload, 1) := by decide +kernel
theorem dX10_clash_53 : decode cX10_clash 53 = .ok (.aload_n 0, 1) := by decide +kernel
theorem dX10_clash_54 : decode cX10_clash 54 = .ok (.getfield 43, 3) := by decide +kernel
theorem dX10_clash_57 : decode cX10_clash 57 = .ok (.iload_n 1, 1) := by decide +kernel
theorem dX10_clash_58 : decode cX10_clash 58 = .ok (.iaload, 1) := by decide +kernel
theorem dX10_clash_59 : decode cX10_clash 59 = .ok (.invokevirtual 190, 3) := by decide +kernel
theorem dX10_clash_62 : decode cX10_clash 62 = .ok (.ifCond .eq 21, 3) := by decide +kernel
theorem dX10_clash_65 : decode cX10_clash 65 = .ok (.aload_n 0, 1) := by decide +kernel
theorem dX10_clash_66 : decode cX10_clash 66 = .ok (.aload_n 0, 1) := by decide +kernel
theorem dX10_clash_67 : decode cX10_clash 67 = .ok (.getfield 43, 3) := by decide +kernel
theorem dX10_clash_70 : decode cX10_clash 70 = .ok (.iload 4, 2) := by decide +kernel
theorem dX10_clash_72 : decode cX10_clash 72 = .ok (.iaload, 1) := by decide +kernel
theorem dX10_clash_73 : decode cX10_clash 73 = .ok (.aload_n 0, 1) := by decide +kernel
theorem dX10_clash_74 : decode cX10_clash 74 = .ok (.getfield 166, 3) := by decide +kernel
theorem dX10_clash_77 : decode cX10_clash 77 = .ok (.invokevirtual 193, 3) := by decide +kernel
theorem dX10_clash_80 : decode cX10_clash 80 = .ok (.goto 4, 3) := by decide +kernel
theorem dX10_clash_83 : decode cX10_clash 83 = .ok (.iconst 0, 1) := by decide +kernel
theorem dX10_clash_84 : decode cX10_clash 84 = .ok (.istore 5, 2) := by decide +kernel
theorem dX10_clash_86 : decode cX10_clash 86 = .ok (.iload 5, 2) := by decide +kernel
theorem dX10_clash_88 : decode cX10_clash 88 = .ok (.ifCond .le 8, 3) := by decide +kernel
theorem dX10_clash_91 : decode cX10_clash 91 = .ok (.iload 5, 2) := by decide +kernel
theorem dX10_clash_93 : decode cX10_clash 93 = .ok (.goto 4, 3) := by decide +kernel
theorem dX10_clash_96 : decode cX10_clash 96 = .ok (.iload_n 3, 1) := by decide +kernel
theorem dX10_clash_97 : decode cX10_clash 97 = .ok (.istore_n 3, 1) := by decide +kernel
theorem dX10_clash_98 : decode cX10_clash 98 = .ok (.iinc 4 1, 3) := by decide +kernel
theorem dX10_clash_101 : decode cX10_clash 101 = .ok (.goto (-66), 3) := by decide +kernel
theorem dX10_clash_104 : decode cX10_clash 104 = .ok (.iload_n 2, 1) := by decide +kernel
theorem dX10_clash_105 : decode cX10_clash 105 = .ok (.ifCond .le 15, 3) := by decide +kernel
theorem dX10_clash_108 : decode cX10_clash 108 = .ok (.iload_n 2, 1) := by decide +kernel
theorem dX10_clash_109 : decode cX10_clash 109 = .ok (.iload_n 3, 1) := by decide +kernel
theorem dX10_clash_110 : decode cX10_clash 110 = .ok (.if_icmp .gt 10, 3) := by decide +kernel
theorem dX10_clash_113 : decode cX10_clash 113 = .ok (.aload_n 0, 1) := by decide +kernel
theorem dX10_clash_114 : decode cX10_clash 114 = .ok (.getfield 43, 3) := by decide +kernel
theorem dX10_clash_117 : decode cX10_clash 117 = .ok (.iload_n 1, 1) := by decide +kernel
theorem dX10_clash_118 : decode cX10_clash 118 = .ok (.iaload, 1) := by decide +kernel
theorem dX10_clash_119 : decode cX10_clash 119 = .ok (.ireturn, 1) := by decide +kernel
theorem dX10_clash_120 : decode cX10_clash 120 = .ok (.iinc 1 1, 3) := by decide +kernel
theorem dX10_clash_123 : decode cX10_clash 123 = .ok (.goto (-116), 3) := by decide +kernel
theorem dX10_clash_126 : decode cX10_clash 126 = .ok (.iconst (-1), 1) := by decide +kernel
theorem dX10_clash_127 : decode cX10_clash 127 = .ok (.ireturn, 1) := by decide +kernel
theorem dX10_at_0 : decode cX10_at 0 = .ok (.aload_n 0, 1) := by decide +kernel
theorem dX10_at_1 : decode cX10_at 1 = .ok (.iconst 0, 1) := by decide +kernel
theorem dX10_at_2 : decode cX10_at 2 = .ok (.putfield 86, 3) := by decide +kernel
theorem dX10_at_5 : decode cX10_at 5 = .ok (.iload_n 1, 1) := by decide +kernel
theorem dX10_at_6 : decode cX10_at 6 = .ok (.ifCond .lt 11, 3) := by decide +kernel
theorem dX10_at_9 : decode cX10_at 9 = .ok (.iload_n 1, 1) := by decide +kernel
theorem dX10_at_10 : decode cX10_at 10 = .ok (.aload_n 0, 1) := by decide +kernel
theorem dX10_at_11 : decode cX10_at 11 = .ok (.getfield 157, 3) := by decide +kernel
theorem dX10_at_14 : decode cX10_at 14 = .ok (.if_icmp .lt 7, 3) := by decide +kernel
theorem dX10_at_17 : decode cX10_at 17 = .ok (.iconst (-1), 1) := by decide +kernel
theorem dX10_at_18 : decode cX10_at 18 = .ok (.goto 9, 3) := by decide +kernel
theorem dX10_at_21 : decode cX10_at 21 = .ok (.aload_n 0, 1) := by decide +kernel
theorem dX10_at_22 : decode cX10_at 22 = .ok (.getfield 43, 3) := by decide +kernel
theorem dX10_at_25 : decode cX10_at 25 = .ok (.iload_n 1, 1) := by decide +kernel
theorem dX10_at_26 : decode cX10_at 26 = .ok (.iaload, 1) := by decide +kernel
theorem dX10_at_27 : decode cX10_at 27 = .ok (.ireturn, 1) := by decide +kernel
theorem dX10_count_0 : decode cX10_count 0 = .ok (.aload_n 0, 1) := by decide +kernel
theorem dX10_count_1 : decode cX10_count 1 = .ok (.iconst 0, 1) := by decide +kernel
theorem dX10_count_2 : decode cX10_count 2 = .ok (.putfield 86, 3) := by decide +kernel
theorem dX10_count_5 : decode cX10_count 5 = .ok (.iconst 0, 1) := by decide +kernel
theorem dX10_count_6 : decode cX10_count 6 = .ok (.istore_n 2, 1) := by decide +kernel
theorem dX10_count_7 : decode cX10_count 7 = .ok (.iload_n 1, 1) := by decide +kernel
theorem dX10_count_8 : decode cX10_count 8 = .ok (.tableswitch 109 0 6 #[44, 49, 54, 89, 94, 99, 104], 44) := by decide +kernel
theorem dX10_count_52 : decode cX10_count 52 = .ok (.aload_n 0, 1) := by decide +kernel
theorem dX10_count_53 : decode cX10_count 53 = .ok (.getfield 27, 3) := by decide +kernel
theorem dX10_count_56 : decode cX10_count 56 = .ok (.ireturn, 1) := by decide +kernel
theorem dX10_count_57 : decode cX10_count 57 = .ok (.aload_n 0, 1) := by decide +kernel
theorem dX10_count_58 : decode cX10_count 58 = .ok (.getfield 157, 3) := by decide +kernel
theorem dX10_count_61 : decode cX10_count 61 = .ok (.ireturn, 1) := by decide +kernel
theorem dX10_count_62 : decode cX10_count 62 = .ok (.iconst 0, 1) := by decide +kernel
theorem dX10_count_63 : decode cX10_count 63 = .ok (.istore_n 3, 1) := by decide +kernel
theorem dX10_count_64 : decode cX10_count 64 = .ok (.iload_n 3, 1) := by decide +kernel
theorem dX10_count_65 : decode cX10_count 65 = .ok (.aload_n 0, 1) := by decide +kernel
theorem dX10_count_66 : decode cX10_count 66 = .ok (.getfield 157, 3) := by decide +kernel
theorem dX10_count_69 : decode cX10_count 69 = .ok (.if_icmp .ge 26, 3) := by decide +kernel
theorem dX10_count_72 : decode cX10_count 72 = .ok (.iload_n 2, 1) := by decide +kernel
theorem dX10_count_73 : decode cX10_count 73 = .ok (.aload_n 0, 1) := by decide +kernel
theorem dX10_count_74 : decode cX10_count 74 = .ok (.getfield 46, 3) := by decide +kernel
theorem dX10_count_77 : decode cX10_count 77 = .ok (.iload_n 3, 1) := by decide +kernel
theorem dX10_count_78 : decode cX10_count 78 = .ok (.baload, 1) := by decide +kernel
theorem dX10_count_79 : decode cX10_count 79 = .ok (.ifCond .eq 7, 3) := by decide +kernel
theorem dX10_count_82 : decode cX10_count 82 = .ok (.iconst 1, 1) := by decide +kernel
theorem dX10_count_83 : decode cX10_count 83 = .ok (.goto 4, 3) := by decide +kernel
theorem dX10_count_86 : decode cX10_count 86 = .ok (.iconst 0, 1) := by decide +kernel
theorem dX10_count_87 : decode cX10_count 87 = .ok (.iadd, 1) := by decide +kernel
theorem dX10_count_88 : decode cX10_count 88 = .ok (.istore_n 2, 1) := by decide +kernel
theorem dX10_count_89 : decode cX10_count 89 = .ok (.iinc 3 1, 3) := by decide +kernel
theorem dX10_count_92 : decode cX10_count 92 = .ok (.goto (-28), 3) := by decide +kernel
theorem dX10_count_95 : decode cX10_count 95 = .ok (.iload_n 2, 1) := by decide +kernel
theorem dX10_count_96 : decode cX10_count 96 = .ok (.ireturn, 1) := by decide +kernel
theorem dX10_count_97 : decode cX10_count 97 = .ok (.aload_n 0, 1) := by decide +kernel
theorem dX10_count_98 : decode cX10_count 98 = .ok (.getfield 166, 3) := by decide +kernel
theorem dX10_count_101 : decode cX10_count 101 = .ok (.ireturn, 1) := by decide +kernel
theorem dX10_count_102 : decode cX10_count 102 = .ok (.aload_n 0, 1) := by decide +kernel
theorem dX10_count_103 : decode cX10_count 103 = .ok (.getfield 163, 3) := by decide +kernel
theorem dX10_count_106 : decode cX10_count 106 = .ok (.ireturn, 1) := by decide +kernel
theorem dX10_count_107 : decode cX10_count 107 = .ok (.aload_n 0, 1) := by decide +kernel
theorem dX10_count_108 : decode cX10_count 108 = .ok (.getfield 213, 3) := by decide +kernel
theorem dX10_count_111 : decode cX10_count 111 = .ok (.ireturn, 1) := by decide +kernel
theorem dX10_count_112 : decode cX10_count 112 = .ok (.aload_n 0, 1) := by decide +kernel
theorem dX10_count_113 : decode cX10_count 113 = .ok (.getfield 89, 3) := by decide +kernel
theorem dX10_count_116 : decode cX10_count 116 = .ok (.ireturn, 1) := by decide +kernel
theorem dX10_count_117 : decode cX10_count 117 = .ok (.iconst (-1), 1) := by decide +kernel
theorem dX10_count_118 : decode cX10_count 118 = .ok (.ireturn, 1) := by decide +kernel
theorem dJ9_min_7cf53_0 : decode cJ9_min_7cf53 0 = .ok (.iload_n 0, 1) := by decide +kernel
theorem dJ9_min_7cf53_1 : decode cJ9_min_7cf53 1 = .ok (.iload_n 1, 1) := by decide +kernel
theorem dJ9_min_7cf53_2 : decode cJ9_min_7cf53 2 = .ok (.if_icmp .gt 7, 3) := by decide +kernel
theorem dJ9_min_7cf53_5 : decode cJ9_min_7cf53 5 = .ok (.iload_n 0, 1) := by decide +kernel
theorem dJ9_min_7cf53_6 : decode cJ9_min_7cf53 6 = .ok (.goto 4, 3) := by decide +kernel
theorem dJ9_min_7cf53_9 : decode cJ9_min_7cf53 9 = .ok (.iload_n 1, 1) := by decide +kernel
theorem dJ9_min_7cf53_10 : decode cJ9_min_7cf53 10 = .ok (.ireturn, 1) := by decide +kernel
set_option maxRecDepth 20000 in
theorem ggJ0_length_8abf5_J0_coder_7d493 : GoodIn wsJ0_length_8abf5 wsJ0_coder_7d493 := goodIn_r _ [6, 7, 8] (by decide +kernel) (by decide +kernel)
set_option maxRecDepth 20000 in
theorem gJ0_length_8abf5_J0_coder_7d493 : GoodIn wsJ0_length_8abf5 (wsV RJ0 335 RJ0 yJ0_coder_7d493 wsJ0_coder_7d493) := goodIn_app (goodIn_of _ (by decide +kernel)) ggJ0_length_8abf5_J0_coder_7d493
theorem dJ0_length_8abf5_0 : decode cJ0_length_8abf5 0 = .ok (.aload_n 0, 1) := by decide +kernel
theorem dJ0_length_8abf5_1 : decode cJ0_length_8abf5 1 = .ok (.getfield 9, 3) := by decide +kernel
theorem dJ0_length_8abf5_4 : decode cJ0_length_8abf5 4 = .ok (.arraylength, 1) := by decide +kernel
theorem dJ0_length_8abf5_5 : decode cJ0_length_8abf5 5 = .ok (.aload_n 0, 1) := by decide +kernel
theorem dJ0_length_8abf5_6 : decode cJ0_length_8abf5 6 = .ok (.invokevirtual 335, 3) := by decide +kernel
theorem dJ0_length_8abf5_9 : decode cJ0_length_8abf5 9 = .ok (.ishr, 1) := by decide +kernel
theorem dJ0_length_8abf5_10 : decode cJ0_length_8abf5 10 = .ok (.ireturn, 1) := by decide +kernel
set_option maxRecDepth 20000 in
theorem ggJ0_charAt_5068e_J0_isLatin1_aae02 : GoodIn wsJ0_charAt_5068e wsJ0_isLatin1_aae02 := goodIn_r _ [6, 7, 8] (by decide +kernel) (by decide +kernel)
set_option maxRecDepth 20000 in
theorem gJ0_charAt_5068e_J0_isLatin1_aae02 : GoodIn wsJ0_charAt_5068e (wsV RJ0 492 RJ0 yJ0_isLatin1_aae02 wsJ0_isLatin1_aae02) := goodIn_app (goodIn_of _ (by decide +kernel)) ggJ0_charAt_5068e_J0_isLatin1_aae02
set_option maxRecDepth 20000 in
theorem ggJ0_charAt_5068e_J1_charAt_3b067 : GoodIn wsJ0_charAt_5068e wsJ1_charAt_3b067 := goodIn_r _ [12, 13, 14, 5, 15, 16, 17, 18, 19, 20] (by decide +kernel) (by decide +kernel)
set_option maxRecDepth 20000 in
theorem gJ0_charAt_5068e_J1_charAt_3b067 : GoodIn wsJ0_charAt_5068e (va_wsS RJ0 495 yJ1_charAt_3b067 wsJ1_charAt_3b067) := goodIn_app (goodIn_of _ (by decide +kernel)) ggJ0_charAt_5068e_J1_charAt_3b067
set_option maxRecDepth 20000 in
theorem ggJ0_charAt_5068e_J2_charAt_3b067 : GoodIn wsJ0_charAt_5068e wsJ2_charAt_3b067 := goodIn_r _ [24, 25, 26, 23, 27, 28, 29, 30, 31, 14, 5, 15, 16, 17, 18, 19, 20, 32, 33, 34, 35, 36, 37] (by decide +kernel) (by decide +kernel)
set_option maxRecDepth 20000 in
theorem gJ0_charAt_5068e_J2_charAt_3b067 : GoodIn wsJ0_charAt_5068e (va_wsS RJ0 498 yJ2_charAt_3b067 wsJ2_charAt_3b067) := goodIn_app (goodIn_of _ (by decide +kernel)) ggJ0_charAt_5068e_J2_charAt_3b067
theorem dJ0_charAt_5068e_0 : decode cJ0_charAt_5068e 0 = .ok (.aload_n 0, 1) := by decide +kernel
theorem dJ0_charAt_5068e_1 : decode cJ0_charAt_5068e 1 = .ok (.invokevirtual 492, 3) := by decide +kernel
theorem dJ0_charAt_5068e_4 : decode cJ0_charAt_5068e 4 = .ok (.ifCond .eq 12, 3) := by decide +kernel
theorem dJ0_charAt_5068e_7 : decode cJ0_charAt_5068e 7 = .ok (.aload_n 0, 1) := by decide +kernel
theorem dJ0_charAt_5068e_8 : decode cJ0_charAt_5068e 8 = .ok (.getfield 9, 3) := by decide +kernel
theorem dJ0_charAt_5068e_11 : decode cJ0_charAt_5068e 11 = .ok (.iload_n 1, 1) := by decide +kernel
theorem dJ0_charAt_5068e_12 : decode cJ0_charAt_5068e 12 = .ok (.invokestatic 495, 3) := by decide +kernel
theorem dJ0_charAt_5068e_15 : decode cJ0_charAt_5068e 15 = .ok (.ireturn, 1) := by decide +kernel
theorem dJ0_charAt_5068e_16 : decode cJ0_charAt_5068e 16 = .ok (.aload_n 0, 1) := by decide +kernel
theorem dJ0_charAt_5068e_17 : decode cJ0_charAt_5068e 17 = .ok (.getfield 9, 3) := by decide +kernel
theorem dJ0_charAt_5068e_20 : decode cJ0_charAt_5068e 20 = .ok (.iload_n 1, 1) := by decide +kernel
theorem dJ0_charAt_5068e_21 : decode cJ0_charAt_5068e 21 = .ok (.invokestatic 498, 3) := by decide +kernel
theorem dJ0_charAt_5068e_24 : decode cJ0_charAt_5068e 24 = .ok (.ireturn, 1) := by decide +kernel
theorem dJ0_coder_7d493_0 : decode cJ0_coder_7d493 0 = .ok (.getstatic 38, 3) := by decide +kernel
theorem dJ0_coder_7d493_3 : decode cJ0_coder_7d493 3 = .ok (.ifCond .eq 10, 3) := by decide +kernel
theorem dJ0_coder_7d493_6 : decode cJ0_coder_7d493 6 = .ok (.aload_n 0, 1) := by decide +kernel
theorem dJ0_coder_7d493_7 : decode cJ0_coder_7d493 7 = .ok (.getfield 15, 3) := by decide +kernel
theorem dJ0_coder_7d493_10 : decode cJ0_coder_7d493 10 = .ok (.goto 4, 3) := by decide +kernel
theorem dJ0_coder_7d493_13 : decode cJ0_coder_7d493 13 = .ok (.iconst 1, 1) := by decide +kernel
theorem dJ0_coder_7d493_14 : decode cJ0_coder_7d493 14 = .ok (.ireturn, 1) := by decide +kernel
theorem dJ0_isLatin1_aae02_0 : decode cJ0_isLatin1_aae02 0 = .ok (.getstatic 38, 3) := by decide +kernel
theorem dJ0_isLatin1_aae02_3 : decode cJ0_isLatin1_aae02 3 = .ok (.ifCond .eq 14, 3) := by decide +kernel
theorem dJ0_isLatin1_aae02_6 : decode cJ0_isLatin1_aae02 6 = .ok (.aload_n 0, 1) := by decide +kernel
theorem dJ0_isLatin1_aae02_7 : decode cJ0_isLatin1_aae02 7 = .ok (.getfield 15, 3) := by decide +kernel
theorem dJ0_isLatin1_aae02_10 : decode cJ0_isLatin1_aae02 10 = .ok (.ifCond .ne 7, 3) := by decide +kernel
theorem dJ0_isLatin1_aae02_13 : decode cJ0_isLatin1_aae02 13 = .ok (.iconst 1, 1) := by decide +kernel
theorem dJ0_isLatin1_aae02_14 : decode cJ0_isLatin1_aae02 14 = .ok (.goto 4, 3) := by decide +kernel
theorem dJ0_isLatin1_aae02_17 : decode cJ0_isLatin1_aae02 17 = .ok (.iconst 0, 1) := by decide +kernel
theorem dJ0_isLatin1_aae02_18 : decode cJ0_isLatin1_aae02 18 = .ok (.ireturn, 1) := by decide +kernel
set_option maxRecDepth 20000 in
theorem ggJ0_checkIndex_df160_J3_checkIndex_8e157 : GoodIn wsJ0_checkIndex_df160 wsJ3_checkIndex_8e157 := goodIn_r _ [5] (by decide +kernel) (by decide +kernel)
set_option maxRecDepth 20000 in
theorem gJ0_checkIndex_df160_J3_checkIndex_8e157 : GoodIn wsJ0_checkIndex_df160 (va_wsS RJ0 1059 yJ3_checkIndex_8e157 wsJ3_checkIndex_8e157) := goodIn_app (goodIn_of _ (by decide +kernel)) ggJ0_checkIndex_df160_J3_checkIndex_8e157
theorem dJ0_checkIndex_df160_0 : decode cJ0_checkIndex_df160 0 = .ok (.iload_n 0, 1) := by decide +kernel
theorem dJ0_checkIndex_df160_1 : decode cJ0_checkIndex_df160 1 = .ok (.iload_n 1, 1) := by decide +kernel
theorem dJ0_checkIndex_df160_2 : decode cJ0_checkIndex_df160 2 = .ok (.getstatic 1053, 3) := by decide +kernel
theorem dJ0_checkIndex_df160_5 : decode cJ0_checkIndex_df160 5 = .ok (.invokestatic 1059, 3) := by decide +kernel
theorem dJ0_checkIndex_df160_8 : decode cJ0_checkIndex_df160 8 = .ok (.pop, 1) := by decide +kernel
theorem dJ0_checkIndex_df160_9 : decode cJ0_checkIndex_df160 9 = .ok (.return_, 1) := by decide +kernel
set_option maxRecDepth 20000 in
theorem ggJ1_charAt_3b067_J0_checkIndex_df160 : GoodIn wsJ1_charAt_3b067 wsJ0_checkIndex_df160 := goodIn_r _ [4, 5, 6, 7, 8, 9] (by decide +kernel) (by decide +kernel)
set_option maxRecDepth 20000 in
theorem gJ1_charAt_3b067_J0_checkIndex_df160 : GoodIn wsJ1_charAt_3b067 (va_wsS RJ1 9 yJ0_checkIndex_df160 wsJ0_checkIndex_df160) := goodIn_app (goodIn_of _ (by decide +kernel)) ggJ1_charAt_3b067_J0_checkIndex_df160
theorem dJ1_charAt_3b067_0 : decode cJ1_charAt_3b067 0 = .ok (.iload_n 1, 1) := by decide +kernel
theorem dJ1_charAt_3b067_1 : decode cJ1_charAt_3b067 1 = .ok (.aload_n 0, 1) := by decide +kernel
theorem dJ1_charAt_3b067_2 : decode cJ1_charAt_3b067 2 = .ok (.arraylength, 1) := by decide +kernel
theorem dJ1_charAt_3b067_3 : decode cJ1_charAt_3b067 3 = .ok (.invokestatic 9, 3) := by decide +kernel
theorem dJ1_charAt_3b067_6 : decode cJ1_charAt_3b067 6 = .ok (.aload_n 0, 1) := by decide +kernel
theorem dJ1_charAt_3b067_7 : decode cJ1_charAt_3b067 7 = .ok (.iload_n 1, 1) := by decide +kernel
theorem dJ1_charAt_3b067_8 : decode cJ1_charAt_3b067 8 = .ok (.baload, 1) := by decide +kernel
theorem dJ1_charAt_3b067_9 : decode cJ1_charAt_3b067 9 = .ok (.sipush 255, 3) := by decide +kernel
theorem dJ1_charAt_3b067_12 : decode cJ1_charAt_3b067 12 = .ok (.iand, 1) := by decide +kernel
theorem dJ1_charAt_3b067_13 : decode cJ1_charAt_3b067 13 = .ok (.i2c, 1) := by decide +kernel
theorem dJ1_charAt_3b067_14 : decode cJ1_charAt_3b067 14 = .ok (.ireturn, 1) := by decide +kernel
set_option maxRecDepth 20000 in
theorem ggJ2_getChar_3b067_J2_length_9d52b : GoodIn wsJ2_getChar_3b067 wsJ2_length_9d52b := goodIn_r _ [7] (by decide +kernel) (by decide +kernel)
set_option maxRecDepth 20000 in
theorem gJ2_getChar_3b067_J2_length_9d52b : GoodIn wsJ2_getChar_3b067 (va_wsS RJ2 48 yJ2_length_9d52b wsJ2_length_9d52b) := goodIn_app (goodIn_of _ (by decide +kernel)) ggJ2_getChar_3b067_J2_length_9d52b
theorem dJ2_getChar_3b067_0 : decode cJ2_getChar_3b067 0 = .ok (.getstatic 44, 3) := by decide +kernel
theorem dJ2_getChar_3b067_3 : decode cJ2_getChar_3b067 3 = .ok (.ifCond .ne 25, 3) := by decide +kernel
theorem dJ2_getChar_3b067_6 : decode cJ2_getChar_3b067 6 = .ok (.iload_n 1, 1) := by decide +kernel
theorem dJ2_getChar_3b067_7 : decode cJ2_getChar_3b067 7 = .ok (.ifCond .lt 11, 3) := by decide +kernel
theorem dJ2_getChar_3b067_10 : decode cJ2_getChar_3b067 10 = .ok (.iload_n 1, 1) := by decide +kernel
theorem dJ2_getChar_3b067_11 : decode cJ2_getChar_3b067 11 = .ok (.aload_n 0, 1) := by decide +kernel
theorem dJ2_getChar_3b067_12 : decode cJ2_getChar_3b067 12 = .ok (.invokestatic 48, 3) := by decide +kernel
theorem dJ2_getChar_3b067_15 : decode cJ2_getChar_3b067 15 = .ok (.if_icmp .lt 13, 3) := by decide +kernel
theorem dJ2_getChar_3b067_18 : decode cJ2_getChar_3b067 18 = .ok (.new 52, 3) := by decide +kernel
theorem dJ2_getChar_3b067_21 : decode cJ2_getChar_3b067 21 = .ok (.dup, 1) := by decide +kernel
theorem dJ2_getChar_3b067_22 : decode cJ2_getChar_3b067 22 = .ok (.ldc 54, 2) := by decide +kernel
theorem dJ2_getChar_3b067_24 : decode cJ2_getChar_3b067 24 = .ok (.invokespecial 56, 3) := by decide +kernel
theorem dJ2_getChar_3b067_27 : decode cJ2_getChar_3b067 27 = .ok (.athrow, 1) := by decide +kernel
theorem dJ2_getChar_3b067_28 : decode cJ2_getChar_3b067 28 = .ok (.iload_n 1, 1) := by decide +kernel
theorem dJ2_getChar_3b067_29 : decode cJ2_getChar_3b067 29 = .ok (.iconst 1, 1) := by decide +kernel
theorem dJ2_getChar_3b067_30 : decode cJ2_getChar_3b067 30 = .ok (.ishl, 1) := by decide +kernel
theorem dJ2_getChar_3b067_31 : decode cJ2_getChar_3b067 31 = .ok (.istore_n 1, 1) := by decide +kernel
theorem dJ2_getChar_3b067_32 : decode cJ2_getChar_3b067 32 = .ok (.aload_n 0, 1) := by decide +kernel
theorem dJ2_getChar_3b067_33 : decode cJ2_getChar_3b067 33 = .ok (.iload_n 1, 1) := by decide +kernel
theorem dJ2_getChar_3b067_34 : decode cJ2_getChar_3b067 34 = .ok (.iinc 1 1, 3) := by decide +kernel
theorem dJ2_getChar_3b067_37 : decode cJ2_getChar_3b067 37 = .ok (.baload, 1) := by decide +kernel
theorem dJ2_getChar_3b067_38 : decode cJ2_getChar_3b067 38 = .ok (.sipush 255, 3) := by decide +kernel
theorem dJ2_getChar_3b067_41 : decode cJ2_getChar_3b067 41 = .ok (.iand, 1) := by decide +kernel
theorem dJ2_getChar_3b067_42 : decode cJ2_getChar_3b067 42 = .ok (.getstatic 59, 3) := by decide +kernel
theorem dJ2_getChar_3b067_45 : decode cJ2_getChar_3b067 45 = .ok (.ishl, 1) := by decide +kernel
theorem dJ2_getChar_3b067_46 : decode cJ2_getChar_3b067 46 = .ok (.aload_n 0, 1) := by decide +kernel
theorem dJ2_getChar_3b067_47 : decode cJ2_getChar_3b067 47 = .ok (.iload_n 1, 1) := by decide +kernel
theorem dJ2_getChar_3b067_48 : decode cJ2_getChar_3b067 48 = .ok (.baload, 1) := by decide +kernel
theorem dJ2_getChar_3b067_49 : decode cJ2_getChar_3b067 49 = .ok (.sipush 255, 3) := by decide +kernel
theorem dJ2_getChar_3b067_52 : decode cJ2_getChar_3b067 52 = .ok (.iand, 1) := by decide +kernel
theorem dJ2_getChar_3b067_53 : decode cJ2_getChar_3b067 53 = .ok (.getstatic 63, 3) := by decide +kernel
theorem dJ2_getChar_3b067_56 : decode cJ2_getChar_3b067 56 = .ok (.ishl, 1) := by decide +kernel
theorem dJ2_getChar_3b067_57 : decode cJ2_getChar_3b067 57 = .ok (.ior, 1) := by decide +kernel
theorem dJ2_getChar_3b067_58 : decode cJ2_getChar_3b067 58 = .ok (.i2c, 1) := by decide +kernel
theorem dJ2_getChar_3b067_59 : decode cJ2_getChar_3b067 59 = .ok (.ireturn, 1) := by decide +kernel
theorem dJ2_length_9d52b_0 : decode cJ2_length_9d52b 0 = .ok (.aload_n 0, 1) := by decide +kernel
theorem dJ2_length_9d52b_1 : decode cJ2_length_9d52b 1 = .ok (.arraylength, 1) := by decide +kernel
theorem dJ2_length_9d52b_2 : decode cJ2_length_9d52b 2 = .ok (.iconst 1, 1) := by decide +kernel
theorem dJ2_length_9d52b_3 : decode cJ2_length_9d52b 3 = .ok (.ishr, 1) := by decide +kernel
theorem dJ2_length_9d52b_4 : decode cJ2_length_9d52b 4 = .ok (.ireturn, 1) := by decide +kernel
set_option maxRecDepth 20000 in
theorem ggJ2_charAt_3b067_J2_checkIndex_2214a : GoodIn wsJ2_charAt_3b067 wsJ2_checkIndex_2214a := goodIn_r _ [4, 5, 6, 3, 7, 8, 9, 10, 11, 12, 13, 14, 15, 16] (by decide +kernel) (by decide +kernel)
set_option maxRecDepth 20000 in
theorem gJ2_charAt_3b067_J2_checkIndex_2214a : GoodIn wsJ2_charAt_3b067 (va_wsS RJ2 67 yJ2_checkIndex_2214a wsJ2_checkIndex_2214a) := goodIn_app (goodIn_of _ (by decide +kernel)) ggJ2_charAt_3b067_J2_checkIndex_2214a
set_option maxRecDepth 20000 in
theorem ggJ2_charAt_3b067_J2_getChar_3b067 : GoodIn wsJ2_charAt_3b067 wsJ2_getChar_3b067 := goodIn_r _ [19, 20, 21, 22, 5, 6, 3, 7] (by decide +kernel) (by decide +kernel)
set_option maxRecDepth 20000 in
theorem gJ2_charAt_3b067_J2_getChar_3b067 : GoodIn wsJ2_charAt_3b067 (va_wsS RJ2 71 yJ2_getChar_3b067 wsJ2_getChar_3b067) := goodIn_app (goodIn_of _ (by decide +kernel)) ggJ2_charAt_3b067_J2_getChar_3b067
theorem dJ2_charAt_3b067_0 : decode cJ2_charAt_3b067 0 = .ok (.iload_n 1, 1) := by decide +kernel
theorem dJ2_charAt_3b067_1 : decode cJ2_charAt_3b067 1 = .ok (.aload_n 0, 1) := by decide +kernel
theorem dJ2_charAt_3b067_2 : decode cJ2_charAt_3b067 2 = .ok (.invokestatic 67, 3) := by decide +kernel
theorem dJ2_charAt_3b067_5 : decode cJ2_charAt_3b067 5 = .ok (.aload_n 0, 1) := by decide +kernel
theorem dJ2_charAt_3b067_6 : decode cJ2_charAt_3b067 6 = .ok (.iload_n 1, 1) := by decide +kernel
theorem dJ2_charAt_3b067_7 : decode cJ2_charAt_3b067 7 = .ok (.invokestatic 71, 3) := by decide +kernel
theorem dJ2_charAt_3b067_10 : decode cJ2_charAt_3b067 10 = .ok (.ireturn, 1) := by decide +kernel
set_option maxRecDepth 20000 in
theorem ggJ2_checkIndex_2214a_J2_length_9d52b : GoodIn wsJ2_checkIndex_2214a wsJ2_length_9d52b := goodIn_r _ [4] (by decide +kernel) (by decide +kernel)
set_option maxRecDepth 20000 in
theorem gJ2_checkIndex_2214a_J2_length_9d52b : GoodIn wsJ2_checkIndex_2214a (va_wsS RJ2 48 yJ2_length_9d52b wsJ2_length_9d52b) := goodIn_app (goodIn_of _ (by decide +kernel)) ggJ2_checkIndex_2214a_J2_length_9d52b
set_option maxRecDepth 20000 in
theorem ggJ2_checkIndex_2214a_J0_checkIndex_df160 : GoodIn wsJ2_checkIndex_2214a wsJ0_checkIndex_df160 := goodIn_r _ [8, 9, 10, 11, 12, 13] (by decide +kernel) (by decide +kernel)
set_option maxRecDepth 20000 in
theorem gJ2_checkIndex_2214a_J0_checkIndex_df160 : GoodIn wsJ2_checkIndex_2214a (va_wsS RJ2 414 yJ0_checkIndex_df160 wsJ0_checkIndex_df160) := goodIn_app (goodIn_of _ (by decide +kernel)) ggJ2_checkIndex_2214a_J0_checkIndex_df160
theorem dJ2_checkIndex_2214a_0 : decode cJ2_checkIndex_2214a 0 = .ok (.iload_n 0, 1) := by decide +kernel
theorem dJ2_checkIndex_2214a_1 : decode cJ2_checkIndex_2214a 1 = .ok (.aload_n 1, 1) := by decide +kernel
theorem dJ2_checkIndex_2214a_2 : decode cJ2_checkIndex_2214a 2 = .ok (.invokestatic 48, 3) := by decide +kernel
theorem dJ2_checkIndex_2214a_5 : decode cJ2_checkIndex_2214a 5 = .ok (.invokestatic 414, 3) := by decide +kernel
theorem dJ2_checkIndex_2214a_8 : decode cJ2_checkIndex_2214a 8 = .ok (.return_, 1) := by decide +kernel
theorem dJ7_fill_53178_0 : decode cJ7_fill_53178 0 = .ok (.iconst 0, 1) := by decide +kernel
theorem dJ7_fill_53178_1 : decode cJ7_fill_53178 1 = .ok (.istore_n 2, 1) := by decide +kernel
theorem dJ7_fill_53178_2 : decode cJ7_fill_53178 2 = .ok (.aload_n 0, 1) := by decide +kernel
theorem dJ7_fill_53178_3 : decode cJ7_fill_53178 3 = .ok (.arraylength, 1) := by decide +kernel
theorem dJ7_fill_53178_4 : decode cJ7_fill_53178 4 = .ok (.istore_n 3, 1) := by decide +kernel
theorem dJ7_fill_53178_5 : decode cJ7_fill_53178 5 = .ok (.iload_n 2, 1) := by decide +kernel
theorem dJ7_fill_53178_6 : decode cJ7_fill_53178 6 = .ok (.iload_n 3, 1) := by decide +kernel
theorem dJ7_fill_53178_7 : decode cJ7_fill_53178 7 = .ok (.if_icmp .ge 13, 3) := by decide +kernel
theorem dJ7_fill_53178_10 : decode cJ7_fill_53178 10 = .ok (.aload_n 0, 1) := by decide +kernel
theorem dJ7_fill_53178_11 : decode cJ7_fill_53178 11 = .ok (.iload_n 2, 1) := by decide +kernel
theorem dJ7_fill_53178_12 : decode cJ7_fill_53178 12 = .ok (.iload_n 1, 1) := by decide +kernel
theorem dJ7_fill_53178_13 : decode cJ7_fill_53178 13 = .ok (.iastore, 1) := by decide +kernel
theorem dJ7_fill_53178_14 : decode cJ7_fill_53178 14 = .ok (.iinc 2 1, 3) := by decide +kernel
theorem dJ7_fill_53178_17 : decode cJ7_fill_53178 17 = .ok (.goto (-12), 3) := by decide +kernel
theorem dJ7_fill_53178_20 : decode cJ7_fill_53178 20 = .ok (.return_, 1) := by decide +kernel
theorem dJ7_copyOf_59c91_0 : decode cJ7_copyOf_59c91 0 = .ok (.iload_n 1, 1) := by decide +kernel
theorem dJ7_copyOf_59c91_1 : decode cJ7_copyOf_59c91 1 = .ok (.aload_n 0, 1) := by decide +kernel
theorem dJ7_copyOf_59c91_2 : decode cJ7_copyOf_59c91 2 = .ok (.arraylength, 1) := by decide +kernel
theorem dJ7_copyOf_59c91_3 : decode cJ7_copyOf_59c91 3 = .ok (.if_icmp .ne 11, 3) := by decide +kernel
theorem dJ7_copyOf_59c91_6 : decode cJ7_copyOf_59c91 6 = .ok (.aload_n 0, 1) := by decide +kernel
theorem dJ7_copyOf_59c91_7 : decode cJ7_copyOf_59c91 7 = .ok (.invokevirtual 316, 3) := by decide +kernel
theorem dJ7_copyOf_59c91_10 : decode cJ7_copyOf_59c91 10 = .ok (.checkcast 317, 3) := by decide +kernel
theorem dJ7_copyOf_59c91_13 : decode cJ7_copyOf_59c91 13 = .ok (.areturn, 1) := by decide +kernel
theorem dJ7_copyOf_59c91_14 : decode cJ7_copyOf_59c91 14 = .ok (.iload_n 1, 1) := by decide +kernel
theorem dJ7_copyOf_59c91_15 : decode cJ7_copyOf_59c91 15 = .ok (.newarray .int, 2) := by decide +kernel
theorem dJ7_copyOf_59c91_17 : decode cJ7_copyOf_59c91 17 = .ok (.astore_n 2, 1) := by decide +kernel
theorem dJ7_copyOf_59c91_18 : decode cJ7_copyOf_59c91 18 = .ok (.aload_n 0, 1) := by decide +kernel
theorem dJ7_copyOf_59c91_19 : decode cJ7_copyOf_59c91 19 = .ok (.iconst 0, 1) := by decide +kernel
theorem dJ7_copyOf_59c91_20 : decode cJ7_copyOf_59c91 20 = .ok (.aload_n 2, 1) := by decide +kernel
theorem dJ7_copyOf_59c91_21 : decode cJ7_copyOf_59c91 21 = .ok (.iconst 0, 1) := by decide +kernel
theorem dJ7_copyOf_59c91_22 : decode cJ7_copyOf_59c91 22 = .ok (.aload_n 0, 1) := by decide +kernel
theorem dJ7_copyOf_59c91_23 : decode cJ7_copyOf_59c91 23 = .ok (.arraylength, 1) := by decide +kernel
theorem dJ7_copyOf_59c91_24 : decode cJ7_copyOf_59c91 24 = .ok (.iload_n 1, 1) := by decide +kernel
theorem dJ7_copyOf_59c91_25 : decode cJ7_copyOf_59c91 25 = .ok (.invokestatic 304, 3) := by decide +kernel
theorem dJ7_copyOf_59c91_28 : decode cJ7_copyOf_59c91 28 = .ok (.invokestatic 150, 3) := by decide +kernel
theorem dJ7_copyOf_59c91_31 : decode cJ7_copyOf_59c91 31 = .ok (.aload_n 2, 1) := by decide +kernel
theorem dJ7_copyOf_59c91_32 : decode cJ7_copyOf_59c91 32 = .ok (.areturn, 1) := by decide +kernel
theorem dJ3_checkIndex_8e157_0 : decode cJ3_checkIndex_8e157 0 = .ok (.iload_n 0, 1) := by decide +kernel
theorem dJ3_checkIndex_8e157_1 : decode cJ3_checkIndex_8e157 1 = .ok (.ifCond .lt 8, 3) := by decide +kernel
theorem dJ3_checkIndex_8e157_4 : decode cJ3_checkIndex_8e157 4 = .ok (.iload_n 0, 1) := by decide +kernel
theorem dJ3_checkIndex_8e157_5 : decode cJ3_checkIndex_8e157 5 = .ok (.iload_n 1, 1) := by decide +kernel
theorem dJ3_checkIndex_8e157_6 : decode cJ3_checkIndex_8e157 6 = .ok (.if_icmp .lt 10, 3) := by decide +kernel
theorem dJ3_checkIndex_8e157_9 : decode cJ3_checkIndex_8e157 9 = .ok (.aload_n 2, 1) := by decide +kernel
theorem dJ3_checkIndex_8e157_10 : decode cJ3_checkIndex_8e157 10 = .ok (.iload_n 0, 1) := by decide +kernel
theorem dJ3_checkIndex_8e157_11 : decode cJ3_checkIndex_8e157 11 = .ok (.iload_n 1, 1) := by decide +kernel
theorem dJ3_checkIndex_8e157_12 : decode cJ3_checkIndex_8e157 12 = .ok (.invokestatic 95, 3) := by decide +kernel
theorem dJ3_checkIndex_8e157_15 : decode cJ3_checkIndex_8e157 15 = .ok (.athrow, 1) := by decide +kernel
theorem dJ3_checkIndex_8e157_16 : decode cJ3_checkIndex_8e157 16 = .ok (.iload_n 0, 1) := by decide +kernel
theorem dJ3_checkIndex_8e157_17 : decode cJ3_checkIndex_8e157 17 = .ok (.ireturn, 1) := by decide +kernel
abbrev vwCl : List vw_C := [(RX0, TX0, 5), (RX2, TX2, 6), (RX3, TX3, 7), (RX4, TX4, 5), (RX6, TX6, 3), (RX7, TX7, 3), (RX8, TX8, 2), (RX9, TX9, 15), (RX10, TX10, 42)]
