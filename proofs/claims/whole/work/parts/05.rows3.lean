theorem dX9_readCitation_12 : decode cX9_readCitation 12 = .ok (.if_icmp .ge 140, 3) := by decide +kernel
theorem dX9_readCitation_15 : decode cX9_readCitation 15 = .ok (.aload_n 0, 1) := by decide +kernel
theorem dX9_readCitation_16 : decode cX9_readCitation 16 = .ok (.getfield 39, 3) := by decide +kernel
theorem dX9_readCitation_19 : decode cX9_readCitation 19 = .ok (.aload_n 0, 1) := by decide +kernel
theorem dX9_readCitation_20 : decode cX9_readCitation 20 = .ok (.getfield 10, 3) := by decide +kernel
theorem dX9_readCitation_23 : decode cX9_readCitation 23 = .ok (.iload_n 1, 1) := by decide +kernel
theorem dX9_readCitation_24 : decode cX9_readCitation 24 = .ok (.aload_n 0, 1) := by decide +kernel
theorem dX9_readCitation_25 : decode cX9_readCitation 25 = .ok (.getfield 22, 3) := by decide +kernel
theorem dX9_readCitation_28 : decode cX9_readCitation 28 = .ok (.iload_n 2, 1) := by decide +kernel
theorem dX9_readCitation_29 : decode cX9_readCitation 29 = .ok (.invokevirtual 217, 3) := by decide +kernel
theorem dX9_readCitation_32 : decode cX9_readCitation 32 = .ok (.invokevirtual 243, 3) := by decide +kernel
theorem dX9_readCitation_35 : decode cX9_readCitation 35 = .ok (.aload_n 0, 1) := by decide +kernel
theorem dX9_readCitation_36 : decode cX9_readCitation 36 = .ok (.getfield 39, 3) := by decide +kernel
theorem dX9_readCitation_39 : decode cX9_readCitation 39 = .ok (.getfield 246, 3) := by decide +kernel
theorem dX9_readCitation_42 : decode cX9_readCitation 42 = .ok (.ifCond .eq 27, 3) := by decide +kernel
theorem dX9_readCitation_45 : decode cX9_readCitation 45 = .ok (.aload_n 0, 1) := by decide +kernel
theorem dX9_readCitation_46 : decode cX9_readCitation 46 = .ok (.aload_n 0, 1) := by decide +kernel
theorem dX9_readCitation_47 : decode cX9_readCitation 47 = .ok (.getfield 39, 3) := by decide +kernel
theorem dX9_readCitation_50 : decode cX9_readCitation 50 = .ok (.getfield 246, 3) := by decide +kernel
theorem dX9_readCitation_53 : decode cX9_readCitation 53 = .ok (.putfield 92, 3) := by decide +kernel
theorem dX9_readCitation_56 : decode cX9_readCitation 56 = .ok (.aload_n 0, 1) := by decide +kernel
theorem dX9_readCitation_57 : decode cX9_readCitation 57 = .ok (.aload_n 0, 1) := by decide +kernel
theorem dX9_readCitation_58 : decode cX9_readCitation 58 = .ok (.getfield 39, 3) := by decide +kernel
theorem dX9_readCitation_61 : decode cX9_readCitation 61 = .ok (.getfield 272, 3) := by decide +kernel
theorem dX9_readCitation_64 : decode cX9_readCitation 64 = .ok (.putfield 75, 3) := by decide +kernel
theorem dX9_readCitation_67 : decode cX9_readCitation 67 = .ok (.iconst 0, 1) := by decide +kernel
theorem dX9_readCitation_68 : decode cX9_readCitation 68 = .ok (.ireturn, 1) := by decide +kernel
theorem dX9_readCitation_69 : decode cX9_readCitation 69 = .ok (.aload_n 0, 1) := by decide +kernel
theorem dX9_readCitation_70 : decode cX9_readCitation 70 = .ok (.getfield 64, 3) := by decide +kernel
theorem dX9_readCitation_73 : decode cX9_readCitation 73 = .ok (.iload_n 2, 1) := by decide +kernel
theorem dX9_readCitation_74 : decode cX9_readCitation 74 = .ok (.aload_n 0, 1) := by decide +kernel
theorem dX9_readCitation_75 : decode cX9_readCitation 75 = .ok (.getfield 39, 3) := by decide +kernel
theorem dX9_readCitation_78 : decode cX9_readCitation 78 = .ok (.getfield 250, 3) := by decide +kernel
theorem dX9_readCitation_81 : decode cX9_readCitation 81 = .ok (.iastore, 1) := by decide +kernel
theorem dX9_readCitation_82 : decode cX9_readCitation 82 = .ok (.aload_n 0, 1) := by decide +kernel
theorem dX9_readCitation_83 : decode cX9_readCitation 83 = .ok (.getfield 39, 3) := by decide +kernel
theorem dX9_readCitation_86 : decode cX9_readCitation 86 = .ok (.getfield 247, 3) := by decide +kernel
theorem dX9_readCitation_89 : decode cX9_readCitation 89 = .ok (.istore_n 1, 1) := by decide +kernel
theorem dX9_readCitation_90 : decode cX9_readCitation 90 = .ok (.iload_n 1, 1) := by decide +kernel
theorem dX9_readCitation_91 : decode cX9_readCitation 91 = .ok (.aload_n 0, 1) := by decide +kernel
theorem dX9_readCitation_92 : decode cX9_readCitation 92 = .ok (.getfield 10, 3) := by decide +kernel
theorem dX9_readCitation_95 : decode cX9_readCitation 95 = .ok (.getfield 78, 3) := by decide +kernel
theorem dX9_readCitation_98 : decode cX9_readCitation 98 = .ok (.if_icmp .ne 7, 3) := by decide +kernel
theorem dX9_readCitation_101 : decode cX9_readCitation 101 = .ok (.iload_n 2, 1) := by decide +kernel
theorem dX9_readCitation_102 : decode cX9_readCitation 102 = .ok (.iconst 1, 1) := by decide +kernel
theorem dX9_readCitation_103 : decode cX9_readCitation 103 = .ok (.iadd, 1) := by decide +kernel
theorem dX9_readCitation_104 : decode cX9_readCitation 104 = .ok (.ireturn, 1) := by decide +kernel
theorem dX9_readCitation_105 : decode cX9_readCitation 105 = .ok (.aload_n 0, 1) := by decide +kernel
theorem dX9_readCitation_106 : decode cX9_readCitation 106 = .ok (.getfield 10, 3) := by decide +kernel
theorem dX9_readCitation_109 : decode cX9_readCitation 109 = .ok (.iload_n 1, 1) := by decide +kernel
theorem dX9_readCitation_110 : decode cX9_readCitation 110 = .ok (.invokevirtual 231, 3) := by decide +kernel
theorem dX9_readCitation_113 : decode cX9_readCitation 113 = .ok (.bipush 46, 2) := by decide +kernel
theorem dX9_readCitation_115 : decode cX9_readCitation 115 = .ok (.if_icmp .ne 16, 3) := by decide +kernel
theorem dX9_readCitation_118 : decode cX9_readCitation 118 = .ok (.iload_n 2, 1) := by decide +kernel
theorem dX9_readCitation_119 : decode cX9_readCitation 119 = .ok (.iconst 1, 1) := by decide +kernel
theorem dX9_readCitation_120 : decode cX9_readCitation 120 = .ok (.iadd, 1) := by decide +kernel
theorem dX9_readCitation_121 : decode cX9_readCitation 121 = .ok (.aload_n 0, 1) := by decide +kernel
theorem dX9_readCitation_122 : decode cX9_readCitation 122 = .ok (.getfield 22, 3) := by decide +kernel
theorem dX9_readCitation_125 : decode cX9_readCitation 125 = .ok (.getfield 71, 3) := by decide +kernel
theorem dX9_readCitation_128 : decode cX9_readCitation 128 = .ok (.if_icmp .ne 15, 3) := by decide +kernel
theorem dX9_readCitation_131 : decode cX9_readCitation 131 = .ok (.aload_n 0, 1) := by decide +kernel
theorem dX9_readCitation_132 : decode cX9_readCitation 132 = .ok (.iconst 1, 1) := by decide +kernel
theorem dX9_readCitation_133 : decode cX9_readCitation 133 = .ok (.putfield 92, 3) := by decide +kernel
theorem dX9_readCitation_136 : decode cX9_readCitation 136 = .ok (.aload_n 0, 1) := by decide +kernel
theorem dX9_readCitation_137 : decode cX9_readCitation 137 = .ok (.iload_n 1, 1) := by decide +kernel
theorem dX9_readCitation_138 : decode cX9_readCitation 138 = .ok (.putfield 75, 3) := by decide +kernel
theorem dX9_readCitation_141 : decode cX9_readCitation 141 = .ok (.iconst 0, 1) := by decide +kernel
theorem dX9_readCitation_142 : decode cX9_readCitation 142 = .ok (.ireturn, 1) := by decide +kernel
theorem dX9_readCitation_143 : decode cX9_readCitation 143 = .ok (.iinc 1 1, 3) := by decide +kernel
theorem dX9_readCitation_146 : decode cX9_readCitation 146 = .ok (.iinc 2 1, 3) := by decide +kernel
theorem dX9_readCitation_149 : decode cX9_readCitation 149 = .ok (.goto (-145), 3) := by decide +kernel
theorem dX9_readCitation_152 : decode cX9_readCitation 152 = .ok (.iconst 0, 1) := by decide +kernel
theorem dX9_readCitation_153 : decode cX9_readCitation 153 = .ok (.ireturn, 1) := by decide +kernel
set_option maxRecDepth 20000 in
theorem ggX9_bearsPath_X3_has : GoodIn wsX9_bearsPath wsX3_has := goodIn_r _ [10, 11, 36, 37, 38, 39, 40, 41, 42] (by decide +kernel) (by decide +kernel)
set_option maxRecDepth 20000 in
theorem gX9_bearsPath_X3_has : GoodIn wsX9_bearsPath (wsV RX9 148 RX3 yX3_has wsX3_has) := goodIn_app (goodIn_of _ (by decide +kernel)) ggX9_bearsPath_X3_has
set_option maxRecDepth 20000 in
theorem ggX9_bearsPath_X2_asOf : GoodIn wsX9_bearsPath wsX2_asOf := goodIn_r _ [16, 17, 18, 19, 20, 43, 44, 45, 46, 47, 48] (by decide +kernel) (by decide +kernel)
set_option maxRecDepth 20000 in
theorem gX9_bearsPath_X2_asOf : GoodIn wsX9_bearsPath (wsV RX9 214 RX2 yX2_asOf wsX2_asOf) := goodIn_app (goodIn_of _ (by decide +kernel)) ggX9_bearsPath_X2_asOf
theorem dX9_bearsPath_0 : decode cX9_bearsPath 0 = .ok (.iload_n 1, 1) := by decide +kernel
theorem dX9_bearsPath_1 : decode cX9_bearsPath 1 = .ok (.istore_n 3, 1) := by decide +kernel
theorem dX9_bearsPath_2 : decode cX9_bearsPath 2 = .ok (.aload_n 0, 1) := by decide +kernel
theorem dX9_bearsPath_3 : decode cX9_bearsPath 3 = .ok (.getfield 46, 3) := by decide +kernel
theorem dX9_bearsPath_6 : decode cX9_bearsPath 6 = .ok (.getfield 113, 3) := by decide +kernel
theorem dX9_bearsPath_9 : decode cX9_bearsPath 9 = .ok (.iload_n 1, 1) := by decide +kernel
theorem dX9_bearsPath_10 : decode cX9_bearsPath 10 = .ok (.iaload, 1) := by decide +kernel
theorem dX9_bearsPath_11 : decode cX9_bearsPath 11 = .ok (.istore 4, 2) := by decide +kernel
theorem dX9_bearsPath_13 : decode cX9_bearsPath 13 = .ok (.iload 4, 2) := by decide +kernel
theorem dX9_bearsPath_15 : decode cX9_bearsPath 15 = .ok (.ifCond .lt 51, 3) := by decide +kernel
theorem dX9_bearsPath_18 : decode cX9_bearsPath 18 = .ok (.aload_n 0, 1) := by decide +kernel
theorem dX9_bearsPath_19 : decode cX9_bearsPath 19 = .ok (.getfield 46, 3) := by decide +kernel
theorem dX9_bearsPath_22 : decode cX9_bearsPath 22 = .ok (.iload_n 3, 1) := by decide +kernel
theorem dX9_bearsPath_23 : decode cX9_bearsPath 23 = .ok (.invokevirtual 148, 3) := by decide +kernel
theorem dX9_bearsPath_26 : decode cX9_bearsPath 26 = .ok (.ifCond .eq 40, 3) := by decide +kernel
theorem dX9_bearsPath_29 : decode cX9_bearsPath 29 = .ok (.aload_n 0, 1) := by decide +kernel
theorem dX9_bearsPath_30 : decode cX9_bearsPath 30 = .ok (.getfield 53, 3) := by decide +kernel
theorem dX9_bearsPath_33 : decode cX9_bearsPath 33 = .ok (.iload_n 3, 1) := by decide +kernel
theorem dX9_bearsPath_34 : decode cX9_bearsPath 34 = .ok (.iload_n 2, 1) := by decide +kernel
theorem dX9_bearsPath_35 : decode cX9_bearsPath 35 = .ok (.invokevirtual 214, 3) := by decide +kernel
theorem dX9_bearsPath_38 : decode cX9_bearsPath 38 = .ok (.aload_n 0, 1) := by decide +kernel
theorem dX9_bearsPath_39 : decode cX9_bearsPath 39 = .ok (.getfield 64, 3) := by decide +kernel
theorem dX9_bearsPath_42 : decode cX9_bearsPath 42 = .ok (.iload 4, 2) := by decide +kernel
theorem dX9_bearsPath_44 : decode cX9_bearsPath 44 = .ok (.iaload, 1) := by decide +kernel
theorem dX9_bearsPath_45 : decode cX9_bearsPath 45 = .ok (.if_icmp .eq 5, 3) := by decide +kernel
theorem dX9_bearsPath_48 : decode cX9_bearsPath 48 = .ok (.iconst 0, 1) := by decide +kernel
theorem dX9_bearsPath_49 : decode cX9_bearsPath 49 = .ok (.ireturn, 1) := by decide +kernel
theorem dX9_bearsPath_50 : decode cX9_bearsPath 50 = .ok (.aload_n 0, 1) := by decide +kernel
theorem dX9_bearsPath_51 : decode cX9_bearsPath 51 = .ok (.getfield 46, 3) := by decide +kernel
theorem dX9_bearsPath_54 : decode cX9_bearsPath 54 = .ok (.getfield 162, 3) := by decide +kernel
theorem dX9_bearsPath_57 : decode cX9_bearsPath 57 = .ok (.iload_n 3, 1) := by decide +kernel
theorem dX9_bearsPath_58 : decode cX9_bearsPath 58 = .ok (.iaload, 1) := by decide +kernel
theorem dX9_bearsPath_59 : decode cX9_bearsPath 59 = .ok (.istore_n 3, 1) := by decide +kernel
theorem dX9_bearsPath_60 : decode cX9_bearsPath 60 = .ok (.iinc 4 (-1), 3) := by decide +kernel
theorem dX9_bearsPath_63 : decode cX9_bearsPath 63 = .ok (.goto (-50), 3) := by decide +kernel
theorem dX9_bearsPath_66 : decode cX9_bearsPath 66 = .ok (.iconst 1, 1) := by decide +kernel
theorem dX9_bearsPath_67 : decode cX9_bearsPath 67 = .ok (.ireturn, 1) := by decide +kernel
theorem dX10_init_0 : decode cX10_init 0 = .ok (.aload_n 0, 1) := by decide +kernel
theorem dX10_init_1 : decode cX10_init 1 = .ok (.invokespecial 1, 3) := by decide +kernel
theorem dX10_init_4 : decode cX10_init 4 = .ok (.aload_n 0, 1) := by decide +kernel
theorem dX10_init_5 : decode cX10_init 5 = .ok (.sipush 200, 3) := by decide +kernel
theorem dX10_init_8 : decode cX10_init 8 = .ok (.newarray .byte, 2) := by decide +kernel
theorem dX10_init_10 : decode cX10_init 10 = .ok (.putfield 7, 3) := by decide +kernel
theorem dX10_init_13 : decode cX10_init 13 = .ok (.aload_n 0, 1) := by decide +kernel
theorem dX10_init_14 : decode cX10_init 14 = .ok (.iconst 4, 1) := by decide +kernel
theorem dX10_init_15 : decode cX10_init 15 = .ok (.newarray .int, 2) := by decide +kernel
theorem dX10_init_17 : decode cX10_init 17 = .ok (.dup, 1) := by decide +kernel
theorem dX10_init_18 : decode cX10_init 18 = .ok (.iconst 0, 1) := by decide +kernel
theorem dX10_init_19 : decode cX10_init 19 = .ok (.iconst 0, 1) := by decide +kernel
theorem dX10_init_20 : decode cX10_init 20 = .ok (.iastore, 1) := by decide +kernel
theorem dX10_init_21 : decode cX10_init 21 = .ok (.dup, 1) := by decide +kernel
theorem dX10_init_22 : decode cX10_init 22 = .ok (.iconst 1, 1) := by decide +kernel
theorem dX10_init_23 : decode cX10_init 23 = .ok (.iconst 2, 1) := by decide +kernel
theorem dX10_init_24 : decode cX10_init 24 = .ok (.iastore, 1) := by decide +kernel
theorem dX10_init_25 : decode cX10_init 25 = .ok (.dup, 1) := by decide +kernel
theorem dX10_init_26 : decode cX10_init 26 = .ok (.iconst 2, 1) := by decide +kernel
theorem dX10_init_27 : decode cX10_init 27 = .ok (.iconst 0, 1) := by decide +kernel
theorem dX10_init_28 : decode cX10_init 28 = .ok (.iastore, 1) := by decide +kernel
theorem dX10_init_29 : decode cX10_init 29 = .ok (.dup, 1) := by decide +kernel
theorem dX10_init_30 : decode cX10_init 30 = .ok (.iconst 3, 1) := by decide +kernel
theorem dX10_init_31 : decode cX10_init 31 = .ok (.iconst 0, 1) := by decide +kernel
theorem dX10_init_32 : decode cX10_init 32 = .ok (.iastore, 1) := by decide +kernel
theorem dX10_init_33 : decode cX10_init 33 = .ok (.putfield 13, 3) := by decide +kernel
theorem dX10_init_36 : decode cX10_init 36 = .ok (.aload_n 0, 1) := by decide +kernel
theorem dX10_init_37 : decode cX10_init 37 = .ok (.iconst 4, 1) := by decide +kernel
theorem dX10_init_38 : decode cX10_init 38 = .ok (.newarray .int, 2) := by decide +kernel
theorem dX10_init_40 : decode cX10_init 40 = .ok (.putfield 17, 3) := by decide +kernel
theorem dX10_init_43 : decode cX10_init 43 = .ok (.aload_n 0, 1) := by decide +kernel
theorem dX10_init_44 : decode cX10_init 44 = .ok (.iconst 4, 1) := by decide +kernel
theorem dX10_init_45 : decode cX10_init 45 = .ok (.newarray .boolean, 2) := by decide +kernel
theorem dX10_init_47 : decode cX10_init 47 = .ok (.putfield 20, 3) := by decide +kernel
theorem dX10_init_50 : decode cX10_init 50 = .ok (.aload_n 0, 1) := by decide +kernel
theorem dX10_init_51 : decode cX10_init 51 = .ok (.iconst 4, 1) := by decide +kernel
theorem dX10_init_52 : decode cX10_init 52 = .ok (.newarray .boolean, 2) := by decide +kernel
theorem dX10_init_54 : decode cX10_init 54 = .ok (.putfield 24, 3) := by decide +kernel
theorem dX10_init_57 : decode cX10_init 57 = .ok (.aload_n 0, 1) := by decide +kernel
theorem dX10_init_58 : decode cX10_init 58 = .ok (.iconst 2, 1) := by decide +kernel
theorem dX10_init_59 : decode cX10_init 59 = .ok (.putfield 27, 3) := by decide +kernel
theorem dX10_init_62 : decode cX10_init 62 = .ok (.aload_n 0, 1) := by decide +kernel
theorem dX10_init_63 : decode cX10_init 63 = .ok (.iconst (-1), 1) := by decide +kernel
theorem dX10_init_64 : decode cX10_init 64 = .ok (.putfield 31, 3) := by decide +kernel
theorem dX10_init_67 : decode cX10_init 67 = .ok (.aload_n 0, 1) := by decide +kernel
theorem dX10_init_68 : decode cX10_init 68 = .ok (.bipush 80, 2) := by decide +kernel
theorem dX10_init_70 : decode cX10_init 70 = .ok (.newarray .int, 2) := by decide +kernel
theorem dX10_init_72 : decode cX10_init 72 = .ok (.putfield 34, 3) := by decide +kernel
theorem dX10_init_75 : decode cX10_init 75 = .ok (.aload_n 0, 1) := by decide +kernel
theorem dX10_init_76 : decode cX10_init 76 = .ok (.bipush 80, 2) := by decide +kernel
theorem dX10_init_78 : decode cX10_init 78 = .ok (.newarray .int, 2) := by decide +kernel
theorem dX10_init_80 : decode cX10_init 80 = .ok (.putfield 37, 3) := by decide +kernel
theorem dX10_init_83 : decode cX10_init 83 = .ok (.aload_n 0, 1) := by decide +kernel
theorem dX10_init_84 : decode cX10_init 84 = .ok (.bipush 80, 2) := by decide +kernel
theorem dX10_init_86 : decode cX10_init 86 = .ok (.newarray .int, 2) := by decide +kernel
theorem dX10_init_88 : decode cX10_init 88 = .ok (.putfield 40, 3) := by decide +kernel
theorem dX10_init_91 : decode cX10_init 91 = .ok (.aload_n 0, 1) := by decide +kernel
theorem dX10_init_92 : decode cX10_init 92 = .ok (.bipush 80, 2) := by decide +kernel
theorem dX10_init_94 : decode cX10_init 94 = .ok (.newarray .int, 2) := by decide +kernel
theorem dX10_init_96 : decode cX10_init 96 = .ok (.putfield 43, 3) := by decide +kernel
theorem dX10_init_99 : decode cX10_init 99 = .ok (.aload_n 0, 1) := by decide +kernel
theorem dX10_init_100 : decode cX10_init 100 = .ok (.bipush 80, 2) := by decide +kernel
theorem dX10_init_102 : decode cX10_init 102 = .ok (.newarray .boolean, 2) := by decide +kernel
theorem dX10_init_104 : decode cX10_init 104 = .ok (.putfield 46, 3) := by decide +kernel
theorem dX10_init_107 : decode cX10_init 107 = .ok (.aload_n 0, 1) := by decide +kernel
theorem dX10_init_108 : decode cX10_init 108 = .ok (.ldc 49, 2) := by decide +kernel
theorem dX10_init_110 : decode cX10_init 110 = .ok (.newarray .int, 2) := by decide +kernel
theorem dX10_init_112 : decode cX10_init 112 = .ok (.putfield 50, 3) := by decide +kernel
theorem dX10_init_115 : decode cX10_init 115 = .ok (.aload_n 0, 1) := by decide +kernel
theorem dX10_init_116 : decode cX10_init 116 = .ok (.ldc 49, 2) := by decide +kernel
theorem dX10_init_118 : decode cX10_init 118 = .ok (.newarray .int, 2) := by decide +kernel
theorem dX10_init_120 : decode cX10_init 120 = .ok (.putfield 53, 3) := by decide +kernel
theorem dX10_init_123 : decode cX10_init 123 = .ok (.aload_n 0, 1) := by decide +kernel
theorem dX10_init_124 : decode cX10_init 124 = .ok (.ldc 49, 2) := by decide +kernel
theorem dX10_init_126 : decode cX10_init 126 = .ok (.newarray .int, 2) := by decide +kernel
theorem dX10_init_128 : decode cX10_init 128 = .ok (.putfield 56, 3) := by decide +kernel
theorem dX10_init_131 : decode cX10_init 131 = .ok (.aload_n 0, 1) := by decide +kernel
theorem dX10_init_132 : decode cX10_init 132 = .ok (.bipush 100, 2) := by decide +kernel
theorem dX10_init_134 : decode cX10_init 134 = .ok (.newarray .int, 2) := by decide +kernel
theorem dX10_init_136 : decode cX10_init 136 = .ok (.putfield 59, 3) := by decide +kernel
theorem dX10_init_139 : decode cX10_init 139 = .ok (.aload_n 0, 1) := by decide +kernel
theorem dX10_init_140 : decode cX10_init 140 = .ok (.bipush 100, 2) := by decide +kernel
theorem dX10_init_142 : decode cX10_init 142 = .ok (.newarray .int, 2) := by decide +kernel
theorem dX10_init_144 : decode cX10_init 144 = .ok (.putfield 62, 3) := by decide +kernel
theorem dX10_init_147 : decode cX10_init 147 = .ok (.aload_n 0, 1) := by decide +kernel
theorem dX10_init_148 : decode cX10_init 148 = .ok (.bipush 100, 2) := by decide +kernel
theorem dX10_init_150 : decode cX10_init 150 = .ok (.newarray .int, 2) := by decide +kernel
theorem dX10_init_152 : decode cX10_init 152 = .ok (.putfield 65, 3) := by decide +kernel
theorem dX10_init_155 : decode cX10_init 155 = .ok (.aload_n 0, 1) := by decide +kernel
theorem dX10_init_156 : decode cX10_init 156 = .ok (.iconst 4, 1) := by decide +kernel
theorem dX10_init_157 : decode cX10_init 157 = .ok (.newarray .int, 2) := by decide +kernel
theorem dX10_init_159 : decode cX10_init 159 = .ok (.putfield 68, 3) := by decide +kernel
theorem dX10_init_162 : decode cX10_init 162 = .ok (.aload_n 0, 1) := by decide +kernel
theorem dX10_init_163 : decode cX10_init 163 = .ok (.bipush 100, 2) := by decide +kernel
theorem dX10_init_165 : decode cX10_init 165 = .ok (.newarray .byte, 2) := by decide +kernel
theorem dX10_init_167 : decode cX10_init 167 = .ok (.putfield 71, 3) := by decide +kernel
theorem dX10_init_170 : decode cX10_init 170 = .ok (.aload_n 0, 1) := by decide +kernel
theorem dX10_init_171 : decode cX10_init 171 = .ok (.bipush 12, 2) := by decide +kernel
theorem dX10_init_173 : decode cX10_init 173 = .ok (.newarray .int, 2) := by decide +kernel
theorem dX10_init_175 : decode cX10_init 175 = .ok (.dup, 1) := by decide +kernel
theorem dX10_init_176 : decode cX10_init 176 = .ok (.iconst 0, 1) := by decide +kernel
theorem dX10_init_177 : decode cX10_init 177 = .ok (.sipush 900, 3) := by decide +kernel
theorem dX10_init_180 : decode cX10_init 180 = .ok (.iastore, 1) := by decide +kernel
theorem dX10_init_181 : decode cX10_init 181 = .ok (.dup, 1) := by decide +kernel
theorem dX10_init_182 : decode cX10_init 182 = .ok (.iconst 1, 1) := by decide +kernel
theorem dX10_init_183 : decode cX10_init 183 = .ok (.sipush 500, 3) := by decide +kernel
theorem dX10_init_186 : decode cX10_init 186 = .ok (.iastore, 1) := by decide +kernel
theorem dX10_init_187 : decode cX10_init 187 = .ok (.dup, 1) := by decide +kernel
theorem dX10_init_188 : decode cX10_init 188 = .ok (.iconst 2, 1) := by decide +kernel
theorem dX10_init_189 : decode cX10_init 189 = .ok (.sipush 400, 3) := by decide +kernel
theorem dX10_init_192 : decode cX10_init 192 = .ok (.iastore, 1) := by decide +kernel
theorem dX10_init_193 : decode cX10_init 193 = .ok (.dup, 1) := by decide +kernel
theorem dX10_init_194 : decode cX10_init 194 = .ok (.iconst 3, 1) := by decide +kernel
theorem dX10_init_195 : decode cX10_init 195 = .ok (.bipush 100, 2) := by decide +kernel
theorem dX10_init_197 : decode cX10_init 197 = .ok (.iastore, 1) := by decide +kernel
theorem dX10_init_198 : decode cX10_init 198 = .ok (.dup, 1) := by decide +kernel
theorem dX10_init_199 : decode cX10_init 199 = .ok (.iconst 4, 1) := by decide +kernel
theorem dX10_init_200 : decode cX10_init 200 = .ok (.bipush 90, 2) := by decide +kernel
theorem dX10_init_202 : decode cX10_init 202 = .ok (.iastore, 1) := by decide +kernel
theorem dX10_init_203 : decode cX10_init 203 = .ok (.dup, 1) := by decide +kernel
theorem dX10_init_204 : decode cX10_init 204 = .ok (.iconst 5, 1) := by decide +kernel
theorem dX10_init_205 : decode cX10_init 205 = .ok (.bipush 50, 2) := by decide +kernel
theorem dX10_init_207 : decode cX10_init 207 = .ok (.iastore, 1) := by decide +kernel
theorem dX10_init_208 : decode cX10_init 208 = .ok (.dup, 1) := by decide +kernel
theorem dX10_init_209 : decode cX10_init 209 = .ok (.bipush 6, 2) := by decide +kernel
theorem dX10_init_211 : decode cX10_init 211 = .ok (.bipush 40, 2) := by decide +kernel
theorem dX10_init_213 : decode cX10_init 213 = .ok (.iastore, 1) := by decide +kernel
theorem dX10_init_214 : decode cX10_init 214 = .ok (.dup, 1) := by decide +kernel
theorem dX10_init_215 : decode cX10_init 215 = .ok (.bipush 7, 2) := by decide +kernel
theorem dX10_init_217 : decode cX10_init 217 = .ok (.bipush 10, 2) := by decide +kernel
theorem dX10_init_219 : decode cX10_init 219 = .ok (.iastore, 1) := by decide +kernel
theorem dX10_init_220 : decode cX10_init 220 = .ok (.dup, 1) := by decide +kernel
theorem dX10_init_221 : decode cX10_init 221 = .ok (.bipush 8, 2) := by decide +kernel
theorem dX10_init_223 : decode cX10_init 223 = .ok (.bipush 9, 2) := by decide +kernel
theorem dX10_init_225 : decode cX10_init 225 = .ok (.iastore, 1) := by decide +kernel
theorem dX10_init_226 : decode cX10_init 226 = .ok (.dup, 1) := by decide +kernel
theorem dX10_init_227 : decode cX10_init 227 = .ok (.bipush 9, 2) := by decide +kernel
theorem dX10_init_229 : decode cX10_init 229 = .ok (.iconst 5, 1) := by decide +kernel
theorem dX10_init_230 : decode cX10_init 230 = .ok (.iastore, 1) := by decide +kernel
theorem dX10_init_231 : decode cX10_init 231 = .ok (.dup, 1) := by decide +kernel
theorem dX10_init_232 : decode cX10_init 232 = .ok (.bipush 10, 2) := by decide +kernel
theorem dX10_init_234 : decode cX10_init 234 = .ok (.iconst 4, 1) := by decide +kernel
theorem dX10_init_235 : decode cX10_init 235 = .ok (.iastore, 1) := by decide +kernel
theorem dX10_init_236 : decode cX10_init 236 = .ok (.dup, 1) := by decide +kernel
theorem dX10_init_237 : decode cX10_init 237 = .ok (.bipush 11, 2) := by decide +kernel
theorem dX10_init_239 : decode cX10_init 239 = .ok (.iconst 1, 1) := by decide +kernel
theorem dX10_init_240 : decode cX10_init 240 = .ok (.iastore, 1) := by decide +kernel
theorem dX10_init_241 : decode cX10_init 241 = .ok (.putfield 74, 3) := by decide +kernel
theorem dX10_init_244 : decode cX10_init 244 = .ok (.aload_n 0, 1) := by decide +kernel
theorem dX10_init_245 : decode cX10_init 245 = .ok (.bipush 12, 2) := by decide +kernel
theorem dX10_init_247 : decode cX10_init 247 = .ok (.newarray .int, 2) := by decide +kernel
theorem dX10_init_249 : decode cX10_init 249 = .ok (.dup, 1) := by decide +kernel
theorem dX10_init_250 : decode cX10_init 250 = .ok (.iconst 0, 1) := by decide +kernel
theorem dX10_init_251 : decode cX10_init 251 = .ok (.bipush 57, 2) := by decide +kernel
theorem dX10_init_253 : decode cX10_init 253 = .ok (.iastore, 1) := by decide +kernel
theorem dX10_init_254 : decode cX10_init 254 = .ok (.dup, 1) := by decide +kernel
theorem dX10_init_255 : decode cX10_init 255 = .ok (.iconst 1, 1) := by decide +kernel
theorem dX10_init_256 : decode cX10_init 256 = .ok (.bipush 6, 2) := by decide +kernel
theorem dX10_init_258 : decode cX10_init 258 = .ok (.iastore, 1) := by decide +kernel
theorem dX10_init_259 : decode cX10_init 259 = .ok (.dup, 1) := by decide +kernel
theorem dX10_init_260 : decode cX10_init 260 = .ok (.iconst 2, 1) := by decide +kernel
theorem dX10_init_261 : decode cX10_init 261 = .ok (.bipush 56, 2) := by decide +kernel
theorem dX10_init_263 : decode cX10_init 263 = .ok (.iastore, 1) := by decide +kernel
theorem dX10_init_264 : decode cX10_init 264 = .ok (.dup, 1) := by decide +kernel
theorem dX10_init_265 : decode cX10_init 265 = .ok (.iconst 3, 1) := by decide +kernel
theorem dX10_init_266 : decode cX10_init 266 = .ok (.iconst 5, 1) := by decide +kernel
theorem dX10_init_267 : decode cX10_init 267 = .ok (.iastore, 1) := by decide +kernel
theorem dX10_init_268 : decode cX10_init 268 = .ok (.dup, 1) := by decide +kernel
theorem dX10_init_269 : decode cX10_init 269 = .ok (.iconst 4, 1) := by decide +kernel
theorem dX10_init_270 : decode cX10_init 270 = .ok (.bipush 35, 2) := by decide +kernel
theorem dX10_init_272 : decode cX10_init 272 = .ok (.iastore, 1) := by decide +kernel
theorem dX10_init_273 : decode cX10_init 273 = .ok (.dup, 1) := by decide +kernel
theorem dX10_init_274 : decode cX10_init 274 = .ok (.iconst 5, 1) := by decide +kernel
theorem dX10_init_275 : decode cX10_init 275 = .ok (.iconst 4, 1) := by decide +kernel
theorem dX10_init_276 : decode cX10_init 276 = .ok (.iastore, 1) := by decide +kernel
theorem dX10_init_277 : decode cX10_init 277 = .ok (.dup, 1) := by decide +kernel
theorem dX10_init_278 : decode cX10_init 278 = .ok (.bipush 6, 2) := by decide +kernel
theorem dX10_init_280 : decode cX10_init 280 = .ok (.bipush 34, 2) := by decide +kernel
theorem dX10_init_282 : decode cX10_init 282 = .ok (.iastore, 1) := by decide +kernel
theorem dX10_init_283 : decode cX10_init 283 = .ok (.dup, 1) := by decide +kernel
theorem dX10_init_284 : decode cX10_init 284 = .ok (.bipush 7, 2) := by decide +kernel
theorem dX10_init_286 : decode cX10_init 286 = .ok (.iconst 3, 1) := by decide +kernel
theorem dX10_init_287 : decode cX10_init 287 = .ok (.iastore, 1) := by decide +kernel
theorem dX10_init_288 : decode cX10_init 288 = .ok (.dup, 1) := by decide +kernel
theorem dX10_init_289 : decode cX10_init 289 = .ok (.bipush 8, 2) := by decide +kernel
theorem dX10_init_291 : decode cX10_init 291 = .ok (.bipush 13, 2) := by decide +kernel
theorem dX10_init_293 : decode cX10_init 293 = .ok (.iastore, 1) := by decide +kernel
theorem dX10_init_294 : decode cX10_init 294 = .ok (.dup, 1) := by decide +kernel
theorem dX10_init_295 : decode cX10_init 295 = .ok (.bipush 9, 2) := by decide +kernel
theorem dX10_init_297 : decode cX10_init 297 = .ok (.iconst 2, 1) := by decide +kernel
theorem dX10_init_298 : decode cX10_init 298 = .ok (.iastore, 1) := by decide +kernel
theorem dX10_init_299 : decode cX10_init 299 = .ok (.dup, 1) := by decide +kernel
theorem dX10_init_300 : decode cX10_init 300 = .ok (.bipush 10, 2) := by decide +kernel
theorem dX10_init_302 : decode cX10_init 302 = .ok (.bipush 12, 2) := by decide +kernel
theorem dX10_init_304 : decode cX10_init 304 = .ok (.iastore, 1) := by decide +kernel
theorem dX10_init_305 : decode cX10_init 305 = .ok (.dup, 1) := by decide +kernel
theorem dX10_init_306 : decode cX10_init 306 = .ok (.bipush 11, 2) := by decide +kernel
theorem dX10_init_308 : decode cX10_init 308 = .ok (.iconst 1, 1) := by decide +kernel
theorem dX10_init_309 : decode cX10_init 309 = .ok (.iastore, 1) := by decide +kernel
theorem dX10_init_310 : decode cX10_init 310 = .ok (.putfield 77, 3) := by decide +kernel
theorem dX10_init_313 : decode cX10_init 313 = .ok (.aload_n 0, 1) := by decide +kernel
theorem dX10_init_314 : decode cX10_init 314 = .ok (.bipush 100, 2) := by decide +kernel
theorem dX10_init_316 : decode cX10_init 316 = .ok (.newarray .byte, 2) := by decide +kernel
theorem dX10_init_318 : decode cX10_init 318 = .ok (.putfield 80, 3) := by decide +kernel
theorem dX10_init_321 : decode cX10_init 321 = .ok (.aload_n 0, 1) := by decide +kernel
theorem dX10_init_322 : decode cX10_init 322 = .ok (.iconst 4, 1) := by decide +kernel
theorem dX10_init_323 : decode cX10_init 323 = .ok (.newarray .int, 2) := by decide +kernel
theorem dX10_init_325 : decode cX10_init 325 = .ok (.putfield 83, 3) := by decide +kernel
theorem dX10_init_328 : decode cX10_init 328 = .ok (.return_, 1) := by decide +kernel
theorem dX10_thrown_0 : decode cX10_thrown 0 = .ok (.aload_n 0, 1) := by decide +kernel
theorem dX10_thrown_1 : decode cX10_thrown 1 = .ok (.getfield 86, 3) := by decide +kernel
theorem dX10_thrown_4 : decode cX10_thrown 4 = .ok (.ireturn, 1) := by decide +kernel
theorem dX10_throwsIf_0 : decode cX10_throwsIf 0 = .ok (.aload_n 0, 1) := by decide +kernel
theorem dX10_throwsIf_1 : decode cX10_throwsIf 1 = .ok (.iload_n 1, 1) := by decide +kernel
theorem dX10_throwsIf_2 : decode cX10_throwsIf 2 = .ok (.ifCond .eq 7, 3) := by decide +kernel
theorem dX10_throwsIf_5 : decode cX10_throwsIf 5 = .ok (.iconst 1, 1) := by decide +kernel
theorem dX10_throwsIf_6 : decode cX10_throwsIf 6 = .ok (.goto 4, 3) := by decide +kernel
theorem dX10_throwsIf_9 : decode cX10_throwsIf 9 = .ok (.iconst 0, 1) := by decide +kernel
theorem dX10_throwsIf_10 : decode cX10_throwsIf 10 = .ok (.putfield 86, 3) := by decide +kernel
theorem dX10_throwsIf_13 : decode cX10_throwsIf 13 = .ok (.iload_n 1, 1) := by decide +kernel
theorem dX10_throwsIf_14 : decode cX10_throwsIf 14 = .ok (.ireturn, 1) := by decide +kernel
set_option maxRecDepth 20000 in
theorem ggX10_feed_X10_four : GoodIn wsX10_feed wsX10_four := goodIn_r _ [7, 8, 2, 9, 10, 11, 12, 13, 14, 15, 16, 17, 18, 19, 20, 21, 22, 23, 24, 25, 26, 27, 28, 29, 30, 31, 32, 33, 34, 35, 36, 37, 38, 39, 40, 41, 42, 43, 44, 45, 46, 47, 48, 49, 50] (by decide +kernel) (by decide +kernel)
set_option maxRecDepth 20000 in
theorem gX10_feed_X10_four : GoodIn wsX10_feed (wsV RX10 92 RX10 yX10_four wsX10_four) := goodIn_app (goodIn_of _ (by decide +kernel)) ggX10_feed_X10_four
theorem dX10_feed_0 : decode cX10_feed 0 = .ok (.aload_n 0, 1) := by decide +kernel
theorem dX10_feed_1 : decode cX10_feed 1 = .ok (.iconst 0, 1) := by decide +kernel
theorem dX10_feed_2 : decode cX10_feed 2 = .ok (.putfield 86, 3) := by decide +kernel
theorem dX10_feed_5 : decode cX10_feed 5 = .ok (.aload_n 0, 1) := by decide +kernel
theorem dX10_feed_6 : decode cX10_feed 6 = .ok (.getfield 89, 3) := by decide +kernel
theorem dX10_feed_9 : decode cX10_feed 9 = .ok (.bipush 20, 2) := by decide +kernel
theorem dX10_feed_11 : decode cX10_feed 11 = .ok (.iadd, 1) := by decide +kernel
theorem dX10_feed_12 : decode cX10_feed 12 = .ok (.sipush 200, 3) := by decide +kernel
theorem dX10_feed_15 : decode cX10_feed 15 = .ok (.if_icmp .le 5, 3) := by decide +kernel
theorem dX10_feed_18 : decode cX10_feed 18 = .ok (.iconst (-1), 1) := by decide +kernel
theorem dX10_feed_19 : decode cX10_feed 19 = .ok (.ireturn, 1) := by decide +kernel
theorem dX10_feed_20 : decode cX10_feed 20 = .ok (.aload_n 0, 1) := by decide +kernel
theorem dX10_feed_21 : decode cX10_feed 21 = .ok (.iload_n 1, 1) := by decide +kernel
theorem dX10_feed_22 : decode cX10_feed 22 = .ok (.invokevirtual 92, 3) := by decide +kernel
theorem dX10_feed_25 : decode cX10_feed 25 = .ok (.aload_n 0, 1) := by decide +kernel
theorem dX10_feed_26 : decode cX10_feed 26 = .ok (.iload_n 2, 1) := by decide +kernel
theorem dX10_feed_27 : decode cX10_feed 27 = .ok (.invokevirtual 92, 3) := by decide +kernel
theorem dX10_feed_30 : decode cX10_feed 30 = .ok (.aload_n 0, 1) := by decide +kernel
theorem dX10_feed_31 : decode cX10_feed 31 = .ok (.iload_n 3, 1) := by decide +kernel
theorem dX10_feed_32 : decode cX10_feed 32 = .ok (.invokevirtual 92, 3) := by decide +kernel
theorem dX10_feed_35 : decode cX10_feed 35 = .ok (.aload_n 0, 1) := by decide +kernel
theorem dX10_feed_36 : decode cX10_feed 36 = .ok (.iload 4, 2) := by decide +kernel
theorem dX10_feed_38 : decode cX10_feed 38 = .ok (.invokevirtual 92, 3) := by decide +kernel
theorem dX10_feed_41 : decode cX10_feed 41 = .ok (.aload_n 0, 1) := by decide +kernel
theorem dX10_feed_42 : decode cX10_feed 42 = .ok (.iload 5, 2) := by decide +kernel
theorem dX10_feed_44 : decode cX10_feed 44 = .ok (.invokevirtual 92, 3) := by decide +kernel
theorem dX10_feed_47 : decode cX10_feed 47 = .ok (.aload_n 0, 1) := by decide +kernel
theorem dX10_feed_48 : decode cX10_feed 48 = .ok (.getfield 89, 3) := by decide +kernel
theorem dX10_feed_51 : decode cX10_feed 51 = .ok (.ireturn, 1) := by decide +kernel
theorem dX10_four_0 : decode cX10_four 0 = .ok (.bipush 24, 2) := by decide +kernel
theorem dX10_four_2 : decode cX10_four 2 = .ok (.istore_n 2, 1) := by decide +kernel
theorem dX10_four_3 : decode cX10_four 3 = .ok (.iload_n 2, 1) := by decide +kernel
theorem dX10_four_4 : decode cX10_four 4 = .ok (.ifCond .lt 32, 3) := by decide +kernel
theorem dX10_four_7 : decode cX10_four 7 = .ok (.aload_n 0, 1) := by decide +kernel
theorem dX10_four_8 : decode cX10_four 8 = .ok (.getfield 7, 3) := by decide +kernel
theorem dX10_four_11 : decode cX10_four 11 = .ok (.aload_n 0, 1) := by decide +kernel
theorem dX10_four_12 : decode cX10_four 12 = .ok (.getfield 89, 3) := by decide +kernel
theorem dX10_four_15 : decode cX10_four 15 = .ok (.iload_n 1, 1) := by decide +kernel
theorem dX10_four_16 : decode cX10_four 16 = .ok (.iload_n 2, 1) := by decide +kernel
theorem dX10_four_17 : decode cX10_four 17 = .ok (.ishr, 1) := by decide +kernel
theorem dX10_four_18 : decode cX10_four 18 = .ok (.i2b, 1) := by decide +kernel
theorem dX10_four_19 : decode cX10_four 19 = .ok (.bastore, 1) := by decide +kernel
theorem dX10_four_20 : decode cX10_four 20 = .ok (.aload_n 0, 1) := by decide +kernel
theorem dX10_four_21 : decode cX10_four 21 = .ok (.dup, 1) := by decide +kernel
theorem dX10_four_22 : decode cX10_four 22 = .ok (.getfield 89, 3) := by decide +kernel
theorem dX10_four_25 : decode cX10_four 25 = .ok (.iconst 1, 1) := by decide +kernel
theorem dX10_four_26 : decode cX10_four 26 = .ok (.iadd, 1) := by decide +kernel
theorem dX10_four_27 : decode cX10_four 27 = .ok (.putfield 89, 3) := by decide +kernel
theorem dX10_four_30 : decode cX10_four 30 = .ok (.iinc 2 (-8), 3) := by decide +kernel
theorem dX10_four_33 : decode cX10_four 33 = .ok (.goto (-30), 3) := by decide +kernel
theorem dX10_four_36 : decode cX10_four 36 = .ok (.return_, 1) := by decide +kernel
theorem dX10_end_0 : decode cX10_end 0 = .ok (.aload_n 0, 1) := by decide +kernel
theorem dX10_end_1 : decode cX10_end 1 = .ok (.iconst 0, 1) := by decide +kernel
theorem dX10_end_2 : decode cX10_end 2 = .ok (.putfield 86, 3) := by decide +kernel
theorem dX10_end_5 : decode cX10_end 5 = .ok (.iload_n 1, 1) := by decide +kernel
theorem dX10_end_6 : decode cX10_end 6 = .ok (.ifCond .lt 11, 3) := by decide +kernel
theorem dX10_end_9 : decode cX10_end 9 = .ok (.iload_n 1, 1) := by decide +kernel
theorem dX10_end_10 : decode cX10_end 10 = .ok (.aload_n 0, 1) := by decide +kernel
theorem dX10_end_11 : decode cX10_end 11 = .ok (.getfield 89, 3) := by decide +kernel
theorem dX10_end_14 : decode cX10_end 14 = .ok (.if_icmp .le 5, 3) := by decide +kernel
theorem dX10_end_17 : decode cX10_end 17 = .ok (.iconst 0, 1) := by decide +kernel
theorem dX10_end_18 : decode cX10_end 18 = .ok (.ireturn, 1) := by decide +kernel
theorem dX10_end_19 : decode cX10_end 19 = .ok (.aload_n 0, 1) := by decide +kernel
theorem dX10_end_20 : decode cX10_end 20 = .ok (.iload_n 1, 1) := by decide +kernel
theorem dX10_end_21 : decode cX10_end 21 = .ok (.putfield 89, 3) := by decide +kernel
theorem dX10_end_24 : decode cX10_end 24 = .ok (.iconst 1, 1) := by decide +kernel
theorem dX10_end_25 : decode cX10_end 25 = .ok (.ireturn, 1) := by decide +kernel
theorem dX10_taken_0 : decode cX10_taken 0 = .ok (.aload_n 0, 1) := by decide +kernel
theorem dX10_taken_1 : decode cX10_taken 1 = .ok (.aload_n 0, 1) := by decide +kernel
theorem dX10_taken_2 : decode cX10_taken 2 = .ok (.getfield 89, 3) := by decide +kernel
theorem dX10_taken_5 : decode cX10_taken 5 = .ok (.putfield 96, 3) := by decide +kernel
theorem dX10_taken_8 : decode cX10_taken 8 = .ok (.aload_n 0, 1) := by decide +kernel
theorem dX10_taken_9 : decode cX10_taken 9 = .ok (.iconst 0, 1) := by decide +kernel
theorem dX10_taken_10 : decode cX10_taken 10 = .ok (.putfield 89, 3) := by decide +kernel
theorem dX10_taken_13 : decode cX10_taken 13 = .ok (.aload_n 0, 1) := by decide +kernel
theorem dX10_taken_14 : decode cX10_taken 14 = .ok (.iconst 0, 1) := by decide +kernel
theorem dX10_taken_15 : decode cX10_taken 15 = .ok (.putfield 99, 3) := by decide +kernel
theorem dX10_taken_18 : decode cX10_taken 18 = .ok (.return_, 1) := by decide +kernel
theorem dX10_peek_0 : decode cX10_peek 0 = .ok (.aload_n 0, 1) := by decide +kernel
theorem dX10_peek_1 : decode cX10_peek 1 = .ok (.getfield 99, 3) := by decide +kernel
theorem dX10_peek_4 : decode cX10_peek 4 = .ok (.aload_n 0, 1) := by decide +kernel
theorem dX10_peek_5 : decode cX10_peek 5 = .ok (.getfield 96, 3) := by decide +kernel
theorem dX10_peek_8 : decode cX10_peek 8 = .ok (.if_icmp .ge 19, 3) := by decide +kernel
theorem dX10_peek_11 : decode cX10_peek 11 = .ok (.aload_n 0, 1) := by decide +kernel
theorem dX10_peek_12 : decode cX10_peek 12 = .ok (.getfield 7, 3) := by decide +kernel
theorem dX10_peek_15 : decode cX10_peek 15 = .ok (.aload_n 0, 1) := by decide +kernel
theorem dX10_peek_16 : decode cX10_peek 16 = .ok (.getfield 99, 3) := by decide +kernel
theorem dX10_peek_19 : decode cX10_peek 19 = .ok (.baload, 1) := by decide +kernel
theorem dX10_peek_20 : decode cX10_peek 20 = .ok (.sipush 255, 3) := by decide +kernel
theorem dX10_peek_23 : decode cX10_peek 23 = .ok (.iand, 1) := by decide +kernel
theorem dX10_peek_24 : decode cX10_peek 24 = .ok (.goto 4, 3) := by decide +kernel
theorem dX10_peek_27 : decode cX10_peek 27 = .ok (.iconst (-1), 1) := by decide +kernel
theorem dX10_peek_28 : decode cX10_peek 28 = .ok (.ireturn, 1) := by decide +kernel
theorem dX10_wrong_0 : decode cX10_wrong 0 = .ok (.aload_n 0, 1) := by decide +kernel
theorem dX10_wrong_1 : decode cX10_wrong 1 = .ok (.iload_n 1, 1) := by decide +kernel
theorem dX10_wrong_2 : decode cX10_wrong 2 = .ok (.putfield 102, 3) := by decide +kernel
theorem dX10_wrong_5 : decode cX10_wrong 5 = .ok (.aload_n 0, 1) := by decide +kernel
theorem dX10_wrong_6 : decode cX10_wrong 6 = .ok (.iload_n 2, 1) := by decide +kernel
theorem dX10_wrong_7 : decode cX10_wrong 7 = .ok (.putfield 31, 3) := by decide +kernel
theorem dX10_wrong_10 : decode cX10_wrong 10 = .ok (.iconst 0, 1) := by decide +kernel
theorem dX10_wrong_11 : decode cX10_wrong 11 = .ok (.ireturn, 1) := by decide +kernel
theorem dX10_isSmall_0 : decode cX10_isSmall 0 = .ok (.iload_n 0, 1) := by decide +kernel
theorem dX10_isSmall_1 : decode cX10_isSmall 1 = .ok (.bipush 97, 2) := by decide +kernel
theorem dX10_isSmall_3 : decode cX10_isSmall 3 = .ok (.if_icmp .lt 13, 3) := by decide +kernel
theorem dX10_isSmall_6 : decode cX10_isSmall 6 = .ok (.iload_n 0, 1) := by decide +kernel
theorem dX10_isSmall_7 : decode cX10_isSmall 7 = .ok (.bipush 122, 2) := by decide +kernel
theorem dX10_isSmall_9 : decode cX10_isSmall 9 = .ok (.if_icmp .gt 7, 3) := by decide +kernel
theorem dX10_isSmall_12 : decode cX10_isSmall 12 = .ok (.iconst 1, 1) := by decide +kernel
theorem dX10_isSmall_13 : decode cX10_isSmall 13 = .ok (.goto 4, 3) := by decide +kernel
theorem dX10_isSmall_16 : decode cX10_isSmall 16 = .ok (.iconst 0, 1) := by decide +kernel
theorem dX10_isSmall_17 : decode cX10_isSmall 17 = .ok (.ireturn, 1) := by decide +kernel
theorem dX10_isGreat_0 : decode cX10_isGreat 0 = .ok (.iload_n 0, 1) := by decide +kernel
theorem dX10_isGreat_1 : decode cX10_isGreat 1 = .ok (.bipush 65, 2) := by decide +kernel
theorem dX10_isGreat_3 : decode cX10_isGreat 3 = .ok (.if_icmp .lt 13, 3) := by decide +kernel
theorem dX10_isGreat_6 : decode cX10_isGreat 6 = .ok (.iload_n 0, 1) := by decide +kernel
theorem dX10_isGreat_7 : decode cX10_isGreat 7 = .ok (.bipush 90, 2) := by decide +kernel
theorem dX10_isGreat_9 : decode cX10_isGreat 9 = .ok (.if_icmp .gt 7, 3) := by decide +kernel
theorem dX10_isGreat_12 : decode cX10_isGreat 12 = .ok (.iconst 1, 1) := by decide +kernel
theorem dX10_isGreat_13 : decode cX10_isGreat 13 = .ok (.goto 4, 3) := by decide +kernel
theorem dX10_isGreat_16 : decode cX10_isGreat 16 = .ok (.iconst 0, 1) := by decide +kernel
theorem dX10_isGreat_17 : decode cX10_isGreat 17 = .ok (.ireturn, 1) := by decide +kernel
theorem dX10_isDigit_0 : decode cX10_isDigit 0 = .ok (.iload_n 0, 1) := by decide +kernel
theorem dX10_isDigit_1 : decode cX10_isDigit 1 = .ok (.bipush 48, 2) := by decide +kernel
theorem dX10_isDigit_3 : decode cX10_isDigit 3 = .ok (.if_icmp .lt 13, 3) := by decide +kernel
theorem dX10_isDigit_6 : decode cX10_isDigit 6 = .ok (.iload_n 0, 1) := by decide +kernel
theorem dX10_isDigit_7 : decode cX10_isDigit 7 = .ok (.bipush 57, 2) := by decide +kernel
theorem dX10_isDigit_9 : decode cX10_isDigit 9 = .ok (.if_icmp .gt 7, 3) := by decide +kernel
theorem dX10_isDigit_12 : decode cX10_isDigit 12 = .ok (.iconst 1, 1) := by decide +kernel
theorem dX10_isDigit_13 : decode cX10_isDigit 13 = .ok (.goto 4, 3) := by decide +kernel
theorem dX10_isDigit_16 : decode cX10_isDigit 16 = .ok (.iconst 0, 1) := by decide +kernel
theorem dX10_isDigit_17 : decode cX10_isDigit 17 = .ok (.ireturn, 1) := by decide +kernel
set_option maxRecDepth 20000 in
theorem ggX10_next_X10_peek : GoodIn wsX10_next wsX10_peek := goodIn_r _ [10, 1, 11, 12, 16, 17, 18, 19, 20, 21, 22, 23, 24, 25, 26, 27, 28, 29, 30, 31, 32, 33, 34, 35, 36, 37, 38, 39, 40, 41, 42, 43, 44, 45, 46, 47, 48, 49, 50, 51, 52, 53, 54, 55, 56, 57] (by decide +kernel) (by decide +kernel)
set_option maxRecDepth 20000 in
theorem gX10_next_X10_peek : GoodIn wsX10_next (wsV RX10 105 RX10 yX10_peek wsX10_peek) := goodIn_app (goodIn_of _ (by decide +kernel)) ggX10_next_X10_peek
set_option maxRecDepth 20000 in
theorem ggX10_next_X10_isSmall : GoodIn wsX10_next wsX10_isSmall := goodIn_r _ [15] (by decide +kernel) (by decide +kernel)
set_option maxRecDepth 20000 in
theorem gX10_next_X10_isSmall : GoodIn wsX10_next (va_wsS RX10 116 yX10_isSmall wsX10_isSmall) := goodIn_app (goodIn_of _ (by decide +kernel)) ggX10_next_X10_isSmall
theorem dX10_next_0 : decode cX10_next 0 = .ok (.aload_n 0, 1) := by decide +kernel
theorem dX10_next_1 : decode cX10_next 1 = .ok (.invokevirtual 105, 3) := by decide +kernel
theorem dX10_next_4 : decode cX10_next 4 = .ok (.bipush 32, 2) := by decide +kernel
theorem dX10_next_6 : decode cX10_next 6 = .ok (.if_icmp .eq 12, 3) := by decide +kernel
theorem dX10_next_9 : decode cX10_next 9 = .ok (.aload_n 0, 1) := by decide +kernel
theorem dX10_next_10 : decode cX10_next 10 = .ok (.invokevirtual 105, 3) := by decide +kernel
theorem dX10_next_13 : decode cX10_next 13 = .ok (.bipush 10, 2) := by decide +kernel
theorem dX10_next_15 : decode cX10_next 15 = .ok (.if_icmp .ne 16, 3) := by decide +kernel
theorem dX10_next_18 : decode cX10_next 18 = .ok (.aload_n 0, 1) := by decide +kernel
theorem dX10_next_19 : decode cX10_next 19 = .ok (.dup, 1) := by decide +kernel
theorem dX10_next_20 : decode cX10_next 20 = .ok (.getfield 99, 3) := by decide +kernel
theorem dX10_next_23 : decode cX10_next 23 = .ok (.iconst 1, 1) := by decide +kernel
theorem dX10_next_24 : decode cX10_next 24 = .ok (.iadd, 1) := by decide +kernel
theorem dX10_next_25 : decode cX10_next 25 = .ok (.putfield 99, 3) := by decide +kernel
theorem dX10_next_28 : decode cX10_next 28 = .ok (.goto (-28), 3) := by decide +kernel
theorem dX10_next_31 : decode cX10_next 31 = .ok (.aload_n 0, 1) := by decide +kernel
theorem dX10_next_32 : decode cX10_next 32 = .ok (.aload_n 0, 1) := by decide +kernel
theorem dX10_next_33 : decode cX10_next 33 = .ok (.getfield 99, 3) := by decide +kernel
theorem dX10_next_36 : decode cX10_next 36 = .ok (.putfield 109, 3) := by decide +kernel
theorem dX10_next_39 : decode cX10_next 39 = .ok (.aload_n 0, 1) := by decide +kernel
theorem dX10_next_40 : decode cX10_next 40 = .ok (.lconst 0, 1) := by decide +kernel
theorem dX10_next_41 : decode cX10_next 41 = .ok (.putfield 112, 3) := by decide +kernel
theorem dX10_next_44 : decode cX10_next 44 = .ok (.aload_n 0, 1) := by decide +kernel
theorem dX10_next_45 : decode cX10_next 45 = .ok (.invokevirtual 105, 3) := by decide +kernel
theorem dX10_next_48 : decode cX10_next 48 = .ok (.istore_n 1, 1) := by decide +kernel
theorem dX10_next_49 : decode cX10_next 49 = .ok (.iload_n 1, 1) := by decide +kernel
theorem dX10_next_50 : decode cX10_next 50 = .ok (.ifCond .ge 4, 3) := by decide +kernel
theorem dX10_next_53 : decode cX10_next 53 = .ok (.return_, 1) := by decide +kernel
theorem dX10_next_54 : decode cX10_next 54 = .ok (.iload_n 1, 1) := by decide +kernel
theorem dX10_next_55 : decode cX10_next 55 = .ok (.invokestatic 116, 3) := by decide +kernel
theorem dX10_next_58 : decode cX10_next 58 = .ok (.ifCond .ne 33, 3) := by decide +kernel
theorem dX10_next_61 : decode cX10_next 61 = .ok (.aload_n 0, 1) := by decide +kernel
theorem dX10_next_62 : decode cX10_next 62 = .ok (.iload_n 1, 1) := by decide +kernel
theorem dX10_next_63 : decode cX10_next 63 = .ok (.bipush 59, 2) := by decide +kernel
theorem dX10_next_65 : decode cX10_next 65 = .ok (.if_icmp .ne 9, 3) := by decide +kernel
theorem dX10_next_68 : decode cX10_next 68 = .ok (.ldc2_w 120, 3) := by decide +kernel
theorem dX10_next_71 : decode cX10_next 71 = .ok (.goto 6, 3) := by decide +kernel
theorem dX10_next_74 : decode cX10_next 74 = .ok (.ldc2_w 122, 3) := by decide +kernel
theorem dX10_next_77 : decode cX10_next 77 = .ok (.putfield 112, 3) := by decide +kernel
theorem dX10_next_80 : decode cX10_next 80 = .ok (.aload_n 0, 1) := by decide +kernel
theorem dX10_next_81 : decode cX10_next 81 = .ok (.dup, 1) := by decide +kernel
theorem dX10_next_82 : decode cX10_next 82 = .ok (.getfield 99, 3) := by decide +kernel
theorem dX10_next_85 : decode cX10_next 85 = .ok (.iconst 1, 1) := by decide +kernel
theorem dX10_next_86 : decode cX10_next 86 = .ok (.iadd, 1) := by decide +kernel
theorem dX10_next_87 : decode cX10_next 87 = .ok (.putfield 99, 3) := by decide +kernel
theorem dX10_next_90 : decode cX10_next 90 = .ok (.return_, 1) := by decide +kernel
theorem dX10_next_91 : decode cX10_next 91 = .ok (.iconst 0, 1) := by decide +kernel
theorem dX10_next_92 : decode cX10_next 92 = .ok (.istore_n 2, 1) := by decide +kernel
theorem dX10_next_93 : decode cX10_next 93 = .ok (.aload_n 0, 1) := by decide +kernel
theorem dX10_next_94 : decode cX10_next 94 = .ok (.invokevirtual 105, 3) := by decide +kernel
theorem dX10_next_97 : decode cX10_next 97 = .ok (.invokestatic 116, 3) := by decide +kernel
theorem dX10_next_100 : decode cX10_next 100 = .ok (.ifCond .eq 42, 3) := by decide +kernel
theorem dX10_next_103 : decode cX10_next 103 = .ok (.iload_n 2, 1) := by decide +kernel
theorem dX10_next_104 : decode cX10_next 104 = .ok (.bipush 7, 2) := by decide +kernel
theorem dX10_next_106 : decode cX10_next 106 = .ok (.if_icmp .ge 20, 3) := by decide +kernel
theorem dX10_next_109 : decode cX10_next 109 = .ok (.aload_n 0, 1) := by decide +kernel
theorem dX10_next_110 : decode cX10_next 110 = .ok (.aload_n 0, 1) := by decide +kernel
theorem dX10_next_111 : decode cX10_next 111 = .ok (.getfield 112, 3) := by decide +kernel
theorem dX10_next_114 : decode cX10_next 114 = .ok (.bipush 8, 2) := by decide +kernel
theorem dX10_next_116 : decode cX10_next 116 = .ok (.lshl, 1) := by decide +kernel
theorem dX10_next_117 : decode cX10_next 117 = .ok (.aload_n 0, 1) := by decide +kernel
theorem dX10_next_118 : decode cX10_next 118 = .ok (.invokevirtual 105, 3) := by decide +kernel
theorem dX10_next_121 : decode cX10_next 121 = .ok (.i2l, 1) := by decide +kernel
theorem dX10_next_122 : decode cX10_next 122 = .ok (.lor, 1) := by decide +kernel
theorem dX10_next_123 : decode cX10_next 123 = .ok (.putfield 112, 3) := by decide +kernel
theorem dX10_next_126 : decode cX10_next 126 = .ok (.iinc 2 1, 3) := by decide +kernel
theorem dX10_next_129 : decode cX10_next 129 = .ok (.aload_n 0, 1) := by decide +kernel
theorem dX10_next_130 : decode cX10_next 130 = .ok (.dup, 1) := by decide +kernel
theorem dX10_next_131 : decode cX10_next 131 = .ok (.getfield 99, 3) := by decide +kernel
theorem dX10_next_134 : decode cX10_next 134 = .ok (.iconst 1, 1) := by decide +kernel
theorem dX10_next_135 : decode cX10_next 135 = .ok (.iadd, 1) := by decide +kernel
theorem dX10_next_136 : decode cX10_next 136 = .ok (.putfield 99, 3) := by decide +kernel
theorem dX10_next_139 : decode cX10_next 139 = .ok (.goto (-46), 3) := by decide +kernel
theorem dX10_next_142 : decode cX10_next 142 = .ok (.iload_n 2, 1) := by decide +kernel
theorem dX10_next_143 : decode cX10_next 143 = .ok (.bipush 7, 2) := by decide +kernel
theorem dX10_next_145 : decode cX10_next 145 = .ok (.if_icmp .gt 8, 3) := by decide +kernel
theorem dX10_next_148 : decode cX10_next 148 = .ok (.iload_n 2, 1) := by decide +kernel
theorem dX10_next_149 : decode cX10_next 149 = .ok (.iconst 2, 1) := by decide +kernel
theorem dX10_next_150 : decode cX10_next 150 = .ok (.if_icmp .ge 8, 3) := by decide +kernel
theorem dX10_next_153 : decode cX10_next 153 = .ok (.aload_n 0, 1) := by decide +kernel
theorem dX10_next_154 : decode cX10_next 154 = .ok (.lconst 1, 1) := by decide +kernel
theorem dX10_next_155 : decode cX10_next 155 = .ok (.putfield 112, 3) := by decide +kernel
theorem dX10_next_158 : decode cX10_next 158 = .ok (.return_, 1) := by decide +kernel
set_option maxRecDepth 20000 in
theorem ggX10_cant_X10_wrong : GoodIn wsX10_cant wsX10_wrong := goodIn_r _ [8, 9, 10, 11, 12, 13, 14, 15, 16, 17, 18, 19, 20, 21, 22, 23, 24, 25, 26, 27, 28, 29, 30, 31, 32, 33, 34, 35, 36, 37, 38, 39, 40, 41, 42, 43, 44, 45, 46, 47, 48, 49, 50, 51, 52] (by decide +kernel) (by decide +kernel)
set_option maxRecDepth 20000 in
theorem gX10_cant_X10_wrong : GoodIn wsX10_cant (wsV RX10 124 RX10 yX10_wrong wsX10_wrong) := goodIn_app (goodIn_of _ (by decide +kernel)) ggX10_cant_X10_wrong
theorem dX10_cant_0 : decode cX10_cant 0 = .ok (.aload_n 0, 1) := by decide +kernel
theorem dX10_cant_1 : decode cX10_cant 1 = .ok (.aload_n 0, 1) := by decide +kernel
theorem dX10_cant_2 : decode cX10_cant 2 = .ok (.getfield 112, 3) := by decide +kernel
theorem dX10_cant_5 : decode cX10_cant 5 = .ok (.ldc2_w 122, 3) := by decide +kernel
theorem dX10_cant_8 : decode cX10_cant 8 = .ok (.lcmp, 1) := by decide +kernel
theorem dX10_cant_9 : decode cX10_cant 9 = .ok (.ifCond .ne 7, 3) := by decide +kernel
theorem dX10_cant_12 : decode cX10_cant 12 = .ok (.iconst 1, 1) := by decide +kernel
theorem dX10_cant_13 : decode cX10_cant 13 = .ok (.goto 4, 3) := by decide +kernel
theorem dX10_cant_16 : decode cX10_cant 16 = .ok (.iconst 2, 1) := by decide +kernel
theorem dX10_cant_17 : decode cX10_cant 17 = .ok (.aload_n 0, 1) := by decide +kernel
theorem dX10_cant_18 : decode cX10_cant 18 = .ok (.getfield 109, 3) := by decide +kernel
theorem dX10_cant_21 : decode cX10_cant 21 = .ok (.invokevirtual 124, 3) := by decide +kernel
theorem dX10_cant_24 : decode cX10_cant 24 = .ok (.ireturn, 1) := by decide +kernel
theorem dX10_formOf_0 : decode cX10_formOf 0 = .ok (.aload_n 0, 1) := by decide +kernel
theorem dX10_formOf_1 : decode cX10_formOf 1 = .ok (.getfield 112, 3) := by decide +kernel
theorem dX10_formOf_4 : decode cX10_formOf 4 = .ok (.ldc2_w 128, 3) := by decide +kernel
theorem dX10_formOf_7 : decode cX10_formOf 7 = .ok (.lcmp, 1) := by decide +kernel
theorem dX10_formOf_8 : decode cX10_formOf 8 = .ok (.ifCond .ne 7, 3) := by decide +kernel
theorem dX10_formOf_11 : decode cX10_formOf 11 = .ok (.iconst 0, 1) := by decide +kernel
theorem dX10_formOf_12 : decode cX10_formOf 12 = .ok (.goto 49, 3) := by decide +kernel
theorem dX10_formOf_15 : decode cX10_formOf 15 = .ok (.aload_n 0, 1) := by decide +kernel
theorem dX10_formOf_16 : decode cX10_formOf 16 = .ok (.getfield 112, 3) := by decide +kernel
theorem dX10_formOf_19 : decode cX10_formOf 19 = .ok (.ldc2_w 130, 3) := by decide +kernel
theorem dX10_formOf_22 : decode cX10_formOf 22 = .ok (.lcmp, 1) := by decide +kernel
theorem dX10_formOf_23 : decode cX10_formOf 23 = .ok (.ifCond .ne 7, 3) := by decide +kernel
theorem dX10_formOf_26 : decode cX10_formOf 26 = .ok (.iconst 1, 1) := by decide +kernel
theorem dX10_formOf_27 : decode cX10_formOf 27 = .ok (.goto 34, 3) := by decide +kernel
theorem dX10_formOf_30 : decode cX10_formOf 30 = .ok (.aload_n 0, 1) := by decide +kernel
theorem dX10_formOf_31 : decode cX10_formOf 31 = .ok (.getfield 112, 3) := by decide +kernel
theorem dX10_formOf_34 : decode cX10_formOf 34 = .ok (.ldc2_w 132, 3) := by decide +kernel
theorem dX10_formOf_37 : decode cX10_formOf 37 = .ok (.lcmp, 1) := by decide +kernel
theorem dX10_formOf_38 : decode cX10_formOf 38 = .ok (.ifCond .ne 7, 3) := by decide +kernel
theorem dX10_formOf_41 : decode cX10_formOf 41 = .ok (.iconst 2, 1) := by decide +kernel
theorem dX10_formOf_42 : decode cX10_formOf 42 = .ok (.goto 19, 3) := by decide +kernel
theorem dX10_formOf_45 : decode cX10_formOf 45 = .ok (.aload_n 0, 1) := by decide +kernel
theorem dX10_formOf_46 : decode cX10_formOf 46 = .ok (.getfield 112, 3) := by decide +kernel
theorem dX10_formOf_49 : decode cX10_formOf 49 = .ok (.ldc2_w 134, 3) := by decide +kernel
theorem dX10_formOf_52 : decode cX10_formOf 52 = .ok (.lcmp, 1) := by decide +kernel
theorem dX10_formOf_53 : decode cX10_formOf 53 = .ok (.ifCond .ne 7, 3) := by decide +kernel
theorem dX10_formOf_56 : decode cX10_formOf 56 = .ok (.iconst 3, 1) := by decide +kernel
theorem dX10_formOf_57 : decode cX10_formOf 57 = .ok (.goto 4, 3) := by decide +kernel
theorem dX10_formOf_60 : decode cX10_formOf 60 = .ok (.iconst (-1), 1) := by decide +kernel
theorem dX10_formOf_61 : decode cX10_formOf 61 = .ok (.ireturn, 1) := by decide +kernel
set_option maxRecDepth 20000 in
theorem ggX10_readLevels_X10_next : GoodIn wsX10_readLevels wsX10_next := goodIn_r _ [12, 13, 3, 2, 7, 14, 15, 16, 17, 11, 18, 19, 20, 21, 22, 23, 42, 43, 44, 45, 46, 47, 48, 49, 50, 51, 52, 53, 54, 55, 56, 57, 58, 59, 60, 61, 62, 63, 64, 65, 66, 67, 68, 69, 70, 71, 72, 73, 74, 75, 76, 77, 78, 79, 80, 81, 82, 83] (by decide +kernel) (by decide +kernel)
set_option maxRecDepth 20000 in
theorem gX10_readLevels_X10_next : GoodIn wsX10_readLevels (wsV RX10 139 RX10 yX10_next wsX10_next) := goodIn_app (goodIn_of _ (by decide +kernel)) ggX10_readLevels_X10_next
set_option maxRecDepth 20000 in
theorem ggX10_readLevels_X10_formOf : GoodIn wsX10_readLevels wsX10_formOf := goodIn_r _ [27, 2, 28, 29, 30, 31, 42, 43, 44, 45, 46, 47, 48, 49, 50, 51, 52, 53, 54, 55, 56, 57, 58, 59, 60, 61, 62, 63, 64, 65, 66, 67, 68, 69, 70, 71, 72, 73, 74, 75, 76, 77, 78, 79, 80, 81, 82, 83] (by decide +kernel) (by decide +kernel)
set_option maxRecDepth 20000 in
theorem gX10_readLevels_X10_formOf : GoodIn wsX10_readLevels (wsV RX10 142 RX10 yX10_formOf wsX10_formOf) := goodIn_app (goodIn_of _ (by decide +kernel)) ggX10_readLevels_X10_formOf
set_option maxRecDepth 20000 in
theorem ggX10_readLevels_X10_cant : GoodIn wsX10_readLevels wsX10_cant := goodIn_r _ [35, 2, 14, 3, 36, 37, 38, 11, 39, 40, 41, 42, 43, 44, 45, 46, 47, 48, 49, 50, 51, 52, 53, 54, 55, 56, 57, 58, 59, 60, 61, 62, 63, 64, 65, 66, 67, 68, 69, 70, 71, 72, 73, 74, 75, 76, 77, 78, 79, 80, 81, 82, 83] (by decide +kernel) (by decide +kernel)
set_option maxRecDepth 20000 in
theorem gX10_readLevels_X10_cant : GoodIn wsX10_readLevels (wsV RX10 145 RX10 yX10_cant wsX10_cant) := goodIn_app (goodIn_of _ (by decide +kernel)) ggX10_readLevels_X10_cant
set_option maxRecDepth 20000 in
theorem ggX10_readLevels_X10_wrong : GoodIn wsX10_readLevels wsX10_wrong := goodIn_r _ [39, 40, 41, 42, 43, 44, 45, 46, 47, 48, 49, 50, 51, 52, 53, 54, 55, 56, 57, 58, 59, 60, 61, 62, 63, 64, 65, 66, 67, 68, 69, 70, 71, 72, 73, 74, 75, 76, 77, 78, 79, 80, 81, 82, 83] (by decide +kernel) (by decide +kernel)
set_option maxRecDepth 20000 in
theorem gX10_readLevels_X10_wrong : GoodIn wsX10_readLevels (wsV RX10 124 RX10 yX10_wrong wsX10_wrong) := goodIn_app (goodIn_of _ (by decide +kernel)) ggX10_readLevels_X10_wrong
theorem dX10_readLevels_0 : decode cX10_readLevels 0 = .ok (.aload_n 0, 1) := by decide +kernel
theorem dX10_readLevels_1 : decode cX10_readLevels 1 = .ok (.iconst 0, 1) := by decide +kernel
theorem dX10_readLevels_2 : decode cX10_readLevels 2 = .ok (.putfield 136, 3) := by decide +kernel
theorem dX10_readLevels_5 : decode cX10_readLevels 5 = .ok (.aload_n 0, 1) := by decide +kernel
theorem dX10_readLevels_6 : decode cX10_readLevels 6 = .ok (.invokevirtual 139, 3) := by decide +kernel
theorem dX10_readLevels_9 : decode cX10_readLevels 9 = .ok (.aload_n 0, 1) := by decide +kernel
theorem dX10_readLevels_10 : decode cX10_readLevels 10 = .ok (.getfield 112, 3) := by decide +kernel
theorem dX10_readLevels_13 : decode cX10_readLevels 13 = .ok (.lconst 0, 1) := by decide +kernel
theorem dX10_readLevels_14 : decode cX10_readLevels 14 = .ok (.lcmp, 1) := by decide +kernel
theorem dX10_readLevels_15 : decode cX10_readLevels 15 = .ok (.ifCond .ne 10, 3) := by decide +kernel
theorem dX10_readLevels_18 : decode cX10_readLevels 18 = .ok (.aload_n 0, 1) := by decide +kernel
theorem dX10_readLevels_19 : decode cX10_readLevels 19 = .ok (.getfield 136, 3) := by decide +kernel
theorem dX10_readLevels_22 : decode cX10_readLevels 22 = .ok (.ifCond .ne 123, 3) := by decide +kernel
theorem dX10_readLevels_25 : decode cX10_readLevels 25 = .ok (.aload_n 0, 1) := by decide +kernel
theorem dX10_readLevels_26 : decode cX10_readLevels 26 = .ok (.invokevirtual 142, 3) := by decide +kernel
theorem dX10_readLevels_29 : decode cX10_readLevels 29 = .ok (.istore_n 1, 1) := by decide +kernel
theorem dX10_readLevels_30 : decode cX10_readLevels 30 = .ok (.iload_n 1, 1) := by decide +kernel
theorem dX10_readLevels_31 : decode cX10_readLevels 31 = .ok (.ifCond .ge 8, 3) := by decide +kernel
theorem dX10_readLevels_34 : decode cX10_readLevels 34 = .ok (.aload_n 0, 1) := by decide +kernel
theorem dX10_readLevels_35 : decode cX10_readLevels 35 = .ok (.invokevirtual 145, 3) := by decide +kernel
theorem dX10_readLevels_38 : decode cX10_readLevels 38 = .ok (.ireturn, 1) := by decide +kernel
theorem dX10_readLevels_39 : decode cX10_readLevels 39 = .ok (.aload_n 0, 1) := by decide +kernel
theorem dX10_readLevels_40 : decode cX10_readLevels 40 = .ok (.getfield 136, 3) := by decide +kernel
theorem dX10_readLevels_43 : decode cX10_readLevels 43 = .ok (.iconst 4, 1) := by decide +kernel
theorem dX10_readLevels_44 : decode cX10_readLevels 44 = .ok (.if_icmp .ne 13, 3) := by decide +kernel
theorem dX10_readLevels_47 : decode cX10_readLevels 47 = .ok (.aload_n 0, 1) := by decide +kernel
theorem dX10_readLevels_48 : decode cX10_readLevels 48 = .ok (.iconst 3, 1) := by decide +kernel
theorem dX10_readLevels_49 : decode cX10_readLevels 49 = .ok (.aload_n 0, 1) := by decide +kernel
theorem dX10_readLevels_50 : decode cX10_readLevels 50 = .ok (.getfield 109, 3) := by decide +kernel
theorem dX10_readLevels_53 : decode cX10_readLevels 53 = .ok (.invokevirtual 124, 3) := by decide +kernel
theorem dX10_readLevels_56 : decode cX10_readLevels 56 = .ok (.ireturn, 1) := by decide +kernel
theorem dX10_readLevels_57 : decode cX10_readLevels 57 = .ok (.aload_n 0, 1) := by decide +kernel
theorem dX10_readLevels_58 : decode cX10_readLevels 58 = .ok (.invokevirtual 139, 3) := by decide +kernel
theorem dX10_readLevels_61 : decode cX10_readLevels 61 = .ok (.aload_n 0, 1) := by decide +kernel
theorem dX10_readLevels_62 : decode cX10_readLevels 62 = .ok (.getfield 17, 3) := by decide +kernel
theorem dX10_readLevels_65 : decode cX10_readLevels 65 = .ok (.aload_n 0, 1) := by decide +kernel
theorem dX10_readLevels_66 : decode cX10_readLevels 66 = .ok (.getfield 136, 3) := by decide +kernel
theorem dX10_readLevels_69 : decode cX10_readLevels 69 = .ok (.iload_n 1, 1) := by decide +kernel
theorem dX10_readLevels_70 : decode cX10_readLevels 70 = .ok (.iastore, 1) := by decide +kernel
theorem dX10_readLevels_71 : decode cX10_readLevels 71 = .ok (.aload_n 0, 1) := by decide +kernel
theorem dX10_readLevels_72 : decode cX10_readLevels 72 = .ok (.getfield 24, 3) := by decide +kernel
theorem dX10_readLevels_75 : decode cX10_readLevels 75 = .ok (.aload_n 0, 1) := by decide +kernel
theorem dX10_readLevels_76 : decode cX10_readLevels 76 = .ok (.getfield 136, 3) := by decide +kernel
theorem dX10_readLevels_79 : decode cX10_readLevels 79 = .ok (.aload_n 0, 1) := by decide +kernel
theorem dX10_readLevels_80 : decode cX10_readLevels 80 = .ok (.getfield 112, 3) := by decide +kernel
theorem dX10_readLevels_83 : decode cX10_readLevels 83 = .ok (.ldc2_w 149, 3) := by decide +kernel
theorem dX10_readLevels_86 : decode cX10_readLevels 86 = .ok (.lcmp, 1) := by decide +kernel
theorem dX10_readLevels_87 : decode cX10_readLevels 87 = .ok (.ifCond .ne 7, 3) := by decide +kernel
theorem dX10_readLevels_90 : decode cX10_readLevels 90 = .ok (.iconst 1, 1) := by decide +kernel
theorem dX10_readLevels_91 : decode cX10_readLevels 91 = .ok (.goto 4, 3) := by decide +kernel
theorem dX10_readLevels_94 : decode cX10_readLevels 94 = .ok (.iconst 0, 1) := by decide +kernel
theorem dX10_readLevels_95 : decode cX10_readLevels 95 = .ok (.bastore, 1) := by decide +kernel
theorem dX10_readLevels_96 : decode cX10_readLevels 96 = .ok (.aload_n 0, 1) := by decide +kernel
theorem dX10_readLevels_97 : decode cX10_readLevels 97 = .ok (.getfield 24, 3) := by decide +kernel
theorem dX10_readLevels_100 : decode cX10_readLevels 100 = .ok (.aload_n 0, 1) := by decide +kernel
theorem dX10_readLevels_101 : decode cX10_readLevels 101 = .ok (.getfield 136, 3) := by decide +kernel
theorem dX10_readLevels_104 : decode cX10_readLevels 104 = .ok (.baload, 1) := by decide +kernel
theorem dX10_readLevels_105 : decode cX10_readLevels 105 = .ok (.ifCond .eq 7, 3) := by decide +kernel
theorem dX10_readLevels_108 : decode cX10_readLevels 108 = .ok (.aload_n 0, 1) := by decide +kernel
theorem dX10_readLevels_109 : decode cX10_readLevels 109 = .ok (.invokevirtual 139, 3) := by decide +kernel
theorem dX10_readLevels_112 : decode cX10_readLevels 112 = .ok (.aload_n 0, 1) := by decide +kernel
theorem dX10_readLevels_113 : decode cX10_readLevels 113 = .ok (.getfield 112, 3) := by decide +kernel
theorem dX10_readLevels_116 : decode cX10_readLevels 116 = .ok (.ldc2_w 120, 3) := by decide +kernel
theorem dX10_readLevels_119 : decode cX10_readLevels 119 = .ok (.lcmp, 1) := by decide +kernel
theorem dX10_readLevels_120 : decode cX10_readLevels 120 = .ok (.ifCond .eq 8, 3) := by decide +kernel
theorem dX10_readLevels_123 : decode cX10_readLevels 123 = .ok (.aload_n 0, 1) := by decide +kernel
theorem dX10_readLevels_124 : decode cX10_readLevels 124 = .ok (.invokevirtual 145, 3) := by decide +kernel
theorem dX10_readLevels_127 : decode cX10_readLevels 127 = .ok (.ireturn, 1) := by decide +kernel
theorem dX10_readLevels_128 : decode cX10_readLevels 128 = .ok (.aload_n 0, 1) := by decide +kernel
theorem dX10_readLevels_129 : decode cX10_readLevels 129 = .ok (.dup, 1) := by decide +kernel
theorem dX10_readLevels_130 : decode cX10_readLevels 130 = .ok (.getfield 136, 3) := by decide +kernel
theorem dX10_readLevels_133 : decode cX10_readLevels 133 = .ok (.iconst 1, 1) := by decide +kernel
theorem dX10_readLevels_134 : decode cX10_readLevels 134 = .ok (.iadd, 1) := by decide +kernel
theorem dX10_readLevels_135 : decode cX10_readLevels 135 = .ok (.putfield 136, 3) := by decide +kernel
theorem dX10_readLevels_138 : decode cX10_readLevels 138 = .ok (.aload_n 0, 1) := by decide +kernel
theorem dX10_readLevels_139 : decode cX10_readLevels 139 = .ok (.invokevirtual 139, 3) := by decide +kernel
theorem dX10_readLevels_142 : decode cX10_readLevels 142 = .ok (.goto (-133), 3) := by decide +kernel
theorem dX10_readLevels_145 : decode cX10_readLevels 145 = .ok (.iconst 1, 1) := by decide +kernel
theorem dX10_readLevels_146 : decode cX10_readLevels 146 = .ok (.ireturn, 1) := by decide +kernel
set_option maxRecDepth 20000 in
theorem ggX10_levels_X10_taken : GoodIn wsX10_levels wsX10_taken := goodIn_r _ [18, 19, 20, 21, 59, 60, 61, 62, 63, 64, 65, 66, 67, 68, 69, 70, 71, 72, 73, 74, 75, 76, 77, 78, 79, 80, 81, 82, 83, 84, 85, 86, 87, 88, 89, 90, 91, 92, 93, 94, 95, 96, 97, 98, 99, 100] (by decide +kernel) (by decide +kernel)
set_option maxRecDepth 20000 in
theorem gX10_levels_X10_taken : GoodIn wsX10_levels (wsV RX10 151 RX10 yX10_taken wsX10_taken) := goodIn_app (goodIn_of _ (by decide +kernel)) ggX10_levels_X10_taken
set_option maxRecDepth 20000 in
theorem ggX10_levels_X10_readLevels : GoodIn wsX10_levels wsX10_readLevels := goodIn_r _ [25, 4, 26, 27, 7, 9, 28, 29, 30, 31, 32, 17, 33, 21, 34, 35, 36, 37, 38, 20, 39, 40, 41, 42, 43, 44, 45, 46, 47, 48, 49, 50, 51, 52, 53, 54, 55, 56, 57, 58, 2, 3, 59, 60, 61, 62, 63, 64, 65, 66, 67, 68, 69, 70, 71, 72, 73, 74, 75, 76, 77, 78, 79, 80, 81, 82, 83, 84, 85, 86, 87, 88, 89, 90, 91, 92, 93, 94, 95, 96, 97, 98, 99, 100] (by decide +kernel) (by decide +kernel)
set_option maxRecDepth 20000 in
theorem gX10_levels_X10_readLevels : GoodIn wsX10_levels (wsV RX10 154 RX10 yX10_readLevels wsX10_readLevels) := goodIn_app (goodIn_of _ (by decide +kernel)) ggX10_levels_X10_readLevels
theorem dX10_levels_0 : decode cX10_levels 0 = .ok (.aload_n 0, 1) := by decide +kernel
theorem dX10_levels_1 : decode cX10_levels 1 = .ok (.iconst 0, 1) := by decide +kernel
theorem dX10_levels_2 : decode cX10_levels 2 = .ok (.putfield 86, 3) := by decide +kernel
theorem dX10_levels_5 : decode cX10_levels 5 = .ok (.aload_n 0, 1) := by decide +kernel
theorem dX10_levels_6 : decode cX10_levels 6 = .ok (.invokevirtual 151, 3) := by decide +kernel
theorem dX10_levels_9 : decode cX10_levels 9 = .ok (.aload_n 0, 1) := by decide +kernel
theorem dX10_levels_10 : decode cX10_levels 10 = .ok (.iconst 0, 1) := by decide +kernel
theorem dX10_levels_11 : decode cX10_levels 11 = .ok (.putfield 102, 3) := by decide +kernel
theorem dX10_levels_14 : decode cX10_levels 14 = .ok (.aload_n 0, 1) := by decide +kernel
theorem dX10_levels_15 : decode cX10_levels 15 = .ok (.iconst (-1), 1) := by decide +kernel
theorem dX10_levels_16 : decode cX10_levels 16 = .ok (.putfield 31, 3) := by decide +kernel
theorem dX10_levels_19 : decode cX10_levels 19 = .ok (.aload_n 0, 1) := by decide +kernel
theorem dX10_levels_20 : decode cX10_levels 20 = .ok (.invokevirtual 154, 3) := by decide +kernel
theorem dX10_levels_23 : decode cX10_levels 23 = .ok (.ifCond .ne 10, 3) := by decide +kernel
theorem dX10_levels_26 : decode cX10_levels 26 = .ok (.iconst (-1), 1) := by decide +kernel
theorem dX10_levels_27 : decode cX10_levels 27 = .ok (.aload_n 0, 1) := by decide +kernel
theorem dX10_levels_28 : decode cX10_levels 28 = .ok (.getfield 31, 3) := by decide +kernel
theorem dX10_levels_31 : decode cX10_levels 31 = .ok (.isub, 1) := by decide +kernel
theorem dX10_levels_32 : decode cX10_levels 32 = .ok (.ireturn, 1) := by decide +kernel
theorem dX10_levels_33 : decode cX10_levels 33 = .ok (.aload_n 0, 1) := by decide +kernel
theorem dX10_levels_34 : decode cX10_levels 34 = .ok (.aload_n 0, 1) := by decide +kernel
theorem dX10_levels_35 : decode cX10_levels 35 = .ok (.getfield 136, 3) := by decide +kernel
theorem dX10_levels_38 : decode cX10_levels 38 = .ok (.putfield 27, 3) := by decide +kernel
theorem dX10_levels_41 : decode cX10_levels 41 = .ok (.iconst 0, 1) := by decide +kernel
theorem dX10_levels_42 : decode cX10_levels 42 = .ok (.istore_n 1, 1) := by decide +kernel
theorem dX10_levels_43 : decode cX10_levels 43 = .ok (.iload_n 1, 1) := by decide +kernel
theorem dX10_levels_44 : decode cX10_levels 44 = .ok (.aload_n 0, 1) := by decide +kernel
theorem dX10_levels_45 : decode cX10_levels 45 = .ok (.getfield 27, 3) := by decide +kernel
theorem dX10_levels_48 : decode cX10_levels 48 = .ok (.if_icmp .ge 33, 3) := by decide +kernel
theorem dX10_levels_51 : decode cX10_levels 51 = .ok (.aload_n 0, 1) := by decide +kernel
theorem dX10_levels_52 : decode cX10_levels 52 = .ok (.getfield 13, 3) := by decide +kernel
theorem dX10_levels_55 : decode cX10_levels 55 = .ok (.iload_n 1, 1) := by decide +kernel
theorem dX10_levels_56 : decode cX10_levels 56 = .ok (.aload_n 0, 1) := by decide +kernel
theorem dX10_levels_57 : decode cX10_levels 57 = .ok (.getfield 17, 3) := by decide +kernel
theorem dX10_levels_60 : decode cX10_levels 60 = .ok (.iload_n 1, 1) := by decide +kernel
theorem dX10_levels_61 : decode cX10_levels 61 = .ok (.iaload, 1) := by decide +kernel
theorem dX10_levels_62 : decode cX10_levels 62 = .ok (.iastore, 1) := by decide +kernel
theorem dX10_levels_63 : decode cX10_levels 63 = .ok (.aload_n 0, 1) := by decide +kernel
theorem dX10_levels_64 : decode cX10_levels 64 = .ok (.getfield 20, 3) := by decide +kernel
theorem dX10_levels_67 : decode cX10_levels 67 = .ok (.iload_n 1, 1) := by decide +kernel
theorem dX10_levels_68 : decode cX10_levels 68 = .ok (.aload_n 0, 1) := by decide +kernel
theorem dX10_levels_69 : decode cX10_levels 69 = .ok (.getfield 24, 3) := by decide +kernel
theorem dX10_levels_72 : decode cX10_levels 72 = .ok (.iload_n 1, 1) := by decide +kernel
theorem dX10_levels_73 : decode cX10_levels 73 = .ok (.baload, 1) := by decide +kernel
theorem dX10_levels_74 : decode cX10_levels 74 = .ok (.bastore, 1) := by decide +kernel
theorem dX10_levels_75 : decode cX10_levels 75 = .ok (.iinc 1 1, 3) := by decide +kernel
theorem dX10_levels_78 : decode cX10_levels 78 = .ok (.goto (-35), 3) := by decide +kernel
theorem dX10_levels_81 : decode cX10_levels 81 = .ok (.aload_n 0, 1) := by decide +kernel
theorem dX10_levels_82 : decode cX10_levels 82 = .ok (.iconst 0, 1) := by decide +kernel
theorem dX10_levels_83 : decode cX10_levels 83 = .ok (.putfield 157, 3) := by decide +kernel
theorem dX10_levels_86 : decode cX10_levels 86 = .ok (.aload_n 0, 1) := by decide +kernel
theorem dX10_levels_87 : decode cX10_levels 87 = .ok (.iconst 0, 1) := by decide +kernel
theorem dX10_levels_88 : decode cX10_levels 88 = .ok (.putfield 160, 3) := by decide +kernel
theorem dX10_levels_91 : decode cX10_levels 91 = .ok (.aload_n 0, 1) := by decide +kernel
theorem dX10_levels_92 : decode cX10_levels 92 = .ok (.iconst 0, 1) := by decide +kernel
theorem dX10_levels_93 : decode cX10_levels 93 = .ok (.putfield 163, 3) := by decide +kernel
theorem dX10_levels_96 : decode cX10_levels 96 = .ok (.aload_n 0, 1) := by decide +kernel
theorem dX10_levels_97 : decode cX10_levels 97 = .ok (.iconst 0, 1) := by decide +kernel
theorem dX10_levels_98 : decode cX10_levels 98 = .ok (.putfield 166, 3) := by decide +kernel
theorem dX10_levels_101 : decode cX10_levels 101 = .ok (.aload_n 0, 1) := by decide +kernel
theorem dX10_levels_102 : decode cX10_levels 102 = .ok (.getfield 27, 3) := by decide +kernel
theorem dX10_levels_105 : decode cX10_levels 105 = .ok (.ireturn, 1) := by decide +kernel
theorem dX10_fault_0 : decode cX10_fault 0 = .ok (.aload_n 0, 1) := by decide +kernel
theorem dX10_fault_1 : decode cX10_fault 1 = .ok (.iconst 0, 1) := by decide +kernel
theorem dX10_fault_2 : decode cX10_fault 2 = .ok (.putfield 86, 3) := by decide +kernel
theorem dX10_fault_5 : decode cX10_fault 5 = .ok (.aload_n 0, 1) := by decide +kernel
theorem dX10_fault_6 : decode cX10_fault 6 = .ok (.getfield 102, 3) := by decide +kernel
theorem dX10_fault_9 : decode cX10_fault 9 = .ok (.ireturn, 1) := by decide +kernel
theorem dX10_place_0 : decode cX10_place 0 = .ok (.aload_n 0, 1) := by decide +kernel
theorem dX10_place_1 : decode cX10_place 1 = .ok (.iconst 0, 1) := by decide +kernel
theorem dX10_place_2 : decode cX10_place 2 = .ok (.putfield 86, 3) := by decide +kernel
theorem dX10_place_5 : decode cX10_place 5 = .ok (.aload_n 0, 1) := by decide +kernel
theorem dX10_place_6 : decode cX10_place 6 = .ok (.getfield 31, 3) := by decide +kernel
theorem dX10_place_9 : decode cX10_place 9 = .ok (.ireturn, 1) := by decide +kernel
theorem dX10_isItem_0 : decode cX10_isItem 0 = .ok (.iload_n 1, 1) := by decide +kernel
theorem dX10_isItem_1 : decode cX10_isItem 1 = .ok (.ifCond .lt 15, 3) := by decide +kernel
theorem dX10_isItem_4 : decode cX10_isItem 4 = .ok (.iload_n 1, 1) := by decide +kernel
theorem dX10_isItem_5 : decode cX10_isItem 5 = .ok (.aload_n 0, 1) := by decide +kernel
theorem dX10_isItem_6 : decode cX10_isItem 6 = .ok (.getfield 157, 3) := by decide +kernel
theorem dX10_isItem_9 : decode cX10_isItem 9 = .ok (.if_icmp .ge 7, 3) := by decide +kernel
theorem dX10_isItem_12 : decode cX10_isItem 12 = .ok (.iconst 1, 1) := by decide +kernel
theorem dX10_isItem_13 : decode cX10_isItem 13 = .ok (.goto 4, 3) := by decide +kernel
theorem dX10_isItem_16 : decode cX10_isItem 16 = .ok (.iconst 0, 1) := by decide +kernel
theorem dX10_isItem_17 : decode cX10_isItem 17 = .ok (.ireturn, 1) := by decide +kernel
theorem dX10_placeOf_0 : decode cX10_placeOf 0 = .ok (.iconst 0, 1) := by decide +kernel
theorem dX10_placeOf_1 : decode cX10_placeOf 1 = .ok (.istore_n 2, 1) := by decide +kernel
theorem dX10_placeOf_2 : decode cX10_placeOf 2 = .ok (.aload_n 0, 1) := by decide +kernel
theorem dX10_placeOf_3 : decode cX10_placeOf 3 = .ok (.getfield 43, 3) := by decide +kernel
theorem dX10_placeOf_6 : decode cX10_placeOf 6 = .ok (.iload_n 2, 1) := by decide +kernel
theorem dX10_placeOf_7 : decode cX10_placeOf 7 = .ok (.iaload, 1) := by decide +kernel
theorem dX10_placeOf_8 : decode cX10_placeOf 8 = .ok (.iload_n 1, 1) := by decide +kernel
theorem dX10_placeOf_9 : decode cX10_placeOf 9 = .ok (.if_icmp .eq 9, 3) := by decide +kernel
theorem dX10_placeOf_12 : decode cX10_placeOf 12 = .ok (.iinc 2 1, 3) := by decide +kernel
theorem dX10_placeOf_15 : decode cX10_placeOf 15 = .ok (.goto (-13), 3) := by decide +kernel
theorem dX10_placeOf_18 : decode cX10_placeOf 18 = .ok (.iload_n 2, 1) := by decide +kernel
theorem dX10_placeOf_19 : decode cX10_placeOf 19 = .ok (.ireturn, 1) := by decide +kernel
theorem dX10_isUnder_0 : decode cX10_isUnder 0 = .ok (.aload_n 0, 1) := by decide +kernel
theorem dX10_isUnder_1 : decode cX10_isUnder 1 = .ok (.getfield 37, 3) := by decide +kernel
theorem dX10_isUnder_4 : decode cX10_isUnder 4 = .ok (.iload_n 1, 1) := by decide +kernel
theorem dX10_isUnder_5 : decode cX10_isUnder 5 = .ok (.iaload, 1) := by decide +kernel
theorem dX10_isUnder_6 : decode cX10_isUnder 6 = .ok (.istore_n 3, 1) := by decide +kernel
theorem dX10_isUnder_7 : decode cX10_isUnder 7 = .ok (.iload_n 3, 1) := by decide +kernel
theorem dX10_isUnder_8 : decode cX10_isUnder 8 = .ok (.ifCond .lt 18, 3) := by decide +kernel
theorem dX10_isUnder_11 : decode cX10_isUnder 11 = .ok (.iload_n 3, 1) := by decide +kernel
theorem dX10_isUnder_12 : decode cX10_isUnder 12 = .ok (.iload_n 2, 1) := by decide +kernel
theorem dX10_isUnder_13 : decode cX10_isUnder 13 = .ok (.if_icmp .eq 13, 3) := by decide +kernel
theorem dX10_isUnder_16 : decode cX10_isUnder 16 = .ok (.aload_n 0, 1) := by decide +kernel
theorem dX10_isUnder_17 : decode cX10_isUnder 17 = .ok (.getfield 37, 3) := by decide +kernel
theorem dX10_isUnder_20 : decode cX10_isUnder 20 = .ok (.iload_n 3, 1) := by decide +kernel
theorem dX10_isUnder_21 : decode cX10_isUnder 21 = .ok (.iaload, 1) := by decide +kernel
theorem dX10_isUnder_22 : decode cX10_isUnder 22 = .ok (.istore_n 3, 1) := by decide +kernel
theorem dX10_isUnder_23 : decode cX10_isUnder 23 = .ok (.goto (-16), 3) := by decide +kernel
theorem dX10_isUnder_26 : decode cX10_isUnder 26 = .ok (.iload_n 3, 1) := by decide +kernel
theorem dX10_isUnder_27 : decode cX10_isUnder 27 = .ok (.iload_n 2, 1) := by decide +kernel
theorem dX10_isUnder_28 : decode cX10_isUnder 28 = .ok (.if_icmp .ne 7, 3) := by decide +kernel
theorem dX10_isUnder_31 : decode cX10_isUnder 31 = .ok (.iconst 1, 1) := by decide +kernel
theorem dX10_isUnder_32 : decode cX10_isUnder 32 = .ok (.goto 4, 3) := by decide +kernel
theorem dX10_isUnder_35 : decode cX10_isUnder 35 = .ok (.iconst 0, 1) := by decide +kernel
theorem dX10_isUnder_36 : decode cX10_isUnder 36 = .ok (.ireturn, 1) := by decide +kernel
theorem dX10_isInRow_0 : decode cX10_isInRow 0 = .ok (.aload_n 0, 1) := by decide +kernel
theorem dX10_isInRow_1 : decode cX10_isInRow 1 = .ok (.getfield 34, 3) := by decide +kernel
theorem dX10_isInRow_4 : decode cX10_isInRow 4 = .ok (.iload_n 1, 1) := by decide +kernel
theorem dX10_isInRow_5 : decode cX10_isInRow 5 = .ok (.iaload, 1) := by decide +kernel
theorem dX10_isInRow_6 : decode cX10_isInRow 6 = .ok (.aload_n 0, 1) := by decide +kernel
theorem dX10_isInRow_7 : decode cX10_isInRow 7 = .ok (.getfield 34, 3) := by decide +kernel
theorem dX10_isInRow_10 : decode cX10_isInRow 10 = .ok (.iload_n 2, 1) := by decide +kernel
theorem dX10_isInRow_11 : decode cX10_isInRow 11 = .ok (.iaload, 1) := by decide +kernel
theorem dX10_isInRow_12 : decode cX10_isInRow 12 = .ok (.if_icmp .ne 36, 3) := by decide +kernel
theorem dX10_isInRow_15 : decode cX10_isInRow 15 = .ok (.aload_n 0, 1) := by decide +kernel
theorem dX10_isInRow_16 : decode cX10_isInRow 16 = .ok (.getfield 20, 3) := by decide +kernel
theorem dX10_isInRow_19 : decode cX10_isInRow 19 = .ok (.aload_n 0, 1) := by decide +kernel
theorem dX10_isInRow_20 : decode cX10_isInRow 20 = .ok (.getfield 34, 3) := by decide +kernel
theorem dX10_isInRow_23 : decode cX10_isInRow 23 = .ok (.iload_n 2, 1) := by decide +kernel
theorem dX10_isInRow_24 : decode cX10_isInRow 24 = .ok (.iaload, 1) := by decide +kernel
theorem dX10_isInRow_25 : decode cX10_isInRow 25 = .ok (.baload, 1) := by decide +kernel
theorem dX10_isInRow_26 : decode cX10_isInRow 26 = .ok (.ifCond .ne 18, 3) := by decide +kernel
theorem dX10_isInRow_29 : decode cX10_isInRow 29 = .ok (.aload_n 0, 1) := by decide +kernel
theorem dX10_isInRow_30 : decode cX10_isInRow 30 = .ok (.getfield 37, 3) := by decide +kernel
theorem dX10_isInRow_33 : decode cX10_isInRow 33 = .ok (.iload_n 1, 1) := by decide +kernel
theorem dX10_isInRow_34 : decode cX10_isInRow 34 = .ok (.iaload, 1) := by decide +kernel
theorem dX10_isInRow_35 : decode cX10_isInRow 35 = .ok (.aload_n 0, 1) := by decide +kernel
theorem dX10_isInRow_36 : decode cX10_isInRow 36 = .ok (.getfield 37, 3) := by decide +kernel
theorem dX10_isInRow_39 : decode cX10_isInRow 39 = .ok (.iload_n 2, 1) := by decide +kernel
theorem dX10_isInRow_40 : decode cX10_isInRow 40 = .ok (.iaload, 1) := by decide +kernel
theorem dX10_isInRow_41 : decode cX10_isInRow 41 = .ok (.if_icmp .ne 7, 3) := by decide +kernel
theorem dX10_isInRow_44 : decode cX10_isInRow 44 = .ok (.iconst 1, 1) := by decide +kernel
theorem dX10_isInRow_45 : decode cX10_isInRow 45 = .ok (.goto 4, 3) := by decide +kernel
theorem dX10_isInRow_48 : decode cX10_isInRow 48 = .ok (.iconst 0, 1) := by decide +kernel
theorem dX10_isInRow_49 : decode cX10_isInRow 49 = .ok (.ireturn, 1) := by decide +kernel
theorem dX10_change_0 : decode cX10_change 0 = .ok (.aload_n 0, 1) := by decide +kernel
theorem dX10_change_1 : decode cX10_change 1 = .ok (.getfield 50, 3) := by decide +kernel
theorem dX10_change_4 : decode cX10_change 4 = .ok (.aload_n 0, 1) := by decide +kernel
theorem dX10_change_5 : decode cX10_change 5 = .ok (.getfield 160, 3) := by decide +kernel
theorem dX10_change_8 : decode cX10_change 8 = .ok (.iload_n 1, 1) := by decide +kernel
theorem dX10_change_9 : decode cX10_change 9 = .ok (.iastore, 1) := by decide +kernel
theorem dX10_change_10 : decode cX10_change 10 = .ok (.aload_n 0, 1) := by decide +kernel
theorem dX10_change_11 : decode cX10_change 11 = .ok (.getfield 53, 3) := by decide +kernel
theorem dX10_change_14 : decode cX10_change 14 = .ok (.aload_n 0, 1) := by decide +kernel
theorem dX10_change_15 : decode cX10_change 15 = .ok (.getfield 160, 3) := by decide +kernel
theorem dX10_change_18 : decode cX10_change 18 = .ok (.aload_n 0, 1) := by decide +kernel
theorem dX10_change_19 : decode cX10_change 19 = .ok (.getfield 166, 3) := by decide +kernel
theorem dX10_change_22 : decode cX10_change 22 = .ok (.iastore, 1) := by decide +kernel
theorem dX10_change_23 : decode cX10_change 23 = .ok (.aload_n 0, 1) := by decide +kernel
theorem dX10_change_24 : decode cX10_change 24 = .ok (.getfield 56, 3) := by decide +kernel
theorem dX10_change_27 : decode cX10_change 27 = .ok (.aload_n 0, 1) := by decide +kernel
theorem dX10_change_28 : decode cX10_change 28 = .ok (.getfield 160, 3) := by decide +kernel
theorem dX10_change_31 : decode cX10_change 31 = .ok (.iload_n 2, 1) := by decide +kernel
theorem dX10_change_32 : decode cX10_change 32 = .ok (.iastore, 1) := by decide +kernel
theorem dX10_change_33 : decode cX10_change 33 = .ok (.aload_n 0, 1) := by decide +kernel
theorem dX10_change_34 : decode cX10_change 34 = .ok (.dup, 1) := by decide +kernel
theorem dX10_change_35 : decode cX10_change 35 = .ok (.getfield 160, 3) := by decide +kernel
theorem dX10_change_38 : decode cX10_change 38 = .ok (.iconst 1, 1) := by decide +kernel
theorem dX10_change_39 : decode cX10_change 39 = .ok (.iadd, 1) := by decide +kernel
theorem dX10_change_40 : decode cX10_change 40 = .ok (.putfield 160, 3) := by decide +kernel
theorem dX10_change_43 : decode cX10_change 43 = .ok (.return_, 1) := by decide +kernel
theorem dX10_labelOf_0 : decode cX10_labelOf 0 = .ok (.aload_n 0, 1) := by decide +kernel
theorem dX10_labelOf_1 : decode cX10_labelOf 1 = .ok (.getfield 160, 3) := by decide +kernel
theorem dX10_labelOf_4 : decode cX10_labelOf 4 = .ok (.iconst 1, 1) := by decide +kernel
theorem dX10_labelOf_5 : decode cX10_labelOf 5 = .ok (.isub, 1) := by decide +kernel
theorem dX10_labelOf_6 : decode cX10_labelOf 6 = .ok (.istore_n 3, 1) := by decide +kernel
theorem dX10_labelOf_7 : decode cX10_labelOf 7 = .ok (.iload_n 3, 1) := by decide +kernel
theorem dX10_labelOf_8 : decode cX10_labelOf 8 = .ok (.ifCond .lt 36, 3) := by decide +kernel
theorem dX10_labelOf_11 : decode cX10_labelOf 11 = .ok (.aload_n 0, 1) := by decide +kernel
theorem dX10_labelOf_12 : decode cX10_labelOf 12 = .ok (.getfield 50, 3) := by decide +kernel
theorem dX10_labelOf_15 : decode cX10_labelOf 15 = .ok (.iload_n 3, 1) := by decide +kernel
theorem dX10_labelOf_16 : decode cX10_labelOf 16 = .ok (.iaload, 1) := by decide +kernel
theorem dX10_labelOf_17 : decode cX10_labelOf 17 = .ok (.iload_n 1, 1) := by decide +kernel
theorem dX10_labelOf_18 : decode cX10_labelOf 18 = .ok (.if_icmp .ne 20, 3) := by decide +kernel
theorem dX10_labelOf_21 : decode cX10_labelOf 21 = .ok (.aload_n 0, 1) := by decide +kernel
theorem dX10_labelOf_22 : decode cX10_labelOf 22 = .ok (.getfield 53, 3) := by decide +kernel
theorem dX10_labelOf_25 : decode cX10_labelOf 25 = .ok (.iload_n 3, 1) := by decide +kernel
theorem dX10_labelOf_26 : decode cX10_labelOf 26 = .ok (.iaload, 1) := by decide +kernel
theorem dX10_labelOf_27 : decode cX10_labelOf 27 = .ok (.iload_n 2, 1) := by decide +kernel
theorem dX10_labelOf_28 : decode cX10_labelOf 28 = .ok (.if_icmp .gt 10, 3) := by decide +kernel
theorem dX10_labelOf_31 : decode cX10_labelOf 31 = .ok (.aload_n 0, 1) := by decide +kernel
theorem dX10_labelOf_32 : decode cX10_labelOf 32 = .ok (.getfield 56, 3) := by decide +kernel
theorem dX10_labelOf_35 : decode cX10_labelOf 35 = .ok (.iload_n 3, 1) := by decide +kernel
theorem dX10_labelOf_36 : decode cX10_labelOf 36 = .ok (.iaload, 1) := by decide +kernel
theorem dX10_labelOf_37 : decode cX10_labelOf 37 = .ok (.ireturn, 1) := by decide +kernel
theorem dX10_labelOf_38 : decode cX10_labelOf 38 = .ok (.iinc 3 (-1), 3) := by decide +kernel
theorem dX10_labelOf_41 : decode cX10_labelOf 41 = .ok (.goto (-34), 3) := by decide +kernel
theorem dX10_labelOf_44 : decode cX10_labelOf 44 = .ok (.iconst 0, 1) := by decide +kernel
theorem dX10_labelOf_45 : decode cX10_labelOf 45 = .ok (.ireturn, 1) := by decide +kernel
theorem dX10_act_0 : decode cX10_act 0 = .ok (.aload_n 0, 1) := by decide +kernel
theorem dX10_act_1 : decode cX10_act 1 = .ok (.getfield 163, 3) := by decide +kernel
theorem dX10_act_4 : decode cX10_act 4 = .ok (.bipush 100, 2) := by decide +kernel
theorem dX10_act_6 : decode cX10_act 6 = .ok (.if_icmp .ne 69, 3) := by decide +kernel
theorem dX10_act_9 : decode cX10_act 9 = .ok (.iconst 1, 1) := by decide +kernel
theorem dX10_act_10 : decode cX10_act 10 = .ok (.istore_n 3, 1) := by decide +kernel
theorem dX10_act_11 : decode cX10_act 11 = .ok (.iload_n 3, 1) := by decide +kernel
theorem dX10_act_12 : decode cX10_act 12 = .ok (.bipush 100, 2) := by decide +kernel
theorem dX10_act_14 : decode cX10_act 14 = .ok (.if_icmp .ge 51, 3) := by decide +kernel
theorem dX10_act_17 : decode cX10_act 17 = .ok (.aload_n 0, 1) := by decide +kernel
theorem dX10_act_18 : decode cX10_act 18 = .ok (.getfield 59, 3) := by decide +kernel
theorem dX10_act_21 : decode cX10_act 21 = .ok (.iload_n 3, 1) := by decide +kernel
theorem dX10_act_22 : decode cX10_act 22 = .ok (.iconst 1, 1) := by decide +kernel
theorem dX10_act_23 : decode cX10_act 23 = .ok (.isub, 1) := by decide +kernel
theorem dX10_act_24 : decode cX10_act 24 = .ok (.aload_n 0, 1) := by decide +kernel
theorem dX10_act_25 : decode cX10_act 25 = .ok (.getfield 59, 3) := by decide +kernel
theorem dX10_act_28 : decode cX10_act 28 = .ok (.iload_n 3, 1) := by decide +kernel
theorem dX10_act_29 : decode cX10_act 29 = .ok (.iaload, 1) := by decide +kernel
theorem dX10_act_30 : decode cX10_act 30 = .ok (.iastore, 1) := by decide +kernel
theorem dX10_act_31 : decode cX10_act 31 = .ok (.aload_n 0, 1) := by decide +kernel
theorem dX10_act_32 : decode cX10_act 32 = .ok (.getfield 62, 3) := by decide +kernel
theorem dX10_act_35 : decode cX10_act 35 = .ok (.iload_n 3, 1) := by decide +kernel
theorem dX10_act_36 : decode cX10_act 36 = .ok (.iconst 1, 1) := by decide +kernel
theorem dX10_act_37 : decode cX10_act 37 = .ok (.isub, 1) := by decide +kernel
theorem dX10_act_38 : decode cX10_act 38 = .ok (.aload_n 0, 1) := by decide +kernel
theorem dX10_act_39 : decode cX10_act 39 = .ok (.getfield 62, 3) := by decide +kernel
theorem dX10_act_42 : decode cX10_act 42 = .ok (.iload_n 3, 1) := by decide +kernel
theorem dX10_act_43 : decode cX10_act 43 = .ok (.iaload, 1) := by decide +kernel
theorem dX10_act_44 : decode cX10_act 44 = .ok (.iastore, 1) := by decide +kernel
theorem dX10_act_45 : decode cX10_act 45 = .ok (.aload_n 0, 1) := by decide +kernel
theorem dX10_act_46 : decode cX10_act 46 = .ok (.getfield 65, 3) := by decide +kernel
theorem dX10_act_49 : decode cX10_act 49 = .ok (.iload_n 3, 1) := by decide +kernel
theorem dX10_act_50 : decode cX10_act 50 = .ok (.iconst 1, 1) := by decide +kernel
theorem dX10_act_51 : decode cX10_act 51 = .ok (.isub, 1) := by decide +kernel
theorem dX10_act_52 : decode cX10_act 52 = .ok (.aload_n 0, 1) := by decide +kernel
theorem dX10_act_53 : decode cX10_act 53 = .ok (.getfield 65, 3) := by decide +kernel
theorem dX10_act_56 : decode cX10_act 56 = .ok (.iload_n 3, 1) := by decide +kernel
theorem dX10_act_57 : decode cX10_act 57 = .ok (.iaload, 1) := by decide +kernel
theorem dX10_act_58 : decode cX10_act 58 = .ok (.iastore, 1) := by decide +kernel
theorem dX10_act_59 : decode cX10_act 59 = .ok (.iinc 3 1, 3) := by decide +kernel
theorem dX10_act_62 : decode cX10_act 62 = .ok (.goto (-51), 3) := by decide +kernel
theorem dX10_act_65 : decode cX10_act 65 = .ok (.aload_n 0, 1) := by decide +kernel
theorem dX10_act_66 : decode cX10_act 66 = .ok (.dup, 1) := by decide +kernel
theorem dX10_act_67 : decode cX10_act 67 = .ok (.getfield 163, 3) := by decide +kernel
theorem dX10_act_70 : decode cX10_act 70 = .ok (.iconst 1, 1) := by decide +kernel
theorem dX10_act_71 : decode cX10_act 71 = .ok (.isub, 1) := by decide +kernel
theorem dX10_act_72 : decode cX10_act 72 = .ok (.putfield 163, 3) := by decide +kernel
theorem dX10_act_75 : decode cX10_act 75 = .ok (.aload_n 0, 1) := by decide +kernel
theorem dX10_act_76 : decode cX10_act 76 = .ok (.getfield 59, 3) := by decide +kernel
theorem dX10_act_79 : decode cX10_act 79 = .ok (.aload_n 0, 1) := by decide +kernel
theorem dX10_act_80 : decode cX10_act 80 = .ok (.getfield 163, 3) := by decide +kernel
theorem dX10_act_83 : decode cX10_act 83 = .ok (.iload_n 1, 1) := by decide +kernel
theorem dX10_act_84 : decode cX10_act 84 = .ok (.iastore, 1) := by decide +kernel
theorem dX10_act_85 : decode cX10_act 85 = .ok (.aload_n 0, 1) := by decide +kernel
theorem dX10_act_86 : decode cX10_act 86 = .ok (.getfield 62, 3) := by decide +kernel
theorem dX10_act_89 : decode cX10_act 89 = .ok (.aload_n 0, 1) := by decide +kernel
theorem dX10_act_90 : decode cX10_act 90 = .ok (.getfield 163, 3) := by decide +kernel
theorem dX10_act_93 : decode cX10_act 93 = .ok (.iload_n 2, 1) := by decide +kernel
theorem dX10_act_94 : decode cX10_act 94 = .ok (.iastore, 1) := by decide +kernel
theorem dX10_act_95 : decode cX10_act 95 = .ok (.aload_n 0, 1) := by decide +kernel
theorem dX10_act_96 : decode cX10_act 96 = .ok (.getfield 65, 3) := by decide +kernel
theorem dX10_act_99 : decode cX10_act 99 = .ok (.aload_n 0, 1) := by decide +kernel
theorem dX10_act_100 : decode cX10_act 100 = .ok (.getfield 163, 3) := by decide +kernel
theorem dX10_act_103 : decode cX10_act 103 = .ok (.aload_n 0, 1) := by decide +kernel
theorem dX10_act_104 : decode cX10_act 104 = .ok (.getfield 160, 3) := by decide +kernel
theorem dX10_act_107 : decode cX10_act 107 = .ok (.iastore, 1) := by decide +kernel
theorem dX10_act_108 : decode cX10_act 108 = .ok (.aload_n 0, 1) := by decide +kernel
theorem dX10_act_109 : decode cX10_act 109 = .ok (.dup, 1) := by decide +kernel
theorem dX10_act_110 : decode cX10_act 110 = .ok (.getfield 163, 3) := by decide +kernel
theorem dX10_act_113 : decode cX10_act 113 = .ok (.iconst 1, 1) := by decide +kernel
theorem dX10_act_114 : decode cX10_act 114 = .ok (.iadd, 1) := by decide +kernel
theorem dX10_act_115 : decode cX10_act 115 = .ok (.putfield 163, 3) := by decide +kernel
theorem dX10_act_118 : decode cX10_act 118 = .ok (.return_, 1) := by decide +kernel
theorem dX10_letterAt_0 : decode cX10_letterAt 0 = .ok (.iload_n 0, 1) := by decide +kernel
theorem dX10_letterAt_1 : decode cX10_letterAt 1 = .ok (.istore_n 2, 1) := by decide +kernel
theorem dX10_letterAt_2 : decode cX10_letterAt 2 = .ok (.iload_n 1, 1) := by decide +kernel
theorem dX10_letterAt_3 : decode cX10_letterAt 3 = .ok (.istore_n 3, 1) := by decide +kernel
theorem dX10_letterAt_4 : decode cX10_letterAt 4 = .ok (.iload_n 3, 1) := by decide +kernel
theorem dX10_letterAt_5 : decode cX10_letterAt 5 = .ok (.iconst 3, 1) := by decide +kernel
theorem dX10_letterAt_6 : decode cX10_letterAt 6 = .ok (.if_icmp .ge 14, 3) := by decide +kernel
theorem dX10_letterAt_9 : decode cX10_letterAt 9 = .ok (.iload_n 2, 1) := by decide +kernel
theorem dX10_letterAt_10 : decode cX10_letterAt 10 = .ok (.bipush 27, 2) := by decide +kernel
theorem dX10_letterAt_12 : decode cX10_letterAt 12 = .ok (.idiv, 1) := by decide +kernel
theorem dX10_letterAt_13 : decode cX10_letterAt 13 = .ok (.istore_n 2, 1) := by decide +kernel
theorem dX10_letterAt_14 : decode cX10_letterAt 14 = .ok (.iinc 3 1, 3) := by decide +kernel
theorem dX10_letterAt_17 : decode cX10_letterAt 17 = .ok (.goto (-13), 3) := by decide +kernel
theorem dX10_letterAt_20 : decode cX10_letterAt 20 = .ok (.iload_n 2, 1) := by decide +kernel
theorem dX10_letterAt_21 : decode cX10_letterAt 21 = .ok (.bipush 27, 2) := by decide +kernel
theorem dX10_letterAt_23 : decode cX10_letterAt 23 = .ok (.irem, 1) := by decide +kernel
theorem dX10_letterAt_24 : decode cX10_letterAt 24 = .ok (.ireturn, 1) := by decide +kernel
set_option maxRecDepth 20000 in
theorem ggX10_lettersOf_X10_letterAt : GoodIn wsX10_lettersOf wsX10_letterAt := goodIn_r _ [4] (by decide +kernel) (by decide +kernel)
set_option maxRecDepth 20000 in
theorem gX10_lettersOf_X10_letterAt : GoodIn wsX10_lettersOf (va_wsS RX10 169 yX10_letterAt wsX10_letterAt) := goodIn_app (goodIn_of _ (by decide +kernel)) ggX10_lettersOf_X10_letterAt
theorem dX10_lettersOf_0 : decode cX10_lettersOf 0 = .ok (.iconst 0, 1) := by decide +kernel
theorem dX10_lettersOf_1 : decode cX10_lettersOf 1 = .ok (.istore_n 1, 1) := by decide +kernel
theorem dX10_lettersOf_2 : decode cX10_lettersOf 2 = .ok (.iload_n 1, 1) := by decide +kernel
theorem dX10_lettersOf_3 : decode cX10_lettersOf 3 = .ok (.iconst 4, 1) := by decide +kernel
theorem dX10_lettersOf_4 : decode cX10_lettersOf 4 = .ok (.if_icmp .ge 17, 3) := by decide +kernel
theorem dX10_lettersOf_7 : decode cX10_lettersOf 7 = .ok (.iload_n 0, 1) := by decide +kernel
theorem dX10_lettersOf_8 : decode cX10_lettersOf 8 = .ok (.iload_n 1, 1) := by decide +kernel
theorem dX10_lettersOf_9 : decode cX10_lettersOf 9 = .ok (.invokestatic 169, 3) := by decide +kernel
theorem dX10_lettersOf_12 : decode cX10_lettersOf 12 = .ok (.ifCond .le 9, 3) := by decide +kernel
theorem dX10_lettersOf_15 : decode cX10_lettersOf 15 = .ok (.iinc 1 1, 3) := by decide +kernel
theorem dX10_lettersOf_18 : decode cX10_lettersOf 18 = .ok (.goto (-16), 3) := by decide +kernel
theorem dX10_lettersOf_21 : decode cX10_lettersOf 21 = .ok (.iload_n 1, 1) := by decide +kernel
theorem dX10_lettersOf_22 : decode cX10_lettersOf 22 = .ok (.ireturn, 1) := by decide +kernel
theorem dX10_suffixInHand_0 : decode cX10_suffixInHand 0 = .ok (.aload_n 0, 1) := by decide +kernel
theorem dX10_suffixInHand_1 : decode cX10_suffixInHand 1 = .ok (.getfield 68, 3) := by decide +kernel
theorem dX10_suffixInHand_4 : decode cX10_suffixInHand 4 = .ok (.iconst 0, 1) := by decide +kernel
theorem dX10_suffixInHand_5 : decode cX10_suffixInHand 5 = .ok (.iaload, 1) := by decide +kernel
theorem dX10_suffixInHand_6 : decode cX10_suffixInHand 6 = .ok (.bipush 27, 2) := by decide +kernel
theorem dX10_suffixInHand_8 : decode cX10_suffixInHand 8 = .ok (.imul, 1) := by decide +kernel
theorem dX10_suffixInHand_9 : decode cX10_suffixInHand 9 = .ok (.aload_n 0, 1) := by decide +kernel
theorem dX10_suffixInHand_10 : decode cX10_suffixInHand 10 = .ok (.getfield 68, 3) := by decide +kernel
theorem dX10_suffixInHand_13 : decode cX10_suffixInHand 13 = .ok (.iconst 1, 1) := by decide +kernel
theorem dX10_suffixInHand_14 : decode cX10_suffixInHand 14 = .ok (.iaload, 1) := by decide +kernel
theorem dX10_suffixInHand_15 : decode cX10_suffixInHand 15 = .ok (.iadd, 1) := by decide +kernel
theorem dX10_suffixInHand_16 : decode cX10_suffixInHand 16 = .ok (.bipush 27, 2) := by decide +kernel
theorem dX10_suffixInHand_18 : decode cX10_suffixInHand 18 = .ok (.imul, 1) := by decide +kernel
theorem dX10_suffixInHand_19 : decode cX10_suffixInHand 19 = .ok (.aload_n 0, 1) := by decide +kernel
theorem dX10_suffixInHand_20 : decode cX10_suffixInHand 20 = .ok (.getfield 68, 3) := by decide +kernel
theorem dX10_suffixInHand_23 : decode cX10_suffixInHand 23 = .ok (.iconst 2, 1) := by decide +kernel
theorem dX10_suffixInHand_24 : decode cX10_suffixInHand 24 = .ok (.iaload, 1) := by decide +kernel
theorem dX10_suffixInHand_25 : decode cX10_suffixInHand 25 = .ok (.iadd, 1) := by decide +kernel
theorem dX10_suffixInHand_26 : decode cX10_suffixInHand 26 = .ok (.bipush 27, 2) := by decide +kernel
theorem dX10_suffixInHand_28 : decode cX10_suffixInHand 28 = .ok (.imul, 1) := by decide +kernel
theorem dX10_suffixInHand_29 : decode cX10_suffixInHand 29 = .ok (.aload_n 0, 1) := by decide +kernel
theorem dX10_suffixInHand_30 : decode cX10_suffixInHand 30 = .ok (.getfield 68, 3) := by decide +kernel
theorem dX10_suffixInHand_33 : decode cX10_suffixInHand 33 = .ok (.iconst 3, 1) := by decide +kernel
theorem dX10_suffixInHand_34 : decode cX10_suffixInHand 34 = .ok (.iaload, 1) := by decide +kernel
theorem dX10_suffixInHand_35 : decode cX10_suffixInHand 35 = .ok (.iadd, 1) := by decide +kernel
theorem dX10_suffixInHand_36 : decode cX10_suffixInHand 36 = .ok (.ireturn, 1) := by decide +kernel
set_option maxRecDepth 20000 in
theorem ggX10_least_X10_lettersOf : GoodIn wsX10_least wsX10_lettersOf := goodIn_r _ [6, 7, 8, 5, 9] (by decide +kernel) (by decide +kernel)
set_option maxRecDepth 20000 in
theorem gX10_least_X10_lettersOf : GoodIn wsX10_least (va_wsS RX10 174 yX10_lettersOf wsX10_lettersOf) := goodIn_app (goodIn_of _ (by decide +kernel)) ggX10_least_X10_lettersOf
set_option maxRecDepth 20000 in
theorem ggX10_least_X10_suffixInHand : GoodIn wsX10_least wsX10_suffixInHand := goodIn_r _ [13, 2, 14, 15, 16, 17, 18, 19, 20, 21, 22, 23, 24, 25, 26, 27, 28, 29, 30, 31, 32, 33, 34, 35, 36, 37, 38, 39, 40, 41, 42, 43, 44, 45, 46, 47, 48, 49, 50, 51, 52, 53, 54, 55] (by decide +kernel) (by decide +kernel)
set_option maxRecDepth 20000 in
theorem gX10_least_X10_suffixInHand : GoodIn wsX10_least (wsV RX10 178 RX10 yX10_suffixInHand wsX10_suffixInHand) := goodIn_app (goodIn_of _ (by decide +kernel)) ggX10_least_X10_suffixInHand
set_option maxRecDepth 20000 in
theorem ggX10_least_X10_letterAt : GoodIn wsX10_least wsX10_letterAt := goodIn_r _ [9] (by decide +kernel) (by decide +kernel)
set_option maxRecDepth 20000 in
theorem gX10_least_X10_letterAt : GoodIn wsX10_least (va_wsS RX10 169 yX10_letterAt wsX10_letterAt) := goodIn_app (goodIn_of _ (by decide +kernel)) ggX10_least_X10_letterAt
theorem dX10_least_0 : decode cX10_least 0 = .ok (.iload_n 1, 1) := by decide +kernel
theorem dX10_least_1 : decode cX10_least 1 = .ok (.ldc 173, 2) := by decide +kernel
theorem dX10_least_3 : decode cX10_least 3 = .ok (.idiv, 1) := by decide +kernel
theorem dX10_least_4 : decode cX10_least 4 = .ok (.istore_n 3, 1) := by decide +kernel
theorem dX10_least_5 : decode cX10_least 5 = .ok (.iload_n 1, 1) := by decide +kernel
theorem dX10_least_6 : decode cX10_least 6 = .ok (.ldc 173, 2) := by decide +kernel
theorem dX10_least_8 : decode cX10_least 8 = .ok (.irem, 1) := by decide +kernel
theorem dX10_least_9 : decode cX10_least 9 = .ok (.invokestatic 174, 3) := by decide +kernel
theorem dX10_least_12 : decode cX10_least 12 = .ok (.istore 4, 2) := by decide +kernel
theorem dX10_least_14 : decode cX10_least 14 = .ok (.iconst 0, 1) := by decide +kernel
theorem dX10_least_15 : decode cX10_least 15 = .ok (.istore 5, 2) := by decide +kernel
theorem dX10_least_17 : decode cX10_least 17 = .ok (.iload 5, 2) := by decide +kernel
theorem dX10_least_19 : decode cX10_least 19 = .ok (.iconst 4, 1) := by decide +kernel
theorem dX10_least_20 : decode cX10_least 20 = .ok (.if_icmp .ge 27, 3) := by decide +kernel
theorem dX10_least_23 : decode cX10_least 23 = .ok (.aload_n 0, 1) := by decide +kernel
theorem dX10_least_24 : decode cX10_least 24 = .ok (.getfield 68, 3) := by decide +kernel
theorem dX10_least_27 : decode cX10_least 27 = .ok (.iload 5, 2) := by decide +kernel
theorem dX10_least_29 : decode cX10_least 29 = .ok (.iload 5, 2) := by decide +kernel
theorem dX10_least_31 : decode cX10_least 31 = .ok (.iload_n 2, 1) := by decide +kernel
theorem dX10_least_32 : decode cX10_least 32 = .ok (.if_icmp .ge 7, 3) := by decide +kernel
theorem dX10_least_35 : decode cX10_least 35 = .ok (.iconst 1, 1) := by decide +kernel
theorem dX10_least_36 : decode cX10_least 36 = .ok (.goto 4, 3) := by decide +kernel
theorem dX10_least_39 : decode cX10_least 39 = .ok (.iconst 0, 1) := by decide +kernel
theorem dX10_least_40 : decode cX10_least 40 = .ok (.iastore, 1) := by decide +kernel
theorem dX10_least_41 : decode cX10_least 41 = .ok (.iinc 5 1, 3) := by decide +kernel
theorem dX10_least_44 : decode cX10_least 44 = .ok (.goto (-27), 3) := by decide +kernel
theorem dX10_least_47 : decode cX10_least 47 = .ok (.iload_n 1, 1) := by decide +kernel
theorem dX10_least_48 : decode cX10_least 48 = .ok (.ifCond .ne 11, 3) := by decide +kernel
theorem dX10_least_51 : decode cX10_least 51 = .ok (.ldc 173, 2) := by decide +kernel
theorem dX10_least_53 : decode cX10_least 53 = .ok (.aload_n 0, 1) := by decide +kernel
theorem dX10_least_54 : decode cX10_least 54 = .ok (.invokevirtual 178, 3) := by decide +kernel
theorem dX10_least_57 : decode cX10_least 57 = .ok (.iadd, 1) := by decide +kernel
theorem dX10_least_58 : decode cX10_least 58 = .ok (.ireturn, 1) := by decide +kernel
theorem dX10_least_59 : decode cX10_least 59 = .ok (.iconst (-1), 1) := by decide +kernel
theorem dX10_least_60 : decode cX10_least 60 = .ok (.istore 5, 2) := by decide +kernel
theorem dX10_least_62 : decode cX10_least 62 = .ok (.iload_n 2, 1) := by decide +kernel
theorem dX10_least_63 : decode cX10_least 63 = .ok (.iload 4, 2) := by decide +kernel
theorem dX10_least_65 : decode cX10_least 65 = .ok (.if_icmp .gt 41, 3) := by decide +kernel
theorem dX10_least_68 : decode cX10_least 68 = .ok (.iconst 0, 1) := by decide +kernel
theorem dX10_least_69 : decode cX10_least 69 = .ok (.istore 6, 2) := by decide +kernel
theorem dX10_least_71 : decode cX10_least 71 = .ok (.iload 6, 2) := by decide +kernel
theorem dX10_least_73 : decode cX10_least 73 = .ok (.iload_n 2, 1) := by decide +kernel
theorem dX10_least_74 : decode cX10_least 74 = .ok (.if_icmp .ge 32, 3) := by decide +kernel
theorem dX10_least_77 : decode cX10_least 77 = .ok (.iload_n 1, 1) := by decide +kernel
theorem dX10_least_78 : decode cX10_least 78 = .ok (.ldc 173, 2) := by decide +kernel
theorem dX10_least_80 : decode cX10_least 80 = .ok (.irem, 1) := by decide +kernel
theorem dX10_least_81 : decode cX10_least 81 = .ok (.iload 6, 2) := by decide +kernel
theorem dX10_least_83 : decode cX10_least 83 = .ok (.invokestatic 169, 3) := by decide +kernel
theorem dX10_least_86 : decode cX10_least 86 = .ok (.bipush 26, 2) := by decide +kernel
theorem dX10_least_88 : decode cX10_least 88 = .ok (.if_icmp .ge 8, 3) := by decide +kernel
theorem dX10_least_91 : decode cX10_least 91 = .ok (.iload 6, 2) := by decide +kernel
theorem dX10_least_93 : decode cX10_least 93 = .ok (.goto 5, 3) := by decide +kernel
theorem dX10_least_96 : decode cX10_least 96 = .ok (.iload 5, 2) := by decide +kernel
theorem dX10_least_98 : decode cX10_least 98 = .ok (.istore 5, 2) := by decide +kernel
theorem dX10_least_100 : decode cX10_least 100 = .ok (.iinc 6 1, 3) := by decide +kernel
theorem dX10_least_103 : decode cX10_least 103 = .ok (.goto (-32), 3) := by decide +kernel
theorem dX10_least_106 : decode cX10_least 106 = .ok (.iload_n 2, 1) := by decide +kernel
theorem dX10_least_107 : decode cX10_least 107 = .ok (.iload 4, 2) := by decide +kernel
theorem dX10_least_109 : decode cX10_least 109 = .ok (.if_icmp .le 7, 3) := by decide +kernel
theorem dX10_least_112 : decode cX10_least 112 = .ok (.iload 4, 2) := by decide +kernel
theorem dX10_least_114 : decode cX10_least 114 = .ok (.istore 5, 2) := by decide +kernel
theorem dX10_least_116 : decode cX10_least 116 = .ok (.iload 5, 2) := by decide +kernel
theorem dX10_least_118 : decode cX10_least 118 = .ok (.ifCond .lt 73, 3) := by decide +kernel
theorem dX10_least_121 : decode cX10_least 121 = .ok (.iconst 0, 1) := by decide +kernel
theorem dX10_least_122 : decode cX10_least 122 = .ok (.istore 6, 2) := by decide +kernel
theorem dX10_least_124 : decode cX10_least 124 = .ok (.iload 6, 2) := by decide +kernel
theorem dX10_least_126 : decode cX10_least 126 = .ok (.iload 5, 2) := by decide +kernel
theorem dX10_least_128 : decode cX10_least 128 = .ok (.if_icmp .ge 25, 3) := by decide +kernel
theorem dX10_least_131 : decode cX10_least 131 = .ok (.aload_n 0, 1) := by decide +kernel
theorem dX10_least_132 : decode cX10_least 132 = .ok (.getfield 68, 3) := by decide +kernel
theorem dX10_least_135 : decode cX10_least 135 = .ok (.iload 6, 2) := by decide +kernel
theorem dX10_least_137 : decode cX10_least 137 = .ok (.iload_n 1, 1) := by decide +kernel
theorem dX10_least_138 : decode cX10_least 138 = .ok (.ldc 173, 2) := by decide +kernel
theorem dX10_least_140 : decode cX10_least 140 = .ok (.irem, 1) := by decide +kernel
theorem dX10_least_141 : decode cX10_least 141 = .ok (.iload 6, 2) := by decide +kernel
theorem dX10_least_143 : decode cX10_least 143 = .ok (.invokestatic 169, 3) := by decide +kernel
theorem dX10_least_146 : decode cX10_least 146 = .ok (.iastore, 1) := by decide +kernel
theorem dX10_least_147 : decode cX10_least 147 = .ok (.iinc 6 1, 3) := by decide +kernel
theorem dX10_least_150 : decode cX10_least 150 = .ok (.goto (-26), 3) := by decide +kernel
theorem dX10_least_153 : decode cX10_least 153 = .ok (.aload_n 0, 1) := by decide +kernel
theorem dX10_least_154 : decode cX10_least 154 = .ok (.getfield 68, 3) := by decide +kernel
theorem dX10_least_157 : decode cX10_least 157 = .ok (.iload 5, 2) := by decide +kernel
theorem dX10_least_159 : decode cX10_least 159 = .ok (.iload_n 2, 1) := by decide +kernel
theorem dX10_least_160 : decode cX10_least 160 = .ok (.iload 4, 2) := by decide +kernel
theorem dX10_least_162 : decode cX10_least 162 = .ok (.if_icmp .le 7, 3) := by decide +kernel
theorem dX10_least_165 : decode cX10_least 165 = .ok (.iconst 1, 1) := by decide +kernel
theorem dX10_least_166 : decode cX10_least 166 = .ok (.goto 14, 3) := by decide +kernel
theorem dX10_least_169 : decode cX10_least 169 = .ok (.iload_n 1, 1) := by decide +kernel
theorem dX10_least_170 : decode cX10_least 170 = .ok (.ldc 173, 2) := by decide +kernel
theorem dX10_least_172 : decode cX10_least 172 = .ok (.irem, 1) := by decide +kernel
theorem dX10_least_173 : decode cX10_least 173 = .ok (.iload 5, 2) := by decide +kernel
theorem dX10_least_175 : decode cX10_least 175 = .ok (.invokestatic 169, 3) := by decide +kernel
theorem dX10_least_178 : decode cX10_least 178 = .ok (.iconst 1, 1) := by decide +kernel
theorem dX10_least_179 : decode cX10_least 179 = .ok (.iadd, 1) := by decide +kernel
theorem dX10_least_180 : decode cX10_least 180 = .ok (.iastore, 1) := by decide +kernel
theorem dX10_least_181 : decode cX10_least 181 = .ok (.iload_n 3, 1) := by decide +kernel
theorem dX10_least_182 : decode cX10_least 182 = .ok (.ldc 173, 2) := by decide +kernel
theorem dX10_least_184 : decode cX10_least 184 = .ok (.imul, 1) := by decide +kernel
theorem dX10_least_185 : decode cX10_least 185 = .ok (.aload_n 0, 1) := by decide +kernel
theorem dX10_least_186 : decode cX10_least 186 = .ok (.invokevirtual 178, 3) := by decide +kernel
theorem dX10_least_189 : decode cX10_least 189 = .ok (.iadd, 1) := by decide +kernel
theorem dX10_least_190 : decode cX10_least 190 = .ok (.ireturn, 1) := by decide +kernel
theorem dX10_least_191 : decode cX10_least 191 = .ok (.iload_n 3, 1) := by decide +kernel
theorem dX10_least_192 : decode cX10_least 192 = .ok (.sipush 999, 3) := by decide +kernel
theorem dX10_least_195 : decode cX10_least 195 = .ok (.if_icmp .ne 7, 3) := by decide +kernel
theorem dX10_least_198 : decode cX10_least 198 = .ok (.iconst 0, 1) := by decide +kernel
theorem dX10_least_199 : decode cX10_least 199 = .ok (.goto 14, 3) := by decide +kernel
theorem dX10_least_202 : decode cX10_least 202 = .ok (.iload_n 3, 1) := by decide +kernel
theorem dX10_least_203 : decode cX10_least 203 = .ok (.iconst 1, 1) := by decide +kernel
theorem dX10_least_204 : decode cX10_least 204 = .ok (.iadd, 1) := by decide +kernel
theorem dX10_least_205 : decode cX10_least 205 = .ok (.ldc 173, 2) := by decide +kernel
theorem dX10_least_207 : decode cX10_least 207 = .ok (.imul, 1) := by decide +kernel
theorem dX10_least_208 : decode cX10_least 208 = .ok (.aload_n 0, 1) := by decide +kernel
theorem dX10_least_209 : decode cX10_least 209 = .ok (.invokevirtual 178, 3) := by decide +kernel
theorem dX10_least_212 : decode cX10_least 212 = .ok (.iadd, 1) := by decide +kernel
theorem dX10_least_213 : decode cX10_least 213 = .ok (.ireturn, 1) := by decide +kernel
set_option maxRecDepth 20000 in
theorem ggX10_add_X10_isItem : GoodIn wsX10_add wsX10_isItem := goodIn_r _ [15, 2, 64, 65, 66, 67, 68, 69, 70, 71, 72, 73, 74, 75, 76, 77, 78, 79, 80, 81, 82, 83, 84, 85, 86, 87, 88, 89, 90, 91, 92, 93, 94, 95, 96, 97, 98, 99, 100, 101, 102, 103, 104, 105] (by decide +kernel) (by decide +kernel)
set_option maxRecDepth 20000 in
theorem gX10_add_X10_isItem : GoodIn wsX10_add (wsV RX10 181 RX10 yX10_isItem wsX10_isItem) := goodIn_app (goodIn_of _ (by decide +kernel)) ggX10_add_X10_isItem
set_option maxRecDepth 20000 in
theorem ggX10_add_X10_placeOf : GoodIn wsX10_add wsX10_placeOf := goodIn_r _ [19, 6, 64, 65, 66, 67, 68, 69, 70, 71, 72, 73, 74, 75, 76, 77, 78, 79, 80, 81, 82, 83, 84, 85, 86, 87, 88, 89, 90, 91, 92, 93, 94, 95, 96, 97, 98, 99, 100, 101, 102, 103, 104, 105] (by decide +kernel) (by decide +kernel)
set_option maxRecDepth 20000 in
theorem gX10_add_X10_placeOf : GoodIn wsX10_add (wsV RX10 184 RX10 yX10_placeOf wsX10_placeOf) := goodIn_app (goodIn_of _ (by decide +kernel)) ggX10_add_X10_placeOf
set_option maxRecDepth 20000 in
theorem ggX10_add_X10_isUnder : GoodIn wsX10_add wsX10_isUnder := goodIn_r _ [23, 5, 64, 65, 66, 67, 68, 69, 70, 71, 72, 73, 74, 75, 76, 77, 78, 79, 80, 81, 82, 83, 84, 85, 86, 87, 88, 89, 90, 91, 92, 93, 94, 95, 96, 97, 98, 99, 100, 101, 102, 103, 104, 105] (by decide +kernel) (by decide +kernel)
set_option maxRecDepth 20000 in
theorem gX10_add_X10_isUnder : GoodIn wsX10_add (wsV RX10 187 RX10 yX10_isUnder wsX10_isUnder) := goodIn_app (goodIn_of _ (by decide +kernel)) ggX10_add_X10_isUnder
set_option maxRecDepth 20000 in
theorem ggX10_add_X10_isInRow : GoodIn wsX10_add wsX10_isInRow := goodIn_r _ [27, 3, 28, 5, 64, 65, 66, 67, 68, 69, 70, 71, 72, 73, 74, 75, 76, 77, 78, 79, 80, 81, 82, 83, 84, 85, 86, 87, 88, 89, 90, 91, 92, 93, 94, 95, 96, 97, 98, 99, 100, 101, 102, 103, 104, 105] (by decide +kernel) (by decide +kernel)
set_option maxRecDepth 20000 in
theorem gX10_add_X10_isInRow : GoodIn wsX10_add (wsV RX10 190 RX10 yX10_isInRow wsX10_isInRow) := goodIn_app (goodIn_of _ (by decide +kernel)) ggX10_add_X10_isInRow
set_option maxRecDepth 20000 in
theorem ggX10_add_X10_labelOf : GoodIn wsX10_add wsX10_labelOf := goodIn_r _ [32, 33, 34, 35, 36, 64, 65, 66, 67, 68, 69, 70, 71, 72, 73, 74, 75, 76, 77, 78, 79, 80, 81, 82, 83, 84, 85, 86, 87, 88, 89, 90, 91, 92, 93, 94, 95, 96, 97, 98, 99, 100, 101, 102, 103, 104, 105] (by decide +kernel) (by decide +kernel)
set_option maxRecDepth 20000 in
theorem gX10_add_X10_labelOf : GoodIn wsX10_add (wsV RX10 193 RX10 yX10_labelOf wsX10_labelOf) := goodIn_app (goodIn_of _ (by decide +kernel)) ggX10_add_X10_labelOf
set_option maxRecDepth 20000 in
theorem ggX10_add_X10_least : GoodIn wsX10_add wsX10_least := goodIn_r _ [40, 8, 41, 42, 43, 14, 44, 45, 46, 47, 48, 49, 50, 51, 64, 65, 66, 67, 68, 69, 70, 71, 72, 73, 74, 75, 76, 77, 78, 79, 80, 81, 82, 83, 84, 85, 86, 87, 88, 89, 90, 91, 92, 93, 94, 95, 96, 97, 98, 99, 100, 101, 102, 103, 104, 105] (by decide +kernel) (by decide +kernel)
set_option maxRecDepth 20000 in
theorem gX10_add_X10_least : GoodIn wsX10_add (wsV RX10 196 RX10 yX10_least wsX10_least) := goodIn_app (goodIn_of _ (by decide +kernel)) ggX10_add_X10_least
set_option maxRecDepth 20000 in
theorem ggX10_add_X10_act : GoodIn wsX10_add wsX10_act := goodIn_r _ [55, 56, 57, 58, 59, 33, 64, 65, 66, 67, 68, 69, 70, 71, 72, 73, 74, 75, 76, 77, 78, 79, 80, 81, 82, 83, 84, 85, 86, 87, 88, 89, 90, 91, 92, 93, 94, 95, 96, 97, 98, 99, 100, 101, 102, 103, 104, 105] (by decide +kernel) (by decide +kernel)
set_option maxRecDepth 20000 in
theorem gX10_add_X10_act : GoodIn wsX10_add (wsV RX10 199 RX10 yX10_act wsX10_act) := goodIn_app (goodIn_of _ (by decide +kernel)) ggX10_add_X10_act
set_option maxRecDepth 20000 in
theorem ggX10_add_X10_change : GoodIn wsX10_add wsX10_change := goodIn_r _ [63, 34, 33, 35, 7, 36, 64, 65, 66, 67, 68, 69, 70, 71, 72, 73, 74, 75, 76, 77, 78, 79, 80, 81, 82, 83, 84, 85, 86, 87, 88, 89, 90, 91, 92, 93, 94, 95, 96, 97, 98, 99, 100, 101, 102, 103, 104, 105] (by decide +kernel) (by decide +kernel)
set_option maxRecDepth 20000 in
theorem gX10_add_X10_change : GoodIn wsX10_add (wsV RX10 203 RX10 yX10_change wsX10_change) := goodIn_app (goodIn_of _ (by decide +kernel)) ggX10_add_X10_change
theorem dX10_add_0 : decode cX10_add 0 = .ok (.aload_n 0, 1) := by decide +kernel
theorem dX10_add_1 : decode cX10_add 1 = .ok (.iconst 0, 1) := by decide +kernel
theorem dX10_add_2 : decode cX10_add 2 = .ok (.putfield 86, 3) := by decide +kernel
theorem dX10_add_5 : decode cX10_add 5 = .ok (.aload_n 0, 1) := by decide +kernel
theorem dX10_add_6 : decode cX10_add 6 = .ok (.getfield 157, 3) := by decide +kernel
theorem dX10_add_9 : decode cX10_add 9 = .ok (.bipush 80, 2) := by decide +kernel
theorem dX10_add_11 : decode cX10_add 11 = .ok (.if_icmp .eq 54, 3) := by decide +kernel
theorem dX10_add_14 : decode cX10_add 14 = .ok (.iload_n 1, 1) := by decide +kernel
theorem dX10_add_15 : decode cX10_add 15 = .ok (.iconst (-1), 1) := by decide +kernel
theorem dX10_add_16 : decode cX10_add 16 = .ok (.if_icmp .eq 26, 3) := by decide +kernel
theorem dX10_add_19 : decode cX10_add 19 = .ok (.aload_n 0, 1) := by decide +kernel
theorem dX10_add_20 : decode cX10_add 20 = .ok (.iload_n 1, 1) := by decide +kernel
theorem dX10_add_21 : decode cX10_add 21 = .ok (.invokevirtual 181, 3) := by decide +kernel
theorem dX10_add_24 : decode cX10_add 24 = .ok (.ifCond .eq 41, 3) := by decide +kernel
theorem dX10_add_27 : decode cX10_add 27 = .ok (.aload_n 0, 1) := by decide +kernel
theorem dX10_add_28 : decode cX10_add 28 = .ok (.getfield 34, 3) := by decide +kernel
theorem dX10_add_31 : decode cX10_add 31 = .ok (.iload_n 1, 1) := by decide +kernel
theorem dX10_add_32 : decode cX10_add 32 = .ok (.iaload, 1) := by decide +kernel
theorem dX10_add_33 : decode cX10_add 33 = .ok (.aload_n 0, 1) := by decide +kernel
theorem dX10_add_34 : decode cX10_add 34 = .ok (.getfield 27, 3) := by decide +kernel
theorem dX10_add_37 : decode cX10_add 37 = .ok (.iconst 1, 1) := by decide +kernel
theorem dX10_add_38 : decode cX10_add 38 = .ok (.isub, 1) := by decide +kernel
theorem dX10_add_39 : decode cX10_add 39 = .ok (.if_icmp .eq 26, 3) := by decide +kernel
theorem dX10_add_42 : decode cX10_add 42 = .ok (.iload_n 2, 1) := by decide +kernel
theorem dX10_add_43 : decode cX10_add 43 = .ok (.iconst (-1), 1) := by decide +kernel
theorem dX10_add_44 : decode cX10_add 44 = .ok (.if_icmp .eq 23, 3) := by decide +kernel
theorem dX10_add_47 : decode cX10_add 47 = .ok (.aload_n 0, 1) := by decide +kernel
theorem dX10_add_48 : decode cX10_add 48 = .ok (.iload_n 2, 1) := by decide +kernel
theorem dX10_add_49 : decode cX10_add 49 = .ok (.invokevirtual 181, 3) := by decide +kernel
theorem dX10_add_52 : decode cX10_add 52 = .ok (.ifCond .eq 13, 3) := by decide +kernel
theorem dX10_add_55 : decode cX10_add 55 = .ok (.aload_n 0, 1) := by decide +kernel
theorem dX10_add_56 : decode cX10_add 56 = .ok (.getfield 37, 3) := by decide +kernel
theorem dX10_add_59 : decode cX10_add 59 = .ok (.iload_n 2, 1) := by decide +kernel
theorem dX10_add_60 : decode cX10_add 60 = .ok (.iaload, 1) := by decide +kernel
theorem dX10_add_61 : decode cX10_add 61 = .ok (.iload_n 1, 1) := by decide +kernel
theorem dX10_add_62 : decode cX10_add 62 = .ok (.if_icmp .eq 5, 3) := by decide +kernel
theorem dX10_add_65 : decode cX10_add 65 = .ok (.iconst (-1), 1) := by decide +kernel
theorem dX10_add_66 : decode cX10_add 66 = .ok (.ireturn, 1) := by decide +kernel
theorem dX10_add_67 : decode cX10_add 67 = .ok (.aload_n 0, 1) := by decide +kernel
theorem dX10_add_68 : decode cX10_add 68 = .ok (.getfield 157, 3) := by decide +kernel
theorem dX10_add_71 : decode cX10_add 71 = .ok (.istore_n 3, 1) := by decide +kernel
theorem dX10_add_72 : decode cX10_add 72 = .ok (.aload_n 0, 1) := by decide +kernel
theorem dX10_add_73 : decode cX10_add 73 = .ok (.getfield 34, 3) := by decide +kernel
theorem dX10_add_76 : decode cX10_add 76 = .ok (.iload_n 3, 1) := by decide +kernel
theorem dX10_add_77 : decode cX10_add 77 = .ok (.iload_n 1, 1) := by decide +kernel
theorem dX10_add_78 : decode cX10_add 78 = .ok (.iconst (-1), 1) := by decide +kernel
theorem dX10_add_79 : decode cX10_add 79 = .ok (.if_icmp .ne 7, 3) := by decide +kernel
theorem dX10_add_82 : decode cX10_add 82 = .ok (.iconst 0, 1) := by decide +kernel
theorem dX10_add_83 : decode cX10_add 83 = .ok (.goto 11, 3) := by decide +kernel
theorem dX10_add_86 : decode cX10_add 86 = .ok (.aload_n 0, 1) := by decide +kernel
theorem dX10_add_87 : decode cX10_add 87 = .ok (.getfield 34, 3) := by decide +kernel
theorem dX10_add_90 : decode cX10_add 90 = .ok (.iload_n 1, 1) := by decide +kernel
theorem dX10_add_91 : decode cX10_add 91 = .ok (.iaload, 1) := by decide +kernel
theorem dX10_add_92 : decode cX10_add 92 = .ok (.iconst 1, 1) := by decide +kernel
theorem dX10_add_93 : decode cX10_add 93 = .ok (.iadd, 1) := by decide +kernel
theorem dX10_add_94 : decode cX10_add 94 = .ok (.iastore, 1) := by decide +kernel
theorem dX10_add_95 : decode cX10_add 95 = .ok (.aload_n 0, 1) := by decide +kernel
theorem dX10_add_96 : decode cX10_add 96 = .ok (.getfield 37, 3) := by decide +kernel
theorem dX10_add_99 : decode cX10_add 99 = .ok (.iload_n 3, 1) := by decide +kernel
theorem dX10_add_100 : decode cX10_add 100 = .ok (.iload_n 1, 1) := by decide +kernel
theorem dX10_add_101 : decode cX10_add 101 = .ok (.iastore, 1) := by decide +kernel
theorem dX10_add_102 : decode cX10_add 102 = .ok (.iload_n 1, 1) := by decide +kernel
theorem dX10_add_103 : decode cX10_add 103 = .ok (.iconst (-1), 1) := by decide +kernel
theorem dX10_add_104 : decode cX10_add 104 = .ok (.if_icmp .ne 7, 3) := by decide +kernel
theorem dX10_add_107 : decode cX10_add 107 = .ok (.iconst 0, 1) := by decide +kernel
theorem dX10_add_108 : decode cX10_add 108 = .ok (.goto 10, 3) := by decide +kernel
theorem dX10_add_111 : decode cX10_add 111 = .ok (.aload_n 0, 1) := by decide +kernel
theorem dX10_add_112 : decode cX10_add 112 = .ok (.iload_n 1, 1) := by decide +kernel
theorem dX10_add_113 : decode cX10_add 113 = .ok (.invokevirtual 184, 3) := by decide +kernel
theorem dX10_add_116 : decode cX10_add 116 = .ok (.iconst 1, 1) := by decide +kernel
theorem dX10_add_117 : decode cX10_add 117 = .ok (.iadd, 1) := by decide +kernel
theorem dX10_add_118 : decode cX10_add 118 = .ok (.istore 4, 2) := by decide +kernel
theorem dX10_add_120 : decode cX10_add 120 = .ok (.iload_n 2, 1) := by decide +kernel
theorem dX10_add_121 : decode cX10_add 121 = .ok (.iconst (-1), 1) := by decide +kernel
theorem dX10_add_122 : decode cX10_add 122 = .ok (.if_icmp .eq 42, 3) := by decide +kernel
theorem dX10_add_125 : decode cX10_add 125 = .ok (.aload_n 0, 1) := by decide +kernel
theorem dX10_add_126 : decode cX10_add 126 = .ok (.iload_n 2, 1) := by decide +kernel
theorem dX10_add_127 : decode cX10_add 127 = .ok (.invokevirtual 184, 3) := by decide +kernel
theorem dX10_add_130 : decode cX10_add 130 = .ok (.iconst 1, 1) := by decide +kernel
theorem dX10_add_131 : decode cX10_add 131 = .ok (.iadd, 1) := by decide +kernel
theorem dX10_add_132 : decode cX10_add 132 = .ok (.istore 4, 2) := by decide +kernel
theorem dX10_add_134 : decode cX10_add 134 = .ok (.iload 4, 2) := by decide +kernel
theorem dX10_add_136 : decode cX10_add 136 = .ok (.aload_n 0, 1) := by decide +kernel
theorem dX10_add_137 : decode cX10_add 137 = .ok (.getfield 157, 3) := by decide +kernel
theorem dX10_add_140 : decode cX10_add 140 = .ok (.if_icmp .ge 24, 3) := by decide +kernel
theorem dX10_add_143 : decode cX10_add 143 = .ok (.aload_n 0, 1) := by decide +kernel
theorem dX10_add_144 : decode cX10_add 144 = .ok (.aload_n 0, 1) := by decide +kernel
theorem dX10_add_145 : decode cX10_add 145 = .ok (.getfield 43, 3) := by decide +kernel
theorem dX10_add_148 : decode cX10_add 148 = .ok (.iload 4, 2) := by decide +kernel
theorem dX10_add_150 : decode cX10_add 150 = .ok (.iaload, 1) := by decide +kernel
theorem dX10_add_151 : decode cX10_add 151 = .ok (.iload_n 2, 1) := by decide +kernel
theorem dX10_add_152 : decode cX10_add 152 = .ok (.invokevirtual 187, 3) := by decide +kernel
theorem dX10_add_155 : decode cX10_add 155 = .ok (.ifCond .eq 9, 3) := by decide +kernel
theorem dX10_add_158 : decode cX10_add 158 = .ok (.iinc 4 1, 3) := by decide +kernel
theorem dX10_add_161 : decode cX10_add 161 = .ok (.goto (-27), 3) := by decide +kernel
theorem dX10_add_164 : decode cX10_add 164 = .ok (.iconst 0, 1) := by decide +kernel
theorem dX10_add_165 : decode cX10_add 165 = .ok (.istore 5, 2) := by decide +kernel
theorem dX10_add_167 : decode cX10_add 167 = .ok (.iconst 0, 1) := by decide +kernel
theorem dX10_add_168 : decode cX10_add 168 = .ok (.istore 6, 2) := by decide +kernel
theorem dX10_add_170 : decode cX10_add 170 = .ok (.iconst 0, 1) := by decide +kernel
theorem dX10_add_171 : decode cX10_add 171 = .ok (.istore 7, 2) := by decide +kernel
theorem dX10_add_173 : decode cX10_add 173 = .ok (.iload 7, 2) := by decide +kernel
theorem dX10_add_175 : decode cX10_add 175 = .ok (.aload_n 0, 1) := by decide +kernel
theorem dX10_add_176 : decode cX10_add 176 = .ok (.getfield 157, 3) := by decide +kernel
theorem dX10_add_179 : decode cX10_add 179 = .ok (.if_icmp .ge 75, 3) := by decide +kernel
theorem dX10_add_182 : decode cX10_add 182 = .ok (.aload_n 0, 1) := by decide +kernel
theorem dX10_add_183 : decode cX10_add 183 = .ok (.aload_n 0, 1) := by decide +kernel
theorem dX10_add_184 : decode cX10_add 184 = .ok (.getfield 43, 3) := by decide +kernel
theorem dX10_add_187 : decode cX10_add 187 = .ok (.iload 7, 2) := by decide +kernel
theorem dX10_add_189 : decode cX10_add 189 = .ok (.iaload, 1) := by decide +kernel
theorem dX10_add_190 : decode cX10_add 190 = .ok (.iload_n 3, 1) := by decide +kernel
theorem dX10_add_191 : decode cX10_add 191 = .ok (.invokevirtual 190, 3) := by decide +kernel
theorem dX10_add_194 : decode cX10_add 194 = .ok (.ifCond .ne 6, 3) := by decide +kernel
theorem dX10_add_197 : decode cX10_add 197 = .ok (.goto 51, 3) := by decide +kernel
theorem dX10_add_200 : decode cX10_add 200 = .ok (.aload_n 0, 1) := by decide +kernel
theorem dX10_add_201 : decode cX10_add 201 = .ok (.aload_n 0, 1) := by decide +kernel
theorem dX10_add_202 : decode cX10_add 202 = .ok (.getfield 43, 3) := by decide +kernel
theorem dX10_add_205 : decode cX10_add 205 = .ok (.iload 7, 2) := by decide +kernel
theorem dX10_add_207 : decode cX10_add 207 = .ok (.iaload, 1) := by decide +kernel
theorem dX10_add_208 : decode cX10_add 208 = .ok (.aload_n 0, 1) := by decide +kernel
theorem dX10_add_209 : decode cX10_add 209 = .ok (.getfield 166, 3) := by decide +kernel
theorem dX10_add_212 : decode cX10_add 212 = .ok (.invokevirtual 193, 3) := by decide +kernel
theorem dX10_add_215 : decode cX10_add 215 = .ok (.istore 8, 2) := by decide +kernel
theorem dX10_add_217 : decode cX10_add 217 = .ok (.iload 8, 2) := by decide +kernel
theorem dX10_add_219 : decode cX10_add 219 = .ok (.ifCond .ne 6, 3) := by decide +kernel
theorem dX10_add_222 : decode cX10_add 222 = .ok (.goto 26, 3) := by decide +kernel
theorem dX10_add_225 : decode cX10_add 225 = .ok (.iload 7, 2) := by decide +kernel
theorem dX10_add_227 : decode cX10_add 227 = .ok (.iload 4, 2) := by decide +kernel
theorem dX10_add_229 : decode cX10_add 229 = .ok (.if_icmp .ge 10, 3) := by decide +kernel
theorem dX10_add_232 : decode cX10_add 232 = .ok (.iload 8, 2) := by decide +kernel
theorem dX10_add_234 : decode cX10_add 234 = .ok (.istore 5, 2) := by decide +kernel
theorem dX10_add_236 : decode cX10_add 236 = .ok (.goto 12, 3) := by decide +kernel
theorem dX10_add_239 : decode cX10_add 239 = .ok (.iload 6, 2) := by decide +kernel
theorem dX10_add_241 : decode cX10_add 241 = .ok (.ifCond .ne 7, 3) := by decide +kernel
theorem dX10_add_244 : decode cX10_add 244 = .ok (.iload 8, 2) := by decide +kernel
theorem dX10_add_246 : decode cX10_add 246 = .ok (.istore 6, 2) := by decide +kernel
theorem dX10_add_248 : decode cX10_add 248 = .ok (.iinc 7 1, 3) := by decide +kernel
theorem dX10_add_251 : decode cX10_add 251 = .ok (.goto (-78), 3) := by decide +kernel
theorem dX10_add_254 : decode cX10_add 254 = .ok (.iconst 0, 1) := by decide +kernel
theorem dX10_add_255 : decode cX10_add 255 = .ok (.istore 7, 2) := by decide +kernel
theorem dX10_add_257 : decode cX10_add 257 = .ok (.iload 6, 2) := by decide +kernel
theorem dX10_add_259 : decode cX10_add 259 = .ok (.ifCond .ne 33, 3) := by decide +kernel
theorem dX10_add_262 : decode cX10_add 262 = .ok (.iload 5, 2) := by decide +kernel
theorem dX10_add_264 : decode cX10_add 264 = .ok (.ldc 173, 2) := by decide +kernel
theorem dX10_add_266 : decode cX10_add 266 = .ok (.idiv, 1) := by decide +kernel
theorem dX10_add_267 : decode cX10_add 267 = .ok (.sipush 999, 3) := by decide +kernel
theorem dX10_add_270 : decode cX10_add 270 = .ok (.if_icmp .ne 7, 3) := by decide +kernel
theorem dX10_add_273 : decode cX10_add 273 = .ok (.iconst 0, 1) := by decide +kernel
theorem dX10_add_274 : decode cX10_add 274 = .ok (.goto 13, 3) := by decide +kernel
theorem dX10_add_277 : decode cX10_add 277 = .ok (.iload 5, 2) := by decide +kernel
theorem dX10_add_279 : decode cX10_add 279 = .ok (.ldc 173, 2) := by decide +kernel
theorem dX10_add_281 : decode cX10_add 281 = .ok (.idiv, 1) := by decide +kernel
theorem dX10_add_282 : decode cX10_add 282 = .ok (.iconst 1, 1) := by decide +kernel
theorem dX10_add_283 : decode cX10_add 283 = .ok (.iadd, 1) := by decide +kernel
theorem dX10_add_284 : decode cX10_add 284 = .ok (.ldc 173, 2) := by decide +kernel
theorem dX10_add_286 : decode cX10_add 286 = .ok (.imul, 1) := by decide +kernel
theorem dX10_add_287 : decode cX10_add 287 = .ok (.istore 7, 2) := by decide +kernel
theorem dX10_add_289 : decode cX10_add 289 = .ok (.goto 43, 3) := by decide +kernel
theorem dX10_add_292 : decode cX10_add 292 = .ok (.iconst 0, 1) := by decide +kernel
theorem dX10_add_293 : decode cX10_add 293 = .ok (.istore 8, 2) := by decide +kernel
theorem dX10_add_295 : decode cX10_add 295 = .ok (.iload 8, 2) := by decide +kernel
theorem dX10_add_297 : decode cX10_add 297 = .ok (.iconst 5, 1) := by decide +kernel
theorem dX10_add_298 : decode cX10_add 298 = .ok (.if_icmp .ge 34, 3) := by decide +kernel
theorem dX10_add_301 : decode cX10_add 301 = .ok (.iload 7, 2) := by decide +kernel
theorem dX10_add_303 : decode cX10_add 303 = .ok (.ifCond .ne 29, 3) := by decide +kernel
theorem dX10_add_306 : decode cX10_add 306 = .ok (.aload_n 0, 1) := by decide +kernel
theorem dX10_add_307 : decode cX10_add 307 = .ok (.iload 5, 2) := by decide +kernel
theorem dX10_add_309 : decode cX10_add 309 = .ok (.iload 8, 2) := by decide +kernel
theorem dX10_add_311 : decode cX10_add 311 = .ok (.invokevirtual 196, 3) := by decide +kernel
theorem dX10_add_314 : decode cX10_add 314 = .ok (.istore 7, 2) := by decide +kernel
theorem dX10_add_316 : decode cX10_add 316 = .ok (.iload 7, 2) := by decide +kernel
theorem dX10_add_318 : decode cX10_add 318 = .ok (.iload 6, 2) := by decide +kernel
theorem dX10_add_320 : decode cX10_add 320 = .ok (.if_icmp .lt 6, 3) := by decide +kernel
theorem dX10_add_323 : decode cX10_add 323 = .ok (.iconst 0, 1) := by decide +kernel
theorem dX10_add_324 : decode cX10_add 324 = .ok (.istore 7, 2) := by decide +kernel
theorem dX10_add_326 : decode cX10_add 326 = .ok (.iinc 8 1, 3) := by decide +kernel
theorem dX10_add_329 : decode cX10_add 329 = .ok (.goto (-34), 3) := by decide +kernel
theorem dX10_add_332 : decode cX10_add 332 = .ok (.iload 7, 2) := by decide +kernel
theorem dX10_add_334 : decode cX10_add 334 = .ok (.ifCond .ne 6, 3) := by decide +kernel
theorem dX10_add_337 : decode cX10_add 337 = .ok (.bipush (-2), 2) := by decide +kernel
theorem dX10_add_339 : decode cX10_add 339 = .ok (.ireturn, 1) := by decide +kernel
theorem dX10_add_340 : decode cX10_add 340 = .ok (.aload_n 0, 1) := by decide +kernel
theorem dX10_add_341 : decode cX10_add 341 = .ok (.iconst 0, 1) := by decide +kernel
theorem dX10_add_342 : decode cX10_add 342 = .ok (.iload_n 3, 1) := by decide +kernel
theorem dX10_add_343 : decode cX10_add 343 = .ok (.invokevirtual 199, 3) := by decide +kernel
theorem dX10_add_346 : decode cX10_add 346 = .ok (.aload_n 0, 1) := by decide +kernel
theorem dX10_add_347 : decode cX10_add 347 = .ok (.getfield 157, 3) := by decide +kernel
theorem dX10_add_350 : decode cX10_add 350 = .ok (.istore 8, 2) := by decide +kernel
theorem dX10_add_352 : decode cX10_add 352 = .ok (.iload 8, 2) := by decide +kernel
theorem dX10_add_354 : decode cX10_add 354 = .ok (.iload 4, 2) := by decide +kernel
theorem dX10_add_356 : decode cX10_add 356 = .ok (.if_icmp .le 25, 3) := by decide +kernel
theorem dX10_add_359 : decode cX10_add 359 = .ok (.aload_n 0, 1) := by decide +kernel
theorem dX10_add_360 : decode cX10_add 360 = .ok (.getfield 43, 3) := by decide +kernel
theorem dX10_add_363 : decode cX10_add 363 = .ok (.iload 8, 2) := by decide +kernel
theorem dX10_add_365 : decode cX10_add 365 = .ok (.aload_n 0, 1) := by decide +kernel
theorem dX10_add_366 : decode cX10_add 366 = .ok (.getfield 43, 3) := by decide +kernel
theorem dX10_add_369 : decode cX10_add 369 = .ok (.iload 8, 2) := by decide +kernel
theorem dX10_add_371 : decode cX10_add 371 = .ok (.iconst 1, 1) := by decide +kernel
theorem dX10_add_372 : decode cX10_add 372 = .ok (.isub, 1) := by decide +kernel
theorem dX10_add_373 : decode cX10_add 373 = .ok (.iaload, 1) := by decide +kernel
theorem dX10_add_374 : decode cX10_add 374 = .ok (.iastore, 1) := by decide +kernel
theorem dX10_add_375 : decode cX10_add 375 = .ok (.iinc 8 (-1), 3) := by decide +kernel
theorem dX10_add_378 : decode cX10_add 378 = .ok (.goto (-26), 3) := by decide +kernel
theorem dX10_add_381 : decode cX10_add 381 = .ok (.aload_n 0, 1) := by decide +kernel
theorem dX10_add_382 : decode cX10_add 382 = .ok (.getfield 43, 3) := by decide +kernel
theorem dX10_add_385 : decode cX10_add 385 = .ok (.iload 4, 2) := by decide +kernel
theorem dX10_add_387 : decode cX10_add 387 = .ok (.iload_n 3, 1) := by decide +kernel
theorem dX10_add_388 : decode cX10_add 388 = .ok (.iastore, 1) := by decide +kernel
theorem dX10_add_389 : decode cX10_add 389 = .ok (.aload_n 0, 1) := by decide +kernel
theorem dX10_add_390 : decode cX10_add 390 = .ok (.getfield 46, 3) := by decide +kernel
theorem dX10_add_393 : decode cX10_add 393 = .ok (.iload_n 3, 1) := by decide +kernel
theorem dX10_add_394 : decode cX10_add 394 = .ok (.iconst 0, 1) := by decide +kernel
theorem dX10_add_395 : decode cX10_add 395 = .ok (.bastore, 1) := by decide +kernel
theorem dX10_add_396 : decode cX10_add 396 = .ok (.aload_n 0, 1) := by decide +kernel
theorem dX10_add_397 : decode cX10_add 397 = .ok (.getfield 40, 3) := by decide +kernel
theorem dX10_add_400 : decode cX10_add 400 = .ok (.iload_n 3, 1) := by decide +kernel
theorem dX10_add_401 : decode cX10_add 401 = .ok (.aload_n 0, 1) := by decide +kernel
theorem dX10_add_402 : decode cX10_add 402 = .ok (.getfield 166, 3) := by decide +kernel
theorem dX10_add_405 : decode cX10_add 405 = .ok (.iastore, 1) := by decide +kernel
theorem dX10_add_406 : decode cX10_add 406 = .ok (.aload_n 0, 1) := by decide +kernel
theorem dX10_add_407 : decode cX10_add 407 = .ok (.dup, 1) := by decide +kernel
theorem dX10_add_408 : decode cX10_add 408 = .ok (.getfield 157, 3) := by decide +kernel
theorem dX10_add_411 : decode cX10_add 411 = .ok (.iconst 1, 1) := by decide +kernel
theorem dX10_add_412 : decode cX10_add 412 = .ok (.iadd, 1) := by decide +kernel
theorem dX10_add_413 : decode cX10_add 413 = .ok (.putfield 157, 3) := by decide +kernel
theorem dX10_add_416 : decode cX10_add 416 = .ok (.aload_n 0, 1) := by decide +kernel
theorem dX10_add_417 : decode cX10_add 417 = .ok (.iload_n 3, 1) := by decide +kernel
theorem dX10_add_418 : decode cX10_add 418 = .ok (.iload 7, 2) := by decide +kernel
theorem dX10_add_420 : decode cX10_add 420 = .ok (.invokevirtual 203, 3) := by decide +kernel
theorem dX10_add_423 : decode cX10_add 423 = .ok (.iload_n 3, 1) := by decide +kernel
theorem dX10_add_424 : decode cX10_add 424 = .ok (.ireturn, 1) := by decide +kernel
set_option maxRecDepth 20000 in
theorem ggX10_strike_X10_isItem : GoodIn wsX10_strike wsX10_isItem := goodIn_r _ [7, 8, 18, 19, 20, 21, 22, 23, 24, 25, 26, 27, 28, 29, 30, 31, 32, 33, 34, 35, 36, 37, 38, 39, 40, 41, 42, 43, 44, 45, 46, 47, 48, 49, 50, 51, 52, 53, 54, 55, 56, 57, 58, 59] (by decide +kernel) (by decide +kernel)
set_option maxRecDepth 20000 in
theorem gX10_strike_X10_isItem : GoodIn wsX10_strike (wsV RX10 181 RX10 yX10_isItem wsX10_isItem) := goodIn_app (goodIn_of _ (by decide +kernel)) ggX10_strike_X10_isItem
set_option maxRecDepth 20000 in
theorem ggX10_strike_X10_act : GoodIn wsX10_strike wsX10_act := goodIn_r _ [12, 13, 14, 15, 16, 17, 18, 19, 20, 21, 22, 23, 24, 25, 26, 27, 28, 29, 30, 31, 32, 33, 34, 35, 36, 37, 38, 39, 40, 41, 42, 43, 44, 45, 46, 47, 48, 49, 50, 51, 52, 53, 54, 55, 56, 57, 58, 59] (by decide +kernel) (by decide +kernel)
set_option maxRecDepth 20000 in
theorem gX10_strike_X10_act : GoodIn wsX10_strike (wsV RX10 199 RX10 yX10_act wsX10_act) := goodIn_app (goodIn_of _ (by decide +kernel)) ggX10_strike_X10_act
theorem dX10_strike_0 : decode cX10_strike 0 = .ok (.aload_n 0, 1) := by decide +kernel
theorem dX10_strike_1 : decode cX10_strike 1 = .ok (.iconst 0, 1) := by decide +kernel
theorem dX10_strike_2 : decode cX10_strike 2 = .ok (.putfield 86, 3) := by decide +kernel
theorem dX10_strike_5 : decode cX10_strike 5 = .ok (.aload_n 0, 1) := by decide +kernel
theorem dX10_strike_6 : decode cX10_strike 6 = .ok (.iload_n 1, 1) := by decide +kernel
theorem dX10_strike_7 : decode cX10_strike 7 = .ok (.invokevirtual 181, 3) := by decide +kernel
theorem dX10_strike_10 : decode cX10_strike 10 = .ok (.ifCond .eq 12, 3) := by decide +kernel
theorem dX10_strike_13 : decode cX10_strike 13 = .ok (.aload_n 0, 1) := by decide +kernel
theorem dX10_strike_14 : decode cX10_strike 14 = .ok (.getfield 46, 3) := by decide +kernel
theorem dX10_strike_17 : decode cX10_strike 17 = .ok (.iload_n 1, 1) := by decide +kernel
theorem dX10_strike_18 : decode cX10_strike 18 = .ok (.baload, 1) := by decide +kernel
theorem dX10_strike_19 : decode cX10_strike 19 = .ok (.ifCond .eq 5, 3) := by decide +kernel
theorem dX10_strike_22 : decode cX10_strike 22 = .ok (.iconst 0, 1) := by decide +kernel
theorem dX10_strike_23 : decode cX10_strike 23 = .ok (.ireturn, 1) := by decide +kernel
theorem dX10_strike_24 : decode cX10_strike 24 = .ok (.aload_n 0, 1) := by decide +kernel
theorem dX10_strike_25 : decode cX10_strike 25 = .ok (.iconst 1, 1) := by decide +kernel
theorem dX10_strike_26 : decode cX10_strike 26 = .ok (.iload_n 1, 1) := by decide +kernel
theorem dX10_strike_27 : decode cX10_strike 27 = .ok (.invokevirtual 199, 3) := by decide +kernel
theorem dX10_strike_30 : decode cX10_strike 30 = .ok (.aload_n 0, 1) := by decide +kernel
theorem dX10_strike_31 : decode cX10_strike 31 = .ok (.getfield 46, 3) := by decide +kernel
theorem dX10_strike_34 : decode cX10_strike 34 = .ok (.iload_n 1, 1) := by decide +kernel
theorem dX10_strike_35 : decode cX10_strike 35 = .ok (.iconst 1, 1) := by decide +kernel
theorem dX10_strike_36 : decode cX10_strike 36 = .ok (.bastore, 1) := by decide +kernel
theorem dX10_strike_37 : decode cX10_strike 37 = .ok (.iconst 1, 1) := by decide +kernel
theorem dX10_strike_38 : decode cX10_strike 38 = .ok (.ireturn, 1) := by decide +kernel
set_option maxRecDepth 20000 in
theorem ggX10_renumber_X10_isItem : GoodIn wsX10_renumber wsX10_isItem := goodIn_r _ [10, 2, 35, 36, 37, 38, 39, 40, 41, 42, 43, 44, 45, 46, 47, 48, 49, 50, 51, 52, 53, 54, 55, 56, 57, 58, 59, 60, 61, 62, 63, 64, 65, 66, 67, 68, 69, 70, 71, 72, 73, 74, 75, 76] (by decide +kernel) (by decide +kernel)
set_option maxRecDepth 20000 in
theorem gX10_renumber_X10_isItem : GoodIn wsX10_renumber (wsV RX10 181 RX10 yX10_isItem wsX10_isItem) := goodIn_app (goodIn_of _ (by decide +kernel)) ggX10_renumber_X10_isItem
set_option maxRecDepth 20000 in
theorem ggX10_renumber_X10_act : GoodIn wsX10_renumber wsX10_act := goodIn_r _ [14, 15, 16, 17, 18, 19, 35, 36, 37, 38, 39, 40, 41, 42, 43, 44, 45, 46, 47, 48, 49, 50, 51, 52, 53, 54, 55, 56, 57, 58, 59, 60, 61, 62, 63, 64, 65, 66, 67, 68, 69, 70, 71, 72, 73, 74, 75, 76] (by decide +kernel) (by decide +kernel)
set_option maxRecDepth 20000 in
theorem gX10_renumber_X10_act : GoodIn wsX10_renumber (wsV RX10 199 RX10 yX10_act wsX10_act) := goodIn_app (goodIn_of _ (by decide +kernel)) ggX10_renumber_X10_act
set_option maxRecDepth 20000 in
theorem ggX10_renumber_X10_isInRow : GoodIn wsX10_renumber wsX10_isInRow := goodIn_r _ [23, 24, 25, 26, 35, 36, 37, 38, 39, 40, 41, 42, 43, 44, 45, 46, 47, 48, 49, 50, 51, 52, 53, 54, 55, 56, 57, 58, 59, 60, 61, 62, 63, 64, 65, 66, 67, 68, 69, 70, 71, 72, 73, 74, 75, 76] (by decide +kernel) (by decide +kernel)
set_option maxRecDepth 20000 in
theorem gX10_renumber_X10_isInRow : GoodIn wsX10_renumber (wsV RX10 190 RX10 yX10_isInRow wsX10_isInRow) := goodIn_app (goodIn_of _ (by decide +kernel)) ggX10_renumber_X10_isInRow
set_option maxRecDepth 20000 in
theorem ggX10_renumber_X10_change : GoodIn wsX10_renumber wsX10_change := goodIn_r _ [30, 31, 19, 32, 33, 34, 35, 36, 37, 38, 39, 40, 41, 42, 43, 44, 45, 46, 47, 48, 49, 50, 51, 52, 53, 54, 55, 56, 57, 58, 59, 60, 61, 62, 63, 64, 65, 66, 67, 68, 69, 70, 71, 72, 73, 74, 75, 76] (by decide +kernel) (by decide +kernel)
set_option maxRecDepth 20000 in
theorem gX10_renumber_X10_change : GoodIn wsX10_renumber (wsV RX10 203 RX10 yX10_change wsX10_change) := goodIn_app (goodIn_of _ (by decide +kernel)) ggX10_renumber_X10_change
theorem dX10_renumber_0 : decode cX10_renumber 0 = .ok (.aload_n 0, 1) := by decide +kernel
theorem dX10_renumber_1 : decode cX10_renumber 1 = .ok (.iconst 0, 1) := by decide +kernel
theorem dX10_renumber_2 : decode cX10_renumber 2 = .ok (.putfield 86, 3) := by decide +kernel
theorem dX10_renumber_5 : decode cX10_renumber 5 = .ok (.aload_n 0, 1) := by decide +kernel
theorem dX10_renumber_6 : decode cX10_renumber 6 = .ok (.iload_n 1, 1) := by decide +kernel
theorem dX10_renumber_7 : decode cX10_renumber 7 = .ok (.invokevirtual 181, 3) := by decide +kernel
theorem dX10_renumber_10 : decode cX10_renumber 10 = .ok (.ifCond .ne 5, 3) := by decide +kernel
theorem dX10_renumber_13 : decode cX10_renumber 13 = .ok (.iconst 0, 1) := by decide +kernel
theorem dX10_renumber_14 : decode cX10_renumber 14 = .ok (.ireturn, 1) := by decide +kernel
theorem dX10_renumber_15 : decode cX10_renumber 15 = .ok (.aload_n 0, 1) := by decide +kernel
theorem dX10_renumber_16 : decode cX10_renumber 16 = .ok (.iconst 2, 1) := by decide +kernel
theorem dX10_renumber_17 : decode cX10_renumber 17 = .ok (.iload_n 1, 1) := by decide +kernel
theorem dX10_renumber_18 : decode cX10_renumber 18 = .ok (.invokevirtual 199, 3) := by decide +kernel
theorem dX10_renumber_21 : decode cX10_renumber 21 = .ok (.iconst 0, 1) := by decide +kernel
theorem dX10_renumber_22 : decode cX10_renumber 22 = .ok (.istore_n 2, 1) := by decide +kernel
theorem dX10_renumber_23 : decode cX10_renumber 23 = .ok (.iconst 0, 1) := by decide +kernel
theorem dX10_renumber_24 : decode cX10_renumber 24 = .ok (.istore_n 3, 1) := by decide +kernel
theorem dX10_renumber_25 : decode cX10_renumber 25 = .ok (.iload_n 3, 1) := by decide +kernel
theorem dX10_renumber_26 : decode cX10_renumber 26 = .ok (.aload_n 0, 1) := by decide +kernel
theorem dX10_renumber_27 : decode cX10_renumber 27 = .ok (.getfield 157, 3) := by decide +kernel
theorem dX10_renumber_30 : decode cX10_renumber 30 = .ok (.if_icmp .ge 67, 3) := by decide +kernel
theorem dX10_renumber_33 : decode cX10_renumber 33 = .ok (.aload_n 0, 1) := by decide +kernel
theorem dX10_renumber_34 : decode cX10_renumber 34 = .ok (.getfield 43, 3) := by decide +kernel
theorem dX10_renumber_37 : decode cX10_renumber 37 = .ok (.iload_n 3, 1) := by decide +kernel
theorem dX10_renumber_38 : decode cX10_renumber 38 = .ok (.iaload, 1) := by decide +kernel
theorem dX10_renumber_39 : decode cX10_renumber 39 = .ok (.istore 4, 2) := by decide +kernel
theorem dX10_renumber_41 : decode cX10_renumber 41 = .ok (.aload_n 0, 1) := by decide +kernel
theorem dX10_renumber_42 : decode cX10_renumber 42 = .ok (.iload 4, 2) := by decide +kernel
theorem dX10_renumber_44 : decode cX10_renumber 44 = .ok (.iload_n 1, 1) := by decide +kernel
theorem dX10_renumber_45 : decode cX10_renumber 45 = .ok (.invokevirtual 190, 3) := by decide +kernel
theorem dX10_renumber_48 : decode cX10_renumber 48 = .ok (.ifCond .ne 6, 3) := by decide +kernel
theorem dX10_renumber_51 : decode cX10_renumber 51 = .ok (.goto 40, 3) := by decide +kernel
theorem dX10_renumber_54 : decode cX10_renumber 54 = .ok (.aload_n 0, 1) := by decide +kernel
theorem dX10_renumber_55 : decode cX10_renumber 55 = .ok (.getfield 46, 3) := by decide +kernel
theorem dX10_renumber_58 : decode cX10_renumber 58 = .ok (.iload 4, 2) := by decide +kernel
theorem dX10_renumber_60 : decode cX10_renumber 60 = .ok (.baload, 1) := by decide +kernel
theorem dX10_renumber_61 : decode cX10_renumber 61 = .ok (.ifCond .ne 6, 3) := by decide +kernel
theorem dX10_renumber_64 : decode cX10_renumber 64 = .ok (.iinc 2 1, 3) := by decide +kernel
theorem dX10_renumber_67 : decode cX10_renumber 67 = .ok (.aload_n 0, 1) := by decide +kernel
theorem dX10_renumber_68 : decode cX10_renumber 68 = .ok (.iload 4, 2) := by decide +kernel
theorem dX10_renumber_70 : decode cX10_renumber 70 = .ok (.aload_n 0, 1) := by decide +kernel
theorem dX10_renumber_71 : decode cX10_renumber 71 = .ok (.getfield 46, 3) := by decide +kernel
theorem dX10_renumber_74 : decode cX10_renumber 74 = .ok (.iload 4, 2) := by decide +kernel
theorem dX10_renumber_76 : decode cX10_renumber 76 = .ok (.baload, 1) := by decide +kernel
theorem dX10_renumber_77 : decode cX10_renumber 77 = .ok (.ifCond .eq 7, 3) := by decide +kernel
theorem dX10_renumber_80 : decode cX10_renumber 80 = .ok (.iconst 0, 1) := by decide +kernel
theorem dX10_renumber_81 : decode cX10_renumber 81 = .ok (.goto 7, 3) := by decide +kernel
theorem dX10_renumber_84 : decode cX10_renumber 84 = .ok (.iload_n 2, 1) := by decide +kernel
theorem dX10_renumber_85 : decode cX10_renumber 85 = .ok (.ldc 173, 2) := by decide +kernel
theorem dX10_renumber_87 : decode cX10_renumber 87 = .ok (.imul, 1) := by decide +kernel
theorem dX10_renumber_88 : decode cX10_renumber 88 = .ok (.invokevirtual 203, 3) := by decide +kernel
theorem dX10_renumber_91 : decode cX10_renumber 91 = .ok (.iinc 3 1, 3) := by decide +kernel
theorem dX10_renumber_94 : decode cX10_renumber 94 = .ok (.goto (-69), 3) := by decide +kernel
theorem dX10_renumber_97 : decode cX10_renumber 97 = .ok (.iconst 1, 1) := by decide +kernel
theorem dX10_renumber_98 : decode cX10_renumber 98 = .ok (.ireturn, 1) := by decide +kernel
set_option maxRecDepth 20000 in
theorem ggX10_error_X10_isItem : GoodIn wsX10_error wsX10_isItem := goodIn_r _ [8, 9, 34, 35, 36, 37, 38, 39, 40, 41, 42, 43, 44, 45, 46, 47, 48, 49, 50, 51, 52, 53, 54, 55, 56, 57, 58, 59, 60, 61, 62, 63, 64, 65, 66, 67, 68, 69, 70, 71, 72, 73, 74, 75] (by decide +kernel) (by decide +kernel)
set_option maxRecDepth 20000 in
theorem gX10_error_X10_isItem : GoodIn wsX10_error (wsV RX10 181 RX10 yX10_isItem wsX10_isItem) := goodIn_app (goodIn_of _ (by decide +kernel)) ggX10_error_X10_isItem
set_option maxRecDepth 20000 in
theorem ggX10_error_X10_isGreat : GoodIn wsX10_error wsX10_isGreat := goodIn_r _ [12] (by decide +kernel) (by decide +kernel)
set_option maxRecDepth 20000 in
theorem gX10_error_X10_isGreat : GoodIn wsX10_error (va_wsS RX10 206 yX10_isGreat wsX10_isGreat) := goodIn_app (goodIn_of _ (by decide +kernel)) ggX10_error_X10_isGreat
set_option maxRecDepth 20000 in
theorem ggX10_error_X10_act : GoodIn wsX10_error wsX10_act := goodIn_r _ [16, 17, 18, 19, 20, 21, 34, 35, 36, 37, 38, 39, 40, 41, 42, 43, 44, 45, 46, 47, 48, 49, 50, 51, 52, 53, 54, 55, 56, 57, 58, 59, 60, 61, 62, 63, 64, 65, 66, 67, 68, 69, 70, 71, 72, 73, 74, 75] (by decide +kernel) (by decide +kernel)
set_option maxRecDepth 20000 in
theorem gX10_error_X10_act : GoodIn wsX10_error (wsV RX10 199 RX10 yX10_act wsX10_act) := goodIn_app (goodIn_of _ (by decide +kernel)) ggX10_error_X10_act
set_option maxRecDepth 20000 in
theorem ggX10_error_X10_suffixInHand : GoodIn wsX10_error wsX10_suffixInHand := goodIn_r _ [25, 2, 34, 35, 36, 37, 38, 39, 40, 41, 42, 43, 44, 45, 46, 47, 48, 49, 50, 51, 52, 53, 54, 55, 56, 57, 58, 59, 60, 61, 62, 63, 64, 65, 66, 67, 68, 69, 70, 71, 72, 73, 74, 75] (by decide +kernel) (by decide +kernel)
set_option maxRecDepth 20000 in
theorem gX10_error_X10_suffixInHand : GoodIn wsX10_error (wsV RX10 178 RX10 yX10_suffixInHand wsX10_suffixInHand) := goodIn_app (goodIn_of _ (by decide +kernel)) ggX10_error_X10_suffixInHand
set_option maxRecDepth 20000 in
theorem ggX10_error_X10_change : GoodIn wsX10_error wsX10_change := goodIn_r _ [29, 30, 21, 31, 32, 33, 34, 35, 36, 37, 38, 39, 40, 41, 42, 43, 44, 45, 46, 47, 48, 49, 50, 51, 52, 53, 54, 55, 56, 57, 58, 59, 60, 61, 62, 63, 64, 65, 66, 67, 68, 69, 70, 71, 72, 73, 74, 75] (by decide +kernel) (by decide +kernel)
set_option maxRecDepth 20000 in
theorem gX10_error_X10_change : GoodIn wsX10_error (wsV RX10 203 RX10 yX10_change wsX10_change) := goodIn_app (goodIn_of _ (by decide +kernel)) ggX10_error_X10_change
theorem dX10_error_0 : decode cX10_error 0 = .ok (.aload_n 0, 1) := by decide +kernel
theorem dX10_error_1 : decode cX10_error 1 = .ok (.iconst 0, 1) := by decide +kernel
theorem dX10_error_2 : decode cX10_error 2 = .ok (.putfield 86, 3) := by decide +kernel
theorem dX10_error_5 : decode cX10_error 5 = .ok (.aload_n 0, 1) := by decide +kernel
theorem dX10_error_6 : decode cX10_error 6 = .ok (.iload_n 1, 1) := by decide +kernel
theorem dX10_error_7 : decode cX10_error 7 = .ok (.invokevirtual 181, 3) := by decide +kernel
theorem dX10_error_10 : decode cX10_error 10 = .ok (.ifCond .eq 15, 3) := by decide +kernel
theorem dX10_error_13 : decode cX10_error 13 = .ok (.iload_n 2, 1) := by decide +kernel
theorem dX10_error_14 : decode cX10_error 14 = .ok (.iconst 1, 1) := by decide +kernel
theorem dX10_error_15 : decode cX10_error 15 = .ok (.if_icmp .lt 10, 3) := by decide +kernel
theorem dX10_error_18 : decode cX10_error 18 = .ok (.iload_n 2, 1) := by decide +kernel
theorem dX10_error_19 : decode cX10_error 19 = .ok (.sipush 999, 3) := by decide +kernel
theorem dX10_error_22 : decode cX10_error 22 = .ok (.if_icmp .le 5, 3) := by decide +kernel
theorem dX10_error_25 : decode cX10_error 25 = .ok (.iconst 0, 1) := by decide +kernel
theorem dX10_error_26 : decode cX10_error 26 = .ok (.ireturn, 1) := by decide +kernel
theorem dX10_error_27 : decode cX10_error 27 = .ok (.iconst 0, 1) := by decide +kernel
theorem dX10_error_28 : decode cX10_error 28 = .ok (.istore 4, 2) := by decide +kernel
theorem dX10_error_30 : decode cX10_error 30 = .ok (.iconst 0, 1) := by decide +kernel
theorem dX10_error_31 : decode cX10_error 31 = .ok (.istore 5, 2) := by decide +kernel
theorem dX10_error_33 : decode cX10_error 33 = .ok (.iload 5, 2) := by decide +kernel
theorem dX10_error_35 : decode cX10_error 35 = .ok (.iconst 4, 1) := by decide +kernel
theorem dX10_error_36 : decode cX10_error 36 = .ok (.if_icmp .ge 17, 3) := by decide +kernel
theorem dX10_error_39 : decode cX10_error 39 = .ok (.aload_n 0, 1) := by decide +kernel
theorem dX10_error_40 : decode cX10_error 40 = .ok (.getfield 68, 3) := by decide +kernel
theorem dX10_error_43 : decode cX10_error 43 = .ok (.iload 5, 2) := by decide +kernel
theorem dX10_error_45 : decode cX10_error 45 = .ok (.iconst 0, 1) := by decide +kernel
theorem dX10_error_46 : decode cX10_error 46 = .ok (.iastore, 1) := by decide +kernel
theorem dX10_error_47 : decode cX10_error 47 = .ok (.iinc 5 1, 3) := by decide +kernel
theorem dX10_error_50 : decode cX10_error 50 = .ok (.goto (-17), 3) := by decide +kernel
theorem dX10_error_53 : decode cX10_error 53 = .ok (.bipush 24, 2) := by decide +kernel
theorem dX10_error_55 : decode cX10_error 55 = .ok (.istore 5, 2) := by decide +kernel
theorem dX10_error_57 : decode cX10_error 57 = .ok (.iload 5, 2) := by decide +kernel
theorem dX10_error_59 : decode cX10_error 59 = .ok (.ifCond .lt 57, 3) := by decide +kernel
theorem dX10_error_62 : decode cX10_error 62 = .ok (.iload_n 3, 1) := by decide +kernel
theorem dX10_error_63 : decode cX10_error 63 = .ok (.iload 5, 2) := by decide +kernel
theorem dX10_error_65 : decode cX10_error 65 = .ok (.ishr, 1) := by decide +kernel
theorem dX10_error_66 : decode cX10_error 66 = .ok (.sipush 255, 3) := by decide +kernel
theorem dX10_error_69 : decode cX10_error 69 = .ok (.iand, 1) := by decide +kernel
theorem dX10_error_70 : decode cX10_error 70 = .ok (.istore 6, 2) := by decide +kernel
theorem dX10_error_72 : decode cX10_error 72 = .ok (.iload 6, 2) := by decide +kernel
theorem dX10_error_74 : decode cX10_error 74 = .ok (.ifCond .ne 11, 3) := by decide +kernel
theorem dX10_error_77 : decode cX10_error 77 = .ok (.iload 4, 2) := by decide +kernel
theorem dX10_error_79 : decode cX10_error 79 = .ok (.ifCond .ne 6, 3) := by decide +kernel
theorem dX10_error_82 : decode cX10_error 82 = .ok (.goto 28, 3) := by decide +kernel
theorem dX10_error_85 : decode cX10_error 85 = .ok (.iload 6, 2) := by decide +kernel
theorem dX10_error_87 : decode cX10_error 87 = .ok (.invokestatic 206, 3) := by decide +kernel
theorem dX10_error_90 : decode cX10_error 90 = .ok (.ifCond .ne 5, 3) := by decide +kernel
theorem dX10_error_93 : decode cX10_error 93 = .ok (.iconst 0, 1) := by decide +kernel
theorem dX10_error_94 : decode cX10_error 94 = .ok (.ireturn, 1) := by decide +kernel
theorem dX10_error_95 : decode cX10_error 95 = .ok (.aload_n 0, 1) := by decide +kernel
theorem dX10_error_96 : decode cX10_error 96 = .ok (.getfield 68, 3) := by decide +kernel
theorem dX10_error_99 : decode cX10_error 99 = .ok (.iload 4, 2) := by decide +kernel
theorem dX10_error_101 : decode cX10_error 101 = .ok (.iload 6, 2) := by decide +kernel
