theorem dX11_isIn_0 : decode cX11_isIn 0 = .ok (.iload_n 0, 1) := by decide +kernel
theorem dX11_isIn_1 : decode cX11_isIn 1 = .ok (.iload_n 1, 1) := by decide +kernel
theorem dX11_isIn_2 : decode cX11_isIn 2 = .ok (.if_icmp .lt 12, 3) := by decide +kernel
theorem dX11_isIn_5 : decode cX11_isIn 5 = .ok (.iload_n 0, 1) := by decide +kernel
theorem dX11_isIn_6 : decode cX11_isIn 6 = .ok (.iload_n 2, 1) := by decide +kernel
theorem dX11_isIn_7 : decode cX11_isIn 7 = .ok (.if_icmp .gt 7, 3) := by decide +kernel
theorem dX11_isIn_10 : decode cX11_isIn 10 = .ok (.iconst 1, 1) := by decide +kernel
theorem dX11_isIn_11 : decode cX11_isIn 11 = .ok (.goto 4, 3) := by decide +kernel
theorem dX11_isIn_14 : decode cX11_isIn 14 = .ok (.iconst 0, 1) := by decide +kernel
theorem dX11_isIn_15 : decode cX11_isIn 15 = .ok (.ireturn, 1) := by decide +kernel
theorem dX11_clearBank_0 : decode cX11_clearBank 0 = .ok (.aload_n 0, 1) := by decide +kernel
theorem dX11_clearBank_1 : decode cX11_clearBank 1 = .ok (.getfield 20, 3) := by decide +kernel
theorem dX11_clearBank_4 : decode cX11_clearBank 4 = .ok (.aload_n 0, 1) := by decide +kernel
theorem dX11_clearBank_5 : decode cX11_clearBank 5 = .ok (.getfield 279, 3) := by decide +kernel
theorem dX11_clearBank_8 : decode cX11_clearBank 8 = .ok (.iconst 0, 1) := by decide +kernel
theorem dX11_clearBank_9 : decode cX11_clearBank 9 = .ok (.iastore, 1) := by decide +kernel
theorem dX11_clearBank_10 : decode cX11_clearBank 10 = .ok (.aload_n 0, 1) := by decide +kernel
theorem dX11_clearBank_11 : decode cX11_clearBank 11 = .ok (.getfield 24, 3) := by decide +kernel
theorem dX11_clearBank_14 : decode cX11_clearBank 14 = .ok (.aload_n 0, 1) := by decide +kernel
theorem dX11_clearBank_15 : decode cX11_clearBank 15 = .ok (.getfield 279, 3) := by decide +kernel
theorem dX11_clearBank_18 : decode cX11_clearBank 18 = .ok (.iconst 0, 1) := by decide +kernel
theorem dX11_clearBank_19 : decode cX11_clearBank 19 = .ok (.iastore, 1) := by decide +kernel
theorem dX11_clearBank_20 : decode cX11_clearBank 20 = .ok (.aload_n 0, 1) := by decide +kernel
theorem dX11_clearBank_21 : decode cX11_clearBank 21 = .ok (.getfield 27, 3) := by decide +kernel
theorem dX11_clearBank_24 : decode cX11_clearBank 24 = .ok (.aload_n 0, 1) := by decide +kernel
theorem dX11_clearBank_25 : decode cX11_clearBank 25 = .ok (.getfield 279, 3) := by decide +kernel
theorem dX11_clearBank_28 : decode cX11_clearBank 28 = .ok (.bipush 50, 2) := by decide +kernel
theorem dX11_clearBank_30 : decode cX11_clearBank 30 = .ok (.iastore, 1) := by decide +kernel
theorem dX11_clearBank_31 : decode cX11_clearBank 31 = .ok (.aload_n 0, 1) := by decide +kernel
theorem dX11_clearBank_32 : decode cX11_clearBank 32 = .ok (.getfield 30, 3) := by decide +kernel
theorem dX11_clearBank_35 : decode cX11_clearBank 35 = .ok (.aload_n 0, 1) := by decide +kernel
theorem dX11_clearBank_36 : decode cX11_clearBank 36 = .ok (.getfield 279, 3) := by decide +kernel
theorem dX11_clearBank_39 : decode cX11_clearBank 39 = .ok (.iconst 0, 1) := by decide +kernel
theorem dX11_clearBank_40 : decode cX11_clearBank 40 = .ok (.iastore, 1) := by decide +kernel
theorem dX11_clearBank_41 : decode cX11_clearBank 41 = .ok (.aload_n 0, 1) := by decide +kernel
theorem dX11_clearBank_42 : decode cX11_clearBank 42 = .ok (.getfield 33, 3) := by decide +kernel
theorem dX11_clearBank_45 : decode cX11_clearBank 45 = .ok (.aload_n 0, 1) := by decide +kernel
theorem dX11_clearBank_46 : decode cX11_clearBank 46 = .ok (.getfield 279, 3) := by decide +kernel
theorem dX11_clearBank_49 : decode cX11_clearBank 49 = .ok (.iconst 0, 1) := by decide +kernel
theorem dX11_clearBank_50 : decode cX11_clearBank 50 = .ok (.iastore, 1) := by decide +kernel
theorem dX11_clearBank_51 : decode cX11_clearBank 51 = .ok (.aload_n 0, 1) := by decide +kernel
theorem dX11_clearBank_52 : decode cX11_clearBank 52 = .ok (.getfield 36, 3) := by decide +kernel
theorem dX11_clearBank_55 : decode cX11_clearBank 55 = .ok (.aload_n 0, 1) := by decide +kernel
theorem dX11_clearBank_56 : decode cX11_clearBank 56 = .ok (.getfield 279, 3) := by decide +kernel
theorem dX11_clearBank_59 : decode cX11_clearBank 59 = .ok (.iconst 0, 1) := by decide +kernel
theorem dX11_clearBank_60 : decode cX11_clearBank 60 = .ok (.iastore, 1) := by decide +kernel
theorem dX11_clearBank_61 : decode cX11_clearBank 61 = .ok (.aload_n 0, 1) := by decide +kernel
theorem dX11_clearBank_62 : decode cX11_clearBank 62 = .ok (.getfield 39, 3) := by decide +kernel
theorem dX11_clearBank_65 : decode cX11_clearBank 65 = .ok (.aload_n 0, 1) := by decide +kernel
theorem dX11_clearBank_66 : decode cX11_clearBank 66 = .ok (.getfield 279, 3) := by decide +kernel
theorem dX11_clearBank_69 : decode cX11_clearBank 69 = .ok (.iconst 0, 1) := by decide +kernel
theorem dX11_clearBank_70 : decode cX11_clearBank 70 = .ok (.iastore, 1) := by decide +kernel
theorem dX11_clearBank_71 : decode cX11_clearBank 71 = .ok (.aload_n 0, 1) := by decide +kernel
theorem dX11_clearBank_72 : decode cX11_clearBank 72 = .ok (.getfield 69, 3) := by decide +kernel
theorem dX11_clearBank_75 : decode cX11_clearBank 75 = .ok (.aload_n 0, 1) := by decide +kernel
theorem dX11_clearBank_76 : decode cX11_clearBank 76 = .ok (.getfield 279, 3) := by decide +kernel
theorem dX11_clearBank_79 : decode cX11_clearBank 79 = .ok (.iconst 0, 1) := by decide +kernel
theorem dX11_clearBank_80 : decode cX11_clearBank 80 = .ok (.bastore, 1) := by decide +kernel
theorem dX11_clearBank_81 : decode cX11_clearBank 81 = .ok (.aload_n 0, 1) := by decide +kernel
theorem dX11_clearBank_82 : decode cX11_clearBank 82 = .ok (.getfield 73, 3) := by decide +kernel
theorem dX11_clearBank_85 : decode cX11_clearBank 85 = .ok (.aload_n 0, 1) := by decide +kernel
theorem dX11_clearBank_86 : decode cX11_clearBank 86 = .ok (.getfield 279, 3) := by decide +kernel
theorem dX11_clearBank_89 : decode cX11_clearBank 89 = .ok (.iconst 0, 1) := by decide +kernel
theorem dX11_clearBank_90 : decode cX11_clearBank 90 = .ok (.bastore, 1) := by decide +kernel
theorem dX11_clearBank_91 : decode cX11_clearBank 91 = .ok (.aload_n 0, 1) := by decide +kernel
theorem dX11_clearBank_92 : decode cX11_clearBank 92 = .ok (.getfield 76, 3) := by decide +kernel
theorem dX11_clearBank_95 : decode cX11_clearBank 95 = .ok (.aload_n 0, 1) := by decide +kernel
theorem dX11_clearBank_96 : decode cX11_clearBank 96 = .ok (.getfield 279, 3) := by decide +kernel
theorem dX11_clearBank_99 : decode cX11_clearBank 99 = .ok (.iconst 0, 1) := by decide +kernel
theorem dX11_clearBank_100 : decode cX11_clearBank 100 = .ok (.bastore, 1) := by decide +kernel
theorem dX11_clearBank_101 : decode cX11_clearBank 101 = .ok (.aload_n 0, 1) := by decide +kernel
theorem dX11_clearBank_102 : decode cX11_clearBank 102 = .ok (.sipush 580, 3) := by decide +kernel
theorem dX11_clearBank_105 : decode cX11_clearBank 105 = .ok (.aload_n 0, 1) := by decide +kernel
theorem dX11_clearBank_106 : decode cX11_clearBank 106 = .ok (.getfield 279, 3) := by decide +kernel
theorem dX11_clearBank_109 : decode cX11_clearBank 109 = .ok (.imul, 1) := by decide +kernel
theorem dX11_clearBank_110 : decode cX11_clearBank 110 = .ok (.putfield 282, 3) := by decide +kernel
theorem dX11_clearBank_113 : decode cX11_clearBank 113 = .ok (.bipush 25, 2) := by decide +kernel
theorem dX11_clearBank_115 : decode cX11_clearBank 115 = .ok (.aload_n 0, 1) := by decide +kernel
theorem dX11_clearBank_116 : decode cX11_clearBank 116 = .ok (.getfield 279, 3) := by decide +kernel
theorem dX11_clearBank_119 : decode cX11_clearBank 119 = .ok (.imul, 1) := by decide +kernel
theorem dX11_clearBank_120 : decode cX11_clearBank 120 = .ok (.istore_n 1, 1) := by decide +kernel
theorem dX11_clearBank_121 : decode cX11_clearBank 121 = .ok (.iload_n 1, 1) := by decide +kernel
theorem dX11_clearBank_122 : decode cX11_clearBank 122 = .ok (.bipush 25, 2) := by decide +kernel
theorem dX11_clearBank_124 : decode cX11_clearBank 124 = .ok (.aload_n 0, 1) := by decide +kernel
theorem dX11_clearBank_125 : decode cX11_clearBank 125 = .ok (.getfield 279, 3) := by decide +kernel
theorem dX11_clearBank_128 : decode cX11_clearBank 128 = .ok (.imul, 1) := by decide +kernel
theorem dX11_clearBank_129 : decode cX11_clearBank 129 = .ok (.bipush 25, 2) := by decide +kernel
theorem dX11_clearBank_131 : decode cX11_clearBank 131 = .ok (.iadd, 1) := by decide +kernel
theorem dX11_clearBank_132 : decode cX11_clearBank 132 = .ok (.if_icmp .ge 23, 3) := by decide +kernel
theorem dX11_clearBank_135 : decode cX11_clearBank 135 = .ok (.aload_n 0, 1) := by decide +kernel
theorem dX11_clearBank_136 : decode cX11_clearBank 136 = .ok (.getfield 42, 3) := by decide +kernel
theorem dX11_clearBank_139 : decode cX11_clearBank 139 = .ok (.iload_n 1, 1) := by decide +kernel
theorem dX11_clearBank_140 : decode cX11_clearBank 140 = .ok (.iconst (-1), 1) := by decide +kernel
theorem dX11_clearBank_141 : decode cX11_clearBank 141 = .ok (.iastore, 1) := by decide +kernel
theorem dX11_clearBank_142 : decode cX11_clearBank 142 = .ok (.aload_n 0, 1) := by decide +kernel
theorem dX11_clearBank_143 : decode cX11_clearBank 143 = .ok (.getfield 79, 3) := by decide +kernel
theorem dX11_clearBank_146 : decode cX11_clearBank 146 = .ok (.iload_n 1, 1) := by decide +kernel
theorem dX11_clearBank_147 : decode cX11_clearBank 147 = .ok (.iconst 0, 1) := by decide +kernel
theorem dX11_clearBank_148 : decode cX11_clearBank 148 = .ok (.bastore, 1) := by decide +kernel
theorem dX11_clearBank_149 : decode cX11_clearBank 149 = .ok (.iinc 1 1, 3) := by decide +kernel
theorem dX11_clearBank_152 : decode cX11_clearBank 152 = .ok (.goto (-31), 3) := by decide +kernel
theorem dX11_clearBank_155 : decode cX11_clearBank 155 = .ok (.aload_n 0, 1) := by decide +kernel
theorem dX11_clearBank_156 : decode cX11_clearBank 156 = .ok (.getfield 48, 3) := by decide +kernel
theorem dX11_clearBank_159 : decode cX11_clearBank 159 = .ok (.bipush 7, 2) := by decide +kernel
theorem dX11_clearBank_161 : decode cX11_clearBank 161 = .ok (.aload_n 0, 1) := by decide +kernel
theorem dX11_clearBank_162 : decode cX11_clearBank 162 = .ok (.getfield 279, 3) := by decide +kernel
theorem dX11_clearBank_165 : decode cX11_clearBank 165 = .ok (.imul, 1) := by decide +kernel
theorem dX11_clearBank_166 : decode cX11_clearBank 166 = .ok (.bipush 6, 2) := by decide +kernel
theorem dX11_clearBank_168 : decode cX11_clearBank 168 = .ok (.iadd, 1) := by decide +kernel
theorem dX11_clearBank_169 : decode cX11_clearBank 169 = .ok (.iconst 0, 1) := by decide +kernel
theorem dX11_clearBank_170 : decode cX11_clearBank 170 = .ok (.iastore, 1) := by decide +kernel
theorem dX11_clearBank_171 : decode cX11_clearBank 171 = .ok (.aload_n 0, 1) := by decide +kernel
theorem dX11_clearBank_172 : decode cX11_clearBank 172 = .ok (.getfield 51, 3) := by decide +kernel
theorem dX11_clearBank_175 : decode cX11_clearBank 175 = .ok (.bipush 7, 2) := by decide +kernel
theorem dX11_clearBank_177 : decode cX11_clearBank 177 = .ok (.aload_n 0, 1) := by decide +kernel
theorem dX11_clearBank_178 : decode cX11_clearBank 178 = .ok (.getfield 279, 3) := by decide +kernel
theorem dX11_clearBank_181 : decode cX11_clearBank 181 = .ok (.imul, 1) := by decide +kernel
theorem dX11_clearBank_182 : decode cX11_clearBank 182 = .ok (.bipush 6, 2) := by decide +kernel
theorem dX11_clearBank_184 : decode cX11_clearBank 184 = .ok (.iadd, 1) := by decide +kernel
theorem dX11_clearBank_185 : decode cX11_clearBank 185 = .ok (.iconst 0, 1) := by decide +kernel
theorem dX11_clearBank_186 : decode cX11_clearBank 186 = .ok (.iastore, 1) := by decide +kernel
theorem dX11_clearBank_187 : decode cX11_clearBank 187 = .ok (.return_, 1) := by decide +kernel
theorem dX11_layFirst_0 : decode cX11_layFirst 0 = .ok (.iconst 0, 1) := by decide +kernel
theorem dX11_layFirst_1 : decode cX11_layFirst 1 = .ok (.istore_n 1, 1) := by decide +kernel
theorem dX11_layFirst_2 : decode cX11_layFirst 2 = .ok (.iload_n 1, 1) := by decide +kernel
theorem dX11_layFirst_3 : decode cX11_layFirst 3 = .ok (.bipush 62, 2) := by decide +kernel
theorem dX11_layFirst_5 : decode cX11_layFirst 5 = .ok (.if_icmp .ge 16, 3) := by decide +kernel
theorem dX11_layFirst_8 : decode cX11_layFirst 8 = .ok (.aload_n 0, 1) := by decide +kernel
theorem dX11_layFirst_9 : decode cX11_layFirst 9 = .ok (.getfield 104, 3) := by decide +kernel
theorem dX11_layFirst_12 : decode cX11_layFirst 12 = .ok (.iload_n 1, 1) := by decide +kernel
theorem dX11_layFirst_13 : decode cX11_layFirst 13 = .ok (.iconst 0, 1) := by decide +kernel
theorem dX11_layFirst_14 : decode cX11_layFirst 14 = .ok (.iastore, 1) := by decide +kernel
theorem dX11_layFirst_15 : decode cX11_layFirst 15 = .ok (.iinc 1 1, 3) := by decide +kernel
theorem dX11_layFirst_18 : decode cX11_layFirst 18 = .ok (.goto (-16), 3) := by decide +kernel
theorem dX11_layFirst_21 : decode cX11_layFirst 21 = .ok (.iconst 0, 1) := by decide +kernel
theorem dX11_layFirst_22 : decode cX11_layFirst 22 = .ok (.istore_n 1, 1) := by decide +kernel
theorem dX11_layFirst_23 : decode cX11_layFirst 23 = .ok (.iload_n 1, 1) := by decide +kernel
theorem dX11_layFirst_24 : decode cX11_layFirst 24 = .ok (.bipush 25, 2) := by decide +kernel
theorem dX11_layFirst_26 : decode cX11_layFirst 26 = .ok (.if_icmp .ge 58, 3) := by decide +kernel
theorem dX11_layFirst_29 : decode cX11_layFirst 29 = .ok (.aload_n 0, 1) := by decide +kernel
theorem dX11_layFirst_30 : decode cX11_layFirst 30 = .ok (.getfield 104, 3) := by decide +kernel
theorem dX11_layFirst_33 : decode cX11_layFirst 33 = .ok (.iload_n 1, 1) := by decide +kernel
theorem dX11_layFirst_34 : decode cX11_layFirst 34 = .ok (.aload_n 0, 1) := by decide +kernel
theorem dX11_layFirst_35 : decode cX11_layFirst 35 = .ok (.getfield 42, 3) := by decide +kernel
theorem dX11_layFirst_38 : decode cX11_layFirst 38 = .ok (.bipush 25, 2) := by decide +kernel
theorem dX11_layFirst_40 : decode cX11_layFirst 40 = .ok (.aload_n 0, 1) := by decide +kernel
theorem dX11_layFirst_41 : decode cX11_layFirst 41 = .ok (.getfield 288, 3) := by decide +kernel
theorem dX11_layFirst_44 : decode cX11_layFirst 44 = .ok (.imul, 1) := by decide +kernel
theorem dX11_layFirst_45 : decode cX11_layFirst 45 = .ok (.iload_n 1, 1) := by decide +kernel
theorem dX11_layFirst_46 : decode cX11_layFirst 46 = .ok (.iadd, 1) := by decide +kernel
theorem dX11_layFirst_47 : decode cX11_layFirst 47 = .ok (.iaload, 1) := by decide +kernel
theorem dX11_layFirst_48 : decode cX11_layFirst 48 = .ok (.ifCond .lt 20, 3) := by decide +kernel
theorem dX11_layFirst_51 : decode cX11_layFirst 51 = .ok (.aload_n 0, 1) := by decide +kernel
theorem dX11_layFirst_52 : decode cX11_layFirst 52 = .ok (.getfield 42, 3) := by decide +kernel
theorem dX11_layFirst_55 : decode cX11_layFirst 55 = .ok (.bipush 25, 2) := by decide +kernel
theorem dX11_layFirst_57 : decode cX11_layFirst 57 = .ok (.aload_n 0, 1) := by decide +kernel
theorem dX11_layFirst_58 : decode cX11_layFirst 58 = .ok (.getfield 288, 3) := by decide +kernel
theorem dX11_layFirst_61 : decode cX11_layFirst 61 = .ok (.imul, 1) := by decide +kernel
theorem dX11_layFirst_62 : decode cX11_layFirst 62 = .ok (.iload_n 1, 1) := by decide +kernel
theorem dX11_layFirst_63 : decode cX11_layFirst 63 = .ok (.iadd, 1) := by decide +kernel
theorem dX11_layFirst_64 : decode cX11_layFirst 64 = .ok (.iaload, 1) := by decide +kernel
theorem dX11_layFirst_65 : decode cX11_layFirst 65 = .ok (.goto 12, 3) := by decide +kernel
theorem dX11_layFirst_68 : decode cX11_layFirst 68 = .ok (.aload_n 0, 1) := by decide +kernel
theorem dX11_layFirst_69 : decode cX11_layFirst 69 = .ok (.getfield 27, 3) := by decide +kernel
theorem dX11_layFirst_72 : decode cX11_layFirst 72 = .ok (.aload_n 0, 1) := by decide +kernel
theorem dX11_layFirst_73 : decode cX11_layFirst 73 = .ok (.getfield 288, 3) := by decide +kernel
theorem dX11_layFirst_76 : decode cX11_layFirst 76 = .ok (.iaload, 1) := by decide +kernel
theorem dX11_layFirst_77 : decode cX11_layFirst 77 = .ok (.iastore, 1) := by decide +kernel
theorem dX11_layFirst_78 : decode cX11_layFirst 78 = .ok (.iinc 1 1, 3) := by decide +kernel
theorem dX11_layFirst_81 : decode cX11_layFirst 81 = .ok (.goto (-58), 3) := by decide +kernel
theorem dX11_layFirst_84 : decode cX11_layFirst 84 = .ok (.iconst 0, 1) := by decide +kernel
theorem dX11_layFirst_85 : decode cX11_layFirst 85 = .ok (.istore_n 1, 1) := by decide +kernel
theorem dX11_layFirst_86 : decode cX11_layFirst 86 = .ok (.iload_n 1, 1) := by decide +kernel
theorem dX11_layFirst_87 : decode cX11_layFirst 87 = .ok (.aload_n 0, 1) := by decide +kernel
theorem dX11_layFirst_88 : decode cX11_layFirst 88 = .ok (.getfield 36, 3) := by decide +kernel
theorem dX11_layFirst_91 : decode cX11_layFirst 91 = .ok (.aload_n 0, 1) := by decide +kernel
theorem dX11_layFirst_92 : decode cX11_layFirst 92 = .ok (.getfield 288, 3) := by decide +kernel
theorem dX11_layFirst_95 : decode cX11_layFirst 95 = .ok (.iaload, 1) := by decide +kernel
theorem dX11_layFirst_96 : decode cX11_layFirst 96 = .ok (.if_icmp .ge 77, 3) := by decide +kernel
theorem dX11_layFirst_99 : decode cX11_layFirst 99 = .ok (.aload_n 0, 1) := by decide +kernel
theorem dX11_layFirst_100 : decode cX11_layFirst 100 = .ok (.iload_n 1, 1) := by decide +kernel
theorem dX11_layFirst_101 : decode cX11_layFirst 101 = .ok (.iconst 0, 1) := by decide +kernel
theorem dX11_layFirst_102 : decode cX11_layFirst 102 = .ok (.aload_n 0, 1) := by decide +kernel
theorem dX11_layFirst_103 : decode cX11_layFirst 103 = .ok (.getfield 57, 3) := by decide +kernel
theorem dX11_layFirst_106 : decode cX11_layFirst 106 = .ok (.bipush 6, 2) := by decide +kernel
theorem dX11_layFirst_108 : decode cX11_layFirst 108 = .ok (.aload_n 0, 1) := by decide +kernel
theorem dX11_layFirst_109 : decode cX11_layFirst 109 = .ok (.getfield 288, 3) := by decide +kernel
theorem dX11_layFirst_112 : decode cX11_layFirst 112 = .ok (.imul, 1) := by decide +kernel
theorem dX11_layFirst_113 : decode cX11_layFirst 113 = .ok (.iload_n 1, 1) := by decide +kernel
theorem dX11_layFirst_114 : decode cX11_layFirst 114 = .ok (.iadd, 1) := by decide +kernel
theorem dX11_layFirst_115 : decode cX11_layFirst 115 = .ok (.iaload, 1) := by decide +kernel
theorem dX11_layFirst_116 : decode cX11_layFirst 116 = .ok (.invokevirtual 379, 3) := by decide +kernel
theorem dX11_layFirst_119 : decode cX11_layFirst 119 = .ok (.aload_n 0, 1) := by decide +kernel
theorem dX11_layFirst_120 : decode cX11_layFirst 120 = .ok (.iload_n 1, 1) := by decide +kernel
theorem dX11_layFirst_121 : decode cX11_layFirst 121 = .ok (.iconst 1, 1) := by decide +kernel
theorem dX11_layFirst_122 : decode cX11_layFirst 122 = .ok (.aload_n 0, 1) := by decide +kernel
theorem dX11_layFirst_123 : decode cX11_layFirst 123 = .ok (.getfield 60, 3) := by decide +kernel
theorem dX11_layFirst_126 : decode cX11_layFirst 126 = .ok (.bipush 6, 2) := by decide +kernel
theorem dX11_layFirst_128 : decode cX11_layFirst 128 = .ok (.aload_n 0, 1) := by decide +kernel
theorem dX11_layFirst_129 : decode cX11_layFirst 129 = .ok (.getfield 288, 3) := by decide +kernel
theorem dX11_layFirst_132 : decode cX11_layFirst 132 = .ok (.imul, 1) := by decide +kernel
theorem dX11_layFirst_133 : decode cX11_layFirst 133 = .ok (.iload_n 1, 1) := by decide +kernel
theorem dX11_layFirst_134 : decode cX11_layFirst 134 = .ok (.iadd, 1) := by decide +kernel
theorem dX11_layFirst_135 : decode cX11_layFirst 135 = .ok (.iaload, 1) := by decide +kernel
theorem dX11_layFirst_136 : decode cX11_layFirst 136 = .ok (.invokevirtual 379, 3) := by decide +kernel
theorem dX11_layFirst_139 : decode cX11_layFirst 139 = .ok (.aload_n 0, 1) := by decide +kernel
theorem dX11_layFirst_140 : decode cX11_layFirst 140 = .ok (.iload_n 1, 1) := by decide +kernel
theorem dX11_layFirst_141 : decode cX11_layFirst 141 = .ok (.iconst 2, 1) := by decide +kernel
theorem dX11_layFirst_142 : decode cX11_layFirst 142 = .ok (.iconst 1, 1) := by decide +kernel
theorem dX11_layFirst_143 : decode cX11_layFirst 143 = .ok (.invokevirtual 379, 3) := by decide +kernel
theorem dX11_layFirst_146 : decode cX11_layFirst 146 = .ok (.iconst 3, 1) := by decide +kernel
theorem dX11_layFirst_147 : decode cX11_layFirst 147 = .ok (.istore_n 2, 1) := by decide +kernel
theorem dX11_layFirst_148 : decode cX11_layFirst 148 = .ok (.iload_n 2, 1) := by decide +kernel
theorem dX11_layFirst_149 : decode cX11_layFirst 149 = .ok (.bipush 6, 2) := by decide +kernel
theorem dX11_layFirst_151 : decode cX11_layFirst 151 = .ok (.if_icmp .ge 16, 3) := by decide +kernel
theorem dX11_layFirst_154 : decode cX11_layFirst 154 = .ok (.aload_n 0, 1) := by decide +kernel
theorem dX11_layFirst_155 : decode cX11_layFirst 155 = .ok (.iload_n 1, 1) := by decide +kernel
theorem dX11_layFirst_156 : decode cX11_layFirst 156 = .ok (.iload_n 2, 1) := by decide +kernel
theorem dX11_layFirst_157 : decode cX11_layFirst 157 = .ok (.iconst (-1), 1) := by decide +kernel
theorem dX11_layFirst_158 : decode cX11_layFirst 158 = .ok (.invokevirtual 379, 3) := by decide +kernel
theorem dX11_layFirst_161 : decode cX11_layFirst 161 = .ok (.iinc 2 1, 3) := by decide +kernel
theorem dX11_layFirst_164 : decode cX11_layFirst 164 = .ok (.goto (-16), 3) := by decide +kernel
theorem dX11_layFirst_167 : decode cX11_layFirst 167 = .ok (.iinc 1 1, 3) := by decide +kernel
theorem dX11_layFirst_170 : decode cX11_layFirst 170 = .ok (.goto (-84), 3) := by decide +kernel
theorem dX11_layFirst_173 : decode cX11_layFirst 173 = .ok (.return_, 1) := by decide +kernel
theorem dX11_begin_0 : decode cX11_begin 0 = .ok (.aload_n 0, 1) := by decide +kernel
theorem dX11_begin_1 : decode cX11_begin 1 = .ok (.invokevirtual 383, 3) := by decide +kernel
theorem dX11_begin_4 : decode cX11_begin 4 = .ok (.aload_n 0, 1) := by decide +kernel
theorem dX11_begin_5 : decode cX11_begin 5 = .ok (.iconst 0, 1) := by decide +kernel
theorem dX11_begin_6 : decode cX11_begin 6 = .ok (.putfield 386, 3) := by decide +kernel
theorem dX11_begin_9 : decode cX11_begin 9 = .ok (.aload_n 0, 1) := by decide +kernel
theorem dX11_begin_10 : decode cX11_begin 10 = .ok (.iconst 0, 1) := by decide +kernel
theorem dX11_begin_11 : decode cX11_begin 11 = .ok (.putfield 389, 3) := by decide +kernel
theorem dX11_begin_14 : decode cX11_begin 14 = .ok (.return_, 1) := by decide +kernel
theorem dX11_init_0 : decode cX11_init 0 = .ok (.aload_n 0, 1) := by decide +kernel
theorem dX11_init_1 : decode cX11_init 1 = .ok (.invokespecial 1, 3) := by decide +kernel
theorem dX11_init_4 : decode cX11_init 4 = .ok (.aload_n 0, 1) := by decide +kernel
theorem dX11_init_5 : decode cX11_init 5 = .ok (.sipush 1620, 3) := by decide +kernel
theorem dX11_init_8 : decode cX11_init 8 = .ok (.newarray .byte, 2) := by decide +kernel
theorem dX11_init_10 : decode cX11_init 10 = .ok (.putfield 7, 3) := by decide +kernel
theorem dX11_init_13 : decode cX11_init 13 = .ok (.aload_n 0, 1) := by decide +kernel
theorem dX11_init_14 : decode cX11_init 14 = .ok (.sipush 1600, 3) := by decide +kernel
theorem dX11_init_17 : decode cX11_init 17 = .ok (.newarray .byte, 2) := by decide +kernel
theorem dX11_init_19 : decode cX11_init 19 = .ok (.putfield 13, 3) := by decide +kernel
theorem dX11_init_22 : decode cX11_init 22 = .ok (.aload_n 0, 1) := by decide +kernel
theorem dX11_init_23 : decode cX11_init 23 = .ok (.iconst (-1), 1) := by decide +kernel
theorem dX11_init_24 : decode cX11_init 24 = .ok (.putfield 16, 3) := by decide +kernel
theorem dX11_init_27 : decode cX11_init 27 = .ok (.aload_n 0, 1) := by decide +kernel
theorem dX11_init_28 : decode cX11_init 28 = .ok (.iconst 2, 1) := by decide +kernel
theorem dX11_init_29 : decode cX11_init 29 = .ok (.newarray .int, 2) := by decide +kernel
theorem dX11_init_31 : decode cX11_init 31 = .ok (.putfield 20, 3) := by decide +kernel
theorem dX11_init_34 : decode cX11_init 34 = .ok (.aload_n 0, 1) := by decide +kernel
theorem dX11_init_35 : decode cX11_init 35 = .ok (.iconst 2, 1) := by decide +kernel
theorem dX11_init_36 : decode cX11_init 36 = .ok (.newarray .int, 2) := by decide +kernel
theorem dX11_init_38 : decode cX11_init 38 = .ok (.putfield 24, 3) := by decide +kernel
theorem dX11_init_41 : decode cX11_init 41 = .ok (.aload_n 0, 1) := by decide +kernel
theorem dX11_init_42 : decode cX11_init 42 = .ok (.iconst 2, 1) := by decide +kernel
theorem dX11_init_43 : decode cX11_init 43 = .ok (.newarray .int, 2) := by decide +kernel
theorem dX11_init_45 : decode cX11_init 45 = .ok (.putfield 27, 3) := by decide +kernel
theorem dX11_init_48 : decode cX11_init 48 = .ok (.aload_n 0, 1) := by decide +kernel
theorem dX11_init_49 : decode cX11_init 49 = .ok (.iconst 2, 1) := by decide +kernel
theorem dX11_init_50 : decode cX11_init 50 = .ok (.newarray .int, 2) := by decide +kernel
theorem dX11_init_52 : decode cX11_init 52 = .ok (.putfield 30, 3) := by decide +kernel
theorem dX11_init_55 : decode cX11_init 55 = .ok (.aload_n 0, 1) := by decide +kernel
theorem dX11_init_56 : decode cX11_init 56 = .ok (.iconst 2, 1) := by decide +kernel
theorem dX11_init_57 : decode cX11_init 57 = .ok (.newarray .int, 2) := by decide +kernel
theorem dX11_init_59 : decode cX11_init 59 = .ok (.putfield 33, 3) := by decide +kernel
theorem dX11_init_62 : decode cX11_init 62 = .ok (.aload_n 0, 1) := by decide +kernel
theorem dX11_init_63 : decode cX11_init 63 = .ok (.iconst 2, 1) := by decide +kernel
theorem dX11_init_64 : decode cX11_init 64 = .ok (.newarray .int, 2) := by decide +kernel
theorem dX11_init_66 : decode cX11_init 66 = .ok (.putfield 36, 3) := by decide +kernel
theorem dX11_init_69 : decode cX11_init 69 = .ok (.aload_n 0, 1) := by decide +kernel
theorem dX11_init_70 : decode cX11_init 70 = .ok (.iconst 2, 1) := by decide +kernel
theorem dX11_init_71 : decode cX11_init 71 = .ok (.newarray .int, 2) := by decide +kernel
theorem dX11_init_73 : decode cX11_init 73 = .ok (.putfield 39, 3) := by decide +kernel
theorem dX11_init_76 : decode cX11_init 76 = .ok (.aload_n 0, 1) := by decide +kernel
theorem dX11_init_77 : decode cX11_init 77 = .ok (.bipush 50, 2) := by decide +kernel
theorem dX11_init_79 : decode cX11_init 79 = .ok (.newarray .int, 2) := by decide +kernel
theorem dX11_init_81 : decode cX11_init 81 = .ok (.putfield 42, 3) := by decide +kernel
theorem dX11_init_84 : decode cX11_init 84 = .ok (.aload_n 0, 1) := by decide +kernel
theorem dX11_init_85 : decode cX11_init 85 = .ok (.bipush 12, 2) := by decide +kernel
theorem dX11_init_87 : decode cX11_init 87 = .ok (.newarray .int, 2) := by decide +kernel
theorem dX11_init_89 : decode cX11_init 89 = .ok (.putfield 45, 3) := by decide +kernel
theorem dX11_init_92 : decode cX11_init 92 = .ok (.aload_n 0, 1) := by decide +kernel
theorem dX11_init_93 : decode cX11_init 93 = .ok (.bipush 14, 2) := by decide +kernel
theorem dX11_init_95 : decode cX11_init 95 = .ok (.newarray .int, 2) := by decide +kernel
theorem dX11_init_97 : decode cX11_init 97 = .ok (.putfield 48, 3) := by decide +kernel
theorem dX11_init_100 : decode cX11_init 100 = .ok (.aload_n 0, 1) := by decide +kernel
theorem dX11_init_101 : decode cX11_init 101 = .ok (.bipush 14, 2) := by decide +kernel
theorem dX11_init_103 : decode cX11_init 103 = .ok (.newarray .int, 2) := by decide +kernel
theorem dX11_init_105 : decode cX11_init 105 = .ok (.putfield 51, 3) := by decide +kernel
theorem dX11_init_108 : decode cX11_init 108 = .ok (.aload_n 0, 1) := by decide +kernel
theorem dX11_init_109 : decode cX11_init 109 = .ok (.bipush 12, 2) := by decide +kernel
theorem dX11_init_111 : decode cX11_init 111 = .ok (.newarray .int, 2) := by decide +kernel
theorem dX11_init_113 : decode cX11_init 113 = .ok (.putfield 54, 3) := by decide +kernel
theorem dX11_init_116 : decode cX11_init 116 = .ok (.aload_n 0, 1) := by decide +kernel
theorem dX11_init_117 : decode cX11_init 117 = .ok (.bipush 12, 2) := by decide +kernel
theorem dX11_init_119 : decode cX11_init 119 = .ok (.newarray .int, 2) := by decide +kernel
theorem dX11_init_121 : decode cX11_init 121 = .ok (.putfield 57, 3) := by decide +kernel
theorem dX11_init_124 : decode cX11_init 124 = .ok (.aload_n 0, 1) := by decide +kernel
theorem dX11_init_125 : decode cX11_init 125 = .ok (.bipush 12, 2) := by decide +kernel
theorem dX11_init_127 : decode cX11_init 127 = .ok (.newarray .int, 2) := by decide +kernel
theorem dX11_init_129 : decode cX11_init 129 = .ok (.putfield 60, 3) := by decide +kernel
theorem dX11_init_132 : decode cX11_init 132 = .ok (.aload_n 0, 1) := by decide +kernel
theorem dX11_init_133 : decode cX11_init 133 = .ok (.bipush 12, 2) := by decide +kernel
theorem dX11_init_135 : decode cX11_init 135 = .ok (.newarray .int, 2) := by decide +kernel
theorem dX11_init_137 : decode cX11_init 137 = .ok (.putfield 63, 3) := by decide +kernel
theorem dX11_init_140 : decode cX11_init 140 = .ok (.aload_n 0, 1) := by decide +kernel
theorem dX11_init_141 : decode cX11_init 141 = .ok (.bipush 96, 2) := by decide +kernel
theorem dX11_init_143 : decode cX11_init 143 = .ok (.newarray .int, 2) := by decide +kernel
theorem dX11_init_145 : decode cX11_init 145 = .ok (.putfield 66, 3) := by decide +kernel
theorem dX11_init_148 : decode cX11_init 148 = .ok (.aload_n 0, 1) := by decide +kernel
theorem dX11_init_149 : decode cX11_init 149 = .ok (.iconst 2, 1) := by decide +kernel
theorem dX11_init_150 : decode cX11_init 150 = .ok (.newarray .boolean, 2) := by decide +kernel
theorem dX11_init_152 : decode cX11_init 152 = .ok (.putfield 69, 3) := by decide +kernel
theorem dX11_init_155 : decode cX11_init 155 = .ok (.aload_n 0, 1) := by decide +kernel
theorem dX11_init_156 : decode cX11_init 156 = .ok (.iconst 2, 1) := by decide +kernel
theorem dX11_init_157 : decode cX11_init 157 = .ok (.newarray .boolean, 2) := by decide +kernel
theorem dX11_init_159 : decode cX11_init 159 = .ok (.putfield 73, 3) := by decide +kernel
theorem dX11_init_162 : decode cX11_init 162 = .ok (.aload_n 0, 1) := by decide +kernel
theorem dX11_init_163 : decode cX11_init 163 = .ok (.iconst 2, 1) := by decide +kernel
theorem dX11_init_164 : decode cX11_init 164 = .ok (.newarray .boolean, 2) := by decide +kernel
theorem dX11_init_166 : decode cX11_init 166 = .ok (.putfield 76, 3) := by decide +kernel
theorem dX11_init_169 : decode cX11_init 169 = .ok (.aload_n 0, 1) := by decide +kernel
theorem dX11_init_170 : decode cX11_init 170 = .ok (.bipush 50, 2) := by decide +kernel
theorem dX11_init_172 : decode cX11_init 172 = .ok (.newarray .boolean, 2) := by decide +kernel
theorem dX11_init_174 : decode cX11_init 174 = .ok (.putfield 79, 3) := by decide +kernel
theorem dX11_init_177 : decode cX11_init 177 = .ok (.aload_n 0, 1) := by decide +kernel
theorem dX11_init_178 : decode cX11_init 178 = .ok (.bipush 12, 2) := by decide +kernel
theorem dX11_init_180 : decode cX11_init 180 = .ok (.newarray .long, 2) := by decide +kernel
theorem dX11_init_182 : decode cX11_init 182 = .ok (.putfield 82, 3) := by decide +kernel
theorem dX11_init_185 : decode cX11_init 185 = .ok (.aload_n 0, 1) := by decide +kernel
theorem dX11_init_186 : decode cX11_init 186 = .ok (.bipush 12, 2) := by decide +kernel
theorem dX11_init_188 : decode cX11_init 188 = .ok (.newarray .long, 2) := by decide +kernel
theorem dX11_init_190 : decode cX11_init 190 = .ok (.putfield 86, 3) := by decide +kernel
theorem dX11_init_193 : decode cX11_init 193 = .ok (.aload_n 0, 1) := by decide +kernel
theorem dX11_init_194 : decode cX11_init 194 = .ok (.sipush 1160, 3) := by decide +kernel
theorem dX11_init_197 : decode cX11_init 197 = .ok (.newarray .int, 2) := by decide +kernel
theorem dX11_init_199 : decode cX11_init 199 = .ok (.putfield 89, 3) := by decide +kernel
theorem dX11_init_202 : decode cX11_init 202 = .ok (.aload_n 0, 1) := by decide +kernel
theorem dX11_init_203 : decode cX11_init 203 = .ok (.sipush 1160, 3) := by decide +kernel
theorem dX11_init_206 : decode cX11_init 206 = .ok (.newarray .int, 2) := by decide +kernel
theorem dX11_init_208 : decode cX11_init 208 = .ok (.putfield 92, 3) := by decide +kernel
theorem dX11_init_211 : decode cX11_init 211 = .ok (.aload_n 0, 1) := by decide +kernel
theorem dX11_init_212 : decode cX11_init 212 = .ok (.bipush 90, 2) := by decide +kernel
theorem dX11_init_214 : decode cX11_init 214 = .ok (.newarray .int, 2) := by decide +kernel
theorem dX11_init_216 : decode cX11_init 216 = .ok (.putfield 95, 3) := by decide +kernel
theorem dX11_init_219 : decode cX11_init 219 = .ok (.aload_n 0, 1) := by decide +kernel
theorem dX11_init_220 : decode cX11_init 220 = .ok (.bipush 90, 2) := by decide +kernel
theorem dX11_init_222 : decode cX11_init 222 = .ok (.newarray .int, 2) := by decide +kernel
theorem dX11_init_224 : decode cX11_init 224 = .ok (.putfield 98, 3) := by decide +kernel
theorem dX11_init_227 : decode cX11_init 227 = .ok (.aload_n 0, 1) := by decide +kernel
theorem dX11_init_228 : decode cX11_init 228 = .ok (.bipush 60, 2) := by decide +kernel
theorem dX11_init_230 : decode cX11_init 230 = .ok (.newarray .int, 2) := by decide +kernel
theorem dX11_init_232 : decode cX11_init 232 = .ok (.putfield 101, 3) := by decide +kernel
theorem dX11_init_235 : decode cX11_init 235 = .ok (.aload_n 0, 1) := by decide +kernel
theorem dX11_init_236 : decode cX11_init 236 = .ok (.bipush 62, 2) := by decide +kernel
theorem dX11_init_238 : decode cX11_init 238 = .ok (.newarray .int, 2) := by decide +kernel
theorem dX11_init_240 : decode cX11_init 240 = .ok (.putfield 104, 3) := by decide +kernel
theorem dX11_init_243 : decode cX11_init 243 = .ok (.aload_n 0, 1) := by decide +kernel
theorem dX11_init_244 : decode cX11_init 244 = .ok (.sipush 310, 3) := by decide +kernel
theorem dX11_init_247 : decode cX11_init 247 = .ok (.newarray .int, 2) := by decide +kernel
theorem dX11_init_249 : decode cX11_init 249 = .ok (.putfield 107, 3) := by decide +kernel
theorem dX11_init_252 : decode cX11_init 252 = .ok (.aload_n 0, 1) := by decide +kernel
theorem dX11_init_253 : decode cX11_init 253 = .ok (.bipush 25, 2) := by decide +kernel
theorem dX11_init_255 : decode cX11_init 255 = .ok (.newarray .int, 2) := by decide +kernel
theorem dX11_init_257 : decode cX11_init 257 = .ok (.putfield 110, 3) := by decide +kernel
theorem dX11_init_260 : decode cX11_init 260 = .ok (.aload_n 0, 1) := by decide +kernel
theorem dX11_init_261 : decode cX11_init 261 = .ok (.bipush 25, 2) := by decide +kernel
theorem dX11_init_263 : decode cX11_init 263 = .ok (.newarray .int, 2) := by decide +kernel
theorem dX11_init_265 : decode cX11_init 265 = .ok (.putfield 113, 3) := by decide +kernel
theorem dX11_init_268 : decode cX11_init 268 = .ok (.aload_n 0, 1) := by decide +kernel
theorem dX11_init_269 : decode cX11_init 269 = .ok (.bipush 25, 2) := by decide +kernel
theorem dX11_init_271 : decode cX11_init 271 = .ok (.newarray .boolean, 2) := by decide +kernel
theorem dX11_init_273 : decode cX11_init 273 = .ok (.putfield 116, 3) := by decide +kernel
theorem dX11_init_276 : decode cX11_init 276 = .ok (.aload_n 0, 1) := by decide +kernel
theorem dX11_init_277 : decode cX11_init 277 = .ok (.sipush 2542, 3) := by decide +kernel
theorem dX11_init_280 : decode cX11_init 280 = .ok (.newarray .int, 2) := by decide +kernel
theorem dX11_init_282 : decode cX11_init 282 = .ok (.putfield 119, 3) := by decide +kernel
theorem dX11_init_285 : decode cX11_init 285 = .ok (.aload_n 0, 1) := by decide +kernel
theorem dX11_init_286 : decode cX11_init 286 = .ok (.bipush 8, 2) := by decide +kernel
theorem dX11_init_288 : decode cX11_init 288 = .ok (.newarray .int, 2) := by decide +kernel
theorem dX11_init_290 : decode cX11_init 290 = .ok (.putfield 122, 3) := by decide +kernel
theorem dX11_init_293 : decode cX11_init 293 = .ok (.aload_n 0, 1) := by decide +kernel
theorem dX11_init_294 : decode cX11_init 294 = .ok (.bipush 8, 2) := by decide +kernel
theorem dX11_init_296 : decode cX11_init 296 = .ok (.newarray .int, 2) := by decide +kernel
theorem dX11_init_298 : decode cX11_init 298 = .ok (.putfield 125, 3) := by decide +kernel
theorem dX11_init_301 : decode cX11_init 301 = .ok (.aload_n 0, 1) := by decide +kernel
theorem dX11_init_302 : decode cX11_init 302 = .ok (.bipush 8, 2) := by decide +kernel
theorem dX11_init_304 : decode cX11_init 304 = .ok (.newarray .int, 2) := by decide +kernel
theorem dX11_init_306 : decode cX11_init 306 = .ok (.putfield 128, 3) := by decide +kernel
theorem dX11_init_309 : decode cX11_init 309 = .ok (.aload_n 0, 1) := by decide +kernel
theorem dX11_init_310 : decode cX11_init 310 = .ok (.iconst 5, 1) := by decide +kernel
theorem dX11_init_311 : decode cX11_init 311 = .ok (.newarray .int, 2) := by decide +kernel
theorem dX11_init_313 : decode cX11_init 313 = .ok (.putfield 131, 3) := by decide +kernel
theorem dX11_init_316 : decode cX11_init 316 = .ok (.aload_n 0, 1) := by decide +kernel
theorem dX11_init_317 : decode cX11_init 317 = .ok (.iconst 5, 1) := by decide +kernel
theorem dX11_init_318 : decode cX11_init 318 = .ok (.newarray .int, 2) := by decide +kernel
theorem dX11_init_320 : decode cX11_init 320 = .ok (.putfield 134, 3) := by decide +kernel
theorem dX11_init_323 : decode cX11_init 323 = .ok (.aload_n 0, 1) := by decide +kernel
theorem dX11_init_324 : decode cX11_init 324 = .ok (.bipush 30, 2) := by decide +kernel
theorem dX11_init_326 : decode cX11_init 326 = .ok (.newarray .int, 2) := by decide +kernel
theorem dX11_init_328 : decode cX11_init 328 = .ok (.putfield 137, 3) := by decide +kernel
theorem dX11_init_331 : decode cX11_init 331 = .ok (.aload_n 0, 1) := by decide +kernel
theorem dX11_init_332 : decode cX11_init 332 = .ok (.bipush 30, 2) := by decide +kernel
theorem dX11_init_334 : decode cX11_init 334 = .ok (.newarray .int, 2) := by decide +kernel
theorem dX11_init_336 : decode cX11_init 336 = .ok (.putfield 140, 3) := by decide +kernel
theorem dX11_init_339 : decode cX11_init 339 = .ok (.aload_n 0, 1) := by decide +kernel
theorem dX11_init_340 : decode cX11_init 340 = .ok (.bipush 30, 2) := by decide +kernel
theorem dX11_init_342 : decode cX11_init 342 = .ok (.newarray .int, 2) := by decide +kernel
theorem dX11_init_344 : decode cX11_init 344 = .ok (.putfield 143, 3) := by decide +kernel
theorem dX11_init_347 : decode cX11_init 347 = .ok (.aload_n 0, 1) := by decide +kernel
theorem dX11_init_348 : decode cX11_init 348 = .ok (.bipush 30, 2) := by decide +kernel
theorem dX11_init_350 : decode cX11_init 350 = .ok (.newarray .int, 2) := by decide +kernel
theorem dX11_init_352 : decode cX11_init 352 = .ok (.putfield 146, 3) := by decide +kernel
theorem dX11_init_355 : decode cX11_init 355 = .ok (.aload_n 0, 1) := by decide +kernel
theorem dX11_init_356 : decode cX11_init 356 = .ok (.bipush 30, 2) := by decide +kernel
theorem dX11_init_358 : decode cX11_init 358 = .ok (.newarray .int, 2) := by decide +kernel
theorem dX11_init_360 : decode cX11_init 360 = .ok (.putfield 149, 3) := by decide +kernel
theorem dX11_init_363 : decode cX11_init 363 = .ok (.aload_n 0, 1) := by decide +kernel
theorem dX11_init_364 : decode cX11_init 364 = .ok (.bipush 30, 2) := by decide +kernel
theorem dX11_init_366 : decode cX11_init 366 = .ok (.newarray .int, 2) := by decide +kernel
theorem dX11_init_368 : decode cX11_init 368 = .ok (.putfield 152, 3) := by decide +kernel
theorem dX11_init_371 : decode cX11_init 371 = .ok (.aload_n 0, 1) := by decide +kernel
theorem dX11_init_372 : decode cX11_init 372 = .ok (.iconst 3, 1) := by decide +kernel
theorem dX11_init_373 : decode cX11_init 373 = .ok (.newarray .int, 2) := by decide +kernel
theorem dX11_init_375 : decode cX11_init 375 = .ok (.putfield 155, 3) := by decide +kernel
theorem dX11_init_378 : decode cX11_init 378 = .ok (.aload_n 0, 1) := by decide +kernel
theorem dX11_init_379 : decode cX11_init 379 = .ok (.sipush 186, 3) := by decide +kernel
theorem dX11_init_382 : decode cX11_init 382 = .ok (.newarray .int, 2) := by decide +kernel
theorem dX11_init_384 : decode cX11_init 384 = .ok (.putfield 158, 3) := by decide +kernel
theorem dX11_init_387 : decode cX11_init 387 = .ok (.aload_n 0, 1) := by decide +kernel
theorem dX11_init_388 : decode cX11_init 388 = .ok (.iconst 3, 1) := by decide +kernel
theorem dX11_init_389 : decode cX11_init 389 = .ok (.newarray .boolean, 2) := by decide +kernel
theorem dX11_init_391 : decode cX11_init 391 = .ok (.putfield 161, 3) := by decide +kernel
theorem dX11_init_394 : decode cX11_init 394 = .ok (.aload_n 0, 1) := by decide +kernel
theorem dX11_init_395 : decode cX11_init 395 = .ok (.invokevirtual 164, 3) := by decide +kernel
theorem dX11_init_398 : decode cX11_init 398 = .ok (.aload_n 0, 1) := by decide +kernel
theorem dX11_init_399 : decode cX11_init 399 = .ok (.invokevirtual 167, 3) := by decide +kernel
theorem dX11_init_402 : decode cX11_init 402 = .ok (.iconst 0, 1) := by decide +kernel
theorem dX11_init_403 : decode cX11_init 403 = .ok (.istore_n 1, 1) := by decide +kernel
theorem dX11_init_404 : decode cX11_init 404 = .ok (.iload_n 1, 1) := by decide +kernel
theorem dX11_init_405 : decode cX11_init 405 = .ok (.iconst 3, 1) := by decide +kernel
theorem dX11_init_406 : decode cX11_init 406 = .ok (.if_icmp .ge 16, 3) := by decide +kernel
theorem dX11_init_409 : decode cX11_init 409 = .ok (.aload_n 0, 1) := by decide +kernel
theorem dX11_init_410 : decode cX11_init 410 = .ok (.getfield 161, 3) := by decide +kernel
theorem dX11_init_413 : decode cX11_init 413 = .ok (.iload_n 1, 1) := by decide +kernel
theorem dX11_init_414 : decode cX11_init 414 = .ok (.iconst 0, 1) := by decide +kernel
theorem dX11_init_415 : decode cX11_init 415 = .ok (.bastore, 1) := by decide +kernel
theorem dX11_init_416 : decode cX11_init 416 = .ok (.iinc 1 1, 3) := by decide +kernel
theorem dX11_init_419 : decode cX11_init 419 = .ok (.goto (-15), 3) := by decide +kernel
theorem dX11_init_422 : decode cX11_init 422 = .ok (.return_, 1) := by decide +kernel
theorem dX11_isCell_0 : decode cX11_isCell 0 = .ok (.iload_n 1, 1) := by decide +kernel
theorem dX11_isCell_1 : decode cX11_isCell 1 = .ok (.iconst 0, 1) := by decide +kernel
theorem dX11_isCell_2 : decode cX11_isCell 2 = .ok (.aload_n 0, 1) := by decide +kernel
theorem dX11_isCell_3 : decode cX11_isCell 3 = .ok (.getfield 20, 3) := by decide +kernel
theorem dX11_isCell_6 : decode cX11_isCell 6 = .ok (.aload_n 0, 1) := by decide +kernel
theorem dX11_isCell_7 : decode cX11_isCell 7 = .ok (.getfield 288, 3) := by decide +kernel
theorem dX11_isCell_10 : decode cX11_isCell 10 = .ok (.iaload, 1) := by decide +kernel
theorem dX11_isCell_11 : decode cX11_isCell 11 = .ok (.iconst 1, 1) := by decide +kernel
theorem dX11_isCell_12 : decode cX11_isCell 12 = .ok (.isub, 1) := by decide +kernel
theorem dX11_isCell_13 : decode cX11_isCell 13 = .ok (.invokestatic 375, 3) := by decide +kernel
theorem dX11_isCell_16 : decode cX11_isCell 16 = .ok (.ifCond .eq 26, 3) := by decide +kernel
theorem dX11_isCell_19 : decode cX11_isCell 19 = .ok (.iload_n 2, 1) := by decide +kernel
theorem dX11_isCell_20 : decode cX11_isCell 20 = .ok (.iconst 0, 1) := by decide +kernel
theorem dX11_isCell_21 : decode cX11_isCell 21 = .ok (.aload_n 0, 1) := by decide +kernel
theorem dX11_isCell_22 : decode cX11_isCell 22 = .ok (.getfield 24, 3) := by decide +kernel
theorem dX11_isCell_25 : decode cX11_isCell 25 = .ok (.aload_n 0, 1) := by decide +kernel
theorem dX11_isCell_26 : decode cX11_isCell 26 = .ok (.getfield 288, 3) := by decide +kernel
theorem dX11_isCell_29 : decode cX11_isCell 29 = .ok (.iaload, 1) := by decide +kernel
theorem dX11_isCell_30 : decode cX11_isCell 30 = .ok (.iconst 1, 1) := by decide +kernel
theorem dX11_isCell_31 : decode cX11_isCell 31 = .ok (.isub, 1) := by decide +kernel
theorem dX11_isCell_32 : decode cX11_isCell 32 = .ok (.invokestatic 375, 3) := by decide +kernel
theorem dX11_isCell_35 : decode cX11_isCell 35 = .ok (.ifCond .eq 7, 3) := by decide +kernel
theorem dX11_isCell_38 : decode cX11_isCell 38 = .ok (.iconst 1, 1) := by decide +kernel
theorem dX11_isCell_39 : decode cX11_isCell 39 = .ok (.goto 4, 3) := by decide +kernel
theorem dX11_isCell_42 : decode cX11_isCell 42 = .ok (.iconst 0, 1) := by decide +kernel
theorem dX11_isCell_43 : decode cX11_isCell 43 = .ok (.ireturn, 1) := by decide +kernel
theorem dX11_isTune_0 : decode cX11_isTune 0 = .ok (.iload_n 1, 1) := by decide +kernel
theorem dX11_isTune_1 : decode cX11_isTune 1 = .ok (.iconst 0, 1) := by decide +kernel
theorem dX11_isTune_2 : decode cX11_isTune 2 = .ok (.aload_n 0, 1) := by decide +kernel
theorem dX11_isTune_3 : decode cX11_isTune 3 = .ok (.getfield 33, 3) := by decide +kernel
theorem dX11_isTune_6 : decode cX11_isTune 6 = .ok (.aload_n 0, 1) := by decide +kernel
theorem dX11_isTune_7 : decode cX11_isTune 7 = .ok (.getfield 288, 3) := by decide +kernel
theorem dX11_isTune_10 : decode cX11_isTune 10 = .ok (.iaload, 1) := by decide +kernel
theorem dX11_isTune_11 : decode cX11_isTune 11 = .ok (.iconst 1, 1) := by decide +kernel
theorem dX11_isTune_12 : decode cX11_isTune 12 = .ok (.isub, 1) := by decide +kernel
theorem dX11_isTune_13 : decode cX11_isTune 13 = .ok (.invokestatic 375, 3) := by decide +kernel
theorem dX11_isTune_16 : decode cX11_isTune 16 = .ok (.ireturn, 1) := by decide +kernel
theorem dX11_isSkater_0 : decode cX11_isSkater 0 = .ok (.iload_n 1, 1) := by decide +kernel
theorem dX11_isSkater_1 : decode cX11_isSkater 1 = .ok (.iconst 0, 1) := by decide +kernel
theorem dX11_isSkater_2 : decode cX11_isSkater 2 = .ok (.aload_n 0, 1) := by decide +kernel
theorem dX11_isSkater_3 : decode cX11_isSkater 3 = .ok (.getfield 36, 3) := by decide +kernel
theorem dX11_isSkater_6 : decode cX11_isSkater 6 = .ok (.aload_n 0, 1) := by decide +kernel
theorem dX11_isSkater_7 : decode cX11_isSkater 7 = .ok (.getfield 288, 3) := by decide +kernel
theorem dX11_isSkater_10 : decode cX11_isSkater 10 = .ok (.iaload, 1) := by decide +kernel
theorem dX11_isSkater_11 : decode cX11_isSkater 11 = .ok (.iconst 1, 1) := by decide +kernel
theorem dX11_isSkater_12 : decode cX11_isSkater 12 = .ok (.isub, 1) := by decide +kernel
theorem dX11_isSkater_13 : decode cX11_isSkater 13 = .ok (.invokestatic 375, 3) := by decide +kernel
theorem dX11_isSkater_16 : decode cX11_isSkater 16 = .ok (.ireturn, 1) := by decide +kernel
theorem dX11_upMany_0 : decode cX11_upMany 0 = .ok (.iconst 0, 1) := by decide +kernel
theorem dX11_upMany_1 : decode cX11_upMany 1 = .ok (.istore_n 1, 1) := by decide +kernel
theorem dX11_upMany_2 : decode cX11_upMany 2 = .ok (.iconst 0, 1) := by decide +kernel
theorem dX11_upMany_3 : decode cX11_upMany 3 = .ok (.istore_n 2, 1) := by decide +kernel
theorem dX11_upMany_4 : decode cX11_upMany 4 = .ok (.iload_n 2, 1) := by decide +kernel
theorem dX11_upMany_5 : decode cX11_upMany 5 = .ok (.aload_n 0, 1) := by decide +kernel
theorem dX11_upMany_6 : decode cX11_upMany 6 = .ok (.getfield 36, 3) := by decide +kernel
theorem dX11_upMany_9 : decode cX11_upMany 9 = .ok (.aload_n 0, 1) := by decide +kernel
theorem dX11_upMany_10 : decode cX11_upMany 10 = .ok (.getfield 288, 3) := by decide +kernel
theorem dX11_upMany_13 : decode cX11_upMany 13 = .ok (.iaload, 1) := by decide +kernel
theorem dX11_upMany_14 : decode cX11_upMany 14 = .ok (.if_icmp .ge 18, 3) := by decide +kernel
theorem dX11_upMany_17 : decode cX11_upMany 17 = .ok (.iload_n 1, 1) := by decide +kernel
theorem dX11_upMany_18 : decode cX11_upMany 18 = .ok (.aload_n 0, 1) := by decide +kernel
theorem dX11_upMany_19 : decode cX11_upMany 19 = .ok (.iload_n 2, 1) := by decide +kernel
theorem dX11_upMany_20 : decode cX11_upMany 20 = .ok (.iconst 2, 1) := by decide +kernel
theorem dX11_upMany_21 : decode cX11_upMany 21 = .ok (.invokevirtual 392, 3) := by decide +kernel
theorem dX11_upMany_24 : decode cX11_upMany 24 = .ok (.iadd, 1) := by decide +kernel
theorem dX11_upMany_25 : decode cX11_upMany 25 = .ok (.istore_n 1, 1) := by decide +kernel
theorem dX11_upMany_26 : decode cX11_upMany 26 = .ok (.iinc 2 1, 3) := by decide +kernel
theorem dX11_upMany_29 : decode cX11_upMany 29 = .ok (.goto (-25), 3) := by decide +kernel
theorem dX11_upMany_32 : decode cX11_upMany 32 = .ok (.iload_n 1, 1) := by decide +kernel
theorem dX11_upMany_33 : decode cX11_upMany 33 = .ok (.ireturn, 1) := by decide +kernel
theorem dX11_inMany_0 : decode cX11_inMany 0 = .ok (.aload_n 0, 1) := by decide +kernel
theorem dX11_inMany_1 : decode cX11_inMany 1 = .ok (.getfield 36, 3) := by decide +kernel
theorem dX11_inMany_4 : decode cX11_inMany 4 = .ok (.aload_n 0, 1) := by decide +kernel
theorem dX11_inMany_5 : decode cX11_inMany 5 = .ok (.getfield 288, 3) := by decide +kernel
theorem dX11_inMany_8 : decode cX11_inMany 8 = .ok (.iaload, 1) := by decide +kernel
theorem dX11_inMany_9 : decode cX11_inMany 9 = .ok (.aload_n 0, 1) := by decide +kernel
theorem dX11_inMany_10 : decode cX11_inMany 10 = .ok (.invokevirtual 422, 3) := by decide +kernel
theorem dX11_inMany_13 : decode cX11_inMany 13 = .ok (.isub, 1) := by decide +kernel
theorem dX11_inMany_14 : decode cX11_inMany 14 = .ok (.ireturn, 1) := by decide +kernel
theorem dX11_layLoads_0 : decode cX11_layLoads 0 = .ok (.iconst 0, 1) := by decide +kernel
theorem dX11_layLoads_1 : decode cX11_layLoads 1 = .ok (.istore_n 1, 1) := by decide +kernel
theorem dX11_layLoads_2 : decode cX11_layLoads 2 = .ok (.iload_n 1, 1) := by decide +kernel
theorem dX11_layLoads_3 : decode cX11_layLoads 3 = .ok (.bipush 25, 2) := by decide +kernel
theorem dX11_layLoads_5 : decode cX11_layLoads 5 = .ok (.if_icmp .ge 16, 3) := by decide +kernel
theorem dX11_layLoads_8 : decode cX11_layLoads 8 = .ok (.aload_n 0, 1) := by decide +kernel
theorem dX11_layLoads_9 : decode cX11_layLoads 9 = .ok (.getfield 110, 3) := by decide +kernel
theorem dX11_layLoads_12 : decode cX11_layLoads 12 = .ok (.iload_n 1, 1) := by decide +kernel
theorem dX11_layLoads_13 : decode cX11_layLoads 13 = .ok (.iconst 0, 1) := by decide +kernel
theorem dX11_layLoads_14 : decode cX11_layLoads 14 = .ok (.iastore, 1) := by decide +kernel
theorem dX11_layLoads_15 : decode cX11_layLoads 15 = .ok (.iinc 1 1, 3) := by decide +kernel
theorem dX11_layLoads_18 : decode cX11_layLoads 18 = .ok (.goto (-16), 3) := by decide +kernel
theorem dX11_layLoads_21 : decode cX11_layLoads 21 = .ok (.iconst 0, 1) := by decide +kernel
theorem dX11_layLoads_22 : decode cX11_layLoads 22 = .ok (.istore_n 1, 1) := by decide +kernel
theorem dX11_layLoads_23 : decode cX11_layLoads 23 = .ok (.iload_n 1, 1) := by decide +kernel
theorem dX11_layLoads_24 : decode cX11_layLoads 24 = .ok (.aload_n 0, 1) := by decide +kernel
theorem dX11_layLoads_25 : decode cX11_layLoads 25 = .ok (.getfield 36, 3) := by decide +kernel
theorem dX11_layLoads_28 : decode cX11_layLoads 28 = .ok (.aload_n 0, 1) := by decide +kernel
theorem dX11_layLoads_29 : decode cX11_layLoads 29 = .ok (.getfield 288, 3) := by decide +kernel
theorem dX11_layLoads_32 : decode cX11_layLoads 32 = .ok (.iaload, 1) := by decide +kernel
theorem dX11_layLoads_33 : decode cX11_layLoads 33 = .ok (.if_icmp .ge 56, 3) := by decide +kernel
theorem dX11_layLoads_36 : decode cX11_layLoads 36 = .ok (.aload_n 0, 1) := by decide +kernel
theorem dX11_layLoads_37 : decode cX11_layLoads 37 = .ok (.iload_n 1, 1) := by decide +kernel
theorem dX11_layLoads_38 : decode cX11_layLoads 38 = .ok (.iconst 2, 1) := by decide +kernel
theorem dX11_layLoads_39 : decode cX11_layLoads 39 = .ok (.invokevirtual 392, 3) := by decide +kernel
theorem dX11_layLoads_42 : decode cX11_layLoads 42 = .ok (.iconst 1, 1) := by decide +kernel
theorem dX11_layLoads_43 : decode cX11_layLoads 43 = .ok (.if_icmp .ne 40, 3) := by decide +kernel
theorem dX11_layLoads_46 : decode cX11_layLoads 46 = .ok (.aload_n 0, 1) := by decide +kernel
theorem dX11_layLoads_47 : decode cX11_layLoads 47 = .ok (.getfield 110, 3) := by decide +kernel
theorem dX11_layLoads_50 : decode cX11_layLoads 50 = .ok (.aload_n 0, 1) := by decide +kernel
theorem dX11_layLoads_51 : decode cX11_layLoads 51 = .ok (.iload_n 1, 1) := by decide +kernel
theorem dX11_layLoads_52 : decode cX11_layLoads 52 = .ok (.iconst 0, 1) := by decide +kernel
theorem dX11_layLoads_53 : decode cX11_layLoads 53 = .ok (.invokevirtual 392, 3) := by decide +kernel
theorem dX11_layLoads_56 : decode cX11_layLoads 56 = .ok (.iconst 5, 1) := by decide +kernel
theorem dX11_layLoads_57 : decode cX11_layLoads 57 = .ok (.aload_n 0, 1) := by decide +kernel
theorem dX11_layLoads_58 : decode cX11_layLoads 58 = .ok (.iload_n 1, 1) := by decide +kernel
theorem dX11_layLoads_59 : decode cX11_layLoads 59 = .ok (.iconst 1, 1) := by decide +kernel
theorem dX11_layLoads_60 : decode cX11_layLoads 60 = .ok (.invokevirtual 392, 3) := by decide +kernel
theorem dX11_layLoads_63 : decode cX11_layLoads 63 = .ok (.imul, 1) := by decide +kernel
theorem dX11_layLoads_64 : decode cX11_layLoads 64 = .ok (.iadd, 1) := by decide +kernel
theorem dX11_layLoads_65 : decode cX11_layLoads 65 = .ok (.dup2, 1) := by decide +kernel
theorem dX11_layLoads_66 : decode cX11_layLoads 66 = .ok (.iaload, 1) := by decide +kernel
theorem dX11_layLoads_67 : decode cX11_layLoads 67 = .ok (.aload_n 0, 1) := by decide +kernel
theorem dX11_layLoads_68 : decode cX11_layLoads 68 = .ok (.getfield 54, 3) := by decide +kernel
theorem dX11_layLoads_71 : decode cX11_layLoads 71 = .ok (.bipush 6, 2) := by decide +kernel
theorem dX11_layLoads_73 : decode cX11_layLoads 73 = .ok (.aload_n 0, 1) := by decide +kernel
theorem dX11_layLoads_74 : decode cX11_layLoads 74 = .ok (.getfield 288, 3) := by decide +kernel
theorem dX11_layLoads_77 : decode cX11_layLoads 77 = .ok (.imul, 1) := by decide +kernel
theorem dX11_layLoads_78 : decode cX11_layLoads 78 = .ok (.iload_n 1, 1) := by decide +kernel
theorem dX11_layLoads_79 : decode cX11_layLoads 79 = .ok (.iadd, 1) := by decide +kernel
theorem dX11_layLoads_80 : decode cX11_layLoads 80 = .ok (.iaload, 1) := by decide +kernel
theorem dX11_layLoads_81 : decode cX11_layLoads 81 = .ok (.iadd, 1) := by decide +kernel
theorem dX11_layLoads_82 : decode cX11_layLoads 82 = .ok (.iastore, 1) := by decide +kernel
theorem dX11_layLoads_83 : decode cX11_layLoads 83 = .ok (.iinc 1 1, 3) := by decide +kernel
theorem dX11_layLoads_86 : decode cX11_layLoads 86 = .ok (.goto (-63), 3) := by decide +kernel
theorem dX11_layLoads_89 : decode cX11_layLoads 89 = .ok (.return_, 1) := by decide +kernel
theorem dX11_keep_0 : decode cX11_keep 0 = .ok (.iconst 0, 1) := by decide +kernel
theorem dX11_keep_1 : decode cX11_keep 1 = .ok (.istore_n 2, 1) := by decide +kernel
theorem dX11_keep_2 : decode cX11_keep 2 = .ok (.iload_n 2, 1) := by decide +kernel
theorem dX11_keep_3 : decode cX11_keep 3 = .ok (.bipush 62, 2) := by decide +kernel
theorem dX11_keep_5 : decode cX11_keep 5 = .ok (.if_icmp .ge 26, 3) := by decide +kernel
theorem dX11_keep_8 : decode cX11_keep 8 = .ok (.aload_n 0, 1) := by decide +kernel
theorem dX11_keep_9 : decode cX11_keep 9 = .ok (.getfield 107, 3) := by decide +kernel
theorem dX11_keep_12 : decode cX11_keep 12 = .ok (.bipush 62, 2) := by decide +kernel
theorem dX11_keep_14 : decode cX11_keep 14 = .ok (.iload_n 1, 1) := by decide +kernel
theorem dX11_keep_15 : decode cX11_keep 15 = .ok (.imul, 1) := by decide +kernel
theorem dX11_keep_16 : decode cX11_keep 16 = .ok (.iload_n 2, 1) := by decide +kernel
theorem dX11_keep_17 : decode cX11_keep 17 = .ok (.iadd, 1) := by decide +kernel
theorem dX11_keep_18 : decode cX11_keep 18 = .ok (.aload_n 0, 1) := by decide +kernel
theorem dX11_keep_19 : decode cX11_keep 19 = .ok (.getfield 104, 3) := by decide +kernel
theorem dX11_keep_22 : decode cX11_keep 22 = .ok (.iload_n 2, 1) := by decide +kernel
theorem dX11_keep_23 : decode cX11_keep 23 = .ok (.iaload, 1) := by decide +kernel
theorem dX11_keep_24 : decode cX11_keep 24 = .ok (.iastore, 1) := by decide +kernel
theorem dX11_keep_25 : decode cX11_keep 25 = .ok (.iinc 2 1, 3) := by decide +kernel
theorem dX11_keep_28 : decode cX11_keep 28 = .ok (.goto (-26), 3) := by decide +kernel
theorem dX11_keep_31 : decode cX11_keep 31 = .ok (.return_, 1) := by decide +kernel
theorem dX11_bring_0 : decode cX11_bring 0 = .ok (.iconst 0, 1) := by decide +kernel
theorem dX11_bring_1 : decode cX11_bring 1 = .ok (.istore_n 2, 1) := by decide +kernel
theorem dX11_bring_2 : decode cX11_bring 2 = .ok (.iload_n 2, 1) := by decide +kernel
theorem dX11_bring_3 : decode cX11_bring 3 = .ok (.bipush 62, 2) := by decide +kernel
theorem dX11_bring_5 : decode cX11_bring 5 = .ok (.if_icmp .ge 26, 3) := by decide +kernel
theorem dX11_bring_8 : decode cX11_bring 8 = .ok (.aload_n 0, 1) := by decide +kernel
theorem dX11_bring_9 : decode cX11_bring 9 = .ok (.getfield 104, 3) := by decide +kernel
theorem dX11_bring_12 : decode cX11_bring 12 = .ok (.iload_n 2, 1) := by decide +kernel
theorem dX11_bring_13 : decode cX11_bring 13 = .ok (.aload_n 0, 1) := by decide +kernel
theorem dX11_bring_14 : decode cX11_bring 14 = .ok (.getfield 107, 3) := by decide +kernel
theorem dX11_bring_17 : decode cX11_bring 17 = .ok (.bipush 62, 2) := by decide +kernel
theorem dX11_bring_19 : decode cX11_bring 19 = .ok (.iload_n 1, 1) := by decide +kernel
theorem dX11_bring_20 : decode cX11_bring 20 = .ok (.imul, 1) := by decide +kernel
theorem dX11_bring_21 : decode cX11_bring 21 = .ok (.iload_n 2, 1) := by decide +kernel
theorem dX11_bring_22 : decode cX11_bring 22 = .ok (.iadd, 1) := by decide +kernel
theorem dX11_bring_23 : decode cX11_bring 23 = .ok (.iaload, 1) := by decide +kernel
theorem dX11_bring_24 : decode cX11_bring 24 = .ok (.iastore, 1) := by decide +kernel
theorem dX11_bring_25 : decode cX11_bring 25 = .ok (.iinc 2 1, 3) := by decide +kernel
theorem dX11_bring_28 : decode cX11_bring 28 = .ok (.goto (-26), 3) := by decide +kernel
theorem dX11_bring_31 : decode cX11_bring 31 = .ok (.return_, 1) := by decide +kernel
theorem dX11_feed_0 : decode cX11_feed 0 = .ok (.aload_n 0, 1) := by decide +kernel
theorem dX11_feed_1 : decode cX11_feed 1 = .ok (.getfield 285, 3) := by decide +kernel
theorem dX11_feed_4 : decode cX11_feed 4 = .ok (.bipush 20, 2) := by decide +kernel
theorem dX11_feed_6 : decode cX11_feed 6 = .ok (.iadd, 1) := by decide +kernel
theorem dX11_feed_7 : decode cX11_feed 7 = .ok (.sipush 1600, 3) := by decide +kernel
theorem dX11_feed_10 : decode cX11_feed 10 = .ok (.if_icmp .le 5, 3) := by decide +kernel
theorem dX11_feed_13 : decode cX11_feed 13 = .ok (.iconst (-1), 1) := by decide +kernel
theorem dX11_feed_14 : decode cX11_feed 14 = .ok (.ireturn, 1) := by decide +kernel
theorem dX11_feed_15 : decode cX11_feed 15 = .ok (.iconst 0, 1) := by decide +kernel
theorem dX11_feed_16 : decode cX11_feed 16 = .ok (.istore 6, 2) := by decide +kernel
theorem dX11_feed_18 : decode cX11_feed 18 = .ok (.iload 6, 2) := by decide +kernel
theorem dX11_feed_20 : decode cX11_feed 20 = .ok (.bipush 20, 2) := by decide +kernel
theorem dX11_feed_22 : decode cX11_feed 22 = .ok (.if_icmp .ge 83, 3) := by decide +kernel
theorem dX11_feed_25 : decode cX11_feed 25 = .ok (.iload 6, 2) := by decide +kernel
theorem dX11_feed_27 : decode cX11_feed 27 = .ok (.iconst 4, 1) := by decide +kernel
theorem dX11_feed_28 : decode cX11_feed 28 = .ok (.if_icmp .ge 7, 3) := by decide +kernel
theorem dX11_feed_31 : decode cX11_feed 31 = .ok (.iload_n 1, 1) := by decide +kernel
theorem dX11_feed_32 : decode cX11_feed 32 = .ok (.goto 39, 3) := by decide +kernel
theorem dX11_feed_35 : decode cX11_feed 35 = .ok (.iload 6, 2) := by decide +kernel
theorem dX11_feed_37 : decode cX11_feed 37 = .ok (.bipush 8, 2) := by decide +kernel
theorem dX11_feed_39 : decode cX11_feed 39 = .ok (.if_icmp .ge 7, 3) := by decide +kernel
theorem dX11_feed_42 : decode cX11_feed 42 = .ok (.iload_n 2, 1) := by decide +kernel
theorem dX11_feed_43 : decode cX11_feed 43 = .ok (.goto 28, 3) := by decide +kernel
theorem dX11_feed_46 : decode cX11_feed 46 = .ok (.iload 6, 2) := by decide +kernel
theorem dX11_feed_48 : decode cX11_feed 48 = .ok (.bipush 12, 2) := by decide +kernel
theorem dX11_feed_50 : decode cX11_feed 50 = .ok (.if_icmp .ge 7, 3) := by decide +kernel
theorem dX11_feed_53 : decode cX11_feed 53 = .ok (.iload_n 3, 1) := by decide +kernel
theorem dX11_feed_54 : decode cX11_feed 54 = .ok (.goto 17, 3) := by decide +kernel
theorem dX11_feed_57 : decode cX11_feed 57 = .ok (.iload 6, 2) := by decide +kernel
theorem dX11_feed_59 : decode cX11_feed 59 = .ok (.bipush 16, 2) := by decide +kernel
theorem dX11_feed_61 : decode cX11_feed 61 = .ok (.if_icmp .ge 8, 3) := by decide +kernel
theorem dX11_feed_64 : decode cX11_feed 64 = .ok (.iload 4, 2) := by decide +kernel
theorem dX11_feed_66 : decode cX11_feed 66 = .ok (.goto 5, 3) := by decide +kernel
theorem dX11_feed_69 : decode cX11_feed 69 = .ok (.iload 5, 2) := by decide +kernel
theorem dX11_feed_71 : decode cX11_feed 71 = .ok (.istore 7, 2) := by decide +kernel
theorem dX11_feed_73 : decode cX11_feed 73 = .ok (.aload_n 0, 1) := by decide +kernel
theorem dX11_feed_74 : decode cX11_feed 74 = .ok (.getfield 7, 3) := by decide +kernel
theorem dX11_feed_77 : decode cX11_feed 77 = .ok (.aload_n 0, 1) := by decide +kernel
theorem dX11_feed_78 : decode cX11_feed 78 = .ok (.getfield 285, 3) := by decide +kernel
theorem dX11_feed_81 : decode cX11_feed 81 = .ok (.iload 6, 2) := by decide +kernel
theorem dX11_feed_83 : decode cX11_feed 83 = .ok (.iadd, 1) := by decide +kernel
theorem dX11_feed_84 : decode cX11_feed 84 = .ok (.iload 7, 2) := by decide +kernel
theorem dX11_feed_86 : decode cX11_feed 86 = .ok (.bipush 24, 2) := by decide +kernel
theorem dX11_feed_88 : decode cX11_feed 88 = .ok (.bipush 8, 2) := by decide +kernel
theorem dX11_feed_90 : decode cX11_feed 90 = .ok (.iload 6, 2) := by decide +kernel
theorem dX11_feed_92 : decode cX11_feed 92 = .ok (.iconst 3, 1) := by decide +kernel
theorem dX11_feed_93 : decode cX11_feed 93 = .ok (.iand, 1) := by decide +kernel
theorem dX11_feed_94 : decode cX11_feed 94 = .ok (.imul, 1) := by decide +kernel
theorem dX11_feed_95 : decode cX11_feed 95 = .ok (.isub, 1) := by decide +kernel
theorem dX11_feed_96 : decode cX11_feed 96 = .ok (.ishr, 1) := by decide +kernel
theorem dX11_feed_97 : decode cX11_feed 97 = .ok (.i2b, 1) := by decide +kernel
theorem dX11_feed_98 : decode cX11_feed 98 = .ok (.bastore, 1) := by decide +kernel
theorem dX11_feed_99 : decode cX11_feed 99 = .ok (.iinc 6 1, 3) := by decide +kernel
theorem dX11_feed_102 : decode cX11_feed 102 = .ok (.goto (-84), 3) := by decide +kernel
theorem dX11_feed_105 : decode cX11_feed 105 = .ok (.aload_n 0, 1) := by decide +kernel
theorem dX11_feed_106 : decode cX11_feed 106 = .ok (.dup, 1) := by decide +kernel
theorem dX11_feed_107 : decode cX11_feed 107 = .ok (.getfield 285, 3) := by decide +kernel
theorem dX11_feed_110 : decode cX11_feed 110 = .ok (.bipush 20, 2) := by decide +kernel
theorem dX11_feed_112 : decode cX11_feed 112 = .ok (.iadd, 1) := by decide +kernel
theorem dX11_feed_113 : decode cX11_feed 113 = .ok (.putfield 285, 3) := by decide +kernel
theorem dX11_feed_116 : decode cX11_feed 116 = .ok (.aload_n 0, 1) := by decide +kernel
theorem dX11_feed_117 : decode cX11_feed 117 = .ok (.getfield 285, 3) := by decide +kernel
theorem dX11_feed_120 : decode cX11_feed 120 = .ok (.ireturn, 1) := by decide +kernel
theorem dX11_end_0 : decode cX11_end 0 = .ok (.iload_n 1, 1) := by decide +kernel
theorem dX11_end_1 : decode cX11_end 1 = .ok (.ifCond .lt 11, 3) := by decide +kernel
theorem dX11_end_4 : decode cX11_end 4 = .ok (.iload_n 1, 1) := by decide +kernel
theorem dX11_end_5 : decode cX11_end 5 = .ok (.aload_n 0, 1) := by decide +kernel
theorem dX11_end_6 : decode cX11_end 6 = .ok (.getfield 285, 3) := by decide +kernel
theorem dX11_end_9 : decode cX11_end 9 = .ok (.if_icmp .le 5, 3) := by decide +kernel
theorem dX11_end_12 : decode cX11_end 12 = .ok (.iconst (-1), 1) := by decide +kernel
theorem dX11_end_13 : decode cX11_end 13 = .ok (.ireturn, 1) := by decide +kernel
theorem dX11_end_14 : decode cX11_end 14 = .ok (.aload_n 0, 1) := by decide +kernel
theorem dX11_end_15 : decode cX11_end 15 = .ok (.iload_n 1, 1) := by decide +kernel
theorem dX11_end_16 : decode cX11_end 16 = .ok (.putfield 285, 3) := by decide +kernel
theorem dX11_end_19 : decode cX11_end 19 = .ok (.iload_n 1, 1) := by decide +kernel
theorem dX11_end_20 : decode cX11_end 20 = .ok (.ireturn, 1) := by decide +kernel
theorem dX11_fault_0 : decode cX11_fault 0 = .ok (.iload_n 1, 1) := by decide +kernel
theorem dX11_fault_1 : decode cX11_fault 1 = .ok (.ifCond .ne 10, 3) := by decide +kernel
theorem dX11_fault_4 : decode cX11_fault 4 = .ok (.aload_n 0, 1) := by decide +kernel
theorem dX11_fault_5 : decode cX11_fault 5 = .ok (.getfield 173, 3) := by decide +kernel
theorem dX11_fault_8 : decode cX11_fault 8 = .ok (.goto 16, 3) := by decide +kernel
theorem dX11_fault_11 : decode cX11_fault 11 = .ok (.iload_n 1, 1) := by decide +kernel
theorem dX11_fault_12 : decode cX11_fault 12 = .ok (.iconst 1, 1) := by decide +kernel
theorem dX11_fault_13 : decode cX11_fault 13 = .ok (.if_icmp .ne 10, 3) := by decide +kernel
theorem dX11_fault_16 : decode cX11_fault 16 = .ok (.aload_n 0, 1) := by decide +kernel
theorem dX11_fault_17 : decode cX11_fault 17 = .ok (.getfield 16, 3) := by decide +kernel
theorem dX11_fault_20 : decode cX11_fault 20 = .ok (.goto 4, 3) := by decide +kernel
theorem dX11_fault_23 : decode cX11_fault 23 = .ok (.iconst (-1), 1) := by decide +kernel
theorem dX11_fault_24 : decode cX11_fault 24 = .ok (.ireturn, 1) := by decide +kernel
theorem dX11_ice_0 : decode cX11_ice 0 = .ok (.aload_n 0, 1) := by decide +kernel
theorem dX11_ice_1 : decode cX11_ice 1 = .ok (.iload_n 1, 1) := by decide +kernel
theorem dX11_ice_2 : decode cX11_ice 2 = .ok (.iload_n 2, 1) := by decide +kernel
theorem dX11_ice_3 : decode cX11_ice 3 = .ok (.invokevirtual 395, 3) := by decide +kernel
theorem dX11_ice_6 : decode cX11_ice 6 = .ok (.ifCond .eq 16, 3) := by decide +kernel
theorem dX11_ice_9 : decode cX11_ice 9 = .ok (.aload_n 0, 1) := by decide +kernel
theorem dX11_ice_10 : decode cX11_ice 10 = .ok (.getfield 104, 3) := by decide +kernel
theorem dX11_ice_13 : decode cX11_ice 13 = .ok (.iload_n 1, 1) := by decide +kernel
theorem dX11_ice_14 : decode cX11_ice 14 = .ok (.iconst 5, 1) := by decide +kernel
theorem dX11_ice_15 : decode cX11_ice 15 = .ok (.iload_n 2, 1) := by decide +kernel
theorem dX11_ice_16 : decode cX11_ice 16 = .ok (.imul, 1) := by decide +kernel
theorem dX11_ice_17 : decode cX11_ice 17 = .ok (.iadd, 1) := by decide +kernel
theorem dX11_ice_18 : decode cX11_ice 18 = .ok (.iaload, 1) := by decide +kernel
theorem dX11_ice_19 : decode cX11_ice 19 = .ok (.goto 4, 3) := by decide +kernel
theorem dX11_ice_22 : decode cX11_ice 22 = .ok (.iconst (-1), 1) := by decide +kernel
theorem dX11_ice_23 : decode cX11_ice 23 = .ok (.ireturn, 1) := by decide +kernel
theorem dX11_load_0 : decode cX11_load 0 = .ok (.aload_n 0, 1) := by decide +kernel
theorem dX11_load_1 : decode cX11_load 1 = .ok (.invokevirtual 402, 3) := by decide +kernel
theorem dX11_load_4 : decode cX11_load 4 = .ok (.aload_n 0, 1) := by decide +kernel
theorem dX11_load_5 : decode cX11_load 5 = .ok (.iload_n 1, 1) := by decide +kernel
theorem dX11_load_6 : decode cX11_load 6 = .ok (.iload_n 2, 1) := by decide +kernel
theorem dX11_load_7 : decode cX11_load 7 = .ok (.invokevirtual 395, 3) := by decide +kernel
theorem dX11_load_10 : decode cX11_load 10 = .ok (.ifCond .eq 16, 3) := by decide +kernel
theorem dX11_load_13 : decode cX11_load 13 = .ok (.aload_n 0, 1) := by decide +kernel
theorem dX11_load_14 : decode cX11_load 14 = .ok (.getfield 110, 3) := by decide +kernel
theorem dX11_load_17 : decode cX11_load 17 = .ok (.iload_n 1, 1) := by decide +kernel
theorem dX11_load_18 : decode cX11_load 18 = .ok (.iconst 5, 1) := by decide +kernel
theorem dX11_load_19 : decode cX11_load 19 = .ok (.iload_n 2, 1) := by decide +kernel
theorem dX11_load_20 : decode cX11_load 20 = .ok (.imul, 1) := by decide +kernel
theorem dX11_load_21 : decode cX11_load 21 = .ok (.iadd, 1) := by decide +kernel
theorem dX11_load_22 : decode cX11_load 22 = .ok (.iaload, 1) := by decide +kernel
theorem dX11_load_23 : decode cX11_load 23 = .ok (.goto 4, 3) := by decide +kernel
theorem dX11_load_26 : decode cX11_load 26 = .ok (.iconst (-1), 1) := by decide +kernel
theorem dX11_load_27 : decode cX11_load 27 = .ok (.ireturn, 1) := by decide +kernel
theorem dX11_skater_0 : decode cX11_skater 0 = .ok (.aload_n 0, 1) := by decide +kernel
theorem dX11_skater_1 : decode cX11_skater 1 = .ok (.iload_n 1, 1) := by decide +kernel
theorem dX11_skater_2 : decode cX11_skater 2 = .ok (.invokevirtual 425, 3) := by decide +kernel
theorem dX11_skater_5 : decode cX11_skater 5 = .ok (.ifCond .eq 21, 3) := by decide +kernel
theorem dX11_skater_8 : decode cX11_skater 8 = .ok (.iload_n 2, 1) := by decide +kernel
theorem dX11_skater_9 : decode cX11_skater 9 = .ok (.iconst 0, 1) := by decide +kernel
theorem dX11_skater_10 : decode cX11_skater 10 = .ok (.iconst 5, 1) := by decide +kernel
theorem dX11_skater_11 : decode cX11_skater 11 = .ok (.invokestatic 375, 3) := by decide +kernel
theorem dX11_skater_14 : decode cX11_skater 14 = .ok (.ifCond .eq 12, 3) := by decide +kernel
theorem dX11_skater_17 : decode cX11_skater 17 = .ok (.aload_n 0, 1) := by decide +kernel
theorem dX11_skater_18 : decode cX11_skater 18 = .ok (.iload_n 1, 1) := by decide +kernel
theorem dX11_skater_19 : decode cX11_skater 19 = .ok (.iload_n 2, 1) := by decide +kernel
theorem dX11_skater_20 : decode cX11_skater 20 = .ok (.invokevirtual 392, 3) := by decide +kernel
theorem dX11_skater_23 : decode cX11_skater 23 = .ok (.goto 5, 3) := by decide +kernel
theorem dX11_skater_26 : decode cX11_skater 26 = .ok (.bipush (-2), 2) := by decide +kernel
theorem dX11_skater_28 : decode cX11_skater 28 = .ok (.ireturn, 1) := by decide +kernel
theorem dX11_play_0 : decode cX11_play 0 = .ok (.aload_n 0, 1) := by decide +kernel
theorem dX11_play_1 : decode cX11_play 1 = .ok (.iload_n 1, 1) := by decide +kernel
theorem dX11_play_2 : decode cX11_play 2 = .ok (.invokevirtual 428, 3) := by decide +kernel
theorem dX11_play_5 : decode cX11_play 5 = .ok (.ifCond .eq 31, 3) := by decide +kernel
theorem dX11_play_8 : decode cX11_play 8 = .ok (.aload_n 0, 1) := by decide +kernel
theorem dX11_play_9 : decode cX11_play 9 = .ok (.getfield 104, 3) := by decide +kernel
theorem dX11_play_12 : decode cX11_play 12 = .ok (.bipush 61, 2) := by decide +kernel
theorem dX11_play_14 : decode cX11_play 14 = .ok (.iaload, 1) := by decide +kernel
theorem dX11_play_15 : decode cX11_play 15 = .ok (.aload_n 0, 1) := by decide +kernel
theorem dX11_play_16 : decode cX11_play 16 = .ok (.getfield 45, 3) := by decide +kernel
theorem dX11_play_19 : decode cX11_play 19 = .ok (.bipush 6, 2) := by decide +kernel
theorem dX11_play_21 : decode cX11_play 21 = .ok (.aload_n 0, 1) := by decide +kernel
theorem dX11_play_22 : decode cX11_play 22 = .ok (.getfield 288, 3) := by decide +kernel
theorem dX11_play_25 : decode cX11_play 25 = .ok (.imul, 1) := by decide +kernel
theorem dX11_play_26 : decode cX11_play 26 = .ok (.iload_n 1, 1) := by decide +kernel
theorem dX11_play_27 : decode cX11_play 27 = .ok (.iadd, 1) := by decide +kernel
theorem dX11_play_28 : decode cX11_play 28 = .ok (.iaload, 1) := by decide +kernel
theorem dX11_play_29 : decode cX11_play 29 = .ok (.iadd, 1) := by decide +kernel
theorem dX11_play_30 : decode cX11_play 30 = .ok (.sipush 2000, 3) := by decide +kernel
theorem dX11_play_33 : decode cX11_play 33 = .ok (.if_icmp .le 5, 3) := by decide +kernel
theorem dX11_play_36 : decode cX11_play 36 = .ok (.iconst (-1), 1) := by decide +kernel
theorem dX11_play_37 : decode cX11_play 37 = .ok (.ireturn, 1) := by decide +kernel
theorem dX11_play_38 : decode cX11_play 38 = .ok (.aload_n 0, 1) := by decide +kernel
theorem dX11_play_39 : decode cX11_play 39 = .ok (.invokevirtual 431, 3) := by decide +kernel
theorem dX11_play_42 : decode cX11_play 42 = .ok (.aload_n 0, 1) := by decide +kernel
theorem dX11_play_43 : decode cX11_play 43 = .ok (.iload_n 1, 1) := by decide +kernel
theorem dX11_play_44 : decode cX11_play 44 = .ok (.invokevirtual 434, 3) := by decide +kernel
theorem dX11_play_47 : decode cX11_play 47 = .ok (.aload_n 0, 1) := by decide +kernel
theorem dX11_play_48 : decode cX11_play 48 = .ok (.invokevirtual 422, 3) := by decide +kernel
theorem dX11_play_51 : decode cX11_play 51 = .ok (.ireturn, 1) := by decide +kernel
theorem dX11_undo_0 : decode cX11_undo 0 = .ok (.aload_n 0, 1) := by decide +kernel
theorem dX11_undo_1 : decode cX11_undo 1 = .ok (.getfield 386, 3) := by decide +kernel
theorem dX11_undo_4 : decode cX11_undo 4 = .ok (.ifCond .ne 5, 3) := by decide +kernel
theorem dX11_undo_7 : decode cX11_undo 7 = .ok (.iconst 0, 1) := by decide +kernel
theorem dX11_undo_8 : decode cX11_undo 8 = .ok (.ireturn, 1) := by decide +kernel
theorem dX11_undo_9 : decode cX11_undo 9 = .ok (.aload_n 0, 1) := by decide +kernel
theorem dX11_undo_10 : decode cX11_undo 10 = .ok (.dup, 1) := by decide +kernel
theorem dX11_undo_11 : decode cX11_undo 11 = .ok (.getfield 386, 3) := by decide +kernel
theorem dX11_undo_14 : decode cX11_undo 14 = .ok (.iconst 1, 1) := by decide +kernel
theorem dX11_undo_15 : decode cX11_undo 15 = .ok (.isub, 1) := by decide +kernel
theorem dX11_undo_16 : decode cX11_undo 16 = .ok (.putfield 386, 3) := by decide +kernel
theorem dX11_undo_19 : decode cX11_undo 19 = .ok (.aload_n 0, 1) := by decide +kernel
theorem dX11_undo_20 : decode cX11_undo 20 = .ok (.dup, 1) := by decide +kernel
theorem dX11_undo_21 : decode cX11_undo 21 = .ok (.getfield 389, 3) := by decide +kernel
theorem dX11_undo_24 : decode cX11_undo 24 = .ok (.iconst 1, 1) := by decide +kernel
theorem dX11_undo_25 : decode cX11_undo 25 = .ok (.iadd, 1) := by decide +kernel
theorem dX11_undo_26 : decode cX11_undo 26 = .ok (.putfield 389, 3) := by decide +kernel
theorem dX11_undo_29 : decode cX11_undo 29 = .ok (.aload_n 0, 1) := by decide +kernel
theorem dX11_undo_30 : decode cX11_undo 30 = .ok (.invokevirtual 440, 3) := by decide +kernel
theorem dX11_undo_33 : decode cX11_undo 33 = .ok (.iconst 1, 1) := by decide +kernel
theorem dX11_undo_34 : decode cX11_undo 34 = .ok (.ireturn, 1) := by decide +kernel
theorem dX11_redo_0 : decode cX11_redo 0 = .ok (.aload_n 0, 1) := by decide +kernel
theorem dX11_redo_1 : decode cX11_redo 1 = .ok (.getfield 389, 3) := by decide +kernel
theorem dX11_redo_4 : decode cX11_redo 4 = .ok (.ifCond .ne 5, 3) := by decide +kernel
theorem dX11_redo_7 : decode cX11_redo 7 = .ok (.iconst 0, 1) := by decide +kernel
theorem dX11_redo_8 : decode cX11_redo 8 = .ok (.ireturn, 1) := by decide +kernel
theorem dX11_redo_9 : decode cX11_redo 9 = .ok (.aload_n 0, 1) := by decide +kernel
theorem dX11_redo_10 : decode cX11_redo 10 = .ok (.invokevirtual 440, 3) := by decide +kernel
theorem dX11_redo_13 : decode cX11_redo 13 = .ok (.aload_n 0, 1) := by decide +kernel
theorem dX11_redo_14 : decode cX11_redo 14 = .ok (.dup, 1) := by decide +kernel
theorem dX11_redo_15 : decode cX11_redo 15 = .ok (.getfield 386, 3) := by decide +kernel
theorem dX11_redo_18 : decode cX11_redo 18 = .ok (.iconst 1, 1) := by decide +kernel
theorem dX11_redo_19 : decode cX11_redo 19 = .ok (.iadd, 1) := by decide +kernel
theorem dX11_redo_20 : decode cX11_redo 20 = .ok (.putfield 386, 3) := by decide +kernel
theorem dX11_redo_23 : decode cX11_redo 23 = .ok (.aload_n 0, 1) := by decide +kernel
theorem dX11_redo_24 : decode cX11_redo 24 = .ok (.dup, 1) := by decide +kernel
theorem dX11_redo_25 : decode cX11_redo 25 = .ok (.getfield 389, 3) := by decide +kernel
theorem dX11_redo_28 : decode cX11_redo 28 = .ok (.iconst 1, 1) := by decide +kernel
theorem dX11_redo_29 : decode cX11_redo 29 = .ok (.isub, 1) := by decide +kernel
theorem dX11_redo_30 : decode cX11_redo 30 = .ok (.putfield 389, 3) := by decide +kernel
theorem dX11_redo_33 : decode cX11_redo 33 = .ok (.iconst 1, 1) := by decide +kernel
theorem dX11_redo_34 : decode cX11_redo 34 = .ok (.ireturn, 1) := by decide +kernel
theorem dX11_isSet_0 : decode cX11_isSet 0 = .ok (.iload_n 1, 1) := by decide +kernel
theorem dX11_isSet_1 : decode cX11_isSet 1 = .ok (.ifCond .lt 22, 3) := by decide +kernel
theorem dX11_isSet_4 : decode cX11_isSet 4 = .ok (.iload_n 1, 1) := by decide +kernel
theorem dX11_isSet_5 : decode cX11_isSet 5 = .ok (.iconst 1, 1) := by decide +kernel
theorem dX11_isSet_6 : decode cX11_isSet 6 = .ok (.aload_n 0, 1) := by decide +kernel
theorem dX11_isSet_7 : decode cX11_isSet 7 = .ok (.getfield 33, 3) := by decide +kernel
theorem dX11_isSet_10 : decode cX11_isSet 10 = .ok (.aload_n 0, 1) := by decide +kernel
theorem dX11_isSet_11 : decode cX11_isSet 11 = .ok (.getfield 288, 3) := by decide +kernel
theorem dX11_isSet_14 : decode cX11_isSet 14 = .ok (.iaload, 1) := by decide +kernel
theorem dX11_isSet_15 : decode cX11_isSet 15 = .ok (.ishl, 1) := by decide +kernel
theorem dX11_isSet_16 : decode cX11_isSet 16 = .ok (.if_icmp .ge 7, 3) := by decide +kernel
theorem dX11_isSet_19 : decode cX11_isSet 19 = .ok (.iconst 1, 1) := by decide +kernel
theorem dX11_isSet_20 : decode cX11_isSet 20 = .ok (.goto 4, 3) := by decide +kernel
theorem dX11_isSet_23 : decode cX11_isSet 23 = .ok (.iconst 0, 1) := by decide +kernel
theorem dX11_isSet_24 : decode cX11_isSet 24 = .ok (.ireturn, 1) := by decide +kernel
theorem dX11_duel_0 : decode cX11_duel 0 = .ok (.aload_n 0, 1) := by decide +kernel
theorem dX11_duel_1 : decode cX11_duel 1 = .ok (.iload_n 1, 1) := by decide +kernel
theorem dX11_duel_2 : decode cX11_duel 2 = .ok (.invokevirtual 446, 3) := by decide +kernel
theorem dX11_duel_5 : decode cX11_duel 5 = .ok (.ifCond .eq 25, 3) := by decide +kernel
theorem dX11_duel_8 : decode cX11_duel 8 = .ok (.iload_n 1, 1) := by decide +kernel
theorem dX11_duel_9 : decode cX11_duel 9 = .ok (.ifCond .eq 21, 3) := by decide +kernel
theorem dX11_duel_12 : decode cX11_duel 12 = .ok (.iload_n 2, 1) := by decide +kernel
theorem dX11_duel_13 : decode cX11_duel 13 = .ok (.iconst 1, 1) := by decide +kernel
theorem dX11_duel_14 : decode cX11_duel 14 = .ok (.iconst 4, 1) := by decide +kernel
theorem dX11_duel_15 : decode cX11_duel 15 = .ok (.invokestatic 375, 3) := by decide +kernel
theorem dX11_duel_18 : decode cX11_duel 18 = .ok (.ifCond .eq 12, 3) := by decide +kernel
theorem dX11_duel_21 : decode cX11_duel 21 = .ok (.iload_n 3, 1) := by decide +kernel
theorem dX11_duel_22 : decode cX11_duel 22 = .ok (.iconst 0, 1) := by decide +kernel
theorem dX11_duel_23 : decode cX11_duel 23 = .ok (.iconst 1, 1) := by decide +kernel
theorem dX11_duel_24 : decode cX11_duel 24 = .ok (.invokestatic 375, 3) := by decide +kernel
theorem dX11_duel_27 : decode cX11_duel 27 = .ok (.ifCond .ne 5, 3) := by decide +kernel
theorem dX11_duel_30 : decode cX11_duel 30 = .ok (.iconst (-1), 1) := by decide +kernel
theorem dX11_duel_31 : decode cX11_duel 31 = .ok (.ireturn, 1) := by decide +kernel
theorem dX11_duel_32 : decode cX11_duel 32 = .ok (.aload_n 0, 1) := by decide +kernel
theorem dX11_duel_33 : decode cX11_duel 33 = .ok (.aload_n 0, 1) := by decide +kernel
theorem dX11_duel_34 : decode cX11_duel 34 = .ok (.iload_n 1, 1) := by decide +kernel
theorem dX11_duel_35 : decode cX11_duel 35 = .ok (.invokevirtual 449, 3) := by decide +kernel
theorem dX11_duel_38 : decode cX11_duel 38 = .ok (.iload_n 2, 1) := by decide +kernel
theorem dX11_duel_39 : decode cX11_duel 39 = .ok (.invokevirtual 471, 3) := by decide +kernel
theorem dX11_duel_42 : decode cX11_duel 42 = .ok (.istore 4, 2) := by decide +kernel
theorem dX11_duel_44 : decode cX11_duel 44 = .ok (.iload_n 3, 1) := by decide +kernel
theorem dX11_duel_45 : decode cX11_duel 45 = .ok (.ifCond .ne 8, 3) := by decide +kernel
theorem dX11_duel_48 : decode cX11_duel 48 = .ok (.iload 4, 2) := by decide +kernel
theorem dX11_duel_50 : decode cX11_duel 50 = .ok (.goto 9, 3) := by decide +kernel
theorem dX11_duel_53 : decode cX11_duel 53 = .ok (.aload_n 0, 1) := by decide +kernel
theorem dX11_duel_54 : decode cX11_duel 54 = .ok (.getfield 125, 3) := by decide +kernel
theorem dX11_duel_57 : decode cX11_duel 57 = .ok (.iconst 0, 1) := by decide +kernel
theorem dX11_duel_58 : decode cX11_duel 58 = .ok (.iaload, 1) := by decide +kernel
theorem dX11_duel_59 : decode cX11_duel 59 = .ok (.ireturn, 1) := by decide +kernel
theorem dX11_planks_0 : decode cX11_planks 0 = .ok (.aload_n 0, 1) := by decide +kernel
theorem dX11_planks_1 : decode cX11_planks 1 = .ok (.iconst 0, 1) := by decide +kernel
theorem dX11_planks_2 : decode cX11_planks 2 = .ok (.putfield 297, 3) := by decide +kernel
theorem dX11_planks_5 : decode cX11_planks 5 = .ok (.aload_n 0, 1) := by decide +kernel
theorem dX11_planks_6 : decode cX11_planks 6 = .ok (.iload_n 1, 1) := by decide +kernel
theorem dX11_planks_7 : decode cX11_planks 7 = .ok (.invokevirtual 428, 3) := by decide +kernel
theorem dX11_planks_10 : decode cX11_planks 10 = .ok (.ifCond .ne 6, 3) := by decide +kernel
theorem dX11_planks_13 : decode cX11_planks 13 = .ok (.bipush (-2), 2) := by decide +kernel
theorem dX11_planks_15 : decode cX11_planks 15 = .ok (.ireturn, 1) := by decide +kernel
theorem dX11_planks_16 : decode cX11_planks 16 = .ok (.aload_n 0, 1) := by decide +kernel
theorem dX11_planks_17 : decode cX11_planks 17 = .ok (.iload_n 1, 1) := by decide +kernel
theorem dX11_planks_18 : decode cX11_planks 18 = .ok (.invokevirtual 474, 3) := by decide +kernel
theorem dX11_planks_21 : decode cX11_planks 21 = .ok (.ifCond .eq 5, 3) := by decide +kernel
theorem dX11_planks_24 : decode cX11_planks 24 = .ok (.iconst 0, 1) := by decide +kernel
theorem dX11_planks_25 : decode cX11_planks 25 = .ok (.ireturn, 1) := by decide +kernel
theorem dX11_planks_26 : decode cX11_planks 26 = .ok (.iconst 0, 1) := by decide +kernel
theorem dX11_planks_27 : decode cX11_planks 27 = .ok (.istore_n 2, 1) := by decide +kernel
theorem dX11_planks_28 : decode cX11_planks 28 = .ok (.iload_n 2, 1) := by decide +kernel
theorem dX11_planks_29 : decode cX11_planks 29 = .ok (.bipush 25, 2) := by decide +kernel
theorem dX11_planks_31 : decode cX11_planks 31 = .ok (.if_icmp .ge 21, 3) := by decide +kernel
theorem dX11_planks_34 : decode cX11_planks 34 = .ok (.aload_n 0, 1) := by decide +kernel
theorem dX11_planks_35 : decode cX11_planks 35 = .ok (.iload_n 1, 1) := by decide +kernel
theorem dX11_planks_36 : decode cX11_planks 36 = .ok (.iload_n 2, 1) := by decide +kernel
theorem dX11_planks_37 : decode cX11_planks 37 = .ok (.iload_n 2, 1) := by decide +kernel
theorem dX11_planks_38 : decode cX11_planks 38 = .ok (.invokevirtual 477, 3) := by decide +kernel
theorem dX11_planks_41 : decode cX11_planks 41 = .ok (.ifCond .eq 5, 3) := by decide +kernel
theorem dX11_planks_44 : decode cX11_planks 44 = .ok (.iconst 1, 1) := by decide +kernel
theorem dX11_planks_45 : decode cX11_planks 45 = .ok (.ireturn, 1) := by decide +kernel
theorem dX11_planks_46 : decode cX11_planks 46 = .ok (.iinc 2 1, 3) := by decide +kernel
theorem dX11_planks_49 : decode cX11_planks 49 = .ok (.goto (-21), 3) := by decide +kernel
theorem dX11_planks_52 : decode cX11_planks 52 = .ok (.iconst 0, 1) := by decide +kernel
theorem dX11_planks_53 : decode cX11_planks 53 = .ok (.istore_n 2, 1) := by decide +kernel
theorem dX11_planks_54 : decode cX11_planks 54 = .ok (.iload_n 2, 1) := by decide +kernel
theorem dX11_planks_55 : decode cX11_planks 55 = .ok (.bipush 25, 2) := by decide +kernel
theorem dX11_planks_57 : decode cX11_planks 57 = .ok (.if_icmp .ge 37, 3) := by decide +kernel
theorem dX11_planks_60 : decode cX11_planks 60 = .ok (.iload_n 2, 1) := by decide +kernel
theorem dX11_planks_61 : decode cX11_planks 61 = .ok (.iconst 1, 1) := by decide +kernel
theorem dX11_planks_62 : decode cX11_planks 62 = .ok (.iadd, 1) := by decide +kernel
theorem dX11_planks_63 : decode cX11_planks 63 = .ok (.istore_n 3, 1) := by decide +kernel
theorem dX11_planks_64 : decode cX11_planks 64 = .ok (.iload_n 3, 1) := by decide +kernel
theorem dX11_planks_65 : decode cX11_planks 65 = .ok (.bipush 25, 2) := by decide +kernel
theorem dX11_planks_67 : decode cX11_planks 67 = .ok (.if_icmp .ge 21, 3) := by decide +kernel
theorem dX11_planks_70 : decode cX11_planks 70 = .ok (.aload_n 0, 1) := by decide +kernel
theorem dX11_planks_71 : decode cX11_planks 71 = .ok (.iload_n 1, 1) := by decide +kernel
theorem dX11_planks_72 : decode cX11_planks 72 = .ok (.iload_n 2, 1) := by decide +kernel
theorem dX11_planks_73 : decode cX11_planks 73 = .ok (.iload_n 3, 1) := by decide +kernel
theorem dX11_planks_74 : decode cX11_planks 74 = .ok (.invokevirtual 477, 3) := by decide +kernel
theorem dX11_planks_77 : decode cX11_planks 77 = .ok (.ifCond .eq 5, 3) := by decide +kernel
theorem dX11_planks_80 : decode cX11_planks 80 = .ok (.iconst 2, 1) := by decide +kernel
theorem dX11_planks_81 : decode cX11_planks 81 = .ok (.ireturn, 1) := by decide +kernel
theorem dX11_planks_82 : decode cX11_planks 82 = .ok (.iinc 3 1, 3) := by decide +kernel
theorem dX11_planks_85 : decode cX11_planks 85 = .ok (.goto (-21), 3) := by decide +kernel
theorem dX11_planks_88 : decode cX11_planks 88 = .ok (.iinc 2 1, 3) := by decide +kernel
theorem dX11_planks_91 : decode cX11_planks 91 = .ok (.goto (-37), 3) := by decide +kernel
theorem dX11_planks_94 : decode cX11_planks 94 = .ok (.iconst (-1), 1) := by decide +kernel
theorem dX11_planks_95 : decode cX11_planks 95 = .ok (.ireturn, 1) := by decide +kernel
theorem dX11_hush_0 : decode cX11_hush 0 = .ok (.aload_n 0, 1) := by decide +kernel
theorem dX11_hush_1 : decode cX11_hush 1 = .ok (.iload_n 1, 1) := by decide +kernel
theorem dX11_hush_2 : decode cX11_hush 2 = .ok (.invokevirtual 428, 3) := by decide +kernel
theorem dX11_hush_5 : decode cX11_hush 5 = .ok (.ifCond .eq 12, 3) := by decide +kernel
theorem dX11_hush_8 : decode cX11_hush 8 = .ok (.iload_n 2, 1) := by decide +kernel
theorem dX11_hush_9 : decode cX11_hush 9 = .ok (.iconst 0, 1) := by decide +kernel
theorem dX11_hush_10 : decode cX11_hush 10 = .ok (.iconst 1, 1) := by decide +kernel
theorem dX11_hush_11 : decode cX11_hush 11 = .ok (.invokestatic 375, 3) := by decide +kernel
theorem dX11_hush_14 : decode cX11_hush 14 = .ok (.ifCond .ne 5, 3) := by decide +kernel
theorem dX11_hush_17 : decode cX11_hush 17 = .ok (.iconst (-1), 1) := by decide +kernel
theorem dX11_hush_18 : decode cX11_hush 18 = .ok (.ireturn, 1) := by decide +kernel
theorem dX11_hush_19 : decode cX11_hush 19 = .ok (.iconst (-1), 1) := by decide +kernel
theorem dX11_hush_20 : decode cX11_hush 20 = .ok (.istore_n 3, 1) := by decide +kernel
theorem dX11_hush_21 : decode cX11_hush 21 = .ok (.iconst 0, 1) := by decide +kernel
theorem dX11_hush_22 : decode cX11_hush 22 = .ok (.istore 4, 2) := by decide +kernel
theorem dX11_hush_24 : decode cX11_hush 24 = .ok (.aload_n 0, 1) := by decide +kernel
theorem dX11_hush_25 : decode cX11_hush 25 = .ok (.iconst 0, 1) := by decide +kernel
theorem dX11_hush_26 : decode cX11_hush 26 = .ok (.invokevirtual 452, 3) := by decide +kernel
theorem dX11_hush_29 : decode cX11_hush 29 = .ok (.iconst 0, 1) := by decide +kernel
theorem dX11_hush_30 : decode cX11_hush 30 = .ok (.istore 5, 2) := by decide +kernel
theorem dX11_hush_32 : decode cX11_hush 32 = .ok (.iload 5, 2) := by decide +kernel
theorem dX11_hush_34 : decode cX11_hush 34 = .ok (.bipush 8, 2) := by decide +kernel
theorem dX11_hush_36 : decode cX11_hush 36 = .ok (.if_icmp .gt 52, 3) := by decide +kernel
theorem dX11_hush_39 : decode cX11_hush 39 = .ok (.aload_n 0, 1) := by decide +kernel
theorem dX11_hush_40 : decode cX11_hush 40 = .ok (.iload 5, 2) := by decide +kernel
theorem dX11_hush_42 : decode cX11_hush 42 = .ok (.invokevirtual 437, 3) := by decide +kernel
theorem dX11_hush_45 : decode cX11_hush 45 = .ok (.aload_n 0, 1) := by decide +kernel
theorem dX11_hush_46 : decode cX11_hush 46 = .ok (.iload_n 1, 1) := by decide +kernel
theorem dX11_hush_47 : decode cX11_hush 47 = .ok (.invokevirtual 434, 3) := by decide +kernel
theorem dX11_hush_50 : decode cX11_hush 50 = .ok (.aload_n 0, 1) := by decide +kernel
theorem dX11_hush_51 : decode cX11_hush 51 = .ok (.invokevirtual 455, 3) := by decide +kernel
theorem dX11_hush_54 : decode cX11_hush 54 = .ok (.istore 6, 2) := by decide +kernel
theorem dX11_hush_56 : decode cX11_hush 56 = .ok (.aload_n 0, 1) := by decide +kernel
theorem dX11_hush_57 : decode cX11_hush 57 = .ok (.iconst 0, 1) := by decide +kernel
theorem dX11_hush_58 : decode cX11_hush 58 = .ok (.invokevirtual 458, 3) := by decide +kernel
theorem dX11_hush_61 : decode cX11_hush 61 = .ok (.iload_n 3, 1) := by decide +kernel
theorem dX11_hush_62 : decode cX11_hush 62 = .ok (.ifCond .lt 13, 3) := by decide +kernel
theorem dX11_hush_65 : decode cX11_hush 65 = .ok (.iload 6, 2) := by decide +kernel
theorem dX11_hush_67 : decode cX11_hush 67 = .ok (.iload 4, 2) := by decide +kernel
theorem dX11_hush_69 : decode cX11_hush 69 = .ok (.if_icmp .lt 6, 3) := by decide +kernel
theorem dX11_hush_72 : decode cX11_hush 72 = .ok (.goto 10, 3) := by decide +kernel
theorem dX11_hush_75 : decode cX11_hush 75 = .ok (.iload 5, 2) := by decide +kernel
theorem dX11_hush_77 : decode cX11_hush 77 = .ok (.istore_n 3, 1) := by decide +kernel
theorem dX11_hush_78 : decode cX11_hush 78 = .ok (.iload 6, 2) := by decide +kernel
theorem dX11_hush_80 : decode cX11_hush 80 = .ok (.istore 4, 2) := by decide +kernel
theorem dX11_hush_82 : decode cX11_hush 82 = .ok (.iinc 5 1, 3) := by decide +kernel
theorem dX11_hush_85 : decode cX11_hush 85 = .ok (.goto (-53), 3) := by decide +kernel
theorem dX11_hush_88 : decode cX11_hush 88 = .ok (.iload_n 2, 1) := by decide +kernel
theorem dX11_hush_89 : decode cX11_hush 89 = .ok (.ifCond .ne 7, 3) := by decide +kernel
theorem dX11_hush_92 : decode cX11_hush 92 = .ok (.iload_n 3, 1) := by decide +kernel
theorem dX11_hush_93 : decode cX11_hush 93 = .ok (.goto 5, 3) := by decide +kernel
theorem dX11_hush_96 : decode cX11_hush 96 = .ok (.iload 4, 2) := by decide +kernel
theorem dX11_hush_98 : decode cX11_hush 98 = .ok (.ireturn, 1) := by decide +kernel
theorem dX11_breaks_0 : decode cX11_breaks 0 = .ok (.aload_n 0, 1) := by decide +kernel
theorem dX11_breaks_1 : decode cX11_breaks 1 = .ok (.iload_n 1, 1) := by decide +kernel
theorem dX11_breaks_2 : decode cX11_breaks 2 = .ok (.invokevirtual 428, 3) := by decide +kernel
theorem dX11_breaks_5 : decode cX11_breaks 5 = .ok (.ifCond .eq 14, 3) := by decide +kernel
theorem dX11_breaks_8 : decode cX11_breaks 8 = .ok (.iload_n 2, 1) := by decide +kernel
theorem dX11_breaks_9 : decode cX11_breaks 9 = .ok (.bipush (-9), 2) := by decide +kernel
theorem dX11_breaks_11 : decode cX11_breaks 11 = .ok (.bipush 9, 2) := by decide +kernel
theorem dX11_breaks_13 : decode cX11_breaks 13 = .ok (.invokestatic 375, 3) := by decide +kernel
theorem dX11_breaks_16 : decode cX11_breaks 16 = .ok (.ifCond .ne 6, 3) := by decide +kernel
theorem dX11_breaks_19 : decode cX11_breaks 19 = .ok (.bipush (-2), 2) := by decide +kernel
theorem dX11_breaks_21 : decode cX11_breaks 21 = .ok (.ireturn, 1) := by decide +kernel
theorem dX11_breaks_22 : decode cX11_breaks 22 = .ok (.iconst (-1), 1) := by decide +kernel
theorem dX11_breaks_23 : decode cX11_breaks 23 = .ok (.istore_n 3, 1) := by decide +kernel
theorem dX11_breaks_24 : decode cX11_breaks 24 = .ok (.aload_n 0, 1) := by decide +kernel
theorem dX11_breaks_25 : decode cX11_breaks 25 = .ok (.iconst 0, 1) := by decide +kernel
theorem dX11_breaks_26 : decode cX11_breaks 26 = .ok (.invokevirtual 452, 3) := by decide +kernel
theorem dX11_breaks_29 : decode cX11_breaks 29 = .ok (.iconst 0, 1) := by decide +kernel
theorem dX11_breaks_30 : decode cX11_breaks 30 = .ok (.istore 4, 2) := by decide +kernel
theorem dX11_breaks_32 : decode cX11_breaks 32 = .ok (.iload 4, 2) := by decide +kernel
theorem dX11_breaks_34 : decode cX11_breaks 34 = .ok (.bipush 25, 2) := by decide +kernel
theorem dX11_breaks_36 : decode cX11_breaks 36 = .ok (.if_icmp .ge 50, 3) := by decide +kernel
theorem dX11_breaks_39 : decode cX11_breaks 39 = .ok (.aload_n 0, 1) := by decide +kernel
theorem dX11_breaks_40 : decode cX11_breaks 40 = .ok (.getfield 104, 3) := by decide +kernel
theorem dX11_breaks_43 : decode cX11_breaks 43 = .ok (.iload 4, 2) := by decide +kernel
theorem dX11_breaks_45 : decode cX11_breaks 45 = .ok (.iaload, 1) := by decide +kernel
theorem dX11_breaks_46 : decode cX11_breaks 46 = .ok (.iload_n 2, 1) := by decide +kernel
theorem dX11_breaks_47 : decode cX11_breaks 47 = .ok (.iadd, 1) := by decide +kernel
theorem dX11_breaks_48 : decode cX11_breaks 48 = .ok (.istore 5, 2) := by decide +kernel
theorem dX11_breaks_50 : decode cX11_breaks 50 = .ok (.aload_n 0, 1) := by decide +kernel
theorem dX11_breaks_51 : decode cX11_breaks 51 = .ok (.getfield 104, 3) := by decide +kernel
theorem dX11_breaks_54 : decode cX11_breaks 54 = .ok (.iload 4, 2) := by decide +kernel
theorem dX11_breaks_56 : decode cX11_breaks 56 = .ok (.iload 5, 2) := by decide +kernel
theorem dX11_breaks_58 : decode cX11_breaks 58 = .ok (.ifCond .ge 7, 3) := by decide +kernel
theorem dX11_breaks_61 : decode cX11_breaks 61 = .ok (.iconst 0, 1) := by decide +kernel
theorem dX11_breaks_62 : decode cX11_breaks 62 = .ok (.goto 17, 3) := by decide +kernel
theorem dX11_breaks_65 : decode cX11_breaks 65 = .ok (.iload 5, 2) := by decide +kernel
theorem dX11_breaks_67 : decode cX11_breaks 67 = .ok (.bipush 99, 2) := by decide +kernel
theorem dX11_breaks_69 : decode cX11_breaks 69 = .ok (.if_icmp .le 8, 3) := by decide +kernel
theorem dX11_breaks_72 : decode cX11_breaks 72 = .ok (.bipush 99, 2) := by decide +kernel
theorem dX11_breaks_74 : decode cX11_breaks 74 = .ok (.goto 5, 3) := by decide +kernel
theorem dX11_breaks_77 : decode cX11_breaks 77 = .ok (.iload 5, 2) := by decide +kernel
theorem dX11_breaks_79 : decode cX11_breaks 79 = .ok (.iastore, 1) := by decide +kernel
theorem dX11_breaks_80 : decode cX11_breaks 80 = .ok (.iinc 4 1, 3) := by decide +kernel
theorem dX11_breaks_83 : decode cX11_breaks 83 = .ok (.goto (-51), 3) := by decide +kernel
theorem dX11_breaks_86 : decode cX11_breaks 86 = .ok (.iconst 0, 1) := by decide +kernel
theorem dX11_breaks_87 : decode cX11_breaks 87 = .ok (.istore 4, 2) := by decide +kernel
theorem dX11_breaks_89 : decode cX11_breaks 89 = .ok (.iload 4, 2) := by decide +kernel
theorem dX11_breaks_91 : decode cX11_breaks 91 = .ok (.aload_n 0, 1) := by decide +kernel
theorem dX11_breaks_92 : decode cX11_breaks 92 = .ok (.getfield 45, 3) := by decide +kernel
theorem dX11_breaks_95 : decode cX11_breaks 95 = .ok (.bipush 6, 2) := by decide +kernel
theorem dX11_breaks_97 : decode cX11_breaks 97 = .ok (.aload_n 0, 1) := by decide +kernel
theorem dX11_breaks_98 : decode cX11_breaks 98 = .ok (.getfield 288, 3) := by decide +kernel
theorem dX11_breaks_101 : decode cX11_breaks 101 = .ok (.imul, 1) := by decide +kernel
theorem dX11_breaks_102 : decode cX11_breaks 102 = .ok (.iload_n 1, 1) := by decide +kernel
theorem dX11_breaks_103 : decode cX11_breaks 103 = .ok (.iadd, 1) := by decide +kernel
theorem dX11_breaks_104 : decode cX11_breaks 104 = .ok (.iaload, 1) := by decide +kernel
theorem dX11_breaks_105 : decode cX11_breaks 105 = .ok (.if_icmp .ge 34, 3) := by decide +kernel
theorem dX11_breaks_108 : decode cX11_breaks 108 = .ok (.iload_n 3, 1) := by decide +kernel
theorem dX11_breaks_109 : decode cX11_breaks 109 = .ok (.ifCond .ge 30, 3) := by decide +kernel
theorem dX11_breaks_112 : decode cX11_breaks 112 = .ok (.aload_n 0, 1) := by decide +kernel
theorem dX11_breaks_113 : decode cX11_breaks 113 = .ok (.iload_n 1, 1) := by decide +kernel
theorem dX11_breaks_114 : decode cX11_breaks 114 = .ok (.iload 4, 2) := by decide +kernel
theorem dX11_breaks_116 : decode cX11_breaks 116 = .ok (.invokevirtual 419, 3) := by decide +kernel
theorem dX11_breaks_119 : decode cX11_breaks 119 = .ok (.aload_n 0, 1) := by decide +kernel
theorem dX11_breaks_120 : decode cX11_breaks 120 = .ok (.getfield 412, 3) := by decide +kernel
theorem dX11_breaks_123 : decode cX11_breaks 123 = .ok (.ifCond .eq 8, 3) := by decide +kernel
theorem dX11_breaks_126 : decode cX11_breaks 126 = .ok (.iload 4, 2) := by decide +kernel
theorem dX11_breaks_128 : decode cX11_breaks 128 = .ok (.goto 4, 3) := by decide +kernel
theorem dX11_breaks_131 : decode cX11_breaks 131 = .ok (.iconst (-1), 1) := by decide +kernel
theorem dX11_breaks_132 : decode cX11_breaks 132 = .ok (.istore_n 3, 1) := by decide +kernel
theorem dX11_breaks_133 : decode cX11_breaks 133 = .ok (.iinc 4 1, 3) := by decide +kernel
theorem dX11_breaks_136 : decode cX11_breaks 136 = .ok (.goto (-47), 3) := by decide +kernel
theorem dX11_breaks_139 : decode cX11_breaks 139 = .ok (.aload_n 0, 1) := by decide +kernel
theorem dX11_breaks_140 : decode cX11_breaks 140 = .ok (.iconst 0, 1) := by decide +kernel
theorem dX11_breaks_141 : decode cX11_breaks 141 = .ok (.invokevirtual 458, 3) := by decide +kernel
theorem dX11_breaks_144 : decode cX11_breaks 144 = .ok (.iload_n 3, 1) := by decide +kernel
theorem dX11_breaks_145 : decode cX11_breaks 145 = .ok (.ireturn, 1) := by decide +kernel
theorem dX11_lies_0 : decode cX11_lies 0 = .ok (.iload_n 1, 1) := by decide +kernel
theorem dX11_lies_1 : decode cX11_lies 1 = .ok (.iconst 0, 1) := by decide +kernel
theorem dX11_lies_2 : decode cX11_lies 2 = .ok (.aload_n 0, 1) := by decide +kernel
theorem dX11_lies_3 : decode cX11_lies 3 = .ok (.getfield 297, 3) := by decide +kernel
theorem dX11_lies_6 : decode cX11_lies 6 = .ok (.iconst 1, 1) := by decide +kernel
theorem dX11_lies_7 : decode cX11_lies 7 = .ok (.isub, 1) := by decide +kernel
theorem dX11_lies_8 : decode cX11_lies 8 = .ok (.invokestatic 375, 3) := by decide +kernel
theorem dX11_lies_11 : decode cX11_lies 11 = .ok (.ifCond .eq 12, 3) := by decide +kernel
theorem dX11_lies_14 : decode cX11_lies 14 = .ok (.aload_n 0, 1) := by decide +kernel
theorem dX11_lies_15 : decode cX11_lies 15 = .ok (.getfield 128, 3) := by decide +kernel
theorem dX11_lies_18 : decode cX11_lies 18 = .ok (.iload_n 1, 1) := by decide +kernel
theorem dX11_lies_19 : decode cX11_lies 19 = .ok (.iaload, 1) := by decide +kernel
theorem dX11_lies_20 : decode cX11_lies 20 = .ok (.goto 4, 3) := by decide +kernel
theorem dX11_lies_23 : decode cX11_lies 23 = .ok (.iconst (-1), 1) := by decide +kernel
theorem dX11_lies_24 : decode cX11_lies 24 = .ok (.ireturn, 1) := by decide +kernel
theorem dX11_sight_0 : decode cX11_sight 0 = .ok (.iload_n 1, 1) := by decide +kernel
theorem dX11_sight_1 : decode cX11_sight 1 = .ok (.iconst 1, 1) := by decide +kernel
theorem dX11_sight_2 : decode cX11_sight 2 = .ok (.bipush 36, 2) := by decide +kernel
theorem dX11_sight_4 : decode cX11_sight 4 = .ok (.invokestatic 375, 3) := by decide +kernel
theorem dX11_sight_7 : decode cX11_sight 7 = .ok (.ifCond .eq 44, 3) := by decide +kernel
theorem dX11_sight_10 : decode cX11_sight 10 = .ok (.aload_n 0, 1) := by decide +kernel
theorem dX11_sight_11 : decode cX11_sight 11 = .ok (.iload_n 2, 1) := by decide +kernel
theorem dX11_sight_12 : decode cX11_sight 12 = .ok (.iload_n 3, 1) := by decide +kernel
theorem dX11_sight_13 : decode cX11_sight 13 = .ok (.invokevirtual 395, 3) := by decide +kernel
theorem dX11_sight_16 : decode cX11_sight 16 = .ok (.ifCond .eq 35, 3) := by decide +kernel
theorem dX11_sight_19 : decode cX11_sight 19 = .ok (.iload 4, 2) := by decide +kernel
theorem dX11_sight_21 : decode cX11_sight 21 = .ok (.iconst 0, 1) := by decide +kernel
theorem dX11_sight_22 : decode cX11_sight 22 = .ok (.bipush 99, 2) := by decide +kernel
theorem dX11_sight_24 : decode cX11_sight 24 = .ok (.invokestatic 375, 3) := by decide +kernel
theorem dX11_sight_27 : decode cX11_sight 27 = .ok (.ifCond .eq 24, 3) := by decide +kernel
theorem dX11_sight_30 : decode cX11_sight 30 = .ok (.iload 5, 2) := by decide +kernel
theorem dX11_sight_32 : decode cX11_sight 32 = .ok (.iload 4, 2) := by decide +kernel
theorem dX11_sight_34 : decode cX11_sight 34 = .ok (.bipush 99, 2) := by decide +kernel
theorem dX11_sight_36 : decode cX11_sight 36 = .ok (.invokestatic 375, 3) := by decide +kernel
theorem dX11_sight_39 : decode cX11_sight 39 = .ok (.ifCond .eq 12, 3) := by decide +kernel
theorem dX11_sight_42 : decode cX11_sight 42 = .ok (.aload_n 0, 1) := by decide +kernel
theorem dX11_sight_43 : decode cX11_sight 43 = .ok (.getfield 294, 3) := by decide +kernel
theorem dX11_sight_46 : decode cX11_sight 46 = .ok (.bipush 30, 2) := by decide +kernel
theorem dX11_sight_48 : decode cX11_sight 48 = .ok (.if_icmp .ne 5, 3) := by decide +kernel
theorem dX11_sight_51 : decode cX11_sight 51 = .ok (.iconst (-1), 1) := by decide +kernel
theorem dX11_sight_52 : decode cX11_sight 52 = .ok (.ireturn, 1) := by decide +kernel
theorem dX11_sight_53 : decode cX11_sight 53 = .ok (.aload_n 0, 1) := by decide +kernel
theorem dX11_sight_54 : decode cX11_sight 54 = .ok (.iload_n 1, 1) := by decide +kernel
theorem dX11_sight_55 : decode cX11_sight 55 = .ok (.iload_n 2, 1) := by decide +kernel
theorem dX11_sight_56 : decode cX11_sight 56 = .ok (.iconst 5, 1) := by decide +kernel
theorem dX11_sight_57 : decode cX11_sight 57 = .ok (.iload_n 3, 1) := by decide +kernel
theorem dX11_sight_58 : decode cX11_sight 58 = .ok (.imul, 1) := by decide +kernel
theorem dX11_sight_59 : decode cX11_sight 59 = .ok (.iadd, 1) := by decide +kernel
theorem dX11_sight_60 : decode cX11_sight 60 = .ok (.iload 4, 2) := by decide +kernel
theorem dX11_sight_62 : decode cX11_sight 62 = .ok (.iload 5, 2) := by decide +kernel
theorem dX11_sight_64 : decode cX11_sight 64 = .ok (.invokevirtual 483, 3) := by decide +kernel
theorem dX11_sight_67 : decode cX11_sight 67 = .ok (.ireturn, 1) := by decide +kernel
theorem dX11_seen_0 : decode cX11_seen 0 = .ok (.iload_n 1, 1) := by decide +kernel
theorem dX11_seen_1 : decode cX11_seen 1 = .ok (.iconst 1, 1) := by decide +kernel
theorem dX11_seen_2 : decode cX11_seen 2 = .ok (.bipush 36, 2) := by decide +kernel
theorem dX11_seen_4 : decode cX11_seen 4 = .ok (.invokestatic 375, 3) := by decide +kernel
theorem dX11_seen_7 : decode cX11_seen 7 = .ok (.ifCond .eq 20, 3) := by decide +kernel
theorem dX11_seen_10 : decode cX11_seen 10 = .ok (.aload_n 0, 1) := by decide +kernel
theorem dX11_seen_11 : decode cX11_seen 11 = .ok (.iload_n 2, 1) := by decide +kernel
theorem dX11_seen_12 : decode cX11_seen 12 = .ok (.invokevirtual 425, 3) := by decide +kernel
theorem dX11_seen_15 : decode cX11_seen 15 = .ok (.ifCond .eq 12, 3) := by decide +kernel
theorem dX11_seen_18 : decode cX11_seen 18 = .ok (.aload_n 0, 1) := by decide +kernel
theorem dX11_seen_19 : decode cX11_seen 19 = .ok (.getfield 294, 3) := by decide +kernel
theorem dX11_seen_22 : decode cX11_seen 22 = .ok (.bipush 30, 2) := by decide +kernel
theorem dX11_seen_24 : decode cX11_seen 24 = .ok (.if_icmp .ne 5, 3) := by decide +kernel
theorem dX11_seen_27 : decode cX11_seen 27 = .ok (.iconst (-1), 1) := by decide +kernel
theorem dX11_seen_28 : decode cX11_seen 28 = .ok (.ireturn, 1) := by decide +kernel
theorem dX11_seen_29 : decode cX11_seen 29 = .ok (.aload_n 0, 1) := by decide +kernel
theorem dX11_seen_30 : decode cX11_seen 30 = .ok (.iload_n 1, 1) := by decide +kernel
theorem dX11_seen_31 : decode cX11_seen 31 = .ok (.iconst (-1), 1) := by decide +kernel
theorem dX11_seen_32 : decode cX11_seen 32 = .ok (.iload_n 2, 1) := by decide +kernel
theorem dX11_seen_33 : decode cX11_seen 33 = .ok (.isub, 1) := by decide +kernel
theorem dX11_seen_34 : decode cX11_seen 34 = .ok (.iload_n 3, 1) := by decide +kernel
theorem dX11_seen_35 : decode cX11_seen 35 = .ok (.ifCond .eq 7, 3) := by decide +kernel
theorem dX11_seen_38 : decode cX11_seen 38 = .ok (.iconst 1, 1) := by decide +kernel
theorem dX11_seen_39 : decode cX11_seen 39 = .ok (.goto 4, 3) := by decide +kernel
theorem dX11_seen_42 : decode cX11_seen 42 = .ok (.iconst 0, 1) := by decide +kernel
theorem dX11_seen_43 : decode cX11_seen 43 = .ok (.iload_n 3, 1) := by decide +kernel
theorem dX11_seen_44 : decode cX11_seen 44 = .ok (.ifCond .eq 7, 3) := by decide +kernel
theorem dX11_seen_47 : decode cX11_seen 47 = .ok (.iconst 1, 1) := by decide +kernel
theorem dX11_seen_48 : decode cX11_seen 48 = .ok (.goto 4, 3) := by decide +kernel
theorem dX11_seen_51 : decode cX11_seen 51 = .ok (.iconst 0, 1) := by decide +kernel
theorem dX11_seen_52 : decode cX11_seen 52 = .ok (.invokevirtual 483, 3) := by decide +kernel
theorem dX11_seen_55 : decode cX11_seen 55 = .ok (.ireturn, 1) := by decide +kernel
theorem dX11_untell_0 : decode cX11_untell 0 = .ok (.iload_n 1, 1) := by decide +kernel
theorem dX11_untell_1 : decode cX11_untell 1 = .ok (.iconst 0, 1) := by decide +kernel
theorem dX11_untell_2 : decode cX11_untell 2 = .ok (.aload_n 0, 1) := by decide +kernel
theorem dX11_untell_3 : decode cX11_untell 3 = .ok (.getfield 294, 3) := by decide +kernel
theorem dX11_untell_6 : decode cX11_untell 6 = .ok (.iconst 1, 1) := by decide +kernel
theorem dX11_untell_7 : decode cX11_untell 7 = .ok (.isub, 1) := by decide +kernel
theorem dX11_untell_8 : decode cX11_untell 8 = .ok (.invokestatic 375, 3) := by decide +kernel
theorem dX11_untell_11 : decode cX11_untell 11 = .ok (.ifCond .eq 12, 3) := by decide +kernel
theorem dX11_untell_14 : decode cX11_untell 14 = .ok (.aload_n 0, 1) := by decide +kernel
theorem dX11_untell_15 : decode cX11_untell 15 = .ok (.getfield 152, 3) := by decide +kernel
theorem dX11_untell_18 : decode cX11_untell 18 = .ok (.iload_n 1, 1) := by decide +kernel
theorem dX11_untell_19 : decode cX11_untell 19 = .ok (.iaload, 1) := by decide +kernel
theorem dX11_untell_20 : decode cX11_untell 20 = .ok (.ifCond .lt 5, 3) := by decide +kernel
theorem dX11_untell_23 : decode cX11_untell 23 = .ok (.iconst 0, 1) := by decide +kernel
theorem dX11_untell_24 : decode cX11_untell 24 = .ok (.ireturn, 1) := by decide +kernel
theorem dX11_untell_25 : decode cX11_untell 25 = .ok (.aload_n 0, 1) := by decide +kernel
theorem dX11_untell_26 : decode cX11_untell 26 = .ok (.getfield 152, 3) := by decide +kernel
theorem dX11_untell_29 : decode cX11_untell 29 = .ok (.iload_n 1, 1) := by decide +kernel
theorem dX11_untell_30 : decode cX11_untell 30 = .ok (.aload_n 0, 1) := by decide +kernel
theorem dX11_untell_31 : decode cX11_untell 31 = .ok (.getfield 480, 3) := by decide +kernel
theorem dX11_untell_34 : decode cX11_untell 34 = .ok (.iastore, 1) := by decide +kernel
theorem dX11_untell_35 : decode cX11_untell 35 = .ok (.iconst 1, 1) := by decide +kernel
theorem dX11_untell_36 : decode cX11_untell 36 = .ok (.ireturn, 1) := by decide +kernel
theorem dX11_later_0 : decode cX11_later 0 = .ok (.iload_n 1, 1) := by decide +kernel
theorem dX11_later_1 : decode cX11_later 1 = .ok (.iconst 0, 1) := by decide +kernel
theorem dX11_later_2 : decode cX11_later 2 = .ok (.sipush 1000, 3) := by decide +kernel
theorem dX11_later_5 : decode cX11_later 5 = .ok (.invokestatic 375, 3) := by decide +kernel
theorem dX11_later_8 : decode cX11_later 8 = .ok (.ifCond .eq 15, 3) := by decide +kernel
theorem dX11_later_11 : decode cX11_later 11 = .ok (.aload_n 0, 1) := by decide +kernel
theorem dX11_later_12 : decode cX11_later 12 = .ok (.getfield 480, 3) := by decide +kernel
theorem dX11_later_15 : decode cX11_later 15 = .ok (.iload_n 1, 1) := by decide +kernel
theorem dX11_later_16 : decode cX11_later 16 = .ok (.iadd, 1) := by decide +kernel
theorem dX11_later_17 : decode cX11_later 17 = .ok (.ldc_w 487, 3) := by decide +kernel
theorem dX11_later_20 : decode cX11_later 20 = .ok (.if_icmp .le 5, 3) := by decide +kernel
theorem dX11_later_23 : decode cX11_later 23 = .ok (.iconst (-1), 1) := by decide +kernel
theorem dX11_later_24 : decode cX11_later 24 = .ok (.ireturn, 1) := by decide +kernel
theorem dX11_later_25 : decode cX11_later 25 = .ok (.aload_n 0, 1) := by decide +kernel
theorem dX11_later_26 : decode cX11_later 26 = .ok (.dup, 1) := by decide +kernel
theorem dX11_later_27 : decode cX11_later 27 = .ok (.getfield 480, 3) := by decide +kernel
theorem dX11_later_30 : decode cX11_later 30 = .ok (.iload_n 1, 1) := by decide +kernel
theorem dX11_later_31 : decode cX11_later 31 = .ok (.iadd, 1) := by decide +kernel
theorem dX11_later_32 : decode cX11_later 32 = .ok (.putfield 480, 3) := by decide +kernel
theorem dX11_later_35 : decode cX11_later 35 = .ok (.aload_n 0, 1) := by decide +kernel
theorem dX11_later_36 : decode cX11_later 36 = .ok (.getfield 480, 3) := by decide +kernel
theorem dX11_later_39 : decode cX11_later 39 = .ok (.ireturn, 1) := by decide +kernel
theorem dX11_layTunes_0 : decode cX11_layTunes 0 = .ok (.iconst 0, 1) := by decide +kernel
theorem dX11_layTunes_1 : decode cX11_layTunes 1 = .ok (.istore_n 2, 1) := by decide +kernel
theorem dX11_layTunes_2 : decode cX11_layTunes 2 = .ok (.iconst 0, 1) := by decide +kernel
theorem dX11_layTunes_3 : decode cX11_layTunes 3 = .ok (.istore_n 3, 1) := by decide +kernel
theorem dX11_layTunes_4 : decode cX11_layTunes 4 = .ok (.iload_n 3, 1) := by decide +kernel
theorem dX11_layTunes_5 : decode cX11_layTunes 5 = .ok (.aload_n 0, 1) := by decide +kernel
theorem dX11_layTunes_6 : decode cX11_layTunes 6 = .ok (.getfield 33, 3) := by decide +kernel
theorem dX11_layTunes_9 : decode cX11_layTunes 9 = .ok (.aload_n 0, 1) := by decide +kernel
theorem dX11_layTunes_10 : decode cX11_layTunes 10 = .ok (.getfield 288, 3) := by decide +kernel
theorem dX11_layTunes_13 : decode cX11_layTunes 13 = .ok (.iaload, 1) := by decide +kernel
theorem dX11_layTunes_14 : decode cX11_layTunes 14 = .ok (.if_icmp .ge 30, 3) := by decide +kernel
theorem dX11_layTunes_17 : decode cX11_layTunes 17 = .ok (.iload_n 1, 1) := by decide +kernel
theorem dX11_layTunes_18 : decode cX11_layTunes 18 = .ok (.iload_n 3, 1) := by decide +kernel
theorem dX11_layTunes_19 : decode cX11_layTunes 19 = .ok (.ishr, 1) := by decide +kernel
theorem dX11_layTunes_20 : decode cX11_layTunes 20 = .ok (.iconst 1, 1) := by decide +kernel
theorem dX11_layTunes_21 : decode cX11_layTunes 21 = .ok (.iand, 1) := by decide +kernel
theorem dX11_layTunes_22 : decode cX11_layTunes 22 = .ok (.ifCond .ne 6, 3) := by decide +kernel
theorem dX11_layTunes_25 : decode cX11_layTunes 25 = .ok (.goto 13, 3) := by decide +kernel
theorem dX11_layTunes_28 : decode cX11_layTunes 28 = .ok (.aload_n 0, 1) := by decide +kernel
theorem dX11_layTunes_29 : decode cX11_layTunes 29 = .ok (.getfield 122, 3) := by decide +kernel
theorem dX11_layTunes_32 : decode cX11_layTunes 32 = .ok (.iload_n 2, 1) := by decide +kernel
theorem dX11_layTunes_33 : decode cX11_layTunes 33 = .ok (.iload_n 3, 1) := by decide +kernel
theorem dX11_layTunes_34 : decode cX11_layTunes 34 = .ok (.iastore, 1) := by decide +kernel
theorem dX11_layTunes_35 : decode cX11_layTunes 35 = .ok (.iinc 2 1, 3) := by decide +kernel
theorem dX11_layTunes_38 : decode cX11_layTunes 38 = .ok (.iinc 3 1, 3) := by decide +kernel
theorem dX11_layTunes_41 : decode cX11_layTunes 41 = .ok (.goto (-37), 3) := by decide +kernel
theorem dX11_layTunes_44 : decode cX11_layTunes 44 = .ok (.iload_n 2, 1) := by decide +kernel
theorem dX11_layTunes_45 : decode cX11_layTunes 45 = .ok (.ireturn, 1) := by decide +kernel
theorem dX11_nextOrder_0 : decode cX11_nextOrder 0 = .ok (.iload_n 1, 1) := by decide +kernel
theorem dX11_nextOrder_1 : decode cX11_nextOrder 1 = .ok (.iconst 2, 1) := by decide +kernel
theorem dX11_nextOrder_2 : decode cX11_nextOrder 2 = .ok (.isub, 1) := by decide +kernel
theorem dX11_nextOrder_3 : decode cX11_nextOrder 3 = .ok (.istore_n 2, 1) := by decide +kernel
theorem dX11_nextOrder_4 : decode cX11_nextOrder 4 = .ok (.iload_n 2, 1) := by decide +kernel
theorem dX11_nextOrder_5 : decode cX11_nextOrder 5 = .ok (.ifCond .lt 26, 3) := by decide +kernel
theorem dX11_nextOrder_8 : decode cX11_nextOrder 8 = .ok (.aload_n 0, 1) := by decide +kernel
theorem dX11_nextOrder_9 : decode cX11_nextOrder 9 = .ok (.getfield 122, 3) := by decide +kernel
theorem dX11_nextOrder_12 : decode cX11_nextOrder 12 = .ok (.iload_n 2, 1) := by decide +kernel
theorem dX11_nextOrder_13 : decode cX11_nextOrder 13 = .ok (.iaload, 1) := by decide +kernel
theorem dX11_nextOrder_14 : decode cX11_nextOrder 14 = .ok (.aload_n 0, 1) := by decide +kernel
theorem dX11_nextOrder_15 : decode cX11_nextOrder 15 = .ok (.getfield 122, 3) := by decide +kernel
theorem dX11_nextOrder_18 : decode cX11_nextOrder 18 = .ok (.iload_n 2, 1) := by decide +kernel
theorem dX11_nextOrder_19 : decode cX11_nextOrder 19 = .ok (.iconst 1, 1) := by decide +kernel
theorem dX11_nextOrder_20 : decode cX11_nextOrder 20 = .ok (.iadd, 1) := by decide +kernel
theorem dX11_nextOrder_21 : decode cX11_nextOrder 21 = .ok (.iaload, 1) := by decide +kernel
theorem dX11_nextOrder_22 : decode cX11_nextOrder 22 = .ok (.if_icmp .le 9, 3) := by decide +kernel
theorem dX11_nextOrder_25 : decode cX11_nextOrder 25 = .ok (.iinc 2 (-1), 3) := by decide +kernel
theorem dX11_nextOrder_28 : decode cX11_nextOrder 28 = .ok (.goto (-24), 3) := by decide +kernel
theorem dX11_nextOrder_31 : decode cX11_nextOrder 31 = .ok (.iload_n 2, 1) := by decide +kernel
theorem dX11_nextOrder_32 : decode cX11_nextOrder 32 = .ok (.ifCond .ge 5, 3) := by decide +kernel
theorem dX11_nextOrder_35 : decode cX11_nextOrder 35 = .ok (.iconst 0, 1) := by decide +kernel
theorem dX11_nextOrder_36 : decode cX11_nextOrder 36 = .ok (.ireturn, 1) := by decide +kernel
theorem dX11_nextOrder_37 : decode cX11_nextOrder 37 = .ok (.iload_n 1, 1) := by decide +kernel
theorem dX11_nextOrder_38 : decode cX11_nextOrder 38 = .ok (.iconst 1, 1) := by decide +kernel
theorem dX11_nextOrder_39 : decode cX11_nextOrder 39 = .ok (.isub, 1) := by decide +kernel
theorem dX11_nextOrder_40 : decode cX11_nextOrder 40 = .ok (.istore_n 3, 1) := by decide +kernel
theorem dX11_nextOrder_41 : decode cX11_nextOrder 41 = .ok (.aload_n 0, 1) := by decide +kernel
theorem dX11_nextOrder_42 : decode cX11_nextOrder 42 = .ok (.getfield 122, 3) := by decide +kernel
theorem dX11_nextOrder_45 : decode cX11_nextOrder 45 = .ok (.iload_n 3, 1) := by decide +kernel
theorem dX11_nextOrder_46 : decode cX11_nextOrder 46 = .ok (.iaload, 1) := by decide +kernel
theorem dX11_nextOrder_47 : decode cX11_nextOrder 47 = .ok (.aload_n 0, 1) := by decide +kernel
theorem dX11_nextOrder_48 : decode cX11_nextOrder 48 = .ok (.getfield 122, 3) := by decide +kernel
theorem dX11_nextOrder_51 : decode cX11_nextOrder 51 = .ok (.iload_n 2, 1) := by decide +kernel
theorem dX11_nextOrder_52 : decode cX11_nextOrder 52 = .ok (.iaload, 1) := by decide +kernel
theorem dX11_nextOrder_53 : decode cX11_nextOrder 53 = .ok (.if_icmp .ge 9, 3) := by decide +kernel
theorem dX11_nextOrder_56 : decode cX11_nextOrder 56 = .ok (.iinc 3 (-1), 3) := by decide +kernel
theorem dX11_nextOrder_59 : decode cX11_nextOrder 59 = .ok (.goto (-18), 3) := by decide +kernel
theorem dX11_nextOrder_62 : decode cX11_nextOrder 62 = .ok (.aload_n 0, 1) := by decide +kernel
theorem dX11_nextOrder_63 : decode cX11_nextOrder 63 = .ok (.iload_n 3, 1) := by decide +kernel
theorem dX11_nextOrder_64 : decode cX11_nextOrder 64 = .ok (.iload_n 2, 1) := by decide +kernel
theorem dX11_nextOrder_65 : decode cX11_nextOrder 65 = .ok (.invokevirtual 443, 3) := by decide +kernel
theorem dX11_nextOrder_68 : decode cX11_nextOrder 68 = .ok (.iload_n 2, 1) := by decide +kernel
theorem dX11_nextOrder_69 : decode cX11_nextOrder 69 = .ok (.iconst 1, 1) := by decide +kernel
theorem dX11_nextOrder_70 : decode cX11_nextOrder 70 = .ok (.iadd, 1) := by decide +kernel
theorem dX11_nextOrder_71 : decode cX11_nextOrder 71 = .ok (.istore 4, 2) := by decide +kernel
theorem dX11_nextOrder_73 : decode cX11_nextOrder 73 = .ok (.iload_n 1, 1) := by decide +kernel
theorem dX11_nextOrder_74 : decode cX11_nextOrder 74 = .ok (.iconst 1, 1) := by decide +kernel
theorem dX11_nextOrder_75 : decode cX11_nextOrder 75 = .ok (.isub, 1) := by decide +kernel
theorem dX11_nextOrder_76 : decode cX11_nextOrder 76 = .ok (.istore 5, 2) := by decide +kernel
theorem dX11_nextOrder_78 : decode cX11_nextOrder 78 = .ok (.iload 4, 2) := by decide +kernel
theorem dX11_nextOrder_80 : decode cX11_nextOrder 80 = .ok (.iload 5, 2) := by decide +kernel
theorem dX11_nextOrder_82 : decode cX11_nextOrder 82 = .ok (.if_icmp .ge 20, 3) := by decide +kernel
theorem dX11_nextOrder_85 : decode cX11_nextOrder 85 = .ok (.aload_n 0, 1) := by decide +kernel
theorem dX11_nextOrder_86 : decode cX11_nextOrder 86 = .ok (.iload 4, 2) := by decide +kernel
theorem dX11_nextOrder_88 : decode cX11_nextOrder 88 = .ok (.iload 5, 2) := by decide +kernel
theorem dX11_nextOrder_90 : decode cX11_nextOrder 90 = .ok (.invokevirtual 443, 3) := by decide +kernel
theorem dX11_nextOrder_93 : decode cX11_nextOrder 93 = .ok (.iinc 4 1, 3) := by decide +kernel
theorem dX11_nextOrder_96 : decode cX11_nextOrder 96 = .ok (.iinc 5 (-1), 3) := by decide +kernel
theorem dX11_nextOrder_99 : decode cX11_nextOrder 99 = .ok (.goto (-21), 3) := by decide +kernel
theorem dX11_nextOrder_102 : decode cX11_nextOrder 102 = .ok (.iconst 1, 1) := by decide +kernel
theorem dX11_nextOrder_103 : decode cX11_nextOrder 103 = .ok (.ireturn, 1) := by decide +kernel
theorem dX11_lay_0 : decode cX11_lay 0 = .ok (.iconst 0, 1) := by decide +kernel
theorem dX11_lay_1 : decode cX11_lay 1 = .ok (.istore_n 3, 1) := by decide +kernel
theorem dX11_lay_2 : decode cX11_lay 2 = .ok (.iload_n 3, 1) := by decide +kernel
theorem dX11_lay_3 : decode cX11_lay 3 = .ok (.iload_n 2, 1) := by decide +kernel
theorem dX11_lay_4 : decode cX11_lay 4 = .ok (.if_icmp .ge 18, 3) := by decide +kernel
theorem dX11_lay_7 : decode cX11_lay 7 = .ok (.aload_n 0, 1) := by decide +kernel
theorem dX11_lay_8 : decode cX11_lay 8 = .ok (.getfield 128, 3) := by decide +kernel
theorem dX11_lay_11 : decode cX11_lay 11 = .ok (.iload_n 3, 1) := by decide +kernel
theorem dX11_lay_12 : decode cX11_lay 12 = .ok (.aload_n 1, 1) := by decide +kernel
theorem dX11_lay_13 : decode cX11_lay 13 = .ok (.iload_n 3, 1) := by decide +kernel
theorem dX11_lay_14 : decode cX11_lay 14 = .ok (.iaload, 1) := by decide +kernel
theorem dX11_lay_15 : decode cX11_lay 15 = .ok (.iastore, 1) := by decide +kernel
theorem dX11_lay_16 : decode cX11_lay 16 = .ok (.iinc 3 1, 3) := by decide +kernel
theorem dX11_lay_19 : decode cX11_lay 19 = .ok (.goto (-17), 3) := by decide +kernel
theorem dX11_lay_22 : decode cX11_lay 22 = .ok (.aload_n 0, 1) := by decide +kernel
theorem dX11_lay_23 : decode cX11_lay 23 = .ok (.iload_n 2, 1) := by decide +kernel
theorem dX11_lay_24 : decode cX11_lay 24 = .ok (.putfield 297, 3) := by decide +kernel
theorem dX11_lay_27 : decode cX11_lay 27 = .ok (.return_, 1) := by decide +kernel
theorem dX11_order_0 : decode cX11_order 0 = .ok (.aload_n 0, 1) := by decide +kernel
theorem dX11_order_1 : decode cX11_order 1 = .ok (.iconst 0, 1) := by decide +kernel
theorem dX11_order_2 : decode cX11_order 2 = .ok (.putfield 297, 3) := by decide +kernel
theorem dX11_order_5 : decode cX11_order 5 = .ok (.aload_n 0, 1) := by decide +kernel
theorem dX11_order_6 : decode cX11_order 6 = .ok (.iload_n 1, 1) := by decide +kernel
theorem dX11_order_7 : decode cX11_order 7 = .ok (.invokevirtual 446, 3) := by decide +kernel
theorem dX11_order_10 : decode cX11_order 10 = .ok (.ifCond .ne 5, 3) := by decide +kernel
theorem dX11_order_13 : decode cX11_order 13 = .ok (.iconst (-1), 1) := by decide +kernel
theorem dX11_order_14 : decode cX11_order 14 = .ok (.ireturn, 1) := by decide +kernel
theorem dX11_order_15 : decode cX11_order 15 = .ok (.aload_n 0, 1) := by decide +kernel
theorem dX11_order_16 : decode cX11_order 16 = .ok (.iload_n 1, 1) := by decide +kernel
theorem dX11_order_17 : decode cX11_order 17 = .ok (.invokevirtual 449, 3) := by decide +kernel
theorem dX11_order_20 : decode cX11_order 20 = .ok (.istore_n 2, 1) := by decide +kernel
theorem dX11_order_21 : decode cX11_order 21 = .ok (.iconst (-1), 1) := by decide +kernel
theorem dX11_order_22 : decode cX11_order 22 = .ok (.istore_n 3, 1) := by decide +kernel
theorem dX11_order_23 : decode cX11_order 23 = .ok (.iconst 1, 1) := by decide +kernel
theorem dX11_order_24 : decode cX11_order 24 = .ok (.istore 4, 2) := by decide +kernel
theorem dX11_order_26 : decode cX11_order 26 = .ok (.aload_n 0, 1) := by decide +kernel
theorem dX11_order_27 : decode cX11_order 27 = .ok (.iconst 0, 1) := by decide +kernel
theorem dX11_order_28 : decode cX11_order 28 = .ok (.invokevirtual 452, 3) := by decide +kernel
theorem dX11_order_31 : decode cX11_order 31 = .ok (.iload 4, 2) := by decide +kernel
theorem dX11_order_33 : decode cX11_order 33 = .ok (.ifCond .eq 92, 3) := by decide +kernel
theorem dX11_order_36 : decode cX11_order 36 = .ok (.iconst 0, 1) := by decide +kernel
theorem dX11_order_37 : decode cX11_order 37 = .ok (.istore 5, 2) := by decide +kernel
theorem dX11_order_39 : decode cX11_order 39 = .ok (.iload 5, 2) := by decide +kernel
theorem dX11_order_41 : decode cX11_order 41 = .ok (.iload_n 2, 1) := by decide +kernel
theorem dX11_order_42 : decode cX11_order 42 = .ok (.if_icmp .ge 20, 3) := by decide +kernel
theorem dX11_order_45 : decode cX11_order 45 = .ok (.aload_n 0, 1) := by decide +kernel
theorem dX11_order_46 : decode cX11_order 46 = .ok (.aload_n 0, 1) := by decide +kernel
theorem dX11_order_47 : decode cX11_order 47 = .ok (.getfield 122, 3) := by decide +kernel
theorem dX11_order_50 : decode cX11_order 50 = .ok (.iload 5, 2) := by decide +kernel
theorem dX11_order_52 : decode cX11_order 52 = .ok (.iaload, 1) := by decide +kernel
theorem dX11_order_53 : decode cX11_order 53 = .ok (.invokevirtual 434, 3) := by decide +kernel
theorem dX11_order_56 : decode cX11_order 56 = .ok (.iinc 5 1, 3) := by decide +kernel
theorem dX11_order_59 : decode cX11_order 59 = .ok (.goto (-20), 3) := by decide +kernel
theorem dX11_order_62 : decode cX11_order 62 = .ok (.aload_n 0, 1) := by decide +kernel
theorem dX11_order_63 : decode cX11_order 63 = .ok (.invokevirtual 455, 3) := by decide +kernel
theorem dX11_order_66 : decode cX11_order 66 = .ok (.istore 5, 2) := by decide +kernel
theorem dX11_order_68 : decode cX11_order 68 = .ok (.aload_n 0, 1) := by decide +kernel
theorem dX11_order_69 : decode cX11_order 69 = .ok (.iconst 0, 1) := by decide +kernel
theorem dX11_order_70 : decode cX11_order 70 = .ok (.invokevirtual 458, 3) := by decide +kernel
theorem dX11_order_73 : decode cX11_order 73 = .ok (.iload_n 3, 1) := by decide +kernel
theorem dX11_order_74 : decode cX11_order 74 = .ok (.ifCond .lt 9, 3) := by decide +kernel
theorem dX11_order_77 : decode cX11_order 77 = .ok (.iload 5, 2) := by decide +kernel
theorem dX11_order_79 : decode cX11_order 79 = .ok (.iload_n 3, 1) := by decide +kernel
theorem dX11_order_80 : decode cX11_order 80 = .ok (.if_icmp .ge 35, 3) := by decide +kernel
theorem dX11_order_83 : decode cX11_order 83 = .ok (.iload 5, 2) := by decide +kernel
theorem dX11_order_85 : decode cX11_order 85 = .ok (.istore_n 3, 1) := by decide +kernel
theorem dX11_order_86 : decode cX11_order 86 = .ok (.iconst 0, 1) := by decide +kernel
theorem dX11_order_87 : decode cX11_order 87 = .ok (.istore 6, 2) := by decide +kernel
theorem dX11_order_89 : decode cX11_order 89 = .ok (.iload 6, 2) := by decide +kernel
theorem dX11_order_91 : decode cX11_order 91 = .ok (.iload_n 2, 1) := by decide +kernel
theorem dX11_order_92 : decode cX11_order 92 = .ok (.if_icmp .ge 23, 3) := by decide +kernel
theorem dX11_order_95 : decode cX11_order 95 = .ok (.aload_n 0, 1) := by decide +kernel
theorem dX11_order_96 : decode cX11_order 96 = .ok (.getfield 125, 3) := by decide +kernel
theorem dX11_order_99 : decode cX11_order 99 = .ok (.iload 6, 2) := by decide +kernel
theorem dX11_order_101 : decode cX11_order 101 = .ok (.aload_n 0, 1) := by decide +kernel
theorem dX11_order_102 : decode cX11_order 102 = .ok (.getfield 122, 3) := by decide +kernel
theorem dX11_order_105 : decode cX11_order 105 = .ok (.iload 6, 2) := by decide +kernel
theorem dX11_order_107 : decode cX11_order 107 = .ok (.iaload, 1) := by decide +kernel
theorem dX11_order_108 : decode cX11_order 108 = .ok (.iastore, 1) := by decide +kernel
theorem dX11_order_109 : decode cX11_order 109 = .ok (.iinc 6 1, 3) := by decide +kernel
theorem dX11_order_112 : decode cX11_order 112 = .ok (.goto (-23), 3) := by decide +kernel
theorem dX11_order_115 : decode cX11_order 115 = .ok (.aload_n 0, 1) := by decide +kernel
theorem dX11_order_116 : decode cX11_order 116 = .ok (.iload_n 2, 1) := by decide +kernel
theorem dX11_order_117 : decode cX11_order 117 = .ok (.invokevirtual 461, 3) := by decide +kernel
theorem dX11_order_120 : decode cX11_order 120 = .ok (.istore 4, 2) := by decide +kernel
theorem dX11_order_122 : decode cX11_order 122 = .ok (.goto (-91), 3) := by decide +kernel
theorem dX11_order_125 : decode cX11_order 125 = .ok (.aload_n 0, 1) := by decide +kernel
theorem dX11_order_126 : decode cX11_order 126 = .ok (.aload_n 0, 1) := by decide +kernel
theorem dX11_order_127 : decode cX11_order 127 = .ok (.getfield 125, 3) := by decide +kernel
theorem dX11_order_130 : decode cX11_order 130 = .ok (.iload_n 2, 1) := by decide +kernel
theorem dX11_order_131 : decode cX11_order 131 = .ok (.invokevirtual 464, 3) := by decide +kernel
theorem dX11_order_134 : decode cX11_order 134 = .ok (.iload_n 3, 1) := by decide +kernel
theorem dX11_order_135 : decode cX11_order 135 = .ok (.ireturn, 1) := by decide +kernel
theorem dX11_layAsked_0 : decode cX11_layAsked 0 = .ok (.iconst 1, 1) := by decide +kernel
theorem dX11_layAsked_1 : decode cX11_layAsked 1 = .ok (.istore_n 3, 1) := by decide +kernel
theorem dX11_layAsked_2 : decode cX11_layAsked 2 = .ok (.iconst 0, 1) := by decide +kernel
theorem dX11_layAsked_3 : decode cX11_layAsked 3 = .ok (.istore 4, 2) := by decide +kernel
theorem dX11_layAsked_5 : decode cX11_layAsked 5 = .ok (.iload 4, 2) := by decide +kernel
theorem dX11_layAsked_7 : decode cX11_layAsked 7 = .ok (.iload_n 1, 1) := by decide +kernel
theorem dX11_layAsked_8 : decode cX11_layAsked 8 = .ok (.if_icmp .ge 21, 3) := by decide +kernel
theorem dX11_layAsked_11 : decode cX11_layAsked 11 = .ok (.iload_n 3, 1) := by decide +kernel
theorem dX11_layAsked_12 : decode cX11_layAsked 12 = .ok (.aload_n 0, 1) := by decide +kernel
theorem dX11_layAsked_13 : decode cX11_layAsked 13 = .ok (.getfield 33, 3) := by decide +kernel
theorem dX11_layAsked_16 : decode cX11_layAsked 16 = .ok (.aload_n 0, 1) := by decide +kernel
theorem dX11_layAsked_17 : decode cX11_layAsked 17 = .ok (.getfield 288, 3) := by decide +kernel
theorem dX11_layAsked_20 : decode cX11_layAsked 20 = .ok (.iaload, 1) := by decide +kernel
theorem dX11_layAsked_21 : decode cX11_layAsked 21 = .ok (.imul, 1) := by decide +kernel
theorem dX11_layAsked_22 : decode cX11_layAsked 22 = .ok (.istore_n 3, 1) := by decide +kernel
theorem dX11_layAsked_23 : decode cX11_layAsked 23 = .ok (.iinc 4 1, 3) := by decide +kernel
theorem dX11_layAsked_26 : decode cX11_layAsked 26 = .ok (.goto (-21), 3) := by decide +kernel
theorem dX11_layAsked_29 : decode cX11_layAsked 29 = .ok (.aload_n 0, 1) := by decide +kernel
theorem dX11_layAsked_30 : decode cX11_layAsked 30 = .ok (.iconst 0, 1) := by decide +kernel
theorem dX11_layAsked_31 : decode cX11_layAsked 31 = .ok (.putfield 494, 3) := by decide +kernel
theorem dX11_layAsked_34 : decode cX11_layAsked 34 = .ok (.iconst 0, 1) := by decide +kernel
theorem dX11_layAsked_35 : decode cX11_layAsked 35 = .ok (.istore 4, 2) := by decide +kernel
theorem dX11_layAsked_37 : decode cX11_layAsked 37 = .ok (.iload 4, 2) := by decide +kernel
theorem dX11_layAsked_39 : decode cX11_layAsked 39 = .ok (.iconst 3, 1) := by decide +kernel
theorem dX11_layAsked_40 : decode cX11_layAsked 40 = .ok (.if_icmp .ge 17, 3) := by decide +kernel
theorem dX11_layAsked_43 : decode cX11_layAsked 43 = .ok (.aload_n 0, 1) := by decide +kernel
theorem dX11_layAsked_44 : decode cX11_layAsked 44 = .ok (.getfield 155, 3) := by decide +kernel
theorem dX11_layAsked_47 : decode cX11_layAsked 47 = .ok (.iload 4, 2) := by decide +kernel
theorem dX11_layAsked_49 : decode cX11_layAsked 49 = .ok (.iconst 0, 1) := by decide +kernel
theorem dX11_layAsked_50 : decode cX11_layAsked 50 = .ok (.iastore, 1) := by decide +kernel
theorem dX11_layAsked_51 : decode cX11_layAsked 51 = .ok (.iinc 4 1, 3) := by decide +kernel
theorem dX11_layAsked_54 : decode cX11_layAsked 54 = .ok (.goto (-17), 3) := by decide +kernel
theorem dX11_layAsked_57 : decode cX11_layAsked 57 = .ok (.aload_n 0, 1) := by decide +kernel
theorem dX11_layAsked_58 : decode cX11_layAsked 58 = .ok (.iconst 0, 1) := by decide +kernel
theorem dX11_layAsked_59 : decode cX11_layAsked 59 = .ok (.invokevirtual 452, 3) := by decide +kernel
theorem dX11_layAsked_62 : decode cX11_layAsked 62 = .ok (.iconst 0, 1) := by decide +kernel
theorem dX11_layAsked_63 : decode cX11_layAsked 63 = .ok (.istore 4, 2) := by decide +kernel
theorem dX11_layAsked_65 : decode cX11_layAsked 65 = .ok (.iload 4, 2) := by decide +kernel
theorem dX11_layAsked_67 : decode cX11_layAsked 67 = .ok (.iload_n 3, 1) := by decide +kernel
theorem dX11_layAsked_68 : decode cX11_layAsked 68 = .ok (.if_icmp .ge 154, 3) := by decide +kernel
theorem dX11_layAsked_71 : decode cX11_layAsked 71 = .ok (.iload 4, 2) := by decide +kernel
theorem dX11_layAsked_73 : decode cX11_layAsked 73 = .ok (.istore 5, 2) := by decide +kernel
theorem dX11_layAsked_75 : decode cX11_layAsked 75 = .ok (.iload_n 1, 1) := by decide +kernel
theorem dX11_layAsked_76 : decode cX11_layAsked 76 = .ok (.iconst 1, 1) := by decide +kernel
theorem dX11_layAsked_77 : decode cX11_layAsked 77 = .ok (.isub, 1) := by decide +kernel
theorem dX11_layAsked_78 : decode cX11_layAsked 78 = .ok (.istore 6, 2) := by decide +kernel
theorem dX11_layAsked_80 : decode cX11_layAsked 80 = .ok (.iload 6, 2) := by decide +kernel
theorem dX11_layAsked_82 : decode cX11_layAsked 82 = .ok (.ifCond .lt 42, 3) := by decide +kernel
theorem dX11_layAsked_85 : decode cX11_layAsked 85 = .ok (.aload_n 0, 1) := by decide +kernel
theorem dX11_layAsked_86 : decode cX11_layAsked 86 = .ok (.getfield 122, 3) := by decide +kernel
theorem dX11_layAsked_89 : decode cX11_layAsked 89 = .ok (.iload 6, 2) := by decide +kernel
theorem dX11_layAsked_91 : decode cX11_layAsked 91 = .ok (.iload 5, 2) := by decide +kernel
theorem dX11_layAsked_93 : decode cX11_layAsked 93 = .ok (.aload_n 0, 1) := by decide +kernel
theorem dX11_layAsked_94 : decode cX11_layAsked 94 = .ok (.getfield 33, 3) := by decide +kernel
theorem dX11_layAsked_97 : decode cX11_layAsked 97 = .ok (.aload_n 0, 1) := by decide +kernel
theorem dX11_layAsked_98 : decode cX11_layAsked 98 = .ok (.getfield 288, 3) := by decide +kernel
theorem dX11_layAsked_101 : decode cX11_layAsked 101 = .ok (.iaload, 1) := by decide +kernel
theorem dX11_layAsked_102 : decode cX11_layAsked 102 = .ok (.irem, 1) := by decide +kernel
theorem dX11_layAsked_103 : decode cX11_layAsked 103 = .ok (.iastore, 1) := by decide +kernel
theorem dX11_layAsked_104 : decode cX11_layAsked 104 = .ok (.iload 5, 2) := by decide +kernel
theorem dX11_layAsked_106 : decode cX11_layAsked 106 = .ok (.aload_n 0, 1) := by decide +kernel
theorem dX11_layAsked_107 : decode cX11_layAsked 107 = .ok (.getfield 33, 3) := by decide +kernel
theorem dX11_layAsked_110 : decode cX11_layAsked 110 = .ok (.aload_n 0, 1) := by decide +kernel
theorem dX11_layAsked_111 : decode cX11_layAsked 111 = .ok (.getfield 288, 3) := by decide +kernel
theorem dX11_layAsked_114 : decode cX11_layAsked 114 = .ok (.iaload, 1) := by decide +kernel
theorem dX11_layAsked_115 : decode cX11_layAsked 115 = .ok (.idiv, 1) := by decide +kernel
theorem dX11_layAsked_116 : decode cX11_layAsked 116 = .ok (.istore 5, 2) := by decide +kernel
theorem dX11_layAsked_118 : decode cX11_layAsked 118 = .ok (.iinc 6 (-1), 3) := by decide +kernel
theorem dX11_layAsked_121 : decode cX11_layAsked 121 = .ok (.goto (-41), 3) := by decide +kernel
theorem dX11_layAsked_124 : decode cX11_layAsked 124 = .ok (.aload_n 0, 1) := by decide +kernel
theorem dX11_layAsked_125 : decode cX11_layAsked 125 = .ok (.iload_n 1, 1) := by decide +kernel
theorem dX11_layAsked_126 : decode cX11_layAsked 126 = .ok (.iload_n 2, 1) := by decide +kernel
theorem dX11_layAsked_127 : decode cX11_layAsked 127 = .ok (.invokevirtual 497, 3) := by decide +kernel
theorem dX11_layAsked_130 : decode cX11_layAsked 130 = .ok (.ifCond .ne 6, 3) := by decide +kernel
theorem dX11_layAsked_133 : decode cX11_layAsked 133 = .ok (.goto 83, 3) := by decide +kernel
theorem dX11_layAsked_136 : decode cX11_layAsked 136 = .ok (.aload_n 0, 1) := by decide +kernel
theorem dX11_layAsked_137 : decode cX11_layAsked 137 = .ok (.getfield 494, 3) := by decide +kernel
theorem dX11_layAsked_140 : decode cX11_layAsked 140 = .ok (.ifCond .ne 32, 3) := by decide +kernel
theorem dX11_layAsked_143 : decode cX11_layAsked 143 = .ok (.iconst 0, 1) := by decide +kernel
theorem dX11_layAsked_144 : decode cX11_layAsked 144 = .ok (.istore 6, 2) := by decide +kernel
theorem dX11_layAsked_146 : decode cX11_layAsked 146 = .ok (.iload 6, 2) := by decide +kernel
theorem dX11_layAsked_148 : decode cX11_layAsked 148 = .ok (.iload_n 1, 1) := by decide +kernel
theorem dX11_layAsked_149 : decode cX11_layAsked 149 = .ok (.if_icmp .ge 23, 3) := by decide +kernel
theorem dX11_layAsked_152 : decode cX11_layAsked 152 = .ok (.aload_n 0, 1) := by decide +kernel
theorem dX11_layAsked_153 : decode cX11_layAsked 153 = .ok (.getfield 125, 3) := by decide +kernel
theorem dX11_layAsked_156 : decode cX11_layAsked 156 = .ok (.iload 6, 2) := by decide +kernel
theorem dX11_layAsked_158 : decode cX11_layAsked 158 = .ok (.aload_n 0, 1) := by decide +kernel
theorem dX11_layAsked_159 : decode cX11_layAsked 159 = .ok (.getfield 122, 3) := by decide +kernel
theorem dX11_layAsked_162 : decode cX11_layAsked 162 = .ok (.iload 6, 2) := by decide +kernel
theorem dX11_layAsked_164 : decode cX11_layAsked 164 = .ok (.iaload, 1) := by decide +kernel
theorem dX11_layAsked_165 : decode cX11_layAsked 165 = .ok (.iastore, 1) := by decide +kernel
theorem dX11_layAsked_166 : decode cX11_layAsked 166 = .ok (.iinc 6 1, 3) := by decide +kernel
theorem dX11_layAsked_169 : decode cX11_layAsked 169 = .ok (.goto (-23), 3) := by decide +kernel
theorem dX11_layAsked_172 : decode cX11_layAsked 172 = .ok (.aload_n 0, 1) := by decide +kernel
theorem dX11_layAsked_173 : decode cX11_layAsked 173 = .ok (.dup, 1) := by decide +kernel
theorem dX11_layAsked_174 : decode cX11_layAsked 174 = .ok (.getfield 494, 3) := by decide +kernel
theorem dX11_layAsked_177 : decode cX11_layAsked 177 = .ok (.iconst 1, 1) := by decide +kernel
theorem dX11_layAsked_178 : decode cX11_layAsked 178 = .ok (.iadd, 1) := by decide +kernel
theorem dX11_layAsked_179 : decode cX11_layAsked 179 = .ok (.putfield 494, 3) := by decide +kernel
theorem dX11_layAsked_182 : decode cX11_layAsked 182 = .ok (.iconst 0, 1) := by decide +kernel
theorem dX11_layAsked_183 : decode cX11_layAsked 183 = .ok (.istore 6, 2) := by decide +kernel
theorem dX11_layAsked_185 : decode cX11_layAsked 185 = .ok (.iload 6, 2) := by decide +kernel
theorem dX11_layAsked_187 : decode cX11_layAsked 187 = .ok (.iload_n 1, 1) := by decide +kernel
theorem dX11_layAsked_188 : decode cX11_layAsked 188 = .ok (.if_icmp .ge 28, 3) := by decide +kernel
theorem dX11_layAsked_191 : decode cX11_layAsked 191 = .ok (.aload_n 0, 1) := by decide +kernel
theorem dX11_layAsked_192 : decode cX11_layAsked 192 = .ok (.getfield 155, 3) := by decide +kernel
theorem dX11_layAsked_195 : decode cX11_layAsked 195 = .ok (.iload 6, 2) := by decide +kernel
theorem dX11_layAsked_197 : decode cX11_layAsked 197 = .ok (.dup2, 1) := by decide +kernel
theorem dX11_layAsked_198 : decode cX11_layAsked 198 = .ok (.iaload, 1) := by decide +kernel
theorem dX11_layAsked_199 : decode cX11_layAsked 199 = .ok (.iconst 1, 1) := by decide +kernel
theorem dX11_layAsked_200 : decode cX11_layAsked 200 = .ok (.aload_n 0, 1) := by decide +kernel
theorem dX11_layAsked_201 : decode cX11_layAsked 201 = .ok (.getfield 122, 3) := by decide +kernel
theorem dX11_layAsked_204 : decode cX11_layAsked 204 = .ok (.iload 6, 2) := by decide +kernel
theorem dX11_layAsked_206 : decode cX11_layAsked 206 = .ok (.iaload, 1) := by decide +kernel
theorem dX11_layAsked_207 : decode cX11_layAsked 207 = .ok (.ishl, 1) := by decide +kernel
theorem dX11_layAsked_208 : decode cX11_layAsked 208 = .ok (.ior, 1) := by decide +kernel
theorem dX11_layAsked_209 : decode cX11_layAsked 209 = .ok (.iastore, 1) := by decide +kernel
theorem dX11_layAsked_210 : decode cX11_layAsked 210 = .ok (.iinc 6 1, 3) := by decide +kernel
theorem dX11_layAsked_213 : decode cX11_layAsked 213 = .ok (.goto (-28), 3) := by decide +kernel
theorem dX11_layAsked_216 : decode cX11_layAsked 216 = .ok (.iinc 4 1, 3) := by decide +kernel
theorem dX11_layAsked_219 : decode cX11_layAsked 219 = .ok (.goto (-154), 3) := by decide +kernel
theorem dX11_layAsked_222 : decode cX11_layAsked 222 = .ok (.aload_n 0, 1) := by decide +kernel
theorem dX11_layAsked_223 : decode cX11_layAsked 223 = .ok (.iconst 0, 1) := by decide +kernel
theorem dX11_layAsked_224 : decode cX11_layAsked 224 = .ok (.invokevirtual 458, 3) := by decide +kernel
theorem dX11_layAsked_227 : decode cX11_layAsked 227 = .ok (.return_, 1) := by decide +kernel
theorem dX11_asked_0 : decode cX11_asked 0 = .ok (.aload_n 0, 1) := by decide +kernel
theorem dX11_asked_1 : decode cX11_asked 1 = .ok (.iconst 0, 1) := by decide +kernel
theorem dX11_asked_2 : decode cX11_asked 2 = .ok (.putfield 297, 3) := by decide +kernel
theorem dX11_asked_5 : decode cX11_asked 5 = .ok (.iload_n 1, 1) := by decide +kernel
theorem dX11_asked_6 : decode cX11_asked 6 = .ok (.iconst 1, 1) := by decide +kernel
theorem dX11_asked_7 : decode cX11_asked 7 = .ok (.iconst 3, 1) := by decide +kernel
theorem dX11_asked_8 : decode cX11_asked 8 = .ok (.invokestatic 375, 3) := by decide +kernel
theorem dX11_asked_11 : decode cX11_asked 11 = .ok (.ifCond .ne 5, 3) := by decide +kernel
theorem dX11_asked_14 : decode cX11_asked 14 = .ok (.iconst (-1), 1) := by decide +kernel
theorem dX11_asked_15 : decode cX11_asked 15 = .ok (.ireturn, 1) := by decide +kernel
theorem dX11_asked_16 : decode cX11_asked 16 = .ok (.aload_n 0, 1) := by decide +kernel
theorem dX11_asked_17 : decode cX11_asked 17 = .ok (.iload_n 1, 1) := by decide +kernel
theorem dX11_asked_18 : decode cX11_asked 18 = .ok (.iload_n 2, 1) := by decide +kernel
theorem dX11_asked_19 : decode cX11_asked 19 = .ok (.invokevirtual 500, 3) := by decide +kernel
theorem dX11_asked_22 : decode cX11_asked 22 = .ok (.aload_n 0, 1) := by decide +kernel
theorem dX11_asked_23 : decode cX11_asked 23 = .ok (.getfield 494, 3) := by decide +kernel
theorem dX11_asked_26 : decode cX11_asked 26 = .ok (.ifCond .le 12, 3) := by decide +kernel
theorem dX11_asked_29 : decode cX11_asked 29 = .ok (.aload_n 0, 1) := by decide +kernel
theorem dX11_asked_30 : decode cX11_asked 30 = .ok (.aload_n 0, 1) := by decide +kernel
theorem dX11_asked_31 : decode cX11_asked 31 = .ok (.getfield 125, 3) := by decide +kernel
theorem dX11_asked_34 : decode cX11_asked 34 = .ok (.iload_n 1, 1) := by decide +kernel
theorem dX11_asked_35 : decode cX11_asked 35 = .ok (.invokevirtual 464, 3) := by decide +kernel
theorem dX11_asked_38 : decode cX11_asked 38 = .ok (.aload_n 0, 1) := by decide +kernel
theorem dX11_asked_39 : decode cX11_asked 39 = .ok (.getfield 494, 3) := by decide +kernel
theorem dX11_asked_42 : decode cX11_asked 42 = .ok (.ireturn, 1) := by decide +kernel
theorem dX11_sure_0 : decode cX11_sure 0 = .ok (.iload_n 1, 1) := by decide +kernel
theorem dX11_sure_1 : decode cX11_sure 1 = .ok (.iconst 1, 1) := by decide +kernel
theorem dX11_sure_2 : decode cX11_sure 2 = .ok (.iconst 3, 1) := by decide +kernel
theorem dX11_sure_3 : decode cX11_sure 3 = .ok (.invokestatic 375, 3) := by decide +kernel
theorem dX11_sure_6 : decode cX11_sure 6 = .ok (.ifCond .eq 14, 3) := by decide +kernel
theorem dX11_sure_9 : decode cX11_sure 9 = .ok (.iload_n 2, 1) := by decide +kernel
theorem dX11_sure_10 : decode cX11_sure 10 = .ok (.iconst 0, 1) := by decide +kernel
theorem dX11_sure_11 : decode cX11_sure 11 = .ok (.iload_n 1, 1) := by decide +kernel
theorem dX11_sure_12 : decode cX11_sure 12 = .ok (.iconst 1, 1) := by decide +kernel
theorem dX11_sure_13 : decode cX11_sure 13 = .ok (.isub, 1) := by decide +kernel
theorem dX11_sure_14 : decode cX11_sure 14 = .ok (.invokestatic 375, 3) := by decide +kernel
theorem dX11_sure_17 : decode cX11_sure 17 = .ok (.ifCond .ne 5, 3) := by decide +kernel
theorem dX11_sure_20 : decode cX11_sure 20 = .ok (.iconst (-1), 1) := by decide +kernel
theorem dX11_sure_21 : decode cX11_sure 21 = .ok (.ireturn, 1) := by decide +kernel
theorem dX11_sure_22 : decode cX11_sure 22 = .ok (.aload_n 0, 1) := by decide +kernel
theorem dX11_sure_23 : decode cX11_sure 23 = .ok (.iload_n 1, 1) := by decide +kernel
theorem dX11_sure_24 : decode cX11_sure 24 = .ok (.iload_n 3, 1) := by decide +kernel
theorem dX11_sure_25 : decode cX11_sure 25 = .ok (.invokevirtual 500, 3) := by decide +kernel
theorem dX11_sure_28 : decode cX11_sure 28 = .ok (.aload_n 0, 1) := by decide +kernel
theorem dX11_sure_29 : decode cX11_sure 29 = .ok (.getfield 494, 3) := by decide +kernel
theorem dX11_sure_32 : decode cX11_sure 32 = .ok (.ifCond .ne 5, 3) := by decide +kernel
theorem dX11_sure_35 : decode cX11_sure 35 = .ok (.iconst (-1), 1) := by decide +kernel
theorem dX11_sure_36 : decode cX11_sure 36 = .ok (.ireturn, 1) := by decide +kernel
theorem dX11_sure_37 : decode cX11_sure 37 = .ok (.iconst 0, 1) := by decide +kernel
theorem dX11_sure_38 : decode cX11_sure 38 = .ok (.istore 4, 2) := by decide +kernel
theorem dX11_sure_40 : decode cX11_sure 40 = .ok (.iload 4, 2) := by decide +kernel
theorem dX11_sure_42 : decode cX11_sure 42 = .ok (.bipush 6, 2) := by decide +kernel
theorem dX11_sure_44 : decode cX11_sure 44 = .ok (.if_icmp .ge 25, 3) := by decide +kernel
theorem dX11_sure_47 : decode cX11_sure 47 = .ok (.aload_n 0, 1) := by decide +kernel
theorem dX11_sure_48 : decode cX11_sure 48 = .ok (.getfield 155, 3) := by decide +kernel
theorem dX11_sure_51 : decode cX11_sure 51 = .ok (.iload_n 2, 1) := by decide +kernel
theorem dX11_sure_52 : decode cX11_sure 52 = .ok (.iaload, 1) := by decide +kernel
theorem dX11_sure_53 : decode cX11_sure 53 = .ok (.iconst 1, 1) := by decide +kernel
theorem dX11_sure_54 : decode cX11_sure 54 = .ok (.iload 4, 2) := by decide +kernel
theorem dX11_sure_56 : decode cX11_sure 56 = .ok (.ishl, 1) := by decide +kernel
theorem dX11_sure_57 : decode cX11_sure 57 = .ok (.if_icmp .ne 6, 3) := by decide +kernel
theorem dX11_sure_60 : decode cX11_sure 60 = .ok (.iload 4, 2) := by decide +kernel
theorem dX11_sure_62 : decode cX11_sure 62 = .ok (.ireturn, 1) := by decide +kernel
theorem dX11_sure_63 : decode cX11_sure 63 = .ok (.iinc 4 1, 3) := by decide +kernel
theorem dX11_sure_66 : decode cX11_sure 66 = .ok (.goto (-26), 3) := by decide +kernel
theorem dX11_sure_69 : decode cX11_sure 69 = .ok (.bipush (-2), 2) := by decide +kernel
theorem dX11_sure_71 : decode cX11_sure 71 = .ok (.ireturn, 1) := by decide +kernel
theorem dX11_image_0 : decode cX11_image 0 = .ok (.iload_n 1, 1) := by decide +kernel
theorem dX11_image_1 : decode cX11_image 1 = .ok (.iconst 0, 1) := by decide +kernel
theorem dX11_image_2 : decode cX11_image 2 = .ok (.iconst 2, 1) := by decide +kernel
theorem dX11_image_3 : decode cX11_image 3 = .ok (.invokestatic 375, 3) := by decide +kernel
theorem dX11_image_6 : decode cX11_image 6 = .ok (.ifCond .ne 5, 3) := by decide +kernel
theorem dX11_image_9 : decode cX11_image 9 = .ok (.iconst (-1), 1) := by decide +kernel
theorem dX11_image_10 : decode cX11_image 10 = .ok (.ireturn, 1) := by decide +kernel
theorem dX11_image_11 : decode cX11_image 11 = .ok (.iconst 0, 1) := by decide +kernel
theorem dX11_image_12 : decode cX11_image 12 = .ok (.istore_n 2, 1) := by decide +kernel
theorem dX11_image_13 : decode cX11_image 13 = .ok (.iload_n 2, 1) := by decide +kernel
theorem dX11_image_14 : decode cX11_image 14 = .ok (.bipush 62, 2) := by decide +kernel
theorem dX11_image_16 : decode cX11_image 16 = .ok (.if_icmp .ge 26, 3) := by decide +kernel
theorem dX11_image_19 : decode cX11_image 19 = .ok (.aload_n 0, 1) := by decide +kernel
theorem dX11_image_20 : decode cX11_image 20 = .ok (.getfield 158, 3) := by decide +kernel
theorem dX11_image_23 : decode cX11_image 23 = .ok (.bipush 62, 2) := by decide +kernel
theorem dX11_image_25 : decode cX11_image 25 = .ok (.iload_n 1, 1) := by decide +kernel
theorem dX11_image_26 : decode cX11_image 26 = .ok (.imul, 1) := by decide +kernel
theorem dX11_image_27 : decode cX11_image 27 = .ok (.iload_n 2, 1) := by decide +kernel
theorem dX11_image_28 : decode cX11_image 28 = .ok (.iadd, 1) := by decide +kernel
theorem dX11_image_29 : decode cX11_image 29 = .ok (.aload_n 0, 1) := by decide +kernel
theorem dX11_image_30 : decode cX11_image 30 = .ok (.getfield 104, 3) := by decide +kernel
theorem dX11_image_33 : decode cX11_image 33 = .ok (.iload_n 2, 1) := by decide +kernel
theorem dX11_image_34 : decode cX11_image 34 = .ok (.iaload, 1) := by decide +kernel
theorem dX11_image_35 : decode cX11_image 35 = .ok (.iastore, 1) := by decide +kernel
theorem dX11_image_36 : decode cX11_image 36 = .ok (.iinc 2 1, 3) := by decide +kernel
theorem dX11_image_39 : decode cX11_image 39 = .ok (.goto (-26), 3) := by decide +kernel
theorem dX11_image_42 : decode cX11_image 42 = .ok (.aload_n 0, 1) := by decide +kernel
theorem dX11_image_43 : decode cX11_image 43 = .ok (.getfield 161, 3) := by decide +kernel
theorem dX11_image_46 : decode cX11_image 46 = .ok (.iload_n 1, 1) := by decide +kernel
theorem dX11_image_47 : decode cX11_image 47 = .ok (.iconst 1, 1) := by decide +kernel
theorem dX11_image_48 : decode cX11_image 48 = .ok (.bastore, 1) := by decide +kernel
theorem dX11_image_49 : decode cX11_image 49 = .ok (.aload_n 0, 1) := by decide +kernel
theorem dX11_image_50 : decode cX11_image 50 = .ok (.getfield 104, 3) := by decide +kernel
theorem dX11_image_53 : decode cX11_image 53 = .ok (.bipush 61, 2) := by decide +kernel
theorem dX11_image_55 : decode cX11_image 55 = .ok (.iaload, 1) := by decide +kernel
theorem dX11_image_56 : decode cX11_image 56 = .ok (.ireturn, 1) := by decide +kernel
theorem dX11_back_0 : decode cX11_back 0 = .ok (.iload_n 1, 1) := by decide +kernel
theorem dX11_back_1 : decode cX11_back 1 = .ok (.iconst 0, 1) := by decide +kernel
theorem dX11_back_2 : decode cX11_back 2 = .ok (.iconst 2, 1) := by decide +kernel
theorem dX11_back_3 : decode cX11_back 3 = .ok (.invokestatic 375, 3) := by decide +kernel
theorem dX11_back_6 : decode cX11_back 6 = .ok (.ifCond .eq 12, 3) := by decide +kernel
theorem dX11_back_9 : decode cX11_back 9 = .ok (.aload_n 0, 1) := by decide +kernel
theorem dX11_back_10 : decode cX11_back 10 = .ok (.getfield 161, 3) := by decide +kernel
theorem dX11_back_13 : decode cX11_back 13 = .ok (.iload_n 1, 1) := by decide +kernel
theorem dX11_back_14 : decode cX11_back 14 = .ok (.baload, 1) := by decide +kernel
theorem dX11_back_15 : decode cX11_back 15 = .ok (.ifCond .ne 5, 3) := by decide +kernel
theorem dX11_back_18 : decode cX11_back 18 = .ok (.iconst (-1), 1) := by decide +kernel
theorem dX11_back_19 : decode cX11_back 19 = .ok (.ireturn, 1) := by decide +kernel
theorem dX11_back_20 : decode cX11_back 20 = .ok (.iconst 0, 1) := by decide +kernel
theorem dX11_back_21 : decode cX11_back 21 = .ok (.istore_n 2, 1) := by decide +kernel
theorem dX11_back_22 : decode cX11_back 22 = .ok (.iload_n 2, 1) := by decide +kernel
theorem dX11_back_23 : decode cX11_back 23 = .ok (.bipush 62, 2) := by decide +kernel
theorem dX11_back_25 : decode cX11_back 25 = .ok (.if_icmp .ge 26, 3) := by decide +kernel
theorem dX11_back_28 : decode cX11_back 28 = .ok (.aload_n 0, 1) := by decide +kernel
theorem dX11_back_29 : decode cX11_back 29 = .ok (.getfield 104, 3) := by decide +kernel
theorem dX11_back_32 : decode cX11_back 32 = .ok (.iload_n 2, 1) := by decide +kernel
theorem dX11_back_33 : decode cX11_back 33 = .ok (.aload_n 0, 1) := by decide +kernel
theorem dX11_back_34 : decode cX11_back 34 = .ok (.getfield 158, 3) := by decide +kernel
theorem dX11_back_37 : decode cX11_back 37 = .ok (.bipush 62, 2) := by decide +kernel
theorem dX11_back_39 : decode cX11_back 39 = .ok (.iload_n 1, 1) := by decide +kernel
theorem dX11_back_40 : decode cX11_back 40 = .ok (.imul, 1) := by decide +kernel
theorem dX11_back_41 : decode cX11_back 41 = .ok (.iload_n 2, 1) := by decide +kernel
theorem dX11_back_42 : decode cX11_back 42 = .ok (.iadd, 1) := by decide +kernel
theorem dX11_back_43 : decode cX11_back 43 = .ok (.iaload, 1) := by decide +kernel
theorem dX11_back_44 : decode cX11_back 44 = .ok (.iastore, 1) := by decide +kernel
theorem dX11_back_45 : decode cX11_back 45 = .ok (.iinc 2 1, 3) := by decide +kernel
theorem dX11_back_48 : decode cX11_back 48 = .ok (.goto (-26), 3) := by decide +kernel
theorem dX11_back_51 : decode cX11_back 51 = .ok (.aload_n 0, 1) := by decide +kernel
theorem dX11_back_52 : decode cX11_back 52 = .ok (.iconst 0, 1) := by decide +kernel
theorem dX11_back_53 : decode cX11_back 53 = .ok (.putfield 386, 3) := by decide +kernel
theorem dX11_back_56 : decode cX11_back 56 = .ok (.aload_n 0, 1) := by decide +kernel
theorem dX11_back_57 : decode cX11_back 57 = .ok (.iconst 0, 1) := by decide +kernel
theorem dX11_back_58 : decode cX11_back 58 = .ok (.putfield 389, 3) := by decide +kernel
theorem dX11_back_61 : decode cX11_back 61 = .ok (.aload_n 0, 1) := by decide +kernel
theorem dX11_back_62 : decode cX11_back 62 = .ok (.getfield 104, 3) := by decide +kernel
theorem dX11_back_65 : decode cX11_back 65 = .ok (.bipush 61, 2) := by decide +kernel
theorem dX11_back_67 : decode cX11_back 67 = .ok (.iaload, 1) := by decide +kernel
theorem dX11_back_68 : decode cX11_back 68 = .ok (.ireturn, 1) := by decide +kernel
theorem dX11_about_0 : decode cX11_about 0 = .ok (.iload_n 1, 1) := by decide +kernel
theorem dX11_about_1 : decode cX11_about 1 = .ok (.tableswitch 174 0 13 #[71, 81, 91, 101, 111, 121, 129, 134, 139, 144, 149, 154, 164, 169], 71) := by decide +kernel
theorem dX11_about_72 : decode cX11_about 72 = .ok (.aload_n 0, 1) := by decide +kernel
theorem dX11_about_73 : decode cX11_about 73 = .ok (.getfield 20, 3) := by decide +kernel
theorem dX11_about_76 : decode cX11_about 76 = .ok (.aload_n 0, 1) := by decide +kernel
theorem dX11_about_77 : decode cX11_about 77 = .ok (.getfield 288, 3) := by decide +kernel
theorem dX11_about_80 : decode cX11_about 80 = .ok (.iaload, 1) := by decide +kernel
theorem dX11_about_81 : decode cX11_about 81 = .ok (.ireturn, 1) := by decide +kernel
theorem dX11_about_82 : decode cX11_about 82 = .ok (.aload_n 0, 1) := by decide +kernel
theorem dX11_about_83 : decode cX11_about 83 = .ok (.getfield 24, 3) := by decide +kernel
theorem dX11_about_86 : decode cX11_about 86 = .ok (.aload_n 0, 1) := by decide +kernel
theorem dX11_about_87 : decode cX11_about 87 = .ok (.getfield 288, 3) := by decide +kernel
theorem dX11_about_90 : decode cX11_about 90 = .ok (.iaload, 1) := by decide +kernel
theorem dX11_about_91 : decode cX11_about 91 = .ok (.ireturn, 1) := by decide +kernel
theorem dX11_about_92 : decode cX11_about 92 = .ok (.aload_n 0, 1) := by decide +kernel
theorem dX11_about_93 : decode cX11_about 93 = .ok (.getfield 33, 3) := by decide +kernel
theorem dX11_about_96 : decode cX11_about 96 = .ok (.aload_n 0, 1) := by decide +kernel
theorem dX11_about_97 : decode cX11_about 97 = .ok (.getfield 288, 3) := by decide +kernel
theorem dX11_about_100 : decode cX11_about 100 = .ok (.iaload, 1) := by decide +kernel
theorem dX11_about_101 : decode cX11_about 101 = .ok (.ireturn, 1) := by decide +kernel
theorem dX11_about_102 : decode cX11_about 102 = .ok (.aload_n 0, 1) := by decide +kernel
theorem dX11_about_103 : decode cX11_about 103 = .ok (.getfield 36, 3) := by decide +kernel
theorem dX11_about_106 : decode cX11_about 106 = .ok (.aload_n 0, 1) := by decide +kernel
theorem dX11_about_107 : decode cX11_about 107 = .ok (.getfield 288, 3) := by decide +kernel
theorem dX11_about_110 : decode cX11_about 110 = .ok (.iaload, 1) := by decide +kernel
theorem dX11_about_111 : decode cX11_about 111 = .ok (.ireturn, 1) := by decide +kernel
theorem dX11_about_112 : decode cX11_about 112 = .ok (.aload_n 0, 1) := by decide +kernel
theorem dX11_about_113 : decode cX11_about 113 = .ok (.getfield 30, 3) := by decide +kernel
theorem dX11_about_116 : decode cX11_about 116 = .ok (.aload_n 0, 1) := by decide +kernel
theorem dX11_about_117 : decode cX11_about 117 = .ok (.getfield 288, 3) := by decide +kernel
theorem dX11_about_120 : decode cX11_about 120 = .ok (.iaload, 1) := by decide +kernel
theorem dX11_about_121 : decode cX11_about 121 = .ok (.ireturn, 1) := by decide +kernel
theorem dX11_about_122 : decode cX11_about 122 = .ok (.aload_n 0, 1) := by decide +kernel
theorem dX11_about_123 : decode cX11_about 123 = .ok (.getfield 104, 3) := by decide +kernel
theorem dX11_about_126 : decode cX11_about 126 = .ok (.bipush 61, 2) := by decide +kernel
theorem dX11_about_128 : decode cX11_about 128 = .ok (.iaload, 1) := by decide +kernel
theorem dX11_about_129 : decode cX11_about 129 = .ok (.ireturn, 1) := by decide +kernel
theorem dX11_about_130 : decode cX11_about 130 = .ok (.aload_n 0, 1) := by decide +kernel
theorem dX11_about_131 : decode cX11_about 131 = .ok (.getfield 386, 3) := by decide +kernel
theorem dX11_about_134 : decode cX11_about 134 = .ok (.ireturn, 1) := by decide +kernel
theorem dX11_about_135 : decode cX11_about 135 = .ok (.aload_n 0, 1) := by decide +kernel
theorem dX11_about_136 : decode cX11_about 136 = .ok (.getfield 389, 3) := by decide +kernel
theorem dX11_about_139 : decode cX11_about 139 = .ok (.ireturn, 1) := by decide +kernel
theorem dX11_about_140 : decode cX11_about 140 = .ok (.aload_n 0, 1) := by decide +kernel
theorem dX11_about_141 : decode cX11_about 141 = .ok (.getfield 294, 3) := by decide +kernel
theorem dX11_about_144 : decode cX11_about 144 = .ok (.ireturn, 1) := by decide +kernel
theorem dX11_about_145 : decode cX11_about 145 = .ok (.aload_n 0, 1) := by decide +kernel
theorem dX11_about_146 : decode cX11_about 146 = .ok (.getfield 480, 3) := by decide +kernel
theorem dX11_about_149 : decode cX11_about 149 = .ok (.ireturn, 1) := by decide +kernel
theorem dX11_about_150 : decode cX11_about 150 = .ok (.aload_n 0, 1) := by decide +kernel
theorem dX11_about_151 : decode cX11_about 151 = .ok (.getfield 285, 3) := by decide +kernel
theorem dX11_about_154 : decode cX11_about 154 = .ok (.ireturn, 1) := by decide +kernel
theorem dX11_about_155 : decode cX11_about 155 = .ok (.aload_n 0, 1) := by decide +kernel
theorem dX11_about_156 : decode cX11_about 156 = .ok (.getfield 39, 3) := by decide +kernel
theorem dX11_about_159 : decode cX11_about 159 = .ok (.aload_n 0, 1) := by decide +kernel
theorem dX11_about_160 : decode cX11_about 160 = .ok (.getfield 288, 3) := by decide +kernel
theorem dX11_about_163 : decode cX11_about 163 = .ok (.iaload, 1) := by decide +kernel
theorem dX11_about_164 : decode cX11_about 164 = .ok (.ireturn, 1) := by decide +kernel
theorem dX11_about_165 : decode cX11_about 165 = .ok (.aload_n 0, 1) := by decide +kernel
theorem dX11_about_166 : decode cX11_about 166 = .ok (.getfield 297, 3) := by decide +kernel
theorem dX11_about_169 : decode cX11_about 169 = .ok (.ireturn, 1) := by decide +kernel
theorem dX11_about_170 : decode cX11_about 170 = .ok (.aload_n 0, 1) := by decide +kernel
theorem dX11_about_171 : decode cX11_about 171 = .ok (.invokevirtual 422, 3) := by decide +kernel
theorem dX11_about_174 : decode cX11_about 174 = .ok (.ireturn, 1) := by decide +kernel
theorem dX11_about_175 : decode cX11_about 175 = .ok (.iconst (-1), 1) := by decide +kernel
theorem dX11_about_176 : decode cX11_about 176 = .ok (.ireturn, 1) := by decide +kernel
theorem dX11_keepAct_0 : decode cX11_keepAct 0 = .ok (.aload_n 0, 1) := by decide +kernel
theorem dX11_keepAct_1 : decode cX11_keepAct 1 = .ok (.getfield 386, 3) := by decide +kernel
theorem dX11_keepAct_4 : decode cX11_keepAct 4 = .ok (.bipush 40, 2) := by decide +kernel
theorem dX11_keepAct_6 : decode cX11_keepAct 6 = .ok (.if_icmp .ne 43, 3) := by decide +kernel
theorem dX11_keepAct_9 : decode cX11_keepAct 9 = .ok (.iconst 0, 1) := by decide +kernel
theorem dX11_keepAct_10 : decode cX11_keepAct 10 = .ok (.istore_n 1, 1) := by decide +kernel
theorem dX11_keepAct_11 : decode cX11_keepAct 11 = .ok (.iload_n 1, 1) := by decide +kernel
theorem dX11_keepAct_12 : decode cX11_keepAct 12 = .ok (.sipush 2480, 3) := by decide +kernel
theorem dX11_keepAct_15 : decode cX11_keepAct 15 = .ok (.if_icmp .ge 24, 3) := by decide +kernel
theorem dX11_keepAct_18 : decode cX11_keepAct 18 = .ok (.aload_n 0, 1) := by decide +kernel
theorem dX11_keepAct_19 : decode cX11_keepAct 19 = .ok (.getfield 119, 3) := by decide +kernel
theorem dX11_keepAct_22 : decode cX11_keepAct 22 = .ok (.iload_n 1, 1) := by decide +kernel
theorem dX11_keepAct_23 : decode cX11_keepAct 23 = .ok (.aload_n 0, 1) := by decide +kernel
theorem dX11_keepAct_24 : decode cX11_keepAct 24 = .ok (.getfield 119, 3) := by decide +kernel
theorem dX11_keepAct_27 : decode cX11_keepAct 27 = .ok (.iload_n 1, 1) := by decide +kernel
theorem dX11_keepAct_28 : decode cX11_keepAct 28 = .ok (.bipush 62, 2) := by decide +kernel
theorem dX11_keepAct_30 : decode cX11_keepAct 30 = .ok (.iadd, 1) := by decide +kernel
theorem dX11_keepAct_31 : decode cX11_keepAct 31 = .ok (.iaload, 1) := by decide +kernel
theorem dX11_keepAct_32 : decode cX11_keepAct 32 = .ok (.iastore, 1) := by decide +kernel
theorem dX11_keepAct_33 : decode cX11_keepAct 33 = .ok (.iinc 1 1, 3) := by decide +kernel
theorem dX11_keepAct_36 : decode cX11_keepAct 36 = .ok (.goto (-25), 3) := by decide +kernel
theorem dX11_keepAct_39 : decode cX11_keepAct 39 = .ok (.aload_n 0, 1) := by decide +kernel
theorem dX11_keepAct_40 : decode cX11_keepAct 40 = .ok (.dup, 1) := by decide +kernel
theorem dX11_keepAct_41 : decode cX11_keepAct 41 = .ok (.getfield 386, 3) := by decide +kernel
theorem dX11_keepAct_44 : decode cX11_keepAct 44 = .ok (.iconst 1, 1) := by decide +kernel
theorem dX11_keepAct_45 : decode cX11_keepAct 45 = .ok (.isub, 1) := by decide +kernel
theorem dX11_keepAct_46 : decode cX11_keepAct 46 = .ok (.putfield 386, 3) := by decide +kernel
theorem dX11_keepAct_49 : decode cX11_keepAct 49 = .ok (.iconst 0, 1) := by decide +kernel
theorem dX11_keepAct_50 : decode cX11_keepAct 50 = .ok (.istore_n 1, 1) := by decide +kernel
theorem dX11_keepAct_51 : decode cX11_keepAct 51 = .ok (.iload_n 1, 1) := by decide +kernel
theorem dX11_keepAct_52 : decode cX11_keepAct 52 = .ok (.bipush 62, 2) := by decide +kernel
theorem dX11_keepAct_54 : decode cX11_keepAct 54 = .ok (.if_icmp .ge 29, 3) := by decide +kernel
theorem dX11_keepAct_57 : decode cX11_keepAct 57 = .ok (.aload_n 0, 1) := by decide +kernel
theorem dX11_keepAct_58 : decode cX11_keepAct 58 = .ok (.getfield 119, 3) := by decide +kernel
theorem dX11_keepAct_61 : decode cX11_keepAct 61 = .ok (.bipush 62, 2) := by decide +kernel
theorem dX11_keepAct_63 : decode cX11_keepAct 63 = .ok (.aload_n 0, 1) := by decide +kernel
theorem dX11_keepAct_64 : decode cX11_keepAct 64 = .ok (.getfield 386, 3) := by decide +kernel
theorem dX11_keepAct_67 : decode cX11_keepAct 67 = .ok (.imul, 1) := by decide +kernel
theorem dX11_keepAct_68 : decode cX11_keepAct 68 = .ok (.iload_n 1, 1) := by decide +kernel
theorem dX11_keepAct_69 : decode cX11_keepAct 69 = .ok (.iadd, 1) := by decide +kernel
theorem dX11_keepAct_70 : decode cX11_keepAct 70 = .ok (.aload_n 0, 1) := by decide +kernel
theorem dX11_keepAct_71 : decode cX11_keepAct 71 = .ok (.getfield 104, 3) := by decide +kernel
theorem dX11_keepAct_74 : decode cX11_keepAct 74 = .ok (.iload_n 1, 1) := by decide +kernel
theorem dX11_keepAct_75 : decode cX11_keepAct 75 = .ok (.iaload, 1) := by decide +kernel
theorem dX11_keepAct_76 : decode cX11_keepAct 76 = .ok (.iastore, 1) := by decide +kernel
theorem dX11_keepAct_77 : decode cX11_keepAct 77 = .ok (.iinc 1 1, 3) := by decide +kernel
theorem dX11_keepAct_80 : decode cX11_keepAct 80 = .ok (.goto (-29), 3) := by decide +kernel
theorem dX11_keepAct_83 : decode cX11_keepAct 83 = .ok (.aload_n 0, 1) := by decide +kernel
theorem dX11_keepAct_84 : decode cX11_keepAct 84 = .ok (.dup, 1) := by decide +kernel
theorem dX11_keepAct_85 : decode cX11_keepAct 85 = .ok (.getfield 386, 3) := by decide +kernel
theorem dX11_keepAct_88 : decode cX11_keepAct 88 = .ok (.iconst 1, 1) := by decide +kernel
theorem dX11_keepAct_89 : decode cX11_keepAct 89 = .ok (.iadd, 1) := by decide +kernel
theorem dX11_keepAct_90 : decode cX11_keepAct 90 = .ok (.putfield 386, 3) := by decide +kernel
theorem dX11_keepAct_93 : decode cX11_keepAct 93 = .ok (.aload_n 0, 1) := by decide +kernel
theorem dX11_keepAct_94 : decode cX11_keepAct 94 = .ok (.iconst 0, 1) := by decide +kernel
theorem dX11_keepAct_95 : decode cX11_keepAct 95 = .ok (.putfield 389, 3) := by decide +kernel
theorem dX11_keepAct_98 : decode cX11_keepAct 98 = .ok (.return_, 1) := by decide +kernel
theorem dX11_bar_0 : decode cX11_bar 0 = .ok (.iconst 0, 1) := by decide +kernel
theorem dX11_bar_1 : decode cX11_bar 1 = .ok (.istore_n 3, 1) := by decide +kernel
theorem dX11_bar_2 : decode cX11_bar 2 = .ok (.iload_n 3, 1) := by decide +kernel
theorem dX11_bar_3 : decode cX11_bar 3 = .ok (.aload_n 0, 1) := by decide +kernel
theorem dX11_bar_4 : decode cX11_bar 4 = .ok (.getfield 36, 3) := by decide +kernel
theorem dX11_bar_7 : decode cX11_bar 7 = .ok (.aload_n 0, 1) := by decide +kernel
theorem dX11_bar_8 : decode cX11_bar 8 = .ok (.getfield 288, 3) := by decide +kernel
theorem dX11_bar_11 : decode cX11_bar 11 = .ok (.iaload, 1) := by decide +kernel
theorem dX11_bar_12 : decode cX11_bar 12 = .ok (.if_icmp .ge 24, 3) := by decide +kernel
theorem dX11_bar_15 : decode cX11_bar 15 = .ok (.aload_n 0, 1) := by decide +kernel
theorem dX11_bar_16 : decode cX11_bar 16 = .ok (.iload_n 3, 1) := by decide +kernel
theorem dX11_bar_17 : decode cX11_bar 17 = .ok (.iconst 2, 1) := by decide +kernel
theorem dX11_bar_18 : decode cX11_bar 18 = .ok (.invokevirtual 392, 3) := by decide +kernel
theorem dX11_bar_21 : decode cX11_bar 21 = .ok (.iconst 1, 1) := by decide +kernel
theorem dX11_bar_22 : decode cX11_bar 22 = .ok (.if_icmp .ne 8, 3) := by decide +kernel
theorem dX11_bar_25 : decode cX11_bar 25 = .ok (.aload_n 0, 1) := by decide +kernel
theorem dX11_bar_26 : decode cX11_bar 26 = .ok (.iload_n 3, 1) := by decide +kernel
theorem dX11_bar_27 : decode cX11_bar 27 = .ok (.invokevirtual 399, 3) := by decide +kernel
theorem dX11_bar_30 : decode cX11_bar 30 = .ok (.iinc 3 1, 3) := by decide +kernel
theorem dX11_bar_33 : decode cX11_bar 33 = .ok (.goto (-31), 3) := by decide +kernel
theorem dX11_bar_36 : decode cX11_bar 36 = .ok (.aload_n 0, 1) := by decide +kernel
theorem dX11_bar_37 : decode cX11_bar 37 = .ok (.invokevirtual 402, 3) := by decide +kernel
theorem dX11_bar_40 : decode cX11_bar 40 = .ok (.iconst 0, 1) := by decide +kernel
theorem dX11_bar_41 : decode cX11_bar 41 = .ok (.istore_n 3, 1) := by decide +kernel
theorem dX11_bar_42 : decode cX11_bar 42 = .ok (.iload_n 3, 1) := by decide +kernel
theorem dX11_bar_43 : decode cX11_bar 43 = .ok (.bipush 25, 2) := by decide +kernel
theorem dX11_bar_45 : decode cX11_bar 45 = .ok (.if_icmp .ge 136, 3) := by decide +kernel
theorem dX11_bar_48 : decode cX11_bar 48 = .ok (.iload_n 3, 1) := by decide +kernel
theorem dX11_bar_49 : decode cX11_bar 49 = .ok (.iconst 5, 1) := by decide +kernel
theorem dX11_bar_50 : decode cX11_bar 50 = .ok (.irem, 1) := by decide +kernel
theorem dX11_bar_51 : decode cX11_bar 51 = .ok (.istore 4, 2) := by decide +kernel
theorem dX11_bar_53 : decode cX11_bar 53 = .ok (.iload_n 3, 1) := by decide +kernel
theorem dX11_bar_54 : decode cX11_bar 54 = .ok (.iconst 5, 1) := by decide +kernel
theorem dX11_bar_55 : decode cX11_bar 55 = .ok (.idiv, 1) := by decide +kernel
theorem dX11_bar_56 : decode cX11_bar 56 = .ok (.istore 5, 2) := by decide +kernel
theorem dX11_bar_58 : decode cX11_bar 58 = .ok (.aload_n 0, 1) := by decide +kernel
theorem dX11_bar_59 : decode cX11_bar 59 = .ok (.iload 4, 2) := by decide +kernel
theorem dX11_bar_61 : decode cX11_bar 61 = .ok (.iload 5, 2) := by decide +kernel
theorem dX11_bar_63 : decode cX11_bar 63 = .ok (.invokevirtual 395, 3) := by decide +kernel
theorem dX11_bar_66 : decode cX11_bar 66 = .ok (.ifCond .ne 6, 3) := by decide +kernel
theorem dX11_bar_69 : decode cX11_bar 69 = .ok (.goto 106, 3) := by decide +kernel
theorem dX11_bar_72 : decode cX11_bar 72 = .ok (.aload_n 0, 1) := by decide +kernel
theorem dX11_bar_73 : decode cX11_bar 73 = .ok (.iload 4, 2) := by decide +kernel
theorem dX11_bar_75 : decode cX11_bar 75 = .ok (.iconst 1, 1) := by decide +kernel
theorem dX11_bar_76 : decode cX11_bar 76 = .ok (.isub, 1) := by decide +kernel
theorem dX11_bar_77 : decode cX11_bar 77 = .ok (.iload 5, 2) := by decide +kernel
theorem dX11_bar_79 : decode cX11_bar 79 = .ok (.invokevirtual 405, 3) := by decide +kernel
theorem dX11_bar_82 : decode cX11_bar 82 = .ok (.aload_n 0, 1) := by decide +kernel
theorem dX11_bar_83 : decode cX11_bar 83 = .ok (.iload 4, 2) := by decide +kernel
theorem dX11_bar_85 : decode cX11_bar 85 = .ok (.iconst 1, 1) := by decide +kernel
theorem dX11_bar_86 : decode cX11_bar 86 = .ok (.iadd, 1) := by decide +kernel
theorem dX11_bar_87 : decode cX11_bar 87 = .ok (.iload 5, 2) := by decide +kernel
theorem dX11_bar_89 : decode cX11_bar 89 = .ok (.invokevirtual 405, 3) := by decide +kernel
theorem dX11_bar_92 : decode cX11_bar 92 = .ok (.iadd, 1) := by decide +kernel
theorem dX11_bar_93 : decode cX11_bar 93 = .ok (.aload_n 0, 1) := by decide +kernel
theorem dX11_bar_94 : decode cX11_bar 94 = .ok (.iload 4, 2) := by decide +kernel
theorem dX11_bar_96 : decode cX11_bar 96 = .ok (.iload 5, 2) := by decide +kernel
theorem dX11_bar_98 : decode cX11_bar 98 = .ok (.iconst 1, 1) := by decide +kernel
theorem dX11_bar_99 : decode cX11_bar 99 = .ok (.isub, 1) := by decide +kernel
theorem dX11_bar_100 : decode cX11_bar 100 = .ok (.invokevirtual 405, 3) := by decide +kernel
theorem dX11_bar_103 : decode cX11_bar 103 = .ok (.iadd, 1) := by decide +kernel
theorem dX11_bar_104 : decode cX11_bar 104 = .ok (.aload_n 0, 1) := by decide +kernel
theorem dX11_bar_105 : decode cX11_bar 105 = .ok (.iload 4, 2) := by decide +kernel
theorem dX11_bar_107 : decode cX11_bar 107 = .ok (.iload 5, 2) := by decide +kernel
theorem dX11_bar_109 : decode cX11_bar 109 = .ok (.iconst 1, 1) := by decide +kernel
theorem dX11_bar_110 : decode cX11_bar 110 = .ok (.iadd, 1) := by decide +kernel
theorem dX11_bar_111 : decode cX11_bar 111 = .ok (.invokevirtual 405, 3) := by decide +kernel
theorem dX11_bar_114 : decode cX11_bar 114 = .ok (.iadd, 1) := by decide +kernel
theorem dX11_bar_115 : decode cX11_bar 115 = .ok (.istore 6, 2) := by decide +kernel
theorem dX11_bar_117 : decode cX11_bar 117 = .ok (.aload_n 0, 1) := by decide +kernel
theorem dX11_bar_118 : decode cX11_bar 118 = .ok (.getfield 104, 3) := by decide +kernel
theorem dX11_bar_121 : decode cX11_bar 121 = .ok (.iload_n 3, 1) := by decide +kernel
theorem dX11_bar_122 : decode cX11_bar 122 = .ok (.iaload, 1) := by decide +kernel
theorem dX11_bar_123 : decode cX11_bar 123 = .ok (.aload_n 0, 1) := by decide +kernel
theorem dX11_bar_124 : decode cX11_bar 124 = .ok (.iload_n 1, 1) := by decide +kernel
theorem dX11_bar_125 : decode cX11_bar 125 = .ok (.aload_n 0, 1) := by decide +kernel
theorem dX11_bar_126 : decode cX11_bar 126 = .ok (.getfield 104, 3) := by decide +kernel
theorem dX11_bar_129 : decode cX11_bar 129 = .ok (.iload_n 3, 1) := by decide +kernel
theorem dX11_bar_130 : decode cX11_bar 130 = .ok (.iaload, 1) := by decide +kernel
theorem dX11_bar_131 : decode cX11_bar 131 = .ok (.iload_n 2, 1) := by decide +kernel
theorem dX11_bar_132 : decode cX11_bar 132 = .ok (.aload_n 0, 1) := by decide +kernel
theorem dX11_bar_133 : decode cX11_bar 133 = .ok (.getfield 110, 3) := by decide +kernel
theorem dX11_bar_136 : decode cX11_bar 136 = .ok (.iload_n 3, 1) := by decide +kernel
theorem dX11_bar_137 : decode cX11_bar 137 = .ok (.iaload, 1) := by decide +kernel
theorem dX11_bar_138 : decode cX11_bar 138 = .ok (.iload 6, 2) := by decide +kernel
theorem dX11_bar_140 : decode cX11_bar 140 = .ok (.invokevirtual 408, 3) := by decide +kernel
theorem dX11_bar_143 : decode cX11_bar 143 = .ok (.iadd, 1) := by decide +kernel
theorem dX11_bar_144 : decode cX11_bar 144 = .ok (.istore 7, 2) := by decide +kernel
theorem dX11_bar_146 : decode cX11_bar 146 = .ok (.aload_n 0, 1) := by decide +kernel
theorem dX11_bar_147 : decode cX11_bar 147 = .ok (.getfield 113, 3) := by decide +kernel
theorem dX11_bar_150 : decode cX11_bar 150 = .ok (.iload_n 3, 1) := by decide +kernel
theorem dX11_bar_151 : decode cX11_bar 151 = .ok (.iload 7, 2) := by decide +kernel
theorem dX11_bar_153 : decode cX11_bar 153 = .ok (.ifCond .ge 7, 3) := by decide +kernel
theorem dX11_bar_156 : decode cX11_bar 156 = .ok (.iconst 0, 1) := by decide +kernel
theorem dX11_bar_157 : decode cX11_bar 157 = .ok (.goto 17, 3) := by decide +kernel
theorem dX11_bar_160 : decode cX11_bar 160 = .ok (.iload 7, 2) := by decide +kernel
theorem dX11_bar_162 : decode cX11_bar 162 = .ok (.bipush 99, 2) := by decide +kernel
theorem dX11_bar_164 : decode cX11_bar 164 = .ok (.if_icmp .le 8, 3) := by decide +kernel
theorem dX11_bar_167 : decode cX11_bar 167 = .ok (.bipush 99, 2) := by decide +kernel
theorem dX11_bar_169 : decode cX11_bar 169 = .ok (.goto 5, 3) := by decide +kernel
theorem dX11_bar_172 : decode cX11_bar 172 = .ok (.iload 7, 2) := by decide +kernel
theorem dX11_bar_174 : decode cX11_bar 174 = .ok (.iastore, 1) := by decide +kernel
theorem dX11_bar_175 : decode cX11_bar 175 = .ok (.iinc 3 1, 3) := by decide +kernel
theorem dX11_bar_178 : decode cX11_bar 178 = .ok (.goto (-136), 3) := by decide +kernel
theorem dX11_bar_181 : decode cX11_bar 181 = .ok (.aload_n 0, 1) := by decide +kernel
theorem dX11_bar_182 : decode cX11_bar 182 = .ok (.iconst 0, 1) := by decide +kernel
theorem dX11_bar_183 : decode cX11_bar 183 = .ok (.putfield 412, 3) := by decide +kernel
theorem dX11_bar_186 : decode cX11_bar 186 = .ok (.iconst 0, 1) := by decide +kernel
theorem dX11_bar_187 : decode cX11_bar 187 = .ok (.istore_n 3, 1) := by decide +kernel
theorem dX11_bar_188 : decode cX11_bar 188 = .ok (.iload_n 3, 1) := by decide +kernel
theorem dX11_bar_189 : decode cX11_bar 189 = .ok (.bipush 25, 2) := by decide +kernel
theorem dX11_bar_191 : decode cX11_bar 191 = .ok (.if_icmp .ge 85, 3) := by decide +kernel
theorem dX11_bar_194 : decode cX11_bar 194 = .ok (.aload_n 0, 1) := by decide +kernel
theorem dX11_bar_195 : decode cX11_bar 195 = .ok (.iload_n 3, 1) := by decide +kernel
theorem dX11_bar_196 : decode cX11_bar 196 = .ok (.iconst 5, 1) := by decide +kernel
theorem dX11_bar_197 : decode cX11_bar 197 = .ok (.irem, 1) := by decide +kernel
theorem dX11_bar_198 : decode cX11_bar 198 = .ok (.iload_n 3, 1) := by decide +kernel
theorem dX11_bar_199 : decode cX11_bar 199 = .ok (.iconst 5, 1) := by decide +kernel
theorem dX11_bar_200 : decode cX11_bar 200 = .ok (.idiv, 1) := by decide +kernel
theorem dX11_bar_201 : decode cX11_bar 201 = .ok (.invokevirtual 395, 3) := by decide +kernel
theorem dX11_bar_204 : decode cX11_bar 204 = .ok (.ifCond .ne 6, 3) := by decide +kernel
theorem dX11_bar_207 : decode cX11_bar 207 = .ok (.goto 63, 3) := by decide +kernel
theorem dX11_bar_210 : decode cX11_bar 210 = .ok (.aload_n 0, 1) := by decide +kernel
theorem dX11_bar_211 : decode cX11_bar 211 = .ok (.getfield 104, 3) := by decide +kernel
theorem dX11_bar_214 : decode cX11_bar 214 = .ok (.iload_n 3, 1) := by decide +kernel
theorem dX11_bar_215 : decode cX11_bar 215 = .ok (.aload_n 0, 1) := by decide +kernel
theorem dX11_bar_216 : decode cX11_bar 216 = .ok (.getfield 113, 3) := by decide +kernel
theorem dX11_bar_219 : decode cX11_bar 219 = .ok (.iload_n 3, 1) := by decide +kernel
theorem dX11_bar_220 : decode cX11_bar 220 = .ok (.iaload, 1) := by decide +kernel
theorem dX11_bar_221 : decode cX11_bar 221 = .ok (.iastore, 1) := by decide +kernel
theorem dX11_bar_222 : decode cX11_bar 222 = .ok (.aload_n 0, 1) := by decide +kernel
theorem dX11_bar_223 : decode cX11_bar 223 = .ok (.getfield 79, 3) := by decide +kernel
theorem dX11_bar_226 : decode cX11_bar 226 = .ok (.bipush 25, 2) := by decide +kernel
theorem dX11_bar_228 : decode cX11_bar 228 = .ok (.aload_n 0, 1) := by decide +kernel
theorem dX11_bar_229 : decode cX11_bar 229 = .ok (.getfield 288, 3) := by decide +kernel
theorem dX11_bar_232 : decode cX11_bar 232 = .ok (.imul, 1) := by decide +kernel
theorem dX11_bar_233 : decode cX11_bar 233 = .ok (.iload_n 3, 1) := by decide +kernel
theorem dX11_bar_234 : decode cX11_bar 234 = .ok (.iadd, 1) := by decide +kernel
theorem dX11_bar_235 : decode cX11_bar 235 = .ok (.baload, 1) := by decide +kernel
theorem dX11_bar_236 : decode cX11_bar 236 = .ok (.ifCond .ne 34, 3) := by decide +kernel
theorem dX11_bar_239 : decode cX11_bar 239 = .ok (.aload_n 0, 1) := by decide +kernel
theorem dX11_bar_240 : decode cX11_bar 240 = .ok (.getfield 116, 3) := by decide +kernel
theorem dX11_bar_243 : decode cX11_bar 243 = .ok (.iload_n 3, 1) := by decide +kernel
theorem dX11_bar_244 : decode cX11_bar 244 = .ok (.baload, 1) := by decide +kernel
theorem dX11_bar_245 : decode cX11_bar 245 = .ok (.ifCond .ne 25, 3) := by decide +kernel
theorem dX11_bar_248 : decode cX11_bar 248 = .ok (.aload_n 0, 1) := by decide +kernel
theorem dX11_bar_249 : decode cX11_bar 249 = .ok (.getfield 110, 3) := by decide +kernel
theorem dX11_bar_252 : decode cX11_bar 252 = .ok (.iload_n 3, 1) := by decide +kernel
theorem dX11_bar_253 : decode cX11_bar 253 = .ok (.iaload, 1) := by decide +kernel
theorem dX11_bar_254 : decode cX11_bar 254 = .ok (.aload_n 0, 1) := by decide +kernel
theorem dX11_bar_255 : decode cX11_bar 255 = .ok (.getfield 104, 3) := by decide +kernel
theorem dX11_bar_258 : decode cX11_bar 258 = .ok (.iload_n 3, 1) := by decide +kernel
theorem dX11_bar_259 : decode cX11_bar 259 = .ok (.iaload, 1) := by decide +kernel
theorem dX11_bar_260 : decode cX11_bar 260 = .ok (.if_icmp .le 10, 3) := by decide +kernel
theorem dX11_bar_263 : decode cX11_bar 263 = .ok (.aload_n 0, 1) := by decide +kernel
theorem dX11_bar_264 : decode cX11_bar 264 = .ok (.iload_n 3, 1) := by decide +kernel
theorem dX11_bar_265 : decode cX11_bar 265 = .ok (.iload_n 1, 1) := by decide +kernel
theorem dX11_bar_266 : decode cX11_bar 266 = .ok (.iload_n 2, 1) := by decide +kernel
theorem dX11_bar_267 : decode cX11_bar 267 = .ok (.invokevirtual 416, 3) := by decide +kernel
theorem dX11_bar_270 : decode cX11_bar 270 = .ok (.iinc 3 1, 3) := by decide +kernel
theorem dX11_bar_273 : decode cX11_bar 273 = .ok (.goto (-85), 3) := by decide +kernel
theorem dX11_bar_276 : decode cX11_bar 276 = .ok (.aload_n 0, 1) := by decide +kernel
theorem dX11_bar_277 : decode cX11_bar 277 = .ok (.getfield 104, 3) := by decide +kernel
theorem dX11_bar_280 : decode cX11_bar 280 = .ok (.bipush 61, 2) := by decide +kernel
theorem dX11_bar_282 : decode cX11_bar 282 = .ok (.dup2, 1) := by decide +kernel
theorem dX11_bar_283 : decode cX11_bar 283 = .ok (.iaload, 1) := by decide +kernel
theorem dX11_bar_284 : decode cX11_bar 284 = .ok (.iconst 1, 1) := by decide +kernel
theorem dX11_bar_285 : decode cX11_bar 285 = .ok (.iadd, 1) := by decide +kernel
theorem dX11_bar_286 : decode cX11_bar 286 = .ok (.iastore, 1) := by decide +kernel
theorem dX11_bar_287 : decode cX11_bar 287 = .ok (.return_, 1) := by decide +kernel
theorem dX11_silence_0 : decode cX11_silence 0 = .ok (.iconst 0, 1) := by decide +kernel
theorem dX11_silence_1 : decode cX11_silence 1 = .ok (.istore_n 2, 1) := by decide +kernel
theorem dX11_silence_2 : decode cX11_silence 2 = .ok (.iload_n 2, 1) := by decide +kernel
theorem dX11_silence_3 : decode cX11_silence 3 = .ok (.iload_n 1, 1) := by decide +kernel
theorem dX11_silence_4 : decode cX11_silence 4 = .ok (.if_icmp .ge 16, 3) := by decide +kernel
theorem dX11_silence_7 : decode cX11_silence 7 = .ok (.aload_n 0, 1) := by decide +kernel
theorem dX11_silence_8 : decode cX11_silence 8 = .ok (.bipush 6, 2) := by decide +kernel
theorem dX11_silence_10 : decode cX11_silence 10 = .ok (.iload_n 2, 1) := by decide +kernel
theorem dX11_silence_11 : decode cX11_silence 11 = .ok (.invokevirtual 419, 3) := by decide +kernel
theorem dX11_silence_14 : decode cX11_silence 14 = .ok (.iinc 2 1, 3) := by decide +kernel
theorem dX11_silence_17 : decode cX11_silence 17 = .ok (.goto (-15), 3) := by decide +kernel
theorem dX11_silence_20 : decode cX11_silence 20 = .ok (.return_, 1) := by decide +kernel
theorem dX11_hold_0 : decode cX11_hold 0 = .ok (.iload_n 1, 1) := by decide +kernel
theorem dX11_hold_1 : decode cX11_hold 1 = .ok (.iconst 0, 1) := by decide +kernel
theorem dX11_hold_2 : decode cX11_hold 2 = .ok (.bipush 20, 2) := by decide +kernel
theorem dX11_hold_4 : decode cX11_hold 4 = .ok (.invokestatic 375, 3) := by decide +kernel
theorem dX11_hold_7 : decode cX11_hold 7 = .ok (.ifCond .eq 18, 3) := by decide +kernel
theorem dX11_hold_10 : decode cX11_hold 10 = .ok (.aload_n 0, 1) := by decide +kernel
theorem dX11_hold_11 : decode cX11_hold 11 = .ok (.getfield 104, 3) := by decide +kernel
theorem dX11_hold_14 : decode cX11_hold 14 = .ok (.bipush 61, 2) := by decide +kernel
theorem dX11_hold_16 : decode cX11_hold 16 = .ok (.iaload, 1) := by decide +kernel
theorem dX11_hold_17 : decode cX11_hold 17 = .ok (.iload_n 1, 1) := by decide +kernel
theorem dX11_hold_18 : decode cX11_hold 18 = .ok (.iadd, 1) := by decide +kernel
theorem dX11_hold_19 : decode cX11_hold 19 = .ok (.sipush 2000, 3) := by decide +kernel
theorem dX11_hold_22 : decode cX11_hold 22 = .ok (.if_icmp .le 5, 3) := by decide +kernel
theorem dX11_hold_25 : decode cX11_hold 25 = .ok (.iconst (-1), 1) := by decide +kernel
theorem dX11_hold_26 : decode cX11_hold 26 = .ok (.ireturn, 1) := by decide +kernel
theorem dX11_hold_27 : decode cX11_hold 27 = .ok (.aload_n 0, 1) := by decide +kernel
theorem dX11_hold_28 : decode cX11_hold 28 = .ok (.invokevirtual 431, 3) := by decide +kernel
theorem dX11_hold_31 : decode cX11_hold 31 = .ok (.aload_n 0, 1) := by decide +kernel
theorem dX11_hold_32 : decode cX11_hold 32 = .ok (.iload_n 1, 1) := by decide +kernel
theorem dX11_hold_33 : decode cX11_hold 33 = .ok (.invokevirtual 437, 3) := by decide +kernel
theorem dX11_hold_36 : decode cX11_hold 36 = .ok (.aload_n 0, 1) := by decide +kernel
theorem dX11_hold_37 : decode cX11_hold 37 = .ok (.invokevirtual 422, 3) := by decide +kernel
theorem dX11_hold_40 : decode cX11_hold 40 = .ok (.ireturn, 1) := by decide +kernel
theorem dX11_isGood_0 : decode cX11_isGood 0 = .ok (.aload_n 0, 1) := by decide +kernel
theorem dX11_isGood_1 : decode cX11_isGood 1 = .ok (.getfield 173, 3) := by decide +kernel
theorem dX11_isGood_4 : decode cX11_isGood 4 = .ok (.ifCond .ne 7, 3) := by decide +kernel
theorem dX11_isGood_7 : decode cX11_isGood 7 = .ok (.iconst 1, 1) := by decide +kernel
theorem dX11_isGood_8 : decode cX11_isGood 8 = .ok (.goto 4, 3) := by decide +kernel
theorem dX11_isGood_11 : decode cX11_isGood 11 = .ok (.iconst 0, 1) := by decide +kernel
theorem dX11_isGood_12 : decode cX11_isGood 12 = .ok (.ireturn, 1) := by decide +kernel
theorem dX11_sign_0 : decode cX11_sign 0 = .ok (.iload_n 1, 1) := by decide +kernel
theorem dX11_sign_1 : decode cX11_sign 1 = .ok (.aload_n 0, 1) := by decide +kernel
theorem dX11_sign_2 : decode cX11_sign 2 = .ok (.getfield 170, 3) := by decide +kernel
theorem dX11_sign_5 : decode cX11_sign 5 = .ok (.if_icmp .ge 16, 3) := by decide +kernel
theorem dX11_sign_8 : decode cX11_sign 8 = .ok (.aload_n 0, 1) := by decide +kernel
theorem dX11_sign_9 : decode cX11_sign 9 = .ok (.getfield 13, 3) := by decide +kernel
theorem dX11_sign_12 : decode cX11_sign 12 = .ok (.iload_n 1, 1) := by decide +kernel
theorem dX11_sign_13 : decode cX11_sign 13 = .ok (.baload, 1) := by decide +kernel
theorem dX11_sign_14 : decode cX11_sign 14 = .ok (.sipush 255, 3) := by decide +kernel
theorem dX11_sign_17 : decode cX11_sign 17 = .ok (.iand, 1) := by decide +kernel
theorem dX11_sign_18 : decode cX11_sign 18 = .ok (.goto 4, 3) := by decide +kernel
theorem dX11_sign_21 : decode cX11_sign 21 = .ok (.iconst 0, 1) := by decide +kernel
theorem dX11_sign_22 : decode cX11_sign 22 = .ok (.ireturn, 1) := by decide +kernel
theorem dX11_goOn_0 : decode cX11_goOn 0 = .ok (.aload_n 0, 1) := by decide +kernel
theorem dX11_goOn_1 : decode cX11_goOn 1 = .ok (.aload_n 0, 1) := by decide +kernel
theorem dX11_goOn_2 : decode cX11_goOn 2 = .ok (.getfield 220, 3) := by decide +kernel
theorem dX11_goOn_5 : decode cX11_goOn 5 = .ok (.putfield 223, 3) := by decide +kernel
theorem dX11_goOn_8 : decode cX11_goOn 8 = .ok (.aload_n 0, 1) := by decide +kernel
theorem dX11_goOn_9 : decode cX11_goOn 9 = .ok (.getfield 223, 3) := by decide +kernel
theorem dX11_goOn_12 : decode cX11_goOn 12 = .ok (.aload_n 0, 1) := by decide +kernel
theorem dX11_goOn_13 : decode cX11_goOn 13 = .ok (.getfield 170, 3) := by decide +kernel
theorem dX11_goOn_16 : decode cX11_goOn 16 = .ok (.if_icmp .ge 42, 3) := by decide +kernel
theorem dX11_goOn_19 : decode cX11_goOn 19 = .ok (.aload_n 0, 1) := by decide +kernel
theorem dX11_goOn_20 : decode cX11_goOn 20 = .ok (.aload_n 0, 1) := by decide +kernel
theorem dX11_goOn_21 : decode cX11_goOn 21 = .ok (.getfield 223, 3) := by decide +kernel
theorem dX11_goOn_24 : decode cX11_goOn 24 = .ok (.invokevirtual 226, 3) := by decide +kernel
theorem dX11_goOn_27 : decode cX11_goOn 27 = .ok (.bipush 32, 2) := by decide +kernel
theorem dX11_goOn_29 : decode cX11_goOn 29 = .ok (.if_icmp .eq 16, 3) := by decide +kernel
theorem dX11_goOn_32 : decode cX11_goOn 32 = .ok (.aload_n 0, 1) := by decide +kernel
theorem dX11_goOn_33 : decode cX11_goOn 33 = .ok (.aload_n 0, 1) := by decide +kernel
theorem dX11_goOn_34 : decode cX11_goOn 34 = .ok (.getfield 223, 3) := by decide +kernel
theorem dX11_goOn_37 : decode cX11_goOn 37 = .ok (.invokevirtual 226, 3) := by decide +kernel
theorem dX11_goOn_40 : decode cX11_goOn 40 = .ok (.bipush 10, 2) := by decide +kernel
theorem dX11_goOn_42 : decode cX11_goOn 42 = .ok (.if_icmp .ne 16, 3) := by decide +kernel
theorem dX11_goOn_45 : decode cX11_goOn 45 = .ok (.aload_n 0, 1) := by decide +kernel
theorem dX11_goOn_46 : decode cX11_goOn 46 = .ok (.dup, 1) := by decide +kernel
theorem dX11_goOn_47 : decode cX11_goOn 47 = .ok (.getfield 223, 3) := by decide +kernel
theorem dX11_goOn_50 : decode cX11_goOn 50 = .ok (.iconst 1, 1) := by decide +kernel
theorem dX11_goOn_51 : decode cX11_goOn 51 = .ok (.iadd, 1) := by decide +kernel
theorem dX11_goOn_52 : decode cX11_goOn 52 = .ok (.putfield 223, 3) := by decide +kernel
theorem dX11_goOn_55 : decode cX11_goOn 55 = .ok (.goto (-47), 3) := by decide +kernel
theorem dX11_goOn_58 : decode cX11_goOn 58 = .ok (.aload_n 0, 1) := by decide +kernel
theorem dX11_goOn_59 : decode cX11_goOn 59 = .ok (.aload_n 0, 1) := by decide +kernel
theorem dX11_goOn_60 : decode cX11_goOn 60 = .ok (.getfield 223, 3) := by decide +kernel
theorem dX11_goOn_63 : decode cX11_goOn 63 = .ok (.invokevirtual 226, 3) := by decide +kernel
theorem dX11_goOn_66 : decode cX11_goOn 66 = .ok (.istore_n 1, 1) := by decide +kernel
theorem dX11_goOn_67 : decode cX11_goOn 67 = .ok (.aload_n 0, 1) := by decide +kernel
theorem dX11_goOn_68 : decode cX11_goOn 68 = .ok (.aload_n 0, 1) := by decide +kernel
theorem dX11_goOn_69 : decode cX11_goOn 69 = .ok (.getfield 223, 3) := by decide +kernel
theorem dX11_goOn_72 : decode cX11_goOn 72 = .ok (.iconst 1, 1) := by decide +kernel
theorem dX11_goOn_73 : decode cX11_goOn 73 = .ok (.iadd, 1) := by decide +kernel
theorem dX11_goOn_74 : decode cX11_goOn 74 = .ok (.putfield 220, 3) := by decide +kernel
theorem dX11_goOn_77 : decode cX11_goOn 77 = .ok (.aload_n 0, 1) := by decide +kernel
theorem dX11_goOn_78 : decode cX11_goOn 78 = .ok (.getfield 223, 3) := by decide +kernel
theorem dX11_goOn_81 : decode cX11_goOn 81 = .ok (.aload_n 0, 1) := by decide +kernel
theorem dX11_goOn_82 : decode cX11_goOn 82 = .ok (.getfield 170, 3) := by decide +kernel
theorem dX11_goOn_85 : decode cX11_goOn 85 = .ok (.if_icmp .lt 27, 3) := by decide +kernel
theorem dX11_goOn_88 : decode cX11_goOn 88 = .ok (.aload_n 0, 1) := by decide +kernel
theorem dX11_goOn_89 : decode cX11_goOn 89 = .ok (.iconst 0, 1) := by decide +kernel
theorem dX11_goOn_90 : decode cX11_goOn 90 = .ok (.putfield 230, 3) := by decide +kernel
theorem dX11_goOn_93 : decode cX11_goOn 93 = .ok (.aload_n 0, 1) := by decide +kernel
theorem dX11_goOn_94 : decode cX11_goOn 94 = .ok (.aload_n 0, 1) := by decide +kernel
theorem dX11_goOn_95 : decode cX11_goOn 95 = .ok (.getfield 170, 3) := by decide +kernel
theorem dX11_goOn_98 : decode cX11_goOn 98 = .ok (.putfield 223, 3) := by decide +kernel
theorem dX11_goOn_101 : decode cX11_goOn 101 = .ok (.aload_n 0, 1) := by decide +kernel
theorem dX11_goOn_102 : decode cX11_goOn 102 = .ok (.aload_n 0, 1) := by decide +kernel
theorem dX11_goOn_103 : decode cX11_goOn 103 = .ok (.getfield 170, 3) := by decide +kernel
theorem dX11_goOn_106 : decode cX11_goOn 106 = .ok (.putfield 220, 3) := by decide +kernel
theorem dX11_goOn_109 : decode cX11_goOn 109 = .ok (.goto 268, 3) := by decide +kernel
theorem dX11_goOn_112 : decode cX11_goOn 112 = .ok (.iload_n 1, 1) := by decide +kernel
theorem dX11_goOn_113 : decode cX11_goOn 113 = .ok (.invokestatic 233, 3) := by decide +kernel
theorem dX11_goOn_116 : decode cX11_goOn 116 = .ok (.ifCond .eq 123, 3) := by decide +kernel
theorem dX11_goOn_119 : decode cX11_goOn 119 = .ok (.aload_n 0, 1) := by decide +kernel
theorem dX11_goOn_120 : decode cX11_goOn 120 = .ok (.aload_n 0, 1) := by decide +kernel
theorem dX11_goOn_121 : decode cX11_goOn 121 = .ok (.getfield 220, 3) := by decide +kernel
theorem dX11_goOn_124 : decode cX11_goOn 124 = .ok (.invokevirtual 226, 3) := by decide +kernel
theorem dX11_goOn_127 : decode cX11_goOn 127 = .ok (.invokestatic 233, 3) := by decide +kernel
theorem dX11_goOn_130 : decode cX11_goOn 130 = .ok (.ifCond .eq 16, 3) := by decide +kernel
theorem dX11_goOn_133 : decode cX11_goOn 133 = .ok (.aload_n 0, 1) := by decide +kernel
theorem dX11_goOn_134 : decode cX11_goOn 134 = .ok (.dup, 1) := by decide +kernel
theorem dX11_goOn_135 : decode cX11_goOn 135 = .ok (.getfield 220, 3) := by decide +kernel
theorem dX11_goOn_138 : decode cX11_goOn 138 = .ok (.iconst 1, 1) := by decide +kernel
theorem dX11_goOn_139 : decode cX11_goOn 139 = .ok (.iadd, 1) := by decide +kernel
theorem dX11_goOn_140 : decode cX11_goOn 140 = .ok (.putfield 220, 3) := by decide +kernel
theorem dX11_goOn_143 : decode cX11_goOn 143 = .ok (.goto (-24), 3) := by decide +kernel
theorem dX11_goOn_146 : decode cX11_goOn 146 = .ok (.aload_n 0, 1) := by decide +kernel
theorem dX11_goOn_147 : decode cX11_goOn 147 = .ok (.lconst 0, 1) := by decide +kernel
theorem dX11_goOn_148 : decode cX11_goOn 148 = .ok (.putfield 237, 3) := by decide +kernel
theorem dX11_goOn_151 : decode cX11_goOn 151 = .ok (.aload_n 0, 1) := by decide +kernel
theorem dX11_goOn_152 : decode cX11_goOn 152 = .ok (.getfield 223, 3) := by decide +kernel
theorem dX11_goOn_155 : decode cX11_goOn 155 = .ok (.istore_n 2, 1) := by decide +kernel
theorem dX11_goOn_156 : decode cX11_goOn 156 = .ok (.iload_n 2, 1) := by decide +kernel
theorem dX11_goOn_157 : decode cX11_goOn 157 = .ok (.aload_n 0, 1) := by decide +kernel
theorem dX11_goOn_158 : decode cX11_goOn 158 = .ok (.getfield 220, 3) := by decide +kernel
theorem dX11_goOn_161 : decode cX11_goOn 161 = .ok (.if_icmp .ge 38, 3) := by decide +kernel
theorem dX11_goOn_164 : decode cX11_goOn 164 = .ok (.iload_n 2, 1) := by decide +kernel
theorem dX11_goOn_165 : decode cX11_goOn 165 = .ok (.aload_n 0, 1) := by decide +kernel
theorem dX11_goOn_166 : decode cX11_goOn 166 = .ok (.getfield 223, 3) := by decide +kernel
theorem dX11_goOn_169 : decode cX11_goOn 169 = .ok (.bipush 8, 2) := by decide +kernel
theorem dX11_goOn_171 : decode cX11_goOn 171 = .ok (.iadd, 1) := by decide +kernel
theorem dX11_goOn_172 : decode cX11_goOn 172 = .ok (.if_icmp .ge 27, 3) := by decide +kernel
theorem dX11_goOn_175 : decode cX11_goOn 175 = .ok (.aload_n 0, 1) := by decide +kernel
theorem dX11_goOn_176 : decode cX11_goOn 176 = .ok (.aload_n 0, 1) := by decide +kernel
theorem dX11_goOn_177 : decode cX11_goOn 177 = .ok (.getfield 237, 3) := by decide +kernel
theorem dX11_goOn_180 : decode cX11_goOn 180 = .ok (.bipush 8, 2) := by decide +kernel
theorem dX11_goOn_182 : decode cX11_goOn 182 = .ok (.lshl, 1) := by decide +kernel
theorem dX11_goOn_183 : decode cX11_goOn 183 = .ok (.aload_n 0, 1) := by decide +kernel
theorem dX11_goOn_184 : decode cX11_goOn 184 = .ok (.iload_n 2, 1) := by decide +kernel
theorem dX11_goOn_185 : decode cX11_goOn 185 = .ok (.invokevirtual 226, 3) := by decide +kernel
theorem dX11_goOn_188 : decode cX11_goOn 188 = .ok (.i2l, 1) := by decide +kernel
theorem dX11_goOn_189 : decode cX11_goOn 189 = .ok (.lor, 1) := by decide +kernel
theorem dX11_goOn_190 : decode cX11_goOn 190 = .ok (.putfield 237, 3) := by decide +kernel
theorem dX11_goOn_193 : decode cX11_goOn 193 = .ok (.iinc 2 1, 3) := by decide +kernel
theorem dX11_goOn_196 : decode cX11_goOn 196 = .ok (.goto (-40), 3) := by decide +kernel
theorem dX11_goOn_199 : decode cX11_goOn 199 = .ok (.aload_n 0, 1) := by decide +kernel
theorem dX11_goOn_200 : decode cX11_goOn 200 = .ok (.aload_n 0, 1) := by decide +kernel
theorem dX11_goOn_201 : decode cX11_goOn 201 = .ok (.getfield 220, 3) := by decide +kernel
theorem dX11_goOn_204 : decode cX11_goOn 204 = .ok (.aload_n 0, 1) := by decide +kernel
theorem dX11_goOn_205 : decode cX11_goOn 205 = .ok (.getfield 223, 3) := by decide +kernel
theorem dX11_goOn_208 : decode cX11_goOn 208 = .ok (.isub, 1) := by decide +kernel
theorem dX11_goOn_209 : decode cX11_goOn 209 = .ok (.bipush 8, 2) := by decide +kernel
theorem dX11_goOn_211 : decode cX11_goOn 211 = .ok (.if_icmp .le 7, 3) := by decide +kernel
theorem dX11_goOn_214 : decode cX11_goOn 214 = .ok (.iconst 1, 1) := by decide +kernel
theorem dX11_goOn_215 : decode cX11_goOn 215 = .ok (.goto 18, 3) := by decide +kernel
theorem dX11_goOn_218 : decode cX11_goOn 218 = .ok (.aload_n 0, 1) := by decide +kernel
theorem dX11_goOn_219 : decode cX11_goOn 219 = .ok (.getfield 237, 3) := by decide +kernel
theorem dX11_goOn_222 : decode cX11_goOn 222 = .ok (.invokestatic 241, 3) := by decide +kernel
theorem dX11_goOn_225 : decode cX11_goOn 225 = .ok (.ifCond .eq 7, 3) := by decide +kernel
theorem dX11_goOn_228 : decode cX11_goOn 228 = .ok (.iconst 3, 1) := by decide +kernel
theorem dX11_goOn_229 : decode cX11_goOn 229 = .ok (.goto 4, 3) := by decide +kernel
theorem dX11_goOn_232 : decode cX11_goOn 232 = .ok (.iconst 2, 1) := by decide +kernel
theorem dX11_goOn_233 : decode cX11_goOn 233 = .ok (.putfield 230, 3) := by decide +kernel
theorem dX11_goOn_236 : decode cX11_goOn 236 = .ok (.goto 141, 3) := by decide +kernel
theorem dX11_goOn_239 : decode cX11_goOn 239 = .ok (.iload_n 1, 1) := by decide +kernel
theorem dX11_goOn_240 : decode cX11_goOn 240 = .ok (.invokestatic 245, 3) := by decide +kernel
theorem dX11_goOn_243 : decode cX11_goOn 243 = .ok (.ifCond .eq 118, 3) := by decide +kernel
theorem dX11_goOn_246 : decode cX11_goOn 246 = .ok (.aload_n 0, 1) := by decide +kernel
theorem dX11_goOn_247 : decode cX11_goOn 247 = .ok (.iconst 0, 1) := by decide +kernel
theorem dX11_goOn_248 : decode cX11_goOn 248 = .ok (.putfield 248, 3) := by decide +kernel
theorem dX11_goOn_251 : decode cX11_goOn 251 = .ok (.aload_n 0, 1) := by decide +kernel
theorem dX11_goOn_252 : decode cX11_goOn 252 = .ok (.aload_n 0, 1) := by decide +kernel
theorem dX11_goOn_253 : decode cX11_goOn 253 = .ok (.getfield 223, 3) := by decide +kernel
theorem dX11_goOn_256 : decode cX11_goOn 256 = .ok (.putfield 220, 3) := by decide +kernel
theorem dX11_goOn_259 : decode cX11_goOn 259 = .ok (.aload_n 0, 1) := by decide +kernel
theorem dX11_goOn_260 : decode cX11_goOn 260 = .ok (.aload_n 0, 1) := by decide +kernel
theorem dX11_goOn_261 : decode cX11_goOn 261 = .ok (.getfield 220, 3) := by decide +kernel
theorem dX11_goOn_264 : decode cX11_goOn 264 = .ok (.invokevirtual 226, 3) := by decide +kernel
theorem dX11_goOn_267 : decode cX11_goOn 267 = .ok (.invokestatic 245, 3) := by decide +kernel
theorem dX11_goOn_270 : decode cX11_goOn 270 = .ok (.ifCond .eq 52, 3) := by decide +kernel
theorem dX11_goOn_273 : decode cX11_goOn 273 = .ok (.aload_n 0, 1) := by decide +kernel
theorem dX11_goOn_274 : decode cX11_goOn 274 = .ok (.getfield 220, 3) := by decide +kernel
theorem dX11_goOn_277 : decode cX11_goOn 277 = .ok (.aload_n 0, 1) := by decide +kernel
theorem dX11_goOn_278 : decode cX11_goOn 278 = .ok (.getfield 223, 3) := by decide +kernel
theorem dX11_goOn_281 : decode cX11_goOn 281 = .ok (.isub, 1) := by decide +kernel
theorem dX11_goOn_282 : decode cX11_goOn 282 = .ok (.iconst 4, 1) := by decide +kernel
theorem dX11_goOn_283 : decode cX11_goOn 283 = .ok (.if_icmp .ge 26, 3) := by decide +kernel
theorem dX11_goOn_286 : decode cX11_goOn 286 = .ok (.aload_n 0, 1) := by decide +kernel
theorem dX11_goOn_287 : decode cX11_goOn 287 = .ok (.bipush 10, 2) := by decide +kernel
theorem dX11_goOn_289 : decode cX11_goOn 289 = .ok (.aload_n 0, 1) := by decide +kernel
theorem dX11_goOn_290 : decode cX11_goOn 290 = .ok (.getfield 248, 3) := by decide +kernel
theorem dX11_goOn_293 : decode cX11_goOn 293 = .ok (.imul, 1) := by decide +kernel
theorem dX11_goOn_294 : decode cX11_goOn 294 = .ok (.aload_n 0, 1) := by decide +kernel
theorem dX11_goOn_295 : decode cX11_goOn 295 = .ok (.aload_n 0, 1) := by decide +kernel
theorem dX11_goOn_296 : decode cX11_goOn 296 = .ok (.getfield 220, 3) := by decide +kernel
theorem dX11_goOn_299 : decode cX11_goOn 299 = .ok (.invokevirtual 226, 3) := by decide +kernel
theorem dX11_goOn_302 : decode cX11_goOn 302 = .ok (.iadd, 1) := by decide +kernel
theorem dX11_goOn_303 : decode cX11_goOn 303 = .ok (.bipush 48, 2) := by decide +kernel
theorem dX11_goOn_305 : decode cX11_goOn 305 = .ok (.isub, 1) := by decide +kernel
theorem dX11_goOn_306 : decode cX11_goOn 306 = .ok (.putfield 248, 3) := by decide +kernel
theorem dX11_goOn_309 : decode cX11_goOn 309 = .ok (.aload_n 0, 1) := by decide +kernel
theorem dX11_goOn_310 : decode cX11_goOn 310 = .ok (.dup, 1) := by decide +kernel
theorem dX11_goOn_311 : decode cX11_goOn 311 = .ok (.getfield 220, 3) := by decide +kernel
theorem dX11_goOn_314 : decode cX11_goOn 314 = .ok (.iconst 1, 1) := by decide +kernel
theorem dX11_goOn_315 : decode cX11_goOn 315 = .ok (.iadd, 1) := by decide +kernel
theorem dX11_goOn_316 : decode cX11_goOn 316 = .ok (.putfield 220, 3) := by decide +kernel
theorem dX11_goOn_319 : decode cX11_goOn 319 = .ok (.goto (-60), 3) := by decide +kernel
theorem dX11_goOn_322 : decode cX11_goOn 322 = .ok (.aload_n 0, 1) := by decide +kernel
theorem dX11_goOn_323 : decode cX11_goOn 323 = .ok (.aload_n 0, 1) := by decide +kernel
theorem dX11_goOn_324 : decode cX11_goOn 324 = .ok (.getfield 220, 3) := by decide +kernel
theorem dX11_goOn_327 : decode cX11_goOn 327 = .ok (.aload_n 0, 1) := by decide +kernel
theorem dX11_goOn_328 : decode cX11_goOn 328 = .ok (.getfield 223, 3) := by decide +kernel
theorem dX11_goOn_331 : decode cX11_goOn 331 = .ok (.isub, 1) := by decide +kernel
theorem dX11_goOn_332 : decode cX11_goOn 332 = .ok (.iconst 4, 1) := by decide +kernel
theorem dX11_goOn_333 : decode cX11_goOn 333 = .ok (.if_icmp .gt 17, 3) := by decide +kernel
theorem dX11_goOn_336 : decode cX11_goOn 336 = .ok (.aload_n 0, 1) := by decide +kernel
theorem dX11_goOn_337 : decode cX11_goOn 337 = .ok (.aload_n 0, 1) := by decide +kernel
theorem dX11_goOn_338 : decode cX11_goOn 338 = .ok (.getfield 220, 3) := by decide +kernel
theorem dX11_goOn_341 : decode cX11_goOn 341 = .ok (.invokevirtual 226, 3) := by decide +kernel
theorem dX11_goOn_344 : decode cX11_goOn 344 = .ok (.invokestatic 233, 3) := by decide +kernel
theorem dX11_goOn_347 : decode cX11_goOn 347 = .ok (.ifCond .eq 7, 3) := by decide +kernel
theorem dX11_goOn_350 : decode cX11_goOn 350 = .ok (.iconst 1, 1) := by decide +kernel
theorem dX11_goOn_351 : decode cX11_goOn 351 = .ok (.goto 4, 3) := by decide +kernel
theorem dX11_goOn_354 : decode cX11_goOn 354 = .ok (.iconst 4, 1) := by decide +kernel
theorem dX11_goOn_355 : decode cX11_goOn 355 = .ok (.putfield 230, 3) := by decide +kernel
theorem dX11_goOn_358 : decode cX11_goOn 358 = .ok (.goto 19, 3) := by decide +kernel
theorem dX11_goOn_361 : decode cX11_goOn 361 = .ok (.aload_n 0, 1) := by decide +kernel
theorem dX11_goOn_362 : decode cX11_goOn 362 = .ok (.iload_n 1, 1) := by decide +kernel
theorem dX11_goOn_363 : decode cX11_goOn 363 = .ok (.invokestatic 251, 3) := by decide +kernel
theorem dX11_goOn_366 : decode cX11_goOn 366 = .ok (.ifCond .eq 7, 3) := by decide +kernel
theorem dX11_goOn_369 : decode cX11_goOn 369 = .ok (.iconst 5, 1) := by decide +kernel
theorem dX11_goOn_370 : decode cX11_goOn 370 = .ok (.goto 4, 3) := by decide +kernel
theorem dX11_goOn_373 : decode cX11_goOn 373 = .ok (.iconst 1, 1) := by decide +kernel
theorem dX11_goOn_374 : decode cX11_goOn 374 = .ok (.putfield 230, 3) := by decide +kernel
theorem dX11_goOn_377 : decode cX11_goOn 377 = .ok (.return_, 1) := by decide +kernel
theorem dX11_pond_0 : decode cX11_pond 0 = .ok (.aload_n 0, 1) := by decide +kernel
theorem dX11_pond_1 : decode cX11_pond 1 = .ok (.iconst 0, 1) := by decide +kernel
theorem dX11_pond_2 : decode cX11_pond 2 = .ok (.putfield 173, 3) := by decide +kernel
theorem dX11_pond_5 : decode cX11_pond 5 = .ok (.aload_n 0, 1) := by decide +kernel
theorem dX11_pond_6 : decode cX11_pond 6 = .ok (.iconst (-1), 1) := by decide +kernel
theorem dX11_pond_7 : decode cX11_pond 7 = .ok (.putfield 16, 3) := by decide +kernel
theorem dX11_pond_10 : decode cX11_pond 10 = .ok (.aload_n 0, 1) := by decide +kernel
theorem dX11_pond_11 : decode cX11_pond 11 = .ok (.aload_n 0, 1) := by decide +kernel
theorem dX11_pond_12 : decode cX11_pond 12 = .ok (.getfield 285, 3) := by decide +kernel
theorem dX11_pond_15 : decode cX11_pond 15 = .ok (.putfield 170, 3) := by decide +kernel
theorem dX11_pond_18 : decode cX11_pond 18 = .ok (.iconst 0, 1) := by decide +kernel
theorem dX11_pond_19 : decode cX11_pond 19 = .ok (.istore_n 1, 1) := by decide +kernel
theorem dX11_pond_20 : decode cX11_pond 20 = .ok (.iload_n 1, 1) := by decide +kernel
theorem dX11_pond_21 : decode cX11_pond 21 = .ok (.aload_n 0, 1) := by decide +kernel
theorem dX11_pond_22 : decode cX11_pond 22 = .ok (.getfield 170, 3) := by decide +kernel
theorem dX11_pond_25 : decode cX11_pond 25 = .ok (.if_icmp .ge 21, 3) := by decide +kernel
theorem dX11_pond_28 : decode cX11_pond 28 = .ok (.aload_n 0, 1) := by decide +kernel
theorem dX11_pond_29 : decode cX11_pond 29 = .ok (.getfield 13, 3) := by decide +kernel
theorem dX11_pond_32 : decode cX11_pond 32 = .ok (.iload_n 1, 1) := by decide +kernel
theorem dX11_pond_33 : decode cX11_pond 33 = .ok (.aload_n 0, 1) := by decide +kernel
theorem dX11_pond_34 : decode cX11_pond 34 = .ok (.getfield 7, 3) := by decide +kernel
theorem dX11_pond_37 : decode cX11_pond 37 = .ok (.iload_n 1, 1) := by decide +kernel
theorem dX11_pond_38 : decode cX11_pond 38 = .ok (.baload, 1) := by decide +kernel
theorem dX11_pond_39 : decode cX11_pond 39 = .ok (.bastore, 1) := by decide +kernel
theorem dX11_pond_40 : decode cX11_pond 40 = .ok (.iinc 1 1, 3) := by decide +kernel
theorem dX11_pond_43 : decode cX11_pond 43 = .ok (.goto (-23), 3) := by decide +kernel
theorem dX11_pond_46 : decode cX11_pond 46 = .ok (.aload_n 0, 1) := by decide +kernel
theorem dX11_pond_47 : decode cX11_pond 47 = .ok (.iconst 0, 1) := by decide +kernel
theorem dX11_pond_48 : decode cX11_pond 48 = .ok (.putfield 285, 3) := by decide +kernel
theorem dX11_pond_51 : decode cX11_pond 51 = .ok (.aload_n 0, 1) := by decide +kernel
theorem dX11_pond_52 : decode cX11_pond 52 = .ok (.iconst 0, 1) := by decide +kernel
theorem dX11_pond_53 : decode cX11_pond 53 = .ok (.putfield 220, 3) := by decide +kernel
theorem dX11_pond_56 : decode cX11_pond 56 = .ok (.aload_n 0, 1) := by decide +kernel
theorem dX11_pond_57 : decode cX11_pond 57 = .ok (.iconst 1, 1) := by decide +kernel
theorem dX11_pond_58 : decode cX11_pond 58 = .ok (.aload_n 0, 1) := by decide +kernel
theorem dX11_pond_59 : decode cX11_pond 59 = .ok (.getfield 288, 3) := by decide +kernel
theorem dX11_pond_62 : decode cX11_pond 62 = .ok (.isub, 1) := by decide +kernel
theorem dX11_pond_63 : decode cX11_pond 63 = .ok (.putfield 279, 3) := by decide +kernel
theorem dX11_pond_66 : decode cX11_pond 66 = .ok (.aload_n 0, 1) := by decide +kernel
theorem dX11_pond_67 : decode cX11_pond 67 = .ok (.invokevirtual 164, 3) := by decide +kernel
theorem dX11_pond_70 : decode cX11_pond 70 = .ok (.aload_n 0, 1) := by decide +kernel
theorem dX11_pond_71 : decode cX11_pond 71 = .ok (.invokevirtual 262, 3) := by decide +kernel
theorem dX11_pond_74 : decode cX11_pond 74 = .ok (.aload_n 0, 1) := by decide +kernel
theorem dX11_pond_75 : decode cX11_pond 75 = .ok (.invokevirtual 258, 3) := by decide +kernel
theorem dX11_pond_78 : decode cX11_pond 78 = .ok (.ifCond .eq 17, 3) := by decide +kernel
theorem dX11_pond_81 : decode cX11_pond 81 = .ok (.aload_n 0, 1) := by decide +kernel
theorem dX11_pond_82 : decode cX11_pond 82 = .ok (.getfield 230, 3) := by decide +kernel
theorem dX11_pond_85 : decode cX11_pond 85 = .ok (.ifCond .eq 10, 3) := by decide +kernel
theorem dX11_pond_88 : decode cX11_pond 88 = .ok (.aload_n 0, 1) := by decide +kernel
theorem dX11_pond_89 : decode cX11_pond 89 = .ok (.invokevirtual 291, 3) := by decide +kernel
theorem dX11_pond_92 : decode cX11_pond 92 = .ok (.goto (-18), 3) := by decide +kernel
theorem dX11_pond_95 : decode cX11_pond 95 = .ok (.aload_n 0, 1) := by decide +kernel
theorem dX11_pond_96 : decode cX11_pond 96 = .ok (.invokevirtual 258, 3) := by decide +kernel
theorem dX11_pond_99 : decode cX11_pond 99 = .ok (.ifCond .ne 5, 3) := by decide +kernel
theorem dX11_pond_102 : decode cX11_pond 102 = .ok (.iconst (-1), 1) := by decide +kernel
theorem dX11_pond_103 : decode cX11_pond 103 = .ok (.ireturn, 1) := by decide +kernel
theorem dX11_pond_104 : decode cX11_pond 104 = .ok (.aload_n 0, 1) := by decide +kernel
theorem dX11_pond_105 : decode cX11_pond 105 = .ok (.aload_n 0, 1) := by decide +kernel
theorem dX11_pond_106 : decode cX11_pond 106 = .ok (.getfield 279, 3) := by decide +kernel
theorem dX11_pond_109 : decode cX11_pond 109 = .ok (.putfield 288, 3) := by decide +kernel
theorem dX11_pond_112 : decode cX11_pond 112 = .ok (.aload_n 0, 1) := by decide +kernel
theorem dX11_pond_113 : decode cX11_pond 113 = .ok (.invokevirtual 167, 3) := by decide +kernel
theorem dX11_pond_116 : decode cX11_pond 116 = .ok (.aload_n 0, 1) := by decide +kernel
theorem dX11_pond_117 : decode cX11_pond 117 = .ok (.iconst 0, 1) := by decide +kernel
theorem dX11_pond_118 : decode cX11_pond 118 = .ok (.putfield 294, 3) := by decide +kernel
theorem dX11_pond_121 : decode cX11_pond 121 = .ok (.aload_n 0, 1) := by decide +kernel
theorem dX11_pond_122 : decode cX11_pond 122 = .ok (.iconst 0, 1) := by decide +kernel
theorem dX11_pond_123 : decode cX11_pond 123 = .ok (.putfield 297, 3) := by decide +kernel
theorem dX11_pond_126 : decode cX11_pond 126 = .ok (.iconst 0, 1) := by decide +kernel
theorem dX11_pond_127 : decode cX11_pond 127 = .ok (.istore_n 1, 1) := by decide +kernel
theorem dX11_pond_128 : decode cX11_pond 128 = .ok (.iload_n 1, 1) := by decide +kernel
theorem dX11_pond_129 : decode cX11_pond 129 = .ok (.iconst 3, 1) := by decide +kernel
theorem dX11_pond_130 : decode cX11_pond 130 = .ok (.if_icmp .ge 16, 3) := by decide +kernel
theorem dX11_pond_133 : decode cX11_pond 133 = .ok (.aload_n 0, 1) := by decide +kernel
theorem dX11_pond_134 : decode cX11_pond 134 = .ok (.getfield 161, 3) := by decide +kernel
theorem dX11_pond_137 : decode cX11_pond 137 = .ok (.iload_n 1, 1) := by decide +kernel
theorem dX11_pond_138 : decode cX11_pond 138 = .ok (.iconst 0, 1) := by decide +kernel
theorem dX11_pond_139 : decode cX11_pond 139 = .ok (.bastore, 1) := by decide +kernel
theorem dX11_pond_140 : decode cX11_pond 140 = .ok (.iinc 1 1, 3) := by decide +kernel
theorem dX11_pond_143 : decode cX11_pond 143 = .ok (.goto (-15), 3) := by decide +kernel
theorem dX11_pond_146 : decode cX11_pond 146 = .ok (.aload_n 0, 1) := by decide +kernel
theorem dX11_pond_147 : decode cX11_pond 147 = .ok (.getfield 20, 3) := by decide +kernel
theorem dX11_pond_150 : decode cX11_pond 150 = .ok (.aload_n 0, 1) := by decide +kernel
theorem dX11_pond_151 : decode cX11_pond 151 = .ok (.getfield 288, 3) := by decide +kernel
theorem dX11_pond_154 : decode cX11_pond 154 = .ok (.iaload, 1) := by decide +kernel
theorem dX11_pond_155 : decode cX11_pond 155 = .ok (.aload_n 0, 1) := by decide +kernel
theorem dX11_pond_156 : decode cX11_pond 156 = .ok (.getfield 24, 3) := by decide +kernel
theorem dX11_pond_159 : decode cX11_pond 159 = .ok (.aload_n 0, 1) := by decide +kernel
theorem dX11_pond_160 : decode cX11_pond 160 = .ok (.getfield 288, 3) := by decide +kernel
theorem dX11_pond_163 : decode cX11_pond 163 = .ok (.iaload, 1) := by decide +kernel
theorem dX11_pond_164 : decode cX11_pond 164 = .ok (.imul, 1) := by decide +kernel
theorem dX11_pond_165 : decode cX11_pond 165 = .ok (.ireturn, 1) := by decide +kernel
