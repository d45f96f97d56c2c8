theorem dX11_look_61 : decode cX11_look 61 = .ok (.istore 5, 2) := by decide +kernel
theorem dX11_look_63 : decode cX11_look 63 = .ok (.iconst 0, 1) := by decide +kernel
theorem dX11_look_64 : decode cX11_look 64 = .ok (.istore 6, 2) := by decide +kernel
theorem dX11_look_66 : decode cX11_look 66 = .ok (.iload 6, 2) := by decide +kernel
theorem dX11_look_68 : decode cX11_look 68 = .ok (.bipush 18, 2) := by decide +kernel
theorem dX11_look_70 : decode cX11_look 70 = .ok (.if_icmp .ge 17, 3) := by decide +kernel
theorem dX11_look_73 : decode cX11_look 73 = .ok (.aload_n 0, 1) := by decide +kernel
theorem dX11_look_74 : decode cX11_look 74 = .ok (.getfield 40, 3) := by decide +kernel
theorem dX11_look_77 : decode cX11_look 77 = .ok (.iload 6, 2) := by decide +kernel
theorem dX11_look_79 : decode cX11_look 79 = .ok (.iconst 0, 1) := by decide +kernel
theorem dX11_look_80 : decode cX11_look 80 = .ok (.iastore, 1) := by decide +kernel
theorem dX11_look_81 : decode cX11_look 81 = .ok (.iinc 6 1, 3) := by decide +kernel
theorem dX11_look_84 : decode cX11_look 84 = .ok (.goto (-18), 3) := by decide +kernel
theorem dX11_look_87 : decode cX11_look 87 = .ok (.iconst 0, 1) := by decide +kernel
theorem dX11_look_88 : decode cX11_look 88 = .ok (.istore 6, 2) := by decide +kernel
theorem dX11_look_90 : decode cX11_look 90 = .ok (.iload 6, 2) := by decide +kernel
theorem dX11_look_92 : decode cX11_look 92 = .ok (.bipush 120, 2) := by decide +kernel
theorem dX11_look_94 : decode cX11_look 94 = .ok (.if_icmp .ge 74, 3) := by decide +kernel
theorem dX11_look_97 : decode cX11_look 97 = .ok (.aload_n 0, 1) := by decide +kernel
theorem dX11_look_98 : decode cX11_look 98 = .ok (.getfield 43, 3) := by decide +kernel
theorem dX11_look_101 : decode cX11_look 101 = .ok (.iload 6, 2) := by decide +kernel
theorem dX11_look_103 : decode cX11_look 103 = .ok (.baload, 1) := by decide +kernel
theorem dX11_look_104 : decode cX11_look 104 = .ok (.ifCond .eq 58, 3) := by decide +kernel
theorem dX11_look_107 : decode cX11_look 107 = .ok (.aload_n 0, 1) := by decide +kernel
theorem dX11_look_108 : decode cX11_look 108 = .ok (.iload 6, 2) := by decide +kernel
theorem dX11_look_110 : decode cX11_look 110 = .ok (.bipush 10, 2) := by decide +kernel
theorem dX11_look_112 : decode cX11_look 112 = .ok (.idiv, 1) := by decide +kernel
theorem dX11_look_113 : decode cX11_look 113 = .ok (.iload 6, 2) := by decide +kernel
theorem dX11_look_115 : decode cX11_look 115 = .ok (.bipush 10, 2) := by decide +kernel
theorem dX11_look_117 : decode cX11_look 117 = .ok (.irem, 1) := by decide +kernel
theorem dX11_look_118 : decode cX11_look 118 = .ok (.iload 4, 2) := by decide +kernel
theorem dX11_look_120 : decode cX11_look 120 = .ok (.invokevirtual 180, 3) := by decide +kernel
theorem dX11_look_123 : decode cX11_look 123 = .ok (.istore 7, 2) := by decide +kernel
theorem dX11_look_125 : decode cX11_look 125 = .ok (.aload_n 0, 1) := by decide +kernel
theorem dX11_look_126 : decode cX11_look 126 = .ok (.getfield 40, 3) := by decide +kernel
theorem dX11_look_129 : decode cX11_look 129 = .ok (.iload 7, 2) := by decide +kernel
theorem dX11_look_131 : decode cX11_look 131 = .ok (.dup2, 1) := by decide +kernel
theorem dX11_look_132 : decode cX11_look 132 = .ok (.iaload, 1) := by decide +kernel
theorem dX11_look_133 : decode cX11_look 133 = .ok (.iconst 1, 1) := by decide +kernel
theorem dX11_look_134 : decode cX11_look 134 = .ok (.iadd, 1) := by decide +kernel
theorem dX11_look_135 : decode cX11_look 135 = .ok (.iastore, 1) := by decide +kernel
theorem dX11_look_136 : decode cX11_look 136 = .ok (.aload_n 0, 1) := by decide +kernel
theorem dX11_look_137 : decode cX11_look 137 = .ok (.getfield 40, 3) := by decide +kernel
theorem dX11_look_140 : decode cX11_look 140 = .ok (.iload 7, 2) := by decide +kernel
theorem dX11_look_142 : decode cX11_look 142 = .ok (.iaload, 1) := by decide +kernel
theorem dX11_look_143 : decode cX11_look 143 = .ok (.iload 5, 2) := by decide +kernel
theorem dX11_look_145 : decode cX11_look 145 = .ok (.if_icmp .le 13, 3) := by decide +kernel
theorem dX11_look_148 : decode cX11_look 148 = .ok (.aload_n 0, 1) := by decide +kernel
theorem dX11_look_149 : decode cX11_look 149 = .ok (.getfield 40, 3) := by decide +kernel
theorem dX11_look_152 : decode cX11_look 152 = .ok (.iload 7, 2) := by decide +kernel
theorem dX11_look_154 : decode cX11_look 154 = .ok (.iaload, 1) := by decide +kernel
theorem dX11_look_155 : decode cX11_look 155 = .ok (.goto 5, 3) := by decide +kernel
theorem dX11_look_158 : decode cX11_look 158 = .ok (.iload 5, 2) := by decide +kernel
theorem dX11_look_160 : decode cX11_look 160 = .ok (.istore 5, 2) := by decide +kernel
theorem dX11_look_162 : decode cX11_look 162 = .ok (.iinc 6 1, 3) := by decide +kernel
theorem dX11_look_165 : decode cX11_look 165 = .ok (.goto (-75), 3) := by decide +kernel
theorem dX11_look_168 : decode cX11_look 168 = .ok (.iload 5, 2) := by decide +kernel
theorem dX11_look_170 : decode cX11_look 170 = .ok (.ifCond .le 13, 3) := by decide +kernel
theorem dX11_look_173 : decode cX11_look 173 = .ok (.iload 5, 2) := by decide +kernel
theorem dX11_look_175 : decode cX11_look 175 = .ok (.iload_n 3, 1) := by decide +kernel
theorem dX11_look_176 : decode cX11_look 176 = .ok (.if_icmp .ge 7, 3) := by decide +kernel
theorem dX11_look_179 : decode cX11_look 179 = .ok (.iconst 1, 1) := by decide +kernel
theorem dX11_look_180 : decode cX11_look 180 = .ok (.goto 4, 3) := by decide +kernel
theorem dX11_look_183 : decode cX11_look 183 = .ok (.iconst 0, 1) := by decide +kernel
theorem dX11_look_184 : decode cX11_look 184 = .ok (.istore 6, 2) := by decide +kernel
theorem dX11_look_186 : decode cX11_look 186 = .ok (.iload 6, 2) := by decide +kernel
theorem dX11_look_188 : decode cX11_look 188 = .ok (.ifCond .eq 8, 3) := by decide +kernel
theorem dX11_look_191 : decode cX11_look 191 = .ok (.iload 4, 2) := by decide +kernel
theorem dX11_look_193 : decode cX11_look 193 = .ok (.goto 4, 3) := by decide +kernel
theorem dX11_look_196 : decode cX11_look 196 = .ok (.iload_n 2, 1) := by decide +kernel
theorem dX11_look_197 : decode cX11_look 197 = .ok (.istore_n 2, 1) := by decide +kernel
theorem dX11_look_198 : decode cX11_look 198 = .ok (.iload 6, 2) := by decide +kernel
theorem dX11_look_200 : decode cX11_look 200 = .ok (.ifCond .eq 8, 3) := by decide +kernel
theorem dX11_look_203 : decode cX11_look 203 = .ok (.iload 5, 2) := by decide +kernel
theorem dX11_look_205 : decode cX11_look 205 = .ok (.goto 4, 3) := by decide +kernel
theorem dX11_look_208 : decode cX11_look 208 = .ok (.iload_n 3, 1) := by decide +kernel
theorem dX11_look_209 : decode cX11_look 209 = .ok (.istore_n 3, 1) := by decide +kernel
theorem dX11_look_210 : decode cX11_look 210 = .ok (.iinc 4 1, 3) := by decide +kernel
theorem dX11_look_213 : decode cX11_look 213 = .ok (.goto (-160), 3) := by decide +kernel
theorem dX11_look_216 : decode cX11_look 216 = .ok (.iload_n 2, 1) := by decide +kernel
theorem dX11_look_217 : decode cX11_look 217 = .ok (.ifCond .lt 7, 3) := by decide +kernel
theorem dX11_look_220 : decode cX11_look 220 = .ok (.iload_n 1, 1) := by decide +kernel
theorem dX11_look_221 : decode cX11_look 221 = .ok (.ifCond .ne 7, 3) := by decide +kernel
theorem dX11_look_224 : decode cX11_look 224 = .ok (.iload_n 2, 1) := by decide +kernel
theorem dX11_look_225 : decode cX11_look 225 = .ok (.goto 4, 3) := by decide +kernel
theorem dX11_look_228 : decode cX11_look 228 = .ok (.iload_n 3, 1) := by decide +kernel
theorem dX11_look_229 : decode cX11_look 229 = .ok (.ireturn, 1) := by decide +kernel
set_option maxRecDepth 20000 in
theorem ggX11_chance_X11_in : GoodIn wsX11_chance wsX11_in := goodIn_r _ [9] (by decide +kernel) (by decide +kernel)
set_option maxRecDepth 20000 in
theorem gX11_chance_X11_in : GoodIn wsX11_chance (va_wsS RX11 57 yX11_in wsX11_in) := goodIn_app (goodIn_of _ (by decide +kernel)) ggX11_chance_X11_in
set_option maxRecDepth 20000 in
theorem ggX11_chance_X11_plain : GoodIn wsX11_chance wsX11_plain := goodIn_r _ [13, 14, 15, 16, 17, 18, 8, 19, 20, 21, 44, 45, 46, 47, 48, 49, 50, 51, 52, 53, 54, 55, 56, 57, 58, 59, 60, 61, 62, 63, 64, 65, 66, 67, 68, 69, 70, 71, 72, 73] (by decide +kernel) (by decide +kernel)
set_option maxRecDepth 20000 in
theorem gX11_chance_X11_plain : GoodIn wsX11_chance (wsV RX11 139 RX11 yX11_plain wsX11_plain) := goodIn_app (goodIn_of _ (by decide +kernel)) ggX11_chance_X11_plain
set_option maxRecDepth 20000 in
theorem ggX11_chance_X11_layMeetings : GoodIn wsX11_chance wsX11_layMeetings := goodIn_r _ [25, 26, 2, 27, 28, 20, 6, 7, 8, 9, 29, 30, 31, 32, 33, 34, 35, 36, 37, 38, 39, 40, 41, 42, 43, 14, 15, 44, 45, 46, 47, 48, 49, 50, 51, 52, 53, 54, 55, 56, 57, 58, 59, 60, 61, 62, 63, 64, 65, 66, 67, 68, 69, 70, 71, 72, 73] (by decide +kernel) (by decide +kernel)
set_option maxRecDepth 20000 in
theorem gX11_chance_X11_layMeetings : GoodIn wsX11_chance (wsV RX11 142 RX11 yX11_layMeetings wsX11_layMeetings) := goodIn_app (goodIn_of _ (by decide +kernel)) ggX11_chance_X11_layMeetings
theorem dX11_chance_0 : decode cX11_chance 0 = .ok (.iload_n 1, 1) := by decide +kernel
theorem dX11_chance_1 : decode cX11_chance 1 = .ok (.iconst 0, 1) := by decide +kernel
theorem dX11_chance_2 : decode cX11_chance 2 = .ok (.bipush 10, 2) := by decide +kernel
theorem dX11_chance_4 : decode cX11_chance 4 = .ok (.invokestatic 57, 3) := by decide +kernel
theorem dX11_chance_7 : decode cX11_chance 7 = .ok (.ifCond .eq 22, 3) := by decide +kernel
theorem dX11_chance_10 : decode cX11_chance 10 = .ok (.iload_n 2, 1) := by decide +kernel
theorem dX11_chance_11 : decode cX11_chance 11 = .ok (.iconst 0, 1) := by decide +kernel
theorem dX11_chance_12 : decode cX11_chance 12 = .ok (.bipush 12, 2) := by decide +kernel
theorem dX11_chance_14 : decode cX11_chance 14 = .ok (.invokestatic 57, 3) := by decide +kernel
theorem dX11_chance_17 : decode cX11_chance 17 = .ok (.ifCond .eq 12, 3) := by decide +kernel
theorem dX11_chance_20 : decode cX11_chance 20 = .ok (.iload_n 3, 1) := by decide +kernel
theorem dX11_chance_21 : decode cX11_chance 21 = .ok (.iconst 0, 1) := by decide +kernel
theorem dX11_chance_22 : decode cX11_chance 22 = .ok (.iconst 1, 1) := by decide +kernel
theorem dX11_chance_23 : decode cX11_chance 23 = .ok (.invokestatic 57, 3) := by decide +kernel
theorem dX11_chance_26 : decode cX11_chance 26 = .ok (.ifCond .ne 7, 3) := by decide +kernel
theorem dX11_chance_29 : decode cX11_chance 29 = .ok (.ldc2_w 187, 3) := by decide +kernel
theorem dX11_chance_32 : decode cX11_chance 32 = .ok (.lreturn, 1) := by decide +kernel
theorem dX11_chance_33 : decode cX11_chance 33 = .ok (.aload_n 0, 1) := by decide +kernel
theorem dX11_chance_34 : decode cX11_chance 34 = .ok (.invokevirtual 139, 3) := by decide +kernel
theorem dX11_chance_37 : decode cX11_chance 37 = .ok (.aload_n 0, 1) := by decide +kernel
theorem dX11_chance_38 : decode cX11_chance 38 = .ok (.invokevirtual 142, 3) := by decide +kernel
theorem dX11_chance_41 : decode cX11_chance 41 = .ok (.aload_n 0, 1) := by decide +kernel
theorem dX11_chance_42 : decode cX11_chance 42 = .ok (.getfield 126, 3) := by decide +kernel
theorem dX11_chance_45 : decode cX11_chance 45 = .ok (.bipush 12, 2) := by decide +kernel
theorem dX11_chance_47 : decode cX11_chance 47 = .ok (.if_icmp .le 7, 3) := by decide +kernel
theorem dX11_chance_50 : decode cX11_chance 50 = .ok (.ldc2_w 189, 3) := by decide +kernel
theorem dX11_chance_53 : decode cX11_chance 53 = .ok (.lreturn, 1) := by decide +kernel
theorem dX11_chance_54 : decode cX11_chance 54 = .ok (.lconst 1, 1) := by decide +kernel
theorem dX11_chance_55 : decode cX11_chance 55 = .ok (.lstore 4, 2) := by decide +kernel
theorem dX11_chance_57 : decode cX11_chance 57 = .ok (.iconst 0, 1) := by decide +kernel
theorem dX11_chance_58 : decode cX11_chance 58 = .ok (.istore 6, 2) := by decide +kernel
theorem dX11_chance_60 : decode cX11_chance 60 = .ok (.iload 6, 2) := by decide +kernel
theorem dX11_chance_62 : decode cX11_chance 62 = .ok (.bipush 14, 2) := by decide +kernel
theorem dX11_chance_64 : decode cX11_chance 64 = .ok (.if_icmp .ge 26, 3) := by decide +kernel
theorem dX11_chance_67 : decode cX11_chance 67 = .ok (.aload_n 0, 1) := by decide +kernel
theorem dX11_chance_68 : decode cX11_chance 68 = .ok (.getfield 47, 3) := by decide +kernel
theorem dX11_chance_71 : decode cX11_chance 71 = .ok (.iload 6, 2) := by decide +kernel
theorem dX11_chance_73 : decode cX11_chance 73 = .ok (.iload 6, 2) := by decide +kernel
theorem dX11_chance_75 : decode cX11_chance 75 = .ok (.ifCond .ne 7, 3) := by decide +kernel
theorem dX11_chance_78 : decode cX11_chance 78 = .ok (.lconst 1, 1) := by decide +kernel
theorem dX11_chance_79 : decode cX11_chance 79 = .ok (.goto 4, 3) := by decide +kernel
theorem dX11_chance_82 : decode cX11_chance 82 = .ok (.lconst 0, 1) := by decide +kernel
theorem dX11_chance_83 : decode cX11_chance 83 = .ok (.lastore, 1) := by decide +kernel
theorem dX11_chance_84 : decode cX11_chance 84 = .ok (.iinc 6 1, 3) := by decide +kernel
theorem dX11_chance_87 : decode cX11_chance 87 = .ok (.goto (-27), 3) := by decide +kernel
theorem dX11_chance_90 : decode cX11_chance 90 = .ok (.iconst 0, 1) := by decide +kernel
theorem dX11_chance_91 : decode cX11_chance 91 = .ok (.istore 6, 2) := by decide +kernel
theorem dX11_chance_93 : decode cX11_chance 93 = .ok (.iload 6, 2) := by decide +kernel
theorem dX11_chance_95 : decode cX11_chance 95 = .ok (.aload_n 0, 1) := by decide +kernel
theorem dX11_chance_96 : decode cX11_chance 96 = .ok (.getfield 126, 3) := by decide +kernel
theorem dX11_chance_99 : decode cX11_chance 99 = .ok (.if_icmp .ge 74, 3) := by decide +kernel
theorem dX11_chance_102 : decode cX11_chance 102 = .ok (.bipush 12, 2) := by decide +kernel
theorem dX11_chance_104 : decode cX11_chance 104 = .ok (.istore 7, 2) := by decide +kernel
theorem dX11_chance_106 : decode cX11_chance 106 = .ok (.iload 7, 2) := by decide +kernel
theorem dX11_chance_108 : decode cX11_chance 108 = .ok (.ifCond .lt 51, 3) := by decide +kernel
theorem dX11_chance_111 : decode cX11_chance 111 = .ok (.aload_n 0, 1) := by decide +kernel
theorem dX11_chance_112 : decode cX11_chance 112 = .ok (.getfield 47, 3) := by decide +kernel
theorem dX11_chance_115 : decode cX11_chance 115 = .ok (.iload 7, 2) := by decide +kernel
theorem dX11_chance_117 : decode cX11_chance 117 = .ok (.aload_n 0, 1) := by decide +kernel
theorem dX11_chance_118 : decode cX11_chance 118 = .ok (.getfield 47, 3) := by decide +kernel
theorem dX11_chance_121 : decode cX11_chance 121 = .ok (.iload 7, 2) := by decide +kernel
theorem dX11_chance_123 : decode cX11_chance 123 = .ok (.laload, 1) := by decide +kernel
theorem dX11_chance_124 : decode cX11_chance 124 = .ok (.iload_n 1, 1) := by decide +kernel
theorem dX11_chance_125 : decode cX11_chance 125 = .ok (.i2l, 1) := by decide +kernel
theorem dX11_chance_126 : decode cX11_chance 126 = .ok (.lmul, 1) := by decide +kernel
theorem dX11_chance_127 : decode cX11_chance 127 = .ok (.iload 7, 2) := by decide +kernel
theorem dX11_chance_129 : decode cX11_chance 129 = .ok (.ifCond .le 21, 3) := by decide +kernel
theorem dX11_chance_132 : decode cX11_chance 132 = .ok (.aload_n 0, 1) := by decide +kernel
theorem dX11_chance_133 : decode cX11_chance 133 = .ok (.getfield 47, 3) := by decide +kernel
theorem dX11_chance_136 : decode cX11_chance 136 = .ok (.iload 7, 2) := by decide +kernel
theorem dX11_chance_138 : decode cX11_chance 138 = .ok (.iconst 1, 1) := by decide +kernel
theorem dX11_chance_139 : decode cX11_chance 139 = .ok (.isub, 1) := by decide +kernel
theorem dX11_chance_140 : decode cX11_chance 140 = .ok (.laload, 1) := by decide +kernel
theorem dX11_chance_141 : decode cX11_chance 141 = .ok (.bipush 10, 2) := by decide +kernel
theorem dX11_chance_143 : decode cX11_chance 143 = .ok (.iload_n 1, 1) := by decide +kernel
theorem dX11_chance_144 : decode cX11_chance 144 = .ok (.isub, 1) := by decide +kernel
theorem dX11_chance_145 : decode cX11_chance 145 = .ok (.i2l, 1) := by decide +kernel
theorem dX11_chance_146 : decode cX11_chance 146 = .ok (.lmul, 1) := by decide +kernel
theorem dX11_chance_147 : decode cX11_chance 147 = .ok (.goto 4, 3) := by decide +kernel
theorem dX11_chance_150 : decode cX11_chance 150 = .ok (.lconst 0, 1) := by decide +kernel
theorem dX11_chance_151 : decode cX11_chance 151 = .ok (.ladd, 1) := by decide +kernel
theorem dX11_chance_152 : decode cX11_chance 152 = .ok (.lastore, 1) := by decide +kernel
theorem dX11_chance_153 : decode cX11_chance 153 = .ok (.iinc 7 (-1), 3) := by decide +kernel
theorem dX11_chance_156 : decode cX11_chance 156 = .ok (.goto (-50), 3) := by decide +kernel
theorem dX11_chance_159 : decode cX11_chance 159 = .ok (.lload 4, 2) := by decide +kernel
theorem dX11_chance_161 : decode cX11_chance 161 = .ok (.ldc2_w 191, 3) := by decide +kernel
theorem dX11_chance_164 : decode cX11_chance 164 = .ok (.lmul, 1) := by decide +kernel
theorem dX11_chance_165 : decode cX11_chance 165 = .ok (.lstore 4, 2) := by decide +kernel
theorem dX11_chance_167 : decode cX11_chance 167 = .ok (.iinc 6 1, 3) := by decide +kernel
theorem dX11_chance_170 : decode cX11_chance 170 = .ok (.goto (-77), 3) := by decide +kernel
theorem dX11_chance_173 : decode cX11_chance 173 = .ok (.lconst 0, 1) := by decide +kernel
theorem dX11_chance_174 : decode cX11_chance 174 = .ok (.lstore 6, 2) := by decide +kernel
theorem dX11_chance_176 : decode cX11_chance 176 = .ok (.iload_n 2, 1) := by decide +kernel
theorem dX11_chance_177 : decode cX11_chance 177 = .ok (.istore 8, 2) := by decide +kernel
theorem dX11_chance_179 : decode cX11_chance 179 = .ok (.iload 8, 2) := by decide +kernel
theorem dX11_chance_181 : decode cX11_chance 181 = .ok (.bipush 13, 2) := by decide +kernel
theorem dX11_chance_183 : decode cX11_chance 183 = .ok (.if_icmp .ge 21, 3) := by decide +kernel
theorem dX11_chance_186 : decode cX11_chance 186 = .ok (.lload 6, 2) := by decide +kernel
theorem dX11_chance_188 : decode cX11_chance 188 = .ok (.aload_n 0, 1) := by decide +kernel
theorem dX11_chance_189 : decode cX11_chance 189 = .ok (.getfield 47, 3) := by decide +kernel
theorem dX11_chance_192 : decode cX11_chance 192 = .ok (.iload 8, 2) := by decide +kernel
theorem dX11_chance_194 : decode cX11_chance 194 = .ok (.laload, 1) := by decide +kernel
theorem dX11_chance_195 : decode cX11_chance 195 = .ok (.ladd, 1) := by decide +kernel
theorem dX11_chance_196 : decode cX11_chance 196 = .ok (.lstore 6, 2) := by decide +kernel
theorem dX11_chance_198 : decode cX11_chance 198 = .ok (.iinc 8 1, 3) := by decide +kernel
theorem dX11_chance_201 : decode cX11_chance 201 = .ok (.goto (-22), 3) := by decide +kernel
theorem dX11_chance_204 : decode cX11_chance 204 = .ok (.lload 6, 2) := by decide +kernel
theorem dX11_chance_206 : decode cX11_chance 206 = .ok (.lstore 8, 2) := by decide +kernel
theorem dX11_chance_208 : decode cX11_chance 208 = .ok (.lload 4, 2) := by decide +kernel
theorem dX11_chance_210 : decode cX11_chance 210 = .ok (.lstore 10, 2) := by decide +kernel
theorem dX11_chance_212 : decode cX11_chance 212 = .ok (.lload 10, 2) := by decide +kernel
theorem dX11_chance_214 : decode cX11_chance 214 = .ok (.lconst 0, 1) := by decide +kernel
theorem dX11_chance_215 : decode cX11_chance 215 = .ok (.lcmp, 1) := by decide +kernel
theorem dX11_chance_216 : decode cX11_chance 216 = .ok (.ifCond .eq 21, 3) := by decide +kernel
theorem dX11_chance_219 : decode cX11_chance 219 = .ok (.lload 8, 2) := by decide +kernel
theorem dX11_chance_221 : decode cX11_chance 221 = .ok (.lload 10, 2) := by decide +kernel
theorem dX11_chance_223 : decode cX11_chance 223 = .ok (.lrem, 1) := by decide +kernel
theorem dX11_chance_224 : decode cX11_chance 224 = .ok (.lstore 12, 2) := by decide +kernel
theorem dX11_chance_226 : decode cX11_chance 226 = .ok (.lload 10, 2) := by decide +kernel
theorem dX11_chance_228 : decode cX11_chance 228 = .ok (.lstore 8, 2) := by decide +kernel
theorem dX11_chance_230 : decode cX11_chance 230 = .ok (.lload 12, 2) := by decide +kernel
theorem dX11_chance_232 : decode cX11_chance 232 = .ok (.lstore 10, 2) := by decide +kernel
theorem dX11_chance_234 : decode cX11_chance 234 = .ok (.goto (-22), 3) := by decide +kernel
theorem dX11_chance_237 : decode cX11_chance 237 = .ok (.iload_n 3, 1) := by decide +kernel
theorem dX11_chance_238 : decode cX11_chance 238 = .ok (.ifCond .ne 11, 3) := by decide +kernel
theorem dX11_chance_241 : decode cX11_chance 241 = .ok (.lload 6, 2) := by decide +kernel
theorem dX11_chance_243 : decode cX11_chance 243 = .ok (.lload 8, 2) := by decide +kernel
theorem dX11_chance_245 : decode cX11_chance 245 = .ok (.ldiv, 1) := by decide +kernel
theorem dX11_chance_246 : decode cX11_chance 246 = .ok (.goto 8, 3) := by decide +kernel
theorem dX11_chance_249 : decode cX11_chance 249 = .ok (.lload 4, 2) := by decide +kernel
theorem dX11_chance_251 : decode cX11_chance 251 = .ok (.lload 8, 2) := by decide +kernel
theorem dX11_chance_253 : decode cX11_chance 253 = .ok (.ldiv, 1) := by decide +kernel
theorem dX11_chance_254 : decode cX11_chance 254 = .ok (.lreturn, 1) := by decide +kernel
set_option maxRecDepth 20000 in
theorem ggX11_year_X11_in : GoodIn wsX11_year wsX11_in := goodIn_r _ [7] (by decide +kernel) (by decide +kernel)
set_option maxRecDepth 20000 in
theorem gX11_year_X11_in : GoodIn wsX11_year (va_wsS RX11 57 yX11_in wsX11_in) := goodIn_app (goodIn_of _ (by decide +kernel)) ggX11_year_X11_in
set_option maxRecDepth 20000 in
theorem ggX11_year_X11_plain : GoodIn wsX11_year wsX11_plain := goodIn_r _ [11, 12, 13, 14, 15, 16, 6, 17, 2, 18, 61, 62, 63, 64, 65, 66, 67, 68, 69, 70, 71, 72, 73, 74, 75, 76, 77, 78, 79, 80, 81, 82, 83, 84, 85, 86, 87, 88, 89, 90] (by decide +kernel) (by decide +kernel)
set_option maxRecDepth 20000 in
theorem gX11_year_X11_plain : GoodIn wsX11_year (wsV RX11 139 RX11 yX11_plain wsX11_plain) := goodIn_app (goodIn_of _ (by decide +kernel)) ggX11_year_X11_plain
set_option maxRecDepth 20000 in
theorem ggX11_year_X11_join : GoodIn wsX11_year wsX11_join := goodIn_r _ [22, 2, 23, 24, 25, 6, 26, 61, 62, 63, 64, 65, 66, 67, 68, 69, 70, 71, 72, 73, 74, 75, 76, 77, 78, 79, 80, 81, 82, 83, 84, 85, 86, 87, 88, 89, 90] (by decide +kernel) (by decide +kernel)
set_option maxRecDepth 20000 in
theorem gX11_year_X11_join : GoodIn wsX11_year (wsV RX11 102 RX11 yX11_join wsX11_join) := goodIn_app (goodIn_of _ (by decide +kernel)) ggX11_year_X11_join
set_option maxRecDepth 20000 in
theorem ggX11_year_X11_goHome : GoodIn wsX11_year wsX11_goHome := goodIn_r _ [30, 2, 23, 24, 25, 6, 26, 61, 62, 63, 64, 65, 66, 67, 68, 69, 70, 71, 72, 73, 74, 75, 76, 77, 78, 79, 80, 81, 82, 83, 84, 85, 86, 87, 88, 89, 90] (by decide +kernel) (by decide +kernel)
set_option maxRecDepth 20000 in
theorem gX11_year_X11_goHome : GoodIn wsX11_year (wsV RX11 99 RX11 yX11_goHome wsX11_goHome) := goodIn_app (goodIn_of _ (by decide +kernel)) ggX11_year_X11_goHome
set_option maxRecDepth 20000 in
theorem ggX11_year_X11_change : GoodIn wsX11_year wsX11_change := goodIn_r _ [34, 2, 23, 24, 25, 6, 26, 61, 62, 63, 64, 65, 66, 67, 68, 69, 70, 71, 72, 73, 74, 75, 76, 77, 78, 79, 80, 81, 82, 83, 84, 85, 86, 87, 88, 89, 90] (by decide +kernel) (by decide +kernel)
set_option maxRecDepth 20000 in
theorem gX11_year_X11_change : GoodIn wsX11_year (wsV RX11 95 RX11 yX11_change wsX11_change) := goodIn_app (goodIn_of _ (by decide +kernel)) ggX11_year_X11_change
set_option maxRecDepth 20000 in
theorem ggX11_year_X11_ring : GoodIn wsX11_year wsX11_ring := goodIn_r _ [38, 2, 61, 62, 63, 64, 65, 66, 67, 68, 69, 70, 71, 72, 73, 74, 75, 76, 77, 78, 79, 80, 81, 82, 83, 84, 85, 86, 87, 88, 89, 90] (by decide +kernel) (by decide +kernel)
set_option maxRecDepth 20000 in
theorem gX11_year_X11_ring : GoodIn wsX11_year (wsV RX11 89 RX11 yX11_ring wsX11_ring) := goodIn_app (goodIn_of _ (by decide +kernel)) ggX11_year_X11_ring
set_option maxRecDepth 20000 in
theorem ggX11_year_X11_layMeetings : GoodIn wsX11_year wsX11_layMeetings := goodIn_r _ [42, 43, 3, 44, 45, 2, 4, 5, 6, 7, 46, 47, 48, 49, 50, 51, 52, 53, 54, 55, 56, 57, 58, 59, 60, 12, 13, 61, 62, 63, 64, 65, 66, 67, 68, 69, 70, 71, 72, 73, 74, 75, 76, 77, 78, 79, 80, 81, 82, 83, 84, 85, 86, 87, 88, 89, 90] (by decide +kernel) (by decide +kernel)
set_option maxRecDepth 20000 in
theorem gX11_year_X11_layMeetings : GoodIn wsX11_year (wsV RX11 142 RX11 yX11_layMeetings wsX11_layMeetings) := goodIn_app (goodIn_of _ (by decide +kernel)) ggX11_year_X11_layMeetings
theorem dX11_year_0 : decode cX11_year 0 = .ok (.iload_n 1, 1) := by decide +kernel
theorem dX11_year_1 : decode cX11_year 1 = .ok (.iconst 0, 1) := by decide +kernel
theorem dX11_year_2 : decode cX11_year 2 = .ok (.sipush 9999, 3) := by decide +kernel
theorem dX11_year_5 : decode cX11_year 5 = .ok (.invokestatic 57, 3) := by decide +kernel
theorem dX11_year_8 : decode cX11_year 8 = .ok (.ifCond .eq 22, 3) := by decide +kernel
theorem dX11_year_11 : decode cX11_year 11 = .ok (.iload_n 2, 1) := by decide +kernel
theorem dX11_year_12 : decode cX11_year 12 = .ok (.iconst 1, 1) := by decide +kernel
theorem dX11_year_13 : decode cX11_year 13 = .ok (.bipush 99, 2) := by decide +kernel
theorem dX11_year_15 : decode cX11_year 15 = .ok (.invokestatic 57, 3) := by decide +kernel
theorem dX11_year_18 : decode cX11_year 18 = .ok (.ifCond .eq 12, 3) := by decide +kernel
theorem dX11_year_21 : decode cX11_year 21 = .ok (.iload_n 3, 1) := by decide +kernel
theorem dX11_year_22 : decode cX11_year 22 = .ok (.iconst 0, 1) := by decide +kernel
theorem dX11_year_23 : decode cX11_year 23 = .ok (.iconst 2, 1) := by decide +kernel
theorem dX11_year_24 : decode cX11_year 24 = .ok (.invokestatic 57, 3) := by decide +kernel
theorem dX11_year_27 : decode cX11_year 27 = .ok (.ifCond .ne 6, 3) := by decide +kernel
theorem dX11_year_30 : decode cX11_year 30 = .ok (.bipush (-2), 2) := by decide +kernel
theorem dX11_year_32 : decode cX11_year 32 = .ok (.ireturn, 1) := by decide +kernel
theorem dX11_year_33 : decode cX11_year 33 = .ok (.aload_n 0, 1) := by decide +kernel
theorem dX11_year_34 : decode cX11_year 34 = .ok (.invokevirtual 139, 3) := by decide +kernel
theorem dX11_year_37 : decode cX11_year 37 = .ok (.iload_n 1, 1) := by decide +kernel
theorem dX11_year_38 : decode cX11_year 38 = .ok (.istore 4, 2) := by decide +kernel
theorem dX11_year_40 : decode cX11_year 40 = .ok (.iconst 0, 1) := by decide +kernel
theorem dX11_year_41 : decode cX11_year 41 = .ok (.istore 5, 2) := by decide +kernel
theorem dX11_year_43 : decode cX11_year 43 = .ok (.iload 5, 2) := by decide +kernel
theorem dX11_year_45 : decode cX11_year 45 = .ok (.iload_n 2, 1) := by decide +kernel
theorem dX11_year_46 : decode cX11_year 46 = .ok (.if_icmp .ge 106, 3) := by decide +kernel
theorem dX11_year_49 : decode cX11_year 49 = .ok (.bipush 75, 2) := by decide +kernel
theorem dX11_year_51 : decode cX11_year 51 = .ok (.iload 4, 2) := by decide +kernel
theorem dX11_year_53 : decode cX11_year 53 = .ok (.imul, 1) := by decide +kernel
theorem dX11_year_54 : decode cX11_year 54 = .ok (.bipush 74, 2) := by decide +kernel
theorem dX11_year_56 : decode cX11_year 56 = .ok (.iadd, 1) := by decide +kernel
theorem dX11_year_57 : decode cX11_year 57 = .ok (.ldc 193, 2) := by decide +kernel
theorem dX11_year_59 : decode cX11_year 59 = .ok (.irem, 1) := by decide +kernel
theorem dX11_year_60 : decode cX11_year 60 = .ok (.istore 4, 2) := by decide +kernel
theorem dX11_year_62 : decode cX11_year 62 = .ok (.iload 4, 2) := by decide +kernel
theorem dX11_year_64 : decode cX11_year 64 = .ok (.bipush 10, 2) := by decide +kernel
theorem dX11_year_66 : decode cX11_year 66 = .ok (.irem, 1) := by decide +kernel
theorem dX11_year_67 : decode cX11_year 67 = .ok (.istore 6, 2) := by decide +kernel
theorem dX11_year_69 : decode cX11_year 69 = .ok (.iload 4, 2) := by decide +kernel
theorem dX11_year_71 : decode cX11_year 71 = .ok (.bipush 10, 2) := by decide +kernel
theorem dX11_year_73 : decode cX11_year 73 = .ok (.idiv, 1) := by decide +kernel
theorem dX11_year_74 : decode cX11_year 74 = .ok (.bipush 8, 2) := by decide +kernel
theorem dX11_year_76 : decode cX11_year 76 = .ok (.irem, 1) := by decide +kernel
theorem dX11_year_77 : decode cX11_year 77 = .ok (.istore 7, 2) := by decide +kernel
theorem dX11_year_79 : decode cX11_year 79 = .ok (.iload 7, 2) := by decide +kernel
theorem dX11_year_81 : decode cX11_year 81 = .ok (.iconst 4, 1) := by decide +kernel
theorem dX11_year_82 : decode cX11_year 82 = .ok (.if_icmp .ge 17, 3) := by decide +kernel
theorem dX11_year_85 : decode cX11_year 85 = .ok (.aload_n 0, 1) := by decide +kernel
theorem dX11_year_86 : decode cX11_year 86 = .ok (.iload 6, 2) := by decide +kernel
theorem dX11_year_88 : decode cX11_year 88 = .ok (.iload 7, 2) := by decide +kernel
theorem dX11_year_90 : decode cX11_year 90 = .ok (.iconst 2, 1) := by decide +kernel
theorem dX11_year_91 : decode cX11_year 91 = .ok (.idiv, 1) := by decide +kernel
theorem dX11_year_92 : decode cX11_year 92 = .ok (.invokevirtual 102, 3) := by decide +kernel
theorem dX11_year_95 : decode cX11_year 95 = .ok (.pop, 1) := by decide +kernel
theorem dX11_year_96 : decode cX11_year 96 = .ok (.goto 50, 3) := by decide +kernel
theorem dX11_year_99 : decode cX11_year 99 = .ok (.iload 7, 2) := by decide +kernel
theorem dX11_year_101 : decode cX11_year 101 = .ok (.bipush 6, 2) := by decide +kernel
theorem dX11_year_103 : decode cX11_year 103 = .ok (.if_icmp .ge 13, 3) := by decide +kernel
theorem dX11_year_106 : decode cX11_year 106 = .ok (.aload_n 0, 1) := by decide +kernel
theorem dX11_year_107 : decode cX11_year 107 = .ok (.iload 6, 2) := by decide +kernel
theorem dX11_year_109 : decode cX11_year 109 = .ok (.invokevirtual 99, 3) := by decide +kernel
theorem dX11_year_112 : decode cX11_year 112 = .ok (.pop, 1) := by decide +kernel
theorem dX11_year_113 : decode cX11_year 113 = .ok (.goto 33, 3) := by decide +kernel
theorem dX11_year_116 : decode cX11_year 116 = .ok (.iload 7, 2) := by decide +kernel
theorem dX11_year_118 : decode cX11_year 118 = .ok (.bipush 6, 2) := by decide +kernel
theorem dX11_year_120 : decode cX11_year 120 = .ok (.if_icmp .ne 21, 3) := by decide +kernel
theorem dX11_year_123 : decode cX11_year 123 = .ok (.aload_n 0, 1) := by decide +kernel
theorem dX11_year_124 : decode cX11_year 124 = .ok (.iload 6, 2) := by decide +kernel
theorem dX11_year_126 : decode cX11_year 126 = .ok (.iload 4, 2) := by decide +kernel
theorem dX11_year_128 : decode cX11_year 128 = .ok (.bipush 80, 2) := by decide +kernel
theorem dX11_year_130 : decode cX11_year 130 = .ok (.idiv, 1) := by decide +kernel
theorem dX11_year_131 : decode cX11_year 131 = .ok (.bipush 10, 2) := by decide +kernel
theorem dX11_year_133 : decode cX11_year 133 = .ok (.irem, 1) := by decide +kernel
theorem dX11_year_134 : decode cX11_year 134 = .ok (.invokevirtual 95, 3) := by decide +kernel
theorem dX11_year_137 : decode cX11_year 137 = .ok (.pop, 1) := by decide +kernel
theorem dX11_year_138 : decode cX11_year 138 = .ok (.goto 8, 3) := by decide +kernel
theorem dX11_year_141 : decode cX11_year 141 = .ok (.aload_n 0, 1) := by decide +kernel
theorem dX11_year_142 : decode cX11_year 142 = .ok (.invokevirtual 89, 3) := by decide +kernel
theorem dX11_year_145 : decode cX11_year 145 = .ok (.pop, 1) := by decide +kernel
theorem dX11_year_146 : decode cX11_year 146 = .ok (.iinc 5 1, 3) := by decide +kernel
theorem dX11_year_149 : decode cX11_year 149 = .ok (.goto (-106), 3) := by decide +kernel
theorem dX11_year_152 : decode cX11_year 152 = .ok (.aload_n 0, 1) := by decide +kernel
theorem dX11_year_153 : decode cX11_year 153 = .ok (.invokevirtual 142, 3) := by decide +kernel
theorem dX11_year_156 : decode cX11_year 156 = .ok (.iload_n 3, 1) := by decide +kernel
theorem dX11_year_157 : decode cX11_year 157 = .ok (.ifCond .ne 21, 3) := by decide +kernel
theorem dX11_year_160 : decode cX11_year 160 = .ok (.aload_n 0, 1) := by decide +kernel
theorem dX11_year_161 : decode cX11_year 161 = .ok (.getfield 13, 3) := by decide +kernel
theorem dX11_year_164 : decode cX11_year 164 = .ok (.bipush 12, 2) := by decide +kernel
theorem dX11_year_166 : decode cX11_year 166 = .ok (.iaload, 1) := by decide +kernel
theorem dX11_year_167 : decode cX11_year 167 = .ok (.aload_n 0, 1) := by decide +kernel
theorem dX11_year_168 : decode cX11_year 168 = .ok (.getfield 13, 3) := by decide +kernel
theorem dX11_year_171 : decode cX11_year 171 = .ok (.bipush 13, 2) := by decide +kernel
theorem dX11_year_173 : decode cX11_year 173 = .ok (.iaload, 1) := by decide +kernel
theorem dX11_year_174 : decode cX11_year 174 = .ok (.iadd, 1) := by decide +kernel
theorem dX11_year_175 : decode cX11_year 175 = .ok (.goto 22, 3) := by decide +kernel
theorem dX11_year_178 : decode cX11_year 178 = .ok (.iload_n 3, 1) := by decide +kernel
theorem dX11_year_179 : decode cX11_year 179 = .ok (.iconst 1, 1) := by decide +kernel
theorem dX11_year_180 : decode cX11_year 180 = .ok (.if_icmp .ne 10, 3) := by decide +kernel
theorem dX11_year_183 : decode cX11_year 183 = .ok (.aload_n 0, 1) := by decide +kernel
theorem dX11_year_184 : decode cX11_year 184 = .ok (.getfield 126, 3) := by decide +kernel
theorem dX11_year_187 : decode cX11_year 187 = .ok (.goto 10, 3) := by decide +kernel
theorem dX11_year_190 : decode cX11_year 190 = .ok (.aload_n 0, 1) := by decide +kernel
theorem dX11_year_191 : decode cX11_year 191 = .ok (.getfield 13, 3) := by decide +kernel
theorem dX11_year_194 : decode cX11_year 194 = .ok (.bipush 14, 2) := by decide +kernel
theorem dX11_year_196 : decode cX11_year 196 = .ok (.iaload, 1) := by decide +kernel
theorem dX11_year_197 : decode cX11_year 197 = .ok (.ireturn, 1) := by decide +kernel
set_option maxRecDepth 20000 in
theorem ggX11_image_X11_in : GoodIn wsX11_image wsX11_in := goodIn_r _ [16] (by decide +kernel) (by decide +kernel)
set_option maxRecDepth 20000 in
theorem gX11_image_X11_in : GoodIn wsX11_image (va_wsS RX11 57 yX11_in wsX11_in) := goodIn_app (goodIn_of _ (by decide +kernel)) ggX11_image_X11_in
theorem dX11_image_0 : decode cX11_image 0 = .ok (.iload_n 1, 1) := by decide +kernel
theorem dX11_image_1 : decode cX11_image 1 = .ok (.iconst 0, 1) := by decide +kernel
theorem dX11_image_2 : decode cX11_image 2 = .ok (.iconst 1, 1) := by decide +kernel
theorem dX11_image_3 : decode cX11_image 3 = .ok (.invokestatic 57, 3) := by decide +kernel
theorem dX11_image_6 : decode cX11_image 6 = .ok (.ifCond .ne 6, 3) := by decide +kernel
theorem dX11_image_9 : decode cX11_image 9 = .ok (.bipush (-2), 2) := by decide +kernel
theorem dX11_image_11 : decode cX11_image 11 = .ok (.ireturn, 1) := by decide +kernel
theorem dX11_image_12 : decode cX11_image 12 = .ok (.bipush 100, 2) := by decide +kernel
theorem dX11_image_14 : decode cX11_image 14 = .ok (.iload_n 1, 1) := by decide +kernel
theorem dX11_image_15 : decode cX11_image 15 = .ok (.imul, 1) := by decide +kernel
theorem dX11_image_16 : decode cX11_image 16 = .ok (.istore_n 2, 1) := by decide +kernel
theorem dX11_image_17 : decode cX11_image 17 = .ok (.iconst 0, 1) := by decide +kernel
theorem dX11_image_18 : decode cX11_image 18 = .ok (.istore_n 3, 1) := by decide +kernel
theorem dX11_image_19 : decode cX11_image 19 = .ok (.iload_n 3, 1) := by decide +kernel
theorem dX11_image_20 : decode cX11_image 20 = .ok (.bipush 15, 2) := by decide +kernel
theorem dX11_image_22 : decode cX11_image 22 = .ok (.if_icmp .ge 23, 3) := by decide +kernel
theorem dX11_image_25 : decode cX11_image 25 = .ok (.aload_n 0, 1) := by decide +kernel
theorem dX11_image_26 : decode cX11_image 26 = .ok (.getfield 51, 3) := by decide +kernel
theorem dX11_image_29 : decode cX11_image 29 = .ok (.iload_n 2, 1) := by decide +kernel
theorem dX11_image_30 : decode cX11_image 30 = .ok (.iload_n 3, 1) := by decide +kernel
theorem dX11_image_31 : decode cX11_image 31 = .ok (.iadd, 1) := by decide +kernel
theorem dX11_image_32 : decode cX11_image 32 = .ok (.aload_n 0, 1) := by decide +kernel
theorem dX11_image_33 : decode cX11_image 33 = .ok (.getfield 7, 3) := by decide +kernel
theorem dX11_image_36 : decode cX11_image 36 = .ok (.iload_n 3, 1) := by decide +kernel
theorem dX11_image_37 : decode cX11_image 37 = .ok (.iaload, 1) := by decide +kernel
theorem dX11_image_38 : decode cX11_image 38 = .ok (.iastore, 1) := by decide +kernel
theorem dX11_image_39 : decode cX11_image 39 = .ok (.iinc 3 1, 3) := by decide +kernel
theorem dX11_image_42 : decode cX11_image 42 = .ok (.goto (-23), 3) := by decide +kernel
theorem dX11_image_45 : decode cX11_image 45 = .ok (.iconst 0, 1) := by decide +kernel
theorem dX11_image_46 : decode cX11_image 46 = .ok (.istore_n 3, 1) := by decide +kernel
theorem dX11_image_47 : decode cX11_image 47 = .ok (.iload_n 3, 1) := by decide +kernel
theorem dX11_image_48 : decode cX11_image 48 = .ok (.bipush 10, 2) := by decide +kernel
theorem dX11_image_50 : decode cX11_image 50 = .ok (.if_icmp .ge 77, 3) := by decide +kernel
theorem dX11_image_53 : decode cX11_image 53 = .ok (.aload_n 0, 1) := by decide +kernel
theorem dX11_image_54 : decode cX11_image 54 = .ok (.getfield 51, 3) := by decide +kernel
theorem dX11_image_57 : decode cX11_image 57 = .ok (.iload_n 2, 1) := by decide +kernel
theorem dX11_image_58 : decode cX11_image 58 = .ok (.bipush 15, 2) := by decide +kernel
theorem dX11_image_60 : decode cX11_image 60 = .ok (.iadd, 1) := by decide +kernel
theorem dX11_image_61 : decode cX11_image 61 = .ok (.iload_n 3, 1) := by decide +kernel
theorem dX11_image_62 : decode cX11_image 62 = .ok (.iadd, 1) := by decide +kernel
theorem dX11_image_63 : decode cX11_image 63 = .ok (.aload_n 0, 1) := by decide +kernel
theorem dX11_image_64 : decode cX11_image 64 = .ok (.getfield 16, 3) := by decide +kernel
theorem dX11_image_67 : decode cX11_image 67 = .ok (.iload_n 3, 1) := by decide +kernel
theorem dX11_image_68 : decode cX11_image 68 = .ok (.iaload, 1) := by decide +kernel
theorem dX11_image_69 : decode cX11_image 69 = .ok (.iastore, 1) := by decide +kernel
theorem dX11_image_70 : decode cX11_image 70 = .ok (.aload_n 0, 1) := by decide +kernel
theorem dX11_image_71 : decode cX11_image 71 = .ok (.getfield 51, 3) := by decide +kernel
theorem dX11_image_74 : decode cX11_image 74 = .ok (.iload_n 2, 1) := by decide +kernel
theorem dX11_image_75 : decode cX11_image 75 = .ok (.bipush 25, 2) := by decide +kernel
theorem dX11_image_77 : decode cX11_image 77 = .ok (.iadd, 1) := by decide +kernel
theorem dX11_image_78 : decode cX11_image 78 = .ok (.iload_n 3, 1) := by decide +kernel
theorem dX11_image_79 : decode cX11_image 79 = .ok (.iadd, 1) := by decide +kernel
theorem dX11_image_80 : decode cX11_image 80 = .ok (.aload_n 0, 1) := by decide +kernel
theorem dX11_image_81 : decode cX11_image 81 = .ok (.getfield 19, 3) := by decide +kernel
theorem dX11_image_84 : decode cX11_image 84 = .ok (.iload_n 3, 1) := by decide +kernel
theorem dX11_image_85 : decode cX11_image 85 = .ok (.iaload, 1) := by decide +kernel
theorem dX11_image_86 : decode cX11_image 86 = .ok (.iastore, 1) := by decide +kernel
theorem dX11_image_87 : decode cX11_image 87 = .ok (.aload_n 0, 1) := by decide +kernel
theorem dX11_image_88 : decode cX11_image 88 = .ok (.getfield 51, 3) := by decide +kernel
theorem dX11_image_91 : decode cX11_image 91 = .ok (.iload_n 2, 1) := by decide +kernel
theorem dX11_image_92 : decode cX11_image 92 = .ok (.bipush 35, 2) := by decide +kernel
theorem dX11_image_94 : decode cX11_image 94 = .ok (.iadd, 1) := by decide +kernel
theorem dX11_image_95 : decode cX11_image 95 = .ok (.iload_n 3, 1) := by decide +kernel
theorem dX11_image_96 : decode cX11_image 96 = .ok (.iadd, 1) := by decide +kernel
theorem dX11_image_97 : decode cX11_image 97 = .ok (.aload_n 0, 1) := by decide +kernel
theorem dX11_image_98 : decode cX11_image 98 = .ok (.getfield 28, 3) := by decide +kernel
theorem dX11_image_101 : decode cX11_image 101 = .ok (.iload_n 3, 1) := by decide +kernel
theorem dX11_image_102 : decode cX11_image 102 = .ok (.iaload, 1) := by decide +kernel
theorem dX11_image_103 : decode cX11_image 103 = .ok (.iastore, 1) := by decide +kernel
theorem dX11_image_104 : decode cX11_image 104 = .ok (.aload_n 0, 1) := by decide +kernel
theorem dX11_image_105 : decode cX11_image 105 = .ok (.getfield 51, 3) := by decide +kernel
theorem dX11_image_108 : decode cX11_image 108 = .ok (.iload_n 2, 1) := by decide +kernel
theorem dX11_image_109 : decode cX11_image 109 = .ok (.bipush 45, 2) := by decide +kernel
theorem dX11_image_111 : decode cX11_image 111 = .ok (.iadd, 1) := by decide +kernel
theorem dX11_image_112 : decode cX11_image 112 = .ok (.iload_n 3, 1) := by decide +kernel
theorem dX11_image_113 : decode cX11_image 113 = .ok (.iadd, 1) := by decide +kernel
theorem dX11_image_114 : decode cX11_image 114 = .ok (.aload_n 0, 1) := by decide +kernel
theorem dX11_image_115 : decode cX11_image 115 = .ok (.getfield 31, 3) := by decide +kernel
theorem dX11_image_118 : decode cX11_image 118 = .ok (.iload_n 3, 1) := by decide +kernel
theorem dX11_image_119 : decode cX11_image 119 = .ok (.iaload, 1) := by decide +kernel
theorem dX11_image_120 : decode cX11_image 120 = .ok (.iastore, 1) := by decide +kernel
theorem dX11_image_121 : decode cX11_image 121 = .ok (.iinc 3 1, 3) := by decide +kernel
theorem dX11_image_124 : decode cX11_image 124 = .ok (.goto (-77), 3) := by decide +kernel
theorem dX11_image_127 : decode cX11_image 127 = .ok (.iconst 0, 1) := by decide +kernel
theorem dX11_image_128 : decode cX11_image 128 = .ok (.istore_n 3, 1) := by decide +kernel
theorem dX11_image_129 : decode cX11_image 129 = .ok (.iload_n 3, 1) := by decide +kernel
theorem dX11_image_130 : decode cX11_image 130 = .ok (.bipush 17, 2) := by decide +kernel
theorem dX11_image_132 : decode cX11_image 132 = .ok (.if_icmp .ge 26, 3) := by decide +kernel
theorem dX11_image_135 : decode cX11_image 135 = .ok (.aload_n 0, 1) := by decide +kernel
theorem dX11_image_136 : decode cX11_image 136 = .ok (.getfield 51, 3) := by decide +kernel
theorem dX11_image_139 : decode cX11_image 139 = .ok (.iload_n 2, 1) := by decide +kernel
theorem dX11_image_140 : decode cX11_image 140 = .ok (.bipush 55, 2) := by decide +kernel
theorem dX11_image_142 : decode cX11_image 142 = .ok (.iadd, 1) := by decide +kernel
theorem dX11_image_143 : decode cX11_image 143 = .ok (.iload_n 3, 1) := by decide +kernel
theorem dX11_image_144 : decode cX11_image 144 = .ok (.iadd, 1) := by decide +kernel
theorem dX11_image_145 : decode cX11_image 145 = .ok (.aload_n 0, 1) := by decide +kernel
theorem dX11_image_146 : decode cX11_image 146 = .ok (.getfield 22, 3) := by decide +kernel
theorem dX11_image_149 : decode cX11_image 149 = .ok (.iload_n 3, 1) := by decide +kernel
theorem dX11_image_150 : decode cX11_image 150 = .ok (.iaload, 1) := by decide +kernel
theorem dX11_image_151 : decode cX11_image 151 = .ok (.iastore, 1) := by decide +kernel
theorem dX11_image_152 : decode cX11_image 152 = .ok (.iinc 3 1, 3) := by decide +kernel
theorem dX11_image_155 : decode cX11_image 155 = .ok (.goto (-26), 3) := by decide +kernel
theorem dX11_image_158 : decode cX11_image 158 = .ok (.iconst 0, 1) := by decide +kernel
theorem dX11_image_159 : decode cX11_image 159 = .ok (.istore_n 3, 1) := by decide +kernel
theorem dX11_image_160 : decode cX11_image 160 = .ok (.iload_n 3, 1) := by decide +kernel
theorem dX11_image_161 : decode cX11_image 161 = .ok (.bipush 16, 2) := by decide +kernel
theorem dX11_image_163 : decode cX11_image 163 = .ok (.if_icmp .ge 26, 3) := by decide +kernel
theorem dX11_image_166 : decode cX11_image 166 = .ok (.aload_n 0, 1) := by decide +kernel
theorem dX11_image_167 : decode cX11_image 167 = .ok (.getfield 51, 3) := by decide +kernel
theorem dX11_image_170 : decode cX11_image 170 = .ok (.iload_n 2, 1) := by decide +kernel
theorem dX11_image_171 : decode cX11_image 171 = .ok (.bipush 72, 2) := by decide +kernel
theorem dX11_image_173 : decode cX11_image 173 = .ok (.iadd, 1) := by decide +kernel
theorem dX11_image_174 : decode cX11_image 174 = .ok (.iload_n 3, 1) := by decide +kernel
theorem dX11_image_175 : decode cX11_image 175 = .ok (.iadd, 1) := by decide +kernel
theorem dX11_image_176 : decode cX11_image 176 = .ok (.aload_n 0, 1) := by decide +kernel
theorem dX11_image_177 : decode cX11_image 177 = .ok (.getfield 34, 3) := by decide +kernel
theorem dX11_image_180 : decode cX11_image 180 = .ok (.iload_n 3, 1) := by decide +kernel
theorem dX11_image_181 : decode cX11_image 181 = .ok (.iaload, 1) := by decide +kernel
theorem dX11_image_182 : decode cX11_image 182 = .ok (.iastore, 1) := by decide +kernel
theorem dX11_image_183 : decode cX11_image 183 = .ok (.iinc 3 1, 3) := by decide +kernel
theorem dX11_image_186 : decode cX11_image 186 = .ok (.goto (-26), 3) := by decide +kernel
theorem dX11_image_189 : decode cX11_image 189 = .ok (.aload_n 0, 1) := by decide +kernel
theorem dX11_image_190 : decode cX11_image 190 = .ok (.getfield 51, 3) := by decide +kernel
theorem dX11_image_193 : decode cX11_image 193 = .ok (.iload_n 2, 1) := by decide +kernel
theorem dX11_image_194 : decode cX11_image 194 = .ok (.bipush 90, 2) := by decide +kernel
theorem dX11_image_196 : decode cX11_image 196 = .ok (.iadd, 1) := by decide +kernel
theorem dX11_image_197 : decode cX11_image 197 = .ok (.aload_n 0, 1) := by decide +kernel
theorem dX11_image_198 : decode cX11_image 198 = .ok (.getfield 25, 3) := by decide +kernel
theorem dX11_image_201 : decode cX11_image 201 = .ok (.iconst 0, 1) := by decide +kernel
theorem dX11_image_202 : decode cX11_image 202 = .ok (.iaload, 1) := by decide +kernel
theorem dX11_image_203 : decode cX11_image 203 = .ok (.iastore, 1) := by decide +kernel
theorem dX11_image_204 : decode cX11_image 204 = .ok (.aload_n 0, 1) := by decide +kernel
theorem dX11_image_205 : decode cX11_image 205 = .ok (.getfield 51, 3) := by decide +kernel
theorem dX11_image_208 : decode cX11_image 208 = .ok (.iload_n 2, 1) := by decide +kernel
theorem dX11_image_209 : decode cX11_image 209 = .ok (.bipush 91, 2) := by decide +kernel
theorem dX11_image_211 : decode cX11_image 211 = .ok (.iadd, 1) := by decide +kernel
theorem dX11_image_212 : decode cX11_image 212 = .ok (.aload_n 0, 1) := by decide +kernel
theorem dX11_image_213 : decode cX11_image 213 = .ok (.getfield 25, 3) := by decide +kernel
theorem dX11_image_216 : decode cX11_image 216 = .ok (.iconst 1, 1) := by decide +kernel
theorem dX11_image_217 : decode cX11_image 217 = .ok (.iaload, 1) := by decide +kernel
theorem dX11_image_218 : decode cX11_image 218 = .ok (.iastore, 1) := by decide +kernel
theorem dX11_image_219 : decode cX11_image 219 = .ok (.aload_n 0, 1) := by decide +kernel
theorem dX11_image_220 : decode cX11_image 220 = .ok (.getfield 51, 3) := by decide +kernel
theorem dX11_image_223 : decode cX11_image 223 = .ok (.iload_n 2, 1) := by decide +kernel
theorem dX11_image_224 : decode cX11_image 224 = .ok (.bipush 92, 2) := by decide +kernel
theorem dX11_image_226 : decode cX11_image 226 = .ok (.iadd, 1) := by decide +kernel
theorem dX11_image_227 : decode cX11_image 227 = .ok (.aload_n 0, 1) := by decide +kernel
theorem dX11_image_228 : decode cX11_image 228 = .ok (.getfield 145, 3) := by decide +kernel
theorem dX11_image_231 : decode cX11_image 231 = .ok (.iastore, 1) := by decide +kernel
theorem dX11_image_232 : decode cX11_image 232 = .ok (.aload_n 0, 1) := by decide +kernel
theorem dX11_image_233 : decode cX11_image 233 = .ok (.getfield 51, 3) := by decide +kernel
theorem dX11_image_236 : decode cX11_image 236 = .ok (.iload_n 2, 1) := by decide +kernel
theorem dX11_image_237 : decode cX11_image 237 = .ok (.bipush 93, 2) := by decide +kernel
theorem dX11_image_239 : decode cX11_image 239 = .ok (.iadd, 1) := by decide +kernel
theorem dX11_image_240 : decode cX11_image 240 = .ok (.aload_n 0, 1) := by decide +kernel
theorem dX11_image_241 : decode cX11_image 241 = .ok (.getfield 177, 3) := by decide +kernel
theorem dX11_image_244 : decode cX11_image 244 = .ok (.iastore, 1) := by decide +kernel
theorem dX11_image_245 : decode cX11_image 245 = .ok (.aload_n 0, 1) := by decide +kernel
theorem dX11_image_246 : decode cX11_image 246 = .ok (.getfield 54, 3) := by decide +kernel
theorem dX11_image_249 : decode cX11_image 249 = .ok (.iload_n 1, 1) := by decide +kernel
theorem dX11_image_250 : decode cX11_image 250 = .ok (.iconst 1, 1) := by decide +kernel
theorem dX11_image_251 : decode cX11_image 251 = .ok (.bastore, 1) := by decide +kernel
theorem dX11_image_252 : decode cX11_image 252 = .ok (.iconst 1, 1) := by decide +kernel
theorem dX11_image_253 : decode cX11_image 253 = .ok (.ireturn, 1) := by decide +kernel
set_option maxRecDepth 20000 in
theorem ggX11_restore_X11_in : GoodIn wsX11_restore wsX11_in := goodIn_r _ [16] (by decide +kernel) (by decide +kernel)
set_option maxRecDepth 20000 in
theorem gX11_restore_X11_in : GoodIn wsX11_restore (va_wsS RX11 57 yX11_in wsX11_in) := goodIn_app (goodIn_of _ (by decide +kernel)) ggX11_restore_X11_in
theorem dX11_restore_0 : decode cX11_restore 0 = .ok (.iload_n 1, 1) := by decide +kernel
theorem dX11_restore_1 : decode cX11_restore 1 = .ok (.iconst 0, 1) := by decide +kernel
theorem dX11_restore_2 : decode cX11_restore 2 = .ok (.iconst 1, 1) := by decide +kernel
theorem dX11_restore_3 : decode cX11_restore 3 = .ok (.invokestatic 57, 3) := by decide +kernel
theorem dX11_restore_6 : decode cX11_restore 6 = .ok (.ifCond .ne 6, 3) := by decide +kernel
theorem dX11_restore_9 : decode cX11_restore 9 = .ok (.bipush (-2), 2) := by decide +kernel
theorem dX11_restore_11 : decode cX11_restore 11 = .ok (.ireturn, 1) := by decide +kernel
theorem dX11_restore_12 : decode cX11_restore 12 = .ok (.aload_n 0, 1) := by decide +kernel
theorem dX11_restore_13 : decode cX11_restore 13 = .ok (.getfield 54, 3) := by decide +kernel
theorem dX11_restore_16 : decode cX11_restore 16 = .ok (.iload_n 1, 1) := by decide +kernel
theorem dX11_restore_17 : decode cX11_restore 17 = .ok (.baload, 1) := by decide +kernel
theorem dX11_restore_18 : decode cX11_restore 18 = .ok (.ifCond .ne 6, 3) := by decide +kernel
theorem dX11_restore_21 : decode cX11_restore 21 = .ok (.bipush (-3), 2) := by decide +kernel
theorem dX11_restore_23 : decode cX11_restore 23 = .ok (.ireturn, 1) := by decide +kernel
theorem dX11_restore_24 : decode cX11_restore 24 = .ok (.bipush 100, 2) := by decide +kernel
theorem dX11_restore_26 : decode cX11_restore 26 = .ok (.iload_n 1, 1) := by decide +kernel
theorem dX11_restore_27 : decode cX11_restore 27 = .ok (.imul, 1) := by decide +kernel
theorem dX11_restore_28 : decode cX11_restore 28 = .ok (.istore_n 2, 1) := by decide +kernel
theorem dX11_restore_29 : decode cX11_restore 29 = .ok (.iconst 0, 1) := by decide +kernel
theorem dX11_restore_30 : decode cX11_restore 30 = .ok (.istore_n 3, 1) := by decide +kernel
theorem dX11_restore_31 : decode cX11_restore 31 = .ok (.iload_n 3, 1) := by decide +kernel
theorem dX11_restore_32 : decode cX11_restore 32 = .ok (.bipush 15, 2) := by decide +kernel
theorem dX11_restore_34 : decode cX11_restore 34 = .ok (.if_icmp .ge 23, 3) := by decide +kernel
theorem dX11_restore_37 : decode cX11_restore 37 = .ok (.aload_n 0, 1) := by decide +kernel
theorem dX11_restore_38 : decode cX11_restore 38 = .ok (.getfield 7, 3) := by decide +kernel
theorem dX11_restore_41 : decode cX11_restore 41 = .ok (.iload_n 3, 1) := by decide +kernel
theorem dX11_restore_42 : decode cX11_restore 42 = .ok (.aload_n 0, 1) := by decide +kernel
theorem dX11_restore_43 : decode cX11_restore 43 = .ok (.getfield 51, 3) := by decide +kernel
theorem dX11_restore_46 : decode cX11_restore 46 = .ok (.iload_n 2, 1) := by decide +kernel
theorem dX11_restore_47 : decode cX11_restore 47 = .ok (.iload_n 3, 1) := by decide +kernel
theorem dX11_restore_48 : decode cX11_restore 48 = .ok (.iadd, 1) := by decide +kernel
theorem dX11_restore_49 : decode cX11_restore 49 = .ok (.iaload, 1) := by decide +kernel
theorem dX11_restore_50 : decode cX11_restore 50 = .ok (.iastore, 1) := by decide +kernel
theorem dX11_restore_51 : decode cX11_restore 51 = .ok (.iinc 3 1, 3) := by decide +kernel
theorem dX11_restore_54 : decode cX11_restore 54 = .ok (.goto (-23), 3) := by decide +kernel
theorem dX11_restore_57 : decode cX11_restore 57 = .ok (.iconst 0, 1) := by decide +kernel
theorem dX11_restore_58 : decode cX11_restore 58 = .ok (.istore_n 3, 1) := by decide +kernel
theorem dX11_restore_59 : decode cX11_restore 59 = .ok (.iload_n 3, 1) := by decide +kernel
theorem dX11_restore_60 : decode cX11_restore 60 = .ok (.bipush 10, 2) := by decide +kernel
theorem dX11_restore_62 : decode cX11_restore 62 = .ok (.if_icmp .ge 77, 3) := by decide +kernel
theorem dX11_restore_65 : decode cX11_restore 65 = .ok (.aload_n 0, 1) := by decide +kernel
theorem dX11_restore_66 : decode cX11_restore 66 = .ok (.getfield 16, 3) := by decide +kernel
theorem dX11_restore_69 : decode cX11_restore 69 = .ok (.iload_n 3, 1) := by decide +kernel
theorem dX11_restore_70 : decode cX11_restore 70 = .ok (.aload_n 0, 1) := by decide +kernel
theorem dX11_restore_71 : decode cX11_restore 71 = .ok (.getfield 51, 3) := by decide +kernel
theorem dX11_restore_74 : decode cX11_restore 74 = .ok (.iload_n 2, 1) := by decide +kernel
theorem dX11_restore_75 : decode cX11_restore 75 = .ok (.bipush 15, 2) := by decide +kernel
theorem dX11_restore_77 : decode cX11_restore 77 = .ok (.iadd, 1) := by decide +kernel
theorem dX11_restore_78 : decode cX11_restore 78 = .ok (.iload_n 3, 1) := by decide +kernel
theorem dX11_restore_79 : decode cX11_restore 79 = .ok (.iadd, 1) := by decide +kernel
theorem dX11_restore_80 : decode cX11_restore 80 = .ok (.iaload, 1) := by decide +kernel
theorem dX11_restore_81 : decode cX11_restore 81 = .ok (.iastore, 1) := by decide +kernel
theorem dX11_restore_82 : decode cX11_restore 82 = .ok (.aload_n 0, 1) := by decide +kernel
theorem dX11_restore_83 : decode cX11_restore 83 = .ok (.getfield 19, 3) := by decide +kernel
theorem dX11_restore_86 : decode cX11_restore 86 = .ok (.iload_n 3, 1) := by decide +kernel
theorem dX11_restore_87 : decode cX11_restore 87 = .ok (.aload_n 0, 1) := by decide +kernel
theorem dX11_restore_88 : decode cX11_restore 88 = .ok (.getfield 51, 3) := by decide +kernel
theorem dX11_restore_91 : decode cX11_restore 91 = .ok (.iload_n 2, 1) := by decide +kernel
theorem dX11_restore_92 : decode cX11_restore 92 = .ok (.bipush 25, 2) := by decide +kernel
theorem dX11_restore_94 : decode cX11_restore 94 = .ok (.iadd, 1) := by decide +kernel
theorem dX11_restore_95 : decode cX11_restore 95 = .ok (.iload_n 3, 1) := by decide +kernel
theorem dX11_restore_96 : decode cX11_restore 96 = .ok (.iadd, 1) := by decide +kernel
theorem dX11_restore_97 : decode cX11_restore 97 = .ok (.iaload, 1) := by decide +kernel
theorem dX11_restore_98 : decode cX11_restore 98 = .ok (.iastore, 1) := by decide +kernel
theorem dX11_restore_99 : decode cX11_restore 99 = .ok (.aload_n 0, 1) := by decide +kernel
theorem dX11_restore_100 : decode cX11_restore 100 = .ok (.getfield 28, 3) := by decide +kernel
theorem dX11_restore_103 : decode cX11_restore 103 = .ok (.iload_n 3, 1) := by decide +kernel
theorem dX11_restore_104 : decode cX11_restore 104 = .ok (.aload_n 0, 1) := by decide +kernel
theorem dX11_restore_105 : decode cX11_restore 105 = .ok (.getfield 51, 3) := by decide +kernel
theorem dX11_restore_108 : decode cX11_restore 108 = .ok (.iload_n 2, 1) := by decide +kernel
theorem dX11_restore_109 : decode cX11_restore 109 = .ok (.bipush 35, 2) := by decide +kernel
theorem dX11_restore_111 : decode cX11_restore 111 = .ok (.iadd, 1) := by decide +kernel
theorem dX11_restore_112 : decode cX11_restore 112 = .ok (.iload_n 3, 1) := by decide +kernel
theorem dX11_restore_113 : decode cX11_restore 113 = .ok (.iadd, 1) := by decide +kernel
theorem dX11_restore_114 : decode cX11_restore 114 = .ok (.iaload, 1) := by decide +kernel
theorem dX11_restore_115 : decode cX11_restore 115 = .ok (.iastore, 1) := by decide +kernel
theorem dX11_restore_116 : decode cX11_restore 116 = .ok (.aload_n 0, 1) := by decide +kernel
theorem dX11_restore_117 : decode cX11_restore 117 = .ok (.getfield 31, 3) := by decide +kernel
theorem dX11_restore_120 : decode cX11_restore 120 = .ok (.iload_n 3, 1) := by decide +kernel
theorem dX11_restore_121 : decode cX11_restore 121 = .ok (.aload_n 0, 1) := by decide +kernel
theorem dX11_restore_122 : decode cX11_restore 122 = .ok (.getfield 51, 3) := by decide +kernel
theorem dX11_restore_125 : decode cX11_restore 125 = .ok (.iload_n 2, 1) := by decide +kernel
theorem dX11_restore_126 : decode cX11_restore 126 = .ok (.bipush 45, 2) := by decide +kernel
theorem dX11_restore_128 : decode cX11_restore 128 = .ok (.iadd, 1) := by decide +kernel
theorem dX11_restore_129 : decode cX11_restore 129 = .ok (.iload_n 3, 1) := by decide +kernel
theorem dX11_restore_130 : decode cX11_restore 130 = .ok (.iadd, 1) := by decide +kernel
theorem dX11_restore_131 : decode cX11_restore 131 = .ok (.iaload, 1) := by decide +kernel
theorem dX11_restore_132 : decode cX11_restore 132 = .ok (.iastore, 1) := by decide +kernel
theorem dX11_restore_133 : decode cX11_restore 133 = .ok (.iinc 3 1, 3) := by decide +kernel
theorem dX11_restore_136 : decode cX11_restore 136 = .ok (.goto (-77), 3) := by decide +kernel
theorem dX11_restore_139 : decode cX11_restore 139 = .ok (.iconst 0, 1) := by decide +kernel
theorem dX11_restore_140 : decode cX11_restore 140 = .ok (.istore_n 3, 1) := by decide +kernel
theorem dX11_restore_141 : decode cX11_restore 141 = .ok (.iload_n 3, 1) := by decide +kernel
theorem dX11_restore_142 : decode cX11_restore 142 = .ok (.bipush 17, 2) := by decide +kernel
theorem dX11_restore_144 : decode cX11_restore 144 = .ok (.if_icmp .ge 26, 3) := by decide +kernel
theorem dX11_restore_147 : decode cX11_restore 147 = .ok (.aload_n 0, 1) := by decide +kernel
theorem dX11_restore_148 : decode cX11_restore 148 = .ok (.getfield 22, 3) := by decide +kernel
theorem dX11_restore_151 : decode cX11_restore 151 = .ok (.iload_n 3, 1) := by decide +kernel
theorem dX11_restore_152 : decode cX11_restore 152 = .ok (.aload_n 0, 1) := by decide +kernel
theorem dX11_restore_153 : decode cX11_restore 153 = .ok (.getfield 51, 3) := by decide +kernel
theorem dX11_restore_156 : decode cX11_restore 156 = .ok (.iload_n 2, 1) := by decide +kernel
theorem dX11_restore_157 : decode cX11_restore 157 = .ok (.bipush 55, 2) := by decide +kernel
theorem dX11_restore_159 : decode cX11_restore 159 = .ok (.iadd, 1) := by decide +kernel
theorem dX11_restore_160 : decode cX11_restore 160 = .ok (.iload_n 3, 1) := by decide +kernel
theorem dX11_restore_161 : decode cX11_restore 161 = .ok (.iadd, 1) := by decide +kernel
theorem dX11_restore_162 : decode cX11_restore 162 = .ok (.iaload, 1) := by decide +kernel
theorem dX11_restore_163 : decode cX11_restore 163 = .ok (.iastore, 1) := by decide +kernel
theorem dX11_restore_164 : decode cX11_restore 164 = .ok (.iinc 3 1, 3) := by decide +kernel
theorem dX11_restore_167 : decode cX11_restore 167 = .ok (.goto (-26), 3) := by decide +kernel
theorem dX11_restore_170 : decode cX11_restore 170 = .ok (.iconst 0, 1) := by decide +kernel
theorem dX11_restore_171 : decode cX11_restore 171 = .ok (.istore_n 3, 1) := by decide +kernel
theorem dX11_restore_172 : decode cX11_restore 172 = .ok (.iload_n 3, 1) := by decide +kernel
theorem dX11_restore_173 : decode cX11_restore 173 = .ok (.bipush 16, 2) := by decide +kernel
theorem dX11_restore_175 : decode cX11_restore 175 = .ok (.if_icmp .ge 26, 3) := by decide +kernel
theorem dX11_restore_178 : decode cX11_restore 178 = .ok (.aload_n 0, 1) := by decide +kernel
theorem dX11_restore_179 : decode cX11_restore 179 = .ok (.getfield 34, 3) := by decide +kernel
theorem dX11_restore_182 : decode cX11_restore 182 = .ok (.iload_n 3, 1) := by decide +kernel
theorem dX11_restore_183 : decode cX11_restore 183 = .ok (.aload_n 0, 1) := by decide +kernel
theorem dX11_restore_184 : decode cX11_restore 184 = .ok (.getfield 51, 3) := by decide +kernel
theorem dX11_restore_187 : decode cX11_restore 187 = .ok (.iload_n 2, 1) := by decide +kernel
theorem dX11_restore_188 : decode cX11_restore 188 = .ok (.bipush 72, 2) := by decide +kernel
theorem dX11_restore_190 : decode cX11_restore 190 = .ok (.iadd, 1) := by decide +kernel
theorem dX11_restore_191 : decode cX11_restore 191 = .ok (.iload_n 3, 1) := by decide +kernel
theorem dX11_restore_192 : decode cX11_restore 192 = .ok (.iadd, 1) := by decide +kernel
theorem dX11_restore_193 : decode cX11_restore 193 = .ok (.iaload, 1) := by decide +kernel
theorem dX11_restore_194 : decode cX11_restore 194 = .ok (.iastore, 1) := by decide +kernel
theorem dX11_restore_195 : decode cX11_restore 195 = .ok (.iinc 3 1, 3) := by decide +kernel
theorem dX11_restore_198 : decode cX11_restore 198 = .ok (.goto (-26), 3) := by decide +kernel
theorem dX11_restore_201 : decode cX11_restore 201 = .ok (.aload_n 0, 1) := by decide +kernel
theorem dX11_restore_202 : decode cX11_restore 202 = .ok (.getfield 25, 3) := by decide +kernel
theorem dX11_restore_205 : decode cX11_restore 205 = .ok (.iconst 0, 1) := by decide +kernel
theorem dX11_restore_206 : decode cX11_restore 206 = .ok (.aload_n 0, 1) := by decide +kernel
theorem dX11_restore_207 : decode cX11_restore 207 = .ok (.getfield 51, 3) := by decide +kernel
theorem dX11_restore_210 : decode cX11_restore 210 = .ok (.iload_n 2, 1) := by decide +kernel
theorem dX11_restore_211 : decode cX11_restore 211 = .ok (.bipush 90, 2) := by decide +kernel
theorem dX11_restore_213 : decode cX11_restore 213 = .ok (.iadd, 1) := by decide +kernel
theorem dX11_restore_214 : decode cX11_restore 214 = .ok (.iaload, 1) := by decide +kernel
theorem dX11_restore_215 : decode cX11_restore 215 = .ok (.iastore, 1) := by decide +kernel
theorem dX11_restore_216 : decode cX11_restore 216 = .ok (.aload_n 0, 1) := by decide +kernel
theorem dX11_restore_217 : decode cX11_restore 217 = .ok (.getfield 25, 3) := by decide +kernel
theorem dX11_restore_220 : decode cX11_restore 220 = .ok (.iconst 1, 1) := by decide +kernel
theorem dX11_restore_221 : decode cX11_restore 221 = .ok (.aload_n 0, 1) := by decide +kernel
theorem dX11_restore_222 : decode cX11_restore 222 = .ok (.getfield 51, 3) := by decide +kernel
theorem dX11_restore_225 : decode cX11_restore 225 = .ok (.iload_n 2, 1) := by decide +kernel
theorem dX11_restore_226 : decode cX11_restore 226 = .ok (.bipush 91, 2) := by decide +kernel
theorem dX11_restore_228 : decode cX11_restore 228 = .ok (.iadd, 1) := by decide +kernel
theorem dX11_restore_229 : decode cX11_restore 229 = .ok (.iaload, 1) := by decide +kernel
theorem dX11_restore_230 : decode cX11_restore 230 = .ok (.iastore, 1) := by decide +kernel
theorem dX11_restore_231 : decode cX11_restore 231 = .ok (.aload_n 0, 1) := by decide +kernel
theorem dX11_restore_232 : decode cX11_restore 232 = .ok (.aload_n 0, 1) := by decide +kernel
theorem dX11_restore_233 : decode cX11_restore 233 = .ok (.getfield 51, 3) := by decide +kernel
theorem dX11_restore_236 : decode cX11_restore 236 = .ok (.iload_n 2, 1) := by decide +kernel
theorem dX11_restore_237 : decode cX11_restore 237 = .ok (.bipush 92, 2) := by decide +kernel
theorem dX11_restore_239 : decode cX11_restore 239 = .ok (.iadd, 1) := by decide +kernel
theorem dX11_restore_240 : decode cX11_restore 240 = .ok (.iaload, 1) := by decide +kernel
theorem dX11_restore_241 : decode cX11_restore 241 = .ok (.putfield 145, 3) := by decide +kernel
theorem dX11_restore_244 : decode cX11_restore 244 = .ok (.aload_n 0, 1) := by decide +kernel
theorem dX11_restore_245 : decode cX11_restore 245 = .ok (.aload_n 0, 1) := by decide +kernel
theorem dX11_restore_246 : decode cX11_restore 246 = .ok (.getfield 51, 3) := by decide +kernel
theorem dX11_restore_249 : decode cX11_restore 249 = .ok (.iload_n 2, 1) := by decide +kernel
theorem dX11_restore_250 : decode cX11_restore 250 = .ok (.bipush 93, 2) := by decide +kernel
theorem dX11_restore_252 : decode cX11_restore 252 = .ok (.iadd, 1) := by decide +kernel
theorem dX11_restore_253 : decode cX11_restore 253 = .ok (.iaload, 1) := by decide +kernel
theorem dX11_restore_254 : decode cX11_restore 254 = .ok (.putfield 177, 3) := by decide +kernel
theorem dX11_restore_257 : decode cX11_restore 257 = .ok (.iconst 1, 1) := by decide +kernel
theorem dX11_restore_258 : decode cX11_restore 258 = .ok (.ireturn, 1) := by decide +kernel
set_option maxRecDepth 20000 in
theorem ggX11_told_X11_isRow : GoodIn wsX11_told wsX11_isRow := goodIn_r _ [12] (by decide +kernel) (by decide +kernel)
set_option maxRecDepth 20000 in
theorem gX11_told_X11_isRow : GoodIn wsX11_told (va_wsS RX11 65 yX11_isRow wsX11_isRow) := goodIn_app (goodIn_of _ (by decide +kernel)) ggX11_told_X11_isRow
set_option maxRecDepth 20000 in
theorem ggX11_told_X11_isMember : GoodIn wsX11_told wsX11_isMember := goodIn_r _ [15, 16, 17, 11, 18] (by decide +kernel) (by decide +kernel)
set_option maxRecDepth 20000 in
theorem gX11_told_X11_isMember : GoodIn wsX11_told (va_wsS RX11 61 yX11_isMember wsX11_isMember) := goodIn_app (goodIn_of _ (by decide +kernel)) ggX11_told_X11_isMember
set_option maxRecDepth 20000 in
theorem ggX11_told_X11_in : GoodIn wsX11_told wsX11_in := goodIn_r _ [18] (by decide +kernel) (by decide +kernel)
set_option maxRecDepth 20000 in
theorem gX11_told_X11_in : GoodIn wsX11_told (va_wsS RX11 57 yX11_in wsX11_in) := goodIn_app (goodIn_of _ (by decide +kernel)) ggX11_told_X11_in
theorem dX11_told_0 : decode cX11_told 0 = .ok (.iload_n 1, 1) := by decide +kernel
theorem dX11_told_1 : decode cX11_told 1 = .ok (.bipush 80, 2) := by decide +kernel
theorem dX11_told_3 : decode cX11_told 3 = .ok (.if_icmp .lt 63, 3) := by decide +kernel
theorem dX11_told_6 : decode cX11_told 6 = .ok (.iload_n 1, 1) := by decide +kernel
theorem dX11_told_7 : decode cX11_told 7 = .ok (.bipush 10, 2) := by decide +kernel
theorem dX11_told_9 : decode cX11_told 9 = .ok (.idiv, 1) := by decide +kernel
theorem dX11_told_10 : decode cX11_told 10 = .ok (.bipush 8, 2) := by decide +kernel
theorem dX11_told_12 : decode cX11_told 12 = .ok (.isub, 1) := by decide +kernel
theorem dX11_told_13 : decode cX11_told 13 = .ok (.istore_n 2, 1) := by decide +kernel
theorem dX11_told_14 : decode cX11_told 14 = .ok (.iload_n 1, 1) := by decide +kernel
theorem dX11_told_15 : decode cX11_told 15 = .ok (.bipush 10, 2) := by decide +kernel
theorem dX11_told_17 : decode cX11_told 17 = .ok (.irem, 1) := by decide +kernel
theorem dX11_told_18 : decode cX11_told 18 = .ok (.istore_n 3, 1) := by decide +kernel
theorem dX11_told_19 : decode cX11_told 19 = .ok (.iload_n 2, 1) := by decide +kernel
theorem dX11_told_20 : decode cX11_told 20 = .ok (.invokestatic 65, 3) := by decide +kernel
theorem dX11_told_23 : decode cX11_told 23 = .ok (.ifCond .eq 8, 3) := by decide +kernel
theorem dX11_told_26 : decode cX11_told 26 = .ok (.iload_n 3, 1) := by decide +kernel
theorem dX11_told_27 : decode cX11_told 27 = .ok (.iconst 5, 1) := by decide +kernel
theorem dX11_told_28 : decode cX11_told 28 = .ok (.if_icmp .le 8, 3) := by decide +kernel
theorem dX11_told_31 : decode cX11_told 31 = .ok (.bipush (-2), 2) := by decide +kernel
theorem dX11_told_33 : decode cX11_told 33 = .ok (.goto 32, 3) := by decide +kernel
theorem dX11_told_36 : decode cX11_told 36 = .ok (.iload_n 3, 1) := by decide +kernel
theorem dX11_told_37 : decode cX11_told 37 = .ok (.aload_n 0, 1) := by decide +kernel
theorem dX11_told_38 : decode cX11_told 38 = .ok (.getfield 7, 3) := by decide +kernel
theorem dX11_told_41 : decode cX11_told 41 = .ok (.bipush 12, 2) := by decide +kernel
theorem dX11_told_43 : decode cX11_told 43 = .ok (.iload_n 2, 1) := by decide +kernel
theorem dX11_told_44 : decode cX11_told 44 = .ok (.iadd, 1) := by decide +kernel
theorem dX11_told_45 : decode cX11_told 45 = .ok (.iaload, 1) := by decide +kernel
theorem dX11_told_46 : decode cX11_told 46 = .ok (.if_icmp .ge 17, 3) := by decide +kernel
theorem dX11_told_49 : decode cX11_told 49 = .ok (.aload_n 0, 1) := by decide +kernel
theorem dX11_told_50 : decode cX11_told 50 = .ok (.getfield 7, 3) := by decide +kernel
theorem dX11_told_53 : decode cX11_told 53 = .ok (.bipush 6, 2) := by decide +kernel
theorem dX11_told_55 : decode cX11_told 55 = .ok (.iload_n 2, 1) := by decide +kernel
theorem dX11_told_56 : decode cX11_told 56 = .ok (.imul, 1) := by decide +kernel
theorem dX11_told_57 : decode cX11_told 57 = .ok (.iload_n 3, 1) := by decide +kernel
theorem dX11_told_58 : decode cX11_told 58 = .ok (.iadd, 1) := by decide +kernel
theorem dX11_told_59 : decode cX11_told 59 = .ok (.iaload, 1) := by decide +kernel
theorem dX11_told_60 : decode cX11_told 60 = .ok (.goto 5, 3) := by decide +kernel
theorem dX11_told_63 : decode cX11_told 63 = .ok (.bipush (-6), 2) := by decide +kernel
theorem dX11_told_65 : decode cX11_told 65 = .ok (.ireturn, 1) := by decide +kernel
theorem dX11_told_66 : decode cX11_told 66 = .ok (.iload_n 1, 1) := by decide +kernel
theorem dX11_told_67 : decode cX11_told 67 = .ok (.bipush 60, 2) := by decide +kernel
theorem dX11_told_69 : decode cX11_told 69 = .ok (.if_icmp .lt 28, 3) := by decide +kernel
theorem dX11_told_72 : decode cX11_told 72 = .ok (.iload_n 1, 1) := by decide +kernel
theorem dX11_told_73 : decode cX11_told 73 = .ok (.bipush 60, 2) := by decide +kernel
theorem dX11_told_75 : decode cX11_told 75 = .ok (.isub, 1) := by decide +kernel
theorem dX11_told_76 : decode cX11_told 76 = .ok (.invokestatic 61, 3) := by decide +kernel
theorem dX11_told_79 : decode cX11_told 79 = .ok (.ifCond .eq 15, 3) := by decide +kernel
theorem dX11_told_82 : decode cX11_told 82 = .ok (.aload_n 0, 1) := by decide +kernel
theorem dX11_told_83 : decode cX11_told 83 = .ok (.getfield 19, 3) := by decide +kernel
theorem dX11_told_86 : decode cX11_told 86 = .ok (.iload_n 1, 1) := by decide +kernel
theorem dX11_told_87 : decode cX11_told 87 = .ok (.bipush 60, 2) := by decide +kernel
theorem dX11_told_89 : decode cX11_told 89 = .ok (.isub, 1) := by decide +kernel
theorem dX11_told_90 : decode cX11_told 90 = .ok (.iaload, 1) := by decide +kernel
theorem dX11_told_91 : decode cX11_told 91 = .ok (.goto 5, 3) := by decide +kernel
theorem dX11_told_94 : decode cX11_told 94 = .ok (.bipush (-2), 2) := by decide +kernel
theorem dX11_told_96 : decode cX11_told 96 = .ok (.ireturn, 1) := by decide +kernel
theorem dX11_told_97 : decode cX11_told 97 = .ok (.iload_n 1, 1) := by decide +kernel
theorem dX11_told_98 : decode cX11_told 98 = .ok (.bipush 40, 2) := by decide +kernel
theorem dX11_told_100 : decode cX11_told 100 = .ok (.if_icmp .lt 28, 3) := by decide +kernel
theorem dX11_told_103 : decode cX11_told 103 = .ok (.iload_n 1, 1) := by decide +kernel
theorem dX11_told_104 : decode cX11_told 104 = .ok (.bipush 40, 2) := by decide +kernel
theorem dX11_told_106 : decode cX11_told 106 = .ok (.isub, 1) := by decide +kernel
theorem dX11_told_107 : decode cX11_told 107 = .ok (.invokestatic 61, 3) := by decide +kernel
theorem dX11_told_110 : decode cX11_told 110 = .ok (.ifCond .eq 15, 3) := by decide +kernel
theorem dX11_told_113 : decode cX11_told 113 = .ok (.aload_n 0, 1) := by decide +kernel
theorem dX11_told_114 : decode cX11_told 114 = .ok (.getfield 16, 3) := by decide +kernel
theorem dX11_told_117 : decode cX11_told 117 = .ok (.iload_n 1, 1) := by decide +kernel
theorem dX11_told_118 : decode cX11_told 118 = .ok (.bipush 40, 2) := by decide +kernel
theorem dX11_told_120 : decode cX11_told 120 = .ok (.isub, 1) := by decide +kernel
theorem dX11_told_121 : decode cX11_told 121 = .ok (.iaload, 1) := by decide +kernel
theorem dX11_told_122 : decode cX11_told 122 = .ok (.goto 5, 3) := by decide +kernel
theorem dX11_told_125 : decode cX11_told 125 = .ok (.bipush (-2), 2) := by decide +kernel
theorem dX11_told_127 : decode cX11_told 127 = .ok (.ireturn, 1) := by decide +kernel
theorem dX11_told_128 : decode cX11_told 128 = .ok (.iload_n 1, 1) := by decide +kernel
theorem dX11_told_129 : decode cX11_told 129 = .ok (.bipush 20, 2) := by decide +kernel
theorem dX11_told_131 : decode cX11_told 131 = .ok (.if_icmp .lt 29, 3) := by decide +kernel
theorem dX11_told_134 : decode cX11_told 134 = .ok (.iload_n 1, 1) := by decide +kernel
theorem dX11_told_135 : decode cX11_told 135 = .ok (.bipush 20, 2) := by decide +kernel
theorem dX11_told_137 : decode cX11_told 137 = .ok (.bipush 36, 2) := by decide +kernel
theorem dX11_told_139 : decode cX11_told 139 = .ok (.invokestatic 57, 3) := by decide +kernel
theorem dX11_told_142 : decode cX11_told 142 = .ok (.ifCond .eq 15, 3) := by decide +kernel
theorem dX11_told_145 : decode cX11_told 145 = .ok (.aload_n 0, 1) := by decide +kernel
theorem dX11_told_146 : decode cX11_told 146 = .ok (.getfield 22, 3) := by decide +kernel
theorem dX11_told_149 : decode cX11_told 149 = .ok (.iload_n 1, 1) := by decide +kernel
theorem dX11_told_150 : decode cX11_told 150 = .ok (.bipush 20, 2) := by decide +kernel
theorem dX11_told_152 : decode cX11_told 152 = .ok (.isub, 1) := by decide +kernel
theorem dX11_told_153 : decode cX11_told 153 = .ok (.iaload, 1) := by decide +kernel
theorem dX11_told_154 : decode cX11_told 154 = .ok (.goto 5, 3) := by decide +kernel
theorem dX11_told_157 : decode cX11_told 157 = .ok (.bipush (-2), 2) := by decide +kernel
theorem dX11_told_159 : decode cX11_told 159 = .ok (.ireturn, 1) := by decide +kernel
theorem dX11_told_160 : decode cX11_told 160 = .ok (.iload_n 1, 1) := by decide +kernel
theorem dX11_told_161 : decode cX11_told 161 = .ok (.tableswitch 78 0 5 #[39, 44, 52, 60, 68, 73], 39) := by decide +kernel
theorem dX11_told_200 : decode cX11_told 200 = .ok (.aload_n 0, 1) := by decide +kernel
theorem dX11_told_201 : decode cX11_told 201 = .ok (.getfield 68, 3) := by decide +kernel
theorem dX11_told_204 : decode cX11_told 204 = .ok (.ireturn, 1) := by decide +kernel
theorem dX11_told_205 : decode cX11_told 205 = .ok (.aload_n 0, 1) := by decide +kernel
theorem dX11_told_206 : decode cX11_told 206 = .ok (.getfield 7, 3) := by decide +kernel
theorem dX11_told_209 : decode cX11_told 209 = .ok (.bipush 12, 2) := by decide +kernel
theorem dX11_told_211 : decode cX11_told 211 = .ok (.iaload, 1) := by decide +kernel
theorem dX11_told_212 : decode cX11_told 212 = .ok (.ireturn, 1) := by decide +kernel
theorem dX11_told_213 : decode cX11_told 213 = .ok (.aload_n 0, 1) := by decide +kernel
theorem dX11_told_214 : decode cX11_told 214 = .ok (.getfield 7, 3) := by decide +kernel
theorem dX11_told_217 : decode cX11_told 217 = .ok (.bipush 13, 2) := by decide +kernel
theorem dX11_told_219 : decode cX11_told 219 = .ok (.iaload, 1) := by decide +kernel
theorem dX11_told_220 : decode cX11_told 220 = .ok (.ireturn, 1) := by decide +kernel
theorem dX11_told_221 : decode cX11_told 221 = .ok (.aload_n 0, 1) := by decide +kernel
theorem dX11_told_222 : decode cX11_told 222 = .ok (.getfield 7, 3) := by decide +kernel
theorem dX11_told_225 : decode cX11_told 225 = .ok (.bipush 14, 2) := by decide +kernel
theorem dX11_told_227 : decode cX11_told 227 = .ok (.iaload, 1) := by decide +kernel
theorem dX11_told_228 : decode cX11_told 228 = .ok (.ireturn, 1) := by decide +kernel
theorem dX11_told_229 : decode cX11_told 229 = .ok (.aload_n 0, 1) := by decide +kernel
theorem dX11_told_230 : decode cX11_told 230 = .ok (.getfield 145, 3) := by decide +kernel
theorem dX11_told_233 : decode cX11_told 233 = .ok (.ireturn, 1) := by decide +kernel
theorem dX11_told_234 : decode cX11_told 234 = .ok (.aload_n 0, 1) := by decide +kernel
theorem dX11_told_235 : decode cX11_told 235 = .ok (.getfield 177, 3) := by decide +kernel
theorem dX11_told_238 : decode cX11_told 238 = .ok (.ireturn, 1) := by decide +kernel
theorem dX11_told_239 : decode cX11_told 239 = .ok (.iload_n 1, 1) := by decide +kernel
theorem dX11_told_240 : decode cX11_told 240 = .ok (.bipush 6, 2) := by decide +kernel
theorem dX11_told_242 : decode cX11_told 242 = .ok (.bipush 7, 2) := by decide +kernel
theorem dX11_told_244 : decode cX11_told 244 = .ok (.invokestatic 57, 3) := by decide +kernel
theorem dX11_told_247 : decode cX11_told 247 = .ok (.ifCond .eq 15, 3) := by decide +kernel
theorem dX11_told_250 : decode cX11_told 250 = .ok (.aload_n 0, 1) := by decide +kernel
theorem dX11_told_251 : decode cX11_told 251 = .ok (.getfield 25, 3) := by decide +kernel
theorem dX11_told_254 : decode cX11_told 254 = .ok (.iload_n 1, 1) := by decide +kernel
theorem dX11_told_255 : decode cX11_told 255 = .ok (.bipush 6, 2) := by decide +kernel
theorem dX11_told_257 : decode cX11_told 257 = .ok (.isub, 1) := by decide +kernel
theorem dX11_told_258 : decode cX11_told 258 = .ok (.iaload, 1) := by decide +kernel
theorem dX11_told_259 : decode cX11_told 259 = .ok (.goto 5, 3) := by decide +kernel
theorem dX11_told_262 : decode cX11_told 262 = .ok (.bipush (-2), 2) := by decide +kernel
theorem dX11_told_264 : decode cX11_told 264 = .ok (.ireturn, 1) := by decide +kernel
theorem dJ6_bitCount_0f7a4_0 : decode cJ6_bitCount_0f7a4 0 = .ok (.iload_n 0, 1) := by decide +kernel
theorem dJ6_bitCount_0f7a4_1 : decode cJ6_bitCount_0f7a4 1 = .ok (.iload_n 0, 1) := by decide +kernel
theorem dJ6_bitCount_0f7a4_2 : decode cJ6_bitCount_0f7a4 2 = .ok (.iconst 1, 1) := by decide +kernel
theorem dJ6_bitCount_0f7a4_3 : decode cJ6_bitCount_0f7a4 3 = .ok (.iushr, 1) := by decide +kernel
theorem dJ6_bitCount_0f7a4_4 : decode cJ6_bitCount_0f7a4 4 = .ok (.ldc_w 265, 3) := by decide +kernel
theorem dJ6_bitCount_0f7a4_7 : decode cJ6_bitCount_0f7a4 7 = .ok (.iand, 1) := by decide +kernel
theorem dJ6_bitCount_0f7a4_8 : decode cJ6_bitCount_0f7a4 8 = .ok (.isub, 1) := by decide +kernel
theorem dJ6_bitCount_0f7a4_9 : decode cJ6_bitCount_0f7a4 9 = .ok (.istore_n 0, 1) := by decide +kernel
theorem dJ6_bitCount_0f7a4_10 : decode cJ6_bitCount_0f7a4 10 = .ok (.iload_n 0, 1) := by decide +kernel
theorem dJ6_bitCount_0f7a4_11 : decode cJ6_bitCount_0f7a4 11 = .ok (.ldc_w 266, 3) := by decide +kernel
theorem dJ6_bitCount_0f7a4_14 : decode cJ6_bitCount_0f7a4 14 = .ok (.iand, 1) := by decide +kernel
theorem dJ6_bitCount_0f7a4_15 : decode cJ6_bitCount_0f7a4 15 = .ok (.iload_n 0, 1) := by decide +kernel
theorem dJ6_bitCount_0f7a4_16 : decode cJ6_bitCount_0f7a4 16 = .ok (.iconst 2, 1) := by decide +kernel
theorem dJ6_bitCount_0f7a4_17 : decode cJ6_bitCount_0f7a4 17 = .ok (.iushr, 1) := by decide +kernel
theorem dJ6_bitCount_0f7a4_18 : decode cJ6_bitCount_0f7a4 18 = .ok (.ldc_w 266, 3) := by decide +kernel
theorem dJ6_bitCount_0f7a4_21 : decode cJ6_bitCount_0f7a4 21 = .ok (.iand, 1) := by decide +kernel
theorem dJ6_bitCount_0f7a4_22 : decode cJ6_bitCount_0f7a4 22 = .ok (.iadd, 1) := by decide +kernel
theorem dJ6_bitCount_0f7a4_23 : decode cJ6_bitCount_0f7a4 23 = .ok (.istore_n 0, 1) := by decide +kernel
theorem dJ6_bitCount_0f7a4_24 : decode cJ6_bitCount_0f7a4 24 = .ok (.iload_n 0, 1) := by decide +kernel
theorem dJ6_bitCount_0f7a4_25 : decode cJ6_bitCount_0f7a4 25 = .ok (.iload_n 0, 1) := by decide +kernel
theorem dJ6_bitCount_0f7a4_26 : decode cJ6_bitCount_0f7a4 26 = .ok (.iconst 4, 1) := by decide +kernel
theorem dJ6_bitCount_0f7a4_27 : decode cJ6_bitCount_0f7a4 27 = .ok (.iushr, 1) := by decide +kernel
theorem dJ6_bitCount_0f7a4_28 : decode cJ6_bitCount_0f7a4 28 = .ok (.iadd, 1) := by decide +kernel
theorem dJ6_bitCount_0f7a4_29 : decode cJ6_bitCount_0f7a4 29 = .ok (.ldc_w 267, 3) := by decide +kernel
theorem dJ6_bitCount_0f7a4_32 : decode cJ6_bitCount_0f7a4 32 = .ok (.iand, 1) := by decide +kernel
theorem dJ6_bitCount_0f7a4_33 : decode cJ6_bitCount_0f7a4 33 = .ok (.istore_n 0, 1) := by decide +kernel
theorem dJ6_bitCount_0f7a4_34 : decode cJ6_bitCount_0f7a4 34 = .ok (.iload_n 0, 1) := by decide +kernel
theorem dJ6_bitCount_0f7a4_35 : decode cJ6_bitCount_0f7a4 35 = .ok (.iload_n 0, 1) := by decide +kernel
theorem dJ6_bitCount_0f7a4_36 : decode cJ6_bitCount_0f7a4 36 = .ok (.bipush 8, 2) := by decide +kernel
theorem dJ6_bitCount_0f7a4_38 : decode cJ6_bitCount_0f7a4 38 = .ok (.iushr, 1) := by decide +kernel
theorem dJ6_bitCount_0f7a4_39 : decode cJ6_bitCount_0f7a4 39 = .ok (.iadd, 1) := by decide +kernel
theorem dJ6_bitCount_0f7a4_40 : decode cJ6_bitCount_0f7a4 40 = .ok (.istore_n 0, 1) := by decide +kernel
theorem dJ6_bitCount_0f7a4_41 : decode cJ6_bitCount_0f7a4 41 = .ok (.iload_n 0, 1) := by decide +kernel
theorem dJ6_bitCount_0f7a4_42 : decode cJ6_bitCount_0f7a4 42 = .ok (.iload_n 0, 1) := by decide +kernel
theorem dJ6_bitCount_0f7a4_43 : decode cJ6_bitCount_0f7a4 43 = .ok (.bipush 16, 2) := by decide +kernel
theorem dJ6_bitCount_0f7a4_45 : decode cJ6_bitCount_0f7a4 45 = .ok (.iushr, 1) := by decide +kernel
theorem dJ6_bitCount_0f7a4_46 : decode cJ6_bitCount_0f7a4 46 = .ok (.iadd, 1) := by decide +kernel
theorem dJ6_bitCount_0f7a4_47 : decode cJ6_bitCount_0f7a4 47 = .ok (.istore_n 0, 1) := by decide +kernel
theorem dJ6_bitCount_0f7a4_48 : decode cJ6_bitCount_0f7a4 48 = .ok (.iload_n 0, 1) := by decide +kernel
theorem dJ6_bitCount_0f7a4_49 : decode cJ6_bitCount_0f7a4 49 = .ok (.bipush 63, 2) := by decide +kernel
theorem dJ6_bitCount_0f7a4_51 : decode cJ6_bitCount_0f7a4 51 = .ok (.iand, 1) := by decide +kernel
theorem dJ6_bitCount_0f7a4_52 : decode cJ6_bitCount_0f7a4 52 = .ok (.ireturn, 1) := by decide +kernel
theorem dJ9_abs_0f7a4_0 : decode cJ9_abs_0f7a4 0 = .ok (.iload_n 0, 1) := by decide +kernel
theorem dJ9_abs_0f7a4_1 : decode cJ9_abs_0f7a4 1 = .ok (.ifCond .ge 8, 3) := by decide +kernel
theorem dJ9_abs_0f7a4_4 : decode cJ9_abs_0f7a4 4 = .ok (.iload_n 0, 1) := by decide +kernel
theorem dJ9_abs_0f7a4_5 : decode cJ9_abs_0f7a4 5 = .ok (.ineg, 1) := by decide +kernel
theorem dJ9_abs_0f7a4_6 : decode cJ9_abs_0f7a4 6 = .ok (.goto 4, 3) := by decide +kernel
theorem dJ9_abs_0f7a4_9 : decode cJ9_abs_0f7a4 9 = .ok (.iload_n 0, 1) := by decide +kernel
theorem dJ9_abs_0f7a4_10 : decode cJ9_abs_0f7a4 10 = .ok (.ireturn, 1) := by decide +kernel
theorem dJ9_max_7cf53_0 : decode cJ9_max_7cf53 0 = .ok (.iload_n 0, 1) := by decide +kernel
theorem dJ9_max_7cf53_1 : decode cJ9_max_7cf53 1 = .ok (.iload_n 1, 1) := by decide +kernel
theorem dJ9_max_7cf53_2 : decode cJ9_max_7cf53 2 = .ok (.if_icmp .lt 7, 3) := by decide +kernel
theorem dJ9_max_7cf53_5 : decode cJ9_max_7cf53 5 = .ok (.iload_n 0, 1) := by decide +kernel
theorem dJ9_max_7cf53_6 : decode cJ9_max_7cf53 6 = .ok (.goto 4, 3) := by decide +kernel
theorem dJ9_max_7cf53_9 : decode cJ9_max_7cf53 9 = .ok (.iload_n 1, 1) := by decide +kernel
theorem dJ9_max_7cf53_10 : decode cJ9_max_7cf53 10 = .ok (.ireturn, 1) := by decide +kernel
theorem dJ9_min_7cf53_0 : decode cJ9_min_7cf53 0 = .ok (.iload_n 0, 1) := by decide +kernel
theorem dJ9_min_7cf53_1 : decode cJ9_min_7cf53 1 = .ok (.iload_n 1, 1) := by decide +kernel
theorem dJ9_min_7cf53_2 : decode cJ9_min_7cf53 2 = .ok (.if_icmp .gt 7, 3) := by decide +kernel
theorem dJ9_min_7cf53_5 : decode cJ9_min_7cf53 5 = .ok (.iload_n 0, 1) := by decide +kernel
theorem dJ9_min_7cf53_6 : decode cJ9_min_7cf53 6 = .ok (.goto 4, 3) := by decide +kernel
theorem dJ9_min_7cf53_9 : decode cJ9_min_7cf53 9 = .ok (.iload_n 1, 1) := by decide +kernel
theorem dJ9_min_7cf53_10 : decode cJ9_min_7cf53 10 = .ok (.ireturn, 1) := by decide +kernel
set_option maxRecDepth 20000 in
theorem ggL_law_X10_init : GoodIn wsL_law wsX10_init := goodIn_r _ [8, 9, 10, 11, 12, 13, 14, 15, 16, 17, 18, 19, 20, 21, 22, 23, 24, 25, 26, 27, 28, 29, 30, 31, 32, 33, 34, 35, 36, 37, 38, 39, 40, 41, 42, 43, 44, 45, 46, 47, 48, 49, 50, 51, 52, 53, 54, 55, 56, 57, 58, 59, 60, 61, 62, 63, 64, 65, 66, 67, 68, 69, 70, 71, 72, 73, 2, 74, 75, 76, 77, 78, 79, 80, 81, 82, 83, 84, 85, 86, 87, 88, 89, 90, 91, 92, 93, 94, 95, 96, 97, 98, 99, 100, 101, 102, 103, 104, 105, 106, 107, 108, 109, 110, 111, 112, 113, 114, 115, 116, 117, 118, 119, 120, 121, 122, 123, 124, 125, 126, 127, 128, 129, 130, 131, 814, 815, 816, 817, 818, 819, 820, 772, 773, 774, 775, 776, 777, 778, 779, 780, 781, 782, 783, 821, 822, 823, 824, 825, 826, 827, 828, 829, 830, 831, 832, 833, 834, 835, 836, 837, 838, 839, 840, 841, 842, 843, 844, 845, 846, 847, 848, 849, 850] (by decide +kernel) (by decide +kernel)
set_option maxRecDepth 20000 in
theorem gL_law_X10_init : GoodIn wsL_law (wsX10_init) := ggL_law_X10_init
set_option maxRecDepth 20000 in
theorem ggL_law_X11_init : GoodIn wsL_law wsX11_init := goodIn_r _ [134, 135, 10, 11, 52, 136, 137, 138, 139, 140, 141, 142, 143, 144, 145, 146, 147, 148, 128, 149, 150, 151, 784, 785, 786, 787, 788, 789, 790, 791, 792, 793, 794, 795, 796, 797, 798, 799, 800, 801, 802, 803, 804, 805, 806, 807, 808, 809, 810, 811, 812, 813] (by decide +kernel) (by decide +kernel)
set_option maxRecDepth 20000 in
theorem gL_law_X11_init : GoodIn wsL_law (wsX11_init) := ggL_law_X11_init
set_option maxRecDepth 20000 in
theorem ggL_law_X10_member : GoodIn wsL_law wsX10_member := goodIn_r _ [155, 15, 156, 157, 2, 158, 159, 160, 161, 162, 163, 164, 772, 773, 774, 775, 776, 777, 778, 779, 780, 781, 782, 783, 814, 815, 816, 817, 818, 819, 820] (by decide +kernel) (by decide +kernel)
set_option maxRecDepth 20000 in
theorem gL_law_X10_member : GoodIn wsL_law (wsV RL 13 RX10 yX10_member wsX10_member) := goodIn_app (goodIn_of _ (by decide +kernel)) ggL_law_X10_member
set_option maxRecDepth 20000 in
theorem ggL_law_X11_member : GoodIn wsL_law wsX11_member := goodIn_r _ [168, 138, 139, 169, 170, 5, 171, 172, 173, 174, 784, 785, 786, 787, 788, 789, 790, 791, 792, 793, 794, 795, 796, 797, 798, 799, 800, 801, 802, 803, 804, 805, 806, 807, 808, 809, 810, 811, 812, 813] (by decide +kernel) (by decide +kernel)
set_option maxRecDepth 20000 in
theorem gL_law_X11_member : GoodIn wsL_law (wsV RL 17 RX11 yX11_member wsX11_member) := goodIn_app (goodIn_of _ (by decide +kernel)) ggL_law_X11_member
set_option maxRecDepth 20000 in
theorem ggL_law_X10_wide : GoodIn wsL_law wsX10_wide := goodIn_r _ [178, 15, 156, 157, 2, 158, 159, 160, 161, 162, 163, 164, 772, 773, 774, 775, 776, 777, 778, 779, 780, 781, 782, 783, 814, 815, 816, 817, 818, 819, 820] (by decide +kernel) (by decide +kernel)
set_option maxRecDepth 20000 in
theorem gL_law_X10_wide : GoodIn wsL_law (wsV RL 18 RX10 yX10_wide wsX10_wide) := goodIn_app (goodIn_of _ (by decide +kernel)) ggL_law_X10_wide
set_option maxRecDepth 20000 in
theorem ggL_law_X11_wide : GoodIn wsL_law wsX11_wide := goodIn_r _ [182, 140, 172, 173, 5, 174, 784, 785, 786, 787, 788, 789, 790, 791, 792, 793, 794, 795, 796, 797, 798, 799, 800, 801, 802, 803, 804, 805, 806, 807, 808, 809, 810, 811, 812, 813] (by decide +kernel) (by decide +kernel)
set_option maxRecDepth 20000 in
theorem gL_law_X11_wide : GoodIn wsL_law (wsV RL 22 RX11 yX11_wide wsX11_wide) := goodIn_app (goodIn_of _ (by decide +kernel)) ggL_law_X11_wide
set_option maxRecDepth 20000 in
theorem ggL_law_X10_delay : GoodIn wsL_law wsX10_delay := goodIn_r _ [186, 15, 187, 188, 2, 189, 156, 157, 158, 159, 160, 161, 162, 163, 164, 772, 773, 774, 775, 776, 777, 778, 779, 780, 781, 782, 783, 814, 815, 816, 817, 818, 819, 820] (by decide +kernel) (by decide +kernel)
set_option maxRecDepth 20000 in
theorem gL_law_X10_delay : GoodIn wsL_law (wsV RL 23 RX10 yX10_delay wsX10_delay) := goodIn_app (goodIn_of _ (by decide +kernel)) ggL_law_X10_delay
set_option maxRecDepth 20000 in
theorem ggL_law_X11_delay : GoodIn wsL_law wsX11_delay := goodIn_r _ [193, 141, 194, 195, 5, 196, 172, 173, 174, 784, 785, 786, 787, 788, 789, 790, 791, 792, 793, 794, 795, 796, 797, 798, 799, 800, 801, 802, 803, 804, 805, 806, 807, 808, 809, 810, 811, 812, 813] (by decide +kernel) (by decide +kernel)
set_option maxRecDepth 20000 in
theorem gL_law_X11_delay : GoodIn wsL_law (wsV RL 26 RX11 yX11_delay wsX11_delay) := goodIn_app (goodIn_of _ (by decide +kernel)) ggL_law_X11_delay
set_option maxRecDepth 20000 in
theorem ggL_law_X10_say : GoodIn wsL_law wsX10_say := goodIn_r _ [200, 23, 156, 157, 2, 158, 201, 202, 203, 22, 204, 90, 89, 163, 164, 772, 773, 774, 775, 776, 777, 778, 779, 780, 781, 782, 783, 821, 822] (by decide +kernel) (by decide +kernel)
set_option maxRecDepth 20000 in
theorem gL_law_X10_say : GoodIn wsL_law (wsV RL 27 RX10 yX10_say wsX10_say) := goodIn_app (goodIn_of _ (by decide +kernel)) ggL_law_X10_say
set_option maxRecDepth 20000 in
theorem ggL_law_X11_say : GoodIn wsL_law wsX11_say := goodIn_r _ [208, 209, 145, 172, 173, 5, 174, 784, 785, 786, 787, 788, 789, 790, 791, 792, 793, 794, 795, 796, 797, 798, 799, 800, 801, 802, 803, 804, 805, 806, 807, 808, 809, 810, 811, 812, 813] (by decide +kernel) (by decide +kernel)
set_option maxRecDepth 20000 in
theorem gL_law_X11_say : GoodIn wsL_law (wsV RL 31 RX11 yX11_say wsX11_say) := goodIn_app (goodIn_of _ (by decide +kernel)) ggL_law_X11_say
set_option maxRecDepth 20000 in
theorem ggL_law_X10_wipe : GoodIn wsL_law wsX10_wipe := goodIn_r _ [213, 23, 214, 215, 216, 22, 217, 90, 772, 773, 774, 775, 776, 777, 778, 779, 780, 781, 782, 783, 821, 822] (by decide +kernel) (by decide +kernel)
set_option maxRecDepth 20000 in
theorem gL_law_X10_wipe : GoodIn wsL_law (wsV RL 32 RX10 yX10_wipe wsX10_wipe) := goodIn_app (goodIn_of _ (by decide +kernel)) ggL_law_X10_wipe
set_option maxRecDepth 20000 in
theorem ggL_law_X11_wipe : GoodIn wsL_law wsX11_wipe := goodIn_r _ [221, 209, 784, 785, 786, 787, 788, 789, 790, 791, 792, 793, 794, 795, 796, 797, 798, 799, 800, 801, 802, 803, 804, 805, 806, 807, 808, 809, 810, 811, 812, 813] (by decide +kernel) (by decide +kernel)
set_option maxRecDepth 20000 in
theorem gL_law_X11_wipe : GoodIn wsL_law (wsV RL 36 RX11 yX11_wipe wsX11_wipe) := goodIn_app (goodIn_of _ (by decide +kernel)) ggL_law_X11_wipe
set_option maxRecDepth 20000 in
theorem ggL_law_X10_fault : GoodIn wsL_law wsX10_fault := goodIn_r _ [225, 23, 226, 227, 228, 22, 229, 90, 89, 160, 2, 161, 230, 231, 232, 233, 234, 235, 236, 237, 238, 772, 773, 774, 775, 776, 777, 778, 779, 780, 781, 782, 783, 821, 822] (by decide +kernel) (by decide +kernel)
set_option maxRecDepth 20000 in
theorem gL_law_X10_fault : GoodIn wsL_law (wsV RL 37 RX10 yX10_fault wsX10_fault) := goodIn_app (goodIn_of _ (by decide +kernel)) ggL_law_X10_fault
set_option maxRecDepth 20000 in
theorem ggL_law_X11_fault : GoodIn wsL_law wsX11_fault := goodIn_r _ [242, 243, 244, 245, 5, 246, 209, 145, 247, 248, 249, 172, 173, 174, 784, 785, 786, 787, 788, 789, 790, 791, 792, 793, 794, 795, 796, 797, 798, 799, 800, 801, 802, 803, 804, 805, 806, 807, 808, 809, 810, 811, 812, 813] (by decide +kernel) (by decide +kernel)
set_option maxRecDepth 20000 in
theorem gL_law_X11_fault : GoodIn wsL_law (wsV RL 40 RX11 yX11_fault wsX11_fault) := goodIn_app (goodIn_of _ (by decide +kernel)) ggL_law_X11_fault
set_option maxRecDepth 20000 in
theorem ggL_law_X10_judge : GoodIn wsL_law wsX10_judge := goodIn_r _ [253, 23, 27, 15, 16, 156, 157, 2, 158, 226, 227, 228, 22, 229, 90, 89, 160, 161, 230, 231, 232, 233, 234, 235, 236, 237, 238, 254, 255, 256, 26, 257, 94, 95, 258, 259, 260, 14, 261, 53, 54, 55, 56, 60, 64, 65, 262, 263, 264, 265, 266, 59, 267, 70, 71, 72, 268, 269, 270, 63, 271, 84, 85, 79, 272, 273, 274, 275, 276, 277, 278, 279, 280, 281, 282, 283, 284, 285, 286, 287, 288, 289, 290, 291, 292, 293, 294, 295, 296, 297, 298, 299, 300, 301, 302, 303, 163, 164, 304, 305, 306, 307, 308, 309, 310, 772, 773, 774, 775, 776, 777, 778, 779, 780, 781, 782, 783, 823, 824, 821, 822, 814, 815, 816, 817, 818, 819, 820, 845, 846, 847, 848, 849, 850] (by decide +kernel) (by decide +kernel)
set_option maxRecDepth 20000 in
theorem gL_law_X10_judge : GoodIn wsL_law (wsV RL 41 RX10 yX10_judge wsX10_judge) := goodIn_app (goodIn_of _ (by decide +kernel)) ggL_law_X10_judge
set_option maxRecDepth 20000 in
theorem ggL_law_X11_judge : GoodIn wsL_law wsX11_judge := goodIn_r _ [314, 315, 172, 173, 5, 174, 243, 244, 245, 246, 209, 145, 247, 248, 249, 316, 317, 318, 319, 320, 321, 322, 323, 324, 137, 136, 325, 326, 327, 328, 329, 330, 331, 332, 333, 334, 335, 336, 337, 338, 339, 340, 341, 342, 343, 344, 784, 785, 786, 787, 788, 789, 790, 791, 792, 793, 794, 795, 796, 797, 798, 799, 800, 801, 802, 803, 804, 805, 806, 807, 808, 809, 810, 811, 812, 813] (by decide +kernel) (by decide +kernel)
set_option maxRecDepth 20000 in
theorem gL_law_X11_judge : GoodIn wsL_law (wsV RL 44 RX11 yX11_judge wsX11_judge) := goodIn_app (goodIn_of _ (by decide +kernel)) ggL_law_X11_judge
set_option maxRecDepth 20000 in
theorem ggL_law_X10_done : GoodIn wsL_law wsX10_done := goodIn_r _ [348, 15, 16, 23, 27, 349, 350, 351, 2, 352, 226, 227, 228, 22, 229, 90, 89, 160, 161, 230, 231, 232, 233, 234, 235, 236, 237, 238, 254, 255, 256, 26, 257, 94, 95, 258, 259, 260, 14, 261, 53, 54, 55, 56, 60, 64, 65, 262, 263, 264, 265, 266, 59, 267, 70, 71, 72, 268, 269, 270, 63, 271, 84, 85, 79, 272, 273, 274, 275, 276, 277, 278, 279, 280, 281, 282, 283, 284, 285, 286, 287, 288, 289, 290, 291, 292, 293, 294, 295, 296, 297, 298, 299, 300, 301, 302, 303, 163, 164, 304, 305, 306, 307, 308, 309, 310, 353, 214, 215, 216, 217, 772, 773, 774, 775, 776, 777, 778, 779, 780, 781, 782, 783, 814, 815, 816, 817, 818, 819, 820, 823, 824, 821, 822, 845, 846, 847, 848, 849, 850] (by decide +kernel) (by decide +kernel)
set_option maxRecDepth 20000 in
theorem gL_law_X10_done : GoodIn wsL_law (wsV RL 45 RX10 yX10_done wsX10_done) := goodIn_app (goodIn_of _ (by decide +kernel)) ggL_law_X10_done
set_option maxRecDepth 20000 in
theorem ggL_law_X11_done : GoodIn wsL_law wsX11_done := goodIn_r _ [357, 136, 137, 209, 320, 358, 359, 360, 5, 361, 243, 244, 245, 246, 145, 247, 248, 249, 172, 173, 174, 316, 317, 318, 319, 315, 321, 322, 323, 324, 325, 326, 327, 328, 329, 330, 331, 332, 333, 334, 335, 336, 337, 338, 339, 340, 341, 342, 343, 344, 784, 785, 786, 787, 788, 789, 790, 791, 792, 793, 794, 795, 796, 797, 798, 799, 800, 801, 802, 803, 804, 805, 806, 807, 808, 809, 810, 811, 812, 813] (by decide +kernel) (by decide +kernel)
set_option maxRecDepth 20000 in
theorem gL_law_X11_done : GoodIn wsL_law (wsV RL 48 RX11 yX11_done wsX11_done) := goodIn_app (goodIn_of _ (by decide +kernel)) ggL_law_X11_done
set_option maxRecDepth 20000 in
theorem ggL_law_X10_place : GoodIn wsL_law wsX10_place := goodIn_r _ [365, 16, 187, 188, 2, 189, 156, 157, 158, 349, 350, 351, 352, 23, 27, 15, 226, 227, 228, 22, 229, 90, 89, 160, 161, 230, 231, 232, 233, 234, 235, 236, 237, 238, 254, 255, 256, 26, 257, 94, 95, 258, 259, 260, 14, 261, 53, 54, 55, 56, 60, 64, 65, 262, 263, 264, 265, 266, 59, 267, 70, 71, 72, 268, 269, 270, 63, 271, 84, 85, 79, 272, 273, 274, 275, 276, 277, 278, 279, 280, 281, 282, 283, 284, 285, 286, 287, 288, 289, 290, 291, 292, 293, 294, 295, 296, 297, 298, 299, 300, 301, 302, 303, 163, 164, 304, 305, 306, 307, 308, 309, 310, 366, 367, 368, 369, 772, 773, 774, 775, 776, 777, 778, 779, 780, 781, 782, 783, 814, 815, 816, 817, 818, 819, 820, 823, 824, 821, 822, 845, 846, 847, 848, 849, 850] (by decide +kernel) (by decide +kernel)
set_option maxRecDepth 20000 in
theorem gL_law_X10_place : GoodIn wsL_law (wsV RL 49 RX10 yX10_place wsX10_place) := goodIn_app (goodIn_of _ (by decide +kernel)) ggL_law_X10_place
set_option maxRecDepth 20000 in
theorem ggL_law_X11_place : GoodIn wsL_law wsX11_place := goodIn_r _ [373, 137, 194, 195, 5, 196, 172, 173, 174, 358, 359, 360, 361, 243, 244, 245, 246, 209, 145, 247, 248, 249, 316, 317, 318, 319, 320, 315, 321, 322, 323, 324, 136, 325, 326, 327, 328, 329, 330, 331, 332, 333, 334, 335, 336, 337, 338, 339, 340, 341, 342, 343, 344, 784, 785, 786, 787, 788, 789, 790, 791, 792, 793, 794, 795, 796, 797, 798, 799, 800, 801, 802, 803, 804, 805, 806, 807, 808, 809, 810, 811, 812, 813] (by decide +kernel) (by decide +kernel)
set_option maxRecDepth 20000 in
theorem gL_law_X11_place : GoodIn wsL_law (wsV RL 52 RX11 yX11_place wsX11_place) := goodIn_app (goodIn_of _ (by decide +kernel)) ggL_law_X11_place
set_option maxRecDepth 20000 in
theorem ggL_law_X10_of : GoodIn wsL_law wsX10_of := goodIn_r _ [377, 16, 156, 157, 2, 158, 349, 350, 351, 352, 23, 27, 15, 226, 227, 228, 22, 229, 90, 89, 160, 161, 230, 231, 232, 233, 234, 235, 236, 237, 238, 254, 255, 256, 26, 257, 94, 95, 258, 259, 260, 14, 261, 53, 54, 55, 56, 60, 64, 65, 262, 263, 264, 265, 266, 59, 267, 70, 71, 72, 268, 269, 270, 63, 271, 84, 85, 79, 272, 273, 274, 275, 276, 277, 278, 279, 280, 281, 282, 283, 284, 285, 286, 287, 288, 289, 290, 291, 292, 293, 294, 295, 296, 297, 298, 299, 300, 301, 302, 303, 163, 164, 304, 305, 306, 307, 308, 309, 310, 159, 772, 773, 774, 775, 776, 777, 778, 779, 780, 781, 782, 783, 814, 815, 816, 817, 818, 819, 820, 845, 846, 847, 823, 824, 821, 822, 848, 849, 850] (by decide +kernel) (by decide +kernel)
set_option maxRecDepth 20000 in
theorem gL_law_X10_of : GoodIn wsL_law (wsV RL 53 RX10 yX10_of wsX10_of) := goodIn_app (goodIn_of _ (by decide +kernel)) ggL_law_X10_of
set_option maxRecDepth 20000 in
theorem ggL_law_X11_of : GoodIn wsL_law wsX11_of := goodIn_r _ [381, 169, 170, 5, 171, 172, 173, 174, 358, 359, 360, 361, 243, 244, 245, 246, 209, 145, 247, 248, 249, 316, 317, 318, 319, 320, 315, 321, 322, 323, 324, 137, 136, 325, 326, 327, 328, 329, 330, 331, 332, 333, 334, 335, 336, 337, 338, 339, 340, 341, 342, 343, 344, 784, 785, 786, 787, 788, 789, 790, 791, 792, 793, 794, 795, 796, 797, 798, 799, 800, 801, 802, 803, 804, 805, 806, 807, 808, 809, 810, 811, 812, 813] (by decide +kernel) (by decide +kernel)
set_option maxRecDepth 20000 in
theorem gL_law_X11_of : GoodIn wsL_law (wsV RL 56 RX11 yX11_of wsX11_of) := goodIn_app (goodIn_of _ (by decide +kernel)) ggL_law_X11_of
set_option maxRecDepth 20000 in
theorem ggL_law_X10_bells : GoodIn wsL_law wsX10_bells := goodIn_r _ [385, 16, 349, 350, 351, 2, 352, 23, 27, 15, 226, 227, 228, 22, 229, 90, 89, 160, 161, 230, 231, 232, 233, 234, 235, 236, 237, 238, 254, 255, 256, 26, 257, 94, 95, 258, 259, 260, 14, 261, 53, 54, 55, 56, 60, 64, 65, 262, 263, 264, 265, 266, 59, 267, 70, 71, 72, 268, 269, 270, 63, 271, 84, 85, 79, 272, 273, 274, 275, 276, 277, 278, 279, 280, 281, 282, 283, 284, 285, 286, 287, 288, 289, 290, 291, 292, 293, 294, 295, 296, 297, 298, 299, 300, 301, 302, 303, 163, 164, 304, 305, 306, 307, 308, 309, 310, 772, 773, 774, 775, 776, 777, 778, 779, 780, 781, 782, 783, 814, 815, 816, 817, 818, 819, 820, 845, 846, 847, 823, 824, 821, 822, 848, 849, 850] (by decide +kernel) (by decide +kernel)
set_option maxRecDepth 20000 in
theorem gL_law_X10_bells : GoodIn wsL_law (wsV RL 57 RX10 yX10_bells wsX10_bells) := goodIn_app (goodIn_of _ (by decide +kernel)) ggL_law_X10_bells
set_option maxRecDepth 20000 in
theorem ggL_law_X11_bells : GoodIn wsL_law wsX11_bells := goodIn_r _ [389, 137, 358, 359, 360, 5, 361, 243, 244, 245, 246, 209, 145, 247, 248, 249, 172, 173, 174, 316, 317, 318, 319, 320, 315, 321, 322, 323, 324, 136, 325, 326, 327, 328, 329, 330, 331, 332, 333, 334, 335, 336, 337, 338, 339, 340, 341, 342, 343, 344, 784, 785, 786, 787, 788, 789, 790, 791, 792, 793, 794, 795, 796, 797, 798, 799, 800, 801, 802, 803, 804, 805, 806, 807, 808, 809, 810, 811, 812, 813] (by decide +kernel) (by decide +kernel)
set_option maxRecDepth 20000 in
theorem gL_law_X11_bells : GoodIn wsL_law (wsV RL 60 RX11 yX11_bells wsX11_bells) := goodIn_app (goodIn_of _ (by decide +kernel)) ggL_law_X11_bells
set_option maxRecDepth 20000 in
theorem ggL_law_X10_meets : GoodIn wsL_law wsX10_meets := goodIn_r _ [393, 31, 15, 156, 157, 2, 158, 394, 395, 396, 30, 397, 99, 100, 101, 102, 160, 161, 398, 399, 400, 401, 402, 403, 404, 14, 405, 56, 60, 406, 407, 408, 409, 410, 411, 412, 55, 413, 414, 82, 415, 53, 416, 417, 418, 419, 103, 772, 773, 774, 775, 776, 777, 778, 779, 780, 781, 782, 783, 825, 826, 827, 828, 829, 814, 815, 816, 817, 818, 819, 820, 845, 846, 847] (by decide +kernel) (by decide +kernel)
set_option maxRecDepth 20000 in
theorem gL_law_X10_meets : GoodIn wsL_law (wsV RL 61 RX10 yX10_meets wsX10_meets) := goodIn_app (goodIn_of _ (by decide +kernel)) ggL_law_X10_meets
set_option maxRecDepth 20000 in
theorem ggL_law_X11_meets : GoodIn wsL_law wsX11_meets := goodIn_r _ [423, 424, 425, 426, 427, 172, 173, 5, 174, 428, 429, 430, 431, 432, 433, 321, 322, 323, 324, 137, 136, 434, 435, 436, 437, 438, 439, 440, 441, 141, 442, 443, 444, 445, 138, 446, 447, 448, 449, 140, 784, 785, 786, 787, 788, 789, 790, 791, 792, 793, 794, 795, 796, 797, 798, 799, 800, 801, 802, 803, 804, 805, 806, 807, 808, 809, 810, 811, 812, 813] (by decide +kernel) (by decide +kernel)
set_option maxRecDepth 20000 in
theorem gL_law_X11_meets : GoodIn wsL_law (wsV RL 64 RX11 yX11_meets wsX11_meets) := goodIn_app (goodIn_of _ (by decide +kernel)) ggL_law_X11_meets
set_option maxRecDepth 20000 in
theorem ggL_law_X10_runs : GoodIn wsL_law wsX10_runs := goodIn_r _ [453, 15, 454, 81, 82, 83, 455, 456, 457, 14, 458, 60, 56, 459, 293, 294, 59, 295, 70, 160, 2, 161, 772, 773, 774, 775, 776, 777, 778, 779, 780, 781, 782, 783, 814, 815, 816, 817, 818, 819, 820, 845, 846, 847] (by decide +kernel) (by decide +kernel)
set_option maxRecDepth 20000 in
theorem gL_law_X10_runs : GoodIn wsL_law (wsV RL 65 RX10 yX10_runs wsX10_runs) := goodIn_app (goodIn_of _ (by decide +kernel)) ggL_law_X10_runs
set_option maxRecDepth 20000 in
theorem ggL_law_X11_runs : GoodIn wsL_law wsX11_runs := goodIn_r _ [463, 136, 141, 784, 785, 786, 787, 788, 789, 790, 791, 792, 793, 794, 795, 796, 797, 798, 799, 800, 801, 802, 803, 804, 805, 806, 807, 808, 809, 810, 811, 812, 813] (by decide +kernel) (by decide +kernel)
set_option maxRecDepth 20000 in
theorem gL_law_X11_runs : GoodIn wsL_law (wsV RL 68 RX11 yX11_runs wsX11_runs) := goodIn_app (goodIn_of _ (by decide +kernel)) ggL_law_X11_runs
set_option maxRecDepth 20000 in
theorem ggL_law_X10_order : GoodIn wsL_law wsX10_order := goodIn_r _ [467, 35, 15, 187, 188, 2, 189, 156, 157, 158, 468, 469, 470, 34, 471, 110, 107, 160, 161, 163, 164, 472, 473, 474, 475, 108, 109, 476, 477, 478, 14, 479, 56, 60, 480, 403, 404, 405, 481, 407, 408, 482, 410, 411, 412, 55, 413, 414, 82, 415, 53, 483, 484, 485, 486, 487, 488, 489, 490, 491, 492, 493, 494, 495, 496, 497, 498, 499, 500, 501, 502, 503, 504, 505, 506, 507, 508, 509, 510, 511, 512, 513, 514, 515, 516, 772, 773, 774, 775, 776, 777, 778, 779, 780, 781, 782, 783, 814, 815, 816, 817, 818, 819, 820, 830, 831, 832, 833, 845, 846, 847] (by decide +kernel) (by decide +kernel)
set_option maxRecDepth 20000 in
theorem gL_law_X10_order : GoodIn wsL_law (wsV RL 69 RX10 yX10_order wsX10_order) := goodIn_app (goodIn_of _ (by decide +kernel)) ggL_law_X10_order
set_option maxRecDepth 20000 in
theorem ggL_law_X11_order : GoodIn wsL_law wsX11_order := goodIn_r _ [520, 521, 522, 194, 195, 5, 196, 172, 173, 174, 523, 524, 525, 526, 527, 528, 529, 136, 425, 428, 429, 430, 431, 432, 433, 321, 322, 323, 324, 137, 530, 531, 532, 533, 534, 535, 536, 537, 538, 539, 540, 541, 142, 143, 333, 334, 335, 336, 434, 435, 436, 437, 424, 426, 427, 438, 439, 440, 441, 141, 442, 443, 444, 445, 138, 446, 447, 448, 449, 140, 784, 785, 786, 787, 788, 789, 790, 791, 792, 793, 794, 795, 796, 797, 798, 799, 800, 801, 802, 803, 804, 805, 806, 807, 808, 809, 810, 811, 812, 813] (by decide +kernel) (by decide +kernel)
set_option maxRecDepth 20000 in
theorem gL_law_X11_order : GoodIn wsL_law (wsV RL 72 RX11 yX11_order wsX11_order) := goodIn_app (goodIn_of _ (by decide +kernel)) ggL_law_X11_order
set_option maxRecDepth 20000 in
theorem ggL_law_X10_start : GoodIn wsL_law wsX10_start := goodIn_r _ [545, 16, 15, 43, 31, 156, 157, 2, 158, 546, 259, 260, 14, 261, 53, 54, 55, 56, 60, 64, 65, 262, 263, 264, 265, 266, 59, 267, 70, 71, 72, 268, 269, 270, 63, 271, 84, 85, 79, 547, 548, 549, 42, 550, 123, 124, 162, 163, 164, 394, 395, 396, 30, 397, 99, 100, 101, 102, 160, 161, 398, 399, 400, 401, 402, 403, 404, 405, 406, 407, 408, 409, 410, 411, 412, 413, 414, 82, 415, 416, 417, 418, 419, 103, 551, 552, 553, 554, 772, 773, 774, 775, 776, 777, 778, 779, 780, 781, 782, 783, 814, 815, 816, 817, 818, 819, 820, 825, 826, 827, 828, 829, 840, 841, 845, 846, 847, 848, 849, 850] (by decide +kernel) (by decide +kernel)
set_option maxRecDepth 20000 in
theorem gL_law_X10_start : GoodIn wsL_law (wsV RL 73 RX10 yX10_start wsX10_start) := goodIn_app (goodIn_of _ (by decide +kernel)) ggL_law_X10_start
set_option maxRecDepth 20000 in
theorem ggL_law_X11_start : GoodIn wsL_law wsX11_start := goodIn_r _ [558, 141, 529, 425, 172, 173, 5, 174, 428, 429, 430, 431, 432, 433, 321, 322, 323, 324, 137, 136, 434, 435, 436, 437, 424, 426, 427, 438, 439, 440, 441, 442, 443, 444, 445, 138, 446, 447, 448, 449, 140, 784, 785, 786, 787, 788, 789, 790, 791, 792, 793, 794, 795, 796, 797, 798, 799, 800, 801, 802, 803, 804, 805, 806, 807, 808, 809, 810, 811, 812, 813] (by decide +kernel) (by decide +kernel)
set_option maxRecDepth 20000 in
theorem gL_law_X11_start : GoodIn wsL_law (wsV RL 76 RX11 yX11_start wsX11_start) := goodIn_app (goodIn_of _ (by decide +kernel)) ggL_law_X11_start
set_option maxRecDepth 20000 in
theorem ggL_law_X10_door : GoodIn wsL_law wsX10_door := goodIn_r _ [562, 16, 15, 43, 31, 156, 157, 2, 158, 546, 259, 260, 14, 261, 53, 54, 55, 56, 60, 64, 65, 262, 263, 264, 265, 266, 59, 267, 70, 71, 72, 268, 269, 270, 63, 271, 84, 85, 79, 547, 548, 549, 42, 550, 123, 124, 159, 160, 161, 162, 163, 164, 394, 395, 396, 30, 397, 99, 100, 101, 102, 398, 399, 400, 401, 402, 403, 404, 405, 406, 407, 408, 409, 410, 411, 412, 413, 414, 82, 415, 416, 417, 418, 419, 103, 551, 552, 553, 554, 772, 773, 774, 775, 776, 777, 778, 779, 780, 781, 782, 783, 814, 815, 816, 817, 818, 819, 820, 825, 826, 827, 828, 829, 840, 841, 845, 846, 847, 848, 849, 850] (by decide +kernel) (by decide +kernel)
set_option maxRecDepth 20000 in
theorem gL_law_X10_door : GoodIn wsL_law (wsV RL 77 RX10 yX10_door wsX10_door) := goodIn_app (goodIn_of _ (by decide +kernel)) ggL_law_X10_door
set_option maxRecDepth 20000 in
theorem ggL_law_X11_door : GoodIn wsL_law wsX11_door := goodIn_r _ [566, 433, 529, 432, 425, 172, 173, 5, 174, 428, 429, 430, 431, 321, 322, 323, 324, 137, 136, 434, 435, 436, 437, 424, 426, 427, 438, 439, 440, 441, 141, 442, 443, 444, 445, 138, 446, 447, 448, 449, 140, 784, 785, 786, 787, 788, 789, 790, 791, 792, 793, 794, 795, 796, 797, 798, 799, 800, 801, 802, 803, 804, 805, 806, 807, 808, 809, 810, 811, 812, 813] (by decide +kernel) (by decide +kernel)
set_option maxRecDepth 20000 in
theorem gL_law_X11_door : GoodIn wsL_law (wsV RL 80 RX11 yX11_door wsX11_door) := goodIn_app (goodIn_of _ (by decide +kernel)) ggL_law_X11_door
set_option maxRecDepth 20000 in
theorem ggL_law_X10_grate : GoodIn wsL_law wsX10_grate := goodIn_r _ [570, 31, 15, 43, 156, 157, 2, 158, 571, 572, 573, 30, 574, 160, 161, 575, 576, 577, 578, 579, 82, 580, 402, 403, 404, 14, 405, 56, 60, 406, 407, 408, 547, 548, 549, 42, 550, 123, 124, 551, 552, 553, 554, 772, 773, 774, 775, 776, 777, 778, 779, 780, 781, 782, 783, 840, 841, 814, 815, 816, 817, 818, 819, 820, 845, 846, 847] (by decide +kernel) (by decide +kernel)
set_option maxRecDepth 20000 in
theorem gL_law_X10_grate : GoodIn wsL_law (wsV RL 81 RX10 yX10_grate wsX10_grate) := goodIn_app (goodIn_of _ (by decide +kernel)) ggL_law_X10_grate
set_option maxRecDepth 20000 in
theorem ggL_law_X11_grate : GoodIn wsL_law wsX11_grate := goodIn_r _ [584, 172, 173, 5, 174, 428, 429, 430, 431, 432, 433, 321, 322, 323, 324, 137, 136, 585, 586, 587, 588, 139, 438, 439, 440, 441, 141, 784, 785, 786, 787, 788, 789, 790, 791, 792, 793, 794, 795, 796, 797, 798, 799, 800, 801, 802, 803, 804, 805, 806, 807, 808, 809, 810, 811, 812, 813] (by decide +kernel) (by decide +kernel)
set_option maxRecDepth 20000 in
theorem gL_law_X11_grate : GoodIn wsL_law (wsV RL 84 RX11 yX11_grate wsX11_grate) := goodIn_app (goodIn_of _ (by decide +kernel)) ggL_law_X11_grate
set_option maxRecDepth 20000 in
theorem ggL_law_X10_rule : GoodIn wsL_law wsX10_rule := goodIn_r _ [592, 15, 156, 157, 2, 158, 593, 594, 595, 63, 596, 79, 84, 85, 163, 164, 772, 773, 774, 775, 776, 777, 778, 779, 780, 781, 782, 783, 814, 815, 816, 817, 818, 819, 820, 848, 849, 850] (by decide +kernel) (by decide +kernel)
set_option maxRecDepth 20000 in
theorem gL_law_X10_rule : GoodIn wsL_law (wsV RL 85 RX10 yX10_rule wsX10_rule) := goodIn_app (goodIn_of _ (by decide +kernel)) ggL_law_X10_rule
set_option maxRecDepth 20000 in
theorem ggL_law_X11_rule : GoodIn wsL_law wsX11_rule := goodIn_r _ [600, 541, 142, 143, 169, 170, 5, 171, 172, 173, 174, 784, 785, 786, 787, 788, 789, 790, 791, 792, 793, 794, 795, 796, 797, 798, 799, 800, 801, 802, 803, 804, 805, 806, 807, 808, 809, 810, 811, 812, 813] (by decide +kernel) (by decide +kernel)
set_option maxRecDepth 20000 in
theorem gL_law_X11_rule : GoodIn wsL_law (wsV RL 88 RX11 yX11_rule wsX11_rule) := goodIn_app (goodIn_of _ (by decide +kernel)) ggL_law_X11_rule
set_option maxRecDepth 20000 in
theorem ggL_law_X10_unrule : GoodIn wsL_law wsX10_unrule := goodIn_r _ [604, 15, 605, 606, 607, 63, 608, 79, 772, 773, 774, 775, 776, 777, 778, 779, 780, 781, 782, 783, 814, 815, 816, 817, 818, 819, 820, 848, 849, 850] (by decide +kernel) (by decide +kernel)
set_option maxRecDepth 20000 in
theorem gL_law_X10_unrule : GoodIn wsL_law (wsV RL 89 RX10 yX10_unrule wsX10_unrule) := goodIn_app (goodIn_of _ (by decide +kernel)) ggL_law_X10_unrule
set_option maxRecDepth 20000 in
theorem ggL_law_X11_unrule : GoodIn wsL_law wsX11_unrule := goodIn_r _ [612, 541, 784, 785, 786, 787, 788, 789, 790, 791, 792, 793, 794, 795, 796, 797, 798, 799, 800, 801, 802, 803, 804, 805, 806, 807, 808, 809, 810, 811, 812, 813] (by decide +kernel) (by decide +kernel)
set_option maxRecDepth 20000 in
theorem gL_law_X11_unrule : GoodIn wsL_law (wsV RL 92 RX11 yX11_unrule wsX11_unrule) := goodIn_app (goodIn_of _ (by decide +kernel)) ggL_law_X11_unrule
set_option maxRecDepth 20000 in
theorem ggL_law_X10_orders : GoodIn wsL_law wsX10_orders := goodIn_r _ [616, 35, 15, 187, 188, 2, 189, 156, 157, 158, 468, 469, 470, 34, 471, 110, 107, 160, 161, 163, 164, 617, 618, 619, 620, 109, 483, 484, 485, 486, 492, 493, 494, 621, 622, 623, 624, 625, 626, 627, 628, 506, 507, 508, 509, 510, 511, 512, 629, 630, 631, 632, 633, 772, 773, 774, 775, 776, 777, 778, 779, 780, 781, 782, 783, 814, 815, 816, 817, 818, 819, 820, 830, 831, 832, 833, 845, 846, 847, 848, 849, 850] (by decide +kernel) (by decide +kernel)
set_option maxRecDepth 20000 in
theorem gL_law_X10_orders : GoodIn wsL_law (wsV RL 93 RX10 yX10_orders wsX10_orders) := goodIn_app (goodIn_of _ (by decide +kernel)) ggL_law_X10_orders
set_option maxRecDepth 20000 in
theorem ggL_law_X11_orders : GoodIn wsL_law wsX11_orders := goodIn_r _ [637, 527, 528, 194, 195, 5, 196, 172, 173, 174, 523, 524, 525, 526, 529, 521, 522, 136, 425, 428, 429, 430, 431, 432, 433, 321, 322, 323, 324, 137, 530, 531, 532, 533, 534, 535, 536, 537, 538, 539, 540, 541, 142, 143, 333, 334, 335, 336, 434, 435, 436, 437, 424, 426, 427, 438, 439, 440, 441, 141, 442, 443, 444, 445, 138, 446, 447, 448, 449, 140, 784, 785, 786, 787, 788, 789, 790, 791, 792, 793, 794, 795, 796, 797, 798, 799, 800, 801, 802, 803, 804, 805, 806, 807, 808, 809, 810, 811, 812, 813] (by decide +kernel) (by decide +kernel)
set_option maxRecDepth 20000 in
theorem gL_law_X11_orders : GoodIn wsL_law (wsV RL 96 RX11 yX11_orders wsX11_orders) := goodIn_app (goodIn_of _ (by decide +kernel)) ggL_law_X11_orders
set_option maxRecDepth 20000 in
theorem ggL_law_X10_seen : GoodIn wsL_law wsX10_seen := goodIn_r _ [641, 15, 156, 157, 2, 158, 593, 594, 595, 63, 596, 79, 84, 85, 163, 164, 772, 773, 774, 775, 776, 777, 778, 779, 780, 781, 782, 783, 814, 815, 816, 817, 818, 819, 820, 848, 849, 850] (by decide +kernel) (by decide +kernel)
set_option maxRecDepth 20000 in
theorem gL_law_X10_seen : GoodIn wsL_law (wsV RL 97 RX10 yX10_seen wsX10_seen) := goodIn_app (goodIn_of _ (by decide +kernel)) ggL_law_X10_seen
set_option maxRecDepth 20000 in
theorem ggL_law_X11_seen : GoodIn wsL_law wsX11_seen := goodIn_r _ [645, 646, 144, 172, 173, 5, 174, 784, 785, 786, 787, 788, 789, 790, 791, 792, 793, 794, 795, 796, 797, 798, 799, 800, 801, 802, 803, 804, 805, 806, 807, 808, 809, 810, 811, 812, 813] (by decide +kernel) (by decide +kernel)
set_option maxRecDepth 20000 in
theorem gL_law_X11_seen : GoodIn wsL_law (wsV RL 100 RX11 yX11_seen wsX11_seen) := goodIn_app (goodIn_of _ (by decide +kernel)) ggL_law_X11_seen
set_option maxRecDepth 20000 in
theorem ggL_law_X10_forget : GoodIn wsL_law wsX10_forget := goodIn_r _ [650, 15, 605, 606, 607, 63, 608, 79, 772, 773, 774, 775, 776, 777, 778, 779, 780, 781, 782, 783, 814, 815, 816, 817, 818, 819, 820, 848, 849, 850] (by decide +kernel) (by decide +kernel)
set_option maxRecDepth 20000 in
theorem gL_law_X10_forget : GoodIn wsL_law (wsV RL 101 RX10 yX10_forget wsX10_forget) := goodIn_app (goodIn_of _ (by decide +kernel)) ggL_law_X10_forget
set_option maxRecDepth 20000 in
theorem ggL_law_X11_forget : GoodIn wsL_law wsX11_forget := goodIn_r _ [654, 646, 784, 785, 786, 787, 788, 789, 790, 791, 792, 793, 794, 795, 796, 797, 798, 799, 800, 801, 802, 803, 804, 805, 806, 807, 808, 809, 810, 811, 812, 813] (by decide +kernel) (by decide +kernel)
set_option maxRecDepth 20000 in
theorem gL_law_X11_forget : GoodIn wsL_law (wsV RL 104 RX11 yX11_forget wsX11_forget) := goodIn_app (goodIn_of _ (by decide +kernel)) ggL_law_X11_forget
set_option maxRecDepth 20000 in
theorem ggL_law_X10_who : GoodIn wsL_law wsX10_who := goodIn_r _ [658, 39, 15, 156, 157, 2, 158, 659, 660, 661, 38, 662, 117, 118, 119, 114, 115, 160, 161, 663, 403, 404, 14, 405, 56, 60, 664, 665, 666, 667, 668, 669, 163, 164, 772, 773, 774, 775, 776, 777, 778, 779, 780, 781, 782, 783, 834, 835, 836, 837, 838, 839, 814, 815, 816, 817, 818, 819, 820, 845, 846, 847, 848, 849, 850] (by decide +kernel) (by decide +kernel)
set_option maxRecDepth 20000 in
theorem gL_law_X10_who : GoodIn wsL_law (wsV RL 105 RX10 yX10_who wsX10_who) := goodIn_app (goodIn_of _ (by decide +kernel)) ggL_law_X10_who
set_option maxRecDepth 20000 in
theorem ggL_law_X11_who : GoodIn wsL_law wsX11_who := goodIn_r _ [673, 136, 172, 173, 5, 174, 674, 675, 676, 677, 646, 144, 678, 679, 680, 681, 141, 784, 785, 786, 787, 788, 789, 790, 791, 792, 793, 794, 795, 796, 797, 798, 799, 800, 801, 802, 803, 804, 805, 806, 807, 808, 809, 810, 811, 812, 813] (by decide +kernel) (by decide +kernel)
set_option maxRecDepth 20000 in
theorem gL_law_X11_who : GoodIn wsL_law (wsV RL 108 RX11 yX11_who wsX11_who) := goodIn_app (goodIn_of _ (by decide +kernel)) ggL_law_X11_who
set_option maxRecDepth 20000 in
theorem ggL_law_X10_look : GoodIn wsL_law wsX10_look := goodIn_r _ [685, 39, 15, 43, 156, 157, 2, 158, 659, 660, 661, 38, 662, 117, 118, 119, 114, 115, 160, 161, 663, 403, 404, 14, 405, 56, 60, 664, 665, 666, 667, 668, 669, 163, 164, 547, 548, 549, 42, 550, 123, 124, 686, 687, 688, 689, 116, 690, 81, 82, 83, 73, 74, 551, 552, 553, 554, 772, 773, 774, 775, 776, 777, 778, 779, 780, 781, 782, 783, 834, 835, 836, 837, 838, 839, 840, 841, 814, 815, 816, 817, 818, 819, 820, 845, 846, 847, 848, 849, 850] (by decide +kernel) (by decide +kernel)
set_option maxRecDepth 20000 in
theorem gL_law_X10_look : GoodIn wsL_law (wsV RL 109 RX10 yX10_look wsX10_look) := goodIn_app (goodIn_of _ (by decide +kernel)) ggL_law_X10_look
set_option maxRecDepth 20000 in
theorem ggL_law_X11_look : GoodIn wsL_law wsX11_look := goodIn_r _ [694, 148, 529, 146, 172, 173, 5, 174, 674, 675, 676, 677, 136, 646, 144, 678, 679, 680, 681, 141, 784, 785, 786, 787, 788, 789, 790, 791, 792, 793, 794, 795, 796, 797, 798, 799, 800, 801, 802, 803, 804, 805, 806, 807, 808, 809, 810, 811, 812, 813] (by decide +kernel) (by decide +kernel)
set_option maxRecDepth 20000 in
theorem gL_law_X11_look : GoodIn wsL_law (wsV RL 112 RX11 yX11_look wsX11_look) := goodIn_app (goodIn_of _ (by decide +kernel)) ggL_law_X11_look
set_option maxRecDepth 20000 in
theorem ggL_law_X10_chance : GoodIn wsL_law wsX10_chance := goodIn_r _ [698, 699, 31, 15, 700, 47, 156, 157, 2, 158, 394, 395, 396, 30, 397, 99, 100, 101, 102, 160, 161, 398, 399, 400, 401, 402, 403, 404, 14, 405, 56, 60, 406, 407, 408, 409, 410, 411, 412, 55, 413, 414, 82, 415, 53, 416, 417, 418, 419, 103, 701, 702, 703, 46, 704, 129, 705, 130, 131, 706, 707, 708, 709, 710, 711, 712, 772, 773, 774, 775, 776, 777, 778, 779, 780, 781, 782, 783, 825, 826, 827, 828, 829, 842, 843, 844, 814, 815, 816, 817, 818, 819, 820, 845, 846, 847] (by decide +kernel) (by decide +kernel)
set_option maxRecDepth 20000 in
theorem gL_law_X10_chance : GoodIn wsL_law (wsV RL 113 RX10 yX10_chance wsX10_chance) := goodIn_app (goodIn_of _ (by decide +kernel)) ggL_law_X10_chance
set_option maxRecDepth 20000 in
theorem ggL_law_X11_chance : GoodIn wsL_law wsX11_chance := goodIn_r _ [716, 717, 425, 718, 149, 719, 172, 173, 5, 174, 428, 429, 430, 431, 432, 433, 321, 322, 323, 324, 137, 136, 434, 435, 436, 437, 424, 426, 427, 438, 439, 440, 441, 141, 442, 443, 444, 445, 138, 446, 447, 448, 449, 140, 784, 785, 786, 787, 788, 789, 790, 791, 792, 793, 794, 795, 796, 797, 798, 799, 800, 801, 802, 803, 804, 805, 806, 807, 808, 809, 810, 811, 812, 813] (by decide +kernel) (by decide +kernel)
set_option maxRecDepth 20000 in
theorem gL_law_X11_chance : GoodIn wsL_law (wsV RL 117 RX11 yX11_chance wsX11_chance) := goodIn_app (goodIn_of _ (by decide +kernel)) ggL_law_X11_chance
set_option maxRecDepth 20000 in
theorem ggL_law_X10_year : GoodIn wsL_law wsX10_year := goodIn_r _ [723, 16, 15, 31, 156, 157, 2, 158, 546, 259, 260, 14, 261, 53, 54, 55, 56, 60, 64, 65, 262, 263, 264, 265, 266, 59, 267, 70, 71, 72, 268, 269, 270, 63, 271, 84, 85, 79, 724, 725, 726, 727, 728, 729, 730, 731, 732, 733, 281, 282, 283, 284, 285, 286, 287, 288, 289, 290, 291, 160, 161, 292, 293, 294, 295, 296, 297, 298, 299, 300, 301, 302, 303, 163, 164, 304, 305, 306, 307, 308, 309, 310, 734, 394, 395, 396, 30, 397, 99, 100, 101, 102, 398, 399, 400, 401, 402, 403, 404, 405, 406, 407, 408, 409, 410, 411, 412, 413, 414, 82, 415, 416, 417, 418, 419, 103, 772, 773, 774, 775, 776, 777, 778, 779, 780, 781, 782, 783, 814, 815, 816, 817, 818, 819, 820, 845, 846, 847, 825, 826, 827, 828, 829, 848, 849, 850] (by decide +kernel) (by decide +kernel)
set_option maxRecDepth 20000 in
theorem gL_law_X10_year : GoodIn wsL_law (wsV RL 118 RX10 yX10_year wsX10_year) := goodIn_app (goodIn_of _ (by decide +kernel)) ggL_law_X10_year
set_option maxRecDepth 20000 in
theorem ggL_law_X11_year : GoodIn wsL_law wsX11_year := goodIn_r _ [738, 739, 137, 425, 172, 173, 5, 174, 428, 429, 430, 431, 432, 433, 321, 322, 323, 324, 136, 341, 342, 343, 344, 333, 334, 335, 336, 337, 338, 339, 340, 329, 330, 331, 332, 325, 326, 327, 328, 434, 435, 436, 437, 424, 426, 427, 438, 439, 440, 441, 141, 442, 443, 444, 445, 138, 446, 447, 448, 449, 140, 784, 785, 786, 787, 788, 789, 790, 791, 792, 793, 794, 795, 796, 797, 798, 799, 800, 801, 802, 803, 804, 805, 806, 807, 808, 809, 810, 811, 812, 813] (by decide +kernel) (by decide +kernel)
set_option maxRecDepth 20000 in
theorem gL_law_X11_year : GoodIn wsL_law (wsV RL 121 RX11 yX11_year wsX11_year) := goodIn_app (goodIn_of _ (by decide +kernel)) ggL_law_X11_year
set_option maxRecDepth 20000 in
theorem ggL_law_X10_image : GoodIn wsL_law wsX10_image := goodIn_r _ [743, 15, 19, 156, 157, 2, 158, 744, 745, 746, 747, 17, 18, 546, 259, 260, 14, 261, 53, 54, 55, 56, 60, 64, 65, 262, 263, 264, 265, 266, 59, 267, 70, 71, 72, 268, 269, 270, 63, 271, 84, 85, 79, 772, 773, 774, 775, 776, 777, 778, 779, 780, 781, 782, 783, 814, 815, 816, 817, 818, 819, 820, 845, 846, 847, 848, 849, 850] (by decide +kernel) (by decide +kernel)
set_option maxRecDepth 20000 in
theorem gL_law_X10_image : GoodIn wsL_law (wsV RL 122 RX10 yX10_image wsX10_image) := goodIn_app (goodIn_of _ (by decide +kernel)) ggL_law_X10_image
set_option maxRecDepth 20000 in
theorem ggL_law_X11_image : GoodIn wsL_law wsX11_image := goodIn_r _ [751, 150, 136, 138, 139, 142, 143, 140, 144, 141, 541, 646, 151, 172, 173, 5, 174, 784, 785, 786, 787, 788, 789, 790, 791, 792, 793, 794, 795, 796, 797, 798, 799, 800, 801, 802, 803, 804, 805, 806, 807, 808, 809, 810, 811, 812, 813] (by decide +kernel) (by decide +kernel)
set_option maxRecDepth 20000 in
theorem gL_law_X11_image : GoodIn wsL_law (wsV RL 125 RX11 yX11_image wsX11_image) := goodIn_app (goodIn_of _ (by decide +kernel)) ggL_law_X11_image
set_option maxRecDepth 20000 in
theorem ggL_law_X10_restore : GoodIn wsL_law wsX10_restore := goodIn_r _ [755, 19, 15, 156, 157, 2, 158, 744, 745, 746, 747, 17, 18, 546, 259, 260, 14, 261, 53, 54, 55, 56, 60, 64, 65, 262, 263, 264, 265, 266, 59, 267, 70, 71, 72, 268, 269, 270, 63, 271, 84, 85, 79, 772, 773, 774, 775, 776, 777, 778, 779, 780, 781, 782, 783, 814, 815, 816, 817, 818, 819, 820, 845, 846, 847, 848, 849, 850] (by decide +kernel) (by decide +kernel)
set_option maxRecDepth 20000 in
theorem gL_law_X10_restore : GoodIn wsL_law (wsV RL 126 RX10 yX10_restore wsX10_restore) := goodIn_app (goodIn_of _ (by decide +kernel)) ggL_law_X10_restore
set_option maxRecDepth 20000 in
theorem ggL_law_X11_restore : GoodIn wsL_law wsX11_restore := goodIn_r _ [759, 151, 136, 150, 138, 139, 142, 143, 140, 144, 141, 541, 646, 172, 173, 5, 174, 784, 785, 786, 787, 788, 789, 790, 791, 792, 793, 794, 795, 796, 797, 798, 799, 800, 801, 802, 803, 804, 805, 806, 807, 808, 809, 810, 811, 812, 813] (by decide +kernel) (by decide +kernel)
set_option maxRecDepth 20000 in
theorem gL_law_X11_restore : GoodIn wsL_law (wsV RL 129 RX11 yX11_restore wsX11_restore) := goodIn_app (goodIn_of _ (by decide +kernel)) ggL_law_X11_restore
set_option maxRecDepth 20000 in
theorem ggL_law_X10_told : GoodIn wsL_law wsX10_told := goodIn_r _ [763, 15, 156, 157, 2, 158, 764, 765, 766, 767, 23, 734, 293, 294, 59, 295, 70, 159, 160, 161, 366, 367, 368, 369, 71, 772, 773, 774, 775, 776, 777, 778, 779, 780, 781, 782, 783, 814, 815, 816, 817, 818, 819, 820, 821, 822, 845, 846, 847, 848, 849, 850] (by decide +kernel) (by decide +kernel)
set_option maxRecDepth 20000 in
theorem gL_law_X10_told : GoodIn wsL_law (wsV RL 130 RX10 yX10_told wsX10_told) := goodIn_app (goodIn_of _ (by decide +kernel)) ggL_law_X10_told
set_option maxRecDepth 20000 in
theorem ggL_law_X11_told : GoodIn wsL_law wsX11_told := goodIn_r _ [771, 136, 139, 138, 140, 209, 541, 646, 141, 194, 195, 5, 196, 169, 170, 171, 172, 173, 174, 784, 785, 786, 787, 788, 789, 790, 791, 792, 793, 794, 795, 796, 797, 798, 799, 800, 801, 802, 803, 804, 805, 806, 807, 808, 809, 810, 811, 812, 813] (by decide +kernel) (by decide +kernel)
set_option maxRecDepth 20000 in
theorem gL_law_X11_told : GoodIn wsL_law (wsV RL 133 RX11 yX11_told wsX11_told) := goodIn_app (goodIn_of _ (by decide +kernel)) ggL_law_X11_told
theorem dL_law_0 : decode cL_law 0 = .ok (.new 7, 3) := by decide +kernel
theorem dL_law_3 : decode cL_law 3 = .ok (.dup, 1) := by decide +kernel
theorem dL_law_4 : decode cL_law 4 = .ok (.invokespecial 9, 3) := by decide +kernel
theorem dL_law_7 : decode cL_law 7 = .ok (.astore_n 1, 1) := by decide +kernel
theorem dL_law_8 : decode cL_law 8 = .ok (.new 10, 3) := by decide +kernel
theorem dL_law_11 : decode cL_law 11 = .ok (.dup, 1) := by decide +kernel
theorem dL_law_12 : decode cL_law 12 = .ok (.invokespecial 12, 3) := by decide +kernel
theorem dL_law_15 : decode cL_law 15 = .ok (.astore_n 2, 1) := by decide +kernel
theorem dL_law_16 : decode cL_law 16 = .ok (.iconst 0, 1) := by decide +kernel
theorem dL_law_17 : decode cL_law 17 = .ok (.istore_n 3, 1) := by decide +kernel
theorem dL_law_18 : decode cL_law 18 = .ok (.iload_n 3, 1) := by decide +kernel
theorem dL_law_19 : decode cL_law 19 = .ok (.aload_n 0, 1) := by decide +kernel
theorem dL_law_20 : decode cL_law 20 = .ok (.arraylength, 1) := by decide +kernel
theorem dL_law_21 : decode cL_law 21 = .ok (.iconst 4, 1) := by decide +kernel
theorem dL_law_22 : decode cL_law 22 = .ok (.isub, 1) := by decide +kernel
theorem dL_law_23 : decode cL_law 23 = .ok (.if_icmp .gt 895, 3) := by decide +kernel
theorem dL_law_26 : decode cL_law 26 = .ok (.aload_n 0, 1) := by decide +kernel
theorem dL_law_27 : decode cL_law 27 = .ok (.iload_n 3, 1) := by decide +kernel
theorem dL_law_28 : decode cL_law 28 = .ok (.iaload, 1) := by decide +kernel
theorem dL_law_29 : decode cL_law 29 = .ok (.bipush 31, 2) := by decide +kernel
theorem dL_law_31 : decode cL_law 31 = .ok (.iand, 1) := by decide +kernel
theorem dL_law_32 : decode cL_law 32 = .ok (.tableswitch 880 0 28 #[132, 175, 208, 241, 264, 277, 290, 313, 326, 359, 392, 405, 428, 441, 474, 497, 530, 553, 586, 599, 632, 665, 678, 701, 724, 768, 811, 834, 857], 132) := by decide +kernel
theorem dL_law_164 : decode cL_law 164 = .ok (.aload_n 1, 1) := by decide +kernel
theorem dL_law_165 : decode cL_law 165 = .ok (.aload_n 0, 1) := by decide +kernel
theorem dL_law_166 : decode cL_law 166 = .ok (.iload_n 3, 1) := by decide +kernel
theorem dL_law_167 : decode cL_law 167 = .ok (.iconst 1, 1) := by decide +kernel
theorem dL_law_168 : decode cL_law 168 = .ok (.iadd, 1) := by decide +kernel
theorem dL_law_169 : decode cL_law 169 = .ok (.iaload, 1) := by decide +kernel
theorem dL_law_170 : decode cL_law 170 = .ok (.aload_n 0, 1) := by decide +kernel
theorem dL_law_171 : decode cL_law 171 = .ok (.iload_n 3, 1) := by decide +kernel
theorem dL_law_172 : decode cL_law 172 = .ok (.iconst 2, 1) := by decide +kernel
theorem dL_law_173 : decode cL_law 173 = .ok (.iadd, 1) := by decide +kernel
theorem dL_law_174 : decode cL_law 174 = .ok (.iaload, 1) := by decide +kernel
theorem dL_law_175 : decode cL_law 175 = .ok (.aload_n 0, 1) := by decide +kernel
theorem dL_law_176 : decode cL_law 176 = .ok (.iload_n 3, 1) := by decide +kernel
theorem dL_law_177 : decode cL_law 177 = .ok (.iconst 3, 1) := by decide +kernel
theorem dL_law_178 : decode cL_law 178 = .ok (.iadd, 1) := by decide +kernel
theorem dL_law_179 : decode cL_law 179 = .ok (.iaload, 1) := by decide +kernel
theorem dL_law_180 : decode cL_law 180 = .ok (.invokevirtual 13, 3) := by decide +kernel
theorem dL_law_183 : decode cL_law 183 = .ok (.aload_n 2, 1) := by decide +kernel
theorem dL_law_184 : decode cL_law 184 = .ok (.aload_n 0, 1) := by decide +kernel
theorem dL_law_185 : decode cL_law 185 = .ok (.iload_n 3, 1) := by decide +kernel
theorem dL_law_186 : decode cL_law 186 = .ok (.iconst 1, 1) := by decide +kernel
theorem dL_law_187 : decode cL_law 187 = .ok (.iadd, 1) := by decide +kernel
theorem dL_law_188 : decode cL_law 188 = .ok (.iaload, 1) := by decide +kernel
theorem dL_law_189 : decode cL_law 189 = .ok (.aload_n 0, 1) := by decide +kernel
theorem dL_law_190 : decode cL_law 190 = .ok (.iload_n 3, 1) := by decide +kernel
theorem dL_law_191 : decode cL_law 191 = .ok (.iconst 2, 1) := by decide +kernel
theorem dL_law_192 : decode cL_law 192 = .ok (.iadd, 1) := by decide +kernel
theorem dL_law_193 : decode cL_law 193 = .ok (.iaload, 1) := by decide +kernel
theorem dL_law_194 : decode cL_law 194 = .ok (.aload_n 0, 1) := by decide +kernel
theorem dL_law_195 : decode cL_law 195 = .ok (.iload_n 3, 1) := by decide +kernel
theorem dL_law_196 : decode cL_law 196 = .ok (.iconst 3, 1) := by decide +kernel
theorem dL_law_197 : decode cL_law 197 = .ok (.iadd, 1) := by decide +kernel
theorem dL_law_198 : decode cL_law 198 = .ok (.iaload, 1) := by decide +kernel
theorem dL_law_199 : decode cL_law 199 = .ok (.invokevirtual 17, 3) := by decide +kernel
theorem dL_law_202 : decode cL_law 202 = .ok (.if_icmp .eq 710, 3) := by decide +kernel
theorem dL_law_205 : decode cL_law 205 = .ok (.iconst 0, 1) := by decide +kernel
theorem dL_law_206 : decode cL_law 206 = .ok (.ireturn, 1) := by decide +kernel
theorem dL_law_207 : decode cL_law 207 = .ok (.aload_n 1, 1) := by decide +kernel
theorem dL_law_208 : decode cL_law 208 = .ok (.aload_n 0, 1) := by decide +kernel
theorem dL_law_209 : decode cL_law 209 = .ok (.iload_n 3, 1) := by decide +kernel
theorem dL_law_210 : decode cL_law 210 = .ok (.iconst 1, 1) := by decide +kernel
theorem dL_law_211 : decode cL_law 211 = .ok (.iadd, 1) := by decide +kernel
theorem dL_law_212 : decode cL_law 212 = .ok (.iaload, 1) := by decide +kernel
theorem dL_law_213 : decode cL_law 213 = .ok (.aload_n 0, 1) := by decide +kernel
theorem dL_law_214 : decode cL_law 214 = .ok (.iload_n 3, 1) := by decide +kernel
theorem dL_law_215 : decode cL_law 215 = .ok (.iconst 2, 1) := by decide +kernel
theorem dL_law_216 : decode cL_law 216 = .ok (.iadd, 1) := by decide +kernel
theorem dL_law_217 : decode cL_law 217 = .ok (.iaload, 1) := by decide +kernel
theorem dL_law_218 : decode cL_law 218 = .ok (.invokevirtual 18, 3) := by decide +kernel
theorem dL_law_221 : decode cL_law 221 = .ok (.aload_n 2, 1) := by decide +kernel
theorem dL_law_222 : decode cL_law 222 = .ok (.aload_n 0, 1) := by decide +kernel
theorem dL_law_223 : decode cL_law 223 = .ok (.iload_n 3, 1) := by decide +kernel
theorem dL_law_224 : decode cL_law 224 = .ok (.iconst 1, 1) := by decide +kernel
theorem dL_law_225 : decode cL_law 225 = .ok (.iadd, 1) := by decide +kernel
theorem dL_law_226 : decode cL_law 226 = .ok (.iaload, 1) := by decide +kernel
theorem dL_law_227 : decode cL_law 227 = .ok (.aload_n 0, 1) := by decide +kernel
theorem dL_law_228 : decode cL_law 228 = .ok (.iload_n 3, 1) := by decide +kernel
theorem dL_law_229 : decode cL_law 229 = .ok (.iconst 2, 1) := by decide +kernel
theorem dL_law_230 : decode cL_law 230 = .ok (.iadd, 1) := by decide +kernel
theorem dL_law_231 : decode cL_law 231 = .ok (.iaload, 1) := by decide +kernel
theorem dL_law_232 : decode cL_law 232 = .ok (.invokevirtual 22, 3) := by decide +kernel
theorem dL_law_235 : decode cL_law 235 = .ok (.if_icmp .eq 677, 3) := by decide +kernel
theorem dL_law_238 : decode cL_law 238 = .ok (.iconst 0, 1) := by decide +kernel
theorem dL_law_239 : decode cL_law 239 = .ok (.ireturn, 1) := by decide +kernel
theorem dL_law_240 : decode cL_law 240 = .ok (.aload_n 1, 1) := by decide +kernel
theorem dL_law_241 : decode cL_law 241 = .ok (.aload_n 0, 1) := by decide +kernel
theorem dL_law_242 : decode cL_law 242 = .ok (.iload_n 3, 1) := by decide +kernel
theorem dL_law_243 : decode cL_law 243 = .ok (.iconst 1, 1) := by decide +kernel
theorem dL_law_244 : decode cL_law 244 = .ok (.iadd, 1) := by decide +kernel
theorem dL_law_245 : decode cL_law 245 = .ok (.iaload, 1) := by decide +kernel
theorem dL_law_246 : decode cL_law 246 = .ok (.aload_n 0, 1) := by decide +kernel
theorem dL_law_247 : decode cL_law 247 = .ok (.iload_n 3, 1) := by decide +kernel
theorem dL_law_248 : decode cL_law 248 = .ok (.iconst 2, 1) := by decide +kernel
theorem dL_law_249 : decode cL_law 249 = .ok (.iadd, 1) := by decide +kernel
theorem dL_law_250 : decode cL_law 250 = .ok (.iaload, 1) := by decide +kernel
theorem dL_law_251 : decode cL_law 251 = .ok (.invokevirtual 23, 3) := by decide +kernel
theorem dL_law_254 : decode cL_law 254 = .ok (.aload_n 2, 1) := by decide +kernel
theorem dL_law_255 : decode cL_law 255 = .ok (.aload_n 0, 1) := by decide +kernel
theorem dL_law_256 : decode cL_law 256 = .ok (.iload_n 3, 1) := by decide +kernel
theorem dL_law_257 : decode cL_law 257 = .ok (.iconst 1, 1) := by decide +kernel
theorem dL_law_258 : decode cL_law 258 = .ok (.iadd, 1) := by decide +kernel
theorem dL_law_259 : decode cL_law 259 = .ok (.iaload, 1) := by decide +kernel
theorem dL_law_260 : decode cL_law 260 = .ok (.aload_n 0, 1) := by decide +kernel
theorem dL_law_261 : decode cL_law 261 = .ok (.iload_n 3, 1) := by decide +kernel
theorem dL_law_262 : decode cL_law 262 = .ok (.iconst 2, 1) := by decide +kernel
theorem dL_law_263 : decode cL_law 263 = .ok (.iadd, 1) := by decide +kernel
theorem dL_law_264 : decode cL_law 264 = .ok (.iaload, 1) := by decide +kernel
theorem dL_law_265 : decode cL_law 265 = .ok (.invokevirtual 26, 3) := by decide +kernel
theorem dL_law_268 : decode cL_law 268 = .ok (.if_icmp .eq 644, 3) := by decide +kernel
theorem dL_law_271 : decode cL_law 271 = .ok (.iconst 0, 1) := by decide +kernel
theorem dL_law_272 : decode cL_law 272 = .ok (.ireturn, 1) := by decide +kernel
theorem dL_law_273 : decode cL_law 273 = .ok (.aload_n 1, 1) := by decide +kernel
theorem dL_law_274 : decode cL_law 274 = .ok (.aload_n 0, 1) := by decide +kernel
theorem dL_law_275 : decode cL_law 275 = .ok (.iload_n 3, 1) := by decide +kernel
theorem dL_law_276 : decode cL_law 276 = .ok (.iconst 1, 1) := by decide +kernel
theorem dL_law_277 : decode cL_law 277 = .ok (.iadd, 1) := by decide +kernel
theorem dL_law_278 : decode cL_law 278 = .ok (.iaload, 1) := by decide +kernel
theorem dL_law_279 : decode cL_law 279 = .ok (.invokevirtual 27, 3) := by decide +kernel
theorem dL_law_282 : decode cL_law 282 = .ok (.aload_n 2, 1) := by decide +kernel
theorem dL_law_283 : decode cL_law 283 = .ok (.aload_n 0, 1) := by decide +kernel
theorem dL_law_284 : decode cL_law 284 = .ok (.iload_n 3, 1) := by decide +kernel
theorem dL_law_285 : decode cL_law 285 = .ok (.iconst 1, 1) := by decide +kernel
theorem dL_law_286 : decode cL_law 286 = .ok (.iadd, 1) := by decide +kernel
theorem dL_law_287 : decode cL_law 287 = .ok (.iaload, 1) := by decide +kernel
theorem dL_law_288 : decode cL_law 288 = .ok (.invokevirtual 31, 3) := by decide +kernel
theorem dL_law_291 : decode cL_law 291 = .ok (.if_icmp .eq 621, 3) := by decide +kernel
theorem dL_law_294 : decode cL_law 294 = .ok (.iconst 0, 1) := by decide +kernel
theorem dL_law_295 : decode cL_law 295 = .ok (.ireturn, 1) := by decide +kernel
theorem dL_law_296 : decode cL_law 296 = .ok (.aload_n 1, 1) := by decide +kernel
theorem dL_law_297 : decode cL_law 297 = .ok (.invokevirtual 32, 3) := by decide +kernel
theorem dL_law_300 : decode cL_law 300 = .ok (.aload_n 2, 1) := by decide +kernel
theorem dL_law_301 : decode cL_law 301 = .ok (.invokevirtual 36, 3) := by decide +kernel
theorem dL_law_304 : decode cL_law 304 = .ok (.if_icmp .eq 608, 3) := by decide +kernel
theorem dL_law_307 : decode cL_law 307 = .ok (.iconst 0, 1) := by decide +kernel
theorem dL_law_308 : decode cL_law 308 = .ok (.ireturn, 1) := by decide +kernel
theorem dL_law_309 : decode cL_law 309 = .ok (.aload_n 1, 1) := by decide +kernel
theorem dL_law_310 : decode cL_law 310 = .ok (.invokevirtual 37, 3) := by decide +kernel
theorem dL_law_313 : decode cL_law 313 = .ok (.aload_n 2, 1) := by decide +kernel
theorem dL_law_314 : decode cL_law 314 = .ok (.invokevirtual 40, 3) := by decide +kernel
theorem dL_law_317 : decode cL_law 317 = .ok (.if_icmp .eq 595, 3) := by decide +kernel
theorem dL_law_320 : decode cL_law 320 = .ok (.iconst 0, 1) := by decide +kernel
theorem dL_law_321 : decode cL_law 321 = .ok (.ireturn, 1) := by decide +kernel
theorem dL_law_322 : decode cL_law 322 = .ok (.aload_n 1, 1) := by decide +kernel
theorem dL_law_323 : decode cL_law 323 = .ok (.aload_n 0, 1) := by decide +kernel
theorem dL_law_324 : decode cL_law 324 = .ok (.iload_n 3, 1) := by decide +kernel
theorem dL_law_325 : decode cL_law 325 = .ok (.iconst 1, 1) := by decide +kernel
theorem dL_law_326 : decode cL_law 326 = .ok (.iadd, 1) := by decide +kernel
theorem dL_law_327 : decode cL_law 327 = .ok (.iaload, 1) := by decide +kernel
theorem dL_law_328 : decode cL_law 328 = .ok (.invokevirtual 41, 3) := by decide +kernel
theorem dL_law_331 : decode cL_law 331 = .ok (.aload_n 2, 1) := by decide +kernel
theorem dL_law_332 : decode cL_law 332 = .ok (.aload_n 0, 1) := by decide +kernel
theorem dL_law_333 : decode cL_law 333 = .ok (.iload_n 3, 1) := by decide +kernel
theorem dL_law_334 : decode cL_law 334 = .ok (.iconst 1, 1) := by decide +kernel
theorem dL_law_335 : decode cL_law 335 = .ok (.iadd, 1) := by decide +kernel
theorem dL_law_336 : decode cL_law 336 = .ok (.iaload, 1) := by decide +kernel
theorem dL_law_337 : decode cL_law 337 = .ok (.invokevirtual 44, 3) := by decide +kernel
theorem dL_law_340 : decode cL_law 340 = .ok (.if_icmp .eq 572, 3) := by decide +kernel
theorem dL_law_343 : decode cL_law 343 = .ok (.iconst 0, 1) := by decide +kernel
theorem dL_law_344 : decode cL_law 344 = .ok (.ireturn, 1) := by decide +kernel
theorem dL_law_345 : decode cL_law 345 = .ok (.aload_n 1, 1) := by decide +kernel
theorem dL_law_346 : decode cL_law 346 = .ok (.invokevirtual 45, 3) := by decide +kernel
theorem dL_law_349 : decode cL_law 349 = .ok (.aload_n 2, 1) := by decide +kernel
theorem dL_law_350 : decode cL_law 350 = .ok (.invokevirtual 48, 3) := by decide +kernel
theorem dL_law_353 : decode cL_law 353 = .ok (.if_icmp .eq 559, 3) := by decide +kernel
theorem dL_law_356 : decode cL_law 356 = .ok (.iconst 0, 1) := by decide +kernel
theorem dL_law_357 : decode cL_law 357 = .ok (.ireturn, 1) := by decide +kernel
theorem dL_law_358 : decode cL_law 358 = .ok (.aload_n 1, 1) := by decide +kernel
theorem dL_law_359 : decode cL_law 359 = .ok (.aload_n 0, 1) := by decide +kernel
theorem dL_law_360 : decode cL_law 360 = .ok (.iload_n 3, 1) := by decide +kernel
theorem dL_law_361 : decode cL_law 361 = .ok (.iconst 1, 1) := by decide +kernel
theorem dL_law_362 : decode cL_law 362 = .ok (.iadd, 1) := by decide +kernel
theorem dL_law_363 : decode cL_law 363 = .ok (.iaload, 1) := by decide +kernel
theorem dL_law_364 : decode cL_law 364 = .ok (.aload_n 0, 1) := by decide +kernel
theorem dL_law_365 : decode cL_law 365 = .ok (.iload_n 3, 1) := by decide +kernel
theorem dL_law_366 : decode cL_law 366 = .ok (.iconst 2, 1) := by decide +kernel
theorem dL_law_367 : decode cL_law 367 = .ok (.iadd, 1) := by decide +kernel
theorem dL_law_368 : decode cL_law 368 = .ok (.iaload, 1) := by decide +kernel
theorem dL_law_369 : decode cL_law 369 = .ok (.invokevirtual 49, 3) := by decide +kernel
theorem dL_law_372 : decode cL_law 372 = .ok (.aload_n 2, 1) := by decide +kernel
theorem dL_law_373 : decode cL_law 373 = .ok (.aload_n 0, 1) := by decide +kernel
theorem dL_law_374 : decode cL_law 374 = .ok (.iload_n 3, 1) := by decide +kernel
theorem dL_law_375 : decode cL_law 375 = .ok (.iconst 1, 1) := by decide +kernel
theorem dL_law_376 : decode cL_law 376 = .ok (.iadd, 1) := by decide +kernel
theorem dL_law_377 : decode cL_law 377 = .ok (.iaload, 1) := by decide +kernel
theorem dL_law_378 : decode cL_law 378 = .ok (.aload_n 0, 1) := by decide +kernel
theorem dL_law_379 : decode cL_law 379 = .ok (.iload_n 3, 1) := by decide +kernel
theorem dL_law_380 : decode cL_law 380 = .ok (.iconst 2, 1) := by decide +kernel
theorem dL_law_381 : decode cL_law 381 = .ok (.iadd, 1) := by decide +kernel
theorem dL_law_382 : decode cL_law 382 = .ok (.iaload, 1) := by decide +kernel
theorem dL_law_383 : decode cL_law 383 = .ok (.invokevirtual 52, 3) := by decide +kernel
theorem dL_law_386 : decode cL_law 386 = .ok (.if_icmp .eq 526, 3) := by decide +kernel
theorem dL_law_389 : decode cL_law 389 = .ok (.iconst 0, 1) := by decide +kernel
theorem dL_law_390 : decode cL_law 390 = .ok (.ireturn, 1) := by decide +kernel
theorem dL_law_391 : decode cL_law 391 = .ok (.aload_n 1, 1) := by decide +kernel
theorem dL_law_392 : decode cL_law 392 = .ok (.aload_n 0, 1) := by decide +kernel
theorem dL_law_393 : decode cL_law 393 = .ok (.iload_n 3, 1) := by decide +kernel
theorem dL_law_394 : decode cL_law 394 = .ok (.iconst 1, 1) := by decide +kernel
theorem dL_law_395 : decode cL_law 395 = .ok (.iadd, 1) := by decide +kernel
theorem dL_law_396 : decode cL_law 396 = .ok (.iaload, 1) := by decide +kernel
theorem dL_law_397 : decode cL_law 397 = .ok (.aload_n 0, 1) := by decide +kernel
theorem dL_law_398 : decode cL_law 398 = .ok (.iload_n 3, 1) := by decide +kernel
theorem dL_law_399 : decode cL_law 399 = .ok (.iconst 2, 1) := by decide +kernel
theorem dL_law_400 : decode cL_law 400 = .ok (.iadd, 1) := by decide +kernel
theorem dL_law_401 : decode cL_law 401 = .ok (.iaload, 1) := by decide +kernel
theorem dL_law_402 : decode cL_law 402 = .ok (.invokevirtual 53, 3) := by decide +kernel
theorem dL_law_405 : decode cL_law 405 = .ok (.aload_n 2, 1) := by decide +kernel
theorem dL_law_406 : decode cL_law 406 = .ok (.aload_n 0, 1) := by decide +kernel
theorem dL_law_407 : decode cL_law 407 = .ok (.iload_n 3, 1) := by decide +kernel
theorem dL_law_408 : decode cL_law 408 = .ok (.iconst 1, 1) := by decide +kernel
theorem dL_law_409 : decode cL_law 409 = .ok (.iadd, 1) := by decide +kernel
theorem dL_law_410 : decode cL_law 410 = .ok (.iaload, 1) := by decide +kernel
theorem dL_law_411 : decode cL_law 411 = .ok (.aload_n 0, 1) := by decide +kernel
theorem dL_law_412 : decode cL_law 412 = .ok (.iload_n 3, 1) := by decide +kernel
theorem dL_law_413 : decode cL_law 413 = .ok (.iconst 2, 1) := by decide +kernel
theorem dL_law_414 : decode cL_law 414 = .ok (.iadd, 1) := by decide +kernel
theorem dL_law_415 : decode cL_law 415 = .ok (.iaload, 1) := by decide +kernel
theorem dL_law_416 : decode cL_law 416 = .ok (.invokevirtual 56, 3) := by decide +kernel
theorem dL_law_419 : decode cL_law 419 = .ok (.if_icmp .eq 493, 3) := by decide +kernel
theorem dL_law_422 : decode cL_law 422 = .ok (.iconst 0, 1) := by decide +kernel
theorem dL_law_423 : decode cL_law 423 = .ok (.ireturn, 1) := by decide +kernel
theorem dL_law_424 : decode cL_law 424 = .ok (.aload_n 1, 1) := by decide +kernel
theorem dL_law_425 : decode cL_law 425 = .ok (.invokevirtual 57, 3) := by decide +kernel
theorem dL_law_428 : decode cL_law 428 = .ok (.aload_n 2, 1) := by decide +kernel
theorem dL_law_429 : decode cL_law 429 = .ok (.invokevirtual 60, 3) := by decide +kernel
theorem dL_law_432 : decode cL_law 432 = .ok (.if_icmp .eq 480, 3) := by decide +kernel
theorem dL_law_435 : decode cL_law 435 = .ok (.iconst 0, 1) := by decide +kernel
theorem dL_law_436 : decode cL_law 436 = .ok (.ireturn, 1) := by decide +kernel
theorem dL_law_437 : decode cL_law 437 = .ok (.aload_n 1, 1) := by decide +kernel
theorem dL_law_438 : decode cL_law 438 = .ok (.aload_n 0, 1) := by decide +kernel
theorem dL_law_439 : decode cL_law 439 = .ok (.iload_n 3, 1) := by decide +kernel
theorem dL_law_440 : decode cL_law 440 = .ok (.iconst 1, 1) := by decide +kernel
theorem dL_law_441 : decode cL_law 441 = .ok (.iadd, 1) := by decide +kernel
theorem dL_law_442 : decode cL_law 442 = .ok (.iaload, 1) := by decide +kernel
theorem dL_law_443 : decode cL_law 443 = .ok (.invokevirtual 61, 3) := by decide +kernel
theorem dL_law_446 : decode cL_law 446 = .ok (.aload_n 2, 1) := by decide +kernel
theorem dL_law_447 : decode cL_law 447 = .ok (.aload_n 0, 1) := by decide +kernel
theorem dL_law_448 : decode cL_law 448 = .ok (.iload_n 3, 1) := by decide +kernel
theorem dL_law_449 : decode cL_law 449 = .ok (.iconst 1, 1) := by decide +kernel
theorem dL_law_450 : decode cL_law 450 = .ok (.iadd, 1) := by decide +kernel
theorem dL_law_451 : decode cL_law 451 = .ok (.iaload, 1) := by decide +kernel
theorem dL_law_452 : decode cL_law 452 = .ok (.invokevirtual 64, 3) := by decide +kernel
theorem dL_law_455 : decode cL_law 455 = .ok (.if_icmp .eq 457, 3) := by decide +kernel
theorem dL_law_458 : decode cL_law 458 = .ok (.iconst 0, 1) := by decide +kernel
theorem dL_law_459 : decode cL_law 459 = .ok (.ireturn, 1) := by decide +kernel
theorem dL_law_460 : decode cL_law 460 = .ok (.aload_n 1, 1) := by decide +kernel
theorem dL_law_461 : decode cL_law 461 = .ok (.invokevirtual 65, 3) := by decide +kernel
theorem dL_law_464 : decode cL_law 464 = .ok (.aload_n 2, 1) := by decide +kernel
theorem dL_law_465 : decode cL_law 465 = .ok (.invokevirtual 68, 3) := by decide +kernel
theorem dL_law_468 : decode cL_law 468 = .ok (.if_icmp .eq 444, 3) := by decide +kernel
theorem dL_law_471 : decode cL_law 471 = .ok (.iconst 0, 1) := by decide +kernel
theorem dL_law_472 : decode cL_law 472 = .ok (.ireturn, 1) := by decide +kernel
theorem dL_law_473 : decode cL_law 473 = .ok (.aload_n 1, 1) := by decide +kernel
theorem dL_law_474 : decode cL_law 474 = .ok (.aload_n 0, 1) := by decide +kernel
theorem dL_law_475 : decode cL_law 475 = .ok (.iload_n 3, 1) := by decide +kernel
theorem dL_law_476 : decode cL_law 476 = .ok (.iconst 1, 1) := by decide +kernel
theorem dL_law_477 : decode cL_law 477 = .ok (.iadd, 1) := by decide +kernel
theorem dL_law_478 : decode cL_law 478 = .ok (.iaload, 1) := by decide +kernel
theorem dL_law_479 : decode cL_law 479 = .ok (.aload_n 0, 1) := by decide +kernel
theorem dL_law_480 : decode cL_law 480 = .ok (.iload_n 3, 1) := by decide +kernel
theorem dL_law_481 : decode cL_law 481 = .ok (.iconst 2, 1) := by decide +kernel
theorem dL_law_482 : decode cL_law 482 = .ok (.iadd, 1) := by decide +kernel
theorem dL_law_483 : decode cL_law 483 = .ok (.iaload, 1) := by decide +kernel
theorem dL_law_484 : decode cL_law 484 = .ok (.invokevirtual 69, 3) := by decide +kernel
theorem dL_law_487 : decode cL_law 487 = .ok (.aload_n 2, 1) := by decide +kernel
theorem dL_law_488 : decode cL_law 488 = .ok (.aload_n 0, 1) := by decide +kernel
theorem dL_law_489 : decode cL_law 489 = .ok (.iload_n 3, 1) := by decide +kernel
theorem dL_law_490 : decode cL_law 490 = .ok (.iconst 1, 1) := by decide +kernel
theorem dL_law_491 : decode cL_law 491 = .ok (.iadd, 1) := by decide +kernel
theorem dL_law_492 : decode cL_law 492 = .ok (.iaload, 1) := by decide +kernel
theorem dL_law_493 : decode cL_law 493 = .ok (.aload_n 0, 1) := by decide +kernel
theorem dL_law_494 : decode cL_law 494 = .ok (.iload_n 3, 1) := by decide +kernel
theorem dL_law_495 : decode cL_law 495 = .ok (.iconst 2, 1) := by decide +kernel
theorem dL_law_496 : decode cL_law 496 = .ok (.iadd, 1) := by decide +kernel
theorem dL_law_497 : decode cL_law 497 = .ok (.iaload, 1) := by decide +kernel
theorem dL_law_498 : decode cL_law 498 = .ok (.invokevirtual 72, 3) := by decide +kernel
theorem dL_law_501 : decode cL_law 501 = .ok (.if_icmp .eq 411, 3) := by decide +kernel
theorem dL_law_504 : decode cL_law 504 = .ok (.iconst 0, 1) := by decide +kernel
theorem dL_law_505 : decode cL_law 505 = .ok (.ireturn, 1) := by decide +kernel
theorem dL_law_506 : decode cL_law 506 = .ok (.aload_n 1, 1) := by decide +kernel
theorem dL_law_507 : decode cL_law 507 = .ok (.aload_n 0, 1) := by decide +kernel
theorem dL_law_508 : decode cL_law 508 = .ok (.iload_n 3, 1) := by decide +kernel
theorem dL_law_509 : decode cL_law 509 = .ok (.iconst 1, 1) := by decide +kernel
theorem dL_law_510 : decode cL_law 510 = .ok (.iadd, 1) := by decide +kernel
theorem dL_law_511 : decode cL_law 511 = .ok (.iaload, 1) := by decide +kernel
theorem dL_law_512 : decode cL_law 512 = .ok (.invokevirtual 73, 3) := by decide +kernel
theorem dL_law_515 : decode cL_law 515 = .ok (.aload_n 2, 1) := by decide +kernel
theorem dL_law_516 : decode cL_law 516 = .ok (.aload_n 0, 1) := by decide +kernel
theorem dL_law_517 : decode cL_law 517 = .ok (.iload_n 3, 1) := by decide +kernel
theorem dL_law_518 : decode cL_law 518 = .ok (.iconst 1, 1) := by decide +kernel
theorem dL_law_519 : decode cL_law 519 = .ok (.iadd, 1) := by decide +kernel
theorem dL_law_520 : decode cL_law 520 = .ok (.iaload, 1) := by decide +kernel
theorem dL_law_521 : decode cL_law 521 = .ok (.invokevirtual 76, 3) := by decide +kernel
theorem dL_law_524 : decode cL_law 524 = .ok (.if_icmp .eq 388, 3) := by decide +kernel
theorem dL_law_527 : decode cL_law 527 = .ok (.iconst 0, 1) := by decide +kernel
theorem dL_law_528 : decode cL_law 528 = .ok (.ireturn, 1) := by decide +kernel
theorem dL_law_529 : decode cL_law 529 = .ok (.aload_n 1, 1) := by decide +kernel
theorem dL_law_530 : decode cL_law 530 = .ok (.aload_n 0, 1) := by decide +kernel
theorem dL_law_531 : decode cL_law 531 = .ok (.iload_n 3, 1) := by decide +kernel
theorem dL_law_532 : decode cL_law 532 = .ok (.iconst 1, 1) := by decide +kernel
theorem dL_law_533 : decode cL_law 533 = .ok (.iadd, 1) := by decide +kernel
theorem dL_law_534 : decode cL_law 534 = .ok (.iaload, 1) := by decide +kernel
theorem dL_law_535 : decode cL_law 535 = .ok (.aload_n 0, 1) := by decide +kernel
theorem dL_law_536 : decode cL_law 536 = .ok (.iload_n 3, 1) := by decide +kernel
theorem dL_law_537 : decode cL_law 537 = .ok (.iconst 2, 1) := by decide +kernel
theorem dL_law_538 : decode cL_law 538 = .ok (.iadd, 1) := by decide +kernel
theorem dL_law_539 : decode cL_law 539 = .ok (.iaload, 1) := by decide +kernel
theorem dL_law_540 : decode cL_law 540 = .ok (.invokevirtual 77, 3) := by decide +kernel
theorem dL_law_543 : decode cL_law 543 = .ok (.aload_n 2, 1) := by decide +kernel
theorem dL_law_544 : decode cL_law 544 = .ok (.aload_n 0, 1) := by decide +kernel
theorem dL_law_545 : decode cL_law 545 = .ok (.iload_n 3, 1) := by decide +kernel
theorem dL_law_546 : decode cL_law 546 = .ok (.iconst 1, 1) := by decide +kernel
theorem dL_law_547 : decode cL_law 547 = .ok (.iadd, 1) := by decide +kernel
theorem dL_law_548 : decode cL_law 548 = .ok (.iaload, 1) := by decide +kernel
theorem dL_law_549 : decode cL_law 549 = .ok (.aload_n 0, 1) := by decide +kernel
theorem dL_law_550 : decode cL_law 550 = .ok (.iload_n 3, 1) := by decide +kernel
theorem dL_law_551 : decode cL_law 551 = .ok (.iconst 2, 1) := by decide +kernel
theorem dL_law_552 : decode cL_law 552 = .ok (.iadd, 1) := by decide +kernel
theorem dL_law_553 : decode cL_law 553 = .ok (.iaload, 1) := by decide +kernel
theorem dL_law_554 : decode cL_law 554 = .ok (.invokevirtual 80, 3) := by decide +kernel
theorem dL_law_557 : decode cL_law 557 = .ok (.if_icmp .eq 355, 3) := by decide +kernel
theorem dL_law_560 : decode cL_law 560 = .ok (.iconst 0, 1) := by decide +kernel
theorem dL_law_561 : decode cL_law 561 = .ok (.ireturn, 1) := by decide +kernel
theorem dL_law_562 : decode cL_law 562 = .ok (.aload_n 1, 1) := by decide +kernel
theorem dL_law_563 : decode cL_law 563 = .ok (.aload_n 0, 1) := by decide +kernel
theorem dL_law_564 : decode cL_law 564 = .ok (.iload_n 3, 1) := by decide +kernel
theorem dL_law_565 : decode cL_law 565 = .ok (.iconst 1, 1) := by decide +kernel
theorem dL_law_566 : decode cL_law 566 = .ok (.iadd, 1) := by decide +kernel
theorem dL_law_567 : decode cL_law 567 = .ok (.iaload, 1) := by decide +kernel
theorem dL_law_568 : decode cL_law 568 = .ok (.invokevirtual 81, 3) := by decide +kernel
theorem dL_law_571 : decode cL_law 571 = .ok (.aload_n 2, 1) := by decide +kernel
theorem dL_law_572 : decode cL_law 572 = .ok (.aload_n 0, 1) := by decide +kernel
theorem dL_law_573 : decode cL_law 573 = .ok (.iload_n 3, 1) := by decide +kernel
theorem dL_law_574 : decode cL_law 574 = .ok (.iconst 1, 1) := by decide +kernel
theorem dL_law_575 : decode cL_law 575 = .ok (.iadd, 1) := by decide +kernel
theorem dL_law_576 : decode cL_law 576 = .ok (.iaload, 1) := by decide +kernel
theorem dL_law_577 : decode cL_law 577 = .ok (.invokevirtual 84, 3) := by decide +kernel
theorem dL_law_580 : decode cL_law 580 = .ok (.if_icmp .eq 332, 3) := by decide +kernel
theorem dL_law_583 : decode cL_law 583 = .ok (.iconst 0, 1) := by decide +kernel
theorem dL_law_584 : decode cL_law 584 = .ok (.ireturn, 1) := by decide +kernel
theorem dL_law_585 : decode cL_law 585 = .ok (.aload_n 1, 1) := by decide +kernel
theorem dL_law_586 : decode cL_law 586 = .ok (.aload_n 0, 1) := by decide +kernel
theorem dL_law_587 : decode cL_law 587 = .ok (.iload_n 3, 1) := by decide +kernel
theorem dL_law_588 : decode cL_law 588 = .ok (.iconst 1, 1) := by decide +kernel
theorem dL_law_589 : decode cL_law 589 = .ok (.iadd, 1) := by decide +kernel
theorem dL_law_590 : decode cL_law 590 = .ok (.iaload, 1) := by decide +kernel
theorem dL_law_591 : decode cL_law 591 = .ok (.aload_n 0, 1) := by decide +kernel
theorem dL_law_592 : decode cL_law 592 = .ok (.iload_n 3, 1) := by decide +kernel
theorem dL_law_593 : decode cL_law 593 = .ok (.iconst 2, 1) := by decide +kernel
theorem dL_law_594 : decode cL_law 594 = .ok (.iadd, 1) := by decide +kernel
theorem dL_law_595 : decode cL_law 595 = .ok (.iaload, 1) := by decide +kernel
theorem dL_law_596 : decode cL_law 596 = .ok (.invokevirtual 85, 3) := by decide +kernel
theorem dL_law_599 : decode cL_law 599 = .ok (.aload_n 2, 1) := by decide +kernel
theorem dL_law_600 : decode cL_law 600 = .ok (.aload_n 0, 1) := by decide +kernel
theorem dL_law_601 : decode cL_law 601 = .ok (.iload_n 3, 1) := by decide +kernel
theorem dL_law_602 : decode cL_law 602 = .ok (.iconst 1, 1) := by decide +kernel
theorem dL_law_603 : decode cL_law 603 = .ok (.iadd, 1) := by decide +kernel
theorem dL_law_604 : decode cL_law 604 = .ok (.iaload, 1) := by decide +kernel
theorem dL_law_605 : decode cL_law 605 = .ok (.aload_n 0, 1) := by decide +kernel
theorem dL_law_606 : decode cL_law 606 = .ok (.iload_n 3, 1) := by decide +kernel
theorem dL_law_607 : decode cL_law 607 = .ok (.iconst 2, 1) := by decide +kernel
theorem dL_law_608 : decode cL_law 608 = .ok (.iadd, 1) := by decide +kernel
theorem dL_law_609 : decode cL_law 609 = .ok (.iaload, 1) := by decide +kernel
theorem dL_law_610 : decode cL_law 610 = .ok (.invokevirtual 88, 3) := by decide +kernel
theorem dL_law_613 : decode cL_law 613 = .ok (.if_icmp .eq 299, 3) := by decide +kernel
theorem dL_law_616 : decode cL_law 616 = .ok (.iconst 0, 1) := by decide +kernel
theorem dL_law_617 : decode cL_law 617 = .ok (.ireturn, 1) := by decide +kernel
theorem dL_law_618 : decode cL_law 618 = .ok (.aload_n 1, 1) := by decide +kernel
theorem dL_law_619 : decode cL_law 619 = .ok (.invokevirtual 89, 3) := by decide +kernel
theorem dL_law_622 : decode cL_law 622 = .ok (.aload_n 2, 1) := by decide +kernel
theorem dL_law_623 : decode cL_law 623 = .ok (.invokevirtual 92, 3) := by decide +kernel
theorem dL_law_626 : decode cL_law 626 = .ok (.if_icmp .eq 286, 3) := by decide +kernel
theorem dL_law_629 : decode cL_law 629 = .ok (.iconst 0, 1) := by decide +kernel
theorem dL_law_630 : decode cL_law 630 = .ok (.ireturn, 1) := by decide +kernel
theorem dL_law_631 : decode cL_law 631 = .ok (.aload_n 1, 1) := by decide +kernel
theorem dL_law_632 : decode cL_law 632 = .ok (.aload_n 0, 1) := by decide +kernel
theorem dL_law_633 : decode cL_law 633 = .ok (.iload_n 3, 1) := by decide +kernel
theorem dL_law_634 : decode cL_law 634 = .ok (.iconst 1, 1) := by decide +kernel
theorem dL_law_635 : decode cL_law 635 = .ok (.iadd, 1) := by decide +kernel
theorem dL_law_636 : decode cL_law 636 = .ok (.iaload, 1) := by decide +kernel
theorem dL_law_637 : decode cL_law 637 = .ok (.aload_n 0, 1) := by decide +kernel
theorem dL_law_638 : decode cL_law 638 = .ok (.iload_n 3, 1) := by decide +kernel
theorem dL_law_639 : decode cL_law 639 = .ok (.iconst 2, 1) := by decide +kernel
theorem dL_law_640 : decode cL_law 640 = .ok (.iadd, 1) := by decide +kernel
theorem dL_law_641 : decode cL_law 641 = .ok (.iaload, 1) := by decide +kernel
theorem dL_law_642 : decode cL_law 642 = .ok (.invokevirtual 93, 3) := by decide +kernel
theorem dL_law_645 : decode cL_law 645 = .ok (.aload_n 2, 1) := by decide +kernel
theorem dL_law_646 : decode cL_law 646 = .ok (.aload_n 0, 1) := by decide +kernel
theorem dL_law_647 : decode cL_law 647 = .ok (.iload_n 3, 1) := by decide +kernel
theorem dL_law_648 : decode cL_law 648 = .ok (.iconst 1, 1) := by decide +kernel
theorem dL_law_649 : decode cL_law 649 = .ok (.iadd, 1) := by decide +kernel
theorem dL_law_650 : decode cL_law 650 = .ok (.iaload, 1) := by decide +kernel
theorem dL_law_651 : decode cL_law 651 = .ok (.aload_n 0, 1) := by decide +kernel
theorem dL_law_652 : decode cL_law 652 = .ok (.iload_n 3, 1) := by decide +kernel
theorem dL_law_653 : decode cL_law 653 = .ok (.iconst 2, 1) := by decide +kernel
theorem dL_law_654 : decode cL_law 654 = .ok (.iadd, 1) := by decide +kernel
theorem dL_law_655 : decode cL_law 655 = .ok (.iaload, 1) := by decide +kernel
theorem dL_law_656 : decode cL_law 656 = .ok (.invokevirtual 96, 3) := by decide +kernel
theorem dL_law_659 : decode cL_law 659 = .ok (.if_icmp .eq 253, 3) := by decide +kernel
theorem dL_law_662 : decode cL_law 662 = .ok (.iconst 0, 1) := by decide +kernel
theorem dL_law_663 : decode cL_law 663 = .ok (.ireturn, 1) := by decide +kernel
theorem dL_law_664 : decode cL_law 664 = .ok (.aload_n 1, 1) := by decide +kernel
theorem dL_law_665 : decode cL_law 665 = .ok (.aload_n 0, 1) := by decide +kernel
theorem dL_law_666 : decode cL_law 666 = .ok (.iload_n 3, 1) := by decide +kernel
theorem dL_law_667 : decode cL_law 667 = .ok (.iconst 1, 1) := by decide +kernel
theorem dL_law_668 : decode cL_law 668 = .ok (.iadd, 1) := by decide +kernel
theorem dL_law_669 : decode cL_law 669 = .ok (.iaload, 1) := by decide +kernel
theorem dL_law_670 : decode cL_law 670 = .ok (.aload_n 0, 1) := by decide +kernel
theorem dL_law_671 : decode cL_law 671 = .ok (.iload_n 3, 1) := by decide +kernel
theorem dL_law_672 : decode cL_law 672 = .ok (.iconst 2, 1) := by decide +kernel
theorem dL_law_673 : decode cL_law 673 = .ok (.iadd, 1) := by decide +kernel
theorem dL_law_674 : decode cL_law 674 = .ok (.iaload, 1) := by decide +kernel
theorem dL_law_675 : decode cL_law 675 = .ok (.invokevirtual 97, 3) := by decide +kernel
theorem dL_law_678 : decode cL_law 678 = .ok (.aload_n 2, 1) := by decide +kernel
theorem dL_law_679 : decode cL_law 679 = .ok (.aload_n 0, 1) := by decide +kernel
theorem dL_law_680 : decode cL_law 680 = .ok (.iload_n 3, 1) := by decide +kernel
theorem dL_law_681 : decode cL_law 681 = .ok (.iconst 1, 1) := by decide +kernel
theorem dL_law_682 : decode cL_law 682 = .ok (.iadd, 1) := by decide +kernel
theorem dL_law_683 : decode cL_law 683 = .ok (.iaload, 1) := by decide +kernel
theorem dL_law_684 : decode cL_law 684 = .ok (.aload_n 0, 1) := by decide +kernel
theorem dL_law_685 : decode cL_law 685 = .ok (.iload_n 3, 1) := by decide +kernel
theorem dL_law_686 : decode cL_law 686 = .ok (.iconst 2, 1) := by decide +kernel
theorem dL_law_687 : decode cL_law 687 = .ok (.iadd, 1) := by decide +kernel
theorem dL_law_688 : decode cL_law 688 = .ok (.iaload, 1) := by decide +kernel
theorem dL_law_689 : decode cL_law 689 = .ok (.invokevirtual 100, 3) := by decide +kernel
theorem dL_law_692 : decode cL_law 692 = .ok (.if_icmp .eq 220, 3) := by decide +kernel
theorem dL_law_695 : decode cL_law 695 = .ok (.iconst 0, 1) := by decide +kernel
theorem dL_law_696 : decode cL_law 696 = .ok (.ireturn, 1) := by decide +kernel
theorem dL_law_697 : decode cL_law 697 = .ok (.aload_n 1, 1) := by decide +kernel
theorem dL_law_698 : decode cL_law 698 = .ok (.invokevirtual 101, 3) := by decide +kernel
theorem dL_law_701 : decode cL_law 701 = .ok (.aload_n 2, 1) := by decide +kernel
theorem dL_law_702 : decode cL_law 702 = .ok (.invokevirtual 104, 3) := by decide +kernel
theorem dL_law_705 : decode cL_law 705 = .ok (.if_icmp .eq 207, 3) := by decide +kernel
theorem dL_law_708 : decode cL_law 708 = .ok (.iconst 0, 1) := by decide +kernel
theorem dL_law_709 : decode cL_law 709 = .ok (.ireturn, 1) := by decide +kernel
theorem dL_law_710 : decode cL_law 710 = .ok (.aload_n 1, 1) := by decide +kernel
theorem dL_law_711 : decode cL_law 711 = .ok (.aload_n 0, 1) := by decide +kernel
theorem dL_law_712 : decode cL_law 712 = .ok (.iload_n 3, 1) := by decide +kernel
theorem dL_law_713 : decode cL_law 713 = .ok (.iconst 1, 1) := by decide +kernel
theorem dL_law_714 : decode cL_law 714 = .ok (.iadd, 1) := by decide +kernel
theorem dL_law_715 : decode cL_law 715 = .ok (.iaload, 1) := by decide +kernel
theorem dL_law_716 : decode cL_law 716 = .ok (.invokevirtual 105, 3) := by decide +kernel
theorem dL_law_719 : decode cL_law 719 = .ok (.aload_n 2, 1) := by decide +kernel
theorem dL_law_720 : decode cL_law 720 = .ok (.aload_n 0, 1) := by decide +kernel
theorem dL_law_721 : decode cL_law 721 = .ok (.iload_n 3, 1) := by decide +kernel
theorem dL_law_722 : decode cL_law 722 = .ok (.iconst 1, 1) := by decide +kernel
theorem dL_law_723 : decode cL_law 723 = .ok (.iadd, 1) := by decide +kernel
theorem dL_law_724 : decode cL_law 724 = .ok (.iaload, 1) := by decide +kernel
theorem dL_law_725 : decode cL_law 725 = .ok (.invokevirtual 108, 3) := by decide +kernel
theorem dL_law_728 : decode cL_law 728 = .ok (.if_icmp .eq 184, 3) := by decide +kernel
theorem dL_law_731 : decode cL_law 731 = .ok (.iconst 0, 1) := by decide +kernel
theorem dL_law_732 : decode cL_law 732 = .ok (.ireturn, 1) := by decide +kernel
theorem dL_law_733 : decode cL_law 733 = .ok (.aload_n 1, 1) := by decide +kernel
theorem dL_law_734 : decode cL_law 734 = .ok (.aload_n 0, 1) := by decide +kernel
theorem dL_law_735 : decode cL_law 735 = .ok (.iload_n 3, 1) := by decide +kernel
theorem dL_law_736 : decode cL_law 736 = .ok (.iconst 1, 1) := by decide +kernel
theorem dL_law_737 : decode cL_law 737 = .ok (.iadd, 1) := by decide +kernel
theorem dL_law_738 : decode cL_law 738 = .ok (.iaload, 1) := by decide +kernel
theorem dL_law_739 : decode cL_law 739 = .ok (.invokevirtual 109, 3) := by decide +kernel
theorem dL_law_742 : decode cL_law 742 = .ok (.aload_n 2, 1) := by decide +kernel
theorem dL_law_743 : decode cL_law 743 = .ok (.aload_n 0, 1) := by decide +kernel
theorem dL_law_744 : decode cL_law 744 = .ok (.iload_n 3, 1) := by decide +kernel
theorem dL_law_745 : decode cL_law 745 = .ok (.iconst 1, 1) := by decide +kernel
theorem dL_law_746 : decode cL_law 746 = .ok (.iadd, 1) := by decide +kernel
theorem dL_law_747 : decode cL_law 747 = .ok (.iaload, 1) := by decide +kernel
theorem dL_law_748 : decode cL_law 748 = .ok (.invokevirtual 112, 3) := by decide +kernel
theorem dL_law_751 : decode cL_law 751 = .ok (.if_icmp .eq 161, 3) := by decide +kernel
theorem dL_law_754 : decode cL_law 754 = .ok (.iconst 0, 1) := by decide +kernel
theorem dL_law_755 : decode cL_law 755 = .ok (.ireturn, 1) := by decide +kernel
theorem dL_law_756 : decode cL_law 756 = .ok (.aload_n 1, 1) := by decide +kernel
theorem dL_law_757 : decode cL_law 757 = .ok (.aload_n 0, 1) := by decide +kernel
theorem dL_law_758 : decode cL_law 758 = .ok (.iload_n 3, 1) := by decide +kernel
theorem dL_law_759 : decode cL_law 759 = .ok (.iconst 1, 1) := by decide +kernel
theorem dL_law_760 : decode cL_law 760 = .ok (.iadd, 1) := by decide +kernel
theorem dL_law_761 : decode cL_law 761 = .ok (.iaload, 1) := by decide +kernel
theorem dL_law_762 : decode cL_law 762 = .ok (.aload_n 0, 1) := by decide +kernel
theorem dL_law_763 : decode cL_law 763 = .ok (.iload_n 3, 1) := by decide +kernel
theorem dL_law_764 : decode cL_law 764 = .ok (.iconst 2, 1) := by decide +kernel
theorem dL_law_765 : decode cL_law 765 = .ok (.iadd, 1) := by decide +kernel
theorem dL_law_766 : decode cL_law 766 = .ok (.iaload, 1) := by decide +kernel
theorem dL_law_767 : decode cL_law 767 = .ok (.aload_n 0, 1) := by decide +kernel
theorem dL_law_768 : decode cL_law 768 = .ok (.iload_n 3, 1) := by decide +kernel
theorem dL_law_769 : decode cL_law 769 = .ok (.iconst 3, 1) := by decide +kernel
theorem dL_law_770 : decode cL_law 770 = .ok (.iadd, 1) := by decide +kernel
theorem dL_law_771 : decode cL_law 771 = .ok (.iaload, 1) := by decide +kernel
theorem dL_law_772 : decode cL_law 772 = .ok (.invokevirtual 113, 3) := by decide +kernel
theorem dL_law_775 : decode cL_law 775 = .ok (.aload_n 2, 1) := by decide +kernel
theorem dL_law_776 : decode cL_law 776 = .ok (.aload_n 0, 1) := by decide +kernel
theorem dL_law_777 : decode cL_law 777 = .ok (.iload_n 3, 1) := by decide +kernel
theorem dL_law_778 : decode cL_law 778 = .ok (.iconst 1, 1) := by decide +kernel
theorem dL_law_779 : decode cL_law 779 = .ok (.iadd, 1) := by decide +kernel
theorem dL_law_780 : decode cL_law 780 = .ok (.iaload, 1) := by decide +kernel
theorem dL_law_781 : decode cL_law 781 = .ok (.aload_n 0, 1) := by decide +kernel
theorem dL_law_782 : decode cL_law 782 = .ok (.iload_n 3, 1) := by decide +kernel
theorem dL_law_783 : decode cL_law 783 = .ok (.iconst 2, 1) := by decide +kernel
theorem dL_law_784 : decode cL_law 784 = .ok (.iadd, 1) := by decide +kernel
theorem dL_law_785 : decode cL_law 785 = .ok (.iaload, 1) := by decide +kernel
theorem dL_law_786 : decode cL_law 786 = .ok (.aload_n 0, 1) := by decide +kernel
theorem dL_law_787 : decode cL_law 787 = .ok (.iload_n 3, 1) := by decide +kernel
theorem dL_law_788 : decode cL_law 788 = .ok (.iconst 3, 1) := by decide +kernel
theorem dL_law_789 : decode cL_law 789 = .ok (.iadd, 1) := by decide +kernel
theorem dL_law_790 : decode cL_law 790 = .ok (.iaload, 1) := by decide +kernel
theorem dL_law_791 : decode cL_law 791 = .ok (.invokevirtual 117, 3) := by decide +kernel
theorem dL_law_794 : decode cL_law 794 = .ok (.lcmp, 1) := by decide +kernel
theorem dL_law_795 : decode cL_law 795 = .ok (.ifCond .eq 117, 3) := by decide +kernel
theorem dL_law_798 : decode cL_law 798 = .ok (.iconst 0, 1) := by decide +kernel
theorem dL_law_799 : decode cL_law 799 = .ok (.ireturn, 1) := by decide +kernel
theorem dL_law_800 : decode cL_law 800 = .ok (.aload_n 1, 1) := by decide +kernel
theorem dL_law_801 : decode cL_law 801 = .ok (.aload_n 0, 1) := by decide +kernel
theorem dL_law_802 : decode cL_law 802 = .ok (.iload_n 3, 1) := by decide +kernel
theorem dL_law_803 : decode cL_law 803 = .ok (.iconst 1, 1) := by decide +kernel
theorem dL_law_804 : decode cL_law 804 = .ok (.iadd, 1) := by decide +kernel
theorem dL_law_805 : decode cL_law 805 = .ok (.iaload, 1) := by decide +kernel
theorem dL_law_806 : decode cL_law 806 = .ok (.aload_n 0, 1) := by decide +kernel
theorem dL_law_807 : decode cL_law 807 = .ok (.iload_n 3, 1) := by decide +kernel
theorem dL_law_808 : decode cL_law 808 = .ok (.iconst 2, 1) := by decide +kernel
theorem dL_law_809 : decode cL_law 809 = .ok (.iadd, 1) := by decide +kernel
theorem dL_law_810 : decode cL_law 810 = .ok (.iaload, 1) := by decide +kernel
theorem dL_law_811 : decode cL_law 811 = .ok (.aload_n 0, 1) := by decide +kernel
theorem dL_law_812 : decode cL_law 812 = .ok (.iload_n 3, 1) := by decide +kernel
theorem dL_law_813 : decode cL_law 813 = .ok (.iconst 3, 1) := by decide +kernel
theorem dL_law_814 : decode cL_law 814 = .ok (.iadd, 1) := by decide +kernel
theorem dL_law_815 : decode cL_law 815 = .ok (.iaload, 1) := by decide +kernel
theorem dL_law_816 : decode cL_law 816 = .ok (.invokevirtual 118, 3) := by decide +kernel
theorem dL_law_819 : decode cL_law 819 = .ok (.aload_n 2, 1) := by decide +kernel
theorem dL_law_820 : decode cL_law 820 = .ok (.aload_n 0, 1) := by decide +kernel
theorem dL_law_821 : decode cL_law 821 = .ok (.iload_n 3, 1) := by decide +kernel
theorem dL_law_822 : decode cL_law 822 = .ok (.iconst 1, 1) := by decide +kernel
theorem dL_law_823 : decode cL_law 823 = .ok (.iadd, 1) := by decide +kernel
theorem dL_law_824 : decode cL_law 824 = .ok (.iaload, 1) := by decide +kernel
theorem dL_law_825 : decode cL_law 825 = .ok (.aload_n 0, 1) := by decide +kernel
theorem dL_law_826 : decode cL_law 826 = .ok (.iload_n 3, 1) := by decide +kernel
theorem dL_law_827 : decode cL_law 827 = .ok (.iconst 2, 1) := by decide +kernel
theorem dL_law_828 : decode cL_law 828 = .ok (.iadd, 1) := by decide +kernel
theorem dL_law_829 : decode cL_law 829 = .ok (.iaload, 1) := by decide +kernel
theorem dL_law_830 : decode cL_law 830 = .ok (.aload_n 0, 1) := by decide +kernel
theorem dL_law_831 : decode cL_law 831 = .ok (.iload_n 3, 1) := by decide +kernel
theorem dL_law_832 : decode cL_law 832 = .ok (.iconst 3, 1) := by decide +kernel
theorem dL_law_833 : decode cL_law 833 = .ok (.iadd, 1) := by decide +kernel
theorem dL_law_834 : decode cL_law 834 = .ok (.iaload, 1) := by decide +kernel
theorem dL_law_835 : decode cL_law 835 = .ok (.invokevirtual 121, 3) := by decide +kernel
theorem dL_law_838 : decode cL_law 838 = .ok (.if_icmp .eq 74, 3) := by decide +kernel
theorem dL_law_841 : decode cL_law 841 = .ok (.iconst 0, 1) := by decide +kernel
theorem dL_law_842 : decode cL_law 842 = .ok (.ireturn, 1) := by decide +kernel
theorem dL_law_843 : decode cL_law 843 = .ok (.aload_n 1, 1) := by decide +kernel
theorem dL_law_844 : decode cL_law 844 = .ok (.aload_n 0, 1) := by decide +kernel
theorem dL_law_845 : decode cL_law 845 = .ok (.iload_n 3, 1) := by decide +kernel
theorem dL_law_846 : decode cL_law 846 = .ok (.iconst 1, 1) := by decide +kernel
theorem dL_law_847 : decode cL_law 847 = .ok (.iadd, 1) := by decide +kernel
theorem dL_law_848 : decode cL_law 848 = .ok (.iaload, 1) := by decide +kernel
theorem dL_law_849 : decode cL_law 849 = .ok (.invokevirtual 122, 3) := by decide +kernel
theorem dL_law_852 : decode cL_law 852 = .ok (.aload_n 2, 1) := by decide +kernel
theorem dL_law_853 : decode cL_law 853 = .ok (.aload_n 0, 1) := by decide +kernel
theorem dL_law_854 : decode cL_law 854 = .ok (.iload_n 3, 1) := by decide +kernel
theorem dL_law_855 : decode cL_law 855 = .ok (.iconst 1, 1) := by decide +kernel
theorem dL_law_856 : decode cL_law 856 = .ok (.iadd, 1) := by decide +kernel
theorem dL_law_857 : decode cL_law 857 = .ok (.iaload, 1) := by decide +kernel
theorem dL_law_858 : decode cL_law 858 = .ok (.invokevirtual 125, 3) := by decide +kernel
theorem dL_law_861 : decode cL_law 861 = .ok (.if_icmp .eq 51, 3) := by decide +kernel
theorem dL_law_864 : decode cL_law 864 = .ok (.iconst 0, 1) := by decide +kernel
theorem dL_law_865 : decode cL_law 865 = .ok (.ireturn, 1) := by decide +kernel
theorem dL_law_866 : decode cL_law 866 = .ok (.aload_n 1, 1) := by decide +kernel
theorem dL_law_867 : decode cL_law 867 = .ok (.aload_n 0, 1) := by decide +kernel
theorem dL_law_868 : decode cL_law 868 = .ok (.iload_n 3, 1) := by decide +kernel
theorem dL_law_869 : decode cL_law 869 = .ok (.iconst 1, 1) := by decide +kernel
theorem dL_law_870 : decode cL_law 870 = .ok (.iadd, 1) := by decide +kernel
theorem dL_law_871 : decode cL_law 871 = .ok (.iaload, 1) := by decide +kernel
theorem dL_law_872 : decode cL_law 872 = .ok (.invokevirtual 126, 3) := by decide +kernel
theorem dL_law_875 : decode cL_law 875 = .ok (.aload_n 2, 1) := by decide +kernel
theorem dL_law_876 : decode cL_law 876 = .ok (.aload_n 0, 1) := by decide +kernel
theorem dL_law_877 : decode cL_law 877 = .ok (.iload_n 3, 1) := by decide +kernel
theorem dL_law_878 : decode cL_law 878 = .ok (.iconst 1, 1) := by decide +kernel
theorem dL_law_879 : decode cL_law 879 = .ok (.iadd, 1) := by decide +kernel
theorem dL_law_880 : decode cL_law 880 = .ok (.iaload, 1) := by decide +kernel
theorem dL_law_881 : decode cL_law 881 = .ok (.invokevirtual 129, 3) := by decide +kernel
theorem dL_law_884 : decode cL_law 884 = .ok (.if_icmp .eq 28, 3) := by decide +kernel
theorem dL_law_887 : decode cL_law 887 = .ok (.iconst 0, 1) := by decide +kernel
theorem dL_law_888 : decode cL_law 888 = .ok (.ireturn, 1) := by decide +kernel
theorem dL_law_889 : decode cL_law 889 = .ok (.aload_n 1, 1) := by decide +kernel
theorem dL_law_890 : decode cL_law 890 = .ok (.aload_n 0, 1) := by decide +kernel
theorem dL_law_891 : decode cL_law 891 = .ok (.iload_n 3, 1) := by decide +kernel
theorem dL_law_892 : decode cL_law 892 = .ok (.iconst 1, 1) := by decide +kernel
theorem dL_law_893 : decode cL_law 893 = .ok (.iadd, 1) := by decide +kernel
theorem dL_law_894 : decode cL_law 894 = .ok (.iaload, 1) := by decide +kernel
theorem dL_law_895 : decode cL_law 895 = .ok (.invokevirtual 130, 3) := by decide +kernel
theorem dL_law_898 : decode cL_law 898 = .ok (.aload_n 2, 1) := by decide +kernel
theorem dL_law_899 : decode cL_law 899 = .ok (.aload_n 0, 1) := by decide +kernel
theorem dL_law_900 : decode cL_law 900 = .ok (.iload_n 3, 1) := by decide +kernel
theorem dL_law_901 : decode cL_law 901 = .ok (.iconst 1, 1) := by decide +kernel
theorem dL_law_902 : decode cL_law 902 = .ok (.iadd, 1) := by decide +kernel
theorem dL_law_903 : decode cL_law 903 = .ok (.iaload, 1) := by decide +kernel
theorem dL_law_904 : decode cL_law 904 = .ok (.invokevirtual 133, 3) := by decide +kernel
theorem dL_law_907 : decode cL_law 907 = .ok (.if_icmp .eq 5, 3) := by decide +kernel
theorem dL_law_910 : decode cL_law 910 = .ok (.iconst 0, 1) := by decide +kernel
theorem dL_law_911 : decode cL_law 911 = .ok (.ireturn, 1) := by decide +kernel
theorem dL_law_912 : decode cL_law 912 = .ok (.iinc 3 4, 3) := by decide +kernel
theorem dL_law_915 : decode cL_law 915 = .ok (.goto (-897), 3) := by decide +kernel
theorem dL_law_918 : decode cL_law 918 = .ok (.iconst 1, 1) := by decide +kernel
theorem dL_law_919 : decode cL_law 919 = .ok (.ireturn, 1) := by decide +kernel
abbrev vwCl : List vw_C := [(RX0, TX0, 2), (RX1, TX1, 5), (RX2, TX2, 3), (RX3, TX3, 4), (RX4, TX4, 2), (RX5, TX5, 3), (RX6, TX6, 2), (RX7, TX7, 3), (RX8, TX8, 7), (RX9, TX9, 6), (RX10, TX10, 12), (RX11, TX11, 30)]

