theorem d_law_0 : decode code 0 = .ok (.new 8, 3) := by decide +kernel
theorem d_law_3 : decode code 3 = .ok (.dup, 1) := by decide +kernel
theorem d_law_4 : decode code 4 = .ok (.invokespecial 18, 3) := by decide +kernel
theorem d_law_7 : decode code 7 = .ok (.astore_n 1, 1) := by decide +kernel
theorem d_law_8 : decode code 8 = .ok (.new 19, 3) := by decide +kernel
theorem d_law_11 : decode code 11 = .ok (.dup, 1) := by decide +kernel
theorem d_law_12 : decode code 12 = .ok (.invokespecial 21, 3) := by decide +kernel
theorem d_law_15 : decode code 15 = .ok (.astore_n 2, 1) := by decide +kernel
theorem d_law_16 : decode code 16 = .ok (.iconst 1, 1) := by decide +kernel
theorem d_law_17 : decode code 17 = .ok (.newarray .long, 2) := by decide +kernel
theorem d_law_19 : decode code 19 = .ok (.astore_n 3, 1) := by decide +kernel
theorem d_law_20 : decode code 20 = .ok (.iconst 0, 1) := by decide +kernel
theorem d_law_21 : decode code 21 = .ok (.istore 4, 2) := by decide +kernel
theorem d_law_23 : decode code 23 = .ok (.iload 4, 2) := by decide +kernel
theorem d_law_25 : decode code 25 = .ok (.aload_n 0, 1) := by decide +kernel
theorem d_law_26 : decode code 26 = .ok (.arraylength, 1) := by decide +kernel
theorem d_law_27 : decode code 27 = .ok (.iconst 5, 1) := by decide +kernel
theorem d_law_28 : decode code 28 = .ok (.isub, 1) := by decide +kernel
theorem d_law_29 : decode code 29 = .ok (.if_icmp .gt 625, 3) := by decide +kernel
theorem d_law_32 : decode code 32 = .ok (.aload_n 0, 1) := by decide +kernel
theorem d_law_33 : decode code 33 = .ok (.iload 4, 2) := by decide +kernel
theorem d_law_35 : decode code 35 = .ok (.iaload, 1) := by decide +kernel
theorem d_law_36 : decode code 36 = .ok (.bipush 15, 2) := by decide +kernel
theorem d_law_38 : decode code 38 = .ok (.iand, 1) := by decide +kernel
theorem d_law_39 : decode code 39 = .ok (.tableswitch 609 0 13 #[69, 94, 171, 240, 277, 290, 315, 328, 365, 378, 469, 560, 573, 598], 69) := by decide +kernel
theorem d_law_108 : decode code 108 = .ok (.aload_n 1, 1) := by decide +kernel
theorem d_law_109 : decode code 109 = .ok (.aload_n 0, 1) := by decide +kernel
theorem d_law_110 : decode code 110 = .ok (.iload 4, 2) := by decide +kernel
theorem d_law_112 : decode code 112 = .ok (.iconst 1, 1) := by decide +kernel
theorem d_law_113 : decode code 113 = .ok (.iadd, 1) := by decide +kernel
theorem d_law_114 : decode code 114 = .ok (.iaload, 1) := by decide +kernel
theorem d_law_115 : decode code 115 = .ok (.invokevirtual 22, 3) := by decide +kernel
theorem d_law_118 : decode code 118 = .ok (.aload_n 2, 1) := by decide +kernel
theorem d_law_119 : decode code 119 = .ok (.aload_n 0, 1) := by decide +kernel
theorem d_law_120 : decode code 120 = .ok (.iload 4, 2) := by decide +kernel
theorem d_law_122 : decode code 122 = .ok (.iconst 1, 1) := by decide +kernel
theorem d_law_123 : decode code 123 = .ok (.iadd, 1) := by decide +kernel
theorem d_law_124 : decode code 124 = .ok (.iaload, 1) := by decide +kernel
theorem d_law_125 : decode code 125 = .ok (.invokevirtual 26, 3) := by decide +kernel
theorem d_law_128 : decode code 128 = .ok (.if_icmp .eq 520, 3) := by decide +kernel
theorem d_law_131 : decode code 131 = .ok (.iconst 0, 1) := by decide +kernel
theorem d_law_132 : decode code 132 = .ok (.ireturn, 1) := by decide +kernel
theorem d_law_133 : decode code 133 = .ok (.aload_n 1, 1) := by decide +kernel
theorem d_law_134 : decode code 134 = .ok (.aload_n 0, 1) := by decide +kernel
theorem d_law_135 : decode code 135 = .ok (.iload 4, 2) := by decide +kernel
theorem d_law_137 : decode code 137 = .ok (.iconst 1, 1) := by decide +kernel
theorem d_law_138 : decode code 138 = .ok (.iadd, 1) := by decide +kernel
theorem d_law_139 : decode code 139 = .ok (.iaload, 1) := by decide +kernel
theorem d_law_140 : decode code 140 = .ok (.aload_n 0, 1) := by decide +kernel
theorem d_law_141 : decode code 141 = .ok (.iload 4, 2) := by decide +kernel
theorem d_law_143 : decode code 143 = .ok (.iconst 2, 1) := by decide +kernel
theorem d_law_144 : decode code 144 = .ok (.iadd, 1) := by decide +kernel
theorem d_law_145 : decode code 145 = .ok (.iaload, 1) := by decide +kernel
theorem d_law_146 : decode code 146 = .ok (.aload_n 0, 1) := by decide +kernel
theorem d_law_147 : decode code 147 = .ok (.iload 4, 2) := by decide +kernel
theorem d_law_149 : decode code 149 = .ok (.iconst 3, 1) := by decide +kernel
theorem d_law_150 : decode code 150 = .ok (.iadd, 1) := by decide +kernel
theorem d_law_151 : decode code 151 = .ok (.iaload, 1) := by decide +kernel
theorem d_law_152 : decode code 152 = .ok (.aload_n 0, 1) := by decide +kernel
theorem d_law_153 : decode code 153 = .ok (.iload 4, 2) := by decide +kernel
theorem d_law_155 : decode code 155 = .ok (.iconst 4, 1) := by decide +kernel
theorem d_law_156 : decode code 156 = .ok (.iadd, 1) := by decide +kernel
theorem d_law_157 : decode code 157 = .ok (.iaload, 1) := by decide +kernel
theorem d_law_158 : decode code 158 = .ok (.ifCond .eq 7, 3) := by decide +kernel
theorem d_law_161 : decode code 161 = .ok (.iconst 1, 1) := by decide +kernel
theorem d_law_162 : decode code 162 = .ok (.goto 4, 3) := by decide +kernel
theorem d_law_165 : decode code 165 = .ok (.iconst 0, 1) := by decide +kernel
theorem d_law_166 : decode code 166 = .ok (.invokevirtual 27, 3) := by decide +kernel
theorem d_law_169 : decode code 169 = .ok (.aload_n 2, 1) := by decide +kernel
theorem d_law_170 : decode code 170 = .ok (.aload_n 0, 1) := by decide +kernel
theorem d_law_171 : decode code 171 = .ok (.iload 4, 2) := by decide +kernel
theorem d_law_173 : decode code 173 = .ok (.iconst 1, 1) := by decide +kernel
theorem d_law_174 : decode code 174 = .ok (.iadd, 1) := by decide +kernel
theorem d_law_175 : decode code 175 = .ok (.iaload, 1) := by decide +kernel
theorem d_law_176 : decode code 176 = .ok (.aload_n 0, 1) := by decide +kernel
theorem d_law_177 : decode code 177 = .ok (.iload 4, 2) := by decide +kernel
theorem d_law_179 : decode code 179 = .ok (.iconst 2, 1) := by decide +kernel
theorem d_law_180 : decode code 180 = .ok (.iadd, 1) := by decide +kernel
theorem d_law_181 : decode code 181 = .ok (.iaload, 1) := by decide +kernel
theorem d_law_182 : decode code 182 = .ok (.aload_n 0, 1) := by decide +kernel
theorem d_law_183 : decode code 183 = .ok (.iload 4, 2) := by decide +kernel
theorem d_law_185 : decode code 185 = .ok (.iconst 3, 1) := by decide +kernel
theorem d_law_186 : decode code 186 = .ok (.iadd, 1) := by decide +kernel
theorem d_law_187 : decode code 187 = .ok (.iaload, 1) := by decide +kernel
theorem d_law_188 : decode code 188 = .ok (.aload_n 0, 1) := by decide +kernel
theorem d_law_189 : decode code 189 = .ok (.iload 4, 2) := by decide +kernel
theorem d_law_191 : decode code 191 = .ok (.iconst 4, 1) := by decide +kernel
theorem d_law_192 : decode code 192 = .ok (.iadd, 1) := by decide +kernel
theorem d_law_193 : decode code 193 = .ok (.iaload, 1) := by decide +kernel
theorem d_law_194 : decode code 194 = .ok (.ifCond .eq 7, 3) := by decide +kernel
