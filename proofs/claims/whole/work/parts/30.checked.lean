set_option maxRecDepth 1000000 in
theorem ck_0 : cdOk 0 = true := by decide +kernel
set_option maxRecDepth 1000000 in
theorem ck_1 : cdOk 1 = true := by decide +kernel
set_option maxRecDepth 1000000 in
theorem ck_2 : cdOk 2 = true := by decide +kernel
set_option maxRecDepth 1000000 in
theorem ck_3 : cdOk 3 = true := by decide +kernel
set_option maxRecDepth 1000000 in
theorem ck_4 : cdOk 4 = true := by decide +kernel
set_option maxRecDepth 1000000 in
theorem ck_5 : cdOk 5 = true := by decide +kernel
set_option maxRecDepth 1000000 in
theorem ck_6 : cdOk 6 = true := by decide +kernel
set_option maxRecDepth 1000000 in
theorem ck_7 : cdOk 7 = true := by decide +kernel
set_option maxRecDepth 1000000 in
theorem ck_8 : cdOk 8 = true := by decide +kernel
set_option maxRecDepth 1000000 in
theorem ck_9 : cdOk 9 = true := by decide +kernel
set_option maxRecDepth 1000000 in
theorem ck_10 : cdOk 10 = true := by decide +kernel
set_option maxRecDepth 1000000 in
theorem ck_11 : cdOk 11 = true := by decide +kernel
set_option maxRecDepth 1000000 in
theorem ck_12 : cdOk 12 = true := by decide +kernel
set_option maxRecDepth 1000000 in
theorem ck_13 : cdOk 13 = true := by decide +kernel
set_option maxRecDepth 1000000 in
theorem ck_14 : cdOk 14 = true := by decide +kernel
set_option maxRecDepth 1000000 in
theorem ck_15 : cdOk 15 = true := by decide +kernel
set_option maxRecDepth 1000000 in
theorem ck_16 : cdOk 16 = true := by decide +kernel
set_option maxRecDepth 1000000 in
theorem ck_17 : cdOk 17 = true := by decide +kernel
set_option maxRecDepth 1000000 in
theorem ck_18 : cdOk 18 = true := by decide +kernel
set_option maxRecDepth 1000000 in
theorem ck_19 : cdOk 19 = true := by decide +kernel
set_option maxRecDepth 1000000 in
theorem ck_20 : cdOk 20 = true := by decide +kernel
set_option maxRecDepth 1000000 in
theorem ck_21 : cdOk 21 = true := by decide +kernel
set_option maxRecDepth 1000000 in
theorem ck_22 : cdOk 22 = true := by decide +kernel
set_option maxRecDepth 1000000 in
theorem ck_23 : cdOk 23 = true := by decide +kernel
set_option maxRecDepth 1000000 in
theorem ck_24 : cdOk 24 = true := by decide +kernel
set_option maxRecDepth 1000000 in
theorem ck_25 : cdOk 25 = true := by decide +kernel
set_option maxRecDepth 1000000 in
theorem ck_26 : cdOk 26 = true := by decide +kernel
set_option maxRecDepth 1000000 in
theorem ck_27 : cdOk 27 = true := by decide +kernel
set_option maxRecDepth 1000000 in
theorem ck_28 : cdOk 28 = true := by decide +kernel
set_option maxRecDepth 1000000 in
theorem ck_29 : cdOk 29 = true := by decide +kernel
set_option maxRecDepth 1000000 in
theorem ck_30 : cdOk 30 = true := by decide +kernel
set_option maxRecDepth 1000000 in
theorem ck_31 : cdOk 31 = true := by decide +kernel
set_option maxRecDepth 1000000 in
theorem ck_32 : cdOk 32 = true := by decide +kernel
set_option maxRecDepth 1000000 in
theorem ck_33 : cdOk 33 = true := by decide +kernel
set_option maxRecDepth 1000000 in
theorem ck_34 : cdOk 34 = true := by decide +kernel
set_option maxRecDepth 1000000 in
theorem ck_35 : cdOk 35 = true := by decide +kernel
set_option maxRecDepth 1000000 in
theorem ck_36 : cdOk 36 = true := by decide +kernel
set_option maxRecDepth 1000000 in
theorem ck_37 : cdOk 37 = true := by decide +kernel
set_option maxRecDepth 1000000 in
theorem ck_38 : cdOk 38 = true := by decide +kernel
set_option maxRecDepth 1000000 in
theorem ck_39 : cdOk 39 = true := by decide +kernel
set_option maxRecDepth 1000000 in
theorem ck_40 : cdOk 40 = true := by decide +kernel
set_option maxRecDepth 1000000 in
theorem ck_41 : cdOk 41 = true := by decide +kernel
set_option maxRecDepth 1000000 in
theorem ck_42 : cdOk 42 = true := by decide +kernel
set_option maxRecDepth 1000000 in
theorem ck_43 : cdOk 43 = true := by decide +kernel
set_option maxRecDepth 1000000 in
theorem ck_44 : cdOk 44 = true := by decide +kernel
set_option maxRecDepth 1000000 in
theorem ck_45 : cdOk 45 = true := by decide +kernel
set_option maxRecDepth 1000000 in
theorem ck_46 : cdOk 46 = true := by decide +kernel
set_option maxRecDepth 1000000 in
theorem ck_47 : cdOk 47 = true := by decide +kernel
set_option maxRecDepth 1000000 in
theorem ck_48 : cdOk 48 = true := by decide +kernel
set_option maxRecDepth 1000000 in
theorem ck_49 : cdOk 49 = true := by decide +kernel
set_option maxRecDepth 1000000 in
theorem ck_50 : cdOk 50 = true := by decide +kernel
set_option maxRecDepth 1000000 in
theorem ck_51 : cdOk 51 = true := by decide +kernel
set_option maxRecDepth 1000000 in
theorem ck_52 : cdOk 52 = true := by decide +kernel
set_option maxRecDepth 1000000 in
theorem ck_53 : cdOk 53 = true := by decide +kernel
set_option maxRecDepth 1000000 in
theorem ck_54 : cdOk 54 = true := by decide +kernel
set_option maxRecDepth 1000000 in
theorem ck_55 : cdOk 55 = true := by decide +kernel
set_option maxRecDepth 1000000 in
theorem ck_56 : cdOk 56 = true := by decide +kernel
set_option maxRecDepth 1000000 in
theorem ck_57 : cdOk 57 = true := by decide +kernel
set_option maxRecDepth 1000000 in
theorem ck_58 : cdOk 58 = true := by decide +kernel
set_option maxRecDepth 1000000 in
theorem ck_59 : cdOk 59 = true := by decide +kernel
set_option maxRecDepth 1000000 in
theorem ck_60 : cdOk 60 = true := by decide +kernel
set_option maxRecDepth 1000000 in
theorem ck_61 : cdOk 61 = true := by decide +kernel
set_option maxRecDepth 1000000 in
theorem ck_62 : cdOk 62 = true := by decide +kernel
set_option maxRecDepth 1000000 in
theorem ck_63 : cdOk 63 = true := by decide +kernel
set_option maxRecDepth 1000000 in
theorem ck_64 : cdOk 64 = true := by decide +kernel
set_option maxRecDepth 1000000 in
theorem ck_65 : cdOk 65 = true := by decide +kernel
set_option maxRecDepth 1000000 in
theorem ck_66 : cdOk 66 = true := by decide +kernel
set_option maxRecDepth 1000000 in
theorem ck_67 : cdOk 67 = true := by decide +kernel
set_option maxRecDepth 1000000 in
theorem ck_68 : cdOk 68 = true := by decide +kernel
set_option maxRecDepth 1000000 in
theorem ck_69 : cdOk 69 = true := by decide +kernel
set_option maxRecDepth 1000000 in
theorem ck_70 : cdOk 70 = true := by decide +kernel
set_option maxRecDepth 1000000 in
theorem ck_71 : cdOk 71 = true := by decide +kernel
set_option maxRecDepth 1000000 in
theorem ck_72 : cdOk 72 = true := by decide +kernel
set_option maxRecDepth 1000000 in
theorem ck_73 : cdOk 73 = true := by decide +kernel
set_option maxRecDepth 1000000 in
theorem ck_74 : cdOk 74 = true := by decide +kernel
set_option maxRecDepth 1000000 in
theorem ck_75 : cdOk 75 = true := by decide +kernel
set_option maxRecDepth 1000000 in
theorem ck_76 : cdOk 76 = true := by decide +kernel
set_option maxRecDepth 1000000 in
theorem ck_77 : cdOk 77 = true := by decide +kernel
set_option maxRecDepth 1000000 in
theorem ck_78 : cdOk 78 = true := by decide +kernel
set_option maxRecDepth 1000000 in
theorem ck_79 : cdOk 79 = true := by decide +kernel
set_option maxRecDepth 1000000 in
theorem ck_80 : cdOk 80 = true := by decide +kernel
set_option maxRecDepth 1000000 in
theorem ck_81 : cdOk 81 = true := by decide +kernel
set_option maxRecDepth 1000000 in
theorem ck_82 : cdOk 82 = true := by decide +kernel
set_option maxRecDepth 1000000 in
theorem ck_83 : cdOk 83 = true := by decide +kernel
set_option maxRecDepth 1000000 in
theorem ck_84 : cdOk 84 = true := by decide +kernel
set_option maxRecDepth 1000000 in
theorem ck_85 : cdOk 85 = true := by decide +kernel
set_option maxRecDepth 1000000 in
theorem ck_86 : cdOk 86 = true := by decide +kernel
set_option maxRecDepth 1000000 in
theorem ck_87 : cdOk 87 = true := by decide +kernel
set_option maxRecDepth 1000000 in
theorem ck_88 : cdOk 88 = true := by decide +kernel
set_option maxRecDepth 1000000 in
theorem ck_89 : cdOk 89 = true := by decide +kernel
set_option maxRecDepth 1000000 in
theorem ck_90 : cdOk 90 = true := by decide +kernel
set_option maxRecDepth 1000000 in
theorem ck_91 : cdOk 91 = true := by decide +kernel
set_option maxRecDepth 1000000 in
theorem ck_92 : cdOk 92 = true := by decide +kernel
set_option maxRecDepth 1000000 in
theorem ck_93 : cdOk 93 = true := by decide +kernel
set_option maxRecDepth 1000000 in
theorem ck_94 : cdOk 94 = true := by decide +kernel
set_option maxRecDepth 1000000 in
theorem ck_95 : cdOk 95 = true := by decide +kernel
set_option maxRecDepth 1000000 in
theorem ck_96 : cdOk 96 = true := by decide +kernel
set_option maxRecDepth 1000000 in
theorem ck_97 : cdOk 97 = true := by decide +kernel
set_option maxRecDepth 1000000 in
theorem ck_98 : cdOk 98 = true := by decide +kernel
set_option maxRecDepth 1000000 in
theorem ck_99 : cdOk 99 = true := by decide +kernel
set_option maxRecDepth 1000000 in
theorem ck_100 : cdOk 100 = true := by decide +kernel
set_option maxRecDepth 1000000 in
theorem ck_101 : cdOk 101 = true := by decide +kernel
set_option maxRecDepth 1000000 in
theorem ck_102 : cdOk 102 = true := by decide +kernel
set_option maxRecDepth 1000000 in
theorem ck_103 : cdOk 103 = true := by decide +kernel
set_option maxRecDepth 1000000 in
theorem ck_104 : cdOk 104 = true := by decide +kernel
set_option maxRecDepth 1000000 in
theorem ck_105 : cdOk 105 = true := by decide +kernel
set_option maxRecDepth 1000000 in
theorem ck_106 : cdOk 106 = true := by decide +kernel
set_option maxRecDepth 1000000 in
theorem ck_107 : cdOk 107 = true := by decide +kernel
set_option maxRecDepth 1000000 in
theorem ck_108 : cdOk 108 = true := by decide +kernel
set_option maxRecDepth 1000000 in
theorem ck_109 : cdOk 109 = true := by decide +kernel
set_option maxRecDepth 1000000 in
theorem ck_110 : cdOk 110 = true := by decide +kernel
set_option maxRecDepth 1000000 in
theorem ck_111 : cdOk 111 = true := by decide +kernel
set_option maxRecDepth 1000000 in
theorem ck_112 : cdOk 112 = true := by decide +kernel
set_option maxRecDepth 1000000 in
theorem ck_113 : cdOk 113 = true := by decide +kernel
set_option maxRecDepth 1000000 in
theorem ck_114 : cdOk 114 = true := by decide +kernel
set_option maxRecDepth 1000000 in
theorem ck_115 : cdOk 115 = true := by decide +kernel
set_option maxRecDepth 1000000 in
theorem ck_116 : cdOk 116 = true := by decide +kernel
set_option maxRecDepth 1000000 in
theorem ck_117 : cdOk 117 = true := by decide +kernel
set_option maxRecDepth 1000000 in
theorem ck_118 : cdOk 118 = true := by decide +kernel
set_option maxRecDepth 1000000 in
theorem ck_119 : cdOk 119 = true := by decide +kernel
set_option maxRecDepth 1000000 in
theorem ck_120 : cdOk 120 = true := by decide +kernel
set_option maxRecDepth 1000000 in
theorem ck_121 : cdOk 121 = true := by decide +kernel
set_option maxRecDepth 1000000 in
theorem ck_122 : cdOk 122 = true := by decide +kernel
set_option maxRecDepth 1000000 in
theorem ck_123 : cdOk 123 = true := by decide +kernel
set_option maxRecDepth 1000000 in
theorem ck_124 : cdOk 124 = true := by decide +kernel
set_option maxRecDepth 1000000 in
theorem ck_125 : cdOk 125 = true := by decide +kernel
set_option maxRecDepth 1000000 in
theorem ck_126 : cdOk 126 = true := by decide +kernel
set_option maxRecDepth 1000000 in
theorem ck_127 : cdOk 127 = true := by decide +kernel
set_option maxRecDepth 1000000 in
theorem ck_128 : cdOk 128 = true := by decide +kernel
set_option maxRecDepth 1000000 in
theorem ck_129 : cdOk 129 = true := by decide +kernel
set_option maxRecDepth 1000000 in
theorem ck_130 : cdOk 130 = true := by decide +kernel
set_option maxRecDepth 1000000 in
theorem ck_131 : cdOk 131 = true := by decide +kernel
set_option maxRecDepth 1000000 in
theorem ck_132 : cdOk 132 = true := by decide +kernel
set_option maxRecDepth 1000000 in
theorem ck_133 : cdOk 133 = true := by decide +kernel
set_option maxRecDepth 1000000 in
theorem ck_134 : cdOk 134 = true := by decide +kernel
set_option maxRecDepth 1000000 in
theorem ck_135 : cdOk 135 = true := by decide +kernel
set_option maxRecDepth 1000000 in
theorem ck_136 : cdOk 136 = true := by decide +kernel
set_option maxRecDepth 1000000 in
theorem ck_137 : cdOk 137 = true := by decide +kernel
set_option maxRecDepth 1000000 in
theorem ck_138 : cdOk 138 = true := by decide +kernel
set_option maxRecDepth 1000000 in
theorem ck_139 : cdOk 139 = true := by decide +kernel
set_option maxRecDepth 1000000 in
theorem ck_140 : cdOk 140 = true := by decide +kernel
set_option maxRecDepth 1000000 in
theorem ck_141 : cdOk 141 = true := by decide +kernel
set_option maxRecDepth 1000000 in
theorem ck_142 : cdOk 142 = true := by decide +kernel
set_option maxRecDepth 1000000 in
theorem ck_143 : cdOk 143 = true := by decide +kernel
set_option maxRecDepth 1000000 in
theorem ck_144 : cdOk 144 = true := by decide +kernel
set_option maxRecDepth 1000000 in
theorem ck_145 : cdOk 145 = true := by decide +kernel
set_option maxRecDepth 1000000 in
theorem ck_146 : cdOk 146 = true := by decide +kernel
set_option maxRecDepth 1000000 in
theorem ck_147 : cdOk 147 = true := by decide +kernel
set_option maxRecDepth 1000000 in
theorem ck_148 : cdOk 148 = true := by decide +kernel
set_option maxRecDepth 1000000 in
theorem ck_149 : cdOk 149 = true := by decide +kernel
set_option maxRecDepth 1000000 in
theorem ck_150 : cdOk 150 = true := by decide +kernel
set_option maxRecDepth 1000000 in
theorem ck_151 : cdOk 151 = true := by decide +kernel
set_option maxRecDepth 1000000 in
theorem ck_152 : cdOk 152 = true := by decide +kernel
set_option maxRecDepth 1000000 in
theorem ck_153 : cdOk 153 = true := by decide +kernel
set_option maxRecDepth 1000000 in
theorem ck_154 : cdOk 154 = true := by decide +kernel
set_option maxRecDepth 1000000 in
theorem ck_155 : cdOk 155 = true := by decide +kernel
set_option maxRecDepth 1000000 in
theorem ck_156 : cdOk 156 = true := by decide +kernel
set_option maxRecDepth 1000000 in
theorem ck_157 : cdOk 157 = true := by decide +kernel
set_option maxRecDepth 1000000 in
theorem ck_158 : cdOk 158 = true := by decide +kernel
set_option maxRecDepth 1000000 in
theorem ck_159 : cdOk 159 = true := by decide +kernel
set_option maxRecDepth 1000000 in
theorem ck_160 : cdOk 160 = true := by decide +kernel
set_option maxRecDepth 1000000 in
theorem ck_161 : cdOk 161 = true := by decide +kernel
set_option maxRecDepth 1000000 in
theorem ck_162 : cdOk 162 = true := by decide +kernel
set_option maxRecDepth 1000000 in
theorem ck_163 : cdOk 163 = true := by decide +kernel
set_option maxRecDepth 1000000 in
theorem ck_164 : cdOk 164 = true := by decide +kernel
set_option maxRecDepth 1000000 in
theorem ck_165 : cdOk 165 = true := by decide +kernel
set_option maxRecDepth 1000000 in
theorem ck_166 : cdOk 166 = true := by decide +kernel
set_option maxRecDepth 1000000 in
theorem ck_167 : cdOk 167 = true := by decide +kernel
set_option maxRecDepth 1000000 in
theorem ck_168 : cdOk 168 = true := by decide +kernel
set_option maxRecDepth 1000000 in
theorem ck_169 : cdOk 169 = true := by decide +kernel
set_option maxRecDepth 1000000 in
theorem ck_170 : cdOk 170 = true := by decide +kernel
set_option maxRecDepth 1000000 in
theorem ck_171 : cdOk 171 = true := by decide +kernel
set_option maxRecDepth 1000000 in
theorem ck_172 : cdOk 172 = true := by decide +kernel
set_option maxRecDepth 1000000 in
theorem ck_173 : cdOk 173 = true := by decide +kernel
set_option maxRecDepth 1000000 in
theorem ck_174 : cdOk 174 = true := by decide +kernel
set_option maxRecDepth 1000000 in
theorem ck_175 : cdOk 175 = true := by decide +kernel
set_option maxRecDepth 1000000 in
theorem ck_176 : cdOk 176 = true := by decide +kernel
set_option maxRecDepth 1000000 in
theorem ck_177 : cdOk 177 = true := by decide +kernel
set_option maxRecDepth 1000000 in
theorem ck_178 : cdOk 178 = true := by decide +kernel
set_option maxRecDepth 1000000 in
theorem ck_179 : cdOk 179 = true := by decide +kernel
set_option maxRecDepth 1000000 in
theorem ck_180 : cdOk 180 = true := by decide +kernel
set_option maxRecDepth 1000000 in
theorem ck_181 : cdOk 181 = true := by decide +kernel
set_option maxRecDepth 1000000 in
theorem ck_182 : cdOk 182 = true := by decide +kernel
set_option maxRecDepth 1000000 in
theorem ck_183 : cdOk 183 = true := by decide +kernel
set_option maxRecDepth 1000000 in
theorem ck_184 : cdOk 184 = true := by decide +kernel
set_option maxRecDepth 1000000 in
theorem ck_185 : cdOk 185 = true := by decide +kernel
set_option maxRecDepth 1000000 in
theorem ck_186 : cdOk 186 = true := by decide +kernel
set_option maxRecDepth 1000000 in
theorem ck_187 : cdOk 187 = true := by decide +kernel
set_option maxRecDepth 1000000 in
theorem ck_188 : cdOk 188 = true := by decide +kernel
set_option maxRecDepth 1000000 in
theorem ck_189 : cdOk 189 = true := by decide +kernel
set_option maxRecDepth 1000000 in
theorem ck_190 : cdOk 190 = true := by decide +kernel
set_option maxRecDepth 1000000 in
theorem ck_191 : cdOk 191 = true := by decide +kernel
set_option maxRecDepth 1000000 in
theorem ck_192 : cdOk 192 = true := by decide +kernel
set_option maxRecDepth 1000000 in
theorem ck_193 : cdOk 193 = true := by decide +kernel
set_option maxRecDepth 1000000 in
theorem ck_194 : cdOk 194 = true := by decide +kernel
set_option maxRecDepth 1000000 in
theorem ck_195 : cdOk 195 = true := by decide +kernel
set_option maxRecDepth 1000000 in
theorem ck_196 : cdOk 196 = true := by decide +kernel
set_option maxRecDepth 1000000 in
theorem ck_197 : cdOk 197 = true := by decide +kernel
set_option maxRecDepth 1000000 in
theorem ck_198 : cdOk 198 = true := by decide +kernel
set_option maxRecDepth 1000000 in
theorem ck_199 : cdOk 199 = true := by decide +kernel
set_option maxRecDepth 1000000 in
theorem ck_200 : cdOk 200 = true := by decide +kernel
set_option maxRecDepth 1000000 in
theorem ck_201 : cdOk 201 = true := by decide +kernel
set_option maxRecDepth 1000000 in
theorem ck_202 : cdOk 202 = true := by decide +kernel
set_option maxRecDepth 1000000 in
theorem ck_203 : cdOk 203 = true := by decide +kernel
set_option maxRecDepth 1000000 in
theorem ck_204 : cdOk 204 = true := by decide +kernel
set_option maxRecDepth 1000000 in
theorem ck_205 : cdOk 205 = true := by decide +kernel
set_option maxRecDepth 1000000 in
theorem ck_206 : cdOk 206 = true := by decide +kernel
set_option maxRecDepth 1000000 in
theorem ck_207 : cdOk 207 = true := by decide +kernel
set_option maxRecDepth 1000000 in
theorem ck_208 : cdOk 208 = true := by decide +kernel
set_option maxRecDepth 1000000 in
theorem ck_209 : cdOk 209 = true := by decide +kernel
set_option maxRecDepth 1000000 in
theorem ck_210 : cdOk 210 = true := by decide +kernel
set_option maxRecDepth 1000000 in
theorem ck_211 : cdOk 211 = true := by decide +kernel
set_option maxRecDepth 1000000 in
theorem ck_212 : cdOk 212 = true := by decide +kernel
set_option maxRecDepth 1000000 in
theorem ck_213 : cdOk 213 = true := by decide +kernel
set_option maxRecDepth 1000000 in
theorem ck_214 : cdOk 214 = true := by decide +kernel
set_option maxRecDepth 1000000 in
theorem ck_215 : cdOk 215 = true := by decide +kernel
set_option maxRecDepth 1000000 in
theorem ck_216 : cdOk 216 = true := by decide +kernel
set_option maxRecDepth 1000000 in
theorem ck_217 : cdOk 217 = true := by decide +kernel
set_option maxRecDepth 1000000 in
theorem ck_218 : cdOk 218 = true := by decide +kernel
set_option maxRecDepth 1000000 in
theorem ck_219 : cdOk 219 = true := by decide +kernel
set_option maxRecDepth 1000000 in
theorem ck_220 : cdOk 220 = true := by decide +kernel
set_option maxRecDepth 1000000 in
theorem ck_221 : cdOk 221 = true := by decide +kernel
set_option maxRecDepth 1000000 in
theorem ck_222 : cdOk 222 = true := by decide +kernel
set_option maxRecDepth 1000000 in
theorem cr_0 : cdR 223 0 = true := by decide +kernel
set_option maxRecDepth 1000000 in
theorem cr_1 : cdR 223 64 = true := by decide +kernel
set_option maxRecDepth 1000000 in
theorem cr_2 : cdR 223 128 = true := by decide +kernel
set_option maxRecDepth 1000000 in
theorem cr_3 : cdR 223 192 = true := by decide +kernel
set_option maxRecDepth 1000000 in
theorem cr_4 : cdR 223 256 = true := by decide +kernel
set_option maxRecDepth 1000000 in
theorem cr_5 : cdR 223 320 = true := by decide +kernel
set_option maxRecDepth 1000000 in
theorem cr_6 : cdR 223 384 = true := by decide +kernel
set_option maxRecDepth 1000000 in
theorem cr_7 : cdR 223 448 = true := by decide +kernel
set_option maxRecDepth 1000000 in
theorem cr_8 : cdR 223 512 = true := by decide +kernel
set_option maxRecDepth 1000000 in
theorem cr_9 : cdR 223 576 = true := by decide +kernel
set_option maxRecDepth 1000000 in
theorem cr_10 : cdR 223 640 = true := by decide +kernel
set_option maxRecDepth 1000000 in
theorem cr_11 : cdR 223 704 = true := by decide +kernel
set_option maxRecDepth 1000000 in
theorem cr_12 : cdR 223 768 = true := by decide +kernel
set_option maxRecDepth 1000000 in
theorem cr_13 : cdR 223 832 = true := by decide +kernel
set_option maxRecDepth 1000000 in
theorem cr_14 : cdR 223 896 = true := by decide +kernel
set_option maxRecDepth 1000000 in
theorem cr_15 : cdR 223 960 = true := by decide +kernel
set_option maxRecDepth 1000000 in
theorem cr_16 : cdR 223 1024 = true := by decide +kernel
set_option maxRecDepth 1000000 in
theorem cr_17 : cdR 223 1088 = true := by decide +kernel
set_option maxRecDepth 1000000 in
theorem cr_18 : cdR 223 1152 = true := by decide +kernel
set_option maxRecDepth 1000000 in
theorem cr_19 : cdR 223 1216 = true := by decide +kernel
set_option maxRecDepth 1000000 in
theorem cr_20 : cdR 223 1280 = true := by decide +kernel
set_option maxRecDepth 1000000 in
theorem cr_21 : cdR 223 1344 = true := by decide +kernel
set_option maxRecDepth 1000000 in
theorem cr_22 : cdR 223 1408 = true := by decide +kernel
set_option maxRecDepth 1000000 in
theorem cr_23 : cdR 223 1472 = true := by decide +kernel
set_option maxRecDepth 1000000 in
theorem cr_24 : cdR 223 1536 = true := by decide +kernel
set_option maxRecDepth 1000000 in
theorem cr_25 : cdR 223 1600 = true := by decide +kernel
set_option maxRecDepth 1000000 in
theorem cr_26 : cdR 223 1664 = true := by decide +kernel
set_option maxRecDepth 1000000 in
theorem cr_27 : cdR 223 1728 = true := by decide +kernel
set_option maxRecDepth 1000000 in
theorem cr_28 : cdR 223 1792 = true := by decide +kernel
set_option maxRecDepth 1000000 in
theorem cr_29 : cdR 223 1856 = true := by decide +kernel
set_option maxRecDepth 1000000 in
theorem cr_30 : cdR 223 1920 = true := by decide +kernel
set_option maxRecDepth 1000000 in
theorem cr_31 : cdR 223 1984 = true := by decide +kernel
set_option maxRecDepth 1000000 in
theorem cr_32 : cdR 223 2048 = true := by decide +kernel
set_option maxRecDepth 1000000 in
theorem cr_33 : cdR 223 2112 = true := by decide +kernel
set_option maxRecDepth 1000000 in
theorem cr_34 : cdR 223 2176 = true := by decide +kernel
set_option maxRecDepth 1000000 in
theorem cr_35 : cdR 223 2240 = true := by decide +kernel
set_option maxRecDepth 1000000 in
theorem cr_36 : cdR 223 2304 = true := by decide +kernel
set_option maxRecDepth 1000000 in
theorem cr_37 : cdR 223 2368 = true := by decide +kernel
set_option maxRecDepth 1000000 in
theorem cr_38 : cdR 223 2432 = true := by decide +kernel
set_option maxRecDepth 1000000 in
theorem cr_39 : cdR 223 2496 = true := by decide +kernel
set_option maxRecDepth 1000000 in
theorem cr_40 : cdR 223 2560 = true := by decide +kernel
theorem ck_all : ∀ k, 0 ≤ k → k < 223 → cdOk k = true := (bt (bt (bt (bt (bt (bt (bt (b1 ck_0) (bt (b1 ck_1) (b1 ck_2))) (bt (b1 ck_3) (bt (b1 ck_4) (b1 ck_5)))) (bt (bt (b1 ck_6) (bt (b1 ck_7) (b1 ck_8))) (bt (bt (b1 ck_9) (b1 ck_10)) (bt (b1 ck_11) (b1 ck_12))))) (bt (bt (bt (b1 ck_13) (bt (b1 ck_14) (b1 ck_15))) (bt (bt (b1 ck_16) (b1 ck_17)) (bt (b1 ck_18) (b1 ck_19)))) (bt (bt (b1 ck_20) (bt (b1 ck_21) (b1 ck_22))) (bt (bt (b1 ck_23) (b1 ck_24)) (bt (b1 ck_25) (b1 ck_26)))))) (bt (bt (bt (bt (b1 ck_27) (bt (b1 ck_28) (b1 ck_29))) (bt (bt (b1 ck_30) (b1 ck_31)) (bt (b1 ck_32) (b1 ck_33)))) (bt (bt (b1 ck_34) (bt (b1 ck_35) (b1 ck_36))) (bt (bt (b1 ck_37) (b1 ck_38)) (bt (b1 ck_39) (b1 ck_40))))) (bt (bt (bt (b1 ck_41) (bt (b1 ck_42) (b1 ck_43))) (bt (bt (b1 ck_44) (b1 ck_45)) (bt (b1 ck_46) (b1 ck_47)))) (bt (bt (b1 ck_48) (bt (b1 ck_49) (b1 ck_50))) (bt (bt (b1 ck_51) (b1 ck_52)) (bt (b1 ck_53) (b1 ck_54))))))) (bt (bt (bt (bt (bt (b1 ck_55) (bt (b1 ck_56) (b1 ck_57))) (bt (bt (b1 ck_58) (b1 ck_59)) (bt (b1 ck_60) (b1 ck_61)))) (bt (bt (b1 ck_62) (bt (b1 ck_63) (b1 ck_64))) (bt (bt (b1 ck_65) (b1 ck_66)) (bt (b1 ck_67) (b1 ck_68))))) (bt (bt (bt (b1 ck_69) (bt (b1 ck_70) (b1 ck_71))) (bt (bt (b1 ck_72) (b1 ck_73)) (bt (b1 ck_74) (b1 ck_75)))) (bt (bt (b1 ck_76) (bt (b1 ck_77) (b1 ck_78))) (bt (bt (b1 ck_79) (b1 ck_80)) (bt (b1 ck_81) (b1 ck_82)))))) (bt (bt (bt (bt (b1 ck_83) (bt (b1 ck_84) (b1 ck_85))) (bt (bt (b1 ck_86) (b1 ck_87)) (bt (b1 ck_88) (b1 ck_89)))) (bt (bt (b1 ck_90) (bt (b1 ck_91) (b1 ck_92))) (bt (bt (b1 ck_93) (b1 ck_94)) (bt (b1 ck_95) (b1 ck_96))))) (bt (bt (bt (b1 ck_97) (bt (b1 ck_98) (b1 ck_99))) (bt (bt (b1 ck_100) (b1 ck_101)) (bt (b1 ck_102) (b1 ck_103)))) (bt (bt (b1 ck_104) (bt (b1 ck_105) (b1 ck_106))) (bt (bt (b1 ck_107) (b1 ck_108)) (bt (b1 ck_109) (b1 ck_110)))))))) (bt (bt (bt (bt (bt (bt (b1 ck_111) (bt (b1 ck_112) (b1 ck_113))) (bt (bt (b1 ck_114) (b1 ck_115)) (bt (b1 ck_116) (b1 ck_117)))) (bt (bt (b1 ck_118) (bt (b1 ck_119) (b1 ck_120))) (bt (bt (b1 ck_121) (b1 ck_122)) (bt (b1 ck_123) (b1 ck_124))))) (bt (bt (bt (b1 ck_125) (bt (b1 ck_126) (b1 ck_127))) (bt (bt (b1 ck_128) (b1 ck_129)) (bt (b1 ck_130) (b1 ck_131)))) (bt (bt (b1 ck_132) (bt (b1 ck_133) (b1 ck_134))) (bt (bt (b1 ck_135) (b1 ck_136)) (bt (b1 ck_137) (b1 ck_138)))))) (bt (bt (bt (bt (b1 ck_139) (bt (b1 ck_140) (b1 ck_141))) (bt (bt (b1 ck_142) (b1 ck_143)) (bt (b1 ck_144) (b1 ck_145)))) (bt (bt (b1 ck_146) (bt (b1 ck_147) (b1 ck_148))) (bt (bt (b1 ck_149) (b1 ck_150)) (bt (b1 ck_151) (b1 ck_152))))) (bt (bt (bt (b1 ck_153) (bt (b1 ck_154) (b1 ck_155))) (bt (bt (b1 ck_156) (b1 ck_157)) (bt (b1 ck_158) (b1 ck_159)))) (bt (bt (b1 ck_160) (bt (b1 ck_161) (b1 ck_162))) (bt (bt (b1 ck_163) (b1 ck_164)) (bt (b1 ck_165) (b1 ck_166))))))) (bt (bt (bt (bt (bt (b1 ck_167) (bt (b1 ck_168) (b1 ck_169))) (bt (bt (b1 ck_170) (b1 ck_171)) (bt (b1 ck_172) (b1 ck_173)))) (bt (bt (b1 ck_174) (bt (b1 ck_175) (b1 ck_176))) (bt (bt (b1 ck_177) (b1 ck_178)) (bt (b1 ck_179) (b1 ck_180))))) (bt (bt (bt (b1 ck_181) (bt (b1 ck_182) (b1 ck_183))) (bt (bt (b1 ck_184) (b1 ck_185)) (bt (b1 ck_186) (b1 ck_187)))) (bt (bt (b1 ck_188) (bt (b1 ck_189) (b1 ck_190))) (bt (bt (b1 ck_191) (b1 ck_192)) (bt (b1 ck_193) (b1 ck_194)))))) (bt (bt (bt (bt (b1 ck_195) (bt (b1 ck_196) (b1 ck_197))) (bt (bt (b1 ck_198) (b1 ck_199)) (bt (b1 ck_200) (b1 ck_201)))) (bt (bt (b1 ck_202) (bt (b1 ck_203) (b1 ck_204))) (bt (bt (b1 ck_205) (b1 ck_206)) (bt (b1 ck_207) (b1 ck_208))))) (bt (bt (bt (b1 ck_209) (bt (b1 ck_210) (b1 ck_211))) (bt (bt (b1 ck_212) (b1 ck_213)) (bt (b1 ck_214) (b1 ck_215)))) (bt (bt (b1 ck_216) (bt (b1 ck_217) (b1 ck_218))) (bt (bt (b1 ck_219) (b1 ck_220)) (bt (b1 ck_221) (b1 ck_222)))))))))
theorem cr_all : ∀ j, 0 ≤ j → j < 41 → cdR 223 (64 * j) = true := (bt (bt (bt (bt (bt (b1 cr_0) (b1 cr_1)) (bt (b1 cr_2) (bt (b1 cr_3) (b1 cr_4)))) (bt (bt (b1 cr_5) (b1 cr_6)) (bt (b1 cr_7) (bt (b1 cr_8) (b1 cr_9))))) (bt (bt (bt (b1 cr_10) (b1 cr_11)) (bt (b1 cr_12) (bt (b1 cr_13) (b1 cr_14)))) (bt (bt (b1 cr_15) (b1 cr_16)) (bt (b1 cr_17) (bt (b1 cr_18) (b1 cr_19)))))) (bt (bt (bt (bt (b1 cr_20) (b1 cr_21)) (bt (b1 cr_22) (bt (b1 cr_23) (b1 cr_24)))) (bt (bt (b1 cr_25) (b1 cr_26)) (bt (b1 cr_27) (bt (b1 cr_28) (b1 cr_29))))) (bt (bt (bt (b1 cr_30) (b1 cr_31)) (bt (b1 cr_32) (bt (b1 cr_33) (b1 cr_34)))) (bt (bt (b1 cr_35) (bt (b1 cr_36) (b1 cr_37))) (bt (b1 cr_38) (bt (b1 cr_39) (b1 cr_40)))))))
