set_option maxRecDepth 1000000 in
theorem mk_0 : mtOk 0 = true := by decide +kernel
set_option maxRecDepth 1000000 in
theorem mk_1 : mtOk 1 = true := by decide +kernel
set_option maxRecDepth 1000000 in
theorem mk_2 : mtOk 2 = true := by decide +kernel
set_option maxRecDepth 1000000 in
theorem mk_3 : mtOk 3 = true := by decide +kernel
set_option maxRecDepth 1000000 in
theorem mk_4 : mtOk 4 = true := by decide +kernel
set_option maxRecDepth 1000000 in
theorem mk_5 : mtOk 5 = true := by decide +kernel
set_option maxRecDepth 1000000 in
theorem mk_6 : mtOk 6 = true := by decide +kernel
set_option maxRecDepth 1000000 in
theorem mk_7 : mtOk 7 = true := by decide +kernel
set_option maxRecDepth 1000000 in
theorem mk_8 : mtOk 8 = true := by decide +kernel
set_option maxRecDepth 1000000 in
theorem mk_9 : mtOk 9 = true := by decide +kernel
set_option maxRecDepth 1000000 in
theorem mk_10 : mtOk 10 = true := by decide +kernel
set_option maxRecDepth 1000000 in
theorem mk_11 : mtOk 11 = true := by decide +kernel
set_option maxRecDepth 1000000 in
theorem mk_12 : mtOk 12 = true := by decide +kernel
set_option maxRecDepth 1000000 in
theorem mk_13 : mtOk 13 = true := by decide +kernel
set_option maxRecDepth 1000000 in
theorem mk_14 : mtOk 14 = true := by decide +kernel
set_option maxRecDepth 1000000 in
theorem mk_15 : mtOk 15 = true := by decide +kernel
set_option maxRecDepth 1000000 in
theorem mk_16 : mtOk 16 = true := by decide +kernel
set_option maxRecDepth 1000000 in
theorem mk_17 : mtOk 17 = true := by decide +kernel
set_option maxRecDepth 1000000 in
theorem mk_18 : mtOk 18 = true := by decide +kernel
set_option maxRecDepth 1000000 in
theorem mk_19 : mtOk 19 = true := by decide +kernel
set_option maxRecDepth 1000000 in
theorem mk_20 : mtOk 20 = true := by decide +kernel
set_option maxRecDepth 1000000 in
theorem mk_21 : mtOk 21 = true := by decide +kernel
set_option maxRecDepth 1000000 in
theorem mk_22 : mtOk 22 = true := by decide +kernel
set_option maxRecDepth 1000000 in
theorem mk_23 : mtOk 23 = true := by decide +kernel
set_option maxRecDepth 1000000 in
theorem mk_24 : mtOk 24 = true := by decide +kernel
set_option maxRecDepth 1000000 in
theorem mk_25 : mtOk 25 = true := by decide +kernel
set_option maxRecDepth 1000000 in
theorem mk_26 : mtOk 26 = true := by decide +kernel
set_option maxRecDepth 1000000 in
theorem mk_27 : mtOk 27 = true := by decide +kernel
set_option maxRecDepth 1000000 in
theorem mk_28 : mtOk 28 = true := by decide +kernel
set_option maxRecDepth 1000000 in
theorem mk_29 : mtOk 29 = true := by decide +kernel
set_option maxRecDepth 1000000 in
theorem mk_30 : mtOk 30 = true := by decide +kernel
set_option maxRecDepth 1000000 in
theorem mk_31 : mtOk 31 = true := by decide +kernel
set_option maxRecDepth 1000000 in
theorem mk_32 : mtOk 32 = true := by decide +kernel
set_option maxRecDepth 1000000 in
theorem mk_33 : mtOk 33 = true := by decide +kernel
set_option maxRecDepth 1000000 in
theorem mk_34 : mtOk 34 = true := by decide +kernel
set_option maxRecDepth 1000000 in
theorem mk_35 : mtOk 35 = true := by decide +kernel
set_option maxRecDepth 1000000 in
theorem mk_36 : mtOk 36 = true := by decide +kernel
set_option maxRecDepth 1000000 in
theorem mk_37 : mtOk 37 = true := by decide +kernel
set_option maxRecDepth 1000000 in
theorem mk_38 : mtOk 38 = true := by decide +kernel
set_option maxRecDepth 1000000 in
theorem mk_39 : mtOk 39 = true := by decide +kernel
set_option maxRecDepth 1000000 in
theorem mk_40 : mtOk 40 = true := by decide +kernel
set_option maxRecDepth 1000000 in
theorem mk_41 : mtOk 41 = true := by decide +kernel
set_option maxRecDepth 1000000 in
theorem mk_42 : mtOk 42 = true := by decide +kernel
set_option maxRecDepth 1000000 in
theorem mk_43 : mtOk 43 = true := by decide +kernel
set_option maxRecDepth 1000000 in
theorem mk_44 : mtOk 44 = true := by decide +kernel
set_option maxRecDepth 1000000 in
theorem mk_45 : mtOk 45 = true := by decide +kernel
set_option maxRecDepth 1000000 in
theorem mk_46 : mtOk 46 = true := by decide +kernel
set_option maxRecDepth 1000000 in
theorem mk_47 : mtOk 47 = true := by decide +kernel
set_option maxRecDepth 1000000 in
theorem mk_48 : mtOk 48 = true := by decide +kernel
set_option maxRecDepth 1000000 in
theorem mk_49 : mtOk 49 = true := by decide +kernel
set_option maxRecDepth 1000000 in
theorem mk_50 : mtOk 50 = true := by decide +kernel
set_option maxRecDepth 1000000 in
theorem mk_51 : mtOk 51 = true := by decide +kernel
set_option maxRecDepth 1000000 in
theorem mk_52 : mtOk 52 = true := by decide +kernel
set_option maxRecDepth 1000000 in
theorem mk_53 : mtOk 53 = true := by decide +kernel
set_option maxRecDepth 1000000 in
theorem mk_54 : mtOk 54 = true := by decide +kernel
set_option maxRecDepth 1000000 in
theorem mk_55 : mtOk 55 = true := by decide +kernel
set_option maxRecDepth 1000000 in
theorem mk_56 : mtOk 56 = true := by decide +kernel
set_option maxRecDepth 1000000 in
theorem mk_57 : mtOk 57 = true := by decide +kernel
set_option maxRecDepth 1000000 in
theorem mk_58 : mtOk 58 = true := by decide +kernel
set_option maxRecDepth 1000000 in
theorem mk_59 : mtOk 59 = true := by decide +kernel
set_option maxRecDepth 1000000 in
theorem mk_60 : mtOk 60 = true := by decide +kernel
set_option maxRecDepth 1000000 in
theorem mk_61 : mtOk 61 = true := by decide +kernel
set_option maxRecDepth 1000000 in
theorem mk_62 : mtOk 62 = true := by decide +kernel
set_option maxRecDepth 1000000 in
theorem mk_63 : mtOk 63 = true := by decide +kernel
set_option maxRecDepth 1000000 in
theorem mk_64 : mtOk 64 = true := by decide +kernel
set_option maxRecDepth 1000000 in
theorem mk_65 : mtOk 65 = true := by decide +kernel
set_option maxRecDepth 1000000 in
theorem mk_66 : mtOk 66 = true := by decide +kernel
set_option maxRecDepth 1000000 in
theorem mk_67 : mtOk 67 = true := by decide +kernel
set_option maxRecDepth 1000000 in
theorem mk_68 : mtOk 68 = true := by decide +kernel
set_option maxRecDepth 1000000 in
theorem mk_69 : mtOk 69 = true := by decide +kernel
set_option maxRecDepth 1000000 in
theorem mk_70 : mtOk 70 = true := by decide +kernel
set_option maxRecDepth 1000000 in
theorem mk_71 : mtOk 71 = true := by decide +kernel
set_option maxRecDepth 1000000 in
theorem mk_72 : mtOk 72 = true := by decide +kernel
set_option maxRecDepth 1000000 in
theorem mk_73 : mtOk 73 = true := by decide +kernel
set_option maxRecDepth 1000000 in
theorem mk_74 : mtOk 74 = true := by decide +kernel
set_option maxRecDepth 1000000 in
theorem mk_75 : mtOk 75 = true := by decide +kernel
set_option maxRecDepth 1000000 in
theorem mk_76 : mtOk 76 = true := by decide +kernel
set_option maxRecDepth 1000000 in
theorem mk_77 : mtOk 77 = true := by decide +kernel
set_option maxRecDepth 1000000 in
theorem mk_78 : mtOk 78 = true := by decide +kernel
set_option maxRecDepth 1000000 in
theorem mk_79 : mtOk 79 = true := by decide +kernel
set_option maxRecDepth 1000000 in
theorem mk_80 : mtOk 80 = true := by decide +kernel
set_option maxRecDepth 1000000 in
theorem mk_81 : mtOk 81 = true := by decide +kernel
set_option maxRecDepth 1000000 in
theorem mk_82 : mtOk 82 = true := by decide +kernel
set_option maxRecDepth 1000000 in
theorem mk_83 : mtOk 83 = true := by decide +kernel
set_option maxRecDepth 1000000 in
theorem mk_84 : mtOk 84 = true := by decide +kernel
set_option maxRecDepth 1000000 in
theorem mk_85 : mtOk 85 = true := by decide +kernel
set_option maxRecDepth 1000000 in
theorem mk_86 : mtOk 86 = true := by decide +kernel
set_option maxRecDepth 1000000 in
theorem mk_87 : mtOk 87 = true := by decide +kernel
set_option maxRecDepth 1000000 in
theorem mk_88 : mtOk 88 = true := by decide +kernel
set_option maxRecDepth 1000000 in
theorem mk_89 : mtOk 89 = true := by decide +kernel
set_option maxRecDepth 1000000 in
theorem mk_90 : mtOk 90 = true := by decide +kernel
set_option maxRecDepth 1000000 in
theorem mk_91 : mtOk 91 = true := by decide +kernel
set_option maxRecDepth 1000000 in
theorem mk_92 : mtOk 92 = true := by decide +kernel
set_option maxRecDepth 1000000 in
theorem mk_93 : mtOk 93 = true := by decide +kernel
set_option maxRecDepth 1000000 in
theorem mk_94 : mtOk 94 = true := by decide +kernel
set_option maxRecDepth 1000000 in
theorem mk_95 : mtOk 95 = true := by decide +kernel
set_option maxRecDepth 1000000 in
theorem mk_96 : mtOk 96 = true := by decide +kernel
set_option maxRecDepth 1000000 in
theorem mk_97 : mtOk 97 = true := by decide +kernel
set_option maxRecDepth 1000000 in
theorem mk_98 : mtOk 98 = true := by decide +kernel
set_option maxRecDepth 1000000 in
theorem mk_99 : mtOk 99 = true := by decide +kernel
set_option maxRecDepth 1000000 in
theorem mk_100 : mtOk 100 = true := by decide +kernel
set_option maxRecDepth 1000000 in
theorem mk_101 : mtOk 101 = true := by decide +kernel
set_option maxRecDepth 1000000 in
theorem mk_102 : mtOk 102 = true := by decide +kernel
set_option maxRecDepth 1000000 in
theorem mk_103 : mtOk 103 = true := by decide +kernel
set_option maxRecDepth 1000000 in
theorem mk_104 : mtOk 104 = true := by decide +kernel
set_option maxRecDepth 1000000 in
theorem mk_105 : mtOk 105 = true := by decide +kernel
set_option maxRecDepth 1000000 in
theorem mk_106 : mtOk 106 = true := by decide +kernel
set_option maxRecDepth 1000000 in
theorem mk_107 : mtOk 107 = true := by decide +kernel
set_option maxRecDepth 1000000 in
theorem mk_108 : mtOk 108 = true := by decide +kernel
set_option maxRecDepth 1000000 in
theorem mk_109 : mtOk 109 = true := by decide +kernel
set_option maxRecDepth 1000000 in
theorem mk_110 : mtOk 110 = true := by decide +kernel
set_option maxRecDepth 1000000 in
theorem mk_111 : mtOk 111 = true := by decide +kernel
set_option maxRecDepth 1000000 in
theorem mk_112 : mtOk 112 = true := by decide +kernel
set_option maxRecDepth 1000000 in
theorem mk_113 : mtOk 113 = true := by decide +kernel
set_option maxRecDepth 1000000 in
theorem mk_114 : mtOk 114 = true := by decide +kernel
set_option maxRecDepth 1000000 in
theorem mk_115 : mtOk 115 = true := by decide +kernel
set_option maxRecDepth 1000000 in
theorem mk_116 : mtOk 116 = true := by decide +kernel
set_option maxRecDepth 1000000 in
theorem mk_117 : mtOk 117 = true := by decide +kernel
set_option maxRecDepth 1000000 in
theorem mk_118 : mtOk 118 = true := by decide +kernel
set_option maxRecDepth 1000000 in
theorem mk_119 : mtOk 119 = true := by decide +kernel
set_option maxRecDepth 1000000 in
theorem mk_120 : mtOk 120 = true := by decide +kernel
set_option maxRecDepth 1000000 in
theorem mk_121 : mtOk 121 = true := by decide +kernel
set_option maxRecDepth 1000000 in
theorem mk_122 : mtOk 122 = true := by decide +kernel
set_option maxRecDepth 1000000 in
theorem mk_123 : mtOk 123 = true := by decide +kernel
set_option maxRecDepth 1000000 in
theorem mk_124 : mtOk 124 = true := by decide +kernel
set_option maxRecDepth 1000000 in
theorem mk_125 : mtOk 125 = true := by decide +kernel
set_option maxRecDepth 1000000 in
theorem mk_126 : mtOk 126 = true := by decide +kernel
set_option maxRecDepth 1000000 in
theorem mk_127 : mtOk 127 = true := by decide +kernel
set_option maxRecDepth 1000000 in
theorem mk_128 : mtOk 128 = true := by decide +kernel
set_option maxRecDepth 1000000 in
theorem mk_129 : mtOk 129 = true := by decide +kernel
set_option maxRecDepth 1000000 in
theorem mk_130 : mtOk 130 = true := by decide +kernel
set_option maxRecDepth 1000000 in
theorem mk_131 : mtOk 131 = true := by decide +kernel
set_option maxRecDepth 1000000 in
theorem mk_132 : mtOk 132 = true := by decide +kernel
set_option maxRecDepth 1000000 in
theorem mk_133 : mtOk 133 = true := by decide +kernel
set_option maxRecDepth 1000000 in
theorem mk_134 : mtOk 134 = true := by decide +kernel
set_option maxRecDepth 1000000 in
theorem mk_135 : mtOk 135 = true := by decide +kernel
set_option maxRecDepth 1000000 in
theorem mk_136 : mtOk 136 = true := by decide +kernel
set_option maxRecDepth 1000000 in
theorem mk_137 : mtOk 137 = true := by decide +kernel
set_option maxRecDepth 1000000 in
theorem mk_138 : mtOk 138 = true := by decide +kernel
set_option maxRecDepth 1000000 in
theorem mk_139 : mtOk 139 = true := by decide +kernel
set_option maxRecDepth 1000000 in
theorem mk_140 : mtOk 140 = true := by decide +kernel
set_option maxRecDepth 1000000 in
theorem mk_141 : mtOk 141 = true := by decide +kernel
set_option maxRecDepth 1000000 in
theorem mk_142 : mtOk 142 = true := by decide +kernel
set_option maxRecDepth 1000000 in
theorem mk_143 : mtOk 143 = true := by decide +kernel
set_option maxRecDepth 1000000 in
theorem mk_144 : mtOk 144 = true := by decide +kernel
set_option maxRecDepth 1000000 in
theorem mk_145 : mtOk 145 = true := by decide +kernel
set_option maxRecDepth 1000000 in
theorem mk_146 : mtOk 146 = true := by decide +kernel
set_option maxRecDepth 1000000 in
theorem mk_147 : mtOk 147 = true := by decide +kernel
set_option maxRecDepth 1000000 in
theorem mk_148 : mtOk 148 = true := by decide +kernel
set_option maxRecDepth 1000000 in
theorem mk_149 : mtOk 149 = true := by decide +kernel
set_option maxRecDepth 1000000 in
theorem mk_150 : mtOk 150 = true := by decide +kernel
set_option maxRecDepth 1000000 in
theorem mk_151 : mtOk 151 = true := by decide +kernel
set_option maxRecDepth 1000000 in
theorem mk_152 : mtOk 152 = true := by decide +kernel
set_option maxRecDepth 1000000 in
theorem mk_153 : mtOk 153 = true := by decide +kernel
set_option maxRecDepth 1000000 in
theorem mk_154 : mtOk 154 = true := by decide +kernel
set_option maxRecDepth 1000000 in
theorem mk_155 : mtOk 155 = true := by decide +kernel
set_option maxRecDepth 1000000 in
theorem mk_156 : mtOk 156 = true := by decide +kernel
set_option maxRecDepth 1000000 in
theorem mk_157 : mtOk 157 = true := by decide +kernel
set_option maxRecDepth 1000000 in
theorem mk_158 : mtOk 158 = true := by decide +kernel
set_option maxRecDepth 1000000 in
theorem mk_159 : mtOk 159 = true := by decide +kernel
set_option maxRecDepth 1000000 in
theorem mk_160 : mtOk 160 = true := by decide +kernel
set_option maxRecDepth 1000000 in
theorem mk_161 : mtOk 161 = true := by decide +kernel
set_option maxRecDepth 1000000 in
theorem mk_162 : mtOk 162 = true := by decide +kernel
set_option maxRecDepth 1000000 in
theorem mk_163 : mtOk 163 = true := by decide +kernel
set_option maxRecDepth 1000000 in
theorem mk_164 : mtOk 164 = true := by decide +kernel
set_option maxRecDepth 1000000 in
theorem mk_165 : mtOk 165 = true := by decide +kernel
set_option maxRecDepth 1000000 in
theorem mk_166 : mtOk 166 = true := by decide +kernel
set_option maxRecDepth 1000000 in
theorem mk_167 : mtOk 167 = true := by decide +kernel
set_option maxRecDepth 1000000 in
theorem mk_168 : mtOk 168 = true := by decide +kernel
set_option maxRecDepth 1000000 in
theorem mk_169 : mtOk 169 = true := by decide +kernel
set_option maxRecDepth 1000000 in
theorem mk_170 : mtOk 170 = true := by decide +kernel
set_option maxRecDepth 1000000 in
theorem mk_171 : mtOk 171 = true := by decide +kernel
set_option maxRecDepth 1000000 in
theorem mk_172 : mtOk 172 = true := by decide +kernel
set_option maxRecDepth 1000000 in
theorem mk_173 : mtOk 173 = true := by decide +kernel
set_option maxRecDepth 1000000 in
theorem mk_174 : mtOk 174 = true := by decide +kernel
set_option maxRecDepth 1000000 in
theorem mk_175 : mtOk 175 = true := by decide +kernel
set_option maxRecDepth 1000000 in
theorem mk_176 : mtOk 176 = true := by decide +kernel
set_option maxRecDepth 1000000 in
theorem mk_177 : mtOk 177 = true := by decide +kernel
set_option maxRecDepth 1000000 in
theorem mk_178 : mtOk 178 = true := by decide +kernel
set_option maxRecDepth 1000000 in
theorem mk_179 : mtOk 179 = true := by decide +kernel
set_option maxRecDepth 1000000 in
theorem mk_180 : mtOk 180 = true := by decide +kernel
set_option maxRecDepth 1000000 in
theorem mk_181 : mtOk 181 = true := by decide +kernel
set_option maxRecDepth 1000000 in
theorem mk_182 : mtOk 182 = true := by decide +kernel
set_option maxRecDepth 1000000 in
theorem mk_183 : mtOk 183 = true := by decide +kernel
set_option maxRecDepth 1000000 in
theorem mk_184 : mtOk 184 = true := by decide +kernel
set_option maxRecDepth 1000000 in
theorem mk_185 : mtOk 185 = true := by decide +kernel
set_option maxRecDepth 1000000 in
theorem mk_186 : mtOk 186 = true := by decide +kernel
set_option maxRecDepth 1000000 in
theorem mk_187 : mtOk 187 = true := by decide +kernel
set_option maxRecDepth 1000000 in
theorem mk_188 : mtOk 188 = true := by decide +kernel
set_option maxRecDepth 1000000 in
theorem mk_189 : mtOk 189 = true := by decide +kernel
set_option maxRecDepth 1000000 in
theorem mk_190 : mtOk 190 = true := by decide +kernel
set_option maxRecDepth 1000000 in
theorem mk_191 : mtOk 191 = true := by decide +kernel
set_option maxRecDepth 1000000 in
theorem mk_192 : mtOk 192 = true := by decide +kernel
set_option maxRecDepth 1000000 in
theorem mk_193 : mtOk 193 = true := by decide +kernel
set_option maxRecDepth 1000000 in
theorem mk_194 : mtOk 194 = true := by decide +kernel
set_option maxRecDepth 1000000 in
theorem mk_195 : mtOk 195 = true := by decide +kernel
set_option maxRecDepth 1000000 in
theorem mk_196 : mtOk 196 = true := by decide +kernel
set_option maxRecDepth 1000000 in
theorem mk_197 : mtOk 197 = true := by decide +kernel
set_option maxRecDepth 1000000 in
theorem mk_198 : mtOk 198 = true := by decide +kernel
set_option maxRecDepth 1000000 in
theorem mk_199 : mtOk 199 = true := by decide +kernel
set_option maxRecDepth 1000000 in
theorem mk_200 : mtOk 200 = true := by decide +kernel
set_option maxRecDepth 1000000 in
theorem mk_201 : mtOk 201 = true := by decide +kernel
set_option maxRecDepth 1000000 in
theorem mk_202 : mtOk 202 = true := by decide +kernel
set_option maxRecDepth 1000000 in
theorem mk_203 : mtOk 203 = true := by decide +kernel
set_option maxRecDepth 1000000 in
theorem mk_204 : mtOk 204 = true := by decide +kernel
set_option maxRecDepth 1000000 in
theorem mk_205 : mtOk 205 = true := by decide +kernel
set_option maxRecDepth 1000000 in
theorem mk_206 : mtOk 206 = true := by decide +kernel
set_option maxRecDepth 1000000 in
theorem mk_207 : mtOk 207 = true := by decide +kernel
set_option maxRecDepth 1000000 in
theorem mk_208 : mtOk 208 = true := by decide +kernel
set_option maxRecDepth 1000000 in
theorem mk_209 : mtOk 209 = true := by decide +kernel
set_option maxRecDepth 1000000 in
theorem mk_210 : mtOk 210 = true := by decide +kernel
set_option maxRecDepth 1000000 in
theorem mk_211 : mtOk 211 = true := by decide +kernel
set_option maxRecDepth 1000000 in
theorem mk_212 : mtOk 212 = true := by decide +kernel
set_option maxRecDepth 1000000 in
theorem mk_213 : mtOk 213 = true := by decide +kernel
set_option maxRecDepth 1000000 in
theorem mk_214 : mtOk 214 = true := by decide +kernel
set_option maxRecDepth 1000000 in
theorem mk_215 : mtOk 215 = true := by decide +kernel
set_option maxRecDepth 1000000 in
theorem mk_216 : mtOk 216 = true := by decide +kernel
set_option maxRecDepth 1000000 in
theorem mk_217 : mtOk 217 = true := by decide +kernel
set_option maxRecDepth 1000000 in
theorem mk_218 : mtOk 218 = true := by decide +kernel
set_option maxRecDepth 1000000 in
theorem mk_219 : mtOk 219 = true := by decide +kernel
set_option maxRecDepth 1000000 in
theorem mk_220 : mtOk 220 = true := by decide +kernel
set_option maxRecDepth 1000000 in
theorem mk_221 : mtOk 221 = true := by decide +kernel
set_option maxRecDepth 1000000 in
theorem mk_222 : mtOk 222 = true := by decide +kernel
set_option maxRecDepth 1000000 in
theorem mk_223 : mtOk 223 = true := by decide +kernel
set_option maxRecDepth 1000000 in
theorem ck_0 : cdOk 0 = true := by decide +kernel
set_option maxRecDepth 1000000 in
theorem ck_1 : cdOk 1 = true := by decide +kernel
set_option maxRecDepth 1000000 in
theorem ck_2 : cdOk 2 = true := by decide +kernel
set_option maxRecDepth 1000000 in
theorem ck_3 : cdOk 3 = true := by decide +kernel
set_option maxRecDepth 1000000 in
theorem ck_4 : cdOk 4 = true := by decide +kernel
set_option maxRecDepth 1000000 in
theorem ck_5 : cdOk 5 = true := by decide +kernel
set_option maxRecDepth 1000000 in
theorem ck_6 : cdOk 6 = true := by decide +kernel
set_option maxRecDepth 1000000 in
theorem ck_7 : cdOk 7 = true := by decide +kernel
set_option maxRecDepth 1000000 in
theorem ck_8 : cdOk 8 = true := by decide +kernel
set_option maxRecDepth 1000000 in
theorem ck_9 : cdOk 9 = true := by decide +kernel
set_option maxRecDepth 1000000 in
theorem ck_10 : cdOk 10 = true := by decide +kernel
set_option maxRecDepth 1000000 in
theorem ck_11 : cdOk 11 = true := by decide +kernel
set_option maxRecDepth 1000000 in
theorem ck_12 : cdOk 12 = true := by decide +kernel
set_option maxRecDepth 1000000 in
theorem ck_13 : cdOk 13 = true := by decide +kernel
set_option maxRecDepth 1000000 in
theorem ck_14 : cdOk 14 = true := by decide +kernel
set_option maxRecDepth 1000000 in
theorem ck_15 : cdOk 15 = true := by decide +kernel
set_option maxRecDepth 1000000 in
theorem ck_16 : cdOk 16 = true := by decide +kernel
set_option maxRecDepth 1000000 in
theorem ck_17 : cdOk 17 = true := by decide +kernel
set_option maxRecDepth 1000000 in
theorem ck_18 : cdOk 18 = true := by decide +kernel
set_option maxRecDepth 1000000 in
theorem ck_19 : cdOk 19 = true := by decide +kernel
set_option maxRecDepth 1000000 in
theorem ck_20 : cdOk 20 = true := by decide +kernel
set_option maxRecDepth 1000000 in
theorem ck_21 : cdOk 21 = true := by decide +kernel
set_option maxRecDepth 1000000 in
theorem ck_22 : cdOk 22 = true := by decide +kernel
set_option maxRecDepth 1000000 in
theorem ck_23 : cdOk 23 = true := by decide +kernel
set_option maxRecDepth 1000000 in
theorem ck_24 : cdOk 24 = true := by decide +kernel
set_option maxRecDepth 1000000 in
theorem ck_25 : cdOk 25 = true := by decide +kernel
set_option maxRecDepth 1000000 in
theorem ck_26 : cdOk 26 = true := by decide +kernel
set_option maxRecDepth 1000000 in
theorem ck_27 : cdOk 27 = true := by decide +kernel
set_option maxRecDepth 1000000 in
theorem ck_28 : cdOk 28 = true := by decide +kernel
set_option maxRecDepth 1000000 in
theorem ck_29 : cdOk 29 = true := by decide +kernel
set_option maxRecDepth 1000000 in
theorem ck_30 : cdOk 30 = true := by decide +kernel
set_option maxRecDepth 1000000 in
theorem ck_31 : cdOk 31 = true := by decide +kernel
set_option maxRecDepth 1000000 in
theorem ck_32 : cdOk 32 = true := by decide +kernel
set_option maxRecDepth 1000000 in
theorem ck_33 : cdOk 33 = true := by decide +kernel
set_option maxRecDepth 1000000 in
theorem ck_34 : cdOk 34 = true := by decide +kernel
set_option maxRecDepth 1000000 in
theorem ck_35 : cdOk 35 = true := by decide +kernel
set_option maxRecDepth 1000000 in
theorem ck_36 : cdOk 36 = true := by decide +kernel
set_option maxRecDepth 1000000 in
theorem ck_37 : cdOk 37 = true := by decide +kernel
set_option maxRecDepth 1000000 in
theorem ck_38 : cdOk 38 = true := by decide +kernel
set_option maxRecDepth 1000000 in
theorem ck_39 : cdOk 39 = true := by decide +kernel
set_option maxRecDepth 1000000 in
theorem ck_40 : cdOk 40 = true := by decide +kernel
set_option maxRecDepth 1000000 in
theorem ck_41 : cdOk 41 = true := by decide +kernel
set_option maxRecDepth 1000000 in
theorem ck_42 : cdOk 42 = true := by decide +kernel
set_option maxRecDepth 1000000 in
theorem ck_43 : cdOk 43 = true := by decide +kernel
set_option maxRecDepth 1000000 in
theorem ck_44 : cdOk 44 = true := by decide +kernel
set_option maxRecDepth 1000000 in
theorem ck_45 : cdOk 45 = true := by decide +kernel
set_option maxRecDepth 1000000 in
theorem ck_46 : cdOk 46 = true := by decide +kernel
set_option maxRecDepth 1000000 in
theorem ck_47 : cdOk 47 = true := by decide +kernel
set_option maxRecDepth 1000000 in
theorem ck_48 : cdOk 48 = true := by decide +kernel
set_option maxRecDepth 1000000 in
theorem ck_49 : cdOk 49 = true := by decide +kernel
set_option maxRecDepth 1000000 in
theorem ck_50 : cdOk 50 = true := by decide +kernel
set_option maxRecDepth 1000000 in
theorem ck_51 : cdOk 51 = true := by decide +kernel
set_option maxRecDepth 1000000 in
theorem ck_52 : cdOk 52 = true := by decide +kernel
set_option maxRecDepth 1000000 in
theorem ck_53 : cdOk 53 = true := by decide +kernel
set_option maxRecDepth 1000000 in
theorem ck_54 : cdOk 54 = true := by decide +kernel
set_option maxRecDepth 1000000 in
theorem ck_55 : cdOk 55 = true := by decide +kernel
set_option maxRecDepth 1000000 in
theorem ck_56 : cdOk 56 = true := by decide +kernel
set_option maxRecDepth 1000000 in
theorem ck_57 : cdOk 57 = true := by decide +kernel
set_option maxRecDepth 1000000 in
theorem ck_58 : cdOk 58 = true := by decide +kernel
set_option maxRecDepth 1000000 in
theorem ck_59 : cdOk 59 = true := by decide +kernel
set_option maxRecDepth 1000000 in
theorem ck_60 : cdOk 60 = true := by decide +kernel
set_option maxRecDepth 1000000 in
theorem ck_61 : cdOk 61 = true := by decide +kernel
set_option maxRecDepth 1000000 in
theorem ck_62 : cdOk 62 = true := by decide +kernel
set_option maxRecDepth 1000000 in
theorem ck_63 : cdOk 63 = true := by decide +kernel
set_option maxRecDepth 1000000 in
theorem ck_64 : cdOk 64 = true := by decide +kernel
set_option maxRecDepth 1000000 in
theorem ck_65 : cdOk 65 = true := by decide +kernel
set_option maxRecDepth 1000000 in
theorem ck_66 : cdOk 66 = true := by decide +kernel
set_option maxRecDepth 1000000 in
theorem ck_67 : cdOk 67 = true := by decide +kernel
set_option maxRecDepth 1000000 in
theorem ck_68 : cdOk 68 = true := by decide +kernel
set_option maxRecDepth 1000000 in
theorem ck_69 : cdOk 69 = true := by decide +kernel
set_option maxRecDepth 1000000 in
theorem ck_70 : cdOk 70 = true := by decide +kernel
set_option maxRecDepth 1000000 in
theorem ck_71 : cdOk 71 = true := by decide +kernel
set_option maxRecDepth 1000000 in
theorem ck_72 : cdOk 72 = true := by decide +kernel
set_option maxRecDepth 1000000 in
theorem ck_73 : cdOk 73 = true := by decide +kernel
set_option maxRecDepth 1000000 in
theorem ck_74 : cdOk 74 = true := by decide +kernel
set_option maxRecDepth 1000000 in
theorem ck_75 : cdOk 75 = true := by decide +kernel
set_option maxRecDepth 1000000 in
theorem ck_76 : cdOk 76 = true := by decide +kernel
set_option maxRecDepth 1000000 in
theorem ck_77 : cdOk 77 = true := by decide +kernel
set_option maxRecDepth 1000000 in
theorem ck_78 : cdOk 78 = true := by decide +kernel
set_option maxRecDepth 1000000 in
theorem ck_79 : cdOk 79 = true := by decide +kernel
set_option maxRecDepth 1000000 in
theorem ck_80 : cdOk 80 = true := by decide +kernel
set_option maxRecDepth 1000000 in
theorem ck_81 : cdOk 81 = true := by decide +kernel
set_option maxRecDepth 1000000 in
theorem ck_82 : cdOk 82 = true := by decide +kernel
set_option maxRecDepth 1000000 in
theorem ck_83 : cdOk 83 = true := by decide +kernel
set_option maxRecDepth 1000000 in
theorem ck_84 : cdOk 84 = true := by decide +kernel
set_option maxRecDepth 1000000 in
theorem ck_85 : cdOk 85 = true := by decide +kernel
set_option maxRecDepth 1000000 in
theorem ck_86 : cdOk 86 = true := by decide +kernel
set_option maxRecDepth 1000000 in
theorem ck_87 : cdOk 87 = true := by decide +kernel
set_option maxRecDepth 1000000 in
theorem ck_88 : cdOk 88 = true := by decide +kernel
set_option maxRecDepth 1000000 in
theorem ck_89 : cdOk 89 = true := by decide +kernel
set_option maxRecDepth 1000000 in
theorem ck_90 : cdOk 90 = true := by decide +kernel
set_option maxRecDepth 1000000 in
theorem ck_91 : cdOk 91 = true := by decide +kernel
set_option maxRecDepth 1000000 in
theorem ck_92 : cdOk 92 = true := by decide +kernel
set_option maxRecDepth 1000000 in
theorem ck_93 : cdOk 93 = true := by decide +kernel
set_option maxRecDepth 1000000 in
theorem ck_94 : cdOk 94 = true := by decide +kernel
set_option maxRecDepth 1000000 in
theorem ck_95 : cdOk 95 = true := by decide +kernel
set_option maxRecDepth 1000000 in
theorem ck_96 : cdOk 96 = true := by decide +kernel
set_option maxRecDepth 1000000 in
theorem ck_97 : cdOk 97 = true := by decide +kernel
set_option maxRecDepth 1000000 in
theorem ck_98 : cdOk 98 = true := by decide +kernel
set_option maxRecDepth 1000000 in
theorem ck_99 : cdOk 99 = true := by decide +kernel
set_option maxRecDepth 1000000 in
theorem ck_100 : cdOk 100 = true := by decide +kernel
set_option maxRecDepth 1000000 in
theorem ck_101 : cdOk 101 = true := by decide +kernel
set_option maxRecDepth 1000000 in
theorem ck_102 : cdOk 102 = true := by decide +kernel
set_option maxRecDepth 1000000 in
theorem ck_103 : cdOk 103 = true := by decide +kernel
set_option maxRecDepth 1000000 in
theorem ck_104 : cdOk 104 = true := by decide +kernel
set_option maxRecDepth 1000000 in
theorem ck_105 : cdOk 105 = true := by decide +kernel
set_option maxRecDepth 1000000 in
theorem ck_106 : cdOk 106 = true := by decide +kernel
set_option maxRecDepth 1000000 in
theorem ck_107 : cdOk 107 = true := by decide +kernel
set_option maxRecDepth 1000000 in
theorem ck_108 : cdOk 108 = true := by decide +kernel
set_option maxRecDepth 1000000 in
theorem ck_109 : cdOk 109 = true := by decide +kernel
set_option maxRecDepth 1000000 in
theorem ck_110 : cdOk 110 = true := by decide +kernel
set_option maxRecDepth 1000000 in
theorem ck_111 : cdOk 111 = true := by decide +kernel
set_option maxRecDepth 1000000 in
theorem ck_112 : cdOk 112 = true := by decide +kernel
set_option maxRecDepth 1000000 in
theorem ck_113 : cdOk 113 = true := by decide +kernel
set_option maxRecDepth 1000000 in
theorem ck_114 : cdOk 114 = true := by decide +kernel
set_option maxRecDepth 1000000 in
theorem ck_115 : cdOk 115 = true := by decide +kernel
set_option maxRecDepth 1000000 in
theorem ck_116 : cdOk 116 = true := by decide +kernel
set_option maxRecDepth 1000000 in
theorem ck_117 : cdOk 117 = true := by decide +kernel
set_option maxRecDepth 1000000 in
theorem ck_118 : cdOk 118 = true := by decide +kernel
set_option maxRecDepth 1000000 in
theorem ck_119 : cdOk 119 = true := by decide +kernel
set_option maxRecDepth 1000000 in
theorem ck_120 : cdOk 120 = true := by decide +kernel
set_option maxRecDepth 1000000 in
theorem ck_121 : cdOk 121 = true := by decide +kernel
set_option maxRecDepth 1000000 in
theorem ck_122 : cdOk 122 = true := by decide +kernel
set_option maxRecDepth 1000000 in
theorem ck_123 : cdOk 123 = true := by decide +kernel
set_option maxRecDepth 1000000 in
theorem ck_124 : cdOk 124 = true := by decide +kernel
set_option maxRecDepth 1000000 in
theorem ck_125 : cdOk 125 = true := by decide +kernel
set_option maxRecDepth 1000000 in
theorem ck_126 : cdOk 126 = true := by decide +kernel
set_option maxRecDepth 1000000 in
theorem ck_127 : cdOk 127 = true := by decide +kernel
set_option maxRecDepth 1000000 in
theorem ck_128 : cdOk 128 = true := by decide +kernel
set_option maxRecDepth 1000000 in
theorem ck_129 : cdOk 129 = true := by decide +kernel
set_option maxRecDepth 1000000 in
theorem ck_130 : cdOk 130 = true := by decide +kernel
set_option maxRecDepth 1000000 in
theorem ck_131 : cdOk 131 = true := by decide +kernel
set_option maxRecDepth 1000000 in
theorem ck_132 : cdOk 132 = true := by decide +kernel
set_option maxRecDepth 1000000 in
theorem ck_133 : cdOk 133 = true := by decide +kernel
set_option maxRecDepth 1000000 in
theorem ck_134 : cdOk 134 = true := by decide +kernel
set_option maxRecDepth 1000000 in
theorem ck_135 : cdOk 135 = true := by decide +kernel
set_option maxRecDepth 1000000 in
theorem ck_136 : cdOk 136 = true := by decide +kernel
set_option maxRecDepth 1000000 in
theorem ck_137 : cdOk 137 = true := by decide +kernel
set_option maxRecDepth 1000000 in
theorem ck_138 : cdOk 138 = true := by decide +kernel
set_option maxRecDepth 1000000 in
theorem ck_139 : cdOk 139 = true := by decide +kernel
set_option maxRecDepth 1000000 in
theorem ck_140 : cdOk 140 = true := by decide +kernel
set_option maxRecDepth 1000000 in
theorem ck_141 : cdOk 141 = true := by decide +kernel
set_option maxRecDepth 1000000 in
theorem ck_142 : cdOk 142 = true := by decide +kernel
set_option maxRecDepth 1000000 in
theorem ck_143 : cdOk 143 = true := by decide +kernel
set_option maxRecDepth 1000000 in
theorem ck_144 : cdOk 144 = true := by decide +kernel
set_option maxRecDepth 1000000 in
theorem ck_145 : cdOk 145 = true := by decide +kernel
set_option maxRecDepth 1000000 in
theorem ck_146 : cdOk 146 = true := by decide +kernel
set_option maxRecDepth 1000000 in
theorem ck_147 : cdOk 147 = true := by decide +kernel
set_option maxRecDepth 1000000 in
theorem ck_148 : cdOk 148 = true := by decide +kernel
set_option maxRecDepth 1000000 in
theorem ck_149 : cdOk 149 = true := by decide +kernel
set_option maxRecDepth 1000000 in
theorem ck_150 : cdOk 150 = true := by decide +kernel
set_option maxRecDepth 1000000 in
theorem ck_151 : cdOk 151 = true := by decide +kernel
set_option maxRecDepth 1000000 in
theorem ck_152 : cdOk 152 = true := by decide +kernel
set_option maxRecDepth 1000000 in
theorem ck_153 : cdOk 153 = true := by decide +kernel
set_option maxRecDepth 1000000 in
theorem ck_154 : cdOk 154 = true := by decide +kernel
set_option maxRecDepth 1000000 in
theorem ck_155 : cdOk 155 = true := by decide +kernel
set_option maxRecDepth 1000000 in
theorem ck_156 : cdOk 156 = true := by decide +kernel
set_option maxRecDepth 1000000 in
theorem ck_157 : cdOk 157 = true := by decide +kernel
set_option maxRecDepth 1000000 in
theorem ck_158 : cdOk 158 = true := by decide +kernel
set_option maxRecDepth 1000000 in
theorem ck_159 : cdOk 159 = true := by decide +kernel
set_option maxRecDepth 1000000 in
theorem ck_160 : cdOk 160 = true := by decide +kernel
set_option maxRecDepth 1000000 in
theorem ck_161 : cdOk 161 = true := by decide +kernel
set_option maxRecDepth 1000000 in
theorem ck_162 : cdOk 162 = true := by decide +kernel
set_option maxRecDepth 1000000 in
theorem ck_163 : cdOk 163 = true := by decide +kernel
set_option maxRecDepth 1000000 in
theorem ck_164 : cdOk 164 = true := by decide +kernel
set_option maxRecDepth 1000000 in
theorem ck_165 : cdOk 165 = true := by decide +kernel
set_option maxRecDepth 1000000 in
theorem ck_166 : cdOk 166 = true := by decide +kernel
set_option maxRecDepth 1000000 in
theorem ck_167 : cdOk 167 = true := by decide +kernel
set_option maxRecDepth 1000000 in
theorem ck_168 : cdOk 168 = true := by decide +kernel
set_option maxRecDepth 1000000 in
theorem ck_169 : cdOk 169 = true := by decide +kernel
set_option maxRecDepth 1000000 in
theorem ck_170 : cdOk 170 = true := by decide +kernel
set_option maxRecDepth 1000000 in
theorem ck_171 : cdOk 171 = true := by decide +kernel
set_option maxRecDepth 1000000 in
theorem ck_172 : cdOk 172 = true := by decide +kernel
set_option maxRecDepth 1000000 in
theorem ck_173 : cdOk 173 = true := by decide +kernel
set_option maxRecDepth 1000000 in
theorem ck_174 : cdOk 174 = true := by decide +kernel
set_option maxRecDepth 1000000 in
theorem ck_175 : cdOk 175 = true := by decide +kernel
set_option maxRecDepth 1000000 in
theorem ck_176 : cdOk 176 = true := by decide +kernel
set_option maxRecDepth 1000000 in
theorem ck_177 : cdOk 177 = true := by decide +kernel
set_option maxRecDepth 1000000 in
theorem ck_178 : cdOk 178 = true := by decide +kernel
set_option maxRecDepth 1000000 in
theorem ck_179 : cdOk 179 = true := by decide +kernel
set_option maxRecDepth 1000000 in
theorem ck_180 : cdOk 180 = true := by decide +kernel
set_option maxRecDepth 1000000 in
theorem ck_181 : cdOk 181 = true := by decide +kernel
set_option maxRecDepth 1000000 in
theorem ck_182 : cdOk 182 = true := by decide +kernel
set_option maxRecDepth 1000000 in
theorem ck_183 : cdOk 183 = true := by decide +kernel
set_option maxRecDepth 1000000 in
theorem ck_184 : cdOk 184 = true := by decide +kernel
set_option maxRecDepth 1000000 in
theorem ck_185 : cdOk 185 = true := by decide +kernel
set_option maxRecDepth 1000000 in
theorem ck_186 : cdOk 186 = true := by decide +kernel
set_option maxRecDepth 1000000 in
theorem ck_187 : cdOk 187 = true := by decide +kernel
set_option maxRecDepth 1000000 in
theorem ck_188 : cdOk 188 = true := by decide +kernel
set_option maxRecDepth 1000000 in
theorem ck_189 : cdOk 189 = true := by decide +kernel
set_option maxRecDepth 1000000 in
theorem ck_190 : cdOk 190 = true := by decide +kernel
set_option maxRecDepth 1000000 in
theorem ck_191 : cdOk 191 = true := by decide +kernel
set_option maxRecDepth 1000000 in
theorem ck_192 : cdOk 192 = true := by decide +kernel
set_option maxRecDepth 1000000 in
theorem ck_193 : cdOk 193 = true := by decide +kernel
set_option maxRecDepth 1000000 in
theorem ck_194 : cdOk 194 = true := by decide +kernel
set_option maxRecDepth 1000000 in
theorem ck_195 : cdOk 195 = true := by decide +kernel
set_option maxRecDepth 1000000 in
theorem ck_196 : cdOk 196 = true := by decide +kernel
set_option maxRecDepth 1000000 in
theorem ck_197 : cdOk 197 = true := by decide +kernel
set_option maxRecDepth 1000000 in
theorem ck_198 : cdOk 198 = true := by decide +kernel
set_option maxRecDepth 1000000 in
theorem ck_199 : cdOk 199 = true := by decide +kernel
set_option maxRecDepth 1000000 in
theorem ck_200 : cdOk 200 = true := by decide +kernel
set_option maxRecDepth 1000000 in
theorem ck_201 : cdOk 201 = true := by decide +kernel
set_option maxRecDepth 1000000 in
theorem ck_202 : cdOk 202 = true := by decide +kernel
set_option maxRecDepth 1000000 in
theorem ck_203 : cdOk 203 = true := by decide +kernel
set_option maxRecDepth 1000000 in
theorem ck_204 : cdOk 204 = true := by decide +kernel
set_option maxRecDepth 1000000 in
theorem ck_205 : cdOk 205 = true := by decide +kernel
set_option maxRecDepth 1000000 in
theorem ck_206 : cdOk 206 = true := by decide +kernel
set_option maxRecDepth 1000000 in
theorem ck_207 : cdOk 207 = true := by decide +kernel
set_option maxRecDepth 1000000 in
theorem ck_208 : cdOk 208 = true := by decide +kernel
set_option maxRecDepth 1000000 in
theorem ck_209 : cdOk 209 = true := by decide +kernel
set_option maxRecDepth 1000000 in
theorem ck_210 : cdOk 210 = true := by decide +kernel
set_option maxRecDepth 1000000 in
theorem ck_211 : cdOk 211 = true := by decide +kernel
set_option maxRecDepth 1000000 in
theorem ck_212 : cdOk 212 = true := by decide +kernel
set_option maxRecDepth 1000000 in
theorem ck_213 : cdOk 213 = true := by decide +kernel
set_option maxRecDepth 1000000 in
theorem ck_214 : cdOk 214 = true := by decide +kernel
set_option maxRecDepth 1000000 in
theorem ck_215 : cdOk 215 = true := by decide +kernel
set_option maxRecDepth 1000000 in
theorem ck_216 : cdOk 216 = true := by decide +kernel
set_option maxRecDepth 1000000 in
theorem ck_217 : cdOk 217 = true := by decide +kernel
set_option maxRecDepth 1000000 in
theorem ck_218 : cdOk 218 = true := by decide +kernel
set_option maxRecDepth 1000000 in
theorem ck_219 : cdOk 219 = true := by decide +kernel
set_option maxRecDepth 1000000 in
theorem ck_220 : cdOk 220 = true := by decide +kernel
set_option maxRecDepth 1000000 in
theorem ck_221 : cdOk 221 = true := by decide +kernel
set_option maxRecDepth 1000000 in
theorem ck_222 : cdOk 222 = true := by decide +kernel
set_option maxRecDepth 1000000 in
theorem cr_0 : cdR 223 0 = true := by decide +kernel
set_option maxRecDepth 1000000 in
theorem cr_1 : cdR 223 64 = true := by decide +kernel
set_option maxRecDepth 1000000 in
theorem cr_2 : cdR 223 128 = true := by decide +kernel
set_option maxRecDepth 1000000 in
theorem cr_3 : cdR 223 192 = true := by decide +kernel
set_option maxRecDepth 1000000 in
theorem cr_4 : cdR 223 256 = true := by decide +kernel
set_option maxRecDepth 1000000 in
theorem cr_5 : cdR 223 320 = true := by decide +kernel
set_option maxRecDepth 1000000 in
theorem cr_6 : cdR 223 384 = true := by decide +kernel
set_option maxRecDepth 1000000 in
theorem cr_7 : cdR 223 448 = true := by decide +kernel
set_option maxRecDepth 1000000 in
theorem cr_8 : cdR 223 512 = true := by decide +kernel
set_option maxRecDepth 1000000 in
theorem cr_9 : cdR 223 576 = true := by decide +kernel
set_option maxRecDepth 1000000 in
theorem cr_10 : cdR 223 640 = true := by decide +kernel
set_option maxRecDepth 1000000 in
theorem cr_11 : cdR 223 704 = true := by decide +kernel
set_option maxRecDepth 1000000 in
theorem cr_12 : cdR 223 768 = true := by decide +kernel
set_option maxRecDepth 1000000 in
theorem cr_13 : cdR 223 832 = true := by decide +kernel
set_option maxRecDepth 1000000 in
theorem cr_14 : cdR 223 896 = true := by decide +kernel
set_option maxRecDepth 1000000 in
theorem cr_15 : cdR 223 960 = true := by decide +kernel
set_option maxRecDepth 1000000 in
theorem cr_16 : cdR 223 1024 = true := by decide +kernel
set_option maxRecDepth 1000000 in
theorem cr_17 : cdR 223 1088 = true := by decide +kernel
set_option maxRecDepth 1000000 in
theorem cr_18 : cdR 223 1152 = true := by decide +kernel
set_option maxRecDepth 1000000 in
theorem cr_19 : cdR 223 1216 = true := by decide +kernel
set_option maxRecDepth 1000000 in
theorem cr_20 : cdR 223 1280 = true := by decide +kernel
set_option maxRecDepth 1000000 in
theorem cr_21 : cdR 223 1344 = true := by decide +kernel
set_option maxRecDepth 1000000 in
theorem cr_22 : cdR 223 1408 = true := by decide +kernel
set_option maxRecDepth 1000000 in
theorem cr_23 : cdR 223 1472 = true := by decide +kernel
set_option maxRecDepth 1000000 in
theorem cr_24 : cdR 223 1536 = true := by decide +kernel
set_option maxRecDepth 1000000 in
theorem cr_25 : cdR 223 1600 = true := by decide +kernel
set_option maxRecDepth 1000000 in
theorem cr_26 : cdR 223 1664 = true := by decide +kernel
set_option maxRecDepth 1000000 in
theorem cr_27 : cdR 223 1728 = true := by decide +kernel
set_option maxRecDepth 1000000 in
theorem cr_28 : cdR 223 1792 = true := by decide +kernel
set_option maxRecDepth 1000000 in
theorem cr_29 : cdR 223 1856 = true := by decide +kernel
set_option maxRecDepth 1000000 in
theorem cr_30 : cdR 223 1920 = true := by decide +kernel
set_option maxRecDepth 1000000 in
theorem cr_31 : cdR 223 1984 = true := by decide +kernel
set_option maxRecDepth 1000000 in
theorem cr_32 : cdR 223 2048 = true := by decide +kernel
set_option maxRecDepth 1000000 in
theorem cr_33 : cdR 223 2112 = true := by decide +kernel
set_option maxRecDepth 1000000 in
theorem cr_34 : cdR 223 2176 = true := by decide +kernel
set_option maxRecDepth 1000000 in
theorem cr_35 : cdR 223 2240 = true := by decide +kernel
set_option maxRecDepth 1000000 in
theorem cr_36 : cdR 223 2304 = true := by decide +kernel
set_option maxRecDepth 1000000 in
theorem cr_37 : cdR 223 2368 = true := by decide +kernel
set_option maxRecDepth 1000000 in
theorem cr_38 : cdR 223 2432 = true := by decide +kernel
set_option maxRecDepth 1000000 in
theorem cr_39 : cdR 223 2496 = true := by decide +kernel
