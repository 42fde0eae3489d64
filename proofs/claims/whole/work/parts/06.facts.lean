/-! FACTS of the layout; the words in which methods are told as functions -/
theorem gi_0 : gI 0 = .inl (10, [4, 2, 31, 62, 127, 135, 0, 139, 147, 152, 154, 0]) := rfl
theorem gi_1 : gI 1 = .inl (6, [5, 0, 6, 2, 0, 0, 0, 0, 0, 0]) := rfl
theorem gi_2 : gI 2 = .inr (2, 1200, none) := rfl
theorem gi_3 : gI 3 = .inr (0, 12, none) := rfl
theorem gi_4 : gI 4 = .inl (3, [8, 9, 10, 11, 12, 13, 18, 0, 0, 0]) := rfl
theorem gi_5 : gI 5 = .inr (0, 130, none) := rfl
theorem gi_6 : gI 6 = .inr (0, 130, none) := rfl
theorem gi_7 : gI 7 = .inr (0, 130, none) := rfl
theorem gi_8 : gI 8 = .inr (0, 130, none) := rfl
theorem gi_9 : gI 9 = .inr (0, 130, none) := rfl
theorem gi_10 : gI 10 = .inr (5, 4, some (11, 1)) := rfl
theorem gi_11 : gI 11 = .inr (0, 60, none) := rfl
theorem gi_12 : gI 12 = .inr (0, 60, none) := rfl
theorem gi_13 : gI 13 = .inr (0, 60, none) := rfl
theorem gi_14 : gI 14 = .inr (0, 60, none) := rfl
theorem gi_15 : gI 15 = .inr (0, 4, none) := rfl
theorem gi_16 : gI 16 = .inl (3, [20, 21, 22, 23, 24, 25, 30, 0, 0, 0]) := rfl
theorem gi_17 : gI 17 = .inr (0, 130, none) := rfl
theorem gi_18 : gI 18 = .inr (0, 130, none) := rfl
theorem gi_19 : gI 19 = .inr (0, 130, none) := rfl
theorem gi_20 : gI 20 = .inr (0, 130, none) := rfl
theorem gi_21 : gI 21 = .inr (0, 130, none) := rfl
theorem gi_22 : gI 22 = .inr (5, 4, some (23, 1)) := rfl
theorem gi_23 : gI 23 = .inr (0, 60, none) := rfl
theorem gi_24 : gI 24 = .inr (0, 60, none) := rfl
theorem gi_25 : gI 25 = .inr (0, 60, none) := rfl
theorem gi_26 : gI 26 = .inr (0, 60, none) := rfl
theorem gi_27 : gI 27 = .inr (0, 4, none) := rfl
theorem gi_28 : gI 28 = .inl (1, [32, 57, 58, 59, 60, 61, 0, 0, 0, 0]) := rfl
theorem gi_29 : gI 29 = .inr (5, 24, some (30, 1)) := rfl
theorem gi_30 : gI 30 = .inr (0, 2, none) := rfl
theorem gi_31 : gI 31 = .inr (0, 2, none) := rfl
theorem gi_32 : gI 32 = .inr (0, 2, none) := rfl
theorem gi_33 : gI 33 = .inr (0, 2, none) := rfl
theorem gi_34 : gI 34 = .inr (0, 2, none) := rfl
theorem gi_35 : gI 35 = .inr (0, 2, none) := rfl
theorem gi_36 : gI 36 = .inr (0, 2, none) := rfl
theorem gi_37 : gI 37 = .inr (0, 2, none) := rfl
theorem gi_38 : gI 38 = .inr (0, 2, none) := rfl
theorem gi_39 : gI 39 = .inr (0, 2, none) := rfl
theorem gi_40 : gI 40 = .inr (0, 2, none) := rfl
theorem gi_41 : gI 41 = .inr (0, 2, none) := rfl
theorem gi_42 : gI 42 = .inr (0, 2, none) := rfl
theorem gi_43 : gI 43 = .inr (0, 2, none) := rfl
theorem gi_44 : gI 44 = .inr (0, 2, none) := rfl
theorem gi_45 : gI 45 = .inr (0, 2, none) := rfl
theorem gi_46 : gI 46 = .inr (0, 2, none) := rfl
theorem gi_47 : gI 47 = .inr (0, 2, none) := rfl
theorem gi_48 : gI 48 = .inr (0, 2, none) := rfl
theorem gi_49 : gI 49 = .inr (0, 2, none) := rfl
theorem gi_50 : gI 50 = .inr (0, 2, none) := rfl
theorem gi_51 : gI 51 = .inr (0, 2, none) := rfl
theorem gi_52 : gI 52 = .inr (0, 2, none) := rfl
theorem gi_53 : gI 53 = .inr (0, 2, none) := rfl
theorem gi_54 : gI 54 = .inr (0, 24, none) := rfl
theorem gi_55 : gI 55 = .inr (0, 24, none) := rfl
theorem gi_56 : gI 56 = .inr (3, 60, none) := rfl
theorem gi_57 : gI 57 = .inr (0, 24, none) := rfl
theorem gi_58 : gI 58 = .inr (0, 60, none) := rfl
theorem gi_59 : gI 59 = .inl (4, [63, 0, 0, 0, 124, 125, 126]) := rfl
theorem gi_60 : gI 60 = .inr (5, 60, none) := rfl
theorem gi_61 : gI 61 = .inr (0, 48, none) := rfl
theorem gi_62 : gI 62 = .inr (0, 48, none) := rfl
theorem gi_63 : gI 63 = .inr (0, 48, none) := rfl
theorem gi_64 : gI 64 = .inr (0, 48, none) := rfl
theorem gi_65 : gI 65 = .inr (0, 48, none) := rfl
theorem gi_66 : gI 66 = .inr (0, 48, none) := rfl
theorem gi_67 : gI 67 = .inr (0, 48, none) := rfl
theorem gi_68 : gI 68 = .inr (0, 48, none) := rfl
theorem gi_69 : gI 69 = .inr (0, 48, none) := rfl
theorem gi_70 : gI 70 = .inr (0, 48, none) := rfl
theorem gi_71 : gI 71 = .inr (0, 48, none) := rfl
theorem gi_72 : gI 72 = .inr (0, 48, none) := rfl
theorem gi_73 : gI 73 = .inr (0, 48, none) := rfl
theorem gi_74 : gI 74 = .inr (0, 48, none) := rfl
theorem gi_75 : gI 75 = .inr (0, 48, none) := rfl
theorem gi_76 : gI 76 = .inr (0, 48, none) := rfl
theorem gi_77 : gI 77 = .inr (0, 48, none) := rfl
theorem gi_78 : gI 78 = .inr (0, 48, none) := rfl
theorem gi_79 : gI 79 = .inr (0, 48, none) := rfl
theorem gi_80 : gI 80 = .inr (0, 48, none) := rfl
theorem gi_81 : gI 81 = .inr (0, 48, none) := rfl
theorem gi_82 : gI 82 = .inr (0, 48, none) := rfl
theorem gi_83 : gI 83 = .inr (0, 48, none) := rfl
theorem gi_84 : gI 84 = .inr (0, 48, none) := rfl
theorem gi_85 : gI 85 = .inr (0, 48, none) := rfl
theorem gi_86 : gI 86 = .inr (0, 48, none) := rfl
theorem gi_87 : gI 87 = .inr (0, 48, none) := rfl
theorem gi_88 : gI 88 = .inr (0, 48, none) := rfl
theorem gi_89 : gI 89 = .inr (0, 48, none) := rfl
theorem gi_90 : gI 90 = .inr (0, 48, none) := rfl
theorem gi_91 : gI 91 = .inr (0, 48, none) := rfl
theorem gi_92 : gI 92 = .inr (0, 48, none) := rfl
theorem gi_93 : gI 93 = .inr (0, 48, none) := rfl
theorem gi_94 : gI 94 = .inr (0, 48, none) := rfl
theorem gi_95 : gI 95 = .inr (0, 48, none) := rfl
theorem gi_96 : gI 96 = .inr (0, 48, none) := rfl
theorem gi_97 : gI 97 = .inr (0, 48, none) := rfl
theorem gi_98 : gI 98 = .inr (0, 48, none) := rfl
theorem gi_99 : gI 99 = .inr (0, 48, none) := rfl
theorem gi_100 : gI 100 = .inr (0, 48, none) := rfl
theorem gi_101 : gI 101 = .inr (0, 48, none) := rfl
theorem gi_102 : gI 102 = .inr (0, 48, none) := rfl
theorem gi_103 : gI 103 = .inr (0, 48, none) := rfl
theorem gi_104 : gI 104 = .inr (0, 48, none) := rfl
theorem gi_105 : gI 105 = .inr (0, 48, none) := rfl
theorem gi_106 : gI 106 = .inr (0, 48, none) := rfl
theorem gi_107 : gI 107 = .inr (0, 48, none) := rfl
theorem gi_108 : gI 108 = .inr (0, 48, none) := rfl
theorem gi_109 : gI 109 = .inr (0, 48, none) := rfl
theorem gi_110 : gI 110 = .inr (0, 48, none) := rfl
theorem gi_111 : gI 111 = .inr (0, 48, none) := rfl
theorem gi_112 : gI 112 = .inr (0, 48, none) := rfl
theorem gi_113 : gI 113 = .inr (0, 48, none) := rfl
theorem gi_114 : gI 114 = .inr (0, 48, none) := rfl
theorem gi_115 : gI 115 = .inr (0, 48, none) := rfl
theorem gi_116 : gI 116 = .inr (0, 48, none) := rfl
theorem gi_117 : gI 117 = .inr (0, 48, none) := rfl
theorem gi_118 : gI 118 = .inr (0, 48, none) := rfl
theorem gi_119 : gI 119 = .inr (0, 48, none) := rfl
theorem gi_120 : gI 120 = .inr (0, 48, none) := rfl
theorem gi_121 : gI 121 = .inr (0, 24, none) := rfl
theorem gi_122 : gI 122 = .inr (0, 48, none) := rfl
theorem gi_123 : gI 123 = .inr (0, 48, none) := rfl
theorem gi_124 : gI 124 = .inl (9, [128, 0, 129, 130, 131, 132, 133, 134]) := rfl
theorem gi_125 : gI 125 = .inr (0, 24, none) := rfl
theorem gi_126 : gI 126 = .inr (3, 24, none) := rfl
theorem gi_127 : gI 127 = .inr (0, 24, none) := rfl
theorem gi_128 : gI 128 = .inr (0, 24, none) := rfl
theorem gi_129 : gI 129 = .inr (0, 24, none) := rfl
theorem gi_130 : gI 130 = .inr (1, 24, none) := rfl
theorem gi_131 : gI 131 = .inr (1, 24, none) := rfl
theorem gi_132 : gI 132 = .inl (5, [136, 137, 138]) := rfl
theorem gi_133 : gI 133 = .inr (1, 24, none) := rfl
theorem gi_134 : gI 134 = .inr (1, 24, none) := rfl
theorem gi_135 : gI 135 = .inr (0, 24, none) := rfl
theorem gi_136 : gI 136 = .inl (2, [0, 0, 140, 141, 142, 143]) := rfl
theorem gi_137 : gI 137 = .inr (1, 256, none) := rfl
theorem gi_138 : gI 138 = .inr (1, 256, none) := rfl
theorem gi_139 : gI 139 = .inr (3, 256, none) := rfl
theorem gi_140 : gI 140 = .inl (5, [144, 145, 146]) := rfl
theorem gi_141 : gI 141 = .inr (1, 24, none) := rfl
theorem gi_142 : gI 142 = .inr (1, 24, none) := rfl
theorem gi_143 : gI 143 = .inr (0, 24, none) := rfl
theorem gi_144 : gI 144 = .inl (8, [148, 149, 150, 151, 1, 1]) := rfl
theorem gi_145 : gI 145 = .inr (0, 16, none) := rfl
theorem gi_146 : gI 146 = .inr (1, 16, none) := rfl
theorem gi_147 : gI 147 = .inr (1, 16, none) := rfl
theorem gi_148 : gI 148 = .inr (3, 16, none) := rfl
theorem gi_149 : gI 149 = .inl (0, [153, 0, 0, 0, 0]) := rfl
theorem gi_150 : gI 150 = .inr (0, 16, none) := rfl
theorem gi_151 : gI 151 = .inr (4, 8, some (152, 2)) := rfl
theorem gi_152 : gI 152 = .inl (7, [0, 0, 0, 156]) := rfl
theorem gi_153 : gI 153 = .inr (1, 300, none) := rfl
theorem gi_154 : gI 154 = .inl (7, [0, 0, 0, 158]) := rfl
theorem gi_155 : gI 155 = .inr (1, 300, none) := rfl
theorem gi_156 : gI 156 = .inl (7, [0, 0, 0, 160]) := rfl
theorem gi_157 : gI 157 = .inr (1, 300, none) := rfl
theorem gi_158 : gI 158 = .inl (7, [0, 0, 0, 162]) := rfl
theorem gi_159 : gI 159 = .inr (1, 300, none) := rfl
theorem gi_160 : gI 160 = .inl (7, [0, 0, 0, 164]) := rfl
theorem gi_161 : gI 161 = .inr (1, 300, none) := rfl
theorem gi_162 : gI 162 = .inl (7, [0, 0, 0, 166]) := rfl
theorem gi_163 : gI 163 = .inr (1, 300, none) := rfl
theorem gi_164 : gI 164 = .inl (7, [0, 0, 0, 168]) := rfl
theorem gi_165 : gI 165 = .inr (1, 300, none) := rfl
theorem gi_166 : gI 166 = .inl (7, [0, 0, 0, 170]) := rfl
theorem gi_167 : gI 167 = .inr (1, 300, none) := rfl
theorem gi_168 : gI 168 = .inl (11, [0, 172, 173, 174, 175, 0, 176, 177, 178, 0, 179, 180, 0, 181, 182, 183, 0, 184, 185, 0, 0, 0, 186, 187, 188, 189, 0, 190, 191, 192, 0, 193, 194, 0, 195, 196, 197, 0, 198, 199, 0, 0, 200, 0, 0, 0, 0, 1, 0, 0, 0, 0, 0, 0, 201, 202, 203, 0, 204, 205, 206, 207, 208, 0, 209, 210, 211, 0, 212, 0, 213, 214, 215, 216, 217, 218, 0, 0, 219, 220, 221, 0, 222, 223, 224, 0, 225, 226, 227, 228, 229, 230, 1, 1, 0, 231, 0, 232, 233, 234, 235]) := rfl
theorem gi_169 : gI 169 = .inr (1, 24, none) := rfl
theorem gi_170 : gI 170 = .inr (0, 24, none) := rfl
theorem gi_171 : gI 171 = .inr (0, 24, none) := rfl
theorem gi_172 : gI 172 = .inr (3, 24, none) := rfl
theorem gi_173 : gI 173 = .inr (1, 16, none) := rfl
theorem gi_174 : gI 174 = .inr (0, 16, none) := rfl
theorem gi_175 : gI 175 = .inr (0, 16, none) := rfl
theorem gi_176 : gI 176 = .inr (0, 60, none) := rfl
theorem gi_177 : gI 177 = .inr (0, 60, none) := rfl
theorem gi_178 : gI 178 = .inr (0, 30, none) := rfl
theorem gi_179 : gI 179 = .inr (0, 30, none) := rfl
theorem gi_180 : gI 180 = .inr (0, 30, none) := rfl
theorem gi_181 : gI 181 = .inr (0, 130, none) := rfl
theorem gi_182 : gI 182 = .inr (0, 130, none) := rfl
theorem gi_183 : gI 183 = .inr (1, 24, none) := rfl
theorem gi_184 : gI 184 = .inr (0, 24, none) := rfl
theorem gi_185 : gI 185 = .inr (0, 24, none) := rfl
theorem gi_186 : gI 186 = .inr (3, 24, none) := rfl
theorem gi_187 : gI 187 = .inr (1, 16, none) := rfl
theorem gi_188 : gI 188 = .inr (0, 16, none) := rfl
theorem gi_189 : gI 189 = .inr (0, 16, none) := rfl
theorem gi_190 : gI 190 = .inr (0, 60, none) := rfl
theorem gi_191 : gI 191 = .inr (0, 60, none) := rfl
theorem gi_192 : gI 192 = .inr (0, 30, none) := rfl
theorem gi_193 : gI 193 = .inr (0, 30, none) := rfl
theorem gi_194 : gI 194 = .inr (0, 30, none) := rfl
theorem gi_195 : gI 195 = .inr (0, 130, none) := rfl
theorem gi_196 : gI 196 = .inr (0, 130, none) := rfl
theorem gi_197 : gI 197 = .inr (0, 1200, none) := rfl
theorem gi_198 : gI 198 = .inr (0, 106, none) := rfl
theorem gi_199 : gI 199 = .inr (0, 106, none) := rfl
theorem gi_200 : gI 200 = .inr (0, 106, none) := rfl
theorem gi_201 : gI 201 = .inr (0, 24, none) := rfl
theorem gi_202 : gI 202 = .inr (3, 576, none) := rfl
theorem gi_203 : gI 203 = .inr (0, 24, none) := rfl
theorem gi_204 : gI 204 = .inr (3, 24, none) := rfl
theorem gi_205 : gI 205 = .inr (0, 24, none) := rfl
theorem gi_206 : gI 206 = .inr (0, 24, none) := rfl
theorem gi_207 : gI 207 = .inr (0, 48, none) := rfl
theorem gi_208 : gI 208 = .inr (1, 2880, none) := rfl
theorem gi_209 : gI 209 = .inr (0, 48, none) := rfl
theorem gi_210 : gI 210 = .inr (0, 24, none) := rfl
theorem gi_211 : gI 211 = .inr (0, 24, none) := rfl
theorem gi_212 : gI 212 = .inr (0, 24, none) := rfl
theorem gi_213 : gI 213 = .inr (3, 24, none) := rfl
theorem gi_214 : gI 214 = .inr (3, 24, none) := rfl
theorem gi_215 : gI 215 = .inr (0, 24, none) := rfl
theorem gi_216 : gI 216 = .inr (1, 24, none) := rfl
theorem gi_217 : gI 217 = .inr (1, 24, none) := rfl
theorem gi_218 : gI 218 = .inr (0, 24, none) := rfl
theorem gi_219 : gI 219 = .inr (1, 24, none) := rfl
theorem gi_220 : gI 220 = .inr (1, 24, none) := rfl
theorem gi_221 : gI 221 = .inr (0, 24, none) := rfl
theorem gi_222 : gI 222 = .inr (1, 256, none) := rfl
theorem gi_223 : gI 223 = .inr (1, 256, none) := rfl
theorem gi_224 : gI 224 = .inr (3, 256, none) := rfl
theorem gi_225 : gI 225 = .inr (1, 16, none) := rfl
theorem gi_226 : gI 226 = .inr (1, 16, none) := rfl
theorem gi_227 : gI 227 = .inr (0, 16, none) := rfl
theorem gi_228 : gI 228 = .inr (0, 16, none) := rfl
theorem gi_229 : gI 229 = .inr (0, 8, none) := rfl
theorem gi_230 : gI 230 = .inr (0, 8, none) := rfl
theorem gi_231 : gI 231 = .inr (1, 2400, none) := rfl
theorem gi_232 : gI 232 = .inr (1, 300, none) := rfl
def gLk (t : Nat) : Prop := t = 4 ∨ t = 16
def gPl (t : Nat) : Prop := t = 132 ∨ t = 140
def gVs (t : Nat) : Prop := t = 137 ∨ t = 138
def gRw (t : Nat) : Prop := 61 ≤ t ∧ t < 121
def gRo (t : Nat) : Prop := 152 ≤ t ∧ t ≤ 166 ∧ t % 2 = 0
theorem gi_lk {t : Nat} (h : gLk t) : gI t = .inl (3, [t + 4, t + 5, t + 6, t + 7, t + 8, t + 9, t + 14, 0, 0, 0]) := by rcases h with rfl | rfl <;> rfl
theorem gi_lk1 {t : Nat} (h : gLk t) : gI (t + 1) = .inr (0, 130, none) := by rcases h with rfl | rfl <;> rfl
theorem gi_lk2 {t : Nat} (h : gLk t) : gI (t + 2) = .inr (0, 130, none) := by rcases h with rfl | rfl <;> rfl
theorem gi_lk3 {t : Nat} (h : gLk t) : gI (t + 3) = .inr (0, 130, none) := by rcases h with rfl | rfl <;> rfl
theorem gi_lk4 {t : Nat} (h : gLk t) : gI (t + 4) = .inr (0, 130, none) := by rcases h with rfl | rfl <;> rfl
theorem gi_lk5 {t : Nat} (h : gLk t) : gI (t + 5) = .inr (0, 130, none) := by rcases h with rfl | rfl <;> rfl
theorem gi_lk6 {t : Nat} (h : gLk t) : gI (t + 6) = .inr (5, 4, some (t + 7, 1)) := by rcases h with rfl | rfl <;> rfl
theorem gi_lk7 {t : Nat} (h : gLk t) : gI (t + 7) = .inr (0, 60, none) := by rcases h with rfl | rfl <;> rfl
theorem gi_lk8 {t : Nat} (h : gLk t) : gI (t + 8) = .inr (0, 60, none) := by rcases h with rfl | rfl <;> rfl
theorem gi_lk9 {t : Nat} (h : gLk t) : gI (t + 9) = .inr (0, 60, none) := by rcases h with rfl | rfl <;> rfl
theorem gi_lk10 {t : Nat} (h : gLk t) : gI (t + 10) = .inr (0, 60, none) := by rcases h with rfl | rfl <;> rfl
theorem gi_lk11 {t : Nat} (h : gLk t) : gI (t + 11) = .inr (0, 4, none) := by rcases h with rfl | rfl <;> rfl
theorem gi_lkm {t i : Nat} (h : gLk t) (hi : i < 4) : gI (t + 7 + 1 * i) = .inr (0, 60, none) := by
  rcases h with rfl | rfl
  · rcases (show i = 0 ∨ i = 1 ∨ i = 2 ∨ i = 3 by omega) with rfl | rfl | rfl | rfl <;> rfl
  · rcases (show i = 0 ∨ i = 1 ∨ i = 2 ∨ i = 3 by omega) with rfl | rfl | rfl | rfl <;> rfl
theorem gi_pl {t : Nat} (h : gPl t) : gI t = .inl (5, [t + 4, t + 5, t + 6]) := by rcases h with rfl | rfl <;> rfl
theorem gi_pl1 {t : Nat} (h : gPl t) : gI (t + 1) = .inr (1, 24, none) := by rcases h with rfl | rfl <;> rfl
theorem gi_pl2 {t : Nat} (h : gPl t) : gI (t + 2) = .inr (1, 24, none) := by rcases h with rfl | rfl <;> rfl
theorem gi_pl3 {t : Nat} (h : gPl t) : gI (t + 3) = .inr (0, 24, none) := by rcases h with rfl | rfl <;> rfl
theorem gi_vs {t : Nat} (h : gVs t) : gI t = .inr (1, 256, none) := by rcases h with rfl | rfl <;> rfl
theorem gi_all : (List.range 24).all (fun i => decide (gI (30 + i) = .inr (0, 2, none))) = true ∧ (List.range 60).all (fun i => decide (gI (61 + i) = .inr (0, 48, none))) = true ∧ (List.range 8).all (fun i => decide (gI (152 + 2 * i) = .inl (7, [0, 0, 0, 152 + 2 * i + 4])) && decide (gI (152 + 2 * i + 1) = .inr (1, 300, none))) = true := by decide +kernel
theorem gi_ld {i : Nat} (hi : i < 24) : gI (30 + 1 * i) = .inr (0, 2, none) := by
  rw [Nat.one_mul]
  exact of_decide_eq_true (List.all_eq_true.mp gi_all.1 i (List.mem_range.mpr hi))
theorem gi_rw {t : Nat} (h : gRw t) : gI t = .inr (0, 48, none) := by
  obtain ⟨h1, h2⟩ := h
  have := of_decide_eq_true (List.all_eq_true.mp gi_all.2.1 (t - 61) (List.mem_range.mpr (by omega)))
  rwa [show 61 + (t - 61) = t by omega] at this
theorem gi_ro {t : Nat} (h : gRo t) : gI t = .inl (7, [0, 0, 0, t + 4]) := by
  obtain ⟨h1, h2, h3⟩ := h
  have := List.all_eq_true.mp gi_all.2.2 ((t - 152) / 2) (List.mem_range.mpr (by omega))
  rw [Bool.and_eq_true] at this
  have := of_decide_eq_true this.1
  rwa [show 152 + 2 * ((t - 152) / 2) = t by omega] at this
theorem gi_ro1 {t : Nat} (h : gRo t) : gI (t + 1) = .inr (1, 300, none) := by
  obtain ⟨h1, h2, h3⟩ := h
  have := List.all_eq_true.mp gi_all.2.2 ((t - 152) / 2) (List.mem_range.mpr (by omega))
  rw [Bool.and_eq_true] at this
  have := of_decide_eq_true this.2
  rwa [show 152 + 2 * ((t - 152) / 2) = t by omega] at this
theorem gRo_i {i : Nat} (h : i < 8) : gRo (152 + 2 * i) := ⟨by omega, by omega, by omega⟩
/-- an index below a length -/
theorem vp_lt {i : Int32} {n : Nat} (h : ¬ (i < 0 ∨ n ≤ i.toNatClampNeg)) : i.toNatClampNeg < n := Nat.not_le.mp fun q => h (Or.inr q)
def bnd {α β : Type} (a : α) (f : α → β) : β := f a
theorem bnd_nm {α β : Type} {a : α} {f : α → β} {r : β} (h : bnd a f = r) : ∃ x, x = a ∧ f x = r := ⟨a, rfl, h⟩
def gg {α : Type} (c : Prop) [Decidable c] (x : Option α) : Option α := if c then x else none
theorem gg_some {α : Type} {c : Prop} [Decidable c] {x : Option α} {r : α} (h : gg c x = some r) : c ∧ x = some r := by
  by_cases q : c
  · exact ⟨q, by rw [gg, if_pos q] at h; exact h⟩
  · rw [gg, if_neg q] at h; cases h
def bd {α β : Type} (o : Option (α × gS)) (f : α → gS → Option β) : Option β := match o with
  | some q => f q.1 q.2
  | none => none
theorem bd_some {α β : Type} {o : Option (α × gS)} {f : α → gS → Option β} {r : β} (h : bd o f = some r) : ∃ a σ, o = some (a, σ) ∧ f a σ = some r := by
  cases o with
  | none => cases h
  | some q => exact ⟨q.1, q.2, rfl, h⟩
theorem if_t {α : Type} {c : Prop} [Decidable c] {a b r : α} (h : (if c then a else b) = r) (hc : c) : a = r := (if_pos hc).symm.trans h
theorem if_f {α : Type} {c : Prop} [Decidable c] {a b r : α} (h : (if c then a else b) = r) (hc : ¬ c) : b = r := (if_neg hc).symm.trans h
theorem g_st {E : gE} {M : gM} {pc : Nat} {lv : List (Nat × Value)} {st : List Value} {σ σ1 σ' : gS} {r : Option Value} (h : σ1 = σ) (k : gG E M pc lv st σ1 r σ') : gG E M pc lv st σ r σ' := h ▸ k
theorem g_topi {E : gE} {M : gM} {pc : Nat} {lv : List (Nat × Value)} {st : List Value} {σ σ' : gS} {r : Option Value} {x y : Int32} (h : y = x) (k : gG E M pc lv (.int y :: st) σ r σ') : gG E M pc lv (.int x :: st) σ r σ' := h ▸ k
theorem g_topl {E : gE} {M : gM} {pc : Nat} {lv : List (Nat × Value)} {st : List Value} {σ σ' : gS} {r : Option Value} {x y : Int64} (h : y = x) (k : gG E M pc lv (.long y :: st) σ r σ') : gG E M pc lv (.long x :: st) σ r σ' := h ▸ k
theorem g_topr {E : gE} {M : gM} {pc : Nat} {lv : List (Nat × Value)} {st : List Value} {σ σ' : gS} {r : Option Value} {x y : Nat} (h : y = x) (k : gG E M pc lv (.ref y :: st) σ r σ') : gG E M pc lv (.ref x :: st) σ r σ' := h ▸ k
theorem ux_0 : ∀ w ∈ u_ws RX0 TX0 5, w ∈ gWS := by decide +kernel
theorem ux_1 : ∀ w ∈ u_ws RX1 TX1 10, w ∈ gWS := by decide +kernel
theorem ux_2 : ∀ w ∈ u_ws RX2 TX2 6, w ∈ gWS := by decide +kernel
theorem ux_3 : ∀ w ∈ u_ws RX3 TX3 10, w ∈ gWS := by decide +kernel
theorem ux_4 : ∀ w ∈ u_ws RX4 TX4 7, w ∈ gWS := by decide +kernel
theorem ux_5 : ∀ w ∈ u_ws RX5 TX5 3, w ∈ gWS := by decide +kernel
theorem ux_6 : ∀ w ∈ u_ws RX6 TX6 10, w ∈ gWS := by decide +kernel
theorem ux_7 : ∀ w ∈ u_ws RX7 TX7 4, w ∈ gWS := by decide +kernel
theorem ux_8 : ∀ w ∈ u_ws RX8 TX8 6, w ∈ gWS := by decide +kernel
theorem ux_9 : ∀ w ∈ u_ws RX9 TX9 8, w ∈ gWS := by decide +kernel
theorem ux_10 : ∀ w ∈ u_ws RX10 TX10 12, w ∈ gWS := by decide +kernel
theorem ux_11 : ∀ w ∈ u_ws RX11 TX11 101, w ∈ gWS := by decide +kernel
