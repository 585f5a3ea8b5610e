set_option maxRecDepth 20000 in
theorem ok_186 : xmOK 186 := ⟨wk_186, by decide +kernel, by decide +kernel, fun _ => rfl, Or.inl ⟨rfl, rfl⟩⟩
set_option maxRecDepth 20000 in
theorem dl_0 : xdecT cL_law 0 ((k_L_law.drop 0).take 15) = true := by decide +kernel
set_option maxRecDepth 20000 in
theorem dl_1 : xdecT cL_law 120 ((k_L_law.drop 15).take 15) = true := by decide +kernel
set_option maxRecDepth 20000 in
theorem dl_2 : xdecT cL_law 240 ((k_L_law.drop 30).take 15) = true := by decide +kernel
set_option maxRecDepth 20000 in
theorem dl_3 : xdecT cL_law 360 ((k_L_law.drop 45).take 15) = true := by decide +kernel
set_option maxRecDepth 20000 in
theorem dl_4 : xdecT cL_law 480 ((k_L_law.drop 60).take 15) = true := by decide +kernel
set_option maxRecDepth 20000 in
theorem dl_5 : xdecT cL_law 600 ((k_L_law.drop 75).take 15) = true := by decide +kernel
set_option maxRecDepth 20000 in
theorem dl_6 : xdecT cL_law 720 ((k_L_law.drop 90).take 15) = true := by decide +kernel
set_option maxRecDepth 20000 in
theorem dl_7 : xdecT cL_law 840 ((k_L_law.drop 105).take 15) = true := by decide +kernel
set_option maxRecDepth 20000 in
theorem dl_8 : xdecT cL_law 960 ((k_L_law.drop 120).take 15) = true := by decide +kernel
set_option maxRecDepth 20000 in
theorem dl_9 : xdecT cL_law 1080 ((k_L_law.drop 135).take 15) = true := by decide +kernel
set_option maxRecDepth 20000 in
theorem dl_10 : xdecT cL_law 1200 ((k_L_law.drop 150).take 15) = true := by decide +kernel
set_option maxRecDepth 20000 in
theorem dl_11 : xdecT cL_law 1320 ((k_L_law.drop 165).take 15) = true := by decide +kernel
theorem dr_12 : xdecT cL_law 1440 (k_L_law.drop 180) = true := by decide +kernel
theorem dr_11 : xdecT cL_law 1320 (k_L_law.drop 165) = true := xdecT_cut 15 dl_11 (by rw [List.drop_drop]; exact dr_12)
theorem dr_10 : xdecT cL_law 1200 (k_L_law.drop 150) = true := xdecT_cut 15 dl_10 (by rw [List.drop_drop]; exact dr_11)
theorem dr_9 : xdecT cL_law 1080 (k_L_law.drop 135) = true := xdecT_cut 15 dl_9 (by rw [List.drop_drop]; exact dr_10)
theorem dr_8 : xdecT cL_law 960 (k_L_law.drop 120) = true := xdecT_cut 15 dl_8 (by rw [List.drop_drop]; exact dr_9)
theorem dr_7 : xdecT cL_law 840 (k_L_law.drop 105) = true := xdecT_cut 15 dl_7 (by rw [List.drop_drop]; exact dr_8)
theorem dr_6 : xdecT cL_law 720 (k_L_law.drop 90) = true := xdecT_cut 15 dl_6 (by rw [List.drop_drop]; exact dr_7)
theorem dr_5 : xdecT cL_law 600 (k_L_law.drop 75) = true := xdecT_cut 15 dl_5 (by rw [List.drop_drop]; exact dr_6)
theorem dr_4 : xdecT cL_law 480 (k_L_law.drop 60) = true := xdecT_cut 15 dl_4 (by rw [List.drop_drop]; exact dr_5)
theorem dr_3 : xdecT cL_law 360 (k_L_law.drop 45) = true := xdecT_cut 15 dl_3 (by rw [List.drop_drop]; exact dr_4)
theorem dr_2 : xdecT cL_law 240 (k_L_law.drop 30) = true := xdecT_cut 15 dl_2 (by rw [List.drop_drop]; exact dr_3)
theorem dr_1 : xdecT cL_law 120 (k_L_law.drop 15) = true := xdecT_cut 15 dl_1 (by rw [List.drop_drop]; exact dr_2)
theorem dr_0 : xdecT cL_law 0 (k_L_law.drop 0) = true := xdecT_cut 15 dl_0 (by rw [List.drop_drop]; exact dr_1)
set_option maxRecDepth 20000 in
theorem ok_303 : xmOK 303 := ⟨wk_303, dr_0, by decide +kernel, (fun h => by cases h), Or.inr (Or.inr (Or.inl ⟨rfl, rfl⟩))⟩
def xfor (P : Nat → Prop) : Nat → Nat → Prop
  | _, 0 => True
  | i, n + 1 => P i ∧ xfor P (i + 1) n
theorem xfor_at {P : Nat → Prop} : ∀ (n i c : Nat), xfor P i n → i ≤ c → c < i + n → P c
  | 0, i, c, _, h1, h2 => by omega
  | n + 1, i, c, h, h1, h2 => by
    by_cases e : c = i
    · exact e ▸ h.1
    · exact xfor_at n (i + 1) c h.2 (by omega) (by omega)
set_option maxRecDepth 20000 in
theorem ok_all : xfor xmOK 0 301 := And.intro ok_0 (And.intro ok_1 (And.intro ok_2 (And.intro ok_3 (And.intro ok_4 (And.intro ok_5 (And.intro ok_6 (And.intro ok_7 (And.intro ok_8 (And.intro ok_9 (And.intro ok_10 (And.intro ok_11 (And.intro ok_12 (And.intro ok_13 (And.intro ok_14 (And.intro ok_15 (And.intro ok_16 (And.intro ok_17 (And.intro ok_18 (And.intro ok_19 (And.intro ok_20 (And.intro ok_21 (And.intro ok_22 (And.intro ok_23 (And.intro ok_24 (And.intro ok_25 (And.intro ok_26 (And.intro ok_27 (And.intro ok_28 (And.intro ok_29 (And.intro ok_30 (And.intro ok_31 (And.intro ok_32 (And.intro ok_33 (And.intro ok_34 (And.intro ok_35 (And.intro ok_36 (And.intro ok_37 (And.intro ok_38 (And.intro ok_39 (And.intro ok_40 (And.intro ok_41 (And.intro ok_42 (And.intro ok_43 (And.intro ok_44 (And.intro ok_45 (And.intro ok_46 (And.intro ok_47 (And.intro ok_48 (And.intro ok_49 (And.intro ok_50 (And.intro ok_51 (And.intro ok_52 (And.intro ok_53 (And.intro ok_54 (And.intro ok_55 (And.intro ok_56 (And.intro ok_57 (And.intro ok_58 (And.intro ok_59 (And.intro ok_60 (And.intro ok_61 (And.intro ok_62 (And.intro ok_63 (And.intro ok_64 (And.intro ok_65 (And.intro ok_66 (And.intro ok_67 (And.intro ok_68 (And.intro ok_69 (And.intro ok_70 (And.intro ok_71 (And.intro ok_72 (And.intro ok_73 (And.intro ok_74 (And.intro ok_75 (And.intro ok_76 (And.intro ok_77 (And.intro ok_78 (And.intro ok_79 (And.intro ok_80 (And.intro ok_81 (And.intro ok_82 (And.intro ok_83 (And.intro ok_84 (And.intro ok_85 (And.intro ok_86 (And.intro ok_87 (And.intro ok_88 (And.intro ok_89 (And.intro ok_90 (And.intro ok_91 (And.intro ok_92 (And.intro ok_93 (And.intro ok_94 (And.intro ok_95 (And.intro ok_96 (And.intro ok_97 (And.intro ok_98 (And.intro ok_99 (And.intro ok_100 (And.intro ok_101 (And.intro ok_102 (And.intro ok_103 (And.intro ok_104 (And.intro ok_105 (And.intro ok_106 (And.intro ok_107 (And.intro ok_108 (And.intro ok_109 (And.intro ok_110 (And.intro ok_111 (And.intro ok_112 (And.intro ok_113 (And.intro ok_114 (And.intro ok_115 (And.intro ok_116 (And.intro ok_117 (And.intro ok_118 (And.intro ok_119 (And.intro ok_120 (And.intro ok_121 (And.intro ok_122 (And.intro ok_123 (And.intro ok_124 (And.intro ok_125 (And.intro ok_126 (And.intro ok_127 (And.intro ok_128 (And.intro ok_129 (And.intro ok_130 (And.intro ok_131 (And.intro ok_132 (And.intro ok_133 (And.intro ok_134 (And.intro ok_135 (And.intro ok_136 (And.intro ok_137 (And.intro ok_138 (And.intro ok_139 (And.intro ok_140 (And.intro ok_141 (And.intro ok_142 (And.intro ok_143 (And.intro ok_144 (And.intro ok_145 (And.intro ok_146 (And.intro ok_147 (And.intro ok_148 (And.intro ok_149 (And.intro ok_150 (And.intro ok_151 (And.intro ok_152 (And.intro ok_153 (And.intro ok_154 (And.intro ok_155 (And.intro ok_156 (And.intro ok_157 (And.intro ok_158 (And.intro ok_159 (And.intro ok_160 (And.intro ok_161 (And.intro ok_162 (And.intro ok_163 (And.intro ok_164 (And.intro ok_165 (And.intro ok_166 (And.intro ok_167 (And.intro ok_168 (And.intro ok_169 (And.intro ok_170 (And.intro ok_171 (And.intro ok_172 (And.intro ok_173 (And.intro ok_174 (And.intro ok_175 (And.intro ok_176 (And.intro ok_177 (And.intro ok_178 (And.intro ok_179 (And.intro ok_180 (And.intro ok_181 (And.intro ok_182 (And.intro ok_183 (And.intro ok_184 (And.intro ok_185 (And.intro ok_186 (And.intro ok_187 (And.intro ok_188 (And.intro ok_189 (And.intro ok_190 (And.intro ok_191 (And.intro ok_192 (And.intro ok_193 (And.intro ok_194 (And.intro ok_195 (And.intro ok_196 (And.intro ok_197 (And.intro ok_198 (And.intro ok_199 (And.intro ok_200 (And.intro ok_201 (And.intro ok_202 (And.intro ok_203 (And.intro ok_204 (And.intro ok_205 (And.intro ok_206 (And.intro ok_207 (And.intro ok_208 (And.intro ok_209 (And.intro ok_210 (And.intro ok_211 (And.intro ok_212 (And.intro ok_213 (And.intro ok_214 (And.intro ok_215 (And.intro ok_216 (And.intro ok_217 (And.intro ok_218 (And.intro ok_219 (And.intro ok_220 (And.intro ok_221 (And.intro ok_222 (And.intro ok_223 (And.intro ok_224 (And.intro ok_225 (And.intro ok_226 (And.intro ok_227 (And.intro ok_228 (And.intro ok_229 (And.intro ok_230 (And.intro ok_231 (And.intro ok_232 (And.intro ok_233 (And.intro ok_234 (And.intro ok_235 (And.intro ok_236 (And.intro ok_237 (And.intro ok_238 (And.intro ok_239 (And.intro ok_240 (And.intro ok_241 (And.intro ok_242 (And.intro ok_243 (And.intro ok_244 (And.intro ok_245 (And.intro ok_246 (And.intro ok_247 (And.intro ok_248 (And.intro ok_249 (And.intro ok_250 (And.intro ok_251 (And.intro ok_252 (And.intro ok_253 (And.intro ok_254 (And.intro ok_255 (And.intro ok_256 (And.intro ok_257 (And.intro ok_258 (And.intro ok_259 (And.intro ok_260 (And.intro ok_261 (And.intro ok_262 (And.intro ok_263 (And.intro ok_264 (And.intro ok_265 (And.intro ok_266 (And.intro ok_267 (And.intro ok_268 (And.intro ok_269 (And.intro ok_270 (And.intro ok_271 (And.intro ok_272 (And.intro ok_273 (And.intro ok_274 (And.intro ok_275 (And.intro ok_276 (And.intro ok_277 (And.intro ok_278 (And.intro ok_279 (And.intro ok_280 (And.intro ok_281 (And.intro ok_282 (And.intro ok_283 (And.intro ok_284 (And.intro ok_285 (And.intro ok_286 (And.intro ok_287 (And.intro ok_288 (And.intro ok_289 (And.intro ok_290 (And.intro ok_291 (And.intro ok_292 (And.intro ok_293 (And.intro ok_294 (And.intro ok_295 (And.intro ok_296 (And.intro ok_297 (And.intro ok_298 (And.intro ok_299 (And.intro ok_300 (trivial)))))))))))))))))))))))))))))))))))))))))))))))))))))))))))))))))))))))))))))))))))))))))))))))))))))))))))))))))))))))))))))))))))))))))))))))))))))))))))))))))))))))))))))))))))))))))))))))))))))))))))))))))))))))))))))))))))))))))))))))))))))))))))))))))))))))))))))))))))))))))))))))))))))))))))))
theorem xm_ok {c : Nat} (h : (Nat.blt c 301 || Nat.beq c 302) = true) : xmOK c := by
  rw [Bool.or_eq_true] at h
  rcases h with h | h
  · exact xfor_at 301 0 c ok_all (Nat.zero_le _) (by have : c + 1 ≤ 301 := Nat.le_of_ble_eq_true h; omega)
  · rw [Nat.eq_of_beq_eq_true h]; exact ok_302
