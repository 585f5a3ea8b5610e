set_option maxRecDepth 20000 in
theorem ok_150 : xmOK 150 := ⟨wk_150, by decide +kernel, by decide +kernel, (fun h => by cases h), Or.inr (Or.inl ⟨rfl, rfl⟩)⟩
set_option maxRecDepth 20000 in
theorem ok_151 : xmOK 151 := ⟨wk_151, by decide +kernel, by decide +kernel, (fun h => by cases h), Or.inr (Or.inl ⟨rfl, rfl⟩)⟩
set_option maxRecDepth 20000 in
theorem ok_152 : xmOK 152 := ⟨wk_152, by decide +kernel, by decide +kernel, (fun h => by cases h), Or.inr (Or.inl ⟨rfl, rfl⟩)⟩
set_option maxRecDepth 20000 in
theorem ok_153 : xmOK 153 := ⟨wk_153, by decide +kernel, by decide +kernel, (fun h => by cases h), Or.inr (Or.inl ⟨rfl, rfl⟩)⟩
set_option maxRecDepth 20000 in
theorem ok_154 : xmOK 154 := ⟨wk_154, by decide +kernel, by decide +kernel, (fun h => by cases h), Or.inr (Or.inl ⟨rfl, rfl⟩)⟩
set_option maxRecDepth 20000 in
theorem ok_155 : xmOK 155 := ⟨wk_155, by decide +kernel, by decide +kernel, (fun h => by cases h), Or.inr (Or.inl ⟨rfl, rfl⟩)⟩
set_option maxRecDepth 20000 in
theorem ok_156 : xmOK 156 := ⟨wk_156, by decide +kernel, by decide +kernel, (fun h => by cases h), Or.inr (Or.inl ⟨rfl, rfl⟩)⟩
set_option maxRecDepth 20000 in
theorem ok_157 : xmOK 157 := ⟨wk_157, by decide +kernel, by decide +kernel, (fun h => by cases h), Or.inr (Or.inl ⟨rfl, rfl⟩)⟩
set_option maxRecDepth 20000 in
theorem ok_158 : xmOK 158 := ⟨wk_158, by decide +kernel, by decide +kernel, (fun h => by cases h), Or.inr (Or.inl ⟨rfl, rfl⟩)⟩
set_option maxRecDepth 20000 in
theorem ok_159 : xmOK 159 := ⟨wk_159, by decide +kernel, by decide +kernel, (fun h => by cases h), Or.inr (Or.inl ⟨rfl, rfl⟩)⟩
set_option maxRecDepth 20000 in
theorem ok_160 : xmOK 160 := ⟨wk_160, by decide +kernel, by decide +kernel, (fun h => by cases h), Or.inr (Or.inl ⟨rfl, rfl⟩)⟩
set_option maxRecDepth 20000 in
theorem ok_161 : xmOK 161 := ⟨wk_161, by decide +kernel, by decide +kernel, (fun h => by cases h), Or.inr (Or.inl ⟨rfl, rfl⟩)⟩
set_option maxRecDepth 20000 in
theorem ok_162 : xmOK 162 := ⟨wk_162, by decide +kernel, by decide +kernel, (fun h => by cases h), Or.inr (Or.inl ⟨rfl, rfl⟩)⟩
set_option maxRecDepth 20000 in
theorem ok_163 : xmOK 163 := ⟨wk_163, by decide +kernel, by decide +kernel, (fun h => by cases h), Or.inr (Or.inl ⟨rfl, rfl⟩)⟩
set_option maxRecDepth 20000 in
theorem ok_164 : xmOK 164 := ⟨wk_164, by decide +kernel, by decide +kernel, (fun h => by cases h), Or.inr (Or.inl ⟨rfl, rfl⟩)⟩
set_option maxRecDepth 20000 in
theorem ok_165 : xmOK 165 := ⟨wk_165, by decide +kernel, by decide +kernel, (fun h => by cases h), Or.inr (Or.inl ⟨rfl, rfl⟩)⟩
set_option maxRecDepth 20000 in
theorem ok_166 : xmOK 166 := ⟨wk_166, by decide +kernel, by decide +kernel, (fun h => by cases h), Or.inr (Or.inl ⟨rfl, rfl⟩)⟩
set_option maxRecDepth 20000 in
theorem ok_167 : xmOK 167 := ⟨wk_167, by decide +kernel, by decide +kernel, (fun h => by cases h), Or.inr (Or.inl ⟨rfl, rfl⟩)⟩
set_option maxRecDepth 20000 in
theorem ok_168 : xmOK 168 := ⟨wk_168, by decide +kernel, by decide +kernel, (fun h => by cases h), Or.inr (Or.inl ⟨rfl, rfl⟩)⟩
set_option maxRecDepth 20000 in
theorem ok_169 : xmOK 169 := ⟨wk_169, by decide +kernel, by decide +kernel, (fun h => by cases h), Or.inr (Or.inl ⟨rfl, rfl⟩)⟩
set_option maxRecDepth 20000 in
theorem ok_170 : xmOK 170 := ⟨wk_170, by decide +kernel, by decide +kernel, (fun h => by cases h), Or.inr (Or.inl ⟨rfl, rfl⟩)⟩
set_option maxRecDepth 20000 in
theorem ok_171 : xmOK 171 := ⟨wk_171, by decide +kernel, by decide +kernel, (fun h => by cases h), Or.inr (Or.inl ⟨rfl, rfl⟩)⟩
set_option maxRecDepth 20000 in
theorem ok_172 : xmOK 172 := ⟨wk_172, by decide +kernel, by decide +kernel, (fun h => by cases h), Or.inr (Or.inl ⟨rfl, rfl⟩)⟩
set_option maxRecDepth 20000 in
theorem ok_173 : xmOK 173 := ⟨wk_173, by decide +kernel, by decide +kernel, (fun h => by cases h), Or.inr (Or.inl ⟨rfl, rfl⟩)⟩
set_option maxRecDepth 20000 in
theorem ok_174 : xmOK 174 := ⟨wk_174, by decide +kernel, by decide +kernel, (fun h => by cases h), Or.inr (Or.inl ⟨rfl, rfl⟩)⟩
set_option maxRecDepth 20000 in
theorem ok_175 : xmOK 175 := ⟨wk_175, by decide +kernel, by decide +kernel, (fun h => by cases h), Or.inr (Or.inl ⟨rfl, rfl⟩)⟩
set_option maxRecDepth 20000 in
theorem ok_176 : xmOK 176 := ⟨wk_176, by decide +kernel, by decide +kernel, (fun h => by cases h), Or.inr (Or.inl ⟨rfl, rfl⟩)⟩
set_option maxRecDepth 20000 in
theorem ok_177 : xmOK 177 := ⟨wk_177, by decide +kernel, by decide +kernel, (fun h => by cases h), Or.inr (Or.inl ⟨rfl, rfl⟩)⟩
set_option maxRecDepth 20000 in
theorem ok_178 : xmOK 178 := ⟨wk_178, by decide +kernel, by decide +kernel, (fun h => by cases h), Or.inr (Or.inl ⟨rfl, rfl⟩)⟩
set_option maxRecDepth 20000 in
theorem ok_179 : xmOK 179 := ⟨wk_179, by decide +kernel, by decide +kernel, (fun h => by cases h), Or.inr (Or.inl ⟨rfl, rfl⟩)⟩
set_option maxRecDepth 20000 in
theorem ok_180 : xmOK 180 := ⟨wk_180, by decide +kernel, by decide +kernel, (fun h => by cases h), Or.inr (Or.inr (Or.inl ⟨rfl, rfl⟩))⟩
set_option maxRecDepth 20000 in
theorem ok_181 : xmOK 181 := ⟨wk_181, by decide +kernel, by decide +kernel, (fun h => by cases h), Or.inr (Or.inr (Or.inl ⟨rfl, rfl⟩))⟩
set_option maxRecDepth 20000 in
theorem ok_182 : xmOK 182 := ⟨wk_182, by decide +kernel, by decide +kernel, (fun h => by cases h), Or.inr (Or.inr (Or.inl ⟨rfl, rfl⟩))⟩
set_option maxRecDepth 20000 in
theorem ok_183 : xmOK 183 := ⟨wk_183, by decide +kernel, by decide +kernel, (fun h => by cases h), Or.inr (Or.inr (Or.inl ⟨rfl, rfl⟩))⟩
set_option maxRecDepth 20000 in
theorem ok_184 : xmOK 184 := ⟨wk_184, by decide +kernel, by decide +kernel, (fun h => by cases h), Or.inr (Or.inr (Or.inl ⟨rfl, rfl⟩))⟩
set_option maxRecDepth 20000 in
theorem ok_185 : xmOK 185 := ⟨wk_185, by decide +kernel, by decide +kernel, (fun h => by cases h), Or.inr (Or.inr (Or.inl ⟨rfl, rfl⟩))⟩
set_option maxRecDepth 20000 in
theorem ok_187 : xmOK 187 := ⟨wk_187, by decide +kernel, by decide +kernel, (fun h => by cases h), Or.inr (Or.inl ⟨rfl, rfl⟩)⟩
set_option maxRecDepth 20000 in
theorem ok_188 : xmOK 188 := ⟨wk_188, by decide +kernel, by decide +kernel, (fun h => by cases h), Or.inr (Or.inr (Or.inl ⟨rfl, rfl⟩))⟩
set_option maxRecDepth 20000 in
theorem ok_189 : xmOK 189 := ⟨wk_189, by decide +kernel, by decide +kernel, (fun h => by cases h), Or.inr (Or.inr (Or.inl ⟨rfl, rfl⟩))⟩
set_option maxRecDepth 20000 in
theorem ok_190 : xmOK 190 := ⟨wk_190, by decide +kernel, by decide +kernel, (fun h => by cases h), Or.inr (Or.inr (Or.inl ⟨rfl, rfl⟩))⟩
set_option maxRecDepth 20000 in
theorem ok_191 : xmOK 191 := ⟨wk_191, by decide +kernel, by decide +kernel, (fun h => by cases h), Or.inr (Or.inr (Or.inl ⟨rfl, rfl⟩))⟩
set_option maxRecDepth 20000 in
theorem ok_192 : xmOK 192 := ⟨wk_192, by decide +kernel, by decide +kernel, (fun h => by cases h), Or.inr (Or.inl ⟨rfl, rfl⟩)⟩
set_option maxRecDepth 20000 in
theorem ok_193 : xmOK 193 := ⟨wk_193, by decide +kernel, by decide +kernel, (fun h => by cases h), Or.inr (Or.inl ⟨rfl, rfl⟩)⟩
set_option maxRecDepth 20000 in
theorem ok_194 : xmOK 194 := ⟨wk_194, by decide +kernel, by decide +kernel, (fun h => by cases h), Or.inr (Or.inr (Or.inr (Or.inl ⟨rfl, rfl⟩)))⟩
set_option maxRecDepth 20000 in
theorem ok_195 : xmOK 195 := ⟨wk_195, by decide +kernel, by decide +kernel, (fun h => by cases h), Or.inr (Or.inl ⟨rfl, rfl⟩)⟩
set_option maxRecDepth 20000 in
theorem ok_196 : xmOK 196 := ⟨wk_196, by decide +kernel, by decide +kernel, (fun h => by cases h), Or.inr (Or.inl ⟨rfl, rfl⟩)⟩
set_option maxRecDepth 20000 in
theorem ok_197 : xmOK 197 := ⟨wk_197, by decide +kernel, by decide +kernel, (fun h => by cases h), Or.inr (Or.inl ⟨rfl, rfl⟩)⟩
set_option maxRecDepth 20000 in
theorem ok_198 : xmOK 198 := ⟨wk_198, by decide +kernel, by decide +kernel, (fun h => by cases h), Or.inr (Or.inr (Or.inr (Or.inl ⟨rfl, rfl⟩)))⟩
set_option maxRecDepth 20000 in
theorem ok_199 : xmOK 199 := ⟨wk_199, by decide +kernel, by decide +kernel, (fun h => by cases h), Or.inr (Or.inl ⟨rfl, rfl⟩)⟩
set_option maxRecDepth 20000 in
theorem ok_200 : xmOK 200 := ⟨wk_200, by decide +kernel, by decide +kernel, (fun h => by cases h), Or.inr (Or.inl ⟨rfl, rfl⟩)⟩
set_option maxRecDepth 20000 in
theorem ok_201 : xmOK 201 := ⟨wk_201, by decide +kernel, by decide +kernel, (fun h => by cases h), Or.inr (Or.inr (Or.inl ⟨rfl, rfl⟩))⟩
set_option maxRecDepth 20000 in
theorem ok_202 : xmOK 202 := ⟨wk_202, by decide +kernel, by decide +kernel, (fun h => by cases h), Or.inr (Or.inl ⟨rfl, rfl⟩)⟩
set_option maxRecDepth 20000 in
theorem ok_203 : xmOK 203 := ⟨wk_203, by decide +kernel, by decide +kernel, (fun h => by cases h), Or.inl ⟨rfl, rfl⟩⟩
set_option maxRecDepth 20000 in
theorem ok_204 : xmOK 204 := ⟨wk_204, by decide +kernel, by decide +kernel, (fun h => by cases h), Or.inr (Or.inl ⟨rfl, rfl⟩)⟩
set_option maxRecDepth 20000 in
theorem ok_205 : xmOK 205 := ⟨wk_205, by decide +kernel, by decide +kernel, (fun h => by cases h), Or.inl ⟨rfl, rfl⟩⟩
set_option maxRecDepth 20000 in
theorem ok_206 : xmOK 206 := ⟨wk_206, by decide +kernel, by decide +kernel, (fun h => by cases h), Or.inr (Or.inl ⟨rfl, rfl⟩)⟩
set_option maxRecDepth 20000 in
theorem ok_207 : xmOK 207 := ⟨wk_207, by decide +kernel, by decide +kernel, (fun h => by cases h), Or.inr (Or.inl ⟨rfl, rfl⟩)⟩
set_option maxRecDepth 20000 in
theorem ok_208 : xmOK 208 := ⟨wk_208, by decide +kernel, by decide +kernel, (fun h => by cases h), Or.inr (Or.inr (Or.inl ⟨rfl, rfl⟩))⟩
set_option maxRecDepth 20000 in
theorem ok_209 : xmOK 209 := ⟨wk_209, by decide +kernel, by decide +kernel, (fun h => by cases h), Or.inl ⟨rfl, rfl⟩⟩
set_option maxRecDepth 20000 in
theorem ok_210 : xmOK 210 := ⟨wk_210, by decide +kernel, by decide +kernel, (fun h => by cases h), Or.inr (Or.inl ⟨rfl, rfl⟩)⟩
set_option maxRecDepth 20000 in
theorem ok_211 : xmOK 211 := ⟨wk_211, by decide +kernel, by decide +kernel, (fun h => by cases h), Or.inr (Or.inl ⟨rfl, rfl⟩)⟩
set_option maxRecDepth 20000 in
theorem ok_212 : xmOK 212 := ⟨wk_212, by decide +kernel, by decide +kernel, (fun h => by cases h), Or.inr (Or.inl ⟨rfl, rfl⟩)⟩
set_option maxRecDepth 20000 in
theorem ok_213 : xmOK 213 := ⟨wk_213, by decide +kernel, by decide +kernel, (fun h => by cases h), Or.inr (Or.inl ⟨rfl, rfl⟩)⟩
set_option maxRecDepth 20000 in
theorem ok_214 : xmOK 214 := ⟨wk_214, by decide +kernel, by decide +kernel, (fun h => by cases h), Or.inl ⟨rfl, rfl⟩⟩
set_option maxRecDepth 20000 in
theorem ok_215 : xmOK 215 := ⟨wk_215, by decide +kernel, by decide +kernel, (fun h => by cases h), Or.inr (Or.inl ⟨rfl, rfl⟩)⟩
set_option maxRecDepth 20000 in
theorem ok_216 : xmOK 216 := ⟨wk_216, by decide +kernel, by decide +kernel, (fun h => by cases h), Or.inr (Or.inr (Or.inl ⟨rfl, rfl⟩))⟩
set_option maxRecDepth 20000 in
theorem ok_217 : xmOK 217 := ⟨wk_217, by decide +kernel, by decide +kernel, (fun h => by cases h), Or.inr (Or.inr (Or.inl ⟨rfl, rfl⟩))⟩
set_option maxRecDepth 20000 in
theorem ok_218 : xmOK 218 := ⟨wk_218, by decide +kernel, by decide +kernel, (fun h => by cases h), Or.inr (Or.inl ⟨rfl, rfl⟩)⟩
set_option maxRecDepth 20000 in
theorem ok_219 : xmOK 219 := ⟨wk_219, by decide +kernel, by decide +kernel, (fun h => by cases h), Or.inr (Or.inl ⟨rfl, rfl⟩)⟩
set_option maxRecDepth 20000 in
theorem ok_220 : xmOK 220 := ⟨wk_220, by decide +kernel, by decide +kernel, (fun h => by cases h), Or.inr (Or.inl ⟨rfl, rfl⟩)⟩
set_option maxRecDepth 20000 in
theorem ok_221 : xmOK 221 := ⟨wk_221, by decide +kernel, by decide +kernel, (fun h => by cases h), Or.inr (Or.inl ⟨rfl, rfl⟩)⟩
set_option maxRecDepth 20000 in
theorem ok_222 : xmOK 222 := ⟨wk_222, by decide +kernel, by decide +kernel, (fun h => by cases h), Or.inr (Or.inr (Or.inl ⟨rfl, rfl⟩))⟩
set_option maxRecDepth 20000 in
theorem ok_223 : xmOK 223 := ⟨wk_223, by decide +kernel, by decide +kernel, (fun h => by cases h), Or.inr (Or.inr (Or.inl ⟨rfl, rfl⟩))⟩
set_option maxRecDepth 20000 in
theorem ok_224 : xmOK 224 := ⟨wk_224, by decide +kernel, by decide +kernel, (fun h => by cases h), Or.inl ⟨rfl, rfl⟩⟩
set_option maxRecDepth 20000 in
theorem ok_225 : xmOK 225 := ⟨wk_225, by decide +kernel, by decide +kernel, (fun h => by cases h), Or.inr (Or.inr (Or.inl ⟨rfl, rfl⟩))⟩
set_option maxRecDepth 20000 in
theorem ok_226 : xmOK 226 := ⟨wk_226, by decide +kernel, by decide +kernel, (fun h => by cases h), Or.inr (Or.inr (Or.inl ⟨rfl, rfl⟩))⟩
set_option maxRecDepth 20000 in
theorem ok_227 : xmOK 227 := ⟨wk_227, by decide +kernel, by decide +kernel, (fun h => by cases h), Or.inr (Or.inr (Or.inl ⟨rfl, rfl⟩))⟩
set_option maxRecDepth 20000 in
theorem ok_228 : xmOK 228 := ⟨wk_228, by decide +kernel, by decide +kernel, (fun h => by cases h), Or.inr (Or.inr (Or.inl ⟨rfl, rfl⟩))⟩
set_option maxRecDepth 20000 in
theorem ok_229 : xmOK 229 := ⟨wk_229, by decide +kernel, by decide +kernel, (fun h => by cases h), Or.inr (Or.inr (Or.inl ⟨rfl, rfl⟩))⟩
set_option maxRecDepth 20000 in
theorem ok_230 : xmOK 230 := ⟨wk_230, by decide +kernel, by decide +kernel, (fun h => by cases h), Or.inr (Or.inr (Or.inl ⟨rfl, rfl⟩))⟩
set_option maxRecDepth 20000 in
theorem ok_231 : xmOK 231 := ⟨wk_231, by decide +kernel, by decide +kernel, (fun h => by cases h), Or.inr (Or.inr (Or.inl ⟨rfl, rfl⟩))⟩
set_option maxRecDepth 20000 in
theorem ok_232 : xmOK 232 := ⟨wk_232, by decide +kernel, by decide +kernel, (fun h => by cases h), Or.inr (Or.inr (Or.inl ⟨rfl, rfl⟩))⟩
set_option maxRecDepth 20000 in
theorem ok_233 : xmOK 233 := ⟨wk_233, by decide +kernel, by decide +kernel, (fun h => by cases h), Or.inr (Or.inr (Or.inr (Or.inr ⟨rfl, _, rfl⟩)))⟩
set_option maxRecDepth 20000 in
theorem ok_234 : xmOK 234 := ⟨wk_234, by decide +kernel, by decide +kernel, (fun h => by cases h), Or.inr (Or.inl ⟨rfl, rfl⟩)⟩
set_option maxRecDepth 20000 in
theorem ok_235 : xmOK 235 := ⟨wk_235, by decide +kernel, by decide +kernel, (fun h => by cases h), Or.inr (Or.inl ⟨rfl, rfl⟩)⟩
set_option maxRecDepth 20000 in
theorem ok_236 : xmOK 236 := ⟨wk_236, by decide +kernel, by decide +kernel, (fun h => by cases h), Or.inl ⟨rfl, rfl⟩⟩
set_option maxRecDepth 20000 in
theorem ok_237 : xmOK 237 := ⟨wk_237, by decide +kernel, by decide +kernel, (fun h => by cases h), Or.inl ⟨rfl, rfl⟩⟩
set_option maxRecDepth 20000 in
theorem ok_238 : xmOK 238 := ⟨wk_238, by decide +kernel, by decide +kernel, (fun h => by cases h), Or.inr (Or.inl ⟨rfl, rfl⟩)⟩
set_option maxRecDepth 20000 in
theorem ok_239 : xmOK 239 := ⟨wk_239, by decide +kernel, by decide +kernel, (fun h => by cases h), Or.inl ⟨rfl, rfl⟩⟩
set_option maxRecDepth 20000 in
theorem ok_240 : xmOK 240 := ⟨wk_240, by decide +kernel, by decide +kernel, (fun h => by cases h), Or.inl ⟨rfl, rfl⟩⟩
set_option maxRecDepth 20000 in
theorem ok_241 : xmOK 241 := ⟨wk_241, by decide +kernel, by decide +kernel, (fun h => by cases h), Or.inl ⟨rfl, rfl⟩⟩
set_option maxRecDepth 20000 in
theorem ok_242 : xmOK 242 := ⟨wk_242, by decide +kernel, by decide +kernel, (fun h => by cases h), Or.inr (Or.inl ⟨rfl, rfl⟩)⟩
set_option maxRecDepth 20000 in
theorem ok_243 : xmOK 243 := ⟨wk_243, by decide +kernel, by decide +kernel, (fun h => by cases h), Or.inr (Or.inr (Or.inl ⟨rfl, rfl⟩))⟩
set_option maxRecDepth 20000 in
theorem ok_244 : xmOK 244 := ⟨wk_244, by decide +kernel, by decide +kernel, (fun h => by cases h), Or.inl ⟨rfl, rfl⟩⟩
set_option maxRecDepth 20000 in
theorem ok_245 : xmOK 245 := ⟨wk_245, by decide +kernel, by decide +kernel, (fun h => by cases h), Or.inr (Or.inl ⟨rfl, rfl⟩)⟩
set_option maxRecDepth 20000 in
theorem ok_246 : xmOK 246 := ⟨wk_246, by decide +kernel, by decide +kernel, (fun h => by cases h), Or.inr (Or.inl ⟨rfl, rfl⟩)⟩
set_option maxRecDepth 20000 in
theorem ok_247 : xmOK 247 := ⟨wk_247, by decide +kernel, by decide +kernel, (fun h => by cases h), Or.inr (Or.inl ⟨rfl, rfl⟩)⟩
set_option maxRecDepth 20000 in
theorem ok_248 : xmOK 248 := ⟨wk_248, by decide +kernel, by decide +kernel, (fun h => by cases h), Or.inr (Or.inl ⟨rfl, rfl⟩)⟩
set_option maxRecDepth 20000 in
theorem ok_249 : xmOK 249 := ⟨wk_249, by decide +kernel, by decide +kernel, (fun h => by cases h), Or.inr (Or.inl ⟨rfl, rfl⟩)⟩
set_option maxRecDepth 20000 in
theorem ok_250 : xmOK 250 := ⟨wk_250, by decide +kernel, by decide +kernel, (fun h => by cases h), Or.inr (Or.inr (Or.inl ⟨rfl, rfl⟩))⟩
set_option maxRecDepth 20000 in
theorem ok_251 : xmOK 251 := ⟨wk_251, by decide +kernel, by decide +kernel, (fun h => by cases h), Or.inr (Or.inl ⟨rfl, rfl⟩)⟩
set_option maxRecDepth 20000 in
theorem ok_252 : xmOK 252 := ⟨wk_252, by decide +kernel, by decide +kernel, (fun h => by cases h), Or.inr (Or.inl ⟨rfl, rfl⟩)⟩
set_option maxRecDepth 20000 in
theorem ok_253 : xmOK 253 := ⟨wk_253, by decide +kernel, by decide +kernel, (fun h => by cases h), Or.inr (Or.inl ⟨rfl, rfl⟩)⟩
set_option maxRecDepth 20000 in
theorem ok_254 : xmOK 254 := ⟨wk_254, by decide +kernel, by decide +kernel, (fun h => by cases h), Or.inr (Or.inl ⟨rfl, rfl⟩)⟩
set_option maxRecDepth 20000 in
theorem ok_255 : xmOK 255 := ⟨wk_255, by decide +kernel, by decide +kernel, (fun h => by cases h), Or.inr (Or.inl ⟨rfl, rfl⟩)⟩
set_option maxRecDepth 20000 in
theorem ok_256 : xmOK 256 := ⟨wk_256, by decide +kernel, by decide +kernel, (fun h => by cases h), Or.inr (Or.inl ⟨rfl, rfl⟩)⟩
set_option maxRecDepth 20000 in
theorem ok_257 : xmOK 257 := ⟨wk_257, by decide +kernel, by decide +kernel, (fun h => by cases h), Or.inr (Or.inl ⟨rfl, rfl⟩)⟩
set_option maxRecDepth 20000 in
theorem ok_258 : xmOK 258 := ⟨wk_258, by decide +kernel, by decide +kernel, (fun h => by cases h), Or.inr (Or.inr (Or.inl ⟨rfl, rfl⟩))⟩
set_option maxRecDepth 20000 in
theorem ok_259 : xmOK 259 := ⟨wk_259, by decide +kernel, by decide +kernel, (fun h => by cases h), Or.inr (Or.inr (Or.inl ⟨rfl, rfl⟩))⟩
set_option maxRecDepth 20000 in
theorem ok_260 : xmOK 260 := ⟨wk_260, by decide +kernel, by decide +kernel, (fun h => by cases h), Or.inr (Or.inr (Or.inl ⟨rfl, rfl⟩))⟩
set_option maxRecDepth 20000 in
theorem ok_261 : xmOK 261 := ⟨wk_261, by decide +kernel, by decide +kernel, (fun h => by cases h), Or.inr (Or.inr (Or.inl ⟨rfl, rfl⟩))⟩
set_option maxRecDepth 20000 in
theorem ok_262 : xmOK 262 := ⟨wk_262, by decide +kernel, by decide +kernel, (fun h => by cases h), Or.inr (Or.inl ⟨rfl, rfl⟩)⟩
set_option maxRecDepth 20000 in
theorem ok_263 : xmOK 263 := ⟨wk_263, by decide +kernel, by decide +kernel, (fun h => by cases h), Or.inr (Or.inr (Or.inl ⟨rfl, rfl⟩))⟩
set_option maxRecDepth 20000 in
theorem ok_264 : xmOK 264 := ⟨wk_264, by decide +kernel, by decide +kernel, (fun h => by cases h), Or.inr (Or.inl ⟨rfl, rfl⟩)⟩
set_option maxRecDepth 20000 in
theorem ok_265 : xmOK 265 := ⟨wk_265, by decide +kernel, by decide +kernel, (fun h => by cases h), Or.inr (Or.inl ⟨rfl, rfl⟩)⟩
set_option maxRecDepth 20000 in
theorem ok_266 : xmOK 266 := ⟨wk_266, by decide +kernel, by decide +kernel, (fun h => by cases h), Or.inr (Or.inr (Or.inl ⟨rfl, rfl⟩))⟩
set_option maxRecDepth 20000 in
theorem ok_267 : xmOK 267 := ⟨wk_267, by decide +kernel, by decide +kernel, (fun h => by cases h), Or.inr (Or.inl ⟨rfl, rfl⟩)⟩
set_option maxRecDepth 20000 in
theorem ok_268 : xmOK 268 := ⟨wk_268, by decide +kernel, by decide +kernel, (fun h => by cases h), Or.inr (Or.inl ⟨rfl, rfl⟩)⟩
set_option maxRecDepth 20000 in
theorem ok_269 : xmOK 269 := ⟨wk_269, by decide +kernel, by decide +kernel, (fun h => by cases h), Or.inl ⟨rfl, rfl⟩⟩
set_option maxRecDepth 20000 in
theorem ok_270 : xmOK 270 := ⟨wk_270, by decide +kernel, by decide +kernel, (fun h => by cases h), Or.inl ⟨rfl, rfl⟩⟩
set_option maxRecDepth 20000 in
theorem ok_271 : xmOK 271 := ⟨wk_271, by decide +kernel, by decide +kernel, (fun h => by cases h), Or.inr (Or.inl ⟨rfl, rfl⟩)⟩
set_option maxRecDepth 20000 in
theorem ok_272 : xmOK 272 := ⟨wk_272, by decide +kernel, by decide +kernel, (fun h => by cases h), Or.inr (Or.inl ⟨rfl, rfl⟩)⟩
set_option maxRecDepth 20000 in
theorem ok_273 : xmOK 273 := ⟨wk_273, by decide +kernel, by decide +kernel, (fun h => by cases h), Or.inr (Or.inl ⟨rfl, rfl⟩)⟩
set_option maxRecDepth 20000 in
theorem ok_274 : xmOK 274 := ⟨wk_274, by decide +kernel, by decide +kernel, (fun h => by cases h), Or.inr (Or.inl ⟨rfl, rfl⟩)⟩
set_option maxRecDepth 20000 in
theorem ok_275 : xmOK 275 := ⟨wk_275, by decide +kernel, by decide +kernel, (fun h => by cases h), Or.inl ⟨rfl, rfl⟩⟩
set_option maxRecDepth 20000 in
theorem ok_276 : xmOK 276 := ⟨wk_276, by decide +kernel, by decide +kernel, (fun h => by cases h), Or.inr (Or.inl ⟨rfl, rfl⟩)⟩
set_option maxRecDepth 20000 in
theorem ok_277 : xmOK 277 := ⟨wk_277, by decide +kernel, by decide +kernel, (fun h => by cases h), Or.inr (Or.inl ⟨rfl, rfl⟩)⟩
set_option maxRecDepth 20000 in
theorem ok_278 : xmOK 278 := ⟨wk_278, by decide +kernel, by decide +kernel, (fun h => by cases h), Or.inr (Or.inl ⟨rfl, rfl⟩)⟩
set_option maxRecDepth 20000 in
theorem ok_279 : xmOK 279 := ⟨wk_279, by decide +kernel, by decide +kernel, (fun h => by cases h), Or.inr (Or.inl ⟨rfl, rfl⟩)⟩
set_option maxRecDepth 20000 in
theorem ok_280 : xmOK 280 := ⟨wk_280, by decide +kernel, by decide +kernel, (fun h => by cases h), Or.inr (Or.inl ⟨rfl, rfl⟩)⟩
set_option maxRecDepth 20000 in
theorem ok_281 : xmOK 281 := ⟨wk_281, by decide +kernel, by decide +kernel, (fun h => by cases h), Or.inr (Or.inl ⟨rfl, rfl⟩)⟩
set_option maxRecDepth 20000 in
theorem ok_282 : xmOK 282 := ⟨wk_282, by decide +kernel, by decide +kernel, (fun h => by cases h), Or.inr (Or.inl ⟨rfl, rfl⟩)⟩
set_option maxRecDepth 20000 in
theorem ok_283 : xmOK 283 := ⟨wk_283, by decide +kernel, by decide +kernel, (fun h => by cases h), Or.inr (Or.inl ⟨rfl, rfl⟩)⟩
set_option maxRecDepth 20000 in
theorem ok_284 : xmOK 284 := ⟨wk_284, by decide +kernel, by decide +kernel, (fun h => by cases h), Or.inr (Or.inl ⟨rfl, rfl⟩)⟩
set_option maxRecDepth 20000 in
theorem ok_285 : xmOK 285 := ⟨wk_285, by decide +kernel, by decide +kernel, (fun h => by cases h), Or.inr (Or.inl ⟨rfl, rfl⟩)⟩
set_option maxRecDepth 20000 in
theorem ok_286 : xmOK 286 := ⟨wk_286, by decide +kernel, by decide +kernel, (fun h => by cases h), Or.inr (Or.inl ⟨rfl, rfl⟩)⟩
set_option maxRecDepth 20000 in
theorem ok_287 : xmOK 287 := ⟨wk_287, by decide +kernel, by decide +kernel, (fun h => by cases h), Or.inr (Or.inl ⟨rfl, rfl⟩)⟩
set_option maxRecDepth 20000 in
theorem ok_288 : xmOK 288 := ⟨wk_288, by decide +kernel, by decide +kernel, (fun h => by cases h), Or.inr (Or.inl ⟨rfl, rfl⟩)⟩
set_option maxRecDepth 20000 in
theorem ok_289 : xmOK 289 := ⟨wk_289, by decide +kernel, by decide +kernel, (fun h => by cases h), Or.inr (Or.inl ⟨rfl, rfl⟩)⟩
set_option maxRecDepth 20000 in
theorem ok_290 : xmOK 290 := ⟨wk_290, by decide +kernel, by decide +kernel, (fun h => by cases h), Or.inr (Or.inl ⟨rfl, rfl⟩)⟩
set_option maxRecDepth 20000 in
theorem ok_291 : xmOK 291 := ⟨wk_291, by decide +kernel, by decide +kernel, (fun h => by cases h), Or.inr (Or.inl ⟨rfl, rfl⟩)⟩
set_option maxRecDepth 20000 in
theorem ok_292 : xmOK 292 := ⟨wk_292, by decide +kernel, by decide +kernel, (fun h => by cases h), Or.inr (Or.inl ⟨rfl, rfl⟩)⟩
set_option maxRecDepth 20000 in
theorem ok_293 : xmOK 293 := ⟨wk_293, by decide +kernel, by decide +kernel, (fun h => by cases h), Or.inr (Or.inl ⟨rfl, rfl⟩)⟩
set_option maxRecDepth 20000 in
theorem ok_294 : xmOK 294 := ⟨wk_294, by decide +kernel, by decide +kernel, (fun h => by cases h), Or.inl ⟨rfl, rfl⟩⟩
set_option maxRecDepth 20000 in
theorem ok_295 : xmOK 295 := ⟨wk_295, by decide +kernel, by decide +kernel, (fun h => by cases h), Or.inl ⟨rfl, rfl⟩⟩
set_option maxRecDepth 20000 in
theorem ok_296 : xmOK 296 := ⟨wk_296, by decide +kernel, by decide +kernel, (fun h => by cases h), Or.inr (Or.inl ⟨rfl, rfl⟩)⟩
set_option maxRecDepth 20000 in
theorem ok_297 : xmOK 297 := ⟨wk_297, by decide +kernel, by decide +kernel, (fun h => by cases h), Or.inr (Or.inl ⟨rfl, rfl⟩)⟩
set_option maxRecDepth 20000 in
theorem ok_298 : xmOK 298 := ⟨wk_298, by decide +kernel, by decide +kernel, (fun h => by cases h), Or.inr (Or.inl ⟨rfl, rfl⟩)⟩
set_option maxRecDepth 20000 in
theorem ok_299 : xmOK 299 := ⟨wk_299, by decide +kernel, by decide +kernel, (fun h => by cases h), Or.inr (Or.inl ⟨rfl, rfl⟩)⟩
set_option maxRecDepth 20000 in
theorem ok_300 : xmOK 300 := ⟨wk_300, by decide +kernel, by decide +kernel, (fun h => by cases h), Or.inl ⟨rfl, rfl⟩⟩
set_option maxRecDepth 20000 in
theorem ok_302 : xmOK 302 := ⟨wk_302, by decide +kernel, by decide +kernel, (fun h => by cases h), Or.inl ⟨rfl, rfl⟩⟩
