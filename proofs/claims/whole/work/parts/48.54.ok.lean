set_option maxRecDepth 100000 in
theorem ok_199 : aOKm m_199 = true := by decide +kernel
set_option maxRecDepth 100000 in
theorem mk_199 : aMchk m_199 = true := by decide +kernel
set_option maxRecDepth 100000 in
theorem ok_200 : aOKm m_200 = true := by decide +kernel
set_option maxRecDepth 100000 in
theorem mk_200 : aMchk m_200 = true := by decide +kernel
set_option maxRecDepth 100000 in
theorem ok_201 : aOKm m_201 = true := by decide +kernel
set_option maxRecDepth 100000 in
theorem mk_201 : aMchk m_201 = true := by decide +kernel
set_option maxRecDepth 100000 in
theorem ok_202 : aOKm m_202 = true := by decide +kernel
set_option maxRecDepth 100000 in
theorem mk_202 : aMchk m_202 = true := by decide +kernel
set_option maxRecDepth 100000 in
theorem ok_203 : aOKm m_203 = true := by decide +kernel
set_option maxRecDepth 100000 in
theorem mk_203 : aMchk m_203 = true := by decide +kernel
set_option maxRecDepth 100000 in
theorem ok_204 : aOKm m_204 = true := by decide +kernel
set_option maxRecDepth 100000 in
theorem mk_204 : aMchk m_204 = true := by decide +kernel
set_option maxRecDepth 100000 in
theorem ok_205 : aOKm m_205 = true := by decide +kernel
set_option maxRecDepth 100000 in
theorem mk_205 : aMchk m_205 = true := by decide +kernel
set_option maxRecDepth 100000 in
theorem ok_206 : aOKm m_206 = true := by decide +kernel
set_option maxRecDepth 100000 in
theorem mk_206 : aMchk m_206 = true := by decide +kernel
set_option maxRecDepth 100000 in
theorem ok_207 : aOKm m_207 = true := by decide +kernel
set_option maxRecDepth 100000 in
theorem mk_207 : aMchk m_207 = true := by decide +kernel
set_option maxRecDepth 100000 in
theorem ok_208 : aOKm m_208 = true := by decide +kernel
set_option maxRecDepth 100000 in
theorem mk_208 : aMchk m_208 = true := by decide +kernel
set_option maxRecDepth 100000 in
theorem ok_209 : aOKm m_209 = true := by decide +kernel
set_option maxRecDepth 100000 in
theorem mk_209 : aMchk m_209 = true := by decide +kernel
set_option maxRecDepth 100000 in
theorem ok_210 : aOKm m_210 = true := by decide +kernel
set_option maxRecDepth 100000 in
theorem mk_210 : aMchk m_210 = true := by decide +kernel
set_option maxRecDepth 100000 in
theorem ok_211 : aOKm m_211 = true := by decide +kernel
set_option maxRecDepth 100000 in
theorem mk_211 : aMchk m_211 = true := by decide +kernel
set_option maxRecDepth 100000 in
theorem ok_212 : aOKm m_212 = true := by decide +kernel
set_option maxRecDepth 100000 in
theorem mk_212 : aMchk m_212 = true := by decide +kernel
set_option maxRecDepth 100000 in
theorem ok_213 : aOKm m_213 = true := by decide +kernel
set_option maxRecDepth 100000 in
theorem mk_213 : aMchk m_213 = true := by decide +kernel
set_option maxRecDepth 100000 in
theorem ok_214 : aOKm m_214 = true := by decide +kernel
set_option maxRecDepth 100000 in
theorem mk_214 : aMchk m_214 = true := by decide +kernel
set_option maxRecDepth 100000 in
theorem ok_215 : aOKm m_215 = true := by decide +kernel
set_option maxRecDepth 100000 in
theorem mk_215 : aMchk m_215 = true := by decide +kernel
set_option maxRecDepth 100000 in
theorem ok_216 : aOKm m_216 = true := by decide +kernel
set_option maxRecDepth 100000 in
theorem mk_216 : aMchk m_216 = true := by decide +kernel
set_option maxRecDepth 100000 in
theorem ok_217 : aOKm m_217 = true := by decide +kernel
set_option maxRecDepth 100000 in
theorem mk_217 : aMchk m_217 = true := by decide +kernel
set_option maxRecDepth 100000 in
theorem ok_218 : aOKm m_218 = true := by decide +kernel
set_option maxRecDepth 100000 in
theorem mk_218 : aMchk m_218 = true := by decide +kernel
set_option maxRecDepth 100000 in
theorem ok_219 : aOKm m_219 = true := by decide +kernel
set_option maxRecDepth 100000 in
theorem mk_219 : aMchk m_219 = true := by decide +kernel
set_option maxRecDepth 100000 in
theorem ok_220 : aOKm m_220 = true := by decide +kernel
set_option maxRecDepth 100000 in
theorem mk_220 : aMchk m_220 = true := by decide +kernel
set_option maxRecDepth 100000 in
theorem ok_221 : aOKm m_221 = true := by decide +kernel
set_option maxRecDepth 100000 in
theorem mk_221 : aMchk m_221 = true := by decide +kernel
set_option maxRecDepth 100000 in
theorem ok_222 : aOKm m_222 = true := by decide +kernel
set_option maxRecDepth 100000 in
theorem mk_222 : aMchk m_222 = true := by decide +kernel
set_option maxRecDepth 100000 in
theorem ok_223 : aOKm m_223 = true := by decide +kernel
set_option maxRecDepth 100000 in
theorem mk_223 : aMchk m_223 = true := by decide +kernel
set_option maxRecDepth 100000 in
theorem ok_224 : aOKm m_224 = true := by decide +kernel
set_option maxRecDepth 100000 in
theorem mk_224 : aMchk m_224 = true := by decide +kernel
set_option maxRecDepth 100000 in
theorem ok_225 : aOKm m_225 = true := by decide +kernel
set_option maxRecDepth 100000 in
theorem mk_225 : aMchk m_225 = true := by decide +kernel
set_option maxRecDepth 100000 in
theorem ok_226 : aOKm m_226 = true := by decide +kernel
set_option maxRecDepth 100000 in
theorem mk_226 : aMchk m_226 = true := by decide +kernel
set_option maxRecDepth 100000 in
theorem ok_227 : aOKm m_227 = true := by decide +kernel
set_option maxRecDepth 100000 in
theorem mk_227 : aMchk m_227 = true := by decide +kernel
set_option maxRecDepth 100000 in
theorem ok_228 : aOKm m_228 = true := by decide +kernel
set_option maxRecDepth 100000 in
theorem mk_228 : aMchk m_228 = true := by decide +kernel
set_option maxRecDepth 100000 in
theorem ok_229 : aOKm m_229 = true := by decide +kernel
set_option maxRecDepth 100000 in
theorem mk_229 : aMchk m_229 = true := by decide +kernel
set_option maxRecDepth 100000 in
theorem ok_230 : aOKm m_230 = true := by decide +kernel
set_option maxRecDepth 100000 in
theorem mk_230 : aMchk m_230 = true := by decide +kernel
set_option maxRecDepth 100000 in
theorem ok_231 : aOKm m_231 = true := by decide +kernel
set_option maxRecDepth 100000 in
theorem mk_231 : aMchk m_231 = true := by decide +kernel
set_option maxRecDepth 100000 in
theorem ok_232 : aOKm m_232 = true := by decide +kernel
set_option maxRecDepth 100000 in
theorem mk_232 : aMchk m_232 = true := by decide +kernel
set_option maxRecDepth 100000 in
theorem ok_233 : aOKm m_233 = true := by decide +kernel
set_option maxRecDepth 100000 in
theorem mk_233 : aMchk m_233 = true := by decide +kernel
set_option maxRecDepth 100000 in
theorem ok_234 : aOKm m_234 = true := by decide +kernel
set_option maxRecDepth 100000 in
theorem mk_234 : aMchk m_234 = true := by decide +kernel
set_option maxRecDepth 100000 in
theorem ok_235 : aOKm m_235 = true := by decide +kernel
set_option maxRecDepth 100000 in
theorem mk_235 : aMchk m_235 = true := by decide +kernel
set_option maxRecDepth 100000 in
theorem ok_236 : aOKm m_236 = true := by decide +kernel
set_option maxRecDepth 100000 in
theorem mk_236 : aMchk m_236 = true := by decide +kernel
set_option maxRecDepth 100000 in
theorem ok_237 : aOKm m_237 = true := by decide +kernel
set_option maxRecDepth 100000 in
theorem mk_237 : aMchk m_237 = true := by decide +kernel
set_option maxRecDepth 100000 in
theorem ok_238 : aOKm m_238 = true := by decide +kernel
set_option maxRecDepth 100000 in
theorem mk_238 : aMchk m_238 = true := by decide +kernel
set_option maxRecDepth 100000 in
theorem ok_239 : aOKm m_239 = true := by decide +kernel
set_option maxRecDepth 100000 in
theorem mk_239 : aMchk m_239 = true := by decide +kernel
set_option maxRecDepth 100000 in
theorem ok_240 : aOKm m_240 = true := by decide +kernel
set_option maxRecDepth 100000 in
theorem mk_240 : aMchk m_240 = true := by decide +kernel
set_option maxRecDepth 100000 in
theorem ok_241 : aOKm m_241 = true := by decide +kernel
set_option maxRecDepth 100000 in
theorem mk_241 : aMchk m_241 = true := by decide +kernel
set_option maxRecDepth 100000 in
theorem ok_242 : aOKm m_242 = true := by decide +kernel
set_option maxRecDepth 100000 in
theorem mk_242 : aMchk m_242 = true := by decide +kernel
set_option maxRecDepth 100000 in
theorem ok_243 : aOKm m_243 = true := by decide +kernel
set_option maxRecDepth 100000 in
theorem mk_243 : aMchk m_243 = true := by decide +kernel
set_option maxRecDepth 100000 in
theorem ok_244 : aOKm m_244 = true := by decide +kernel
set_option maxRecDepth 100000 in
theorem mk_244 : aMchk m_244 = true := by decide +kernel
set_option maxRecDepth 100000 in
theorem ok_245 : aOKm m_245 = true := by decide +kernel
set_option maxRecDepth 100000 in
theorem mk_245 : aMchk m_245 = true := by decide +kernel
set_option maxRecDepth 100000 in
theorem ok_246 : aOKm m_246 = true := by decide +kernel
set_option maxRecDepth 100000 in
theorem mk_246 : aMchk m_246 = true := by decide +kernel
set_option maxRecDepth 100000 in
theorem ok_247 : aOKm m_247 = true := by decide +kernel
set_option maxRecDepth 100000 in
theorem mk_247 : aMchk m_247 = true := by decide +kernel
set_option maxRecDepth 100000 in
theorem ok_248 : aOKm m_248 = true := by decide +kernel
set_option maxRecDepth 100000 in
theorem mk_248 : aMchk m_248 = true := by decide +kernel
set_option maxRecDepth 100000 in
theorem ok_249 : aOKm m_249 = true := by decide +kernel
set_option maxRecDepth 100000 in
theorem mk_249 : aMchk m_249 = true := by decide +kernel
set_option maxRecDepth 100000 in
theorem ok_250 : aOKm m_250 = true := by decide +kernel
set_option maxRecDepth 100000 in
theorem mk_250 : aMchk m_250 = true := by decide +kernel
set_option maxRecDepth 100000 in
theorem ok_251 : aOKm m_251 = true := by decide +kernel
set_option maxRecDepth 100000 in
theorem mk_251 : aMchk m_251 = true := by decide +kernel
set_option maxRecDepth 100000 in
theorem ok_252 : aOKm m_252 = true := by decide +kernel
set_option maxRecDepth 100000 in
theorem mk_252 : aMchk m_252 = true := by decide +kernel
set_option maxRecDepth 100000 in
theorem ok_253 : aOKm m_253 = true := by decide +kernel
set_option maxRecDepth 100000 in
theorem mk_253 : aMchk m_253 = true := by decide +kernel
set_option maxRecDepth 100000 in
theorem ok_254 : aOKm m_254 = true := by decide +kernel
set_option maxRecDepth 100000 in
theorem mk_254 : aMchk m_254 = true := by decide +kernel
set_option maxRecDepth 100000 in
theorem ok_255 : aOKm m_255 = true := by decide +kernel
set_option maxRecDepth 100000 in
theorem mk_255 : aMchk m_255 = true := by decide +kernel
set_option maxRecDepth 100000 in
theorem ok_256 : aOKm m_256 = true := by decide +kernel
set_option maxRecDepth 100000 in
theorem mk_256 : aMchk m_256 = true := by decide +kernel
set_option maxRecDepth 100000 in
theorem ok_257 : aOKm m_257 = true := by decide +kernel
set_option maxRecDepth 100000 in
theorem mk_257 : aMchk m_257 = true := by decide +kernel
set_option maxRecDepth 100000 in
theorem ok_258 : aOKm m_258 = true := by decide +kernel
set_option maxRecDepth 100000 in
theorem mk_258 : aMchk m_258 = true := by decide +kernel
set_option maxRecDepth 100000 in
theorem ok_259 : aOKm m_259 = true := by decide +kernel
set_option maxRecDepth 100000 in
theorem mk_259 : aMchk m_259 = true := by decide +kernel
set_option maxRecDepth 100000 in
theorem ok_260 : aOKm m_260 = true := by decide +kernel
set_option maxRecDepth 100000 in
theorem mk_260 : aMchk m_260 = true := by decide +kernel
