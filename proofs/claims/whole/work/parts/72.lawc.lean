/-! ===== the law: its twenty-one cases ===== -/
section
variable {p : Program} {l : Launch} {e : Env} {s : State} {m : MethodId} {below : List Frame} {meth : Method} {c : Code} {D : va_G} {cyI cyZ : ClassId} {aX aM : Nat → Nat} {b L : Nat} {xs : Nat → Int32} {x y : St}
set_option maxHeartbeats 4000000 in
set_option maxRecDepth 100000 in
theorem case_0 (C : CL p s m c D cyI cyZ b L xs) {v3 : Int32}  (hSim : Sim x y) (hk : ∀ x1 y1, Sim x1 y1 → JL p l e s m below meth c D cyI cyZ aX aM b x1 y1 821 [(0, .ref b), (1, .ref (aX 0)), (2, .ref (aM 0)), (3, .int v3)] []) : JL p l e s m below meth c D cyI cyZ aX aM b x y 132 [(0, .ref b), (1, .ref (aX 0)), (2, .ref (aM 0)), (3, .int v3)] [] := by
  obtain ⟨pe, nb, nh, hPE, hF, h⟩ := hSim
  obtain ⟨r, x1, y1, nb1, e1, e2, hP1, h1⟩ := sim_addBridge hPE h 
  refine L_ald C 1 rfl rfl dL_law_132 ?_
  refine L_X C [] (tX4_addBridge  x r x1 e1) (cwV 0 C.1.2.2.2.2 gL_law_X4_addBridge rfl rfl rfl (by decide +kernel) ⟨Nat.le_of_ble_eq_true rfl, Nat.le_of_ble_eq_true rfl⟩) rfl rfl (Nat.le_of_ble_eq_true rfl) dL_law_133 ?_
  refine L_ald C 2 rfl rfl dL_law_136 ?_
  refine L_M C [] (tX5_addBridge  y r y1 e2) (cwV 0 C.1.2.2.2.2 gL_law_X5_addBridge rfl rfl rfl (by decide +kernel) ⟨Nat.le_of_ble_eq_true rfl, Nat.le_of_ble_eq_true rfl⟩) rfl rfl (Nat.le_of_ble_eq_true rfl) dL_law_137 ?_
  refine L_eq C (tgt := 821) dL_law_140 (by decide) ?_
  exact hk x1 y1 ⟨pe, nb1, nh, hP1, hF, h1⟩
set_option maxHeartbeats 4000000 in
set_option maxRecDepth 100000 in
theorem case_1 (C : CL p s m c D cyI cyZ b L xs) {v3 : Int32} (hi1 : vp_in (v3 + 1) L) (hi2 : vp_in (v3 + 2) L) (hi3 : vp_in (v3 + 3) L) (hi4 : vp_in (v3 + 4) L) (hSim : Sim x y) (hk : ∀ x1 y1, Sim x1 y1 → JL p l e s m below meth c D cyI cyZ aX aM b x1 y1 821 [(0, .ref b), (1, .ref (aX 0)), (2, .ref (aM 0)), (3, .int v3)] []) : JL p l e s m below meth c D cyI cyZ aX aM b x y 145 [(0, .ref b), (1, .ref (aX 0)), (2, .ref (aM 0)), (3, .int v3)] [] := by
  obtain ⟨pe, nb, nh, hPE, hF, h⟩ := hSim
  obtain ⟨r, x1, y1, pe1, e1, e2, hP1, hF1, h1⟩ := sim_connect hPE hF h (xs (v3 + 1).toNatClampNeg) (xs (v3 + 2).toNatClampNeg) (xs (v3 + 3).toNatClampNeg) (xs (v3 + 4).toNatClampNeg)
  refine L_ald C 1 rfl rfl dL_law_145 ?_
  refine L_arg C (t := (1 : Int32)) rfl rfl (by decide) hi1 dL_law_146 dL_law_147 dL_law_148 dL_law_149 dL_law_150 ?_
  refine L_arg C (t := (2 : Int32)) rfl rfl (by decide) hi2 dL_law_151 dL_law_152 dL_law_153 dL_law_154 dL_law_155 ?_
  refine L_arg C (t := (3 : Int32)) rfl rfl (by decide) hi3 dL_law_156 dL_law_157 dL_law_158 dL_law_159 dL_law_160 ?_
  refine L_arg C (t := (4 : Int32)) rfl rfl (by decide) hi4 dL_law_161 dL_law_162 dL_law_163 dL_law_164 dL_law_165 ?_
  refine L_X C [.int (xs (v3 + 1).toNatClampNeg), .int (xs (v3 + 2).toNatClampNeg), .int (xs (v3 + 3).toNatClampNeg), .int (xs (v3 + 4).toNatClampNeg)] (tX4_connect (xs (v3 + 1).toNatClampNeg) (xs (v3 + 2).toNatClampNeg) (xs (v3 + 3).toNatClampNeg) (xs (v3 + 4).toNatClampNeg) x r x1 e1) (cwV 4 C.1.2.2.2.2 gL_law_X4_connect rfl rfl rfl (by decide +kernel) ⟨Nat.le_of_ble_eq_true rfl, Nat.le_of_ble_eq_true rfl⟩) rfl rfl (Nat.le_of_ble_eq_true rfl) dL_law_166 ?_
  refine L_ald C 2 rfl rfl dL_law_169 ?_
  refine L_arg C (t := (1 : Int32)) rfl rfl (by decide) hi1 dL_law_170 dL_law_171 dL_law_172 dL_law_173 dL_law_174 ?_
  refine L_arg C (t := (2 : Int32)) rfl rfl (by decide) hi2 dL_law_175 dL_law_176 dL_law_177 dL_law_178 dL_law_179 ?_
  refine L_arg C (t := (3 : Int32)) rfl rfl (by decide) hi3 dL_law_180 dL_law_181 dL_law_182 dL_law_183 dL_law_184 ?_
  refine L_arg C (t := (4 : Int32)) rfl rfl (by decide) hi4 dL_law_185 dL_law_186 dL_law_187 dL_law_188 dL_law_189 ?_
  refine L_M C [.int (xs (v3 + 1).toNatClampNeg), .int (xs (v3 + 2).toNatClampNeg), .int (xs (v3 + 3).toNatClampNeg), .int (xs (v3 + 4).toNatClampNeg)] (tX5_connect (xs (v3 + 1).toNatClampNeg) (xs (v3 + 2).toNatClampNeg) (xs (v3 + 3).toNatClampNeg) (xs (v3 + 4).toNatClampNeg) y r y1 e2) (cwV 4 C.1.2.2.2.2 gL_law_X5_connect rfl rfl rfl (by decide +kernel) ⟨Nat.le_of_ble_eq_true rfl, Nat.le_of_ble_eq_true rfl⟩) rfl rfl (Nat.le_of_ble_eq_true rfl) dL_law_190 ?_
  refine L_eq C (tgt := 821) dL_law_193 (by decide) ?_
  exact hk x1 y1 ⟨pe1, nb, nh, hP1, hF1, h1⟩
set_option maxHeartbeats 4000000 in
set_option maxRecDepth 100000 in
theorem case_2 (C : CL p s m c D cyI cyZ b L xs) {v3 : Int32} (hi1 : vp_in (v3 + 1) L) (hi2 : vp_in (v3 + 2) L) (hSim : Sim x y) (hk : ∀ x1 y1, Sim x1 y1 → JL p l e s m below meth c D cyI cyZ aX aM b x1 y1 821 [(0, .ref b), (1, .ref (aX 0)), (2, .ref (aM 0)), (3, .int v3)] []) : JL p l e s m below meth c D cyI cyZ aX aM b x y 198 [(0, .ref b), (1, .ref (aX 0)), (2, .ref (aM 0)), (3, .int v3)] [] := by
  obtain ⟨pe, nb, nh, hPE, hF, h⟩ := hSim
  obtain ⟨r, x1, y1, pe1, e1, e2, hP1, hF1, h1⟩ := sim_cut hPE hF h (xs (v3 + 1).toNatClampNeg) (xs (v3 + 2).toNatClampNeg)
  refine L_ald C 1 rfl rfl dL_law_198 ?_
  refine L_arg C (t := (1 : Int32)) rfl rfl (by decide) hi1 dL_law_199 dL_law_200 dL_law_201 dL_law_202 dL_law_203 ?_
  refine L_arg C (t := (2 : Int32)) rfl rfl (by decide) hi2 dL_law_204 dL_law_205 dL_law_206 dL_law_207 dL_law_208 ?_
  refine L_X C [.int (xs (v3 + 1).toNatClampNeg), .int (xs (v3 + 2).toNatClampNeg)] (tX4_cut (xs (v3 + 1).toNatClampNeg) (xs (v3 + 2).toNatClampNeg) x r x1 e1) (cwV 2 C.1.2.2.2.2 gL_law_X4_cut rfl rfl rfl (by decide +kernel) ⟨Nat.le_of_ble_eq_true rfl, Nat.le_of_ble_eq_true rfl⟩) rfl rfl (Nat.le_of_ble_eq_true rfl) dL_law_209 ?_
  refine L_ald C 2 rfl rfl dL_law_212 ?_
  refine L_arg C (t := (1 : Int32)) rfl rfl (by decide) hi1 dL_law_213 dL_law_214 dL_law_215 dL_law_216 dL_law_217 ?_
  refine L_arg C (t := (2 : Int32)) rfl rfl (by decide) hi2 dL_law_218 dL_law_219 dL_law_220 dL_law_221 dL_law_222 ?_
  refine L_M C [.int (xs (v3 + 1).toNatClampNeg), .int (xs (v3 + 2).toNatClampNeg)] (tX5_cut (xs (v3 + 1).toNatClampNeg) (xs (v3 + 2).toNatClampNeg) y r y1 e2) (cwV 2 C.1.2.2.2.2 gL_law_X5_cut rfl rfl rfl (by decide +kernel) ⟨Nat.le_of_ble_eq_true rfl, Nat.le_of_ble_eq_true rfl⟩) rfl rfl (Nat.le_of_ble_eq_true rfl) dL_law_223 ?_
  refine L_eq C (tgt := 821) dL_law_226 (by decide) ?_
  exact hk x1 y1 ⟨pe1, nb, nh, hP1, hF1, h1⟩
set_option maxHeartbeats 4000000 in
set_option maxRecDepth 100000 in
theorem case_3 (C : CL p s m c D cyI cyZ b L xs) {v3 : Int32} (hi1 : vp_in (v3 + 1) L) (hi2 : vp_in (v3 + 2) L) (hSim : Sim x y) (hk : ∀ x1 y1, Sim x1 y1 → JL p l e s m below meth c D cyI cyZ aX aM b x1 y1 821 [(0, .ref b), (1, .ref (aX 0)), (2, .ref (aM 0)), (3, .int v3)] []) : JL p l e s m below meth c D cyI cyZ aX aM b x y 231 [(0, .ref b), (1, .ref (aX 0)), (2, .ref (aM 0)), (3, .int v3)] [] := by
  obtain ⟨pe, nb, nh, hPE, hF, h⟩ := hSim
  obtain ⟨r, x1, y1, pe1, nh1, e1, e2, hP1, hF1, h1⟩ := sim_addHost hPE hF h (xs (v3 + 1).toNatClampNeg) (xs (v3 + 2).toNatClampNeg)
  refine L_ald C 1 rfl rfl dL_law_231 ?_
  refine L_arg C (t := (1 : Int32)) rfl rfl (by decide) hi1 dL_law_232 dL_law_233 dL_law_234 dL_law_235 dL_law_236 ?_
  refine L_arg C (t := (2 : Int32)) rfl rfl (by decide) hi2 dL_law_237 dL_law_238 dL_law_239 dL_law_240 dL_law_241 ?_
  refine L_X C [.int (xs (v3 + 1).toNatClampNeg), .int (xs (v3 + 2).toNatClampNeg)] (tX4_addHost (xs (v3 + 1).toNatClampNeg) (xs (v3 + 2).toNatClampNeg) x r x1 e1) (cwV 2 C.1.2.2.2.2 gL_law_X4_addHost rfl rfl rfl (by decide +kernel) ⟨Nat.le_of_ble_eq_true rfl, Nat.le_of_ble_eq_true rfl⟩) rfl rfl (Nat.le_of_ble_eq_true rfl) dL_law_242 ?_
  refine L_ald C 2 rfl rfl dL_law_245 ?_
  refine L_arg C (t := (1 : Int32)) rfl rfl (by decide) hi1 dL_law_246 dL_law_247 dL_law_248 dL_law_249 dL_law_250 ?_
  refine L_arg C (t := (2 : Int32)) rfl rfl (by decide) hi2 dL_law_251 dL_law_252 dL_law_253 dL_law_254 dL_law_255 ?_
  refine L_M C [.int (xs (v3 + 1).toNatClampNeg), .int (xs (v3 + 2).toNatClampNeg)] (tX5_addHost (xs (v3 + 1).toNatClampNeg) (xs (v3 + 2).toNatClampNeg) y r y1 e2) (cwV 2 C.1.2.2.2.2 gL_law_X5_addHost rfl rfl rfl (by decide +kernel) ⟨Nat.le_of_ble_eq_true rfl, Nat.le_of_ble_eq_true rfl⟩) rfl rfl (Nat.le_of_ble_eq_true rfl) dL_law_256 ?_
  refine L_eq C (tgt := 821) dL_law_259 (by decide) ?_
  exact hk x1 y1 ⟨pe1, nb, nh1, hP1, hF1, h1⟩
set_option maxHeartbeats 4000000 in
set_option maxRecDepth 100000 in
theorem case_4 (C : CL p s m c D cyI cyZ b L xs) {v3 : Int32} (hi1 : vp_in (v3 + 1) L) (hi2 : vp_in (v3 + 2) L) (hSim : Sim x y) (hk : ∀ x1 y1, Sim x1 y1 → JL p l e s m below meth c D cyI cyZ aX aM b x1 y1 821 [(0, .ref b), (1, .ref (aX 0)), (2, .ref (aM 0)), (3, .int v3)] []) : JL p l e s m below meth c D cyI cyZ aX aM b x y 264 [(0, .ref b), (1, .ref (aX 0)), (2, .ref (aM 0)), (3, .int v3)] [] := by
  obtain ⟨pe, nb, nh, hPE, hF, h⟩ := hSim
  obtain ⟨r, x1, y1, e1, e2, h1⟩ := sim_setTimes h (xs (v3 + 1).toNatClampNeg) (xs (v3 + 2).toNatClampNeg)
  refine L_ald C 1 rfl rfl dL_law_264 ?_
  refine L_arg C (t := (1 : Int32)) rfl rfl (by decide) hi1 dL_law_265 dL_law_266 dL_law_267 dL_law_268 dL_law_269 ?_
  refine L_arg C (t := (2 : Int32)) rfl rfl (by decide) hi2 dL_law_270 dL_law_271 dL_law_272 dL_law_273 dL_law_274 ?_
  refine L_X C [.int (xs (v3 + 1).toNatClampNeg), .int (xs (v3 + 2).toNatClampNeg)] (tX4_setTimes (xs (v3 + 1).toNatClampNeg) (xs (v3 + 2).toNatClampNeg) x r x1 e1) (cwV 2 C.1.2.2.2.2 gL_law_X4_setTimes rfl rfl rfl (by decide +kernel) ⟨Nat.le_of_ble_eq_true rfl, Nat.le_of_ble_eq_true rfl⟩) rfl rfl (Nat.le_of_ble_eq_true rfl) dL_law_275 ?_
  refine L_ald C 2 rfl rfl dL_law_278 ?_
  refine L_arg C (t := (1 : Int32)) rfl rfl (by decide) hi1 dL_law_279 dL_law_280 dL_law_281 dL_law_282 dL_law_283 ?_
  refine L_arg C (t := (2 : Int32)) rfl rfl (by decide) hi2 dL_law_284 dL_law_285 dL_law_286 dL_law_287 dL_law_288 ?_
  refine L_M C [.int (xs (v3 + 1).toNatClampNeg), .int (xs (v3 + 2).toNatClampNeg)] (tX5_setTimes (xs (v3 + 1).toNatClampNeg) (xs (v3 + 2).toNatClampNeg) y r y1 e2) (cwV 2 C.1.2.2.2.2 gL_law_X5_setTimes rfl rfl rfl (by decide +kernel) ⟨Nat.le_of_ble_eq_true rfl, Nat.le_of_ble_eq_true rfl⟩) rfl rfl (Nat.le_of_ble_eq_true rfl) dL_law_289 ?_
  refine L_eq C (tgt := 821) dL_law_292 (by decide) ?_
  exact hk x1 y1 ⟨pe, nb, nh, hPE, hF, h1⟩
set_option maxHeartbeats 4000000 in
set_option maxRecDepth 100000 in
theorem case_5 (C : CL p s m c D cyI cyZ b L xs) {v3 : Int32} (hi1 : vp_in (v3 + 1) L) (hi2 : vp_in (v3 + 2) L) (hSim : Sim x y) (hk : ∀ x1 y1, Sim x1 y1 → JL p l e s m below meth c D cyI cyZ aX aM b x1 y1 821 [(0, .ref b), (1, .ref (aX 0)), (2, .ref (aM 0)), (3, .int v3)] []) : JL p l e s m below meth c D cyI cyZ aX aM b x y 297 [(0, .ref b), (1, .ref (aX 0)), (2, .ref (aM 0)), (3, .int v3)] [] := by
  obtain ⟨pe, nb, nh, hPE, hF, h⟩ := hSim
  obtain ⟨r, x1, y1, e1, e2, h1⟩ := sim_join hPE h (xs (v3 + 1).toNatClampNeg) (xs (v3 + 2).toNatClampNeg)
  refine L_ald C 1 rfl rfl dL_law_297 ?_
  refine L_arg C (t := (1 : Int32)) rfl rfl (by decide) hi1 dL_law_298 dL_law_299 dL_law_300 dL_law_301 dL_law_302 ?_
  refine L_arg C (t := (2 : Int32)) rfl rfl (by decide) hi2 dL_law_303 dL_law_304 dL_law_305 dL_law_306 dL_law_307 ?_
  refine L_X C [.int (xs (v3 + 1).toNatClampNeg), .int (xs (v3 + 2).toNatClampNeg)] (tX4_join (xs (v3 + 1).toNatClampNeg) (xs (v3 + 2).toNatClampNeg) x r x1 e1) (cwV 2 C.1.2.2.2.2 gL_law_X4_join rfl rfl rfl (by decide +kernel) ⟨Nat.le_of_ble_eq_true rfl, Nat.le_of_ble_eq_true rfl⟩) rfl rfl (Nat.le_of_ble_eq_true rfl) dL_law_308 ?_
  refine L_ald C 2 rfl rfl dL_law_311 ?_
  refine L_arg C (t := (1 : Int32)) rfl rfl (by decide) hi1 dL_law_312 dL_law_313 dL_law_314 dL_law_315 dL_law_316 ?_
  refine L_arg C (t := (2 : Int32)) rfl rfl (by decide) hi2 dL_law_317 dL_law_318 dL_law_319 dL_law_320 dL_law_321 ?_
  refine L_M C [.int (xs (v3 + 1).toNatClampNeg), .int (xs (v3 + 2).toNatClampNeg)] (tX5_join (xs (v3 + 1).toNatClampNeg) (xs (v3 + 2).toNatClampNeg) y r y1 e2) (cwV 2 C.1.2.2.2.2 gL_law_X5_join rfl rfl rfl (by decide +kernel) ⟨Nat.le_of_ble_eq_true rfl, Nat.le_of_ble_eq_true rfl⟩) rfl rfl (Nat.le_of_ble_eq_true rfl) dL_law_322 ?_
  refine L_eq C (tgt := 821) dL_law_325 (by decide) ?_
  exact hk x1 y1 ⟨pe, nb, nh, hPE, hF, h1⟩
set_option maxHeartbeats 4000000 in
set_option maxRecDepth 100000 in
theorem case_6 (C : CL p s m c D cyI cyZ b L xs) {v3 : Int32} (hi1 : vp_in (v3 + 1) L) (hi2 : vp_in (v3 + 2) L) (hSim : Sim x y) (hk : ∀ x1 y1, Sim x1 y1 → JL p l e s m below meth c D cyI cyZ aX aM b x1 y1 821 [(0, .ref b), (1, .ref (aX 0)), (2, .ref (aM 0)), (3, .int v3)] []) : JL p l e s m below meth c D cyI cyZ aX aM b x y 330 [(0, .ref b), (1, .ref (aX 0)), (2, .ref (aM 0)), (3, .int v3)] [] := by
  obtain ⟨pe, nb, nh, hPE, hF, h⟩ := hSim
  obtain ⟨r, x1, y1, e1, e2, h1⟩ := sim_leave hPE h (xs (v3 + 1).toNatClampNeg) (xs (v3 + 2).toNatClampNeg)
  refine L_ald C 1 rfl rfl dL_law_330 ?_
  refine L_arg C (t := (1 : Int32)) rfl rfl (by decide) hi1 dL_law_331 dL_law_332 dL_law_333 dL_law_334 dL_law_335 ?_
  refine L_arg C (t := (2 : Int32)) rfl rfl (by decide) hi2 dL_law_336 dL_law_337 dL_law_338 dL_law_339 dL_law_340 ?_
  refine L_X C [.int (xs (v3 + 1).toNatClampNeg), .int (xs (v3 + 2).toNatClampNeg)] (tX4_leave (xs (v3 + 1).toNatClampNeg) (xs (v3 + 2).toNatClampNeg) x r x1 e1) (cwV 2 C.1.2.2.2.2 gL_law_X4_leave rfl rfl rfl (by decide +kernel) ⟨Nat.le_of_ble_eq_true rfl, Nat.le_of_ble_eq_true rfl⟩) rfl rfl (Nat.le_of_ble_eq_true rfl) dL_law_341 ?_
  refine L_ald C 2 rfl rfl dL_law_344 ?_
  refine L_arg C (t := (1 : Int32)) rfl rfl (by decide) hi1 dL_law_345 dL_law_346 dL_law_347 dL_law_348 dL_law_349 ?_
  refine L_arg C (t := (2 : Int32)) rfl rfl (by decide) hi2 dL_law_350 dL_law_351 dL_law_352 dL_law_353 dL_law_354 ?_
  refine L_M C [.int (xs (v3 + 1).toNatClampNeg), .int (xs (v3 + 2).toNatClampNeg)] (tX5_leave (xs (v3 + 1).toNatClampNeg) (xs (v3 + 2).toNatClampNeg) y r y1 e2) (cwV 2 C.1.2.2.2.2 gL_law_X5_leave rfl rfl rfl (by decide +kernel) ⟨Nat.le_of_ble_eq_true rfl, Nat.le_of_ble_eq_true rfl⟩) rfl rfl (Nat.le_of_ble_eq_true rfl) dL_law_355 ?_
  refine L_eq C (tgt := 821) dL_law_358 (by decide) ?_
  exact hk x1 y1 ⟨pe, nb, nh, hPE, hF, h1⟩
set_option maxHeartbeats 4000000 in
set_option maxRecDepth 100000 in
theorem case_7 (C : CL p s m c D cyI cyZ b L xs) {v3 : Int32} (hi1 : vp_in (v3 + 1) L) (hi2 : vp_in (v3 + 2) L) (hSim : Sim x y) (hk : ∀ x1 y1, Sim x1 y1 → JL p l e s m below meth c D cyI cyZ aX aM b x1 y1 821 [(0, .ref b), (1, .ref (aX 0)), (2, .ref (aM 0)), (3, .int v3)] []) : JL p l e s m below meth c D cyI cyZ aX aM b x y 363 [(0, .ref b), (1, .ref (aX 0)), (2, .ref (aM 0)), (3, .int v3)] [] := by
  obtain ⟨pe, nb, nh, hPE, hF, h⟩ := hSim
  by_cases hz : xs (v3 + 2).toNatClampNeg = 0
  · obtain ⟨r, x1, y1, e1, e2, h1⟩ := sim_setSilent hPE h (xs (v3 + 1).toNatClampNeg) ((0 : Int32))
    refine L_ald C 1 rfl rfl dL_law_363 ?_
    refine L_arg C (t := (1 : Int32)) rfl rfl (by decide) hi1 dL_law_364 dL_law_365 dL_law_366 dL_law_367 dL_law_368 ?_
    refine L_arg C (t := (2 : Int32)) rfl rfl (by decide) hi2 dL_law_369 dL_law_370 dL_law_371 dL_law_372 dL_law_373 ?_
    refine L_ifeq C (tgt := 381) dL_law_374 (by decide) (fun _ => ?_) (fun h => absurd hz h)
    refine L_ic C (v := (0 : Int32)) (by decide) dL_law_381 ?_
    refine L_X C [.int (xs (v3 + 1).toNatClampNeg), .int ((0 : Int32))] (tX4_setSilent (xs (v3 + 1).toNatClampNeg) ((0 : Int32)) x r x1 e1) (cwV 2 C.1.2.2.2.2 gL_law_X4_setSilent rfl rfl rfl (by decide +kernel) ⟨Nat.le_of_ble_eq_true rfl, Nat.le_of_ble_eq_true rfl⟩) rfl rfl (Nat.le_of_ble_eq_true rfl) dL_law_382 ?_
    refine L_ald C 2 rfl rfl dL_law_385 ?_
    refine L_arg C (t := (1 : Int32)) rfl rfl (by decide) hi1 dL_law_386 dL_law_387 dL_law_388 dL_law_389 dL_law_390 ?_
    refine L_arg C (t := (2 : Int32)) rfl rfl (by decide) hi2 dL_law_391 dL_law_392 dL_law_393 dL_law_394 dL_law_395 ?_
    refine L_ifeq C (tgt := 403) dL_law_396 (by decide) (fun _ => ?_) (fun h => absurd hz h)
    refine L_ic C (v := (0 : Int32)) (by decide) dL_law_403 ?_
    refine L_M C [.int (xs (v3 + 1).toNatClampNeg), .int ((0 : Int32))] (tX5_setSilent (xs (v3 + 1).toNatClampNeg) ((0 : Int32)) y r y1 e2) (cwV 2 C.1.2.2.2.2 gL_law_X5_setSilent rfl rfl rfl (by decide +kernel) ⟨Nat.le_of_ble_eq_true rfl, Nat.le_of_ble_eq_true rfl⟩) rfl rfl (Nat.le_of_ble_eq_true rfl) dL_law_404 ?_
    refine L_eq C (tgt := 821) dL_law_407 (by decide) ?_
    exact hk x1 y1 ⟨pe, nb, nh, hPE, hF, h1⟩
  · obtain ⟨r, x1, y1, e1, e2, h1⟩ := sim_setSilent hPE h (xs (v3 + 1).toNatClampNeg) ((1 : Int32))
    refine L_ald C 1 rfl rfl dL_law_363 ?_
    refine L_arg C (t := (1 : Int32)) rfl rfl (by decide) hi1 dL_law_364 dL_law_365 dL_law_366 dL_law_367 dL_law_368 ?_
    refine L_arg C (t := (2 : Int32)) rfl rfl (by decide) hi2 dL_law_369 dL_law_370 dL_law_371 dL_law_372 dL_law_373 ?_
    refine L_ifeq C (tgt := 381) dL_law_374 (by decide) (fun h => absurd h hz) (fun _ => ?_)
    refine L_ic C (v := (1 : Int32)) (by decide) dL_law_377 ?_
    refine L_goto C (tgt := 382) dL_law_378 (by decide) ?_
    refine L_X C [.int (xs (v3 + 1).toNatClampNeg), .int ((1 : Int32))] (tX4_setSilent (xs (v3 + 1).toNatClampNeg) ((1 : Int32)) x r x1 e1) (cwV 2 C.1.2.2.2.2 gL_law_X4_setSilent rfl rfl rfl (by decide +kernel) ⟨Nat.le_of_ble_eq_true rfl, Nat.le_of_ble_eq_true rfl⟩) rfl rfl (Nat.le_of_ble_eq_true rfl) dL_law_382 ?_
    refine L_ald C 2 rfl rfl dL_law_385 ?_
    refine L_arg C (t := (1 : Int32)) rfl rfl (by decide) hi1 dL_law_386 dL_law_387 dL_law_388 dL_law_389 dL_law_390 ?_
    refine L_arg C (t := (2 : Int32)) rfl rfl (by decide) hi2 dL_law_391 dL_law_392 dL_law_393 dL_law_394 dL_law_395 ?_
    refine L_ifeq C (tgt := 403) dL_law_396 (by decide) (fun h => absurd h hz) (fun _ => ?_)
    refine L_ic C (v := (1 : Int32)) (by decide) dL_law_399 ?_
    refine L_goto C (tgt := 404) dL_law_400 (by decide) ?_
    refine L_M C [.int (xs (v3 + 1).toNatClampNeg), .int ((1 : Int32))] (tX5_setSilent (xs (v3 + 1).toNatClampNeg) ((1 : Int32)) y r y1 e2) (cwV 2 C.1.2.2.2.2 gL_law_X5_setSilent rfl rfl rfl (by decide +kernel) ⟨Nat.le_of_ble_eq_true rfl, Nat.le_of_ble_eq_true rfl⟩) rfl rfl (Nat.le_of_ble_eq_true rfl) dL_law_404 ?_
    refine L_eq C (tgt := 821) dL_law_407 (by decide) ?_
    exact hk x1 y1 ⟨pe, nb, nh, hPE, hF, h1⟩
set_option maxHeartbeats 4000000 in
set_option maxRecDepth 100000 in
theorem case_8 (C : CL p s m c D cyI cyZ b L xs) {v3 : Int32} (hi1 : vp_in (v3 + 1) L) (hi2 : vp_in (v3 + 2) L) (hSim : Sim x y) (hk : ∀ x1 y1, Sim x1 y1 → JL p l e s m below meth c D cyI cyZ aX aM b x1 y1 821 [(0, .ref b), (1, .ref (aX 0)), (2, .ref (aM 0)), (3, .int v3)] []) : JL p l e s m below meth c D cyI cyZ aX aM b x y 412 [(0, .ref b), (1, .ref (aX 0)), (2, .ref (aM 0)), (3, .int v3)] [] := by
  obtain ⟨pe, nb, nh, hPE, hF, h⟩ := hSim
  obtain ⟨r, x1, y1, e1, e2, h1⟩ := sim_loseNext hPE h (xs (v3 + 1).toNatClampNeg) (xs (v3 + 2).toNatClampNeg)
  refine L_ald C 1 rfl rfl dL_law_412 ?_
  refine L_arg C (t := (1 : Int32)) rfl rfl (by decide) hi1 dL_law_413 dL_law_414 dL_law_415 dL_law_416 dL_law_417 ?_
  refine L_arg C (t := (2 : Int32)) rfl rfl (by decide) hi2 dL_law_418 dL_law_419 dL_law_420 dL_law_421 dL_law_422 ?_
  refine L_X C [.int (xs (v3 + 1).toNatClampNeg), .int (xs (v3 + 2).toNatClampNeg)] (tX4_loseNext (xs (v3 + 1).toNatClampNeg) (xs (v3 + 2).toNatClampNeg) x r x1 e1) (cwV 2 C.1.2.2.2.2 gL_law_X4_loseNext rfl rfl rfl (by decide +kernel) ⟨Nat.le_of_ble_eq_true rfl, Nat.le_of_ble_eq_true rfl⟩) rfl rfl (Nat.le_of_ble_eq_true rfl) dL_law_423 ?_
  refine L_ald C 2 rfl rfl dL_law_426 ?_
  refine L_arg C (t := (1 : Int32)) rfl rfl (by decide) hi1 dL_law_427 dL_law_428 dL_law_429 dL_law_430 dL_law_431 ?_
  refine L_arg C (t := (2 : Int32)) rfl rfl (by decide) hi2 dL_law_432 dL_law_433 dL_law_434 dL_law_435 dL_law_436 ?_
  refine L_M C [.int (xs (v3 + 1).toNatClampNeg), .int (xs (v3 + 2).toNatClampNeg)] (tX5_loseNext (xs (v3 + 1).toNatClampNeg) (xs (v3 + 2).toNatClampNeg) y r y1 e2) (cwV 2 C.1.2.2.2.2 gL_law_X5_loseNext rfl rfl rfl (by decide +kernel) ⟨Nat.le_of_ble_eq_true rfl, Nat.le_of_ble_eq_true rfl⟩) rfl rfl (Nat.le_of_ble_eq_true rfl) dL_law_437 ?_
  refine L_eq C (tgt := 821) dL_law_440 (by decide) ?_
  exact hk x1 y1 ⟨pe, nb, nh, hPE, hF, h1⟩
set_option maxHeartbeats 4000000 in
set_option maxRecDepth 100000 in
theorem case_9 (C : CL p s m c D cyI cyZ b L xs) {v3 : Int32} (hi1 : vp_in (v3 + 1) L) (hSim : Sim x y) (hk : ∀ x1 y1, Sim x1 y1 → JL p l e s m below meth c D cyI cyZ aX aM b x1 y1 821 [(0, .ref b), (1, .ref (aX 0)), (2, .ref (aM 0)), (3, .int v3)] []) : JL p l e s m below meth c D cyI cyZ aX aM b x y 445 [(0, .ref b), (1, .ref (aX 0)), (2, .ref (aM 0)), (3, .int v3)] [] := by
  obtain ⟨pe, nb, nh, hPE, hF, h⟩ := hSim
  obtain ⟨r, x1, y1, e1, e2, h1⟩ := sim_tick hPE h (xs (v3 + 1).toNatClampNeg)
  refine L_ald C 1 rfl rfl dL_law_445 ?_
  refine L_arg C (t := (1 : Int32)) rfl rfl (by decide) hi1 dL_law_446 dL_law_447 dL_law_448 dL_law_449 dL_law_450 ?_
  refine L_X C [.int (xs (v3 + 1).toNatClampNeg)] (tX4_tick (xs (v3 + 1).toNatClampNeg) x r x1 e1) (cwV 1 C.1.2.2.2.2 gL_law_X4_tick rfl rfl rfl (by decide +kernel) ⟨Nat.le_of_ble_eq_true rfl, Nat.le_of_ble_eq_true rfl⟩) rfl rfl (Nat.le_of_ble_eq_true rfl) dL_law_451 ?_
  refine L_ald C 2 rfl rfl dL_law_454 ?_
  refine L_arg C (t := (1 : Int32)) rfl rfl (by decide) hi1 dL_law_455 dL_law_456 dL_law_457 dL_law_458 dL_law_459 ?_
  refine L_M C [.int (xs (v3 + 1).toNatClampNeg)] (tX5_tick (xs (v3 + 1).toNatClampNeg) y r y1 e2) (cwV 1 C.1.2.2.2.2 gL_law_X5_tick rfl rfl rfl (by decide +kernel) ⟨Nat.le_of_ble_eq_true rfl, Nat.le_of_ble_eq_true rfl⟩) rfl rfl (Nat.le_of_ble_eq_true rfl) dL_law_460 ?_
  refine L_eq C (tgt := 821) dL_law_463 (by decide) ?_
  exact hk x1 y1 ⟨pe, nb, nh, hPE, hF, h1⟩
set_option maxHeartbeats 4000000 in
set_option maxRecDepth 100000 in
theorem case_10 (C : CL p s m c D cyI cyZ b L xs) {v3 : Int32}  (hSim : Sim x y) (hk : ∀ x1 y1, Sim x1 y1 → JL p l e s m below meth c D cyI cyZ aX aM b x1 y1 821 [(0, .ref b), (1, .ref (aX 0)), (2, .ref (aM 0)), (3, .int v3)] []) : JL p l e s m below meth c D cyI cyZ aX aM b x y 468 [(0, .ref b), (1, .ref (aX 0)), (2, .ref (aM 0)), (3, .int v3)] [] := by
  obtain ⟨pe, nb, nh, hPE, hF, h⟩ := hSim
  obtain ⟨r, e1, e2⟩ := sim_time h 
  refine L_ald C 1 rfl rfl dL_law_468 ?_
  refine L_X C [] (tX4_time  x r e1) (cwV 0 C.1.2.2.2.2 gL_law_X4_time rfl rfl rfl (by decide +kernel) ⟨Nat.le_of_ble_eq_true rfl, Nat.le_of_ble_eq_true rfl⟩) rfl rfl (Nat.le_of_ble_eq_true rfl) dL_law_469 ?_
  refine L_ald C 2 rfl rfl dL_law_472 ?_
  refine L_M C [] (tX5_time  y r e2) (cwV 0 C.1.2.2.2.2 gL_law_X5_time rfl rfl rfl (by decide +kernel) ⟨Nat.le_of_ble_eq_true rfl, Nat.le_of_ble_eq_true rfl⟩) rfl rfl (Nat.le_of_ble_eq_true rfl) dL_law_473 ?_
  refine L_eq C (tgt := 821) dL_law_476 (by decide) ?_
  exact hk x y ⟨pe, nb, nh, hPE, hF, h⟩
set_option maxHeartbeats 4000000 in
set_option maxRecDepth 100000 in
theorem case_11 (C : CL p s m c D cyI cyZ b L xs) {v3 : Int32} (hi1 : vp_in (v3 + 1) L) (hi2 : vp_in (v3 + 2) L) (hi3 : vp_in (v3 + 3) L) (hSim : Sim x y) (hk : ∀ x1 y1, Sim x1 y1 → JL p l e s m below meth c D cyI cyZ aX aM b x1 y1 821 [(0, .ref b), (1, .ref (aX 0)), (2, .ref (aM 0)), (3, .int v3)] []) : JL p l e s m below meth c D cyI cyZ aX aM b x y 481 [(0, .ref b), (1, .ref (aX 0)), (2, .ref (aM 0)), (3, .int v3)] [] := by
  obtain ⟨pe, nb, nh, hPE, hF, h⟩ := hSim
  obtain ⟨r, e1, e2⟩ := sim_registrar hPE h (xs (v3 + 1).toNatClampNeg) (xs (v3 + 2).toNatClampNeg) (xs (v3 + 3).toNatClampNeg)
  refine L_ald C 1 rfl rfl dL_law_481 ?_
  refine L_arg C (t := (1 : Int32)) rfl rfl (by decide) hi1 dL_law_482 dL_law_483 dL_law_484 dL_law_485 dL_law_486 ?_
  refine L_arg C (t := (2 : Int32)) rfl rfl (by decide) hi2 dL_law_487 dL_law_488 dL_law_489 dL_law_490 dL_law_491 ?_
  refine L_arg C (t := (3 : Int32)) rfl rfl (by decide) hi3 dL_law_492 dL_law_493 dL_law_494 dL_law_495 dL_law_496 ?_
  refine L_X C [.int (xs (v3 + 1).toNatClampNeg), .int (xs (v3 + 2).toNatClampNeg), .int (xs (v3 + 3).toNatClampNeg)] (tX4_registrar (xs (v3 + 1).toNatClampNeg) (xs (v3 + 2).toNatClampNeg) (xs (v3 + 3).toNatClampNeg) x r e1) (cwV 3 C.1.2.2.2.2 gL_law_X4_registrar rfl rfl rfl (by decide +kernel) ⟨Nat.le_of_ble_eq_true rfl, Nat.le_of_ble_eq_true rfl⟩) rfl rfl (Nat.le_of_ble_eq_true rfl) dL_law_497 ?_
  refine L_ald C 2 rfl rfl dL_law_500 ?_
  refine L_arg C (t := (1 : Int32)) rfl rfl (by decide) hi1 dL_law_501 dL_law_502 dL_law_503 dL_law_504 dL_law_505 ?_
  refine L_arg C (t := (2 : Int32)) rfl rfl (by decide) hi2 dL_law_506 dL_law_507 dL_law_508 dL_law_509 dL_law_510 ?_
  refine L_arg C (t := (3 : Int32)) rfl rfl (by decide) hi3 dL_law_511 dL_law_512 dL_law_513 dL_law_514 dL_law_515 ?_
  refine L_M C [.int (xs (v3 + 1).toNatClampNeg), .int (xs (v3 + 2).toNatClampNeg), .int (xs (v3 + 3).toNatClampNeg)] (tX5_registrar (xs (v3 + 1).toNatClampNeg) (xs (v3 + 2).toNatClampNeg) (xs (v3 + 3).toNatClampNeg) y r e2) (cwV 3 C.1.2.2.2.2 gL_law_X5_registrar rfl rfl rfl (by decide +kernel) ⟨Nat.le_of_ble_eq_true rfl, Nat.le_of_ble_eq_true rfl⟩) rfl rfl (Nat.le_of_ble_eq_true rfl) dL_law_516 ?_
  refine L_eq C (tgt := 821) dL_law_519 (by decide) ?_
  exact hk x y ⟨pe, nb, nh, hPE, hF, h⟩
set_option maxHeartbeats 4000000 in
set_option maxRecDepth 100000 in
theorem case_12 (C : CL p s m c D cyI cyZ b L xs) {v3 : Int32} (hi1 : vp_in (v3 + 1) L) (hi2 : vp_in (v3 + 2) L) (hi3 : vp_in (v3 + 3) L) (hSim : Sim x y) (hk : ∀ x1 y1, Sim x1 y1 → JL p l e s m below meth c D cyI cyZ aX aM b x1 y1 821 [(0, .ref b), (1, .ref (aX 0)), (2, .ref (aM 0)), (3, .int v3)] []) : JL p l e s m below meth c D cyI cyZ aX aM b x y 524 [(0, .ref b), (1, .ref (aX 0)), (2, .ref (aM 0)), (3, .int v3)] [] := by
  obtain ⟨pe, nb, nh, hPE, hF, h⟩ := hSim
  obtain ⟨r, e1, e2⟩ := sim_registrarTimer hPE h (xs (v3 + 1).toNatClampNeg) (xs (v3 + 2).toNatClampNeg) (xs (v3 + 3).toNatClampNeg)
  refine L_ald C 1 rfl rfl dL_law_524 ?_
  refine L_arg C (t := (1 : Int32)) rfl rfl (by decide) hi1 dL_law_525 dL_law_526 dL_law_527 dL_law_528 dL_law_529 ?_
  refine L_arg C (t := (2 : Int32)) rfl rfl (by decide) hi2 dL_law_530 dL_law_531 dL_law_532 dL_law_533 dL_law_534 ?_
  refine L_arg C (t := (3 : Int32)) rfl rfl (by decide) hi3 dL_law_535 dL_law_536 dL_law_537 dL_law_538 dL_law_539 ?_
  refine L_X C [.int (xs (v3 + 1).toNatClampNeg), .int (xs (v3 + 2).toNatClampNeg), .int (xs (v3 + 3).toNatClampNeg)] (tX4_registrarTimer (xs (v3 + 1).toNatClampNeg) (xs (v3 + 2).toNatClampNeg) (xs (v3 + 3).toNatClampNeg) x r e1) (cwV 3 C.1.2.2.2.2 gL_law_X4_registrarTimer rfl rfl rfl (by decide +kernel) ⟨Nat.le_of_ble_eq_true rfl, Nat.le_of_ble_eq_true rfl⟩) rfl rfl (Nat.le_of_ble_eq_true rfl) dL_law_540 ?_
  refine L_ald C 2 rfl rfl dL_law_543 ?_
  refine L_arg C (t := (1 : Int32)) rfl rfl (by decide) hi1 dL_law_544 dL_law_545 dL_law_546 dL_law_547 dL_law_548 ?_
  refine L_arg C (t := (2 : Int32)) rfl rfl (by decide) hi2 dL_law_549 dL_law_550 dL_law_551 dL_law_552 dL_law_553 ?_
  refine L_arg C (t := (3 : Int32)) rfl rfl (by decide) hi3 dL_law_554 dL_law_555 dL_law_556 dL_law_557 dL_law_558 ?_
  refine L_M C [.int (xs (v3 + 1).toNatClampNeg), .int (xs (v3 + 2).toNatClampNeg), .int (xs (v3 + 3).toNatClampNeg)] (tX5_registrarTimer (xs (v3 + 1).toNatClampNeg) (xs (v3 + 2).toNatClampNeg) (xs (v3 + 3).toNatClampNeg) y r e2) (cwV 3 C.1.2.2.2.2 gL_law_X5_registrarTimer rfl rfl rfl (by decide +kernel) ⟨Nat.le_of_ble_eq_true rfl, Nat.le_of_ble_eq_true rfl⟩) rfl rfl (Nat.le_of_ble_eq_true rfl) dL_law_559 ?_
  refine L_eq C (tgt := 821) dL_law_562 (by decide) ?_
  exact hk x y ⟨pe, nb, nh, hPE, hF, h⟩
set_option maxHeartbeats 4000000 in
set_option maxRecDepth 100000 in
theorem case_13 (C : CL p s m c D cyI cyZ b L xs) {v3 : Int32} (hi1 : vp_in (v3 + 1) L) (hi2 : vp_in (v3 + 2) L) (hi3 : vp_in (v3 + 3) L) (hSim : Sim x y) (hk : ∀ x1 y1, Sim x1 y1 → JL p l e s m below meth c D cyI cyZ aX aM b x1 y1 821 [(0, .ref b), (1, .ref (aX 0)), (2, .ref (aM 0)), (3, .int v3)] []) : JL p l e s m below meth c D cyI cyZ aX aM b x y 567 [(0, .ref b), (1, .ref (aX 0)), (2, .ref (aM 0)), (3, .int v3)] [] := by
  obtain ⟨pe, nb, nh, hPE, hF, h⟩ := hSim
  obtain ⟨r, e1, e2⟩ := sim_applicant hPE h (xs (v3 + 1).toNatClampNeg) (xs (v3 + 2).toNatClampNeg) (xs (v3 + 3).toNatClampNeg)
  refine L_ald C 1 rfl rfl dL_law_567 ?_
  refine L_arg C (t := (1 : Int32)) rfl rfl (by decide) hi1 dL_law_568 dL_law_569 dL_law_570 dL_law_571 dL_law_572 ?_
  refine L_arg C (t := (2 : Int32)) rfl rfl (by decide) hi2 dL_law_573 dL_law_574 dL_law_575 dL_law_576 dL_law_577 ?_
  refine L_arg C (t := (3 : Int32)) rfl rfl (by decide) hi3 dL_law_578 dL_law_579 dL_law_580 dL_law_581 dL_law_582 ?_
  refine L_X C [.int (xs (v3 + 1).toNatClampNeg), .int (xs (v3 + 2).toNatClampNeg), .int (xs (v3 + 3).toNatClampNeg)] (tX4_applicant (xs (v3 + 1).toNatClampNeg) (xs (v3 + 2).toNatClampNeg) (xs (v3 + 3).toNatClampNeg) x r e1) (cwV 3 C.1.2.2.2.2 gL_law_X4_applicant rfl rfl rfl (by decide +kernel) ⟨Nat.le_of_ble_eq_true rfl, Nat.le_of_ble_eq_true rfl⟩) rfl rfl (Nat.le_of_ble_eq_true rfl) dL_law_583 ?_
  refine L_ald C 2 rfl rfl dL_law_586 ?_
  refine L_arg C (t := (1 : Int32)) rfl rfl (by decide) hi1 dL_law_587 dL_law_588 dL_law_589 dL_law_590 dL_law_591 ?_
  refine L_arg C (t := (2 : Int32)) rfl rfl (by decide) hi2 dL_law_592 dL_law_593 dL_law_594 dL_law_595 dL_law_596 ?_
  refine L_arg C (t := (3 : Int32)) rfl rfl (by decide) hi3 dL_law_597 dL_law_598 dL_law_599 dL_law_600 dL_law_601 ?_
  refine L_M C [.int (xs (v3 + 1).toNatClampNeg), .int (xs (v3 + 2).toNatClampNeg), .int (xs (v3 + 3).toNatClampNeg)] (tX5_applicant (xs (v3 + 1).toNatClampNeg) (xs (v3 + 2).toNatClampNeg) (xs (v3 + 3).toNatClampNeg) y r e2) (cwV 3 C.1.2.2.2.2 gL_law_X5_applicant rfl rfl rfl (by decide +kernel) ⟨Nat.le_of_ble_eq_true rfl, Nat.le_of_ble_eq_true rfl⟩) rfl rfl (Nat.le_of_ble_eq_true rfl) dL_law_602 ?_
  refine L_eq C (tgt := 821) dL_law_605 (by decide) ?_
  exact hk x y ⟨pe, nb, nh, hPE, hF, h⟩
set_option maxHeartbeats 4000000 in
set_option maxRecDepth 100000 in
theorem case_14 (C : CL p s m c D cyI cyZ b L xs) {v3 : Int32} (hi1 : vp_in (v3 + 1) L) (hi2 : vp_in (v3 + 2) L) (hSim : Sim x y) (hk : ∀ x1 y1, Sim x1 y1 → JL p l e s m below meth c D cyI cyZ aX aM b x1 y1 821 [(0, .ref b), (1, .ref (aX 0)), (2, .ref (aM 0)), (3, .int v3)] []) : JL p l e s m below meth c D cyI cyZ aX aM b x y 610 [(0, .ref b), (1, .ref (aX 0)), (2, .ref (aM 0)), (3, .int v3)] [] := by
  obtain ⟨pe, nb, nh, hPE, hF, h⟩ := hSim
  obtain ⟨r, e1, e2⟩ := sim_hostApplicant hPE h (xs (v3 + 1).toNatClampNeg) (xs (v3 + 2).toNatClampNeg)
  refine L_ald C 1 rfl rfl dL_law_610 ?_
  refine L_arg C (t := (1 : Int32)) rfl rfl (by decide) hi1 dL_law_611 dL_law_612 dL_law_613 dL_law_614 dL_law_615 ?_
  refine L_arg C (t := (2 : Int32)) rfl rfl (by decide) hi2 dL_law_616 dL_law_617 dL_law_618 dL_law_619 dL_law_620 ?_
  refine L_X C [.int (xs (v3 + 1).toNatClampNeg), .int (xs (v3 + 2).toNatClampNeg)] (tX4_hostApplicant (xs (v3 + 1).toNatClampNeg) (xs (v3 + 2).toNatClampNeg) x r e1) (cwV 2 C.1.2.2.2.2 gL_law_X4_hostApplicant rfl rfl rfl (by decide +kernel) ⟨Nat.le_of_ble_eq_true rfl, Nat.le_of_ble_eq_true rfl⟩) rfl rfl (Nat.le_of_ble_eq_true rfl) dL_law_621 ?_
  refine L_ald C 2 rfl rfl dL_law_624 ?_
  refine L_arg C (t := (1 : Int32)) rfl rfl (by decide) hi1 dL_law_625 dL_law_626 dL_law_627 dL_law_628 dL_law_629 ?_
  refine L_arg C (t := (2 : Int32)) rfl rfl (by decide) hi2 dL_law_630 dL_law_631 dL_law_632 dL_law_633 dL_law_634 ?_
  refine L_M C [.int (xs (v3 + 1).toNatClampNeg), .int (xs (v3 + 2).toNatClampNeg)] (tX5_hostApplicant (xs (v3 + 1).toNatClampNeg) (xs (v3 + 2).toNatClampNeg) y r e2) (cwV 2 C.1.2.2.2.2 gL_law_X5_hostApplicant rfl rfl rfl (by decide +kernel) ⟨Nat.le_of_ble_eq_true rfl, Nat.le_of_ble_eq_true rfl⟩) rfl rfl (Nat.le_of_ble_eq_true rfl) dL_law_635 ?_
  refine L_eq C (tgt := 821) dL_law_638 (by decide) ?_
  exact hk x y ⟨pe, nb, nh, hPE, hF, h⟩
set_option maxHeartbeats 4000000 in
set_option maxRecDepth 100000 in
theorem case_15 (C : CL p s m c D cyI cyZ b L xs) {v3 : Int32} (hi1 : vp_in (v3 + 1) L) (hi2 : vp_in (v3 + 2) L) (hSim : Sim x y) (hk : ∀ x1 y1, Sim x1 y1 → JL p l e s m below meth c D cyI cyZ aX aM b x1 y1 821 [(0, .ref b), (1, .ref (aX 0)), (2, .ref (aM 0)), (3, .int v3)] []) : JL p l e s m below meth c D cyI cyZ aX aM b x y 643 [(0, .ref b), (1, .ref (aX 0)), (2, .ref (aM 0)), (3, .int v3)] [] := by
  obtain ⟨pe, nb, nh, hPE, hF, h⟩ := hSim
  obtain ⟨r, e1, e2⟩ := sim_leaveAllTimer hPE h (xs (v3 + 1).toNatClampNeg) (xs (v3 + 2).toNatClampNeg)
  refine L_ald C 1 rfl rfl dL_law_643 ?_
  refine L_arg C (t := (1 : Int32)) rfl rfl (by decide) hi1 dL_law_644 dL_law_645 dL_law_646 dL_law_647 dL_law_648 ?_
  refine L_arg C (t := (2 : Int32)) rfl rfl (by decide) hi2 dL_law_649 dL_law_650 dL_law_651 dL_law_652 dL_law_653 ?_
  refine L_X C [.int (xs (v3 + 1).toNatClampNeg), .int (xs (v3 + 2).toNatClampNeg)] (tX4_leaveAllTimer (xs (v3 + 1).toNatClampNeg) (xs (v3 + 2).toNatClampNeg) x r e1) (cwV 2 C.1.2.2.2.2 gL_law_X4_leaveAllTimer rfl rfl rfl (by decide +kernel) ⟨Nat.le_of_ble_eq_true rfl, Nat.le_of_ble_eq_true rfl⟩) rfl rfl (Nat.le_of_ble_eq_true rfl) dL_law_654 ?_
  refine L_ald C 2 rfl rfl dL_law_657 ?_
  refine L_arg C (t := (1 : Int32)) rfl rfl (by decide) hi1 dL_law_658 dL_law_659 dL_law_660 dL_law_661 dL_law_662 ?_
  refine L_arg C (t := (2 : Int32)) rfl rfl (by decide) hi2 dL_law_663 dL_law_664 dL_law_665 dL_law_666 dL_law_667 ?_
  refine L_M C [.int (xs (v3 + 1).toNatClampNeg), .int (xs (v3 + 2).toNatClampNeg)] (tX5_leaveAllTimer (xs (v3 + 1).toNatClampNeg) (xs (v3 + 2).toNatClampNeg) y r e2) (cwV 2 C.1.2.2.2.2 gL_law_X5_leaveAllTimer rfl rfl rfl (by decide +kernel) ⟨Nat.le_of_ble_eq_true rfl, Nat.le_of_ble_eq_true rfl⟩) rfl rfl (Nat.le_of_ble_eq_true rfl) dL_law_668 ?_
  refine L_eq C (tgt := 821) dL_law_671 (by decide) ?_
  exact hk x y ⟨pe, nb, nh, hPE, hF, h⟩
set_option maxHeartbeats 4000000 in
set_option maxRecDepth 100000 in
theorem case_16 (C : CL p s m c D cyI cyZ b L xs) {v3 : Int32}  (hSim : Sim x y) (hk : ∀ x1 y1, Sim x1 y1 → JL p l e s m below meth c D cyI cyZ aX aM b x1 y1 821 [(0, .ref b), (1, .ref (aX 0)), (2, .ref (aM 0)), (3, .int v3)] []) : JL p l e s m below meth c D cyI cyZ aX aM b x y 676 [(0, .ref b), (1, .ref (aX 0)), (2, .ref (aM 0)), (3, .int v3)] [] := by
  obtain ⟨pe, nb, nh, hPE, hF, h⟩ := hSim
  obtain ⟨r, e1, e2⟩ := sim_isSettled hPE h 
  refine L_ald C 1 rfl rfl dL_law_676 ?_
  refine L_X C [] (tX4_isSettled  x r e1) (cwV 0 C.1.2.2.2.2 gL_law_X4_isSettled rfl rfl rfl (by decide +kernel) ⟨Nat.le_of_ble_eq_true rfl, Nat.le_of_ble_eq_true rfl⟩) rfl rfl (Nat.le_of_ble_eq_true rfl) dL_law_677 ?_
  refine L_ald C 2 rfl rfl dL_law_680 ?_
  refine L_M C [] (tX5_isSettled  y r e2) (cwV 0 C.1.2.2.2.2 gL_law_X5_isSettled rfl rfl rfl (by decide +kernel) ⟨Nat.le_of_ble_eq_true rfl, Nat.le_of_ble_eq_true rfl⟩) rfl rfl (Nat.le_of_ble_eq_true rfl) dL_law_681 ?_
  refine L_eq C (tgt := 821) dL_law_684 (by decide) ?_
  exact hk x y ⟨pe, nb, nh, hPE, hF, h⟩
set_option maxHeartbeats 4000000 in
set_option maxRecDepth 100000 in
theorem case_17 (C : CL p s m c D cyI cyZ b L xs) {v3 : Int32} (hi1 : vp_in (v3 + 1) L) (hi2 : vp_in (v3 + 2) L) (hSim : Sim x y) (hk : ∀ x1 y1, Sim x1 y1 → JL p l e s m below meth c D cyI cyZ aX aM b x1 y1 821 [(0, .ref b), (1, .ref (aX 0)), (2, .ref (aM 0)), (3, .int v3)] []) : JL p l e s m below meth c D cyI cyZ aX aM b x y 689 [(0, .ref b), (1, .ref (aX 0)), (2, .ref (aM 0)), (3, .int v3)] [] := by
  obtain ⟨pe, nb, nh, hPE, hF, h⟩ := hSim
  obtain ⟨r, y1, e1, e2, h1⟩ := sim_receivers hPE hF h (xs (v3 + 1).toNatClampNeg) (xs (v3 + 2).toNatClampNeg)
  refine L_ald C 1 rfl rfl dL_law_689 ?_
  refine L_arg C (t := (1 : Int32)) rfl rfl (by decide) hi1 dL_law_690 dL_law_691 dL_law_692 dL_law_693 dL_law_694 ?_
  refine L_arg C (t := (2 : Int32)) rfl rfl (by decide) hi2 dL_law_695 dL_law_696 dL_law_697 dL_law_698 dL_law_699 ?_
  refine L_X C [.int (xs (v3 + 1).toNatClampNeg), .int (xs (v3 + 2).toNatClampNeg)] (tX4_receivers (xs (v3 + 1).toNatClampNeg) (xs (v3 + 2).toNatClampNeg) x r e1) (cwV 2 C.1.2.2.2.2 gL_law_X4_receivers rfl rfl rfl (by decide +kernel) ⟨Nat.le_of_ble_eq_true rfl, Nat.le_of_ble_eq_true rfl⟩) rfl rfl (Nat.le_of_ble_eq_true rfl) dL_law_700 ?_
  refine L_ald C 2 rfl rfl dL_law_703 ?_
  refine L_arg C (t := (1 : Int32)) rfl rfl (by decide) hi1 dL_law_704 dL_law_705 dL_law_706 dL_law_707 dL_law_708 ?_
  refine L_arg C (t := (2 : Int32)) rfl rfl (by decide) hi2 dL_law_709 dL_law_710 dL_law_711 dL_law_712 dL_law_713 ?_
  refine L_M C [.int (xs (v3 + 1).toNatClampNeg), .int (xs (v3 + 2).toNatClampNeg)] (tX5_receivers (xs (v3 + 1).toNatClampNeg) (xs (v3 + 2).toNatClampNeg) y r y1 e2) (cwV 2 C.1.2.2.2.2 gL_law_X5_receivers rfl rfl rfl (by decide +kernel) ⟨Nat.le_of_ble_eq_true rfl, Nat.le_of_ble_eq_true rfl⟩) rfl rfl (Nat.le_of_ble_eq_true rfl) dL_law_714 ?_
  refine L_eq C (tgt := 821) dL_law_717 (by decide) ?_
  exact hk x y1 ⟨pe, nb, nh, hPE, hF, h1⟩
set_option maxHeartbeats 4000000 in
set_option maxRecDepth 100000 in
theorem case_18 (C : CL p s m c D cyI cyZ b L xs) {v3 : Int32} (hi1 : vp_in (v3 + 1) L) (hi2 : vp_in (v3 + 2) L) (hSim : Sim x y) (hk : ∀ x1 y1, Sim x1 y1 → JL p l e s m below meth c D cyI cyZ aX aM b x1 y1 821 [(0, .ref b), (1, .ref (aX 0)), (2, .ref (aM 0)), (3, .int v3)] []) : JL p l e s m below meth c D cyI cyZ aX aM b x y 722 [(0, .ref b), (1, .ref (aX 0)), (2, .ref (aM 0)), (3, .int v3)] [] := by
  obtain ⟨pe, nb, nh, hPE, hF, h⟩ := hSim
  obtain ⟨r, y1, e1, e2, h1⟩ := sim_missed hPE hF h (xs (v3 + 1).toNatClampNeg) (xs (v3 + 2).toNatClampNeg)
  refine L_ald C 1 rfl rfl dL_law_722 ?_
  refine L_arg C (t := (1 : Int32)) rfl rfl (by decide) hi1 dL_law_723 dL_law_724 dL_law_725 dL_law_726 dL_law_727 ?_
  refine L_arg C (t := (2 : Int32)) rfl rfl (by decide) hi2 dL_law_728 dL_law_729 dL_law_730 dL_law_731 dL_law_732 ?_
  refine L_X C [.int (xs (v3 + 1).toNatClampNeg), .int (xs (v3 + 2).toNatClampNeg)] (tX4_missedCount (xs (v3 + 1).toNatClampNeg) (xs (v3 + 2).toNatClampNeg) x r e1) (cwV 2 C.1.2.2.2.2 gL_law_X4_missedCount rfl rfl rfl (by decide +kernel) ⟨Nat.le_of_ble_eq_true rfl, Nat.le_of_ble_eq_true rfl⟩) rfl rfl (Nat.le_of_ble_eq_true rfl) dL_law_733 ?_
  refine L_ald C 2 rfl rfl dL_law_736 ?_
  refine L_arg C (t := (1 : Int32)) rfl rfl (by decide) hi1 dL_law_737 dL_law_738 dL_law_739 dL_law_740 dL_law_741 ?_
  refine L_arg C (t := (2 : Int32)) rfl rfl (by decide) hi2 dL_law_742 dL_law_743 dL_law_744 dL_law_745 dL_law_746 ?_
  refine L_M C [.int (xs (v3 + 1).toNatClampNeg), .int (xs (v3 + 2).toNatClampNeg)] (tX5_missedCount (xs (v3 + 1).toNatClampNeg) (xs (v3 + 2).toNatClampNeg) y r y1 e2) (cwV 2 C.1.2.2.2.2 gL_law_X5_missedCount rfl rfl rfl (by decide +kernel) ⟨Nat.le_of_ble_eq_true rfl, Nat.le_of_ble_eq_true rfl⟩) rfl rfl (Nat.le_of_ble_eq_true rfl) dL_law_747 ?_
  refine L_eq C (tgt := 821) dL_law_750 (by decide) ?_
  exact hk x y1 ⟨pe, nb, nh, hPE, hF, h1⟩
set_option maxHeartbeats 4000000 in
set_option maxRecDepth 100000 in
theorem case_19 (C : CL p s m c D cyI cyZ b L xs) {v3 : Int32} (hi1 : vp_in (v3 + 1) L) (hi2 : vp_in (v3 + 2) L) (hSim : Sim x y) (hk : ∀ x1 y1, Sim x1 y1 → JL p l e s m below meth c D cyI cyZ aX aM b x1 y1 821 [(0, .ref b), (1, .ref (aX 0)), (2, .ref (aM 0)), (3, .int v3)] []) : JL p l e s m below meth c D cyI cyZ aX aM b x y 755 [(0, .ref b), (1, .ref (aX 0)), (2, .ref (aM 0)), (3, .int v3)] [] := by
  obtain ⟨pe, nb, nh, hPE, hF, h⟩ := hSim
  obtain ⟨r, y1, e1, e2, h1⟩ := sim_needless hPE hF h (xs (v3 + 1).toNatClampNeg) (xs (v3 + 2).toNatClampNeg)
  refine L_ald C 1 rfl rfl dL_law_755 ?_
  refine L_arg C (t := (1 : Int32)) rfl rfl (by decide) hi1 dL_law_756 dL_law_757 dL_law_758 dL_law_759 dL_law_760 ?_
  refine L_arg C (t := (2 : Int32)) rfl rfl (by decide) hi2 dL_law_761 dL_law_762 dL_law_763 dL_law_764 dL_law_765 ?_
  refine L_X C [.int (xs (v3 + 1).toNatClampNeg), .int (xs (v3 + 2).toNatClampNeg)] (tX4_needlessCount (xs (v3 + 1).toNatClampNeg) (xs (v3 + 2).toNatClampNeg) x r e1) (cwV 2 C.1.2.2.2.2 gL_law_X4_needlessCount rfl rfl rfl (by decide +kernel) ⟨Nat.le_of_ble_eq_true rfl, Nat.le_of_ble_eq_true rfl⟩) rfl rfl (Nat.le_of_ble_eq_true rfl) dL_law_766 ?_
  refine L_ald C 2 rfl rfl dL_law_769 ?_
  refine L_arg C (t := (1 : Int32)) rfl rfl (by decide) hi1 dL_law_770 dL_law_771 dL_law_772 dL_law_773 dL_law_774 ?_
  refine L_arg C (t := (2 : Int32)) rfl rfl (by decide) hi2 dL_law_775 dL_law_776 dL_law_777 dL_law_778 dL_law_779 ?_
  refine L_M C [.int (xs (v3 + 1).toNatClampNeg), .int (xs (v3 + 2).toNatClampNeg)] (tX5_needlessCount (xs (v3 + 1).toNatClampNeg) (xs (v3 + 2).toNatClampNeg) y r y1 e2) (cwV 2 C.1.2.2.2.2 gL_law_X5_needlessCount rfl rfl rfl (by decide +kernel) ⟨Nat.le_of_ble_eq_true rfl, Nat.le_of_ble_eq_true rfl⟩) rfl rfl (Nat.le_of_ble_eq_true rfl) dL_law_780 ?_
  refine L_eq C (tgt := 821) dL_law_783 (by decide) ?_
  exact hk x y1 ⟨pe, nb, nh, hPE, hF, h1⟩
set_option maxHeartbeats 4000000 in
set_option maxRecDepth 100000 in
theorem case_20 (C : CL p s m c D cyI cyZ b L xs) {v3 : Int32} (hi1 : vp_in (v3 + 1) L) (hi2 : vp_in (v3 + 2) L) (hSim : Sim x y) (hk : ∀ x1 y1, Sim x1 y1 → JL p l e s m below meth c D cyI cyZ aX aM b x1 y1 821 [(0, .ref b), (1, .ref (aX 0)), (2, .ref (aM 0)), (3, .int v3)] []) : JL p l e s m below meth c D cyI cyZ aX aM b x y 788 [(0, .ref b), (1, .ref (aX 0)), (2, .ref (aM 0)), (3, .int v3)] [] := by
  obtain ⟨pe, nb, nh, hPE, hF, h⟩ := hSim
  obtain ⟨U, g, G⟩ := id hF
  obtain ⟨r, y1, e1, e2, h1⟩ := sim_distance hPE G h (xs (v3 + 1).toNatClampNeg) (xs (v3 + 2).toNatClampNeg)
  refine L_ald C 1 rfl rfl dL_law_788 ?_
  refine L_arg C (t := (1 : Int32)) rfl rfl (by decide) hi1 dL_law_789 dL_law_790 dL_law_791 dL_law_792 dL_law_793 ?_
  refine L_arg C (t := (2 : Int32)) rfl rfl (by decide) hi2 dL_law_794 dL_law_795 dL_law_796 dL_law_797 dL_law_798 ?_
  refine L_X C [.int (xs (v3 + 1).toNatClampNeg), .int (xs (v3 + 2).toNatClampNeg)] (tX4_distance (xs (v3 + 1).toNatClampNeg) (xs (v3 + 2).toNatClampNeg) x r e1) (cwV 2 C.1.2.2.2.2 gL_law_X4_distance rfl rfl rfl (by decide +kernel) ⟨Nat.le_of_ble_eq_true rfl, Nat.le_of_ble_eq_true rfl⟩) rfl rfl (Nat.le_of_ble_eq_true rfl) dL_law_799 ?_
  refine L_ald C 2 rfl rfl dL_law_802 ?_
  refine L_arg C (t := (1 : Int32)) rfl rfl (by decide) hi1 dL_law_803 dL_law_804 dL_law_805 dL_law_806 dL_law_807 ?_
  refine L_arg C (t := (2 : Int32)) rfl rfl (by decide) hi2 dL_law_808 dL_law_809 dL_law_810 dL_law_811 dL_law_812 ?_
  refine L_M C [.int (xs (v3 + 1).toNatClampNeg), .int (xs (v3 + 2).toNatClampNeg)] (tX5_distance (xs (v3 + 1).toNatClampNeg) (xs (v3 + 2).toNatClampNeg) y r y1 e2) (cwV 2 C.1.2.2.2.2 gL_law_X5_distance rfl rfl rfl (by decide +kernel) ⟨Nat.le_of_ble_eq_true rfl, Nat.le_of_ble_eq_true rfl⟩) rfl rfl (Nat.le_of_ble_eq_true rfl) dL_law_813 ?_
  refine L_eq C (tgt := 821) dL_law_816 (by decide) ?_
  exact hk x y1 ⟨pe, nb, nh, hPE, hF, h1⟩
end
