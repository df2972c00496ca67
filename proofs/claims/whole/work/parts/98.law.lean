/-! THE LAW'S LOOP -/
def SCR (X : Ctx) (b L : Nat) (xs : Nat → Int32) : Prop := va_X b L xs X.s X.s.heap ∧ b < X.s.heap.size ∧ ¬ Aw X.ad X.s.heap.size b ∧ L ≤ 3072
abbrev lvL (X : Ctx) (b i : Nat) : List (Nat × Value) := [(0, .ref b), (1, .ref (X.ad 0)), (2, .ref (X.ad 132)), (3, .int (nI i))]
section
variable {X : Ctx} {b L i pc : Nat} {xs : Nat → Int32} {st : List Value} {σ : Sg}
theorem g_sld (K : Cok X cL_law 4 RL) (S : SCR X b L xs) {lv : List (Nat × Value)} {j : Nat} (hj : j < L) (hd : decode cL_law pc = .ok (.iaload, 1)) (k : G X 4 (pc + 1) lv (.int (xs j) :: st) σ) : G X 4 pc lv (.int (nI j) :: .ref b :: st) σ := fun H locs ls hw hl => by
  have h := S.2.2.2
  refine va_sld K.1 K.2.1 S.1 S.2.1 S.2.2.1 hw.2.2 (vp_in_nI hj (by omega)) hd ?_
  rw [c_tn (by omega)]
  exact k H locs ls hw hl
theorem g_slen (K : Cok X cL_law 4 RL) (S : SCR X b L xs) {lv : List (Nat × Value)} (hd : decode cL_law pc = .ok (.arraylength, 1)) (k : G X 4 (pc + 1) lv (.int (nI L) :: st) σ) : G X 4 pc lv (.ref b :: st) σ := fun H locs ls hw hl =>
  va_slen K.1 K.2.1 S.1 S.2.1 S.2.2.1 hw.2.2 hd (k H locs ls hw hl)
theorem g_arg (K : Cok X cL_law 4 RL) (S : SCR X b L xs) (c : Nat) {n : Int} (hn : Int32.ofInt n = nI c) (hic : i + c < L) (d0 : decode cL_law pc = .ok (.aload_n 0, 1)) (d1 : decode cL_law (pc + 1) = .ok (.iload_n 3, 1)) (d2 : decode cL_law (pc + 1 + 1) = .ok (.iconst n, 1)) (d3 : decode cL_law (pc + 1 + 1 + 1) = .ok (.iadd, 1)) (d4 : decode cL_law (pc + 1 + 1 + 1 + 1) = .ok (.iaload, 1)) (k : G X 4 (pc + 1 + 1 + 1 + 1 + 1) (lvL X b i) (.int (xs (i + c)) :: st) σ) : G X 4 pc (lvL X b i) st σ := by
  refine g_aload_n K 0 d0 rfl rfl ?_
  refine g_iload_n K 3 d1 rfl rfl ?_
  refine g_iconst K d2 hn ?_
  refine g_iadd K d3 ?_
  rw [c_add]
  exact g_sld K S hic d4 k
theorem lcmp_same (x : Int64) : lg_cmp x x = 0 := by
  unfold lg_cmp
  simp [Int64.lt_irrefl]
theorem s_told (hI : INV σ) (x1 x2 : Int32) : ∃ r, f_X6_told x1 x2 σ = some r ∧ f_X7_told x1 x2 σ = some r := by
  obtain ⟨B, k0, k1, I0, I1, hB, hr, hM, hc, ht, hk, h0, h1⟩ := hI
  exact q_told hB hr hM x1 x2
set_option maxRecDepth 20000 in
set_option maxHeartbeats 4000000 in
theorem lc_sellShares (K : Cok X cL_law 4 RL) (hR : 9 ≤ X.R.frames ∧ 342 ≤ X.R.locals) (S : SCR X b L xs) (hi : i + 6 ≤ L) (hI : INV σ) (kk : ∀ σ', INV σ' → G X 4 914 (lvL X b i) [] σ') : G X 4 136 (lvL X b i) [] σ := by
  obtain ⟨r, s1, s2, h1, h2, h3⟩ := s_sellShares hI (xs (i + 1)) (xs (i + 2)) (xs (i + 3)) (xs (i + 4)) (xs (i + 5))
  have kk := kk s2 h3
  refine g_aload_n K 1 dL_law_136 rfl rfl ?_
  refine g_arg K S 1 (by decide) (by omega) dL_law_137 dL_law_138 dL_law_139 dL_law_140 dL_law_141 ?_
  refine g_arg K S 2 (by decide) (by omega) dL_law_142 dL_law_143 dL_law_144 dL_law_145 dL_law_146 ?_
  refine g_arg K S 3 (by decide) (by omega) dL_law_147 dL_law_148 dL_law_149 dL_law_150 dL_law_151 ?_
  refine g_arg K S 4 (by decide) (by omega) dL_law_152 dL_law_153 dL_law_154 dL_law_155 dL_law_156 ?_
  refine g_arg K S 5 (by decide) (by omega) dL_law_157 dL_law_158 dL_law_159 dL_law_160 dL_law_161 ?_
  refine g_cvi (As := [.int (xs (i + 1)), .int (xs (i + 2)), .int (xs (i + 3)), .int (xs (i + 4)), .int (xs (i + 5))]) (rest := []) K (m_X6_sellShares h1) yv_X6_sellShares ml_L_13 rfl rfl rfl (e_ControlRegister kd_0) ltN_0 rfl rfl ⟨Nat.le_trans (Nat.le_of_ble_eq_true rfl) hR.1, Nat.le_trans (Nat.le_of_ble_eq_true rfl) hR.2⟩ (Nat.le_of_ble_eq_true rfl) dL_law_162 ?_
  refine g_aload_n K 2 dL_law_165 rfl rfl ?_
  refine g_arg K S 1 (by decide) (by omega) dL_law_166 dL_law_167 dL_law_168 dL_law_169 dL_law_170 ?_
  refine g_arg K S 2 (by decide) (by omega) dL_law_171 dL_law_172 dL_law_173 dL_law_174 dL_law_175 ?_
  refine g_arg K S 3 (by decide) (by omega) dL_law_176 dL_law_177 dL_law_178 dL_law_179 dL_law_180 ?_
  refine g_arg K S 4 (by decide) (by omega) dL_law_181 dL_law_182 dL_law_183 dL_law_184 dL_law_185 ?_
  refine g_arg K S 5 (by decide) (by omega) dL_law_186 dL_law_187 dL_law_188 dL_law_189 dL_law_190 ?_
  refine g_cvi (As := [.int (xs (i + 1)), .int (xs (i + 2)), .int (xs (i + 3)), .int (xs (i + 4)), .int (xs (i + 5))]) (rest := [.int r]) K (m_X7_sellShares h2) yv_X7_sellShares ml_L_17 rfl rfl rfl (e_ControlRegisterModel kd_132) ltN_132 rfl rfl ⟨Nat.le_trans (Nat.le_of_ble_eq_true rfl) hR.1, Nat.le_trans (Nat.le_of_ble_eq_true rfl) hR.2⟩ (Nat.le_of_ble_eq_true rfl) dL_law_191 ?_
  exact g_icmp_eq (tgt := 914) K dL_law_194 (by decide) (fun _ => kk) (fun c => absurd rfl c)
set_option maxRecDepth 20000 in
set_option maxHeartbeats 4000000 in
theorem lc_sellVotes (K : Cok X cL_law 4 RL) (hR : 9 ≤ X.R.frames ∧ 342 ≤ X.R.locals) (S : SCR X b L xs) (hi : i + 6 ≤ L) (hI : INV σ) (kk : ∀ σ', INV σ' → G X 4 914 (lvL X b i) [] σ') : G X 4 199 (lvL X b i) [] σ := by
  obtain ⟨r, s1, s2, h1, h2, h3⟩ := s_sellVotes hI (xs (i + 1)) (xs (i + 2)) (xs (i + 3)) (xs (i + 4)) (xs (i + 5))
  have kk := kk s2 h3
  refine g_aload_n K 1 dL_law_199 rfl rfl ?_
  refine g_arg K S 1 (by decide) (by omega) dL_law_200 dL_law_201 dL_law_202 dL_law_203 dL_law_204 ?_
  refine g_arg K S 2 (by decide) (by omega) dL_law_205 dL_law_206 dL_law_207 dL_law_208 dL_law_209 ?_
  refine g_arg K S 3 (by decide) (by omega) dL_law_210 dL_law_211 dL_law_212 dL_law_213 dL_law_214 ?_
  refine g_arg K S 4 (by decide) (by omega) dL_law_215 dL_law_216 dL_law_217 dL_law_218 dL_law_219 ?_
  refine g_arg K S 5 (by decide) (by omega) dL_law_220 dL_law_221 dL_law_222 dL_law_223 dL_law_224 ?_
  refine g_cvi (As := [.int (xs (i + 1)), .int (xs (i + 2)), .int (xs (i + 3)), .int (xs (i + 4)), .int (xs (i + 5))]) (rest := []) K (m_X6_sellVotes h1) yv_X6_sellVotes ml_L_18 rfl rfl rfl (e_ControlRegister kd_0) ltN_0 rfl rfl ⟨Nat.le_trans (Nat.le_of_ble_eq_true rfl) hR.1, Nat.le_trans (Nat.le_of_ble_eq_true rfl) hR.2⟩ (Nat.le_of_ble_eq_true rfl) dL_law_225 ?_
  refine g_aload_n K 2 dL_law_228 rfl rfl ?_
  refine g_arg K S 1 (by decide) (by omega) dL_law_229 dL_law_230 dL_law_231 dL_law_232 dL_law_233 ?_
  refine g_arg K S 2 (by decide) (by omega) dL_law_234 dL_law_235 dL_law_236 dL_law_237 dL_law_238 ?_
  refine g_arg K S 3 (by decide) (by omega) dL_law_239 dL_law_240 dL_law_241 dL_law_242 dL_law_243 ?_
  refine g_arg K S 4 (by decide) (by omega) dL_law_244 dL_law_245 dL_law_246 dL_law_247 dL_law_248 ?_
  refine g_arg K S 5 (by decide) (by omega) dL_law_249 dL_law_250 dL_law_251 dL_law_252 dL_law_253 ?_
  refine g_cvi (As := [.int (xs (i + 1)), .int (xs (i + 2)), .int (xs (i + 3)), .int (xs (i + 4)), .int (xs (i + 5))]) (rest := [.int r]) K (m_X7_sellVotes h2) yv_X7_sellVotes ml_L_21 rfl rfl rfl (e_ControlRegisterModel kd_132) ltN_132 rfl rfl ⟨Nat.le_trans (Nat.le_of_ble_eq_true rfl) hR.1, Nat.le_trans (Nat.le_of_ble_eq_true rfl) hR.2⟩ (Nat.le_of_ble_eq_true rfl) dL_law_254 ?_
  exact g_icmp_eq (tgt := 914) K dL_law_257 (by decide) (fun _ => kk) (fun c => absurd rfl c)
set_option maxRecDepth 20000 in
set_option maxHeartbeats 4000000 in
theorem lc_veto (K : Cok X cL_law 4 RL) (hR : 9 ≤ X.R.frames ∧ 342 ≤ X.R.locals) (S : SCR X b L xs) (hi : i + 6 ≤ L) (hI : INV σ) (kk : ∀ σ', INV σ' → G X 4 914 (lvL X b i) [] σ') : G X 4 262 (lvL X b i) [] σ := by
  obtain ⟨r, s1, s2, h1, h2, h3⟩ := s_veto hI (xs (i + 1)) (xs (i + 2)) (xs (i + 3)) (xs (i + 4))
  have kk := kk s2 h3
  refine g_aload_n K 1 dL_law_262 rfl rfl ?_
  refine g_arg K S 1 (by decide) (by omega) dL_law_263 dL_law_264 dL_law_265 dL_law_266 dL_law_267 ?_
  refine g_arg K S 2 (by decide) (by omega) dL_law_268 dL_law_269 dL_law_270 dL_law_271 dL_law_272 ?_
  refine g_arg K S 3 (by decide) (by omega) dL_law_273 dL_law_274 dL_law_275 dL_law_276 dL_law_277 ?_
  refine g_arg K S 4 (by decide) (by omega) dL_law_278 dL_law_279 dL_law_280 dL_law_281 dL_law_282 ?_
  refine g_cvi (As := [.int (xs (i + 1)), .int (xs (i + 2)), .int (xs (i + 3)), .int (xs (i + 4))]) (rest := []) K (m_X6_veto h1) yv_X6_veto ml_L_22 rfl rfl rfl (e_ControlRegister kd_0) ltN_0 rfl rfl ⟨Nat.le_trans (Nat.le_of_ble_eq_true rfl) hR.1, Nat.le_trans (Nat.le_of_ble_eq_true rfl) hR.2⟩ (Nat.le_of_ble_eq_true rfl) dL_law_283 ?_
  refine g_aload_n K 2 dL_law_286 rfl rfl ?_
  refine g_arg K S 1 (by decide) (by omega) dL_law_287 dL_law_288 dL_law_289 dL_law_290 dL_law_291 ?_
  refine g_arg K S 2 (by decide) (by omega) dL_law_292 dL_law_293 dL_law_294 dL_law_295 dL_law_296 ?_
  refine g_arg K S 3 (by decide) (by omega) dL_law_297 dL_law_298 dL_law_299 dL_law_300 dL_law_301 ?_
  refine g_arg K S 4 (by decide) (by omega) dL_law_302 dL_law_303 dL_law_304 dL_law_305 dL_law_306 ?_
  refine g_cvi (As := [.int (xs (i + 1)), .int (xs (i + 2)), .int (xs (i + 3)), .int (xs (i + 4))]) (rest := [.int r]) K (m_X7_veto h2) yv_X7_veto ml_L_26 rfl rfl rfl (e_ControlRegisterModel kd_132) ltN_132 rfl rfl ⟨Nat.le_trans (Nat.le_of_ble_eq_true rfl) hR.1, Nat.le_trans (Nat.le_of_ble_eq_true rfl) hR.2⟩ (Nat.le_of_ble_eq_true rfl) dL_law_307 ?_
  exact g_icmp_eq (tgt := 914) K dL_law_310 (by decide) (fun _ => kk) (fun c => absurd rfl c)
set_option maxRecDepth 20000 in
set_option maxHeartbeats 4000000 in
theorem lc_cancel (K : Cok X cL_law 4 RL) (hR : 9 ≤ X.R.frames ∧ 342 ≤ X.R.locals) (S : SCR X b L xs) (hi : i + 6 ≤ L) (hI : INV σ) (kk : ∀ σ', INV σ' → G X 4 914 (lvL X b i) [] σ') : G X 4 315 (lvL X b i) [] σ := by
  obtain ⟨r, s1, s2, h1, h2, h3⟩ := s_cancel hI (xs (i + 1))
  have kk := kk s2 h3
  refine g_aload_n K 1 dL_law_315 rfl rfl ?_
  refine g_arg K S 1 (by decide) (by omega) dL_law_316 dL_law_317 dL_law_318 dL_law_319 dL_law_320 ?_
  refine g_cvi (As := [.int (xs (i + 1))]) (rest := []) K (m_X6_cancel h1) yv_X6_cancel ml_L_27 rfl rfl rfl (e_ControlRegister kd_0) ltN_0 rfl rfl ⟨Nat.le_trans (Nat.le_of_ble_eq_true rfl) hR.1, Nat.le_trans (Nat.le_of_ble_eq_true rfl) hR.2⟩ (Nat.le_of_ble_eq_true rfl) dL_law_321 ?_
  refine g_aload_n K 2 dL_law_324 rfl rfl ?_
  refine g_arg K S 1 (by decide) (by omega) dL_law_325 dL_law_326 dL_law_327 dL_law_328 dL_law_329 ?_
  refine g_cvi (As := [.int (xs (i + 1))]) (rest := [.int r]) K (m_X7_cancel h2) yv_X7_cancel ml_L_31 rfl rfl rfl (e_ControlRegisterModel kd_132) ltN_132 rfl rfl ⟨Nat.le_trans (Nat.le_of_ble_eq_true rfl) hR.1, Nat.le_trans (Nat.le_of_ble_eq_true rfl) hR.2⟩ (Nat.le_of_ble_eq_true rfl) dL_law_330 ?_
  exact g_icmp_eq (tgt := 914) K dL_law_333 (by decide) (fun _ => kk) (fun c => absurd rfl c)
set_option maxRecDepth 20000 in
set_option maxHeartbeats 4000000 in
theorem lc_told (K : Cok X cL_law 4 RL) (hR : 9 ≤ X.R.frames ∧ 342 ≤ X.R.locals) (S : SCR X b L xs) (hi : i + 6 ≤ L) (hI : INV σ) (kk : ∀ σ', INV σ' → G X 4 914 (lvL X b i) [] σ') : G X 4 338 (lvL X b i) [] σ := by
  obtain ⟨r, h1, h2⟩ := s_told hI (xs (i + 1)) (xs (i + 2))
  have kk := kk σ hI
  refine g_aload_n K 1 dL_law_338 rfl rfl ?_
  refine g_arg K S 1 (by decide) (by omega) dL_law_339 dL_law_340 dL_law_341 dL_law_342 dL_law_343 ?_
  refine g_arg K S 2 (by decide) (by omega) dL_law_344 dL_law_345 dL_law_346 dL_law_347 dL_law_348 ?_
  refine g_cvi (As := [.int (xs (i + 1)), .int (xs (i + 2))]) (rest := []) K (m_X6_told h1) yv_X6_told ml_L_32 rfl rfl rfl (e_ControlRegister kd_0) ltN_0 rfl rfl ⟨Nat.le_trans (Nat.le_of_ble_eq_true rfl) hR.1, Nat.le_trans (Nat.le_of_ble_eq_true rfl) hR.2⟩ (Nat.le_of_ble_eq_true rfl) dL_law_349 ?_
  refine g_aload_n K 2 dL_law_352 rfl rfl ?_
  refine g_arg K S 1 (by decide) (by omega) dL_law_353 dL_law_354 dL_law_355 dL_law_356 dL_law_357 ?_
  refine g_arg K S 2 (by decide) (by omega) dL_law_358 dL_law_359 dL_law_360 dL_law_361 dL_law_362 ?_
  refine g_cvi (As := [.int (xs (i + 1)), .int (xs (i + 2))]) (rest := [.int r]) K (m_X7_told h2) yv_X7_told ml_L_36 rfl rfl rfl (e_ControlRegisterModel kd_132) ltN_132 rfl rfl ⟨Nat.le_trans (Nat.le_of_ble_eq_true rfl) hR.1, Nat.le_trans (Nat.le_of_ble_eq_true rfl) hR.2⟩ (Nat.le_of_ble_eq_true rfl) dL_law_363 ?_
  exact g_icmp_eq (tgt := 914) K dL_law_366 (by decide) (fun _ => kk) (fun c => absurd rfl c)
set_option maxRecDepth 20000 in
set_option maxHeartbeats 4000000 in
theorem lc_look (K : Cok X cL_law 4 RL) (hR : 9 ≤ X.R.frames ∧ 342 ≤ X.R.locals) (S : SCR X b L xs) (hi : i + 6 ≤ L) (hI : INV σ) (kk : ∀ σ', INV σ' → G X 4 914 (lvL X b i) [] σ') : G X 4 371 (lvL X b i) [] σ := by
  obtain ⟨r, s1, s2, h1, h2, h3⟩ := s_look hI (xs (i + 1))
  have kk := kk s2 h3
  refine g_aload_n K 1 dL_law_371 rfl rfl ?_
  refine g_arg K S 1 (by decide) (by omega) dL_law_372 dL_law_373 dL_law_374 dL_law_375 dL_law_376 ?_
  refine g_cvi (As := [.int (xs (i + 1))]) (rest := []) K (m_X6_look h1) yv_X6_look ml_L_37 rfl rfl rfl (e_ControlRegister kd_0) ltN_0 rfl rfl ⟨Nat.le_trans (Nat.le_of_ble_eq_true rfl) hR.1, Nat.le_trans (Nat.le_of_ble_eq_true rfl) hR.2⟩ (Nat.le_of_ble_eq_true rfl) dL_law_377 ?_
  refine g_aload_n K 2 dL_law_380 rfl rfl ?_
  refine g_arg K S 1 (by decide) (by omega) dL_law_381 dL_law_382 dL_law_383 dL_law_384 dL_law_385 ?_
  refine g_cvi (As := [.int (xs (i + 1))]) (rest := [.int r]) K (m_X7_look h2) yv_X7_look ml_L_40 rfl rfl rfl (e_ControlRegisterModel kd_132) ltN_132 rfl rfl ⟨Nat.le_trans (Nat.le_of_ble_eq_true rfl) hR.1, Nat.le_trans (Nat.le_of_ble_eq_true rfl) hR.2⟩ (Nat.le_of_ble_eq_true rfl) dL_law_386 ?_
  exact g_icmp_eq (tgt := 914) K dL_law_389 (by decide) (fun _ => kk) (fun c => absurd rfl c)
set_option maxRecDepth 20000 in
set_option maxHeartbeats 4000000 in
theorem lc_rule (K : Cok X cL_law 4 RL) (hR : 9 ≤ X.R.frames ∧ 342 ≤ X.R.locals) (S : SCR X b L xs) (hi : i + 6 ≤ L) (hI : INV σ) (kk : ∀ σ', INV σ' → G X 4 914 (lvL X b i) [] σ') : G X 4 394 (lvL X b i) [] σ := by
  obtain ⟨r, s1, s2, h1, h2, h3⟩ := s_rule hI (xs (i + 1)) (xs (i + 2))
  have kk := kk s2 h3
  refine g_aload_n K 1 dL_law_394 rfl rfl ?_
  refine g_arg K S 1 (by decide) (by omega) dL_law_395 dL_law_396 dL_law_397 dL_law_398 dL_law_399 ?_
  refine g_arg K S 2 (by decide) (by omega) dL_law_400 dL_law_401 dL_law_402 dL_law_403 dL_law_404 ?_
  refine g_cvi (As := [.int (xs (i + 1)), .int (xs (i + 2))]) (rest := []) K (m_X6_rule h1) yv_X6_rule ml_L_41 rfl rfl rfl (e_ControlRegister kd_0) ltN_0 rfl rfl ⟨Nat.le_trans (Nat.le_of_ble_eq_true rfl) hR.1, Nat.le_trans (Nat.le_of_ble_eq_true rfl) hR.2⟩ (Nat.le_of_ble_eq_true rfl) dL_law_405 ?_
  refine g_aload_n K 2 dL_law_408 rfl rfl ?_
  refine g_arg K S 1 (by decide) (by omega) dL_law_409 dL_law_410 dL_law_411 dL_law_412 dL_law_413 ?_
  refine g_arg K S 2 (by decide) (by omega) dL_law_414 dL_law_415 dL_law_416 dL_law_417 dL_law_418 ?_
  refine g_cvi (As := [.int (xs (i + 1)), .int (xs (i + 2))]) (rest := [.int r]) K (m_X7_rule h2) yv_X7_rule ml_L_44 rfl rfl rfl (e_ControlRegisterModel kd_132) ltN_132 rfl rfl ⟨Nat.le_trans (Nat.le_of_ble_eq_true rfl) hR.1, Nat.le_trans (Nat.le_of_ble_eq_true rfl) hR.2⟩ (Nat.le_of_ble_eq_true rfl) dL_law_419 ?_
  exact g_icmp_eq (tgt := 914) K dL_law_422 (by decide) (fun _ => kk) (fun c => absurd rfl c)
set_option maxRecDepth 20000 in
set_option maxHeartbeats 4000000 in
theorem lc_holds (K : Cok X cL_law 4 RL) (hR : 9 ≤ X.R.frames ∧ 342 ≤ X.R.locals) (S : SCR X b L xs) (hi : i + 6 ≤ L) (hI : INV σ) (kk : ∀ σ', INV σ' → G X 4 914 (lvL X b i) [] σ') : G X 4 427 (lvL X b i) [] σ := by
  obtain ⟨r, s1, s2, h1, h2, h3⟩ := s_holds hI (xs (i + 1)) (xs (i + 2)) (xs (i + 3))
  have kk := kk s2 h3
  refine g_aload_n K 1 dL_law_427 rfl rfl ?_
  refine g_arg K S 1 (by decide) (by omega) dL_law_428 dL_law_429 dL_law_430 dL_law_431 dL_law_432 ?_
  refine g_arg K S 2 (by decide) (by omega) dL_law_433 dL_law_434 dL_law_435 dL_law_436 dL_law_437 ?_
  refine g_arg K S 3 (by decide) (by omega) dL_law_438 dL_law_439 dL_law_440 dL_law_441 dL_law_442 ?_
  refine g_cvi (As := [.int (xs (i + 1)), .int (xs (i + 2)), .int (xs (i + 3))]) (rest := []) K (m_X6_holds h1) yv_X6_holds ml_L_45 rfl rfl rfl (e_ControlRegister kd_0) ltN_0 rfl rfl ⟨Nat.le_trans (Nat.le_of_ble_eq_true rfl) hR.1, Nat.le_trans (Nat.le_of_ble_eq_true rfl) hR.2⟩ (Nat.le_of_ble_eq_true rfl) dL_law_443 ?_
  refine g_aload_n K 2 dL_law_446 rfl rfl ?_
  refine g_arg K S 1 (by decide) (by omega) dL_law_447 dL_law_448 dL_law_449 dL_law_450 dL_law_451 ?_
  refine g_arg K S 2 (by decide) (by omega) dL_law_452 dL_law_453 dL_law_454 dL_law_455 dL_law_456 ?_
  refine g_arg K S 3 (by decide) (by omega) dL_law_457 dL_law_458 dL_law_459 dL_law_460 dL_law_461 ?_
  refine g_cvi (As := [.int (xs (i + 1)), .int (xs (i + 2)), .int (xs (i + 3))]) (rest := [.int r]) K (m_X7_holds h2) yv_X7_holds ml_L_49 rfl rfl rfl (e_ControlRegisterModel kd_132) ltN_132 rfl rfl ⟨Nat.le_trans (Nat.le_of_ble_eq_true rfl) hR.1, Nat.le_trans (Nat.le_of_ble_eq_true rfl) hR.2⟩ (Nat.le_of_ble_eq_true rfl) dL_law_462 ?_
  exact g_icmp_eq (tgt := 914) K dL_law_465 (by decide) (fun _ => kk) (fun c => absurd rfl c)
set_option maxRecDepth 20000 in
set_option maxHeartbeats 4000000 in
theorem lc_controls (K : Cok X cL_law 4 RL) (hR : 9 ≤ X.R.frames ∧ 342 ≤ X.R.locals) (S : SCR X b L xs) (hi : i + 6 ≤ L) (hI : INV σ) (kk : ∀ σ', INV σ' → G X 4 914 (lvL X b i) [] σ') : G X 4 470 (lvL X b i) [] σ := by
  obtain ⟨r, s1, s2, h1, h2, h3⟩ := s_controls hI (xs (i + 1))
  have kk := kk s2 h3
  refine g_aload_n K 1 dL_law_470 rfl rfl ?_
  refine g_arg K S 1 (by decide) (by omega) dL_law_471 dL_law_472 dL_law_473 dL_law_474 dL_law_475 ?_
  refine g_cvi (As := [.int (xs (i + 1))]) (rest := []) K (m_X6_controls h1) yv_X6_controls ml_L_50 rfl rfl rfl (e_ControlRegister kd_0) ltN_0 rfl rfl ⟨Nat.le_trans (Nat.le_of_ble_eq_true rfl) hR.1, Nat.le_trans (Nat.le_of_ble_eq_true rfl) hR.2⟩ (Nat.le_of_ble_eq_true rfl) dL_law_476 ?_
  refine g_aload_n K 2 dL_law_479 rfl rfl ?_
  refine g_arg K S 1 (by decide) (by omega) dL_law_480 dL_law_481 dL_law_482 dL_law_483 dL_law_484 ?_
  refine g_cvi (As := [.int (xs (i + 1))]) (rest := [.int r]) K (m_X7_controls h2) yv_X7_controls ml_L_53 rfl rfl rfl (e_ControlRegisterModel kd_132) ltN_132 rfl rfl ⟨Nat.le_trans (Nat.le_of_ble_eq_true rfl) hR.1, Nat.le_trans (Nat.le_of_ble_eq_true rfl) hR.2⟩ (Nat.le_of_ble_eq_true rfl) dL_law_485 ?_
  exact g_icmp_eq (tgt := 914) K dL_law_488 (by decide) (fun _ => kk) (fun c => absurd rfl c)
set_option maxRecDepth 20000 in
set_option maxHeartbeats 4000000 in
theorem lc_how (K : Cok X cL_law 4 RL) (hR : 9 ≤ X.R.frames ∧ 342 ≤ X.R.locals) (S : SCR X b L xs) (hi : i + 6 ≤ L) (hI : INV σ) (kk : ∀ σ', INV σ' → G X 4 914 (lvL X b i) [] σ') : G X 4 493 (lvL X b i) [] σ := by
  obtain ⟨r, s1, s2, h1, h2, h3⟩ := s_how hI (xs (i + 1)) (xs (i + 2)) (xs (i + 3))
  have kk := kk s2 h3
  refine g_aload_n K 1 dL_law_493 rfl rfl ?_
  refine g_arg K S 1 (by decide) (by omega) dL_law_494 dL_law_495 dL_law_496 dL_law_497 dL_law_498 ?_
  refine g_arg K S 2 (by decide) (by omega) dL_law_499 dL_law_500 dL_law_501 dL_law_502 dL_law_503 ?_
  refine g_arg K S 3 (by decide) (by omega) dL_law_504 dL_law_505 dL_law_506 dL_law_507 dL_law_508 ?_
  refine g_cvi (As := [.int (xs (i + 1)), .int (xs (i + 2)), .int (xs (i + 3))]) (rest := []) K (m_X6_how h1) yv_X6_how ml_L_54 rfl rfl rfl (e_ControlRegister kd_0) ltN_0 rfl rfl ⟨Nat.le_trans (Nat.le_of_ble_eq_true rfl) hR.1, Nat.le_trans (Nat.le_of_ble_eq_true rfl) hR.2⟩ (Nat.le_of_ble_eq_true rfl) dL_law_509 ?_
  refine g_aload_n K 2 dL_law_512 rfl rfl ?_
  refine g_arg K S 1 (by decide) (by omega) dL_law_513 dL_law_514 dL_law_515 dL_law_516 dL_law_517 ?_
  refine g_arg K S 2 (by decide) (by omega) dL_law_518 dL_law_519 dL_law_520 dL_law_521 dL_law_522 ?_
  refine g_arg K S 3 (by decide) (by omega) dL_law_523 dL_law_524 dL_law_525 dL_law_526 dL_law_527 ?_
  refine g_cvi (As := [.int (xs (i + 1)), .int (xs (i + 2)), .int (xs (i + 3))]) (rest := [.int r]) K (m_X7_how h2) yv_X7_how ml_L_57 rfl rfl rfl (e_ControlRegisterModel kd_132) ltN_132 rfl rfl ⟨Nat.le_trans (Nat.le_of_ble_eq_true rfl) hR.1, Nat.le_trans (Nat.le_of_ble_eq_true rfl) hR.2⟩ (Nat.le_of_ble_eq_true rfl) dL_law_528 ?_
  exact g_icmp_eq (tgt := 914) K dL_law_531 (by decide) (fun _ => kk) (fun c => absurd rfl c)
set_option maxRecDepth 20000 in
set_option maxHeartbeats 4000000 in
theorem lc_above (K : Cok X cL_law 4 RL) (hR : 9 ≤ X.R.frames ∧ 342 ≤ X.R.locals) (S : SCR X b L xs) (hi : i + 6 ≤ L) (hI : INV σ) (kk : ∀ σ', INV σ' → G X 4 914 (lvL X b i) [] σ') : G X 4 536 (lvL X b i) [] σ := by
  obtain ⟨r, s1, s2, h1, h2, h3⟩ := s_above hI (xs (i + 1)) (xs (i + 2))
  have kk := kk s2 h3
  refine g_aload_n K 1 dL_law_536 rfl rfl ?_
  refine g_arg K S 1 (by decide) (by omega) dL_law_537 dL_law_538 dL_law_539 dL_law_540 dL_law_541 ?_
  refine g_arg K S 2 (by decide) (by omega) dL_law_542 dL_law_543 dL_law_544 dL_law_545 dL_law_546 ?_
  refine g_cvi (As := [.int (xs (i + 1)), .int (xs (i + 2))]) (rest := []) K (m_X6_above h1) yv_X6_above ml_L_58 rfl rfl rfl (e_ControlRegister kd_0) ltN_0 rfl rfl ⟨Nat.le_trans (Nat.le_of_ble_eq_true rfl) hR.1, Nat.le_trans (Nat.le_of_ble_eq_true rfl) hR.2⟩ (Nat.le_of_ble_eq_true rfl) dL_law_547 ?_
  refine g_aload_n K 2 dL_law_550 rfl rfl ?_
  refine g_arg K S 1 (by decide) (by omega) dL_law_551 dL_law_552 dL_law_553 dL_law_554 dL_law_555 ?_
  refine g_arg K S 2 (by decide) (by omega) dL_law_556 dL_law_557 dL_law_558 dL_law_559 dL_law_560 ?_
  refine g_cvi (As := [.int (xs (i + 1)), .int (xs (i + 2))]) (rest := [.int r]) K (m_X7_above h2) yv_X7_above ml_L_61 rfl rfl rfl (e_ControlRegisterModel kd_132) ltN_132 rfl rfl ⟨Nat.le_trans (Nat.le_of_ble_eq_true rfl) hR.1, Nat.le_trans (Nat.le_of_ble_eq_true rfl) hR.2⟩ (Nat.le_of_ble_eq_true rfl) dL_law_561 ?_
  exact g_icmp_eq (tgt := 914) K dL_law_564 (by decide) (fun _ => kk) (fun c => absurd rfl c)
set_option maxRecDepth 20000 in
set_option maxHeartbeats 4000000 in
theorem lc_when (K : Cok X cL_law 4 RL) (hR : 9 ≤ X.R.frames ∧ 342 ≤ X.R.locals) (S : SCR X b L xs) (hi : i + 6 ≤ L) (hI : INV σ) (kk : ∀ σ', INV σ' → G X 4 914 (lvL X b i) [] σ') : G X 4 569 (lvL X b i) [] σ := by
  obtain ⟨r, s1, s2, h1, h2, h3⟩ := s_when hI (xs (i + 1)) (xs (i + 2)) (xs (i + 3))
  have kk := kk s2 h3
  refine g_aload_n K 1 dL_law_569 rfl rfl ?_
  refine g_arg K S 1 (by decide) (by omega) dL_law_570 dL_law_571 dL_law_572 dL_law_573 dL_law_574 ?_
  refine g_arg K S 2 (by decide) (by omega) dL_law_575 dL_law_576 dL_law_577 dL_law_578 dL_law_579 ?_
  refine g_arg K S 3 (by decide) (by omega) dL_law_580 dL_law_581 dL_law_582 dL_law_583 dL_law_584 ?_
  refine g_cvi (As := [.int (xs (i + 1)), .int (xs (i + 2)), .int (xs (i + 3))]) (rest := []) K (m_X6_when h1) yv_X6_when ml_L_62 rfl rfl rfl (e_ControlRegister kd_0) ltN_0 rfl rfl ⟨Nat.le_trans (Nat.le_of_ble_eq_true rfl) hR.1, Nat.le_trans (Nat.le_of_ble_eq_true rfl) hR.2⟩ (Nat.le_of_ble_eq_true rfl) dL_law_585 ?_
  refine g_aload_n K 2 dL_law_588 rfl rfl ?_
  refine g_arg K S 1 (by decide) (by omega) dL_law_589 dL_law_590 dL_law_591 dL_law_592 dL_law_593 ?_
  refine g_arg K S 2 (by decide) (by omega) dL_law_594 dL_law_595 dL_law_596 dL_law_597 dL_law_598 ?_
  refine g_arg K S 3 (by decide) (by omega) dL_law_599 dL_law_600 dL_law_601 dL_law_602 dL_law_603 ?_
  refine g_cvi (As := [.int (xs (i + 1)), .int (xs (i + 2)), .int (xs (i + 3))]) (rest := [.int r]) K (m_X7_when h2) yv_X7_when ml_L_65 rfl rfl rfl (e_ControlRegisterModel kd_132) ltN_132 rfl rfl ⟨Nat.le_trans (Nat.le_of_ble_eq_true rfl) hR.1, Nat.le_trans (Nat.le_of_ble_eq_true rfl) hR.2⟩ (Nat.le_of_ble_eq_true rfl) dL_law_604 ?_
  exact g_icmp_eq (tgt := 914) K dL_law_607 (by decide) (fun _ => kk) (fun c => absurd rfl c)
set_option maxRecDepth 20000 in
set_option maxHeartbeats 4000000 in
theorem lc_fewest (K : Cok X cL_law 4 RL) (hR : 9 ≤ X.R.frames ∧ 342 ≤ X.R.locals) (S : SCR X b L xs) (hi : i + 6 ≤ L) (hI : INV σ) (kk : ∀ σ', INV σ' → G X 4 914 (lvL X b i) [] σ') : G X 4 612 (lvL X b i) [] σ := by
  obtain ⟨r, s1, s2, h1, h2, h3⟩ := s_fewest hI (xs (i + 1)) (xs (i + 2)) (xs (i + 3))
  have kk := kk s2 h3
  refine g_aload_n K 1 dL_law_612 rfl rfl ?_
  refine g_arg K S 1 (by decide) (by omega) dL_law_613 dL_law_614 dL_law_615 dL_law_616 dL_law_617 ?_
  refine g_arg K S 2 (by decide) (by omega) dL_law_618 dL_law_619 dL_law_620 dL_law_621 dL_law_622 ?_
  refine g_arg K S 3 (by decide) (by omega) dL_law_623 dL_law_624 dL_law_625 dL_law_626 dL_law_627 ?_
  refine g_cvi (As := [.int (xs (i + 1)), .int (xs (i + 2)), .int (xs (i + 3))]) (rest := []) K (m_X6_fewest h1) yv_X6_fewest ml_L_66 rfl rfl rfl (e_ControlRegister kd_0) ltN_0 rfl rfl ⟨Nat.le_trans (Nat.le_of_ble_eq_true rfl) hR.1, Nat.le_trans (Nat.le_of_ble_eq_true rfl) hR.2⟩ (Nat.le_of_ble_eq_true rfl) dL_law_628 ?_
  refine g_aload_n K 2 dL_law_631 rfl rfl ?_
  refine g_arg K S 1 (by decide) (by omega) dL_law_632 dL_law_633 dL_law_634 dL_law_635 dL_law_636 ?_
  refine g_arg K S 2 (by decide) (by omega) dL_law_637 dL_law_638 dL_law_639 dL_law_640 dL_law_641 ?_
  refine g_arg K S 3 (by decide) (by omega) dL_law_642 dL_law_643 dL_law_644 dL_law_645 dL_law_646 ?_
  refine g_cvi (As := [.int (xs (i + 1)), .int (xs (i + 2)), .int (xs (i + 3))]) (rest := [.int r]) K (m_X7_fewest h2) yv_X7_fewest ml_L_69 rfl rfl rfl (e_ControlRegisterModel kd_132) ltN_132 rfl rfl ⟨Nat.le_trans (Nat.le_of_ble_eq_true rfl) hR.1, Nat.le_trans (Nat.le_of_ble_eq_true rfl) hR.2⟩ (Nat.le_of_ble_eq_true rfl) dL_law_647 ?_
  exact g_icmp_eq (tgt := 914) K dL_law_650 (by decide) (fun _ => kk) (fun c => absurd rfl c)
set_option maxRecDepth 20000 in
set_option maxHeartbeats 4000000 in
theorem lc_event (K : Cok X cL_law 4 RL) (hR : 9 ≤ X.R.frames ∧ 342 ≤ X.R.locals) (S : SCR X b L xs) (hi : i + 6 ≤ L) (hI : INV σ) (kk : ∀ σ', INV σ' → G X 4 914 (lvL X b i) [] σ') : G X 4 655 (lvL X b i) [] σ := by
  obtain ⟨r, s1, s2, h1, h2, h3⟩ := s_event hI (xs (i + 1)) (xs (i + 2))
  have kk := kk s2 h3
  refine g_aload_n K 1 dL_law_655 rfl rfl ?_
  refine g_arg K S 1 (by decide) (by omega) dL_law_656 dL_law_657 dL_law_658 dL_law_659 dL_law_660 ?_
  refine g_arg K S 2 (by decide) (by omega) dL_law_661 dL_law_662 dL_law_663 dL_law_664 dL_law_665 ?_
  refine g_cvi (As := [.int (xs (i + 1)), .int (xs (i + 2))]) (rest := []) K (m_X6_event h1) yv_X6_event ml_L_70 rfl rfl rfl (e_ControlRegister kd_0) ltN_0 rfl rfl ⟨Nat.le_trans (Nat.le_of_ble_eq_true rfl) hR.1, Nat.le_trans (Nat.le_of_ble_eq_true rfl) hR.2⟩ (Nat.le_of_ble_eq_true rfl) dL_law_666 ?_
  refine g_aload_n K 2 dL_law_669 rfl rfl ?_
  refine g_arg K S 1 (by decide) (by omega) dL_law_670 dL_law_671 dL_law_672 dL_law_673 dL_law_674 ?_
  refine g_arg K S 2 (by decide) (by omega) dL_law_675 dL_law_676 dL_law_677 dL_law_678 dL_law_679 ?_
  refine g_cvi (As := [.int (xs (i + 1)), .int (xs (i + 2))]) (rest := [.int r]) K (m_X7_event h2) yv_X7_event ml_L_73 rfl rfl rfl (e_ControlRegisterModel kd_132) ltN_132 rfl rfl ⟨Nat.le_trans (Nat.le_of_ble_eq_true rfl) hR.1, Nat.le_trans (Nat.le_of_ble_eq_true rfl) hR.2⟩ (Nat.le_of_ble_eq_true rfl) dL_law_680 ?_
  exact g_icmp_eq (tgt := 914) K dL_law_683 (by decide) (fun _ => kk) (fun c => absurd rfl c)
set_option maxRecDepth 20000 in
set_option maxHeartbeats 4000000 in
theorem lc_stake (K : Cok X cL_law 4 RL) (hR : 9 ≤ X.R.frames ∧ 342 ≤ X.R.locals) (S : SCR X b L xs) (hi : i + 6 ≤ L) (hI : INV σ) (kk : ∀ σ', INV σ' → G X 4 914 (lvL X b i) [] σ') : G X 4 688 (lvL X b i) [] σ := by
  obtain ⟨r, s1, s2, h1, h2, h3⟩ := s_stake hI (xs (i + 1)) (xs (i + 2)) (xs (i + 3))
  have kk := kk s2 h3
  refine g_aload_n K 1 dL_law_688 rfl rfl ?_
  refine g_arg K S 1 (by decide) (by omega) dL_law_689 dL_law_690 dL_law_691 dL_law_692 dL_law_693 ?_
  refine g_arg K S 2 (by decide) (by omega) dL_law_694 dL_law_695 dL_law_696 dL_law_697 dL_law_698 ?_
  refine g_arg K S 3 (by decide) (by omega) dL_law_699 dL_law_700 dL_law_701 dL_law_702 dL_law_703 ?_
  refine g_cvl (As := [.int (xs (i + 1)), .int (xs (i + 2)), .int (xs (i + 3))]) (rest := []) K (m_X6_stake h1) yv_X6_stake ml_L_74 rfl rfl rfl (e_ControlRegister kd_0) ltN_0 rfl rfl ⟨Nat.le_trans (Nat.le_of_ble_eq_true rfl) hR.1, Nat.le_trans (Nat.le_of_ble_eq_true rfl) hR.2⟩ (Nat.le_of_ble_eq_true rfl) dL_law_704 ?_
  refine g_aload_n K 2 dL_law_707 rfl rfl ?_
  refine g_arg K S 1 (by decide) (by omega) dL_law_708 dL_law_709 dL_law_710 dL_law_711 dL_law_712 ?_
  refine g_arg K S 2 (by decide) (by omega) dL_law_713 dL_law_714 dL_law_715 dL_law_716 dL_law_717 ?_
  refine g_arg K S 3 (by decide) (by omega) dL_law_718 dL_law_719 dL_law_720 dL_law_721 dL_law_722 ?_
  refine g_cvl (As := [.int (xs (i + 1)), .int (xs (i + 2)), .int (xs (i + 3))]) (rest := [.long r]) K (m_X7_stake h2) yv_X7_stake ml_L_78 rfl rfl rfl (e_ControlRegisterModel kd_132) ltN_132 rfl rfl ⟨Nat.le_trans (Nat.le_of_ble_eq_true rfl) hR.1, Nat.le_trans (Nat.le_of_ble_eq_true rfl) hR.2⟩ (Nat.le_of_ble_eq_true rfl) dL_law_723 ?_
  refine g_lcmp K dL_law_726 ?_
  rw [lcmp_same]
  exact g_if_eq (tgt := 914) K dL_law_727 (by decide) (fun _ => kk) (fun c => absurd rfl c)
set_option maxRecDepth 20000 in
set_option maxHeartbeats 4000000 in
theorem lc_nobody (K : Cok X cL_law 4 RL) (hR : 9 ≤ X.R.frames ∧ 342 ≤ X.R.locals) (S : SCR X b L xs) (hi : i + 6 ≤ L) (hI : INV σ) (kk : ∀ σ', INV σ' → G X 4 914 (lvL X b i) [] σ') : G X 4 732 (lvL X b i) [] σ := by
  obtain ⟨r, s1, s2, h1, h2, h3⟩ := s_nobody hI (xs (i + 1)) (xs (i + 2))
  have kk := kk s2 h3
  refine g_aload_n K 1 dL_law_732 rfl rfl ?_
  refine g_arg K S 1 (by decide) (by omega) dL_law_733 dL_law_734 dL_law_735 dL_law_736 dL_law_737 ?_
  refine g_arg K S 2 (by decide) (by omega) dL_law_738 dL_law_739 dL_law_740 dL_law_741 dL_law_742 ?_
  refine g_cvl (As := [.int (xs (i + 1)), .int (xs (i + 2))]) (rest := []) K (m_X6_nobody h1) yv_X6_nobody ml_L_79 rfl rfl rfl (e_ControlRegister kd_0) ltN_0 rfl rfl ⟨Nat.le_trans (Nat.le_of_ble_eq_true rfl) hR.1, Nat.le_trans (Nat.le_of_ble_eq_true rfl) hR.2⟩ (Nat.le_of_ble_eq_true rfl) dL_law_743 ?_
  refine g_aload_n K 2 dL_law_746 rfl rfl ?_
  refine g_arg K S 1 (by decide) (by omega) dL_law_747 dL_law_748 dL_law_749 dL_law_750 dL_law_751 ?_
  refine g_arg K S 2 (by decide) (by omega) dL_law_752 dL_law_753 dL_law_754 dL_law_755 dL_law_756 ?_
  refine g_cvl (As := [.int (xs (i + 1)), .int (xs (i + 2))]) (rest := [.long r]) K (m_X7_nobody h2) yv_X7_nobody ml_L_83 rfl rfl rfl (e_ControlRegisterModel kd_132) ltN_132 rfl rfl ⟨Nat.le_trans (Nat.le_of_ble_eq_true rfl) hR.1, Nat.le_trans (Nat.le_of_ble_eq_true rfl) hR.2⟩ (Nat.le_of_ble_eq_true rfl) dL_law_757 ?_
  refine g_lcmp K dL_law_760 ?_
  rw [lcmp_same]
  exact g_if_eq (tgt := 914) K dL_law_761 (by decide) (fun _ => kk) (fun c => absurd rfl c)
set_option maxRecDepth 20000 in
set_option maxHeartbeats 4000000 in
theorem lc_ranked (K : Cok X cL_law 4 RL) (hR : 9 ≤ X.R.frames ∧ 342 ≤ X.R.locals) (S : SCR X b L xs) (hi : i + 6 ≤ L) (hI : INV σ) (kk : ∀ σ', INV σ' → G X 4 914 (lvL X b i) [] σ') : G X 4 766 (lvL X b i) [] σ := by
  obtain ⟨r, s1, s2, h1, h2, h3⟩ := s_ranked hI (xs (i + 1)) (xs (i + 2))
  have kk := kk s2 h3
  refine g_aload_n K 1 dL_law_766 rfl rfl ?_
  refine g_arg K S 1 (by decide) (by omega) dL_law_767 dL_law_768 dL_law_769 dL_law_770 dL_law_771 ?_
  refine g_arg K S 2 (by decide) (by omega) dL_law_772 dL_law_773 dL_law_774 dL_law_775 dL_law_776 ?_
  refine g_cvi (As := [.int (xs (i + 1)), .int (xs (i + 2))]) (rest := []) K (m_X6_ranked h1) yv_X6_ranked ml_L_84 rfl rfl rfl (e_ControlRegister kd_0) ltN_0 rfl rfl ⟨Nat.le_trans (Nat.le_of_ble_eq_true rfl) hR.1, Nat.le_trans (Nat.le_of_ble_eq_true rfl) hR.2⟩ (Nat.le_of_ble_eq_true rfl) dL_law_777 ?_
  refine g_aload_n K 2 dL_law_780 rfl rfl ?_
  refine g_arg K S 1 (by decide) (by omega) dL_law_781 dL_law_782 dL_law_783 dL_law_784 dL_law_785 ?_
  refine g_arg K S 2 (by decide) (by omega) dL_law_786 dL_law_787 dL_law_788 dL_law_789 dL_law_790 ?_
  refine g_cvi (As := [.int (xs (i + 1)), .int (xs (i + 2))]) (rest := [.int r]) K (m_X7_ranked h2) yv_X7_ranked ml_L_87 rfl rfl rfl (e_ControlRegisterModel kd_132) ltN_132 rfl rfl ⟨Nat.le_trans (Nat.le_of_ble_eq_true rfl) hR.1, Nat.le_trans (Nat.le_of_ble_eq_true rfl) hR.2⟩ (Nat.le_of_ble_eq_true rfl) dL_law_791 ?_
  exact g_icmp_eq (tgt := 914) K dL_law_794 (by decide) (fun _ => kk) (fun c => absurd rfl c)
set_option maxRecDepth 20000 in
set_option maxHeartbeats 4000000 in
theorem lc_owners (K : Cok X cL_law 4 RL) (hR : 9 ≤ X.R.frames ∧ 342 ≤ X.R.locals) (S : SCR X b L xs) (hi : i + 6 ≤ L) (hI : INV σ) (kk : ∀ σ', INV σ' → G X 4 914 (lvL X b i) [] σ') : G X 4 799 (lvL X b i) [] σ := by
  obtain ⟨r, s1, s2, h1, h2, h3⟩ := s_owners hI (xs (i + 1))
  have kk := kk s2 h3
  refine g_aload_n K 1 dL_law_799 rfl rfl ?_
  refine g_arg K S 1 (by decide) (by omega) dL_law_800 dL_law_801 dL_law_802 dL_law_803 dL_law_804 ?_
  refine g_cvi (As := [.int (xs (i + 1))]) (rest := []) K (m_X6_owners h1) yv_X6_owners ml_L_88 rfl rfl rfl (e_ControlRegister kd_0) ltN_0 rfl rfl ⟨Nat.le_trans (Nat.le_of_ble_eq_true rfl) hR.1, Nat.le_trans (Nat.le_of_ble_eq_true rfl) hR.2⟩ (Nat.le_of_ble_eq_true rfl) dL_law_805 ?_
  refine g_aload_n K 2 dL_law_808 rfl rfl ?_
  refine g_arg K S 1 (by decide) (by omega) dL_law_809 dL_law_810 dL_law_811 dL_law_812 dL_law_813 ?_
  refine g_cvi (As := [.int (xs (i + 1))]) (rest := [.int r]) K (m_X7_owners h2) yv_X7_owners ml_L_91 rfl rfl rfl (e_ControlRegisterModel kd_132) ltN_132 rfl rfl ⟨Nat.le_trans (Nat.le_of_ble_eq_true rfl) hR.1, Nat.le_trans (Nat.le_of_ble_eq_true rfl) hR.2⟩ (Nat.le_of_ble_eq_true rfl) dL_law_814 ?_
  exact g_icmp_eq (tgt := 914) K dL_law_817 (by decide) (fun _ => kk) (fun c => absurd rfl c)
set_option maxRecDepth 20000 in
set_option maxHeartbeats 4000000 in
theorem lc_circle (K : Cok X cL_law 4 RL) (hR : 9 ≤ X.R.frames ∧ 342 ≤ X.R.locals) (S : SCR X b L xs) (hi : i + 6 ≤ L) (hI : INV σ) (kk : ∀ σ', INV σ' → G X 4 914 (lvL X b i) [] σ') : G X 4 822 (lvL X b i) [] σ := by
  obtain ⟨r, s1, s2, h1, h2, h3⟩ := s_circle hI (xs (i + 1))
  have kk := kk s2 h3
  refine g_aload_n K 1 dL_law_822 rfl rfl ?_
  refine g_arg K S 1 (by decide) (by omega) dL_law_823 dL_law_824 dL_law_825 dL_law_826 dL_law_827 ?_
  refine g_cvi (As := [.int (xs (i + 1))]) (rest := []) K (m_X6_circle h1) yv_X6_circle ml_L_92 rfl rfl rfl (e_ControlRegister kd_0) ltN_0 rfl rfl ⟨Nat.le_trans (Nat.le_of_ble_eq_true rfl) hR.1, Nat.le_trans (Nat.le_of_ble_eq_true rfl) hR.2⟩ (Nat.le_of_ble_eq_true rfl) dL_law_828 ?_
  refine g_aload_n K 2 dL_law_831 rfl rfl ?_
  refine g_arg K S 1 (by decide) (by omega) dL_law_832 dL_law_833 dL_law_834 dL_law_835 dL_law_836 ?_
  refine g_cvi (As := [.int (xs (i + 1))]) (rest := [.int r]) K (m_X7_circle h2) yv_X7_circle ml_L_95 rfl rfl rfl (e_ControlRegisterModel kd_132) ltN_132 rfl rfl ⟨Nat.le_trans (Nat.le_of_ble_eq_true rfl) hR.1, Nat.le_trans (Nat.le_of_ble_eq_true rfl) hR.2⟩ (Nat.le_of_ble_eq_true rfl) dL_law_837 ?_
  exact g_icmp_eq (tgt := 914) K dL_law_840 (by decide) (fun _ => kk) (fun c => absurd rfl c)
set_option maxRecDepth 20000 in
set_option maxHeartbeats 4000000 in
theorem lc_image (K : Cok X cL_law 4 RL) (hR : 9 ≤ X.R.frames ∧ 342 ≤ X.R.locals) (S : SCR X b L xs) (hi : i + 6 ≤ L) (hI : INV σ) (kk : ∀ σ', INV σ' → G X 4 914 (lvL X b i) [] σ') : G X 4 845 (lvL X b i) [] σ := by
  obtain ⟨r, s1, s2, h1, h2, h3⟩ := s_image hI (xs (i + 1))
  have kk := kk s2 h3
  refine g_aload_n K 1 dL_law_845 rfl rfl ?_
  refine g_arg K S 1 (by decide) (by omega) dL_law_846 dL_law_847 dL_law_848 dL_law_849 dL_law_850 ?_
  refine g_cvi (As := [.int (xs (i + 1))]) (rest := []) K (m_X6_image h1) yv_X6_image ml_L_96 rfl rfl rfl (e_ControlRegister kd_0) ltN_0 rfl rfl ⟨Nat.le_trans (Nat.le_of_ble_eq_true rfl) hR.1, Nat.le_trans (Nat.le_of_ble_eq_true rfl) hR.2⟩ (Nat.le_of_ble_eq_true rfl) dL_law_851 ?_
  refine g_aload_n K 2 dL_law_854 rfl rfl ?_
  refine g_arg K S 1 (by decide) (by omega) dL_law_855 dL_law_856 dL_law_857 dL_law_858 dL_law_859 ?_
  refine g_cvi (As := [.int (xs (i + 1))]) (rest := [.int r]) K (m_X7_image h2) yv_X7_image ml_L_99 rfl rfl rfl (e_ControlRegisterModel kd_132) ltN_132 rfl rfl ⟨Nat.le_trans (Nat.le_of_ble_eq_true rfl) hR.1, Nat.le_trans (Nat.le_of_ble_eq_true rfl) hR.2⟩ (Nat.le_of_ble_eq_true rfl) dL_law_860 ?_
  exact g_icmp_eq (tgt := 914) K dL_law_863 (by decide) (fun _ => kk) (fun c => absurd rfl c)
set_option maxRecDepth 20000 in
set_option maxHeartbeats 4000000 in
theorem lc_restore (K : Cok X cL_law 4 RL) (hR : 9 ≤ X.R.frames ∧ 342 ≤ X.R.locals) (S : SCR X b L xs) (hi : i + 6 ≤ L) (hI : INV σ) (kk : ∀ σ', INV σ' → G X 4 914 (lvL X b i) [] σ') : G X 4 868 (lvL X b i) [] σ := by
  obtain ⟨r, s1, s2, h1, h2, h3⟩ := s_restore hI (xs (i + 1))
  have kk := kk s2 h3
  refine g_aload_n K 1 dL_law_868 rfl rfl ?_
  refine g_arg K S 1 (by decide) (by omega) dL_law_869 dL_law_870 dL_law_871 dL_law_872 dL_law_873 ?_
  refine g_cvi (As := [.int (xs (i + 1))]) (rest := []) K (m_X6_restore h1) yv_X6_restore ml_L_100 rfl rfl rfl (e_ControlRegister kd_0) ltN_0 rfl rfl ⟨Nat.le_trans (Nat.le_of_ble_eq_true rfl) hR.1, Nat.le_trans (Nat.le_of_ble_eq_true rfl) hR.2⟩ (Nat.le_of_ble_eq_true rfl) dL_law_874 ?_
  refine g_aload_n K 2 dL_law_877 rfl rfl ?_
  refine g_arg K S 1 (by decide) (by omega) dL_law_878 dL_law_879 dL_law_880 dL_law_881 dL_law_882 ?_
  refine g_cvi (As := [.int (xs (i + 1))]) (rest := [.int r]) K (m_X7_restore h2) yv_X7_restore ml_L_103 rfl rfl rfl (e_ControlRegisterModel kd_132) ltN_132 rfl rfl ⟨Nat.le_trans (Nat.le_of_ble_eq_true rfl) hR.1, Nat.le_trans (Nat.le_of_ble_eq_true rfl) hR.2⟩ (Nat.le_of_ble_eq_true rfl) dL_law_883 ?_
  exact g_icmp_eq (tgt := 914) K dL_law_886 (by decide) (fun _ => kk) (fun c => absurd rfl c)
set_option maxRecDepth 20000 in
set_option maxHeartbeats 4000000 in
theorem lc_count (K : Cok X cL_law 4 RL) (hR : 9 ≤ X.R.frames ∧ 342 ≤ X.R.locals) (S : SCR X b L xs) (hi : i + 6 ≤ L) (hI : INV σ) (kk : ∀ σ', INV σ' → G X 4 914 (lvL X b i) [] σ') : G X 4 891 (lvL X b i) [] σ := by
  obtain ⟨r, s1, s2, h1, h2, h3⟩ := s_count hI (xs (i + 1))
  have kk := kk s2 h3
  refine g_aload_n K 1 dL_law_891 rfl rfl ?_
  refine g_arg K S 1 (by decide) (by omega) dL_law_892 dL_law_893 dL_law_894 dL_law_895 dL_law_896 ?_
  refine g_cvi (As := [.int (xs (i + 1))]) (rest := []) K (m_X6_count h1) yv_X6_count ml_L_104 rfl rfl rfl (e_ControlRegister kd_0) ltN_0 rfl rfl ⟨Nat.le_trans (Nat.le_of_ble_eq_true rfl) hR.1, Nat.le_trans (Nat.le_of_ble_eq_true rfl) hR.2⟩ (Nat.le_of_ble_eq_true rfl) dL_law_897 ?_
  refine g_aload_n K 2 dL_law_900 rfl rfl ?_
  refine g_arg K S 1 (by decide) (by omega) dL_law_901 dL_law_902 dL_law_903 dL_law_904 dL_law_905 ?_
  refine g_cvi (As := [.int (xs (i + 1))]) (rest := [.int r]) K (m_X7_count h2) yv_X7_count ml_L_107 rfl rfl rfl (e_ControlRegisterModel kd_132) ltN_132 rfl rfl ⟨Nat.le_trans (Nat.le_of_ble_eq_true rfl) hR.1, Nat.le_trans (Nat.le_of_ble_eq_true rfl) hR.2⟩ (Nat.le_of_ble_eq_true rfl) dL_law_906 ?_
  exact g_icmp_eq (tgt := 914) K dL_law_909 (by decide) (fun _ => kk) (fun c => absurd rfl c)
end
theorem and31 (x : Int32) : ∃ k, k < 32 ∧ x &&& 31 = nI k := by
  refine ⟨(x &&& 31).toBitVec.toNat, ?_, ?_⟩
  · have e : (x &&& 31).toBitVec = x.toBitVec &&& 31#32 := rfl
    rw [e, BitVec.toNat_and]
    exact Nat.lt_of_le_of_lt Nat.and_le_right (by decide)
  · apply Int32.toBitVec_inj.mp
    show _ = BitVec.ofNat 32 _
    rw [BitVec.ofNat_toNat]
    simp
theorem gt_c {L i : Nat} (hL : L ≤ 3072) (hi : i < 4000) (h : ¬ nI L - 6 < nI i) : i + 6 ≤ L := by
  by_cases c : L < 6
  · exfalso
    apply h
    rw [Int32.lt_iff_toInt_lt, c_ti (by omega)]
    rcases (show L = 0 ∨ L = 1 ∨ L = 2 ∨ L = 3 ∨ L = 4 ∨ L = 5 by omega) with rfl | rfl | rfl | rfl | rfl | rfl <;> (show (_ : Int) < _; exact Int.lt_of_lt_of_le (by decide) (Int.natCast_nonneg i))
  · rw [li6, c_sub (by omega), c_lt (by omega) (by omega)] at h
    omega
set_option maxRecDepth 20000 in
set_option maxHeartbeats 4000000 in
theorem law_loop {X : Ctx} {b L : Nat} {xs : Nat → Int32} (K : Cok X cL_law 4 RL) (hR : 9 ≤ X.R.frames ∧ 342 ≤ X.R.locals) (S : SCR X b L xs) (hend : ∀ (pc : Nat) (lv : List (Nat × Value)) (σ : Sg), decode cL_law pc = .ok (.ireturn, 1) → G X 4 pc lv [.int 1] σ) : ∀ (n i : Nat) (σ : Sg), L < i + n → i ≤ L → INV σ → G X 4 18 (lvL X b i) [] σ := by
  have hL := S.2.2.2
  intro n
  induction n with
  | zero => intro i σ h1 h2 _; omega
  | succ n ih =>
    intro i σ h1 h2 hI
    refine g_iload_n K 3 dL_law_18 rfl rfl ?_
    refine g_aload_n K 0 dL_law_19 rfl rfl ?_
    refine g_slen K S dL_law_20 ?_
    refine g_bipush (v := 6) K dL_law_21 (by decide) ?_
    refine g_isub K dL_law_23 ?_
    refine g_icmp_gt (tgt := 920) K dL_law_24 (by decide) (fun _ => ?_) (fun c => ?_)
    · refine g_iconst (v := 1) K dL_law_920 (by decide) ?_
      exact hend 921 _ _ dL_law_921
    · have hi := gt_c hL (by omega) c
      have kk : ∀ σ', INV σ' → G X 4 914 (lvL X b i) [] σ' := fun σ' hI' => by
        refine g_iinc (v := nI (i + 6)) (lv' := [(3, .int (nI (i + 6))), (0, .ref b), (1, .ref (X.ad 0)), (2, .ref (X.ad 132))]) K 3 dL_law_914 rfl (c_add i 6) (by decide) rfl ?_
        refine g_goto (tgt := 18) K dL_law_917 (by decide) ?_
        exact fun H locs ls hw hl => ih (i + 6) σ' (by omega) (by omega) hI' H locs ls hw (lv_sub hl [1, 2, 3, 0] rfl)
      refine g_aload_n K 0 dL_law_27 rfl rfl ?_
      refine g_iload_n K 3 dL_law_28 rfl rfl ?_
      refine g_sld K S (show i < L by omega) dL_law_29 ?_
      refine g_bipush (v := 31) K dL_law_30 (by decide) ?_
      refine g_iand K dL_law_32 ?_
      obtain ⟨k, hk, hx⟩ := and31 (xs i)
      by_cases c22 : k < 22
      · rcases (show k = 0 ∨ k = 1 ∨ k = 2 ∨ k = 3 ∨ k = 4 ∨ k = 5 ∨ k = 6 ∨ k = 7 ∨ k = 8 ∨ k = 9 ∨ k = 10 ∨ k = 11 ∨ k = 12 ∨ k = 13 ∨ k = 14 ∨ k = 15 ∨ k = 16 ∨ k = 17 ∨ k = 18 ∨ k = 19 ∨ k = 20 ∨ k = 21 by omega) with rfl | rfl | rfl | rfl | rfl | rfl | rfl | rfl | rfl | rfl | rfl | rfl | rfl | rfl | rfl | rfl | rfl | rfl | rfl | rfl | rfl | rfl
        · exact g_tableIn (tgt := 136) (y := nI 0) K dL_law_33 hx (by decide) (by decide) rfl (by decide) (lc_sellShares K hR S hi hI kk)
        · exact g_tableIn (tgt := 199) (y := nI 1) K dL_law_33 hx (by decide) (by decide) rfl (by decide) (lc_sellVotes K hR S hi hI kk)
        · exact g_tableIn (tgt := 262) (y := nI 2) K dL_law_33 hx (by decide) (by decide) rfl (by decide) (lc_veto K hR S hi hI kk)
        · exact g_tableIn (tgt := 315) (y := nI 3) K dL_law_33 hx (by decide) (by decide) rfl (by decide) (lc_cancel K hR S hi hI kk)
        · exact g_tableIn (tgt := 338) (y := nI 4) K dL_law_33 hx (by decide) (by decide) rfl (by decide) (lc_told K hR S hi hI kk)
        · exact g_tableIn (tgt := 371) (y := nI 5) K dL_law_33 hx (by decide) (by decide) rfl (by decide) (lc_look K hR S hi hI kk)
        · exact g_tableIn (tgt := 394) (y := nI 6) K dL_law_33 hx (by decide) (by decide) rfl (by decide) (lc_rule K hR S hi hI kk)
        · exact g_tableIn (tgt := 427) (y := nI 7) K dL_law_33 hx (by decide) (by decide) rfl (by decide) (lc_holds K hR S hi hI kk)
        · exact g_tableIn (tgt := 470) (y := nI 8) K dL_law_33 hx (by decide) (by decide) rfl (by decide) (lc_controls K hR S hi hI kk)
        · exact g_tableIn (tgt := 493) (y := nI 9) K dL_law_33 hx (by decide) (by decide) rfl (by decide) (lc_how K hR S hi hI kk)
        · exact g_tableIn (tgt := 536) (y := nI 10) K dL_law_33 hx (by decide) (by decide) rfl (by decide) (lc_above K hR S hi hI kk)
        · exact g_tableIn (tgt := 569) (y := nI 11) K dL_law_33 hx (by decide) (by decide) rfl (by decide) (lc_when K hR S hi hI kk)
        · exact g_tableIn (tgt := 612) (y := nI 12) K dL_law_33 hx (by decide) (by decide) rfl (by decide) (lc_fewest K hR S hi hI kk)
        · exact g_tableIn (tgt := 655) (y := nI 13) K dL_law_33 hx (by decide) (by decide) rfl (by decide) (lc_event K hR S hi hI kk)
        · exact g_tableIn (tgt := 688) (y := nI 14) K dL_law_33 hx (by decide) (by decide) rfl (by decide) (lc_stake K hR S hi hI kk)
        · exact g_tableIn (tgt := 732) (y := nI 15) K dL_law_33 hx (by decide) (by decide) rfl (by decide) (lc_nobody K hR S hi hI kk)
        · exact g_tableIn (tgt := 766) (y := nI 16) K dL_law_33 hx (by decide) (by decide) rfl (by decide) (lc_ranked K hR S hi hI kk)
        · exact g_tableIn (tgt := 799) (y := nI 17) K dL_law_33 hx (by decide) (by decide) rfl (by decide) (lc_owners K hR S hi hI kk)
        · exact g_tableIn (tgt := 822) (y := nI 18) K dL_law_33 hx (by decide) (by decide) rfl (by decide) (lc_circle K hR S hi hI kk)
        · exact g_tableIn (tgt := 845) (y := nI 19) K dL_law_33 hx (by decide) (by decide) rfl (by decide) (lc_image K hR S hi hI kk)
        · exact g_tableIn (tgt := 868) (y := nI 20) K dL_law_33 hx (by decide) (by decide) rfl (by decide) (lc_restore K hR S hi hI kk)
        · exact g_tableIn (tgt := 891) (y := nI 21) K dL_law_33 hx (by decide) (by decide) rfl (by decide) (lc_count K hR S hi hI kk)
      · refine g_tableOut (tgt := 914) K dL_law_33 (Or.inr ?_) (by decide) (kk σ hI)
        rw [hx, c_ti (by omega)]
        omega
