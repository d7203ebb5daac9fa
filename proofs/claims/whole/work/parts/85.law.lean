/-! the law's walk -/
section LW
variable {K : zK} {G : zG} {nm : String} {Q : State → Prop} {cells slots : Nat} {M M' : zM} {N a b t L i : Nat} {xs : Nat → Int32}
theorem lc_0 (ok : zOk K G ⟨RL, nm, ""⟩ cL_law 4 room_1 ret) (hc : cells ≤ 600000) (hs : slots ≤ 7302250) (hX : va_X t L xs K.2.2.2.2.1 G.2.2) (hbl : t < G.2.2.size) (hL : L ≤ 2560) (hi : i + 5 ≤ L) (hab : a + 672 ≤ b) (h : zLM G M a b M') (hk : ∀ M2, zLM G M a b M2 → zW K G 4 Q cells slots M2 N 936 [(3, .int (nI i)), (2, .ref b), (1, .ref a), (0, .ref t)] []) : zW K G 4 Q cells slots M' N 152 [(3, .int (nI i)), (2, .ref b), (1, .ref a), (0, .ref t)] [] := by
  obtain ⟨fa, hMa⟩ := zLM_a h
  obtain ⟨r, M1, M2, hC, ⟨fb, hMb⟩, hR, hLM⟩ := op_set K.2.1 G M a b N M' hab h (xs (i + 1)) (xs (i + 2))
  refine r_aload_n ok dL_law_152 2 rfl rfl ?_
  refine r_aload_n ok dL_law_153 3 rfl rfl ?_
  refine r_iload_n ok dL_law_154 0 rfl rfl ?_
  refine r_iconst ok (nI 1) dL_law_155 (by rfl) ?_
  refine r_iaddN ok dL_law_156 ?_
  refine r_sld ok hX hbl (show i + 1 < L by omega) (by omega) dL_law_157 ?_
  refine r_aload_n ok dL_law_158 3 rfl rfl ?_
  refine r_iload_n ok dL_law_159 0 rfl rfl ?_
  refine r_iconst ok (nI 2) dL_law_160 (by rfl) ?_
  refine r_iaddN ok dL_law_161 ?_
  refine r_sld ok hX hbl (show i + 2 < L by omega) (by omega) dL_law_162 ?_
  refine r_cV ok mi_X5_set ci_X5 ml_L_13 im_X5_set se_X5_set dL_law_163 hC hMa rfl rfl ⟨Nat.le_of_ble_eq_true rfl, Nat.le_of_ble_eq_true rfl⟩ (Nat.le_of_ble_eq_true rfl) ⟨hc, hs⟩ ?_
  refine r_aload_n ok dL_law_166 1 rfl rfl ?_
  refine r_aload_n ok dL_law_167 3 rfl rfl ?_
  refine r_iload_n ok dL_law_168 0 rfl rfl ?_
  refine r_iconst ok (nI 1) dL_law_169 (by rfl) ?_
  refine r_iaddN ok dL_law_170 ?_
  refine r_sld ok hX hbl (show i + 1 < L by omega) (by omega) dL_law_171 ?_
  refine r_aload_n ok dL_law_172 3 rfl rfl ?_
  refine r_iload_n ok dL_law_173 0 rfl rfl ?_
  refine r_iconst ok (nI 2) dL_law_174 (by rfl) ?_
  refine r_iaddN ok dL_law_175 ?_
  refine r_sld ok hX hbl (show i + 2 < L by omega) (by omega) dL_law_176 ?_
  refine r_cV ok mi_X6_set ci_X6 ml_L_17 im_X6_set se_X6_set dL_law_177 hR hMb rfl rfl ⟨Nat.le_of_ble_eq_true rfl, Nat.le_of_ble_eq_true rfl⟩ (Nat.le_of_ble_eq_true rfl) ⟨hc, hs⟩ ?_
  exact r_icmp_eq ok 936 dL_law_180 (by decide) (fun _ => hk M2 hLM) (fun c => absurd rfl c)
theorem lc_1 (ok : zOk K G ⟨RL, nm, ""⟩ cL_law 4 room_1 ret) (hc : cells ≤ 600000) (hs : slots ≤ 7302250) (hX : va_X t L xs K.2.2.2.2.1 G.2.2) (hbl : t < G.2.2.size) (hL : L ≤ 2560) (hi : i + 5 ≤ L) (hab : a + 672 ≤ b) (h : zLM G M a b M') (hk : ∀ M2, zLM G M a b M2 → zW K G 4 Q cells slots M2 N 936 [(3, .int (nI i)), (2, .ref b), (1, .ref a), (0, .ref t)] []) : zW K G 4 Q cells slots M' N 185 [(3, .int (nI i)), (2, .ref b), (1, .ref a), (0, .ref t)] [] := by
  obtain ⟨fa, hMa⟩ := zLM_a h
  obtain ⟨r, M1, M2, hC, ⟨fb, hMb⟩, hR, hLM⟩ := op_snap K.2.1 G M a b N M' hab h (xs (i + 1)) (xs (i + 2))
  refine r_aload_n ok dL_law_185 2 rfl rfl ?_
  refine r_aload_n ok dL_law_186 3 rfl rfl ?_
  refine r_iload_n ok dL_law_187 0 rfl rfl ?_
  refine r_iconst ok (nI 1) dL_law_188 (by rfl) ?_
  refine r_iaddN ok dL_law_189 ?_
  refine r_sld ok hX hbl (show i + 1 < L by omega) (by omega) dL_law_190 ?_
  refine r_aload_n ok dL_law_191 3 rfl rfl ?_
  refine r_iload_n ok dL_law_192 0 rfl rfl ?_
  refine r_iconst ok (nI 2) dL_law_193 (by rfl) ?_
  refine r_iaddN ok dL_law_194 ?_
  refine r_sld ok hX hbl (show i + 2 < L by omega) (by omega) dL_law_195 ?_
  refine r_cV ok mi_X5_snap ci_X5 ml_L_18 im_X5_snap se_X5_snap dL_law_196 hC hMa rfl rfl ⟨Nat.le_of_ble_eq_true rfl, Nat.le_of_ble_eq_true rfl⟩ (Nat.le_of_ble_eq_true rfl) ⟨hc, hs⟩ ?_
  refine r_aload_n ok dL_law_199 1 rfl rfl ?_
  refine r_aload_n ok dL_law_200 3 rfl rfl ?_
  refine r_iload_n ok dL_law_201 0 rfl rfl ?_
  refine r_iconst ok (nI 1) dL_law_202 (by rfl) ?_
  refine r_iaddN ok dL_law_203 ?_
  refine r_sld ok hX hbl (show i + 1 < L by omega) (by omega) dL_law_204 ?_
  refine r_aload_n ok dL_law_205 3 rfl rfl ?_
  refine r_iload_n ok dL_law_206 0 rfl rfl ?_
  refine r_iconst ok (nI 2) dL_law_207 (by rfl) ?_
  refine r_iaddN ok dL_law_208 ?_
  refine r_sld ok hX hbl (show i + 2 < L by omega) (by omega) dL_law_209 ?_
  refine r_cV ok mi_X6_snap ci_X6 ml_L_21 im_X6_snap se_X6_snap dL_law_210 hR hMb rfl rfl ⟨Nat.le_of_ble_eq_true rfl, Nat.le_of_ble_eq_true rfl⟩ (Nat.le_of_ble_eq_true rfl) ⟨hc, hs⟩ ?_
  exact r_icmp_eq ok 936 dL_law_213 (by decide) (fun _ => hk M2 hLM) (fun c => absurd rfl c)
theorem lc_2 (ok : zOk K G ⟨RL, nm, ""⟩ cL_law 4 room_1 ret) (hc : cells ≤ 600000) (hs : slots ≤ 7302250) (hX : va_X t L xs K.2.2.2.2.1 G.2.2) (hbl : t < G.2.2.size) (hL : L ≤ 2560) (hi : i + 5 ≤ L) (hab : a + 672 ≤ b) (h : zLM G M a b M') (hk : ∀ M2, zLM G M a b M2 → zW K G 4 Q cells slots M2 N 936 [(3, .int (nI i)), (2, .ref b), (1, .ref a), (0, .ref t)] []) : zW K G 4 Q cells slots M' N 218 [(3, .int (nI i)), (2, .ref b), (1, .ref a), (0, .ref t)] [] := by
  obtain ⟨fa, hMa⟩ := zLM_a h
  obtain ⟨r, M1, M2, hC, ⟨fb, hMb⟩, hR, hLM⟩ := op_fit K.2.1 G M a b N M' hab h (xs (i + 1)) (xs (i + 2)) (xs (i + 3))
  refine r_aload_n ok dL_law_218 2 rfl rfl ?_
  refine r_aload_n ok dL_law_219 3 rfl rfl ?_
  refine r_iload_n ok dL_law_220 0 rfl rfl ?_
  refine r_iconst ok (nI 1) dL_law_221 (by rfl) ?_
  refine r_iaddN ok dL_law_222 ?_
  refine r_sld ok hX hbl (show i + 1 < L by omega) (by omega) dL_law_223 ?_
  refine r_aload_n ok dL_law_224 3 rfl rfl ?_
  refine r_iload_n ok dL_law_225 0 rfl rfl ?_
  refine r_iconst ok (nI 2) dL_law_226 (by rfl) ?_
  refine r_iaddN ok dL_law_227 ?_
  refine r_sld ok hX hbl (show i + 2 < L by omega) (by omega) dL_law_228 ?_
  refine r_aload_n ok dL_law_229 3 rfl rfl ?_
  refine r_iload_n ok dL_law_230 0 rfl rfl ?_
  refine r_iconst ok (nI 3) dL_law_231 (by rfl) ?_
  refine r_iaddN ok dL_law_232 ?_
  refine r_sld ok hX hbl (show i + 3 < L by omega) (by omega) dL_law_233 ?_
  refine r_cV ok mi_X5_fit ci_X5 ml_L_22 im_X5_fit se_X5_fit dL_law_234 hC hMa rfl rfl ⟨Nat.le_of_ble_eq_true rfl, Nat.le_of_ble_eq_true rfl⟩ (Nat.le_of_ble_eq_true rfl) ⟨hc, hs⟩ ?_
  refine r_aload_n ok dL_law_237 1 rfl rfl ?_
  refine r_aload_n ok dL_law_238 3 rfl rfl ?_
  refine r_iload_n ok dL_law_239 0 rfl rfl ?_
  refine r_iconst ok (nI 1) dL_law_240 (by rfl) ?_
  refine r_iaddN ok dL_law_241 ?_
  refine r_sld ok hX hbl (show i + 1 < L by omega) (by omega) dL_law_242 ?_
  refine r_aload_n ok dL_law_243 3 rfl rfl ?_
  refine r_iload_n ok dL_law_244 0 rfl rfl ?_
  refine r_iconst ok (nI 2) dL_law_245 (by rfl) ?_
  refine r_iaddN ok dL_law_246 ?_
  refine r_sld ok hX hbl (show i + 2 < L by omega) (by omega) dL_law_247 ?_
  refine r_aload_n ok dL_law_248 3 rfl rfl ?_
  refine r_iload_n ok dL_law_249 0 rfl rfl ?_
  refine r_iconst ok (nI 3) dL_law_250 (by rfl) ?_
  refine r_iaddN ok dL_law_251 ?_
  refine r_sld ok hX hbl (show i + 3 < L by omega) (by omega) dL_law_252 ?_
  refine r_cV ok mi_X6_fit ci_X6 ml_L_26 im_X6_fit se_X6_fit dL_law_253 hR hMb rfl rfl ⟨Nat.le_of_ble_eq_true rfl, Nat.le_of_ble_eq_true rfl⟩ (Nat.le_of_ble_eq_true rfl) ⟨hc, hs⟩ ?_
  exact r_icmp_eq ok 936 dL_law_256 (by decide) (fun _ => hk M2 hLM) (fun c => absurd rfl c)
theorem lc_3 (ok : zOk K G ⟨RL, nm, ""⟩ cL_law 4 room_1 ret) (hc : cells ≤ 600000) (hs : slots ≤ 7302250) (hX : va_X t L xs K.2.2.2.2.1 G.2.2) (hbl : t < G.2.2.size) (hL : L ≤ 2560) (hi : i + 5 ≤ L) (hab : a + 672 ≤ b) (h : zLM G M a b M') (hk : ∀ M2, zLM G M a b M2 → zW K G 4 Q cells slots M2 N 936 [(3, .int (nI i)), (2, .ref b), (1, .ref a), (0, .ref t)] []) : zW K G 4 Q cells slots M' N 261 [(3, .int (nI i)), (2, .ref b), (1, .ref a), (0, .ref t)] [] := by
  obtain ⟨fa, hMa⟩ := zLM_a h
  obtain ⟨r, M1, M2, hC, ⟨fb, hMb⟩, hR, hLM⟩ := op_want K.2.1 G M a b N M' hab h (xs (i + 1)) (xs (i + 2)) (xs (i + 3))
  refine r_aload_n ok dL_law_261 2 rfl rfl ?_
  refine r_aload_n ok dL_law_262 3 rfl rfl ?_
  refine r_iload_n ok dL_law_263 0 rfl rfl ?_
  refine r_iconst ok (nI 1) dL_law_264 (by rfl) ?_
  refine r_iaddN ok dL_law_265 ?_
  refine r_sld ok hX hbl (show i + 1 < L by omega) (by omega) dL_law_266 ?_
  refine r_aload_n ok dL_law_267 3 rfl rfl ?_
  refine r_iload_n ok dL_law_268 0 rfl rfl ?_
  refine r_iconst ok (nI 2) dL_law_269 (by rfl) ?_
  refine r_iaddN ok dL_law_270 ?_
  refine r_sld ok hX hbl (show i + 2 < L by omega) (by omega) dL_law_271 ?_
  refine r_aload_n ok dL_law_272 3 rfl rfl ?_
  refine r_iload_n ok dL_law_273 0 rfl rfl ?_
  refine r_iconst ok (nI 3) dL_law_274 (by rfl) ?_
  refine r_iaddN ok dL_law_275 ?_
  refine r_sld ok hX hbl (show i + 3 < L by omega) (by omega) dL_law_276 ?_
  refine r_cV ok mi_X5_want ci_X5 ml_L_27 im_X5_want se_X5_want dL_law_277 hC hMa rfl rfl ⟨Nat.le_of_ble_eq_true rfl, Nat.le_of_ble_eq_true rfl⟩ (Nat.le_of_ble_eq_true rfl) ⟨hc, hs⟩ ?_
  refine r_aload_n ok dL_law_280 1 rfl rfl ?_
  refine r_aload_n ok dL_law_281 3 rfl rfl ?_
  refine r_iload_n ok dL_law_282 0 rfl rfl ?_
  refine r_iconst ok (nI 1) dL_law_283 (by rfl) ?_
  refine r_iaddN ok dL_law_284 ?_
  refine r_sld ok hX hbl (show i + 1 < L by omega) (by omega) dL_law_285 ?_
  refine r_aload_n ok dL_law_286 3 rfl rfl ?_
  refine r_iload_n ok dL_law_287 0 rfl rfl ?_
  refine r_iconst ok (nI 2) dL_law_288 (by rfl) ?_
  refine r_iaddN ok dL_law_289 ?_
  refine r_sld ok hX hbl (show i + 2 < L by omega) (by omega) dL_law_290 ?_
  refine r_aload_n ok dL_law_291 3 rfl rfl ?_
  refine r_iload_n ok dL_law_292 0 rfl rfl ?_
  refine r_iconst ok (nI 3) dL_law_293 (by rfl) ?_
  refine r_iaddN ok dL_law_294 ?_
  refine r_sld ok hX hbl (show i + 3 < L by omega) (by omega) dL_law_295 ?_
  refine r_cV ok mi_X6_want ci_X6 ml_L_30 im_X6_want se_X6_want dL_law_296 hR hMb rfl rfl ⟨Nat.le_of_ble_eq_true rfl, Nat.le_of_ble_eq_true rfl⟩ (Nat.le_of_ble_eq_true rfl) ⟨hc, hs⟩ ?_
  exact r_icmp_eq ok 936 dL_law_299 (by decide) (fun _ => hk M2 hLM) (fun c => absurd rfl c)
theorem lc_4 (ok : zOk K G ⟨RL, nm, ""⟩ cL_law 4 room_1 ret) (hc : cells ≤ 600000) (hs : slots ≤ 7302250) (hX : va_X t L xs K.2.2.2.2.1 G.2.2) (hbl : t < G.2.2.size) (hL : L ≤ 2560) (hi : i + 5 ≤ L) (hab : a + 672 ≤ b) (h : zLM G M a b M') (hk : ∀ M2, zLM G M a b M2 → zW K G 4 Q cells slots M2 N 936 [(3, .int (nI i)), (2, .ref b), (1, .ref a), (0, .ref t)] []) : zW K G 4 Q cells slots M' N 304 [(3, .int (nI i)), (2, .ref b), (1, .ref a), (0, .ref t)] [] := by
  obtain ⟨fa, hMa⟩ := zLM_a h
  obtain ⟨r, M1, M2, hC, ⟨fb, hMb⟩, hR, hLM⟩ := op_read K.2.1 G M a b N M' hab h 
  refine r_aload_n ok dL_law_304 2 rfl rfl ?_
  refine r_cV ok mi_X5_read ci_X5 ml_L_31 im_X5_read se_X5_read dL_law_305 hC hMa rfl rfl ⟨Nat.le_of_ble_eq_true rfl, Nat.le_of_ble_eq_true rfl⟩ (Nat.le_of_ble_eq_true rfl) ⟨hc, hs⟩ ?_
  refine r_aload_n ok dL_law_308 1 rfl rfl ?_
  refine r_cV ok mi_X6_read ci_X6 ml_L_35 im_X6_read se_X6_read dL_law_309 hR hMb rfl rfl ⟨Nat.le_of_ble_eq_true rfl, Nat.le_of_ble_eq_true rfl⟩ (Nat.le_of_ble_eq_true rfl) ⟨hc, hs⟩ ?_
  exact r_icmp_eq ok 936 dL_law_312 (by decide) (fun _ => hk M2 hLM) (fun c => absurd rfl c)
theorem lc_5 (ok : zOk K G ⟨RL, nm, ""⟩ cL_law 4 room_1 ret) (hc : cells ≤ 600000) (hs : slots ≤ 7302250) (hX : va_X t L xs K.2.2.2.2.1 G.2.2) (hbl : t < G.2.2.size) (hL : L ≤ 2560) (hi : i + 5 ≤ L) (hab : a + 672 ≤ b) (h : zLM G M a b M') (hk : ∀ M2, zLM G M a b M2 → zW K G 4 Q cells slots M2 N 936 [(3, .int (nI i)), (2, .ref b), (1, .ref a), (0, .ref t)] []) : zW K G 4 Q cells slots M' N 317 [(3, .int (nI i)), (2, .ref b), (1, .ref a), (0, .ref t)] [] := by
  obtain ⟨fa, hMa⟩ := zLM_a h
  obtain ⟨r, M1, M2, hC, ⟨fb, hMb⟩, hR, hLM⟩ := op_pay K.2.1 G M a b N M' hab h (xs (i + 1)) (xs (i + 2))
  refine r_aload_n ok dL_law_317 2 rfl rfl ?_
  refine r_aload_n ok dL_law_318 3 rfl rfl ?_
  refine r_iload_n ok dL_law_319 0 rfl rfl ?_
  refine r_iconst ok (nI 1) dL_law_320 (by rfl) ?_
  refine r_iaddN ok dL_law_321 ?_
  refine r_sld ok hX hbl (show i + 1 < L by omega) (by omega) dL_law_322 ?_
  refine r_aload_n ok dL_law_323 3 rfl rfl ?_
  refine r_iload_n ok dL_law_324 0 rfl rfl ?_
  refine r_iconst ok (nI 2) dL_law_325 (by rfl) ?_
  refine r_iaddN ok dL_law_326 ?_
  refine r_sld ok hX hbl (show i + 2 < L by omega) (by omega) dL_law_327 ?_
  refine r_cV ok mi_X5_pay ci_X5 ml_L_36 im_X5_pay se_X5_pay dL_law_328 hC hMa rfl rfl ⟨Nat.le_of_ble_eq_true rfl, Nat.le_of_ble_eq_true rfl⟩ (Nat.le_of_ble_eq_true rfl) ⟨hc, hs⟩ ?_
  refine r_aload_n ok dL_law_331 1 rfl rfl ?_
  refine r_aload_n ok dL_law_332 3 rfl rfl ?_
  refine r_iload_n ok dL_law_333 0 rfl rfl ?_
  refine r_iconst ok (nI 1) dL_law_334 (by rfl) ?_
  refine r_iaddN ok dL_law_335 ?_
  refine r_sld ok hX hbl (show i + 1 < L by omega) (by omega) dL_law_336 ?_
  refine r_aload_n ok dL_law_337 3 rfl rfl ?_
  refine r_iload_n ok dL_law_338 0 rfl rfl ?_
  refine r_iconst ok (nI 2) dL_law_339 (by rfl) ?_
  refine r_iaddN ok dL_law_340 ?_
  refine r_sld ok hX hbl (show i + 2 < L by omega) (by omega) dL_law_341 ?_
  refine r_cV ok mi_X6_pay ci_X6 ml_L_39 im_X6_pay se_X6_pay dL_law_342 hR hMb rfl rfl ⟨Nat.le_of_ble_eq_true rfl, Nat.le_of_ble_eq_true rfl⟩ (Nat.le_of_ble_eq_true rfl) ⟨hc, hs⟩ ?_
  exact r_icmp_eq ok 936 dL_law_345 (by decide) (fun _ => hk M2 hLM) (fun c => absurd rfl c)
theorem lc_6 (ok : zOk K G ⟨RL, nm, ""⟩ cL_law 4 room_1 ret) (hc : cells ≤ 600000) (hs : slots ≤ 7302250) (hX : va_X t L xs K.2.2.2.2.1 G.2.2) (hbl : t < G.2.2.size) (hL : L ≤ 2560) (hi : i + 5 ≤ L) (hab : a + 672 ≤ b) (h : zLM G M a b M') (hk : ∀ M2, zLM G M a b M2 → zW K G 4 Q cells slots M2 N 936 [(3, .int (nI i)), (2, .ref b), (1, .ref a), (0, .ref t)] []) : zW K G 4 Q cells slots M' N 350 [(3, .int (nI i)), (2, .ref b), (1, .ref a), (0, .ref t)] [] := by
  obtain ⟨fa, hMa⟩ := zLM_a h
  obtain ⟨r, M1, M2, hC, ⟨fb, hMb⟩, hR, hLM⟩ := op_give K.2.1 G M a b N M' hab h (xs (i + 1)) (xs (i + 2)) (xs (i + 3)) (xs (i + 4))
  refine r_aload_n ok dL_law_350 2 rfl rfl ?_
  refine r_aload_n ok dL_law_351 3 rfl rfl ?_
  refine r_iload_n ok dL_law_352 0 rfl rfl ?_
  refine r_iconst ok (nI 1) dL_law_353 (by rfl) ?_
  refine r_iaddN ok dL_law_354 ?_
  refine r_sld ok hX hbl (show i + 1 < L by omega) (by omega) dL_law_355 ?_
  refine r_aload_n ok dL_law_356 3 rfl rfl ?_
  refine r_iload_n ok dL_law_357 0 rfl rfl ?_
  refine r_iconst ok (nI 2) dL_law_358 (by rfl) ?_
  refine r_iaddN ok dL_law_359 ?_
  refine r_sld ok hX hbl (show i + 2 < L by omega) (by omega) dL_law_360 ?_
  refine r_aload_n ok dL_law_361 3 rfl rfl ?_
  refine r_iload_n ok dL_law_362 0 rfl rfl ?_
  refine r_iconst ok (nI 3) dL_law_363 (by rfl) ?_
  refine r_iaddN ok dL_law_364 ?_
  refine r_sld ok hX hbl (show i + 3 < L by omega) (by omega) dL_law_365 ?_
  refine r_aload_n ok dL_law_366 3 rfl rfl ?_
  refine r_iload_n ok dL_law_367 0 rfl rfl ?_
  refine r_iconst ok (nI 4) dL_law_368 (by rfl) ?_
  refine r_iaddN ok dL_law_369 ?_
  refine r_sld ok hX hbl (show i + 4 < L by omega) (by omega) dL_law_370 ?_
  refine r_cV ok mi_X5_give ci_X5 ml_L_40 im_X5_give se_X5_give dL_law_371 hC hMa rfl rfl ⟨Nat.le_of_ble_eq_true rfl, Nat.le_of_ble_eq_true rfl⟩ (Nat.le_of_ble_eq_true rfl) ⟨hc, hs⟩ ?_
  refine r_aload_n ok dL_law_374 1 rfl rfl ?_
  refine r_aload_n ok dL_law_375 3 rfl rfl ?_
  refine r_iload_n ok dL_law_376 0 rfl rfl ?_
  refine r_iconst ok (nI 1) dL_law_377 (by rfl) ?_
  refine r_iaddN ok dL_law_378 ?_
  refine r_sld ok hX hbl (show i + 1 < L by omega) (by omega) dL_law_379 ?_
  refine r_aload_n ok dL_law_380 3 rfl rfl ?_
  refine r_iload_n ok dL_law_381 0 rfl rfl ?_
  refine r_iconst ok (nI 2) dL_law_382 (by rfl) ?_
  refine r_iaddN ok dL_law_383 ?_
  refine r_sld ok hX hbl (show i + 2 < L by omega) (by omega) dL_law_384 ?_
  refine r_aload_n ok dL_law_385 3 rfl rfl ?_
  refine r_iload_n ok dL_law_386 0 rfl rfl ?_
  refine r_iconst ok (nI 3) dL_law_387 (by rfl) ?_
  refine r_iaddN ok dL_law_388 ?_
  refine r_sld ok hX hbl (show i + 3 < L by omega) (by omega) dL_law_389 ?_
  refine r_aload_n ok dL_law_390 3 rfl rfl ?_
  refine r_iload_n ok dL_law_391 0 rfl rfl ?_
  refine r_iconst ok (nI 4) dL_law_392 (by rfl) ?_
  refine r_iaddN ok dL_law_393 ?_
  refine r_sld ok hX hbl (show i + 4 < L by omega) (by omega) dL_law_394 ?_
  refine r_cV ok mi_X6_give ci_X6 ml_L_44 im_X6_give se_X6_give dL_law_395 hR hMb rfl rfl ⟨Nat.le_of_ble_eq_true rfl, Nat.le_of_ble_eq_true rfl⟩ (Nat.le_of_ble_eq_true rfl) ⟨hc, hs⟩ ?_
  exact r_icmp_eq ok 936 dL_law_398 (by decide) (fun _ => hk M2 hLM) (fun c => absurd rfl c)
theorem lc_7 (ok : zOk K G ⟨RL, nm, ""⟩ cL_law 4 room_1 ret) (hc : cells ≤ 600000) (hs : slots ≤ 7302250) (hX : va_X t L xs K.2.2.2.2.1 G.2.2) (hbl : t < G.2.2.size) (hL : L ≤ 2560) (hi : i + 5 ≤ L) (hab : a + 672 ≤ b) (h : zLM G M a b M') (hk : ∀ M2, zLM G M a b M2 → zW K G 4 Q cells slots M2 N 936 [(3, .int (nI i)), (2, .ref b), (1, .ref a), (0, .ref t)] []) : zW K G 4 Q cells slots M' N 403 [(3, .int (nI i)), (2, .ref b), (1, .ref a), (0, .ref t)] [] := by
  obtain ⟨fa, hMa⟩ := zLM_a h
  obtain ⟨r, M1, M2, hC, ⟨fb, hMb⟩, hR, hLM⟩ := op_send K.2.1 G M a b N M' hab h (xs (i + 1))
  refine r_aload_n ok dL_law_403 2 rfl rfl ?_
  refine r_aload_n ok dL_law_404 3 rfl rfl ?_
  refine r_iload_n ok dL_law_405 0 rfl rfl ?_
  refine r_iconst ok (nI 1) dL_law_406 (by rfl) ?_
  refine r_iaddN ok dL_law_407 ?_
  refine r_sld ok hX hbl (show i + 1 < L by omega) (by omega) dL_law_408 ?_
  refine r_cV ok mi_X5_send ci_X5 ml_L_45 im_X5_send se_X5_send dL_law_409 hC hMa rfl rfl ⟨Nat.le_of_ble_eq_true rfl, Nat.le_of_ble_eq_true rfl⟩ (Nat.le_of_ble_eq_true rfl) ⟨hc, hs⟩ ?_
  refine r_aload_n ok dL_law_412 1 rfl rfl ?_
  refine r_aload_n ok dL_law_413 3 rfl rfl ?_
  refine r_iload_n ok dL_law_414 0 rfl rfl ?_
  refine r_iconst ok (nI 1) dL_law_415 (by rfl) ?_
  refine r_iaddN ok dL_law_416 ?_
  refine r_sld ok hX hbl (show i + 1 < L by omega) (by omega) dL_law_417 ?_
  refine r_cV ok mi_X6_send ci_X6 ml_L_49 im_X6_send se_X6_send dL_law_418 hR hMb rfl rfl ⟨Nat.le_of_ble_eq_true rfl, Nat.le_of_ble_eq_true rfl⟩ (Nat.le_of_ble_eq_true rfl) ⟨hc, hs⟩ ?_
  exact r_icmp_eq ok 936 dL_law_421 (by decide) (fun _ => hk M2 hLM) (fun c => absurd rfl c)
theorem lc_8 (ok : zOk K G ⟨RL, nm, ""⟩ cL_law 4 room_1 ret) (hc : cells ≤ 600000) (hs : slots ≤ 7302250) (hX : va_X t L xs K.2.2.2.2.1 G.2.2) (hbl : t < G.2.2.size) (hL : L ≤ 2560) (hi : i + 5 ≤ L) (hab : a + 672 ≤ b) (h : zLM G M a b M') (hk : ∀ M2, zLM G M a b M2 → zW K G 4 Q cells slots M2 N 936 [(3, .int (nI i)), (2, .ref b), (1, .ref a), (0, .ref t)] []) : zW K G 4 Q cells slots M' N 426 [(3, .int (nI i)), (2, .ref b), (1, .ref a), (0, .ref t)] [] := by
  obtain ⟨fa, hMa⟩ := zLM_a h
  obtain ⟨r, M1, M2, hC, ⟨fb, hMb⟩, hR, hLM⟩ := op_pass K.2.1 G M a b N M' hab h (xs (i + 1))
  refine r_aload_n ok dL_law_426 2 rfl rfl ?_
  refine r_aload_n ok dL_law_427 3 rfl rfl ?_
  refine r_iload_n ok dL_law_428 0 rfl rfl ?_
  refine r_iconst ok (nI 1) dL_law_429 (by rfl) ?_
  refine r_iaddN ok dL_law_430 ?_
  refine r_sld ok hX hbl (show i + 1 < L by omega) (by omega) dL_law_431 ?_
  refine r_cV ok mi_X5_pass ci_X5 ml_L_50 im_X5_pass se_X5_pass dL_law_432 hC hMa rfl rfl ⟨Nat.le_of_ble_eq_true rfl, Nat.le_of_ble_eq_true rfl⟩ (Nat.le_of_ble_eq_true rfl) ⟨hc, hs⟩ ?_
  refine r_aload_n ok dL_law_435 1 rfl rfl ?_
  refine r_aload_n ok dL_law_436 3 rfl rfl ?_
  refine r_iload_n ok dL_law_437 0 rfl rfl ?_
  refine r_iconst ok (nI 1) dL_law_438 (by rfl) ?_
  refine r_iaddN ok dL_law_439 ?_
  refine r_sld ok hX hbl (show i + 1 < L by omega) (by omega) dL_law_440 ?_
  refine r_cV ok mi_X6_pass ci_X6 ml_L_53 im_X6_pass se_X6_pass dL_law_441 hR hMb rfl rfl ⟨Nat.le_of_ble_eq_true rfl, Nat.le_of_ble_eq_true rfl⟩ (Nat.le_of_ble_eq_true rfl) ⟨hc, hs⟩ ?_
  exact r_icmp_eq ok 936 dL_law_444 (by decide) (fun _ => hk M2 hLM) (fun c => absurd rfl c)
theorem lc_9 (ok : zOk K G ⟨RL, nm, ""⟩ cL_law 4 room_1 ret) (hc : cells ≤ 600000) (hs : slots ≤ 7302250) (hX : va_X t L xs K.2.2.2.2.1 G.2.2) (hbl : t < G.2.2.size) (hL : L ≤ 2560) (hi : i + 5 ≤ L) (hab : a + 672 ≤ b) (h : zLM G M a b M') (hk : ∀ M2, zLM G M a b M2 → zW K G 4 Q cells slots M2 N 936 [(3, .int (nI i)), (2, .ref b), (1, .ref a), (0, .ref t)] []) : zW K G 4 Q cells slots M' N 449 [(3, .int (nI i)), (2, .ref b), (1, .ref a), (0, .ref t)] [] := by
  obtain ⟨fa, hMa⟩ := zLM_a h
  obtain ⟨r, M1, M2, hC, ⟨fb, hMb⟩, hR, hLM⟩ := op_shuffle K.2.1 G M a b N M' hab h (xs (i + 1))
  refine r_aload_n ok dL_law_449 2 rfl rfl ?_
  refine r_aload_n ok dL_law_450 3 rfl rfl ?_
  refine r_iload_n ok dL_law_451 0 rfl rfl ?_
  refine r_iconst ok (nI 1) dL_law_452 (by rfl) ?_
  refine r_iaddN ok dL_law_453 ?_
  refine r_sld ok hX hbl (show i + 1 < L by omega) (by omega) dL_law_454 ?_
  refine r_cV ok mi_X5_shuffle ci_X5 ml_L_54 im_X5_shuffle se_X5_shuffle dL_law_455 hC hMa rfl rfl ⟨Nat.le_of_ble_eq_true rfl, Nat.le_of_ble_eq_true rfl⟩ (Nat.le_of_ble_eq_true rfl) ⟨hc, hs⟩ ?_
  refine r_aload_n ok dL_law_458 1 rfl rfl ?_
  refine r_aload_n ok dL_law_459 3 rfl rfl ?_
  refine r_iload_n ok dL_law_460 0 rfl rfl ?_
  refine r_iconst ok (nI 1) dL_law_461 (by rfl) ?_
  refine r_iaddN ok dL_law_462 ?_
  refine r_sld ok hX hbl (show i + 1 < L by omega) (by omega) dL_law_463 ?_
  refine r_cV ok mi_X6_shuffle ci_X6 ml_L_57 im_X6_shuffle se_X6_shuffle dL_law_464 hR hMb rfl rfl ⟨Nat.le_of_ble_eq_true rfl, Nat.le_of_ble_eq_true rfl⟩ (Nat.le_of_ble_eq_true rfl) ⟨hc, hs⟩ ?_
  exact r_icmp_eq ok 936 dL_law_467 (by decide) (fun _ => hk M2 hLM) (fun c => absurd rfl c)
theorem lc_10 (ok : zOk K G ⟨RL, nm, ""⟩ cL_law 4 room_1 ret) (hc : cells ≤ 600000) (hs : slots ≤ 7302250) (hX : va_X t L xs K.2.2.2.2.1 G.2.2) (hbl : t < G.2.2.size) (hL : L ≤ 2560) (hi : i + 5 ≤ L) (hab : a + 672 ≤ b) (h : zLM G M a b M') (hk : ∀ M2, zLM G M a b M2 → zW K G 4 Q cells slots M2 N 936 [(3, .int (nI i)), (2, .ref b), (1, .ref a), (0, .ref t)] []) : zW K G 4 Q cells slots M' N 472 [(3, .int (nI i)), (2, .ref b), (1, .ref a), (0, .ref t)] [] := by
  obtain ⟨fa, hMa⟩ := zLM_a h
  obtain ⟨r, M1, M2, hC, ⟨fb, hMb⟩, hR, hLM⟩ := op_member K.2.1 G M a b N M' hab h (xs (i + 1)) (xs (i + 2))
  refine r_aload_n ok dL_law_472 2 rfl rfl ?_
  refine r_aload_n ok dL_law_473 3 rfl rfl ?_
  refine r_iload_n ok dL_law_474 0 rfl rfl ?_
  refine r_iconst ok (nI 1) dL_law_475 (by rfl) ?_
  refine r_iaddN ok dL_law_476 ?_
  refine r_sld ok hX hbl (show i + 1 < L by omega) (by omega) dL_law_477 ?_
  refine r_aload_n ok dL_law_478 3 rfl rfl ?_
  refine r_iload_n ok dL_law_479 0 rfl rfl ?_
  refine r_iconst ok (nI 2) dL_law_480 (by rfl) ?_
  refine r_iaddN ok dL_law_481 ?_
  refine r_sld ok hX hbl (show i + 2 < L by omega) (by omega) dL_law_482 ?_
  refine r_cV ok mi_X5_member ci_X5 ml_L_58 im_X5_member se_X5_member dL_law_483 hC hMa rfl rfl ⟨Nat.le_of_ble_eq_true rfl, Nat.le_of_ble_eq_true rfl⟩ (Nat.le_of_ble_eq_true rfl) ⟨hc, hs⟩ ?_
  refine r_aload_n ok dL_law_486 1 rfl rfl ?_
  refine r_aload_n ok dL_law_487 3 rfl rfl ?_
  refine r_iload_n ok dL_law_488 0 rfl rfl ?_
  refine r_iconst ok (nI 1) dL_law_489 (by rfl) ?_
  refine r_iaddN ok dL_law_490 ?_
  refine r_sld ok hX hbl (show i + 1 < L by omega) (by omega) dL_law_491 ?_
  refine r_aload_n ok dL_law_492 3 rfl rfl ?_
  refine r_iload_n ok dL_law_493 0 rfl rfl ?_
  refine r_iconst ok (nI 2) dL_law_494 (by rfl) ?_
  refine r_iaddN ok dL_law_495 ?_
  refine r_sld ok hX hbl (show i + 2 < L by omega) (by omega) dL_law_496 ?_
  refine r_cV ok mi_X6_member ci_X6 ml_L_61 im_X6_member se_X6_member dL_law_497 hR hMb rfl rfl ⟨Nat.le_of_ble_eq_true rfl, Nat.le_of_ble_eq_true rfl⟩ (Nat.le_of_ble_eq_true rfl) ⟨hc, hs⟩ ?_
  exact r_icmp_eq ok 936 dL_law_500 (by decide) (fun _ => hk M2 hLM) (fun c => absurd rfl c)
theorem lc_11 (ok : zOk K G ⟨RL, nm, ""⟩ cL_law 4 room_1 ret) (hc : cells ≤ 600000) (hs : slots ≤ 7302250) (hX : va_X t L xs K.2.2.2.2.1 G.2.2) (hbl : t < G.2.2.size) (hL : L ≤ 2560) (hi : i + 5 ≤ L) (hab : a + 672 ≤ b) (h : zLM G M a b M') (hk : ∀ M2, zLM G M a b M2 → zW K G 4 Q cells slots M2 N 936 [(3, .int (nI i)), (2, .ref b), (1, .ref a), (0, .ref t)] []) : zW K G 4 Q cells slots M' N 505 [(3, .int (nI i)), (2, .ref b), (1, .ref a), (0, .ref t)] [] := by
  obtain ⟨fa, hMa⟩ := zLM_a h
  by_cases hz : xs (i + 3) = 0
  · skip
    obtain ⟨r, M1, M2, hC, ⟨fb, hMb⟩, hR, hLM⟩ := op_strings K.2.1 G M a b N M' hab h (xs (i + 1)) (xs (i + 2)) false
    refine r_aload_n ok dL_law_505 2 rfl rfl ?_
    refine r_aload_n ok dL_law_506 3 rfl rfl ?_
    refine r_iload_n ok dL_law_507 0 rfl rfl ?_
    refine r_iconst ok (nI 1) dL_law_508 (by rfl) ?_
    refine r_iaddN ok dL_law_509 ?_
    refine r_sld ok hX hbl (show i + 1 < L by omega) (by omega) dL_law_510 ?_
    refine r_aload_n ok dL_law_511 3 rfl rfl ?_
    refine r_iload_n ok dL_law_512 0 rfl rfl ?_
    refine r_iconst ok (nI 2) dL_law_513 (by rfl) ?_
    refine r_iaddN ok dL_law_514 ?_
    refine r_sld ok hX hbl (show i + 2 < L by omega) (by omega) dL_law_515 ?_
    refine r_aload_n ok dL_law_516 3 rfl rfl ?_
    refine r_iload_n ok dL_law_517 0 rfl rfl ?_
    refine r_iconst ok (nI 3) dL_law_518 (by rfl) ?_
    refine r_iaddN ok dL_law_519 ?_
    refine r_sld ok hX hbl (show i + 3 < L by omega) (by omega) dL_law_520 ?_
    refine r_if_eq ok 528 dL_law_521 (by decide) (fun _ => ?_) (fun c => absurd hz c)
    refine r_iconst ok (0) dL_law_528 (by rfl) ?_
    refine r_cV ok mi_X5_strings ci_X5 ml_L_62 im_X5_strings se_X5_strings dL_law_529 hC hMa rfl rfl ⟨Nat.le_of_ble_eq_true rfl, Nat.le_of_ble_eq_true rfl⟩ (Nat.le_of_ble_eq_true rfl) ⟨hc, hs⟩ ?_
    refine r_aload_n ok dL_law_532 1 rfl rfl ?_
    refine r_aload_n ok dL_law_533 3 rfl rfl ?_
    refine r_iload_n ok dL_law_534 0 rfl rfl ?_
    refine r_iconst ok (nI 1) dL_law_535 (by rfl) ?_
    refine r_iaddN ok dL_law_536 ?_
    refine r_sld ok hX hbl (show i + 1 < L by omega) (by omega) dL_law_537 ?_
    refine r_aload_n ok dL_law_538 3 rfl rfl ?_
    refine r_iload_n ok dL_law_539 0 rfl rfl ?_
    refine r_iconst ok (nI 2) dL_law_540 (by rfl) ?_
    refine r_iaddN ok dL_law_541 ?_
    refine r_sld ok hX hbl (show i + 2 < L by omega) (by omega) dL_law_542 ?_
    refine r_aload_n ok dL_law_543 3 rfl rfl ?_
    refine r_iload_n ok dL_law_544 0 rfl rfl ?_
    refine r_iconst ok (nI 3) dL_law_545 (by rfl) ?_
    refine r_iaddN ok dL_law_546 ?_
    refine r_sld ok hX hbl (show i + 3 < L by omega) (by omega) dL_law_547 ?_
    refine r_if_eq ok 555 dL_law_548 (by decide) (fun _ => ?_) (fun c => absurd hz c)
    refine r_iconst ok (0) dL_law_555 (by rfl) ?_
    refine r_cV ok mi_X6_strings ci_X6 ml_L_66 im_X6_strings se_X6_strings dL_law_556 hR hMb rfl rfl ⟨Nat.le_of_ble_eq_true rfl, Nat.le_of_ble_eq_true rfl⟩ (Nat.le_of_ble_eq_true rfl) ⟨hc, hs⟩ ?_
    exact r_icmp_eq ok 936 dL_law_559 (by decide) (fun _ => hk M2 hLM) (fun c => absurd rfl c)
  · skip
    obtain ⟨r, M1, M2, hC, ⟨fb, hMb⟩, hR, hLM⟩ := op_strings K.2.1 G M a b N M' hab h (xs (i + 1)) (xs (i + 2)) true
    refine r_aload_n ok dL_law_505 2 rfl rfl ?_
    refine r_aload_n ok dL_law_506 3 rfl rfl ?_
    refine r_iload_n ok dL_law_507 0 rfl rfl ?_
    refine r_iconst ok (nI 1) dL_law_508 (by rfl) ?_
    refine r_iaddN ok dL_law_509 ?_
    refine r_sld ok hX hbl (show i + 1 < L by omega) (by omega) dL_law_510 ?_
    refine r_aload_n ok dL_law_511 3 rfl rfl ?_
    refine r_iload_n ok dL_law_512 0 rfl rfl ?_
    refine r_iconst ok (nI 2) dL_law_513 (by rfl) ?_
    refine r_iaddN ok dL_law_514 ?_
    refine r_sld ok hX hbl (show i + 2 < L by omega) (by omega) dL_law_515 ?_
    refine r_aload_n ok dL_law_516 3 rfl rfl ?_
    refine r_iload_n ok dL_law_517 0 rfl rfl ?_
    refine r_iconst ok (nI 3) dL_law_518 (by rfl) ?_
    refine r_iaddN ok dL_law_519 ?_
    refine r_sld ok hX hbl (show i + 3 < L by omega) (by omega) dL_law_520 ?_
    refine r_if_eq ok 528 dL_law_521 (by decide) (fun c => absurd c hz) (fun _ => ?_)
    refine r_iconst ok (1) dL_law_524 (by rfl) ?_
    refine r_goto ok 529 dL_law_525 (by decide) ?_
    refine r_cV ok mi_X5_strings ci_X5 ml_L_62 im_X5_strings se_X5_strings dL_law_529 hC hMa rfl rfl ⟨Nat.le_of_ble_eq_true rfl, Nat.le_of_ble_eq_true rfl⟩ (Nat.le_of_ble_eq_true rfl) ⟨hc, hs⟩ ?_
    refine r_aload_n ok dL_law_532 1 rfl rfl ?_
    refine r_aload_n ok dL_law_533 3 rfl rfl ?_
    refine r_iload_n ok dL_law_534 0 rfl rfl ?_
    refine r_iconst ok (nI 1) dL_law_535 (by rfl) ?_
    refine r_iaddN ok dL_law_536 ?_
    refine r_sld ok hX hbl (show i + 1 < L by omega) (by omega) dL_law_537 ?_
    refine r_aload_n ok dL_law_538 3 rfl rfl ?_
    refine r_iload_n ok dL_law_539 0 rfl rfl ?_
    refine r_iconst ok (nI 2) dL_law_540 (by rfl) ?_
    refine r_iaddN ok dL_law_541 ?_
    refine r_sld ok hX hbl (show i + 2 < L by omega) (by omega) dL_law_542 ?_
    refine r_aload_n ok dL_law_543 3 rfl rfl ?_
    refine r_iload_n ok dL_law_544 0 rfl rfl ?_
    refine r_iconst ok (nI 3) dL_law_545 (by rfl) ?_
    refine r_iaddN ok dL_law_546 ?_
    refine r_sld ok hX hbl (show i + 3 < L by omega) (by omega) dL_law_547 ?_
    refine r_if_eq ok 555 dL_law_548 (by decide) (fun c => absurd c hz) (fun _ => ?_)
    refine r_iconst ok (1) dL_law_551 (by rfl) ?_
    refine r_goto ok 556 dL_law_552 (by decide) ?_
    refine r_cV ok mi_X6_strings ci_X6 ml_L_66 im_X6_strings se_X6_strings dL_law_556 hR hMb rfl rfl ⟨Nat.le_of_ble_eq_true rfl, Nat.le_of_ble_eq_true rfl⟩ (Nat.le_of_ble_eq_true rfl) ⟨hc, hs⟩ ?_
    exact r_icmp_eq ok 936 dL_law_559 (by decide) (fun _ => hk M2 hLM) (fun c => absurd rfl c)
theorem lc_12 (ok : zOk K G ⟨RL, nm, ""⟩ cL_law 4 room_1 ret) (hc : cells ≤ 600000) (hs : slots ≤ 7302250) (hX : va_X t L xs K.2.2.2.2.1 G.2.2) (hbl : t < G.2.2.size) (hL : L ≤ 2560) (hi : i + 5 ≤ L) (hab : a + 672 ≤ b) (h : zLM G M a b M') (hk : ∀ M2, zLM G M a b M2 → zW K G 4 Q cells slots M2 N 936 [(3, .int (nI i)), (2, .ref b), (1, .ref a), (0, .ref t)] []) : zW K G 4 Q cells slots M' N 564 [(3, .int (nI i)), (2, .ref b), (1, .ref a), (0, .ref t)] [] := by
  obtain ⟨fa, hMa⟩ := zLM_a h
  obtain ⟨r, M1, M2, hC, ⟨fb, hMb⟩, hR, hLM⟩ := op_parcel K.2.1 G M a b N M' hab h (xs (i + 1)) (xs (i + 2))
  refine r_aload_n ok dL_law_564 2 rfl rfl ?_
  refine r_aload_n ok dL_law_565 3 rfl rfl ?_
  refine r_iload_n ok dL_law_566 0 rfl rfl ?_
  refine r_iconst ok (nI 1) dL_law_567 (by rfl) ?_
  refine r_iaddN ok dL_law_568 ?_
  refine r_sld ok hX hbl (show i + 1 < L by omega) (by omega) dL_law_569 ?_
  refine r_aload_n ok dL_law_570 3 rfl rfl ?_
  refine r_iload_n ok dL_law_571 0 rfl rfl ?_
  refine r_iconst ok (nI 2) dL_law_572 (by rfl) ?_
  refine r_iaddN ok dL_law_573 ?_
  refine r_sld ok hX hbl (show i + 2 < L by omega) (by omega) dL_law_574 ?_
  refine r_cV ok mi_X5_parcel ci_X5 ml_L_67 im_X5_parcel se_X5_parcel dL_law_575 hC hMa rfl rfl ⟨Nat.le_of_ble_eq_true rfl, Nat.le_of_ble_eq_true rfl⟩ (Nat.le_of_ble_eq_true rfl) ⟨hc, hs⟩ ?_
  refine r_aload_n ok dL_law_578 1 rfl rfl ?_
  refine r_aload_n ok dL_law_579 3 rfl rfl ?_
  refine r_iload_n ok dL_law_580 0 rfl rfl ?_
  refine r_iconst ok (nI 1) dL_law_581 (by rfl) ?_
  refine r_iaddN ok dL_law_582 ?_
  refine r_sld ok hX hbl (show i + 1 < L by omega) (by omega) dL_law_583 ?_
  refine r_aload_n ok dL_law_584 3 rfl rfl ?_
  refine r_iload_n ok dL_law_585 0 rfl rfl ?_
  refine r_iconst ok (nI 2) dL_law_586 (by rfl) ?_
  refine r_iaddN ok dL_law_587 ?_
  refine r_sld ok hX hbl (show i + 2 < L by omega) (by omega) dL_law_588 ?_
  refine r_cV ok mi_X6_parcel ci_X6 ml_L_70 im_X6_parcel se_X6_parcel dL_law_589 hR hMb rfl rfl ⟨Nat.le_of_ble_eq_true rfl, Nat.le_of_ble_eq_true rfl⟩ (Nat.le_of_ble_eq_true rfl) ⟨hc, hs⟩ ?_
  exact r_icmp_eq ok 936 dL_law_592 (by decide) (fun _ => hk M2 hLM) (fun c => absurd rfl c)
theorem lc_13 (ok : zOk K G ⟨RL, nm, ""⟩ cL_law 4 room_1 ret) (hc : cells ≤ 600000) (hs : slots ≤ 7302250) (hX : va_X t L xs K.2.2.2.2.1 G.2.2) (hbl : t < G.2.2.size) (hL : L ≤ 2560) (hi : i + 5 ≤ L) (hab : a + 672 ≤ b) (h : zLM G M a b M') (hk : ∀ M2, zLM G M a b M2 → zW K G 4 Q cells slots M2 N 936 [(3, .int (nI i)), (2, .ref b), (1, .ref a), (0, .ref t)] []) : zW K G 4 Q cells slots M' N 597 [(3, .int (nI i)), (2, .ref b), (1, .ref a), (0, .ref t)] [] := by
  obtain ⟨fa, hMa⟩ := zLM_a h
  obtain ⟨r, M1, M2, hC, ⟨fb, hMb⟩, hR, hLM⟩ := op_count K.2.1 G M a b N M' hab h (xs (i + 1))
  refine r_aload_n ok dL_law_597 2 rfl rfl ?_
  refine r_aload_n ok dL_law_598 3 rfl rfl ?_
  refine r_iload_n ok dL_law_599 0 rfl rfl ?_
  refine r_iconst ok (nI 1) dL_law_600 (by rfl) ?_
  refine r_iaddN ok dL_law_601 ?_
  refine r_sld ok hX hbl (show i + 1 < L by omega) (by omega) dL_law_602 ?_
  refine r_cV ok mi_X5_count ci_X5 ml_L_71 im_X5_count se_X5_count dL_law_603 hC hMa rfl rfl ⟨Nat.le_of_ble_eq_true rfl, Nat.le_of_ble_eq_true rfl⟩ (Nat.le_of_ble_eq_true rfl) ⟨hc, hs⟩ ?_
  refine r_aload_n ok dL_law_606 1 rfl rfl ?_
  refine r_aload_n ok dL_law_607 3 rfl rfl ?_
  refine r_iload_n ok dL_law_608 0 rfl rfl ?_
  refine r_iconst ok (nI 1) dL_law_609 (by rfl) ?_
  refine r_iaddN ok dL_law_610 ?_
  refine r_sld ok hX hbl (show i + 1 < L by omega) (by omega) dL_law_611 ?_
  refine r_cV ok mi_X6_count ci_X6 ml_L_74 im_X6_count se_X6_count dL_law_612 hR hMb rfl rfl ⟨Nat.le_of_ble_eq_true rfl, Nat.le_of_ble_eq_true rfl⟩ (Nat.le_of_ble_eq_true rfl) ⟨hc, hs⟩ ?_
  exact r_icmp_eq ok 936 dL_law_615 (by decide) (fun _ => hk M2 hLM) (fun c => absurd rfl c)
theorem lc_14 (ok : zOk K G ⟨RL, nm, ""⟩ cL_law 4 room_1 ret) (hc : cells ≤ 600000) (hs : slots ≤ 7302250) (hX : va_X t L xs K.2.2.2.2.1 G.2.2) (hbl : t < G.2.2.size) (hL : L ≤ 2560) (hi : i + 5 ≤ L) (hab : a + 672 ≤ b) (h : zLM G M a b M') (hk : ∀ M2, zLM G M a b M2 → zW K G 4 Q cells slots M2 N 936 [(3, .int (nI i)), (2, .ref b), (1, .ref a), (0, .ref t)] []) : zW K G 4 Q cells slots M' N 620 [(3, .int (nI i)), (2, .ref b), (1, .ref a), (0, .ref t)] [] := by
  obtain ⟨fa, hMa⟩ := zLM_a h
  obtain ⟨r, M1, M2, hC, ⟨fb, hMb⟩, hR, hLM⟩ := op_order K.2.1 G M a b N M' hab h (xs (i + 1)) (xs (i + 2))
  refine r_aload_n ok dL_law_620 2 rfl rfl ?_
  refine r_aload_n ok dL_law_621 3 rfl rfl ?_
  refine r_iload_n ok dL_law_622 0 rfl rfl ?_
  refine r_iconst ok (nI 1) dL_law_623 (by rfl) ?_
  refine r_iaddN ok dL_law_624 ?_
  refine r_sld ok hX hbl (show i + 1 < L by omega) (by omega) dL_law_625 ?_
  refine r_aload_n ok dL_law_626 3 rfl rfl ?_
  refine r_iload_n ok dL_law_627 0 rfl rfl ?_
  refine r_iconst ok (nI 2) dL_law_628 (by rfl) ?_
  refine r_iaddN ok dL_law_629 ?_
  refine r_sld ok hX hbl (show i + 2 < L by omega) (by omega) dL_law_630 ?_
  refine r_cV ok mi_X5_order ci_X5 ml_L_75 im_X5_order se_X5_order dL_law_631 hC hMa rfl rfl ⟨Nat.le_of_ble_eq_true rfl, Nat.le_of_ble_eq_true rfl⟩ (Nat.le_of_ble_eq_true rfl) ⟨hc, hs⟩ ?_
  refine r_aload_n ok dL_law_634 1 rfl rfl ?_
  refine r_aload_n ok dL_law_635 3 rfl rfl ?_
  refine r_iload_n ok dL_law_636 0 rfl rfl ?_
  refine r_iconst ok (nI 1) dL_law_637 (by rfl) ?_
  refine r_iaddN ok dL_law_638 ?_
  refine r_sld ok hX hbl (show i + 1 < L by omega) (by omega) dL_law_639 ?_
  refine r_aload_n ok dL_law_640 3 rfl rfl ?_
  refine r_iload_n ok dL_law_641 0 rfl rfl ?_
  refine r_iconst ok (nI 2) dL_law_642 (by rfl) ?_
  refine r_iaddN ok dL_law_643 ?_
  refine r_sld ok hX hbl (show i + 2 < L by omega) (by omega) dL_law_644 ?_
  refine r_cV ok mi_X6_order ci_X6 ml_L_78 im_X6_order se_X6_order dL_law_645 hR hMb rfl rfl ⟨Nat.le_of_ble_eq_true rfl, Nat.le_of_ble_eq_true rfl⟩ (Nat.le_of_ble_eq_true rfl) ⟨hc, hs⟩ ?_
  exact r_icmp_eq ok 936 dL_law_648 (by decide) (fun _ => hk M2 hLM) (fun c => absurd rfl c)
theorem lc_15 (ok : zOk K G ⟨RL, nm, ""⟩ cL_law 4 room_1 ret) (hc : cells ≤ 600000) (hs : slots ≤ 7302250) (hX : va_X t L xs K.2.2.2.2.1 G.2.2) (hbl : t < G.2.2.size) (hL : L ≤ 2560) (hi : i + 5 ≤ L) (hab : a + 672 ≤ b) (h : zLM G M a b M') (hk : ∀ M2, zLM G M a b M2 → zW K G 4 Q cells slots M2 N 936 [(3, .int (nI i)), (2, .ref b), (1, .ref a), (0, .ref t)] []) : zW K G 4 Q cells slots M' N 653 [(3, .int (nI i)), (2, .ref b), (1, .ref a), (0, .ref t)] [] := by
  obtain ⟨fa, hMa⟩ := zLM_a h
  obtain ⟨r, M1, M2, hC, ⟨fb, hMb⟩, hR, hLM⟩ := op_share K.2.1 G M a b N M' hab h (xs (i + 1)) (xs (i + 2))
  refine r_aload_n ok dL_law_653 2 rfl rfl ?_
  refine r_aload_n ok dL_law_654 3 rfl rfl ?_
  refine r_iload_n ok dL_law_655 0 rfl rfl ?_
  refine r_iconst ok (nI 1) dL_law_656 (by rfl) ?_
  refine r_iaddN ok dL_law_657 ?_
  refine r_sld ok hX hbl (show i + 1 < L by omega) (by omega) dL_law_658 ?_
  refine r_aload_n ok dL_law_659 3 rfl rfl ?_
  refine r_iload_n ok dL_law_660 0 rfl rfl ?_
  refine r_iconst ok (nI 2) dL_law_661 (by rfl) ?_
  refine r_iaddN ok dL_law_662 ?_
  refine r_sld ok hX hbl (show i + 2 < L by omega) (by omega) dL_law_663 ?_
  refine r_cV ok mi_X5_share ci_X5 ml_L_79 im_X5_share se_X5_share dL_law_664 hC hMa rfl rfl ⟨Nat.le_of_ble_eq_true rfl, Nat.le_of_ble_eq_true rfl⟩ (Nat.le_of_ble_eq_true rfl) ⟨hc, hs⟩ ?_
  refine r_aload_n ok dL_law_667 1 rfl rfl ?_
  refine r_aload_n ok dL_law_668 3 rfl rfl ?_
  refine r_iload_n ok dL_law_669 0 rfl rfl ?_
  refine r_iconst ok (nI 1) dL_law_670 (by rfl) ?_
  refine r_iaddN ok dL_law_671 ?_
  refine r_sld ok hX hbl (show i + 1 < L by omega) (by omega) dL_law_672 ?_
  refine r_aload_n ok dL_law_673 3 rfl rfl ?_
  refine r_iload_n ok dL_law_674 0 rfl rfl ?_
  refine r_iconst ok (nI 2) dL_law_675 (by rfl) ?_
  refine r_iaddN ok dL_law_676 ?_
  refine r_sld ok hX hbl (show i + 2 < L by omega) (by omega) dL_law_677 ?_
  refine r_cV ok mi_X6_share ci_X6 ml_L_82 im_X6_share se_X6_share dL_law_678 hR hMb rfl rfl ⟨Nat.le_of_ble_eq_true rfl, Nat.le_of_ble_eq_true rfl⟩ (Nat.le_of_ble_eq_true rfl) ⟨hc, hs⟩ ?_
  exact r_icmp_eq ok 936 dL_law_681 (by decide) (fun _ => hk M2 hLM) (fun c => absurd rfl c)
theorem lc_16 (ok : zOk K G ⟨RL, nm, ""⟩ cL_law 4 room_1 ret) (hc : cells ≤ 600000) (hs : slots ≤ 7302250) (hX : va_X t L xs K.2.2.2.2.1 G.2.2) (hbl : t < G.2.2.size) (hL : L ≤ 2560) (hi : i + 5 ≤ L) (hab : a + 672 ≤ b) (h : zLM G M a b M') (hk : ∀ M2, zLM G M a b M2 → zW K G 4 Q cells slots M2 N 936 [(3, .int (nI i)), (2, .ref b), (1, .ref a), (0, .ref t)] []) : zW K G 4 Q cells slots M' N 686 [(3, .int (nI i)), (2, .ref b), (1, .ref a), (0, .ref t)] [] := by
  obtain ⟨fa, hMa⟩ := zLM_a h
  obtain ⟨r, M1, M2, hC, ⟨fb, hMb⟩, hR, hLM⟩ := op_ifMore K.2.1 G M a b N M' hab h (xs (i + 1)) (xs (i + 2)) (xs (i + 3))
  refine r_aload_n ok dL_law_686 2 rfl rfl ?_
  refine r_aload_n ok dL_law_687 3 rfl rfl ?_
  refine r_iload_n ok dL_law_688 0 rfl rfl ?_
  refine r_iconst ok (nI 1) dL_law_689 (by rfl) ?_
  refine r_iaddN ok dL_law_690 ?_
  refine r_sld ok hX hbl (show i + 1 < L by omega) (by omega) dL_law_691 ?_
  refine r_aload_n ok dL_law_692 3 rfl rfl ?_
  refine r_iload_n ok dL_law_693 0 rfl rfl ?_
  refine r_iconst ok (nI 2) dL_law_694 (by rfl) ?_
  refine r_iaddN ok dL_law_695 ?_
  refine r_sld ok hX hbl (show i + 2 < L by omega) (by omega) dL_law_696 ?_
  refine r_aload_n ok dL_law_697 3 rfl rfl ?_
  refine r_iload_n ok dL_law_698 0 rfl rfl ?_
  refine r_iconst ok (nI 3) dL_law_699 (by rfl) ?_
  refine r_iaddN ok dL_law_700 ?_
  refine r_sld ok hX hbl (show i + 3 < L by omega) (by omega) dL_law_701 ?_
  refine r_cV ok mi_X5_ifMore ci_X5 ml_L_83 im_X5_ifMore se_X5_ifMore dL_law_702 hC hMa rfl rfl ⟨Nat.le_of_ble_eq_true rfl, Nat.le_of_ble_eq_true rfl⟩ (Nat.le_of_ble_eq_true rfl) ⟨hc, hs⟩ ?_
  refine r_aload_n ok dL_law_705 1 rfl rfl ?_
  refine r_aload_n ok dL_law_706 3 rfl rfl ?_
  refine r_iload_n ok dL_law_707 0 rfl rfl ?_
  refine r_iconst ok (nI 1) dL_law_708 (by rfl) ?_
  refine r_iaddN ok dL_law_709 ?_
  refine r_sld ok hX hbl (show i + 1 < L by omega) (by omega) dL_law_710 ?_
  refine r_aload_n ok dL_law_711 3 rfl rfl ?_
  refine r_iload_n ok dL_law_712 0 rfl rfl ?_
  refine r_iconst ok (nI 2) dL_law_713 (by rfl) ?_
  refine r_iaddN ok dL_law_714 ?_
  refine r_sld ok hX hbl (show i + 2 < L by omega) (by omega) dL_law_715 ?_
  refine r_aload_n ok dL_law_716 3 rfl rfl ?_
  refine r_iload_n ok dL_law_717 0 rfl rfl ?_
  refine r_iconst ok (nI 3) dL_law_718 (by rfl) ?_
  refine r_iaddN ok dL_law_719 ?_
  refine r_sld ok hX hbl (show i + 3 < L by omega) (by omega) dL_law_720 ?_
  refine r_cV ok mi_X6_ifMore ci_X6 ml_L_86 im_X6_ifMore se_X6_ifMore dL_law_721 hR hMb rfl rfl ⟨Nat.le_of_ble_eq_true rfl, Nat.le_of_ble_eq_true rfl⟩ (Nat.le_of_ble_eq_true rfl) ⟨hc, hs⟩ ?_
  exact r_icmp_eq ok 936 dL_law_724 (by decide) (fun _ => hk M2 hLM) (fun c => absurd rfl c)
theorem lc_17 (ok : zOk K G ⟨RL, nm, ""⟩ cL_law 4 room_1 ret) (hc : cells ≤ 600000) (hs : slots ≤ 7302250) (hX : va_X t L xs K.2.2.2.2.1 G.2.2) (hbl : t < G.2.2.size) (hL : L ≤ 2560) (hi : i + 5 ≤ L) (hab : a + 672 ≤ b) (h : zLM G M a b M') (hk : ∀ M2, zLM G M a b M2 → zW K G 4 Q cells slots M2 N 936 [(3, .int (nI i)), (2, .ref b), (1, .ref a), (0, .ref t)] []) : zW K G 4 Q cells slots M' N 729 [(3, .int (nI i)), (2, .ref b), (1, .ref a), (0, .ref t)] [] := by
  obtain ⟨fa, hMa⟩ := zLM_a h
  obtain ⟨r, M1, M2, hC, ⟨fb, hMb⟩, hR, hLM⟩ := op_bestParting K.2.1 G M a b N M' hab h (xs (i + 1))
  refine r_aload_n ok dL_law_729 2 rfl rfl ?_
  refine r_aload_n ok dL_law_730 3 rfl rfl ?_
  refine r_iload_n ok dL_law_731 0 rfl rfl ?_
  refine r_iconst ok (nI 1) dL_law_732 (by rfl) ?_
  refine r_iaddN ok dL_law_733 ?_
  refine r_sld ok hX hbl (show i + 1 < L by omega) (by omega) dL_law_734 ?_
  refine r_cV ok mi_X5_bestParting ci_X5 ml_L_87 im_X5_bestParting se_X5_bestParting dL_law_735 hC hMa rfl rfl ⟨Nat.le_of_ble_eq_true rfl, Nat.le_of_ble_eq_true rfl⟩ (Nat.le_of_ble_eq_true rfl) ⟨hc, hs⟩ ?_
  refine r_aload_n ok dL_law_738 1 rfl rfl ?_
  refine r_aload_n ok dL_law_739 3 rfl rfl ?_
  refine r_iload_n ok dL_law_740 0 rfl rfl ?_
  refine r_iconst ok (nI 1) dL_law_741 (by rfl) ?_
  refine r_iaddN ok dL_law_742 ?_
  refine r_sld ok hX hbl (show i + 1 < L by omega) (by omega) dL_law_743 ?_
  refine r_cV ok mi_X6_bestParting ci_X6 ml_L_90 im_X6_bestParting se_X6_bestParting dL_law_744 hR hMb rfl rfl ⟨Nat.le_of_ble_eq_true rfl, Nat.le_of_ble_eq_true rfl⟩ (Nat.le_of_ble_eq_true rfl) ⟨hc, hs⟩ ?_
  exact r_icmp_eq ok 936 dL_law_747 (by decide) (fun _ => hk M2 hLM) (fun c => absurd rfl c)
theorem lc_18 (ok : zOk K G ⟨RL, nm, ""⟩ cL_law 4 room_1 ret) (hc : cells ≤ 600000) (hs : slots ≤ 7302250) (hX : va_X t L xs K.2.2.2.2.1 G.2.2) (hbl : t < G.2.2.size) (hL : L ≤ 2560) (hi : i + 5 ≤ L) (hab : a + 672 ≤ b) (h : zLM G M a b M') (hk : ∀ M2, zLM G M a b M2 → zW K G 4 Q cells slots M2 N 936 [(3, .int (nI i)), (2, .ref b), (1, .ref a), (0, .ref t)] []) : zW K G 4 Q cells slots M' N 752 [(3, .int (nI i)), (2, .ref b), (1, .ref a), (0, .ref t)] [] := by
  obtain ⟨fa, hMa⟩ := zLM_a h
  obtain ⟨r, M1, M2, hC, ⟨fb, hMb⟩, hR, hLM⟩ := op_standIn K.2.1 G M a b N M' hab h (xs (i + 1)) (xs (i + 2))
  refine r_aload_n ok dL_law_752 2 rfl rfl ?_
  refine r_aload_n ok dL_law_753 3 rfl rfl ?_
  refine r_iload_n ok dL_law_754 0 rfl rfl ?_
  refine r_iconst ok (nI 1) dL_law_755 (by rfl) ?_
  refine r_iaddN ok dL_law_756 ?_
  refine r_sld ok hX hbl (show i + 1 < L by omega) (by omega) dL_law_757 ?_
  refine r_aload_n ok dL_law_758 3 rfl rfl ?_
  refine r_iload_n ok dL_law_759 0 rfl rfl ?_
  refine r_iconst ok (nI 2) dL_law_760 (by rfl) ?_
  refine r_iaddN ok dL_law_761 ?_
  refine r_sld ok hX hbl (show i + 2 < L by omega) (by omega) dL_law_762 ?_
  refine r_cV ok mi_X5_standIn ci_X5 ml_L_91 im_X5_standIn se_X5_standIn dL_law_763 hC hMa rfl rfl ⟨Nat.le_of_ble_eq_true rfl, Nat.le_of_ble_eq_true rfl⟩ (Nat.le_of_ble_eq_true rfl) ⟨hc, hs⟩ ?_
  refine r_aload_n ok dL_law_766 1 rfl rfl ?_
  refine r_aload_n ok dL_law_767 3 rfl rfl ?_
  refine r_iload_n ok dL_law_768 0 rfl rfl ?_
  refine r_iconst ok (nI 1) dL_law_769 (by rfl) ?_
  refine r_iaddN ok dL_law_770 ?_
  refine r_sld ok hX hbl (show i + 1 < L by omega) (by omega) dL_law_771 ?_
  refine r_aload_n ok dL_law_772 3 rfl rfl ?_
  refine r_iload_n ok dL_law_773 0 rfl rfl ?_
  refine r_iconst ok (nI 2) dL_law_774 (by rfl) ?_
  refine r_iaddN ok dL_law_775 ?_
  refine r_sld ok hX hbl (show i + 2 < L by omega) (by omega) dL_law_776 ?_
  refine r_cV ok mi_X6_standIn ci_X6 ml_L_94 im_X6_standIn se_X6_standIn dL_law_777 hR hMb rfl rfl ⟨Nat.le_of_ble_eq_true rfl, Nat.le_of_ble_eq_true rfl⟩ (Nat.le_of_ble_eq_true rfl) ⟨hc, hs⟩ ?_
  exact r_icmp_eq ok 936 dL_law_780 (by decide) (fun _ => hk M2 hLM) (fun c => absurd rfl c)
theorem lc_19 (ok : zOk K G ⟨RL, nm, ""⟩ cL_law 4 room_1 ret) (hc : cells ≤ 600000) (hs : slots ≤ 7302250) (hX : va_X t L xs K.2.2.2.2.1 G.2.2) (hbl : t < G.2.2.size) (hL : L ≤ 2560) (hi : i + 5 ≤ L) (hab : a + 672 ≤ b) (h : zLM G M a b M') (hk : ∀ M2, zLM G M a b M2 → zW K G 4 Q cells slots M2 N 936 [(3, .int (nI i)), (2, .ref b), (1, .ref a), (0, .ref t)] []) : zW K G 4 Q cells slots M' N 785 [(3, .int (nI i)), (2, .ref b), (1, .ref a), (0, .ref t)] [] := by
  obtain ⟨fa, hMa⟩ := zLM_a h
  obtain ⟨r, M1, M2, hC, ⟨fb, hMb⟩, hR, hLM⟩ := op_untilHome K.2.1 G M a b N M' hab h 
  refine r_aload_n ok dL_law_785 2 rfl rfl ?_
  refine r_cV ok mi_X5_untilHome ci_X5 ml_L_95 im_X5_untilHome se_X5_untilHome dL_law_786 hC hMa rfl rfl ⟨Nat.le_of_ble_eq_true rfl, Nat.le_of_ble_eq_true rfl⟩ (Nat.le_of_ble_eq_true rfl) ⟨hc, hs⟩ ?_
  refine r_aload_n ok dL_law_789 1 rfl rfl ?_
  refine r_cV ok mi_X6_untilHome ci_X6 ml_L_98 im_X6_untilHome se_X6_untilHome dL_law_790 hR hMb rfl rfl ⟨Nat.le_of_ble_eq_true rfl, Nat.le_of_ble_eq_true rfl⟩ (Nat.le_of_ble_eq_true rfl) ⟨hc, hs⟩ ?_
  exact r_icmp_eq ok 936 dL_law_793 (by decide) (fun _ => hk M2 hLM) (fun c => absurd rfl c)
theorem lc_20 (ok : zOk K G ⟨RL, nm, ""⟩ cL_law 4 room_1 ret) (hc : cells ≤ 600000) (hs : slots ≤ 7302250) (hX : va_X t L xs K.2.2.2.2.1 G.2.2) (hbl : t < G.2.2.size) (hL : L ≤ 2560) (hi : i + 5 ≤ L) (hab : a + 672 ≤ b) (h : zLM G M a b M') (hk : ∀ M2, zLM G M a b M2 → zW K G 4 Q cells slots M2 N 936 [(3, .int (nI i)), (2, .ref b), (1, .ref a), (0, .ref t)] []) : zW K G 4 Q cells slots M' N 798 [(3, .int (nI i)), (2, .ref b), (1, .ref a), (0, .ref t)] [] := by
  obtain ⟨fa, hMa⟩ := zLM_a h
  obtain ⟨r, M1, M2, hC, ⟨fb, hMb⟩, hR, hLM⟩ := op_put K.2.1 G M a b N M' hab h (((xs (i + 1)).toInt64 <<< ((nI 32).toInt64 &&& 63)) ||| ((xs (i + 2)).toInt64 &&& 4294967295))
  refine r_aload_n ok dL_law_798 2 rfl rfl ?_
  refine r_aload_n ok dL_law_799 3 rfl rfl ?_
  refine r_iload_n ok dL_law_800 0 rfl rfl ?_
  refine r_iconst ok (nI 1) dL_law_801 (by rfl) ?_
  refine r_iaddN ok dL_law_802 ?_
  refine r_sld ok hX hbl (show i + 1 < L by omega) (by omega) dL_law_803 ?_
  refine r_i2l ok dL_law_804 ?_
  refine r_bipush ok (nI 32) dL_law_805 (by rfl) ?_
  refine r_lshl ok dL_law_807 ?_
  refine r_aload_n ok dL_law_808 3 rfl rfl ?_
  refine r_iload_n ok dL_law_809 0 rfl rfl ?_
  refine r_iconst ok (nI 2) dL_law_810 (by rfl) ?_
  refine r_iaddN ok dL_law_811 ?_
  refine r_sld ok hX hbl (show i + 2 < L by omega) (by omega) dL_law_812 ?_
  refine r_i2l ok dL_law_813 ?_
  refine r_ldc2 ok cl_L_99 dL_law_814 ?_
  refine r_land ok dL_law_817 ?_
  refine r_lor ok dL_law_818 ?_
  refine r_cV ok mi_X5_put ci_X5 ml_L_101 im_X5_put se_X5_put dL_law_819 hC hMa rfl rfl ⟨Nat.le_of_ble_eq_true rfl, Nat.le_of_ble_eq_true rfl⟩ (Nat.le_of_ble_eq_true rfl) ⟨hc, hs⟩ ?_
  refine r_aload_n ok dL_law_822 1 rfl rfl ?_
  refine r_aload_n ok dL_law_823 3 rfl rfl ?_
  refine r_iload_n ok dL_law_824 0 rfl rfl ?_
  refine r_iconst ok (nI 1) dL_law_825 (by rfl) ?_
  refine r_iaddN ok dL_law_826 ?_
  refine r_sld ok hX hbl (show i + 1 < L by omega) (by omega) dL_law_827 ?_
  refine r_i2l ok dL_law_828 ?_
  refine r_bipush ok (nI 32) dL_law_829 (by rfl) ?_
  refine r_lshl ok dL_law_831 ?_
  refine r_aload_n ok dL_law_832 3 rfl rfl ?_
  refine r_iload_n ok dL_law_833 0 rfl rfl ?_
  refine r_iconst ok (nI 2) dL_law_834 (by rfl) ?_
  refine r_iaddN ok dL_law_835 ?_
  refine r_sld ok hX hbl (show i + 2 < L by omega) (by omega) dL_law_836 ?_
  refine r_i2l ok dL_law_837 ?_
  refine r_ldc2 ok cl_L_99 dL_law_838 ?_
  refine r_land ok dL_law_841 ?_
  refine r_lor ok dL_law_842 ?_
  refine r_cV ok mi_X6_put ci_X6 ml_L_105 im_X6_put se_X6_put dL_law_843 hR hMb rfl rfl ⟨Nat.le_of_ble_eq_true rfl, Nat.le_of_ble_eq_true rfl⟩ (Nat.le_of_ble_eq_true rfl) ⟨hc, hs⟩ ?_
  exact r_icmp_eq ok 936 dL_law_846 (by decide) (fun _ => hk M2 hLM) (fun c => absurd rfl c)
theorem lc_21 (ok : zOk K G ⟨RL, nm, ""⟩ cL_law 4 room_1 ret) (hc : cells ≤ 600000) (hs : slots ≤ 7302250) (hX : va_X t L xs K.2.2.2.2.1 G.2.2) (hbl : t < G.2.2.size) (hL : L ≤ 2560) (hi : i + 5 ≤ L) (hab : a + 672 ≤ b) (h : zLM G M a b M') (hk : ∀ M2, zLM G M a b M2 → zW K G 4 Q cells slots M2 N 936 [(3, .int (nI i)), (2, .ref b), (1, .ref a), (0, .ref t)] []) : zW K G 4 Q cells slots M' N 851 [(3, .int (nI i)), (2, .ref b), (1, .ref a), (0, .ref t)] [] := by
  obtain ⟨fa, hMa⟩ := zLM_a h
  obtain ⟨r, M1, M2, hC, ⟨fb, hMb⟩, hR, hLM⟩ := op_wipe K.2.1 G M a b N M' hab h 
  refine r_aload_n ok dL_law_851 2 rfl rfl ?_
  refine r_cV ok mi_X5_wipe ci_X5 ml_L_106 im_X5_wipe se_X5_wipe dL_law_852 hC hMa rfl rfl ⟨Nat.le_of_ble_eq_true rfl, Nat.le_of_ble_eq_true rfl⟩ (Nat.le_of_ble_eq_true rfl) ⟨hc, hs⟩ ?_
  refine r_aload_n ok dL_law_855 1 rfl rfl ?_
  refine r_cV ok mi_X6_wipe ci_X6 ml_L_109 im_X6_wipe se_X6_wipe dL_law_856 hR hMb rfl rfl ⟨Nat.le_of_ble_eq_true rfl, Nat.le_of_ble_eq_true rfl⟩ (Nat.le_of_ble_eq_true rfl) ⟨hc, hs⟩ ?_
  exact r_icmp_eq ok 936 dL_law_859 (by decide) (fun _ => hk M2 hLM) (fun c => absurd rfl c)
theorem lc_22 (ok : zOk K G ⟨RL, nm, ""⟩ cL_law 4 room_1 ret) (hc : cells ≤ 600000) (hs : slots ≤ 7302250) (hX : va_X t L xs K.2.2.2.2.1 G.2.2) (hbl : t < G.2.2.size) (hL : L ≤ 2560) (hi : i + 5 ≤ L) (hab : a + 672 ≤ b) (h : zLM G M a b M') (hk : ∀ M2, zLM G M a b M2 → zW K G 4 Q cells slots M2 N 936 [(3, .int (nI i)), (2, .ref b), (1, .ref a), (0, .ref t)] []) : zW K G 4 Q cells slots M' N 864 [(3, .int (nI i)), (2, .ref b), (1, .ref a), (0, .ref t)] [] := by
  obtain ⟨fa, hMa⟩ := zLM_a h
  obtain ⟨r, M1, M2, hC, ⟨fb, hMb⟩, hR, hLM⟩ := op_fault K.2.1 G M a b N M' hab h 
  refine r_aload_n ok dL_law_864 2 rfl rfl ?_
  refine r_cV ok mi_X5_fault ci_X5 ml_L_110 im_X5_fault se_X5_fault dL_law_865 hC hMa rfl rfl ⟨Nat.le_of_ble_eq_true rfl, Nat.le_of_ble_eq_true rfl⟩ (Nat.le_of_ble_eq_true rfl) ⟨hc, hs⟩ ?_
  refine r_aload_n ok dL_law_868 1 rfl rfl ?_
  refine r_cV ok mi_X6_fault ci_X6 ml_L_113 im_X6_fault se_X6_fault dL_law_869 hR hMb rfl rfl ⟨Nat.le_of_ble_eq_true rfl, Nat.le_of_ble_eq_true rfl⟩ (Nat.le_of_ble_eq_true rfl) ⟨hc, hs⟩ ?_
  exact r_icmp_eq ok 936 dL_law_872 (by decide) (fun _ => hk M2 hLM) (fun c => absurd rfl c)
theorem lc_23 (ok : zOk K G ⟨RL, nm, ""⟩ cL_law 4 room_1 ret) (hc : cells ≤ 600000) (hs : slots ≤ 7302250) (hX : va_X t L xs K.2.2.2.2.1 G.2.2) (hbl : t < G.2.2.size) (hL : L ≤ 2560) (hi : i + 5 ≤ L) (hab : a + 672 ≤ b) (h : zLM G M a b M') (hk : ∀ M2, zLM G M a b M2 → zW K G 4 Q cells slots M2 N 936 [(3, .int (nI i)), (2, .ref b), (1, .ref a), (0, .ref t)] []) : zW K G 4 Q cells slots M' N 877 [(3, .int (nI i)), (2, .ref b), (1, .ref a), (0, .ref t)] [] := by
  obtain ⟨fa, hMa⟩ := zLM_a h
  obtain ⟨r, M1, M2, hC, ⟨fb, hMb⟩, hR, hLM⟩ := op_undo K.2.1 G M a b N M' hab h 
  refine r_aload_n ok dL_law_877 2 rfl rfl ?_
  refine r_cV ok mi_X5_undo ci_X5 ml_L_114 im_X5_undo se_X5_undo dL_law_878 hC hMa rfl rfl ⟨Nat.le_of_ble_eq_true rfl, Nat.le_of_ble_eq_true rfl⟩ (Nat.le_of_ble_eq_true rfl) ⟨hc, hs⟩ ?_
  refine r_aload_n ok dL_law_881 1 rfl rfl ?_
  refine r_cV ok mi_X6_undo ci_X6 ml_L_117 im_X6_undo se_X6_undo dL_law_882 hR hMb rfl rfl ⟨Nat.le_of_ble_eq_true rfl, Nat.le_of_ble_eq_true rfl⟩ (Nat.le_of_ble_eq_true rfl) ⟨hc, hs⟩ ?_
  exact r_icmp_eq ok 936 dL_law_885 (by decide) (fun _ => hk M2 hLM) (fun c => absurd rfl c)
theorem lc_24 (ok : zOk K G ⟨RL, nm, ""⟩ cL_law 4 room_1 ret) (hc : cells ≤ 600000) (hs : slots ≤ 7302250) (hX : va_X t L xs K.2.2.2.2.1 G.2.2) (hbl : t < G.2.2.size) (hL : L ≤ 2560) (hi : i + 5 ≤ L) (hab : a + 672 ≤ b) (h : zLM G M a b M') (hk : ∀ M2, zLM G M a b M2 → zW K G 4 Q cells slots M2 N 936 [(3, .int (nI i)), (2, .ref b), (1, .ref a), (0, .ref t)] []) : zW K G 4 Q cells slots M' N 890 [(3, .int (nI i)), (2, .ref b), (1, .ref a), (0, .ref t)] [] := by
  obtain ⟨fa, hMa⟩ := zLM_a h
  obtain ⟨r, M1, M2, hC, ⟨fb, hMb⟩, hR, hLM⟩ := op_save K.2.1 G M a b N M' hab h (xs (i + 1))
  refine r_aload_n ok dL_law_890 2 rfl rfl ?_
  refine r_aload_n ok dL_law_891 3 rfl rfl ?_
  refine r_iload_n ok dL_law_892 0 rfl rfl ?_
  refine r_iconst ok (nI 1) dL_law_893 (by rfl) ?_
  refine r_iaddN ok dL_law_894 ?_
  refine r_sld ok hX hbl (show i + 1 < L by omega) (by omega) dL_law_895 ?_
  refine r_cV ok mi_X5_save ci_X5 ml_L_118 im_X5_save se_X5_save dL_law_896 hC hMa rfl rfl ⟨Nat.le_of_ble_eq_true rfl, Nat.le_of_ble_eq_true rfl⟩ (Nat.le_of_ble_eq_true rfl) ⟨hc, hs⟩ ?_
  refine r_aload_n ok dL_law_899 1 rfl rfl ?_
  refine r_aload_n ok dL_law_900 3 rfl rfl ?_
  refine r_iload_n ok dL_law_901 0 rfl rfl ?_
  refine r_iconst ok (nI 1) dL_law_902 (by rfl) ?_
  refine r_iaddN ok dL_law_903 ?_
  refine r_sld ok hX hbl (show i + 1 < L by omega) (by omega) dL_law_904 ?_
  refine r_cV ok mi_X6_save ci_X6 ml_L_121 im_X6_save se_X6_save dL_law_905 hR hMb rfl rfl ⟨Nat.le_of_ble_eq_true rfl, Nat.le_of_ble_eq_true rfl⟩ (Nat.le_of_ble_eq_true rfl) ⟨hc, hs⟩ ?_
  exact r_icmp_eq ok 936 dL_law_908 (by decide) (fun _ => hk M2 hLM) (fun c => absurd rfl c)
theorem lc_25 (ok : zOk K G ⟨RL, nm, ""⟩ cL_law 4 room_1 ret) (hc : cells ≤ 600000) (hs : slots ≤ 7302250) (hX : va_X t L xs K.2.2.2.2.1 G.2.2) (hbl : t < G.2.2.size) (hL : L ≤ 2560) (hi : i + 5 ≤ L) (hab : a + 672 ≤ b) (h : zLM G M a b M') (hk : ∀ M2, zLM G M a b M2 → zW K G 4 Q cells slots M2 N 936 [(3, .int (nI i)), (2, .ref b), (1, .ref a), (0, .ref t)] []) : zW K G 4 Q cells slots M' N 913 [(3, .int (nI i)), (2, .ref b), (1, .ref a), (0, .ref t)] [] := by
  obtain ⟨fa, hMa⟩ := zLM_a h
  obtain ⟨r, M1, M2, hC, ⟨fb, hMb⟩, hR, hLM⟩ := op_restore K.2.1 G M a b N M' hab h (xs (i + 1))
  refine r_aload_n ok dL_law_913 2 rfl rfl ?_
  refine r_aload_n ok dL_law_914 3 rfl rfl ?_
  refine r_iload_n ok dL_law_915 0 rfl rfl ?_
  refine r_iconst ok (nI 1) dL_law_916 (by rfl) ?_
  refine r_iaddN ok dL_law_917 ?_
  refine r_sld ok hX hbl (show i + 1 < L by omega) (by omega) dL_law_918 ?_
  refine r_cV ok mi_X5_restore ci_X5 ml_L_122 im_X5_restore se_X5_restore dL_law_919 hC hMa rfl rfl ⟨Nat.le_of_ble_eq_true rfl, Nat.le_of_ble_eq_true rfl⟩ (Nat.le_of_ble_eq_true rfl) ⟨hc, hs⟩ ?_
  refine r_aload_n ok dL_law_922 1 rfl rfl ?_
  refine r_aload_n ok dL_law_923 3 rfl rfl ?_
  refine r_iload_n ok dL_law_924 0 rfl rfl ?_
  refine r_iconst ok (nI 1) dL_law_925 (by rfl) ?_
  refine r_iaddN ok dL_law_926 ?_
  refine r_sld ok hX hbl (show i + 1 < L by omega) (by omega) dL_law_927 ?_
  refine r_cV ok mi_X6_restore ci_X6 ml_L_125 im_X6_restore se_X6_restore dL_law_928 hR hMb rfl rfl ⟨Nat.le_of_ble_eq_true rfl, Nat.le_of_ble_eq_true rfl⟩ (Nat.le_of_ble_eq_true rfl) ⟨hc, hs⟩ ?_
  exact r_icmp_eq ok 936 dL_law_931 (by decide) (fun _ => hk M2 hLM) (fun c => absurd rfl c)
theorem lc_loop (ok : zOk K G ⟨RL, nm, ""⟩ cL_law 4 room_1 ret) (hc : cells ≤ 600000) (hs : slots ≤ 7302250) (hX : va_X t L xs K.2.2.2.2.1 G.2.2) (hbl : t < G.2.2.size) (hL : L ≤ 2560) (hab : a + 672 ≤ b) (hend : ∀ (i : Nat) (M2 : zM), zW K G 4 Q cells slots M2 N 943 [(3, .int (nI i)), (2, .ref b), (1, .ref a), (0, .ref t)] [.int 1]) : ∀ (r i : Nat) (M' : zM), i ≤ L → L < i + 5 * (r + 1) → zLM G M a b M' → zW K G 4 Q cells slots M' N 18 [(3, .int (nI i)), (2, .ref b), (1, .ref a), (0, .ref t)] [] := by
  intro r
  induction r with
  | zero =>
    intro i M' hiL hr h
    refine r_iload_n ok dL_law_18 0 rfl rfl ?_
    refine r_aload_n ok dL_law_19 3 rfl rfl ?_
    refine r_slen ok hX hbl dL_law_20 ?_
    refine r_iconst ok (nI 5) dL_law_21 (by rfl) ?_
    refine r_isub ok dL_law_22 ?_
    have e5 : (nI L - nI 5).toInt = (L : Int) - 5 := by
      have h1 := nI_toInt (n := L) (by omega)
      have h2 := nI_toInt (n := 5) (by omega)
      rw [zg_sub (by omega) (by omega)]; omega
    have ei := nI_toInt (n := i) (by omega)
    refine r_icmp_gt ok 942 dL_law_23 (by decide) (fun _ => ?_) (fun c => absurd (Int32.lt_iff_toInt_lt.mpr (by omega)) c)
    refine r_iconst ok 1 dL_law_942 (by rfl) ?_
    exact hend i M'
  | succ r ih =>
    intro i M' hiL hr h
    refine r_iload_n ok dL_law_18 0 rfl rfl ?_
    refine r_aload_n ok dL_law_19 3 rfl rfl ?_
    refine r_slen ok hX hbl dL_law_20 ?_
    refine r_iconst ok (nI 5) dL_law_21 (by rfl) ?_
    refine r_isub ok dL_law_22 ?_
    have e5 : (nI L - nI 5).toInt = (L : Int) - 5 := by
      have h1 := nI_toInt (n := L) (by omega)
      have h2 := nI_toInt (n := 5) (by omega)
      rw [zg_sub (by omega) (by omega)]; omega
    have ei := nI_toInt (n := i) (by omega)
    refine r_icmp_gt ok 942 dL_law_23 (by decide) (fun _ => ?_) (fun c => ?_)
    · refine r_iconst ok 1 dL_law_942 (by rfl) ?_
      exact hend i M'
    · have hi : i + 5 ≤ L := by
        have c' : ¬ (nI L - nI 5).toInt < (nI i).toInt := fun z => c (Int32.lt_iff_toInt_lt.mpr z)
        omega
      have hk : ∀ M2, zLM G M a b M2 → zW K G 4 Q cells slots M2 N 936 [(3, .int (nI i)), (2, .ref b), (1, .ref a), (0, .ref t)] [] := by
        intro M2 h2
        refine r_iincN ok (c := 5) [(3, .int (nI (i + 5))), (2, .ref b), (1, .ref a), (0, .ref t)] dL_law_936 0 rfl (by rfl) (by decide) rfl ?_
        refine r_goto ok 18 dL_law_939 (by decide) ?_
        exact ih (i + 5) M2 hi (by omega) h2
      refine r_aload_n ok dL_law_26 3 rfl rfl ?_
      refine r_iload_n ok dL_law_27 0 rfl rfl ?_
      refine r_sld ok hX hbl (show i < L by omega) (by omega) dL_law_28 ?_
      refine r_bipush ok (nI 31) dL_law_29 (by rfl) ?_
      refine r_iand ok dL_law_31 ?_
      obtain ⟨k, hk32, ek⟩ := zAnd31 (xs i)
      rw [ek]
      have hcase : k = 0 ∨ k = 1 ∨ k = 2 ∨ k = 3 ∨ k = 4 ∨ k = 5 ∨ k = 6 ∨ k = 7 ∨ k = 8 ∨ k = 9 ∨ k = 10 ∨ k = 11 ∨ k = 12 ∨ k = 13 ∨ k = 14 ∨ k = 15 ∨ k = 16 ∨ k = 17 ∨ k = 18 ∨ k = 19 ∨ k = 20 ∨ k = 21 ∨ k = 22 ∨ k = 23 ∨ k = 24 ∨ k = 25 ∨ 26 ≤ k := by omega
      rcases hcase with rfl | rfl | rfl | rfl | rfl | rfl | rfl | rfl | rfl | rfl | rfl | rfl | rfl | rfl | rfl | rfl | rfl | rfl | rfl | rfl | rfl | rfl | rfl | rfl | rfl | rfl | h26
      · exact r_table ok dL_law_32 (t := 152) (by decide +kernel) (by decide +kernel) (lc_0 ok hc hs hX hbl hL hi hab h hk)
      · exact r_table ok dL_law_32 (t := 185) (by decide +kernel) (by decide +kernel) (lc_1 ok hc hs hX hbl hL hi hab h hk)
      · exact r_table ok dL_law_32 (t := 218) (by decide +kernel) (by decide +kernel) (lc_2 ok hc hs hX hbl hL hi hab h hk)
      · exact r_table ok dL_law_32 (t := 261) (by decide +kernel) (by decide +kernel) (lc_3 ok hc hs hX hbl hL hi hab h hk)
      · exact r_table ok dL_law_32 (t := 304) (by decide +kernel) (by decide +kernel) (lc_4 ok hc hs hX hbl hL hi hab h hk)
      · exact r_table ok dL_law_32 (t := 317) (by decide +kernel) (by decide +kernel) (lc_5 ok hc hs hX hbl hL hi hab h hk)
      · exact r_table ok dL_law_32 (t := 350) (by decide +kernel) (by decide +kernel) (lc_6 ok hc hs hX hbl hL hi hab h hk)
      · exact r_table ok dL_law_32 (t := 403) (by decide +kernel) (by decide +kernel) (lc_7 ok hc hs hX hbl hL hi hab h hk)
      · exact r_table ok dL_law_32 (t := 426) (by decide +kernel) (by decide +kernel) (lc_8 ok hc hs hX hbl hL hi hab h hk)
      · exact r_table ok dL_law_32 (t := 449) (by decide +kernel) (by decide +kernel) (lc_9 ok hc hs hX hbl hL hi hab h hk)
      · exact r_table ok dL_law_32 (t := 472) (by decide +kernel) (by decide +kernel) (lc_10 ok hc hs hX hbl hL hi hab h hk)
      · exact r_table ok dL_law_32 (t := 505) (by decide +kernel) (by decide +kernel) (lc_11 ok hc hs hX hbl hL hi hab h hk)
      · exact r_table ok dL_law_32 (t := 564) (by decide +kernel) (by decide +kernel) (lc_12 ok hc hs hX hbl hL hi hab h hk)
      · exact r_table ok dL_law_32 (t := 597) (by decide +kernel) (by decide +kernel) (lc_13 ok hc hs hX hbl hL hi hab h hk)
      · exact r_table ok dL_law_32 (t := 620) (by decide +kernel) (by decide +kernel) (lc_14 ok hc hs hX hbl hL hi hab h hk)
      · exact r_table ok dL_law_32 (t := 653) (by decide +kernel) (by decide +kernel) (lc_15 ok hc hs hX hbl hL hi hab h hk)
      · exact r_table ok dL_law_32 (t := 686) (by decide +kernel) (by decide +kernel) (lc_16 ok hc hs hX hbl hL hi hab h hk)
      · exact r_table ok dL_law_32 (t := 729) (by decide +kernel) (by decide +kernel) (lc_17 ok hc hs hX hbl hL hi hab h hk)
      · exact r_table ok dL_law_32 (t := 752) (by decide +kernel) (by decide +kernel) (lc_18 ok hc hs hX hbl hL hi hab h hk)
      · exact r_table ok dL_law_32 (t := 785) (by decide +kernel) (by decide +kernel) (lc_19 ok hc hs hX hbl hL hi hab h hk)
      · exact r_table ok dL_law_32 (t := 798) (by decide +kernel) (by decide +kernel) (lc_20 ok hc hs hX hbl hL hi hab h hk)
      · exact r_table ok dL_law_32 (t := 851) (by decide +kernel) (by decide +kernel) (lc_21 ok hc hs hX hbl hL hi hab h hk)
      · exact r_table ok dL_law_32 (t := 864) (by decide +kernel) (by decide +kernel) (lc_22 ok hc hs hX hbl hL hi hab h hk)
      · exact r_table ok dL_law_32 (t := 877) (by decide +kernel) (by decide +kernel) (lc_23 ok hc hs hX hbl hL hi hab h hk)
      · exact r_table ok dL_law_32 (t := 890) (by decide +kernel) (by decide +kernel) (lc_24 ok hc hs hX hbl hL hi hab h hk)
      · exact r_table ok dL_law_32 (t := 913) (by decide +kernel) (by decide +kernel) (lc_25 ok hc hs hX hbl hL hi hab h hk)
      · refine r_table ok dL_law_32 (t := 936) ?_ (by decide +kernel) (hk M' h)
        exact (show ∀ k, k < 32 → 26 ≤ k → ((32 : Nat) : Int) + (if (nI k).toInt < 0 ∨ 25 < (nI k).toInt then 904 else (#[120, 153, 186, 229, 272, 285, 318, 371, 394, 417, 440, 473, 532, 565, 588, 621, 654, 697, 720, 753, 766, 819, 832, 845, 858, 881] : Array Int).getD ((nI k).toInt - 0).toNat 904) = ((936 : Nat) : Int) by decide +kernel) k hk32 h26
end LW
