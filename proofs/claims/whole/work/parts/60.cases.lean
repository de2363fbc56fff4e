/-! THE LAW's cases: laid by program (wip/whole/gen/lawgen.py) -/
theorem zaI_1 : Int32.ofInt 1 = nI 1 := by decide
theorem zaI_2 : Int32.ofInt 2 = nI 2 := by decide
theorem zaI_3 : Int32.ofInt 3 = nI 3 := by decide
theorem zaI_4 : Int32.ofInt 4 = nI 4 := by decide
theorem yL_X9_corner : z_YV yX9_corner cX9_corner 5 (some .int) 4 := ⟨⟨(wsL_c1 _ (List.mem_of_getElem? (i := 2) rfl)), (wsL_c7 _ (List.mem_of_getElem? (i := 12) rfl)), by decide +kernel, by decide +kernel, by decide +kernel⟩, (wsL_c7 _ (List.mem_of_getElem? (i := 10) rfl)), (wsL_c7 _ (List.mem_of_getElem? (i := 11) rfl))⟩
theorem yL_X10_corner : z_YV yX10_corner cX10_corner 6 (some .int) 4 := ⟨⟨(wsL_c1 _ (List.mem_of_getElem? (i := 5) rfl)), (wsL_c10 _ (List.mem_of_getElem? (i := 1) rfl)), by decide +kernel, by decide +kernel, by decide +kernel⟩, (wsL_c9 _ (List.mem_of_getElem? (i := 23) rfl)), (wsL_c10 _ (List.mem_of_getElem? (i := 0) rfl))⟩
set_option maxRecDepth 100000 in
set_option maxHeartbeats 4000000 in
theorem lc_0 {E : z_En} {G : z_G} {A : Nat → Prop} {ad : Nat → Nat} {b L : Nat} {xs : Nat → Int32} {σ : z_S} (hB : zB E G A code 4 RL room_1) (hX : zX E A b L xs) {i : Nat} (hL : L ≤ 2560) (hi : i + 5 ≤ L) (hR : RX σ (fun k => σ (k + 275))) (kk : ∀ σ', RX σ' (fun k => σ' (k + 275)) → ZW E G A 4 layL 285 ad 947 (lvL i b ad) [] σ') : ZW E G A 4 layL 285 ad 156 (lvL i b ad) [] σ := by
  obtain ⟨r, x', m', hx, hm, hR'⟩ := ff_corner hR (xs (i + 1)) (xs (i + 2)) (xs (i + 3)) (xs (i + 4))
  refine z_aload_n hB 2 dL_law_156 rfl rfl ?_
  refine z_arg hB hX 1 dL_law_157 dL_law_158 dL_law_159 zaI_1 dL_law_160 dL_law_161 hL (by omega) ?_
  refine z_arg hB hX 2 dL_law_162 dL_law_163 dL_law_164 zaI_2 dL_law_165 dL_law_166 hL (by omega) ?_
  refine z_arg hB hX 3 dL_law_167 dL_law_168 dL_law_169 zaI_3 dL_law_170 dL_law_171 hL (by omega) ?_
  refine z_arg hB hX 4 dL_law_172 dL_law_173 dL_law_174 zaI_4 dL_law_175 dL_law_176 hL (by omega) ?_
  refine z_cI hB (z_rV (ι := zi_L_X) hB yL_X9_corner (c_X9_corner _ _ _ _ _ _ _ hx) rfl cut_L_X z_hidX kL_230 (Nat.le_of_ble_eq_true rfl) vc_9 rfl rfl rfl (Nat.le_of_ble_eq_true rfl) (wsL_c7 _ (List.mem_of_getElem? (i := 9) rfl)) ⟨(Nat.le_of_ble_eq_true rfl), (Nat.le_of_ble_eq_true rfl)⟩ dL_law_177) cut_L_X z_hidX ?_
  refine z_aload_n hB 1 dL_law_180 rfl rfl ?_
  refine z_arg hB hX 1 dL_law_181 dL_law_182 dL_law_183 zaI_1 dL_law_184 dL_law_185 hL (by omega) ?_
  refine z_arg hB hX 2 dL_law_186 dL_law_187 dL_law_188 zaI_2 dL_law_189 dL_law_190 hL (by omega) ?_
  refine z_arg hB hX 3 dL_law_191 dL_law_192 dL_law_193 zaI_3 dL_law_194 dL_law_195 hL (by omega) ?_
  refine z_arg hB hX 4 dL_law_196 dL_law_197 dL_law_198 zaI_4 dL_law_199 dL_law_200 hL (by omega) ?_
  refine z_cI hB (z_rV (ι := zi_L_M) hB yL_X10_corner (c_X10_corner _ _ _ _ _ _ _ hm) z_mL.symm cut_L_M z_hno kM_0 (Nat.le_of_ble_eq_true rfl) vc_10 rfl rfl rfl (Nat.le_of_ble_eq_true rfl) (wsL_c9 _ (List.mem_of_getElem? (i := 22) rfl)) ⟨(Nat.le_of_ble_eq_true rfl), (Nat.le_of_ble_eq_true rfl)⟩ dL_law_201) cut_L_M z_hno ?_
  exact z_icmp_eq hB (tgt := 947) dL_law_204 (by decide) (fun _ => kk _ (RX_step hR')) (fun h => absurd rfl h)
theorem yL_X9_house : z_YV yX9_house cX9_house 4 (some .int) 3 := ⟨⟨(wsL_c1 _ (List.mem_of_getElem? (i := 2) rfl)), (wsL_c11 _ (List.mem_of_getElem? (i := 0) rfl)), by decide +kernel, by decide +kernel, by decide +kernel⟩, (wsL_c10 _ (List.mem_of_getElem? (i := 22) rfl)), (wsL_c10 _ (List.mem_of_getElem? (i := 23) rfl))⟩
theorem yL_X10_house : z_YV yX10_house cX10_house 5 (some .int) 3 := ⟨⟨(wsL_c1 _ (List.mem_of_getElem? (i := 5) rfl)), (wsL_c11 _ (List.mem_of_getElem? (i := 19) rfl)), by decide +kernel, by decide +kernel, by decide +kernel⟩, (wsL_c11 _ (List.mem_of_getElem? (i := 17) rfl)), (wsL_c11 _ (List.mem_of_getElem? (i := 18) rfl))⟩
set_option maxRecDepth 100000 in
set_option maxHeartbeats 4000000 in
theorem lc_1 {E : z_En} {G : z_G} {A : Nat → Prop} {ad : Nat → Nat} {b L : Nat} {xs : Nat → Int32} {σ : z_S} (hB : zB E G A code 4 RL room_1) (hX : zX E A b L xs) {i : Nat} (hL : L ≤ 2560) (hi : i + 5 ≤ L) (hR : RX σ (fun k => σ (k + 275))) (kk : ∀ σ', RX σ' (fun k => σ' (k + 275)) → ZW E G A 4 layL 285 ad 947 (lvL i b ad) [] σ') : ZW E G A 4 layL 285 ad 209 (lvL i b ad) [] σ := by
  obtain ⟨r, x', m', hx, hm, hR'⟩ := ff_house hR (xs (i + 1)) (xs (i + 2)) (xs (i + 3))
  refine z_aload_n hB 2 dL_law_209 rfl rfl ?_
  refine z_arg hB hX 1 dL_law_210 dL_law_211 dL_law_212 zaI_1 dL_law_213 dL_law_214 hL (by omega) ?_
  refine z_arg hB hX 2 dL_law_215 dL_law_216 dL_law_217 zaI_2 dL_law_218 dL_law_219 hL (by omega) ?_
  refine z_arg hB hX 3 dL_law_220 dL_law_221 dL_law_222 zaI_3 dL_law_223 dL_law_224 hL (by omega) ?_
  refine z_cI hB (z_rV (ι := zi_L_X) hB yL_X9_house (c_X9_house _ _ _ _ _ _ hx) rfl cut_L_X z_hidX kL_230 (Nat.le_of_ble_eq_true rfl) vc_9 rfl rfl rfl (Nat.le_of_ble_eq_true rfl) (wsL_c10 _ (List.mem_of_getElem? (i := 21) rfl)) ⟨(Nat.le_of_ble_eq_true rfl), (Nat.le_of_ble_eq_true rfl)⟩ dL_law_225) cut_L_X z_hidX ?_
  refine z_aload_n hB 1 dL_law_228 rfl rfl ?_
  refine z_arg hB hX 1 dL_law_229 dL_law_230 dL_law_231 zaI_1 dL_law_232 dL_law_233 hL (by omega) ?_
  refine z_arg hB hX 2 dL_law_234 dL_law_235 dL_law_236 zaI_2 dL_law_237 dL_law_238 hL (by omega) ?_
  refine z_arg hB hX 3 dL_law_239 dL_law_240 dL_law_241 zaI_3 dL_law_242 dL_law_243 hL (by omega) ?_
  refine z_cI hB (z_rV (ι := zi_L_M) hB yL_X10_house (c_X10_house _ _ _ _ _ _ hm) z_mL.symm cut_L_M z_hno kM_0 (Nat.le_of_ble_eq_true rfl) vc_10 rfl rfl rfl (Nat.le_of_ble_eq_true rfl) (wsL_c11 _ (List.mem_of_getElem? (i := 16) rfl)) ⟨(Nat.le_of_ble_eq_true rfl), (Nat.le_of_ble_eq_true rfl)⟩ dL_law_244) cut_L_M z_hno ?_
  exact z_icmp_eq hB (tgt := 947) dL_law_247 (by decide) (fun _ => kk _ (RX_step hR')) (fun h => absurd rfl h)
theorem yL_X9_dog : z_YV yX9_dog cX9_dog 4 (some .int) 3 := ⟨⟨(wsL_c1 _ (List.mem_of_getElem? (i := 2) rfl)), (wsL_c12 _ (List.mem_of_getElem? (i := 3) rfl)), by decide +kernel, by decide +kernel, by decide +kernel⟩, (wsL_c12 _ (List.mem_of_getElem? (i := 1) rfl)), (wsL_c12 _ (List.mem_of_getElem? (i := 2) rfl))⟩
theorem yL_X10_dog : z_YV yX10_dog cX10_dog 5 (some .int) 3 := ⟨⟨(wsL_c1 _ (List.mem_of_getElem? (i := 5) rfl)), (wsL_c12 _ (List.mem_of_getElem? (i := 17) rfl)), by decide +kernel, by decide +kernel, by decide +kernel⟩, (wsL_c12 _ (List.mem_of_getElem? (i := 15) rfl)), (wsL_c12 _ (List.mem_of_getElem? (i := 16) rfl))⟩
set_option maxRecDepth 100000 in
set_option maxHeartbeats 4000000 in
theorem lc_2 {E : z_En} {G : z_G} {A : Nat → Prop} {ad : Nat → Nat} {b L : Nat} {xs : Nat → Int32} {σ : z_S} (hB : zB E G A code 4 RL room_1) (hX : zX E A b L xs) {i : Nat} (hL : L ≤ 2560) (hi : i + 5 ≤ L) (hR : RX σ (fun k => σ (k + 275))) (kk : ∀ σ', RX σ' (fun k => σ' (k + 275)) → ZW E G A 4 layL 285 ad 947 (lvL i b ad) [] σ') : ZW E G A 4 layL 285 ad 252 (lvL i b ad) [] σ := by
  obtain ⟨r, x', m', hx, hm, hR'⟩ := ff_dog hR (xs (i + 1)) (xs (i + 2)) (xs (i + 3))
  refine z_aload_n hB 2 dL_law_252 rfl rfl ?_
  refine z_arg hB hX 1 dL_law_253 dL_law_254 dL_law_255 zaI_1 dL_law_256 dL_law_257 hL (by omega) ?_
  refine z_arg hB hX 2 dL_law_258 dL_law_259 dL_law_260 zaI_2 dL_law_261 dL_law_262 hL (by omega) ?_
  refine z_arg hB hX 3 dL_law_263 dL_law_264 dL_law_265 zaI_3 dL_law_266 dL_law_267 hL (by omega) ?_
  refine z_cI hB (z_rV (ι := zi_L_X) hB yL_X9_dog (c_X9_dog _ _ _ _ _ _ hx) rfl cut_L_X z_hidX kL_230 (Nat.le_of_ble_eq_true rfl) vc_9 rfl rfl rfl (Nat.le_of_ble_eq_true rfl) (wsL_c12 _ (List.mem_of_getElem? (i := 0) rfl)) ⟨(Nat.le_of_ble_eq_true rfl), (Nat.le_of_ble_eq_true rfl)⟩ dL_law_268) cut_L_X z_hidX ?_
  refine z_aload_n hB 1 dL_law_271 rfl rfl ?_
  refine z_arg hB hX 1 dL_law_272 dL_law_273 dL_law_274 zaI_1 dL_law_275 dL_law_276 hL (by omega) ?_
  refine z_arg hB hX 2 dL_law_277 dL_law_278 dL_law_279 zaI_2 dL_law_280 dL_law_281 hL (by omega) ?_
  refine z_arg hB hX 3 dL_law_282 dL_law_283 dL_law_284 zaI_3 dL_law_285 dL_law_286 hL (by omega) ?_
  refine z_cI hB (z_rV (ι := zi_L_M) hB yL_X10_dog (c_X10_dog _ _ _ _ _ _ hm) z_mL.symm cut_L_M z_hno kM_0 (Nat.le_of_ble_eq_true rfl) vc_10 rfl rfl rfl (Nat.le_of_ble_eq_true rfl) (wsL_c12 _ (List.mem_of_getElem? (i := 14) rfl)) ⟨(Nat.le_of_ble_eq_true rfl), (Nat.le_of_ble_eq_true rfl)⟩ dL_law_287) cut_L_M z_hno ?_
  exact z_icmp_eq hB (tgt := 947) dL_law_290 (by decide) (fun _ => kk _ (RX_step hR')) (fun h => absurd rfl h)
theorem yL_X9_pause : z_YV yX9_pause cX9_pause 4 (some .int) 3 := ⟨⟨(wsL_c1 _ (List.mem_of_getElem? (i := 2) rfl)), (wsL_c13 _ (List.mem_of_getElem? (i := 5) rfl)), by decide +kernel, by decide +kernel, by decide +kernel⟩, (wsL_c13 _ (List.mem_of_getElem? (i := 3) rfl)), (wsL_c13 _ (List.mem_of_getElem? (i := 4) rfl))⟩
theorem yL_X10_pause : z_YV yX10_pause cX10_pause 4 (some .int) 3 := ⟨⟨(wsL_c1 _ (List.mem_of_getElem? (i := 5) rfl)), (wsL_c13 _ (List.mem_of_getElem? (i := 18) rfl)), by decide +kernel, by decide +kernel, by decide +kernel⟩, (wsL_c13 _ (List.mem_of_getElem? (i := 16) rfl)), (wsL_c13 _ (List.mem_of_getElem? (i := 17) rfl))⟩
set_option maxRecDepth 100000 in
set_option maxHeartbeats 4000000 in
theorem lc_3 {E : z_En} {G : z_G} {A : Nat → Prop} {ad : Nat → Nat} {b L : Nat} {xs : Nat → Int32} {σ : z_S} (hB : zB E G A code 4 RL room_1) (hX : zX E A b L xs) {i : Nat} (hL : L ≤ 2560) (hi : i + 5 ≤ L) (hR : RX σ (fun k => σ (k + 275))) (kk : ∀ σ', RX σ' (fun k => σ' (k + 275)) → ZW E G A 4 layL 285 ad 947 (lvL i b ad) [] σ') : ZW E G A 4 layL 285 ad 295 (lvL i b ad) [] σ := by
  obtain ⟨r, x', m', hx, hm, hR'⟩ := ff_pause hR (xs (i + 1)) (xs (i + 2)) (xs (i + 3))
  refine z_aload_n hB 2 dL_law_295 rfl rfl ?_
  refine z_arg hB hX 1 dL_law_296 dL_law_297 dL_law_298 zaI_1 dL_law_299 dL_law_300 hL (by omega) ?_
  refine z_arg hB hX 2 dL_law_301 dL_law_302 dL_law_303 zaI_2 dL_law_304 dL_law_305 hL (by omega) ?_
  refine z_arg hB hX 3 dL_law_306 dL_law_307 dL_law_308 zaI_3 dL_law_309 dL_law_310 hL (by omega) ?_
  refine z_cI hB (z_rV (ι := zi_L_X) hB yL_X9_pause (c_X9_pause _ _ _ _ _ _ hx) rfl cut_L_X z_hidX kL_230 (Nat.le_of_ble_eq_true rfl) vc_9 rfl rfl rfl (Nat.le_of_ble_eq_true rfl) (wsL_c13 _ (List.mem_of_getElem? (i := 2) rfl)) ⟨(Nat.le_of_ble_eq_true rfl), (Nat.le_of_ble_eq_true rfl)⟩ dL_law_311) cut_L_X z_hidX ?_
  refine z_aload_n hB 1 dL_law_314 rfl rfl ?_
  refine z_arg hB hX 1 dL_law_315 dL_law_316 dL_law_317 zaI_1 dL_law_318 dL_law_319 hL (by omega) ?_
  refine z_arg hB hX 2 dL_law_320 dL_law_321 dL_law_322 zaI_2 dL_law_323 dL_law_324 hL (by omega) ?_
  refine z_arg hB hX 3 dL_law_325 dL_law_326 dL_law_327 zaI_3 dL_law_328 dL_law_329 hL (by omega) ?_
  refine z_cI hB (z_rV (ι := zi_L_M) hB yL_X10_pause (c_X10_pause _ _ _ _ _ _ hm) z_mL.symm cut_L_M z_hno kM_0 (Nat.le_of_ble_eq_true rfl) vc_10 rfl rfl rfl (Nat.le_of_ble_eq_true rfl) (wsL_c13 _ (List.mem_of_getElem? (i := 15) rfl)) ⟨(Nat.le_of_ble_eq_true rfl), (Nat.le_of_ble_eq_true rfl)⟩ dL_law_330) cut_L_M z_hno ?_
  exact z_icmp_eq hB (tgt := 947) dL_law_333 (by decide) (fun _ => kk _ (RX_step hR')) (fun h => absurd rfl h)
theorem yL_X9_carrier : z_YV yX9_carrier cX9_carrier 3 (some .int) 2 := ⟨⟨(wsL_c1 _ (List.mem_of_getElem? (i := 2) rfl)), (wsL_c14 _ (List.mem_of_getElem? (i := 2) rfl)), by decide +kernel, by decide +kernel, by decide +kernel⟩, (wsL_c14 _ (List.mem_of_getElem? (i := 0) rfl)), (wsL_c14 _ (List.mem_of_getElem? (i := 1) rfl))⟩
theorem yL_X10_carrier : z_YV yX10_carrier cX10_carrier 3 (some .int) 2 := ⟨⟨(wsL_c1 _ (List.mem_of_getElem? (i := 5) rfl)), (wsL_c14 _ (List.mem_of_getElem? (i := 15) rfl)), by decide +kernel, by decide +kernel, by decide +kernel⟩, (wsL_c14 _ (List.mem_of_getElem? (i := 13) rfl)), (wsL_c14 _ (List.mem_of_getElem? (i := 14) rfl))⟩
set_option maxRecDepth 100000 in
set_option maxHeartbeats 4000000 in
theorem lc_4 {E : z_En} {G : z_G} {A : Nat → Prop} {ad : Nat → Nat} {b L : Nat} {xs : Nat → Int32} {σ : z_S} (hB : zB E G A code 4 RL room_1) (hX : zX E A b L xs) {i : Nat} (hL : L ≤ 2560) (hi : i + 5 ≤ L) (hR : RX σ (fun k => σ (k + 275))) (kk : ∀ σ', RX σ' (fun k => σ' (k + 275)) → ZW E G A 4 layL 285 ad 947 (lvL i b ad) [] σ') : ZW E G A 4 layL 285 ad 338 (lvL i b ad) [] σ := by
  obtain ⟨r, x', m', hx, hm, hR'⟩ := ff_carrier hR (xs (i + 1)) (xs (i + 2))
  refine z_aload_n hB 2 dL_law_338 rfl rfl ?_
  refine z_arg hB hX 1 dL_law_339 dL_law_340 dL_law_341 zaI_1 dL_law_342 dL_law_343 hL (by omega) ?_
  refine z_arg hB hX 2 dL_law_344 dL_law_345 dL_law_346 zaI_2 dL_law_347 dL_law_348 hL (by omega) ?_
  refine z_cI hB (z_rV (ι := zi_L_X) hB yL_X9_carrier (c_X9_carrier _ _ _ _ _ hx) rfl cut_L_X z_hidX kL_230 (Nat.le_of_ble_eq_true rfl) vc_9 rfl rfl rfl (Nat.le_of_ble_eq_true rfl) (wsL_c13 _ (List.mem_of_getElem? (i := 23) rfl)) ⟨(Nat.le_of_ble_eq_true rfl), (Nat.le_of_ble_eq_true rfl)⟩ dL_law_349) cut_L_X z_hidX ?_
  refine z_aload_n hB 1 dL_law_352 rfl rfl ?_
  refine z_arg hB hX 1 dL_law_353 dL_law_354 dL_law_355 zaI_1 dL_law_356 dL_law_357 hL (by omega) ?_
  refine z_arg hB hX 2 dL_law_358 dL_law_359 dL_law_360 zaI_2 dL_law_361 dL_law_362 hL (by omega) ?_
  refine z_cI hB (z_rV (ι := zi_L_M) hB yL_X10_carrier (c_X10_carrier _ _ _ _ _ hm) z_mL.symm cut_L_M z_hno kM_0 (Nat.le_of_ble_eq_true rfl) vc_10 rfl rfl rfl (Nat.le_of_ble_eq_true rfl) (wsL_c14 _ (List.mem_of_getElem? (i := 12) rfl)) ⟨(Nat.le_of_ble_eq_true rfl), (Nat.le_of_ble_eq_true rfl)⟩ dL_law_363) cut_L_M z_hno ?_
  exact z_icmp_eq hB (tgt := 947) dL_law_366 (by decide) (fun _ => kk _ (RX_step hR')) (fun h => absurd rfl h)
theorem yL_X9_give : z_YV yX9_give cX9_give 3 (some .int) 2 := ⟨⟨(wsL_c1 _ (List.mem_of_getElem? (i := 2) rfl)), (wsL_c14 _ (List.mem_of_getElem? (i := 23) rfl)), by decide +kernel, by decide +kernel, by decide +kernel⟩, (wsL_c14 _ (List.mem_of_getElem? (i := 21) rfl)), (wsL_c14 _ (List.mem_of_getElem? (i := 22) rfl))⟩
theorem yL_X10_give : z_YV yX10_give cX10_give 3 (some .int) 2 := ⟨⟨(wsL_c1 _ (List.mem_of_getElem? (i := 5) rfl)), (wsL_c15 _ (List.mem_of_getElem? (i := 23) rfl)), by decide +kernel, by decide +kernel, by decide +kernel⟩, (wsL_c15 _ (List.mem_of_getElem? (i := 21) rfl)), (wsL_c15 _ (List.mem_of_getElem? (i := 22) rfl))⟩
set_option maxRecDepth 100000 in
set_option maxHeartbeats 4000000 in
theorem lc_5 {E : z_En} {G : z_G} {A : Nat → Prop} {ad : Nat → Nat} {b L : Nat} {xs : Nat → Int32} {σ : z_S} (hB : zB E G A code 4 RL room_1) (hX : zX E A b L xs) {i : Nat} (hL : L ≤ 2560) (hi : i + 5 ≤ L) (hR : RX σ (fun k => σ (k + 275))) (kk : ∀ σ', RX σ' (fun k => σ' (k + 275)) → ZW E G A 4 layL 285 ad 947 (lvL i b ad) [] σ') : ZW E G A 4 layL 285 ad 371 (lvL i b ad) [] σ := by
  obtain ⟨r, x', m', hx, hm, hR'⟩ := ff_give hR (xs (i + 1)) (xs (i + 2))
  refine z_aload_n hB 2 dL_law_371 rfl rfl ?_
  refine z_arg hB hX 1 dL_law_372 dL_law_373 dL_law_374 zaI_1 dL_law_375 dL_law_376 hL (by omega) ?_
  refine z_arg hB hX 2 dL_law_377 dL_law_378 dL_law_379 zaI_2 dL_law_380 dL_law_381 hL (by omega) ?_
  refine z_cI hB (z_rV (ι := zi_L_X) hB yL_X9_give (c_X9_give _ _ _ _ _ hx) rfl cut_L_X z_hidX kL_230 (Nat.le_of_ble_eq_true rfl) vc_9 rfl rfl rfl (Nat.le_of_ble_eq_true rfl) (wsL_c14 _ (List.mem_of_getElem? (i := 20) rfl)) ⟨(Nat.le_of_ble_eq_true rfl), (Nat.le_of_ble_eq_true rfl)⟩ dL_law_382) cut_L_X z_hidX ?_
  refine z_aload_n hB 1 dL_law_385 rfl rfl ?_
  refine z_arg hB hX 1 dL_law_386 dL_law_387 dL_law_388 zaI_1 dL_law_389 dL_law_390 hL (by omega) ?_
  refine z_arg hB hX 2 dL_law_391 dL_law_392 dL_law_393 zaI_2 dL_law_394 dL_law_395 hL (by omega) ?_
  refine z_cI hB (z_rV (ι := zi_L_M) hB yL_X10_give (c_X10_give _ _ _ _ _ hm) z_mL.symm cut_L_M z_hno kM_0 (Nat.le_of_ble_eq_true rfl) vc_10 rfl rfl rfl (Nat.le_of_ble_eq_true rfl) (wsL_c15 _ (List.mem_of_getElem? (i := 20) rfl)) ⟨(Nat.le_of_ble_eq_true rfl), (Nat.le_of_ble_eq_true rfl)⟩ dL_law_396) cut_L_M z_hno ?_
  exact z_icmp_eq hB (tgt := 947) dL_law_399 (by decide) (fun _ => kk _ (RX_step hR')) (fun h => absurd rfl h)
theorem yL_X9_giveNone : z_YV yX9_giveNone cX9_giveNone 2 (some .int) 1 := ⟨⟨(wsL_c1 _ (List.mem_of_getElem? (i := 2) rfl)), (wsL_c17 _ (List.mem_of_getElem? (i := 7) rfl)), by decide +kernel, by decide +kernel, by decide +kernel⟩, (wsL_c17 _ (List.mem_of_getElem? (i := 5) rfl)), (wsL_c17 _ (List.mem_of_getElem? (i := 6) rfl))⟩
theorem yL_X10_giveNone : z_YV yX10_giveNone cX10_giveNone 2 (some .int) 1 := ⟨⟨(wsL_c1 _ (List.mem_of_getElem? (i := 5) rfl)), (wsL_c17 _ (List.mem_of_getElem? (i := 15) rfl)), by decide +kernel, by decide +kernel, by decide +kernel⟩, (wsL_c17 _ (List.mem_of_getElem? (i := 13) rfl)), (wsL_c17 _ (List.mem_of_getElem? (i := 14) rfl))⟩
set_option maxRecDepth 100000 in
set_option maxHeartbeats 4000000 in
theorem lc_6 {E : z_En} {G : z_G} {A : Nat → Prop} {ad : Nat → Nat} {b L : Nat} {xs : Nat → Int32} {σ : z_S} (hB : zB E G A code 4 RL room_1) (hX : zX E A b L xs) {i : Nat} (hL : L ≤ 2560) (hi : i + 5 ≤ L) (hR : RX σ (fun k => σ (k + 275))) (kk : ∀ σ', RX σ' (fun k => σ' (k + 275)) → ZW E G A 4 layL 285 ad 947 (lvL i b ad) [] σ') : ZW E G A 4 layL 285 ad 404 (lvL i b ad) [] σ := by
  obtain ⟨r, x', m', hx, hm, hR'⟩ := ff_giveNone hR (xs (i + 1))
  refine z_aload_n hB 2 dL_law_404 rfl rfl ?_
  refine z_arg hB hX 1 dL_law_405 dL_law_406 dL_law_407 zaI_1 dL_law_408 dL_law_409 hL (by omega) ?_
  refine z_cI hB (z_rV (ι := zi_L_X) hB yL_X9_giveNone (c_X9_giveNone _ _ _ _ hx) rfl cut_L_X z_hidX kL_230 (Nat.le_of_ble_eq_true rfl) vc_9 rfl rfl rfl (Nat.le_of_ble_eq_true rfl) (wsL_c17 _ (List.mem_of_getElem? (i := 4) rfl)) ⟨(Nat.le_of_ble_eq_true rfl), (Nat.le_of_ble_eq_true rfl)⟩ dL_law_410) cut_L_X z_hidX ?_
  refine z_aload_n hB 1 dL_law_413 rfl rfl ?_
  refine z_arg hB hX 1 dL_law_414 dL_law_415 dL_law_416 zaI_1 dL_law_417 dL_law_418 hL (by omega) ?_
  refine z_cI hB (z_rV (ι := zi_L_M) hB yL_X10_giveNone (c_X10_giveNone _ _ _ _ hm) z_mL.symm cut_L_M z_hno kM_0 (Nat.le_of_ble_eq_true rfl) vc_10 rfl rfl rfl (Nat.le_of_ble_eq_true rfl) (wsL_c17 _ (List.mem_of_getElem? (i := 12) rfl)) ⟨(Nat.le_of_ble_eq_true rfl), (Nat.le_of_ble_eq_true rfl)⟩ dL_law_419) cut_L_M z_hno ?_
  exact z_icmp_eq hB (tgt := 947) dL_law_422 (by decide) (fun _ => kk _ (RX_step hR')) (fun h => absurd rfl h)
theorem yL_X9_biscuits : z_YV yX9_biscuits cX9_biscuits 3 (some .int) 2 := ⟨⟨(wsL_c1 _ (List.mem_of_getElem? (i := 2) rfl)), (wsL_c17 _ (List.mem_of_getElem? (i := 23) rfl)), by decide +kernel, by decide +kernel, by decide +kernel⟩, (wsL_c17 _ (List.mem_of_getElem? (i := 21) rfl)), (wsL_c17 _ (List.mem_of_getElem? (i := 22) rfl))⟩
theorem yL_X10_biscuits : z_YV yX10_biscuits cX10_biscuits 3 (some .int) 2 := ⟨⟨(wsL_c1 _ (List.mem_of_getElem? (i := 5) rfl)), (wsL_c18 _ (List.mem_of_getElem? (i := 8) rfl)), by decide +kernel, by decide +kernel, by decide +kernel⟩, (wsL_c18 _ (List.mem_of_getElem? (i := 6) rfl)), (wsL_c18 _ (List.mem_of_getElem? (i := 7) rfl))⟩
set_option maxRecDepth 100000 in
set_option maxHeartbeats 4000000 in
theorem lc_7 {E : z_En} {G : z_G} {A : Nat → Prop} {ad : Nat → Nat} {b L : Nat} {xs : Nat → Int32} {σ : z_S} (hB : zB E G A code 4 RL room_1) (hX : zX E A b L xs) {i : Nat} (hL : L ≤ 2560) (hi : i + 5 ≤ L) (hR : RX σ (fun k => σ (k + 275))) (kk : ∀ σ', RX σ' (fun k => σ' (k + 275)) → ZW E G A 4 layL 285 ad 947 (lvL i b ad) [] σ') : ZW E G A 4 layL 285 ad 427 (lvL i b ad) [] σ := by
  obtain ⟨r, x', m', hx, hm, hR'⟩ := ff_biscuits hR (xs (i + 1)) (xs (i + 2))
  refine z_aload_n hB 2 dL_law_427 rfl rfl ?_
  refine z_arg hB hX 1 dL_law_428 dL_law_429 dL_law_430 zaI_1 dL_law_431 dL_law_432 hL (by omega) ?_
  refine z_arg hB hX 2 dL_law_433 dL_law_434 dL_law_435 zaI_2 dL_law_436 dL_law_437 hL (by omega) ?_
  refine z_cI hB (z_rV (ι := zi_L_X) hB yL_X9_biscuits (c_X9_biscuits _ _ _ _ _ hx) rfl cut_L_X z_hidX kL_230 (Nat.le_of_ble_eq_true rfl) vc_9 rfl rfl rfl (Nat.le_of_ble_eq_true rfl) (wsL_c17 _ (List.mem_of_getElem? (i := 20) rfl)) ⟨(Nat.le_of_ble_eq_true rfl), (Nat.le_of_ble_eq_true rfl)⟩ dL_law_438) cut_L_X z_hidX ?_
  refine z_aload_n hB 1 dL_law_441 rfl rfl ?_
  refine z_arg hB hX 1 dL_law_442 dL_law_443 dL_law_444 zaI_1 dL_law_445 dL_law_446 hL (by omega) ?_
  refine z_arg hB hX 2 dL_law_447 dL_law_448 dL_law_449 zaI_2 dL_law_450 dL_law_451 hL (by omega) ?_
  refine z_cI hB (z_rV (ι := zi_L_M) hB yL_X10_biscuits (c_X10_biscuits _ _ _ _ _ hm) z_mL.symm cut_L_M z_hno kM_0 (Nat.le_of_ble_eq_true rfl) vc_10 rfl rfl rfl (Nat.le_of_ble_eq_true rfl) (wsL_c18 _ (List.mem_of_getElem? (i := 5) rfl)) ⟨(Nat.le_of_ble_eq_true rfl), (Nat.le_of_ble_eq_true rfl)⟩ dL_law_452) cut_L_M z_hno ?_
  exact z_icmp_eq hB (tgt := 947) dL_law_455 (by decide) (fun _ => kk _ (RX_step hR')) (fun h => absurd rfl h)
theorem yL_X9_set : z_YV yX9_set cX9_set 3 (some .int) 2 := ⟨⟨(wsL_c1 _ (List.mem_of_getElem? (i := 2) rfl)), (wsL_c18 _ (List.mem_of_getElem? (i := 16) rfl)), by decide +kernel, by decide +kernel, by decide +kernel⟩, (wsL_c18 _ (List.mem_of_getElem? (i := 14) rfl)), (wsL_c18 _ (List.mem_of_getElem? (i := 15) rfl))⟩
theorem yL_X10_set : z_YV yX10_set cX10_set 4 (some .int) 2 := ⟨⟨(wsL_c1 _ (List.mem_of_getElem? (i := 5) rfl)), (wsL_c19 _ (List.mem_of_getElem? (i := 0) rfl)), by decide +kernel, by decide +kernel, by decide +kernel⟩, (wsL_c18 _ (List.mem_of_getElem? (i := 22) rfl)), (wsL_c18 _ (List.mem_of_getElem? (i := 23) rfl))⟩
set_option maxRecDepth 100000 in
set_option maxHeartbeats 4000000 in
theorem lc_8 {E : z_En} {G : z_G} {A : Nat → Prop} {ad : Nat → Nat} {b L : Nat} {xs : Nat → Int32} {σ : z_S} (hB : zB E G A code 4 RL room_1) (hX : zX E A b L xs) {i : Nat} (hL : L ≤ 2560) (hi : i + 5 ≤ L) (hR : RX σ (fun k => σ (k + 275))) (kk : ∀ σ', RX σ' (fun k => σ' (k + 275)) → ZW E G A 4 layL 285 ad 947 (lvL i b ad) [] σ') : ZW E G A 4 layL 285 ad 460 (lvL i b ad) [] σ := by
  obtain ⟨r, x', m', hx, hm, hR'⟩ := ff_set hR (xs (i + 1)) (xs (i + 2))
  refine z_aload_n hB 2 dL_law_460 rfl rfl ?_
  refine z_arg hB hX 1 dL_law_461 dL_law_462 dL_law_463 zaI_1 dL_law_464 dL_law_465 hL (by omega) ?_
  refine z_arg hB hX 2 dL_law_466 dL_law_467 dL_law_468 zaI_2 dL_law_469 dL_law_470 hL (by omega) ?_
  refine z_cI hB (z_rV (ι := zi_L_X) hB yL_X9_set (c_X9_set _ _ _ _ _ hx) rfl cut_L_X z_hidX kL_230 (Nat.le_of_ble_eq_true rfl) vc_9 rfl rfl rfl (Nat.le_of_ble_eq_true rfl) (wsL_c18 _ (List.mem_of_getElem? (i := 13) rfl)) ⟨(Nat.le_of_ble_eq_true rfl), (Nat.le_of_ble_eq_true rfl)⟩ dL_law_471) cut_L_X z_hidX ?_
  refine z_aload_n hB 1 dL_law_474 rfl rfl ?_
  refine z_arg hB hX 1 dL_law_475 dL_law_476 dL_law_477 zaI_1 dL_law_478 dL_law_479 hL (by omega) ?_
  refine z_arg hB hX 2 dL_law_480 dL_law_481 dL_law_482 zaI_2 dL_law_483 dL_law_484 hL (by omega) ?_
  refine z_cI hB (z_rV (ι := zi_L_M) hB yL_X10_set (c_X10_set _ _ _ _ _ hm) z_mL.symm cut_L_M z_hno kM_0 (Nat.le_of_ble_eq_true rfl) vc_10 rfl rfl rfl (Nat.le_of_ble_eq_true rfl) (wsL_c18 _ (List.mem_of_getElem? (i := 21) rfl)) ⟨(Nat.le_of_ble_eq_true rfl), (Nat.le_of_ble_eq_true rfl)⟩ dL_law_485) cut_L_M z_hno ?_
  exact z_icmp_eq hB (tgt := 947) dL_law_488 (by decide) (fun _ => kk _ (RX_step hR')) (fun h => absurd rfl h)
theorem yL_X9_days : z_YV yX9_days cX9_days 2 (some .int) 1 := ⟨⟨(wsL_c1 _ (List.mem_of_getElem? (i := 2) rfl)), (wsL_c19 _ (List.mem_of_getElem? (i := 4) rfl)), by decide +kernel, by decide +kernel, by decide +kernel⟩, (wsL_c19 _ (List.mem_of_getElem? (i := 2) rfl)), (wsL_c19 _ (List.mem_of_getElem? (i := 3) rfl))⟩
theorem yL_X10_days : z_YV yX10_days cX10_days 2 (some .int) 1 := ⟨⟨(wsL_c1 _ (List.mem_of_getElem? (i := 5) rfl)), (wsL_c23 _ (List.mem_of_getElem? (i := 5) rfl)), by decide +kernel, by decide +kernel, by decide +kernel⟩, (wsL_c23 _ (List.mem_of_getElem? (i := 3) rfl)), (wsL_c23 _ (List.mem_of_getElem? (i := 4) rfl))⟩
set_option maxRecDepth 100000 in
set_option maxHeartbeats 4000000 in
theorem lc_9 {E : z_En} {G : z_G} {A : Nat → Prop} {ad : Nat → Nat} {b L : Nat} {xs : Nat → Int32} {σ : z_S} (hB : zB E G A code 4 RL room_1) (hX : zX E A b L xs) {i : Nat} (hL : L ≤ 2560) (hi : i + 5 ≤ L) (hR : RX σ (fun k => σ (k + 275))) (kk : ∀ σ', RX σ' (fun k => σ' (k + 275)) → ZW E G A 4 layL 285 ad 947 (lvL i b ad) [] σ') : ZW E G A 4 layL 285 ad 493 (lvL i b ad) [] σ := by
  obtain ⟨r, x', m', hx, hm, hR'⟩ := ff_days hR (xs (i + 1))
  refine z_aload_n hB 2 dL_law_493 rfl rfl ?_
  refine z_arg hB hX 1 dL_law_494 dL_law_495 dL_law_496 zaI_1 dL_law_497 dL_law_498 hL (by omega) ?_
  refine z_cI hB (z_rV (ι := zi_L_X) hB yL_X9_days (c_X9_days _ _ _ _ hx) rfl cut_L_X z_hidX kL_230 (Nat.le_of_ble_eq_true rfl) vc_9 rfl rfl rfl (Nat.le_of_ble_eq_true rfl) (wsL_c19 _ (List.mem_of_getElem? (i := 1) rfl)) ⟨(Nat.le_of_ble_eq_true rfl), (Nat.le_of_ble_eq_true rfl)⟩ dL_law_499) cut_L_X z_hidX ?_
  refine z_aload_n hB 1 dL_law_502 rfl rfl ?_
  refine z_arg hB hX 1 dL_law_503 dL_law_504 dL_law_505 zaI_1 dL_law_506 dL_law_507 hL (by omega) ?_
  refine z_cI hB (z_rV (ι := zi_L_M) hB yL_X10_days (c_X10_days _ _ _ _ hm) z_mL.symm cut_L_M z_hno kM_0 (Nat.le_of_ble_eq_true rfl) vc_10 rfl rfl rfl (Nat.le_of_ble_eq_true rfl) (wsL_c23 _ (List.mem_of_getElem? (i := 2) rfl)) ⟨(Nat.le_of_ble_eq_true rfl), (Nat.le_of_ble_eq_true rfl)⟩ dL_law_508) cut_L_M z_hno ?_
  exact z_icmp_eq hB (tgt := 947) dL_law_511 (by decide) (fun _ => kk _ (RX_step hR')) (fun h => absurd rfl h)
theorem yL_X9_cornerOf : z_YV yX9_cornerOf cX9_cornerOf 4 (some .int) 2 := ⟨⟨(wsL_c1 _ (List.mem_of_getElem? (i := 2) rfl)), (wsL_c25 _ (List.mem_of_getElem? (i := 21) rfl)), by decide +kernel, by decide +kernel, by decide +kernel⟩, (wsL_c25 _ (List.mem_of_getElem? (i := 19) rfl)), (wsL_c25 _ (List.mem_of_getElem? (i := 20) rfl))⟩
theorem yL_X10_cornerOf : z_YV yX10_cornerOf cX10_cornerOf 3 (some .int) 2 := ⟨⟨(wsL_c1 _ (List.mem_of_getElem? (i := 5) rfl)), (wsL_c26 _ (List.mem_of_getElem? (i := 18) rfl)), by decide +kernel, by decide +kernel, by decide +kernel⟩, (wsL_c26 _ (List.mem_of_getElem? (i := 16) rfl)), (wsL_c26 _ (List.mem_of_getElem? (i := 17) rfl))⟩
set_option maxRecDepth 100000 in
set_option maxHeartbeats 4000000 in
theorem lc_10 {E : z_En} {G : z_G} {A : Nat → Prop} {ad : Nat → Nat} {b L : Nat} {xs : Nat → Int32} {σ : z_S} (hB : zB E G A code 4 RL room_1) (hX : zX E A b L xs) {i : Nat} (hL : L ≤ 2560) (hi : i + 5 ≤ L) (hR : RX σ (fun k => σ (k + 275))) (kk : ∀ σ', RX σ' (fun k => σ' (k + 275)) → ZW E G A 4 layL 285 ad 947 (lvL i b ad) [] σ') : ZW E G A 4 layL 285 ad 516 (lvL i b ad) [] σ := by
  obtain ⟨r, hx, hm⟩ := ff_cornerOf hR (xs (i + 1)) (xs (i + 2))
  have hR' := hR
  refine z_aload_n hB 2 dL_law_516 rfl rfl ?_
  refine z_arg hB hX 1 dL_law_517 dL_law_518 dL_law_519 zaI_1 dL_law_520 dL_law_521 hL (by omega) ?_
  refine z_arg hB hX 2 dL_law_522 dL_law_523 dL_law_524 zaI_2 dL_law_525 dL_law_526 hL (by omega) ?_
  refine z_cI hB (z_rV (ι := zi_L_X) hB yL_X9_cornerOf (c_X9_cornerOf _ _ _ _ hx) rfl cut_L_X z_hidX kL_230 (Nat.le_of_ble_eq_true rfl) vc_9 rfl rfl rfl (Nat.le_of_ble_eq_true rfl) (wsL_c25 _ (List.mem_of_getElem? (i := 18) rfl)) ⟨(Nat.le_of_ble_eq_true rfl), (Nat.le_of_ble_eq_true rfl)⟩ dL_law_527) cut_L_X z_hidX ?_
  refine z_aload_n hB 1 dL_law_530 rfl rfl ?_
  refine z_arg hB hX 1 dL_law_531 dL_law_532 dL_law_533 zaI_1 dL_law_534 dL_law_535 hL (by omega) ?_
  refine z_arg hB hX 2 dL_law_536 dL_law_537 dL_law_538 zaI_2 dL_law_539 dL_law_540 hL (by omega) ?_
  refine z_cI hB (z_rV (ι := zi_L_M) hB yL_X10_cornerOf (c_X10_cornerOf _ _ _ _ hm) z_mL.symm cut_L_M z_hno kM_0 (Nat.le_of_ble_eq_true rfl) vc_10 rfl rfl rfl (Nat.le_of_ble_eq_true rfl) (wsL_c26 _ (List.mem_of_getElem? (i := 15) rfl)) ⟨(Nat.le_of_ble_eq_true rfl), (Nat.le_of_ble_eq_true rfl)⟩ dL_law_541) cut_L_M z_hno ?_
  exact z_icmp_eq hB (tgt := 947) dL_law_544 (by decide) (fun _ => kk _ (RX_step hR')) (fun h => absurd rfl h)
theorem yL_X9_houseOf : z_YV yX9_houseOf cX9_houseOf 4 (some .int) 2 := ⟨⟨(wsL_c1 _ (List.mem_of_getElem? (i := 2) rfl)), (wsL_c27 _ (List.mem_of_getElem? (i := 6) rfl)), by decide +kernel, by decide +kernel, by decide +kernel⟩, (wsL_c27 _ (List.mem_of_getElem? (i := 4) rfl)), (wsL_c27 _ (List.mem_of_getElem? (i := 5) rfl))⟩
theorem yL_X10_houseOf : z_YV yX10_houseOf cX10_houseOf 3 (some .int) 2 := ⟨⟨(wsL_c1 _ (List.mem_of_getElem? (i := 5) rfl)), (wsL_c28 _ (List.mem_of_getElem? (i := 2) rfl)), by decide +kernel, by decide +kernel, by decide +kernel⟩, (wsL_c28 _ (List.mem_of_getElem? (i := 0) rfl)), (wsL_c28 _ (List.mem_of_getElem? (i := 1) rfl))⟩
set_option maxRecDepth 100000 in
set_option maxHeartbeats 4000000 in
theorem lc_11 {E : z_En} {G : z_G} {A : Nat → Prop} {ad : Nat → Nat} {b L : Nat} {xs : Nat → Int32} {σ : z_S} (hB : zB E G A code 4 RL room_1) (hX : zX E A b L xs) {i : Nat} (hL : L ≤ 2560) (hi : i + 5 ≤ L) (hR : RX σ (fun k => σ (k + 275))) (kk : ∀ σ', RX σ' (fun k => σ' (k + 275)) → ZW E G A 4 layL 285 ad 947 (lvL i b ad) [] σ') : ZW E G A 4 layL 285 ad 549 (lvL i b ad) [] σ := by
  obtain ⟨r, hx, hm⟩ := ff_houseOf hR (xs (i + 1)) (xs (i + 2))
  have hR' := hR
  refine z_aload_n hB 2 dL_law_549 rfl rfl ?_
  refine z_arg hB hX 1 dL_law_550 dL_law_551 dL_law_552 zaI_1 dL_law_553 dL_law_554 hL (by omega) ?_
  refine z_arg hB hX 2 dL_law_555 dL_law_556 dL_law_557 zaI_2 dL_law_558 dL_law_559 hL (by omega) ?_
  refine z_cI hB (z_rV (ι := zi_L_X) hB yL_X9_houseOf (c_X9_houseOf _ _ _ _ hx) rfl cut_L_X z_hidX kL_230 (Nat.le_of_ble_eq_true rfl) vc_9 rfl rfl rfl (Nat.le_of_ble_eq_true rfl) (wsL_c27 _ (List.mem_of_getElem? (i := 3) rfl)) ⟨(Nat.le_of_ble_eq_true rfl), (Nat.le_of_ble_eq_true rfl)⟩ dL_law_560) cut_L_X z_hidX ?_
  refine z_aload_n hB 1 dL_law_563 rfl rfl ?_
  refine z_arg hB hX 1 dL_law_564 dL_law_565 dL_law_566 zaI_1 dL_law_567 dL_law_568 hL (by omega) ?_
  refine z_arg hB hX 2 dL_law_569 dL_law_570 dL_law_571 zaI_2 dL_law_572 dL_law_573 hL (by omega) ?_
  refine z_cI hB (z_rV (ι := zi_L_M) hB yL_X10_houseOf (c_X10_houseOf _ _ _ _ hm) z_mL.symm cut_L_M z_hno kM_0 (Nat.le_of_ble_eq_true rfl) vc_10 rfl rfl rfl (Nat.le_of_ble_eq_true rfl) (wsL_c27 _ (List.mem_of_getElem? (i := 23) rfl)) ⟨(Nat.le_of_ble_eq_true rfl), (Nat.le_of_ble_eq_true rfl)⟩ dL_law_574) cut_L_M z_hno ?_
  exact z_icmp_eq hB (tgt := 947) dL_law_577 (by decide) (fun _ => kk _ (RX_step hR')) (fun h => absurd rfl h)
theorem yL_X9_shareBits : z_YV yX9_shareBits cX9_shareBits 2 (some .int) 1 := ⟨⟨(wsL_c1 _ (List.mem_of_getElem? (i := 2) rfl)), (wsL_c28 _ (List.mem_of_getElem? (i := 6) rfl)), by decide +kernel, by decide +kernel, by decide +kernel⟩, (wsL_c28 _ (List.mem_of_getElem? (i := 4) rfl)), (wsL_c28 _ (List.mem_of_getElem? (i := 5) rfl))⟩
theorem yL_X10_shareBits : z_YV yX10_shareBits cX10_shareBits 2 (some .int) 1 := ⟨⟨(wsL_c1 _ (List.mem_of_getElem? (i := 5) rfl)), (wsL_c29 _ (List.mem_of_getElem? (i := 0) rfl)), by decide +kernel, by decide +kernel, by decide +kernel⟩, (wsL_c28 _ (List.mem_of_getElem? (i := 22) rfl)), (wsL_c28 _ (List.mem_of_getElem? (i := 23) rfl))⟩
set_option maxRecDepth 100000 in
set_option maxHeartbeats 4000000 in
theorem lc_12 {E : z_En} {G : z_G} {A : Nat → Prop} {ad : Nat → Nat} {b L : Nat} {xs : Nat → Int32} {σ : z_S} (hB : zB E G A code 4 RL room_1) (hX : zX E A b L xs) {i : Nat} (hL : L ≤ 2560) (hi : i + 5 ≤ L) (hR : RX σ (fun k => σ (k + 275))) (kk : ∀ σ', RX σ' (fun k => σ' (k + 275)) → ZW E G A 4 layL 285 ad 947 (lvL i b ad) [] σ') : ZW E G A 4 layL 285 ad 582 (lvL i b ad) [] σ := by
  obtain ⟨r, hx, hm⟩ := ff_shareBits hR (xs (i + 1))
  have hR' := hR
  refine z_aload_n hB 2 dL_law_582 rfl rfl ?_
  refine z_arg hB hX 1 dL_law_583 dL_law_584 dL_law_585 zaI_1 dL_law_586 dL_law_587 hL (by omega) ?_
  refine z_cI hB (z_rV (ι := zi_L_X) hB yL_X9_shareBits (c_X9_shareBits _ _ _ hx) rfl cut_L_X z_hidX kL_230 (Nat.le_of_ble_eq_true rfl) vc_9 rfl rfl rfl (Nat.le_of_ble_eq_true rfl) (wsL_c28 _ (List.mem_of_getElem? (i := 3) rfl)) ⟨(Nat.le_of_ble_eq_true rfl), (Nat.le_of_ble_eq_true rfl)⟩ dL_law_588) cut_L_X z_hidX ?_
  refine z_aload_n hB 1 dL_law_591 rfl rfl ?_
  refine z_arg hB hX 1 dL_law_592 dL_law_593 dL_law_594 zaI_1 dL_law_595 dL_law_596 hL (by omega) ?_
  refine z_cI hB (z_rV (ι := zi_L_M) hB yL_X10_shareBits (c_X10_shareBits _ _ _ hm) z_mL.symm cut_L_M z_hno kM_0 (Nat.le_of_ble_eq_true rfl) vc_10 rfl rfl rfl (Nat.le_of_ble_eq_true rfl) (wsL_c28 _ (List.mem_of_getElem? (i := 21) rfl)) ⟨(Nat.le_of_ble_eq_true rfl), (Nat.le_of_ble_eq_true rfl)⟩ dL_law_597) cut_L_M z_hno ?_
  exact z_icmp_eq hB (tgt := 947) dL_law_600 (by decide) (fun _ => kk _ (RX_step hR')) (fun h => absurd rfl h)
theorem yL_X9_meanBits : z_YV yX9_meanBits cX9_meanBits 5 (some .int) 0 := ⟨⟨(wsL_c1 _ (List.mem_of_getElem? (i := 2) rfl)), (wsL_c29 _ (List.mem_of_getElem? (i := 16) rfl)), by decide +kernel, by decide +kernel, by decide +kernel⟩, (wsL_c29 _ (List.mem_of_getElem? (i := 14) rfl)), (wsL_c29 _ (List.mem_of_getElem? (i := 15) rfl))⟩
theorem yL_X10_meanBits : z_YV yX10_meanBits cX10_meanBits 5 (some .int) 0 := ⟨⟨(wsL_c1 _ (List.mem_of_getElem? (i := 5) rfl)), (wsL_c29 _ (List.mem_of_getElem? (i := 21) rfl)), by decide +kernel, by decide +kernel, by decide +kernel⟩, (wsL_c29 _ (List.mem_of_getElem? (i := 19) rfl)), (wsL_c29 _ (List.mem_of_getElem? (i := 20) rfl))⟩
set_option maxRecDepth 100000 in
set_option maxHeartbeats 4000000 in
theorem lc_13 {E : z_En} {G : z_G} {A : Nat → Prop} {ad : Nat → Nat} {b L : Nat} {xs : Nat → Int32} {σ : z_S} (hB : zB E G A code 4 RL room_1) (hX : zX E A b L xs) {i : Nat} (hL : L ≤ 2560) (hi : i + 5 ≤ L) (hR : RX σ (fun k => σ (k + 275))) (kk : ∀ σ', RX σ' (fun k => σ' (k + 275)) → ZW E G A 4 layL 285 ad 947 (lvL i b ad) [] σ') : ZW E G A 4 layL 285 ad 605 (lvL i b ad) [] σ := by
  obtain ⟨r, hx, hm⟩ := ff_meanBits hR
  have hR' := hR
  refine z_aload_n hB 2 dL_law_605 rfl rfl ?_
  refine z_cI hB (z_rV (ι := zi_L_X) hB yL_X9_meanBits (c_X9_meanBits _ _ hx) rfl cut_L_X z_hidX kL_230 (Nat.le_of_ble_eq_true rfl) vc_9 rfl rfl rfl (Nat.le_of_ble_eq_true rfl) (wsL_c29 _ (List.mem_of_getElem? (i := 13) rfl)) ⟨(Nat.le_of_ble_eq_true rfl), (Nat.le_of_ble_eq_true rfl)⟩ dL_law_606) cut_L_X z_hidX ?_
  refine z_aload_n hB 1 dL_law_609 rfl rfl ?_
  refine z_cI hB (z_rV (ι := zi_L_M) hB yL_X10_meanBits (c_X10_meanBits _ _ hm) z_mL.symm cut_L_M z_hno kM_0 (Nat.le_of_ble_eq_true rfl) vc_10 rfl rfl rfl (Nat.le_of_ble_eq_true rfl) (wsL_c29 _ (List.mem_of_getElem? (i := 18) rfl)) ⟨(Nat.le_of_ble_eq_true rfl), (Nat.le_of_ble_eq_true rfl)⟩ dL_law_610) cut_L_M z_hno ?_
  exact z_icmp_eq hB (tgt := 947) dL_law_613 (by decide) (fun _ => kk _ (RX_step hR')) (fun h => absurd rfl h)
theorem yL_X9_carrierOf : z_YV yX9_carrierOf cX9_carrierOf 4 (some .int) 2 := ⟨⟨(wsL_c1 _ (List.mem_of_getElem? (i := 2) rfl)), (wsL_c30 _ (List.mem_of_getElem? (i := 1) rfl)), by decide +kernel, by decide +kernel, by decide +kernel⟩, (wsL_c29 _ (List.mem_of_getElem? (i := 23) rfl)), (wsL_c30 _ (List.mem_of_getElem? (i := 0) rfl))⟩
theorem yL_X10_carrierOf : z_YV yX10_carrierOf cX10_carrierOf 3 (some .int) 2 := ⟨⟨(wsL_c1 _ (List.mem_of_getElem? (i := 5) rfl)), (wsL_c30 _ (List.mem_of_getElem? (i := 15) rfl)), by decide +kernel, by decide +kernel, by decide +kernel⟩, (wsL_c30 _ (List.mem_of_getElem? (i := 13) rfl)), (wsL_c30 _ (List.mem_of_getElem? (i := 14) rfl))⟩
set_option maxRecDepth 100000 in
set_option maxHeartbeats 4000000 in
theorem lc_14 {E : z_En} {G : z_G} {A : Nat → Prop} {ad : Nat → Nat} {b L : Nat} {xs : Nat → Int32} {σ : z_S} (hB : zB E G A code 4 RL room_1) (hX : zX E A b L xs) {i : Nat} (hL : L ≤ 2560) (hi : i + 5 ≤ L) (hR : RX σ (fun k => σ (k + 275))) (kk : ∀ σ', RX σ' (fun k => σ' (k + 275)) → ZW E G A 4 layL 285 ad 947 (lvL i b ad) [] σ') : ZW E G A 4 layL 285 ad 618 (lvL i b ad) [] σ := by
  obtain ⟨r, hx, hm⟩ := ff_carrierOf hR (xs (i + 1)) (xs (i + 2))
  have hR' := hR
  refine z_aload_n hB 2 dL_law_618 rfl rfl ?_
  refine z_arg hB hX 1 dL_law_619 dL_law_620 dL_law_621 zaI_1 dL_law_622 dL_law_623 hL (by omega) ?_
  refine z_arg hB hX 2 dL_law_624 dL_law_625 dL_law_626 zaI_2 dL_law_627 dL_law_628 hL (by omega) ?_
  refine z_cI hB (z_rV (ι := zi_L_X) hB yL_X9_carrierOf (c_X9_carrierOf _ _ _ _ hx) rfl cut_L_X z_hidX kL_230 (Nat.le_of_ble_eq_true rfl) vc_9 rfl rfl rfl (Nat.le_of_ble_eq_true rfl) (wsL_c29 _ (List.mem_of_getElem? (i := 22) rfl)) ⟨(Nat.le_of_ble_eq_true rfl), (Nat.le_of_ble_eq_true rfl)⟩ dL_law_629) cut_L_X z_hidX ?_
  refine z_aload_n hB 1 dL_law_632 rfl rfl ?_
  refine z_arg hB hX 1 dL_law_633 dL_law_634 dL_law_635 zaI_1 dL_law_636 dL_law_637 hL (by omega) ?_
  refine z_arg hB hX 2 dL_law_638 dL_law_639 dL_law_640 zaI_2 dL_law_641 dL_law_642 hL (by omega) ?_
  refine z_cI hB (z_rV (ι := zi_L_M) hB yL_X10_carrierOf (c_X10_carrierOf _ _ _ _ hm) z_mL.symm cut_L_M z_hno kM_0 (Nat.le_of_ble_eq_true rfl) vc_10 rfl rfl rfl (Nat.le_of_ble_eq_true rfl) (wsL_c30 _ (List.mem_of_getElem? (i := 12) rfl)) ⟨(Nat.le_of_ble_eq_true rfl), (Nat.le_of_ble_eq_true rfl)⟩ dL_law_643) cut_L_M z_hno ?_
  exact z_icmp_eq hB (tgt := 947) dL_law_646 (by decide) (fun _ => kk _ (RX_step hR')) (fun h => absurd rfl h)
theorem yL_X9_pauseOf : z_YV yX9_pauseOf cX9_pauseOf 4 (some .int) 2 := ⟨⟨(wsL_c1 _ (List.mem_of_getElem? (i := 2) rfl)), (wsL_c30 _ (List.mem_of_getElem? (i := 19) rfl)), by decide +kernel, by decide +kernel, by decide +kernel⟩, (wsL_c30 _ (List.mem_of_getElem? (i := 17) rfl)), (wsL_c30 _ (List.mem_of_getElem? (i := 18) rfl))⟩
theorem yL_X10_pauseOf : z_YV yX10_pauseOf cX10_pauseOf 3 (some .int) 2 := ⟨⟨(wsL_c1 _ (List.mem_of_getElem? (i := 5) rfl)), (wsL_c31 _ (List.mem_of_getElem? (i := 3) rfl)), by decide +kernel, by decide +kernel, by decide +kernel⟩, (wsL_c31 _ (List.mem_of_getElem? (i := 1) rfl)), (wsL_c31 _ (List.mem_of_getElem? (i := 2) rfl))⟩
set_option maxRecDepth 100000 in
set_option maxHeartbeats 4000000 in
theorem lc_15 {E : z_En} {G : z_G} {A : Nat → Prop} {ad : Nat → Nat} {b L : Nat} {xs : Nat → Int32} {σ : z_S} (hB : zB E G A code 4 RL room_1) (hX : zX E A b L xs) {i : Nat} (hL : L ≤ 2560) (hi : i + 5 ≤ L) (hR : RX σ (fun k => σ (k + 275))) (kk : ∀ σ', RX σ' (fun k => σ' (k + 275)) → ZW E G A 4 layL 285 ad 947 (lvL i b ad) [] σ') : ZW E G A 4 layL 285 ad 651 (lvL i b ad) [] σ := by
  obtain ⟨r, hx, hm⟩ := ff_pauseOf hR (xs (i + 1)) (xs (i + 2))
  have hR' := hR
  refine z_aload_n hB 2 dL_law_651 rfl rfl ?_
  refine z_arg hB hX 1 dL_law_652 dL_law_653 dL_law_654 zaI_1 dL_law_655 dL_law_656 hL (by omega) ?_
  refine z_arg hB hX 2 dL_law_657 dL_law_658 dL_law_659 zaI_2 dL_law_660 dL_law_661 hL (by omega) ?_
  refine z_cI hB (z_rV (ι := zi_L_X) hB yL_X9_pauseOf (c_X9_pauseOf _ _ _ _ hx) rfl cut_L_X z_hidX kL_230 (Nat.le_of_ble_eq_true rfl) vc_9 rfl rfl rfl (Nat.le_of_ble_eq_true rfl) (wsL_c30 _ (List.mem_of_getElem? (i := 16) rfl)) ⟨(Nat.le_of_ble_eq_true rfl), (Nat.le_of_ble_eq_true rfl)⟩ dL_law_662) cut_L_X z_hidX ?_
  refine z_aload_n hB 1 dL_law_665 rfl rfl ?_
  refine z_arg hB hX 1 dL_law_666 dL_law_667 dL_law_668 zaI_1 dL_law_669 dL_law_670 hL (by omega) ?_
  refine z_arg hB hX 2 dL_law_671 dL_law_672 dL_law_673 zaI_2 dL_law_674 dL_law_675 hL (by omega) ?_
  refine z_cI hB (z_rV (ι := zi_L_M) hB yL_X10_pauseOf (c_X10_pauseOf _ _ _ _ hm) z_mL.symm cut_L_M z_hno kM_0 (Nat.le_of_ble_eq_true rfl) vc_10 rfl rfl rfl (Nat.le_of_ble_eq_true rfl) (wsL_c31 _ (List.mem_of_getElem? (i := 0) rfl)) ⟨(Nat.le_of_ble_eq_true rfl), (Nat.le_of_ble_eq_true rfl)⟩ dL_law_676) cut_L_M z_hno ?_
  exact z_icmp_eq hB (tgt := 947) dL_law_679 (by decide) (fun _ => kk _ (RX_step hR')) (fun h => absurd rfl h)
theorem yL_X9_roundAt : z_YV yX9_roundAt cX9_roundAt 7 (some .int) 2 := ⟨⟨(wsL_c1 _ (List.mem_of_getElem? (i := 2) rfl)), (wsL_c31 _ (List.mem_of_getElem? (i := 7) rfl)), by decide +kernel, by decide +kernel, by decide +kernel⟩, (wsL_c31 _ (List.mem_of_getElem? (i := 5) rfl)), (wsL_c31 _ (List.mem_of_getElem? (i := 6) rfl))⟩
theorem yL_X10_roundAt : z_YV yX10_roundAt cX10_roundAt 5 (some .int) 2 := ⟨⟨(wsL_c1 _ (List.mem_of_getElem? (i := 5) rfl)), (wsL_c31 _ (List.mem_of_getElem? (i := 12) rfl)), by decide +kernel, by decide +kernel, by decide +kernel⟩, (wsL_c31 _ (List.mem_of_getElem? (i := 10) rfl)), (wsL_c31 _ (List.mem_of_getElem? (i := 11) rfl))⟩
set_option maxRecDepth 100000 in
set_option maxHeartbeats 4000000 in
theorem lc_16 {E : z_En} {G : z_G} {A : Nat → Prop} {ad : Nat → Nat} {b L : Nat} {xs : Nat → Int32} {σ : z_S} (hB : zB E G A code 4 RL room_1) (hX : zX E A b L xs) {i : Nat} (hL : L ≤ 2560) (hi : i + 5 ≤ L) (hR : RX σ (fun k => σ (k + 275))) (kk : ∀ σ', RX σ' (fun k => σ' (k + 275)) → ZW E G A 4 layL 285 ad 947 (lvL i b ad) [] σ') : ZW E G A 4 layL 285 ad 684 (lvL i b ad) [] σ := by
  obtain ⟨r, m', hx, hm, hR'⟩ := ff_roundAt hR (xs (i + 1)) (xs (i + 2))
  refine z_aload_n hB 2 dL_law_684 rfl rfl ?_
  refine z_arg hB hX 1 dL_law_685 dL_law_686 dL_law_687 zaI_1 dL_law_688 dL_law_689 hL (by omega) ?_
  refine z_arg hB hX 2 dL_law_690 dL_law_691 dL_law_692 zaI_2 dL_law_693 dL_law_694 hL (by omega) ?_
  refine z_cI hB (z_rV (ι := zi_L_X) hB yL_X9_roundAt (c_X9_roundAt _ _ _ _ hx) rfl cut_L_X z_hidX kL_230 (Nat.le_of_ble_eq_true rfl) vc_9 rfl rfl rfl (Nat.le_of_ble_eq_true rfl) (wsL_c31 _ (List.mem_of_getElem? (i := 4) rfl)) ⟨(Nat.le_of_ble_eq_true rfl), (Nat.le_of_ble_eq_true rfl)⟩ dL_law_695) cut_L_X z_hidX ?_
  refine z_aload_n hB 1 dL_law_698 rfl rfl ?_
  refine z_arg hB hX 1 dL_law_699 dL_law_700 dL_law_701 zaI_1 dL_law_702 dL_law_703 hL (by omega) ?_
  refine z_arg hB hX 2 dL_law_704 dL_law_705 dL_law_706 zaI_2 dL_law_707 dL_law_708 hL (by omega) ?_
  refine z_cI hB (z_rV (ι := zi_L_M) hB yL_X10_roundAt (c_X10_roundAt _ _ _ _ _ hm) z_mL.symm cut_L_M z_hno kM_0 (Nat.le_of_ble_eq_true rfl) vc_10 rfl rfl rfl (Nat.le_of_ble_eq_true rfl) (wsL_c31 _ (List.mem_of_getElem? (i := 9) rfl)) ⟨(Nat.le_of_ble_eq_true rfl), (Nat.le_of_ble_eq_true rfl)⟩ dL_law_709) cut_L_M z_hno ?_
  exact z_icmp_eq hB (tgt := 947) dL_law_712 (by decide) (fun _ => kk _ (RX_step hR')) (fun h => absurd rfl h)
theorem yL_X9_round : z_YV yX9_round cX9_round 4 (some .int) 3 := ⟨⟨(wsL_c1 _ (List.mem_of_getElem? (i := 2) rfl)), (wsL_c31 _ (List.mem_of_getElem? (i := 16) rfl)), by decide +kernel, by decide +kernel, by decide +kernel⟩, (wsL_c31 _ (List.mem_of_getElem? (i := 14) rfl)), (wsL_c31 _ (List.mem_of_getElem? (i := 15) rfl))⟩
theorem yL_X10_round : z_YV yX10_round cX10_round 5 (some .int) 3 := ⟨⟨(wsL_c1 _ (List.mem_of_getElem? (i := 5) rfl)), (wsL_c32 _ (List.mem_of_getElem? (i := 1) rfl)), by decide +kernel, by decide +kernel, by decide +kernel⟩, (wsL_c31 _ (List.mem_of_getElem? (i := 23) rfl)), (wsL_c32 _ (List.mem_of_getElem? (i := 0) rfl))⟩
set_option maxRecDepth 100000 in
set_option maxHeartbeats 4000000 in
theorem lc_17 {E : z_En} {G : z_G} {A : Nat → Prop} {ad : Nat → Nat} {b L : Nat} {xs : Nat → Int32} {σ : z_S} (hB : zB E G A code 4 RL room_1) (hX : zX E A b L xs) {i : Nat} (hL : L ≤ 2560) (hi : i + 5 ≤ L) (hR : RX σ (fun k => σ (k + 275))) (kk : ∀ σ', RX σ' (fun k => σ' (k + 275)) → ZW E G A 4 layL 285 ad 947 (lvL i b ad) [] σ') : ZW E G A 4 layL 285 ad 717 (lvL i b ad) [] σ := by
  obtain ⟨r, x', m', hx, hm, hR'⟩ := ff_round hR (xs (i + 1)) (xs (i + 2)) (xs (i + 3))
  refine z_aload_n hB 2 dL_law_717 rfl rfl ?_
  refine z_arg hB hX 1 dL_law_718 dL_law_719 dL_law_720 zaI_1 dL_law_721 dL_law_722 hL (by omega) ?_
  refine z_arg hB hX 2 dL_law_723 dL_law_724 dL_law_725 zaI_2 dL_law_726 dL_law_727 hL (by omega) ?_
  refine z_arg hB hX 3 dL_law_728 dL_law_729 dL_law_730 zaI_3 dL_law_731 dL_law_732 hL (by omega) ?_
  refine z_cI hB (z_rV (ι := zi_L_X) hB yL_X9_round (c_X9_round _ _ _ _ _ _ hx) rfl cut_L_X z_hidX kL_230 (Nat.le_of_ble_eq_true rfl) vc_9 rfl rfl rfl (Nat.le_of_ble_eq_true rfl) (wsL_c31 _ (List.mem_of_getElem? (i := 13) rfl)) ⟨(Nat.le_of_ble_eq_true rfl), (Nat.le_of_ble_eq_true rfl)⟩ dL_law_733) cut_L_X z_hidX ?_
  refine z_aload_n hB 1 dL_law_736 rfl rfl ?_
  refine z_arg hB hX 1 dL_law_737 dL_law_738 dL_law_739 zaI_1 dL_law_740 dL_law_741 hL (by omega) ?_
  refine z_arg hB hX 2 dL_law_742 dL_law_743 dL_law_744 zaI_2 dL_law_745 dL_law_746 hL (by omega) ?_
  refine z_arg hB hX 3 dL_law_747 dL_law_748 dL_law_749 zaI_3 dL_law_750 dL_law_751 hL (by omega) ?_
  refine z_cI hB (z_rV (ι := zi_L_M) hB yL_X10_round (c_X10_round _ _ _ _ _ _ hm) z_mL.symm cut_L_M z_hno kM_0 (Nat.le_of_ble_eq_true rfl) vc_10 rfl rfl rfl (Nat.le_of_ble_eq_true rfl) (wsL_c31 _ (List.mem_of_getElem? (i := 22) rfl)) ⟨(Nat.le_of_ble_eq_true rfl), (Nat.le_of_ble_eq_true rfl)⟩ dL_law_752) cut_L_M z_hno ?_
  exact z_icmp_eq hB (tgt := 947) dL_law_755 (by decide) (fun _ => kk _ (RX_step hR')) (fun h => absurd rfl h)
theorem yL_X9_lightest : z_YV yX9_lightest cX9_lightest 7 (some .int) 2 := ⟨⟨(wsL_c1 _ (List.mem_of_getElem? (i := 2) rfl)), (wsL_c32 _ (List.mem_of_getElem? (i := 5) rfl)), by decide +kernel, by decide +kernel, by decide +kernel⟩, (wsL_c32 _ (List.mem_of_getElem? (i := 3) rfl)), (wsL_c32 _ (List.mem_of_getElem? (i := 4) rfl))⟩
theorem yL_X10_lightest : z_YV yX10_lightest cX10_lightest 8 (some .int) 2 := ⟨⟨(wsL_c1 _ (List.mem_of_getElem? (i := 5) rfl)), (wsL_c32 _ (List.mem_of_getElem? (i := 16) rfl)), by decide +kernel, by decide +kernel, by decide +kernel⟩, (wsL_c32 _ (List.mem_of_getElem? (i := 14) rfl)), (wsL_c32 _ (List.mem_of_getElem? (i := 15) rfl))⟩
set_option maxRecDepth 100000 in
set_option maxHeartbeats 4000000 in
theorem lc_18 {E : z_En} {G : z_G} {A : Nat → Prop} {ad : Nat → Nat} {b L : Nat} {xs : Nat → Int32} {σ : z_S} (hB : zB E G A code 4 RL room_1) (hX : zX E A b L xs) {i : Nat} (hL : L ≤ 2560) (hi : i + 5 ≤ L) (hR : RX σ (fun k => σ (k + 275))) (kk : ∀ σ', RX σ' (fun k => σ' (k + 275)) → ZW E G A 4 layL 285 ad 947 (lvL i b ad) [] σ') : ZW E G A 4 layL 285 ad 760 (lvL i b ad) [] σ := by
  obtain ⟨r, x', m', hx, hm, hR'⟩ := ff_lightest hR (xs (i + 1)) (xs (i + 2))
  refine z_aload_n hB 2 dL_law_760 rfl rfl ?_
  refine z_arg hB hX 1 dL_law_761 dL_law_762 dL_law_763 zaI_1 dL_law_764 dL_law_765 hL (by omega) ?_
  refine z_arg hB hX 2 dL_law_766 dL_law_767 dL_law_768 zaI_2 dL_law_769 dL_law_770 hL (by omega) ?_
  refine z_cI hB (z_rV (ι := zi_L_X) hB yL_X9_lightest (c_X9_lightest _ _ _ _ _ hx) rfl cut_L_X z_hidX kL_230 (Nat.le_of_ble_eq_true rfl) vc_9 rfl rfl rfl (Nat.le_of_ble_eq_true rfl) (wsL_c32 _ (List.mem_of_getElem? (i := 2) rfl)) ⟨(Nat.le_of_ble_eq_true rfl), (Nat.le_of_ble_eq_true rfl)⟩ dL_law_771) cut_L_X z_hidX ?_
  refine z_aload_n hB 1 dL_law_774 rfl rfl ?_
  refine z_arg hB hX 1 dL_law_775 dL_law_776 dL_law_777 zaI_1 dL_law_778 dL_law_779 hL (by omega) ?_
  refine z_arg hB hX 2 dL_law_780 dL_law_781 dL_law_782 zaI_2 dL_law_783 dL_law_784 hL (by omega) ?_
  refine z_cI hB (z_rV (ι := zi_L_M) hB yL_X10_lightest (c_X10_lightest _ _ _ _ _ hm) z_mL.symm cut_L_M z_hno kM_0 (Nat.le_of_ble_eq_true rfl) vc_10 rfl rfl rfl (Nat.le_of_ble_eq_true rfl) (wsL_c32 _ (List.mem_of_getElem? (i := 13) rfl)) ⟨(Nat.le_of_ble_eq_true rfl), (Nat.le_of_ble_eq_true rfl)⟩ dL_law_785) cut_L_M z_hno ?_
  exact z_icmp_eq hB (tgt := 947) dL_law_788 (by decide) (fun _ => kk _ (RX_step hR')) (fun h => absurd rfl h)
theorem yL_X9_nextDog : z_YV yX9_nextDog cX9_nextDog 3 (some .int) 1 := ⟨⟨(wsL_c1 _ (List.mem_of_getElem? (i := 2) rfl)), (wsL_c33 _ (List.mem_of_getElem? (i := 0) rfl)), by decide +kernel, by decide +kernel, by decide +kernel⟩, (wsL_c32 _ (List.mem_of_getElem? (i := 22) rfl)), (wsL_c32 _ (List.mem_of_getElem? (i := 23) rfl))⟩
theorem yL_X10_nextDog : z_YV yX10_nextDog cX10_nextDog 3 (some .int) 1 := ⟨⟨(wsL_c1 _ (List.mem_of_getElem? (i := 5) rfl)), (wsL_c33 _ (List.mem_of_getElem? (i := 5) rfl)), by decide +kernel, by decide +kernel, by decide +kernel⟩, (wsL_c33 _ (List.mem_of_getElem? (i := 3) rfl)), (wsL_c33 _ (List.mem_of_getElem? (i := 4) rfl))⟩
set_option maxRecDepth 100000 in
set_option maxHeartbeats 4000000 in
theorem lc_19 {E : z_En} {G : z_G} {A : Nat → Prop} {ad : Nat → Nat} {b L : Nat} {xs : Nat → Int32} {σ : z_S} (hB : zB E G A code 4 RL room_1) (hX : zX E A b L xs) {i : Nat} (hL : L ≤ 2560) (hi : i + 5 ≤ L) (hR : RX σ (fun k => σ (k + 275))) (kk : ∀ σ', RX σ' (fun k => σ' (k + 275)) → ZW E G A 4 layL 285 ad 947 (lvL i b ad) [] σ') : ZW E G A 4 layL 285 ad 793 (lvL i b ad) [] σ := by
  obtain ⟨r, hx, hm⟩ := ff_nextDog hR (xs (i + 1))
  have hR' := hR
  refine z_aload_n hB 2 dL_law_793 rfl rfl ?_
  refine z_arg hB hX 1 dL_law_794 dL_law_795 dL_law_796 zaI_1 dL_law_797 dL_law_798 hL (by omega) ?_
  refine z_cI hB (z_rV (ι := zi_L_X) hB yL_X9_nextDog (c_X9_nextDog _ _ _ hx) rfl cut_L_X z_hidX kL_230 (Nat.le_of_ble_eq_true rfl) vc_9 rfl rfl rfl (Nat.le_of_ble_eq_true rfl) (wsL_c32 _ (List.mem_of_getElem? (i := 21) rfl)) ⟨(Nat.le_of_ble_eq_true rfl), (Nat.le_of_ble_eq_true rfl)⟩ dL_law_799) cut_L_X z_hidX ?_
  refine z_aload_n hB 1 dL_law_802 rfl rfl ?_
  refine z_arg hB hX 1 dL_law_803 dL_law_804 dL_law_805 zaI_1 dL_law_806 dL_law_807 hL (by omega) ?_
  refine z_cI hB (z_rV (ι := zi_L_M) hB yL_X10_nextDog (c_X10_nextDog _ _ _ hm) z_mL.symm cut_L_M z_hno kM_0 (Nat.le_of_ble_eq_true rfl) vc_10 rfl rfl rfl (Nat.le_of_ble_eq_true rfl) (wsL_c33 _ (List.mem_of_getElem? (i := 2) rfl)) ⟨(Nat.le_of_ble_eq_true rfl), (Nat.le_of_ble_eq_true rfl)⟩ dL_law_808) cut_L_M z_hno ?_
  exact z_icmp_eq hB (tgt := 947) dL_law_811 (by decide) (fun _ => kk _ (RX_step hR')) (fun h => absurd rfl h)
theorem yL_X9_account : z_YV yX9_account cX9_account 2 (some .int) 1 := ⟨⟨(wsL_c1 _ (List.mem_of_getElem? (i := 2) rfl)), (wsL_c33 _ (List.mem_of_getElem? (i := 9) rfl)), by decide +kernel, by decide +kernel, by decide +kernel⟩, (wsL_c33 _ (List.mem_of_getElem? (i := 7) rfl)), (wsL_c33 _ (List.mem_of_getElem? (i := 8) rfl))⟩
theorem yL_X10_account : z_YV yX10_account cX10_account 2 (some .int) 1 := ⟨⟨(wsL_c1 _ (List.mem_of_getElem? (i := 5) rfl)), (wsL_c33 _ (List.mem_of_getElem? (i := 14) rfl)), by decide +kernel, by decide +kernel, by decide +kernel⟩, (wsL_c33 _ (List.mem_of_getElem? (i := 12) rfl)), (wsL_c33 _ (List.mem_of_getElem? (i := 13) rfl))⟩
set_option maxRecDepth 100000 in
set_option maxHeartbeats 4000000 in
theorem lc_20 {E : z_En} {G : z_G} {A : Nat → Prop} {ad : Nat → Nat} {b L : Nat} {xs : Nat → Int32} {σ : z_S} (hB : zB E G A code 4 RL room_1) (hX : zX E A b L xs) {i : Nat} (hL : L ≤ 2560) (hi : i + 5 ≤ L) (hR : RX σ (fun k => σ (k + 275))) (kk : ∀ σ', RX σ' (fun k => σ' (k + 275)) → ZW E G A 4 layL 285 ad 947 (lvL i b ad) [] σ') : ZW E G A 4 layL 285 ad 816 (lvL i b ad) [] σ := by
  obtain ⟨r, hx, hm⟩ := ff_account hR (xs (i + 1))
  have hR' := hR
  refine z_aload_n hB 2 dL_law_816 rfl rfl ?_
  refine z_arg hB hX 1 dL_law_817 dL_law_818 dL_law_819 zaI_1 dL_law_820 dL_law_821 hL (by omega) ?_
  refine z_cI hB (z_rV (ι := zi_L_X) hB yL_X9_account (c_X9_account _ _ _ hx) rfl cut_L_X z_hidX kL_230 (Nat.le_of_ble_eq_true rfl) vc_9 rfl rfl rfl (Nat.le_of_ble_eq_true rfl) (wsL_c33 _ (List.mem_of_getElem? (i := 6) rfl)) ⟨(Nat.le_of_ble_eq_true rfl), (Nat.le_of_ble_eq_true rfl)⟩ dL_law_822) cut_L_X z_hidX ?_
  refine z_aload_n hB 1 dL_law_825 rfl rfl ?_
  refine z_arg hB hX 1 dL_law_826 dL_law_827 dL_law_828 zaI_1 dL_law_829 dL_law_830 hL (by omega) ?_
  refine z_cI hB (z_rV (ι := zi_L_M) hB yL_X10_account (c_X10_account _ _ _ hm) z_mL.symm cut_L_M z_hno kM_0 (Nat.le_of_ble_eq_true rfl) vc_10 rfl rfl rfl (Nat.le_of_ble_eq_true rfl) (wsL_c33 _ (List.mem_of_getElem? (i := 11) rfl)) ⟨(Nat.le_of_ble_eq_true rfl), (Nat.le_of_ble_eq_true rfl)⟩ dL_law_831) cut_L_M z_hno ?_
  exact z_icmp_eq hB (tgt := 947) dL_law_834 (by decide) (fun _ => kk _ (RX_step hR')) (fun h => absurd rfl h)
theorem yL_X9_count : z_YV yX9_count cX9_count 2 (some .int) 1 := ⟨⟨(wsL_c1 _ (List.mem_of_getElem? (i := 2) rfl)), (wsL_c33 _ (List.mem_of_getElem? (i := 22) rfl)), by decide +kernel, by decide +kernel, by decide +kernel⟩, (wsL_c33 _ (List.mem_of_getElem? (i := 20) rfl)), (wsL_c33 _ (List.mem_of_getElem? (i := 21) rfl))⟩
theorem yL_X10_count : z_YV yX10_count cX10_count 2 (some .int) 1 := ⟨⟨(wsL_c1 _ (List.mem_of_getElem? (i := 5) rfl)), (wsL_c34 _ (List.mem_of_getElem? (i := 19) rfl)), by decide +kernel, by decide +kernel, by decide +kernel⟩, (wsL_c34 _ (List.mem_of_getElem? (i := 17) rfl)), (wsL_c34 _ (List.mem_of_getElem? (i := 18) rfl))⟩
set_option maxRecDepth 100000 in
set_option maxHeartbeats 4000000 in
theorem lc_21 {E : z_En} {G : z_G} {A : Nat → Prop} {ad : Nat → Nat} {b L : Nat} {xs : Nat → Int32} {σ : z_S} (hB : zB E G A code 4 RL room_1) (hX : zX E A b L xs) {i : Nat} (hL : L ≤ 2560) (hi : i + 5 ≤ L) (hR : RX σ (fun k => σ (k + 275))) (kk : ∀ σ', RX σ' (fun k => σ' (k + 275)) → ZW E G A 4 layL 285 ad 947 (lvL i b ad) [] σ') : ZW E G A 4 layL 285 ad 839 (lvL i b ad) [] σ := by
  obtain ⟨r, hx, hm⟩ := ff_count hR (xs (i + 1))
  have hR' := hR
  refine z_aload_n hB 2 dL_law_839 rfl rfl ?_
  refine z_arg hB hX 1 dL_law_840 dL_law_841 dL_law_842 zaI_1 dL_law_843 dL_law_844 hL (by omega) ?_
  refine z_cI hB (z_rV (ι := zi_L_X) hB yL_X9_count (c_X9_count _ _ _ hx) rfl cut_L_X z_hidX kL_230 (Nat.le_of_ble_eq_true rfl) vc_9 rfl rfl rfl (Nat.le_of_ble_eq_true rfl) (wsL_c33 _ (List.mem_of_getElem? (i := 19) rfl)) ⟨(Nat.le_of_ble_eq_true rfl), (Nat.le_of_ble_eq_true rfl)⟩ dL_law_845) cut_L_X z_hidX ?_
  refine z_aload_n hB 1 dL_law_848 rfl rfl ?_
  refine z_arg hB hX 1 dL_law_849 dL_law_850 dL_law_851 zaI_1 dL_law_852 dL_law_853 hL (by omega) ?_
  refine z_cI hB (z_rV (ι := zi_L_M) hB yL_X10_count (c_X10_count _ _ _ hm) z_mL.symm cut_L_M z_hno kM_0 (Nat.le_of_ble_eq_true rfl) vc_10 rfl rfl rfl (Nat.le_of_ble_eq_true rfl) (wsL_c34 _ (List.mem_of_getElem? (i := 16) rfl)) ⟨(Nat.le_of_ble_eq_true rfl), (Nat.le_of_ble_eq_true rfl)⟩ dL_law_854) cut_L_M z_hno ?_
  exact z_icmp_eq hB (tgt := 947) dL_law_857 (by decide) (fun _ => kk _ (RX_step hR')) (fun h => absurd rfl h)
theorem yL_X9_undo : z_YV yX9_undo cX9_undo 1 (some .int) 0 := ⟨⟨(wsL_c1 _ (List.mem_of_getElem? (i := 2) rfl)), (wsL_c35 _ (List.mem_of_getElem? (i := 8) rfl)), by decide +kernel, by decide +kernel, by decide +kernel⟩, (wsL_c35 _ (List.mem_of_getElem? (i := 6) rfl)), (wsL_c35 _ (List.mem_of_getElem? (i := 7) rfl))⟩
theorem yL_X10_undo : z_YV yX10_undo cX10_undo 1 (some .int) 0 := ⟨⟨(wsL_c1 _ (List.mem_of_getElem? (i := 5) rfl)), (wsL_c35 _ (List.mem_of_getElem? (i := 16) rfl)), by decide +kernel, by decide +kernel, by decide +kernel⟩, (wsL_c35 _ (List.mem_of_getElem? (i := 14) rfl)), (wsL_c35 _ (List.mem_of_getElem? (i := 15) rfl))⟩
set_option maxRecDepth 100000 in
set_option maxHeartbeats 4000000 in
theorem lc_22 {E : z_En} {G : z_G} {A : Nat → Prop} {ad : Nat → Nat} {b L : Nat} {xs : Nat → Int32} {σ : z_S} (hB : zB E G A code 4 RL room_1) (hX : zX E A b L xs) {i : Nat} (hL : L ≤ 2560) (hi : i + 5 ≤ L) (hR : RX σ (fun k => σ (k + 275))) (kk : ∀ σ', RX σ' (fun k => σ' (k + 275)) → ZW E G A 4 layL 285 ad 947 (lvL i b ad) [] σ') : ZW E G A 4 layL 285 ad 862 (lvL i b ad) [] σ := by
  obtain ⟨r, x', m', hx, hm, hR'⟩ := ff_undo hR
  refine z_aload_n hB 2 dL_law_862 rfl rfl ?_
  refine z_cI hB (z_rV (ι := zi_L_X) hB yL_X9_undo (c_X9_undo _ _ _ hx) rfl cut_L_X z_hidX kL_230 (Nat.le_of_ble_eq_true rfl) vc_9 rfl rfl rfl (Nat.le_of_ble_eq_true rfl) (wsL_c35 _ (List.mem_of_getElem? (i := 5) rfl)) ⟨(Nat.le_of_ble_eq_true rfl), (Nat.le_of_ble_eq_true rfl)⟩ dL_law_863) cut_L_X z_hidX ?_
  refine z_aload_n hB 1 dL_law_866 rfl rfl ?_
  refine z_cI hB (z_rV (ι := zi_L_M) hB yL_X10_undo (c_X10_undo _ _ _ hm) z_mL.symm cut_L_M z_hno kM_0 (Nat.le_of_ble_eq_true rfl) vc_10 rfl rfl rfl (Nat.le_of_ble_eq_true rfl) (wsL_c35 _ (List.mem_of_getElem? (i := 13) rfl)) ⟨(Nat.le_of_ble_eq_true rfl), (Nat.le_of_ble_eq_true rfl)⟩ dL_law_867) cut_L_M z_hno ?_
  exact z_icmp_eq hB (tgt := 947) dL_law_870 (by decide) (fun _ => kk _ (RX_step hR')) (fun h => absurd rfl h)
theorem yL_X9_type : z_YV yX9_type cX9_type 2 (some .int) 1 := ⟨⟨(wsL_c1 _ (List.mem_of_getElem? (i := 2) rfl)), (wsL_c35 _ (List.mem_of_getElem? (i := 20) rfl)), by decide +kernel, by decide +kernel, by decide +kernel⟩, (wsL_c35 _ (List.mem_of_getElem? (i := 18) rfl)), (wsL_c35 _ (List.mem_of_getElem? (i := 19) rfl))⟩
theorem yL_X10_type : z_YV yX10_type cX10_type 2 (some .int) 1 := ⟨⟨(wsL_c1 _ (List.mem_of_getElem? (i := 5) rfl)), (wsL_c36 _ (List.mem_of_getElem? (i := 4) rfl)), by decide +kernel, by decide +kernel, by decide +kernel⟩, (wsL_c36 _ (List.mem_of_getElem? (i := 2) rfl)), (wsL_c36 _ (List.mem_of_getElem? (i := 3) rfl))⟩
set_option maxRecDepth 100000 in
set_option maxHeartbeats 4000000 in
theorem lc_23 {E : z_En} {G : z_G} {A : Nat → Prop} {ad : Nat → Nat} {b L : Nat} {xs : Nat → Int32} {σ : z_S} (hB : zB E G A code 4 RL room_1) (hX : zX E A b L xs) {i : Nat} (hL : L ≤ 2560) (hi : i + 5 ≤ L) (hR : RX σ (fun k => σ (k + 275))) (kk : ∀ σ', RX σ' (fun k => σ' (k + 275)) → ZW E G A 4 layL 285 ad 947 (lvL i b ad) [] σ') : ZW E G A 4 layL 285 ad 875 (lvL i b ad) [] σ := by
  obtain ⟨r, x', m', hx, hm, hR'⟩ := ff_type hR (xs (i + 1))
  refine z_aload_n hB 2 dL_law_875 rfl rfl ?_
  refine z_arg hB hX 1 dL_law_876 dL_law_877 dL_law_878 zaI_1 dL_law_879 dL_law_880 hL (by omega) ?_
  refine z_cI hB (z_rV (ι := zi_L_X) hB yL_X9_type (c_X9_type _ _ _ _ hx) rfl cut_L_X z_hidX kL_230 (Nat.le_of_ble_eq_true rfl) vc_9 rfl rfl rfl (Nat.le_of_ble_eq_true rfl) (wsL_c35 _ (List.mem_of_getElem? (i := 17) rfl)) ⟨(Nat.le_of_ble_eq_true rfl), (Nat.le_of_ble_eq_true rfl)⟩ dL_law_881) cut_L_X z_hidX ?_
  refine z_aload_n hB 1 dL_law_884 rfl rfl ?_
  refine z_arg hB hX 1 dL_law_885 dL_law_886 dL_law_887 zaI_1 dL_law_888 dL_law_889 hL (by omega) ?_
  refine z_cI hB (z_rV (ι := zi_L_M) hB yL_X10_type (c_X10_type _ _ _ _ hm) z_mL.symm cut_L_M z_hno kM_0 (Nat.le_of_ble_eq_true rfl) vc_10 rfl rfl rfl (Nat.le_of_ble_eq_true rfl) (wsL_c36 _ (List.mem_of_getElem? (i := 1) rfl)) ⟨(Nat.le_of_ble_eq_true rfl), (Nat.le_of_ble_eq_true rfl)⟩ dL_law_890) cut_L_M z_hno ?_
  exact z_icmp_eq hB (tgt := 947) dL_law_893 (by decide) (fun _ => kk _ (RX_step hR')) (fun h => absurd rfl h)
theorem yL_X9_clearText : z_YV yX9_clearText cX9_clearText 2 (some .int) 0 := ⟨⟨(wsL_c1 _ (List.mem_of_getElem? (i := 2) rfl)), (wsL_c36 _ (List.mem_of_getElem? (i := 8) rfl)), by decide +kernel, by decide +kernel, by decide +kernel⟩, (wsL_c36 _ (List.mem_of_getElem? (i := 6) rfl)), (wsL_c36 _ (List.mem_of_getElem? (i := 7) rfl))⟩
theorem yL_X10_clearText : z_YV yX10_clearText cX10_clearText 2 (some .int) 0 := ⟨⟨(wsL_c1 _ (List.mem_of_getElem? (i := 5) rfl)), (wsL_c36 _ (List.mem_of_getElem? (i := 12) rfl)), by decide +kernel, by decide +kernel, by decide +kernel⟩, (wsL_c36 _ (List.mem_of_getElem? (i := 10) rfl)), (wsL_c36 _ (List.mem_of_getElem? (i := 11) rfl))⟩
set_option maxRecDepth 100000 in
set_option maxHeartbeats 4000000 in
theorem lc_24 {E : z_En} {G : z_G} {A : Nat → Prop} {ad : Nat → Nat} {b L : Nat} {xs : Nat → Int32} {σ : z_S} (hB : zB E G A code 4 RL room_1) (hX : zX E A b L xs) {i : Nat} (hL : L ≤ 2560) (hi : i + 5 ≤ L) (hR : RX σ (fun k => σ (k + 275))) (kk : ∀ σ', RX σ' (fun k => σ' (k + 275)) → ZW E G A 4 layL 285 ad 947 (lvL i b ad) [] σ') : ZW E G A 4 layL 285 ad 898 (lvL i b ad) [] σ := by
  obtain ⟨r, x', m', hx, hm, hR'⟩ := ff_clearText hR
  refine z_aload_n hB 2 dL_law_898 rfl rfl ?_
  refine z_cI hB (z_rV (ι := zi_L_X) hB yL_X9_clearText (c_X9_clearText _ _ _ hx) rfl cut_L_X z_hidX kL_230 (Nat.le_of_ble_eq_true rfl) vc_9 rfl rfl rfl (Nat.le_of_ble_eq_true rfl) (wsL_c36 _ (List.mem_of_getElem? (i := 5) rfl)) ⟨(Nat.le_of_ble_eq_true rfl), (Nat.le_of_ble_eq_true rfl)⟩ dL_law_899) cut_L_X z_hidX ?_
  refine z_aload_n hB 1 dL_law_902 rfl rfl ?_
  refine z_cI hB (z_rV (ι := zi_L_M) hB yL_X10_clearText (c_X10_clearText _ _ _ hm) z_mL.symm cut_L_M z_hno kM_0 (Nat.le_of_ble_eq_true rfl) vc_10 rfl rfl rfl (Nat.le_of_ble_eq_true rfl) (wsL_c36 _ (List.mem_of_getElem? (i := 9) rfl)) ⟨(Nat.le_of_ble_eq_true rfl), (Nat.le_of_ble_eq_true rfl)⟩ dL_law_903) cut_L_M z_hno ?_
  exact z_icmp_eq hB (tgt := 947) dL_law_906 (by decide) (fun _ => kk _ (RX_step hR')) (fun h => absurd rfl h)
theorem yL_X9_fault : z_YV yX9_fault cX9_fault 2 (some .int) 1 := ⟨⟨(wsL_c1 _ (List.mem_of_getElem? (i := 2) rfl)), (wsL_c36 _ (List.mem_of_getElem? (i := 16) rfl)), by decide +kernel, by decide +kernel, by decide +kernel⟩, (wsL_c36 _ (List.mem_of_getElem? (i := 14) rfl)), (wsL_c36 _ (List.mem_of_getElem? (i := 15) rfl))⟩
theorem yL_X10_fault : z_YV yX10_fault cX10_fault 3 (some .int) 1 := ⟨⟨(wsL_c1 _ (List.mem_of_getElem? (i := 5) rfl)), (wsL_c38 _ (List.mem_of_getElem? (i := 8) rfl)), by decide +kernel, by decide +kernel, by decide +kernel⟩, (wsL_c38 _ (List.mem_of_getElem? (i := 6) rfl)), (wsL_c38 _ (List.mem_of_getElem? (i := 7) rfl))⟩
set_option maxRecDepth 100000 in
set_option maxHeartbeats 4000000 in
theorem lc_25 {E : z_En} {G : z_G} {A : Nat → Prop} {ad : Nat → Nat} {b L : Nat} {xs : Nat → Int32} {σ : z_S} (hB : zB E G A code 4 RL room_1) (hX : zX E A b L xs) {i : Nat} (hL : L ≤ 2560) (hi : i + 5 ≤ L) (hR : RX σ (fun k => σ (k + 275))) (kk : ∀ σ', RX σ' (fun k => σ' (k + 275)) → ZW E G A 4 layL 285 ad 947 (lvL i b ad) [] σ') : ZW E G A 4 layL 285 ad 911 (lvL i b ad) [] σ := by
  obtain ⟨r, x', m', hx, hm, hR'⟩ := ff_fault hR (xs (i + 1))
  refine z_aload_n hB 2 dL_law_911 rfl rfl ?_
  refine z_arg hB hX 1 dL_law_912 dL_law_913 dL_law_914 zaI_1 dL_law_915 dL_law_916 hL (by omega) ?_
  refine z_cI hB (z_rV (ι := zi_L_X) hB yL_X9_fault (c_X9_fault _ _ _ _ hx) rfl cut_L_X z_hidX kL_230 (Nat.le_of_ble_eq_true rfl) vc_9 rfl rfl rfl (Nat.le_of_ble_eq_true rfl) (wsL_c36 _ (List.mem_of_getElem? (i := 13) rfl)) ⟨(Nat.le_of_ble_eq_true rfl), (Nat.le_of_ble_eq_true rfl)⟩ dL_law_917) cut_L_X z_hidX ?_
  refine z_aload_n hB 1 dL_law_920 rfl rfl ?_
  refine z_arg hB hX 1 dL_law_921 dL_law_922 dL_law_923 zaI_1 dL_law_924 dL_law_925 hL (by omega) ?_
  refine z_cI hB (z_rV (ι := zi_L_M) hB yL_X10_fault (c_X10_fault _ _ _ _ hm) z_mL.symm cut_L_M z_hno kM_0 (Nat.le_of_ble_eq_true rfl) vc_10 rfl rfl rfl (Nat.le_of_ble_eq_true rfl) (wsL_c38 _ (List.mem_of_getElem? (i := 5) rfl)) ⟨(Nat.le_of_ble_eq_true rfl), (Nat.le_of_ble_eq_true rfl)⟩ dL_law_926) cut_L_M z_hno ?_
  exact z_icmp_eq hB (tgt := 947) dL_law_929 (by decide) (fun _ => kk _ (RX_step hR')) (fun h => absurd rfl h)
theorem yL_X9_play : z_YV yX9_play cX9_play 1 (some .int) 0 := ⟨⟨(wsL_c1 _ (List.mem_of_getElem? (i := 2) rfl)), (wsL_c39 _ (List.mem_of_getElem? (i := 17) rfl)), by decide +kernel, by decide +kernel, by decide +kernel⟩, (wsL_c39 _ (List.mem_of_getElem? (i := 15) rfl)), (wsL_c39 _ (List.mem_of_getElem? (i := 16) rfl))⟩
theorem yL_X10_play : z_YV yX10_play cX10_play 2 (some .int) 0 := ⟨⟨(wsL_c1 _ (List.mem_of_getElem? (i := 5) rfl)), (wsL_c40 _ (List.mem_of_getElem? (i := 0) rfl)), by decide +kernel, by decide +kernel, by decide +kernel⟩, (wsL_c39 _ (List.mem_of_getElem? (i := 22) rfl)), (wsL_c39 _ (List.mem_of_getElem? (i := 23) rfl))⟩
set_option maxRecDepth 100000 in
set_option maxHeartbeats 4000000 in
theorem lc_26 {E : z_En} {G : z_G} {A : Nat → Prop} {ad : Nat → Nat} {b L : Nat} {xs : Nat → Int32} {σ : z_S} (hB : zB E G A code 4 RL room_1) (hX : zX E A b L xs) {i : Nat} (hL : L ≤ 2560) (hi : i + 5 ≤ L) (hR : RX σ (fun k => σ (k + 275))) (kk : ∀ σ', RX σ' (fun k => σ' (k + 275)) → ZW E G A 4 layL 285 ad 947 (lvL i b ad) [] σ') : ZW E G A 4 layL 285 ad 934 (lvL i b ad) [] σ := by
  obtain ⟨r, x', m', hx, hm, hR'⟩ := ff_play hR
  refine z_aload_n hB 2 dL_law_934 rfl rfl ?_
  refine z_cI hB (z_rV (ι := zi_L_X) hB yL_X9_play (c_X9_play _ _ _ hx) rfl cut_L_X z_hidX kL_230 (Nat.le_of_ble_eq_true rfl) vc_9 rfl rfl rfl (Nat.le_of_ble_eq_true rfl) (wsL_c39 _ (List.mem_of_getElem? (i := 14) rfl)) ⟨(Nat.le_of_ble_eq_true rfl), (Nat.le_of_ble_eq_true rfl)⟩ dL_law_935) cut_L_X z_hidX ?_
  refine z_aload_n hB 1 dL_law_938 rfl rfl ?_
  refine z_cI hB (z_rV (ι := zi_L_M) hB yL_X10_play (c_X10_play _ _ _ hm) z_mL.symm cut_L_M z_hno kM_0 (Nat.le_of_ble_eq_true rfl) vc_10 rfl rfl rfl (Nat.le_of_ble_eq_true rfl) (wsL_c39 _ (List.mem_of_getElem? (i := 21) rfl)) ⟨(Nat.le_of_ble_eq_true rfl), (Nat.le_of_ble_eq_true rfl)⟩ dL_law_939) cut_L_M z_hno ?_
  exact z_icmp_eq hB (tgt := 947) dL_law_942 (by decide) (fun _ => kk _ (RX_step hR')) (fun h => absurd rfl h)
