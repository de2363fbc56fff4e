/-! THE LAW's walk, 2 (by program) -/
set_option maxRecDepth 100000 in
set_option maxHeartbeats 4000000 in
theorem law_B2 {E : z_En} {G : z_G} {A : Nat → Prop} {ad : Nat → Nat} {b L : Nat} {xs : Nat → Int32} (hB : zB E G A cX11_law 12 RX11 room_1) (hX : zX E A b L xs) (hL : L ≤ 260) {σ : z_S} {K : Nat} (next : ∀ v, 1 ≤ v → v ≤ 9 → ZW E G A 12 layX 275 ad 200 [(4, .int (nI 0)), (3, .int (nI v)), (2, .int (nI K)), (1, .ref (ad 230)), (0, .ref b)] [] σ) : ZW E G A 12 layX 275 ad 182 [(3, .int (nI (K + 1))), (2, .int (nI K)), (1, .ref (ad 230)), (0, .ref b)] [] σ := by
  obtain ⟨r, hr⟩ := c_X11_cell (xs := xs) hL (j := 0) (by omega)
  obtain ⟨j, hj, e⟩ := u_up (r >>> ((3 : Int32) &&& 31)) (N := 9) (by omega) (by omega) σ
  refine z_iconst hB dX11_law_182 zcI_1 ?_
  refine z_aload_n hB 3 dX11_law_183 rfl rfl ?_
  refine z_iconst hB dX11_law_184 zcI_0 ?_
  refine z_callS hB hX yY_X11_cell hr (Nat.le_of_ble_eq_true rfl) ml_X11_112 ⟨Nat.le_of_ble_eq_true rfl, Nat.le_of_ble_eq_true rfl⟩ dX11_law_185 ?_
  refine z_iconst hB dX11_law_188 zcI_3 ?_
  refine z_ishr hB dX11_law_189 ?_
  refine z_bipush hB dX11_law_190 zcB_9 ?_
  refine z_cI hB (z_rS (ι := fun k => k) hB yY_X11_up (c_X11_up _ _ _ _ (show f_X11_up (r >>> ((3 : Int32) &&& 31)) 9 σ = some (nI j) from e)) rfl z_cut0 z_hno rfl rfl rfl (Nat.le_of_ble_eq_true rfl) ml_X11_98 ⟨Nat.le_of_ble_eq_true rfl, Nat.le_of_ble_eq_true rfl⟩ dX11_law_192) z_cut0 z_hno ?_
  refine z_toA (z_mro (lay := layX) (lay' := z_lay0) (b := false) z_cut0) ?_
  refine z_iadd hB dX11_law_195 ?_
  refine z_istore_n hB [(3, .int (nI (1 + j))), (2, .int (nI K)), (1, .ref (ad 230)), (0, .ref b)] dX11_law_196 rfl (Nat.le_of_ble_eq_true rfl) (nI_add 1 j).symm rfl ?_
  refine z_iconst hB dX11_law_197 zcI_0 ?_
  refine z_istore hB [(4, .int (nI 0)), (3, .int (nI (1 + j))), (2, .int (nI K)), (1, .ref (ad 230)), (0, .ref b)] dX11_law_198 (Nat.le_of_ble_eq_true rfl) rfl rfl ?_
  exact next (1 + j) (by omega) (by omega)
set_option maxRecDepth 100000 in
set_option maxHeartbeats 4000000 in
theorem law_H {E : z_En} {G : z_G} {A : Nat → Prop} {ad : Nat → Nat} {b L : Nat} {xs : Nat → Int32} (hB : zB E G A cX11_law 12 RX11 room_1) (hX : zX E A b L xs) (hL : L ≤ 260) {K H : Nat} (hK : K ≤ 7) (hH : H ≤ 9) (next : ∀ σ m, (IV σ m (K + 1) H 0 1 0 ∧ HB (m 1) 0 H) → ZW E G A 12 layX 275 ad 263 [(4, .int (nI H)), (3, .int (nI H)), (2, .int (nI K)), (1, .ref (ad 230)), (0, .ref b)] [] σ) :
    ∀ (n i : Nat) (σ m : z_S), n + i = H → (IV σ m (K + 1) i 0 1 0 ∧ HB (m 1) 0 i) → ZW E G A 12 layX 275 ad 200 [(4, .int (nI i)), (3, .int (nI H)), (2, .int (nI K)), (1, .ref (ad 230)), (0, .ref b)] [] σ := by
  intro n
  induction n with
  | zero =>
    intro i σ m hn hI
    obtain rfl : i = H := by omega
    refine z_iload hB 0 dX11_law_200 rfl ?_
    refine z_iload_n hB 1 dX11_law_202 rfl rfl ?_
    refine z_icmp_ge hB (tgt := 263) dX11_law_203 (by decide) (fun _ => ?_) (fun q => absurd (nI_le (by omega) (by omega)) q)
    exact next σ m hI
  | succ n ih =>
    intro i σ m hn hI
    refine z_iload hB 0 dX11_law_200 rfl ?_
    refine z_iload_n hB 1 dX11_law_202 rfl rfl ?_
    refine z_icmp_ge hB (tgt := 263) dX11_law_203 (by decide) (fun q => absurd q (nI_ge (by omega) (by omega))) (fun _ => ?_)
    obtain ⟨hI, hb⟩ := hI
    have I0 := hI
    obtain ⟨np, ah, pl, X⟩ := hI.X
    obtain ⟨r, hc⟩ := cellK (xs := xs) hL (k := (9 : Int32) + (nI i)) (j := 9 + i) (nI_add 9 i) (by omega)
    obtain ⟨f, hf, e1⟩ := u_up r (N := K + 1) (by omega) (by omega) σ
    have e1 : f_X11_up r ((nI K) + (1 : Int32)) σ = some (nI f) := by rw [q_4p.1]; exact e1
    obtain ⟨jw, hw, e2⟩ := u_up (r >>> ((4 : Int32) &&& 31)) (N := 5) (by omega) (by omega) σ
    obtain ⟨jt, ht, e3⟩ := u_up (r >>> ((7 : Int32) &&& 31)) (N := 501) (by omega) (by omega) σ
    obtain ⟨x', m', hk, hR, -, hn'⟩ := k_house_ok X (ka := f) (w := 1 + jw) (c := nI jt) hf (by omega) (by omega) ⟨nI_le (a := 0) (by omega) (by omega), nI_le (b := 500) (by omega) (by omega)⟩ (by omega)
    have hk : f_X9_house (nI f) ((1 : Int32) + (nI jw)) (nI jt) σ = some (nI i, x') := by rw [show (1 : Int32) + nI jw = nI (1 + jw) from nI_add 1 jw]; exact hk
    refine z_aload_n hB 4 dX11_law_206 rfl rfl ?_
    refine z_bipush hB dX11_law_207 zcB_9 ?_
    refine z_iload hB 0 dX11_law_209 rfl ?_
    refine z_iadd hB dX11_law_211 ?_
    refine z_callS hB hX yY_X11_cell hc (Nat.le_of_ble_eq_true rfl) ml_X11_112 ⟨Nat.le_of_ble_eq_true rfl, Nat.le_of_ble_eq_true rfl⟩ dX11_law_212 ?_
    refine z_istore hB [(5, .int r), (4, .int (nI i)), (3, .int (nI H)), (2, .int (nI K)), (1, .ref (ad 230)), (0, .ref b)] dX11_law_215 (Nat.le_of_ble_eq_true rfl) rfl rfl ?_
    refine z_aload_n hB 4 dX11_law_217 rfl rfl ?_
    refine z_iload hB 0 dX11_law_218 rfl ?_
    refine z_iload_n hB 3 dX11_law_220 rfl rfl ?_
    refine z_iconst hB dX11_law_221 zcI_1 ?_
    refine z_iadd hB dX11_law_222 ?_
    refine z_cI hB (z_rS (ι := fun k => k) hB yY_X11_up (c_X11_up _ _ _ _ e1) rfl z_cut0 z_hno rfl rfl rfl (Nat.le_of_ble_eq_true rfl) ml_X11_98 ⟨Nat.le_of_ble_eq_true rfl, Nat.le_of_ble_eq_true rfl⟩ dX11_law_223) z_cut0 z_hno ?_
    refine z_toA (z_mro (lay := layX) (lay' := z_lay0) (b := false) z_cut0) ?_
    refine z_iconst hB dX11_law_226 zcI_1 ?_
    refine z_iload hB 0 dX11_law_227 rfl ?_
    refine z_iconst hB dX11_law_229 zcI_4 ?_
    refine z_ishr hB dX11_law_230 ?_
    refine z_iconst hB dX11_law_231 zcI_5 ?_
    refine z_cI hB (z_rS (ι := fun k => k) hB yY_X11_up (c_X11_up _ _ _ _ (show f_X11_up (r >>> ((4 : Int32) &&& 31)) 5 σ = some (nI jw) from e2)) rfl z_cut0 z_hno rfl rfl rfl (Nat.le_of_ble_eq_true rfl) ml_X11_98 ⟨Nat.le_of_ble_eq_true rfl, Nat.le_of_ble_eq_true rfl⟩ dX11_law_232) z_cut0 z_hno ?_
    refine z_toA (z_mro (lay := layX) (lay' := z_lay0) (b := false) z_cut0) ?_
    refine z_iadd hB dX11_law_235 ?_
    refine z_iload hB 0 dX11_law_236 rfl ?_
    refine z_bipush hB dX11_law_238 zcB_7 ?_
    refine z_ishr hB dX11_law_240 ?_
    refine z_sipush hB dX11_law_241 zcS_501 ?_
    refine z_cI hB (z_rS (ι := fun k => k) hB yY_X11_up (c_X11_up _ _ _ _ (show f_X11_up (r >>> ((7 : Int32) &&& 31)) 501 σ = some (nI jt) from e3)) rfl z_cut0 z_hno rfl rfl rfl (Nat.le_of_ble_eq_true rfl) ml_X11_98 ⟨Nat.le_of_ble_eq_true rfl, Nat.le_of_ble_eq_true rfl⟩ dX11_law_244) z_cut0 z_hno ?_
    refine z_toA (z_mro (lay := layX) (lay' := z_lay0) (b := false) z_cut0) ?_
    refine z_cI hB (z_rV (ι := fun k => k) hB yY_X9_house (c_X9_house _ _ _ _ _ _ hk) rfl cut_X z_hid kX_230 (Nat.le_of_ble_eq_true rfl) vc_9 rfl rfl rfl (Nat.le_of_ble_eq_true rfl) ml_X11_49 ⟨Nat.le_of_ble_eq_true rfl, Nat.le_of_ble_eq_true rfl⟩ dX11_law_247) cut_X z_hid ?_
    refine z_toA z_mid ?_
    refine z_iload hB 1 dX11_law_250 rfl ?_
    refine z_icmp_eq hB (tgt := 257) dX11_law_252 (by decide) (fun _ => ?_) (fun q => absurd (rfl) q)
    refine z_iinc hB 1 [(4, .int (nI (i + 1))), (5, .int r), (3, .int (nI H)), (2, .int (nI K)), (1, .ref (ad 230)), (0, .ref b)] dX11_law_257 rfl (by rw [zcI_1]; exact (nI_add i 1).symm) (Nat.le_of_ble_eq_true rfl) rfl ?_
    refine z_goto hB (tgt := 200) dX11_law_260 (by decide) ?_
    refine z_lv [0, 2, 3, 4, 5] rfl ?_
    refine ih (i + 1) x' m' (by omega) ⟨?_, ?_⟩
    · obtain ⟨-, J, b0, b1, b2, b3, f0, f1, f2, f4⟩ := hI
      have h9 := hn'.2.2.2.2.2.2.2.2
      exact ⟨hR, j_house X J (by omega) hn', by omega, by omega, by omega, by omega, (h9 0 (by omega) (by omega)).trans f0, hn'.1, (h9 2 (by omega) (by omega)).trans f2, (h9 4 (by omega) (by omega)).trans f4⟩
    · intro h _ hh
      by_cases q : h = i
      · subst q; exact hn'.2.2.2.2.2.2.1
      · rw [hn'.2.2.2.2.2.2.2.2 _ (by omega) (by omega)]; exact hb h (Nat.zero_le _) (by omega)
set_option maxRecDepth 100000 in
set_option maxHeartbeats 4000000 in
theorem law_B3 {E : z_En} {G : z_G} {A : Nat → Prop} {ad : Nat → Nat} {b L : Nat} {xs : Nat → Int32} (hB : zB E G A cX11_law 12 RX11 room_1) (hX : zX E A b L xs) (hL : L ≤ 260) {σ : z_S} {H K : Nat} (next : ∀ v, 1 ≤ v → v ≤ 3 → ZW E G A 12 layX 275 ad 282 [(5, .int (nI 0)), (4, .int (nI v)), (3, .int (nI H)), (2, .int (nI K)), (1, .ref (ad 230)), (0, .ref b)] [] σ) : ZW E G A 12 layX 275 ad 263 [(4, .int (nI H)), (3, .int (nI H)), (2, .int (nI K)), (1, .ref (ad 230)), (0, .ref b)] [] σ := by
  obtain ⟨r, hr⟩ := c_X11_cell (xs := xs) hL (j := 0) (by omega)
  obtain ⟨j, hj, e⟩ := u_up (r >>> ((8 : Int32) &&& 31)) (N := 3) (by omega) (by omega) σ
  refine z_iconst hB dX11_law_263 zcI_1 ?_
  refine z_aload_n hB 4 dX11_law_264 rfl rfl ?_
  refine z_iconst hB dX11_law_265 zcI_0 ?_
  refine z_callS hB hX yY_X11_cell hr (Nat.le_of_ble_eq_true rfl) ml_X11_112 ⟨Nat.le_of_ble_eq_true rfl, Nat.le_of_ble_eq_true rfl⟩ dX11_law_266 ?_
  refine z_bipush hB dX11_law_269 zcB_8 ?_
  refine z_ishr hB dX11_law_271 ?_
  refine z_iconst hB dX11_law_272 zcI_3 ?_
  refine z_cI hB (z_rS (ι := fun k => k) hB yY_X11_up (c_X11_up _ _ _ _ (show f_X11_up (r >>> ((8 : Int32) &&& 31)) 3 σ = some (nI j) from e)) rfl z_cut0 z_hno rfl rfl rfl (Nat.le_of_ble_eq_true rfl) ml_X11_98 ⟨Nat.le_of_ble_eq_true rfl, Nat.le_of_ble_eq_true rfl⟩ dX11_law_273) z_cut0 z_hno ?_
  refine z_toA (z_mro (lay := layX) (lay' := z_lay0) (b := false) z_cut0) ?_
  refine z_iadd hB dX11_law_276 ?_
  refine z_istore hB [(4, .int (nI (1 + j))), (3, .int (nI H)), (2, .int (nI K)), (1, .ref (ad 230)), (0, .ref b)] dX11_law_277 (Nat.le_of_ble_eq_true rfl) (nI_add 1 j).symm rfl ?_
  refine z_iconst hB dX11_law_279 zcI_0 ?_
  refine z_istore hB [(5, .int (nI 0)), (4, .int (nI (1 + j))), (3, .int (nI H)), (2, .int (nI K)), (1, .ref (ad 230)), (0, .ref b)] dX11_law_280 (Nat.le_of_ble_eq_true rfl) rfl rfl ?_
  exact next (1 + j) (by omega) (by omega)
theorem j_carrier {x m : z_S} {nc nh nk np dy : Nat} {ah pl : Nat → Nat} (X : XT x m nc nh nk np dy ah pl) {due : Int32} (J : JJ (m 1) nh nk dy due) {n' : Nat → Int32} (hlt : nk < 3) (hb : HB (m 1) 0 nh) (h2 : n' 2 = nI (nk + 1)) (h5 : ∀ q, 2 ≤ q → q < 7 → n' (426 + 7 * nk + q) = nI 0)
    (hn : ∀ i, i ≠ 2 → i ≠ 426 + 7 * nk + 0 → i ≠ 426 + 7 * nk + 1 → n' i = m 1 i) : JJ n' nh (nk + 1) dy due := by
  obtain ⟨b0, b1, b2, b3, b4, b5⟩ := X.b
  obtain ⟨j1, j2, j3, j4, j5, j6⟩ := J
  have sm : ∀ w, w < 14 → rSum n' nh w = rSum (m 1) nh w := fun w a => sI_congr (fun i hi => hn _ (by omega) (by omega) (by omega))
  refine ⟨fun h hh => (j1 h hh).congr (Nat.le_refl _) (fun w a _ _ _ => hn _ (by omega) (by omega) (by omega)) ?_, fun c hc => ?_, fun h hh c hc e => ?_, ?_, ?_, by rw [hn 12 (by omega) (by omega) (by omega)]; exact j6⟩
  · rw [hn _ (by omega) (by omega) (by omega)]
    obtain ⟨p, k, u, s, a1, a2, a3, a4, a5, a6, a7, a8, a9, a10⟩ := j1 h hh
    exact a10
  · by_cases q : c = nk
    · subst q
      exact ⟨0, by omega, h5 2 (by omega) (by omega)⟩
    · rw [hn _ (by omega) (by omega) (by omega)]
      exact j2 c (by omega)
  · rw [hn _ (by omega) (by omega) (by omega), hb h (Nat.zero_le _) hh] at e
    exact absurd e.symm (nI_m1 (by omega))
  · rw [sm 6 (by omega), sm 7 (by omega), sm 8 (by omega), sm 9 (by omega), sm 10 (by omega)]; exact j4
  · rw [sm 6 (by omega), ← j5]
    exact sI_ext (fun c hc => hn _ (by omega) (by omega) (by omega)) ((h5 6 (by omega) (by omega)).trans nI_0)
set_option maxRecDepth 100000 in
set_option maxHeartbeats 4000000 in
theorem law_K {E : z_En} {G : z_G} {A : Nat → Prop} {ad : Nat → Nat} {b L : Nat} {xs : Nat → Int32} (hB : zB E G A cX11_law 12 RX11 room_1) (hX : zX E A b L xs) (hL : L ≤ 260) {K H C : Nat} (hK : K ≤ 7) (hH : H ≤ 9) (hC : C ≤ 3) (next : ∀ σ m, (IV σ m (K + 1) H C 1 0 ∧ HB (m 1) 0 H) → ZW E G A 12 layX 275 ad 349 [(5, .int (nI C)), (4, .int (nI C)), (3, .int (nI H)), (2, .int (nI K)), (1, .ref (ad 230)), (0, .ref b)] [] σ) :
    ∀ (n i : Nat) (σ m : z_S), n + i = C → (IV σ m (K + 1) H i 1 0 ∧ HB (m 1) 0 H) → ZW E G A 12 layX 275 ad 282 [(5, .int (nI i)), (4, .int (nI C)), (3, .int (nI H)), (2, .int (nI K)), (1, .ref (ad 230)), (0, .ref b)] [] σ := by
  intro n
  induction n with
  | zero =>
    intro i σ m hn hI
    obtain rfl : i = C := by omega
    refine z_iload hB 0 dX11_law_282 rfl ?_
    refine z_iload hB 1 dX11_law_284 rfl ?_
    refine z_icmp_ge hB (tgt := 349) dX11_law_286 (by decide) (fun _ => ?_) (fun q => absurd (nI_le (by omega) (by omega)) q)
    exact next σ m hI
  | succ n ih =>
    intro i σ m hn hI
    refine z_iload hB 0 dX11_law_282 rfl ?_
    refine z_iload hB 1 dX11_law_284 rfl ?_
    refine z_icmp_ge hB (tgt := 349) dX11_law_286 (by decide) (fun q => absurd q (nI_ge (by omega) (by omega))) (fun _ => ?_)
    obtain ⟨hI, hb⟩ := hI
    obtain ⟨np, ah, pl, X⟩ := hI.X
    obtain ⟨r, hc⟩ := cellK (xs := xs) hL (k := (18 : Int32) + (nI i)) (j := 18 + i) (nI_add 18 i) (by omega)
    refine z_aload_n hB 5 dX11_law_289 rfl rfl ?_
    refine z_bipush hB dX11_law_290 zcB_18 ?_
    refine z_iload hB 0 dX11_law_292 rfl ?_
    refine z_iadd hB dX11_law_294 ?_
    refine z_callS hB hX yY_X11_cell hc (Nat.le_of_ble_eq_true rfl) ml_X11_112 ⟨Nat.le_of_ble_eq_true rfl, Nat.le_of_ble_eq_true rfl⟩ dX11_law_295 ?_
    refine z_istore hB [(6, .int r), (5, .int (nI i)), (4, .int (nI C)), (3, .int (nI H)), (2, .int (nI K)), (1, .ref (ad 230)), (0, .ref b)] dX11_law_298 (Nat.le_of_ble_eq_true rfl) rfl rfl ?_
    refine z_aload_n hB 5 dX11_law_300 rfl rfl ?_
    refine z_iload hB 0 dX11_law_301 rfl ?_
    refine z_iconst hB dX11_law_303 zcI_1 ?_
    refine z_iand hB dX11_law_304 ?_
    refine z_bipush hB dX11_law_305 zcB_10 ?_
    refine z_iload hB 0 dX11_law_307 rfl ?_
    refine z_iconst hB dX11_law_309 zcI_1 ?_
    refine z_ishr hB dX11_law_310 ?_
    refine z_iload hB 0 dX11_law_311 rfl ?_
    refine z_bipush hB dX11_law_313 zcB_8 ?_
    refine z_ishr hB dX11_law_315 ?_
    refine z_iconst hB dX11_law_316 zcI_1 ?_
    refine z_iand hB dX11_law_317 ?_
    have go : ∀ N, 1 ≤ N → N ≤ 491 → ZW E G A 12 layX 275 ad 329 [(6, .int r), (5, .int (nI i)), (4, .int (nI C)), (3, .int (nI H)), (2, .int (nI K)), (1, .ref (ad 230)), (0, .ref b)] (.int (nI N) :: [.int (r >>> ((1 : Int32) &&& 31)), .int (10 : Int32), .int (r &&& (1 : Int32)), .ref (ad 230)]) σ := by
      intro N hN1 hN2
      obtain ⟨jl, hl, e1⟩ := u_up (r >>> ((1 : Int32) &&& 31)) (N := N) hN1 (by omega) σ
      obtain ⟨ja, hja, ea⟩ := pk_andE r (m := 1) 1 (by decide)
      obtain ⟨x', m', hk, hR, -, q2, q0, q5, q1⟩ := k_carrier_ok X (a := r &&& (1 : Int32)) (b := (10 : Int32) + (nI jl)) (by rw [ea]; exact ⟨nI_le (a := 0) (by omega) (by omega), nI_le (b := 1) (by omega) (by omega)⟩) (by rw [show (10 : Int32) + nI jl = nI (10 + jl) from nI_add 10 jl]; exact ⟨nI_le (a := 10) (by omega) (by omega), nI_le (b := 500) (by omega) (by omega)⟩) (by omega)
      refine z_cI hB (z_rS (ι := fun k => k) hB yY_X11_up (c_X11_up _ _ _ _ e1) rfl z_cut0 z_hno rfl rfl rfl (Nat.le_of_ble_eq_true rfl) ml_X11_98 ⟨Nat.le_of_ble_eq_true rfl, Nat.le_of_ble_eq_true rfl⟩ dX11_law_329) z_cut0 z_hno ?_
      refine z_toA (z_mro (lay := layX) (lay' := z_lay0) (b := false) z_cut0) ?_
      refine z_iadd hB dX11_law_332 ?_
      refine z_cI hB (z_rV (ι := fun k => k) hB yY_X9_carrier (c_X9_carrier _ _ _ _ _ hk) rfl cut_X z_hid kX_230 (Nat.le_of_ble_eq_true rfl) vc_9 rfl rfl rfl (Nat.le_of_ble_eq_true rfl) ml_X11_59 ⟨Nat.le_of_ble_eq_true rfl, Nat.le_of_ble_eq_true rfl⟩ dX11_law_333) cut_X z_hid ?_
      refine z_toA z_mid ?_
      refine z_iload hB 1 dX11_law_336 rfl ?_
      refine z_icmp_eq hB (tgt := 343) dX11_law_338 (by decide) (fun _ => ?_) (fun q => absurd (rfl) q)
      refine z_iinc hB 1 [(5, .int (nI (i + 1))), (6, .int r), (4, .int (nI C)), (3, .int (nI H)), (2, .int (nI K)), (1, .ref (ad 230)), (0, .ref b)] dX11_law_343 rfl (by rw [zcI_1]; exact (nI_add i 1).symm) (Nat.le_of_ble_eq_true rfl) rfl ?_
      refine z_goto hB (tgt := 282) dX11_law_346 (by decide) ?_
      refine z_lv [0, 2, 3, 4, 5, 6] rfl ?_
      refine ih (i + 1) x' m' (by omega) ⟨?_, fun h h0 hh => by rw [q1 _ (by omega) (by omega) (by omega)]; exact hb h h0 hh⟩
      obtain ⟨-, J, b0, b1, b2, b3, f0, f1, f2, f4⟩ := hI
      exact ⟨hR, j_carrier X J (by omega) hb q2 q5 q1, by omega, by omega, by omega, by omega, (q1 0 (by omega) (by omega) (by omega)).trans f0, (q1 1 (by omega) (by omega) (by omega)).trans f1, q2, (q1 4 (by omega) (by omega) (by omega)).trans f4⟩
    refine z_if_ne hB (tgt := 326) dX11_law_318 (by decide) (fun _ => ?_) (fun _ => ?_)
    · refine z_sipush hB dX11_law_326 zcS_491 ?_
      exact go 491 (by omega) (by omega)
    · refine z_bipush hB dX11_law_321 zcB_30 ?_
      refine z_goto hB (tgt := 329) dX11_law_323 (by decide) ?_
      exact go 30 (by omega) (by omega)
set_option maxRecDepth 100000 in
set_option maxHeartbeats 4000000 in
theorem law_B4 {E : z_En} {G : z_G} {A : Nat → Prop} {ad : Nat → Nat} {b L : Nat} {xs : Nat → Int32} (hB : zB E G A cX11_law 12 RX11 room_1) (hX : zX E A b L xs) (hL : L ≤ 260) {σ : z_S} {K H C : Nat} (next : ZW E G A 12 layX 275 ad 352 [(5, .int (nI 0)), (4, .int (nI C)), (3, .int (nI H)), (2, .int (nI K)), (1, .ref (ad 230)), (0, .ref b)] [] σ) : ZW E G A 12 layX 275 ad 349 [(5, .int (nI C)), (4, .int (nI C)), (3, .int (nI H)), (2, .int (nI K)), (1, .ref (ad 230)), (0, .ref b)] [] σ := by
  refine z_iconst hB dX11_law_349 zcI_0 ?_
  refine z_istore hB [(5, .int (nI 0)), (4, .int (nI C)), (3, .int (nI H)), (2, .int (nI K)), (1, .ref (ad 230)), (0, .ref b)] dX11_law_350 (Nat.le_of_ble_eq_true rfl) rfl rfl ?_
  exact next
set_option maxRecDepth 100000 in
set_option maxHeartbeats 4000000 in
theorem law_G2 {E : z_En} {G : z_G} {A : Nat → Prop} {ad : Nat → Nat} {b L : Nat} {xs : Nat → Int32} (hB : zB E G A cX11_law 12 RX11 room_1) (hX : zX E A b L xs) (hL : L ≤ 260) {K H C : Nat} (hK : K ≤ 7) (hH : H ≤ 9) (hC : C ≤ 3) (hC1 : 1 ≤ C) (next : ∀ σ m, (IV σ m (K + 1) H C 1 0 ∧ HB (m 1) H H) → ZW E G A 12 layX 275 ad 416 [(5, .int (nI H)), (4, .int (nI C)), (3, .int (nI H)), (2, .int (nI K)), (1, .ref (ad 230)), (0, .ref b)] [] σ) :
    ∀ (n i : Nat) (σ m : z_S), n + i = H → (IV σ m (K + 1) H C 1 0 ∧ HB (m 1) i H) → ZW E G A 12 layX 275 ad 352 [(5, .int (nI i)), (4, .int (nI C)), (3, .int (nI H)), (2, .int (nI K)), (1, .ref (ad 230)), (0, .ref b)] [] σ := by
  intro n
  induction n with
  | zero =>
    intro i σ m hn hI
    obtain rfl : i = H := by omega
    refine z_iload hB 0 dX11_law_352 rfl ?_
    refine z_iload_n hB 2 dX11_law_354 rfl rfl ?_
    refine z_icmp_ge hB (tgt := 416) dX11_law_355 (by decide) (fun _ => ?_) (fun q => absurd (nI_le (by omega) (by omega)) q)
    exact next σ m hI
  | succ n ih =>
    intro i σ m hn hI
    refine z_iload hB 0 dX11_law_352 rfl ?_
    refine z_iload_n hB 2 dX11_law_354 rfl rfl ?_
    refine z_icmp_ge hB (tgt := 416) dX11_law_355 (by decide) (fun q => absurd q (nI_ge (by omega) (by omega))) (fun _ => ?_)
    obtain ⟨hI, hb⟩ := hI
    obtain ⟨np, ah, pl, X⟩ := hI.X
    obtain ⟨r, hc⟩ := cellK (xs := xs) hL (k := (21 : Int32)) (j := 21) rfl (by omega)
    obtain ⟨c, hcc, e1⟩ := u_up (r >>> (((2 : Int32) * (nI i)) &&& 31)) (N := C) (by omega) (by omega) σ
    have n3 : ¬ m 1 (90 + 14 * i + 3) = nI c := fun w => nI_m1 (a := c) (by omega) (by rw [← w]; exact hb i (Nat.le_refl _) (by omega))
    obtain ⟨-, g2, g3⟩ := k_give_h X (k := i) (c := c) (by omega) hcc
    refine z_aload_n hB 5 dX11_law_358 rfl rfl ?_
    refine z_bipush hB dX11_law_359 zcB_21 ?_
    refine z_callS hB hX yY_X11_cell hc (Nat.le_of_ble_eq_true rfl) ml_X11_112 ⟨Nat.le_of_ble_eq_true rfl, Nat.le_of_ble_eq_true rfl⟩ dX11_law_361 ?_
    refine z_iconst hB dX11_law_364 zcI_2 ?_
    refine z_iload hB 0 dX11_law_365 rfl ?_
    refine z_imul hB dX11_law_367 ?_
    refine z_ishr hB dX11_law_368 ?_
    refine z_iload hB 1 dX11_law_369 rfl ?_
    refine z_cI hB (z_rS (ι := fun k => k) hB yY_X11_up (c_X11_up _ _ _ _ e1) rfl z_cut0 z_hno rfl rfl rfl (Nat.le_of_ble_eq_true rfl) ml_X11_98 ⟨Nat.le_of_ble_eq_true rfl, Nat.le_of_ble_eq_true rfl⟩ dX11_law_371) z_cut0 z_hno ?_
    refine z_toA (z_mro (lay := layX) (lay' := z_lay0) (b := false) z_cut0) ?_
    refine z_istore hB [(6, .int (nI c)), (5, .int (nI i)), (4, .int (nI C)), (3, .int (nI H)), (2, .int (nI K)), (1, .ref (ad 230)), (0, .ref b)] dX11_law_374 (Nat.le_of_ble_eq_true rfl) rfl rfl ?_
    refine z_aload_n hB 5 dX11_law_376 rfl rfl ?_
    refine z_iload hB 1 dX11_law_377 rfl ?_
    refine z_iload hB 0 dX11_law_379 rfl ?_
    by_cases c2 : cR (m 1) ah pl c i
    · obtain ⟨rg, x', m', q1, q2, q3, q4, q5⟩ := g3 n3 c2
      refine z_cI hB (z_rV (ι := fun k => k) hB yY_X9_give (c_X9_give _ _ _ _ _ q1) rfl cut_X z_hid kX_230 (Nat.le_of_ble_eq_true rfl) vc_9 rfl rfl rfl (Nat.le_of_ble_eq_true rfl) ml_X11_62 ⟨Nat.le_of_ble_eq_true rfl, Nat.le_of_ble_eq_true rfl⟩ dX11_law_381) cut_X z_hid ?_
      refine z_toA z_mid ?_
      refine z_istore hB [(7, .int rg), (6, .int (nI c)), (5, .int (nI i)), (4, .int (nI C)), (3, .int (nI H)), (2, .int (nI K)), (1, .ref (ad 230)), (0, .ref b)] dX11_law_384 (Nat.le_of_ble_eq_true rfl) rfl rfl ?_
      refine z_iload hB 0 dX11_law_386 rfl ?_
      refine z_if_ge hB (tgt := 410) dX11_law_388 (by decide) (fun _ => ?_) (fun q => absurd (Int32.not_lt.mp q2) q)
      refine z_iinc hB 2 [(5, .int (nI (i + 1))), (7, .int rg), (6, .int (nI c)), (4, .int (nI C)), (3, .int (nI H)), (2, .int (nI K)), (1, .ref (ad 230)), (0, .ref b)] dX11_law_410 rfl (by rw [zcI_1]; exact (nI_add i 1).symm) (Nat.le_of_ble_eq_true rfl) rfl ?_
      refine z_goto hB (tgt := 352) dX11_law_413 (by decide) ?_
      refine z_lv [0, 3, 4, 5, 6, 7] rfl ?_
      refine ih (i + 1) x' m' (by omega) ⟨?_, fun h h0 hh => by rw [q5, un_j (by omega)]; exact hb h (by omega) hh⟩
      obtain ⟨-, J, b0, b1, b2, b3, f0, f1, f2, f4⟩ := hI
      exact ⟨q3, by rw [q5]; exact j_give X J (by omega) hcc c2, b0, b1, b2, b3, by rw [q5, un_j (by omega)]; exact f0, by rw [q5, un_j (by omega)]; exact f1, by rw [q5, un_j (by omega)]; exact f2, by rw [q5, un_j (by omega)]; exact f4⟩
    · obtain ⟨x', q1, q2⟩ := g2 n3 c2
      have I' : IV x' m (K + 1) H C 1 0 := hI.of q2 hI.2.1 rfl rfl rfl rfl
      obtain ⟨np', ah', pl', X'⟩ := I'.X
      refine z_cI hB (z_rV (ι := fun k => k) hB yY_X9_give (c_X9_give _ _ _ _ _ q1) rfl cut_X z_hid kX_230 (Nat.le_of_ble_eq_true rfl) vc_9 rfl rfl rfl (Nat.le_of_ble_eq_true rfl) ml_X11_62 ⟨Nat.le_of_ble_eq_true rfl, Nat.le_of_ble_eq_true rfl⟩ dX11_law_381) cut_X z_hid ?_
      refine z_toA z_mid ?_
      refine z_istore hB [(7, .int (-2 : Int32)), (6, .int (nI c)), (5, .int (nI i)), (4, .int (nI C)), (3, .int (nI H)), (2, .int (nI K)), (1, .ref (ad 230)), (0, .ref b)] dX11_law_384 (Nat.le_of_ble_eq_true rfl) rfl rfl ?_
      refine z_iload hB 0 dX11_law_386 rfl ?_
      refine z_if_ge hB (tgt := 410) dX11_law_388 (by decide) (fun q => absurd q (by decide)) (fun _ => ?_)
      refine z_iload hB 0 dX11_law_391 rfl ?_
      refine z_bipush hB dX11_law_393 zcB_m2 ?_
      refine z_icmp_ne hB (tgt := 408) dX11_law_395 (by decide) (fun q => absurd (rfl) q) (fun _ => ?_)
      refine z_aload_n hB 6 dX11_law_398 rfl rfl ?_
      refine z_iload hB 1 dX11_law_399 rfl ?_
      refine z_iconst hB dX11_law_401 zcI_0 ?_
      refine z_cI hB (z_rV (ι := fun k => k) hB yY_X9_carrierOf (c_X9_carrierOf _ _ _ _ (show f_X9_carrierOf (nI c) 0 x' = some (m 1 (426 + 7 * c + 0)) from v_carrier_0 X' hcc)) rfl cut_X z_hid kX_230 (Nat.le_of_ble_eq_true rfl) vc_9 rfl rfl rfl (Nat.le_of_ble_eq_true rfl) ml_X11_33 ⟨Nat.le_of_ble_eq_true rfl, Nat.le_of_ble_eq_true rfl⟩ dX11_law_402) cut_X z_hid ?_
      refine z_toA (z_mro cut_X) ?_
      refine z_if_ne hB (tgt := 410) dX11_law_405 (by decide) (fun _ => ?_) (fun q => absurd q (show ¬ m 1 (426 + 7 * c + 0) = 0 from fun w => c2 (Or.inl w)))
      refine z_iinc hB 2 [(5, .int (nI (i + 1))), (7, .int (-2 : Int32)), (6, .int (nI c)), (4, .int (nI C)), (3, .int (nI H)), (2, .int (nI K)), (1, .ref (ad 230)), (0, .ref b)] dX11_law_410 rfl (by rw [zcI_1]; exact (nI_add i 1).symm) (Nat.le_of_ble_eq_true rfl) rfl ?_
      refine z_goto hB (tgt := 352) dX11_law_413 (by decide) ?_
      refine z_lv [0, 3, 4, 5, 6, 7] rfl ?_
      exact ih (i + 1) x' m (by omega) ⟨I', fun h h0 hh => hb h (by omega) hh⟩
