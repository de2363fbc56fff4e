def f_X11_fails (σ : z_S) : Option (Int32 × z_S) :=
  z_b1 (f_X11_mark σ) fun r2 =>
  z_b1 (f_X9_count (9 : Int32) σ) fun r4 =>
  z_b1 (f_X9_count (0 : Int32) σ) fun r6 =>
  z_b1 (f_X9_count (1 : Int32) σ) fun r8 =>
  z_b1 (f_X9_count (2 : Int32) σ) fun r10 =>
  z_b1 (f_X9_count (4 : Int32) σ) fun r12 =>
  z_b2 (f_X9_corner r6 (5 : Int32) (5 : Int32) (0 : Int32) σ) fun r15 σ14 =>
  z_let (fun (y16 : Int32) (σ17 : z_S) => z_let (fun (y19 : Int32) (σ20 : z_S) => z_let (fun (y22 : Int32) (σ23 : z_S) => if y22 = (0 : Int32) then
  (some ((0 : Int32), σ23))
  else
  (z_b1 (f_X11_mark σ23) fun r27 =>
  if (lg_cmp r27 r2) = (0 : Int32) then
  (z_b1 (f_X9_count (9 : Int32) σ23) fun r30 =>
  if r30 = r4 then
  (some ((1 : Int32), σ23))
  else
  (some ((0 : Int32), σ23)))
  else
  (some ((0 : Int32), σ23)))) fun j24 =>
  z_let (fun (σ32 : z_S) => j24 (0 : Int32) σ32) fun j33 =>
  if y19 = (0 : Int32) then
  (j33 σ20)
  else
  (z_b1 (f_X9_cornerOf r6 (0 : Int32) σ20) fun r36 =>
  if r36 = (-1 : Int32) then
  (z_b1 (f_X9_cornerOf (0 : Int32) (7 : Int32) σ20) fun r39 =>
  if r39 = (-1 : Int32) then
  (z_b1 (f_X9_cornerOf (0 : Int32) (0 : Int32) σ20) fun r42 =>
  if r42 = (-4 : Int32) then
  (z_b1 (f_X9_cornerOf (0 : Int32) (1 : Int32) σ20) fun r45 =>
  if r45 = (-4 : Int32) then
  (z_b1 (f_X9_cornerOf (0 : Int32) (3 : Int32) σ20) fun r48 =>
  if r48 = (-4 : Int32) then
  (z_b1 (f_X9_houseOf r8 (0 : Int32) σ20) fun r51 =>
  if r51 = (-1 : Int32) then
  (z_b1 (f_X9_houseOf (0 : Int32) (12 : Int32) σ20) fun r54 =>
  if r54 = (-1 : Int32) then
  (z_b1 (f_X9_shareBits r8 σ20) fun r57 =>
  if r57 = (-1 : Int32) then
  (z_b1 (f_X9_carrierOf r10 (0 : Int32) σ20) fun r60 =>
  if r60 = (-1 : Int32) then
  (z_b1 (f_X9_carrierOf (0 : Int32) (8 : Int32) σ20) fun r63 =>
  if r63 = (-1 : Int32) then
  (z_b1 (f_X9_count (3 : Int32) σ20) fun r66 =>
  z_b1 (f_X9_pauseOf r66 (0 : Int32) σ20) fun r68 =>
  if r68 = (-1 : Int32) then
  (z_b1 (f_X9_pauseOf (0 : Int32) (3 : Int32) σ20) fun r71 =>
  if r71 = (-1 : Int32) then
  (z_b1 (f_X9_roundAt r10 (0 : Int32) σ20) fun r74 =>
  if r74 = (-1 : Int32) then
  (z_b1 (f_X9_roundAt (0 : Int32) (-1 : Int32) σ20) fun r77 =>
  if r77 = (-1 : Int32) then
  (z_b2 (f_X9_round r10 r12 (0 : Int32) σ20) fun r81 σ80 =>
  if r81 = (-1 : Int32) then
  (z_b2 (f_X9_round (0 : Int32) (r12 - (1 : Int32)) (0 : Int32) σ80) fun r85 σ84 =>
  if r85 = (-1 : Int32) then
  (z_b2 (f_X9_round (0 : Int32) (1000 : Int32) (0 : Int32) σ84) fun r89 σ88 =>
  if r89 = (-1 : Int32) then
  (z_b2 (f_X9_round (0 : Int32) r12 (4 : Int32) σ88) fun r93 σ92 =>
  if r93 = (-1 : Int32) then
  (z_b2 (f_X9_lightest r8 r12 σ92) fun r97 σ96 =>
  if r97 = (-1 : Int32) then
  (z_b2 (f_X9_lightest (0 : Int32) (1000 : Int32) σ96) fun r101 σ100 =>
  if r101 = (-1 : Int32) then
  (z_b1 (f_X9_nextDog r8 σ100) fun r104 =>
  if r104 = (-1 : Int32) then
  (z_b1 (f_X9_account (6 : Int32) σ100) fun r107 =>
  if r107 = (-1 : Int32) then
  (z_b1 (f_X9_count (11 : Int32) σ100) fun r110 =>
  if r110 = (-1 : Int32) then
  (z_b1 (f_X9_count (22 : Int32) σ100) fun r113 =>
  if r113 = (-1 : Int32) then
  (z_b2 (f_X9_type (31 : Int32) σ100) fun r117 σ116 =>
  if r117 = (-1 : Int32) then
  (z_b2 (f_X9_fault (3 : Int32) σ116) fun r121 σ120 =>
  if r121 = (-1 : Int32) then
  (j24 (1 : Int32) σ120)
  else
  (j33 σ120))
  else
  (j33 σ116))
  else
  (j33 σ100))
  else
  (j33 σ100))
  else
  (j33 σ100))
  else
  (j33 σ100))
  else
  (j33 σ100))
  else
  (j33 σ96))
  else
  (j33 σ92))
  else
  (j33 σ88))
  else
  (j33 σ84))
  else
  (j33 σ80))
  else
  (j33 σ20))
  else
  (j33 σ20))
  else
  (j33 σ20))
  else
  (j33 σ20))
  else
  (j33 σ20))
  else
  (j33 σ20))
  else
  (j33 σ20))
  else
  (j33 σ20))
  else
  (j33 σ20))
  else
  (j33 σ20))
  else
  (j33 σ20))
  else
  (j33 σ20))
  else
  (j33 σ20))
  else
  (j33 σ20))) fun j21 =>
  z_let (fun (σ123 : z_S) => j21 (0 : Int32) σ123) fun j124 =>
  if y16 = (0 : Int32) then
  (j124 σ17)
  else
  (z_b2 (f_X9_carrier (2 : Int32) (50 : Int32) σ17) fun r128 σ127 =>
  if r128 = (-1 : Int32) then
  (z_b2 (f_X9_carrier (0 : Int32) (9 : Int32) σ127) fun r132 σ131 =>
  if r132 = (-1 : Int32) then
  (z_b2 (f_X9_carrier (0 : Int32) (501 : Int32) σ131) fun r136 σ135 =>
  if r136 = (-1 : Int32) then
  (z_b2 (f_X9_give r8 (0 : Int32) σ135) fun r140 σ139 =>
  if r140 = (-1 : Int32) then
  (z_b2 (f_X9_give (0 : Int32) r10 σ139) fun r144 σ143 =>
  if r144 = (-1 : Int32) then
  (z_b2 (f_X9_giveNone r8 σ143) fun r148 σ147 =>
  if r148 = (-1 : Int32) then
  (z_b2 (f_X9_biscuits r10 (1 : Int32) σ147) fun r152 σ151 =>
  if r152 = (-1 : Int32) then
  (z_b2 (f_X9_biscuits (0 : Int32) (0 : Int32) σ151) fun r156 σ155 =>
  if r156 = (-1 : Int32) then
  (z_b2 (f_X9_biscuits (0 : Int32) (100 : Int32) σ155) fun r160 σ159 =>
  if r160 = (-1 : Int32) then
  (z_b2 (f_X9_set (2 : Int32) (1 : Int32) σ159) fun r164 σ163 =>
  if r164 = (-1 : Int32) then
  (z_b2 (f_X9_set (0 : Int32) (21 : Int32) σ163) fun r168 σ167 =>
  if r168 = (-1 : Int32) then
  (z_b2 (f_X9_set (1 : Int32) (51 : Int32) σ167) fun r172 σ171 =>
  if r172 = (-1 : Int32) then
  (z_b2 (f_X9_set (0 : Int32) (0 : Int32) σ171) fun r176 σ175 =>
  if r176 = (-1 : Int32) then
  (z_b2 (f_X9_days (0 : Int32) σ175) fun r180 σ179 =>
  if r180 = (-1 : Int32) then
  (z_b2 (f_X9_days (32 : Int32) σ179) fun r184 σ183 =>
  if r184 = (-1 : Int32) then
  (j21 (1 : Int32) σ183)
  else
  (j124 σ183))
  else
  (j124 σ179))
  else
  (j124 σ175))
  else
  (j124 σ171))
  else
  (j124 σ167))
  else
  (j124 σ163))
  else
  (j124 σ159))
  else
  (j124 σ155))
  else
  (j124 σ151))
  else
  (j124 σ147))
  else
  (j124 σ143))
  else
  (j124 σ139))
  else
  (j124 σ135))
  else
  (j124 σ131))
  else
  (j124 σ127))) fun j18 =>
  z_let (fun (σ186 : z_S) => j18 (0 : Int32) σ186) fun j187 =>
  if r15 = (-1 : Int32) then
  (z_b2 (f_X9_corner (0 : Int32) (0 : Int32) (5 : Int32) (0 : Int32) σ14) fun r191 σ190 =>
  if r191 = (-1 : Int32) then
  (z_b2 (f_X9_corner (0 : Int32) (51 : Int32) (5 : Int32) (0 : Int32) σ190) fun r195 σ194 =>
  if r195 = (-1 : Int32) then
  (z_b2 (f_X9_corner (0 : Int32) (5 : Int32) (101 : Int32) (0 : Int32) σ194) fun r199 σ198 =>
  if r199 = (-1 : Int32) then
  (z_b2 (f_X9_corner (0 : Int32) (5 : Int32) (5 : Int32) (2 : Int32) σ198) fun r203 σ202 =>
  if r203 = (-1 : Int32) then
  (z_b2 (f_X9_house r6 (1 : Int32) (0 : Int32) σ202) fun r207 σ206 =>
  if r207 = (-1 : Int32) then
  (z_b2 (f_X9_house (0 : Int32) (0 : Int32) (0 : Int32) σ206) fun r211 σ210 =>
  if r211 = (-1 : Int32) then
  (z_b2 (f_X9_house (0 : Int32) (6 : Int32) (0 : Int32) σ210) fun r215 σ214 =>
  if r215 = (-1 : Int32) then
  (z_b2 (f_X9_house (0 : Int32) (1 : Int32) (501 : Int32) σ214) fun r219 σ218 =>
  if r219 = (-1 : Int32) then
  (z_b2 (f_X9_dog r8 (2 : Int32) (0 : Int32) σ218) fun r223 σ222 =>
  if r223 = (-1 : Int32) then
  (z_b2 (f_X9_dog (0 : Int32) (1 : Int32) (0 : Int32) σ222) fun r227 σ226 =>
  if r227 = (-1 : Int32) then
  (z_b2 (f_X9_dog (0 : Int32) (10 : Int32) (0 : Int32) σ226) fun r231 σ230 =>
  if r231 = (-1 : Int32) then
  (z_b2 (f_X9_dog (0 : Int32) (2 : Int32) (9 : Int32) σ230) fun r235 σ234 =>
  if r235 = (-1 : Int32) then
  (z_b2 (f_X9_pause r8 r12 r12 σ234) fun r239 σ238 =>
  if r239 = (-1 : Int32) then
  (z_b2 (f_X9_pause (0 : Int32) (r12 - (1 : Int32)) r12 σ238) fun r243 σ242 =>
  if r243 = (-1 : Int32) then
  (z_b2 (f_X9_pause (0 : Int32) (r12 + (1 : Int32)) r12 σ242) fun r247 σ246 =>
  if r247 = (-1 : Int32) then
  (z_b2 (f_X9_pause (0 : Int32) r12 (1000 : Int32) σ246) fun r251 σ250 =>
  if r251 = (-1 : Int32) then
  (j18 (1 : Int32) σ250)
  else
  (j187 σ250))
  else
  (j187 σ246))
  else
  (j187 σ242))
  else
  (j187 σ238))
  else
  (j187 σ234))
  else
  (j187 σ230))
  else
  (j187 σ226))
  else
  (j187 σ222))
  else
  (j187 σ218))
  else
  (j187 σ214))
  else
  (j187 σ210))
  else
  (j187 σ206))
  else
  (j187 σ202))
  else
  (j187 σ198))
  else
  (j187 σ194))
  else
  (j187 σ190))
  else
  (j187 σ14)
set_option maxRecDepth 100000 in
set_option maxHeartbeats 4000000 in
theorem c_X11_fails (σ : z_S) (r : Int32) (σz : z_S) (h : f_X11_fails σ = some (r, σz)) : zMet yX11_fails cX11_fails 9 (some .boolean) 8 180 layX 275 (fun ad => [.ref (ad 230)]) σ (z_QI layX 275 r σz) := by
  refine z_headI RX11 (by decide) rfl (fun _ => Nat.le_of_ble_eq_true rfl) (fun E G A ad hB hret => ?_)
  show ZW E G A 9 layX 275 ad 0 [(0, .ref (ad 230))] [] σ
  unfold f_X11_fails at h
  refine z_aload_n hB 0 dX11_fails_0 rfl rfl ?_
  obtain ⟨r2, h1, h⟩ := z_b1E h
  refine z_cL hB (z_rS (ι := fun k => k) hB yY_X11_mark (c_X11_mark _ _ h1) rfl cut_X z_hid rfl rfl rfl (Nat.le_of_ble_eq_true rfl) ml_X11_39 ⟨Nat.le_of_ble_eq_true rfl, Nat.le_of_ble_eq_true rfl⟩ dX11_fails_1) cut_X z_hid ?_
  refine z_toA (z_mro cut_X) ?_
  refine z_lstore_n hB [(1, .long r2), (0, .ref (ad 230))] dX11_fails_4 rfl (Nat.le_of_ble_eq_true rfl) rfl rfl ?_
  refine z_aload_n hB 1 dX11_fails_5 rfl rfl ?_
  refine z_bipush hB dX11_fails_6 zcB_9 ?_
  obtain ⟨r4, h3, h⟩ := z_b1E h
  refine z_cI hB (z_rV (ι := fun k => k) hB yY_X9_count (c_X9_count _ _ _ h3) rfl cut_X z_hid kX_230 (Nat.le_of_ble_eq_true rfl) vc_9 rfl rfl rfl (Nat.le_of_ble_eq_true rfl) ml_X11_11 ⟨Nat.le_of_ble_eq_true rfl, Nat.le_of_ble_eq_true rfl⟩ dX11_fails_8) cut_X z_hid ?_
  refine z_toA (z_mro cut_X) ?_
  refine z_istore_n hB [(3, .int r4), (1, .long r2), (0, .ref (ad 230))] dX11_fails_11 rfl (Nat.le_of_ble_eq_true rfl) rfl rfl ?_
  refine z_aload_n hB 2 dX11_fails_12 rfl rfl ?_
  refine z_iconst hB dX11_fails_13 zcI_0 ?_
  obtain ⟨r6, h5, h⟩ := z_b1E h
  refine z_cI hB (z_rV (ι := fun k => k) hB yY_X9_count (c_X9_count _ _ _ h5) rfl cut_X z_hid kX_230 (Nat.le_of_ble_eq_true rfl) vc_9 rfl rfl rfl (Nat.le_of_ble_eq_true rfl) ml_X11_11 ⟨Nat.le_of_ble_eq_true rfl, Nat.le_of_ble_eq_true rfl⟩ dX11_fails_14) cut_X z_hid ?_
  refine z_toA (z_mro cut_X) ?_
  refine z_istore hB [(4, .int r6), (3, .int r4), (1, .long r2), (0, .ref (ad 230))] dX11_fails_17 (Nat.le_of_ble_eq_true rfl) rfl rfl ?_
  refine z_aload_n hB 3 dX11_fails_19 rfl rfl ?_
  refine z_iconst hB dX11_fails_20 zcI_1 ?_
  obtain ⟨r8, h7, h⟩ := z_b1E h
  refine z_cI hB (z_rV (ι := fun k => k) hB yY_X9_count (c_X9_count _ _ _ h7) rfl cut_X z_hid kX_230 (Nat.le_of_ble_eq_true rfl) vc_9 rfl rfl rfl (Nat.le_of_ble_eq_true rfl) ml_X11_11 ⟨Nat.le_of_ble_eq_true rfl, Nat.le_of_ble_eq_true rfl⟩ dX11_fails_21) cut_X z_hid ?_
  refine z_toA (z_mro cut_X) ?_
  refine z_istore hB [(5, .int r8), (4, .int r6), (3, .int r4), (1, .long r2), (0, .ref (ad 230))] dX11_fails_24 (Nat.le_of_ble_eq_true rfl) rfl rfl ?_
  refine z_aload_n hB 4 dX11_fails_26 rfl rfl ?_
  refine z_iconst hB dX11_fails_27 zcI_2 ?_
  obtain ⟨r10, h9, h⟩ := z_b1E h
  refine z_cI hB (z_rV (ι := fun k => k) hB yY_X9_count (c_X9_count _ _ _ h9) rfl cut_X z_hid kX_230 (Nat.le_of_ble_eq_true rfl) vc_9 rfl rfl rfl (Nat.le_of_ble_eq_true rfl) ml_X11_11 ⟨Nat.le_of_ble_eq_true rfl, Nat.le_of_ble_eq_true rfl⟩ dX11_fails_28) cut_X z_hid ?_
  refine z_toA (z_mro cut_X) ?_
  refine z_istore hB [(6, .int r10), (5, .int r8), (4, .int r6), (3, .int r4), (1, .long r2), (0, .ref (ad 230))] dX11_fails_31 (Nat.le_of_ble_eq_true rfl) rfl rfl ?_
  refine z_aload_n hB 5 dX11_fails_33 rfl rfl ?_
  refine z_iconst hB dX11_fails_34 zcI_4 ?_
  obtain ⟨r12, h11, h⟩ := z_b1E h
  refine z_cI hB (z_rV (ι := fun k => k) hB yY_X9_count (c_X9_count _ _ _ h11) rfl cut_X z_hid kX_230 (Nat.le_of_ble_eq_true rfl) vc_9 rfl rfl rfl (Nat.le_of_ble_eq_true rfl) ml_X11_11 ⟨Nat.le_of_ble_eq_true rfl, Nat.le_of_ble_eq_true rfl⟩ dX11_fails_35) cut_X z_hid ?_
  refine z_toA (z_mro cut_X) ?_
  refine z_istore hB [(7, .int r12), (6, .int r10), (5, .int r8), (4, .int r6), (3, .int r4), (1, .long r2), (0, .ref (ad 230))] dX11_fails_38 (Nat.le_of_ble_eq_true rfl) rfl rfl ?_
  refine z_aload_n hB 6 dX11_fails_40 rfl rfl ?_
  refine z_iload hB 3 dX11_fails_41 rfl ?_
  refine z_iconst hB dX11_fails_43 zcI_5 ?_
  refine z_iconst hB dX11_fails_44 zcI_5 ?_
  refine z_iconst hB dX11_fails_45 zcI_0 ?_
  obtain ⟨r15, σ14, h13, h⟩ := z_b2E h
  refine z_cI hB (z_rV (ι := fun k => k) hB yY_X9_corner (c_X9_corner _ _ _ _ _ _ _ h13) rfl cut_X z_hid kX_230 (Nat.le_of_ble_eq_true rfl) vc_9 rfl rfl rfl (Nat.le_of_ble_eq_true rfl) ml_X11_45 ⟨Nat.le_of_ble_eq_true rfl, Nat.le_of_ble_eq_true rfl⟩ dX11_fails_46) cut_X z_hid ?_
  refine z_toA z_mid ?_
  refine z_iconst hB dX11_fails_49 zcI_m1 ?_
  obtain ⟨j18, ej18, h⟩ := z_letE h
  have hj18 : ∀ (y16 : Int32) (σ17 : z_S), j18 y16 σ17 = some (r, σz) → ZW E G A 9 layX 275 ad 261 [(0, .ref (ad 230)), (1, .long r2), (3, .int r4), (4, .int r6), (5, .int r8), (6, .int r10), (7, .int r12)] [.int y16] σ17 := by
    intro y16 σ17 h
    rw [ej18] at h
    refine z_istore hB [(8, .int y16), (0, .ref (ad 230)), (1, .long r2), (3, .int r4), (4, .int r6), (5, .int r8), (6, .int r10), (7, .int r12)] dX11_fails_261 (Nat.le_of_ble_eq_true rfl) rfl rfl ?_
    refine z_iload hB 0 dX11_fails_263 rfl ?_
    obtain ⟨j21, ej21, h⟩ := z_letE h
    have hj21 : ∀ (y19 : Int32) (σ20 : z_S), j21 y19 σ20 = some (r, σz) → ZW E G A 9 layX 275 ad 432 [(0, .ref (ad 230)), (1, .long r2), (3, .int r4), (4, .int r6), (5, .int r8), (6, .int r10), (7, .int r12)] [.int y19] σ20 := by
      intro y19 σ20 h
      rw [ej21] at h
      refine z_istore hB [(8, .int y19), (0, .ref (ad 230)), (1, .long r2), (3, .int r4), (4, .int r6), (5, .int r8), (6, .int r10), (7, .int r12)] dX11_fails_432 (Nat.le_of_ble_eq_true rfl) rfl rfl ?_
      refine z_iload hB 0 dX11_fails_434 rfl ?_
      obtain ⟨j24, ej24, h⟩ := z_letE h
      have hj24 : ∀ (y22 : Int32) (σ23 : z_S), j24 y22 σ23 = some (r, σz) → ZW E G A 9 layX 275 ad 733 [(0, .ref (ad 230)), (1, .long r2), (3, .int r4)] [.int y22] σ23 := by
        intro y22 σ23 h
        rw [ej24] at h
        refine z_istore hB [(8, .int y22), (0, .ref (ad 230)), (1, .long r2), (3, .int r4)] dX11_fails_733 (Nat.le_of_ble_eq_true rfl) rfl rfl ?_
        refine z_iload hB 0 dX11_fails_735 rfl ?_
        refine z_if_eq hB (tgt := 763) dX11_fails_737 (by decide) (fun c25 => ?_) (fun c25 => ?_)
        · have h := z_ifT c25 h
          refine z_iconst hB dX11_fails_763 zcI_0 ?_
          obtain ⟨h1, h2⟩ := z_prE h
          exact hret _ _ _ _ h1 h2 rfl dX11_fails_764
        · have h := z_ifF c25 h
          refine z_aload_n hB 1 dX11_fails_740 rfl rfl ?_
          obtain ⟨r27, h26, h⟩ := z_b1E h
          refine z_cL hB (z_rS (ι := fun k => k) hB yY_X11_mark (c_X11_mark _ _ h26) rfl cut_X z_hid rfl rfl rfl (Nat.le_of_ble_eq_true rfl) ml_X11_39 ⟨Nat.le_of_ble_eq_true rfl, Nat.le_of_ble_eq_true rfl⟩ dX11_fails_741) cut_X z_hid ?_
          refine z_toA (z_mro cut_X) ?_
          refine z_lload_n hB 2 dX11_fails_744 rfl rfl ?_
          refine z_lcmp hB dX11_fails_745 ?_
          refine z_if_ne hB (tgt := 763) dX11_fails_746 (by decide) (fun c28 => ?_) (fun c28 => ?_)
          · have h := z_ifF c28 h
            refine z_iconst hB dX11_fails_763 zcI_0 ?_
            obtain ⟨h1, h2⟩ := z_prE h
            exact hret _ _ _ _ h1 h2 rfl dX11_fails_764
          · have h := z_ifT c28 h
            refine z_aload_n hB 1 dX11_fails_749 rfl rfl ?_
            refine z_bipush hB dX11_fails_750 zcB_9 ?_
            obtain ⟨r30, h29, h⟩ := z_b1E h
            refine z_cI hB (z_rV (ι := fun k => k) hB yY_X9_count (c_X9_count _ _ _ h29) rfl cut_X z_hid kX_230 (Nat.le_of_ble_eq_true rfl) vc_9 rfl rfl rfl (Nat.le_of_ble_eq_true rfl) ml_X11_11 ⟨Nat.le_of_ble_eq_true rfl, Nat.le_of_ble_eq_true rfl⟩ dX11_fails_752) cut_X z_hid ?_
            refine z_toA (z_mro cut_X) ?_
            refine z_iload_n hB 3 dX11_fails_755 rfl rfl ?_
            refine z_icmp_ne hB (tgt := 763) dX11_fails_756 (by decide) (fun c31 => ?_) (fun c31 => ?_)
            · have h := z_ifF c31 h
              refine z_iconst hB dX11_fails_763 zcI_0 ?_
              obtain ⟨h1, h2⟩ := z_prE h
              exact hret _ _ _ _ h1 h2 rfl dX11_fails_764
            · have h := z_ifT c31 h
              refine z_iconst hB dX11_fails_759 zcI_1 ?_
              refine z_goto hB (tgt := 764) dX11_fails_760 (by decide) ?_
              obtain ⟨h1, h2⟩ := z_prE h
              exact hret _ _ _ _ h1 h2 rfl dX11_fails_764
      obtain ⟨j33, ej33, h⟩ := z_letE h
      have hj33 : ∀ (σ32 : z_S), j33 σ32 = some (r, σz) → ZW E G A 9 layX 275 ad 732 [(0, .ref (ad 230)), (1, .long r2), (3, .int r4)] [] σ32 := by
        intro σ32 h
        rw [ej33] at h
        refine z_iconst hB dX11_fails_732 zcI_0 ?_
        exact hj24 _ _ h
      refine z_if_eq hB (tgt := 732) dX11_fails_436 (by decide) (fun c34 => ?_) (fun c34 => ?_)
      · have h := z_ifT c34 h
        refine z_lv [1, 2, 3] rfl ?_
        exact hj33 _ h
      · have h := z_ifF c34 h
        refine z_aload_n hB 1 dX11_fails_439 rfl rfl ?_
        refine z_iload hB 4 dX11_fails_440 rfl ?_
        refine z_iconst hB dX11_fails_442 zcI_0 ?_
        obtain ⟨r36, h35, h⟩ := z_b1E h
        refine z_cI hB (z_rV (ι := fun k => k) hB yY_X9_cornerOf (c_X9_cornerOf _ _ _ _ h35) rfl cut_X z_hid kX_230 (Nat.le_of_ble_eq_true rfl) vc_9 rfl rfl rfl (Nat.le_of_ble_eq_true rfl) ml_X11_20 ⟨Nat.le_of_ble_eq_true rfl, Nat.le_of_ble_eq_true rfl⟩ dX11_fails_443) cut_X z_hid ?_
        refine z_toA (z_mro cut_X) ?_
        refine z_iconst hB dX11_fails_446 zcI_m1 ?_
        refine z_icmp_ne hB (tgt := 732) dX11_fails_447 (by decide) (fun c37 => ?_) (fun c37 => ?_)
        · have h := z_ifF c37 h
          refine z_lv [1, 2, 3] rfl ?_
          exact hj33 _ h
        · have h := z_ifT c37 h
          refine z_aload_n hB 1 dX11_fails_450 rfl rfl ?_
          refine z_iconst hB dX11_fails_451 zcI_0 ?_
          refine z_bipush hB dX11_fails_452 zcB_7 ?_
          obtain ⟨r39, h38, h⟩ := z_b1E h
          refine z_cI hB (z_rV (ι := fun k => k) hB yY_X9_cornerOf (c_X9_cornerOf _ _ _ _ h38) rfl cut_X z_hid kX_230 (Nat.le_of_ble_eq_true rfl) vc_9 rfl rfl rfl (Nat.le_of_ble_eq_true rfl) ml_X11_20 ⟨Nat.le_of_ble_eq_true rfl, Nat.le_of_ble_eq_true rfl⟩ dX11_fails_454) cut_X z_hid ?_
          refine z_toA (z_mro cut_X) ?_
          refine z_iconst hB dX11_fails_457 zcI_m1 ?_
          refine z_icmp_ne hB (tgt := 732) dX11_fails_458 (by decide) (fun c40 => ?_) (fun c40 => ?_)
          · have h := z_ifF c40 h
            refine z_lv [1, 2, 3] rfl ?_
            exact hj33 _ h
          · have h := z_ifT c40 h
            refine z_aload_n hB 1 dX11_fails_461 rfl rfl ?_
            refine z_iconst hB dX11_fails_462 zcI_0 ?_
            refine z_iconst hB dX11_fails_463 zcI_0 ?_
            obtain ⟨r42, h41, h⟩ := z_b1E h
            refine z_cI hB (z_rV (ι := fun k => k) hB yY_X9_cornerOf (c_X9_cornerOf _ _ _ _ h41) rfl cut_X z_hid kX_230 (Nat.le_of_ble_eq_true rfl) vc_9 rfl rfl rfl (Nat.le_of_ble_eq_true rfl) ml_X11_20 ⟨Nat.le_of_ble_eq_true rfl, Nat.le_of_ble_eq_true rfl⟩ dX11_fails_464) cut_X z_hid ?_
            refine z_toA (z_mro cut_X) ?_
            refine z_bipush hB dX11_fails_467 zcB_m4 ?_
            refine z_icmp_ne hB (tgt := 732) dX11_fails_469 (by decide) (fun c43 => ?_) (fun c43 => ?_)
            · have h := z_ifF c43 h
              refine z_lv [1, 2, 3] rfl ?_
              exact hj33 _ h
            · have h := z_ifT c43 h
              refine z_aload_n hB 1 dX11_fails_472 rfl rfl ?_
              refine z_iconst hB dX11_fails_473 zcI_0 ?_
              refine z_iconst hB dX11_fails_474 zcI_1 ?_
              obtain ⟨r45, h44, h⟩ := z_b1E h
              refine z_cI hB (z_rV (ι := fun k => k) hB yY_X9_cornerOf (c_X9_cornerOf _ _ _ _ h44) rfl cut_X z_hid kX_230 (Nat.le_of_ble_eq_true rfl) vc_9 rfl rfl rfl (Nat.le_of_ble_eq_true rfl) ml_X11_20 ⟨Nat.le_of_ble_eq_true rfl, Nat.le_of_ble_eq_true rfl⟩ dX11_fails_475) cut_X z_hid ?_
              refine z_toA (z_mro cut_X) ?_
              refine z_bipush hB dX11_fails_478 zcB_m4 ?_
              refine z_icmp_ne hB (tgt := 732) dX11_fails_480 (by decide) (fun c46 => ?_) (fun c46 => ?_)
              · have h := z_ifF c46 h
                refine z_lv [1, 2, 3] rfl ?_
                exact hj33 _ h
              · have h := z_ifT c46 h
                refine z_aload_n hB 1 dX11_fails_483 rfl rfl ?_
                refine z_iconst hB dX11_fails_484 zcI_0 ?_
                refine z_iconst hB dX11_fails_485 zcI_3 ?_
                obtain ⟨r48, h47, h⟩ := z_b1E h
                refine z_cI hB (z_rV (ι := fun k => k) hB yY_X9_cornerOf (c_X9_cornerOf _ _ _ _ h47) rfl cut_X z_hid kX_230 (Nat.le_of_ble_eq_true rfl) vc_9 rfl rfl rfl (Nat.le_of_ble_eq_true rfl) ml_X11_20 ⟨Nat.le_of_ble_eq_true rfl, Nat.le_of_ble_eq_true rfl⟩ dX11_fails_486) cut_X z_hid ?_
                refine z_toA (z_mro cut_X) ?_
                refine z_bipush hB dX11_fails_489 zcB_m4 ?_
                refine z_icmp_ne hB (tgt := 732) dX11_fails_491 (by decide) (fun c49 => ?_) (fun c49 => ?_)
                · have h := z_ifF c49 h
                  refine z_lv [1, 2, 3] rfl ?_
                  exact hj33 _ h
                · have h := z_ifT c49 h
                  refine z_aload_n hB 1 dX11_fails_494 rfl rfl ?_
                  refine z_iload hB 5 dX11_fails_495 rfl ?_
                  refine z_iconst hB dX11_fails_497 zcI_0 ?_
                  obtain ⟨r51, h50, h⟩ := z_b1E h
                  refine z_cI hB (z_rV (ι := fun k => k) hB yY_X9_houseOf (c_X9_houseOf _ _ _ _ h50) rfl cut_X z_hid kX_230 (Nat.le_of_ble_eq_true rfl) vc_9 rfl rfl rfl (Nat.le_of_ble_eq_true rfl) ml_X11_24 ⟨Nat.le_of_ble_eq_true rfl, Nat.le_of_ble_eq_true rfl⟩ dX11_fails_498) cut_X z_hid ?_
                  refine z_toA (z_mro cut_X) ?_
                  refine z_iconst hB dX11_fails_501 zcI_m1 ?_
                  refine z_icmp_ne hB (tgt := 732) dX11_fails_502 (by decide) (fun c52 => ?_) (fun c52 => ?_)
                  · have h := z_ifF c52 h
                    refine z_lv [1, 2, 3] rfl ?_
                    exact hj33 _ h
                  · have h := z_ifT c52 h
                    refine z_aload_n hB 1 dX11_fails_505 rfl rfl ?_
                    refine z_iconst hB dX11_fails_506 zcI_0 ?_
                    refine z_bipush hB dX11_fails_507 zcB_12 ?_
                    obtain ⟨r54, h53, h⟩ := z_b1E h
                    refine z_cI hB (z_rV (ι := fun k => k) hB yY_X9_houseOf (c_X9_houseOf _ _ _ _ h53) rfl cut_X z_hid kX_230 (Nat.le_of_ble_eq_true rfl) vc_9 rfl rfl rfl (Nat.le_of_ble_eq_true rfl) ml_X11_24 ⟨Nat.le_of_ble_eq_true rfl, Nat.le_of_ble_eq_true rfl⟩ dX11_fails_509) cut_X z_hid ?_
                    refine z_toA (z_mro cut_X) ?_
                    refine z_iconst hB dX11_fails_512 zcI_m1 ?_
                    refine z_icmp_ne hB (tgt := 732) dX11_fails_513 (by decide) (fun c55 => ?_) (fun c55 => ?_)
                    · have h := z_ifF c55 h
                      refine z_lv [1, 2, 3] rfl ?_
                      exact hj33 _ h
                    · have h := z_ifT c55 h
                      refine z_aload_n hB 1 dX11_fails_516 rfl rfl ?_
                      refine z_iload hB 5 dX11_fails_517 rfl ?_
                      obtain ⟨r57, h56, h⟩ := z_b1E h
                      refine z_cI hB (z_rV (ι := fun k => k) hB yY_X9_shareBits (c_X9_shareBits _ _ _ h56) rfl cut_X z_hid kX_230 (Nat.le_of_ble_eq_true rfl) vc_9 rfl rfl rfl (Nat.le_of_ble_eq_true rfl) ml_X11_27 ⟨Nat.le_of_ble_eq_true rfl, Nat.le_of_ble_eq_true rfl⟩ dX11_fails_519) cut_X z_hid ?_
                      refine z_toA (z_mro cut_X) ?_
                      refine z_iconst hB dX11_fails_522 zcI_m1 ?_
                      refine z_icmp_ne hB (tgt := 732) dX11_fails_523 (by decide) (fun c58 => ?_) (fun c58 => ?_)
                      · have h := z_ifF c58 h
                        refine z_lv [1, 2, 3] rfl ?_
                        exact hj33 _ h
                      · have h := z_ifT c58 h
                        refine z_aload_n hB 1 dX11_fails_526 rfl rfl ?_
                        refine z_iload hB 6 dX11_fails_527 rfl ?_
                        refine z_iconst hB dX11_fails_529 zcI_0 ?_
                        obtain ⟨r60, h59, h⟩ := z_b1E h
                        refine z_cI hB (z_rV (ι := fun k => k) hB yY_X9_carrierOf (c_X9_carrierOf _ _ _ _ h59) rfl cut_X z_hid kX_230 (Nat.le_of_ble_eq_true rfl) vc_9 rfl rfl rfl (Nat.le_of_ble_eq_true rfl) ml_X11_33 ⟨Nat.le_of_ble_eq_true rfl, Nat.le_of_ble_eq_true rfl⟩ dX11_fails_530) cut_X z_hid ?_
                        refine z_toA (z_mro cut_X) ?_
                        refine z_iconst hB dX11_fails_533 zcI_m1 ?_
                        refine z_icmp_ne hB (tgt := 732) dX11_fails_534 (by decide) (fun c61 => ?_) (fun c61 => ?_)
                        · have h := z_ifF c61 h
                          refine z_lv [1, 2, 3] rfl ?_
                          exact hj33 _ h
                        · have h := z_ifT c61 h
                          refine z_aload_n hB 1 dX11_fails_537 rfl rfl ?_
                          refine z_iconst hB dX11_fails_538 zcI_0 ?_
                          refine z_bipush hB dX11_fails_539 zcB_8 ?_
                          obtain ⟨r63, h62, h⟩ := z_b1E h
                          refine z_cI hB (z_rV (ι := fun k => k) hB yY_X9_carrierOf (c_X9_carrierOf _ _ _ _ h62) rfl cut_X z_hid kX_230 (Nat.le_of_ble_eq_true rfl) vc_9 rfl rfl rfl (Nat.le_of_ble_eq_true rfl) ml_X11_33 ⟨Nat.le_of_ble_eq_true rfl, Nat.le_of_ble_eq_true rfl⟩ dX11_fails_541) cut_X z_hid ?_
                          refine z_toA (z_mro cut_X) ?_
                          refine z_iconst hB dX11_fails_544 zcI_m1 ?_
                          refine z_icmp_ne hB (tgt := 732) dX11_fails_545 (by decide) (fun c64 => ?_) (fun c64 => ?_)
                          · have h := z_ifF c64 h
                            refine z_lv [1, 2, 3] rfl ?_
                            exact hj33 _ h
                          · have h := z_ifT c64 h
                            refine z_aload_n hB 1 dX11_fails_548 rfl rfl ?_
                            refine z_aload_n hB 1 dX11_fails_549 rfl rfl ?_
                            refine z_iconst hB dX11_fails_550 zcI_3 ?_
                            obtain ⟨r66, h65, h⟩ := z_b1E h
                            refine z_cI hB (z_rV (ι := fun k => k) hB yY_X9_count (c_X9_count _ _ _ h65) rfl cut_X z_hid kX_230 (Nat.le_of_ble_eq_true rfl) vc_9 rfl rfl rfl (Nat.le_of_ble_eq_true rfl) ml_X11_11 ⟨Nat.le_of_ble_eq_true rfl, Nat.le_of_ble_eq_true rfl⟩ dX11_fails_551) cut_X z_hid ?_
                            refine z_toA (z_mro cut_X) ?_
                            refine z_iconst hB dX11_fails_554 zcI_0 ?_
                            obtain ⟨r68, h67, h⟩ := z_b1E h
                            refine z_cI hB (z_rV (ι := fun k => k) hB yY_X9_pauseOf (c_X9_pauseOf _ _ _ _ h67) rfl cut_X z_hid kX_230 (Nat.le_of_ble_eq_true rfl) vc_9 rfl rfl rfl (Nat.le_of_ble_eq_true rfl) ml_X11_36 ⟨Nat.le_of_ble_eq_true rfl, Nat.le_of_ble_eq_true rfl⟩ dX11_fails_555) cut_X z_hid ?_
                            refine z_toA (z_mro cut_X) ?_
                            refine z_iconst hB dX11_fails_558 zcI_m1 ?_
                            refine z_icmp_ne hB (tgt := 732) dX11_fails_559 (by decide) (fun c69 => ?_) (fun c69 => ?_)
                            · have h := z_ifF c69 h
                              refine z_lv [1, 2, 3] rfl ?_
                              exact hj33 _ h
                            · have h := z_ifT c69 h
                              refine z_aload_n hB 1 dX11_fails_562 rfl rfl ?_
                              refine z_iconst hB dX11_fails_563 zcI_0 ?_
                              refine z_iconst hB dX11_fails_564 zcI_3 ?_
                              obtain ⟨r71, h70, h⟩ := z_b1E h
                              refine z_cI hB (z_rV (ι := fun k => k) hB yY_X9_pauseOf (c_X9_pauseOf _ _ _ _ h70) rfl cut_X z_hid kX_230 (Nat.le_of_ble_eq_true rfl) vc_9 rfl rfl rfl (Nat.le_of_ble_eq_true rfl) ml_X11_36 ⟨Nat.le_of_ble_eq_true rfl, Nat.le_of_ble_eq_true rfl⟩ dX11_fails_565) cut_X z_hid ?_
                              refine z_toA (z_mro cut_X) ?_
                              refine z_iconst hB dX11_fails_568 zcI_m1 ?_
                              refine z_icmp_ne hB (tgt := 732) dX11_fails_569 (by decide) (fun c72 => ?_) (fun c72 => ?_)
                              · have h := z_ifF c72 h
                                refine z_lv [1, 2, 3] rfl ?_
                                exact hj33 _ h
                              · have h := z_ifT c72 h
                                refine z_aload_n hB 1 dX11_fails_572 rfl rfl ?_
                                refine z_iload hB 6 dX11_fails_573 rfl ?_
                                refine z_iconst hB dX11_fails_575 zcI_0 ?_
                                obtain ⟨r74, h73, h⟩ := z_b1E h
                                refine z_cI hB (z_rV (ι := fun k => k) hB yY_X9_roundAt (c_X9_roundAt _ _ _ _ h73) rfl cut_X z_hid kX_230 (Nat.le_of_ble_eq_true rfl) vc_9 rfl rfl rfl (Nat.le_of_ble_eq_true rfl) ml_X11_77 ⟨Nat.le_of_ble_eq_true rfl, Nat.le_of_ble_eq_true rfl⟩ dX11_fails_576) cut_X z_hid ?_
                                refine z_toA (z_mro cut_X) ?_
                                refine z_iconst hB dX11_fails_579 zcI_m1 ?_
                                refine z_icmp_ne hB (tgt := 732) dX11_fails_580 (by decide) (fun c75 => ?_) (fun c75 => ?_)
                                · have h := z_ifF c75 h
                                  refine z_lv [1, 2, 3] rfl ?_
                                  exact hj33 _ h
                                · have h := z_ifT c75 h
                                  refine z_aload_n hB 1 dX11_fails_583 rfl rfl ?_
                                  refine z_iconst hB dX11_fails_584 zcI_0 ?_
                                  refine z_iconst hB dX11_fails_585 zcI_m1 ?_
                                  obtain ⟨r77, h76, h⟩ := z_b1E h
                                  refine z_cI hB (z_rV (ι := fun k => k) hB yY_X9_roundAt (c_X9_roundAt _ _ _ _ h76) rfl cut_X z_hid kX_230 (Nat.le_of_ble_eq_true rfl) vc_9 rfl rfl rfl (Nat.le_of_ble_eq_true rfl) ml_X11_77 ⟨Nat.le_of_ble_eq_true rfl, Nat.le_of_ble_eq_true rfl⟩ dX11_fails_586) cut_X z_hid ?_
                                  refine z_toA (z_mro cut_X) ?_
                                  refine z_iconst hB dX11_fails_589 zcI_m1 ?_
                                  refine z_icmp_ne hB (tgt := 732) dX11_fails_590 (by decide) (fun c78 => ?_) (fun c78 => ?_)
                                  · have h := z_ifF c78 h
                                    refine z_lv [1, 2, 3] rfl ?_
                                    exact hj33 _ h
                                  · have h := z_ifT c78 h
                                    refine z_aload_n hB 1 dX11_fails_593 rfl rfl ?_
                                    refine z_iload hB 6 dX11_fails_594 rfl ?_
                                    refine z_iload hB 7 dX11_fails_596 rfl ?_
                                    refine z_iconst hB dX11_fails_598 zcI_0 ?_
                                    obtain ⟨r81, σ80, h79, h⟩ := z_b2E h
                                    refine z_cI hB (z_rV (ι := fun k => k) hB yY_X9_round (c_X9_round _ _ _ _ _ _ h79) rfl cut_X z_hid kX_230 (Nat.le_of_ble_eq_true rfl) vc_9 rfl rfl rfl (Nat.le_of_ble_eq_true rfl) ml_X11_80 ⟨Nat.le_of_ble_eq_true rfl, Nat.le_of_ble_eq_true rfl⟩ dX11_fails_599) cut_X z_hid ?_
                                    refine z_toA z_mid ?_
                                    refine z_iconst hB dX11_fails_602 zcI_m1 ?_
                                    refine z_icmp_ne hB (tgt := 732) dX11_fails_603 (by decide) (fun c82 => ?_) (fun c82 => ?_)
                                    · have h := z_ifF c82 h
                                      refine z_lv [1, 2, 3] rfl ?_
                                      exact hj33 _ h
                                    · have h := z_ifT c82 h
                                      refine z_aload_n hB 1 dX11_fails_606 rfl rfl ?_
                                      refine z_iconst hB dX11_fails_607 zcI_0 ?_
                                      refine z_iload hB 7 dX11_fails_608 rfl ?_
                                      refine z_iconst hB dX11_fails_610 zcI_1 ?_
                                      refine z_isub hB dX11_fails_611 ?_
                                      refine z_iconst hB dX11_fails_612 zcI_0 ?_
                                      obtain ⟨r85, σ84, h83, h⟩ := z_b2E h
                                      refine z_cI hB (z_rV (ι := fun k => k) hB yY_X9_round (c_X9_round _ _ _ _ _ _ h83) rfl cut_X z_hid kX_230 (Nat.le_of_ble_eq_true rfl) vc_9 rfl rfl rfl (Nat.le_of_ble_eq_true rfl) ml_X11_80 ⟨Nat.le_of_ble_eq_true rfl, Nat.le_of_ble_eq_true rfl⟩ dX11_fails_613) cut_X z_hid ?_
                                      refine z_toA z_mid ?_
                                      refine z_iconst hB dX11_fails_616 zcI_m1 ?_
                                      refine z_icmp_ne hB (tgt := 732) dX11_fails_617 (by decide) (fun c86 => ?_) (fun c86 => ?_)
                                      · have h := z_ifF c86 h
                                        refine z_lv [1, 2, 3] rfl ?_
                                        exact hj33 _ h
                                      · have h := z_ifT c86 h
                                        refine z_aload_n hB 1 dX11_fails_620 rfl rfl ?_
                                        refine z_iconst hB dX11_fails_621 zcI_0 ?_
                                        refine z_sipush hB dX11_fails_622 zcS_1000 ?_
                                        refine z_iconst hB dX11_fails_625 zcI_0 ?_
                                        obtain ⟨r89, σ88, h87, h⟩ := z_b2E h
                                        refine z_cI hB (z_rV (ι := fun k => k) hB yY_X9_round (c_X9_round _ _ _ _ _ _ h87) rfl cut_X z_hid kX_230 (Nat.le_of_ble_eq_true rfl) vc_9 rfl rfl rfl (Nat.le_of_ble_eq_true rfl) ml_X11_80 ⟨Nat.le_of_ble_eq_true rfl, Nat.le_of_ble_eq_true rfl⟩ dX11_fails_626) cut_X z_hid ?_
                                        refine z_toA z_mid ?_
                                        refine z_iconst hB dX11_fails_629 zcI_m1 ?_
                                        refine z_icmp_ne hB (tgt := 732) dX11_fails_630 (by decide) (fun c90 => ?_) (fun c90 => ?_)
                                        · have h := z_ifF c90 h
                                          refine z_lv [1, 2, 3] rfl ?_
                                          exact hj33 _ h
                                        · have h := z_ifT c90 h
                                          refine z_aload_n hB 1 dX11_fails_633 rfl rfl ?_
                                          refine z_iconst hB dX11_fails_634 zcI_0 ?_
                                          refine z_iload hB 7 dX11_fails_635 rfl ?_
                                          refine z_iconst hB dX11_fails_637 zcI_4 ?_
                                          obtain ⟨r93, σ92, h91, h⟩ := z_b2E h
                                          refine z_cI hB (z_rV (ι := fun k => k) hB yY_X9_round (c_X9_round _ _ _ _ _ _ h91) rfl cut_X z_hid kX_230 (Nat.le_of_ble_eq_true rfl) vc_9 rfl rfl rfl (Nat.le_of_ble_eq_true rfl) ml_X11_80 ⟨Nat.le_of_ble_eq_true rfl, Nat.le_of_ble_eq_true rfl⟩ dX11_fails_638) cut_X z_hid ?_
                                          refine z_toA z_mid ?_
                                          refine z_iconst hB dX11_fails_641 zcI_m1 ?_
                                          refine z_icmp_ne hB (tgt := 732) dX11_fails_642 (by decide) (fun c94 => ?_) (fun c94 => ?_)
                                          · have h := z_ifF c94 h
                                            refine z_lv [1, 2, 3] rfl ?_
                                            exact hj33 _ h
                                          · have h := z_ifT c94 h
                                            refine z_aload_n hB 1 dX11_fails_645 rfl rfl ?_
                                            refine z_iload hB 5 dX11_fails_646 rfl ?_
                                            refine z_iload hB 7 dX11_fails_648 rfl ?_
                                            obtain ⟨r97, σ96, h95, h⟩ := z_b2E h
                                            refine z_cI hB (z_rV (ι := fun k => k) hB yY_X9_lightest (c_X9_lightest _ _ _ _ _ h95) rfl cut_X z_hid kX_230 (Nat.le_of_ble_eq_true rfl) vc_9 rfl rfl rfl (Nat.le_of_ble_eq_true rfl) ml_X11_83 ⟨Nat.le_of_ble_eq_true rfl, Nat.le_of_ble_eq_true rfl⟩ dX11_fails_650) cut_X z_hid ?_
                                            refine z_toA z_mid ?_
                                            refine z_iconst hB dX11_fails_653 zcI_m1 ?_
                                            refine z_icmp_ne hB (tgt := 732) dX11_fails_654 (by decide) (fun c98 => ?_) (fun c98 => ?_)
                                            · have h := z_ifF c98 h
                                              refine z_lv [1, 2, 3] rfl ?_
                                              exact hj33 _ h
                                            · have h := z_ifT c98 h
                                              refine z_aload_n hB 1 dX11_fails_657 rfl rfl ?_
                                              refine z_iconst hB dX11_fails_658 zcI_0 ?_
                                              refine z_sipush hB dX11_fails_659 zcS_1000 ?_
                                              obtain ⟨r101, σ100, h99, h⟩ := z_b2E h
                                              refine z_cI hB (z_rV (ι := fun k => k) hB yY_X9_lightest (c_X9_lightest _ _ _ _ _ h99) rfl cut_X z_hid kX_230 (Nat.le_of_ble_eq_true rfl) vc_9 rfl rfl rfl (Nat.le_of_ble_eq_true rfl) ml_X11_83 ⟨Nat.le_of_ble_eq_true rfl, Nat.le_of_ble_eq_true rfl⟩ dX11_fails_662) cut_X z_hid ?_
                                              refine z_toA z_mid ?_
                                              refine z_iconst hB dX11_fails_665 zcI_m1 ?_
                                              refine z_icmp_ne hB (tgt := 732) dX11_fails_666 (by decide) (fun c102 => ?_) (fun c102 => ?_)
                                              · have h := z_ifF c102 h
                                                refine z_lv [1, 2, 3] rfl ?_
                                                exact hj33 _ h
                                              · have h := z_ifT c102 h
                                                refine z_aload_n hB 1 dX11_fails_669 rfl rfl ?_
                                                refine z_iload hB 5 dX11_fails_670 rfl ?_
                                                obtain ⟨r104, h103, h⟩ := z_b1E h
                                                refine z_cI hB (z_rV (ι := fun k => k) hB yY_X9_nextDog (c_X9_nextDog _ _ _ h103) rfl cut_X z_hid kX_230 (Nat.le_of_ble_eq_true rfl) vc_9 rfl rfl rfl (Nat.le_of_ble_eq_true rfl) ml_X11_30 ⟨Nat.le_of_ble_eq_true rfl, Nat.le_of_ble_eq_true rfl⟩ dX11_fails_672) cut_X z_hid ?_
                                                refine z_toA (z_mro cut_X) ?_
                                                refine z_iconst hB dX11_fails_675 zcI_m1 ?_
                                                refine z_icmp_ne hB (tgt := 732) dX11_fails_676 (by decide) (fun c105 => ?_) (fun c105 => ?_)
                                                · have h := z_ifF c105 h
                                                  refine z_lv [1, 2, 3] rfl ?_
                                                  exact hj33 _ h
                                                · have h := z_ifT c105 h
                                                  refine z_aload_n hB 1 dX11_fails_679 rfl rfl ?_
                                                  refine z_bipush hB dX11_fails_680 zcB_6 ?_
                                                  obtain ⟨r107, h106, h⟩ := z_b1E h
                                                  refine z_cI hB (z_rV (ι := fun k => k) hB yY_X9_account (c_X9_account _ _ _ h106) rfl cut_X z_hid kX_230 (Nat.le_of_ble_eq_true rfl) vc_9 rfl rfl rfl (Nat.le_of_ble_eq_true rfl) ml_X11_17 ⟨Nat.le_of_ble_eq_true rfl, Nat.le_of_ble_eq_true rfl⟩ dX11_fails_682) cut_X z_hid ?_
                                                  refine z_toA (z_mro cut_X) ?_
                                                  refine z_iconst hB dX11_fails_685 zcI_m1 ?_
                                                  refine z_icmp_ne hB (tgt := 732) dX11_fails_686 (by decide) (fun c108 => ?_) (fun c108 => ?_)
                                                  · have h := z_ifF c108 h
                                                    refine z_lv [1, 2, 3] rfl ?_
                                                    exact hj33 _ h
                                                  · have h := z_ifT c108 h
                                                    refine z_aload_n hB 1 dX11_fails_689 rfl rfl ?_
                                                    refine z_bipush hB dX11_fails_690 zcB_11 ?_
                                                    obtain ⟨r110, h109, h⟩ := z_b1E h
                                                    refine z_cI hB (z_rV (ι := fun k => k) hB yY_X9_count (c_X9_count _ _ _ h109) rfl cut_X z_hid kX_230 (Nat.le_of_ble_eq_true rfl) vc_9 rfl rfl rfl (Nat.le_of_ble_eq_true rfl) ml_X11_11 ⟨Nat.le_of_ble_eq_true rfl, Nat.le_of_ble_eq_true rfl⟩ dX11_fails_692) cut_X z_hid ?_
                                                    refine z_toA (z_mro cut_X) ?_
                                                    refine z_iconst hB dX11_fails_695 zcI_m1 ?_
                                                    refine z_icmp_ne hB (tgt := 732) dX11_fails_696 (by decide) (fun c111 => ?_) (fun c111 => ?_)
                                                    · have h := z_ifF c111 h
                                                      refine z_lv [1, 2, 3] rfl ?_
                                                      exact hj33 _ h
                                                    · have h := z_ifT c111 h
                                                      refine z_aload_n hB 1 dX11_fails_699 rfl rfl ?_
                                                      refine z_bipush hB dX11_fails_700 zcB_22 ?_
                                                      obtain ⟨r113, h112, h⟩ := z_b1E h
                                                      refine z_cI hB (z_rV (ι := fun k => k) hB yY_X9_count (c_X9_count _ _ _ h112) rfl cut_X z_hid kX_230 (Nat.le_of_ble_eq_true rfl) vc_9 rfl rfl rfl (Nat.le_of_ble_eq_true rfl) ml_X11_11 ⟨Nat.le_of_ble_eq_true rfl, Nat.le_of_ble_eq_true rfl⟩ dX11_fails_702) cut_X z_hid ?_
                                                      refine z_toA (z_mro cut_X) ?_
                                                      refine z_iconst hB dX11_fails_705 zcI_m1 ?_
                                                      refine z_icmp_ne hB (tgt := 732) dX11_fails_706 (by decide) (fun c114 => ?_) (fun c114 => ?_)
                                                      · have h := z_ifF c114 h
                                                        refine z_lv [1, 2, 3] rfl ?_
                                                        exact hj33 _ h
                                                      · have h := z_ifT c114 h
                                                        refine z_aload_n hB 1 dX11_fails_709 rfl rfl ?_
                                                        refine z_bipush hB dX11_fails_710 zcB_31 ?_
                                                        obtain ⟨r117, σ116, h115, h⟩ := z_b2E h
                                                        refine z_cI hB (z_rV (ι := fun k => k) hB yY_X9_type (c_X9_type _ _ _ _ h115) rfl cut_X z_hid kX_230 (Nat.le_of_ble_eq_true rfl) vc_9 rfl rfl rfl (Nat.le_of_ble_eq_true rfl) ml_X11_86 ⟨Nat.le_of_ble_eq_true rfl, Nat.le_of_ble_eq_true rfl⟩ dX11_fails_712) cut_X z_hid ?_
                                                        refine z_toA z_mid ?_
                                                        refine z_iconst hB dX11_fails_715 zcI_m1 ?_
                                                        refine z_icmp_ne hB (tgt := 732) dX11_fails_716 (by decide) (fun c118 => ?_) (fun c118 => ?_)
                                                        · have h := z_ifF c118 h
                                                          refine z_lv [1, 2, 3] rfl ?_
                                                          exact hj33 _ h
                                                        · have h := z_ifT c118 h
                                                          refine z_aload_n hB 1 dX11_fails_719 rfl rfl ?_
                                                          refine z_iconst hB dX11_fails_720 zcI_3 ?_
                                                          obtain ⟨r121, σ120, h119, h⟩ := z_b2E h
                                                          refine z_cI hB (z_rV (ι := fun k => k) hB yY_X9_fault (c_X9_fault _ _ _ _ h119) rfl cut_X z_hid kX_230 (Nat.le_of_ble_eq_true rfl) vc_9 rfl rfl rfl (Nat.le_of_ble_eq_true rfl) ml_X11_89 ⟨Nat.le_of_ble_eq_true rfl, Nat.le_of_ble_eq_true rfl⟩ dX11_fails_721) cut_X z_hid ?_
                                                          refine z_toA z_mid ?_
                                                          refine z_iconst hB dX11_fails_724 zcI_m1 ?_
                                                          refine z_icmp_ne hB (tgt := 732) dX11_fails_725 (by decide) (fun c122 => ?_) (fun c122 => ?_)
                                                          · have h := z_ifF c122 h
                                                            refine z_lv [1, 2, 3] rfl ?_
                                                            exact hj33 _ h
                                                          · have h := z_ifT c122 h
                                                            refine z_iconst hB dX11_fails_728 zcI_1 ?_
                                                            refine z_goto hB (tgt := 733) dX11_fails_729 (by decide) ?_
                                                            refine z_lv [1, 2, 3] rfl ?_
                                                            exact hj24 _ _ h
    obtain ⟨j124, ej124, h⟩ := z_letE h
    have hj124 : ∀ (σ123 : z_S), j124 σ123 = some (r, σz) → ZW E G A 9 layX 275 ad 431 [(0, .ref (ad 230)), (1, .long r2), (3, .int r4), (4, .int r6), (5, .int r8), (6, .int r10), (7, .int r12)] [] σ123 := by
      intro σ123 h
      rw [ej124] at h
      refine z_iconst hB dX11_fails_431 zcI_0 ?_
      exact hj21 _ _ h
    refine z_if_eq hB (tgt := 431) dX11_fails_265 (by decide) (fun c125 => ?_) (fun c125 => ?_)
    · have h := z_ifT c125 h
      refine z_lv [1, 2, 3, 4, 5, 6, 7] rfl ?_
      exact hj124 _ h
    · have h := z_ifF c125 h
      refine z_aload_n hB 1 dX11_fails_268 rfl rfl ?_
      refine z_iconst hB dX11_fails_269 zcI_2 ?_
      refine z_bipush hB dX11_fails_270 zcB_50 ?_
      obtain ⟨r128, σ127, h126, h⟩ := z_b2E h
      refine z_cI hB (z_rV (ι := fun k => k) hB yY_X9_carrier (c_X9_carrier _ _ _ _ _ h126) rfl cut_X z_hid kX_230 (Nat.le_of_ble_eq_true rfl) vc_9 rfl rfl rfl (Nat.le_of_ble_eq_true rfl) ml_X11_59 ⟨Nat.le_of_ble_eq_true rfl, Nat.le_of_ble_eq_true rfl⟩ dX11_fails_272) cut_X z_hid ?_
      refine z_toA z_mid ?_
      refine z_iconst hB dX11_fails_275 zcI_m1 ?_
      refine z_icmp_ne hB (tgt := 431) dX11_fails_276 (by decide) (fun c129 => ?_) (fun c129 => ?_)
      · have h := z_ifF c129 h
        refine z_lv [1, 2, 3, 4, 5, 6, 7] rfl ?_
        exact hj124 _ h
      · have h := z_ifT c129 h
        refine z_aload_n hB 1 dX11_fails_279 rfl rfl ?_
        refine z_iconst hB dX11_fails_280 zcI_0 ?_
        refine z_bipush hB dX11_fails_281 zcB_9 ?_
        obtain ⟨r132, σ131, h130, h⟩ := z_b2E h
        refine z_cI hB (z_rV (ι := fun k => k) hB yY_X9_carrier (c_X9_carrier _ _ _ _ _ h130) rfl cut_X z_hid kX_230 (Nat.le_of_ble_eq_true rfl) vc_9 rfl rfl rfl (Nat.le_of_ble_eq_true rfl) ml_X11_59 ⟨Nat.le_of_ble_eq_true rfl, Nat.le_of_ble_eq_true rfl⟩ dX11_fails_283) cut_X z_hid ?_
        refine z_toA z_mid ?_
        refine z_iconst hB dX11_fails_286 zcI_m1 ?_
        refine z_icmp_ne hB (tgt := 431) dX11_fails_287 (by decide) (fun c133 => ?_) (fun c133 => ?_)
        · have h := z_ifF c133 h
          refine z_lv [1, 2, 3, 4, 5, 6, 7] rfl ?_
          exact hj124 _ h
        · have h := z_ifT c133 h
          refine z_aload_n hB 1 dX11_fails_290 rfl rfl ?_
          refine z_iconst hB dX11_fails_291 zcI_0 ?_
          refine z_sipush hB dX11_fails_292 zcS_501 ?_
          obtain ⟨r136, σ135, h134, h⟩ := z_b2E h
          refine z_cI hB (z_rV (ι := fun k => k) hB yY_X9_carrier (c_X9_carrier _ _ _ _ _ h134) rfl cut_X z_hid kX_230 (Nat.le_of_ble_eq_true rfl) vc_9 rfl rfl rfl (Nat.le_of_ble_eq_true rfl) ml_X11_59 ⟨Nat.le_of_ble_eq_true rfl, Nat.le_of_ble_eq_true rfl⟩ dX11_fails_295) cut_X z_hid ?_
          refine z_toA z_mid ?_
          refine z_iconst hB dX11_fails_298 zcI_m1 ?_
          refine z_icmp_ne hB (tgt := 431) dX11_fails_299 (by decide) (fun c137 => ?_) (fun c137 => ?_)
          · have h := z_ifF c137 h
            refine z_lv [1, 2, 3, 4, 5, 6, 7] rfl ?_
            exact hj124 _ h
          · have h := z_ifT c137 h
            refine z_aload_n hB 1 dX11_fails_302 rfl rfl ?_
            refine z_iload hB 5 dX11_fails_303 rfl ?_
            refine z_iconst hB dX11_fails_305 zcI_0 ?_
            obtain ⟨r140, σ139, h138, h⟩ := z_b2E h
            refine z_cI hB (z_rV (ι := fun k => k) hB yY_X9_give (c_X9_give _ _ _ _ _ h138) rfl cut_X z_hid kX_230 (Nat.le_of_ble_eq_true rfl) vc_9 rfl rfl rfl (Nat.le_of_ble_eq_true rfl) ml_X11_62 ⟨Nat.le_of_ble_eq_true rfl, Nat.le_of_ble_eq_true rfl⟩ dX11_fails_306) cut_X z_hid ?_
            refine z_toA z_mid ?_
            refine z_iconst hB dX11_fails_309 zcI_m1 ?_
            refine z_icmp_ne hB (tgt := 431) dX11_fails_310 (by decide) (fun c141 => ?_) (fun c141 => ?_)
            · have h := z_ifF c141 h
              refine z_lv [1, 2, 3, 4, 5, 6, 7] rfl ?_
              exact hj124 _ h
            · have h := z_ifT c141 h
              refine z_aload_n hB 1 dX11_fails_313 rfl rfl ?_
              refine z_iconst hB dX11_fails_314 zcI_0 ?_
              refine z_iload hB 6 dX11_fails_315 rfl ?_
              obtain ⟨r144, σ143, h142, h⟩ := z_b2E h
              refine z_cI hB (z_rV (ι := fun k => k) hB yY_X9_give (c_X9_give _ _ _ _ _ h142) rfl cut_X z_hid kX_230 (Nat.le_of_ble_eq_true rfl) vc_9 rfl rfl rfl (Nat.le_of_ble_eq_true rfl) ml_X11_62 ⟨Nat.le_of_ble_eq_true rfl, Nat.le_of_ble_eq_true rfl⟩ dX11_fails_317) cut_X z_hid ?_
              refine z_toA z_mid ?_
              refine z_iconst hB dX11_fails_320 zcI_m1 ?_
              refine z_icmp_ne hB (tgt := 431) dX11_fails_321 (by decide) (fun c145 => ?_) (fun c145 => ?_)
              · have h := z_ifF c145 h
                refine z_lv [1, 2, 3, 4, 5, 6, 7] rfl ?_
                exact hj124 _ h
              · have h := z_ifT c145 h
                refine z_aload_n hB 1 dX11_fails_324 rfl rfl ?_
                refine z_iload hB 5 dX11_fails_325 rfl ?_
                obtain ⟨r148, σ147, h146, h⟩ := z_b2E h
                refine z_cI hB (z_rV (ι := fun k => k) hB yY_X9_giveNone (c_X9_giveNone _ _ _ _ h146) rfl cut_X z_hid kX_230 (Nat.le_of_ble_eq_true rfl) vc_9 rfl rfl rfl (Nat.le_of_ble_eq_true rfl) ml_X11_65 ⟨Nat.le_of_ble_eq_true rfl, Nat.le_of_ble_eq_true rfl⟩ dX11_fails_327) cut_X z_hid ?_
                refine z_toA z_mid ?_
                refine z_iconst hB dX11_fails_330 zcI_m1 ?_
                refine z_icmp_ne hB (tgt := 431) dX11_fails_331 (by decide) (fun c149 => ?_) (fun c149 => ?_)
                · have h := z_ifF c149 h
                  refine z_lv [1, 2, 3, 4, 5, 6, 7] rfl ?_
                  exact hj124 _ h
                · have h := z_ifT c149 h
                  refine z_aload_n hB 1 dX11_fails_334 rfl rfl ?_
                  refine z_iload hB 6 dX11_fails_335 rfl ?_
                  refine z_iconst hB dX11_fails_337 zcI_1 ?_
                  obtain ⟨r152, σ151, h150, h⟩ := z_b2E h
                  refine z_cI hB (z_rV (ι := fun k => k) hB yY_X9_biscuits (c_X9_biscuits _ _ _ _ _ h150) rfl cut_X z_hid kX_230 (Nat.le_of_ble_eq_true rfl) vc_9 rfl rfl rfl (Nat.le_of_ble_eq_true rfl) ml_X11_68 ⟨Nat.le_of_ble_eq_true rfl, Nat.le_of_ble_eq_true rfl⟩ dX11_fails_338) cut_X z_hid ?_
                  refine z_toA z_mid ?_
                  refine z_iconst hB dX11_fails_341 zcI_m1 ?_
                  refine z_icmp_ne hB (tgt := 431) dX11_fails_342 (by decide) (fun c153 => ?_) (fun c153 => ?_)
                  · have h := z_ifF c153 h
                    refine z_lv [1, 2, 3, 4, 5, 6, 7] rfl ?_
                    exact hj124 _ h
                  · have h := z_ifT c153 h
                    refine z_aload_n hB 1 dX11_fails_345 rfl rfl ?_
                    refine z_iconst hB dX11_fails_346 zcI_0 ?_
                    refine z_iconst hB dX11_fails_347 zcI_0 ?_
                    obtain ⟨r156, σ155, h154, h⟩ := z_b2E h
                    refine z_cI hB (z_rV (ι := fun k => k) hB yY_X9_biscuits (c_X9_biscuits _ _ _ _ _ h154) rfl cut_X z_hid kX_230 (Nat.le_of_ble_eq_true rfl) vc_9 rfl rfl rfl (Nat.le_of_ble_eq_true rfl) ml_X11_68 ⟨Nat.le_of_ble_eq_true rfl, Nat.le_of_ble_eq_true rfl⟩ dX11_fails_348) cut_X z_hid ?_
                    refine z_toA z_mid ?_
                    refine z_iconst hB dX11_fails_351 zcI_m1 ?_
                    refine z_icmp_ne hB (tgt := 431) dX11_fails_352 (by decide) (fun c157 => ?_) (fun c157 => ?_)
                    · have h := z_ifF c157 h
                      refine z_lv [1, 2, 3, 4, 5, 6, 7] rfl ?_
                      exact hj124 _ h
                    · have h := z_ifT c157 h
                      refine z_aload_n hB 1 dX11_fails_355 rfl rfl ?_
                      refine z_iconst hB dX11_fails_356 zcI_0 ?_
                      refine z_bipush hB dX11_fails_357 zcB_100 ?_
                      obtain ⟨r160, σ159, h158, h⟩ := z_b2E h
                      refine z_cI hB (z_rV (ι := fun k => k) hB yY_X9_biscuits (c_X9_biscuits _ _ _ _ _ h158) rfl cut_X z_hid kX_230 (Nat.le_of_ble_eq_true rfl) vc_9 rfl rfl rfl (Nat.le_of_ble_eq_true rfl) ml_X11_68 ⟨Nat.le_of_ble_eq_true rfl, Nat.le_of_ble_eq_true rfl⟩ dX11_fails_359) cut_X z_hid ?_
                      refine z_toA z_mid ?_
                      refine z_iconst hB dX11_fails_362 zcI_m1 ?_
                      refine z_icmp_ne hB (tgt := 431) dX11_fails_363 (by decide) (fun c161 => ?_) (fun c161 => ?_)
                      · have h := z_ifF c161 h
                        refine z_lv [1, 2, 3, 4, 5, 6, 7] rfl ?_
                        exact hj124 _ h
                      · have h := z_ifT c161 h
                        refine z_aload_n hB 1 dX11_fails_366 rfl rfl ?_
                        refine z_iconst hB dX11_fails_367 zcI_2 ?_
                        refine z_iconst hB dX11_fails_368 zcI_1 ?_
                        obtain ⟨r164, σ163, h162, h⟩ := z_b2E h
                        refine z_cI hB (z_rV (ι := fun k => k) hB yY_X9_set (c_X9_set _ _ _ _ _ h162) rfl cut_X z_hid kX_230 (Nat.le_of_ble_eq_true rfl) vc_9 rfl rfl rfl (Nat.le_of_ble_eq_true rfl) ml_X11_71 ⟨Nat.le_of_ble_eq_true rfl, Nat.le_of_ble_eq_true rfl⟩ dX11_fails_369) cut_X z_hid ?_
                        refine z_toA z_mid ?_
                        refine z_iconst hB dX11_fails_372 zcI_m1 ?_
                        refine z_icmp_ne hB (tgt := 431) dX11_fails_373 (by decide) (fun c165 => ?_) (fun c165 => ?_)
                        · have h := z_ifF c165 h
                          refine z_lv [1, 2, 3, 4, 5, 6, 7] rfl ?_
                          exact hj124 _ h
                        · have h := z_ifT c165 h
                          refine z_aload_n hB 1 dX11_fails_376 rfl rfl ?_
                          refine z_iconst hB dX11_fails_377 zcI_0 ?_
                          refine z_bipush hB dX11_fails_378 zcB_21 ?_
                          obtain ⟨r168, σ167, h166, h⟩ := z_b2E h
                          refine z_cI hB (z_rV (ι := fun k => k) hB yY_X9_set (c_X9_set _ _ _ _ _ h166) rfl cut_X z_hid kX_230 (Nat.le_of_ble_eq_true rfl) vc_9 rfl rfl rfl (Nat.le_of_ble_eq_true rfl) ml_X11_71 ⟨Nat.le_of_ble_eq_true rfl, Nat.le_of_ble_eq_true rfl⟩ dX11_fails_380) cut_X z_hid ?_
                          refine z_toA z_mid ?_
                          refine z_iconst hB dX11_fails_383 zcI_m1 ?_
                          refine z_icmp_ne hB (tgt := 431) dX11_fails_384 (by decide) (fun c169 => ?_) (fun c169 => ?_)
                          · have h := z_ifF c169 h
                            refine z_lv [1, 2, 3, 4, 5, 6, 7] rfl ?_
                            exact hj124 _ h
                          · have h := z_ifT c169 h
                            refine z_aload_n hB 1 dX11_fails_387 rfl rfl ?_
                            refine z_iconst hB dX11_fails_388 zcI_1 ?_
                            refine z_bipush hB dX11_fails_389 zcB_51 ?_
                            obtain ⟨r172, σ171, h170, h⟩ := z_b2E h
                            refine z_cI hB (z_rV (ι := fun k => k) hB yY_X9_set (c_X9_set _ _ _ _ _ h170) rfl cut_X z_hid kX_230 (Nat.le_of_ble_eq_true rfl) vc_9 rfl rfl rfl (Nat.le_of_ble_eq_true rfl) ml_X11_71 ⟨Nat.le_of_ble_eq_true rfl, Nat.le_of_ble_eq_true rfl⟩ dX11_fails_391) cut_X z_hid ?_
                            refine z_toA z_mid ?_
                            refine z_iconst hB dX11_fails_394 zcI_m1 ?_
                            refine z_icmp_ne hB (tgt := 431) dX11_fails_395 (by decide) (fun c173 => ?_) (fun c173 => ?_)
                            · have h := z_ifF c173 h
                              refine z_lv [1, 2, 3, 4, 5, 6, 7] rfl ?_
                              exact hj124 _ h
                            · have h := z_ifT c173 h
                              refine z_aload_n hB 1 dX11_fails_398 rfl rfl ?_
                              refine z_iconst hB dX11_fails_399 zcI_0 ?_
                              refine z_iconst hB dX11_fails_400 zcI_0 ?_
                              obtain ⟨r176, σ175, h174, h⟩ := z_b2E h
                              refine z_cI hB (z_rV (ι := fun k => k) hB yY_X9_set (c_X9_set _ _ _ _ _ h174) rfl cut_X z_hid kX_230 (Nat.le_of_ble_eq_true rfl) vc_9 rfl rfl rfl (Nat.le_of_ble_eq_true rfl) ml_X11_71 ⟨Nat.le_of_ble_eq_true rfl, Nat.le_of_ble_eq_true rfl⟩ dX11_fails_401) cut_X z_hid ?_
                              refine z_toA z_mid ?_
                              refine z_iconst hB dX11_fails_404 zcI_m1 ?_
                              refine z_icmp_ne hB (tgt := 431) dX11_fails_405 (by decide) (fun c177 => ?_) (fun c177 => ?_)
                              · have h := z_ifF c177 h
                                refine z_lv [1, 2, 3, 4, 5, 6, 7] rfl ?_
                                exact hj124 _ h
                              · have h := z_ifT c177 h
                                refine z_aload_n hB 1 dX11_fails_408 rfl rfl ?_
                                refine z_iconst hB dX11_fails_409 zcI_0 ?_
                                obtain ⟨r180, σ179, h178, h⟩ := z_b2E h
                                refine z_cI hB (z_rV (ι := fun k => k) hB yY_X9_days (c_X9_days _ _ _ _ h178) rfl cut_X z_hid kX_230 (Nat.le_of_ble_eq_true rfl) vc_9 rfl rfl rfl (Nat.le_of_ble_eq_true rfl) ml_X11_74 ⟨Nat.le_of_ble_eq_true rfl, Nat.le_of_ble_eq_true rfl⟩ dX11_fails_410) cut_X z_hid ?_
                                refine z_toA z_mid ?_
                                refine z_iconst hB dX11_fails_413 zcI_m1 ?_
                                refine z_icmp_ne hB (tgt := 431) dX11_fails_414 (by decide) (fun c181 => ?_) (fun c181 => ?_)
                                · have h := z_ifF c181 h
                                  refine z_lv [1, 2, 3, 4, 5, 6, 7] rfl ?_
                                  exact hj124 _ h
                                · have h := z_ifT c181 h
                                  refine z_aload_n hB 1 dX11_fails_417 rfl rfl ?_
                                  refine z_bipush hB dX11_fails_418 zcB_32 ?_
                                  obtain ⟨r184, σ183, h182, h⟩ := z_b2E h
                                  refine z_cI hB (z_rV (ι := fun k => k) hB yY_X9_days (c_X9_days _ _ _ _ h182) rfl cut_X z_hid kX_230 (Nat.le_of_ble_eq_true rfl) vc_9 rfl rfl rfl (Nat.le_of_ble_eq_true rfl) ml_X11_74 ⟨Nat.le_of_ble_eq_true rfl, Nat.le_of_ble_eq_true rfl⟩ dX11_fails_420) cut_X z_hid ?_
                                  refine z_toA z_mid ?_
                                  refine z_iconst hB dX11_fails_423 zcI_m1 ?_
                                  refine z_icmp_ne hB (tgt := 431) dX11_fails_424 (by decide) (fun c185 => ?_) (fun c185 => ?_)
                                  · have h := z_ifF c185 h
                                    refine z_lv [1, 2, 3, 4, 5, 6, 7] rfl ?_
                                    exact hj124 _ h
                                  · have h := z_ifT c185 h
                                    refine z_iconst hB dX11_fails_427 zcI_1 ?_
                                    refine z_goto hB (tgt := 432) dX11_fails_428 (by decide) ?_
                                    refine z_lv [1, 2, 3, 4, 5, 6, 7] rfl ?_
                                    exact hj21 _ _ h
  obtain ⟨j187, ej187, h⟩ := z_letE h
  have hj187 : ∀ (σ186 : z_S), j187 σ186 = some (r, σz) → ZW E G A 9 layX 275 ad 260 [(0, .ref (ad 230)), (1, .long r2), (3, .int r4), (4, .int r6), (5, .int r8), (6, .int r10), (7, .int r12)] [] σ186 := by
    intro σ186 h
    rw [ej187] at h
    refine z_iconst hB dX11_fails_260 zcI_0 ?_
    exact hj18 _ _ h
  refine z_icmp_ne hB (tgt := 260) dX11_fails_50 (by decide) (fun c188 => ?_) (fun c188 => ?_)
  · have h := z_ifF c188 h
    refine z_lv [6, 5, 4, 3, 2, 1, 0] rfl ?_
    exact hj187 _ h
  · have h := z_ifT c188 h
    refine z_aload_n hB 6 dX11_fails_53 rfl rfl ?_
    refine z_iconst hB dX11_fails_54 zcI_0 ?_
    refine z_iconst hB dX11_fails_55 zcI_0 ?_
    refine z_iconst hB dX11_fails_56 zcI_5 ?_
    refine z_iconst hB dX11_fails_57 zcI_0 ?_
    obtain ⟨r191, σ190, h189, h⟩ := z_b2E h
    refine z_cI hB (z_rV (ι := fun k => k) hB yY_X9_corner (c_X9_corner _ _ _ _ _ _ _ h189) rfl cut_X z_hid kX_230 (Nat.le_of_ble_eq_true rfl) vc_9 rfl rfl rfl (Nat.le_of_ble_eq_true rfl) ml_X11_45 ⟨Nat.le_of_ble_eq_true rfl, Nat.le_of_ble_eq_true rfl⟩ dX11_fails_58) cut_X z_hid ?_
    refine z_toA z_mid ?_
    refine z_iconst hB dX11_fails_61 zcI_m1 ?_
    refine z_icmp_ne hB (tgt := 260) dX11_fails_62 (by decide) (fun c192 => ?_) (fun c192 => ?_)
    · have h := z_ifF c192 h
      refine z_lv [6, 5, 4, 3, 2, 1, 0] rfl ?_
      exact hj187 _ h
    · have h := z_ifT c192 h
      refine z_aload_n hB 6 dX11_fails_65 rfl rfl ?_
      refine z_iconst hB dX11_fails_66 zcI_0 ?_
      refine z_bipush hB dX11_fails_67 zcB_51 ?_
      refine z_iconst hB dX11_fails_69 zcI_5 ?_
      refine z_iconst hB dX11_fails_70 zcI_0 ?_
      obtain ⟨r195, σ194, h193, h⟩ := z_b2E h
      refine z_cI hB (z_rV (ι := fun k => k) hB yY_X9_corner (c_X9_corner _ _ _ _ _ _ _ h193) rfl cut_X z_hid kX_230 (Nat.le_of_ble_eq_true rfl) vc_9 rfl rfl rfl (Nat.le_of_ble_eq_true rfl) ml_X11_45 ⟨Nat.le_of_ble_eq_true rfl, Nat.le_of_ble_eq_true rfl⟩ dX11_fails_71) cut_X z_hid ?_
      refine z_toA z_mid ?_
      refine z_iconst hB dX11_fails_74 zcI_m1 ?_
      refine z_icmp_ne hB (tgt := 260) dX11_fails_75 (by decide) (fun c196 => ?_) (fun c196 => ?_)
      · have h := z_ifF c196 h
        refine z_lv [6, 5, 4, 3, 2, 1, 0] rfl ?_
        exact hj187 _ h
      · have h := z_ifT c196 h
        refine z_aload_n hB 6 dX11_fails_78 rfl rfl ?_
        refine z_iconst hB dX11_fails_79 zcI_0 ?_
        refine z_iconst hB dX11_fails_80 zcI_5 ?_
        refine z_bipush hB dX11_fails_81 zcB_101 ?_
        refine z_iconst hB dX11_fails_83 zcI_0 ?_
        obtain ⟨r199, σ198, h197, h⟩ := z_b2E h
        refine z_cI hB (z_rV (ι := fun k => k) hB yY_X9_corner (c_X9_corner _ _ _ _ _ _ _ h197) rfl cut_X z_hid kX_230 (Nat.le_of_ble_eq_true rfl) vc_9 rfl rfl rfl (Nat.le_of_ble_eq_true rfl) ml_X11_45 ⟨Nat.le_of_ble_eq_true rfl, Nat.le_of_ble_eq_true rfl⟩ dX11_fails_84) cut_X z_hid ?_
        refine z_toA z_mid ?_
        refine z_iconst hB dX11_fails_87 zcI_m1 ?_
        refine z_icmp_ne hB (tgt := 260) dX11_fails_88 (by decide) (fun c200 => ?_) (fun c200 => ?_)
        · have h := z_ifF c200 h
          refine z_lv [6, 5, 4, 3, 2, 1, 0] rfl ?_
          exact hj187 _ h
        · have h := z_ifT c200 h
          refine z_aload_n hB 6 dX11_fails_91 rfl rfl ?_
          refine z_iconst hB dX11_fails_92 zcI_0 ?_
          refine z_iconst hB dX11_fails_93 zcI_5 ?_
          refine z_iconst hB dX11_fails_94 zcI_5 ?_
          refine z_iconst hB dX11_fails_95 zcI_2 ?_
          obtain ⟨r203, σ202, h201, h⟩ := z_b2E h
          refine z_cI hB (z_rV (ι := fun k => k) hB yY_X9_corner (c_X9_corner _ _ _ _ _ _ _ h201) rfl cut_X z_hid kX_230 (Nat.le_of_ble_eq_true rfl) vc_9 rfl rfl rfl (Nat.le_of_ble_eq_true rfl) ml_X11_45 ⟨Nat.le_of_ble_eq_true rfl, Nat.le_of_ble_eq_true rfl⟩ dX11_fails_96) cut_X z_hid ?_
          refine z_toA z_mid ?_
          refine z_iconst hB dX11_fails_99 zcI_m1 ?_
          refine z_icmp_ne hB (tgt := 260) dX11_fails_100 (by decide) (fun c204 => ?_) (fun c204 => ?_)
          · have h := z_ifF c204 h
            refine z_lv [6, 5, 4, 3, 2, 1, 0] rfl ?_
            exact hj187 _ h
          · have h := z_ifT c204 h
            refine z_aload_n hB 6 dX11_fails_103 rfl rfl ?_
            refine z_iload hB 3 dX11_fails_104 rfl ?_
            refine z_iconst hB dX11_fails_106 zcI_1 ?_
            refine z_iconst hB dX11_fails_107 zcI_0 ?_
            obtain ⟨r207, σ206, h205, h⟩ := z_b2E h
            refine z_cI hB (z_rV (ι := fun k => k) hB yY_X9_house (c_X9_house _ _ _ _ _ _ h205) rfl cut_X z_hid kX_230 (Nat.le_of_ble_eq_true rfl) vc_9 rfl rfl rfl (Nat.le_of_ble_eq_true rfl) ml_X11_49 ⟨Nat.le_of_ble_eq_true rfl, Nat.le_of_ble_eq_true rfl⟩ dX11_fails_108) cut_X z_hid ?_
            refine z_toA z_mid ?_
            refine z_iconst hB dX11_fails_111 zcI_m1 ?_
            refine z_icmp_ne hB (tgt := 260) dX11_fails_112 (by decide) (fun c208 => ?_) (fun c208 => ?_)
            · have h := z_ifF c208 h
              refine z_lv [6, 5, 4, 3, 2, 1, 0] rfl ?_
              exact hj187 _ h
            · have h := z_ifT c208 h
              refine z_aload_n hB 6 dX11_fails_115 rfl rfl ?_
              refine z_iconst hB dX11_fails_116 zcI_0 ?_
              refine z_iconst hB dX11_fails_117 zcI_0 ?_
              refine z_iconst hB dX11_fails_118 zcI_0 ?_
              obtain ⟨r211, σ210, h209, h⟩ := z_b2E h
              refine z_cI hB (z_rV (ι := fun k => k) hB yY_X9_house (c_X9_house _ _ _ _ _ _ h209) rfl cut_X z_hid kX_230 (Nat.le_of_ble_eq_true rfl) vc_9 rfl rfl rfl (Nat.le_of_ble_eq_true rfl) ml_X11_49 ⟨Nat.le_of_ble_eq_true rfl, Nat.le_of_ble_eq_true rfl⟩ dX11_fails_119) cut_X z_hid ?_
              refine z_toA z_mid ?_
              refine z_iconst hB dX11_fails_122 zcI_m1 ?_
              refine z_icmp_ne hB (tgt := 260) dX11_fails_123 (by decide) (fun c212 => ?_) (fun c212 => ?_)
              · have h := z_ifF c212 h
                refine z_lv [6, 5, 4, 3, 2, 1, 0] rfl ?_
                exact hj187 _ h
              · have h := z_ifT c212 h
                refine z_aload_n hB 6 dX11_fails_126 rfl rfl ?_
                refine z_iconst hB dX11_fails_127 zcI_0 ?_
                refine z_bipush hB dX11_fails_128 zcB_6 ?_
                refine z_iconst hB dX11_fails_130 zcI_0 ?_
                obtain ⟨r215, σ214, h213, h⟩ := z_b2E h
                refine z_cI hB (z_rV (ι := fun k => k) hB yY_X9_house (c_X9_house _ _ _ _ _ _ h213) rfl cut_X z_hid kX_230 (Nat.le_of_ble_eq_true rfl) vc_9 rfl rfl rfl (Nat.le_of_ble_eq_true rfl) ml_X11_49 ⟨Nat.le_of_ble_eq_true rfl, Nat.le_of_ble_eq_true rfl⟩ dX11_fails_131) cut_X z_hid ?_
                refine z_toA z_mid ?_
                refine z_iconst hB dX11_fails_134 zcI_m1 ?_
                refine z_icmp_ne hB (tgt := 260) dX11_fails_135 (by decide) (fun c216 => ?_) (fun c216 => ?_)
                · have h := z_ifF c216 h
                  refine z_lv [6, 5, 4, 3, 2, 1, 0] rfl ?_
                  exact hj187 _ h
                · have h := z_ifT c216 h
                  refine z_aload_n hB 6 dX11_fails_138 rfl rfl ?_
                  refine z_iconst hB dX11_fails_139 zcI_0 ?_
                  refine z_iconst hB dX11_fails_140 zcI_1 ?_
                  refine z_sipush hB dX11_fails_141 zcS_501 ?_
                  obtain ⟨r219, σ218, h217, h⟩ := z_b2E h
                  refine z_cI hB (z_rV (ι := fun k => k) hB yY_X9_house (c_X9_house _ _ _ _ _ _ h217) rfl cut_X z_hid kX_230 (Nat.le_of_ble_eq_true rfl) vc_9 rfl rfl rfl (Nat.le_of_ble_eq_true rfl) ml_X11_49 ⟨Nat.le_of_ble_eq_true rfl, Nat.le_of_ble_eq_true rfl⟩ dX11_fails_144) cut_X z_hid ?_
                  refine z_toA z_mid ?_
                  refine z_iconst hB dX11_fails_147 zcI_m1 ?_
                  refine z_icmp_ne hB (tgt := 260) dX11_fails_148 (by decide) (fun c220 => ?_) (fun c220 => ?_)
                  · have h := z_ifF c220 h
                    refine z_lv [6, 5, 4, 3, 2, 1, 0] rfl ?_
                    exact hj187 _ h
                  · have h := z_ifT c220 h
                    refine z_aload_n hB 6 dX11_fails_151 rfl rfl ?_
                    refine z_iload hB 2 dX11_fails_152 rfl ?_
                    refine z_iconst hB dX11_fails_154 zcI_2 ?_
                    refine z_iconst hB dX11_fails_155 zcI_0 ?_
                    obtain ⟨r223, σ222, h221, h⟩ := z_b2E h
                    refine z_cI hB (z_rV (ι := fun k => k) hB yY_X9_dog (c_X9_dog _ _ _ _ _ _ h221) rfl cut_X z_hid kX_230 (Nat.le_of_ble_eq_true rfl) vc_9 rfl rfl rfl (Nat.le_of_ble_eq_true rfl) ml_X11_53 ⟨Nat.le_of_ble_eq_true rfl, Nat.le_of_ble_eq_true rfl⟩ dX11_fails_156) cut_X z_hid ?_
                    refine z_toA z_mid ?_
                    refine z_iconst hB dX11_fails_159 zcI_m1 ?_
                    refine z_icmp_ne hB (tgt := 260) dX11_fails_160 (by decide) (fun c224 => ?_) (fun c224 => ?_)
                    · have h := z_ifF c224 h
                      refine z_lv [6, 5, 4, 3, 2, 1, 0] rfl ?_
                      exact hj187 _ h
                    · have h := z_ifT c224 h
                      refine z_aload_n hB 6 dX11_fails_163 rfl rfl ?_
                      refine z_iconst hB dX11_fails_164 zcI_0 ?_
                      refine z_iconst hB dX11_fails_165 zcI_1 ?_
                      refine z_iconst hB dX11_fails_166 zcI_0 ?_
                      obtain ⟨r227, σ226, h225, h⟩ := z_b2E h
                      refine z_cI hB (z_rV (ι := fun k => k) hB yY_X9_dog (c_X9_dog _ _ _ _ _ _ h225) rfl cut_X z_hid kX_230 (Nat.le_of_ble_eq_true rfl) vc_9 rfl rfl rfl (Nat.le_of_ble_eq_true rfl) ml_X11_53 ⟨Nat.le_of_ble_eq_true rfl, Nat.le_of_ble_eq_true rfl⟩ dX11_fails_167) cut_X z_hid ?_
                      refine z_toA z_mid ?_
                      refine z_iconst hB dX11_fails_170 zcI_m1 ?_
                      refine z_icmp_ne hB (tgt := 260) dX11_fails_171 (by decide) (fun c228 => ?_) (fun c228 => ?_)
                      · have h := z_ifF c228 h
                        refine z_lv [6, 5, 4, 3, 2, 1, 0] rfl ?_
                        exact hj187 _ h
                      · have h := z_ifT c228 h
                        refine z_aload_n hB 6 dX11_fails_174 rfl rfl ?_
                        refine z_iconst hB dX11_fails_175 zcI_0 ?_
                        refine z_bipush hB dX11_fails_176 zcB_10 ?_
                        refine z_iconst hB dX11_fails_178 zcI_0 ?_
                        obtain ⟨r231, σ230, h229, h⟩ := z_b2E h
                        refine z_cI hB (z_rV (ι := fun k => k) hB yY_X9_dog (c_X9_dog _ _ _ _ _ _ h229) rfl cut_X z_hid kX_230 (Nat.le_of_ble_eq_true rfl) vc_9 rfl rfl rfl (Nat.le_of_ble_eq_true rfl) ml_X11_53 ⟨Nat.le_of_ble_eq_true rfl, Nat.le_of_ble_eq_true rfl⟩ dX11_fails_179) cut_X z_hid ?_
                        refine z_toA z_mid ?_
                        refine z_iconst hB dX11_fails_182 zcI_m1 ?_
                        refine z_icmp_ne hB (tgt := 260) dX11_fails_183 (by decide) (fun c232 => ?_) (fun c232 => ?_)
                        · have h := z_ifF c232 h
                          refine z_lv [6, 5, 4, 3, 2, 1, 0] rfl ?_
                          exact hj187 _ h
                        · have h := z_ifT c232 h
                          refine z_aload_n hB 6 dX11_fails_186 rfl rfl ?_
                          refine z_iconst hB dX11_fails_187 zcI_0 ?_
                          refine z_iconst hB dX11_fails_188 zcI_2 ?_
                          refine z_bipush hB dX11_fails_189 zcB_9 ?_
                          obtain ⟨r235, σ234, h233, h⟩ := z_b2E h
                          refine z_cI hB (z_rV (ι := fun k => k) hB yY_X9_dog (c_X9_dog _ _ _ _ _ _ h233) rfl cut_X z_hid kX_230 (Nat.le_of_ble_eq_true rfl) vc_9 rfl rfl rfl (Nat.le_of_ble_eq_true rfl) ml_X11_53 ⟨Nat.le_of_ble_eq_true rfl, Nat.le_of_ble_eq_true rfl⟩ dX11_fails_191) cut_X z_hid ?_
                          refine z_toA z_mid ?_
                          refine z_iconst hB dX11_fails_194 zcI_m1 ?_
                          refine z_icmp_ne hB (tgt := 260) dX11_fails_195 (by decide) (fun c236 => ?_) (fun c236 => ?_)
                          · have h := z_ifF c236 h
                            refine z_lv [6, 5, 4, 3, 2, 1, 0] rfl ?_
                            exact hj187 _ h
                          · have h := z_ifT c236 h
                            refine z_aload_n hB 6 dX11_fails_198 rfl rfl ?_
                            refine z_iload hB 2 dX11_fails_199 rfl ?_
                            refine z_iload hB 0 dX11_fails_201 rfl ?_
                            refine z_iload hB 0 dX11_fails_203 rfl ?_
                            obtain ⟨r239, σ238, h237, h⟩ := z_b2E h
                            refine z_cI hB (z_rV (ι := fun k => k) hB yY_X9_pause (c_X9_pause _ _ _ _ _ _ h237) rfl cut_X z_hid kX_230 (Nat.le_of_ble_eq_true rfl) vc_9 rfl rfl rfl (Nat.le_of_ble_eq_true rfl) ml_X11_56 ⟨Nat.le_of_ble_eq_true rfl, Nat.le_of_ble_eq_true rfl⟩ dX11_fails_205) cut_X z_hid ?_
                            refine z_toA z_mid ?_
                            refine z_iconst hB dX11_fails_208 zcI_m1 ?_
                            refine z_icmp_ne hB (tgt := 260) dX11_fails_209 (by decide) (fun c240 => ?_) (fun c240 => ?_)
                            · have h := z_ifF c240 h
                              refine z_lv [6, 5, 4, 3, 2, 1, 0] rfl ?_
                              exact hj187 _ h
                            · have h := z_ifT c240 h
                              refine z_aload_n hB 6 dX11_fails_212 rfl rfl ?_
                              refine z_iconst hB dX11_fails_213 zcI_0 ?_
                              refine z_iload hB 0 dX11_fails_214 rfl ?_
                              refine z_iconst hB dX11_fails_216 zcI_1 ?_
                              refine z_isub hB dX11_fails_217 ?_
                              refine z_iload hB 0 dX11_fails_218 rfl ?_
                              obtain ⟨r243, σ242, h241, h⟩ := z_b2E h
                              refine z_cI hB (z_rV (ι := fun k => k) hB yY_X9_pause (c_X9_pause _ _ _ _ _ _ h241) rfl cut_X z_hid kX_230 (Nat.le_of_ble_eq_true rfl) vc_9 rfl rfl rfl (Nat.le_of_ble_eq_true rfl) ml_X11_56 ⟨Nat.le_of_ble_eq_true rfl, Nat.le_of_ble_eq_true rfl⟩ dX11_fails_220) cut_X z_hid ?_
                              refine z_toA z_mid ?_
                              refine z_iconst hB dX11_fails_223 zcI_m1 ?_
                              refine z_icmp_ne hB (tgt := 260) dX11_fails_224 (by decide) (fun c244 => ?_) (fun c244 => ?_)
                              · have h := z_ifF c244 h
                                refine z_lv [6, 5, 4, 3, 2, 1, 0] rfl ?_
                                exact hj187 _ h
                              · have h := z_ifT c244 h
                                refine z_aload_n hB 6 dX11_fails_227 rfl rfl ?_
                                refine z_iconst hB dX11_fails_228 zcI_0 ?_
                                refine z_iload hB 0 dX11_fails_229 rfl ?_
                                refine z_iconst hB dX11_fails_231 zcI_1 ?_
                                refine z_iadd hB dX11_fails_232 ?_
                                refine z_iload hB 0 dX11_fails_233 rfl ?_
                                obtain ⟨r247, σ246, h245, h⟩ := z_b2E h
                                refine z_cI hB (z_rV (ι := fun k => k) hB yY_X9_pause (c_X9_pause _ _ _ _ _ _ h245) rfl cut_X z_hid kX_230 (Nat.le_of_ble_eq_true rfl) vc_9 rfl rfl rfl (Nat.le_of_ble_eq_true rfl) ml_X11_56 ⟨Nat.le_of_ble_eq_true rfl, Nat.le_of_ble_eq_true rfl⟩ dX11_fails_235) cut_X z_hid ?_
                                refine z_toA z_mid ?_
                                refine z_iconst hB dX11_fails_238 zcI_m1 ?_
                                refine z_icmp_ne hB (tgt := 260) dX11_fails_239 (by decide) (fun c248 => ?_) (fun c248 => ?_)
                                · have h := z_ifF c248 h
                                  refine z_lv [6, 5, 4, 3, 2, 1, 0] rfl ?_
                                  exact hj187 _ h
                                · have h := z_ifT c248 h
                                  refine z_aload_n hB 6 dX11_fails_242 rfl rfl ?_
                                  refine z_iconst hB dX11_fails_243 zcI_0 ?_
                                  refine z_iload hB 0 dX11_fails_244 rfl ?_
                                  refine z_sipush hB dX11_fails_246 zcS_1000 ?_
                                  obtain ⟨r251, σ250, h249, h⟩ := z_b2E h
                                  refine z_cI hB (z_rV (ι := fun k => k) hB yY_X9_pause (c_X9_pause _ _ _ _ _ _ h249) rfl cut_X z_hid kX_230 (Nat.le_of_ble_eq_true rfl) vc_9 rfl rfl rfl (Nat.le_of_ble_eq_true rfl) ml_X11_56 ⟨Nat.le_of_ble_eq_true rfl, Nat.le_of_ble_eq_true rfl⟩ dX11_fails_249) cut_X z_hid ?_
                                  refine z_toA z_mid ?_
                                  refine z_iconst hB dX11_fails_252 zcI_m1 ?_
                                  refine z_icmp_ne hB (tgt := 260) dX11_fails_253 (by decide) (fun c252 => ?_) (fun c252 => ?_)
                                  · have h := z_ifF c252 h
                                    refine z_lv [6, 5, 4, 3, 2, 1, 0] rfl ?_
                                    exact hj187 _ h
                                  · have h := z_ifT c252 h
                                    refine z_iconst hB dX11_fails_256 zcI_1 ?_
                                    refine z_goto hB (tgt := 261) dX11_fails_257 (by decide) ?_
                                    refine z_lv [6, 5, 4, 3, 2, 1, 0] rfl ?_
                                    exact hj18 _ _ h
