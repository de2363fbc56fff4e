def f_X11_act (p1 : Int32) (σ : z_S) : Option (Int32 × z_S) :=
  z_b1 (f_X9_count (1 : Int32) σ) fun r2 =>
  z_b1 (f_X11_up (p1 >>> ((4 : Int32) &&& 31)) (r2 + (1 : Int32)) σ) fun r4 =>
  z_b1 (f_X9_count (2 : Int32) σ) fun r6 =>
  z_b1 (f_X11_up (p1 >>> ((9 : Int32) &&& 31)) r6 σ) fun r8 =>
  z_b1 (f_X9_count (4 : Int32) σ) fun r10 =>
  z_b1 (f_X11_up p1 (12 : Int32) σ) fun r12 =>
  if r12 = (0 : Int32) then
  (z_let (fun (y14 : Int32) => z_b1 (f_X11_up (p1 >>> ((17 : Int32) &&& 31)) (9 : Int32) σ) fun r17 =>
  z_b2 (f_X9_dog r4 y14 r17 σ) fun r20 σ19 =>
  some (r20, σ19)) fun j15 =>
  if ((p1 >>> ((11 : Int32) &&& 31)) &&& (3 : Int32)) = (0 : Int32) then
  (j15 (0 : Int32))
  else
  (z_b1 (f_X11_up (p1 >>> ((13 : Int32) &&& 31)) (8 : Int32) σ) fun r23 =>
  j15 ((2 : Int32) + r23)))
  else if r12 = (1 : Int32) then
  (z_b1 (f_X11_up (p1 >>> ((12 : Int32) &&& 31)) (6 : Int32) σ) fun r26 =>
  z_b1 (f_X11_up (p1 >>> ((15 : Int32) &&& 31)) (12 : Int32) σ) fun r28 =>
  z_b2 (f_X9_pause r4 (r10 + r26) (r10 + r28) σ) fun r31 σ30 =>
  some (r31, σ30))
  else if r12 = (2 : Int32) then
  (z_b1 (f_X11_up (p1 >>> ((12 : Int32) &&& 31)) (6 : Int32) σ) fun r34 =>
  z_b1 (f_X11_up (p1 >>> ((15 : Int32) &&& 31)) (12 : Int32) σ) fun r36 =>
  z_b2 (f_X9_pause r4 (r10 + r34) (r10 + r36) σ) fun r39 σ38 =>
  some (r39, σ38))
  else if r12 = (3 : Int32) then
  (z_b2 (f_X9_give r4 r8 σ) fun r43 σ42 =>
  some (r43, σ42))
  else if r12 = (4 : Int32) then
  (z_b2 (f_X9_give r4 r8 σ) fun r47 σ46 =>
  some (r47, σ46))
  else if r12 = (5 : Int32) then
  (z_b2 (f_X9_give r4 r8 σ) fun r51 σ50 =>
  some (r51, σ50))
  else if r12 = (6 : Int32) then
  (z_b2 (f_X9_giveNone r4 σ) fun r55 σ54 =>
  some (r55, σ54))
  else if r12 = (7 : Int32) then
  (z_b1 (f_X11_up (p1 >>> ((12 : Int32) &&& 31)) (6 : Int32) σ) fun r58 =>
  z_b2 (f_X9_biscuits r8 ((1 : Int32) + r58) σ) fun r61 σ60 =>
  some (r61, σ60))
  else if r12 = (8 : Int32) then
  (z_b1 (f_X11_up (p1 >>> ((13 : Int32) &&& 31)) (20 : Int32) σ) fun r64 =>
  z_b2 (f_X9_set ((p1 >>> ((12 : Int32) &&& 31)) &&& (1 : Int32)) ((1 : Int32) + r64) σ) fun r67 σ66 =>
  some (r67, σ66))
  else if r12 = (9 : Int32) then
  (z_b1 (f_X9_count (0 : Int32) σ) fun r70 =>
  z_b1 (f_X11_up (p1 >>> ((12 : Int32) &&& 31)) r70 σ) fun r72 =>
  z_b1 (f_X11_up (p1 >>> ((17 : Int32) &&& 31)) (5 : Int32) σ) fun r74 =>
  z_b1 (f_X11_up (p1 >>> ((20 : Int32) &&& 31)) (501 : Int32) σ) fun r76 =>
  z_b2 (f_X9_house r72 ((1 : Int32) + r74) r76 σ) fun r79 σ78 =>
  some (r79, σ78))
  else (some ((-9 : Int32), σ))
set_option maxRecDepth 100000 in
set_option maxHeartbeats 4000000 in
theorem c_X11_act (p1 : Int32) (σ : z_S) (r : Int32) (σz : z_S) (h : f_X11_act p1 σ = some (r, σz)) : zMet yX11_act cX11_act 5 (some .int) 6 126 layX 275 (fun ad => [.ref (ad 230), .int p1]) σ (z_QI layX 275 r σz) := by
  refine z_headI RX11 (by decide) rfl (fun _ => Nat.le_of_ble_eq_true rfl) (fun E G A ad hB hret => ?_)
  show ZW E G A 5 layX 275 ad 0 [(0, .ref (ad 230)), (1, .int p1)] [] σ
  unfold f_X11_act at h
  refine z_iload_n hB 1 dX11_act_0 rfl rfl ?_
  refine z_iconst hB dX11_act_1 zcI_4 ?_
  refine z_ishr hB dX11_act_2 ?_
  refine z_aload_n hB 0 dX11_act_3 rfl rfl ?_
  refine z_iconst hB dX11_act_4 zcI_1 ?_
  obtain ⟨r2, h1, h⟩ := z_b1E h
  refine z_cI hB (z_rV (ι := fun k => k) hB yY_X9_count (c_X9_count _ _ _ h1) rfl cut_X z_hid kX_230 (Nat.le_of_ble_eq_true rfl) vc_9 rfl rfl rfl (Nat.le_of_ble_eq_true rfl) ml_X11_11 ⟨Nat.le_of_ble_eq_true rfl, Nat.le_of_ble_eq_true rfl⟩ dX11_act_5) cut_X z_hid ?_
  refine z_toA (z_mro cut_X) ?_
  refine z_iconst hB dX11_act_8 zcI_1 ?_
  refine z_iadd hB dX11_act_9 ?_
  obtain ⟨r4, h3, h⟩ := z_b1E h
  refine z_cI hB (z_rS (ι := fun k => k) hB yY_X11_up (c_X11_up _ _ _ _ h3) rfl z_cut0 z_hno rfl rfl rfl (Nat.le_of_ble_eq_true rfl) ml_X11_98 ⟨Nat.le_of_ble_eq_true rfl, Nat.le_of_ble_eq_true rfl⟩ dX11_act_10) z_cut0 z_hno ?_
  refine z_toA (z_mro (lay := layX) (lay' := z_lay0) (b := false) z_cut0) ?_
  refine z_istore_n hB [(2, .int r4), (0, .ref (ad 230)), (1, .int p1)] dX11_act_13 rfl (Nat.le_of_ble_eq_true rfl) rfl rfl ?_
  refine z_iload_n hB 2 dX11_act_14 rfl rfl ?_
  refine z_bipush hB dX11_act_15 zcB_9 ?_
  refine z_ishr hB dX11_act_17 ?_
  refine z_aload_n hB 1 dX11_act_18 rfl rfl ?_
  refine z_iconst hB dX11_act_19 zcI_2 ?_
  obtain ⟨r6, h5, h⟩ := z_b1E h
  refine z_cI hB (z_rV (ι := fun k => k) hB yY_X9_count (c_X9_count _ _ _ h5) rfl cut_X z_hid kX_230 (Nat.le_of_ble_eq_true rfl) vc_9 rfl rfl rfl (Nat.le_of_ble_eq_true rfl) ml_X11_11 ⟨Nat.le_of_ble_eq_true rfl, Nat.le_of_ble_eq_true rfl⟩ dX11_act_20) cut_X z_hid ?_
  refine z_toA (z_mro cut_X) ?_
  obtain ⟨r8, h7, h⟩ := z_b1E h
  refine z_cI hB (z_rS (ι := fun k => k) hB yY_X11_up (c_X11_up _ _ _ _ h7) rfl z_cut0 z_hno rfl rfl rfl (Nat.le_of_ble_eq_true rfl) ml_X11_98 ⟨Nat.le_of_ble_eq_true rfl, Nat.le_of_ble_eq_true rfl⟩ dX11_act_23) z_cut0 z_hno ?_
  refine z_toA (z_mro (lay := layX) (lay' := z_lay0) (b := false) z_cut0) ?_
  refine z_istore_n hB [(3, .int r8), (2, .int r4), (0, .ref (ad 230)), (1, .int p1)] dX11_act_26 rfl (Nat.le_of_ble_eq_true rfl) rfl rfl ?_
  refine z_aload_n hB 2 dX11_act_27 rfl rfl ?_
  refine z_iconst hB dX11_act_28 zcI_4 ?_
  obtain ⟨r10, h9, h⟩ := z_b1E h
  refine z_cI hB (z_rV (ι := fun k => k) hB yY_X9_count (c_X9_count _ _ _ h9) rfl cut_X z_hid kX_230 (Nat.le_of_ble_eq_true rfl) vc_9 rfl rfl rfl (Nat.le_of_ble_eq_true rfl) ml_X11_11 ⟨Nat.le_of_ble_eq_true rfl, Nat.le_of_ble_eq_true rfl⟩ dX11_act_29) cut_X z_hid ?_
  refine z_toA (z_mro cut_X) ?_
  refine z_istore hB [(4, .int r10), (3, .int r8), (2, .int r4), (0, .ref (ad 230)), (1, .int p1)] dX11_act_32 (Nat.le_of_ble_eq_true rfl) rfl rfl ?_
  refine z_iload_n hB 4 dX11_act_34 rfl rfl ?_
  refine z_bipush hB dX11_act_35 zcB_12 ?_
  obtain ⟨r12, h11, h⟩ := z_b1E h
  refine z_cI hB (z_rS (ι := fun k => k) hB yY_X11_up (c_X11_up _ _ _ _ h11) rfl z_cut0 z_hno rfl rfl rfl (Nat.le_of_ble_eq_true rfl) ml_X11_98 ⟨Nat.le_of_ble_eq_true rfl, Nat.le_of_ble_eq_true rfl⟩ dX11_act_37) z_cut0 z_hno ?_
  refine z_toA (z_mro (lay := layX) (lay' := z_lay0) (b := false) z_cut0) ?_
  by_cases c13 : r12 = (0 : Int32)
  · have h := z_ifT c13 h
    refine z_tableIn hB (tgt := 96) dX11_act_40 c13 (by decide) (by decide) rfl (by decide) ?_
    refine z_aload_n hB 3 dX11_act_96 rfl rfl ?_
    refine z_iload_n hB 2 dX11_act_97 rfl rfl ?_
    refine z_iload_n hB 4 dX11_act_98 rfl rfl ?_
    refine z_bipush hB dX11_act_99 zcB_11 ?_
    refine z_ishr hB dX11_act_101 ?_
    refine z_iconst hB dX11_act_102 zcI_3 ?_
    refine z_iand hB dX11_act_103 ?_
    obtain ⟨j15, ej15, h⟩ := z_letE h
    have hj15 : ∀ (y14 : Int32), j15 y14 = some (r, σz) → ZW E G A 5 layX 275 ad 122 [(1, .int p1)] [.int y14, .int r4, .ref (ad 230)] σ := by
      intro y14 h
      rw [ej15] at h
      refine z_iload_n hB 0 dX11_act_122 rfl rfl ?_
      refine z_bipush hB dX11_act_123 zcB_17 ?_
      refine z_ishr hB dX11_act_125 ?_
      refine z_bipush hB dX11_act_126 zcB_9 ?_
      obtain ⟨r17, h16, h⟩ := z_b1E h
      refine z_cI hB (z_rS (ι := fun k => k) hB yY_X11_up (c_X11_up _ _ _ _ h16) rfl z_cut0 z_hno rfl rfl rfl (Nat.le_of_ble_eq_true rfl) ml_X11_98 ⟨Nat.le_of_ble_eq_true rfl, Nat.le_of_ble_eq_true rfl⟩ dX11_act_128) z_cut0 z_hno ?_
      refine z_toA (z_mro (lay := layX) (lay' := z_lay0) (b := false) z_cut0) ?_
      obtain ⟨r20, σ19, h18, h⟩ := z_b2E h
      refine z_cI hB (z_rV (ι := fun k => k) hB yY_X9_dog (c_X9_dog _ _ _ _ _ _ h18) rfl cut_X z_hid kX_230 (Nat.le_of_ble_eq_true rfl) vc_9 rfl rfl rfl (Nat.le_of_ble_eq_true rfl) ml_X11_53 ⟨Nat.le_of_ble_eq_true rfl, Nat.le_of_ble_eq_true rfl⟩ dX11_act_131) cut_X z_hid ?_
      refine z_toA z_mid ?_
      obtain ⟨h1, h2⟩ := z_prE h
      exact hret _ _ _ _ h1 h2 rfl dX11_act_134
    refine z_if_ne hB (tgt := 111) dX11_act_104 (by decide) (fun c21 => ?_) (fun c21 => ?_)
    · have h := z_ifF c21 h
      refine z_iconst hB dX11_act_111 zcI_2 ?_
      refine z_iload_n hB 4 dX11_act_112 rfl rfl ?_
      refine z_bipush hB dX11_act_113 zcB_13 ?_
      refine z_ishr hB dX11_act_115 ?_
      refine z_bipush hB dX11_act_116 zcB_8 ?_
      obtain ⟨r23, h22, h⟩ := z_b1E h
      refine z_cI hB (z_rS (ι := fun k => k) hB yY_X11_up (c_X11_up _ _ _ _ h22) rfl z_cut0 z_hno rfl rfl rfl (Nat.le_of_ble_eq_true rfl) ml_X11_98 ⟨Nat.le_of_ble_eq_true rfl, Nat.le_of_ble_eq_true rfl⟩ dX11_act_118) z_cut0 z_hno ?_
      refine z_toA (z_mro (lay := layX) (lay' := z_lay0) (b := false) z_cut0) ?_
      refine z_iadd hB dX11_act_121 ?_
      refine z_lv [4] rfl ?_
      exact hj15 _ h
    · have h := z_ifT c21 h
      refine z_iconst hB dX11_act_107 zcI_0 ?_
      refine z_goto hB (tgt := 122) dX11_act_108 (by decide) ?_
      refine z_lv [4] rfl ?_
      exact hj15 _ h
  have h := z_ifF c13 h
  by_cases c24 : r12 = (1 : Int32)
  · have h := z_ifT c24 h
    refine z_tableIn hB (tgt := 135) dX11_act_40 c24 (by decide) (by decide) rfl (by decide) ?_
    refine z_aload_n hB 3 dX11_act_135 rfl rfl ?_
    refine z_iload_n hB 2 dX11_act_136 rfl rfl ?_
    refine z_iload hB 0 dX11_act_137 rfl ?_
    refine z_iload_n hB 4 dX11_act_139 rfl rfl ?_
    refine z_bipush hB dX11_act_140 zcB_12 ?_
    refine z_ishr hB dX11_act_142 ?_
    refine z_bipush hB dX11_act_143 zcB_6 ?_
    obtain ⟨r26, h25, h⟩ := z_b1E h
    refine z_cI hB (z_rS (ι := fun k => k) hB yY_X11_up (c_X11_up _ _ _ _ h25) rfl z_cut0 z_hno rfl rfl rfl (Nat.le_of_ble_eq_true rfl) ml_X11_98 ⟨Nat.le_of_ble_eq_true rfl, Nat.le_of_ble_eq_true rfl⟩ dX11_act_145) z_cut0 z_hno ?_
    refine z_toA (z_mro (lay := layX) (lay' := z_lay0) (b := false) z_cut0) ?_
    refine z_iadd hB dX11_act_148 ?_
    refine z_iload hB 0 dX11_act_149 rfl ?_
    refine z_iload_n hB 4 dX11_act_151 rfl rfl ?_
    refine z_bipush hB dX11_act_152 zcB_15 ?_
    refine z_ishr hB dX11_act_154 ?_
    refine z_bipush hB dX11_act_155 zcB_12 ?_
    obtain ⟨r28, h27, h⟩ := z_b1E h
    refine z_cI hB (z_rS (ι := fun k => k) hB yY_X11_up (c_X11_up _ _ _ _ h27) rfl z_cut0 z_hno rfl rfl rfl (Nat.le_of_ble_eq_true rfl) ml_X11_98 ⟨Nat.le_of_ble_eq_true rfl, Nat.le_of_ble_eq_true rfl⟩ dX11_act_157) z_cut0 z_hno ?_
    refine z_toA (z_mro (lay := layX) (lay' := z_lay0) (b := false) z_cut0) ?_
    refine z_iadd hB dX11_act_160 ?_
    obtain ⟨r31, σ30, h29, h⟩ := z_b2E h
    refine z_cI hB (z_rV (ι := fun k => k) hB yY_X9_pause (c_X9_pause _ _ _ _ _ _ h29) rfl cut_X z_hid kX_230 (Nat.le_of_ble_eq_true rfl) vc_9 rfl rfl rfl (Nat.le_of_ble_eq_true rfl) ml_X11_56 ⟨Nat.le_of_ble_eq_true rfl, Nat.le_of_ble_eq_true rfl⟩ dX11_act_161) cut_X z_hid ?_
    refine z_toA z_mid ?_
    obtain ⟨h1, h2⟩ := z_prE h
    exact hret _ _ _ _ h1 h2 rfl dX11_act_164
  have h := z_ifF c24 h
  by_cases c32 : r12 = (2 : Int32)
  · have h := z_ifT c32 h
    refine z_tableIn hB (tgt := 135) dX11_act_40 c32 (by decide) (by decide) rfl (by decide) ?_
    refine z_aload_n hB 3 dX11_act_135 rfl rfl ?_
    refine z_iload_n hB 2 dX11_act_136 rfl rfl ?_
    refine z_iload hB 0 dX11_act_137 rfl ?_
    refine z_iload_n hB 4 dX11_act_139 rfl rfl ?_
    refine z_bipush hB dX11_act_140 zcB_12 ?_
    refine z_ishr hB dX11_act_142 ?_
    refine z_bipush hB dX11_act_143 zcB_6 ?_
    obtain ⟨r34, h33, h⟩ := z_b1E h
    refine z_cI hB (z_rS (ι := fun k => k) hB yY_X11_up (c_X11_up _ _ _ _ h33) rfl z_cut0 z_hno rfl rfl rfl (Nat.le_of_ble_eq_true rfl) ml_X11_98 ⟨Nat.le_of_ble_eq_true rfl, Nat.le_of_ble_eq_true rfl⟩ dX11_act_145) z_cut0 z_hno ?_
    refine z_toA (z_mro (lay := layX) (lay' := z_lay0) (b := false) z_cut0) ?_
    refine z_iadd hB dX11_act_148 ?_
    refine z_iload hB 0 dX11_act_149 rfl ?_
    refine z_iload_n hB 4 dX11_act_151 rfl rfl ?_
    refine z_bipush hB dX11_act_152 zcB_15 ?_
    refine z_ishr hB dX11_act_154 ?_
    refine z_bipush hB dX11_act_155 zcB_12 ?_
    obtain ⟨r36, h35, h⟩ := z_b1E h
    refine z_cI hB (z_rS (ι := fun k => k) hB yY_X11_up (c_X11_up _ _ _ _ h35) rfl z_cut0 z_hno rfl rfl rfl (Nat.le_of_ble_eq_true rfl) ml_X11_98 ⟨Nat.le_of_ble_eq_true rfl, Nat.le_of_ble_eq_true rfl⟩ dX11_act_157) z_cut0 z_hno ?_
    refine z_toA (z_mro (lay := layX) (lay' := z_lay0) (b := false) z_cut0) ?_
    refine z_iadd hB dX11_act_160 ?_
    obtain ⟨r39, σ38, h37, h⟩ := z_b2E h
    refine z_cI hB (z_rV (ι := fun k => k) hB yY_X9_pause (c_X9_pause _ _ _ _ _ _ h37) rfl cut_X z_hid kX_230 (Nat.le_of_ble_eq_true rfl) vc_9 rfl rfl rfl (Nat.le_of_ble_eq_true rfl) ml_X11_56 ⟨Nat.le_of_ble_eq_true rfl, Nat.le_of_ble_eq_true rfl⟩ dX11_act_161) cut_X z_hid ?_
    refine z_toA z_mid ?_
    obtain ⟨h1, h2⟩ := z_prE h
    exact hret _ _ _ _ h1 h2 rfl dX11_act_164
  have h := z_ifF c32 h
  by_cases c40 : r12 = (3 : Int32)
  · have h := z_ifT c40 h
    refine z_tableIn hB (tgt := 165) dX11_act_40 c40 (by decide) (by decide) rfl (by decide) ?_
    refine z_aload_n hB 3 dX11_act_165 rfl rfl ?_
    refine z_iload_n hB 2 dX11_act_166 rfl rfl ?_
    refine z_iload_n hB 1 dX11_act_167 rfl rfl ?_
    obtain ⟨r43, σ42, h41, h⟩ := z_b2E h
    refine z_cI hB (z_rV (ι := fun k => k) hB yY_X9_give (c_X9_give _ _ _ _ _ h41) rfl cut_X z_hid kX_230 (Nat.le_of_ble_eq_true rfl) vc_9 rfl rfl rfl (Nat.le_of_ble_eq_true rfl) ml_X11_62 ⟨Nat.le_of_ble_eq_true rfl, Nat.le_of_ble_eq_true rfl⟩ dX11_act_168) cut_X z_hid ?_
    refine z_toA z_mid ?_
    obtain ⟨h1, h2⟩ := z_prE h
    exact hret _ _ _ _ h1 h2 rfl dX11_act_171
  have h := z_ifF c40 h
  by_cases c44 : r12 = (4 : Int32)
  · have h := z_ifT c44 h
    refine z_tableIn hB (tgt := 165) dX11_act_40 c44 (by decide) (by decide) rfl (by decide) ?_
    refine z_aload_n hB 3 dX11_act_165 rfl rfl ?_
    refine z_iload_n hB 2 dX11_act_166 rfl rfl ?_
    refine z_iload_n hB 1 dX11_act_167 rfl rfl ?_
    obtain ⟨r47, σ46, h45, h⟩ := z_b2E h
    refine z_cI hB (z_rV (ι := fun k => k) hB yY_X9_give (c_X9_give _ _ _ _ _ h45) rfl cut_X z_hid kX_230 (Nat.le_of_ble_eq_true rfl) vc_9 rfl rfl rfl (Nat.le_of_ble_eq_true rfl) ml_X11_62 ⟨Nat.le_of_ble_eq_true rfl, Nat.le_of_ble_eq_true rfl⟩ dX11_act_168) cut_X z_hid ?_
    refine z_toA z_mid ?_
    obtain ⟨h1, h2⟩ := z_prE h
    exact hret _ _ _ _ h1 h2 rfl dX11_act_171
  have h := z_ifF c44 h
  by_cases c48 : r12 = (5 : Int32)
  · have h := z_ifT c48 h
    refine z_tableIn hB (tgt := 165) dX11_act_40 c48 (by decide) (by decide) rfl (by decide) ?_
    refine z_aload_n hB 3 dX11_act_165 rfl rfl ?_
    refine z_iload_n hB 2 dX11_act_166 rfl rfl ?_
    refine z_iload_n hB 1 dX11_act_167 rfl rfl ?_
    obtain ⟨r51, σ50, h49, h⟩ := z_b2E h
    refine z_cI hB (z_rV (ι := fun k => k) hB yY_X9_give (c_X9_give _ _ _ _ _ h49) rfl cut_X z_hid kX_230 (Nat.le_of_ble_eq_true rfl) vc_9 rfl rfl rfl (Nat.le_of_ble_eq_true rfl) ml_X11_62 ⟨Nat.le_of_ble_eq_true rfl, Nat.le_of_ble_eq_true rfl⟩ dX11_act_168) cut_X z_hid ?_
    refine z_toA z_mid ?_
    obtain ⟨h1, h2⟩ := z_prE h
    exact hret _ _ _ _ h1 h2 rfl dX11_act_171
  have h := z_ifF c48 h
  by_cases c52 : r12 = (6 : Int32)
  · have h := z_ifT c52 h
    refine z_tableIn hB (tgt := 172) dX11_act_40 c52 (by decide) (by decide) rfl (by decide) ?_
    refine z_aload_n hB 3 dX11_act_172 rfl rfl ?_
    refine z_iload_n hB 2 dX11_act_173 rfl rfl ?_
    obtain ⟨r55, σ54, h53, h⟩ := z_b2E h
    refine z_cI hB (z_rV (ι := fun k => k) hB yY_X9_giveNone (c_X9_giveNone _ _ _ _ h53) rfl cut_X z_hid kX_230 (Nat.le_of_ble_eq_true rfl) vc_9 rfl rfl rfl (Nat.le_of_ble_eq_true rfl) ml_X11_65 ⟨Nat.le_of_ble_eq_true rfl, Nat.le_of_ble_eq_true rfl⟩ dX11_act_174) cut_X z_hid ?_
    refine z_toA z_mid ?_
    obtain ⟨h1, h2⟩ := z_prE h
    exact hret _ _ _ _ h1 h2 rfl dX11_act_177
  have h := z_ifF c52 h
  by_cases c56 : r12 = (7 : Int32)
  · have h := z_ifT c56 h
    refine z_tableIn hB (tgt := 178) dX11_act_40 c56 (by decide) (by decide) rfl (by decide) ?_
    refine z_aload_n hB 3 dX11_act_178 rfl rfl ?_
    refine z_iload_n hB 1 dX11_act_179 rfl rfl ?_
    refine z_iconst hB dX11_act_180 zcI_1 ?_
    refine z_iload_n hB 4 dX11_act_181 rfl rfl ?_
    refine z_bipush hB dX11_act_182 zcB_12 ?_
    refine z_ishr hB dX11_act_184 ?_
    refine z_bipush hB dX11_act_185 zcB_6 ?_
    obtain ⟨r58, h57, h⟩ := z_b1E h
    refine z_cI hB (z_rS (ι := fun k => k) hB yY_X11_up (c_X11_up _ _ _ _ h57) rfl z_cut0 z_hno rfl rfl rfl (Nat.le_of_ble_eq_true rfl) ml_X11_98 ⟨Nat.le_of_ble_eq_true rfl, Nat.le_of_ble_eq_true rfl⟩ dX11_act_187) z_cut0 z_hno ?_
    refine z_toA (z_mro (lay := layX) (lay' := z_lay0) (b := false) z_cut0) ?_
    refine z_iadd hB dX11_act_190 ?_
    obtain ⟨r61, σ60, h59, h⟩ := z_b2E h
    refine z_cI hB (z_rV (ι := fun k => k) hB yY_X9_biscuits (c_X9_biscuits _ _ _ _ _ h59) rfl cut_X z_hid kX_230 (Nat.le_of_ble_eq_true rfl) vc_9 rfl rfl rfl (Nat.le_of_ble_eq_true rfl) ml_X11_68 ⟨Nat.le_of_ble_eq_true rfl, Nat.le_of_ble_eq_true rfl⟩ dX11_act_191) cut_X z_hid ?_
    refine z_toA z_mid ?_
    obtain ⟨h1, h2⟩ := z_prE h
    exact hret _ _ _ _ h1 h2 rfl dX11_act_194
  have h := z_ifF c56 h
  by_cases c62 : r12 = (8 : Int32)
  · have h := z_ifT c62 h
    refine z_tableIn hB (tgt := 195) dX11_act_40 c62 (by decide) (by decide) rfl (by decide) ?_
    refine z_aload_n hB 3 dX11_act_195 rfl rfl ?_
    refine z_iload_n hB 4 dX11_act_196 rfl rfl ?_
    refine z_bipush hB dX11_act_197 zcB_12 ?_
    refine z_ishr hB dX11_act_199 ?_
    refine z_iconst hB dX11_act_200 zcI_1 ?_
    refine z_iand hB dX11_act_201 ?_
    refine z_iconst hB dX11_act_202 zcI_1 ?_
    refine z_iload_n hB 4 dX11_act_203 rfl rfl ?_
    refine z_bipush hB dX11_act_204 zcB_13 ?_
    refine z_ishr hB dX11_act_206 ?_
    refine z_bipush hB dX11_act_207 zcB_20 ?_
    obtain ⟨r64, h63, h⟩ := z_b1E h
    refine z_cI hB (z_rS (ι := fun k => k) hB yY_X11_up (c_X11_up _ _ _ _ h63) rfl z_cut0 z_hno rfl rfl rfl (Nat.le_of_ble_eq_true rfl) ml_X11_98 ⟨Nat.le_of_ble_eq_true rfl, Nat.le_of_ble_eq_true rfl⟩ dX11_act_209) z_cut0 z_hno ?_
    refine z_toA (z_mro (lay := layX) (lay' := z_lay0) (b := false) z_cut0) ?_
    refine z_iadd hB dX11_act_212 ?_
    obtain ⟨r67, σ66, h65, h⟩ := z_b2E h
    refine z_cI hB (z_rV (ι := fun k => k) hB yY_X9_set (c_X9_set _ _ _ _ _ h65) rfl cut_X z_hid kX_230 (Nat.le_of_ble_eq_true rfl) vc_9 rfl rfl rfl (Nat.le_of_ble_eq_true rfl) ml_X11_71 ⟨Nat.le_of_ble_eq_true rfl, Nat.le_of_ble_eq_true rfl⟩ dX11_act_213) cut_X z_hid ?_
    refine z_toA z_mid ?_
    obtain ⟨h1, h2⟩ := z_prE h
    exact hret _ _ _ _ h1 h2 rfl dX11_act_216
  have h := z_ifF c62 h
  by_cases c68 : r12 = (9 : Int32)
  · have h := z_ifT c68 h
    refine z_tableIn hB (tgt := 217) dX11_act_40 c68 (by decide) (by decide) rfl (by decide) ?_
    refine z_aload_n hB 3 dX11_act_217 rfl rfl ?_
    refine z_iload_n hB 4 dX11_act_218 rfl rfl ?_
    refine z_bipush hB dX11_act_219 zcB_12 ?_
    refine z_ishr hB dX11_act_221 ?_
    refine z_aload_n hB 3 dX11_act_222 rfl rfl ?_
    refine z_iconst hB dX11_act_223 zcI_0 ?_
    obtain ⟨r70, h69, h⟩ := z_b1E h
    refine z_cI hB (z_rV (ι := fun k => k) hB yY_X9_count (c_X9_count _ _ _ h69) rfl cut_X z_hid kX_230 (Nat.le_of_ble_eq_true rfl) vc_9 rfl rfl rfl (Nat.le_of_ble_eq_true rfl) ml_X11_11 ⟨Nat.le_of_ble_eq_true rfl, Nat.le_of_ble_eq_true rfl⟩ dX11_act_224) cut_X z_hid ?_
    refine z_toA (z_mro cut_X) ?_
    obtain ⟨r72, h71, h⟩ := z_b1E h
    refine z_cI hB (z_rS (ι := fun k => k) hB yY_X11_up (c_X11_up _ _ _ _ h71) rfl z_cut0 z_hno rfl rfl rfl (Nat.le_of_ble_eq_true rfl) ml_X11_98 ⟨Nat.le_of_ble_eq_true rfl, Nat.le_of_ble_eq_true rfl⟩ dX11_act_227) z_cut0 z_hno ?_
    refine z_toA (z_mro (lay := layX) (lay' := z_lay0) (b := false) z_cut0) ?_
    refine z_iconst hB dX11_act_230 zcI_1 ?_
    refine z_iload_n hB 4 dX11_act_231 rfl rfl ?_
    refine z_bipush hB dX11_act_232 zcB_17 ?_
    refine z_ishr hB dX11_act_234 ?_
    refine z_iconst hB dX11_act_235 zcI_5 ?_
    obtain ⟨r74, h73, h⟩ := z_b1E h
    refine z_cI hB (z_rS (ι := fun k => k) hB yY_X11_up (c_X11_up _ _ _ _ h73) rfl z_cut0 z_hno rfl rfl rfl (Nat.le_of_ble_eq_true rfl) ml_X11_98 ⟨Nat.le_of_ble_eq_true rfl, Nat.le_of_ble_eq_true rfl⟩ dX11_act_236) z_cut0 z_hno ?_
    refine z_toA (z_mro (lay := layX) (lay' := z_lay0) (b := false) z_cut0) ?_
    refine z_iadd hB dX11_act_239 ?_
    refine z_iload_n hB 4 dX11_act_240 rfl rfl ?_
    refine z_bipush hB dX11_act_241 zcB_20 ?_
    refine z_ishr hB dX11_act_243 ?_
    refine z_sipush hB dX11_act_244 zcS_501 ?_
    obtain ⟨r76, h75, h⟩ := z_b1E h
    refine z_cI hB (z_rS (ι := fun k => k) hB yY_X11_up (c_X11_up _ _ _ _ h75) rfl z_cut0 z_hno rfl rfl rfl (Nat.le_of_ble_eq_true rfl) ml_X11_98 ⟨Nat.le_of_ble_eq_true rfl, Nat.le_of_ble_eq_true rfl⟩ dX11_act_247) z_cut0 z_hno ?_
    refine z_toA (z_mro (lay := layX) (lay' := z_lay0) (b := false) z_cut0) ?_
    obtain ⟨r79, σ78, h77, h⟩ := z_b2E h
    refine z_cI hB (z_rV (ι := fun k => k) hB yY_X9_house (c_X9_house _ _ _ _ _ _ h77) rfl cut_X z_hid kX_230 (Nat.le_of_ble_eq_true rfl) vc_9 rfl rfl rfl (Nat.le_of_ble_eq_true rfl) ml_X11_49 ⟨Nat.le_of_ble_eq_true rfl, Nat.le_of_ble_eq_true rfl⟩ dX11_act_250) cut_X z_hid ?_
    refine z_toA z_mid ?_
    obtain ⟨h1, h2⟩ := z_prE h
    exact hret _ _ _ _ h1 h2 rfl dX11_act_253
  have h := z_ifF c68 h
  refine z_tableOut hB (tgt := 254) dX11_act_40 (z_tsE (z_ts ((z_ts ((z_ts ((z_ts ((z_ts ((z_ts ((z_ts ((z_ts ((z_ts ((z_ts (z_ts0 r12 0) c13 rfl)) c24 rfl)) c32 rfl)) c40 rfl)) c44 rfl)) c48 rfl)) c52 rfl)) c56 rfl)) c62 rfl)) c68 rfl) (by decide)) (by decide) ?_
  refine z_bipush hB dX11_act_254 zcB_m9 ?_
  obtain ⟨h1, h2⟩ := z_prE h
  exact hret _ _ _ _ h1 h2 rfl dX11_act_256
def lb_X11_lightest_55 (r8 : Int32) (x11 : Int32) (k12 : Int32 → Int32 → Int32 → z_S → Option (Int32 × z_S)) (x13 : Int32) (x14 : Int32) (x15 : Int32) (σ16 : z_S) : Option (Int32 × z_S) :=
  z_b1 (f_X9_count (2 : Int32) σ16) fun r18 =>
  if r18 ≤ x15 then
  (z_b2 (f_X9_lightest r8 x11 σ16) fun r22 σ21 =>
  if r22 = x13 then
  (some ((1 : Int32), σ21))
  else
  (some ((0 : Int32), σ21)))
  else
  (z_b2 (f_X9_round x15 x11 (1 : Int32) σ16) fun r26 σ25 =>
  z_b2 (f_X9_give r8 x15 σ25) fun r29 σ28 =>
  z_let (fun (y30 : Int32) (y31 : Int32) (σ32 : z_S) => z_let (x15 + (1 : Int32)) fun x34 =>
  k12 y30 y31 x34 σ32) fun j33 =>
  if r29 < (0 : Int32) then
  (j33 x13 x14 σ28)
  else
  (z_b2 (f_X9_round x15 x11 (1 : Int32) σ28) fun r38 σ37 =>
  z_let (r38 - r26) fun x39 =>
  z_let (fun (y40 : Int32) => z_let (fun (y42 : Int32) => z_let (fun (y44 : Int32) => z_b2 (f_X9_undo σ37) fun r48 σ47 =>
  if (0 : Int32) ≤ r48 then
  (j33 y42 y44 σ47)
  else
  (some ((0 : Int32), σ47))) fun j45 =>
  if y40 = (0 : Int32) then
  (j45 x14)
  else
  (j45 x39)) fun j43 =>
  if y40 = (0 : Int32) then
  (j43 x13)
  else
  (j43 x15)) fun j41 =>
  z_let (fun (_ : Unit) => j41 (1 : Int32)) fun j52 =>
  if x13 = (-4 : Int32) then
  (j52 ())
  else
  (if x14 ≤ x39 then
  (j41 (0 : Int32))
  else
  (j52 ()))))
def f_X11_lightest (p1 : Int32) (σ : z_S) : Option (Int32 × z_S) :=
  z_b1 (f_X9_count (1 : Int32) σ) fun r2 =>
  z_b1 (f_X9_count (4 : Int32) σ) fun r4 =>
  if r2 = (0 : Int32) then
  (some ((1 : Int32), σ))
  else
  (if r4 ≤ (990 : Int32) then
  (z_b1 (f_X11_up p1 r2 σ) fun r8 =>
  z_b1 (f_X11_up (p1 >>> ((6 : Int32) &&& 31)) (8 : Int32) σ) fun r10 =>
  z_let (r4 + r10) fun x11 =>
  z_lp4 (lb_X11_lightest_55 r8 x11) z_Fu (-4 : Int32) (0 : Int32) (0 : Int32) σ)
  else
  (some ((1 : Int32), σ)))
set_option maxRecDepth 100000 in
set_option maxHeartbeats 4000000 in
theorem c_X11_lightest (p1 : Int32) (σ : z_S) (r : Int32) (σz : z_S) (h : f_X11_lightest p1 σ = some (r, σz)) : zMet yX11_lightest cX11_lightest 13 (some .boolean) 6 131 layX 275 (fun ad => [.ref (ad 230), .int p1]) σ (z_QI layX 275 r σz) := by
  refine z_headI RX11 (by decide) rfl (fun _ => Nat.le_of_ble_eq_true rfl) (fun E G A ad hB hret => ?_)
  show ZW E G A 13 layX 275 ad 0 [(0, .ref (ad 230)), (1, .int p1)] [] σ
  unfold f_X11_lightest at h
  refine z_aload_n hB 0 dX11_lightest_0 rfl rfl ?_
  refine z_iconst hB dX11_lightest_1 zcI_1 ?_
  obtain ⟨r2, h1, h⟩ := z_b1E h
  refine z_cI hB (z_rV (ι := fun k => k) hB yY_X9_count (c_X9_count _ _ _ h1) rfl cut_X z_hid kX_230 (Nat.le_of_ble_eq_true rfl) vc_9 rfl rfl rfl (Nat.le_of_ble_eq_true rfl) ml_X11_11 ⟨Nat.le_of_ble_eq_true rfl, Nat.le_of_ble_eq_true rfl⟩ dX11_lightest_2) cut_X z_hid ?_
  refine z_toA (z_mro cut_X) ?_
  refine z_istore_n hB [(2, .int r2), (0, .ref (ad 230)), (1, .int p1)] dX11_lightest_5 rfl (Nat.le_of_ble_eq_true rfl) rfl rfl ?_
  refine z_aload_n hB 1 dX11_lightest_6 rfl rfl ?_
  refine z_iconst hB dX11_lightest_7 zcI_4 ?_
  obtain ⟨r4, h3, h⟩ := z_b1E h
  refine z_cI hB (z_rV (ι := fun k => k) hB yY_X9_count (c_X9_count _ _ _ h3) rfl cut_X z_hid kX_230 (Nat.le_of_ble_eq_true rfl) vc_9 rfl rfl rfl (Nat.le_of_ble_eq_true rfl) ml_X11_11 ⟨Nat.le_of_ble_eq_true rfl, Nat.le_of_ble_eq_true rfl⟩ dX11_lightest_8) cut_X z_hid ?_
  refine z_toA (z_mro cut_X) ?_
  refine z_istore_n hB [(3, .int r4), (2, .int r2), (0, .ref (ad 230)), (1, .int p1)] dX11_lightest_11 rfl (Nat.le_of_ble_eq_true rfl) rfl rfl ?_
  refine z_iload_n hB 1 dX11_lightest_12 rfl rfl ?_
  refine z_if_eq hB (tgt := 23) dX11_lightest_13 (by decide) (fun c5 => ?_) (fun c5 => ?_)
  · have h := z_ifT c5 h
    refine z_iconst hB dX11_lightest_23 zcI_1 ?_
    obtain ⟨h1, h2⟩ := z_prE h
    exact hret _ _ _ _ h1 h2 rfl dX11_lightest_24
  · have h := z_ifF c5 h
    refine z_iload_n hB 0 dX11_lightest_16 rfl rfl ?_
    refine z_sipush hB dX11_lightest_17 zcS_990 ?_
    refine z_icmp_le hB (tgt := 25) dX11_lightest_20 (by decide) (fun c6 => ?_) (fun c6 => ?_)
    · have h := z_ifT c6 h
      refine z_iload_n hB 3 dX11_lightest_25 rfl rfl ?_
      refine z_iload_n hB 1 dX11_lightest_26 rfl rfl ?_
      obtain ⟨r8, h7, h⟩ := z_b1E h
      refine z_cI hB (z_rS (ι := fun k => k) hB yY_X11_up (c_X11_up _ _ _ _ h7) rfl z_cut0 z_hno rfl rfl rfl (Nat.le_of_ble_eq_true rfl) ml_X11_98 ⟨Nat.le_of_ble_eq_true rfl, Nat.le_of_ble_eq_true rfl⟩ dX11_lightest_27) z_cut0 z_hno ?_
      refine z_toA (z_mro (lay := layX) (lay' := z_lay0) (b := false) z_cut0) ?_
      refine z_istore hB [(4, .int r8), (3, .int r4), (2, .int r2), (0, .ref (ad 230)), (1, .int p1)] dX11_lightest_30 (Nat.le_of_ble_eq_true rfl) rfl rfl ?_
      refine z_iload_n hB 1 dX11_lightest_32 rfl rfl ?_
      refine z_iload_n hB 4 dX11_lightest_33 rfl rfl ?_
      refine z_bipush hB dX11_lightest_34 zcB_6 ?_
      refine z_ishr hB dX11_lightest_36 ?_
      refine z_bipush hB dX11_lightest_37 zcB_8 ?_
      obtain ⟨r10, h9, h⟩ := z_b1E h
      refine z_cI hB (z_rS (ι := fun k => k) hB yY_X11_up (c_X11_up _ _ _ _ h9) rfl z_cut0 z_hno rfl rfl rfl (Nat.le_of_ble_eq_true rfl) ml_X11_98 ⟨Nat.le_of_ble_eq_true rfl, Nat.le_of_ble_eq_true rfl⟩ dX11_lightest_39) z_cut0 z_hno ?_
      refine z_toA (z_mro (lay := layX) (lay' := z_lay0) (b := false) z_cut0) ?_
      refine z_iadd hB dX11_lightest_42 ?_
      obtain ⟨x11, ex11, h⟩ := z_letE h
      refine z_istore hB [(5, .int x11), (4, .int r8), (3, .int r4), (2, .int r2), (0, .ref (ad 230)), (1, .int p1)] dX11_lightest_43 (Nat.le_of_ble_eq_true rfl) ex11 rfl ?_
      refine z_bipush hB dX11_lightest_45 zcB_m4 ?_
      refine z_istore hB [(6, .int ((-4 : Int32))), (5, .int x11), (4, .int r8), (3, .int r4), (2, .int r2), (0, .ref (ad 230)), (1, .int p1)] dX11_lightest_47 (Nat.le_of_ble_eq_true rfl) rfl rfl ?_
      refine z_iconst hB dX11_lightest_49 zcI_0 ?_
      refine z_istore hB [(7, .int ((0 : Int32))), (6, .int ((-4 : Int32))), (5, .int x11), (4, .int r8), (3, .int r4), (2, .int r2), (0, .ref (ad 230)), (1, .int p1)] dX11_lightest_50 (Nat.le_of_ble_eq_true rfl) rfl rfl ?_
      refine z_iconst hB dX11_lightest_52 zcI_0 ?_
      refine z_istore hB [(8, .int ((0 : Int32))), (7, .int ((0 : Int32))), (6, .int ((-4 : Int32))), (5, .int x11), (4, .int r8), (3, .int r4), (2, .int r2), (0, .ref (ad 230)), (1, .int p1)] dX11_lightest_53 (Nat.le_of_ble_eq_true rfl) rfl rfl ?_
      refine z_lv [7, 4, 3, 2, 1, 0] rfl ?_
      refine z_lpr4 (g := fun x13 x14 x15 σ16 => ZW E G A 13 layX 275 ad 55 [(0, .ref (ad 230)), (4, .int r8), (5, .int x11), (6, .int x13), (7, .int x14), (8, .int x15)] [] σ16) (fun k12 x13 x14 x15 σ16 hk_k12 h => ?_) _ _ _ _ _ h
      show ZW E G A 13 layX 275 ad 55 [(0, .ref (ad 230)), (4, .int r8), (5, .int x11), (6, .int x13), (7, .int x14), (8, .int x15)] [] σ16
      unfold lb_X11_lightest_55 at h
      refine z_iload hB 5 dX11_lightest_55 rfl ?_
      refine z_aload_n hB 0 dX11_lightest_57 rfl rfl ?_
      refine z_iconst hB dX11_lightest_58 zcI_2 ?_
      obtain ⟨r18, h17, h⟩ := z_b1E h
      refine z_cI hB (z_rV (ι := fun k => k) hB yY_X9_count (c_X9_count _ _ _ h17) rfl cut_X z_hid kX_230 (Nat.le_of_ble_eq_true rfl) vc_9 rfl rfl rfl (Nat.le_of_ble_eq_true rfl) ml_X11_11 ⟨Nat.le_of_ble_eq_true rfl, Nat.le_of_ble_eq_true rfl⟩ dX11_lightest_59) cut_X z_hid ?_
      refine z_toA (z_mro cut_X) ?_
      refine z_icmp_ge hB (tgt := 169) dX11_lightest_62 (by decide) (fun c19 => ?_) (fun c19 => ?_)
      · have h := z_ifT c19 h
        refine z_aload_n hB 0 dX11_lightest_169 rfl rfl ?_
        refine z_iload hB 1 dX11_lightest_170 rfl ?_
        refine z_iload hB 2 dX11_lightest_172 rfl ?_
        obtain ⟨r22, σ21, h20, h⟩ := z_b2E h
        refine z_cI hB (z_rV (ι := fun k => k) hB yY_X9_lightest (c_X9_lightest _ _ _ _ _ h20) rfl cut_X z_hid kX_230 (Nat.le_of_ble_eq_true rfl) vc_9 rfl rfl rfl (Nat.le_of_ble_eq_true rfl) ml_X11_83 ⟨Nat.le_of_ble_eq_true rfl, Nat.le_of_ble_eq_true rfl⟩ dX11_lightest_174) cut_X z_hid ?_
        refine z_toA z_mid ?_
        refine z_iload hB 3 dX11_lightest_177 rfl ?_
        refine z_icmp_ne hB (tgt := 186) dX11_lightest_179 (by decide) (fun c23 => ?_) (fun c23 => ?_)
        · have h := z_ifF c23 h
          refine z_iconst hB dX11_lightest_186 zcI_0 ?_
          obtain ⟨h1, h2⟩ := z_prE h
          exact hret _ _ _ _ h1 h2 rfl dX11_lightest_187
        · have h := z_ifT c23 h
          refine z_iconst hB dX11_lightest_182 zcI_1 ?_
          refine z_goto hB (tgt := 187) dX11_lightest_183 (by decide) ?_
          obtain ⟨h1, h2⟩ := z_prE h
          exact hret _ _ _ _ h1 h2 rfl dX11_lightest_187
      · have h := z_ifF c19 h
        refine z_aload_n hB 0 dX11_lightest_65 rfl rfl ?_
        refine z_iload hB 5 dX11_lightest_66 rfl ?_
        refine z_iload hB 2 dX11_lightest_68 rfl ?_
        refine z_iconst hB dX11_lightest_70 zcI_1 ?_
        obtain ⟨r26, σ25, h24, h⟩ := z_b2E h
        refine z_cI hB (z_rV (ι := fun k => k) hB yY_X9_round (c_X9_round _ _ _ _ _ _ h24) rfl cut_X z_hid kX_230 (Nat.le_of_ble_eq_true rfl) vc_9 rfl rfl rfl (Nat.le_of_ble_eq_true rfl) ml_X11_80 ⟨Nat.le_of_ble_eq_true rfl, Nat.le_of_ble_eq_true rfl⟩ dX11_lightest_71) cut_X z_hid ?_
        refine z_toA z_mid ?_
        refine z_istore hB [(9, .int r26), (0, .ref (ad 230)), (4, .int r8), (5, .int x11), (6, .int x13), (7, .int x14), (8, .int x15)] dX11_lightest_74 (Nat.le_of_ble_eq_true rfl) rfl rfl ?_
        refine z_aload_n hB 1 dX11_lightest_76 rfl rfl ?_
        refine z_iload hB 2 dX11_lightest_77 rfl ?_
        refine z_iload hB 6 dX11_lightest_79 rfl ?_
        obtain ⟨r29, σ28, h27, h⟩ := z_b2E h
        refine z_cI hB (z_rV (ι := fun k => k) hB yY_X9_give (c_X9_give _ _ _ _ _ h27) rfl cut_X z_hid kX_230 (Nat.le_of_ble_eq_true rfl) vc_9 rfl rfl rfl (Nat.le_of_ble_eq_true rfl) ml_X11_62 ⟨Nat.le_of_ble_eq_true rfl, Nat.le_of_ble_eq_true rfl⟩ dX11_lightest_81) cut_X z_hid ?_
        refine z_toA z_mid ?_
        refine z_istore hB [(10, .int r29), (9, .int r26), (0, .ref (ad 230)), (4, .int r8), (5, .int x11), (6, .int x13), (7, .int x14), (8, .int x15)] dX11_lightest_84 (Nat.le_of_ble_eq_true rfl) rfl rfl ?_
        refine z_iload hB 0 dX11_lightest_86 rfl ?_
        obtain ⟨j33, ej33, h⟩ := z_letE h
        have hj33 : ∀ (y30 : Int32) (y31 : Int32) (σ32 : z_S), j33 y30 y31 σ32 = some (r, σz) → ZW E G A 13 layX 275 ad 163 [(0, .ref (ad 230)), (4, .int r8), (5, .int x11), (6, .int y30), (7, .int y31), (8, .int x15)] [] σ32 := by
          intro y30 y31 σ32 h
          rw [ej33] at h
          obtain ⟨x34, ex34, h⟩ := z_letE h
          refine z_iinc hB 5 [(8, .int x34), (0, .ref (ad 230)), (4, .int r8), (5, .int x11), (6, .int y30), (7, .int y31)] dX11_lightest_163 rfl (by rw [zcI_1]; exact ex34) (Nat.le_of_ble_eq_true rfl) rfl ?_
          refine z_goto hB (tgt := 55) dX11_lightest_166 (by decide) ?_
          refine z_lv [1, 2, 3, 4, 5, 0] rfl ?_
          exact hk_k12 _ _ _ _ h
        refine z_if_lt hB (tgt := 163) dX11_lightest_88 (by decide) (fun c35 => ?_) (fun c35 => ?_)
        · have h := z_ifT c35 h
          refine z_lv [2, 3, 4, 5, 6, 7] rfl ?_
          exact hj33 _ _ _ h
        · have h := z_ifF c35 h
          refine z_aload_n hB 2 dX11_lightest_91 rfl rfl ?_
          refine z_iload hB 7 dX11_lightest_92 rfl ?_
          refine z_iload hB 4 dX11_lightest_94 rfl ?_
          refine z_iconst hB dX11_lightest_96 zcI_1 ?_
          obtain ⟨r38, σ37, h36, h⟩ := z_b2E h
          refine z_cI hB (z_rV (ι := fun k => k) hB yY_X9_round (c_X9_round _ _ _ _ _ _ h36) rfl cut_X z_hid kX_230 (Nat.le_of_ble_eq_true rfl) vc_9 rfl rfl rfl (Nat.le_of_ble_eq_true rfl) ml_X11_80 ⟨Nat.le_of_ble_eq_true rfl, Nat.le_of_ble_eq_true rfl⟩ dX11_lightest_97) cut_X z_hid ?_
          refine z_toA z_mid ?_
          refine z_iload hB 1 dX11_lightest_100 rfl ?_
          refine z_isub hB dX11_lightest_102 ?_
          obtain ⟨x39, ex39, h⟩ := z_letE h
          refine z_istore hB [(11, .int x39), (10, .int r29), (9, .int r26), (0, .ref (ad 230)), (4, .int r8), (5, .int x11), (6, .int x13), (7, .int x14), (8, .int x15)] dX11_lightest_103 (Nat.le_of_ble_eq_true rfl) ex39 rfl ?_
          refine z_iload hB 6 dX11_lightest_105 rfl ?_
          refine z_bipush hB dX11_lightest_107 zcB_m4 ?_
          obtain ⟨j41, ej41, h⟩ := z_letE h
          have hj41 : ∀ (y40 : Int32), j41 y40 = some (r, σz) → ZW E G A 13 layX 275 ad 124 [(0, .ref (ad 230)), (4, .int r8), (5, .int x11), (6, .int x13), (7, .int x14), (8, .int x15), (11, .int x39)] [.int y40] σ37 := by
            intro y40 h
            rw [ej41] at h
            refine z_istore hB [(12, .int y40), (0, .ref (ad 230)), (4, .int r8), (5, .int x11), (6, .int x13), (7, .int x14), (8, .int x15), (11, .int x39)] dX11_lightest_124 (Nat.le_of_ble_eq_true rfl) rfl rfl ?_
            refine z_iload hB 0 dX11_lightest_126 rfl ?_
            obtain ⟨j43, ej43, h⟩ := z_letE h
            have hj43 : ∀ (y42 : Int32), j43 y42 = some (r, σz) → ZW E G A 13 layX 275 ad 138 [(0, .ref (ad 230)), (4, .int r8), (5, .int x11), (7, .int x14), (8, .int x15), (11, .int x39), (12, .int y40)] [.int y42] σ37 := by
              intro y42 h
              rw [ej43] at h
              refine z_istore hB [(6, .int y42), (0, .ref (ad 230)), (4, .int r8), (5, .int x11), (7, .int x14), (8, .int x15), (11, .int x39), (12, .int y40)] dX11_lightest_138 (Nat.le_of_ble_eq_true rfl) rfl rfl ?_
              refine z_iload hB 7 dX11_lightest_140 rfl ?_
              obtain ⟨j45, ej45, h⟩ := z_letE h
              have hj45 : ∀ (y44 : Int32), j45 y44 = some (r, σz) → ZW E G A 13 layX 275 ad 152 [(0, .ref (ad 230)), (4, .int r8), (5, .int x11), (6, .int y42), (8, .int x15)] [.int y44] σ37 := by
                intro y44 h
                rw [ej45] at h
                refine z_istore hB [(7, .int y44), (0, .ref (ad 230)), (4, .int r8), (5, .int x11), (6, .int y42), (8, .int x15)] dX11_lightest_152 (Nat.le_of_ble_eq_true rfl) rfl rfl ?_
                refine z_aload_n hB 1 dX11_lightest_154 rfl rfl ?_
                obtain ⟨r48, σ47, h46, h⟩ := z_b2E h
                refine z_cI hB (z_rV (ι := fun k => k) hB yY_X9_undo (c_X9_undo _ _ _ h46) rfl cut_X z_hid kX_230 (Nat.le_of_ble_eq_true rfl) vc_9 rfl rfl rfl (Nat.le_of_ble_eq_true rfl) ml_X11_101 ⟨Nat.le_of_ble_eq_true rfl, Nat.le_of_ble_eq_true rfl⟩ dX11_lightest_155) cut_X z_hid ?_
                refine z_toA z_mid ?_
                refine z_if_ge hB (tgt := 163) dX11_lightest_158 (by decide) (fun c49 => ?_) (fun c49 => ?_)
                · have h := z_ifT c49 h
                  refine z_lv [1, 2, 3, 4, 0, 5] rfl ?_
                  exact hj33 _ _ _ h
                · have h := z_ifF c49 h
                  refine z_iconst hB dX11_lightest_161 zcI_0 ?_
                  obtain ⟨h1, h2⟩ := z_prE h
                  exact hret _ _ _ _ h1 h2 rfl dX11_lightest_162
              refine z_if_eq hB (tgt := 150) dX11_lightest_142 (by decide) (fun c50 => ?_) (fun c50 => ?_)
              · have h := z_ifT c50 h
                refine z_iload hB 4 dX11_lightest_150 rfl ?_
                refine z_lv [1, 2, 3, 0, 5] rfl ?_
                exact hj45 _ h
              · have h := z_ifF c50 h
                refine z_iload hB 6 dX11_lightest_145 rfl ?_
                refine z_goto hB (tgt := 152) dX11_lightest_147 (by decide) ?_
                refine z_lv [1, 2, 3, 0, 5] rfl ?_
                exact hj45 _ h
            refine z_if_eq hB (tgt := 136) dX11_lightest_128 (by decide) (fun c51 => ?_) (fun c51 => ?_)
            · have h := z_ifT c51 h
              refine z_iload hB 4 dX11_lightest_136 rfl ?_
              refine z_lv [1, 2, 3, 5, 6, 7, 0] rfl ?_
              exact hj43 _ h
            · have h := z_ifF c51 h
              refine z_iload hB 6 dX11_lightest_131 rfl ?_
              refine z_goto hB (tgt := 138) dX11_lightest_133 (by decide) ?_
              refine z_lv [1, 2, 3, 5, 6, 7, 0] rfl ?_
              exact hj43 _ h
          obtain ⟨j52, ej52, h⟩ := z_letE h
          have hj52 : ∀ (_ : Unit), j52 () = some (r, σz) → ZW E G A 13 layX 275 ad 119 [(0, .ref (ad 230)), (4, .int r8), (5, .int x11), (6, .int x13), (7, .int x14), (8, .int x15), (11, .int x39)] [] σ37 := by
            intro _ h
            rw [ej52] at h
            refine z_iconst hB dX11_lightest_119 zcI_1 ?_
            refine z_goto hB (tgt := 124) dX11_lightest_120 (by decide) ?_
            exact hj41 _ h
          refine z_icmp_eq hB (tgt := 119) dX11_lightest_109 (by decide) (fun c53 => ?_) (fun c53 => ?_)
          · have h := z_ifT c53 h
            refine z_lv [3, 4, 5, 6, 7, 8, 0] rfl ?_
            exact hj52 () h
          · have h := z_ifF c53 h
            refine z_iload hB 0 dX11_lightest_112 rfl ?_
            refine z_iload hB 7 dX11_lightest_114 rfl ?_
            refine z_icmp_ge hB (tgt := 123) dX11_lightest_116 (by decide) (fun c54 => ?_) (fun c54 => ?_)
            · have h := z_ifT c54 h
              refine z_iconst hB dX11_lightest_123 zcI_0 ?_
              refine z_lv [3, 4, 5, 6, 7, 8, 0] rfl ?_
              exact hj41 _ h
            · have h := z_ifF c54 h
              refine z_lv [3, 4, 5, 6, 7, 8, 0] rfl ?_
              exact hj52 () h
    · have h := z_ifF c6 h
      refine z_iconst hB dX11_lightest_23 zcI_1 ?_
      obtain ⟨h1, h2⟩ := z_prE h
      exact hret _ _ _ _ h1 h2 rfl dX11_lightest_24
