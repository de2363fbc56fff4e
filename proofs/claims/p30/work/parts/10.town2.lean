def lb_X8_endTrip_7 (p2 : Int32) (k2 : Int32 → z_S → Option z_S) (x3 : Int32) (σ4 : z_S) : Option z_S :=
  if x3 ≤ (0 : Int32) then
  (z_cki (0 : Int32) 20 <|
  z_let (z_u σ4 39 (0 : Int32).toNatClampNeg ((0 : Int32))) fun σ7 =>
  z_let (z_u σ7 38 4 ((0 : Int32))) fun σ8 =>
  some σ8)
  else
  (z_cki x3 20 <|
  z_let (fun (σ10 : z_S) => z_let (x3 + (-1 : Int32)) fun x12 =>
  k2 x12 σ10) fun j11 =>
  if (σ4 39 x3.toNatClampNeg) ≤ (0 : Int32) then
  (j11 σ4)
  else
  (z_cki x3 20 <|
  z_b1 (f_X4_effortOfStreet x3 (σ4 39 x3.toNatClampNeg) p2 (fun k => σ4 (zi_TW_T k))) fun r16 =>
  z_let (z_u σ4 38 1 ((σ4 38 1) + r16)) fun σ17 =>
  z_cki x3 20 <|
  z_cki (σ17 3 x3.toNatClampNeg) 20 <|
  z_cki x3 20 <|
  z_cki (σ17 3 x3.toNatClampNeg) 20 <|
  z_let (z_u σ17 39 (σ17 3 x3.toNatClampNeg).toNatClampNeg ((σ17 39 (σ17 3 x3.toNatClampNeg).toNatClampNeg) + (σ17 39 x3.toNatClampNeg))) fun σ22 =>
  z_cki x3 20 <|
  z_let (z_u σ22 39 x3.toNatClampNeg ((0 : Int32))) fun σ24 =>
  j11 σ24))
def f_X8_endTrip (p2 : Int32) (σ : z_S) : Option z_S :=
  z_let ((σ 2 0) - (1 : Int32)) fun x1 =>
  z_lp2 (lb_X8_endTrip_7 p2) z_Fu x1 σ
set_option maxRecDepth 100000 in
set_option maxHeartbeats 4000000 in
theorem c_X8_endTrip (p2 : Int32) (σ σz : z_S) (h : f_X8_endTrip p2 σ = some σz) : zMet yX8_endTrip cX8_endTrip 4 none 1 26 layTW 40 (fun ad => [.ref (ad 38), .ref (ad 2), .int p2]) σ (z_QV layTW 40 σz) := by
  refine z_headV RX8 (by decide) rfl (fun _ => Nat.le_of_ble_eq_true rfl) (fun E G A ad hB hret => ?_)
  show ZW E G A 4 layTW 40 ad 0 [(0, .ref (ad 38)), (1, .ref (ad 2)), (2, .int p2)] [] σ
  unfold f_X8_endTrip at h
  refine z_aload_n hB 1 dX8_endTrip_0 rfl rfl ?_
  refine z_get hB 2 0 kTW_2 (Nat.le_of_ble_eq_true rfl) vc_4 inlX4 (Nat.le_of_ble_eq_true rfl) rfl fl_X8_93 dX8_endTrip_1 ?_
  refine z_iconst hB dX8_endTrip_4 zcI_1 ?_
  refine z_isub hB dX8_endTrip_5 ?_
  obtain ⟨x1, ex1, h⟩ := z_letE h
  refine z_istore_n hB [(3, .int x1), (0, .ref (ad 38)), (1, .ref (ad 2)), (2, .int p2)] dX8_endTrip_6 rfl (Nat.le_of_ble_eq_true rfl) ex1 rfl ?_
  refine z_lv [1, 2, 3, 0] rfl ?_
  refine z_lpr2 (g := fun x3 σ4 => ZW E G A 4 layTW 40 ad 7 [(0, .ref (ad 38)), (1, .ref (ad 2)), (2, .int p2), (3, .int x3)] [] σ4) (fun k2 x3 σ4 hk_k2 h => ?_) _ _ _ h
  show ZW E G A 4 layTW 40 ad 7 [(0, .ref (ad 38)), (1, .ref (ad 2)), (2, .int p2), (3, .int x3)] [] σ4
  unfold lb_X8_endTrip_7 at h
  refine z_iload_n hB 3 dX8_endTrip_7 rfl rfl ?_
  refine z_if_le hB (tgt := 74) dX8_endTrip_8 (by decide) (fun c5 => ?_) (fun c5 => ?_)
  · have h := z_ifT c5 h
    refine z_aload_n hB 0 dX8_endTrip_74 rfl rfl ?_
    refine z_getr hB 38 5 39 kTW_38 (Nat.le_of_ble_eq_true rfl) vc_8 inlX8 (Nat.le_of_ble_eq_true rfl) rfl (Nat.le_of_ble_eq_true rfl) fl_X8_27 dX8_endTrip_75 ?_
    refine z_iconst hB dX8_endTrip_78 zcI_0 ?_
    refine z_iconst hB dX8_endTrip_79 zcI_0 ?_
    obtain ⟨h6, h⟩ := z_ckiE h
    obtain ⟨σ7, eσ7, h⟩ := z_letE h
    refine z_iast hB 39 20 kTW_39 (Nat.le_of_ble_eq_true rfl) dX8_endTrip_80 h6 ?_
    refine z_to eσ7 ?_
    refine z_aload_n hB 0 dX8_endTrip_81 rfl rfl ?_
    refine z_iconst hB dX8_endTrip_82 zcI_0 ?_
    obtain ⟨σ8, eσ8, h⟩ := z_letE h
    refine z_put hB 38 4 kTW_38 (Nat.le_of_ble_eq_true rfl) vc_8 inlX8 tyX8 tyX8_ok nmX8 (Nat.le_of_ble_eq_true rfl) rfl rfl (tyX8_ok 4 (Nat.le_of_ble_eq_true rfl)) fl_X8_24 dX8_endTrip_83 ?_
    refine z_to eσ8 ?_
    exact hret _ _ _ (Option.some.inj h) dX8_endTrip_86
  · have h := z_ifF c5 h
    refine z_aload_n hB 0 dX8_endTrip_11 rfl rfl ?_
    refine z_getr hB 38 5 39 kTW_38 (Nat.le_of_ble_eq_true rfl) vc_8 inlX8 (Nat.le_of_ble_eq_true rfl) rfl (Nat.le_of_ble_eq_true rfl) fl_X8_27 dX8_endTrip_12 ?_
    refine z_iload_n hB 3 dX8_endTrip_15 rfl rfl ?_
    obtain ⟨h9, h⟩ := z_ckiE h
    refine z_iald hB 39 20 kTW_39 (Nat.le_of_ble_eq_true rfl) dX8_endTrip_16 h9 ?_
    obtain ⟨j11, ej11, h⟩ := z_letE h
    have hj11 : ∀ (σ10 : z_S), j11 σ10 = some σz → ZW E G A 4 layTW 40 ad 68 [(0, .ref (ad 38)), (1, .ref (ad 2)), (2, .int p2), (3, .int x3)] [] σ10 := by
      intro σ10 h
      rw [ej11] at h
      obtain ⟨x12, ex12, h⟩ := z_letE h
      refine z_iinc hB 3 [(3, .int x12), (0, .ref (ad 38)), (1, .ref (ad 2)), (2, .int p2)] dX8_endTrip_68 rfl (by rw [zcI_m1]; exact ex12) (Nat.le_of_ble_eq_true rfl) rfl ?_
      refine z_goto hB (tgt := 7) dX8_endTrip_71 (by decide) ?_
      refine z_lv [1, 2, 3, 0] rfl ?_
      exact hk_k2 _ _ h
    refine z_if_le hB (tgt := 68) dX8_endTrip_17 (by decide) (fun c13 => ?_) (fun c13 => ?_)
    · have h := z_ifT c13 h
      exact hj11 _ h
    · have h := z_ifF c13 h
      refine z_aload_n hB 0 dX8_endTrip_20 rfl rfl ?_
      refine z_dup hB dX8_endTrip_21 rfl ?_
      refine z_get hB 38 1 kTW_38 (Nat.le_of_ble_eq_true rfl) vc_8 inlX8 (Nat.le_of_ble_eq_true rfl) rfl fl_X8_15 dX8_endTrip_22 ?_
      refine z_aload_n hB 1 dX8_endTrip_25 rfl rfl ?_
      refine z_iload_n hB 3 dX8_endTrip_26 rfl rfl ?_
      refine z_aload_n hB 0 dX8_endTrip_27 rfl rfl ?_
      refine z_getr hB 38 5 39 kTW_38 (Nat.le_of_ble_eq_true rfl) vc_8 inlX8 (Nat.le_of_ble_eq_true rfl) rfl (Nat.le_of_ble_eq_true rfl) fl_X8_27 dX8_endTrip_28 ?_
      refine z_iload_n hB 3 dX8_endTrip_31 rfl rfl ?_
      obtain ⟨h14, h⟩ := z_ckiE h
      refine z_iald hB 39 20 kTW_39 (Nat.le_of_ble_eq_true rfl) dX8_endTrip_32 h14 ?_
      refine z_iload_n hB 2 dX8_endTrip_33 rfl rfl ?_
      obtain ⟨r16, h15, h⟩ := z_b1E h
      refine z_cI hB (z_rV (ι := zi_TW_T) hB yY_X4_effortOfStreet (c_X4_effortOfStreet _ _ _ _ _ h15) rfl cut_TW_T z_hno kT_2 (Nat.le_of_ble_eq_true rfl) vc_4 rfl rfl rfl (Nat.le_of_ble_eq_true rfl) ml_X8_96 ⟨Nat.le_of_ble_eq_true rfl, Nat.le_of_ble_eq_true rfl⟩ dX8_endTrip_34) cut_TW_T z_hno ?_
      refine z_toA (z_mro cut_TW_T) ?_
      refine z_iadd hB dX8_endTrip_37 ?_
      obtain ⟨σ17, eσ17, h⟩ := z_letE h
      refine z_put hB 38 1 kTW_38 (Nat.le_of_ble_eq_true rfl) vc_8 inlX8 tyX8 tyX8_ok nmX8 (Nat.le_of_ble_eq_true rfl) rfl rfl (tyX8_ok 1 (Nat.le_of_ble_eq_true rfl)) fl_X8_15 dX8_endTrip_38 ?_
      refine z_to eσ17 ?_
      refine z_aload_n hB 0 dX8_endTrip_41 rfl rfl ?_
      refine z_getr hB 38 5 39 kTW_38 (Nat.le_of_ble_eq_true rfl) vc_8 inlX8 (Nat.le_of_ble_eq_true rfl) rfl (Nat.le_of_ble_eq_true rfl) fl_X8_27 dX8_endTrip_42 ?_
      refine z_aload_n hB 1 dX8_endTrip_45 rfl rfl ?_
      refine z_getr hB 2 1 3 kTW_2 (Nat.le_of_ble_eq_true rfl) vc_4 inlX4 (Nat.le_of_ble_eq_true rfl) rfl (Nat.le_of_ble_eq_true rfl) fl_X8_100 dX8_endTrip_46 ?_
      refine z_iload_n hB 3 dX8_endTrip_49 rfl rfl ?_
      obtain ⟨h18, h⟩ := z_ckiE h
      refine z_iald hB 3 20 kTW_3 (Nat.le_of_ble_eq_true rfl) dX8_endTrip_50 h18 ?_
      refine z_dup2 hB dX8_endTrip_51 rfl rfl ?_
      obtain ⟨h19, h⟩ := z_ckiE h
      refine z_iald hB 39 20 kTW_39 (Nat.le_of_ble_eq_true rfl) dX8_endTrip_52 h19 ?_
      refine z_aload_n hB 0 dX8_endTrip_53 rfl rfl ?_
      refine z_getr hB 38 5 39 kTW_38 (Nat.le_of_ble_eq_true rfl) vc_8 inlX8 (Nat.le_of_ble_eq_true rfl) rfl (Nat.le_of_ble_eq_true rfl) fl_X8_27 dX8_endTrip_54 ?_
      refine z_iload_n hB 3 dX8_endTrip_57 rfl rfl ?_
      obtain ⟨h20, h⟩ := z_ckiE h
      refine z_iald hB 39 20 kTW_39 (Nat.le_of_ble_eq_true rfl) dX8_endTrip_58 h20 ?_
      refine z_iadd hB dX8_endTrip_59 ?_
      obtain ⟨h21, h⟩ := z_ckiE h
      obtain ⟨σ22, eσ22, h⟩ := z_letE h
      refine z_iast hB 39 20 kTW_39 (Nat.le_of_ble_eq_true rfl) dX8_endTrip_60 h21 ?_
      refine z_to eσ22 ?_
      refine z_aload_n hB 0 dX8_endTrip_61 rfl rfl ?_
      refine z_getr hB 38 5 39 kTW_38 (Nat.le_of_ble_eq_true rfl) vc_8 inlX8 (Nat.le_of_ble_eq_true rfl) rfl (Nat.le_of_ble_eq_true rfl) fl_X8_27 dX8_endTrip_62 ?_
      refine z_iload_n hB 3 dX8_endTrip_65 rfl rfl ?_
      refine z_iconst hB dX8_endTrip_66 zcI_0 ?_
      obtain ⟨h23, h⟩ := z_ckiE h
      obtain ⟨σ24, eσ24, h⟩ := z_letE h
      refine z_iast hB 39 20 kTW_39 (Nat.le_of_ble_eq_true rfl) dX8_endTrip_67 h23 ?_
      refine z_to eσ24 ?_
      exact hj11 _ h
def lb_X8_go_31 (p2 : Int32) (p3 : Int32) (p4 : Int32) (r4 : Int32) (x6 : Int32) (k7 : Int32 → z_S → Option z_S) (x8 : Int32) (σ9 : z_S) : Option z_S :=
  if (σ9 11 0) ≤ x8 then
  (z_cki p2 3 <|
  z_b1 (f_X8_endTrip (σ9 31 p2.toNatClampNeg) σ9) fun σ13 =>
  some σ13)
  else
  (z_cki x8 24 <|
  z_let (σ9 25 x8.toNatClampNeg) fun x15 =>
  z_cki x15 24 <|
  z_let ((σ9 13 x15.toNatClampNeg) * r4) fun x17 =>
  z_cki x15 24 <|
  z_let (fun (y19 : Int32) => z_let (fun (σ21 : z_S) => z_let (x8 + (1 : Int32)) fun x23 =>
  k7 x23 σ21) fun j22 =>
  if y19 = (0 : Int32) then
  (j22 σ9)
  else
  (if x6 < x17 then
  (j22 σ9)
  else
  (z_b1 (f_X3_cover x15 p3 (fun k => σ9 (zi_TW_T k))) fun r27 =>
  if r27 = (0 : Int32) then
  (z_let (fun (σ29 : z_S) => z_let (z_u σ29 38 4 ((σ29 38 4) + x17)) fun σ31 =>
  z_cki x15 24 <|
  z_cki (σ31 12 x15.toNatClampNeg) 20 <|
  z_cki (σ31 12 x15.toNatClampNeg) 20 <|
  z_let (z_u σ31 39 (σ31 12 x15.toNatClampNeg).toNatClampNeg ((σ31 39 (σ31 12 x15.toNatClampNeg).toNatClampNeg) + x17)) fun σ35 =>
  z_cki x15 24 <|
  z_let (z_u σ35 38 2 ((σ35 38 2) + (σ35 13 x15.toNatClampNeg))) fun σ37 =>
  z_b1 (f_X2_dogIsOut x15 p3 (fun k => σ37 (zi_TW_T k))) fun r39 =>
  z_let (fun (y40 : Int32) => z_let (z_u σ37 38 3 ((σ37 38 3) + y40)) fun σ42 =>
  j22 σ42) fun j41 =>
  if r39 = (0 : Int32) then
  (j41 (0 : Int32))
  else
  (j41 (1 : Int32))) fun j30 =>
  z_let (fun (_ : Unit) => z_cki p2 3 <|
  z_b1 (f_X8_endTrip (σ9 31 p2.toNatClampNeg) σ9) fun σ47 =>
  z_let (z_u σ47 38 0 ((σ47 38 0) + (1 : Int32))) fun σ48 =>
  j30 σ48) fun j44 =>
  if (σ9 38 0) = (0 : Int32) then
  (j44 ())
  else
  (if ((σ9 38 4) + x17) ≤ x6 then
  (j30 σ9)
  else
  (j44 ())))
  else
  (j22 σ9)))) fun j20 =>
  z_let (fun (_ : Unit) => j20 (1 : Int32)) fun j51 =>
  if (σ9 15 x15.toNatClampNeg) = p2 then
  (j51 ())
  else
  (if x15 = p4 then
  (j51 ())
  else
  (j20 (0 : Int32))))
def f_X8_go (p2 : Int32) (p3 : Int32) (p4 : Int32) (σ : z_S) : Option z_S :=
  z_b1 (f_X8_clear σ) fun σ2 =>
  z_b1 (f_X6_weightOn p3 (fun k => σ2 (zi_TW_T k))) fun r4 =>
  z_cki p2 3 <|
  z_let (σ2 32 p2.toNatClampNeg) fun x6 =>
  z_lp2 (lb_X8_go_31 p2 p3 p4 r4 x6) z_Fu (0 : Int32) σ2
set_option maxRecDepth 100000 in
set_option maxHeartbeats 4000000 in
theorem c_X8_go (p2 : Int32) (p3 : Int32) (p4 : Int32) (σ σz : z_S) (h : f_X8_go p2 p3 p4 σ = some σz) : zMet yX8_go cX8_go 12 none 2 49 layTW 40 (fun ad => [.ref (ad 38), .ref (ad 0), .int p2, .int p3, .int p4]) σ (z_QV layTW 40 σz) := by
  refine z_headV RX8 (by decide) rfl (fun _ => Nat.le_of_ble_eq_true rfl) (fun E G A ad hB hret => ?_)
  show ZW E G A 12 layTW 40 ad 0 [(0, .ref (ad 38)), (1, .ref (ad 0)), (2, .int p2), (3, .int p3), (4, .int p4)] [] σ
  unfold f_X8_go at h
  refine z_aload_n hB 0 dX8_go_0 rfl rfl ?_
  obtain ⟨σ2, h1, h⟩ := z_b1E h
  refine z_cV hB (z_rV (ι := fun k => k) hB yY_X8_clear (c_X8_clear _ _ h1) rfl cut_TW z_hid kTW_38 (Nat.le_of_ble_eq_true rfl) vc_8 rfl rfl rfl (Nat.le_of_ble_eq_true rfl) ml_X8_31 ⟨Nat.le_of_ble_eq_true rfl, Nat.le_of_ble_eq_true rfl⟩ dX8_go_1) cut_TW z_hid ?_
  refine z_toA z_mid ?_
  refine z_aload_n hB 1 dX8_go_4 rfl rfl ?_
  refine z_getr hB 0 5 11 kTW_0 (Nat.le_of_ble_eq_true rfl) vc_6 inlX6 (Nat.le_of_ble_eq_true rfl) rfl (Nat.le_of_ble_eq_true rfl) fl_X8_34 dX8_go_5 ?_
  refine z_astore hB [(5, .ref (ad 11)), (0, .ref (ad 38)), (1, .ref (ad 0)), (2, .int p2), (3, .int p3), (4, .int p4)] dX8_go_8 (Nat.le_of_ble_eq_true rfl) rfl rfl ?_
  refine z_aload_n hB 2 dX8_go_10 rfl rfl ?_
  refine z_iload_n hB 4 dX8_go_11 rfl rfl ?_
  obtain ⟨r4, h3, h⟩ := z_b1E h
  refine z_cI hB (z_rV (ι := zi_TW_T) hB yY_X6_weightOn (c_X6_weightOn _ _ _ h3) rfl cut_TW_T z_hno kT_0 (Nat.le_of_ble_eq_true rfl) vc_6 rfl rfl rfl (Nat.le_of_ble_eq_true rfl) ml_X8_40 ⟨Nat.le_of_ble_eq_true rfl, Nat.le_of_ble_eq_true rfl⟩ dX8_go_12) cut_TW_T z_hno ?_
  refine z_toA (z_mro cut_TW_T) ?_
  refine z_istore hB [(6, .int r4), (5, .ref (ad 11)), (0, .ref (ad 38)), (1, .ref (ad 0)), (2, .int p2), (3, .int p3), (4, .int p4)] dX8_go_15 (Nat.le_of_ble_eq_true rfl) rfl rfl ?_
  refine z_aload_n hB 3 dX8_go_17 rfl rfl ?_
  refine z_getr hB 0 7 30 kTW_0 (Nat.le_of_ble_eq_true rfl) vc_6 inlX6 (Nat.le_of_ble_eq_true rfl) rfl (Nat.le_of_ble_eq_true rfl) fl_X8_44 dX8_go_18 ?_
  refine z_getr hB 30 2 32 kTW_30 (Nat.le_of_ble_eq_true rfl) vc_0 inlX0 (Nat.le_of_ble_eq_true rfl) rfl (Nat.le_of_ble_eq_true rfl) fl_X8_48 dX8_go_21 ?_
  refine z_iload_n hB 4 dX8_go_24 rfl rfl ?_
  obtain ⟨h5, h⟩ := z_ckiE h
  refine z_iald hB 32 3 kTW_32 (Nat.le_of_ble_eq_true rfl) dX8_go_25 h5 ?_
  obtain ⟨x6, ex6, h⟩ := z_letE h
  refine z_istore hB [(7, .int x6), (6, .int r4), (5, .ref (ad 11)), (0, .ref (ad 38)), (1, .ref (ad 0)), (2, .int p2), (3, .int p3), (4, .int p4)] dX8_go_26 (Nat.le_of_ble_eq_true rfl) ex6 rfl ?_
  refine z_iconst hB dX8_go_28 zcI_0 ?_
  refine z_istore hB [(8, .int ((0 : Int32))), (7, .int x6), (6, .int r4), (5, .ref (ad 11)), (0, .ref (ad 38)), (1, .ref (ad 0)), (2, .int p2), (3, .int p3), (4, .int p4)] dX8_go_29 (Nat.le_of_ble_eq_true rfl) rfl rfl ?_
  refine z_lv [4, 5, 6, 7, 8, 3, 2, 1, 0] rfl ?_
  refine z_lpr2 (g := fun x8 σ9 => ZW E G A 12 layTW 40 ad 31 [(0, .ref (ad 38)), (1, .ref (ad 0)), (2, .int p2), (3, .int p3), (4, .int p4), (5, .ref (ad 11)), (6, .int r4), (7, .int x6), (8, .int x8)] [] σ9) (fun k7 x8 σ9 hk_k7 h => ?_) _ _ _ h
  show ZW E G A 12 layTW 40 ad 31 [(0, .ref (ad 38)), (1, .ref (ad 0)), (2, .int p2), (3, .int p3), (4, .int p4), (5, .ref (ad 11)), (6, .int r4), (7, .int x6), (8, .int x8)] [] σ9
  unfold lb_X8_go_31 at h
  refine z_iload hB 8 dX8_go_31 rfl ?_
  refine z_aload hB 5 dX8_go_33 rfl ?_
  refine z_get hB 11 0 kTW_11 (Nat.le_of_ble_eq_true rfl) vc_2 inlX2 (Nat.le_of_ble_eq_true rfl) rfl fl_X8_53 dX8_go_35 ?_
  refine z_icmp_ge hB (tgt := 238) dX8_go_38 (by decide) (fun c10 => ?_) (fun c10 => ?_)
  · have h := z_ifT c10 h
    refine z_aload_n hB 0 dX8_go_238 rfl rfl ?_
    refine z_aload_n hB 1 dX8_go_239 rfl rfl ?_
    refine z_getr hB 0 4 2 kTW_0 (Nat.le_of_ble_eq_true rfl) vc_6 inlX6 (Nat.le_of_ble_eq_true rfl) rfl (Nat.le_of_ble_eq_true rfl) fl_X8_76 dX8_go_240 ?_
    refine z_aload_n hB 1 dX8_go_243 rfl rfl ?_
    refine z_getr hB 0 7 30 kTW_0 (Nat.le_of_ble_eq_true rfl) vc_6 inlX6 (Nat.le_of_ble_eq_true rfl) rfl (Nat.le_of_ble_eq_true rfl) fl_X8_44 dX8_go_244 ?_
    refine z_getr hB 30 1 31 kTW_30 (Nat.le_of_ble_eq_true rfl) vc_0 inlX0 (Nat.le_of_ble_eq_true rfl) rfl (Nat.le_of_ble_eq_true rfl) fl_X8_80 dX8_go_247 ?_
    refine z_iload_n hB 2 dX8_go_250 rfl rfl ?_
    obtain ⟨h11, h⟩ := z_ckiE h
    refine z_iald hB 31 3 kTW_31 (Nat.le_of_ble_eq_true rfl) dX8_go_251 h11 ?_
    obtain ⟨σ13, h12, h⟩ := z_b1E h
    refine z_cV hB (z_rV (ι := fun k => k) hB yY_X8_endTrip (c_X8_endTrip _ _ _ h12) rfl cut_TW z_hid kTW_38 (Nat.le_of_ble_eq_true rfl) vc_8 rfl rfl rfl (Nat.le_of_ble_eq_true rfl) ml_X8_83 ⟨Nat.le_of_ble_eq_true rfl, Nat.le_of_ble_eq_true rfl⟩ dX8_go_252) cut_TW z_hid ?_
    refine z_toA z_mid ?_
    exact hret _ _ _ (Option.some.inj h) dX8_go_255
  · have h := z_ifF c10 h
    refine z_aload hB 5 dX8_go_41 rfl ?_
    refine z_getr hB 11 14 25 kTW_11 (Nat.le_of_ble_eq_true rfl) vc_2 inlX2 (Nat.le_of_ble_eq_true rfl) rfl (Nat.le_of_ble_eq_true rfl) fl_X8_58 dX8_go_43 ?_
    refine z_iload hB 8 dX8_go_46 rfl ?_
    obtain ⟨h14, h⟩ := z_ckiE h
    refine z_iald hB 25 24 kTW_25 (Nat.le_of_ble_eq_true rfl) dX8_go_48 h14 ?_
    obtain ⟨x15, ex15, h⟩ := z_letE h
    refine z_istore hB [(9, .int x15), (0, .ref (ad 38)), (1, .ref (ad 0)), (2, .int p2), (3, .int p3), (4, .int p4), (5, .ref (ad 11)), (6, .int r4), (7, .int x6), (8, .int x8)] dX8_go_49 (Nat.le_of_ble_eq_true rfl) ex15 rfl ?_
    refine z_aload hB 6 dX8_go_51 rfl ?_
    refine z_getr hB 11 2 13 kTW_11 (Nat.le_of_ble_eq_true rfl) vc_2 inlX2 (Nat.le_of_ble_eq_true rfl) rfl (Nat.le_of_ble_eq_true rfl) fl_X8_61 dX8_go_53 ?_
    refine z_iload hB 0 dX8_go_56 rfl ?_
    obtain ⟨h16, h⟩ := z_ckiE h
    refine z_iald hB 13 24 kTW_13 (Nat.le_of_ble_eq_true rfl) dX8_go_58 h16 ?_
    refine z_iload hB 7 dX8_go_59 rfl ?_
    refine z_imul hB dX8_go_61 ?_
    obtain ⟨x17, ex17, h⟩ := z_letE h
    refine z_istore hB [(10, .int x17), (9, .int x15), (0, .ref (ad 38)), (1, .ref (ad 0)), (2, .int p2), (3, .int p3), (4, .int p4), (5, .ref (ad 11)), (6, .int r4), (7, .int x6), (8, .int x8)] dX8_go_62 (Nat.le_of_ble_eq_true rfl) ex17 rfl ?_
    refine z_aload hB 7 dX8_go_64 rfl ?_
    refine z_getr hB 11 4 15 kTW_11 (Nat.le_of_ble_eq_true rfl) vc_2 inlX2 (Nat.le_of_ble_eq_true rfl) rfl (Nat.le_of_ble_eq_true rfl) fl_X8_63 dX8_go_66 ?_
    refine z_iload hB 1 dX8_go_69 rfl ?_
    obtain ⟨h18, h⟩ := z_ckiE h
    refine z_iald hB 15 24 kTW_15 (Nat.le_of_ble_eq_true rfl) dX8_go_71 h18 ?_
    refine z_iload_n hB 4 dX8_go_72 rfl rfl ?_
    obtain ⟨j20, ej20, h⟩ := z_letE h
    have hj20 : ∀ (y19 : Int32), j20 y19 = some σz → ZW E G A 12 layTW 40 ad 88 [(0, .ref (ad 38)), (1, .ref (ad 0)), (2, .int p2), (3, .int p3), (4, .int p4), (5, .ref (ad 11)), (6, .int r4), (7, .int x6), (8, .int x8), (9, .int x15), (10, .int x17)] [.int y19] σ9 := by
      intro y19 h
      rw [ej20] at h
      refine z_istore hB [(11, .int y19), (0, .ref (ad 38)), (1, .ref (ad 0)), (2, .int p2), (3, .int p3), (4, .int p4), (5, .ref (ad 11)), (6, .int r4), (7, .int x6), (8, .int x8), (9, .int x15), (10, .int x17)] dX8_go_88 (Nat.le_of_ble_eq_true rfl) rfl rfl ?_
      refine z_iload hB 0 dX8_go_90 rfl ?_
      obtain ⟨j22, ej22, h⟩ := z_letE h
      have hj22 : ∀ (σ21 : z_S), j22 σ21 = some σz → ZW E G A 12 layTW 40 ad 232 [(0, .ref (ad 38)), (1, .ref (ad 0)), (2, .int p2), (3, .int p3), (4, .int p4), (5, .ref (ad 11)), (6, .int r4), (7, .int x6), (8, .int x8)] [] σ21 := by
        intro σ21 h
        rw [ej22] at h
        obtain ⟨x23, ex23, h⟩ := z_letE h
        refine z_iinc hB 8 [(8, .int x23), (0, .ref (ad 38)), (1, .ref (ad 0)), (2, .int p2), (3, .int p3), (4, .int p4), (5, .ref (ad 11)), (6, .int r4), (7, .int x6)] dX8_go_232 rfl (by rw [zcI_1]; exact ex23) (Nat.le_of_ble_eq_true rfl) rfl ?_
        refine z_goto hB (tgt := 31) dX8_go_235 (by decide) ?_
        refine z_lv [1, 2, 3, 4, 5, 6, 7, 8, 0] rfl ?_
        exact hk_k7 _ _ h
      refine z_if_eq hB (tgt := 232) dX8_go_92 (by decide) (fun c24 => ?_) (fun c24 => ?_)
      · have h := z_ifT c24 h
        refine z_lv [1, 2, 3, 4, 5, 6, 7, 8, 9] rfl ?_
        exact hj22 _ h
      · have h := z_ifF c24 h
        refine z_iload hB 11 dX8_go_95 rfl ?_
        refine z_iload hB 8 dX8_go_97 rfl ?_
        refine z_icmp_gt hB (tgt := 232) dX8_go_99 (by decide) (fun c25 => ?_) (fun c25 => ?_)
        · have h := z_ifT c25 h
          refine z_lv [1, 2, 3, 4, 5, 6, 7, 8, 9] rfl ?_
          exact hj22 _ h
        · have h := z_ifF c25 h
          refine z_aload_n hB 2 dX8_go_102 rfl rfl ?_
          refine z_getr hB 0 6 26 kTW_0 (Nat.le_of_ble_eq_true rfl) vc_6 inlX6 (Nat.le_of_ble_eq_true rfl) rfl (Nat.le_of_ble_eq_true rfl) fl_X8_66 dX8_go_103 ?_
          refine z_iload hB 10 dX8_go_106 rfl ?_
          refine z_iload_n hB 4 dX8_go_108 rfl rfl ?_
          obtain ⟨r27, h26, h⟩ := z_b1E h
          refine z_cI hB (z_rV (ι := zi_TW_T) hB yY_X3_cover (c_X3_cover _ _ _ _ h26) rfl cut_TW_T z_hno kT_26 (Nat.le_of_ble_eq_true rfl) vc_3 rfl rfl rfl (Nat.le_of_ble_eq_true rfl) ml_X8_70 ⟨Nat.le_of_ble_eq_true rfl, Nat.le_of_ble_eq_true rfl⟩ dX8_go_109) cut_TW_T z_hno ?_
          refine z_toA (z_mro cut_TW_T) ?_
          refine z_if_ne hB (tgt := 232) dX8_go_112 (by decide) (fun c28 => ?_) (fun c28 => ?_)
          · have h := z_ifF c28 h
            refine z_lv [1, 2, 3, 4, 5, 6, 7, 8, 9] rfl ?_
            exact hj22 _ h
          · have h := z_ifT c28 h
            refine z_aload_n hB 1 dX8_go_115 rfl rfl ?_
            refine z_get hB 38 0 kTW_38 (Nat.le_of_ble_eq_true rfl) vc_8 inlX8 (Nat.le_of_ble_eq_true rfl) rfl fl_X8_9 dX8_go_116 ?_
            obtain ⟨j30, ej30, h⟩ := z_letE h
            have hj30 : ∀ (σ29 : z_S), j30 σ29 = some σz → ZW E G A 12 layTW 40 ad 161 [(0, .ref (ad 38)), (1, .ref (ad 0)), (2, .int p2), (3, .int p3), (4, .int p4), (5, .ref (ad 11)), (6, .int r4), (7, .int x6), (8, .int x8), (9, .int x15), (10, .int x17)] [] σ29 := by
              intro σ29 h
              rw [ej30] at h
              refine z_aload_n hB 0 dX8_go_161 rfl rfl ?_
              refine z_dup hB dX8_go_162 rfl ?_
              refine z_get hB 38 4 kTW_38 (Nat.le_of_ble_eq_true rfl) vc_8 inlX8 (Nat.le_of_ble_eq_true rfl) rfl fl_X8_24 dX8_go_163 ?_
              refine z_iload hB 10 dX8_go_166 rfl ?_
              refine z_iadd hB dX8_go_168 ?_
              obtain ⟨σ31, eσ31, h⟩ := z_letE h
              refine z_put hB 38 4 kTW_38 (Nat.le_of_ble_eq_true rfl) vc_8 inlX8 tyX8 tyX8_ok nmX8 (Nat.le_of_ble_eq_true rfl) rfl rfl (tyX8_ok 4 (Nat.le_of_ble_eq_true rfl)) fl_X8_24 dX8_go_169 ?_
              refine z_to eσ31 ?_
              refine z_aload_n hB 0 dX8_go_172 rfl rfl ?_
              refine z_getr hB 38 5 39 kTW_38 (Nat.le_of_ble_eq_true rfl) vc_8 inlX8 (Nat.le_of_ble_eq_true rfl) rfl (Nat.le_of_ble_eq_true rfl) fl_X8_27 dX8_go_173 ?_
              refine z_aload hB 5 dX8_go_176 rfl ?_
              refine z_getr hB 11 1 12 kTW_11 (Nat.le_of_ble_eq_true rfl) vc_2 inlX2 (Nat.le_of_ble_eq_true rfl) rfl (Nat.le_of_ble_eq_true rfl) fl_X8_87 dX8_go_178 ?_
              refine z_iload hB 9 dX8_go_181 rfl ?_
              obtain ⟨h32, h⟩ := z_ckiE h
              refine z_iald hB 12 24 kTW_12 (Nat.le_of_ble_eq_true rfl) dX8_go_183 h32 ?_
              refine z_dup2 hB dX8_go_184 rfl rfl ?_
              obtain ⟨h33, h⟩ := z_ckiE h
              refine z_iald hB 39 20 kTW_39 (Nat.le_of_ble_eq_true rfl) dX8_go_185 h33 ?_
              refine z_iload hB 10 dX8_go_186 rfl ?_
              refine z_iadd hB dX8_go_188 ?_
              obtain ⟨h34, h⟩ := z_ckiE h
              obtain ⟨σ35, eσ35, h⟩ := z_letE h
              refine z_iast hB 39 20 kTW_39 (Nat.le_of_ble_eq_true rfl) dX8_go_189 h34 ?_
              refine z_to eσ35 ?_
              refine z_aload_n hB 0 dX8_go_190 rfl rfl ?_
              refine z_dup hB dX8_go_191 rfl ?_
              refine z_get hB 38 2 kTW_38 (Nat.le_of_ble_eq_true rfl) vc_8 inlX8 (Nat.le_of_ble_eq_true rfl) rfl fl_X8_18 dX8_go_192 ?_
              refine z_aload hB 5 dX8_go_195 rfl ?_
              refine z_getr hB 11 2 13 kTW_11 (Nat.le_of_ble_eq_true rfl) vc_2 inlX2 (Nat.le_of_ble_eq_true rfl) rfl (Nat.le_of_ble_eq_true rfl) fl_X8_61 dX8_go_197 ?_
              refine z_iload hB 9 dX8_go_200 rfl ?_
              obtain ⟨h36, h⟩ := z_ckiE h
              refine z_iald hB 13 24 kTW_13 (Nat.le_of_ble_eq_true rfl) dX8_go_202 h36 ?_
              refine z_iadd hB dX8_go_203 ?_
              obtain ⟨σ37, eσ37, h⟩ := z_letE h
              refine z_put hB 38 2 kTW_38 (Nat.le_of_ble_eq_true rfl) vc_8 inlX8 tyX8 tyX8_ok nmX8 (Nat.le_of_ble_eq_true rfl) rfl rfl (tyX8_ok 2 (Nat.le_of_ble_eq_true rfl)) fl_X8_18 dX8_go_204 ?_
              refine z_to eσ37 ?_
              refine z_aload_n hB 0 dX8_go_207 rfl rfl ?_
              refine z_dup hB dX8_go_208 rfl ?_
              refine z_get hB 38 3 kTW_38 (Nat.le_of_ble_eq_true rfl) vc_8 inlX8 (Nat.le_of_ble_eq_true rfl) rfl fl_X8_21 dX8_go_209 ?_
              refine z_aload hB 5 dX8_go_212 rfl ?_
              refine z_iload hB 9 dX8_go_214 rfl ?_
              refine z_iload_n hB 3 dX8_go_216 rfl rfl ?_
              obtain ⟨r39, h38, h⟩ := z_b1E h
              refine z_cI hB (z_rV (ι := zi_TW_T) hB yY_X2_dogIsOut (c_X2_dogIsOut _ _ _ _ h38) rfl cut_TW_T z_hno kT_11 (Nat.le_of_ble_eq_true rfl) vc_2 rfl rfl rfl (Nat.le_of_ble_eq_true rfl) ml_X8_90 ⟨Nat.le_of_ble_eq_true rfl, Nat.le_of_ble_eq_true rfl⟩ dX8_go_217) cut_TW_T z_hno ?_
              refine z_toA (z_mro cut_TW_T) ?_
              obtain ⟨j41, ej41, h⟩ := z_letE h
              have hj41 : ∀ (y40 : Int32), j41 y40 = some σz → ZW E G A 12 layTW 40 ad 228 [(0, .ref (ad 38)), (1, .ref (ad 0)), (2, .int p2), (3, .int p3), (4, .int p4), (5, .ref (ad 11)), (6, .int r4), (7, .int x6), (8, .int x8)] [.int y40, .int (σ37 38 3), .ref (ad 38)] σ37 := by
                intro y40 h
                rw [ej41] at h
                refine z_iadd hB dX8_go_228 ?_
                obtain ⟨σ42, eσ42, h⟩ := z_letE h
                refine z_put hB 38 3 kTW_38 (Nat.le_of_ble_eq_true rfl) vc_8 inlX8 tyX8 tyX8_ok nmX8 (Nat.le_of_ble_eq_true rfl) rfl rfl (tyX8_ok 3 (Nat.le_of_ble_eq_true rfl)) fl_X8_21 dX8_go_229 ?_
                refine z_to eσ42 ?_
                exact hj22 _ h
              refine z_if_eq hB (tgt := 227) dX8_go_220 (by decide) (fun c43 => ?_) (fun c43 => ?_)
              · have h := z_ifT c43 h
                refine z_iconst hB dX8_go_227 zcI_0 ?_
                refine z_lv [0, 1, 2, 3, 4, 5, 6, 7, 8] rfl ?_
                exact hj41 _ h
              · have h := z_ifF c43 h
                refine z_iconst hB dX8_go_223 zcI_1 ?_
                refine z_goto hB (tgt := 228) dX8_go_224 (by decide) ?_
                refine z_lv [0, 1, 2, 3, 4, 5, 6, 7, 8] rfl ?_
                exact hj41 _ h
            obtain ⟨j44, ej44, h⟩ := z_letE h
            have hj44 : ∀ (_ : Unit), j44 () = some σz → ZW E G A 12 layTW 40 ad 134 [(0, .ref (ad 38)), (1, .ref (ad 0)), (2, .int p2), (3, .int p3), (4, .int p4), (5, .ref (ad 11)), (6, .int r4), (7, .int x6), (8, .int x8), (9, .int x15), (10, .int x17)] [] σ9 := by
              intro _ h
              rw [ej44] at h
              refine z_aload_n hB 0 dX8_go_134 rfl rfl ?_
              refine z_aload_n hB 1 dX8_go_135 rfl rfl ?_
              refine z_getr hB 0 4 2 kTW_0 (Nat.le_of_ble_eq_true rfl) vc_6 inlX6 (Nat.le_of_ble_eq_true rfl) rfl (Nat.le_of_ble_eq_true rfl) fl_X8_76 dX8_go_136 ?_
              refine z_aload_n hB 1 dX8_go_139 rfl rfl ?_
              refine z_getr hB 0 7 30 kTW_0 (Nat.le_of_ble_eq_true rfl) vc_6 inlX6 (Nat.le_of_ble_eq_true rfl) rfl (Nat.le_of_ble_eq_true rfl) fl_X8_44 dX8_go_140 ?_
              refine z_getr hB 30 1 31 kTW_30 (Nat.le_of_ble_eq_true rfl) vc_0 inlX0 (Nat.le_of_ble_eq_true rfl) rfl (Nat.le_of_ble_eq_true rfl) fl_X8_80 dX8_go_143 ?_
              refine z_iload_n hB 2 dX8_go_146 rfl rfl ?_
              obtain ⟨h45, h⟩ := z_ckiE h
              refine z_iald hB 31 3 kTW_31 (Nat.le_of_ble_eq_true rfl) dX8_go_147 h45 ?_
              obtain ⟨σ47, h46, h⟩ := z_b1E h
              refine z_cV hB (z_rV (ι := fun k => k) hB yY_X8_endTrip (c_X8_endTrip _ _ _ h46) rfl cut_TW z_hid kTW_38 (Nat.le_of_ble_eq_true rfl) vc_8 rfl rfl rfl (Nat.le_of_ble_eq_true rfl) ml_X8_83 ⟨Nat.le_of_ble_eq_true rfl, Nat.le_of_ble_eq_true rfl⟩ dX8_go_148) cut_TW z_hid ?_
              refine z_toA z_mid ?_
              refine z_aload_n hB 0 dX8_go_151 rfl rfl ?_
              refine z_dup hB dX8_go_152 rfl ?_
              refine z_get hB 38 0 kTW_38 (Nat.le_of_ble_eq_true rfl) vc_8 inlX8 (Nat.le_of_ble_eq_true rfl) rfl fl_X8_9 dX8_go_153 ?_
              refine z_iconst hB dX8_go_156 zcI_1 ?_
              refine z_iadd hB dX8_go_157 ?_
              obtain ⟨σ48, eσ48, h⟩ := z_letE h
              refine z_put hB 38 0 kTW_38 (Nat.le_of_ble_eq_true rfl) vc_8 inlX8 tyX8 tyX8_ok nmX8 (Nat.le_of_ble_eq_true rfl) rfl rfl (tyX8_ok 0 (Nat.le_of_ble_eq_true rfl)) fl_X8_9 dX8_go_158 ?_
              refine z_to eσ48 ?_
              exact hj30 _ h
            refine z_if_eq hB (tgt := 134) dX8_go_119 (by decide) (fun c49 => ?_) (fun c49 => ?_)
            · have h := z_ifT c49 h
              refine z_lv [1, 2, 3, 4, 5, 6, 7, 8, 9, 10, 11] rfl ?_
              exact hj44 () h
            · have h := z_ifF c49 h
              refine z_aload_n hB 1 dX8_go_122 rfl rfl ?_
              refine z_get hB 38 4 kTW_38 (Nat.le_of_ble_eq_true rfl) vc_8 inlX8 (Nat.le_of_ble_eq_true rfl) rfl fl_X8_24 dX8_go_123 ?_
              refine z_iload hB 11 dX8_go_126 rfl ?_
              refine z_iadd hB dX8_go_128 ?_
              refine z_iload hB 8 dX8_go_129 rfl ?_
              refine z_icmp_le hB (tgt := 161) dX8_go_131 (by decide) (fun c50 => ?_) (fun c50 => ?_)
              · have h := z_ifT c50 h
                refine z_lv [1, 2, 3, 4, 5, 6, 7, 8, 9, 10, 11] rfl ?_
                exact hj30 _ h
              · have h := z_ifF c50 h
                refine z_lv [1, 2, 3, 4, 5, 6, 7, 8, 9, 10, 11] rfl ?_
                exact hj44 () h
    obtain ⟨j51, ej51, h⟩ := z_letE h
    have hj51 : ∀ (_ : Unit), j51 () = some σz → ZW E G A 12 layTW 40 ad 83 [(0, .ref (ad 38)), (1, .ref (ad 0)), (2, .int p2), (3, .int p3), (4, .int p4), (5, .ref (ad 11)), (6, .int r4), (7, .int x6), (8, .int x8), (9, .int x15), (10, .int x17)] [] σ9 := by
      intro _ h
      rw [ej51] at h
      refine z_iconst hB dX8_go_83 zcI_1 ?_
      refine z_goto hB (tgt := 88) dX8_go_84 (by decide) ?_
      exact hj20 _ h
    refine z_icmp_eq hB (tgt := 83) dX8_go_73 (by decide) (fun c52 => ?_) (fun c52 => ?_)
    · have h := z_ifT c52 h
      refine z_lv [2, 3, 4, 5, 6, 7, 8, 9, 10, 1, 0] rfl ?_
      exact hj51 () h
    · have h := z_ifF c52 h
      refine z_iload hB 1 dX8_go_76 rfl ?_
      refine z_iload hB 6 dX8_go_78 rfl ?_
      refine z_icmp_ne hB (tgt := 87) dX8_go_80 (by decide) (fun c53 => ?_) (fun c53 => ?_)
      · have h := z_ifF c53 h
        refine z_iconst hB dX8_go_87 zcI_0 ?_
        refine z_lv [2, 3, 4, 5, 6, 7, 8, 9, 10, 1, 0] rfl ?_
        exact hj20 _ h
      · have h := z_ifT c53 h
        refine z_lv [2, 3, 4, 5, 6, 7, 8, 9, 10, 1, 0] rfl ?_
        exact hj51 () h
def f_X6_fateOfPapers (p1 : Int32) (σ : z_S) : Option (Int32 × z_S) :=
  z_cki p1 24 <|
  z_let (σ 15 p1.toNatClampNeg) fun x2 =>
  z_b1 (f_X3_cover p1 (σ 0 0) σ) fun r4 =>
  if r4 = (0 : Int32) then
  (if x2 = (-1 : Int32) then
  (some ((5 : Int32), σ))
  else
  (z_cki p1 24 <|
  z_b1 (f_X6_weightOn (σ 0 0) σ) fun r9 =>
  z_cki x2 3 <|
  if ((σ 13 p1.toNatClampNeg) * r9) ≤ (σ 32 x2.toNatClampNeg) then
  (z_b1 (f_X2_dogIsOut p1 (σ 0 0) σ) fun r13 =>
  if r13 = (0 : Int32) then
  (some ((1 : Int32), σ))
  else
  (z_cki x2 3 <|
  if (σ 33 x2.toNatClampNeg) = (0 : Int32) then
  (some ((3 : Int32), σ))
  else
  (z_cki x2 3 <|
  z_cki x2 3 <|
  z_let (z_u σ 33 x2.toNatClampNeg ((σ 33 x2.toNatClampNeg) - (1 : Int32))) fun σ19 =>
  some ((1 : Int32), σ19))))
  else
  (some ((4 : Int32), σ))))
  else
  (some ((2 : Int32), σ))
set_option maxRecDepth 100000 in
set_option maxHeartbeats 4000000 in
theorem c_X6_fateOfPapers (p1 : Int32) (σ : z_S) (r : Int32) (σz : z_S) (h : f_X6_fateOfPapers p1 σ = some (r, σz)) : zMet yX6_fateOfPapers cX6_fateOfPapers 3 (some .int) 2 41 layT 38 (fun ad => [.ref (ad 0), .int p1]) σ (z_QI layT 38 r σz) := by
  refine z_headI RX6 (by decide) rfl (fun _ => Nat.le_of_ble_eq_true rfl) (fun E G A ad hB hret => ?_)
  show ZW E G A 3 layT 38 ad 0 [(0, .ref (ad 0)), (1, .int p1)] [] σ
  unfold f_X6_fateOfPapers at h
  refine z_aload_n hB 0 dX6_fateOfPapers_0 rfl rfl ?_
  refine z_getr hB 0 5 11 kT_0 (Nat.le_of_ble_eq_true rfl) vc_6 inlX6 (Nat.le_of_ble_eq_true rfl) rfl (Nat.le_of_ble_eq_true rfl) fl_X6_35 dX6_fateOfPapers_1 ?_
  refine z_getr hB 11 4 15 kT_11 (Nat.le_of_ble_eq_true rfl) vc_2 inlX2 (Nat.le_of_ble_eq_true rfl) rfl (Nat.le_of_ble_eq_true rfl) fl_X6_105 dX6_fateOfPapers_4 ?_
  refine z_iload_n hB 1 dX6_fateOfPapers_7 rfl rfl ?_
  obtain ⟨h1, h⟩ := z_ckiE h
  refine z_iald hB 15 24 kT_15 (Nat.le_of_ble_eq_true rfl) dX6_fateOfPapers_8 h1 ?_
  obtain ⟨x2, ex2, h⟩ := z_letE h
  refine z_istore_n hB [(2, .int x2), (0, .ref (ad 0)), (1, .int p1)] dX6_fateOfPapers_9 rfl (Nat.le_of_ble_eq_true rfl) ex2 rfl ?_
  refine z_aload_n hB 1 dX6_fateOfPapers_10 rfl rfl ?_
  refine z_getr hB 0 6 26 kT_0 (Nat.le_of_ble_eq_true rfl) vc_6 inlX6 (Nat.le_of_ble_eq_true rfl) rfl (Nat.le_of_ble_eq_true rfl) fl_X6_42 dX6_fateOfPapers_11 ?_
  refine z_iload_n hB 2 dX6_fateOfPapers_14 rfl rfl ?_
  refine z_aload_n hB 1 dX6_fateOfPapers_15 rfl rfl ?_
  refine z_get hB 0 0 kT_0 (Nat.le_of_ble_eq_true rfl) vc_6 inlX6 (Nat.le_of_ble_eq_true rfl) rfl fl_X6_9 dX6_fateOfPapers_16 ?_
  obtain ⟨r4, h3, h⟩ := z_b1E h
  refine z_cI hB (z_rV (ι := fun k => k) hB yY_X3_cover (c_X3_cover _ _ _ _ h3) rfl cut_T z_hid kT_26 (Nat.le_of_ble_eq_true rfl) vc_3 rfl rfl rfl (Nat.le_of_ble_eq_true rfl) ml_X6_160 ⟨Nat.le_of_ble_eq_true rfl, Nat.le_of_ble_eq_true rfl⟩ dX6_fateOfPapers_19) cut_T z_hid ?_
  refine z_toA (z_mro cut_T) ?_
  refine z_if_eq hB (tgt := 27) dX6_fateOfPapers_22 (by decide) (fun c5 => ?_) (fun c5 => ?_)
  · have h := z_ifT c5 h
    refine z_iload_n hB 0 dX6_fateOfPapers_27 rfl rfl ?_
    refine z_iconst hB dX6_fateOfPapers_28 zcI_m1 ?_
    refine z_icmp_ne hB (tgt := 34) dX6_fateOfPapers_29 (by decide) (fun c6 => ?_) (fun c6 => ?_)
    · have h := z_ifF c6 h
      refine z_aload_n hB 1 dX6_fateOfPapers_34 rfl rfl ?_
      refine z_getr hB 0 5 11 kT_0 (Nat.le_of_ble_eq_true rfl) vc_6 inlX6 (Nat.le_of_ble_eq_true rfl) rfl (Nat.le_of_ble_eq_true rfl) fl_X6_35 dX6_fateOfPapers_35 ?_
      refine z_getr hB 11 2 13 kT_11 (Nat.le_of_ble_eq_true rfl) vc_2 inlX2 (Nat.le_of_ble_eq_true rfl) rfl (Nat.le_of_ble_eq_true rfl) fl_X6_150 dX6_fateOfPapers_38 ?_
      refine z_iload_n hB 2 dX6_fateOfPapers_41 rfl rfl ?_
      obtain ⟨h7, h⟩ := z_ckiE h
      refine z_iald hB 13 24 kT_13 (Nat.le_of_ble_eq_true rfl) dX6_fateOfPapers_42 h7 ?_
      refine z_aload_n hB 1 dX6_fateOfPapers_43 rfl rfl ?_
      refine z_aload_n hB 1 dX6_fateOfPapers_44 rfl rfl ?_
      refine z_get hB 0 0 kT_0 (Nat.le_of_ble_eq_true rfl) vc_6 inlX6 (Nat.le_of_ble_eq_true rfl) rfl fl_X6_9 dX6_fateOfPapers_45 ?_
      obtain ⟨r9, h8, h⟩ := z_b1E h
      refine z_cI hB (z_rV (ι := fun k => k) hB yY_X6_weightOn (c_X6_weightOn _ _ _ h8) rfl cut_T z_hid kT_0 (Nat.le_of_ble_eq_true rfl) vc_6 rfl rfl rfl (Nat.le_of_ble_eq_true rfl) ml_X6_163 ⟨Nat.le_of_ble_eq_true rfl, Nat.le_of_ble_eq_true rfl⟩ dX6_fateOfPapers_48) cut_T z_hid ?_
      refine z_toA (z_mro cut_T) ?_
      refine z_imul hB dX6_fateOfPapers_51 ?_
      refine z_aload_n hB 1 dX6_fateOfPapers_52 rfl rfl ?_
      refine z_getr hB 0 7 30 kT_0 (Nat.le_of_ble_eq_true rfl) vc_6 inlX6 (Nat.le_of_ble_eq_true rfl) rfl (Nat.le_of_ble_eq_true rfl) fl_X6_49 dX6_fateOfPapers_53 ?_
      refine z_getr hB 30 2 32 kT_30 (Nat.le_of_ble_eq_true rfl) vc_0 inlX0 (Nat.le_of_ble_eq_true rfl) rfl (Nat.le_of_ble_eq_true rfl) fl_X6_166 dX6_fateOfPapers_56 ?_
      refine z_iload_n hB 0 dX6_fateOfPapers_59 rfl rfl ?_
      obtain ⟨h10, h⟩ := z_ckiE h
      refine z_iald hB 32 3 kT_32 (Nat.le_of_ble_eq_true rfl) dX6_fateOfPapers_60 h10 ?_
      refine z_icmp_le hB (tgt := 66) dX6_fateOfPapers_61 (by decide) (fun c11 => ?_) (fun c11 => ?_)
      · have h := z_ifT c11 h
        refine z_aload_n hB 1 dX6_fateOfPapers_66 rfl rfl ?_
        refine z_getr hB 0 5 11 kT_0 (Nat.le_of_ble_eq_true rfl) vc_6 inlX6 (Nat.le_of_ble_eq_true rfl) rfl (Nat.le_of_ble_eq_true rfl) fl_X6_35 dX6_fateOfPapers_67 ?_
        refine z_iload_n hB 2 dX6_fateOfPapers_70 rfl rfl ?_
        refine z_aload_n hB 1 dX6_fateOfPapers_71 rfl rfl ?_
        refine z_get hB 0 0 kT_0 (Nat.le_of_ble_eq_true rfl) vc_6 inlX6 (Nat.le_of_ble_eq_true rfl) rfl fl_X6_9 dX6_fateOfPapers_72 ?_
        obtain ⟨r13, h12, h⟩ := z_b1E h
        refine z_cI hB (z_rV (ι := fun k => k) hB yY_X2_dogIsOut (c_X2_dogIsOut _ _ _ _ h12) rfl cut_T z_hid kT_11 (Nat.le_of_ble_eq_true rfl) vc_2 rfl rfl rfl (Nat.le_of_ble_eq_true rfl) ml_X6_169 ⟨Nat.le_of_ble_eq_true rfl, Nat.le_of_ble_eq_true rfl⟩ dX6_fateOfPapers_75) cut_T z_hid ?_
        refine z_toA (z_mro cut_T) ?_
        refine z_if_eq hB (tgt := 108) dX6_fateOfPapers_78 (by decide) (fun c14 => ?_) (fun c14 => ?_)
        · have h := z_ifT c14 h
          refine z_iconst hB dX6_fateOfPapers_108 zcI_1 ?_
          obtain ⟨h1, h2⟩ := z_prE h
          exact hret _ _ _ _ h1 h2 rfl dX6_fateOfPapers_109
        · have h := z_ifF c14 h
          refine z_aload_n hB 1 dX6_fateOfPapers_81 rfl rfl ?_
          refine z_getr hB 0 7 30 kT_0 (Nat.le_of_ble_eq_true rfl) vc_6 inlX6 (Nat.le_of_ble_eq_true rfl) rfl (Nat.le_of_ble_eq_true rfl) fl_X6_49 dX6_fateOfPapers_82 ?_
          refine z_getr hB 30 3 33 kT_30 (Nat.le_of_ble_eq_true rfl) vc_0 inlX0 (Nat.le_of_ble_eq_true rfl) rfl (Nat.le_of_ble_eq_true rfl) fl_X6_116 dX6_fateOfPapers_85 ?_
          refine z_iload_n hB 0 dX6_fateOfPapers_88 rfl rfl ?_
          obtain ⟨h15, h⟩ := z_ckiE h
          refine z_iald hB 33 3 kT_33 (Nat.le_of_ble_eq_true rfl) dX6_fateOfPapers_89 h15 ?_
          refine z_if_ne hB (tgt := 95) dX6_fateOfPapers_90 (by decide) (fun c16 => ?_) (fun c16 => ?_)
          · have h := z_ifF c16 h
            refine z_aload_n hB 1 dX6_fateOfPapers_95 rfl rfl ?_
            refine z_getr hB 0 7 30 kT_0 (Nat.le_of_ble_eq_true rfl) vc_6 inlX6 (Nat.le_of_ble_eq_true rfl) rfl (Nat.le_of_ble_eq_true rfl) fl_X6_49 dX6_fateOfPapers_96 ?_
            refine z_getr hB 30 3 33 kT_30 (Nat.le_of_ble_eq_true rfl) vc_0 inlX0 (Nat.le_of_ble_eq_true rfl) rfl (Nat.le_of_ble_eq_true rfl) fl_X6_116 dX6_fateOfPapers_99 ?_
            refine z_iload_n hB 0 dX6_fateOfPapers_102 rfl rfl ?_
            refine z_dup2 hB dX6_fateOfPapers_103 rfl rfl ?_
            obtain ⟨h17, h⟩ := z_ckiE h
            refine z_iald hB 33 3 kT_33 (Nat.le_of_ble_eq_true rfl) dX6_fateOfPapers_104 h17 ?_
            refine z_iconst hB dX6_fateOfPapers_105 zcI_1 ?_
            refine z_isub hB dX6_fateOfPapers_106 ?_
            obtain ⟨h18, h⟩ := z_ckiE h
            obtain ⟨σ19, eσ19, h⟩ := z_letE h
            refine z_iast hB 33 3 kT_33 (Nat.le_of_ble_eq_true rfl) dX6_fateOfPapers_107 h18 ?_
            refine z_to eσ19 ?_
            refine z_iconst hB dX6_fateOfPapers_108 zcI_1 ?_
            obtain ⟨h1, h2⟩ := z_prE h
            exact hret _ _ _ _ h1 h2 rfl dX6_fateOfPapers_109
          · have h := z_ifT c16 h
            refine z_iconst hB dX6_fateOfPapers_93 zcI_3 ?_
            obtain ⟨h1, h2⟩ := z_prE h
            exact hret _ _ _ _ h1 h2 rfl dX6_fateOfPapers_94
      · have h := z_ifF c11 h
        refine z_iconst hB dX6_fateOfPapers_64 zcI_4 ?_
        obtain ⟨h1, h2⟩ := z_prE h
        exact hret _ _ _ _ h1 h2 rfl dX6_fateOfPapers_65
    · have h := z_ifT c6 h
      refine z_iconst hB dX6_fateOfPapers_32 zcI_5 ?_
      obtain ⟨h1, h2⟩ := z_prE h
      exact hret _ _ _ _ h1 h2 rfl dX6_fateOfPapers_33
  · have h := z_ifF c5 h
    refine z_iconst hB dX6_fateOfPapers_25 zcI_2 ?_
    obtain ⟨h1, h2⟩ := z_prE h
    exact hret _ _ _ _ h1 h2 rfl dX6_fateOfPapers_26
def f_X6_book (p1 : Int32) (p2 : Int32) (p3 : Int32) (σ : z_S) : Option z_S :=
  if p3 = (2 : Int32) then
  (z_cki p1 24 <|
  z_cki p1 24 <|
  z_let (z_u σ 19 p1.toNatClampNeg ((σ 19 p1.toNatClampNeg) + p2)) fun σ26 =>
  some σ26)
  else
  (if p3 = (1 : Int32) then
  (z_cki p1 24 <|
  z_cki p1 24 <|
  z_let (z_u σ 18 p1.toNatClampNeg ((σ 18 p1.toNatClampNeg) + p2)) fun σ16 =>
  z_cki p1 24 <|
  z_cki p1 24 <|
  z_let (z_u σ16 24 p1.toNatClampNeg ((σ16 24 p1.toNatClampNeg) + p2)) fun σ19 =>
  z_cki p1 24 <|
  z_cki (σ19 15 p1.toNatClampNeg) 3 <|
  z_cki (σ19 15 p1.toNatClampNeg) 3 <|
  z_let (z_u σ19 37 (σ19 15 p1.toNatClampNeg).toNatClampNeg ((σ19 37 (σ19 15 p1.toNatClampNeg).toNatClampNeg) + p2)) fun σ23 =>
  some σ23)
  else
  (if p3 = (5 : Int32) then
  (z_cki p1 24 <|
  z_cki p1 24 <|
  z_let (z_u σ 21 p1.toNatClampNeg ((σ 21 p1.toNatClampNeg) + p2)) fun σ11 =>
  z_b1 (f_X2_complain p1 σ11) fun σ13 =>
  some σ13)
  else
  (z_cki p1 24 <|
  z_cki p1 24 <|
  z_let (z_u σ 20 p1.toNatClampNeg ((σ 20 p1.toNatClampNeg) + p2)) fun σ6 =>
  z_b1 (f_X2_complain p1 σ6) fun σ8 =>
  some σ8)))
set_option maxRecDepth 100000 in
set_option maxHeartbeats 4000000 in
theorem c_X6_book (p1 : Int32) (p2 : Int32) (p3 : Int32) (σ σz : z_S) (h : f_X6_book p1 p2 p3 σ = some σz) : zMet yX6_book cX6_book 4 none 1 21 layT 38 (fun ad => [.ref (ad 0), .int p1, .int p2, .int p3]) σ (z_QV layT 38 σz) := by
  refine z_headV RX6 (by decide) rfl (fun _ => Nat.le_of_ble_eq_true rfl) (fun E G A ad hB hret => ?_)
  show ZW E G A 4 layT 38 ad 0 [(0, .ref (ad 0)), (1, .int p1), (2, .int p2), (3, .int p3)] [] σ
  unfold f_X6_book at h
  refine z_iload_n hB 3 dX6_book_0 rfl rfl ?_
  refine z_iconst hB dX6_book_1 zcI_2 ?_
  refine z_icmp_ne hB (tgt := 21) dX6_book_2 (by decide) (fun c1 => ?_) (fun c1 => ?_)
  · have h := z_ifF c1 h
    refine z_iload_n hB 3 dX6_book_21 rfl rfl ?_
    refine z_iconst hB dX6_book_22 zcI_1 ?_
    refine z_icmp_ne hB (tgt := 76) dX6_book_23 (by decide) (fun c2 => ?_) (fun c2 => ?_)
    · have h := z_ifF c2 h
      refine z_iload_n hB 3 dX6_book_76 rfl rfl ?_
      refine z_iconst hB dX6_book_77 zcI_5 ?_
      refine z_icmp_ne hB (tgt := 105) dX6_book_78 (by decide) (fun c3 => ?_) (fun c3 => ?_)
      · have h := z_ifF c3 h
        refine z_aload_n hB 0 dX6_book_105 rfl rfl ?_
        refine z_getr hB 0 5 11 kT_0 (Nat.le_of_ble_eq_true rfl) vc_6 inlX6 (Nat.le_of_ble_eq_true rfl) rfl (Nat.le_of_ble_eq_true rfl) fl_X6_35 dX6_book_106 ?_
        refine z_getr hB 11 9 20 kT_11 (Nat.le_of_ble_eq_true rfl) vc_2 inlX2 (Nat.le_of_ble_eq_true rfl) rfl (Nat.le_of_ble_eq_true rfl) fl_X6_189 dX6_book_109 ?_
        refine z_iload_n hB 1 dX6_book_112 rfl rfl ?_
        refine z_dup2 hB dX6_book_113 rfl rfl ?_
        obtain ⟨h4, h⟩ := z_ckiE h
        refine z_iald hB 20 24 kT_20 (Nat.le_of_ble_eq_true rfl) dX6_book_114 h4 ?_
        refine z_iload_n hB 2 dX6_book_115 rfl rfl ?_
        refine z_iadd hB dX6_book_116 ?_
        obtain ⟨h5, h⟩ := z_ckiE h
        obtain ⟨σ6, eσ6, h⟩ := z_letE h
        refine z_iast hB 20 24 kT_20 (Nat.le_of_ble_eq_true rfl) dX6_book_117 h5 ?_
        refine z_to eσ6 ?_
        refine z_aload_n hB 0 dX6_book_118 rfl rfl ?_
        refine z_getr hB 0 5 11 kT_0 (Nat.le_of_ble_eq_true rfl) vc_6 inlX6 (Nat.le_of_ble_eq_true rfl) rfl (Nat.le_of_ble_eq_true rfl) fl_X6_35 dX6_book_119 ?_
        refine z_iload_n hB 1 dX6_book_122 rfl rfl ?_
        obtain ⟨σ8, h7, h⟩ := z_b1E h
        refine z_cV hB (z_rV (ι := fun k => k) hB yY_X2_complain (c_X2_complain _ _ _ h7) rfl cut_T z_hid kT_11 (Nat.le_of_ble_eq_true rfl) vc_2 rfl rfl rfl (Nat.le_of_ble_eq_true rfl) ml_X6_185 ⟨Nat.le_of_ble_eq_true rfl, Nat.le_of_ble_eq_true rfl⟩ dX6_book_123) cut_T z_hid ?_
        refine z_toA z_mid ?_
        exact hret _ _ _ (Option.some.inj h) dX6_book_126
      · have h := z_ifT c3 h
        refine z_aload_n hB 0 dX6_book_81 rfl rfl ?_
        refine z_getr hB 0 5 11 kT_0 (Nat.le_of_ble_eq_true rfl) vc_6 inlX6 (Nat.le_of_ble_eq_true rfl) rfl (Nat.le_of_ble_eq_true rfl) fl_X6_35 dX6_book_82 ?_
        refine z_getr hB 11 10 21 kT_11 (Nat.le_of_ble_eq_true rfl) vc_2 inlX2 (Nat.le_of_ble_eq_true rfl) rfl (Nat.le_of_ble_eq_true rfl) fl_X6_182 dX6_book_85 ?_
        refine z_iload_n hB 1 dX6_book_88 rfl rfl ?_
        refine z_dup2 hB dX6_book_89 rfl rfl ?_
        obtain ⟨h9, h⟩ := z_ckiE h
        refine z_iald hB 21 24 kT_21 (Nat.le_of_ble_eq_true rfl) dX6_book_90 h9 ?_
        refine z_iload_n hB 2 dX6_book_91 rfl rfl ?_
        refine z_iadd hB dX6_book_92 ?_
        obtain ⟨h10, h⟩ := z_ckiE h
        obtain ⟨σ11, eσ11, h⟩ := z_letE h
        refine z_iast hB 21 24 kT_21 (Nat.le_of_ble_eq_true rfl) dX6_book_93 h10 ?_
        refine z_to eσ11 ?_
        refine z_aload_n hB 0 dX6_book_94 rfl rfl ?_
        refine z_getr hB 0 5 11 kT_0 (Nat.le_of_ble_eq_true rfl) vc_6 inlX6 (Nat.le_of_ble_eq_true rfl) rfl (Nat.le_of_ble_eq_true rfl) fl_X6_35 dX6_book_95 ?_
        refine z_iload_n hB 1 dX6_book_98 rfl rfl ?_
        obtain ⟨σ13, h12, h⟩ := z_b1E h
        refine z_cV hB (z_rV (ι := fun k => k) hB yY_X2_complain (c_X2_complain _ _ _ h12) rfl cut_T z_hid kT_11 (Nat.le_of_ble_eq_true rfl) vc_2 rfl rfl rfl (Nat.le_of_ble_eq_true rfl) ml_X6_185 ⟨Nat.le_of_ble_eq_true rfl, Nat.le_of_ble_eq_true rfl⟩ dX6_book_99) cut_T z_hid ?_
        refine z_toA z_mid ?_
        refine z_goto hB (tgt := 126) dX6_book_102 (by decide) ?_
        exact hret _ _ _ (Option.some.inj h) dX6_book_126
    · have h := z_ifT c2 h
      refine z_aload_n hB 0 dX6_book_26 rfl rfl ?_
      refine z_getr hB 0 5 11 kT_0 (Nat.le_of_ble_eq_true rfl) vc_6 inlX6 (Nat.le_of_ble_eq_true rfl) rfl (Nat.le_of_ble_eq_true rfl) fl_X6_35 dX6_book_27 ?_
      refine z_getr hB 11 7 18 kT_11 (Nat.le_of_ble_eq_true rfl) vc_2 inlX2 (Nat.le_of_ble_eq_true rfl) rfl (Nat.le_of_ble_eq_true rfl) fl_X6_175 dX6_book_30 ?_
      refine z_iload_n hB 1 dX6_book_33 rfl rfl ?_
      refine z_dup2 hB dX6_book_34 rfl rfl ?_
      obtain ⟨h14, h⟩ := z_ckiE h
      refine z_iald hB 18 24 kT_18 (Nat.le_of_ble_eq_true rfl) dX6_book_35 h14 ?_
      refine z_iload_n hB 2 dX6_book_36 rfl rfl ?_
      refine z_iadd hB dX6_book_37 ?_
      obtain ⟨h15, h⟩ := z_ckiE h
      obtain ⟨σ16, eσ16, h⟩ := z_letE h
      refine z_iast hB 18 24 kT_18 (Nat.le_of_ble_eq_true rfl) dX6_book_38 h15 ?_
      refine z_to eσ16 ?_
      refine z_aload_n hB 0 dX6_book_39 rfl rfl ?_
      refine z_getr hB 0 5 11 kT_0 (Nat.le_of_ble_eq_true rfl) vc_6 inlX6 (Nat.le_of_ble_eq_true rfl) rfl (Nat.le_of_ble_eq_true rfl) fl_X6_35 dX6_book_40 ?_
      refine z_getr hB 11 13 24 kT_11 (Nat.le_of_ble_eq_true rfl) vc_2 inlX2 (Nat.le_of_ble_eq_true rfl) rfl (Nat.le_of_ble_eq_true rfl) fl_X6_178 dX6_book_43 ?_
      refine z_iload_n hB 1 dX6_book_46 rfl rfl ?_
      refine z_dup2 hB dX6_book_47 rfl rfl ?_
      obtain ⟨h17, h⟩ := z_ckiE h
      refine z_iald hB 24 24 kT_24 (Nat.le_of_ble_eq_true rfl) dX6_book_48 h17 ?_
      refine z_iload_n hB 2 dX6_book_49 rfl rfl ?_
      refine z_iadd hB dX6_book_50 ?_
      obtain ⟨h18, h⟩ := z_ckiE h
      obtain ⟨σ19, eσ19, h⟩ := z_letE h
      refine z_iast hB 24 24 kT_24 (Nat.le_of_ble_eq_true rfl) dX6_book_51 h18 ?_
      refine z_to eσ19 ?_
      refine z_aload_n hB 0 dX6_book_52 rfl rfl ?_
      refine z_getr hB 0 7 30 kT_0 (Nat.le_of_ble_eq_true rfl) vc_6 inlX6 (Nat.le_of_ble_eq_true rfl) rfl (Nat.le_of_ble_eq_true rfl) fl_X6_49 dX6_book_53 ?_
      refine z_getr hB 30 7 37 kT_30 (Nat.le_of_ble_eq_true rfl) vc_0 inlX0 (Nat.le_of_ble_eq_true rfl) rfl (Nat.le_of_ble_eq_true rfl) fl_X6_181 dX6_book_56 ?_
      refine z_aload_n hB 0 dX6_book_59 rfl rfl ?_
      refine z_getr hB 0 5 11 kT_0 (Nat.le_of_ble_eq_true rfl) vc_6 inlX6 (Nat.le_of_ble_eq_true rfl) rfl (Nat.le_of_ble_eq_true rfl) fl_X6_35 dX6_book_60 ?_
      refine z_getr hB 11 4 15 kT_11 (Nat.le_of_ble_eq_true rfl) vc_2 inlX2 (Nat.le_of_ble_eq_true rfl) rfl (Nat.le_of_ble_eq_true rfl) fl_X6_105 dX6_book_63 ?_
      refine z_iload_n hB 1 dX6_book_66 rfl rfl ?_
      obtain ⟨h20, h⟩ := z_ckiE h
      refine z_iald hB 15 24 kT_15 (Nat.le_of_ble_eq_true rfl) dX6_book_67 h20 ?_
      refine z_dup2 hB dX6_book_68 rfl rfl ?_
      obtain ⟨h21, h⟩ := z_ckiE h
      refine z_iald hB 37 3 kT_37 (Nat.le_of_ble_eq_true rfl) dX6_book_69 h21 ?_
      refine z_iload_n hB 2 dX6_book_70 rfl rfl ?_
      refine z_iadd hB dX6_book_71 ?_
      obtain ⟨h22, h⟩ := z_ckiE h
      obtain ⟨σ23, eσ23, h⟩ := z_letE h
      refine z_iast hB 37 3 kT_37 (Nat.le_of_ble_eq_true rfl) dX6_book_72 h22 ?_
      refine z_to eσ23 ?_
      refine z_goto hB (tgt := 126) dX6_book_73 (by decide) ?_
      exact hret _ _ _ (Option.some.inj h) dX6_book_126
  · have h := z_ifT c1 h
    refine z_aload_n hB 0 dX6_book_5 rfl rfl ?_
    refine z_getr hB 0 5 11 kT_0 (Nat.le_of_ble_eq_true rfl) vc_6 inlX6 (Nat.le_of_ble_eq_true rfl) rfl (Nat.le_of_ble_eq_true rfl) fl_X6_35 dX6_book_6 ?_
    refine z_getr hB 11 8 19 kT_11 (Nat.le_of_ble_eq_true rfl) vc_2 inlX2 (Nat.le_of_ble_eq_true rfl) rfl (Nat.le_of_ble_eq_true rfl) fl_X6_172 dX6_book_9 ?_
    refine z_iload_n hB 1 dX6_book_12 rfl rfl ?_
    refine z_dup2 hB dX6_book_13 rfl rfl ?_
    obtain ⟨h24, h⟩ := z_ckiE h
    refine z_iald hB 19 24 kT_19 (Nat.le_of_ble_eq_true rfl) dX6_book_14 h24 ?_
    refine z_iload_n hB 2 dX6_book_15 rfl rfl ?_
    refine z_iadd hB dX6_book_16 ?_
    obtain ⟨h25, h⟩ := z_ckiE h
    obtain ⟨σ26, eσ26, h⟩ := z_letE h
    refine z_iast hB 19 24 kT_19 (Nat.le_of_ble_eq_true rfl) dX6_book_17 h25 ?_
    refine z_to eσ26 ?_
    refine z_goto hB (tgt := 126) dX6_book_18 (by decide) ?_
    exact hret _ _ _ (Option.some.inj h) dX6_book_126
def lb_X6_bringPapers_2 (k1 : Int32 → z_S → Option z_S) (x2 : Int32) (σ3 : z_S) : Option z_S :=
  if (σ3 11 0) ≤ x2 then
  (some σ3)
  else
  (z_cki x2 24 <|
  z_let (σ3 25 x2.toNatClampNeg) fun x6 =>
  z_cki x6 24 <|
  z_let (σ3 13 x6.toNatClampNeg) fun x8 =>
  z_b2 (f_X6_fateOfPapers x6 σ3) fun r11 σ10 =>
  z_cki (0 : Int32) 6 <|
  z_cki (0 : Int32) 6 <|
  z_let (z_u σ10 1 (0 : Int32).toNatClampNeg ((σ10 1 (0 : Int32).toNatClampNeg) + x8)) fun σ14 =>
  z_cki r11 6 <|
  z_cki r11 6 <|
  z_let (z_u σ14 1 r11.toNatClampNeg ((σ14 1 r11.toNatClampNeg) + x8)) fun σ17 =>
  z_b1 (f_X6_book x6 x8 r11 σ17) fun σ19 =>
  z_let (x2 + (1 : Int32)) fun x20 =>
  k1 x20 σ19)
def f_X6_bringPapers (σ : z_S) : Option z_S :=
  z_lp2 lb_X6_bringPapers_2 z_Fu (0 : Int32) σ
set_option maxRecDepth 100000 in
set_option maxHeartbeats 4000000 in
theorem c_X6_bringPapers (σ σz : z_S) (h : f_X6_bringPapers σ = some σz) : zMet yX6_bringPapers cX6_bringPapers 5 none 3 63 layT 38 (fun ad => [.ref (ad 0)]) σ (z_QV layT 38 σz) := by
  refine z_headV RX6 (by decide) rfl (fun _ => Nat.le_of_ble_eq_true rfl) (fun E G A ad hB hret => ?_)
  show ZW E G A 5 layT 38 ad 0 [(0, .ref (ad 0))] [] σ
  unfold f_X6_bringPapers at h
  refine z_iconst hB dX6_bringPapers_0 zcI_0 ?_
  refine z_istore_n hB [(1, .int ((0 : Int32))), (0, .ref (ad 0))] dX6_bringPapers_1 rfl (Nat.le_of_ble_eq_true rfl) rfl rfl ?_
  refine z_lv [1, 0] rfl ?_
  refine z_lpr2 (g := fun x2 σ3 => ZW E G A 5 layT 38 ad 2 [(0, .ref (ad 0)), (1, .int x2)] [] σ3) (fun k1 x2 σ3 hk_k1 h => ?_) _ _ _ h
  show ZW E G A 5 layT 38 ad 2 [(0, .ref (ad 0)), (1, .int x2)] [] σ3
  unfold lb_X6_bringPapers_2 at h
  refine z_iload_n hB 1 dX6_bringPapers_2 rfl rfl ?_
  refine z_aload_n hB 0 dX6_bringPapers_3 rfl rfl ?_
  refine z_getr hB 0 5 11 kT_0 (Nat.le_of_ble_eq_true rfl) vc_6 inlX6 (Nat.le_of_ble_eq_true rfl) rfl (Nat.le_of_ble_eq_true rfl) fl_X6_35 dX6_bringPapers_4 ?_
  refine z_get hB 11 0 kT_11 (Nat.le_of_ble_eq_true rfl) vc_2 inlX2 (Nat.le_of_ble_eq_true rfl) rfl fl_X6_85 dX6_bringPapers_7 ?_
  refine z_icmp_ge hB (tgt := 75) dX6_bringPapers_10 (by decide) (fun c4 => ?_) (fun c4 => ?_)
  · have h := z_ifT c4 h
    exact hret _ _ _ (Option.some.inj h) dX6_bringPapers_75
  · have h := z_ifF c4 h
    refine z_aload_n hB 0 dX6_bringPapers_13 rfl rfl ?_
    refine z_getr hB 0 5 11 kT_0 (Nat.le_of_ble_eq_true rfl) vc_6 inlX6 (Nat.le_of_ble_eq_true rfl) rfl (Nat.le_of_ble_eq_true rfl) fl_X6_35 dX6_bringPapers_14 ?_
    refine z_getr hB 11 14 25 kT_11 (Nat.le_of_ble_eq_true rfl) vc_2 inlX2 (Nat.le_of_ble_eq_true rfl) rfl (Nat.le_of_ble_eq_true rfl) fl_X6_147 dX6_bringPapers_17 ?_
    refine z_iload_n hB 1 dX6_bringPapers_20 rfl rfl ?_
    obtain ⟨h5, h⟩ := z_ckiE h
    refine z_iald hB 25 24 kT_25 (Nat.le_of_ble_eq_true rfl) dX6_bringPapers_21 h5 ?_
    obtain ⟨x6, ex6, h⟩ := z_letE h
    refine z_istore_n hB [(2, .int x6), (0, .ref (ad 0)), (1, .int x2)] dX6_bringPapers_22 rfl (Nat.le_of_ble_eq_true rfl) ex6 rfl ?_
    refine z_aload_n hB 1 dX6_bringPapers_23 rfl rfl ?_
    refine z_getr hB 0 5 11 kT_0 (Nat.le_of_ble_eq_true rfl) vc_6 inlX6 (Nat.le_of_ble_eq_true rfl) rfl (Nat.le_of_ble_eq_true rfl) fl_X6_35 dX6_bringPapers_24 ?_
    refine z_getr hB 11 2 13 kT_11 (Nat.le_of_ble_eq_true rfl) vc_2 inlX2 (Nat.le_of_ble_eq_true rfl) rfl (Nat.le_of_ble_eq_true rfl) fl_X6_150 dX6_bringPapers_27 ?_
    refine z_iload_n hB 0 dX6_bringPapers_30 rfl rfl ?_
    obtain ⟨h7, h⟩ := z_ckiE h
    refine z_iald hB 13 24 kT_13 (Nat.le_of_ble_eq_true rfl) dX6_bringPapers_31 h7 ?_
    obtain ⟨x8, ex8, h⟩ := z_letE h
    refine z_istore_n hB [(3, .int x8), (2, .int x6), (0, .ref (ad 0)), (1, .int x2)] dX6_bringPapers_32 rfl (Nat.le_of_ble_eq_true rfl) ex8 rfl ?_
    refine z_aload_n hB 2 dX6_bringPapers_33 rfl rfl ?_
    refine z_iload_n hB 1 dX6_bringPapers_34 rfl rfl ?_
    obtain ⟨r11, σ10, h9, h⟩ := z_b2E h
    refine z_cI hB (z_rV (ι := fun k => k) hB yY_X6_fateOfPapers (c_X6_fateOfPapers _ _ _ _ h9) rfl cut_T z_hid kT_0 (Nat.le_of_ble_eq_true rfl) vc_6 rfl rfl rfl (Nat.le_of_ble_eq_true rfl) ml_X6_153 ⟨Nat.le_of_ble_eq_true rfl, Nat.le_of_ble_eq_true rfl⟩ dX6_bringPapers_35) cut_T z_hid ?_
    refine z_toA z_mid ?_
    refine z_istore hB [(4, .int r11), (3, .int x8), (2, .int x6), (0, .ref (ad 0)), (1, .int x2)] dX6_bringPapers_38 (Nat.le_of_ble_eq_true rfl) rfl rfl ?_
    refine z_aload_n hB 3 dX6_bringPapers_40 rfl rfl ?_
    refine z_getr hB 0 3 1 kT_0 (Nat.le_of_ble_eq_true rfl) vc_6 inlX6 (Nat.le_of_ble_eq_true rfl) rfl (Nat.le_of_ble_eq_true rfl) fl_X6_21 dX6_bringPapers_41 ?_
    refine z_iconst hB dX6_bringPapers_44 zcI_0 ?_
    refine z_dup2 hB dX6_bringPapers_45 rfl rfl ?_
    obtain ⟨h12, h⟩ := z_ckiE h
    refine z_iald hB 1 6 kT_1 (Nat.le_of_ble_eq_true rfl) dX6_bringPapers_46 h12 ?_
    refine z_iload_n hB 1 dX6_bringPapers_47 rfl rfl ?_
    refine z_iadd hB dX6_bringPapers_48 ?_
    obtain ⟨h13, h⟩ := z_ckiE h
    obtain ⟨σ14, eσ14, h⟩ := z_letE h
    refine z_iast hB 1 6 kT_1 (Nat.le_of_ble_eq_true rfl) dX6_bringPapers_49 h13 ?_
    refine z_to eσ14 ?_
    refine z_aload_n hB 3 dX6_bringPapers_50 rfl rfl ?_
    refine z_getr hB 0 3 1 kT_0 (Nat.le_of_ble_eq_true rfl) vc_6 inlX6 (Nat.le_of_ble_eq_true rfl) rfl (Nat.le_of_ble_eq_true rfl) fl_X6_21 dX6_bringPapers_51 ?_
    refine z_iload hB 0 dX6_bringPapers_54 rfl ?_
    refine z_dup2 hB dX6_bringPapers_56 rfl rfl ?_
    obtain ⟨h15, h⟩ := z_ckiE h
    refine z_iald hB 1 6 kT_1 (Nat.le_of_ble_eq_true rfl) dX6_bringPapers_57 h15 ?_
    refine z_iload_n hB 1 dX6_bringPapers_58 rfl rfl ?_
    refine z_iadd hB dX6_bringPapers_59 ?_
    obtain ⟨h16, h⟩ := z_ckiE h
    obtain ⟨σ17, eσ17, h⟩ := z_letE h
    refine z_iast hB 1 6 kT_1 (Nat.le_of_ble_eq_true rfl) dX6_bringPapers_60 h16 ?_
    refine z_to eσ17 ?_
    refine z_aload_n hB 3 dX6_bringPapers_61 rfl rfl ?_
    refine z_iload_n hB 2 dX6_bringPapers_62 rfl rfl ?_
    refine z_iload_n hB 1 dX6_bringPapers_63 rfl rfl ?_
    refine z_iload hB 0 dX6_bringPapers_64 rfl ?_
    obtain ⟨σ19, h18, h⟩ := z_b1E h
    refine z_cV hB (z_rV (ι := fun k => k) hB yY_X6_book (c_X6_book _ _ _ _ _ h18) rfl cut_T z_hid kT_0 (Nat.le_of_ble_eq_true rfl) vc_6 rfl rfl rfl (Nat.le_of_ble_eq_true rfl) ml_X6_156 ⟨Nat.le_of_ble_eq_true rfl, Nat.le_of_ble_eq_true rfl⟩ dX6_bringPapers_66) cut_T z_hid ?_
    refine z_toA z_mid ?_
    obtain ⟨x20, ex20, h⟩ := z_letE h
    refine z_iinc hB 4 [(1, .int x20), (4, .int r11), (3, .int x8), (2, .int x6), (0, .ref (ad 0))] dX6_bringPapers_69 rfl (by rw [zcI_1]; exact ex20) (Nat.le_of_ble_eq_true rfl) rfl ?_
    refine z_goto hB (tgt := 2) dX6_bringPapers_72 (by decide) ?_
    refine z_lv [4, 0] rfl ?_
    exact hk_k1 _ _ h
def lb_X6_payTips_2 (k1 : Int32 → z_S → Option z_S) (x2 : Int32) (σ3 : z_S) : Option z_S :=
  if (σ3 11 0) ≤ x2 then
  (some σ3)
  else
  (z_cki x2 24 <|
  z_let (σ3 15 x2.toNatClampNeg) fun x6 =>
  z_let (fun (σ7 : z_S) => z_let (x2 + (1 : Int32)) fun x9 =>
  k1 x9 σ7) fun j8 =>
  if x6 = (-1 : Int32) then
  (j8 σ3)
  else
  (z_cki x6 3 <|
  z_b1 (f_X2_tipNow x2 σ3) fun r13 =>
  z_cki x6 3 <|
  z_let (z_u σ3 36 x6.toNatClampNeg ((σ3 36 x6.toNatClampNeg) + r13)) fun σ15 =>
  j8 σ15))
def f_X6_payTips (σ : z_S) : Option z_S :=
  z_lp2 lb_X6_payTips_2 z_Fu (0 : Int32) σ
set_option maxRecDepth 100000 in
set_option maxHeartbeats 4000000 in
theorem c_X6_payTips (σ σz : z_S) (h : f_X6_payTips σ = some σz) : zMet yX6_payTips cX6_payTips 3 none 1 21 layT 38 (fun ad => [.ref (ad 0)]) σ (z_QV layT 38 σz) := by
  refine z_headV RX6 (by decide) rfl (fun _ => Nat.le_of_ble_eq_true rfl) (fun E G A ad hB hret => ?_)
  show ZW E G A 3 layT 38 ad 0 [(0, .ref (ad 0))] [] σ
  unfold f_X6_payTips at h
  refine z_iconst hB dX6_payTips_0 zcI_0 ?_
  refine z_istore_n hB [(1, .int ((0 : Int32))), (0, .ref (ad 0))] dX6_payTips_1 rfl (Nat.le_of_ble_eq_true rfl) rfl rfl ?_
  refine z_lv [1, 0] rfl ?_
  refine z_lpr2 (g := fun x2 σ3 => ZW E G A 3 layT 38 ad 2 [(0, .ref (ad 0)), (1, .int x2)] [] σ3) (fun k1 x2 σ3 hk_k1 h => ?_) _ _ _ h
  show ZW E G A 3 layT 38 ad 2 [(0, .ref (ad 0)), (1, .int x2)] [] σ3
  unfold lb_X6_payTips_2 at h
  refine z_iload_n hB 1 dX6_payTips_2 rfl rfl ?_
  refine z_aload_n hB 0 dX6_payTips_3 rfl rfl ?_
  refine z_getr hB 0 5 11 kT_0 (Nat.le_of_ble_eq_true rfl) vc_6 inlX6 (Nat.le_of_ble_eq_true rfl) rfl (Nat.le_of_ble_eq_true rfl) fl_X6_35 dX6_payTips_4 ?_
  refine z_get hB 11 0 kT_11 (Nat.le_of_ble_eq_true rfl) vc_2 inlX2 (Nat.le_of_ble_eq_true rfl) rfl fl_X6_85 dX6_payTips_7 ?_
  refine z_icmp_ge hB (tgt := 54) dX6_payTips_10 (by decide) (fun c4 => ?_) (fun c4 => ?_)
  · have h := z_ifT c4 h
    exact hret _ _ _ (Option.some.inj h) dX6_payTips_54
  · have h := z_ifF c4 h
    refine z_aload_n hB 0 dX6_payTips_13 rfl rfl ?_
    refine z_getr hB 0 5 11 kT_0 (Nat.le_of_ble_eq_true rfl) vc_6 inlX6 (Nat.le_of_ble_eq_true rfl) rfl (Nat.le_of_ble_eq_true rfl) fl_X6_35 dX6_payTips_14 ?_
    refine z_getr hB 11 4 15 kT_11 (Nat.le_of_ble_eq_true rfl) vc_2 inlX2 (Nat.le_of_ble_eq_true rfl) rfl (Nat.le_of_ble_eq_true rfl) fl_X6_105 dX6_payTips_17 ?_
    refine z_iload_n hB 1 dX6_payTips_20 rfl rfl ?_
    obtain ⟨h5, h⟩ := z_ckiE h
    refine z_iald hB 15 24 kT_15 (Nat.le_of_ble_eq_true rfl) dX6_payTips_21 h5 ?_
    obtain ⟨x6, ex6, h⟩ := z_letE h
    refine z_istore_n hB [(2, .int x6), (0, .ref (ad 0)), (1, .int x2)] dX6_payTips_22 rfl (Nat.le_of_ble_eq_true rfl) ex6 rfl ?_
    refine z_iload_n hB 0 dX6_payTips_23 rfl rfl ?_
    refine z_iconst hB dX6_payTips_24 zcI_m1 ?_
    obtain ⟨j8, ej8, h⟩ := z_letE h
    have hj8 : ∀ (σ7 : z_S), j8 σ7 = some σz → ZW E G A 3 layT 38 ad 48 [(0, .ref (ad 0)), (1, .int x2)] [] σ7 := by
      intro σ7 h
      rw [ej8] at h
      obtain ⟨x9, ex9, h⟩ := z_letE h
      refine z_iinc hB 1 [(1, .int x9), (0, .ref (ad 0))] dX6_payTips_48 rfl (by rw [zcI_1]; exact ex9) (Nat.le_of_ble_eq_true rfl) rfl ?_
      refine z_goto hB (tgt := 2) dX6_payTips_51 (by decide) ?_
      refine z_lv [1, 0] rfl ?_
      exact hk_k1 _ _ h
    refine z_icmp_eq hB (tgt := 48) dX6_payTips_25 (by decide) (fun c10 => ?_) (fun c10 => ?_)
    · have h := z_ifT c10 h
      refine z_lv [1, 2] rfl ?_
      exact hj8 _ h
    · have h := z_ifF c10 h
      refine z_aload_n hB 1 dX6_payTips_28 rfl rfl ?_
      refine z_getr hB 0 7 30 kT_0 (Nat.le_of_ble_eq_true rfl) vc_6 inlX6 (Nat.le_of_ble_eq_true rfl) rfl (Nat.le_of_ble_eq_true rfl) fl_X6_49 dX6_payTips_29 ?_
      refine z_getr hB 30 6 36 kT_30 (Nat.le_of_ble_eq_true rfl) vc_0 inlX0 (Nat.le_of_ble_eq_true rfl) rfl (Nat.le_of_ble_eq_true rfl) fl_X6_192 dX6_payTips_32 ?_
      refine z_iload_n hB 0 dX6_payTips_35 rfl rfl ?_
      refine z_dup2 hB dX6_payTips_36 rfl rfl ?_
      obtain ⟨h11, h⟩ := z_ckiE h
      refine z_iald hB 36 3 kT_36 (Nat.le_of_ble_eq_true rfl) dX6_payTips_37 h11 ?_
      refine z_aload_n hB 1 dX6_payTips_38 rfl rfl ?_
      refine z_getr hB 0 5 11 kT_0 (Nat.le_of_ble_eq_true rfl) vc_6 inlX6 (Nat.le_of_ble_eq_true rfl) rfl (Nat.le_of_ble_eq_true rfl) fl_X6_35 dX6_payTips_39 ?_
      refine z_iload_n hB 2 dX6_payTips_42 rfl rfl ?_
      obtain ⟨r13, h12, h⟩ := z_b1E h
      refine z_cI hB (z_rV (ι := fun k => k) hB yY_X2_tipNow (c_X2_tipNow _ _ _ h12) rfl cut_T z_hid kT_11 (Nat.le_of_ble_eq_true rfl) vc_2 rfl rfl rfl (Nat.le_of_ble_eq_true rfl) ml_X6_195 ⟨Nat.le_of_ble_eq_true rfl, Nat.le_of_ble_eq_true rfl⟩ dX6_payTips_43) cut_T z_hid ?_
      refine z_toA (z_mro cut_T) ?_
      refine z_iadd hB dX6_payTips_46 ?_
      obtain ⟨h14, h⟩ := z_ckiE h
      obtain ⟨σ15, eσ15, h⟩ := z_letE h
      refine z_iast hB 36 3 kT_36 (Nat.le_of_ble_eq_true rfl) dX6_payTips_47 h14 ?_
      refine z_to eσ15 ?_
      refine z_lv [1, 2] rfl ?_
      exact hj8 _ h
def lb_X6_letDaysGo_46 (k7 : Int32 → z_S → Option (Int32 × z_S)) (x8 : Int32) (k12 : Int32 → z_S → Option (Int32 × z_S)) (x13 : Int32) (σ14 : z_S) : Option (Int32 × z_S) :=
  if (σ14 30 0) ≤ x13 then
  (z_b1 (f_X6_bringPapers (fun k => σ14 (zi_TW_T k))) fun σ17 =>
  z_let (z_m σ14 (zk_TW_T) 38 σ17) fun σ18 =>
  z_b1 (f_X6_isSunday (σ18 0 0) σ18) fun r20 =>
  z_let (fun (σ21 : z_S) => z_let (z_u σ21 0 0 ((σ21 0 0) + (1 : Int32))) fun σ23 =>
  z_let (x8 + (1 : Int32)) fun x24 =>
  k7 x24 σ23) fun j22 =>
  if r20 = (0 : Int32) then
  (j22 σ18)
  else
  (z_b1 (f_X6_payTips (fun k => σ18 (zi_TW_T k))) fun σ27 =>
  z_let (z_m σ18 (zk_TW_T) 38 σ27) fun σ28 =>
  z_b1 (f_X2_beginWeek (fun k => σ28 (zi_TW_T k))) fun σ30 =>
  z_let (z_m σ28 (zk_TW_T) 38 σ30) fun σ31 =>
  j22 σ31))
  else
  (z_b1 (f_X8_go x13 (σ14 0 0) (-1 : Int32) σ14) fun σ33 =>
  z_cki x13 3 <|
  z_cki x13 3 <|
  z_let (z_u σ33 34 x13.toNatClampNeg ((σ33 34 x13.toNatClampNeg) + (σ33 38 0))) fun σ36 =>
  z_cki x13 3 <|
  z_cki x13 3 <|
  z_let (z_u σ36 35 x13.toNatClampNeg ((σ36 35 x13.toNatClampNeg) + (σ36 38 1))) fun σ39 =>
  z_let (x13 + (1 : Int32)) fun x40 =>
  k12 x40 σ39)
def lb_X6_letDaysGo_37 (p1 : Int32) (x6 : Int32) (k7 : Int32 → z_S → Option (Int32 × z_S)) (x8 : Int32) (σ9 : z_S) : Option (Int32 × z_S) :=
  if p1 ≤ x8 then
  (z_cki (1 : Int32) 6 <|
  some ((σ9 1 (1 : Int32).toNatClampNeg) - x6, σ9))
  else
  (z_lp2 (lb_X6_letDaysGo_46 k7 x8) z_Fu (0 : Int32) σ9)
def f_X6_letDaysGo (p1 : Int32) (σ : z_S) : Option (Int32 × z_S) :=
  z_b1 (f_X9_within p1 (1 : Int32) (31 : Int32) σ) fun r2 =>
  if r2 = (0 : Int32) then
  (some ((-1 : Int32), σ))
  else
  (if ((σ 0 0) + p1) ≤ (1000 : Int32) then
  (z_cki (1 : Int32) 6 <|
  z_let (σ 1 (1 : Int32).toNatClampNeg) fun x6 =>
  z_lp2 (lb_X6_letDaysGo_37 p1 x6) z_Fu (0 : Int32) σ)
  else
  (some ((-3 : Int32), σ)))
set_option maxRecDepth 100000 in
set_option maxHeartbeats 4000000 in
theorem c_X6_letDaysGo (p1 : Int32) (σ : z_S) (r : Int32) (σz : z_S) (h : f_X6_letDaysGo p1 σ = some (r, σz)) : zMet yX6_letDaysGo cX6_letDaysGo 6 (some .int) 4 87 layTW 40 (fun ad => [.ref (ad 0), .int p1, .ref (ad 38)]) σ (z_QI layTW 40 r σz) := by
  refine z_headI RX6 (by decide) rfl (fun _ => Nat.le_of_ble_eq_true rfl) (fun E G A ad hB hret => ?_)
  show ZW E G A 6 layTW 40 ad 0 [(0, .ref (ad 0)), (1, .int p1), (2, .ref (ad 38))] [] σ
  unfold f_X6_letDaysGo at h
  refine z_iload_n hB 1 dX6_letDaysGo_0 rfl rfl ?_
  refine z_iconst hB dX6_letDaysGo_1 zcI_1 ?_
  refine z_bipush hB dX6_letDaysGo_2 zcB_31 ?_
  obtain ⟨r2, h1, h⟩ := z_b1E h
  refine z_cI hB (z_rN (ι := fun k => k) hB yY_X9_within (c_X9_within _ _ _ _ _ h1) rfl z_cut0 z_hno rfl rfl rfl (Nat.le_of_ble_eq_true rfl) (List.mem_of_getElem? (i := 15) rfl) ⟨Nat.le_of_ble_eq_true rfl, Nat.le_of_ble_eq_true rfl⟩ dX6_letDaysGo_4) z_cut0 z_hno ?_
  refine z_toA (z_mro (lay := layTW) (lay' := z_lay0) (b := false) z_cut0) ?_
  refine z_if_ne hB (tgt := 12) dX6_letDaysGo_7 (by decide) (fun c3 => ?_) (fun c3 => ?_)
  · have h := z_ifF c3 h
    refine z_aload_n hB 0 dX6_letDaysGo_12 rfl rfl ?_
    refine z_get hB 0 0 kTW_0 (Nat.le_of_ble_eq_true rfl) vc_6 inlX6 (Nat.le_of_ble_eq_true rfl) rfl fl_X6_9 dX6_letDaysGo_13 ?_
    refine z_iload_n hB 1 dX6_letDaysGo_16 rfl rfl ?_
    refine z_iadd hB dX6_letDaysGo_17 ?_
    refine z_sipush hB dX6_letDaysGo_18 zcS_1000 ?_
    refine z_icmp_le hB (tgt := 27) dX6_letDaysGo_21 (by decide) (fun c4 => ?_) (fun c4 => ?_)
    · have h := z_ifT c4 h
      refine z_aload_n hB 0 dX6_letDaysGo_27 rfl rfl ?_
      refine z_getr hB 0 3 1 kTW_0 (Nat.le_of_ble_eq_true rfl) vc_6 inlX6 (Nat.le_of_ble_eq_true rfl) rfl (Nat.le_of_ble_eq_true rfl) fl_X6_21 dX6_letDaysGo_28 ?_
      refine z_iconst hB dX6_letDaysGo_31 zcI_1 ?_
      obtain ⟨h5, h⟩ := z_ckiE h
      refine z_iald hB 1 6 kTW_1 (Nat.le_of_ble_eq_true rfl) dX6_letDaysGo_32 h5 ?_
      obtain ⟨x6, ex6, h⟩ := z_letE h
      refine z_istore_n hB [(3, .int x6), (0, .ref (ad 0)), (1, .int p1), (2, .ref (ad 38))] dX6_letDaysGo_33 rfl (Nat.le_of_ble_eq_true rfl) ex6 rfl ?_
      refine z_iconst hB dX6_letDaysGo_34 zcI_0 ?_
      refine z_istore hB [(4, .int ((0 : Int32))), (3, .int x6), (0, .ref (ad 0)), (1, .int p1), (2, .ref (ad 38))] dX6_letDaysGo_35 (Nat.le_of_ble_eq_true rfl) rfl rfl ?_
      refine z_lv [2, 3, 4, 1, 0] rfl ?_
      refine z_lpr2 (g := fun x8 σ9 => ZW E G A 6 layTW 40 ad 37 [(0, .ref (ad 0)), (1, .int p1), (2, .ref (ad 38)), (3, .int x6), (4, .int x8)] [] σ9) (fun k7 x8 σ9 hk_k7 h => ?_) _ _ _ h
      show ZW E G A 6 layTW 40 ad 37 [(0, .ref (ad 0)), (1, .int p1), (2, .ref (ad 38)), (3, .int x6), (4, .int x8)] [] σ9
      unfold lb_X6_letDaysGo_37 at h
      refine z_iload hB 4 dX6_letDaysGo_37 rfl ?_
      refine z_iload_n hB 1 dX6_letDaysGo_39 rfl rfl ?_
      refine z_icmp_ge hB (tgt := 151) dX6_letDaysGo_40 (by decide) (fun c10 => ?_) (fun c10 => ?_)
      · have h := z_ifT c10 h
        refine z_aload_n hB 0 dX6_letDaysGo_151 rfl rfl ?_
        refine z_getr hB 0 3 1 kTW_0 (Nat.le_of_ble_eq_true rfl) vc_6 inlX6 (Nat.le_of_ble_eq_true rfl) rfl (Nat.le_of_ble_eq_true rfl) fl_X6_21 dX6_letDaysGo_152 ?_
        refine z_iconst hB dX6_letDaysGo_155 zcI_1 ?_
        obtain ⟨h11, h⟩ := z_ckiE h
        refine z_iald hB 1 6 kTW_1 (Nat.le_of_ble_eq_true rfl) dX6_letDaysGo_156 h11 ?_
        refine z_iload_n hB 3 dX6_letDaysGo_157 rfl rfl ?_
        refine z_isub hB dX6_letDaysGo_158 ?_
        obtain ⟨h1, h2⟩ := z_prE h
        exact hret _ _ _ _ h1 h2 rfl dX6_letDaysGo_159
      · have h := z_ifF c10 h
        refine z_iconst hB dX6_letDaysGo_43 zcI_0 ?_
        refine z_istore hB [(5, .int ((0 : Int32))), (0, .ref (ad 0)), (1, .int p1), (2, .ref (ad 38)), (3, .int x6), (4, .int x8)] dX6_letDaysGo_44 (Nat.le_of_ble_eq_true rfl) rfl rfl ?_
        refine z_lv [1, 2, 3, 4, 5, 0] rfl ?_
        refine z_lpr2 (g := fun x13 σ14 => ZW E G A 6 layTW 40 ad 46 [(0, .ref (ad 0)), (1, .int p1), (2, .ref (ad 38)), (3, .int x6), (4, .int x8), (5, .int x13)] [] σ14) (fun k12 x13 σ14 hk_k12 h => ?_) _ _ _ h
        show ZW E G A 6 layTW 40 ad 46 [(0, .ref (ad 0)), (1, .int p1), (2, .ref (ad 38)), (3, .int x6), (4, .int x8), (5, .int x13)] [] σ14
        unfold lb_X6_letDaysGo_46 at h
        refine z_iload hB 5 dX6_letDaysGo_46 rfl ?_
        refine z_aload_n hB 0 dX6_letDaysGo_48 rfl rfl ?_
        refine z_getr hB 0 7 30 kTW_0 (Nat.le_of_ble_eq_true rfl) vc_6 inlX6 (Nat.le_of_ble_eq_true rfl) rfl (Nat.le_of_ble_eq_true rfl) fl_X6_49 dX6_letDaysGo_49 ?_
        refine z_get hB 30 0 kTW_30 (Nat.le_of_ble_eq_true rfl) vc_0 inlX0 (Nat.le_of_ble_eq_true rfl) rfl fl_X6_100 dX6_letDaysGo_52 ?_
        refine z_icmp_ge hB (tgt := 110) dX6_letDaysGo_55 (by decide) (fun c15 => ?_) (fun c15 => ?_)
        · have h := z_ifT c15 h
          refine z_aload_n hB 0 dX6_letDaysGo_110 rfl rfl ?_
          obtain ⟨σ17, h16, h⟩ := z_b1E h
          refine z_cV hB (z_rV (ι := zi_TW_T) hB yY_X6_bringPapers (c_X6_bringPapers _ _ h16) rfl cut_TW_T z_hno kT_0 (Nat.le_of_ble_eq_true rfl) vc_6 rfl rfl rfl (Nat.le_of_ble_eq_true rfl) ml_X6_135 ⟨Nat.le_of_ble_eq_true rfl, Nat.le_of_ble_eq_true rfl⟩ dX6_letDaysGo_111) cut_TW_T z_hno ?_
          obtain ⟨σ18, eσ18, h⟩ := z_letE h
          refine z_to eσ18 ?_
          refine z_aload_n hB 0 dX6_letDaysGo_114 rfl rfl ?_
          refine z_get hB 0 0 kTW_0 (Nat.le_of_ble_eq_true rfl) vc_6 inlX6 (Nat.le_of_ble_eq_true rfl) rfl fl_X6_9 dX6_letDaysGo_115 ?_
          obtain ⟨r20, h19, h⟩ := z_b1E h
          refine z_cI hB (z_rS (ι := fun k => k) hB yY_X6_isSunday (c_X6_isSunday _ _ _ h19) rfl z_cut0 z_hno rfl rfl rfl (Nat.le_of_ble_eq_true rfl) ml_X6_138 ⟨Nat.le_of_ble_eq_true rfl, Nat.le_of_ble_eq_true rfl⟩ dX6_letDaysGo_118) z_cut0 z_hno ?_
          refine z_toA (z_mro (lay := layTW) (lay' := z_lay0) (b := false) z_cut0) ?_
          obtain ⟨j22, ej22, h⟩ := z_letE h
          have hj22 : ∀ (σ21 : z_S), j22 σ21 = some (r, σz) → ZW E G A 6 layTW 40 ad 135 [(0, .ref (ad 0)), (1, .int p1), (2, .ref (ad 38)), (3, .int x6), (4, .int x8)] [] σ21 := by
            intro σ21 h
            rw [ej22] at h
            refine z_aload_n hB 0 dX6_letDaysGo_135 rfl rfl ?_
            refine z_dup hB dX6_letDaysGo_136 rfl ?_
            refine z_get hB 0 0 kTW_0 (Nat.le_of_ble_eq_true rfl) vc_6 inlX6 (Nat.le_of_ble_eq_true rfl) rfl fl_X6_9 dX6_letDaysGo_137 ?_
            refine z_iconst hB dX6_letDaysGo_140 zcI_1 ?_
            refine z_iadd hB dX6_letDaysGo_141 ?_
            obtain ⟨σ23, eσ23, h⟩ := z_letE h
            refine z_put hB 0 0 kTW_0 (Nat.le_of_ble_eq_true rfl) vc_6 inlX6 tyX6 tyX6_ok nmX6 (Nat.le_of_ble_eq_true rfl) rfl rfl (tyX6_ok 0 (Nat.le_of_ble_eq_true rfl)) fl_X6_9 dX6_letDaysGo_142 ?_
            refine z_to eσ23 ?_
            obtain ⟨x24, ex24, h⟩ := z_letE h
            refine z_iinc hB 4 [(4, .int x24), (0, .ref (ad 0)), (1, .int p1), (2, .ref (ad 38)), (3, .int x6)] dX6_letDaysGo_145 rfl (by rw [zcI_1]; exact ex24) (Nat.le_of_ble_eq_true rfl) rfl ?_
            refine z_goto hB (tgt := 37) dX6_letDaysGo_148 (by decide) ?_
            refine z_lv [1, 2, 3, 4, 0] rfl ?_
            exact hk_k7 _ _ h
          refine z_if_eq hB (tgt := 135) dX6_letDaysGo_121 (by decide) (fun c25 => ?_) (fun c25 => ?_)
          · have h := z_ifT c25 h
            refine z_lv [0, 1, 2, 3, 4] rfl ?_
            exact hj22 _ h
          · have h := z_ifF c25 h
            refine z_aload_n hB 0 dX6_letDaysGo_124 rfl rfl ?_
            obtain ⟨σ27, h26, h⟩ := z_b1E h
            refine z_cV hB (z_rV (ι := zi_TW_T) hB yY_X6_payTips (c_X6_payTips _ _ h26) rfl cut_TW_T z_hno kT_0 (Nat.le_of_ble_eq_true rfl) vc_6 rfl rfl rfl (Nat.le_of_ble_eq_true rfl) ml_X6_141 ⟨Nat.le_of_ble_eq_true rfl, Nat.le_of_ble_eq_true rfl⟩ dX6_letDaysGo_125) cut_TW_T z_hno ?_
            obtain ⟨σ28, eσ28, h⟩ := z_letE h
            refine z_to eσ28 ?_
            refine z_aload_n hB 0 dX6_letDaysGo_128 rfl rfl ?_
            refine z_getr hB 0 5 11 kTW_0 (Nat.le_of_ble_eq_true rfl) vc_6 inlX6 (Nat.le_of_ble_eq_true rfl) rfl (Nat.le_of_ble_eq_true rfl) fl_X6_35 dX6_letDaysGo_129 ?_
            obtain ⟨σ30, h29, h⟩ := z_b1E h
            refine z_cV hB (z_rV (ι := zi_TW_T) hB yY_X2_beginWeek (c_X2_beginWeek _ _ h29) rfl cut_TW_T z_hno kT_11 (Nat.le_of_ble_eq_true rfl) vc_2 rfl rfl rfl (Nat.le_of_ble_eq_true rfl) ml_X6_144 ⟨Nat.le_of_ble_eq_true rfl, Nat.le_of_ble_eq_true rfl⟩ dX6_letDaysGo_132) cut_TW_T z_hno ?_
            obtain ⟨σ31, eσ31, h⟩ := z_letE h
            refine z_to eσ31 ?_
            refine z_lv [0, 1, 2, 3, 4] rfl ?_
            exact hj22 _ h
        · have h := z_ifF c15 h
          refine z_aload_n hB 2 dX6_letDaysGo_58 rfl rfl ?_
          refine z_aload_n hB 0 dX6_letDaysGo_59 rfl rfl ?_
          refine z_iload hB 5 dX6_letDaysGo_60 rfl ?_
          refine z_aload_n hB 0 dX6_letDaysGo_62 rfl rfl ?_
          refine z_get hB 0 0 kTW_0 (Nat.le_of_ble_eq_true rfl) vc_6 inlX6 (Nat.le_of_ble_eq_true rfl) rfl fl_X6_9 dX6_letDaysGo_63 ?_
          refine z_iconst hB dX6_letDaysGo_66 zcI_m1 ?_
          obtain ⟨σ33, h32, h⟩ := z_b1E h
          refine z_cV hB (z_rV (ι := fun k => k) hB yY_X8_go (c_X8_go _ _ _ _ _ h32) rfl cut_TW z_hid kTW_38 (Nat.le_of_ble_eq_true rfl) vc_8 rfl rfl rfl (Nat.le_of_ble_eq_true rfl) ml_X6_119 ⟨Nat.le_of_ble_eq_true rfl, Nat.le_of_ble_eq_true rfl⟩ dX6_letDaysGo_67) cut_TW z_hid ?_
          refine z_toA z_mid ?_
          refine z_aload_n hB 0 dX6_letDaysGo_70 rfl rfl ?_
          refine z_getr hB 0 7 30 kTW_0 (Nat.le_of_ble_eq_true rfl) vc_6 inlX6 (Nat.le_of_ble_eq_true rfl) rfl (Nat.le_of_ble_eq_true rfl) fl_X6_49 dX6_letDaysGo_71 ?_
          refine z_getr hB 30 4 34 kTW_30 (Nat.le_of_ble_eq_true rfl) vc_0 inlX0 (Nat.le_of_ble_eq_true rfl) rfl (Nat.le_of_ble_eq_true rfl) fl_X6_125 dX6_letDaysGo_74 ?_
          refine z_iload hB 5 dX6_letDaysGo_77 rfl ?_
          refine z_dup2 hB dX6_letDaysGo_79 rfl rfl ?_
          obtain ⟨h34, h⟩ := z_ckiE h
          refine z_iald hB 34 3 kTW_34 (Nat.le_of_ble_eq_true rfl) dX6_letDaysGo_80 h34 ?_
          refine z_aload_n hB 2 dX6_letDaysGo_81 rfl rfl ?_
          refine z_get hB 38 0 kTW_38 (Nat.le_of_ble_eq_true rfl) vc_8 inlX8 (Nat.le_of_ble_eq_true rfl) rfl fl_X6_128 dX6_letDaysGo_82 ?_
          refine z_iadd hB dX6_letDaysGo_85 ?_
          obtain ⟨h35, h⟩ := z_ckiE h
          obtain ⟨σ36, eσ36, h⟩ := z_letE h
          refine z_iast hB 34 3 kTW_34 (Nat.le_of_ble_eq_true rfl) dX6_letDaysGo_86 h35 ?_
          refine z_to eσ36 ?_
          refine z_aload_n hB 0 dX6_letDaysGo_87 rfl rfl ?_
          refine z_getr hB 0 7 30 kTW_0 (Nat.le_of_ble_eq_true rfl) vc_6 inlX6 (Nat.le_of_ble_eq_true rfl) rfl (Nat.le_of_ble_eq_true rfl) fl_X6_49 dX6_letDaysGo_88 ?_
          refine z_getr hB 30 5 35 kTW_30 (Nat.le_of_ble_eq_true rfl) vc_0 inlX0 (Nat.le_of_ble_eq_true rfl) rfl (Nat.le_of_ble_eq_true rfl) fl_X6_130 dX6_letDaysGo_91 ?_
          refine z_iload hB 5 dX6_letDaysGo_94 rfl ?_
          refine z_dup2 hB dX6_letDaysGo_96 rfl rfl ?_
          obtain ⟨h37, h⟩ := z_ckiE h
          refine z_iald hB 35 3 kTW_35 (Nat.le_of_ble_eq_true rfl) dX6_letDaysGo_97 h37 ?_
          refine z_aload_n hB 2 dX6_letDaysGo_98 rfl rfl ?_
          refine z_get hB 38 1 kTW_38 (Nat.le_of_ble_eq_true rfl) vc_8 inlX8 (Nat.le_of_ble_eq_true rfl) rfl fl_X6_133 dX6_letDaysGo_99 ?_
          refine z_iadd hB dX6_letDaysGo_102 ?_
          obtain ⟨h38, h⟩ := z_ckiE h
          obtain ⟨σ39, eσ39, h⟩ := z_letE h
          refine z_iast hB 35 3 kTW_35 (Nat.le_of_ble_eq_true rfl) dX6_letDaysGo_103 h38 ?_
          refine z_to eσ39 ?_
          obtain ⟨x40, ex40, h⟩ := z_letE h
          refine z_iinc hB 5 [(5, .int x40), (0, .ref (ad 0)), (1, .int p1), (2, .ref (ad 38)), (3, .int x6), (4, .int x8)] dX6_letDaysGo_104 rfl (by rw [zcI_1]; exact ex40) (Nat.le_of_ble_eq_true rfl) rfl ?_
          refine z_goto hB (tgt := 46) dX6_letDaysGo_107 (by decide) ?_
          refine z_lv [1, 2, 3, 4, 5, 0] rfl ?_
          exact hk_k12 _ _ h
    · have h := z_ifF c4 h
      refine z_bipush hB dX6_letDaysGo_24 zcB_m3 ?_
      obtain ⟨h1, h2⟩ := z_prE h
      exact hret _ _ _ _ h1 h2 rfl dX6_letDaysGo_26
  · have h := z_ifT c3 h
    refine z_iconst hB dX6_letDaysGo_10 zcI_m1 ?_
    obtain ⟨h1, h2⟩ := z_prE h
    exact hret _ _ _ _ h1 h2 rfl dX6_letDaysGo_11
def lb_X6_housesFrom_4 (p1 : Int32) (σ : z_S) (k1 : Int32 → Int32 → Option Int32) (x2 : Int32) (x3 : Int32) : Option Int32 :=
  if (σ 11 0) ≤ x3 then
  (some (x2))
  else
  (z_cki x3 24 <|
  z_b1 (f_X4_isAtOrBeyond (σ 12 x3.toNatClampNeg) p1 σ) fun r7 =>
  z_let (fun (y8 : Int32) => z_let (x3 + (1 : Int32)) fun x10 =>
  k1 y8 x10) fun j9 =>
  if r7 = (0 : Int32) then
  (j9 x2)
  else
  (z_let (x2 + (1 : Int32)) fun x12 =>
  j9 x12))
def f_X6_housesFrom (p1 : Int32) (σ : z_S) : Option Int32 :=
  z_lp2 (lb_X6_housesFrom_4 p1 σ) z_Fu (0 : Int32) (0 : Int32)
set_option maxRecDepth 100000 in
set_option maxHeartbeats 4000000 in
theorem c_X6_housesFrom (p1 : Int32) (σ : z_S) (r : Int32) (h : f_X6_housesFrom p1 σ = some r) : zMet yX6_housesFrom cX6_housesFrom 4 (some .int) 1 24 layT 38 (fun ad => [.ref (ad 0), .int p1]) σ (z_QI layT 38 r σ) := by
  refine z_headI RX6 (by decide) rfl (fun _ => Nat.le_of_ble_eq_true rfl) (fun E G A ad hB hret => ?_)
  show ZW E G A 4 layT 38 ad 0 [(0, .ref (ad 0)), (1, .int p1)] [] σ
  unfold f_X6_housesFrom at h
  refine z_iconst hB dX6_housesFrom_0 zcI_0 ?_
  refine z_istore_n hB [(2, .int ((0 : Int32))), (0, .ref (ad 0)), (1, .int p1)] dX6_housesFrom_1 rfl (Nat.le_of_ble_eq_true rfl) rfl rfl ?_
  refine z_iconst hB dX6_housesFrom_2 zcI_0 ?_
  refine z_istore_n hB [(3, .int ((0 : Int32))), (2, .int ((0 : Int32))), (0, .ref (ad 0)), (1, .int p1)] dX6_housesFrom_3 rfl (Nat.le_of_ble_eq_true rfl) rfl rfl ?_
  refine z_lv [2, 3, 1, 0] rfl ?_
  refine z_lpr2 (g := fun x2 x3 => ZW E G A 4 layT 38 ad 4 [(0, .ref (ad 0)), (1, .int p1), (2, .int x2), (3, .int x3)] [] σ) (fun k1 x2 x3 hk_k1 h => ?_) _ _ _ h
  show ZW E G A 4 layT 38 ad 4 [(0, .ref (ad 0)), (1, .int p1), (2, .int x2), (3, .int x3)] [] σ
  unfold lb_X6_housesFrom_4 at h
  refine z_iload_n hB 3 dX6_housesFrom_4 rfl rfl ?_
  refine z_aload_n hB 0 dX6_housesFrom_5 rfl rfl ?_
  refine z_getr hB 0 5 11 kT_0 (Nat.le_of_ble_eq_true rfl) vc_6 inlX6 (Nat.le_of_ble_eq_true rfl) rfl (Nat.le_of_ble_eq_true rfl) fl_X6_35 dX6_housesFrom_6 ?_
  refine z_get hB 11 0 kT_11 (Nat.le_of_ble_eq_true rfl) vc_2 inlX2 (Nat.le_of_ble_eq_true rfl) rfl fl_X6_85 dX6_housesFrom_9 ?_
  refine z_icmp_ge hB (tgt := 44) dX6_housesFrom_12 (by decide) (fun c4 => ?_) (fun c4 => ?_)
  · have h := z_ifT c4 h
    refine z_iload_n hB 2 dX6_housesFrom_44 rfl rfl ?_
    exact hret _ _ _ _ (Option.some.inj h) rfl rfl dX6_housesFrom_45
  · have h := z_ifF c4 h
    refine z_aload_n hB 0 dX6_housesFrom_15 rfl rfl ?_
    refine z_getr hB 0 4 2 kT_0 (Nat.le_of_ble_eq_true rfl) vc_6 inlX6 (Nat.le_of_ble_eq_true rfl) rfl (Nat.le_of_ble_eq_true rfl) fl_X6_28 dX6_housesFrom_16 ?_
    refine z_aload_n hB 0 dX6_housesFrom_19 rfl rfl ?_
    refine z_getr hB 0 5 11 kT_0 (Nat.le_of_ble_eq_true rfl) vc_6 inlX6 (Nat.le_of_ble_eq_true rfl) rfl (Nat.le_of_ble_eq_true rfl) fl_X6_35 dX6_housesFrom_20 ?_
    refine z_getr hB 11 1 12 kT_11 (Nat.le_of_ble_eq_true rfl) vc_2 inlX2 (Nat.le_of_ble_eq_true rfl) rfl (Nat.le_of_ble_eq_true rfl) fl_X6_204 dX6_housesFrom_23 ?_
    refine z_iload_n hB 3 dX6_housesFrom_26 rfl rfl ?_
    obtain ⟨h5, h⟩ := z_ckiE h
    refine z_iald hB 12 24 kT_12 (Nat.le_of_ble_eq_true rfl) dX6_housesFrom_27 h5 ?_
    refine z_iload_n hB 1 dX6_housesFrom_28 rfl rfl ?_
    obtain ⟨r7, h6, h⟩ := z_b1E h
    refine z_cI hB (z_rV (ι := fun k => k) hB yY_X4_isAtOrBeyond (c_X4_isAtOrBeyond _ _ _ _ h6) rfl cut_T z_hid kT_2 (Nat.le_of_ble_eq_true rfl) vc_4 rfl rfl rfl (Nat.le_of_ble_eq_true rfl) ml_X6_207 ⟨Nat.le_of_ble_eq_true rfl, Nat.le_of_ble_eq_true rfl⟩ dX6_housesFrom_29) cut_T z_hid ?_
    refine z_toA (z_mro cut_T) ?_
    obtain ⟨j9, ej9, h⟩ := z_letE h
    have hj9 : ∀ (y8 : Int32), j9 y8 = some r → ZW E G A 4 layT 38 ad 38 [(0, .ref (ad 0)), (1, .int p1), (2, .int y8), (3, .int x3)] [] σ := by
      intro y8 h
      rw [ej9] at h
      obtain ⟨x10, ex10, h⟩ := z_letE h
      refine z_iinc hB 3 [(3, .int x10), (0, .ref (ad 0)), (1, .int p1), (2, .int y8)] dX6_housesFrom_38 rfl (by rw [zcI_1]; exact ex10) (Nat.le_of_ble_eq_true rfl) rfl ?_
      refine z_goto hB (tgt := 4) dX6_housesFrom_41 (by decide) ?_
      refine z_lv [1, 2, 3, 0] rfl ?_
      exact hk_k1 _ _ h
    refine z_if_eq hB (tgt := 38) dX6_housesFrom_32 (by decide) (fun c11 => ?_) (fun c11 => ?_)
    · have h := z_ifT c11 h
      exact hj9 _ h
    · have h := z_ifF c11 h
      obtain ⟨x12, ex12, h⟩ := z_letE h
      refine z_iinc hB 2 [(2, .int x12), (0, .ref (ad 0)), (1, .int p1), (3, .int x3)] dX6_housesFrom_35 rfl (by rw [zcI_1]; exact ex12) (Nat.le_of_ble_eq_true rfl) rfl ?_
      refine z_lv [1, 2, 0, 3] rfl ?_
      exact hj9 _ h
def lb_X6_housesPaused_4 (σ : z_S) (k1 : Int32 → Int32 → Option Int32) (x2 : Int32) (x3 : Int32) : Option Int32 :=
  if (σ 11 0) ≤ x3 then
  (some (x2))
  else
  (z_b1 (f_X3_cover x3 (σ 0 0) σ) fun r6 =>
  z_let (fun (y7 : Int32) => z_let (x3 + (1 : Int32)) fun x9 =>
  k1 y7 x9) fun j8 =>
  if r6 = (0 : Int32) then
  (j8 x2)
  else
  (z_let (x2 + (1 : Int32)) fun x11 =>
  j8 x11))
def f_X6_housesPaused (σ : z_S) : Option Int32 :=
  z_lp2 (lb_X6_housesPaused_4 σ) z_Fu (0 : Int32) (0 : Int32)
set_option maxRecDepth 100000 in
set_option maxHeartbeats 4000000 in
theorem c_X6_housesPaused (σ : z_S) (r : Int32) (h : f_X6_housesPaused σ = some r) : zMet yX6_housesPaused cX6_housesPaused 3 (some .int) 1 23 layT 38 (fun ad => [.ref (ad 0)]) σ (z_QI layT 38 r σ) := by
  refine z_headI RX6 (by decide) rfl (fun _ => Nat.le_of_ble_eq_true rfl) (fun E G A ad hB hret => ?_)
  show ZW E G A 3 layT 38 ad 0 [(0, .ref (ad 0))] [] σ
  unfold f_X6_housesPaused at h
  refine z_iconst hB dX6_housesPaused_0 zcI_0 ?_
  refine z_istore_n hB [(1, .int ((0 : Int32))), (0, .ref (ad 0))] dX6_housesPaused_1 rfl (Nat.le_of_ble_eq_true rfl) rfl rfl ?_
  refine z_iconst hB dX6_housesPaused_2 zcI_0 ?_
  refine z_istore_n hB [(2, .int ((0 : Int32))), (1, .int ((0 : Int32))), (0, .ref (ad 0))] dX6_housesPaused_3 rfl (Nat.le_of_ble_eq_true rfl) rfl rfl ?_
  refine z_lv [2, 1, 0] rfl ?_
  refine z_lpr2 (g := fun x2 x3 => ZW E G A 3 layT 38 ad 4 [(0, .ref (ad 0)), (1, .int x2), (2, .int x3)] [] σ) (fun k1 x2 x3 hk_k1 h => ?_) _ _ _ h
  show ZW E G A 3 layT 38 ad 4 [(0, .ref (ad 0)), (1, .int x2), (2, .int x3)] [] σ
  unfold lb_X6_housesPaused_4 at h
  refine z_iload_n hB 2 dX6_housesPaused_4 rfl rfl ?_
  refine z_aload_n hB 0 dX6_housesPaused_5 rfl rfl ?_
  refine z_getr hB 0 5 11 kT_0 (Nat.le_of_ble_eq_true rfl) vc_6 inlX6 (Nat.le_of_ble_eq_true rfl) rfl (Nat.le_of_ble_eq_true rfl) fl_X6_35 dX6_housesPaused_6 ?_
  refine z_get hB 11 0 kT_11 (Nat.le_of_ble_eq_true rfl) vc_2 inlX2 (Nat.le_of_ble_eq_true rfl) rfl fl_X6_85 dX6_housesPaused_9 ?_
  refine z_icmp_ge hB (tgt := 39) dX6_housesPaused_12 (by decide) (fun c4 => ?_) (fun c4 => ?_)
  · have h := z_ifT c4 h
    refine z_iload_n hB 1 dX6_housesPaused_39 rfl rfl ?_
    exact hret _ _ _ _ (Option.some.inj h) rfl rfl dX6_housesPaused_40
  · have h := z_ifF c4 h
    refine z_aload_n hB 0 dX6_housesPaused_15 rfl rfl ?_
    refine z_getr hB 0 6 26 kT_0 (Nat.le_of_ble_eq_true rfl) vc_6 inlX6 (Nat.le_of_ble_eq_true rfl) rfl (Nat.le_of_ble_eq_true rfl) fl_X6_42 dX6_housesPaused_16 ?_
    refine z_iload_n hB 2 dX6_housesPaused_19 rfl rfl ?_
    refine z_aload_n hB 0 dX6_housesPaused_20 rfl rfl ?_
    refine z_get hB 0 0 kT_0 (Nat.le_of_ble_eq_true rfl) vc_6 inlX6 (Nat.le_of_ble_eq_true rfl) rfl fl_X6_9 dX6_housesPaused_21 ?_
    obtain ⟨r6, h5, h⟩ := z_b1E h
    refine z_cI hB (z_rV (ι := fun k => k) hB yY_X3_cover (c_X3_cover _ _ _ _ h5) rfl cut_T z_hid kT_26 (Nat.le_of_ble_eq_true rfl) vc_3 rfl rfl rfl (Nat.le_of_ble_eq_true rfl) ml_X6_160 ⟨Nat.le_of_ble_eq_true rfl, Nat.le_of_ble_eq_true rfl⟩ dX6_housesPaused_24) cut_T z_hid ?_
    refine z_toA (z_mro cut_T) ?_
    obtain ⟨j8, ej8, h⟩ := z_letE h
    have hj8 : ∀ (y7 : Int32), j8 y7 = some r → ZW E G A 3 layT 38 ad 33 [(0, .ref (ad 0)), (1, .int y7), (2, .int x3)] [] σ := by
      intro y7 h
      rw [ej8] at h
      obtain ⟨x9, ex9, h⟩ := z_letE h
      refine z_iinc hB 2 [(2, .int x9), (0, .ref (ad 0)), (1, .int y7)] dX6_housesPaused_33 rfl (by rw [zcI_1]; exact ex9) (Nat.le_of_ble_eq_true rfl) rfl ?_
      refine z_goto hB (tgt := 4) dX6_housesPaused_36 (by decide) ?_
      refine z_lv [1, 2, 0] rfl ?_
      exact hk_k1 _ _ h
    refine z_if_eq hB (tgt := 33) dX6_housesPaused_27 (by decide) (fun c10 => ?_) (fun c10 => ?_)
    · have h := z_ifT c10 h
      exact hj8 _ h
    · have h := z_ifF c10 h
      obtain ⟨x11, ex11, h⟩ := z_letE h
      refine z_iinc hB 1 [(1, .int x11), (0, .ref (ad 0)), (2, .int x3)] dX6_housesPaused_30 rfl (by rw [zcI_1]; exact ex11) (Nat.le_of_ble_eq_true rfl) rfl ?_
      refine z_lv [1, 0, 2] rfl ?_
      exact hj8 _ h
def f_X8_moreEffort (p2 : Int32) (p3 : Int32) (p4 : Int32) (σ : z_S) : Option (Int32 × z_S) :=
  z_b1 (f_X8_go p2 p3 (-1 : Int32) σ) fun σ2 =>
  z_let (σ2 38 1) fun x3 =>
  z_b1 (f_X8_go p2 p3 p4 σ2) fun σ5 =>
  some ((σ5 38 1) - x3, σ5)
set_option maxRecDepth 100000 in
set_option maxHeartbeats 4000000 in
theorem c_X8_moreEffort (p2 : Int32) (p3 : Int32) (p4 : Int32) (σ : z_S) (r : Int32) (σz : z_S) (h : f_X8_moreEffort p2 p3 p4 σ = some (r, σz)) : zMet yX8_moreEffort cX8_moreEffort 6 (some .int) 3 80 layTW 40 (fun ad => [.ref (ad 38), .ref (ad 0), .int p2, .int p3, .int p4]) σ (z_QI layTW 40 r σz) := by
  refine z_headI RX8 (by decide) rfl (fun _ => Nat.le_of_ble_eq_true rfl) (fun E G A ad hB hret => ?_)
  show ZW E G A 6 layTW 40 ad 0 [(0, .ref (ad 38)), (1, .ref (ad 0)), (2, .int p2), (3, .int p3), (4, .int p4)] [] σ
  unfold f_X8_moreEffort at h
  refine z_aload_n hB 0 dX8_moreEffort_0 rfl rfl ?_
  refine z_aload_n hB 1 dX8_moreEffort_1 rfl rfl ?_
  refine z_iload_n hB 2 dX8_moreEffort_2 rfl rfl ?_
  refine z_iload_n hB 3 dX8_moreEffort_3 rfl rfl ?_
  refine z_iconst hB dX8_moreEffort_4 zcI_m1 ?_
  obtain ⟨σ2, h1, h⟩ := z_b1E h
  refine z_cV hB (z_rV (ι := fun k => k) hB yY_X8_go (c_X8_go _ _ _ _ _ h1) rfl cut_TW z_hid kTW_38 (Nat.le_of_ble_eq_true rfl) vc_8 rfl rfl rfl (Nat.le_of_ble_eq_true rfl) ml_X8_103 ⟨Nat.le_of_ble_eq_true rfl, Nat.le_of_ble_eq_true rfl⟩ dX8_moreEffort_5) cut_TW z_hid ?_
  refine z_toA z_mid ?_
  refine z_aload_n hB 0 dX8_moreEffort_8 rfl rfl ?_
  refine z_get hB 38 1 kTW_38 (Nat.le_of_ble_eq_true rfl) vc_8 inlX8 (Nat.le_of_ble_eq_true rfl) rfl fl_X8_15 dX8_moreEffort_9 ?_
  obtain ⟨x3, ex3, h⟩ := z_letE h
  refine z_istore hB [(5, .int x3), (0, .ref (ad 38)), (1, .ref (ad 0)), (2, .int p2), (3, .int p3), (4, .int p4)] dX8_moreEffort_12 (Nat.le_of_ble_eq_true rfl) ex3 rfl ?_
  refine z_aload_n hB 1 dX8_moreEffort_14 rfl rfl ?_
  refine z_aload_n hB 2 dX8_moreEffort_15 rfl rfl ?_
  refine z_iload_n hB 3 dX8_moreEffort_16 rfl rfl ?_
  refine z_iload_n hB 4 dX8_moreEffort_17 rfl rfl ?_
  refine z_iload hB 5 dX8_moreEffort_18 rfl ?_
  obtain ⟨σ5, h4, h⟩ := z_b1E h
  refine z_cV hB (z_rV (ι := fun k => k) hB yY_X8_go (c_X8_go _ _ _ _ _ h4) rfl cut_TW z_hid kTW_38 (Nat.le_of_ble_eq_true rfl) vc_8 rfl rfl rfl (Nat.le_of_ble_eq_true rfl) ml_X8_103 ⟨Nat.le_of_ble_eq_true rfl, Nat.le_of_ble_eq_true rfl⟩ dX8_moreEffort_20) cut_TW z_hid ?_
  refine z_toA z_mid ?_
  refine z_aload_n hB 1 dX8_moreEffort_23 rfl rfl ?_
  refine z_get hB 38 1 kTW_38 (Nat.le_of_ble_eq_true rfl) vc_8 inlX8 (Nat.le_of_ble_eq_true rfl) rfl fl_X8_15 dX8_moreEffort_24 ?_
  refine z_iload hB 0 dX8_moreEffort_27 rfl ?_
  refine z_isub hB dX8_moreEffort_29 ?_
  obtain ⟨h1, h2⟩ := z_prE h
  exact hret _ _ _ _ h1 h2 rfl dX8_moreEffort_30
def lb_X9_bitsOf_13 (k2 : UInt32 → Int32 → Option Int32) (x3 : UInt32) (x4 : Int32) : Option Int32 :=
  z_let (fun (_ : Unit) => z_f32 (FP.fmul x3 ((1258291200 : UInt32))) <|
  z_let ((FP.f2i (FP.fmul x3 ((1258291200 : UInt32)))) - (8388608 : Int32)) fun x7 =>
  some ((x4 <<< ((23 : Int32) &&& 31)) + x7)) fun j5 =>
  if (0 : Int32) ≤ (Op.cmpValue (FP.fcmp x3 (FP.fconst1)) .g) then
  (j5 ())
  else
  (if x4 ≤ (1 : Int32) then
  (j5 ())
  else
  (z_f32 (FP.fmul x3 (FP.fconst2)) <|
  z_let (FP.fmul x3 (FP.fconst2)) fun x11 =>
  z_let (x4 + (-1 : Int32)) fun x12 =>
  k2 x11 x12))
def f_X9_bitsOf (p0 : UInt32) (σ : z_S) : Option Int32 :=
  if (0 : Int32) < (Op.cmpValue (FP.fcmp p0 (FP.fconst0)) .l) then
  (z_lp2 lb_X9_bitsOf_13 z_Fu p0 (127 : Int32))
  else
  (some ((0 : Int32)))
set_option maxRecDepth 100000 in
set_option maxHeartbeats 4000000 in
theorem c_X9_bitsOf (p0 : UInt32) (σ : z_S) (r : Int32) (h : f_X9_bitsOf p0 σ = some r) : zMet yX9_bitsOf cX9_bitsOf 4 (some .int) 0 0 z_lay0 0 (fun ad => [.float p0]) σ (z_QI z_lay0 0 r σ) := by
  refine z_headI RX9 (by decide) rfl (fun _ => Nat.le_of_ble_eq_true rfl) (fun E G A ad hB hret => ?_)
  show ZW E G A 4 z_lay0 0 ad 0 [(0, .float p0)] [] σ
  unfold f_X9_bitsOf at h
  refine z_fload_n hB 0 dX9_bitsOf_0 rfl rfl ?_
  refine z_fconst0 hB dX9_bitsOf_1 ?_
  refine z_fcmp hB dX9_bitsOf_2 ?_
  refine z_if_gt hB (tgt := 8) dX9_bitsOf_3 (by decide) (fun c1 => ?_) (fun c1 => ?_)
  · have h := z_ifT c1 h
    refine z_fload_n hB 0 dX9_bitsOf_8 rfl rfl ?_
    refine z_fstore_n hB [(1, .float p0), (0, .float p0)] dX9_bitsOf_9 rfl (Nat.le_of_ble_eq_true rfl) rfl rfl ?_
    refine z_bipush hB dX9_bitsOf_10 zcB_127 ?_
    refine z_istore_n hB [(2, .int ((127 : Int32))), (1, .float p0), (0, .float p0)] dX9_bitsOf_12 rfl (Nat.le_of_ble_eq_true rfl) rfl rfl ?_
    refine z_lv [1, 0] rfl ?_
    refine z_lpr2 (g := fun x3 x4 => ZW E G A 4 z_lay0 0 ad 13 [(1, .float x3), (2, .int x4)] [] σ) (fun k2 x3 x4 hk_k2 h => ?_) _ _ _ h
    show ZW E G A 4 z_lay0 0 ad 13 [(1, .float x3), (2, .int x4)] [] σ
    unfold lb_X9_bitsOf_13 at h
    refine z_fload_n hB 0 dX9_bitsOf_13 rfl rfl ?_
    refine z_fconst1 hB dX9_bitsOf_14 ?_
    refine z_fcmp hB dX9_bitsOf_15 ?_
    obtain ⟨j5, ej5, h⟩ := z_letE h
    have hj5 : ∀ (_ : Unit), j5 () = some r → ZW E G A 4 z_lay0 0 ad 34 [(1, .float x3), (2, .int x4)] [] σ := by
      intro _ h
      rw [ej5] at h
      refine z_fload_n hB 0 dX9_bitsOf_34 rfl rfl ?_
      refine z_ldcwf hB (v := 1258291200) (wsL_c18 _ (List.mem_of_getElem? (i := 3) rfl)) dX9_bitsOf_35 ?_
      obtain ⟨h6, h⟩ := z_f32E h
      refine z_fmul hB dX9_bitsOf_38 h6 ?_
      refine z_f2i hB dX9_bitsOf_39 ?_
      refine z_ldcwi hB (v := 8388608) (wsL_c18 _ (List.mem_of_getElem? (i := 4) rfl)) dX9_bitsOf_40 ?_
      refine z_isub hB dX9_bitsOf_43 ?_
      obtain ⟨x7, ex7, h⟩ := z_letE h
      refine z_istore_n hB [(3, .int x7), (1, .float x3), (2, .int x4)] dX9_bitsOf_44 rfl (Nat.le_of_ble_eq_true rfl) ex7 rfl ?_
      refine z_iload_n hB 2 dX9_bitsOf_45 rfl rfl ?_
      refine z_bipush hB dX9_bitsOf_46 zcB_23 ?_
      refine z_ishl hB dX9_bitsOf_48 ?_
      refine z_iload_n hB 0 dX9_bitsOf_49 rfl rfl ?_
      refine z_iadd hB dX9_bitsOf_50 ?_
      exact hret _ _ _ _ (Option.some.inj h) rfl rfl dX9_bitsOf_51
    refine z_if_ge hB (tgt := 34) dX9_bitsOf_16 (by decide) (fun c8 => ?_) (fun c8 => ?_)
    · have h := z_ifT c8 h
      exact hj5 () h
    · have h := z_ifF c8 h
      refine z_iload_n hB 1 dX9_bitsOf_19 rfl rfl ?_
      refine z_iconst hB dX9_bitsOf_20 zcI_1 ?_
      refine z_icmp_le hB (tgt := 34) dX9_bitsOf_21 (by decide) (fun c9 => ?_) (fun c9 => ?_)
      · have h := z_ifT c9 h
        exact hj5 () h
      · have h := z_ifF c9 h
        refine z_fload_n hB 0 dX9_bitsOf_24 rfl rfl ?_
        refine z_fconst2 hB dX9_bitsOf_25 ?_
        obtain ⟨h10, h⟩ := z_f32E h
        refine z_fmul hB dX9_bitsOf_26 h10 ?_
        obtain ⟨x11, ex11, h⟩ := z_letE h
        refine z_fstore_n hB [(1, .float x11), (2, .int x4)] dX9_bitsOf_27 rfl (Nat.le_of_ble_eq_true rfl) ex11 rfl ?_
        obtain ⟨x12, ex12, h⟩ := z_letE h
        refine z_iinc hB 1 [(2, .int x12), (1, .float x11)] dX9_bitsOf_28 rfl (by rw [zcI_m1]; exact ex12) (Nat.le_of_ble_eq_true rfl) rfl ?_
        refine z_goto hB (tgt := 13) dX9_bitsOf_31 (by decide) ?_
        refine z_lv [1, 0] rfl ?_
        exact hk_k2 _ _ h
  · have h := z_ifF c1 h
    refine z_iconst hB dX9_bitsOf_6 zcI_0 ?_
    exact hret _ _ _ _ (Option.some.inj h) rfl rfl dX9_bitsOf_7
