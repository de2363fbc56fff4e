def f_X0_copyFrom (σ : z_S) : Option z_S :=
  z_let (z_u σ 30 0 (σ 68 0)) fun σ1 =>
  z_b1 (f_X9_copy 3 3 (σ1 30 0) (fun k => σ1 (zi2 69 31 k))) fun σ3 =>
  z_let (z_m σ1 (zk2 69 31) 2 σ3) fun σ4 =>
  z_b1 (f_X9_copy 3 3 (σ4 30 0) (fun k => σ4 (zi2 70 32 k))) fun σ6 =>
  z_let (z_m σ4 (zk2 70 32) 2 σ6) fun σ7 =>
  z_b1 (f_X9_copy 3 3 (σ7 30 0) (fun k => σ7 (zi2 71 33 k))) fun σ9 =>
  z_let (z_m σ7 (zk2 71 33) 2 σ9) fun σ10 =>
  z_b1 (f_X9_copy 3 3 (σ10 30 0) (fun k => σ10 (zi2 72 34 k))) fun σ12 =>
  z_let (z_m σ10 (zk2 72 34) 2 σ12) fun σ13 =>
  z_b1 (f_X9_copy 3 3 (σ13 30 0) (fun k => σ13 (zi2 73 35 k))) fun σ15 =>
  z_let (z_m σ13 (zk2 73 35) 2 σ15) fun σ16 =>
  z_b1 (f_X9_copy 3 3 (σ16 30 0) (fun k => σ16 (zi2 74 36 k))) fun σ18 =>
  z_let (z_m σ16 (zk2 74 36) 2 σ18) fun σ19 =>
  z_b1 (f_X9_copy 3 3 (σ19 30 0) (fun k => σ19 (zi2 75 37 k))) fun σ21 =>
  z_let (z_m σ19 (zk2 75 37) 2 σ21) fun σ22 =>
  some σ22
set_option maxRecDepth 100000 in
set_option maxHeartbeats 4000000 in
theorem c_X0_copyFrom (σ σz : z_S) (h : f_X0_copyFrom σ = some σz) : zMet yX0_copyFrom cX0_copyFrom 2 none 2 40 layTT 76 (fun ad => [.ref (ad 30), .ref (ad 68)]) σ (z_QV layTT 76 σz) := by
  refine z_headV RX0 (by decide) rfl (fun _ => Nat.le_of_ble_eq_true rfl) (fun E G A ad hB hret => ?_)
  show ZW E G A 2 layTT 76 ad 0 [(0, .ref (ad 30)), (1, .ref (ad 68))] [] σ
  unfold f_X0_copyFrom at h
  refine z_aload_n hB 0 dX0_copyFrom_0 rfl rfl ?_
  refine z_aload_n hB 1 dX0_copyFrom_1 rfl rfl ?_
  refine z_get hB 68 0 kTT_68 (Nat.le_of_ble_eq_true rfl) vc_0 inlX0 (Nat.le_of_ble_eq_true rfl) rfl fl_X0_9 dX0_copyFrom_2 ?_
  obtain ⟨σ1, eσ1, h⟩ := z_letE h
  refine z_put hB 30 0 kTT_30 (Nat.le_of_ble_eq_true rfl) vc_0 inlX0 tyX0 tyX0_ok nmX0 (Nat.le_of_ble_eq_true rfl) rfl rfl (tyX0_ok 0 (Nat.le_of_ble_eq_true rfl)) fl_X0_9 dX0_copyFrom_5 ?_
  refine z_to eσ1 ?_
  refine z_aload_n hB 1 dX0_copyFrom_8 rfl rfl ?_
  refine z_getr hB 68 1 69 kTT_68 (Nat.le_of_ble_eq_true rfl) vc_0 inlX0 (Nat.le_of_ble_eq_true rfl) rfl (Nat.le_of_ble_eq_true rfl) fl_X0_15 dX0_copyFrom_9 ?_
  refine z_aload_n hB 0 dX0_copyFrom_12 rfl rfl ?_
  refine z_getr hB 30 1 31 kTT_30 (Nat.le_of_ble_eq_true rfl) vc_0 inlX0 (Nat.le_of_ble_eq_true rfl) rfl (Nat.le_of_ble_eq_true rfl) fl_X0_15 dX0_copyFrom_13 ?_
  refine z_aload_n hB 0 dX0_copyFrom_16 rfl rfl ?_
  refine z_get hB 30 0 kTT_30 (Nat.le_of_ble_eq_true rfl) vc_0 inlX0 (Nat.le_of_ble_eq_true rfl) rfl fl_X0_9 dX0_copyFrom_17 ?_
  obtain ⟨σ3, h2, h⟩ := z_b1E h
  refine z_cV hB (z_rN (ι := zi2 69 31) hB yY_X9_copy (c_X9_copy _ _ _ _ _ h2) rfl (cutC_TT_69_31) z_hno rfl rfl rfl (Nat.le_of_ble_eq_true rfl) (List.mem_of_getElem? (i := 13) rfl) ⟨Nat.le_of_ble_eq_true rfl, Nat.le_of_ble_eq_true rfl⟩ dX0_copyFrom_20) (cutC_TT_69_31) z_hno ?_
  obtain ⟨σ4, eσ4, h⟩ := z_letE h
  refine z_to eσ4 ?_
  refine z_aload_n hB 1 dX0_copyFrom_23 rfl rfl ?_
  refine z_getr hB 68 2 70 kTT_68 (Nat.le_of_ble_eq_true rfl) vc_0 inlX0 (Nat.le_of_ble_eq_true rfl) rfl (Nat.le_of_ble_eq_true rfl) fl_X0_19 dX0_copyFrom_24 ?_
  refine z_aload_n hB 0 dX0_copyFrom_27 rfl rfl ?_
  refine z_getr hB 30 2 32 kTT_30 (Nat.le_of_ble_eq_true rfl) vc_0 inlX0 (Nat.le_of_ble_eq_true rfl) rfl (Nat.le_of_ble_eq_true rfl) fl_X0_19 dX0_copyFrom_28 ?_
  refine z_aload_n hB 0 dX0_copyFrom_31 rfl rfl ?_
  refine z_get hB 30 0 kTT_30 (Nat.le_of_ble_eq_true rfl) vc_0 inlX0 (Nat.le_of_ble_eq_true rfl) rfl fl_X0_9 dX0_copyFrom_32 ?_
  obtain ⟨σ6, h5, h⟩ := z_b1E h
  refine z_cV hB (z_rN (ι := zi2 70 32) hB yY_X9_copy (c_X9_copy _ _ _ _ _ h5) rfl (cutC_TT_70_32) z_hno rfl rfl rfl (Nat.le_of_ble_eq_true rfl) (List.mem_of_getElem? (i := 13) rfl) ⟨Nat.le_of_ble_eq_true rfl, Nat.le_of_ble_eq_true rfl⟩ dX0_copyFrom_35) (cutC_TT_70_32) z_hno ?_
  obtain ⟨σ7, eσ7, h⟩ := z_letE h
  refine z_to eσ7 ?_
  refine z_aload_n hB 1 dX0_copyFrom_38 rfl rfl ?_
  refine z_getr hB 68 3 71 kTT_68 (Nat.le_of_ble_eq_true rfl) vc_0 inlX0 (Nat.le_of_ble_eq_true rfl) rfl (Nat.le_of_ble_eq_true rfl) fl_X0_22 dX0_copyFrom_39 ?_
  refine z_aload_n hB 0 dX0_copyFrom_42 rfl rfl ?_
  refine z_getr hB 30 3 33 kTT_30 (Nat.le_of_ble_eq_true rfl) vc_0 inlX0 (Nat.le_of_ble_eq_true rfl) rfl (Nat.le_of_ble_eq_true rfl) fl_X0_22 dX0_copyFrom_43 ?_
  refine z_aload_n hB 0 dX0_copyFrom_46 rfl rfl ?_
  refine z_get hB 30 0 kTT_30 (Nat.le_of_ble_eq_true rfl) vc_0 inlX0 (Nat.le_of_ble_eq_true rfl) rfl fl_X0_9 dX0_copyFrom_47 ?_
  obtain ⟨σ9, h8, h⟩ := z_b1E h
  refine z_cV hB (z_rN (ι := zi2 71 33) hB yY_X9_copy (c_X9_copy _ _ _ _ _ h8) rfl (cutC_TT_71_33) z_hno rfl rfl rfl (Nat.le_of_ble_eq_true rfl) (List.mem_of_getElem? (i := 13) rfl) ⟨Nat.le_of_ble_eq_true rfl, Nat.le_of_ble_eq_true rfl⟩ dX0_copyFrom_50) (cutC_TT_71_33) z_hno ?_
  obtain ⟨σ10, eσ10, h⟩ := z_letE h
  refine z_to eσ10 ?_
  refine z_aload_n hB 1 dX0_copyFrom_53 rfl rfl ?_
  refine z_getr hB 68 4 72 kTT_68 (Nat.le_of_ble_eq_true rfl) vc_0 inlX0 (Nat.le_of_ble_eq_true rfl) rfl (Nat.le_of_ble_eq_true rfl) fl_X0_25 dX0_copyFrom_54 ?_
  refine z_aload_n hB 0 dX0_copyFrom_57 rfl rfl ?_
  refine z_getr hB 30 4 34 kTT_30 (Nat.le_of_ble_eq_true rfl) vc_0 inlX0 (Nat.le_of_ble_eq_true rfl) rfl (Nat.le_of_ble_eq_true rfl) fl_X0_25 dX0_copyFrom_58 ?_
  refine z_aload_n hB 0 dX0_copyFrom_61 rfl rfl ?_
  refine z_get hB 30 0 kTT_30 (Nat.le_of_ble_eq_true rfl) vc_0 inlX0 (Nat.le_of_ble_eq_true rfl) rfl fl_X0_9 dX0_copyFrom_62 ?_
  obtain ⟨σ12, h11, h⟩ := z_b1E h
  refine z_cV hB (z_rN (ι := zi2 72 34) hB yY_X9_copy (c_X9_copy _ _ _ _ _ h11) rfl (cutC_TT_72_34) z_hno rfl rfl rfl (Nat.le_of_ble_eq_true rfl) (List.mem_of_getElem? (i := 13) rfl) ⟨Nat.le_of_ble_eq_true rfl, Nat.le_of_ble_eq_true rfl⟩ dX0_copyFrom_65) (cutC_TT_72_34) z_hno ?_
  obtain ⟨σ13, eσ13, h⟩ := z_letE h
  refine z_to eσ13 ?_
  refine z_aload_n hB 1 dX0_copyFrom_68 rfl rfl ?_
  refine z_getr hB 68 5 73 kTT_68 (Nat.le_of_ble_eq_true rfl) vc_0 inlX0 (Nat.le_of_ble_eq_true rfl) rfl (Nat.le_of_ble_eq_true rfl) fl_X0_28 dX0_copyFrom_69 ?_
  refine z_aload_n hB 0 dX0_copyFrom_72 rfl rfl ?_
  refine z_getr hB 30 5 35 kTT_30 (Nat.le_of_ble_eq_true rfl) vc_0 inlX0 (Nat.le_of_ble_eq_true rfl) rfl (Nat.le_of_ble_eq_true rfl) fl_X0_28 dX0_copyFrom_73 ?_
  refine z_aload_n hB 0 dX0_copyFrom_76 rfl rfl ?_
  refine z_get hB 30 0 kTT_30 (Nat.le_of_ble_eq_true rfl) vc_0 inlX0 (Nat.le_of_ble_eq_true rfl) rfl fl_X0_9 dX0_copyFrom_77 ?_
  obtain ⟨σ15, h14, h⟩ := z_b1E h
  refine z_cV hB (z_rN (ι := zi2 73 35) hB yY_X9_copy (c_X9_copy _ _ _ _ _ h14) rfl (cutC_TT_73_35) z_hno rfl rfl rfl (Nat.le_of_ble_eq_true rfl) (List.mem_of_getElem? (i := 13) rfl) ⟨Nat.le_of_ble_eq_true rfl, Nat.le_of_ble_eq_true rfl⟩ dX0_copyFrom_80) (cutC_TT_73_35) z_hno ?_
  obtain ⟨σ16, eσ16, h⟩ := z_letE h
  refine z_to eσ16 ?_
  refine z_aload_n hB 1 dX0_copyFrom_83 rfl rfl ?_
  refine z_getr hB 68 6 74 kTT_68 (Nat.le_of_ble_eq_true rfl) vc_0 inlX0 (Nat.le_of_ble_eq_true rfl) rfl (Nat.le_of_ble_eq_true rfl) fl_X0_31 dX0_copyFrom_84 ?_
  refine z_aload_n hB 0 dX0_copyFrom_87 rfl rfl ?_
  refine z_getr hB 30 6 36 kTT_30 (Nat.le_of_ble_eq_true rfl) vc_0 inlX0 (Nat.le_of_ble_eq_true rfl) rfl (Nat.le_of_ble_eq_true rfl) fl_X0_31 dX0_copyFrom_88 ?_
  refine z_aload_n hB 0 dX0_copyFrom_91 rfl rfl ?_
  refine z_get hB 30 0 kTT_30 (Nat.le_of_ble_eq_true rfl) vc_0 inlX0 (Nat.le_of_ble_eq_true rfl) rfl fl_X0_9 dX0_copyFrom_92 ?_
  obtain ⟨σ18, h17, h⟩ := z_b1E h
  refine z_cV hB (z_rN (ι := zi2 74 36) hB yY_X9_copy (c_X9_copy _ _ _ _ _ h17) rfl (cutC_TT_74_36) z_hno rfl rfl rfl (Nat.le_of_ble_eq_true rfl) (List.mem_of_getElem? (i := 13) rfl) ⟨Nat.le_of_ble_eq_true rfl, Nat.le_of_ble_eq_true rfl⟩ dX0_copyFrom_95) (cutC_TT_74_36) z_hno ?_
  obtain ⟨σ19, eσ19, h⟩ := z_letE h
  refine z_to eσ19 ?_
  refine z_aload_n hB 1 dX0_copyFrom_98 rfl rfl ?_
  refine z_getr hB 68 7 75 kTT_68 (Nat.le_of_ble_eq_true rfl) vc_0 inlX0 (Nat.le_of_ble_eq_true rfl) rfl (Nat.le_of_ble_eq_true rfl) fl_X0_34 dX0_copyFrom_99 ?_
  refine z_aload_n hB 0 dX0_copyFrom_102 rfl rfl ?_
  refine z_getr hB 30 7 37 kTT_30 (Nat.le_of_ble_eq_true rfl) vc_0 inlX0 (Nat.le_of_ble_eq_true rfl) rfl (Nat.le_of_ble_eq_true rfl) fl_X0_34 dX0_copyFrom_103 ?_
  refine z_aload_n hB 0 dX0_copyFrom_106 rfl rfl ?_
  refine z_get hB 30 0 kTT_30 (Nat.le_of_ble_eq_true rfl) vc_0 inlX0 (Nat.le_of_ble_eq_true rfl) rfl fl_X0_9 dX0_copyFrom_107 ?_
  obtain ⟨σ21, h20, h⟩ := z_b1E h
  refine z_cV hB (z_rN (ι := zi2 75 37) hB yY_X9_copy (c_X9_copy _ _ _ _ _ h20) rfl (cutC_TT_75_37) z_hno rfl rfl rfl (Nat.le_of_ble_eq_true rfl) (List.mem_of_getElem? (i := 13) rfl) ⟨Nat.le_of_ble_eq_true rfl, Nat.le_of_ble_eq_true rfl⟩ dX0_copyFrom_110) (cutC_TT_75_37) z_hno ?_
  obtain ⟨σ22, eσ22, h⟩ := z_letE h
  refine z_to eσ22 ?_
  exact hret _ _ _ (Option.some.inj h) dX0_copyFrom_113
def f_X9_within (p0 : Int32) (p1 : Int32) (p2 : Int32) (σ : z_S) : Option Int32 :=
  if p0 < p1 then
  (some ((0 : Int32)))
  else
  (if p2 < p0 then
  (some ((0 : Int32)))
  else
  (some ((1 : Int32))))
set_option maxRecDepth 100000 in
set_option maxHeartbeats 4000000 in
theorem c_X9_within (p0 : Int32) (p1 : Int32) (p2 : Int32) (σ : z_S) (r : Int32) (h : f_X9_within p0 p1 p2 σ = some r) : zMet yX9_within cX9_within 3 (some .boolean) 0 0 z_lay0 0 (fun ad => [.int p0, .int p1, .int p2]) σ (z_QI z_lay0 0 r σ) := by
  refine z_headI RX9 (by decide) rfl (fun _ => Nat.le_of_ble_eq_true rfl) (fun E G A ad hB hret => ?_)
  show ZW E G A 3 z_lay0 0 ad 0 [(0, .int p0), (1, .int p1), (2, .int p2)] [] σ
  unfold f_X9_within at h
  refine z_iload_n hB 0 dX9_within_0 rfl rfl ?_
  refine z_iload_n hB 1 dX9_within_1 rfl rfl ?_
  refine z_icmp_lt hB (tgt := 14) dX9_within_2 (by decide) (fun c1 => ?_) (fun c1 => ?_)
  · have h := z_ifT c1 h
    refine z_iconst hB dX9_within_14 zcI_0 ?_
    exact hret _ _ _ _ (Option.some.inj h) rfl rfl dX9_within_15
  · have h := z_ifF c1 h
    refine z_iload_n hB 0 dX9_within_5 rfl rfl ?_
    refine z_iload_n hB 2 dX9_within_6 rfl rfl ?_
    refine z_icmp_gt hB (tgt := 14) dX9_within_7 (by decide) (fun c2 => ?_) (fun c2 => ?_)
    · have h := z_ifT c2 h
      refine z_iconst hB dX9_within_14 zcI_0 ?_
      exact hret _ _ _ _ (Option.some.inj h) rfl rfl dX9_within_15
    · have h := z_ifF c2 h
      refine z_iconst hB dX9_within_10 zcI_1 ?_
      refine z_goto hB (tgt := 15) dX9_within_11 (by decide) ?_
      exact hret _ _ _ _ (Option.some.inj h) rfl rfl dX9_within_15
def f_X0_has (p1 : Int32) (σ : z_S) : Option Int32 :=
  z_b1 (f_X9_within p1 (0 : Int32) ((σ 30 0) - (1 : Int32)) σ) fun r2 =>
  z_ckz (r2) <|
  some (r2)
set_option maxRecDepth 100000 in
set_option maxHeartbeats 4000000 in
theorem c_X0_has (p1 : Int32) (σ : z_S) (r : Int32) (h : f_X0_has p1 σ = some r) : zMet yX0_has cX0_has 2 (some .boolean) 1 22 layT 38 (fun ad => [.ref (ad 30), .int p1]) σ (z_QI layT 38 r σ) := by
  refine z_headI RX0 (by decide) rfl (fun _ => Nat.le_of_ble_eq_true rfl) (fun E G A ad hB hret => ?_)
  show ZW E G A 2 layT 38 ad 0 [(0, .ref (ad 30)), (1, .int p1)] [] σ
  unfold f_X0_has at h
  refine z_iload_n hB 1 dX0_has_0 rfl rfl ?_
  refine z_iconst hB dX0_has_1 zcI_0 ?_
  refine z_aload_n hB 0 dX0_has_2 rfl rfl ?_
  refine z_get hB 30 0 kT_30 (Nat.le_of_ble_eq_true rfl) vc_0 inlX0 (Nat.le_of_ble_eq_true rfl) rfl fl_X0_9 dX0_has_3 ?_
  refine z_iconst hB dX0_has_6 zcI_1 ?_
  refine z_isub hB dX0_has_7 ?_
  obtain ⟨r2, h1, h⟩ := z_b1E h
  refine z_cI hB (z_rN (ι := fun k => k) hB yY_X9_within (c_X9_within _ _ _ _ _ h1) rfl z_cut0 z_hno rfl rfl rfl (Nat.le_of_ble_eq_true rfl) (List.mem_of_getElem? (i := 17) rfl) ⟨Nat.le_of_ble_eq_true rfl, Nat.le_of_ble_eq_true rfl⟩ dX0_has_8) z_cut0 z_hno ?_
  refine z_toA (z_mro (lay := layT) (lay' := z_lay0) (b := false) z_cut0) ?_
  obtain ⟨h3, h⟩ := z_ckzE h
  exact hret _ _ _ _ (Option.some.inj h) rfl h3 dX0_has_11
def f_X0_add (p1 : Int32) (p2 : Int32) (σ : z_S) : Option (Int32 × z_S) :=
  z_let (σ 30 0) fun x1 =>
  z_cki x1 3 <|
  z_let (z_u σ 31 x1.toNatClampNeg (p1)) fun σ3 =>
  z_cki x1 3 <|
  z_let (z_u σ3 32 x1.toNatClampNeg (p2)) fun σ5 =>
  z_cki x1 3 <|
  z_let (z_u σ5 33 x1.toNatClampNeg ((0 : Int32))) fun σ7 =>
  z_cki x1 3 <|
  z_let (z_u σ7 34 x1.toNatClampNeg ((0 : Int32))) fun σ9 =>
  z_cki x1 3 <|
  z_let (z_u σ9 35 x1.toNatClampNeg ((0 : Int32))) fun σ11 =>
  z_cki x1 3 <|
  z_let (z_u σ11 36 x1.toNatClampNeg ((0 : Int32))) fun σ13 =>
  z_cki x1 3 <|
  z_let (z_u σ13 37 x1.toNatClampNeg ((0 : Int32))) fun σ15 =>
  z_let (z_u σ15 30 0 ((σ15 30 0) + (1 : Int32))) fun σ16 =>
  some (x1, σ16)
set_option maxRecDepth 100000 in
set_option maxHeartbeats 4000000 in
theorem c_X0_add (p1 : Int32) (p2 : Int32) (σ : z_S) (r : Int32) (σz : z_S) (h : f_X0_add p1 p2 σ = some (r, σz)) : zMet yX0_add cX0_add 4 (some .int) 0 0 layT 38 (fun ad => [.ref (ad 30), .int p1, .int p2]) σ (z_QI layT 38 r σz) := by
  refine z_headI RX0 (by decide) rfl (fun _ => Nat.le_of_ble_eq_true rfl) (fun E G A ad hB hret => ?_)
  show ZW E G A 4 layT 38 ad 0 [(0, .ref (ad 30)), (1, .int p1), (2, .int p2)] [] σ
  unfold f_X0_add at h
  refine z_aload_n hB 0 dX0_add_0 rfl rfl ?_
  refine z_get hB 30 0 kT_30 (Nat.le_of_ble_eq_true rfl) vc_0 inlX0 (Nat.le_of_ble_eq_true rfl) rfl fl_X0_9 dX0_add_1 ?_
  obtain ⟨x1, ex1, h⟩ := z_letE h
  refine z_istore_n hB [(3, .int x1), (0, .ref (ad 30)), (1, .int p1), (2, .int p2)] dX0_add_4 rfl (Nat.le_of_ble_eq_true rfl) ex1 rfl ?_
  refine z_aload_n hB 1 dX0_add_5 rfl rfl ?_
  refine z_getr hB 30 1 31 kT_30 (Nat.le_of_ble_eq_true rfl) vc_0 inlX0 (Nat.le_of_ble_eq_true rfl) rfl (Nat.le_of_ble_eq_true rfl) fl_X0_15 dX0_add_6 ?_
  refine z_iload_n hB 0 dX0_add_9 rfl rfl ?_
  refine z_iload_n hB 2 dX0_add_10 rfl rfl ?_
  obtain ⟨h2, h⟩ := z_ckiE h
  obtain ⟨σ3, eσ3, h⟩ := z_letE h
  refine z_iast hB 31 3 kT_31 (Nat.le_of_ble_eq_true rfl) dX0_add_11 h2 ?_
  refine z_to eσ3 ?_
  refine z_aload_n hB 1 dX0_add_12 rfl rfl ?_
  refine z_getr hB 30 2 32 kT_30 (Nat.le_of_ble_eq_true rfl) vc_0 inlX0 (Nat.le_of_ble_eq_true rfl) rfl (Nat.le_of_ble_eq_true rfl) fl_X0_19 dX0_add_13 ?_
  refine z_iload_n hB 0 dX0_add_16 rfl rfl ?_
  refine z_iload_n hB 3 dX0_add_17 rfl rfl ?_
  obtain ⟨h4, h⟩ := z_ckiE h
  obtain ⟨σ5, eσ5, h⟩ := z_letE h
  refine z_iast hB 32 3 kT_32 (Nat.le_of_ble_eq_true rfl) dX0_add_18 h4 ?_
  refine z_to eσ5 ?_
  refine z_aload_n hB 1 dX0_add_19 rfl rfl ?_
  refine z_getr hB 30 3 33 kT_30 (Nat.le_of_ble_eq_true rfl) vc_0 inlX0 (Nat.le_of_ble_eq_true rfl) rfl (Nat.le_of_ble_eq_true rfl) fl_X0_22 dX0_add_20 ?_
  refine z_iload_n hB 0 dX0_add_23 rfl rfl ?_
  refine z_iconst hB dX0_add_24 zcI_0 ?_
  obtain ⟨h6, h⟩ := z_ckiE h
  obtain ⟨σ7, eσ7, h⟩ := z_letE h
  refine z_iast hB 33 3 kT_33 (Nat.le_of_ble_eq_true rfl) dX0_add_25 h6 ?_
  refine z_to eσ7 ?_
  refine z_aload_n hB 1 dX0_add_26 rfl rfl ?_
  refine z_getr hB 30 4 34 kT_30 (Nat.le_of_ble_eq_true rfl) vc_0 inlX0 (Nat.le_of_ble_eq_true rfl) rfl (Nat.le_of_ble_eq_true rfl) fl_X0_25 dX0_add_27 ?_
  refine z_iload_n hB 0 dX0_add_30 rfl rfl ?_
  refine z_iconst hB dX0_add_31 zcI_0 ?_
  obtain ⟨h8, h⟩ := z_ckiE h
  obtain ⟨σ9, eσ9, h⟩ := z_letE h
  refine z_iast hB 34 3 kT_34 (Nat.le_of_ble_eq_true rfl) dX0_add_32 h8 ?_
  refine z_to eσ9 ?_
  refine z_aload_n hB 1 dX0_add_33 rfl rfl ?_
  refine z_getr hB 30 5 35 kT_30 (Nat.le_of_ble_eq_true rfl) vc_0 inlX0 (Nat.le_of_ble_eq_true rfl) rfl (Nat.le_of_ble_eq_true rfl) fl_X0_28 dX0_add_34 ?_
  refine z_iload_n hB 0 dX0_add_37 rfl rfl ?_
  refine z_iconst hB dX0_add_38 zcI_0 ?_
  obtain ⟨h10, h⟩ := z_ckiE h
  obtain ⟨σ11, eσ11, h⟩ := z_letE h
  refine z_iast hB 35 3 kT_35 (Nat.le_of_ble_eq_true rfl) dX0_add_39 h10 ?_
  refine z_to eσ11 ?_
  refine z_aload_n hB 1 dX0_add_40 rfl rfl ?_
  refine z_getr hB 30 6 36 kT_30 (Nat.le_of_ble_eq_true rfl) vc_0 inlX0 (Nat.le_of_ble_eq_true rfl) rfl (Nat.le_of_ble_eq_true rfl) fl_X0_31 dX0_add_41 ?_
  refine z_iload_n hB 0 dX0_add_44 rfl rfl ?_
  refine z_iconst hB dX0_add_45 zcI_0 ?_
  obtain ⟨h12, h⟩ := z_ckiE h
  obtain ⟨σ13, eσ13, h⟩ := z_letE h
  refine z_iast hB 36 3 kT_36 (Nat.le_of_ble_eq_true rfl) dX0_add_46 h12 ?_
  refine z_to eσ13 ?_
  refine z_aload_n hB 1 dX0_add_47 rfl rfl ?_
  refine z_getr hB 30 7 37 kT_30 (Nat.le_of_ble_eq_true rfl) vc_0 inlX0 (Nat.le_of_ble_eq_true rfl) rfl (Nat.le_of_ble_eq_true rfl) fl_X0_34 dX0_add_48 ?_
  refine z_iload_n hB 0 dX0_add_51 rfl rfl ?_
  refine z_iconst hB dX0_add_52 zcI_0 ?_
  obtain ⟨h14, h⟩ := z_ckiE h
  obtain ⟨σ15, eσ15, h⟩ := z_letE h
  refine z_iast hB 37 3 kT_37 (Nat.le_of_ble_eq_true rfl) dX0_add_53 h14 ?_
  refine z_to eσ15 ?_
  refine z_aload_n hB 1 dX0_add_54 rfl rfl ?_
  refine z_dup hB dX0_add_55 rfl ?_
  refine z_get hB 30 0 kT_30 (Nat.le_of_ble_eq_true rfl) vc_0 inlX0 (Nat.le_of_ble_eq_true rfl) rfl fl_X0_9 dX0_add_56 ?_
  refine z_iconst hB dX0_add_59 zcI_1 ?_
  refine z_iadd hB dX0_add_60 ?_
  obtain ⟨σ16, eσ16, h⟩ := z_letE h
  refine z_put hB 30 0 kT_30 (Nat.le_of_ble_eq_true rfl) vc_0 inlX0 tyX0 tyX0_ok nmX0 (Nat.le_of_ble_eq_true rfl) rfl rfl (tyX0_ok 0 (Nat.le_of_ble_eq_true rfl)) fl_X0_9 dX0_add_61 ?_
  refine z_to eσ16 ?_
  refine z_iload_n hB 0 dX0_add_64 rfl rfl ?_
  obtain ⟨h1, h2⟩ := z_prE h
  exact hret _ _ _ _ h1 h2 rfl dX0_add_65
def lb_X0_allTips_4 (σ : z_S) (k1 : Int32 → Int32 → Option Int32) (x2 : Int32) (x3 : Int32) : Option Int32 :=
  if (σ 30 0) ≤ x3 then
  (some (x2))
  else
  (z_cki x3 3 <|
  z_let (x2 + (σ 36 x3.toNatClampNeg)) fun x6 =>
  z_let (x3 + (1 : Int32)) fun x7 =>
  k1 x6 x7)
def f_X0_allTips (σ : z_S) : Option Int32 :=
  z_lp2 (lb_X0_allTips_4 σ) z_Fu (0 : Int32) (0 : Int32)
set_option maxRecDepth 100000 in
set_option maxHeartbeats 4000000 in
theorem c_X0_allTips (σ : z_S) (r : Int32) (h : f_X0_allTips σ = some r) : zMet yX0_allTips cX0_allTips 3 (some .int) 0 0 layT 38 (fun ad => [.ref (ad 30)]) σ (z_QI layT 38 r σ) := by
  refine z_headI RX0 (by decide) rfl (fun _ => Nat.le_of_ble_eq_true rfl) (fun E G A ad hB hret => ?_)
  show ZW E G A 3 layT 38 ad 0 [(0, .ref (ad 30))] [] σ
  unfold f_X0_allTips at h
  refine z_iconst hB dX0_allTips_0 zcI_0 ?_
  refine z_istore_n hB [(1, .int ((0 : Int32))), (0, .ref (ad 30))] dX0_allTips_1 rfl (Nat.le_of_ble_eq_true rfl) rfl rfl ?_
  refine z_iconst hB dX0_allTips_2 zcI_0 ?_
  refine z_istore_n hB [(2, .int ((0 : Int32))), (1, .int ((0 : Int32))), (0, .ref (ad 30))] dX0_allTips_3 rfl (Nat.le_of_ble_eq_true rfl) rfl rfl ?_
  refine z_lv [2, 1, 0] rfl ?_
  refine z_lpr2 (g := fun x2 x3 => ZW E G A 3 layT 38 ad 4 [(0, .ref (ad 30)), (1, .int x2), (2, .int x3)] [] σ) (fun k1 x2 x3 hk_k1 h => ?_) _ _ _ h
  show ZW E G A 3 layT 38 ad 4 [(0, .ref (ad 30)), (1, .int x2), (2, .int x3)] [] σ
  unfold lb_X0_allTips_4 at h
  refine z_iload_n hB 2 dX0_allTips_4 rfl rfl ?_
  refine z_aload_n hB 0 dX0_allTips_5 rfl rfl ?_
  refine z_get hB 30 0 kT_30 (Nat.le_of_ble_eq_true rfl) vc_0 inlX0 (Nat.le_of_ble_eq_true rfl) rfl fl_X0_9 dX0_allTips_6 ?_
  refine z_icmp_ge hB (tgt := 27) dX0_allTips_9 (by decide) (fun c4 => ?_) (fun c4 => ?_)
  · have h := z_ifT c4 h
    refine z_iload_n hB 1 dX0_allTips_27 rfl rfl ?_
    exact hret _ _ _ _ (Option.some.inj h) rfl rfl dX0_allTips_28
  · have h := z_ifF c4 h
    refine z_iload_n hB 1 dX0_allTips_12 rfl rfl ?_
    refine z_aload_n hB 0 dX0_allTips_13 rfl rfl ?_
    refine z_getr hB 30 6 36 kT_30 (Nat.le_of_ble_eq_true rfl) vc_0 inlX0 (Nat.le_of_ble_eq_true rfl) rfl (Nat.le_of_ble_eq_true rfl) fl_X0_31 dX0_allTips_14 ?_
    refine z_iload_n hB 2 dX0_allTips_17 rfl rfl ?_
    obtain ⟨h5, h⟩ := z_ckiE h
    refine z_iald hB 36 3 kT_36 (Nat.le_of_ble_eq_true rfl) dX0_allTips_18 h5 ?_
    refine z_iadd hB dX0_allTips_19 ?_
    obtain ⟨x6, ex6, h⟩ := z_letE h
    refine z_istore_n hB [(1, .int x6), (0, .ref (ad 30)), (2, .int x3)] dX0_allTips_20 rfl (Nat.le_of_ble_eq_true rfl) ex6 rfl ?_
    obtain ⟨x7, ex7, h⟩ := z_letE h
    refine z_iinc hB 2 [(2, .int x7), (1, .int x6), (0, .ref (ad 30))] dX0_allTips_21 rfl (by rw [zcI_1]; exact ex7) (Nat.le_of_ble_eq_true rfl) rfl ?_
    refine z_goto hB (tgt := 4) dX0_allTips_24 (by decide) ?_
    refine z_lv [2, 1, 0] rfl ?_
    exact hk_k1 _ _ h
def f_X4_copyFrom (σ : z_S) : Option z_S :=
  z_let (z_u σ 2 0 (σ 40 0)) fun σ1 =>
  z_b1 (f_X9_copy 20 20 (σ1 2 0) (fun k => σ1 (zi2 41 3 k))) fun σ3 =>
  z_let (z_m σ1 (zk2 41 3) 2 σ3) fun σ4 =>
  z_b1 (f_X9_copy 20 20 (σ4 2 0) (fun k => σ4 (zi2 42 4 k))) fun σ6 =>
  z_let (z_m σ4 (zk2 42 4) 2 σ6) fun σ7 =>
  z_b1 (f_X9_copy 20 20 (σ7 2 0) (fun k => σ7 (zi2 43 5 k))) fun σ9 =>
  z_let (z_m σ7 (zk2 43 5) 2 σ9) fun σ10 =>
  z_b1 (f_X9_copy 20 20 (σ10 2 0) (fun k => σ10 (zi2 44 6 k))) fun σ12 =>
  z_let (z_m σ10 (zk2 44 6) 2 σ12) fun σ13 =>
  z_b1 (f_X9_copy 20 20 (σ13 2 0) (fun k => σ13 (zi2 45 7 k))) fun σ15 =>
  z_let (z_m σ13 (zk2 45 7) 2 σ15) fun σ16 =>
  z_b1 (f_X9_copy 20 20 (σ16 2 0) (fun k => σ16 (zi2 46 8 k))) fun σ18 =>
  z_let (z_m σ16 (zk2 46 8) 2 σ18) fun σ19 =>
  z_b1 (f_X9_copy 20 20 (σ19 2 0) (fun k => σ19 (zi2 47 9 k))) fun σ21 =>
  z_let (z_m σ19 (zk2 47 9) 2 σ21) fun σ22 =>
  z_b1 (f_X9_copy 20 20 (σ22 2 0) (fun k => σ22 (zi2 48 10 k))) fun σ24 =>
  z_let (z_m σ22 (zk2 48 10) 2 σ24) fun σ25 =>
  some σ25
set_option maxRecDepth 100000 in
set_option maxHeartbeats 4000000 in
theorem c_X4_copyFrom (σ σz : z_S) (h : f_X4_copyFrom σ = some σz) : zMet yX4_copyFrom cX4_copyFrom 2 none 2 40 layTT 76 (fun ad => [.ref (ad 2), .ref (ad 40)]) σ (z_QV layTT 76 σz) := by
  refine z_headV RX4 (by decide) rfl (fun _ => Nat.le_of_ble_eq_true rfl) (fun E G A ad hB hret => ?_)
  show ZW E G A 2 layTT 76 ad 0 [(0, .ref (ad 2)), (1, .ref (ad 40))] [] σ
  unfold f_X4_copyFrom at h
  refine z_aload_n hB 0 dX4_copyFrom_0 rfl rfl ?_
  refine z_aload_n hB 1 dX4_copyFrom_1 rfl rfl ?_
  refine z_get hB 40 0 kTT_40 (Nat.le_of_ble_eq_true rfl) vc_4 inlX4 (Nat.le_of_ble_eq_true rfl) rfl fl_X4_9 dX4_copyFrom_2 ?_
  obtain ⟨σ1, eσ1, h⟩ := z_letE h
  refine z_put hB 2 0 kTT_2 (Nat.le_of_ble_eq_true rfl) vc_4 inlX4 tyX4 tyX4_ok nmX4 (Nat.le_of_ble_eq_true rfl) rfl rfl (tyX4_ok 0 (Nat.le_of_ble_eq_true rfl)) fl_X4_9 dX4_copyFrom_5 ?_
  refine z_to eσ1 ?_
  refine z_aload_n hB 1 dX4_copyFrom_8 rfl rfl ?_
  refine z_getr hB 40 1 41 kTT_40 (Nat.le_of_ble_eq_true rfl) vc_4 inlX4 (Nat.le_of_ble_eq_true rfl) rfl (Nat.le_of_ble_eq_true rfl) fl_X4_15 dX4_copyFrom_9 ?_
  refine z_aload_n hB 0 dX4_copyFrom_12 rfl rfl ?_
  refine z_getr hB 2 1 3 kTT_2 (Nat.le_of_ble_eq_true rfl) vc_4 inlX4 (Nat.le_of_ble_eq_true rfl) rfl (Nat.le_of_ble_eq_true rfl) fl_X4_15 dX4_copyFrom_13 ?_
  refine z_aload_n hB 0 dX4_copyFrom_16 rfl rfl ?_
  refine z_get hB 2 0 kTT_2 (Nat.le_of_ble_eq_true rfl) vc_4 inlX4 (Nat.le_of_ble_eq_true rfl) rfl fl_X4_9 dX4_copyFrom_17 ?_
  obtain ⟨σ3, h2, h⟩ := z_b1E h
  refine z_cV hB (z_rN (ι := zi2 41 3) hB yY_X9_copy (c_X9_copy _ _ _ _ _ h2) rfl (cutC_TT_41_3) z_hno rfl rfl rfl (Nat.le_of_ble_eq_true rfl) (List.mem_of_getElem? (i := 10) rfl) ⟨Nat.le_of_ble_eq_true rfl, Nat.le_of_ble_eq_true rfl⟩ dX4_copyFrom_20) (cutC_TT_41_3) z_hno ?_
  obtain ⟨σ4, eσ4, h⟩ := z_letE h
  refine z_to eσ4 ?_
  refine z_aload_n hB 1 dX4_copyFrom_23 rfl rfl ?_
  refine z_getr hB 40 2 42 kTT_40 (Nat.le_of_ble_eq_true rfl) vc_4 inlX4 (Nat.le_of_ble_eq_true rfl) rfl (Nat.le_of_ble_eq_true rfl) fl_X4_19 dX4_copyFrom_24 ?_
  refine z_aload_n hB 0 dX4_copyFrom_27 rfl rfl ?_
  refine z_getr hB 2 2 4 kTT_2 (Nat.le_of_ble_eq_true rfl) vc_4 inlX4 (Nat.le_of_ble_eq_true rfl) rfl (Nat.le_of_ble_eq_true rfl) fl_X4_19 dX4_copyFrom_28 ?_
  refine z_aload_n hB 0 dX4_copyFrom_31 rfl rfl ?_
  refine z_get hB 2 0 kTT_2 (Nat.le_of_ble_eq_true rfl) vc_4 inlX4 (Nat.le_of_ble_eq_true rfl) rfl fl_X4_9 dX4_copyFrom_32 ?_
  obtain ⟨σ6, h5, h⟩ := z_b1E h
  refine z_cV hB (z_rN (ι := zi2 42 4) hB yY_X9_copy (c_X9_copy _ _ _ _ _ h5) rfl (cutC_TT_42_4) z_hno rfl rfl rfl (Nat.le_of_ble_eq_true rfl) (List.mem_of_getElem? (i := 10) rfl) ⟨Nat.le_of_ble_eq_true rfl, Nat.le_of_ble_eq_true rfl⟩ dX4_copyFrom_35) (cutC_TT_42_4) z_hno ?_
  obtain ⟨σ7, eσ7, h⟩ := z_letE h
  refine z_to eσ7 ?_
  refine z_aload_n hB 1 dX4_copyFrom_38 rfl rfl ?_
  refine z_getr hB 40 3 43 kTT_40 (Nat.le_of_ble_eq_true rfl) vc_4 inlX4 (Nat.le_of_ble_eq_true rfl) rfl (Nat.le_of_ble_eq_true rfl) fl_X4_22 dX4_copyFrom_39 ?_
  refine z_aload_n hB 0 dX4_copyFrom_42 rfl rfl ?_
  refine z_getr hB 2 3 5 kTT_2 (Nat.le_of_ble_eq_true rfl) vc_4 inlX4 (Nat.le_of_ble_eq_true rfl) rfl (Nat.le_of_ble_eq_true rfl) fl_X4_22 dX4_copyFrom_43 ?_
  refine z_aload_n hB 0 dX4_copyFrom_46 rfl rfl ?_
  refine z_get hB 2 0 kTT_2 (Nat.le_of_ble_eq_true rfl) vc_4 inlX4 (Nat.le_of_ble_eq_true rfl) rfl fl_X4_9 dX4_copyFrom_47 ?_
  obtain ⟨σ9, h8, h⟩ := z_b1E h
  refine z_cV hB (z_rN (ι := zi2 43 5) hB yY_X9_copy (c_X9_copy _ _ _ _ _ h8) rfl (cutC_TT_43_5) z_hno rfl rfl rfl (Nat.le_of_ble_eq_true rfl) (List.mem_of_getElem? (i := 10) rfl) ⟨Nat.le_of_ble_eq_true rfl, Nat.le_of_ble_eq_true rfl⟩ dX4_copyFrom_50) (cutC_TT_43_5) z_hno ?_
  obtain ⟨σ10, eσ10, h⟩ := z_letE h
  refine z_to eσ10 ?_
  refine z_aload_n hB 1 dX4_copyFrom_53 rfl rfl ?_
  refine z_getr hB 40 4 44 kTT_40 (Nat.le_of_ble_eq_true rfl) vc_4 inlX4 (Nat.le_of_ble_eq_true rfl) rfl (Nat.le_of_ble_eq_true rfl) fl_X4_25 dX4_copyFrom_54 ?_
  refine z_aload_n hB 0 dX4_copyFrom_57 rfl rfl ?_
  refine z_getr hB 2 4 6 kTT_2 (Nat.le_of_ble_eq_true rfl) vc_4 inlX4 (Nat.le_of_ble_eq_true rfl) rfl (Nat.le_of_ble_eq_true rfl) fl_X4_25 dX4_copyFrom_58 ?_
  refine z_aload_n hB 0 dX4_copyFrom_61 rfl rfl ?_
  refine z_get hB 2 0 kTT_2 (Nat.le_of_ble_eq_true rfl) vc_4 inlX4 (Nat.le_of_ble_eq_true rfl) rfl fl_X4_9 dX4_copyFrom_62 ?_
  obtain ⟨σ12, h11, h⟩ := z_b1E h
  refine z_cV hB (z_rN (ι := zi2 44 6) hB yY_X9_copy (c_X9_copy _ _ _ _ _ h11) rfl (cutC_TT_44_6) z_hno rfl rfl rfl (Nat.le_of_ble_eq_true rfl) (List.mem_of_getElem? (i := 10) rfl) ⟨Nat.le_of_ble_eq_true rfl, Nat.le_of_ble_eq_true rfl⟩ dX4_copyFrom_65) (cutC_TT_44_6) z_hno ?_
  obtain ⟨σ13, eσ13, h⟩ := z_letE h
  refine z_to eσ13 ?_
  refine z_aload_n hB 1 dX4_copyFrom_68 rfl rfl ?_
  refine z_getr hB 40 5 45 kTT_40 (Nat.le_of_ble_eq_true rfl) vc_4 inlX4 (Nat.le_of_ble_eq_true rfl) rfl (Nat.le_of_ble_eq_true rfl) fl_X4_28 dX4_copyFrom_69 ?_
  refine z_aload_n hB 0 dX4_copyFrom_72 rfl rfl ?_
  refine z_getr hB 2 5 7 kTT_2 (Nat.le_of_ble_eq_true rfl) vc_4 inlX4 (Nat.le_of_ble_eq_true rfl) rfl (Nat.le_of_ble_eq_true rfl) fl_X4_28 dX4_copyFrom_73 ?_
  refine z_aload_n hB 0 dX4_copyFrom_76 rfl rfl ?_
  refine z_get hB 2 0 kTT_2 (Nat.le_of_ble_eq_true rfl) vc_4 inlX4 (Nat.le_of_ble_eq_true rfl) rfl fl_X4_9 dX4_copyFrom_77 ?_
  obtain ⟨σ15, h14, h⟩ := z_b1E h
  refine z_cV hB (z_rN (ι := zi2 45 7) hB yY_X9_copy (c_X9_copy _ _ _ _ _ h14) rfl (cutC_TT_45_7) z_hno rfl rfl rfl (Nat.le_of_ble_eq_true rfl) (List.mem_of_getElem? (i := 10) rfl) ⟨Nat.le_of_ble_eq_true rfl, Nat.le_of_ble_eq_true rfl⟩ dX4_copyFrom_80) (cutC_TT_45_7) z_hno ?_
  obtain ⟨σ16, eσ16, h⟩ := z_letE h
  refine z_to eσ16 ?_
  refine z_aload_n hB 1 dX4_copyFrom_83 rfl rfl ?_
  refine z_getr hB 40 6 46 kTT_40 (Nat.le_of_ble_eq_true rfl) vc_4 inlX4 (Nat.le_of_ble_eq_true rfl) rfl (Nat.le_of_ble_eq_true rfl) fl_X4_31 dX4_copyFrom_84 ?_
  refine z_aload_n hB 0 dX4_copyFrom_87 rfl rfl ?_
  refine z_getr hB 2 6 8 kTT_2 (Nat.le_of_ble_eq_true rfl) vc_4 inlX4 (Nat.le_of_ble_eq_true rfl) rfl (Nat.le_of_ble_eq_true rfl) fl_X4_31 dX4_copyFrom_88 ?_
  refine z_aload_n hB 0 dX4_copyFrom_91 rfl rfl ?_
  refine z_get hB 2 0 kTT_2 (Nat.le_of_ble_eq_true rfl) vc_4 inlX4 (Nat.le_of_ble_eq_true rfl) rfl fl_X4_9 dX4_copyFrom_92 ?_
  obtain ⟨σ18, h17, h⟩ := z_b1E h
  refine z_cV hB (z_rN (ι := zi2 46 8) hB yY_X9_copy (c_X9_copy _ _ _ _ _ h17) rfl (cutC_TT_46_8) z_hno rfl rfl rfl (Nat.le_of_ble_eq_true rfl) (List.mem_of_getElem? (i := 10) rfl) ⟨Nat.le_of_ble_eq_true rfl, Nat.le_of_ble_eq_true rfl⟩ dX4_copyFrom_95) (cutC_TT_46_8) z_hno ?_
  obtain ⟨σ19, eσ19, h⟩ := z_letE h
  refine z_to eσ19 ?_
  refine z_aload_n hB 1 dX4_copyFrom_98 rfl rfl ?_
  refine z_getr hB 40 7 47 kTT_40 (Nat.le_of_ble_eq_true rfl) vc_4 inlX4 (Nat.le_of_ble_eq_true rfl) rfl (Nat.le_of_ble_eq_true rfl) fl_X4_34 dX4_copyFrom_99 ?_
  refine z_aload_n hB 0 dX4_copyFrom_102 rfl rfl ?_
  refine z_getr hB 2 7 9 kTT_2 (Nat.le_of_ble_eq_true rfl) vc_4 inlX4 (Nat.le_of_ble_eq_true rfl) rfl (Nat.le_of_ble_eq_true rfl) fl_X4_34 dX4_copyFrom_103 ?_
  refine z_aload_n hB 0 dX4_copyFrom_106 rfl rfl ?_
  refine z_get hB 2 0 kTT_2 (Nat.le_of_ble_eq_true rfl) vc_4 inlX4 (Nat.le_of_ble_eq_true rfl) rfl fl_X4_9 dX4_copyFrom_107 ?_
  obtain ⟨σ21, h20, h⟩ := z_b1E h
  refine z_cV hB (z_rN (ι := zi2 47 9) hB yY_X9_copy (c_X9_copy _ _ _ _ _ h20) rfl (cutC_TT_47_9) z_hno rfl rfl rfl (Nat.le_of_ble_eq_true rfl) (List.mem_of_getElem? (i := 10) rfl) ⟨Nat.le_of_ble_eq_true rfl, Nat.le_of_ble_eq_true rfl⟩ dX4_copyFrom_110) (cutC_TT_47_9) z_hno ?_
  obtain ⟨σ22, eσ22, h⟩ := z_letE h
  refine z_to eσ22 ?_
  refine z_aload_n hB 1 dX4_copyFrom_113 rfl rfl ?_
  refine z_getr hB 40 8 48 kTT_40 (Nat.le_of_ble_eq_true rfl) vc_4 inlX4 (Nat.le_of_ble_eq_true rfl) rfl (Nat.le_of_ble_eq_true rfl) fl_X4_37 dX4_copyFrom_114 ?_
  refine z_aload_n hB 0 dX4_copyFrom_117 rfl rfl ?_
  refine z_getr hB 2 8 10 kTT_2 (Nat.le_of_ble_eq_true rfl) vc_4 inlX4 (Nat.le_of_ble_eq_true rfl) rfl (Nat.le_of_ble_eq_true rfl) fl_X4_37 dX4_copyFrom_118 ?_
  refine z_aload_n hB 0 dX4_copyFrom_121 rfl rfl ?_
  refine z_get hB 2 0 kTT_2 (Nat.le_of_ble_eq_true rfl) vc_4 inlX4 (Nat.le_of_ble_eq_true rfl) rfl fl_X4_9 dX4_copyFrom_122 ?_
  obtain ⟨σ24, h23, h⟩ := z_b1E h
  refine z_cV hB (z_rN (ι := zi2 48 10) hB yY_X9_copy (c_X9_copy _ _ _ _ _ h23) rfl (cutC_TT_48_10) z_hno rfl rfl rfl (Nat.le_of_ble_eq_true rfl) (List.mem_of_getElem? (i := 10) rfl) ⟨Nat.le_of_ble_eq_true rfl, Nat.le_of_ble_eq_true rfl⟩ dX4_copyFrom_125) (cutC_TT_48_10) z_hno ?_
  obtain ⟨σ25, eσ25, h⟩ := z_letE h
  refine z_to eσ25 ?_
  exact hret _ _ _ (Option.some.inj h) dX4_copyFrom_128
def f_X2_copyFrom (σ : z_S) : Option z_S :=
  z_let (z_u σ 11 0 (σ 49 0)) fun σ1 =>
  z_b1 (f_X9_copy 24 24 (σ1 11 0) (fun k => σ1 (zi2 50 12 k))) fun σ3 =>
  z_let (z_m σ1 (zk2 50 12) 2 σ3) fun σ4 =>
  z_b1 (f_X9_copy 24 24 (σ4 11 0) (fun k => σ4 (zi2 51 13 k))) fun σ6 =>
  z_let (z_m σ4 (zk2 51 13) 2 σ6) fun σ7 =>
  z_b1 (f_X9_copy 24 24 (σ7 11 0) (fun k => σ7 (zi2 52 14 k))) fun σ9 =>
  z_let (z_m σ7 (zk2 52 14) 2 σ9) fun σ10 =>
  z_b1 (f_X9_copy 24 24 (σ10 11 0) (fun k => σ10 (zi2 53 15 k))) fun σ12 =>
  z_let (z_m σ10 (zk2 53 15) 2 σ12) fun σ13 =>
  z_b1 (f_X9_copy 24 24 (σ13 11 0) (fun k => σ13 (zi2 54 16 k))) fun σ15 =>
  z_let (z_m σ13 (zk2 54 16) 2 σ15) fun σ16 =>
  z_b1 (f_X9_copy 24 24 (σ16 11 0) (fun k => σ16 (zi2 55 17 k))) fun σ18 =>
  z_let (z_m σ16 (zk2 55 17) 2 σ18) fun σ19 =>
  z_b1 (f_X9_copy 24 24 (σ19 11 0) (fun k => σ19 (zi2 56 18 k))) fun σ21 =>
  z_let (z_m σ19 (zk2 56 18) 2 σ21) fun σ22 =>
  z_b1 (f_X9_copy 24 24 (σ22 11 0) (fun k => σ22 (zi2 57 19 k))) fun σ24 =>
  z_let (z_m σ22 (zk2 57 19) 2 σ24) fun σ25 =>
  z_b1 (f_X9_copy 24 24 (σ25 11 0) (fun k => σ25 (zi2 58 20 k))) fun σ27 =>
  z_let (z_m σ25 (zk2 58 20) 2 σ27) fun σ28 =>
  z_b1 (f_X9_copy 24 24 (σ28 11 0) (fun k => σ28 (zi2 59 21 k))) fun σ30 =>
  z_let (z_m σ28 (zk2 59 21) 2 σ30) fun σ31 =>
  z_b1 (f_X9_copy 24 24 (σ31 11 0) (fun k => σ31 (zi2 60 22 k))) fun σ33 =>
  z_let (z_m σ31 (zk2 60 22) 2 σ33) fun σ34 =>
  z_b1 (f_X9_copy 24 24 (σ34 11 0) (fun k => σ34 (zi2 61 23 k))) fun σ36 =>
  z_let (z_m σ34 (zk2 61 23) 2 σ36) fun σ37 =>
  z_b1 (f_X9_copy 24 24 (σ37 11 0) (fun k => σ37 (zi2 62 24 k))) fun σ39 =>
  z_let (z_m σ37 (zk2 62 24) 2 σ39) fun σ40 =>
  z_b1 (f_X9_copy 24 24 (σ40 11 0) (fun k => σ40 (zi2 63 25 k))) fun σ42 =>
  z_let (z_m σ40 (zk2 63 25) 2 σ42) fun σ43 =>
  some σ43
set_option maxRecDepth 100000 in
set_option maxHeartbeats 4000000 in
theorem c_X2_copyFrom (σ σz : z_S) (h : f_X2_copyFrom σ = some σz) : zMet yX2_copyFrom cX2_copyFrom 2 none 2 40 layTT 76 (fun ad => [.ref (ad 11), .ref (ad 49)]) σ (z_QV layTT 76 σz) := by
  refine z_headV RX2 (by decide) rfl (fun _ => Nat.le_of_ble_eq_true rfl) (fun E G A ad hB hret => ?_)
  show ZW E G A 2 layTT 76 ad 0 [(0, .ref (ad 11)), (1, .ref (ad 49))] [] σ
  unfold f_X2_copyFrom at h
  refine z_aload_n hB 0 dX2_copyFrom_0 rfl rfl ?_
  refine z_aload_n hB 1 dX2_copyFrom_1 rfl rfl ?_
  refine z_get hB 49 0 kTT_49 (Nat.le_of_ble_eq_true rfl) vc_2 inlX2 (Nat.le_of_ble_eq_true rfl) rfl fl_X2_9 dX2_copyFrom_2 ?_
  obtain ⟨σ1, eσ1, h⟩ := z_letE h
  refine z_put hB 11 0 kTT_11 (Nat.le_of_ble_eq_true rfl) vc_2 inlX2 tyX2 tyX2_ok nmX2 (Nat.le_of_ble_eq_true rfl) rfl rfl (tyX2_ok 0 (Nat.le_of_ble_eq_true rfl)) fl_X2_9 dX2_copyFrom_5 ?_
  refine z_to eσ1 ?_
  refine z_aload_n hB 1 dX2_copyFrom_8 rfl rfl ?_
  refine z_getr hB 49 1 50 kTT_49 (Nat.le_of_ble_eq_true rfl) vc_2 inlX2 (Nat.le_of_ble_eq_true rfl) rfl (Nat.le_of_ble_eq_true rfl) fl_X2_15 dX2_copyFrom_9 ?_
  refine z_aload_n hB 0 dX2_copyFrom_12 rfl rfl ?_
  refine z_getr hB 11 1 12 kTT_11 (Nat.le_of_ble_eq_true rfl) vc_2 inlX2 (Nat.le_of_ble_eq_true rfl) rfl (Nat.le_of_ble_eq_true rfl) fl_X2_15 dX2_copyFrom_13 ?_
  refine z_aload_n hB 0 dX2_copyFrom_16 rfl rfl ?_
  refine z_get hB 11 0 kTT_11 (Nat.le_of_ble_eq_true rfl) vc_2 inlX2 (Nat.le_of_ble_eq_true rfl) rfl fl_X2_9 dX2_copyFrom_17 ?_
  obtain ⟨σ3, h2, h⟩ := z_b1E h
  refine z_cV hB (z_rN (ι := zi2 50 12) hB yY_X9_copy (c_X9_copy _ _ _ _ _ h2) rfl (cutC_TT_50_12) z_hno rfl rfl rfl (Nat.le_of_ble_eq_true rfl) (List.mem_of_getElem? (i := 11) rfl) ⟨Nat.le_of_ble_eq_true rfl, Nat.le_of_ble_eq_true rfl⟩ dX2_copyFrom_20) (cutC_TT_50_12) z_hno ?_
  obtain ⟨σ4, eσ4, h⟩ := z_letE h
  refine z_to eσ4 ?_
  refine z_aload_n hB 1 dX2_copyFrom_23 rfl rfl ?_
  refine z_getr hB 49 2 51 kTT_49 (Nat.le_of_ble_eq_true rfl) vc_2 inlX2 (Nat.le_of_ble_eq_true rfl) rfl (Nat.le_of_ble_eq_true rfl) fl_X2_19 dX2_copyFrom_24 ?_
  refine z_aload_n hB 0 dX2_copyFrom_27 rfl rfl ?_
  refine z_getr hB 11 2 13 kTT_11 (Nat.le_of_ble_eq_true rfl) vc_2 inlX2 (Nat.le_of_ble_eq_true rfl) rfl (Nat.le_of_ble_eq_true rfl) fl_X2_19 dX2_copyFrom_28 ?_
  refine z_aload_n hB 0 dX2_copyFrom_31 rfl rfl ?_
  refine z_get hB 11 0 kTT_11 (Nat.le_of_ble_eq_true rfl) vc_2 inlX2 (Nat.le_of_ble_eq_true rfl) rfl fl_X2_9 dX2_copyFrom_32 ?_
  obtain ⟨σ6, h5, h⟩ := z_b1E h
  refine z_cV hB (z_rN (ι := zi2 51 13) hB yY_X9_copy (c_X9_copy _ _ _ _ _ h5) rfl (cutC_TT_51_13) z_hno rfl rfl rfl (Nat.le_of_ble_eq_true rfl) (List.mem_of_getElem? (i := 11) rfl) ⟨Nat.le_of_ble_eq_true rfl, Nat.le_of_ble_eq_true rfl⟩ dX2_copyFrom_35) (cutC_TT_51_13) z_hno ?_
  obtain ⟨σ7, eσ7, h⟩ := z_letE h
  refine z_to eσ7 ?_
  refine z_aload_n hB 1 dX2_copyFrom_38 rfl rfl ?_
  refine z_getr hB 49 3 52 kTT_49 (Nat.le_of_ble_eq_true rfl) vc_2 inlX2 (Nat.le_of_ble_eq_true rfl) rfl (Nat.le_of_ble_eq_true rfl) fl_X2_22 dX2_copyFrom_39 ?_
  refine z_aload_n hB 0 dX2_copyFrom_42 rfl rfl ?_
  refine z_getr hB 11 3 14 kTT_11 (Nat.le_of_ble_eq_true rfl) vc_2 inlX2 (Nat.le_of_ble_eq_true rfl) rfl (Nat.le_of_ble_eq_true rfl) fl_X2_22 dX2_copyFrom_43 ?_
  refine z_aload_n hB 0 dX2_copyFrom_46 rfl rfl ?_
  refine z_get hB 11 0 kTT_11 (Nat.le_of_ble_eq_true rfl) vc_2 inlX2 (Nat.le_of_ble_eq_true rfl) rfl fl_X2_9 dX2_copyFrom_47 ?_
  obtain ⟨σ9, h8, h⟩ := z_b1E h
  refine z_cV hB (z_rN (ι := zi2 52 14) hB yY_X9_copy (c_X9_copy _ _ _ _ _ h8) rfl (cutC_TT_52_14) z_hno rfl rfl rfl (Nat.le_of_ble_eq_true rfl) (List.mem_of_getElem? (i := 11) rfl) ⟨Nat.le_of_ble_eq_true rfl, Nat.le_of_ble_eq_true rfl⟩ dX2_copyFrom_50) (cutC_TT_52_14) z_hno ?_
  obtain ⟨σ10, eσ10, h⟩ := z_letE h
  refine z_to eσ10 ?_
  refine z_aload_n hB 1 dX2_copyFrom_53 rfl rfl ?_
  refine z_getr hB 49 4 53 kTT_49 (Nat.le_of_ble_eq_true rfl) vc_2 inlX2 (Nat.le_of_ble_eq_true rfl) rfl (Nat.le_of_ble_eq_true rfl) fl_X2_25 dX2_copyFrom_54 ?_
  refine z_aload_n hB 0 dX2_copyFrom_57 rfl rfl ?_
  refine z_getr hB 11 4 15 kTT_11 (Nat.le_of_ble_eq_true rfl) vc_2 inlX2 (Nat.le_of_ble_eq_true rfl) rfl (Nat.le_of_ble_eq_true rfl) fl_X2_25 dX2_copyFrom_58 ?_
  refine z_aload_n hB 0 dX2_copyFrom_61 rfl rfl ?_
  refine z_get hB 11 0 kTT_11 (Nat.le_of_ble_eq_true rfl) vc_2 inlX2 (Nat.le_of_ble_eq_true rfl) rfl fl_X2_9 dX2_copyFrom_62 ?_
  obtain ⟨σ12, h11, h⟩ := z_b1E h
  refine z_cV hB (z_rN (ι := zi2 53 15) hB yY_X9_copy (c_X9_copy _ _ _ _ _ h11) rfl (cutC_TT_53_15) z_hno rfl rfl rfl (Nat.le_of_ble_eq_true rfl) (List.mem_of_getElem? (i := 11) rfl) ⟨Nat.le_of_ble_eq_true rfl, Nat.le_of_ble_eq_true rfl⟩ dX2_copyFrom_65) (cutC_TT_53_15) z_hno ?_
  obtain ⟨σ13, eσ13, h⟩ := z_letE h
  refine z_to eσ13 ?_
  refine z_aload_n hB 1 dX2_copyFrom_68 rfl rfl ?_
  refine z_getr hB 49 5 54 kTT_49 (Nat.le_of_ble_eq_true rfl) vc_2 inlX2 (Nat.le_of_ble_eq_true rfl) rfl (Nat.le_of_ble_eq_true rfl) fl_X2_28 dX2_copyFrom_69 ?_
  refine z_aload_n hB 0 dX2_copyFrom_72 rfl rfl ?_
  refine z_getr hB 11 5 16 kTT_11 (Nat.le_of_ble_eq_true rfl) vc_2 inlX2 (Nat.le_of_ble_eq_true rfl) rfl (Nat.le_of_ble_eq_true rfl) fl_X2_28 dX2_copyFrom_73 ?_
  refine z_aload_n hB 0 dX2_copyFrom_76 rfl rfl ?_
  refine z_get hB 11 0 kTT_11 (Nat.le_of_ble_eq_true rfl) vc_2 inlX2 (Nat.le_of_ble_eq_true rfl) rfl fl_X2_9 dX2_copyFrom_77 ?_
  obtain ⟨σ15, h14, h⟩ := z_b1E h
  refine z_cV hB (z_rN (ι := zi2 54 16) hB yY_X9_copy (c_X9_copy _ _ _ _ _ h14) rfl (cutC_TT_54_16) z_hno rfl rfl rfl (Nat.le_of_ble_eq_true rfl) (List.mem_of_getElem? (i := 11) rfl) ⟨Nat.le_of_ble_eq_true rfl, Nat.le_of_ble_eq_true rfl⟩ dX2_copyFrom_80) (cutC_TT_54_16) z_hno ?_
  obtain ⟨σ16, eσ16, h⟩ := z_letE h
  refine z_to eσ16 ?_
  refine z_aload_n hB 1 dX2_copyFrom_83 rfl rfl ?_
  refine z_getr hB 49 6 55 kTT_49 (Nat.le_of_ble_eq_true rfl) vc_2 inlX2 (Nat.le_of_ble_eq_true rfl) rfl (Nat.le_of_ble_eq_true rfl) fl_X2_31 dX2_copyFrom_84 ?_
  refine z_aload_n hB 0 dX2_copyFrom_87 rfl rfl ?_
  refine z_getr hB 11 6 17 kTT_11 (Nat.le_of_ble_eq_true rfl) vc_2 inlX2 (Nat.le_of_ble_eq_true rfl) rfl (Nat.le_of_ble_eq_true rfl) fl_X2_31 dX2_copyFrom_88 ?_
  refine z_aload_n hB 0 dX2_copyFrom_91 rfl rfl ?_
  refine z_get hB 11 0 kTT_11 (Nat.le_of_ble_eq_true rfl) vc_2 inlX2 (Nat.le_of_ble_eq_true rfl) rfl fl_X2_9 dX2_copyFrom_92 ?_
  obtain ⟨σ18, h17, h⟩ := z_b1E h
  refine z_cV hB (z_rN (ι := zi2 55 17) hB yY_X9_copy (c_X9_copy _ _ _ _ _ h17) rfl (cutC_TT_55_17) z_hno rfl rfl rfl (Nat.le_of_ble_eq_true rfl) (List.mem_of_getElem? (i := 11) rfl) ⟨Nat.le_of_ble_eq_true rfl, Nat.le_of_ble_eq_true rfl⟩ dX2_copyFrom_95) (cutC_TT_55_17) z_hno ?_
  obtain ⟨σ19, eσ19, h⟩ := z_letE h
  refine z_to eσ19 ?_
  refine z_aload_n hB 1 dX2_copyFrom_98 rfl rfl ?_
  refine z_getr hB 49 7 56 kTT_49 (Nat.le_of_ble_eq_true rfl) vc_2 inlX2 (Nat.le_of_ble_eq_true rfl) rfl (Nat.le_of_ble_eq_true rfl) fl_X2_34 dX2_copyFrom_99 ?_
  refine z_aload_n hB 0 dX2_copyFrom_102 rfl rfl ?_
  refine z_getr hB 11 7 18 kTT_11 (Nat.le_of_ble_eq_true rfl) vc_2 inlX2 (Nat.le_of_ble_eq_true rfl) rfl (Nat.le_of_ble_eq_true rfl) fl_X2_34 dX2_copyFrom_103 ?_
  refine z_aload_n hB 0 dX2_copyFrom_106 rfl rfl ?_
  refine z_get hB 11 0 kTT_11 (Nat.le_of_ble_eq_true rfl) vc_2 inlX2 (Nat.le_of_ble_eq_true rfl) rfl fl_X2_9 dX2_copyFrom_107 ?_
  obtain ⟨σ21, h20, h⟩ := z_b1E h
  refine z_cV hB (z_rN (ι := zi2 56 18) hB yY_X9_copy (c_X9_copy _ _ _ _ _ h20) rfl (cutC_TT_56_18) z_hno rfl rfl rfl (Nat.le_of_ble_eq_true rfl) (List.mem_of_getElem? (i := 11) rfl) ⟨Nat.le_of_ble_eq_true rfl, Nat.le_of_ble_eq_true rfl⟩ dX2_copyFrom_110) (cutC_TT_56_18) z_hno ?_
  obtain ⟨σ22, eσ22, h⟩ := z_letE h
  refine z_to eσ22 ?_
  refine z_aload_n hB 1 dX2_copyFrom_113 rfl rfl ?_
  refine z_getr hB 49 8 57 kTT_49 (Nat.le_of_ble_eq_true rfl) vc_2 inlX2 (Nat.le_of_ble_eq_true rfl) rfl (Nat.le_of_ble_eq_true rfl) fl_X2_37 dX2_copyFrom_114 ?_
  refine z_aload_n hB 0 dX2_copyFrom_117 rfl rfl ?_
  refine z_getr hB 11 8 19 kTT_11 (Nat.le_of_ble_eq_true rfl) vc_2 inlX2 (Nat.le_of_ble_eq_true rfl) rfl (Nat.le_of_ble_eq_true rfl) fl_X2_37 dX2_copyFrom_118 ?_
  refine z_aload_n hB 0 dX2_copyFrom_121 rfl rfl ?_
  refine z_get hB 11 0 kTT_11 (Nat.le_of_ble_eq_true rfl) vc_2 inlX2 (Nat.le_of_ble_eq_true rfl) rfl fl_X2_9 dX2_copyFrom_122 ?_
  obtain ⟨σ24, h23, h⟩ := z_b1E h
  refine z_cV hB (z_rN (ι := zi2 57 19) hB yY_X9_copy (c_X9_copy _ _ _ _ _ h23) rfl (cutC_TT_57_19) z_hno rfl rfl rfl (Nat.le_of_ble_eq_true rfl) (List.mem_of_getElem? (i := 11) rfl) ⟨Nat.le_of_ble_eq_true rfl, Nat.le_of_ble_eq_true rfl⟩ dX2_copyFrom_125) (cutC_TT_57_19) z_hno ?_
  obtain ⟨σ25, eσ25, h⟩ := z_letE h
  refine z_to eσ25 ?_
  refine z_aload_n hB 1 dX2_copyFrom_128 rfl rfl ?_
  refine z_getr hB 49 9 58 kTT_49 (Nat.le_of_ble_eq_true rfl) vc_2 inlX2 (Nat.le_of_ble_eq_true rfl) rfl (Nat.le_of_ble_eq_true rfl) fl_X2_40 dX2_copyFrom_129 ?_
  refine z_aload_n hB 0 dX2_copyFrom_132 rfl rfl ?_
  refine z_getr hB 11 9 20 kTT_11 (Nat.le_of_ble_eq_true rfl) vc_2 inlX2 (Nat.le_of_ble_eq_true rfl) rfl (Nat.le_of_ble_eq_true rfl) fl_X2_40 dX2_copyFrom_133 ?_
  refine z_aload_n hB 0 dX2_copyFrom_136 rfl rfl ?_
  refine z_get hB 11 0 kTT_11 (Nat.le_of_ble_eq_true rfl) vc_2 inlX2 (Nat.le_of_ble_eq_true rfl) rfl fl_X2_9 dX2_copyFrom_137 ?_
  obtain ⟨σ27, h26, h⟩ := z_b1E h
  refine z_cV hB (z_rN (ι := zi2 58 20) hB yY_X9_copy (c_X9_copy _ _ _ _ _ h26) rfl (cutC_TT_58_20) z_hno rfl rfl rfl (Nat.le_of_ble_eq_true rfl) (List.mem_of_getElem? (i := 11) rfl) ⟨Nat.le_of_ble_eq_true rfl, Nat.le_of_ble_eq_true rfl⟩ dX2_copyFrom_140) (cutC_TT_58_20) z_hno ?_
  obtain ⟨σ28, eσ28, h⟩ := z_letE h
  refine z_to eσ28 ?_
  refine z_aload_n hB 1 dX2_copyFrom_143 rfl rfl ?_
  refine z_getr hB 49 10 59 kTT_49 (Nat.le_of_ble_eq_true rfl) vc_2 inlX2 (Nat.le_of_ble_eq_true rfl) rfl (Nat.le_of_ble_eq_true rfl) fl_X2_43 dX2_copyFrom_144 ?_
  refine z_aload_n hB 0 dX2_copyFrom_147 rfl rfl ?_
  refine z_getr hB 11 10 21 kTT_11 (Nat.le_of_ble_eq_true rfl) vc_2 inlX2 (Nat.le_of_ble_eq_true rfl) rfl (Nat.le_of_ble_eq_true rfl) fl_X2_43 dX2_copyFrom_148 ?_
  refine z_aload_n hB 0 dX2_copyFrom_151 rfl rfl ?_
  refine z_get hB 11 0 kTT_11 (Nat.le_of_ble_eq_true rfl) vc_2 inlX2 (Nat.le_of_ble_eq_true rfl) rfl fl_X2_9 dX2_copyFrom_152 ?_
  obtain ⟨σ30, h29, h⟩ := z_b1E h
  refine z_cV hB (z_rN (ι := zi2 59 21) hB yY_X9_copy (c_X9_copy _ _ _ _ _ h29) rfl (cutC_TT_59_21) z_hno rfl rfl rfl (Nat.le_of_ble_eq_true rfl) (List.mem_of_getElem? (i := 11) rfl) ⟨Nat.le_of_ble_eq_true rfl, Nat.le_of_ble_eq_true rfl⟩ dX2_copyFrom_155) (cutC_TT_59_21) z_hno ?_
  obtain ⟨σ31, eσ31, h⟩ := z_letE h
  refine z_to eσ31 ?_
  refine z_aload_n hB 1 dX2_copyFrom_158 rfl rfl ?_
  refine z_getr hB 49 11 60 kTT_49 (Nat.le_of_ble_eq_true rfl) vc_2 inlX2 (Nat.le_of_ble_eq_true rfl) rfl (Nat.le_of_ble_eq_true rfl) fl_X2_46 dX2_copyFrom_159 ?_
  refine z_aload_n hB 0 dX2_copyFrom_162 rfl rfl ?_
  refine z_getr hB 11 11 22 kTT_11 (Nat.le_of_ble_eq_true rfl) vc_2 inlX2 (Nat.le_of_ble_eq_true rfl) rfl (Nat.le_of_ble_eq_true rfl) fl_X2_46 dX2_copyFrom_163 ?_
  refine z_aload_n hB 0 dX2_copyFrom_166 rfl rfl ?_
  refine z_get hB 11 0 kTT_11 (Nat.le_of_ble_eq_true rfl) vc_2 inlX2 (Nat.le_of_ble_eq_true rfl) rfl fl_X2_9 dX2_copyFrom_167 ?_
  obtain ⟨σ33, h32, h⟩ := z_b1E h
  refine z_cV hB (z_rN (ι := zi2 60 22) hB yY_X9_copy (c_X9_copy _ _ _ _ _ h32) rfl (cutC_TT_60_22) z_hno rfl rfl rfl (Nat.le_of_ble_eq_true rfl) (List.mem_of_getElem? (i := 11) rfl) ⟨Nat.le_of_ble_eq_true rfl, Nat.le_of_ble_eq_true rfl⟩ dX2_copyFrom_170) (cutC_TT_60_22) z_hno ?_
  obtain ⟨σ34, eσ34, h⟩ := z_letE h
  refine z_to eσ34 ?_
  refine z_aload_n hB 1 dX2_copyFrom_173 rfl rfl ?_
  refine z_getr hB 49 12 61 kTT_49 (Nat.le_of_ble_eq_true rfl) vc_2 inlX2 (Nat.le_of_ble_eq_true rfl) rfl (Nat.le_of_ble_eq_true rfl) fl_X2_49 dX2_copyFrom_174 ?_
  refine z_aload_n hB 0 dX2_copyFrom_177 rfl rfl ?_
  refine z_getr hB 11 12 23 kTT_11 (Nat.le_of_ble_eq_true rfl) vc_2 inlX2 (Nat.le_of_ble_eq_true rfl) rfl (Nat.le_of_ble_eq_true rfl) fl_X2_49 dX2_copyFrom_178 ?_
  refine z_aload_n hB 0 dX2_copyFrom_181 rfl rfl ?_
  refine z_get hB 11 0 kTT_11 (Nat.le_of_ble_eq_true rfl) vc_2 inlX2 (Nat.le_of_ble_eq_true rfl) rfl fl_X2_9 dX2_copyFrom_182 ?_
  obtain ⟨σ36, h35, h⟩ := z_b1E h
  refine z_cV hB (z_rN (ι := zi2 61 23) hB yY_X9_copy (c_X9_copy _ _ _ _ _ h35) rfl (cutC_TT_61_23) z_hno rfl rfl rfl (Nat.le_of_ble_eq_true rfl) (List.mem_of_getElem? (i := 11) rfl) ⟨Nat.le_of_ble_eq_true rfl, Nat.le_of_ble_eq_true rfl⟩ dX2_copyFrom_185) (cutC_TT_61_23) z_hno ?_
  obtain ⟨σ37, eσ37, h⟩ := z_letE h
  refine z_to eσ37 ?_
  refine z_aload_n hB 1 dX2_copyFrom_188 rfl rfl ?_
  refine z_getr hB 49 13 62 kTT_49 (Nat.le_of_ble_eq_true rfl) vc_2 inlX2 (Nat.le_of_ble_eq_true rfl) rfl (Nat.le_of_ble_eq_true rfl) fl_X2_52 dX2_copyFrom_189 ?_
  refine z_aload_n hB 0 dX2_copyFrom_192 rfl rfl ?_
  refine z_getr hB 11 13 24 kTT_11 (Nat.le_of_ble_eq_true rfl) vc_2 inlX2 (Nat.le_of_ble_eq_true rfl) rfl (Nat.le_of_ble_eq_true rfl) fl_X2_52 dX2_copyFrom_193 ?_
  refine z_aload_n hB 0 dX2_copyFrom_196 rfl rfl ?_
  refine z_get hB 11 0 kTT_11 (Nat.le_of_ble_eq_true rfl) vc_2 inlX2 (Nat.le_of_ble_eq_true rfl) rfl fl_X2_9 dX2_copyFrom_197 ?_
  obtain ⟨σ39, h38, h⟩ := z_b1E h
  refine z_cV hB (z_rN (ι := zi2 62 24) hB yY_X9_copy (c_X9_copy _ _ _ _ _ h38) rfl (cutC_TT_62_24) z_hno rfl rfl rfl (Nat.le_of_ble_eq_true rfl) (List.mem_of_getElem? (i := 11) rfl) ⟨Nat.le_of_ble_eq_true rfl, Nat.le_of_ble_eq_true rfl⟩ dX2_copyFrom_200) (cutC_TT_62_24) z_hno ?_
  obtain ⟨σ40, eσ40, h⟩ := z_letE h
  refine z_to eσ40 ?_
  refine z_aload_n hB 1 dX2_copyFrom_203 rfl rfl ?_
  refine z_getr hB 49 14 63 kTT_49 (Nat.le_of_ble_eq_true rfl) vc_2 inlX2 (Nat.le_of_ble_eq_true rfl) rfl (Nat.le_of_ble_eq_true rfl) fl_X2_55 dX2_copyFrom_204 ?_
  refine z_aload_n hB 0 dX2_copyFrom_207 rfl rfl ?_
  refine z_getr hB 11 14 25 kTT_11 (Nat.le_of_ble_eq_true rfl) vc_2 inlX2 (Nat.le_of_ble_eq_true rfl) rfl (Nat.le_of_ble_eq_true rfl) fl_X2_55 dX2_copyFrom_208 ?_
  refine z_aload_n hB 0 dX2_copyFrom_211 rfl rfl ?_
  refine z_get hB 11 0 kTT_11 (Nat.le_of_ble_eq_true rfl) vc_2 inlX2 (Nat.le_of_ble_eq_true rfl) rfl fl_X2_9 dX2_copyFrom_212 ?_
  obtain ⟨σ42, h41, h⟩ := z_b1E h
  refine z_cV hB (z_rN (ι := zi2 63 25) hB yY_X9_copy (c_X9_copy _ _ _ _ _ h41) rfl (cutC_TT_63_25) z_hno rfl rfl rfl (Nat.le_of_ble_eq_true rfl) (List.mem_of_getElem? (i := 11) rfl) ⟨Nat.le_of_ble_eq_true rfl, Nat.le_of_ble_eq_true rfl⟩ dX2_copyFrom_215) (cutC_TT_63_25) z_hno ?_
  obtain ⟨σ43, eσ43, h⟩ := z_letE h
  refine z_to eσ43 ?_
  exact hret _ _ _ (Option.some.inj h) dX2_copyFrom_218
def f_X3_copyFrom (σ : z_S) : Option z_S :=
  z_let (z_u σ 26 0 (σ 64 0)) fun σ1 =>
  z_b1 (f_X9_copy 30 30 (σ1 26 0) (fun k => σ1 (zi2 65 27 k))) fun σ3 =>
  z_let (z_m σ1 (zk2 65 27) 2 σ3) fun σ4 =>
  z_b1 (f_X9_copy 30 30 (σ4 26 0) (fun k => σ4 (zi2 66 28 k))) fun σ6 =>
  z_let (z_m σ4 (zk2 66 28) 2 σ6) fun σ7 =>
  z_b1 (f_X9_copy 30 30 (σ7 26 0) (fun k => σ7 (zi2 67 29 k))) fun σ9 =>
  z_let (z_m σ7 (zk2 67 29) 2 σ9) fun σ10 =>
  some σ10
set_option maxRecDepth 100000 in
set_option maxHeartbeats 4000000 in
theorem c_X3_copyFrom (σ σz : z_S) (h : f_X3_copyFrom σ = some σz) : zMet yX3_copyFrom cX3_copyFrom 2 none 2 40 layTT 76 (fun ad => [.ref (ad 26), .ref (ad 64)]) σ (z_QV layTT 76 σz) := by
  refine z_headV RX3 (by decide) rfl (fun _ => Nat.le_of_ble_eq_true rfl) (fun E G A ad hB hret => ?_)
  show ZW E G A 2 layTT 76 ad 0 [(0, .ref (ad 26)), (1, .ref (ad 64))] [] σ
  unfold f_X3_copyFrom at h
  refine z_aload_n hB 0 dX3_copyFrom_0 rfl rfl ?_
  refine z_aload_n hB 1 dX3_copyFrom_1 rfl rfl ?_
  refine z_get hB 64 0 kTT_64 (Nat.le_of_ble_eq_true rfl) vc_3 inlX3 (Nat.le_of_ble_eq_true rfl) rfl fl_X3_9 dX3_copyFrom_2 ?_
  obtain ⟨σ1, eσ1, h⟩ := z_letE h
  refine z_put hB 26 0 kTT_26 (Nat.le_of_ble_eq_true rfl) vc_3 inlX3 tyX3 tyX3_ok nmX3 (Nat.le_of_ble_eq_true rfl) rfl rfl (tyX3_ok 0 (Nat.le_of_ble_eq_true rfl)) fl_X3_9 dX3_copyFrom_5 ?_
  refine z_to eσ1 ?_
  refine z_aload_n hB 1 dX3_copyFrom_8 rfl rfl ?_
  refine z_getr hB 64 1 65 kTT_64 (Nat.le_of_ble_eq_true rfl) vc_3 inlX3 (Nat.le_of_ble_eq_true rfl) rfl (Nat.le_of_ble_eq_true rfl) fl_X3_15 dX3_copyFrom_9 ?_
  refine z_aload_n hB 0 dX3_copyFrom_12 rfl rfl ?_
  refine z_getr hB 26 1 27 kTT_26 (Nat.le_of_ble_eq_true rfl) vc_3 inlX3 (Nat.le_of_ble_eq_true rfl) rfl (Nat.le_of_ble_eq_true rfl) fl_X3_15 dX3_copyFrom_13 ?_
  refine z_aload_n hB 0 dX3_copyFrom_16 rfl rfl ?_
  refine z_get hB 26 0 kTT_26 (Nat.le_of_ble_eq_true rfl) vc_3 inlX3 (Nat.le_of_ble_eq_true rfl) rfl fl_X3_9 dX3_copyFrom_17 ?_
  obtain ⟨σ3, h2, h⟩ := z_b1E h
  refine z_cV hB (z_rN (ι := zi2 65 27) hB yY_X9_copy (c_X9_copy _ _ _ _ _ h2) rfl (cutC_TT_65_27) z_hno rfl rfl rfl (Nat.le_of_ble_eq_true rfl) (List.mem_of_getElem? (i := 12) rfl) ⟨Nat.le_of_ble_eq_true rfl, Nat.le_of_ble_eq_true rfl⟩ dX3_copyFrom_20) (cutC_TT_65_27) z_hno ?_
  obtain ⟨σ4, eσ4, h⟩ := z_letE h
  refine z_to eσ4 ?_
  refine z_aload_n hB 1 dX3_copyFrom_23 rfl rfl ?_
  refine z_getr hB 64 2 66 kTT_64 (Nat.le_of_ble_eq_true rfl) vc_3 inlX3 (Nat.le_of_ble_eq_true rfl) rfl (Nat.le_of_ble_eq_true rfl) fl_X3_19 dX3_copyFrom_24 ?_
  refine z_aload_n hB 0 dX3_copyFrom_27 rfl rfl ?_
  refine z_getr hB 26 2 28 kTT_26 (Nat.le_of_ble_eq_true rfl) vc_3 inlX3 (Nat.le_of_ble_eq_true rfl) rfl (Nat.le_of_ble_eq_true rfl) fl_X3_19 dX3_copyFrom_28 ?_
  refine z_aload_n hB 0 dX3_copyFrom_31 rfl rfl ?_
  refine z_get hB 26 0 kTT_26 (Nat.le_of_ble_eq_true rfl) vc_3 inlX3 (Nat.le_of_ble_eq_true rfl) rfl fl_X3_9 dX3_copyFrom_32 ?_
  obtain ⟨σ6, h5, h⟩ := z_b1E h
  refine z_cV hB (z_rN (ι := zi2 66 28) hB yY_X9_copy (c_X9_copy _ _ _ _ _ h5) rfl (cutC_TT_66_28) z_hno rfl rfl rfl (Nat.le_of_ble_eq_true rfl) (List.mem_of_getElem? (i := 12) rfl) ⟨Nat.le_of_ble_eq_true rfl, Nat.le_of_ble_eq_true rfl⟩ dX3_copyFrom_35) (cutC_TT_66_28) z_hno ?_
  obtain ⟨σ7, eσ7, h⟩ := z_letE h
  refine z_to eσ7 ?_
  refine z_aload_n hB 1 dX3_copyFrom_38 rfl rfl ?_
  refine z_getr hB 64 3 67 kTT_64 (Nat.le_of_ble_eq_true rfl) vc_3 inlX3 (Nat.le_of_ble_eq_true rfl) rfl (Nat.le_of_ble_eq_true rfl) fl_X3_22 dX3_copyFrom_39 ?_
  refine z_aload_n hB 0 dX3_copyFrom_42 rfl rfl ?_
  refine z_getr hB 26 3 29 kTT_26 (Nat.le_of_ble_eq_true rfl) vc_3 inlX3 (Nat.le_of_ble_eq_true rfl) rfl (Nat.le_of_ble_eq_true rfl) fl_X3_22 dX3_copyFrom_43 ?_
  refine z_aload_n hB 0 dX3_copyFrom_46 rfl rfl ?_
  refine z_get hB 26 0 kTT_26 (Nat.le_of_ble_eq_true rfl) vc_3 inlX3 (Nat.le_of_ble_eq_true rfl) rfl fl_X3_9 dX3_copyFrom_47 ?_
  obtain ⟨σ9, h8, h⟩ := z_b1E h
  refine z_cV hB (z_rN (ι := zi2 67 29) hB yY_X9_copy (c_X9_copy _ _ _ _ _ h8) rfl (cutC_TT_67_29) z_hno rfl rfl rfl (Nat.le_of_ble_eq_true rfl) (List.mem_of_getElem? (i := 12) rfl) ⟨Nat.le_of_ble_eq_true rfl, Nat.le_of_ble_eq_true rfl⟩ dX3_copyFrom_50) (cutC_TT_67_29) z_hno ?_
  obtain ⟨σ10, eσ10, h⟩ := z_letE h
  refine z_to eσ10 ?_
  exact hret _ _ _ (Option.some.inj h) dX3_copyFrom_53
def f_X6_copyFrom (σ : z_S) : Option z_S :=
  z_let (z_u σ 0 0 (σ 38 0)) fun σ1 =>
  z_let (z_u σ1 0 1 (σ1 38 1)) fun σ2 =>
  z_let (z_u σ2 0 2 (σ2 38 2)) fun σ3 =>
  z_b1 (f_X9_copy 6 6 (6 : Int32) (fun k => σ3 (zi2 39 1 k))) fun σ5 =>
  z_let (z_m σ3 (zk2 39 1) 2 σ5) fun σ6 =>
  z_b1 (f_X4_copyFrom σ6) fun σ8 =>
  z_b1 (f_X2_copyFrom σ8) fun σ10 =>
  z_b1 (f_X3_copyFrom σ10) fun σ12 =>
  z_b1 (f_X0_copyFrom σ12) fun σ14 =>
  some σ14
set_option maxRecDepth 100000 in
set_option maxHeartbeats 4000000 in
theorem c_X6_copyFrom (σ σz : z_S) (h : f_X6_copyFrom σ = some σz) : zMet yX6_copyFrom cX6_copyFrom 2 none 3 61 layTT 76 (fun ad => [.ref (ad 0), .ref (ad 38)]) σ (z_QV layTT 76 σz) := by
  refine z_headV RX6 (by decide) rfl (fun _ => Nat.le_of_ble_eq_true rfl) (fun E G A ad hB hret => ?_)
  show ZW E G A 2 layTT 76 ad 0 [(0, .ref (ad 0)), (1, .ref (ad 38))] [] σ
  unfold f_X6_copyFrom at h
  refine z_aload_n hB 0 dX6_copyFrom_0 rfl rfl ?_
  refine z_aload_n hB 1 dX6_copyFrom_1 rfl rfl ?_
  refine z_get hB 38 0 kTT_38 (Nat.le_of_ble_eq_true rfl) vc_6 inlX6 (Nat.le_of_ble_eq_true rfl) rfl fl_X6_9 dX6_copyFrom_2 ?_
  obtain ⟨σ1, eσ1, h⟩ := z_letE h
  refine z_put hB 0 0 kTT_0 (Nat.le_of_ble_eq_true rfl) vc_6 inlX6 tyX6 tyX6_ok nmX6 (Nat.le_of_ble_eq_true rfl) rfl rfl (tyX6_ok 0 (Nat.le_of_ble_eq_true rfl)) fl_X6_9 dX6_copyFrom_5 ?_
  refine z_to eσ1 ?_
  refine z_aload_n hB 0 dX6_copyFrom_8 rfl rfl ?_
  refine z_aload_n hB 1 dX6_copyFrom_9 rfl rfl ?_
  refine z_get hB 38 1 kTT_38 (Nat.le_of_ble_eq_true rfl) vc_6 inlX6 (Nat.le_of_ble_eq_true rfl) rfl fl_X6_15 dX6_copyFrom_10 ?_
  obtain ⟨σ2, eσ2, h⟩ := z_letE h
  refine z_put hB 0 1 kTT_0 (Nat.le_of_ble_eq_true rfl) vc_6 inlX6 tyX6 tyX6_ok nmX6 (Nat.le_of_ble_eq_true rfl) rfl rfl (tyX6_ok 1 (Nat.le_of_ble_eq_true rfl)) fl_X6_15 dX6_copyFrom_13 ?_
  refine z_to eσ2 ?_
  refine z_aload_n hB 0 dX6_copyFrom_16 rfl rfl ?_
  refine z_aload_n hB 1 dX6_copyFrom_17 rfl rfl ?_
  refine z_get hB 38 2 kTT_38 (Nat.le_of_ble_eq_true rfl) vc_6 inlX6 (Nat.le_of_ble_eq_true rfl) rfl fl_X6_18 dX6_copyFrom_18 ?_
  obtain ⟨σ3, eσ3, h⟩ := z_letE h
  refine z_put hB 0 2 kTT_0 (Nat.le_of_ble_eq_true rfl) vc_6 inlX6 tyX6 tyX6_ok nmX6 (Nat.le_of_ble_eq_true rfl) rfl rfl (tyX6_ok 2 (Nat.le_of_ble_eq_true rfl)) fl_X6_18 dX6_copyFrom_21 ?_
  refine z_to eσ3 ?_
  refine z_aload_n hB 1 dX6_copyFrom_24 rfl rfl ?_
  refine z_getr hB 38 3 39 kTT_38 (Nat.le_of_ble_eq_true rfl) vc_6 inlX6 (Nat.le_of_ble_eq_true rfl) rfl (Nat.le_of_ble_eq_true rfl) fl_X6_21 dX6_copyFrom_25 ?_
  refine z_aload_n hB 0 dX6_copyFrom_28 rfl rfl ?_
  refine z_getr hB 0 3 1 kTT_0 (Nat.le_of_ble_eq_true rfl) vc_6 inlX6 (Nat.le_of_ble_eq_true rfl) rfl (Nat.le_of_ble_eq_true rfl) fl_X6_21 dX6_copyFrom_29 ?_
  refine z_bipush hB dX6_copyFrom_32 zcB_6 ?_
  obtain ⟨σ5, h4, h⟩ := z_b1E h
  refine z_cV hB (z_rN (ι := zi2 39 1) hB yY_X9_copy (c_X9_copy _ _ _ _ _ h4) rfl (cutC_TT_39_1) z_hno rfl rfl rfl (Nat.le_of_ble_eq_true rfl) (List.mem_of_getElem? (i := 9) rfl) ⟨Nat.le_of_ble_eq_true rfl, Nat.le_of_ble_eq_true rfl⟩ dX6_copyFrom_34) (cutC_TT_39_1) z_hno ?_
  obtain ⟨σ6, eσ6, h⟩ := z_letE h
  refine z_to eσ6 ?_
  refine z_aload_n hB 0 dX6_copyFrom_37 rfl rfl ?_
  refine z_getr hB 0 4 2 kTT_0 (Nat.le_of_ble_eq_true rfl) vc_6 inlX6 (Nat.le_of_ble_eq_true rfl) rfl (Nat.le_of_ble_eq_true rfl) fl_X6_28 dX6_copyFrom_38 ?_
  refine z_aload_n hB 1 dX6_copyFrom_41 rfl rfl ?_
  refine z_getr hB 38 4 40 kTT_38 (Nat.le_of_ble_eq_true rfl) vc_6 inlX6 (Nat.le_of_ble_eq_true rfl) rfl (Nat.le_of_ble_eq_true rfl) fl_X6_28 dX6_copyFrom_42 ?_
  obtain ⟨σ8, h7, h⟩ := z_b1E h
  refine z_cV hB (z_rV (ι := fun k => k) hB yY_X4_copyFrom (c_X4_copyFrom _ _ h7) rfl cut_TT z_hid kTT_2 (Nat.le_of_ble_eq_true rfl) vc_4 rfl rfl rfl (Nat.le_of_ble_eq_true rfl) ml_X6_57 ⟨Nat.le_of_ble_eq_true rfl, Nat.le_of_ble_eq_true rfl⟩ dX6_copyFrom_45) cut_TT z_hid ?_
  refine z_toA z_mid ?_
  refine z_aload_n hB 0 dX6_copyFrom_48 rfl rfl ?_
  refine z_getr hB 0 5 11 kTT_0 (Nat.le_of_ble_eq_true rfl) vc_6 inlX6 (Nat.le_of_ble_eq_true rfl) rfl (Nat.le_of_ble_eq_true rfl) fl_X6_35 dX6_copyFrom_49 ?_
  refine z_aload_n hB 1 dX6_copyFrom_52 rfl rfl ?_
  refine z_getr hB 38 5 49 kTT_38 (Nat.le_of_ble_eq_true rfl) vc_6 inlX6 (Nat.le_of_ble_eq_true rfl) rfl (Nat.le_of_ble_eq_true rfl) fl_X6_35 dX6_copyFrom_53 ?_
  obtain ⟨σ10, h9, h⟩ := z_b1E h
  refine z_cV hB (z_rV (ι := fun k => k) hB yY_X2_copyFrom (c_X2_copyFrom _ _ h9) rfl cut_TT z_hid kTT_11 (Nat.le_of_ble_eq_true rfl) vc_2 rfl rfl rfl (Nat.le_of_ble_eq_true rfl) ml_X6_61 ⟨Nat.le_of_ble_eq_true rfl, Nat.le_of_ble_eq_true rfl⟩ dX6_copyFrom_56) cut_TT z_hid ?_
  refine z_toA z_mid ?_
  refine z_aload_n hB 0 dX6_copyFrom_59 rfl rfl ?_
  refine z_getr hB 0 6 26 kTT_0 (Nat.le_of_ble_eq_true rfl) vc_6 inlX6 (Nat.le_of_ble_eq_true rfl) rfl (Nat.le_of_ble_eq_true rfl) fl_X6_42 dX6_copyFrom_60 ?_
  refine z_aload_n hB 1 dX6_copyFrom_63 rfl rfl ?_
  refine z_getr hB 38 6 64 kTT_38 (Nat.le_of_ble_eq_true rfl) vc_6 inlX6 (Nat.le_of_ble_eq_true rfl) rfl (Nat.le_of_ble_eq_true rfl) fl_X6_42 dX6_copyFrom_64 ?_
  obtain ⟨σ12, h11, h⟩ := z_b1E h
  refine z_cV hB (z_rV (ι := fun k => k) hB yY_X3_copyFrom (c_X3_copyFrom _ _ h11) rfl cut_TT z_hid kTT_26 (Nat.le_of_ble_eq_true rfl) vc_3 rfl rfl rfl (Nat.le_of_ble_eq_true rfl) ml_X6_64 ⟨Nat.le_of_ble_eq_true rfl, Nat.le_of_ble_eq_true rfl⟩ dX6_copyFrom_67) cut_TT z_hid ?_
  refine z_toA z_mid ?_
  refine z_aload_n hB 0 dX6_copyFrom_70 rfl rfl ?_
  refine z_getr hB 0 7 30 kTT_0 (Nat.le_of_ble_eq_true rfl) vc_6 inlX6 (Nat.le_of_ble_eq_true rfl) rfl (Nat.le_of_ble_eq_true rfl) fl_X6_49 dX6_copyFrom_71 ?_
  refine z_aload_n hB 1 dX6_copyFrom_74 rfl rfl ?_
  refine z_getr hB 38 7 68 kTT_38 (Nat.le_of_ble_eq_true rfl) vc_6 inlX6 (Nat.le_of_ble_eq_true rfl) rfl (Nat.le_of_ble_eq_true rfl) fl_X6_49 dX6_copyFrom_75 ?_
  obtain ⟨σ14, h13, h⟩ := z_b1E h
  refine z_cV hB (z_rV (ι := fun k => k) hB yY_X0_copyFrom (c_X0_copyFrom _ _ h13) rfl cut_TT z_hid kTT_30 (Nat.le_of_ble_eq_true rfl) vc_0 rfl rfl rfl (Nat.le_of_ble_eq_true rfl) ml_X6_67 ⟨Nat.le_of_ble_eq_true rfl, Nat.le_of_ble_eq_true rfl⟩ dX6_copyFrom_78) cut_TT z_hid ?_
  refine z_toA z_mid ?_
  exact hret _ _ _ (Option.some.inj h) dX6_copyFrom_81
def f_X2_has (p1 : Int32) (σ : z_S) : Option Int32 :=
  z_b1 (f_X9_within p1 (0 : Int32) ((σ 11 0) - (1 : Int32)) σ) fun r2 =>
  z_ckz (r2) <|
  some (r2)
set_option maxRecDepth 100000 in
set_option maxHeartbeats 4000000 in
theorem c_X2_has (p1 : Int32) (σ : z_S) (r : Int32) (h : f_X2_has p1 σ = some r) : zMet yX2_has cX2_has 2 (some .boolean) 1 22 layT 38 (fun ad => [.ref (ad 11), .int p1]) σ (z_QI layT 38 r σ) := by
  refine z_headI RX2 (by decide) rfl (fun _ => Nat.le_of_ble_eq_true rfl) (fun E G A ad hB hret => ?_)
  show ZW E G A 2 layT 38 ad 0 [(0, .ref (ad 11)), (1, .int p1)] [] σ
  unfold f_X2_has at h
  refine z_iload_n hB 1 dX2_has_0 rfl rfl ?_
  refine z_iconst hB dX2_has_1 zcI_0 ?_
  refine z_aload_n hB 0 dX2_has_2 rfl rfl ?_
  refine z_get hB 11 0 kT_11 (Nat.le_of_ble_eq_true rfl) vc_2 inlX2 (Nat.le_of_ble_eq_true rfl) rfl fl_X2_9 dX2_has_3 ?_
  refine z_iconst hB dX2_has_6 zcI_1 ?_
  refine z_isub hB dX2_has_7 ?_
  obtain ⟨r2, h1, h⟩ := z_b1E h
  refine z_cI hB (z_rN (ι := fun k => k) hB yY_X9_within (c_X9_within _ _ _ _ _ h1) rfl z_cut0 z_hno rfl rfl rfl (Nat.le_of_ble_eq_true rfl) (List.mem_of_getElem? (i := 16) rfl) ⟨Nat.le_of_ble_eq_true rfl, Nat.le_of_ble_eq_true rfl⟩ dX2_has_8) z_cut0 z_hno ?_
  refine z_toA (z_mro (lay := layT) (lay' := z_lay0) (b := false) z_cut0) ?_
  obtain ⟨h3, h⟩ := z_ckzE h
  exact hret _ _ _ _ (Option.some.inj h) rfl h3 dX2_has_11
def lb_X2_makeOrder_15 (k1 : Int32 → Int32 → z_S → Option z_S) (x3 : Int32) (k6 : Int32 → Int32 → z_S → Option z_S) (x7 : Int32) (x8 : Int32) (σ9 : z_S) : Option z_S :=
  if (σ9 11 0) ≤ x8 then
  (z_let (x3 + (1 : Int32)) fun x11 =>
  k1 x7 x11 σ9)
  else
  (z_cki x8 24 <|
  z_cki x3 20 <|
  z_let (fun (y14 : Int32) (σ15 : z_S) => z_let (x8 + (1 : Int32)) fun x17 =>
  k6 y14 x17 σ15) fun j16 =>
  if (σ9 12 x8.toNatClampNeg) = (σ9 10 x3.toNatClampNeg) then
  (if (σ9 11 0) ≤ x7 then
  (j16 x7 σ9)
  else
  (z_cki x7 24 <|
  z_let (z_u σ9 25 x7.toNatClampNeg (x8)) fun σ21 =>
  z_let (x7 + (1 : Int32)) fun x22 =>
  j16 x22 σ21))
  else
  (j16 x7 σ9))
def lb_X2_makeOrder_4 (k1 : Int32 → Int32 → z_S → Option z_S) (x2 : Int32) (x3 : Int32) (σ4 : z_S) : Option z_S :=
  if (σ4 2 0) ≤ x3 then
  (some σ4)
  else
  (z_lp3 (lb_X2_makeOrder_15 k1 x3) z_Fu x2 (0 : Int32) σ4)
def f_X2_makeOrder (σ : z_S) : Option z_S :=
  z_lp3 lb_X2_makeOrder_4 z_Fu (0 : Int32) (0 : Int32) σ
set_option maxRecDepth 100000 in
set_option maxHeartbeats 4000000 in
theorem c_X2_makeOrder (σ σz : z_S) (h : f_X2_makeOrder σ = some σz) : zMet yX2_makeOrder cX2_makeOrder 5 none 0 0 layT 38 (fun ad => [.ref (ad 11), .ref (ad 2)]) σ (z_QV layT 38 σz) := by
  refine z_headV RX2 (by decide) rfl (fun _ => Nat.le_of_ble_eq_true rfl) (fun E G A ad hB hret => ?_)
  show ZW E G A 5 layT 38 ad 0 [(0, .ref (ad 11)), (1, .ref (ad 2))] [] σ
  unfold f_X2_makeOrder at h
  refine z_iconst hB dX2_makeOrder_0 zcI_0 ?_
  refine z_istore_n hB [(2, .int ((0 : Int32))), (0, .ref (ad 11)), (1, .ref (ad 2))] dX2_makeOrder_1 rfl (Nat.le_of_ble_eq_true rfl) rfl rfl ?_
  refine z_iconst hB dX2_makeOrder_2 zcI_0 ?_
  refine z_istore_n hB [(3, .int ((0 : Int32))), (2, .int ((0 : Int32))), (0, .ref (ad 11)), (1, .ref (ad 2))] dX2_makeOrder_3 rfl (Nat.le_of_ble_eq_true rfl) rfl rfl ?_
  refine z_lv [2, 3, 1, 0] rfl ?_
  refine z_lpr3 (g := fun x2 x3 σ4 => ZW E G A 5 layT 38 ad 4 [(0, .ref (ad 11)), (1, .ref (ad 2)), (2, .int x2), (3, .int x3)] [] σ4) (fun k1 x2 x3 σ4 hk_k1 h => ?_) _ _ _ _ h
  show ZW E G A 5 layT 38 ad 4 [(0, .ref (ad 11)), (1, .ref (ad 2)), (2, .int x2), (3, .int x3)] [] σ4
  unfold lb_X2_makeOrder_4 at h
  refine z_iload_n hB 3 dX2_makeOrder_4 rfl rfl ?_
  refine z_aload_n hB 1 dX2_makeOrder_5 rfl rfl ?_
  refine z_get hB 2 0 kT_2 (Nat.le_of_ble_eq_true rfl) vc_4 inlX4 (Nat.le_of_ble_eq_true rfl) rfl fl_X2_70 dX2_makeOrder_6 ?_
  refine z_icmp_ge hB (tgt := 71) dX2_makeOrder_9 (by decide) (fun c5 => ?_) (fun c5 => ?_)
  · have h := z_ifT c5 h
    exact hret _ _ _ (Option.some.inj h) dX2_makeOrder_71
  · have h := z_ifF c5 h
    refine z_iconst hB dX2_makeOrder_12 zcI_0 ?_
    refine z_istore hB [(4, .int ((0 : Int32))), (0, .ref (ad 11)), (1, .ref (ad 2)), (2, .int x2), (3, .int x3)] dX2_makeOrder_13 (Nat.le_of_ble_eq_true rfl) rfl rfl ?_
    refine z_lv [1, 2, 3, 4, 0] rfl ?_
    refine z_lpr3 (g := fun x7 x8 σ9 => ZW E G A 5 layT 38 ad 15 [(0, .ref (ad 11)), (1, .ref (ad 2)), (2, .int x7), (3, .int x3), (4, .int x8)] [] σ9) (fun k6 x7 x8 σ9 hk_k6 h => ?_) _ _ _ _ h
    show ZW E G A 5 layT 38 ad 15 [(0, .ref (ad 11)), (1, .ref (ad 2)), (2, .int x7), (3, .int x3), (4, .int x8)] [] σ9
    unfold lb_X2_makeOrder_15 at h
    refine z_iload hB 4 dX2_makeOrder_15 rfl ?_
    refine z_aload_n hB 0 dX2_makeOrder_17 rfl rfl ?_
    refine z_get hB 11 0 kT_11 (Nat.le_of_ble_eq_true rfl) vc_2 inlX2 (Nat.le_of_ble_eq_true rfl) rfl fl_X2_9 dX2_makeOrder_18 ?_
    refine z_icmp_ge hB (tgt := 65) dX2_makeOrder_21 (by decide) (fun c10 => ?_) (fun c10 => ?_)
    · have h := z_ifT c10 h
      obtain ⟨x11, ex11, h⟩ := z_letE h
      refine z_iinc hB 3 [(3, .int x11), (0, .ref (ad 11)), (1, .ref (ad 2)), (2, .int x7), (4, .int x8)] dX2_makeOrder_65 rfl (by rw [zcI_1]; exact ex11) (Nat.le_of_ble_eq_true rfl) rfl ?_
      refine z_goto hB (tgt := 4) dX2_makeOrder_68 (by decide) ?_
      refine z_lv [1, 2, 3, 0] rfl ?_
      exact hk_k1 _ _ _ h
    · have h := z_ifF c10 h
      refine z_aload_n hB 0 dX2_makeOrder_24 rfl rfl ?_
      refine z_getr hB 11 1 12 kT_11 (Nat.le_of_ble_eq_true rfl) vc_2 inlX2 (Nat.le_of_ble_eq_true rfl) rfl (Nat.le_of_ble_eq_true rfl) fl_X2_15 dX2_makeOrder_25 ?_
      refine z_iload hB 4 dX2_makeOrder_28 rfl ?_
      obtain ⟨h12, h⟩ := z_ckiE h
      refine z_iald hB 12 24 kT_12 (Nat.le_of_ble_eq_true rfl) dX2_makeOrder_30 h12 ?_
      refine z_aload_n hB 1 dX2_makeOrder_31 rfl rfl ?_
      refine z_getr hB 2 8 10 kT_2 (Nat.le_of_ble_eq_true rfl) vc_4 inlX4 (Nat.le_of_ble_eq_true rfl) rfl (Nat.le_of_ble_eq_true rfl) fl_X2_73 dX2_makeOrder_32 ?_
      refine z_iload_n hB 3 dX2_makeOrder_35 rfl rfl ?_
      obtain ⟨h13, h⟩ := z_ckiE h
      refine z_iald hB 10 20 kT_10 (Nat.le_of_ble_eq_true rfl) dX2_makeOrder_36 h13 ?_
      obtain ⟨j16, ej16, h⟩ := z_letE h
      have hj16 : ∀ (y14 : Int32) (σ15 : z_S), j16 y14 σ15 = some σz → ZW E G A 5 layT 38 ad 59 [(0, .ref (ad 11)), (1, .ref (ad 2)), (2, .int y14), (3, .int x3), (4, .int x8)] [] σ15 := by
        intro y14 σ15 h
        rw [ej16] at h
        obtain ⟨x17, ex17, h⟩ := z_letE h
        refine z_iinc hB 4 [(4, .int x17), (0, .ref (ad 11)), (1, .ref (ad 2)), (2, .int y14), (3, .int x3)] dX2_makeOrder_59 rfl (by rw [zcI_1]; exact ex17) (Nat.le_of_ble_eq_true rfl) rfl ?_
        refine z_goto hB (tgt := 15) dX2_makeOrder_62 (by decide) ?_
        refine z_lv [1, 2, 3, 4, 0] rfl ?_
        exact hk_k6 _ _ _ h
      refine z_icmp_ne hB (tgt := 59) dX2_makeOrder_37 (by decide) (fun c18 => ?_) (fun c18 => ?_)
      · have h := z_ifF c18 h
        exact hj16 _ _ h
      · have h := z_ifT c18 h
        refine z_iload_n hB 2 dX2_makeOrder_40 rfl rfl ?_
        refine z_aload_n hB 0 dX2_makeOrder_41 rfl rfl ?_
        refine z_get hB 11 0 kT_11 (Nat.le_of_ble_eq_true rfl) vc_2 inlX2 (Nat.le_of_ble_eq_true rfl) rfl fl_X2_9 dX2_makeOrder_42 ?_
        refine z_icmp_ge hB (tgt := 59) dX2_makeOrder_45 (by decide) (fun c19 => ?_) (fun c19 => ?_)
        · have h := z_ifT c19 h
          exact hj16 _ _ h
        · have h := z_ifF c19 h
          refine z_aload_n hB 0 dX2_makeOrder_48 rfl rfl ?_
          refine z_getr hB 11 14 25 kT_11 (Nat.le_of_ble_eq_true rfl) vc_2 inlX2 (Nat.le_of_ble_eq_true rfl) rfl (Nat.le_of_ble_eq_true rfl) fl_X2_55 dX2_makeOrder_49 ?_
          refine z_iload_n hB 2 dX2_makeOrder_52 rfl rfl ?_
          refine z_iload hB 4 dX2_makeOrder_53 rfl ?_
          obtain ⟨h20, h⟩ := z_ckiE h
          obtain ⟨σ21, eσ21, h⟩ := z_letE h
          refine z_iast hB 25 24 kT_25 (Nat.le_of_ble_eq_true rfl) dX2_makeOrder_55 h20 ?_
          refine z_to eσ21 ?_
          obtain ⟨x22, ex22, h⟩ := z_letE h
          refine z_iinc hB 2 [(2, .int x22), (0, .ref (ad 11)), (1, .ref (ad 2)), (3, .int x3), (4, .int x8)] dX2_makeOrder_56 rfl (by rw [zcI_1]; exact ex22) (Nat.le_of_ble_eq_true rfl) rfl ?_
          refine z_lv [1, 2, 0, 3, 4] rfl ?_
          exact hj16 _ _ h
def f_X2_add (p2 : Int32) (p3 : Int32) (p4 : Int32) (σ : z_S) : Option (Int32 × z_S) :=
  z_let (σ 11 0) fun x1 =>
  z_cki x1 24 <|
  z_let (z_u σ 12 x1.toNatClampNeg (p2)) fun σ3 =>
  z_cki x1 24 <|
  z_let (z_u σ3 13 x1.toNatClampNeg (p3)) fun σ5 =>
  z_cki x1 24 <|
  z_let (z_u σ5 14 x1.toNatClampNeg (p4)) fun σ7 =>
  z_cki x1 24 <|
  z_let (z_u σ7 15 x1.toNatClampNeg ((-1 : Int32))) fun σ9 =>
  z_cki x1 24 <|
  z_let (z_u σ9 16 x1.toNatClampNeg ((0 : Int32))) fun σ11 =>
  z_cki x1 24 <|
  z_let (z_u σ11 17 x1.toNatClampNeg ((0 : Int32))) fun σ13 =>
  z_cki x1 24 <|
  z_let (z_u σ13 18 x1.toNatClampNeg ((0 : Int32))) fun σ15 =>
  z_cki x1 24 <|
  z_let (z_u σ15 19 x1.toNatClampNeg ((0 : Int32))) fun σ17 =>
  z_cki x1 24 <|
  z_let (z_u σ17 20 x1.toNatClampNeg ((0 : Int32))) fun σ19 =>
  z_cki x1 24 <|
  z_let (z_u σ19 21 x1.toNatClampNeg ((0 : Int32))) fun σ21 =>
  z_cki x1 24 <|
  z_let (z_u σ21 22 x1.toNatClampNeg ((0 : Int32))) fun σ23 =>
  z_cki x1 24 <|
  z_let (z_u σ23 23 x1.toNatClampNeg ((0 : Int32))) fun σ25 =>
  z_cki x1 24 <|
  z_let (z_u σ25 24 x1.toNatClampNeg ((0 : Int32))) fun σ27 =>
  z_let (z_u σ27 11 0 ((σ27 11 0) + (1 : Int32))) fun σ28 =>
  z_b1 (f_X2_makeOrder σ28) fun σ30 =>
  some (x1, σ30)
set_option maxRecDepth 100000 in
set_option maxHeartbeats 4000000 in
theorem c_X2_add (p2 : Int32) (p3 : Int32) (p4 : Int32) (σ : z_S) (r : Int32) (σz : z_S) (h : f_X2_add p2 p3 p4 σ = some (r, σz)) : zMet yX2_add cX2_add 6 (some .int) 1 24 layT 38 (fun ad => [.ref (ad 11), .ref (ad 2), .int p2, .int p3, .int p4]) σ (z_QI layT 38 r σz) := by
  refine z_headI RX2 (by decide) rfl (fun _ => Nat.le_of_ble_eq_true rfl) (fun E G A ad hB hret => ?_)
  show ZW E G A 6 layT 38 ad 0 [(0, .ref (ad 11)), (1, .ref (ad 2)), (2, .int p2), (3, .int p3), (4, .int p4)] [] σ
  unfold f_X2_add at h
  refine z_aload_n hB 0 dX2_add_0 rfl rfl ?_
  refine z_get hB 11 0 kT_11 (Nat.le_of_ble_eq_true rfl) vc_2 inlX2 (Nat.le_of_ble_eq_true rfl) rfl fl_X2_9 dX2_add_1 ?_
  obtain ⟨x1, ex1, h⟩ := z_letE h
  refine z_istore hB [(5, .int x1), (0, .ref (ad 11)), (1, .ref (ad 2)), (2, .int p2), (3, .int p3), (4, .int p4)] dX2_add_4 (Nat.le_of_ble_eq_true rfl) ex1 rfl ?_
  refine z_aload_n hB 1 dX2_add_6 rfl rfl ?_
  refine z_getr hB 11 1 12 kT_11 (Nat.le_of_ble_eq_true rfl) vc_2 inlX2 (Nat.le_of_ble_eq_true rfl) rfl (Nat.le_of_ble_eq_true rfl) fl_X2_15 dX2_add_7 ?_
  refine z_iload hB 0 dX2_add_10 rfl ?_
  refine z_iload_n hB 3 dX2_add_12 rfl rfl ?_
  obtain ⟨h2, h⟩ := z_ckiE h
  obtain ⟨σ3, eσ3, h⟩ := z_letE h
  refine z_iast hB 12 24 kT_12 (Nat.le_of_ble_eq_true rfl) dX2_add_13 h2 ?_
  refine z_to eσ3 ?_
  refine z_aload_n hB 1 dX2_add_14 rfl rfl ?_
  refine z_getr hB 11 2 13 kT_11 (Nat.le_of_ble_eq_true rfl) vc_2 inlX2 (Nat.le_of_ble_eq_true rfl) rfl (Nat.le_of_ble_eq_true rfl) fl_X2_19 dX2_add_15 ?_
  refine z_iload hB 0 dX2_add_18 rfl ?_
  refine z_iload_n hB 4 dX2_add_20 rfl rfl ?_
  obtain ⟨h4, h⟩ := z_ckiE h
  obtain ⟨σ5, eσ5, h⟩ := z_letE h
  refine z_iast hB 13 24 kT_13 (Nat.le_of_ble_eq_true rfl) dX2_add_21 h4 ?_
  refine z_to eσ5 ?_
  refine z_aload_n hB 1 dX2_add_22 rfl rfl ?_
  refine z_getr hB 11 3 14 kT_11 (Nat.le_of_ble_eq_true rfl) vc_2 inlX2 (Nat.le_of_ble_eq_true rfl) rfl (Nat.le_of_ble_eq_true rfl) fl_X2_22 dX2_add_23 ?_
  refine z_iload hB 0 dX2_add_26 rfl ?_
  refine z_iload hB 5 dX2_add_28 rfl ?_
  obtain ⟨h6, h⟩ := z_ckiE h
  obtain ⟨σ7, eσ7, h⟩ := z_letE h
  refine z_iast hB 14 24 kT_14 (Nat.le_of_ble_eq_true rfl) dX2_add_30 h6 ?_
  refine z_to eσ7 ?_
  refine z_aload_n hB 1 dX2_add_31 rfl rfl ?_
  refine z_getr hB 11 4 15 kT_11 (Nat.le_of_ble_eq_true rfl) vc_2 inlX2 (Nat.le_of_ble_eq_true rfl) rfl (Nat.le_of_ble_eq_true rfl) fl_X2_25 dX2_add_32 ?_
  refine z_iload hB 0 dX2_add_35 rfl ?_
  refine z_iconst hB dX2_add_37 zcI_m1 ?_
  obtain ⟨h8, h⟩ := z_ckiE h
  obtain ⟨σ9, eσ9, h⟩ := z_letE h
  refine z_iast hB 15 24 kT_15 (Nat.le_of_ble_eq_true rfl) dX2_add_38 h8 ?_
  refine z_to eσ9 ?_
  refine z_aload_n hB 1 dX2_add_39 rfl rfl ?_
  refine z_getr hB 11 5 16 kT_11 (Nat.le_of_ble_eq_true rfl) vc_2 inlX2 (Nat.le_of_ble_eq_true rfl) rfl (Nat.le_of_ble_eq_true rfl) fl_X2_28 dX2_add_40 ?_
  refine z_iload hB 0 dX2_add_43 rfl ?_
  refine z_iconst hB dX2_add_45 zcI_0 ?_
  obtain ⟨h10, h⟩ := z_ckiE h
  obtain ⟨σ11, eσ11, h⟩ := z_letE h
  refine z_iast hB 16 24 kT_16 (Nat.le_of_ble_eq_true rfl) dX2_add_46 h10 ?_
  refine z_to eσ11 ?_
  refine z_aload_n hB 1 dX2_add_47 rfl rfl ?_
  refine z_getr hB 11 6 17 kT_11 (Nat.le_of_ble_eq_true rfl) vc_2 inlX2 (Nat.le_of_ble_eq_true rfl) rfl (Nat.le_of_ble_eq_true rfl) fl_X2_31 dX2_add_48 ?_
  refine z_iload hB 0 dX2_add_51 rfl ?_
  refine z_iconst hB dX2_add_53 zcI_0 ?_
  obtain ⟨h12, h⟩ := z_ckiE h
  obtain ⟨σ13, eσ13, h⟩ := z_letE h
  refine z_iast hB 17 24 kT_17 (Nat.le_of_ble_eq_true rfl) dX2_add_54 h12 ?_
  refine z_to eσ13 ?_
  refine z_aload_n hB 1 dX2_add_55 rfl rfl ?_
  refine z_getr hB 11 7 18 kT_11 (Nat.le_of_ble_eq_true rfl) vc_2 inlX2 (Nat.le_of_ble_eq_true rfl) rfl (Nat.le_of_ble_eq_true rfl) fl_X2_34 dX2_add_56 ?_
  refine z_iload hB 0 dX2_add_59 rfl ?_
  refine z_iconst hB dX2_add_61 zcI_0 ?_
  obtain ⟨h14, h⟩ := z_ckiE h
  obtain ⟨σ15, eσ15, h⟩ := z_letE h
  refine z_iast hB 18 24 kT_18 (Nat.le_of_ble_eq_true rfl) dX2_add_62 h14 ?_
  refine z_to eσ15 ?_
  refine z_aload_n hB 1 dX2_add_63 rfl rfl ?_
  refine z_getr hB 11 8 19 kT_11 (Nat.le_of_ble_eq_true rfl) vc_2 inlX2 (Nat.le_of_ble_eq_true rfl) rfl (Nat.le_of_ble_eq_true rfl) fl_X2_37 dX2_add_64 ?_
  refine z_iload hB 0 dX2_add_67 rfl ?_
  refine z_iconst hB dX2_add_69 zcI_0 ?_
  obtain ⟨h16, h⟩ := z_ckiE h
  obtain ⟨σ17, eσ17, h⟩ := z_letE h
  refine z_iast hB 19 24 kT_19 (Nat.le_of_ble_eq_true rfl) dX2_add_70 h16 ?_
  refine z_to eσ17 ?_
  refine z_aload_n hB 1 dX2_add_71 rfl rfl ?_
  refine z_getr hB 11 9 20 kT_11 (Nat.le_of_ble_eq_true rfl) vc_2 inlX2 (Nat.le_of_ble_eq_true rfl) rfl (Nat.le_of_ble_eq_true rfl) fl_X2_40 dX2_add_72 ?_
  refine z_iload hB 0 dX2_add_75 rfl ?_
  refine z_iconst hB dX2_add_77 zcI_0 ?_
  obtain ⟨h18, h⟩ := z_ckiE h
  obtain ⟨σ19, eσ19, h⟩ := z_letE h
  refine z_iast hB 20 24 kT_20 (Nat.le_of_ble_eq_true rfl) dX2_add_78 h18 ?_
  refine z_to eσ19 ?_
  refine z_aload_n hB 1 dX2_add_79 rfl rfl ?_
  refine z_getr hB 11 10 21 kT_11 (Nat.le_of_ble_eq_true rfl) vc_2 inlX2 (Nat.le_of_ble_eq_true rfl) rfl (Nat.le_of_ble_eq_true rfl) fl_X2_43 dX2_add_80 ?_
  refine z_iload hB 0 dX2_add_83 rfl ?_
  refine z_iconst hB dX2_add_85 zcI_0 ?_
  obtain ⟨h20, h⟩ := z_ckiE h
  obtain ⟨σ21, eσ21, h⟩ := z_letE h
  refine z_iast hB 21 24 kT_21 (Nat.le_of_ble_eq_true rfl) dX2_add_86 h20 ?_
  refine z_to eσ21 ?_
  refine z_aload_n hB 1 dX2_add_87 rfl rfl ?_
  refine z_getr hB 11 11 22 kT_11 (Nat.le_of_ble_eq_true rfl) vc_2 inlX2 (Nat.le_of_ble_eq_true rfl) rfl (Nat.le_of_ble_eq_true rfl) fl_X2_46 dX2_add_88 ?_
  refine z_iload hB 0 dX2_add_91 rfl ?_
  refine z_iconst hB dX2_add_93 zcI_0 ?_
  obtain ⟨h22, h⟩ := z_ckiE h
  obtain ⟨σ23, eσ23, h⟩ := z_letE h
  refine z_iast hB 22 24 kT_22 (Nat.le_of_ble_eq_true rfl) dX2_add_94 h22 ?_
  refine z_to eσ23 ?_
  refine z_aload_n hB 1 dX2_add_95 rfl rfl ?_
  refine z_getr hB 11 12 23 kT_11 (Nat.le_of_ble_eq_true rfl) vc_2 inlX2 (Nat.le_of_ble_eq_true rfl) rfl (Nat.le_of_ble_eq_true rfl) fl_X2_49 dX2_add_96 ?_
  refine z_iload hB 0 dX2_add_99 rfl ?_
  refine z_iconst hB dX2_add_101 zcI_0 ?_
  obtain ⟨h24, h⟩ := z_ckiE h
  obtain ⟨σ25, eσ25, h⟩ := z_letE h
  refine z_iast hB 23 24 kT_23 (Nat.le_of_ble_eq_true rfl) dX2_add_102 h24 ?_
  refine z_to eσ25 ?_
  refine z_aload_n hB 1 dX2_add_103 rfl rfl ?_
  refine z_getr hB 11 13 24 kT_11 (Nat.le_of_ble_eq_true rfl) vc_2 inlX2 (Nat.le_of_ble_eq_true rfl) rfl (Nat.le_of_ble_eq_true rfl) fl_X2_52 dX2_add_104 ?_
  refine z_iload hB 0 dX2_add_107 rfl ?_
  refine z_iconst hB dX2_add_109 zcI_0 ?_
  obtain ⟨h26, h⟩ := z_ckiE h
  obtain ⟨σ27, eσ27, h⟩ := z_letE h
  refine z_iast hB 24 24 kT_24 (Nat.le_of_ble_eq_true rfl) dX2_add_110 h26 ?_
  refine z_to eσ27 ?_
  refine z_aload_n hB 1 dX2_add_111 rfl rfl ?_
  refine z_dup hB dX2_add_112 rfl ?_
  refine z_get hB 11 0 kT_11 (Nat.le_of_ble_eq_true rfl) vc_2 inlX2 (Nat.le_of_ble_eq_true rfl) rfl fl_X2_9 dX2_add_113 ?_
  refine z_iconst hB dX2_add_116 zcI_1 ?_
  refine z_iadd hB dX2_add_117 ?_
  obtain ⟨σ28, eσ28, h⟩ := z_letE h
  refine z_put hB 11 0 kT_11 (Nat.le_of_ble_eq_true rfl) vc_2 inlX2 tyX2 tyX2_ok nmX2 (Nat.le_of_ble_eq_true rfl) rfl rfl (tyX2_ok 0 (Nat.le_of_ble_eq_true rfl)) fl_X2_9 dX2_add_118 ?_
  refine z_to eσ28 ?_
  refine z_aload_n hB 1 dX2_add_121 rfl rfl ?_
  refine z_aload_n hB 2 dX2_add_122 rfl rfl ?_
  obtain ⟨σ30, h29, h⟩ := z_b1E h
  refine z_cV hB (z_rV (ι := fun k => k) hB yY_X2_makeOrder (c_X2_makeOrder _ _ h29) rfl cut_T z_hid kT_11 (Nat.le_of_ble_eq_true rfl) vc_2 rfl rfl rfl (Nat.le_of_ble_eq_true rfl) ml_X2_66 ⟨Nat.le_of_ble_eq_true rfl, Nat.le_of_ble_eq_true rfl⟩ dX2_add_123) cut_T z_hid ?_
  refine z_toA z_mid ?_
  refine z_iload hB 0 dX2_add_126 rfl ?_
  obtain ⟨h1, h2⟩ := z_prE h
  exact hret _ _ _ _ h1 h2 rfl dX2_add_128
def lb_X2_manyOf_4 (p1 : Int32) (σ : z_S) (k1 : Int32 → Int32 → Option Int32) (x2 : Int32) (x3 : Int32) : Option Int32 :=
  if (σ 11 0) ≤ x3 then
  (some (x2))
  else
  (z_cki x3 24 <|
  z_let (fun (y6 : Int32) => z_let (x3 + (1 : Int32)) fun x8 =>
  k1 y6 x8) fun j7 =>
  if (σ 15 x3.toNatClampNeg) = p1 then
  (z_let (x2 + (1 : Int32)) fun x10 =>
  j7 x10)
  else
  (j7 x2))
def f_X2_manyOf (p1 : Int32) (σ : z_S) : Option Int32 :=
  z_lp2 (lb_X2_manyOf_4 p1 σ) z_Fu (0 : Int32) (0 : Int32)
set_option maxRecDepth 100000 in
set_option maxHeartbeats 4000000 in
theorem c_X2_manyOf (p1 : Int32) (σ : z_S) (r : Int32) (h : f_X2_manyOf p1 σ = some r) : zMet yX2_manyOf cX2_manyOf 4 (some .int) 0 0 layT 38 (fun ad => [.ref (ad 11), .int p1]) σ (z_QI layT 38 r σ) := by
  refine z_headI RX2 (by decide) rfl (fun _ => Nat.le_of_ble_eq_true rfl) (fun E G A ad hB hret => ?_)
  show ZW E G A 4 layT 38 ad 0 [(0, .ref (ad 11)), (1, .int p1)] [] σ
  unfold f_X2_manyOf at h
  refine z_iconst hB dX2_manyOf_0 zcI_0 ?_
  refine z_istore_n hB [(2, .int ((0 : Int32))), (0, .ref (ad 11)), (1, .int p1)] dX2_manyOf_1 rfl (Nat.le_of_ble_eq_true rfl) rfl rfl ?_
  refine z_iconst hB dX2_manyOf_2 zcI_0 ?_
  refine z_istore_n hB [(3, .int ((0 : Int32))), (2, .int ((0 : Int32))), (0, .ref (ad 11)), (1, .int p1)] dX2_manyOf_3 rfl (Nat.le_of_ble_eq_true rfl) rfl rfl ?_
  refine z_lv [2, 3, 1, 0] rfl ?_
  refine z_lpr2 (g := fun x2 x3 => ZW E G A 4 layT 38 ad 4 [(0, .ref (ad 11)), (1, .int p1), (2, .int x2), (3, .int x3)] [] σ) (fun k1 x2 x3 hk_k1 h => ?_) _ _ _ h
  show ZW E G A 4 layT 38 ad 4 [(0, .ref (ad 11)), (1, .int p1), (2, .int x2), (3, .int x3)] [] σ
  unfold lb_X2_manyOf_4 at h
  refine z_iload_n hB 3 dX2_manyOf_4 rfl rfl ?_
  refine z_aload_n hB 0 dX2_manyOf_5 rfl rfl ?_
  refine z_get hB 11 0 kT_11 (Nat.le_of_ble_eq_true rfl) vc_2 inlX2 (Nat.le_of_ble_eq_true rfl) rfl fl_X2_9 dX2_manyOf_6 ?_
  refine z_icmp_ge hB (tgt := 31) dX2_manyOf_9 (by decide) (fun c4 => ?_) (fun c4 => ?_)
  · have h := z_ifT c4 h
    refine z_iload_n hB 2 dX2_manyOf_31 rfl rfl ?_
    exact hret _ _ _ _ (Option.some.inj h) rfl rfl dX2_manyOf_32
  · have h := z_ifF c4 h
    refine z_aload_n hB 0 dX2_manyOf_12 rfl rfl ?_
    refine z_getr hB 11 4 15 kT_11 (Nat.le_of_ble_eq_true rfl) vc_2 inlX2 (Nat.le_of_ble_eq_true rfl) rfl (Nat.le_of_ble_eq_true rfl) fl_X2_25 dX2_manyOf_13 ?_
    refine z_iload_n hB 3 dX2_manyOf_16 rfl rfl ?_
    obtain ⟨h5, h⟩ := z_ckiE h
    refine z_iald hB 15 24 kT_15 (Nat.le_of_ble_eq_true rfl) dX2_manyOf_17 h5 ?_
    refine z_iload_n hB 1 dX2_manyOf_18 rfl rfl ?_
    obtain ⟨j7, ej7, h⟩ := z_letE h
    have hj7 : ∀ (y6 : Int32), j7 y6 = some r → ZW E G A 4 layT 38 ad 25 [(0, .ref (ad 11)), (1, .int p1), (2, .int y6), (3, .int x3)] [] σ := by
      intro y6 h
      rw [ej7] at h
      obtain ⟨x8, ex8, h⟩ := z_letE h
      refine z_iinc hB 3 [(3, .int x8), (0, .ref (ad 11)), (1, .int p1), (2, .int y6)] dX2_manyOf_25 rfl (by rw [zcI_1]; exact ex8) (Nat.le_of_ble_eq_true rfl) rfl ?_
      refine z_goto hB (tgt := 4) dX2_manyOf_28 (by decide) ?_
      refine z_lv [1, 2, 3, 0] rfl ?_
      exact hk_k1 _ _ h
    refine z_icmp_ne hB (tgt := 25) dX2_manyOf_19 (by decide) (fun c9 => ?_) (fun c9 => ?_)
    · have h := z_ifF c9 h
      exact hj7 _ h
    · have h := z_ifT c9 h
      obtain ⟨x10, ex10, h⟩ := z_letE h
      refine z_iinc hB 2 [(2, .int x10), (0, .ref (ad 11)), (1, .int p1), (3, .int x3)] dX2_manyOf_22 rfl (by rw [zcI_1]; exact ex10) (Nat.le_of_ble_eq_true rfl) rfl ?_
      refine z_lv [1, 2, 0, 3] rfl ?_
      exact hj7 _ h
def f_X2_dogIsOut (p1 : Int32) (p2 : Int32) (σ : z_S) : Option Int32 :=
  z_cki p1 24 <|
  z_let (σ 16 p1.toNatClampNeg) fun x2 =>
  if x2 ≤ (0 : Int32) then
  (some ((0 : Int32)))
  else
  (z_ck (¬ x2 = 0) <|
  z_cki p1 24 <|
  z_ck (¬ x2 = 0) <|
  if (p2 - p2 / x2 * x2) = ((σ 17 p1.toNatClampNeg) - (σ 17 p1.toNatClampNeg) / x2 * x2) then
  (some ((1 : Int32)))
  else
  (some ((0 : Int32))))
set_option maxRecDepth 100000 in
set_option maxHeartbeats 4000000 in
theorem c_X2_dogIsOut (p1 : Int32) (p2 : Int32) (σ : z_S) (r : Int32) (h : f_X2_dogIsOut p1 p2 σ = some r) : zMet yX2_dogIsOut cX2_dogIsOut 4 (some .boolean) 0 0 layT 38 (fun ad => [.ref (ad 11), .int p1, .int p2]) σ (z_QI layT 38 r σ) := by
  refine z_headI RX2 (by decide) rfl (fun _ => Nat.le_of_ble_eq_true rfl) (fun E G A ad hB hret => ?_)
  show ZW E G A 4 layT 38 ad 0 [(0, .ref (ad 11)), (1, .int p1), (2, .int p2)] [] σ
  unfold f_X2_dogIsOut at h
  refine z_aload_n hB 0 dX2_dogIsOut_0 rfl rfl ?_
  refine z_getr hB 11 5 16 kT_11 (Nat.le_of_ble_eq_true rfl) vc_2 inlX2 (Nat.le_of_ble_eq_true rfl) rfl (Nat.le_of_ble_eq_true rfl) fl_X2_28 dX2_dogIsOut_1 ?_
  refine z_iload_n hB 1 dX2_dogIsOut_4 rfl rfl ?_
  obtain ⟨h1, h⟩ := z_ckiE h
  refine z_iald hB 16 24 kT_16 (Nat.le_of_ble_eq_true rfl) dX2_dogIsOut_5 h1 ?_
  obtain ⟨x2, ex2, h⟩ := z_letE h
  refine z_istore_n hB [(3, .int x2), (0, .ref (ad 11)), (1, .int p1), (2, .int p2)] dX2_dogIsOut_6 rfl (Nat.le_of_ble_eq_true rfl) ex2 rfl ?_
  refine z_iload_n hB 0 dX2_dogIsOut_7 rfl rfl ?_
  refine z_if_le hB (tgt := 29) dX2_dogIsOut_8 (by decide) (fun c3 => ?_) (fun c3 => ?_)
  · have h := z_ifT c3 h
    refine z_iconst hB dX2_dogIsOut_29 zcI_0 ?_
    exact hret _ _ _ _ (Option.some.inj h) rfl rfl dX2_dogIsOut_30
  · have h := z_ifF c3 h
    refine z_iload_n hB 3 dX2_dogIsOut_11 rfl rfl ?_
    refine z_iload_n hB 0 dX2_dogIsOut_12 rfl rfl ?_
    obtain ⟨h4, h⟩ := z_ckE h
    refine z_irem hB dX2_dogIsOut_13 h4 ?_
    refine z_aload_n hB 1 dX2_dogIsOut_14 rfl rfl ?_
    refine z_getr hB 11 6 17 kT_11 (Nat.le_of_ble_eq_true rfl) vc_2 inlX2 (Nat.le_of_ble_eq_true rfl) rfl (Nat.le_of_ble_eq_true rfl) fl_X2_31 dX2_dogIsOut_15 ?_
    refine z_iload_n hB 2 dX2_dogIsOut_18 rfl rfl ?_
    obtain ⟨h5, h⟩ := z_ckiE h
    refine z_iald hB 17 24 kT_17 (Nat.le_of_ble_eq_true rfl) dX2_dogIsOut_19 h5 ?_
    refine z_iload_n hB 0 dX2_dogIsOut_20 rfl rfl ?_
    obtain ⟨h6, h⟩ := z_ckE h
    refine z_irem hB dX2_dogIsOut_21 h6 ?_
    refine z_icmp_ne hB (tgt := 29) dX2_dogIsOut_22 (by decide) (fun c7 => ?_) (fun c7 => ?_)
    · have h := z_ifF c7 h
      refine z_iconst hB dX2_dogIsOut_29 zcI_0 ?_
      exact hret _ _ _ _ (Option.some.inj h) rfl rfl dX2_dogIsOut_30
    · have h := z_ifT c7 h
      refine z_iconst hB dX2_dogIsOut_25 zcI_1 ?_
      refine z_goto hB (tgt := 30) dX2_dogIsOut_26 (by decide) ?_
      exact hret _ _ _ _ (Option.some.inj h) rfl rfl dX2_dogIsOut_30
def f_X2_complain (p1 : Int32) (σ : z_S) : Option z_S :=
  z_cki p1 24 <|
  z_cki p1 24 <|
  z_let (z_u σ 22 p1.toNatClampNeg ((σ 22 p1.toNatClampNeg) + (1 : Int32))) fun σ3 =>
  z_cki p1 24 <|
  z_cki p1 24 <|
  z_let (z_u σ3 23 p1.toNatClampNeg ((σ3 23 p1.toNatClampNeg) + (1 : Int32))) fun σ6 =>
  some σ6
set_option maxRecDepth 100000 in
set_option maxHeartbeats 4000000 in
theorem c_X2_complain (p1 : Int32) (σ σz : z_S) (h : f_X2_complain p1 σ = some σz) : zMet yX2_complain cX2_complain 2 none 0 0 layT 38 (fun ad => [.ref (ad 11), .int p1]) σ (z_QV layT 38 σz) := by
  refine z_headV RX2 (by decide) rfl (fun _ => Nat.le_of_ble_eq_true rfl) (fun E G A ad hB hret => ?_)
  show ZW E G A 2 layT 38 ad 0 [(0, .ref (ad 11)), (1, .int p1)] [] σ
  unfold f_X2_complain at h
  refine z_aload_n hB 0 dX2_complain_0 rfl rfl ?_
  refine z_getr hB 11 11 22 kT_11 (Nat.le_of_ble_eq_true rfl) vc_2 inlX2 (Nat.le_of_ble_eq_true rfl) rfl (Nat.le_of_ble_eq_true rfl) fl_X2_46 dX2_complain_1 ?_
  refine z_iload_n hB 1 dX2_complain_4 rfl rfl ?_
  refine z_dup2 hB dX2_complain_5 rfl rfl ?_
  obtain ⟨h1, h⟩ := z_ckiE h
  refine z_iald hB 22 24 kT_22 (Nat.le_of_ble_eq_true rfl) dX2_complain_6 h1 ?_
  refine z_iconst hB dX2_complain_7 zcI_1 ?_
  refine z_iadd hB dX2_complain_8 ?_
  obtain ⟨h2, h⟩ := z_ckiE h
  obtain ⟨σ3, eσ3, h⟩ := z_letE h
  refine z_iast hB 22 24 kT_22 (Nat.le_of_ble_eq_true rfl) dX2_complain_9 h2 ?_
  refine z_to eσ3 ?_
  refine z_aload_n hB 0 dX2_complain_10 rfl rfl ?_
  refine z_getr hB 11 12 23 kT_11 (Nat.le_of_ble_eq_true rfl) vc_2 inlX2 (Nat.le_of_ble_eq_true rfl) rfl (Nat.le_of_ble_eq_true rfl) fl_X2_49 dX2_complain_11 ?_
  refine z_iload_n hB 1 dX2_complain_14 rfl rfl ?_
  refine z_dup2 hB dX2_complain_15 rfl rfl ?_
  obtain ⟨h4, h⟩ := z_ckiE h
  refine z_iald hB 23 24 kT_23 (Nat.le_of_ble_eq_true rfl) dX2_complain_16 h4 ?_
  refine z_iconst hB dX2_complain_17 zcI_1 ?_
  refine z_iadd hB dX2_complain_18 ?_
  obtain ⟨h5, h⟩ := z_ckiE h
  obtain ⟨σ6, eσ6, h⟩ := z_letE h
  refine z_iast hB 23 24 kT_23 (Nat.le_of_ble_eq_true rfl) dX2_complain_19 h5 ?_
  refine z_to eσ6 ?_
  exact hret _ _ _ (Option.some.inj h) dX2_complain_20
def lb_X2_allComplaints_4 (σ : z_S) (k1 : Int32 → Int32 → Option Int32) (x2 : Int32) (x3 : Int32) : Option Int32 :=
  if (σ 11 0) ≤ x3 then
  (some (x2))
  else
  (z_cki x3 24 <|
  z_let (x2 + (σ 22 x3.toNatClampNeg)) fun x6 =>
  z_let (x3 + (1 : Int32)) fun x7 =>
  k1 x6 x7)
def f_X2_allComplaints (σ : z_S) : Option Int32 :=
  z_lp2 (lb_X2_allComplaints_4 σ) z_Fu (0 : Int32) (0 : Int32)
set_option maxRecDepth 100000 in
set_option maxHeartbeats 4000000 in
theorem c_X2_allComplaints (σ : z_S) (r : Int32) (h : f_X2_allComplaints σ = some r) : zMet yX2_allComplaints cX2_allComplaints 3 (some .int) 0 0 layT 38 (fun ad => [.ref (ad 11)]) σ (z_QI layT 38 r σ) := by
  refine z_headI RX2 (by decide) rfl (fun _ => Nat.le_of_ble_eq_true rfl) (fun E G A ad hB hret => ?_)
  show ZW E G A 3 layT 38 ad 0 [(0, .ref (ad 11))] [] σ
  unfold f_X2_allComplaints at h
  refine z_iconst hB dX2_allComplaints_0 zcI_0 ?_
  refine z_istore_n hB [(1, .int ((0 : Int32))), (0, .ref (ad 11))] dX2_allComplaints_1 rfl (Nat.le_of_ble_eq_true rfl) rfl rfl ?_
  refine z_iconst hB dX2_allComplaints_2 zcI_0 ?_
  refine z_istore_n hB [(2, .int ((0 : Int32))), (1, .int ((0 : Int32))), (0, .ref (ad 11))] dX2_allComplaints_3 rfl (Nat.le_of_ble_eq_true rfl) rfl rfl ?_
  refine z_lv [2, 1, 0] rfl ?_
  refine z_lpr2 (g := fun x2 x3 => ZW E G A 3 layT 38 ad 4 [(0, .ref (ad 11)), (1, .int x2), (2, .int x3)] [] σ) (fun k1 x2 x3 hk_k1 h => ?_) _ _ _ h
  show ZW E G A 3 layT 38 ad 4 [(0, .ref (ad 11)), (1, .int x2), (2, .int x3)] [] σ
  unfold lb_X2_allComplaints_4 at h
  refine z_iload_n hB 2 dX2_allComplaints_4 rfl rfl ?_
  refine z_aload_n hB 0 dX2_allComplaints_5 rfl rfl ?_
  refine z_get hB 11 0 kT_11 (Nat.le_of_ble_eq_true rfl) vc_2 inlX2 (Nat.le_of_ble_eq_true rfl) rfl fl_X2_9 dX2_allComplaints_6 ?_
  refine z_icmp_ge hB (tgt := 27) dX2_allComplaints_9 (by decide) (fun c4 => ?_) (fun c4 => ?_)
  · have h := z_ifT c4 h
    refine z_iload_n hB 1 dX2_allComplaints_27 rfl rfl ?_
    exact hret _ _ _ _ (Option.some.inj h) rfl rfl dX2_allComplaints_28
  · have h := z_ifF c4 h
    refine z_iload_n hB 1 dX2_allComplaints_12 rfl rfl ?_
    refine z_aload_n hB 0 dX2_allComplaints_13 rfl rfl ?_
    refine z_getr hB 11 11 22 kT_11 (Nat.le_of_ble_eq_true rfl) vc_2 inlX2 (Nat.le_of_ble_eq_true rfl) rfl (Nat.le_of_ble_eq_true rfl) fl_X2_46 dX2_allComplaints_14 ?_
    refine z_iload_n hB 2 dX2_allComplaints_17 rfl rfl ?_
    obtain ⟨h5, h⟩ := z_ckiE h
    refine z_iald hB 22 24 kT_22 (Nat.le_of_ble_eq_true rfl) dX2_allComplaints_18 h5 ?_
    refine z_iadd hB dX2_allComplaints_19 ?_
    obtain ⟨x6, ex6, h⟩ := z_letE h
    refine z_istore_n hB [(1, .int x6), (0, .ref (ad 11)), (2, .int x3)] dX2_allComplaints_20 rfl (Nat.le_of_ble_eq_true rfl) ex6 rfl ?_
    obtain ⟨x7, ex7, h⟩ := z_letE h
    refine z_iinc hB 2 [(2, .int x7), (1, .int x6), (0, .ref (ad 11))] dX2_allComplaints_21 rfl (by rw [zcI_1]; exact ex7) (Nat.le_of_ble_eq_true rfl) rfl ?_
    refine z_goto hB (tgt := 4) dX2_allComplaints_24 (by decide) ?_
    refine z_lv [2, 1, 0] rfl ?_
    exact hk_k1 _ _ h
def f_X2_papersDue (p1 : Int32) (σ : z_S) : Option Int32 :=
  z_cki p1 24 <|
  z_cki p1 24 <|
  z_cki p1 24 <|
  some (((σ 18 p1.toNatClampNeg) + (σ 20 p1.toNatClampNeg)) + (σ 21 p1.toNatClampNeg))
set_option maxRecDepth 100000 in
set_option maxHeartbeats 4000000 in
theorem c_X2_papersDue (p1 : Int32) (σ : z_S) (r : Int32) (h : f_X2_papersDue p1 σ = some r) : zMet yX2_papersDue cX2_papersDue 2 (some .int) 0 0 layT 38 (fun ad => [.ref (ad 11), .int p1]) σ (z_QI layT 38 r σ) := by
  refine z_headI RX2 (by decide) rfl (fun _ => Nat.le_of_ble_eq_true rfl) (fun E G A ad hB hret => ?_)
  show ZW E G A 2 layT 38 ad 0 [(0, .ref (ad 11)), (1, .int p1)] [] σ
  unfold f_X2_papersDue at h
  refine z_aload_n hB 0 dX2_papersDue_0 rfl rfl ?_
  refine z_getr hB 11 7 18 kT_11 (Nat.le_of_ble_eq_true rfl) vc_2 inlX2 (Nat.le_of_ble_eq_true rfl) rfl (Nat.le_of_ble_eq_true rfl) fl_X2_34 dX2_papersDue_1 ?_
  refine z_iload_n hB 1 dX2_papersDue_4 rfl rfl ?_
  obtain ⟨h1, h⟩ := z_ckiE h
  refine z_iald hB 18 24 kT_18 (Nat.le_of_ble_eq_true rfl) dX2_papersDue_5 h1 ?_
  refine z_aload_n hB 0 dX2_papersDue_6 rfl rfl ?_
  refine z_getr hB 11 9 20 kT_11 (Nat.le_of_ble_eq_true rfl) vc_2 inlX2 (Nat.le_of_ble_eq_true rfl) rfl (Nat.le_of_ble_eq_true rfl) fl_X2_40 dX2_papersDue_7 ?_
  refine z_iload_n hB 1 dX2_papersDue_10 rfl rfl ?_
  obtain ⟨h2, h⟩ := z_ckiE h
  refine z_iald hB 20 24 kT_20 (Nat.le_of_ble_eq_true rfl) dX2_papersDue_11 h2 ?_
  refine z_iadd hB dX2_papersDue_12 ?_
  refine z_aload_n hB 0 dX2_papersDue_13 rfl rfl ?_
  refine z_getr hB 11 10 21 kT_11 (Nat.le_of_ble_eq_true rfl) vc_2 inlX2 (Nat.le_of_ble_eq_true rfl) rfl (Nat.le_of_ble_eq_true rfl) fl_X2_43 dX2_papersDue_14 ?_
  refine z_iload_n hB 1 dX2_papersDue_17 rfl rfl ?_
  obtain ⟨h3, h⟩ := z_ckiE h
  refine z_iald hB 21 24 kT_21 (Nat.le_of_ble_eq_true rfl) dX2_papersDue_18 h3 ?_
  refine z_iadd hB dX2_papersDue_19 ?_
  exact hret _ _ _ _ (Option.some.inj h) rfl rfl dX2_papersDue_20
def f_X2_share (p1 : Int32) (σ : z_S) : Option UInt32 :=
  z_b1 (f_X2_papersDue p1 σ) fun r2 =>
  if r2 ≤ (0 : Int32) then
  (some (FP.fconst0))
  else
  (z_cki p1 24 <|
  z_f32 (FP.fdiv (FP.i2f (σ 18 p1.toNatClampNeg)) (FP.i2f r2)) <|
  some (FP.fdiv (FP.i2f (σ 18 p1.toNatClampNeg)) (FP.i2f r2)))
set_option maxRecDepth 100000 in
set_option maxHeartbeats 4000000 in
theorem c_X2_share (p1 : Int32) (σ : z_S) (r : UInt32) (h : f_X2_share p1 σ = some r) : zMet yX2_share cX2_share 3 (some .float) 1 21 layT 38 (fun ad => [.ref (ad 11), .int p1]) σ (z_QF layT 38 r σ) := by
  refine z_headF RX2 (by decide) rfl (fun _ => Nat.le_of_ble_eq_true rfl) (fun E G A ad hB hret => ?_)
  show ZW E G A 3 layT 38 ad 0 [(0, .ref (ad 11)), (1, .int p1)] [] σ
  unfold f_X2_share at h
  refine z_aload_n hB 0 dX2_share_0 rfl rfl ?_
  refine z_iload_n hB 1 dX2_share_1 rfl rfl ?_
  obtain ⟨r2, h1, h⟩ := z_b1E h
  refine z_cI hB (z_rV (ι := fun k => k) hB yY_X2_papersDue (c_X2_papersDue _ _ _ h1) rfl cut_T z_hid kT_11 (Nat.le_of_ble_eq_true rfl) vc_2 rfl rfl rfl (Nat.le_of_ble_eq_true rfl) ml_X2_74 ⟨Nat.le_of_ble_eq_true rfl, Nat.le_of_ble_eq_true rfl⟩ dX2_share_2) cut_T z_hid ?_
  refine z_toA (z_mro cut_T) ?_
  refine z_istore_n hB [(2, .int r2), (0, .ref (ad 11)), (1, .int p1)] dX2_share_5 rfl (Nat.le_of_ble_eq_true rfl) rfl rfl ?_
  refine z_iload_n hB 0 dX2_share_6 rfl rfl ?_
  refine z_if_le hB (tgt := 23) dX2_share_7 (by decide) (fun c3 => ?_) (fun c3 => ?_)
  · have h := z_ifT c3 h
    refine z_fconst0 hB dX2_share_23 ?_
    exact hret _ _ _ _ (Option.some.inj h) rfl dX2_share_24
  · have h := z_ifF c3 h
    refine z_aload_n hB 1 dX2_share_10 rfl rfl ?_
    refine z_getr hB 11 7 18 kT_11 (Nat.le_of_ble_eq_true rfl) vc_2 inlX2 (Nat.le_of_ble_eq_true rfl) rfl (Nat.le_of_ble_eq_true rfl) fl_X2_34 dX2_share_11 ?_
    refine z_iload_n hB 2 dX2_share_14 rfl rfl ?_
    obtain ⟨h4, h⟩ := z_ckiE h
    refine z_iald hB 18 24 kT_18 (Nat.le_of_ble_eq_true rfl) dX2_share_15 h4 ?_
    refine z_i2f hB dX2_share_16 ?_
    refine z_iload_n hB 0 dX2_share_17 rfl rfl ?_
    refine z_i2f hB dX2_share_18 ?_
    obtain ⟨h5, h⟩ := z_f32E h
    refine z_fdiv hB dX2_share_19 h5 ?_
    refine z_goto hB (tgt := 24) dX2_share_20 (by decide) ?_
    exact hret _ _ _ _ (Option.some.inj h) rfl dX2_share_24
def f_X2_tipNow (p1 : Int32) (σ : z_S) : Option Int32 :=
  z_cki p1 24 <|
  if (σ 24 p1.toNatClampNeg) = (0 : Int32) then
  (some ((0 : Int32)))
  else
  (z_cki p1 24 <|
  if (σ 23 p1.toNatClampNeg) ≤ (1 : Int32) then
  (z_cki p1 24 <|
  if (σ 23 p1.toNatClampNeg) = (0 : Int32) then
  (z_cki p1 24 <|
  some (σ 14 p1.toNatClampNeg))
  else
  (z_cki p1 24 <|
  z_ck (¬ (2 : Int32) = 0) <|
  some ((σ 14 p1.toNatClampNeg) / (2 : Int32))))
  else
  (some ((0 : Int32))))
set_option maxRecDepth 100000 in
set_option maxHeartbeats 4000000 in
theorem c_X2_tipNow (p1 : Int32) (σ : z_S) (r : Int32) (h : f_X2_tipNow p1 σ = some r) : zMet yX2_tipNow cX2_tipNow 2 (some .int) 0 0 layT 38 (fun ad => [.ref (ad 11), .int p1]) σ (z_QI layT 38 r σ) := by
  refine z_headI RX2 (by decide) rfl (fun _ => Nat.le_of_ble_eq_true rfl) (fun E G A ad hB hret => ?_)
  show ZW E G A 2 layT 38 ad 0 [(0, .ref (ad 11)), (1, .int p1)] [] σ
  unfold f_X2_tipNow at h
  refine z_aload_n hB 0 dX2_tipNow_0 rfl rfl ?_
  refine z_getr hB 11 13 24 kT_11 (Nat.le_of_ble_eq_true rfl) vc_2 inlX2 (Nat.le_of_ble_eq_true rfl) rfl (Nat.le_of_ble_eq_true rfl) fl_X2_52 dX2_tipNow_1 ?_
  refine z_iload_n hB 1 dX2_tipNow_4 rfl rfl ?_
  obtain ⟨h1, h⟩ := z_ckiE h
  refine z_iald hB 24 24 kT_24 (Nat.le_of_ble_eq_true rfl) dX2_tipNow_5 h1 ?_
  refine z_if_eq hB (tgt := 19) dX2_tipNow_6 (by decide) (fun c2 => ?_) (fun c2 => ?_)
  · have h := z_ifT c2 h
    refine z_iconst hB dX2_tipNow_19 zcI_0 ?_
    exact hret _ _ _ _ (Option.some.inj h) rfl rfl dX2_tipNow_20
  · have h := z_ifF c2 h
    refine z_aload_n hB 0 dX2_tipNow_9 rfl rfl ?_
    refine z_getr hB 11 12 23 kT_11 (Nat.le_of_ble_eq_true rfl) vc_2 inlX2 (Nat.le_of_ble_eq_true rfl) rfl (Nat.le_of_ble_eq_true rfl) fl_X2_49 dX2_tipNow_10 ?_
    refine z_iload_n hB 1 dX2_tipNow_13 rfl rfl ?_
    obtain ⟨h3, h⟩ := z_ckiE h
    refine z_iald hB 23 24 kT_23 (Nat.le_of_ble_eq_true rfl) dX2_tipNow_14 h3 ?_
    refine z_iconst hB dX2_tipNow_15 zcI_1 ?_
    refine z_icmp_le hB (tgt := 21) dX2_tipNow_16 (by decide) (fun c4 => ?_) (fun c4 => ?_)
    · have h := z_ifT c4 h
      refine z_aload_n hB 0 dX2_tipNow_21 rfl rfl ?_
      refine z_getr hB 11 12 23 kT_11 (Nat.le_of_ble_eq_true rfl) vc_2 inlX2 (Nat.le_of_ble_eq_true rfl) rfl (Nat.le_of_ble_eq_true rfl) fl_X2_49 dX2_tipNow_22 ?_
      refine z_iload_n hB 1 dX2_tipNow_25 rfl rfl ?_
      obtain ⟨h5, h⟩ := z_ckiE h
      refine z_iald hB 23 24 kT_23 (Nat.le_of_ble_eq_true rfl) dX2_tipNow_26 h5 ?_
      refine z_if_ne hB (tgt := 39) dX2_tipNow_27 (by decide) (fun c6 => ?_) (fun c6 => ?_)
      · have h := z_ifF c6 h
        refine z_aload_n hB 0 dX2_tipNow_39 rfl rfl ?_
        refine z_getr hB 11 3 14 kT_11 (Nat.le_of_ble_eq_true rfl) vc_2 inlX2 (Nat.le_of_ble_eq_true rfl) rfl (Nat.le_of_ble_eq_true rfl) fl_X2_22 dX2_tipNow_40 ?_
        refine z_iload_n hB 1 dX2_tipNow_43 rfl rfl ?_
        obtain ⟨h7, h⟩ := z_ckiE h
        refine z_iald hB 14 24 kT_14 (Nat.le_of_ble_eq_true rfl) dX2_tipNow_44 h7 ?_
        refine z_iconst hB dX2_tipNow_45 zcI_2 ?_
        obtain ⟨h8, h⟩ := z_ckE h
        refine z_idiv hB dX2_tipNow_46 h8 ?_
        exact hret _ _ _ _ (Option.some.inj h) rfl rfl dX2_tipNow_47
      · have h := z_ifT c6 h
        refine z_aload_n hB 0 dX2_tipNow_30 rfl rfl ?_
        refine z_getr hB 11 3 14 kT_11 (Nat.le_of_ble_eq_true rfl) vc_2 inlX2 (Nat.le_of_ble_eq_true rfl) rfl (Nat.le_of_ble_eq_true rfl) fl_X2_22 dX2_tipNow_31 ?_
        refine z_iload_n hB 1 dX2_tipNow_34 rfl rfl ?_
        obtain ⟨h9, h⟩ := z_ckiE h
        refine z_iald hB 14 24 kT_14 (Nat.le_of_ble_eq_true rfl) dX2_tipNow_35 h9 ?_
        refine z_goto hB (tgt := 47) dX2_tipNow_36 (by decide) ?_
        exact hret _ _ _ _ (Option.some.inj h) rfl rfl dX2_tipNow_47
    · have h := z_ifF c4 h
      refine z_iconst hB dX2_tipNow_19 zcI_0 ?_
      exact hret _ _ _ _ (Option.some.inj h) rfl rfl dX2_tipNow_20
def lb_X2_beginWeek_2 (k1 : Int32 → z_S → Option z_S) (x2 : Int32) (σ3 : z_S) : Option z_S :=
  if (σ3 11 0) ≤ x2 then
  (some σ3)
  else
  (z_cki x2 24 <|
  z_let (z_u σ3 23 x2.toNatClampNeg ((0 : Int32))) fun σ6 =>
  z_cki x2 24 <|
  z_let (z_u σ6 24 x2.toNatClampNeg ((0 : Int32))) fun σ8 =>
  z_let (x2 + (1 : Int32)) fun x9 =>
  k1 x9 σ8)
def f_X2_beginWeek (σ : z_S) : Option z_S :=
  z_lp2 lb_X2_beginWeek_2 z_Fu (0 : Int32) σ
set_option maxRecDepth 100000 in
set_option maxHeartbeats 4000000 in
theorem c_X2_beginWeek (σ σz : z_S) (h : f_X2_beginWeek σ = some σz) : zMet yX2_beginWeek cX2_beginWeek 2 none 0 0 layT 38 (fun ad => [.ref (ad 11)]) σ (z_QV layT 38 σz) := by
  refine z_headV RX2 (by decide) rfl (fun _ => Nat.le_of_ble_eq_true rfl) (fun E G A ad hB hret => ?_)
  show ZW E G A 2 layT 38 ad 0 [(0, .ref (ad 11))] [] σ
  unfold f_X2_beginWeek at h
  refine z_iconst hB dX2_beginWeek_0 zcI_0 ?_
  refine z_istore_n hB [(1, .int ((0 : Int32))), (0, .ref (ad 11))] dX2_beginWeek_1 rfl (Nat.le_of_ble_eq_true rfl) rfl rfl ?_
  refine z_lv [1, 0] rfl ?_
  refine z_lpr2 (g := fun x2 σ3 => ZW E G A 2 layT 38 ad 2 [(0, .ref (ad 11)), (1, .int x2)] [] σ3) (fun k1 x2 σ3 hk_k1 h => ?_) _ _ _ h
  show ZW E G A 2 layT 38 ad 2 [(0, .ref (ad 11)), (1, .int x2)] [] σ3
  unfold lb_X2_beginWeek_2 at h
  refine z_iload_n hB 1 dX2_beginWeek_2 rfl rfl ?_
  refine z_aload_n hB 0 dX2_beginWeek_3 rfl rfl ?_
  refine z_get hB 11 0 kT_11 (Nat.le_of_ble_eq_true rfl) vc_2 inlX2 (Nat.le_of_ble_eq_true rfl) rfl fl_X2_9 dX2_beginWeek_4 ?_
  refine z_icmp_ge hB (tgt := 30) dX2_beginWeek_7 (by decide) (fun c4 => ?_) (fun c4 => ?_)
  · have h := z_ifT c4 h
    exact hret _ _ _ (Option.some.inj h) dX2_beginWeek_30
  · have h := z_ifF c4 h
    refine z_aload_n hB 0 dX2_beginWeek_10 rfl rfl ?_
    refine z_getr hB 11 12 23 kT_11 (Nat.le_of_ble_eq_true rfl) vc_2 inlX2 (Nat.le_of_ble_eq_true rfl) rfl (Nat.le_of_ble_eq_true rfl) fl_X2_49 dX2_beginWeek_11 ?_
    refine z_iload_n hB 1 dX2_beginWeek_14 rfl rfl ?_
    refine z_iconst hB dX2_beginWeek_15 zcI_0 ?_
    obtain ⟨h5, h⟩ := z_ckiE h
    obtain ⟨σ6, eσ6, h⟩ := z_letE h
    refine z_iast hB 23 24 kT_23 (Nat.le_of_ble_eq_true rfl) dX2_beginWeek_16 h5 ?_
    refine z_to eσ6 ?_
    refine z_aload_n hB 0 dX2_beginWeek_17 rfl rfl ?_
    refine z_getr hB 11 13 24 kT_11 (Nat.le_of_ble_eq_true rfl) vc_2 inlX2 (Nat.le_of_ble_eq_true rfl) rfl (Nat.le_of_ble_eq_true rfl) fl_X2_52 dX2_beginWeek_18 ?_
    refine z_iload_n hB 1 dX2_beginWeek_21 rfl rfl ?_
    refine z_iconst hB dX2_beginWeek_22 zcI_0 ?_
    obtain ⟨h7, h⟩ := z_ckiE h
    obtain ⟨σ8, eσ8, h⟩ := z_letE h
    refine z_iast hB 24 24 kT_24 (Nat.le_of_ble_eq_true rfl) dX2_beginWeek_23 h7 ?_
    refine z_to eσ8 ?_
    obtain ⟨x9, ex9, h⟩ := z_letE h
    refine z_iinc hB 1 [(1, .int x9), (0, .ref (ad 11))] dX2_beginWeek_24 rfl (by rw [zcI_1]; exact ex9) (Nat.le_of_ble_eq_true rfl) rfl ?_
    refine z_goto hB (tgt := 2) dX2_beginWeek_27 (by decide) ?_
    refine z_lv [1, 0] rfl ?_
    exact hk_k1 _ _ h
def f_X3_add (p1 : Int32) (p2 : Int32) (p3 : Int32) (σ : z_S) : Option (Int32 × z_S) :=
  z_let (σ 26 0) fun x1 =>
  z_cki x1 30 <|
  z_let (z_u σ 27 x1.toNatClampNeg (p1)) fun σ3 =>
  z_cki x1 30 <|
  z_let (z_u σ3 28 x1.toNatClampNeg (p2)) fun σ5 =>
  z_cki x1 30 <|
  z_let (z_u σ5 29 x1.toNatClampNeg (p3)) fun σ7 =>
  z_let (z_u σ7 26 0 ((σ7 26 0) + (1 : Int32))) fun σ8 =>
  some (x1, σ8)
set_option maxRecDepth 100000 in
set_option maxHeartbeats 4000000 in
theorem c_X3_add (p1 : Int32) (p2 : Int32) (p3 : Int32) (σ : z_S) (r : Int32) (σz : z_S) (h : f_X3_add p1 p2 p3 σ = some (r, σz)) : zMet yX3_add cX3_add 5 (some .int) 0 0 layT 38 (fun ad => [.ref (ad 26), .int p1, .int p2, .int p3]) σ (z_QI layT 38 r σz) := by
  refine z_headI RX3 (by decide) rfl (fun _ => Nat.le_of_ble_eq_true rfl) (fun E G A ad hB hret => ?_)
  show ZW E G A 5 layT 38 ad 0 [(0, .ref (ad 26)), (1, .int p1), (2, .int p2), (3, .int p3)] [] σ
  unfold f_X3_add at h
  refine z_aload_n hB 0 dX3_add_0 rfl rfl ?_
  refine z_get hB 26 0 kT_26 (Nat.le_of_ble_eq_true rfl) vc_3 inlX3 (Nat.le_of_ble_eq_true rfl) rfl fl_X3_9 dX3_add_1 ?_
  obtain ⟨x1, ex1, h⟩ := z_letE h
  refine z_istore hB [(4, .int x1), (0, .ref (ad 26)), (1, .int p1), (2, .int p2), (3, .int p3)] dX3_add_4 (Nat.le_of_ble_eq_true rfl) ex1 rfl ?_
  refine z_aload_n hB 1 dX3_add_6 rfl rfl ?_
  refine z_getr hB 26 1 27 kT_26 (Nat.le_of_ble_eq_true rfl) vc_3 inlX3 (Nat.le_of_ble_eq_true rfl) rfl (Nat.le_of_ble_eq_true rfl) fl_X3_15 dX3_add_7 ?_
  refine z_iload hB 0 dX3_add_10 rfl ?_
  refine z_iload_n hB 2 dX3_add_12 rfl rfl ?_
  obtain ⟨h2, h⟩ := z_ckiE h
  obtain ⟨σ3, eσ3, h⟩ := z_letE h
  refine z_iast hB 27 30 kT_27 (Nat.le_of_ble_eq_true rfl) dX3_add_13 h2 ?_
  refine z_to eσ3 ?_
  refine z_aload_n hB 1 dX3_add_14 rfl rfl ?_
  refine z_getr hB 26 2 28 kT_26 (Nat.le_of_ble_eq_true rfl) vc_3 inlX3 (Nat.le_of_ble_eq_true rfl) rfl (Nat.le_of_ble_eq_true rfl) fl_X3_19 dX3_add_15 ?_
  refine z_iload hB 0 dX3_add_18 rfl ?_
  refine z_iload_n hB 3 dX3_add_20 rfl rfl ?_
  obtain ⟨h4, h⟩ := z_ckiE h
  obtain ⟨σ5, eσ5, h⟩ := z_letE h
  refine z_iast hB 28 30 kT_28 (Nat.le_of_ble_eq_true rfl) dX3_add_21 h4 ?_
  refine z_to eσ5 ?_
  refine z_aload_n hB 1 dX3_add_22 rfl rfl ?_
  refine z_getr hB 26 3 29 kT_26 (Nat.le_of_ble_eq_true rfl) vc_3 inlX3 (Nat.le_of_ble_eq_true rfl) rfl (Nat.le_of_ble_eq_true rfl) fl_X3_22 dX3_add_23 ?_
  refine z_iload hB 0 dX3_add_26 rfl ?_
  refine z_iload_n hB 4 dX3_add_28 rfl rfl ?_
  obtain ⟨h6, h⟩ := z_ckiE h
  obtain ⟨σ7, eσ7, h⟩ := z_letE h
  refine z_iast hB 29 30 kT_29 (Nat.le_of_ble_eq_true rfl) dX3_add_29 h6 ?_
  refine z_to eσ7 ?_
  refine z_aload_n hB 1 dX3_add_30 rfl rfl ?_
  refine z_dup hB dX3_add_31 rfl ?_
  refine z_get hB 26 0 kT_26 (Nat.le_of_ble_eq_true rfl) vc_3 inlX3 (Nat.le_of_ble_eq_true rfl) rfl fl_X3_9 dX3_add_32 ?_
  refine z_iconst hB dX3_add_35 zcI_1 ?_
  refine z_iadd hB dX3_add_36 ?_
  obtain ⟨σ8, eσ8, h⟩ := z_letE h
  refine z_put hB 26 0 kT_26 (Nat.le_of_ble_eq_true rfl) vc_3 inlX3 tyX3 tyX3_ok nmX3 (Nat.le_of_ble_eq_true rfl) rfl rfl (tyX3_ok 0 (Nat.le_of_ble_eq_true rfl)) fl_X3_9 dX3_add_37 ?_
  refine z_to eσ8 ?_
  refine z_iload hB 0 dX3_add_40 rfl ?_
  obtain ⟨h1, h2⟩ := z_prE h
  exact hret _ _ _ _ h1 h2 rfl dX3_add_42
def lb_X3_cover_2 (p1 : Int32) (p2 : Int32) (σ : z_S) (k1 : Int32 → Option Int32) (x2 : Int32) : Option Int32 :=
  if (σ 26 0) ≤ x2 then
  (some ((0 : Int32)))
  else
  (z_cki x2 30 <|
  z_let (fun (_ : Unit) => z_let (x2 + (1 : Int32)) fun x6 =>
  k1 x6) fun j5 =>
  if (σ 27 x2.toNatClampNeg) = p1 then
  (z_cki x2 30 <|
  if p2 < (σ 28 x2.toNatClampNeg) then
  (j5 ())
  else
  (z_cki x2 30 <|
  if (σ 29 x2.toNatClampNeg) < p2 then
  (j5 ())
  else
  (some ((1 : Int32)))))
  else
  (j5 ()))
def f_X3_cover (p1 : Int32) (p2 : Int32) (σ : z_S) : Option Int32 :=
  z_lp1 (lb_X3_cover_2 p1 p2 σ) z_Fu (0 : Int32)
set_option maxRecDepth 100000 in
set_option maxHeartbeats 4000000 in
theorem c_X3_cover (p1 : Int32) (p2 : Int32) (σ : z_S) (r : Int32) (h : f_X3_cover p1 p2 σ = some r) : zMet yX3_cover cX3_cover 4 (some .boolean) 0 0 layT 38 (fun ad => [.ref (ad 26), .int p1, .int p2]) σ (z_QI layT 38 r σ) := by
  refine z_headI RX3 (by decide) rfl (fun _ => Nat.le_of_ble_eq_true rfl) (fun E G A ad hB hret => ?_)
  show ZW E G A 4 layT 38 ad 0 [(0, .ref (ad 26)), (1, .int p1), (2, .int p2)] [] σ
  unfold f_X3_cover at h
  refine z_iconst hB dX3_cover_0 zcI_0 ?_
  refine z_istore_n hB [(3, .int ((0 : Int32))), (0, .ref (ad 26)), (1, .int p1), (2, .int p2)] dX3_cover_1 rfl (Nat.le_of_ble_eq_true rfl) rfl rfl ?_
  refine z_lv [1, 2, 3, 0] rfl ?_
  refine z_lpr1 (g := fun x2 => ZW E G A 4 layT 38 ad 2 [(0, .ref (ad 26)), (1, .int p1), (2, .int p2), (3, .int x2)] [] σ) (fun k1 x2 hk_k1 h => ?_) _ _ h
  show ZW E G A 4 layT 38 ad 2 [(0, .ref (ad 26)), (1, .int p1), (2, .int p2), (3, .int x2)] [] σ
  unfold lb_X3_cover_2 at h
  refine z_iload_n hB 3 dX3_cover_2 rfl rfl ?_
  refine z_aload_n hB 0 dX3_cover_3 rfl rfl ?_
  refine z_get hB 26 0 kT_26 (Nat.le_of_ble_eq_true rfl) vc_3 inlX3 (Nat.le_of_ble_eq_true rfl) rfl fl_X3_9 dX3_cover_4 ?_
  refine z_icmp_ge hB (tgt := 48) dX3_cover_7 (by decide) (fun c3 => ?_) (fun c3 => ?_)
  · have h := z_ifT c3 h
    refine z_iconst hB dX3_cover_48 zcI_0 ?_
    exact hret _ _ _ _ (Option.some.inj h) rfl rfl dX3_cover_49
  · have h := z_ifF c3 h
    refine z_aload_n hB 0 dX3_cover_10 rfl rfl ?_
    refine z_getr hB 26 1 27 kT_26 (Nat.le_of_ble_eq_true rfl) vc_3 inlX3 (Nat.le_of_ble_eq_true rfl) rfl (Nat.le_of_ble_eq_true rfl) fl_X3_15 dX3_cover_11 ?_
    refine z_iload_n hB 3 dX3_cover_14 rfl rfl ?_
    obtain ⟨h4, h⟩ := z_ckiE h
    refine z_iald hB 27 30 kT_27 (Nat.le_of_ble_eq_true rfl) dX3_cover_15 h4 ?_
    refine z_iload_n hB 1 dX3_cover_16 rfl rfl ?_
    obtain ⟨j5, ej5, h⟩ := z_letE h
    have hj5 : ∀ (_ : Unit), j5 () = some r → ZW E G A 4 layT 38 ad 42 [(0, .ref (ad 26)), (1, .int p1), (2, .int p2), (3, .int x2)] [] σ := by
      intro _ h
      rw [ej5] at h
      obtain ⟨x6, ex6, h⟩ := z_letE h
      refine z_iinc hB 3 [(3, .int x6), (0, .ref (ad 26)), (1, .int p1), (2, .int p2)] dX3_cover_42 rfl (by rw [zcI_1]; exact ex6) (Nat.le_of_ble_eq_true rfl) rfl ?_
      refine z_goto hB (tgt := 2) dX3_cover_45 (by decide) ?_
      refine z_lv [1, 2, 3, 0] rfl ?_
      exact hk_k1 _ h
    refine z_icmp_ne hB (tgt := 42) dX3_cover_17 (by decide) (fun c7 => ?_) (fun c7 => ?_)
    · have h := z_ifF c7 h
      exact hj5 () h
    · have h := z_ifT c7 h
      refine z_iload_n hB 2 dX3_cover_20 rfl rfl ?_
      refine z_aload_n hB 0 dX3_cover_21 rfl rfl ?_
      refine z_getr hB 26 2 28 kT_26 (Nat.le_of_ble_eq_true rfl) vc_3 inlX3 (Nat.le_of_ble_eq_true rfl) rfl (Nat.le_of_ble_eq_true rfl) fl_X3_19 dX3_cover_22 ?_
      refine z_iload_n hB 3 dX3_cover_25 rfl rfl ?_
      obtain ⟨h8, h⟩ := z_ckiE h
      refine z_iald hB 28 30 kT_28 (Nat.le_of_ble_eq_true rfl) dX3_cover_26 h8 ?_
      refine z_icmp_lt hB (tgt := 42) dX3_cover_27 (by decide) (fun c9 => ?_) (fun c9 => ?_)
      · have h := z_ifT c9 h
        exact hj5 () h
      · have h := z_ifF c9 h
        refine z_iload_n hB 2 dX3_cover_30 rfl rfl ?_
        refine z_aload_n hB 0 dX3_cover_31 rfl rfl ?_
        refine z_getr hB 26 3 29 kT_26 (Nat.le_of_ble_eq_true rfl) vc_3 inlX3 (Nat.le_of_ble_eq_true rfl) rfl (Nat.le_of_ble_eq_true rfl) fl_X3_22 dX3_cover_32 ?_
        refine z_iload_n hB 3 dX3_cover_35 rfl rfl ?_
        obtain ⟨h10, h⟩ := z_ckiE h
        refine z_iald hB 29 30 kT_29 (Nat.le_of_ble_eq_true rfl) dX3_cover_36 h10 ?_
        refine z_icmp_gt hB (tgt := 42) dX3_cover_37 (by decide) (fun c11 => ?_) (fun c11 => ?_)
        · have h := z_ifT c11 h
          exact hj5 () h
        · have h := z_ifF c11 h
          refine z_iconst hB dX3_cover_40 zcI_1 ?_
          exact hret _ _ _ _ (Option.some.inj h) rfl rfl dX3_cover_41
def f_X4_has (p1 : Int32) (σ : z_S) : Option Int32 :=
  z_b1 (f_X9_within p1 (0 : Int32) ((σ 2 0) - (1 : Int32)) σ) fun r2 =>
  z_ckz (r2) <|
  some (r2)
set_option maxRecDepth 100000 in
set_option maxHeartbeats 4000000 in
theorem c_X4_has (p1 : Int32) (σ : z_S) (r : Int32) (h : f_X4_has p1 σ = some r) : zMet yX4_has cX4_has 2 (some .boolean) 1 22 layT 38 (fun ad => [.ref (ad 2), .int p1]) σ (z_QI layT 38 r σ) := by
  refine z_headI RX4 (by decide) rfl (fun _ => Nat.le_of_ble_eq_true rfl) (fun E G A ad hB hret => ?_)
  show ZW E G A 2 layT 38 ad 0 [(0, .ref (ad 2)), (1, .int p1)] [] σ
  unfold f_X4_has at h
  refine z_iload_n hB 1 dX4_has_0 rfl rfl ?_
  refine z_iconst hB dX4_has_1 zcI_0 ?_
  refine z_aload_n hB 0 dX4_has_2 rfl rfl ?_
  refine z_get hB 2 0 kT_2 (Nat.le_of_ble_eq_true rfl) vc_4 inlX4 (Nat.le_of_ble_eq_true rfl) rfl fl_X4_9 dX4_has_3 ?_
  refine z_iconst hB dX4_has_6 zcI_1 ?_
  refine z_isub hB dX4_has_7 ?_
  obtain ⟨r2, h1, h⟩ := z_b1E h
  refine z_cI hB (z_rN (ι := fun k => k) hB yY_X9_within (c_X9_within _ _ _ _ _ h1) rfl z_cut0 z_hno rfl rfl rfl (Nat.le_of_ble_eq_true rfl) (List.mem_of_getElem? (i := 14) rfl) ⟨Nat.le_of_ble_eq_true rfl, Nat.le_of_ble_eq_true rfl⟩ dX4_has_8) z_cut0 z_hno ?_
  refine z_toA (z_mro (lay := layT) (lay' := z_lay0) (b := false) z_cut0) ?_
  obtain ⟨h3, h⟩ := z_ckzE h
  exact hret _ _ _ _ (Option.some.inj h) rfl h3 dX4_has_11
def lb_X4_putInOrder_76 (p1 : Int32) (x8 : Int32) (k11 : Int32 → z_S → Option z_S) (x12 : Int32) (σ13 : z_S) : Option z_S :=
  if x12 ≤ x8 then
  (if (σ13 2 0) < x8 then
  (some σ13)
  else
  (z_cki x8 20 <|
  z_let (z_u σ13 10 x8.toNatClampNeg (p1)) fun σ17 =>
  some σ17))
  else
  (z_cki (x12 - (1 : Int32)) 20 <|
  z_cki x12 20 <|
  z_let (z_u σ13 10 x12.toNatClampNeg (σ13 10 (x12 - (1 : Int32)).toNatClampNeg)) fun σ20 =>
  z_let (x12 + (-1 : Int32)) fun x21 =>
  k11 x21 σ20)
def lb_X4_putInOrder_36 (p1 : Int32) (σ : z_S) (x2 : Int32) (k7 : Int32 → Option z_S) (x8 : Int32) : Option z_S :=
  z_let (fun (_ : Unit) => z_let (σ 2 0) fun x10 =>
  z_lp2 (lb_X4_putInOrder_76 p1 x8) z_Fu x10 σ) fun j9 =>
  if (σ 2 0) ≤ x8 then
  (j9 ())
  else
  (z_cki x8 20 <|
  z_cki (σ 10 x8.toNatClampNeg) 20 <|
  z_cki x2 20 <|
  if (σ 7 (σ 10 x8.toNatClampNeg).toNatClampNeg) ≤ (σ 7 x2.toNatClampNeg) then
  (j9 ())
  else
  (z_let (x8 + (1 : Int32)) fun x27 =>
  k7 x27))
def lb_X4_putInOrder_9 (p1 : Int32) (σ : z_S) (x2 : Int32) (k3 : Int32 → Option z_S) (x4 : Int32) : Option z_S :=
  z_let (fun (_ : Unit) => z_let (x4 + (1 : Int32)) fun x6 =>
  z_lp1 (lb_X4_putInOrder_36 p1 σ x2) z_Fu x6) fun j5 =>
  if (σ 2 0) ≤ x4 then
  (j5 ())
  else
  (z_cki x4 20 <|
  if (σ 10 x4.toNatClampNeg) = x2 then
  (j5 ())
  else
  (z_let (x4 + (1 : Int32)) fun x31 =>
  k3 x31))
def f_X4_putInOrder (p1 : Int32) (σ : z_S) : Option z_S :=
  z_cki p1 20 <|
  z_let (σ 3 p1.toNatClampNeg) fun x2 =>
  z_lp1 (lb_X4_putInOrder_9 p1 σ x2) z_Fu (0 : Int32)
set_option maxRecDepth 100000 in
set_option maxHeartbeats 4000000 in
theorem c_X4_putInOrder (p1 : Int32) (σ σz : z_S) (h : f_X4_putInOrder p1 σ = some σz) : zMet yX4_putInOrder cX4_putInOrder 5 none 0 0 layT 38 (fun ad => [.ref (ad 2), .int p1]) σ (z_QV layT 38 σz) := by
  refine z_headV RX4 (by decide) rfl (fun _ => Nat.le_of_ble_eq_true rfl) (fun E G A ad hB hret => ?_)
  show ZW E G A 5 layT 38 ad 0 [(0, .ref (ad 2)), (1, .int p1)] [] σ
  unfold f_X4_putInOrder at h
  refine z_aload_n hB 0 dX4_putInOrder_0 rfl rfl ?_
  refine z_getr hB 2 1 3 kT_2 (Nat.le_of_ble_eq_true rfl) vc_4 inlX4 (Nat.le_of_ble_eq_true rfl) rfl (Nat.le_of_ble_eq_true rfl) fl_X4_15 dX4_putInOrder_1 ?_
  refine z_iload_n hB 1 dX4_putInOrder_4 rfl rfl ?_
  obtain ⟨h1, h⟩ := z_ckiE h
  refine z_iald hB 3 20 kT_3 (Nat.le_of_ble_eq_true rfl) dX4_putInOrder_5 h1 ?_
  obtain ⟨x2, ex2, h⟩ := z_letE h
  refine z_istore_n hB [(2, .int x2), (0, .ref (ad 2)), (1, .int p1)] dX4_putInOrder_6 rfl (Nat.le_of_ble_eq_true rfl) ex2 rfl ?_
  refine z_iconst hB dX4_putInOrder_7 zcI_0 ?_
  refine z_istore_n hB [(3, .int ((0 : Int32))), (2, .int x2), (0, .ref (ad 2)), (1, .int p1)] dX4_putInOrder_8 rfl (Nat.le_of_ble_eq_true rfl) rfl rfl ?_
  refine z_lv [2, 3, 1, 0] rfl ?_
  refine z_lpr1 (g := fun x4 => ZW E G A 5 layT 38 ad 9 [(0, .ref (ad 2)), (1, .int p1), (2, .int x2), (3, .int x4)] [] σ) (fun k3 x4 hk_k3 h => ?_) _ _ h
  show ZW E G A 5 layT 38 ad 9 [(0, .ref (ad 2)), (1, .int p1), (2, .int x2), (3, .int x4)] [] σ
  unfold lb_X4_putInOrder_9 at h
  refine z_iload_n hB 3 dX4_putInOrder_9 rfl rfl ?_
  refine z_aload_n hB 0 dX4_putInOrder_10 rfl rfl ?_
  refine z_get hB 2 0 kT_2 (Nat.le_of_ble_eq_true rfl) vc_4 inlX4 (Nat.le_of_ble_eq_true rfl) rfl fl_X4_9 dX4_putInOrder_11 ?_
  obtain ⟨j5, ej5, h⟩ := z_letE h
  have hj5 : ∀ (_ : Unit), j5 () = some σz → ZW E G A 5 layT 38 ad 33 [(0, .ref (ad 2)), (1, .int p1), (2, .int x2), (3, .int x4)] [] σ := by
    intro _ h
    rw [ej5] at h
    obtain ⟨x6, ex6, h⟩ := z_letE h
    refine z_iinc hB 3 [(3, .int x6), (0, .ref (ad 2)), (1, .int p1), (2, .int x2)] dX4_putInOrder_33 rfl (by rw [zcI_1]; exact ex6) (Nat.le_of_ble_eq_true rfl) rfl ?_
    refine z_lv [1, 2, 3, 0] rfl ?_
    refine z_lpr1 (g := fun x8 => ZW E G A 5 layT 38 ad 36 [(0, .ref (ad 2)), (1, .int p1), (2, .int x2), (3, .int x8)] [] σ) (fun k7 x8 hk_k7 h => ?_) _ _ h
    show ZW E G A 5 layT 38 ad 36 [(0, .ref (ad 2)), (1, .int p1), (2, .int x2), (3, .int x8)] [] σ
    unfold lb_X4_putInOrder_36 at h
    refine z_iload_n hB 3 dX4_putInOrder_36 rfl rfl ?_
    refine z_aload_n hB 0 dX4_putInOrder_37 rfl rfl ?_
    refine z_get hB 2 0 kT_2 (Nat.le_of_ble_eq_true rfl) vc_4 inlX4 (Nat.le_of_ble_eq_true rfl) rfl fl_X4_9 dX4_putInOrder_38 ?_
    obtain ⟨j9, ej9, h⟩ := z_letE h
    have hj9 : ∀ (_ : Unit), j9 () = some σz → ZW E G A 5 layT 38 ad 70 [(0, .ref (ad 2)), (1, .int p1), (3, .int x8)] [] σ := by
      intro _ h
      rw [ej9] at h
      refine z_aload_n hB 0 dX4_putInOrder_70 rfl rfl ?_
      refine z_get hB 2 0 kT_2 (Nat.le_of_ble_eq_true rfl) vc_4 inlX4 (Nat.le_of_ble_eq_true rfl) rfl fl_X4_9 dX4_putInOrder_71 ?_
      obtain ⟨x10, ex10, h⟩ := z_letE h
      refine z_istore hB [(4, .int x10), (0, .ref (ad 2)), (1, .int p1), (3, .int x8)] dX4_putInOrder_74 (Nat.le_of_ble_eq_true rfl) ex10 rfl ?_
      refine z_lv [1, 2, 3, 0] rfl ?_
      refine z_lpr2 (g := fun x12 σ13 => ZW E G A 5 layT 38 ad 76 [(0, .ref (ad 2)), (1, .int p1), (3, .int x8), (4, .int x12)] [] σ13) (fun k11 x12 σ13 hk_k11 h => ?_) _ _ _ h
      show ZW E G A 5 layT 38 ad 76 [(0, .ref (ad 2)), (1, .int p1), (3, .int x8), (4, .int x12)] [] σ13
      unfold lb_X4_putInOrder_76 at h
      refine z_iload hB 3 dX4_putInOrder_76 rfl ?_
      refine z_iload_n hB 2 dX4_putInOrder_78 rfl rfl ?_
      refine z_icmp_le hB (tgt := 104) dX4_putInOrder_79 (by decide) (fun c14 => ?_) (fun c14 => ?_)
      · have h := z_ifT c14 h
        refine z_iload_n hB 2 dX4_putInOrder_104 rfl rfl ?_
        refine z_aload_n hB 0 dX4_putInOrder_105 rfl rfl ?_
        refine z_get hB 2 0 kT_2 (Nat.le_of_ble_eq_true rfl) vc_4 inlX4 (Nat.le_of_ble_eq_true rfl) rfl fl_X4_9 dX4_putInOrder_106 ?_
        refine z_icmp_gt hB (tgt := 119) dX4_putInOrder_109 (by decide) (fun c15 => ?_) (fun c15 => ?_)
        · have h := z_ifT c15 h
          exact hret _ _ _ (Option.some.inj h) dX4_putInOrder_119
        · have h := z_ifF c15 h
          refine z_aload_n hB 0 dX4_putInOrder_112 rfl rfl ?_
          refine z_getr hB 2 8 10 kT_2 (Nat.le_of_ble_eq_true rfl) vc_4 inlX4 (Nat.le_of_ble_eq_true rfl) rfl (Nat.le_of_ble_eq_true rfl) fl_X4_37 dX4_putInOrder_113 ?_
          refine z_iload_n hB 2 dX4_putInOrder_116 rfl rfl ?_
          refine z_iload_n hB 1 dX4_putInOrder_117 rfl rfl ?_
          obtain ⟨h16, h⟩ := z_ckiE h
          obtain ⟨σ17, eσ17, h⟩ := z_letE h
          refine z_iast hB 10 20 kT_10 (Nat.le_of_ble_eq_true rfl) dX4_putInOrder_118 h16 ?_
          refine z_to eσ17 ?_
          exact hret _ _ _ (Option.some.inj h) dX4_putInOrder_119
      · have h := z_ifF c14 h
        refine z_aload_n hB 0 dX4_putInOrder_82 rfl rfl ?_
        refine z_getr hB 2 8 10 kT_2 (Nat.le_of_ble_eq_true rfl) vc_4 inlX4 (Nat.le_of_ble_eq_true rfl) rfl (Nat.le_of_ble_eq_true rfl) fl_X4_37 dX4_putInOrder_83 ?_
        refine z_iload hB 3 dX4_putInOrder_86 rfl ?_
        refine z_aload_n hB 0 dX4_putInOrder_88 rfl rfl ?_
        refine z_getr hB 2 8 10 kT_2 (Nat.le_of_ble_eq_true rfl) vc_4 inlX4 (Nat.le_of_ble_eq_true rfl) rfl (Nat.le_of_ble_eq_true rfl) fl_X4_37 dX4_putInOrder_89 ?_
        refine z_iload hB 3 dX4_putInOrder_92 rfl ?_
        refine z_iconst hB dX4_putInOrder_94 zcI_1 ?_
        refine z_isub hB dX4_putInOrder_95 ?_
        obtain ⟨h18, h⟩ := z_ckiE h
        refine z_iald hB 10 20 kT_10 (Nat.le_of_ble_eq_true rfl) dX4_putInOrder_96 h18 ?_
        obtain ⟨h19, h⟩ := z_ckiE h
        obtain ⟨σ20, eσ20, h⟩ := z_letE h
        refine z_iast hB 10 20 kT_10 (Nat.le_of_ble_eq_true rfl) dX4_putInOrder_97 h19 ?_
        refine z_to eσ20 ?_
        obtain ⟨x21, ex21, h⟩ := z_letE h
        refine z_iinc hB 3 [(4, .int x21), (0, .ref (ad 2)), (1, .int p1), (3, .int x8)] dX4_putInOrder_98 rfl (by rw [zcI_m1]; exact ex21) (Nat.le_of_ble_eq_true rfl) rfl ?_
        refine z_goto hB (tgt := 76) dX4_putInOrder_101 (by decide) ?_
        refine z_lv [1, 2, 3, 0] rfl ?_
        exact hk_k11 _ _ h
    refine z_icmp_ge hB (tgt := 70) dX4_putInOrder_41 (by decide) (fun c22 => ?_) (fun c22 => ?_)
    · have h := z_ifT c22 h
      refine z_lv [0, 1, 3] rfl ?_
      exact hj9 () h
    · have h := z_ifF c22 h
      refine z_aload_n hB 0 dX4_putInOrder_44 rfl rfl ?_
      refine z_getr hB 2 5 7 kT_2 (Nat.le_of_ble_eq_true rfl) vc_4 inlX4 (Nat.le_of_ble_eq_true rfl) rfl (Nat.le_of_ble_eq_true rfl) fl_X4_28 dX4_putInOrder_45 ?_
      refine z_aload_n hB 0 dX4_putInOrder_48 rfl rfl ?_
      refine z_getr hB 2 8 10 kT_2 (Nat.le_of_ble_eq_true rfl) vc_4 inlX4 (Nat.le_of_ble_eq_true rfl) rfl (Nat.le_of_ble_eq_true rfl) fl_X4_37 dX4_putInOrder_49 ?_
      refine z_iload_n hB 3 dX4_putInOrder_52 rfl rfl ?_
      obtain ⟨h23, h⟩ := z_ckiE h
      refine z_iald hB 10 20 kT_10 (Nat.le_of_ble_eq_true rfl) dX4_putInOrder_53 h23 ?_
      obtain ⟨h24, h⟩ := z_ckiE h
      refine z_iald hB 7 20 kT_7 (Nat.le_of_ble_eq_true rfl) dX4_putInOrder_54 h24 ?_
      refine z_aload_n hB 0 dX4_putInOrder_55 rfl rfl ?_
      refine z_getr hB 2 5 7 kT_2 (Nat.le_of_ble_eq_true rfl) vc_4 inlX4 (Nat.le_of_ble_eq_true rfl) rfl (Nat.le_of_ble_eq_true rfl) fl_X4_28 dX4_putInOrder_56 ?_
      refine z_iload_n hB 2 dX4_putInOrder_59 rfl rfl ?_
      obtain ⟨h25, h⟩ := z_ckiE h
      refine z_iald hB 7 20 kT_7 (Nat.le_of_ble_eq_true rfl) dX4_putInOrder_60 h25 ?_
      refine z_icmp_le hB (tgt := 70) dX4_putInOrder_61 (by decide) (fun c26 => ?_) (fun c26 => ?_)
      · have h := z_ifT c26 h
        refine z_lv [0, 1, 3] rfl ?_
        exact hj9 () h
      · have h := z_ifF c26 h
        obtain ⟨x27, ex27, h⟩ := z_letE h
        refine z_iinc hB 3 [(3, .int x27), (0, .ref (ad 2)), (1, .int p1), (2, .int x2)] dX4_putInOrder_64 rfl (by rw [zcI_1]; exact ex27) (Nat.le_of_ble_eq_true rfl) rfl ?_
        refine z_goto hB (tgt := 36) dX4_putInOrder_67 (by decide) ?_
        refine z_lv [1, 2, 3, 0] rfl ?_
        exact hk_k7 _ h
  refine z_icmp_ge hB (tgt := 33) dX4_putInOrder_14 (by decide) (fun c28 => ?_) (fun c28 => ?_)
  · have h := z_ifT c28 h
    exact hj5 () h
  · have h := z_ifF c28 h
    refine z_aload_n hB 0 dX4_putInOrder_17 rfl rfl ?_
    refine z_getr hB 2 8 10 kT_2 (Nat.le_of_ble_eq_true rfl) vc_4 inlX4 (Nat.le_of_ble_eq_true rfl) rfl (Nat.le_of_ble_eq_true rfl) fl_X4_37 dX4_putInOrder_18 ?_
    refine z_iload_n hB 3 dX4_putInOrder_21 rfl rfl ?_
    obtain ⟨h29, h⟩ := z_ckiE h
    refine z_iald hB 10 20 kT_10 (Nat.le_of_ble_eq_true rfl) dX4_putInOrder_22 h29 ?_
    refine z_iload_n hB 2 dX4_putInOrder_23 rfl rfl ?_
    refine z_icmp_eq hB (tgt := 33) dX4_putInOrder_24 (by decide) (fun c30 => ?_) (fun c30 => ?_)
    · have h := z_ifT c30 h
      exact hj5 () h
    · have h := z_ifF c30 h
      obtain ⟨x31, ex31, h⟩ := z_letE h
      refine z_iinc hB 3 [(3, .int x31), (0, .ref (ad 2)), (1, .int p1), (2, .int x2)] dX4_putInOrder_27 rfl (by rw [zcI_1]; exact ex31) (Nat.le_of_ble_eq_true rfl) rfl ?_
      refine z_goto hB (tgt := 9) dX4_putInOrder_30 (by decide) ?_
      refine z_lv [1, 2, 3, 0] rfl ?_
      exact hk_k3 _ h
def f_X4_add (p1 : Int32) (p2 : Int32) (p3 : Int32) (p4 : Int32) (σ : z_S) : Option (Int32 × z_S) :=
  z_let (σ 2 0) fun x1 =>
  z_cki x1 20 <|
  z_let (z_u σ 3 x1.toNatClampNeg (p1)) fun σ3 =>
  z_cki x1 20 <|
  z_let (z_u σ3 4 x1.toNatClampNeg (p2)) fun σ5 =>
  z_cki x1 20 <|
  z_let (z_u σ5 5 x1.toNatClampNeg (p3)) fun σ7 =>
  z_cki x1 20 <|
  z_let (z_u σ7 6 x1.toNatClampNeg (p4)) fun σ9 =>
  z_cki p1 20 <|
  z_cki x1 20 <|
  z_let (z_u σ9 7 x1.toNatClampNeg ((σ9 7 p1.toNatClampNeg) + (1 : Int32))) fun σ12 =>
  z_cki p1 20 <|
  z_cki x1 20 <|
  z_let (z_u σ12 8 x1.toNatClampNeg ((σ12 8 p1.toNatClampNeg) + p2)) fun σ15 =>
  z_let (fun (y16 : Int32) => z_cki x1 20 <|
  z_let (z_u σ15 9 x1.toNatClampNeg (y16)) fun σ19 =>
  z_b1 (f_X4_putInOrder x1 σ19) fun σ21 =>
  z_let (z_u σ21 2 0 ((σ21 2 0) + (1 : Int32))) fun σ22 =>
  some (x1, σ22)) fun j17 =>
  if p4 = (1 : Int32) then
  (j17 (0 : Int32))
  else
  (z_cki p1 20 <|
  j17 (σ15 9 p1.toNatClampNeg))
set_option maxRecDepth 100000 in
set_option maxHeartbeats 4000000 in
theorem c_X4_add (p1 : Int32) (p2 : Int32) (p3 : Int32) (p4 : Int32) (σ : z_S) (r : Int32) (σz : z_S) (h : f_X4_add p1 p2 p3 p4 σ = some (r, σz)) : zMet yX4_add cX4_add 6 (some .int) 1 24 layT 38 (fun ad => [.ref (ad 2), .int p1, .int p2, .int p3, .int p4]) σ (z_QI layT 38 r σz) := by
  refine z_headI RX4 (by decide) rfl (fun _ => Nat.le_of_ble_eq_true rfl) (fun E G A ad hB hret => ?_)
  show ZW E G A 6 layT 38 ad 0 [(0, .ref (ad 2)), (1, .int p1), (2, .int p2), (3, .int p3), (4, .int p4)] [] σ
  unfold f_X4_add at h
  refine z_aload_n hB 0 dX4_add_0 rfl rfl ?_
  refine z_get hB 2 0 kT_2 (Nat.le_of_ble_eq_true rfl) vc_4 inlX4 (Nat.le_of_ble_eq_true rfl) rfl fl_X4_9 dX4_add_1 ?_
  obtain ⟨x1, ex1, h⟩ := z_letE h
  refine z_istore hB [(5, .int x1), (0, .ref (ad 2)), (1, .int p1), (2, .int p2), (3, .int p3), (4, .int p4)] dX4_add_4 (Nat.le_of_ble_eq_true rfl) ex1 rfl ?_
  refine z_aload_n hB 1 dX4_add_6 rfl rfl ?_
  refine z_getr hB 2 1 3 kT_2 (Nat.le_of_ble_eq_true rfl) vc_4 inlX4 (Nat.le_of_ble_eq_true rfl) rfl (Nat.le_of_ble_eq_true rfl) fl_X4_15 dX4_add_7 ?_
  refine z_iload hB 0 dX4_add_10 rfl ?_
  refine z_iload_n hB 2 dX4_add_12 rfl rfl ?_
  obtain ⟨h2, h⟩ := z_ckiE h
  obtain ⟨σ3, eσ3, h⟩ := z_letE h
  refine z_iast hB 3 20 kT_3 (Nat.le_of_ble_eq_true rfl) dX4_add_13 h2 ?_
  refine z_to eσ3 ?_
  refine z_aload_n hB 1 dX4_add_14 rfl rfl ?_
  refine z_getr hB 2 2 4 kT_2 (Nat.le_of_ble_eq_true rfl) vc_4 inlX4 (Nat.le_of_ble_eq_true rfl) rfl (Nat.le_of_ble_eq_true rfl) fl_X4_19 dX4_add_15 ?_
  refine z_iload hB 0 dX4_add_18 rfl ?_
  refine z_iload_n hB 3 dX4_add_20 rfl rfl ?_
  obtain ⟨h4, h⟩ := z_ckiE h
  obtain ⟨σ5, eσ5, h⟩ := z_letE h
  refine z_iast hB 4 20 kT_4 (Nat.le_of_ble_eq_true rfl) dX4_add_21 h4 ?_
  refine z_to eσ5 ?_
  refine z_aload_n hB 1 dX4_add_22 rfl rfl ?_
  refine z_getr hB 2 3 5 kT_2 (Nat.le_of_ble_eq_true rfl) vc_4 inlX4 (Nat.le_of_ble_eq_true rfl) rfl (Nat.le_of_ble_eq_true rfl) fl_X4_22 dX4_add_23 ?_
  refine z_iload hB 0 dX4_add_26 rfl ?_
  refine z_iload_n hB 4 dX4_add_28 rfl rfl ?_
  obtain ⟨h6, h⟩ := z_ckiE h
  obtain ⟨σ7, eσ7, h⟩ := z_letE h
  refine z_iast hB 5 20 kT_5 (Nat.le_of_ble_eq_true rfl) dX4_add_29 h6 ?_
  refine z_to eσ7 ?_
  refine z_aload_n hB 1 dX4_add_30 rfl rfl ?_
  refine z_getr hB 2 4 6 kT_2 (Nat.le_of_ble_eq_true rfl) vc_4 inlX4 (Nat.le_of_ble_eq_true rfl) rfl (Nat.le_of_ble_eq_true rfl) fl_X4_25 dX4_add_31 ?_
  refine z_iload hB 0 dX4_add_34 rfl ?_
  refine z_iload hB 5 dX4_add_36 rfl ?_
  obtain ⟨h8, h⟩ := z_ckiE h
  obtain ⟨σ9, eσ9, h⟩ := z_letE h
  refine z_iast hB 6 20 kT_6 (Nat.le_of_ble_eq_true rfl) dX4_add_38 h8 ?_
  refine z_to eσ9 ?_
  refine z_aload_n hB 1 dX4_add_39 rfl rfl ?_
  refine z_getr hB 2 5 7 kT_2 (Nat.le_of_ble_eq_true rfl) vc_4 inlX4 (Nat.le_of_ble_eq_true rfl) rfl (Nat.le_of_ble_eq_true rfl) fl_X4_28 dX4_add_40 ?_
  refine z_iload hB 0 dX4_add_43 rfl ?_
  refine z_aload_n hB 1 dX4_add_45 rfl rfl ?_
  refine z_getr hB 2 5 7 kT_2 (Nat.le_of_ble_eq_true rfl) vc_4 inlX4 (Nat.le_of_ble_eq_true rfl) rfl (Nat.le_of_ble_eq_true rfl) fl_X4_28 dX4_add_46 ?_
  refine z_iload_n hB 2 dX4_add_49 rfl rfl ?_
  obtain ⟨h10, h⟩ := z_ckiE h
  refine z_iald hB 7 20 kT_7 (Nat.le_of_ble_eq_true rfl) dX4_add_50 h10 ?_
  refine z_iconst hB dX4_add_51 zcI_1 ?_
  refine z_iadd hB dX4_add_52 ?_
  obtain ⟨h11, h⟩ := z_ckiE h
  obtain ⟨σ12, eσ12, h⟩ := z_letE h
  refine z_iast hB 7 20 kT_7 (Nat.le_of_ble_eq_true rfl) dX4_add_53 h11 ?_
  refine z_to eσ12 ?_
  refine z_aload_n hB 1 dX4_add_54 rfl rfl ?_
  refine z_getr hB 2 6 8 kT_2 (Nat.le_of_ble_eq_true rfl) vc_4 inlX4 (Nat.le_of_ble_eq_true rfl) rfl (Nat.le_of_ble_eq_true rfl) fl_X4_31 dX4_add_55 ?_
  refine z_iload hB 0 dX4_add_58 rfl ?_
  refine z_aload_n hB 1 dX4_add_60 rfl rfl ?_
  refine z_getr hB 2 6 8 kT_2 (Nat.le_of_ble_eq_true rfl) vc_4 inlX4 (Nat.le_of_ble_eq_true rfl) rfl (Nat.le_of_ble_eq_true rfl) fl_X4_31 dX4_add_61 ?_
  refine z_iload_n hB 2 dX4_add_64 rfl rfl ?_
  obtain ⟨h13, h⟩ := z_ckiE h
  refine z_iald hB 8 20 kT_8 (Nat.le_of_ble_eq_true rfl) dX4_add_65 h13 ?_
  refine z_iload_n hB 3 dX4_add_66 rfl rfl ?_
  refine z_iadd hB dX4_add_67 ?_
  obtain ⟨h14, h⟩ := z_ckiE h
  obtain ⟨σ15, eσ15, h⟩ := z_letE h
  refine z_iast hB 8 20 kT_8 (Nat.le_of_ble_eq_true rfl) dX4_add_68 h14 ?_
  refine z_to eσ15 ?_
  refine z_aload_n hB 1 dX4_add_69 rfl rfl ?_
  refine z_getr hB 2 7 9 kT_2 (Nat.le_of_ble_eq_true rfl) vc_4 inlX4 (Nat.le_of_ble_eq_true rfl) rfl (Nat.le_of_ble_eq_true rfl) fl_X4_34 dX4_add_70 ?_
  refine z_iload hB 0 dX4_add_73 rfl ?_
  refine z_iload hB 5 dX4_add_75 rfl ?_
  refine z_iconst hB dX4_add_77 zcI_1 ?_
  obtain ⟨j17, ej17, h⟩ := z_letE h
  have hj17 : ∀ (y16 : Int32), j17 y16 = some (r, σz) → ZW E G A 6 layT 38 ad 91 [(0, .ref (ad 2)), (5, .int x1)] [.int y16, .int x1, .ref (ad 9)] σ15 := by
    intro y16 h
    rw [ej17] at h
    obtain ⟨h18, h⟩ := z_ckiE h
    obtain ⟨σ19, eσ19, h⟩ := z_letE h
    refine z_iast hB 9 20 kT_9 (Nat.le_of_ble_eq_true rfl) dX4_add_91 h18 ?_
    refine z_to eσ19 ?_
    refine z_aload_n hB 0 dX4_add_92 rfl rfl ?_
    refine z_iload hB 1 dX4_add_93 rfl ?_
    obtain ⟨σ21, h20, h⟩ := z_b1E h
    refine z_cV hB (z_rV (ι := fun k => k) hB yY_X4_putInOrder (c_X4_putInOrder _ _ _ h20) rfl cut_T z_hid kT_2 (Nat.le_of_ble_eq_true rfl) vc_4 rfl rfl rfl (Nat.le_of_ble_eq_true rfl) ml_X4_48 ⟨Nat.le_of_ble_eq_true rfl, Nat.le_of_ble_eq_true rfl⟩ dX4_add_95) cut_T z_hid ?_
    refine z_toA z_mid ?_
    refine z_aload_n hB 0 dX4_add_98 rfl rfl ?_
    refine z_dup hB dX4_add_99 rfl ?_
    refine z_get hB 2 0 kT_2 (Nat.le_of_ble_eq_true rfl) vc_4 inlX4 (Nat.le_of_ble_eq_true rfl) rfl fl_X4_9 dX4_add_100 ?_
    refine z_iconst hB dX4_add_103 zcI_1 ?_
    refine z_iadd hB dX4_add_104 ?_
    obtain ⟨σ22, eσ22, h⟩ := z_letE h
    refine z_put hB 2 0 kT_2 (Nat.le_of_ble_eq_true rfl) vc_4 inlX4 tyX4 tyX4_ok nmX4 (Nat.le_of_ble_eq_true rfl) rfl rfl (tyX4_ok 0 (Nat.le_of_ble_eq_true rfl)) fl_X4_9 dX4_add_105 ?_
    refine z_to eσ22 ?_
    refine z_iload hB 1 dX4_add_108 rfl ?_
    obtain ⟨h1, h2⟩ := z_prE h
    exact hret _ _ _ _ h1 h2 rfl dX4_add_110
  refine z_icmp_ne hB (tgt := 85) dX4_add_78 (by decide) (fun c23 => ?_) (fun c23 => ?_)
  · have h := z_ifF c23 h
    refine z_aload_n hB 1 dX4_add_85 rfl rfl ?_
    refine z_getr hB 2 7 9 kT_2 (Nat.le_of_ble_eq_true rfl) vc_4 inlX4 (Nat.le_of_ble_eq_true rfl) rfl (Nat.le_of_ble_eq_true rfl) fl_X4_34 dX4_add_86 ?_
    refine z_iload_n hB 2 dX4_add_89 rfl rfl ?_
    obtain ⟨h24, h⟩ := z_ckiE h
    refine z_iald hB 9 20 kT_9 (Nat.le_of_ble_eq_true rfl) dX4_add_90 h24 ?_
    refine z_lv [1, 0] rfl ?_
    exact hj17 _ h
  · have h := z_ifT c23 h
    refine z_iconst hB dX4_add_81 zcI_0 ?_
    refine z_goto hB (tgt := 91) dX4_add_82 (by decide) ?_
    refine z_lv [1, 0] rfl ?_
    exact hj17 _ h
def lb_X4_isAtOrBeyond_5 (p2 : Int32) (σ : z_S) (k1 : Int32 → Int32 → Option Int32) (x2 : Int32) (x3 : Int32) : Option Int32 :=
  z_let (fun (_ : Unit) => if x2 = p2 then
  (some ((1 : Int32)))
  else
  (some ((0 : Int32)))) fun j4 =>
  if (20 : Int32) ≤ x3 then
  (j4 ())
  else
  (if x2 ≤ p2 then
  (j4 ())
  else
  (z_cki x2 20 <|
  z_let (σ 3 x2.toNatClampNeg) fun x9 =>
  z_let (x3 + (1 : Int32)) fun x10 =>
  k1 x9 x10))
def f_X4_isAtOrBeyond (p1 : Int32) (p2 : Int32) (σ : z_S) : Option Int32 :=
  z_lp2 (lb_X4_isAtOrBeyond_5 p2 σ) z_Fu p1 (0 : Int32)
set_option maxRecDepth 100000 in
set_option maxHeartbeats 4000000 in
theorem c_X4_isAtOrBeyond (p1 : Int32) (p2 : Int32) (σ : z_S) (r : Int32) (h : f_X4_isAtOrBeyond p1 p2 σ = some r) : zMet yX4_isAtOrBeyond cX4_isAtOrBeyond 5 (some .boolean) 0 0 layT 38 (fun ad => [.ref (ad 2), .int p1, .int p2]) σ (z_QI layT 38 r σ) := by
  refine z_headI RX4 (by decide) rfl (fun _ => Nat.le_of_ble_eq_true rfl) (fun E G A ad hB hret => ?_)
  show ZW E G A 5 layT 38 ad 0 [(0, .ref (ad 2)), (1, .int p1), (2, .int p2)] [] σ
  unfold f_X4_isAtOrBeyond at h
  refine z_iload_n hB 1 dX4_isAtOrBeyond_0 rfl rfl ?_
  refine z_istore_n hB [(3, .int p1), (0, .ref (ad 2)), (1, .int p1), (2, .int p2)] dX4_isAtOrBeyond_1 rfl (Nat.le_of_ble_eq_true rfl) rfl rfl ?_
  refine z_iconst hB dX4_isAtOrBeyond_2 zcI_0 ?_
  refine z_istore hB [(4, .int ((0 : Int32))), (3, .int p1), (0, .ref (ad 2)), (1, .int p1), (2, .int p2)] dX4_isAtOrBeyond_3 (Nat.le_of_ble_eq_true rfl) rfl rfl ?_
  refine z_lv [2, 4, 1, 0] rfl ?_
  refine z_lpr2 (g := fun x2 x3 => ZW E G A 5 layT 38 ad 5 [(0, .ref (ad 2)), (2, .int p2), (3, .int x2), (4, .int x3)] [] σ) (fun k1 x2 x3 hk_k1 h => ?_) _ _ _ h
  show ZW E G A 5 layT 38 ad 5 [(0, .ref (ad 2)), (2, .int p2), (3, .int x2), (4, .int x3)] [] σ
  unfold lb_X4_isAtOrBeyond_5 at h
  refine z_iload hB 3 dX4_isAtOrBeyond_5 rfl ?_
  refine z_bipush hB dX4_isAtOrBeyond_7 zcB_20 ?_
  obtain ⟨j4, ej4, h⟩ := z_letE h
  have hj4 : ∀ (_ : Unit), j4 () = some r → ZW E G A 5 layT 38 ad 30 [(2, .int p2), (3, .int x2)] [] σ := by
    intro _ h
    rw [ej4] at h
    refine z_iload_n hB 1 dX4_isAtOrBeyond_30 rfl rfl ?_
    refine z_iload_n hB 0 dX4_isAtOrBeyond_31 rfl rfl ?_
    refine z_icmp_ne hB (tgt := 39) dX4_isAtOrBeyond_32 (by decide) (fun c5 => ?_) (fun c5 => ?_)
    · have h := z_ifF c5 h
      refine z_iconst hB dX4_isAtOrBeyond_39 zcI_0 ?_
      exact hret _ _ _ _ (Option.some.inj h) rfl rfl dX4_isAtOrBeyond_40
    · have h := z_ifT c5 h
      refine z_iconst hB dX4_isAtOrBeyond_35 zcI_1 ?_
      refine z_goto hB (tgt := 40) dX4_isAtOrBeyond_36 (by decide) ?_
      exact hret _ _ _ _ (Option.some.inj h) rfl rfl dX4_isAtOrBeyond_40
  refine z_icmp_ge hB (tgt := 30) dX4_isAtOrBeyond_9 (by decide) (fun c6 => ?_) (fun c6 => ?_)
  · have h := z_ifT c6 h
    refine z_lv [1, 2] rfl ?_
    exact hj4 () h
  · have h := z_ifF c6 h
    refine z_iload_n hB 2 dX4_isAtOrBeyond_12 rfl rfl ?_
    refine z_iload_n hB 1 dX4_isAtOrBeyond_13 rfl rfl ?_
    refine z_icmp_le hB (tgt := 30) dX4_isAtOrBeyond_14 (by decide) (fun c7 => ?_) (fun c7 => ?_)
    · have h := z_ifT c7 h
      refine z_lv [1, 2] rfl ?_
      exact hj4 () h
    · have h := z_ifF c7 h
      refine z_aload_n hB 0 dX4_isAtOrBeyond_17 rfl rfl ?_
      refine z_getr hB 2 1 3 kT_2 (Nat.le_of_ble_eq_true rfl) vc_4 inlX4 (Nat.le_of_ble_eq_true rfl) rfl (Nat.le_of_ble_eq_true rfl) fl_X4_15 dX4_isAtOrBeyond_18 ?_
      refine z_iload_n hB 2 dX4_isAtOrBeyond_21 rfl rfl ?_
      obtain ⟨h8, h⟩ := z_ckiE h
      refine z_iald hB 3 20 kT_3 (Nat.le_of_ble_eq_true rfl) dX4_isAtOrBeyond_22 h8 ?_
      obtain ⟨x9, ex9, h⟩ := z_letE h
      refine z_istore_n hB [(3, .int x9), (0, .ref (ad 2)), (2, .int p2), (4, .int x3)] dX4_isAtOrBeyond_23 rfl (Nat.le_of_ble_eq_true rfl) ex9 rfl ?_
      obtain ⟨x10, ex10, h⟩ := z_letE h
      refine z_iinc hB 3 [(4, .int x10), (3, .int x9), (0, .ref (ad 2)), (2, .int p2)] dX4_isAtOrBeyond_24 rfl (by rw [zcI_1]; exact ex10) (Nat.le_of_ble_eq_true rfl) rfl ?_
      refine z_goto hB (tgt := 5) dX4_isAtOrBeyond_27 (by decide) ?_
      refine z_lv [2, 3, 1, 0] rfl ?_
      exact hk_k1 _ _ h
def f_X4_effortOfStreet (p1 : Int32) (p2 : Int32) (p3 : Int32) (σ : z_S) : Option Int32 :=
  z_let (fun (y1 : Int32) => z_cki p1 20 <|
  z_cki p1 20 <|
  z_cki (σ 3 p1.toNatClampNeg) 20 <|
  z_let ((σ 5 p1.toNatClampNeg) - (σ 5 (σ 3 p1.toNatClampNeg).toNatClampNeg)) fun x6 =>
  z_let (fun (y7 : Int32) => z_cki p1 20 <|
  some (((2 : Int32) * (σ 4 p1.toNatClampNeg)) + y7)) fun j8 =>
  if x6 ≤ (0 : Int32) then
  (j8 (-(x6)))
  else
  (z_ck (¬ y1 = 0) <|
  j8 ((x6 * (y1 + p2)) / y1))) fun j2 =>
  if p3 = (1 : Int32) then
  (j2 (20 : Int32))
  else
  (j2 (10 : Int32))
set_option maxRecDepth 100000 in
set_option maxHeartbeats 4000000 in
theorem c_X4_effortOfStreet (p1 : Int32) (p2 : Int32) (p3 : Int32) (σ : z_S) (r : Int32) (h : f_X4_effortOfStreet p1 p2 p3 σ = some r) : zMet yX4_effortOfStreet cX4_effortOfStreet 7 (some .int) 0 0 layT 38 (fun ad => [.ref (ad 2), .int p1, .int p2, .int p3]) σ (z_QI layT 38 r σ) := by
  refine z_headI RX4 (by decide) rfl (fun _ => Nat.le_of_ble_eq_true rfl) (fun E G A ad hB hret => ?_)
  show ZW E G A 7 layT 38 ad 0 [(0, .ref (ad 2)), (1, .int p1), (2, .int p2), (3, .int p3)] [] σ
  unfold f_X4_effortOfStreet at h
  refine z_iload_n hB 3 dX4_effortOfStreet_0 rfl rfl ?_
  refine z_iconst hB dX4_effortOfStreet_1 zcI_1 ?_
  obtain ⟨j2, ej2, h⟩ := z_letE h
  have hj2 : ∀ (y1 : Int32), j2 y1 = some r → ZW E G A 7 layT 38 ad 12 [(0, .ref (ad 2)), (1, .int p1), (2, .int p2)] [.int y1] σ := by
    intro y1 h
    rw [ej2] at h
    refine z_istore hB [(4, .int y1), (0, .ref (ad 2)), (1, .int p1), (2, .int p2)] dX4_effortOfStreet_12 (Nat.le_of_ble_eq_true rfl) rfl rfl ?_
    refine z_aload_n hB 1 dX4_effortOfStreet_14 rfl rfl ?_
    refine z_getr hB 2 3 5 kT_2 (Nat.le_of_ble_eq_true rfl) vc_4 inlX4 (Nat.le_of_ble_eq_true rfl) rfl (Nat.le_of_ble_eq_true rfl) fl_X4_22 dX4_effortOfStreet_15 ?_
    refine z_iload_n hB 2 dX4_effortOfStreet_18 rfl rfl ?_
    obtain ⟨h3, h⟩ := z_ckiE h
    refine z_iald hB 5 20 kT_5 (Nat.le_of_ble_eq_true rfl) dX4_effortOfStreet_19 h3 ?_
    refine z_aload_n hB 1 dX4_effortOfStreet_20 rfl rfl ?_
    refine z_getr hB 2 3 5 kT_2 (Nat.le_of_ble_eq_true rfl) vc_4 inlX4 (Nat.le_of_ble_eq_true rfl) rfl (Nat.le_of_ble_eq_true rfl) fl_X4_22 dX4_effortOfStreet_21 ?_
    refine z_aload_n hB 1 dX4_effortOfStreet_24 rfl rfl ?_
    refine z_getr hB 2 1 3 kT_2 (Nat.le_of_ble_eq_true rfl) vc_4 inlX4 (Nat.le_of_ble_eq_true rfl) rfl (Nat.le_of_ble_eq_true rfl) fl_X4_15 dX4_effortOfStreet_25 ?_
    refine z_iload_n hB 2 dX4_effortOfStreet_28 rfl rfl ?_
    obtain ⟨h4, h⟩ := z_ckiE h
    refine z_iald hB 3 20 kT_3 (Nat.le_of_ble_eq_true rfl) dX4_effortOfStreet_29 h4 ?_
    obtain ⟨h5, h⟩ := z_ckiE h
    refine z_iald hB 5 20 kT_5 (Nat.le_of_ble_eq_true rfl) dX4_effortOfStreet_30 h5 ?_
    refine z_isub hB dX4_effortOfStreet_31 ?_
    obtain ⟨x6, ex6, h⟩ := z_letE h
    refine z_istore hB [(5, .int x6), (4, .int y1), (0, .ref (ad 2)), (1, .int p1), (2, .int p2)] dX4_effortOfStreet_32 (Nat.le_of_ble_eq_true rfl) ex6 rfl ?_
    refine z_iload hB 0 dX4_effortOfStreet_34 rfl ?_
    obtain ⟨j8, ej8, h⟩ := z_letE h
    have hj8 : ∀ (y7 : Int32), j8 y7 = some r → ZW E G A 7 layT 38 ad 55 [(0, .ref (ad 2)), (1, .int p1)] [.int y7] σ := by
      intro y7 h
      rw [ej8] at h
      refine z_istore hB [(6, .int y7), (0, .ref (ad 2)), (1, .int p1)] dX4_effortOfStreet_55 (Nat.le_of_ble_eq_true rfl) rfl rfl ?_
      refine z_iconst hB dX4_effortOfStreet_57 zcI_2 ?_
      refine z_aload_n hB 1 dX4_effortOfStreet_58 rfl rfl ?_
      refine z_getr hB 2 2 4 kT_2 (Nat.le_of_ble_eq_true rfl) vc_4 inlX4 (Nat.le_of_ble_eq_true rfl) rfl (Nat.le_of_ble_eq_true rfl) fl_X4_19 dX4_effortOfStreet_59 ?_
      refine z_iload_n hB 2 dX4_effortOfStreet_62 rfl rfl ?_
      obtain ⟨h9, h⟩ := z_ckiE h
      refine z_iald hB 4 20 kT_4 (Nat.le_of_ble_eq_true rfl) dX4_effortOfStreet_63 h9 ?_
      refine z_imul hB dX4_effortOfStreet_64 ?_
      refine z_iload hB 0 dX4_effortOfStreet_65 rfl ?_
      refine z_iadd hB dX4_effortOfStreet_67 ?_
      exact hret _ _ _ _ (Option.some.inj h) rfl rfl dX4_effortOfStreet_68
    refine z_if_le hB (tgt := 52) dX4_effortOfStreet_36 (by decide) (fun c10 => ?_) (fun c10 => ?_)
    · have h := z_ifT c10 h
      refine z_iload hB 0 dX4_effortOfStreet_52 rfl ?_
      refine z_ineg hB dX4_effortOfStreet_54 ?_
      refine z_lv [2, 3] rfl ?_
      exact hj8 _ h
    · have h := z_ifF c10 h
      refine z_iload hB 0 dX4_effortOfStreet_39 rfl ?_
      refine z_iload hB 1 dX4_effortOfStreet_41 rfl ?_
      refine z_iload_n hB 4 dX4_effortOfStreet_43 rfl rfl ?_
      refine z_iadd hB dX4_effortOfStreet_44 ?_
      refine z_imul hB dX4_effortOfStreet_45 ?_
      refine z_iload hB 1 dX4_effortOfStreet_46 rfl ?_
      obtain ⟨h11, h⟩ := z_ckE h
      refine z_idiv hB dX4_effortOfStreet_48 h11 ?_
      refine z_goto hB (tgt := 55) dX4_effortOfStreet_49 (by decide) ?_
      refine z_lv [2, 3] rfl ?_
      exact hj8 _ h
  refine z_icmp_ne hB (tgt := 10) dX4_effortOfStreet_2 (by decide) (fun c12 => ?_) (fun c12 => ?_)
  · have h := z_ifF c12 h
    refine z_bipush hB dX4_effortOfStreet_10 zcB_10 ?_
    refine z_lv [0, 1, 2] rfl ?_
    exact hj2 _ h
  · have h := z_ifT c12 h
    refine z_bipush hB dX4_effortOfStreet_5 zcB_20 ?_
    refine z_goto hB (tgt := 12) dX4_effortOfStreet_7 (by decide) ?_
    refine z_lv [0, 1, 2] rfl ?_
    exact hj2 _ h
def f_X5_append (p1 : Int32) (σ : z_S) : Option (Int32 × z_S) :=
  if (σ 0 0) < (60 : Int32) then
  (z_cki (σ 0 0) 60 <|
  z_let (z_u σ 1 (σ 0 0).toNatClampNeg (vp_nar .char p1)) fun σ3 =>
  z_let (z_u σ3 0 0 ((σ3 0 0) + (1 : Int32))) fun σ4 =>
  some (σ4 0 0, σ4))
  else
  (some ((-3 : Int32), σ))
set_option maxRecDepth 100000 in
set_option maxHeartbeats 4000000 in
theorem c_X5_append (p1 : Int32) (σ : z_S) (r : Int32) (σz : z_S) (h : f_X5_append p1 σ = some (r, σz)) : zMet yX5_append cX5_append 2 (some .int) 0 0 layX0 3 (fun ad => [.ref (ad 0), .int p1]) σ (z_QI layX0 3 r σz) := by
  refine z_headI RX5 (by decide) rfl (fun _ => Nat.le_of_ble_eq_true rfl) (fun E G A ad hB hret => ?_)
  show ZW E G A 2 layX0 3 ad 0 [(0, .ref (ad 0)), (1, .int p1)] [] σ
  unfold f_X5_append at h
  refine z_aload_n hB 0 dX5_append_0 rfl rfl ?_
  refine z_get hB 0 0 kX0_0 (Nat.le_of_ble_eq_true rfl) vc_5 inlX5 (Nat.le_of_ble_eq_true rfl) rfl fl_X5_9 dX5_append_1 ?_
  refine z_bipush hB dX5_append_4 zcB_60 ?_
  refine z_icmp_lt hB (tgt := 12) dX5_append_6 (by decide) (fun c1 => ?_) (fun c1 => ?_)
  · have h := z_ifT c1 h
    refine z_aload_n hB 0 dX5_append_12 rfl rfl ?_
    refine z_getr hB 0 1 1 kX0_0 (Nat.le_of_ble_eq_true rfl) vc_5 inlX5 (Nat.le_of_ble_eq_true rfl) rfl (Nat.le_of_ble_eq_true rfl) fl_X5_15 dX5_append_13 ?_
    refine z_aload_n hB 0 dX5_append_16 rfl rfl ?_
    refine z_get hB 0 0 kX0_0 (Nat.le_of_ble_eq_true rfl) vc_5 inlX5 (Nat.le_of_ble_eq_true rfl) rfl fl_X5_9 dX5_append_17 ?_
    refine z_iload_n hB 1 dX5_append_20 rfl rfl ?_
    obtain ⟨h2, h⟩ := z_ckiE h
    obtain ⟨σ3, eσ3, h⟩ := z_letE h
    refine z_cast hB 1 60 kX0_1 (Nat.le_of_ble_eq_true rfl) dX5_append_21 h2 ?_
    refine z_to eσ3 ?_
    refine z_aload_n hB 0 dX5_append_22 rfl rfl ?_
    refine z_dup hB dX5_append_23 rfl ?_
    refine z_get hB 0 0 kX0_0 (Nat.le_of_ble_eq_true rfl) vc_5 inlX5 (Nat.le_of_ble_eq_true rfl) rfl fl_X5_9 dX5_append_24 ?_
    refine z_iconst hB dX5_append_27 zcI_1 ?_
    refine z_iadd hB dX5_append_28 ?_
    obtain ⟨σ4, eσ4, h⟩ := z_letE h
    refine z_put hB 0 0 kX0_0 (Nat.le_of_ble_eq_true rfl) vc_5 inlX5 tyX5 tyX5_ok nmX5 (Nat.le_of_ble_eq_true rfl) rfl rfl (tyX5_ok 0 (Nat.le_of_ble_eq_true rfl)) fl_X5_9 dX5_append_29 ?_
    refine z_to eσ4 ?_
    refine z_aload_n hB 0 dX5_append_32 rfl rfl ?_
    refine z_get hB 0 0 kX0_0 (Nat.le_of_ble_eq_true rfl) vc_5 inlX5 (Nat.le_of_ble_eq_true rfl) rfl fl_X5_9 dX5_append_33 ?_
    obtain ⟨h1, h2⟩ := z_prE h
    exact hret _ _ _ _ h1 h2 rfl dX5_append_36
  · have h := z_ifF c1 h
    refine z_bipush hB dX5_append_9 zcB_m3 ?_
    obtain ⟨h1, h2⟩ := z_prE h
    exact hret _ _ _ _ h1 h2 rfl dX5_append_11
def f_X5_numbersOf (p0 : Int32) (σ : z_S) : Option Int32 :=
  if p0 = (98 : Int32) then
  (some ((2 : Int32)))
  else if p0 = (100 : Int32) then
  (some ((1 : Int32)))
  else if p0 = (103 : Int32) then
  (some ((2 : Int32)))
  else if p0 = (110 : Int32) then
  (some ((1 : Int32)))
  else if p0 = (112 : Int32) then
  (some ((3 : Int32)))
  else (some ((0 : Int32)))
set_option maxRecDepth 100000 in
set_option maxHeartbeats 4000000 in
theorem c_X5_numbersOf (p0 : Int32) (σ : z_S) (r : Int32) (h : f_X5_numbersOf p0 σ = some r) : zMet yX5_numbersOf cX5_numbersOf 1 (some .int) 0 0 z_lay0 0 (fun ad => [.int p0]) σ (z_QI z_lay0 0 r σ) := by
  refine z_headI RX5 (by decide) rfl (fun _ => Nat.le_of_ble_eq_true rfl) (fun E G A ad hB hret => ?_)
  show ZW E G A 1 z_lay0 0 ad 0 [(0, .int p0)] [] σ
  unfold f_X5_numbersOf at h
  refine z_iload_n hB 0 dX5_numbersOf_0 rfl rfl ?_
  by_cases c1 : p0 = (98 : Int32)
  · have h := z_ifT c1 h
    refine z_tableIn hB (tgt := 80) dX5_numbersOf_1 c1 (by decide) (by decide) rfl (by decide) ?_
    refine z_iconst hB dX5_numbersOf_80 zcI_2 ?_
    exact hret _ _ _ _ (Option.some.inj h) rfl rfl dX5_numbersOf_81
  have h := z_ifF c1 h
  by_cases c2 : p0 = (100 : Int32)
  · have h := z_ifT c2 h
    refine z_tableIn hB (tgt := 84) dX5_numbersOf_1 c2 (by decide) (by decide) rfl (by decide) ?_
    refine z_iconst hB dX5_numbersOf_84 zcI_1 ?_
    exact hret _ _ _ _ (Option.some.inj h) rfl rfl dX5_numbersOf_85
  have h := z_ifF c2 h
  by_cases c3 : p0 = (103 : Int32)
  · have h := z_ifT c3 h
    refine z_tableIn hB (tgt := 78) dX5_numbersOf_1 c3 (by decide) (by decide) rfl (by decide) ?_
    refine z_iconst hB dX5_numbersOf_78 zcI_2 ?_
    exact hret _ _ _ _ (Option.some.inj h) rfl rfl dX5_numbersOf_79
  have h := z_ifF c3 h
  by_cases c4 : p0 = (110 : Int32)
  · have h := z_ifT c4 h
    refine z_tableIn hB (tgt := 82) dX5_numbersOf_1 c4 (by decide) (by decide) rfl (by decide) ?_
    refine z_iconst hB dX5_numbersOf_82 zcI_1 ?_
    exact hret _ _ _ _ (Option.some.inj h) rfl rfl dX5_numbersOf_83
  have h := z_ifF c4 h
  by_cases c5 : p0 = (112 : Int32)
  · have h := z_ifT c5 h
    refine z_tableIn hB (tgt := 76) dX5_numbersOf_1 c5 (by decide) (by decide) rfl (by decide) ?_
    refine z_iconst hB dX5_numbersOf_76 zcI_3 ?_
    exact hret _ _ _ _ (Option.some.inj h) rfl rfl dX5_numbersOf_77
  have h := z_ifF c5 h
  refine z_tableD hB (tgt := 86) dX5_numbersOf_1 (fun kz h1 h2 he => ?_) (by decide) ?_
  · have hz : kz = 98 ∨ kz = 99 ∨ kz = 100 ∨ kz = 101 ∨ kz = 102 ∨ kz = 103 ∨ kz = 104 ∨ kz = 105 ∨ kz = 106 ∨ kz = 107 ∨ kz = 108 ∨ kz = 109 ∨ kz = 110 ∨ kz = 111 ∨ kz = 112 := by omega
    rcases hz with rfl | rfl | rfl | rfl | rfl | rfl | rfl | rfl | rfl | rfl | rfl | rfl | rfl | rfl | rfl <;> first | rfl | exact (c1 (Int32.toInt_inj.mp (he.trans (show (98 : Int) = (98 : Int32).toInt from rfl)))).elim | exact (c2 (Int32.toInt_inj.mp (he.trans (show (100 : Int) = (100 : Int32).toInt from rfl)))).elim | exact (c3 (Int32.toInt_inj.mp (he.trans (show (103 : Int) = (103 : Int32).toInt from rfl)))).elim | exact (c4 (Int32.toInt_inj.mp (he.trans (show (110 : Int) = (110 : Int32).toInt from rfl)))).elim | exact (c5 (Int32.toInt_inj.mp (he.trans (show (112 : Int) = (112 : Int32).toInt from rfl)))).elim
  refine z_iconst hB dX5_numbersOf_86 zcI_0 ?_
  exact hret _ _ _ _ (Option.some.inj h) rfl rfl dX5_numbersOf_87
def lb_X5_readNumber_4 (k1 : Int32 → Int32 → z_S → Option (Int32 × z_S)) (x2 : Int32) (x3 : Int32) (σ4 : z_S) : Option (Int32 × z_S) :=
  z_let (fun (_ : Unit) => if x3 = (0 : Int32) then
  (some ((-1 : Int32), σ4))
  else
  (some (x2, σ4))) fun j5 =>
  if (3 : Int32) ≤ x3 then
  (j5 ())
  else
  (if (σ4 0 0) ≤ (σ4 0 3) then
  (j5 ())
  else
  (z_cki (σ4 0 3) 60 <|
  z_b1 (f_X9_within (σ4 1 (σ4 0 3).toNatClampNeg) (48 : Int32) (57 : Int32) σ4) fun r11 =>
  if r11 = (0 : Int32) then
  (j5 ())
  else
  (z_cki (σ4 0 3) 60 <|
  z_let ((x2 * (10 : Int32)) + ((σ4 1 (σ4 0 3).toNatClampNeg) - (48 : Int32))) fun x14 =>
  z_let (x3 + (1 : Int32)) fun x15 =>
  z_let (z_u σ4 0 3 ((σ4 0 3) + (1 : Int32))) fun σ16 =>
  k1 x14 x15 σ16)))
def f_X5_readNumber (σ : z_S) : Option (Int32 × z_S) :=
  z_lp3 lb_X5_readNumber_4 z_Fu (0 : Int32) (0 : Int32) σ
set_option maxRecDepth 100000 in
set_option maxHeartbeats 4000000 in
theorem c_X5_readNumber (σ : z_S) (r : Int32) (σz : z_S) (h : f_X5_readNumber σ = some (r, σz)) : zMet yX5_readNumber cX5_readNumber 3 (some .int) 1 22 layX0 3 (fun ad => [.ref (ad 0)]) σ (z_QI layX0 3 r σz) := by
  refine z_headI RX5 (by decide) rfl (fun _ => Nat.le_of_ble_eq_true rfl) (fun E G A ad hB hret => ?_)
  show ZW E G A 3 layX0 3 ad 0 [(0, .ref (ad 0))] [] σ
  unfold f_X5_readNumber at h
  refine z_iconst hB dX5_readNumber_0 zcI_0 ?_
  refine z_istore_n hB [(1, .int ((0 : Int32))), (0, .ref (ad 0))] dX5_readNumber_1 rfl (Nat.le_of_ble_eq_true rfl) rfl rfl ?_
  refine z_iconst hB dX5_readNumber_2 zcI_0 ?_
  refine z_istore_n hB [(2, .int ((0 : Int32))), (1, .int ((0 : Int32))), (0, .ref (ad 0))] dX5_readNumber_3 rfl (Nat.le_of_ble_eq_true rfl) rfl rfl ?_
  refine z_lv [2, 1, 0] rfl ?_
  refine z_lpr3 (g := fun x2 x3 σ4 => ZW E G A 3 layX0 3 ad 4 [(0, .ref (ad 0)), (1, .int x2), (2, .int x3)] [] σ4) (fun k1 x2 x3 σ4 hk_k1 h => ?_) _ _ _ _ h
  show ZW E G A 3 layX0 3 ad 4 [(0, .ref (ad 0)), (1, .int x2), (2, .int x3)] [] σ4
  unfold lb_X5_readNumber_4 at h
  refine z_iload_n hB 2 dX5_readNumber_4 rfl rfl ?_
  refine z_iconst hB dX5_readNumber_5 zcI_3 ?_
  obtain ⟨j5, ej5, h⟩ := z_letE h
  have hj5 : ∀ (_ : Unit), j5 () = some (r, σz) → ZW E G A 3 layX0 3 ad 73 [(1, .int x2), (2, .int x3)] [] σ4 := by
    intro _ h
    rw [ej5] at h
    refine z_iload_n hB 1 dX5_readNumber_73 rfl rfl ?_
    refine z_if_ne hB (tgt := 81) dX5_readNumber_74 (by decide) (fun c6 => ?_) (fun c6 => ?_)
    · have h := z_ifF c6 h
      refine z_iload_n hB 0 dX5_readNumber_81 rfl rfl ?_
      obtain ⟨h1, h2⟩ := z_prE h
      exact hret _ _ _ _ h1 h2 rfl dX5_readNumber_82
    · have h := z_ifT c6 h
      refine z_iconst hB dX5_readNumber_77 zcI_m1 ?_
      refine z_goto hB (tgt := 82) dX5_readNumber_78 (by decide) ?_
      obtain ⟨h1, h2⟩ := z_prE h
      exact hret _ _ _ _ h1 h2 rfl dX5_readNumber_82
  refine z_icmp_ge hB (tgt := 73) dX5_readNumber_6 (by decide) (fun c7 => ?_) (fun c7 => ?_)
  · have h := z_ifT c7 h
    refine z_lv [1, 2] rfl ?_
    exact hj5 () h
  · have h := z_ifF c7 h
    refine z_aload_n hB 0 dX5_readNumber_9 rfl rfl ?_
    refine z_get hB 0 3 kX0_0 (Nat.le_of_ble_eq_true rfl) vc_5 inlX5 (Nat.le_of_ble_eq_true rfl) rfl fl_X5_23 dX5_readNumber_10 ?_
    refine z_aload_n hB 0 dX5_readNumber_13 rfl rfl ?_
    refine z_get hB 0 0 kX0_0 (Nat.le_of_ble_eq_true rfl) vc_5 inlX5 (Nat.le_of_ble_eq_true rfl) rfl fl_X5_9 dX5_readNumber_14 ?_
    refine z_icmp_ge hB (tgt := 73) dX5_readNumber_17 (by decide) (fun c8 => ?_) (fun c8 => ?_)
    · have h := z_ifT c8 h
      refine z_lv [1, 2] rfl ?_
      exact hj5 () h
    · have h := z_ifF c8 h
      refine z_aload_n hB 0 dX5_readNumber_20 rfl rfl ?_
      refine z_getr hB 0 1 1 kX0_0 (Nat.le_of_ble_eq_true rfl) vc_5 inlX5 (Nat.le_of_ble_eq_true rfl) rfl (Nat.le_of_ble_eq_true rfl) fl_X5_15 dX5_readNumber_21 ?_
      refine z_aload_n hB 0 dX5_readNumber_24 rfl rfl ?_
      refine z_get hB 0 3 kX0_0 (Nat.le_of_ble_eq_true rfl) vc_5 inlX5 (Nat.le_of_ble_eq_true rfl) rfl fl_X5_23 dX5_readNumber_25 ?_
      obtain ⟨h9, h⟩ := z_ckiE h
      refine z_cald hB 1 60 kX0_1 (Nat.le_of_ble_eq_true rfl) dX5_readNumber_28 h9 ?_
      refine z_bipush hB dX5_readNumber_29 zcB_48 ?_
      refine z_bipush hB dX5_readNumber_31 zcB_57 ?_
      obtain ⟨r11, h10, h⟩ := z_b1E h
      refine z_cI hB (z_rN (ι := fun k => k) hB yY_X9_within (c_X9_within _ _ _ _ _ h10) rfl z_cut0 z_hno rfl rfl rfl (Nat.le_of_ble_eq_true rfl) (List.mem_of_getElem? (i := 18) rfl) ⟨Nat.le_of_ble_eq_true rfl, Nat.le_of_ble_eq_true rfl⟩ dX5_readNumber_33) z_cut0 z_hno ?_
      refine z_toA (z_mro (lay := layX0) (lay' := z_lay0) (b := false) z_cut0) ?_
      refine z_if_eq hB (tgt := 73) dX5_readNumber_36 (by decide) (fun c12 => ?_) (fun c12 => ?_)
      · have h := z_ifT c12 h
        refine z_lv [1, 2] rfl ?_
        exact hj5 () h
      · have h := z_ifF c12 h
        refine z_iload_n hB 1 dX5_readNumber_39 rfl rfl ?_
        refine z_bipush hB dX5_readNumber_40 zcB_10 ?_
        refine z_imul hB dX5_readNumber_42 ?_
        refine z_aload_n hB 0 dX5_readNumber_43 rfl rfl ?_
        refine z_getr hB 0 1 1 kX0_0 (Nat.le_of_ble_eq_true rfl) vc_5 inlX5 (Nat.le_of_ble_eq_true rfl) rfl (Nat.le_of_ble_eq_true rfl) fl_X5_15 dX5_readNumber_44 ?_
        refine z_aload_n hB 0 dX5_readNumber_47 rfl rfl ?_
        refine z_get hB 0 3 kX0_0 (Nat.le_of_ble_eq_true rfl) vc_5 inlX5 (Nat.le_of_ble_eq_true rfl) rfl fl_X5_23 dX5_readNumber_48 ?_
        obtain ⟨h13, h⟩ := z_ckiE h
        refine z_cald hB 1 60 kX0_1 (Nat.le_of_ble_eq_true rfl) dX5_readNumber_51 h13 ?_
        refine z_bipush hB dX5_readNumber_52 zcB_48 ?_
        refine z_isub hB dX5_readNumber_54 ?_
        refine z_iadd hB dX5_readNumber_55 ?_
        obtain ⟨x14, ex14, h⟩ := z_letE h
        refine z_istore_n hB [(1, .int x14), (0, .ref (ad 0)), (2, .int x3)] dX5_readNumber_56 rfl (Nat.le_of_ble_eq_true rfl) ex14 rfl ?_
        obtain ⟨x15, ex15, h⟩ := z_letE h
        refine z_iinc hB 2 [(2, .int x15), (1, .int x14), (0, .ref (ad 0))] dX5_readNumber_57 rfl (by rw [zcI_1]; exact ex15) (Nat.le_of_ble_eq_true rfl) rfl ?_
        refine z_aload_n hB 2 dX5_readNumber_60 rfl rfl ?_
        refine z_dup hB dX5_readNumber_61 rfl ?_
        refine z_get hB 0 3 kX0_0 (Nat.le_of_ble_eq_true rfl) vc_5 inlX5 (Nat.le_of_ble_eq_true rfl) rfl fl_X5_23 dX5_readNumber_62 ?_
        refine z_iconst hB dX5_readNumber_65 zcI_1 ?_
        refine z_iadd hB dX5_readNumber_66 ?_
        obtain ⟨σ16, eσ16, h⟩ := z_letE h
        refine z_put hB 0 3 kX0_0 (Nat.le_of_ble_eq_true rfl) vc_5 inlX5 tyX5 tyX5_ok nmX5 (Nat.le_of_ble_eq_true rfl) rfl rfl (tyX5_ok 3 (Nat.le_of_ble_eq_true rfl)) fl_X5_23 dX5_readNumber_67 ?_
        refine z_to eσ16 ?_
        refine z_goto hB (tgt := 4) dX5_readNumber_70 (by decide) ?_
        refine z_lv [2, 1, 0] rfl ?_
        exact hk_k1 _ _ _ h
def f_X5_readSign (p1 : Int32) (σ : z_S) : Option (Int32 × z_S) :=
  if (σ 0 0) ≤ (σ 0 3) then
  (some ((0 : Int32), σ))
  else
  (z_cki (σ 0 3) 60 <|
  if (σ 1 (σ 0 3).toNatClampNeg) = p1 then
  (z_let (z_u σ 0 3 ((σ 0 3) + (1 : Int32))) fun σ4 =>
  some ((1 : Int32), σ4))
  else
  (some ((0 : Int32), σ)))
set_option maxRecDepth 100000 in
set_option maxHeartbeats 4000000 in
theorem c_X5_readSign (p1 : Int32) (σ : z_S) (r : Int32) (σz : z_S) (h : f_X5_readSign p1 σ = some (r, σz)) : zMet yX5_readSign cX5_readSign 2 (some .boolean) 0 0 layX0 3 (fun ad => [.ref (ad 0), .int p1]) σ (z_QI layX0 3 r σz) := by
  refine z_headI RX5 (by decide) rfl (fun _ => Nat.le_of_ble_eq_true rfl) (fun E G A ad hB hret => ?_)
  show ZW E G A 2 layX0 3 ad 0 [(0, .ref (ad 0)), (1, .int p1)] [] σ
  unfold f_X5_readSign at h
  refine z_aload_n hB 0 dX5_readSign_0 rfl rfl ?_
  refine z_get hB 0 3 kX0_0 (Nat.le_of_ble_eq_true rfl) vc_5 inlX5 (Nat.le_of_ble_eq_true rfl) rfl fl_X5_23 dX5_readSign_1 ?_
  refine z_aload_n hB 0 dX5_readSign_4 rfl rfl ?_
  refine z_get hB 0 0 kX0_0 (Nat.le_of_ble_eq_true rfl) vc_5 inlX5 (Nat.le_of_ble_eq_true rfl) rfl fl_X5_9 dX5_readSign_5 ?_
  refine z_icmp_ge hB (tgt := 24) dX5_readSign_8 (by decide) (fun c1 => ?_) (fun c1 => ?_)
  · have h := z_ifT c1 h
    refine z_iconst hB dX5_readSign_24 zcI_0 ?_
    obtain ⟨h1, h2⟩ := z_prE h
    exact hret _ _ _ _ h1 h2 rfl dX5_readSign_25
  · have h := z_ifF c1 h
    refine z_aload_n hB 0 dX5_readSign_11 rfl rfl ?_
    refine z_getr hB 0 1 1 kX0_0 (Nat.le_of_ble_eq_true rfl) vc_5 inlX5 (Nat.le_of_ble_eq_true rfl) rfl (Nat.le_of_ble_eq_true rfl) fl_X5_15 dX5_readSign_12 ?_
    refine z_aload_n hB 0 dX5_readSign_15 rfl rfl ?_
    refine z_get hB 0 3 kX0_0 (Nat.le_of_ble_eq_true rfl) vc_5 inlX5 (Nat.le_of_ble_eq_true rfl) rfl fl_X5_23 dX5_readSign_16 ?_
    obtain ⟨h2, h⟩ := z_ckiE h
    refine z_cald hB 1 60 kX0_1 (Nat.le_of_ble_eq_true rfl) dX5_readSign_19 h2 ?_
    refine z_iload_n hB 1 dX5_readSign_20 rfl rfl ?_
    refine z_icmp_eq hB (tgt := 26) dX5_readSign_21 (by decide) (fun c3 => ?_) (fun c3 => ?_)
    · have h := z_ifT c3 h
      refine z_aload_n hB 0 dX5_readSign_26 rfl rfl ?_
      refine z_dup hB dX5_readSign_27 rfl ?_
      refine z_get hB 0 3 kX0_0 (Nat.le_of_ble_eq_true rfl) vc_5 inlX5 (Nat.le_of_ble_eq_true rfl) rfl fl_X5_23 dX5_readSign_28 ?_
      refine z_iconst hB dX5_readSign_31 zcI_1 ?_
      refine z_iadd hB dX5_readSign_32 ?_
      obtain ⟨σ4, eσ4, h⟩ := z_letE h
      refine z_put hB 0 3 kX0_0 (Nat.le_of_ble_eq_true rfl) vc_5 inlX5 tyX5 tyX5_ok nmX5 (Nat.le_of_ble_eq_true rfl) rfl rfl (tyX5_ok 3 (Nat.le_of_ble_eq_true rfl)) fl_X5_23 dX5_readSign_33 ?_
      refine z_to eσ4 ?_
      refine z_iconst hB dX5_readSign_36 zcI_1 ?_
      obtain ⟨h1, h2⟩ := z_prE h
      exact hret _ _ _ _ h1 h2 rfl dX5_readSign_37
    · have h := z_ifF c3 h
      refine z_iconst hB dX5_readSign_24 zcI_0 ?_
      obtain ⟨h1, h2⟩ := z_prE h
      exact hret _ _ _ _ h1 h2 rfl dX5_readSign_25
def lb_X5_readOrder_43 (r9 : Int32) (k10 : Int32 → z_S → Option (Int32 × z_S)) (x11 : Int32) (σ12 : z_S) : Option (Int32 × z_S) :=
  if r9 ≤ x11 then
  (if r9 ≤ (0 : Int32) then
  (some ((0 : Int32), σ12))
  else
  (some ((1 : Int32), σ12)))
  else
  (z_b2 (f_X5_readNumber σ12) fun r17 σ16 =>
  if r17 = (-1 : Int32) then
  (some ((0 : Int32), σ16))
  else
  (z_let (fun (y19 : Int32) => z_b2 (f_X5_readSign y19 σ16) fun r23 σ22 =>
  if r23 = (0 : Int32) then
  (some ((0 : Int32), σ22))
  else
  (z_cki x11 3 <|
  z_let (z_u σ22 2 x11.toNatClampNeg (r17)) fun σ26 =>
  z_let (x11 + (1 : Int32)) fun x27 =>
  k10 x27 σ26)) fun j20 =>
  if x11 = (r9 - (1 : Int32)) then
  (j20 (59 : Int32))
  else
  (j20 (44 : Int32))))
def f_X5_readOrder (p1 : Int32) (σ : z_S) : Option (Int32 × z_S) :=
  z_b1 (f_X9_within p1 (0 : Int32) ((σ 0 0) - (1 : Int32)) σ) fun r2 =>
  if r2 = (0 : Int32) then
  (some ((0 : Int32), σ))
  else
  (z_cki p1 60 <|
  z_ckc (σ 1 p1.toNatClampNeg) <|
  z_let (z_u σ 0 2 (σ 1 p1.toNatClampNeg)) fun σ5 =>
  z_let (z_u σ5 0 3 (p1 + (1 : Int32))) fun σ7 =>
  z_b1 (f_X5_numbersOf (σ7 0 2) σ7) fun r9 =>
  z_lp2 (lb_X5_readOrder_43 r9) z_Fu (0 : Int32) σ7)
set_option maxRecDepth 100000 in
set_option maxHeartbeats 4000000 in
theorem c_X5_readOrder (p1 : Int32) (σ : z_S) (r : Int32) (σz : z_S) (h : f_X5_readOrder p1 σ = some (r, σz)) : zMet yX5_readOrder cX5_readOrder 5 (some .boolean) 2 44 layX0 3 (fun ad => [.ref (ad 0), .int p1]) σ (z_QI layX0 3 r σz) := by
  refine z_headI RX5 (by decide) rfl (fun _ => Nat.le_of_ble_eq_true rfl) (fun E G A ad hB hret => ?_)
  show ZW E G A 5 layX0 3 ad 0 [(0, .ref (ad 0)), (1, .int p1)] [] σ
  unfold f_X5_readOrder at h
  refine z_iload_n hB 1 dX5_readOrder_0 rfl rfl ?_
  refine z_iconst hB dX5_readOrder_1 zcI_0 ?_
  refine z_aload_n hB 0 dX5_readOrder_2 rfl rfl ?_
  refine z_get hB 0 0 kX0_0 (Nat.le_of_ble_eq_true rfl) vc_5 inlX5 (Nat.le_of_ble_eq_true rfl) rfl fl_X5_9 dX5_readOrder_3 ?_
  refine z_iconst hB dX5_readOrder_6 zcI_1 ?_
  refine z_isub hB dX5_readOrder_7 ?_
  obtain ⟨r2, h1, h⟩ := z_b1E h
  refine z_cI hB (z_rN (ι := fun k => k) hB yY_X9_within (c_X9_within _ _ _ _ _ h1) rfl z_cut0 z_hno rfl rfl rfl (Nat.le_of_ble_eq_true rfl) (List.mem_of_getElem? (i := 18) rfl) ⟨Nat.le_of_ble_eq_true rfl, Nat.le_of_ble_eq_true rfl⟩ dX5_readOrder_8) z_cut0 z_hno ?_
  refine z_toA (z_mro (lay := layX0) (lay' := z_lay0) (b := false) z_cut0) ?_
  refine z_if_ne hB (tgt := 16) dX5_readOrder_11 (by decide) (fun c3 => ?_) (fun c3 => ?_)
  · have h := z_ifF c3 h
    refine z_aload_n hB 0 dX5_readOrder_16 rfl rfl ?_
    refine z_aload_n hB 0 dX5_readOrder_17 rfl rfl ?_
    refine z_getr hB 0 1 1 kX0_0 (Nat.le_of_ble_eq_true rfl) vc_5 inlX5 (Nat.le_of_ble_eq_true rfl) rfl (Nat.le_of_ble_eq_true rfl) fl_X5_15 dX5_readOrder_18 ?_
    refine z_iload_n hB 1 dX5_readOrder_21 rfl rfl ?_
    obtain ⟨h4, h⟩ := z_ckiE h
    refine z_cald hB 1 60 kX0_1 (Nat.le_of_ble_eq_true rfl) dX5_readOrder_22 h4 ?_
    obtain ⟨h6, h⟩ := z_ckcE h
    obtain ⟨σ5, eσ5, h⟩ := z_letE h
    refine z_putX hB 0 2 kX0_0 (Nat.le_of_ble_eq_true rfl) vc_5 inlX5 tyX5 tyX5_ok nmX5 (Nat.le_of_ble_eq_true rfl) rfl rfl (tyX5_ok 2 (Nat.le_of_ble_eq_true rfl)) h6.1 h6.2 fl_X5_19 dX5_readOrder_23 ?_
    refine z_to eσ5 ?_
    refine z_aload_n hB 0 dX5_readOrder_26 rfl rfl ?_
    refine z_iload_n hB 1 dX5_readOrder_27 rfl rfl ?_
    refine z_iconst hB dX5_readOrder_28 zcI_1 ?_
    refine z_iadd hB dX5_readOrder_29 ?_
    obtain ⟨σ7, eσ7, h⟩ := z_letE h
    refine z_put hB 0 3 kX0_0 (Nat.le_of_ble_eq_true rfl) vc_5 inlX5 tyX5 tyX5_ok nmX5 (Nat.le_of_ble_eq_true rfl) rfl rfl (tyX5_ok 3 (Nat.le_of_ble_eq_true rfl)) fl_X5_23 dX5_readOrder_30 ?_
    refine z_to eσ7 ?_
    refine z_aload_n hB 0 dX5_readOrder_33 rfl rfl ?_
    refine z_get hB 0 2 kX0_0 (Nat.le_of_ble_eq_true rfl) vc_5 inlX5 (Nat.le_of_ble_eq_true rfl) rfl fl_X5_19 dX5_readOrder_34 ?_
    obtain ⟨r9, h8, h⟩ := z_b1E h
    refine z_cI hB (z_rS (ι := fun k => k) hB yY_X5_numbersOf (c_X5_numbersOf _ _ _ h8) rfl z_cut0 z_hno rfl rfl rfl (Nat.le_of_ble_eq_true rfl) ml_X5_34 ⟨Nat.le_of_ble_eq_true rfl, Nat.le_of_ble_eq_true rfl⟩ dX5_readOrder_37) z_cut0 z_hno ?_
    refine z_toA (z_mro (lay := layX0) (lay' := z_lay0) (b := false) z_cut0) ?_
    refine z_istore_n hB [(2, .int r9), (0, .ref (ad 0)), (1, .int p1)] dX5_readOrder_40 rfl (Nat.le_of_ble_eq_true rfl) rfl rfl ?_
    refine z_iconst hB dX5_readOrder_41 zcI_0 ?_
    refine z_istore_n hB [(3, .int ((0 : Int32))), (2, .int r9), (0, .ref (ad 0)), (1, .int p1)] dX5_readOrder_42 rfl (Nat.le_of_ble_eq_true rfl) rfl rfl ?_
    refine z_lv [2, 1, 0] rfl ?_
    refine z_lpr2 (g := fun x11 σ12 => ZW E G A 5 layX0 3 ad 43 [(0, .ref (ad 0)), (2, .int r9), (3, .int x11)] [] σ12) (fun k10 x11 σ12 hk_k10 h => ?_) _ _ _ h
    show ZW E G A 5 layX0 3 ad 43 [(0, .ref (ad 0)), (2, .int r9), (3, .int x11)] [] σ12
    unfold lb_X5_readOrder_43 at h
    refine z_iload_n hB 2 dX5_readOrder_43 rfl rfl ?_
    refine z_iload_n hB 1 dX5_readOrder_44 rfl rfl ?_
    refine z_icmp_ge hB (tgt := 97) dX5_readOrder_45 (by decide) (fun c13 => ?_) (fun c13 => ?_)
    · have h := z_ifT c13 h
      refine z_iload_n hB 1 dX5_readOrder_97 rfl rfl ?_
      refine z_if_le hB (tgt := 105) dX5_readOrder_98 (by decide) (fun c14 => ?_) (fun c14 => ?_)
      · have h := z_ifT c14 h
        refine z_iconst hB dX5_readOrder_105 zcI_0 ?_
        obtain ⟨h1, h2⟩ := z_prE h
        exact hret _ _ _ _ h1 h2 rfl dX5_readOrder_106
      · have h := z_ifF c14 h
        refine z_iconst hB dX5_readOrder_101 zcI_1 ?_
        refine z_goto hB (tgt := 106) dX5_readOrder_102 (by decide) ?_
        obtain ⟨h1, h2⟩ := z_prE h
        exact hret _ _ _ _ h1 h2 rfl dX5_readOrder_106
    · have h := z_ifF c13 h
      refine z_aload_n hB 0 dX5_readOrder_48 rfl rfl ?_
      obtain ⟨r17, σ16, h15, h⟩ := z_b2E h
      refine z_cI hB (z_rV (ι := fun k => k) hB yY_X5_readNumber (c_X5_readNumber _ _ _ h15) rfl cut_X0 z_hid kX0_0 (Nat.le_of_ble_eq_true rfl) vc_5 rfl rfl rfl (Nat.le_of_ble_eq_true rfl) ml_X5_38 ⟨Nat.le_of_ble_eq_true rfl, Nat.le_of_ble_eq_true rfl⟩ dX5_readOrder_49) cut_X0 z_hid ?_
      refine z_toA z_mid ?_
      refine z_istore hB [(4, .int r17), (0, .ref (ad 0)), (2, .int r9), (3, .int x11)] dX5_readOrder_52 (Nat.le_of_ble_eq_true rfl) rfl rfl ?_
      refine z_iload hB 0 dX5_readOrder_54 rfl ?_
      refine z_iconst hB dX5_readOrder_56 zcI_m1 ?_
      refine z_icmp_eq hB (tgt := 81) dX5_readOrder_57 (by decide) (fun c18 => ?_) (fun c18 => ?_)
      · have h := z_ifT c18 h
        refine z_iconst hB dX5_readOrder_81 zcI_0 ?_
        obtain ⟨h1, h2⟩ := z_prE h
        exact hret _ _ _ _ h1 h2 rfl dX5_readOrder_82
      · have h := z_ifF c18 h
        refine z_aload_n hB 1 dX5_readOrder_60 rfl rfl ?_
        refine z_iload_n hB 3 dX5_readOrder_61 rfl rfl ?_
        refine z_iload_n hB 2 dX5_readOrder_62 rfl rfl ?_
        refine z_iconst hB dX5_readOrder_63 zcI_1 ?_
        refine z_isub hB dX5_readOrder_64 ?_
        obtain ⟨j20, ej20, h⟩ := z_letE h
        have hj20 : ∀ (y19 : Int32), j20 y19 = some (r, σz) → ZW E G A 5 layX0 3 ad 75 [(0, .ref (ad 0)), (2, .int r9), (3, .int x11), (4, .int r17)] [.int y19, .ref (ad 0)] σ16 := by
          intro y19 h
          rw [ej20] at h
          obtain ⟨r23, σ22, h21, h⟩ := z_b2E h
          refine z_cI hB (z_rV (ι := fun k => k) hB yY_X5_readSign (c_X5_readSign _ _ _ _ h21) rfl cut_X0 z_hid kX0_0 (Nat.le_of_ble_eq_true rfl) vc_5 rfl rfl rfl (Nat.le_of_ble_eq_true rfl) ml_X5_42 ⟨Nat.le_of_ble_eq_true rfl, Nat.le_of_ble_eq_true rfl⟩ dX5_readOrder_75) cut_X0 z_hid ?_
          refine z_toA z_mid ?_
          refine z_if_ne hB (tgt := 83) dX5_readOrder_78 (by decide) (fun c24 => ?_) (fun c24 => ?_)
          · have h := z_ifF c24 h
            refine z_aload_n hB 0 dX5_readOrder_83 rfl rfl ?_
            refine z_getr hB 0 4 2 kX0_0 (Nat.le_of_ble_eq_true rfl) vc_5 inlX5 (Nat.le_of_ble_eq_true rfl) rfl (Nat.le_of_ble_eq_true rfl) fl_X5_26 dX5_readOrder_84 ?_
            refine z_iload_n hB 2 dX5_readOrder_87 rfl rfl ?_
            refine z_iload hB 3 dX5_readOrder_88 rfl ?_
            obtain ⟨h25, h⟩ := z_ckiE h
            obtain ⟨σ26, eσ26, h⟩ := z_letE h
            refine z_iast hB 2 3 kX0_2 (Nat.le_of_ble_eq_true rfl) dX5_readOrder_90 h25 ?_
            refine z_to eσ26 ?_
            obtain ⟨x27, ex27, h⟩ := z_letE h
            refine z_iinc hB 2 [(3, .int x27), (0, .ref (ad 0)), (2, .int r9), (4, .int r17)] dX5_readOrder_91 rfl (by rw [zcI_1]; exact ex27) (Nat.le_of_ble_eq_true rfl) rfl ?_
            refine z_goto hB (tgt := 43) dX5_readOrder_94 (by decide) ?_
            refine z_lv [1, 2, 0] rfl ?_
            exact hk_k10 _ _ h
          · have h := z_ifT c24 h
            refine z_iconst hB dX5_readOrder_81 zcI_0 ?_
            obtain ⟨h1, h2⟩ := z_prE h
            exact hret _ _ _ _ h1 h2 rfl dX5_readOrder_82
        refine z_icmp_ne hB (tgt := 73) dX5_readOrder_65 (by decide) (fun c28 => ?_) (fun c28 => ?_)
        · have h := z_ifF c28 h
          refine z_bipush hB dX5_readOrder_73 zcB_44 ?_
          refine z_lv [1, 2, 3, 0] rfl ?_
          exact hj20 _ h
        · have h := z_ifT c28 h
          refine z_bipush hB dX5_readOrder_68 zcB_59 ?_
          refine z_goto hB (tgt := 75) dX5_readOrder_70 (by decide) ?_
          refine z_lv [1, 2, 3, 0] rfl ?_
          exact hj20 _ h
  · have h := z_ifT c3 h
    refine z_iconst hB dX5_readOrder_14 zcI_0 ?_
    obtain ⟨h1, h2⟩ := z_prE h
    exact hret _ _ _ _ h1 h2 rfl dX5_readOrder_15
def f_X6_addCorner (p1 : Int32) (p2 : Int32) (p3 : Int32) (p4 : Int32) (σ : z_S) : Option (Int32 × z_S) :=
  z_b1 (f_X4_has p1 σ) fun r2 =>
  if r2 = (0 : Int32) then
  (some ((-1 : Int32), σ))
  else
  (z_b1 (f_X9_within p2 (1 : Int32) (50 : Int32) σ) fun r5 =>
  if r5 = (0 : Int32) then
  (some ((-1 : Int32), σ))
  else
  (z_b1 (f_X9_within p3 (0 : Int32) (100 : Int32) σ) fun r8 =>
  if r8 = (0 : Int32) then
  (some ((-1 : Int32), σ))
  else
  (z_b1 (f_X9_within p4 (0 : Int32) (1 : Int32) σ) fun r11 =>
  if r11 = (0 : Int32) then
  (some ((-1 : Int32), σ))
  else
  (if (σ 2 0) < (20 : Int32) then
  (z_b2 (f_X4_add p1 p2 p3 p4 σ) fun r16 σ15 =>
  some (r16, σ15))
  else
  (some ((-3 : Int32), σ))))))
set_option maxRecDepth 100000 in
set_option maxHeartbeats 4000000 in
theorem c_X6_addCorner (p1 : Int32) (p2 : Int32) (p3 : Int32) (p4 : Int32) (σ : z_S) (r : Int32) (σz : z_S) (h : f_X6_addCorner p1 p2 p3 p4 σ = some (r, σz)) : zMet yX6_addCorner cX6_addCorner 5 (some .int) 2 49 layT 38 (fun ad => [.ref (ad 0), .int p1, .int p2, .int p3, .int p4]) σ (z_QI layT 38 r σz) := by
  refine z_headI RX6 (by decide) rfl (fun _ => Nat.le_of_ble_eq_true rfl) (fun E G A ad hB hret => ?_)
  show ZW E G A 5 layT 38 ad 0 [(0, .ref (ad 0)), (1, .int p1), (2, .int p2), (3, .int p3), (4, .int p4)] [] σ
  unfold f_X6_addCorner at h
  refine z_aload_n hB 0 dX6_addCorner_0 rfl rfl ?_
  refine z_getr hB 0 4 2 kT_0 (Nat.le_of_ble_eq_true rfl) vc_6 inlX6 (Nat.le_of_ble_eq_true rfl) rfl (Nat.le_of_ble_eq_true rfl) fl_X6_28 dX6_addCorner_1 ?_
  refine z_iload_n hB 1 dX6_addCorner_4 rfl rfl ?_
  obtain ⟨r2, h1, h⟩ := z_b1E h
  refine z_cI hB (z_rV (ι := fun k => k) hB yY_X4_has (c_X4_has _ _ _ h1) rfl cut_T z_hid kT_2 (Nat.le_of_ble_eq_true rfl) vc_4 rfl rfl rfl (Nat.le_of_ble_eq_true rfl) ml_X6_70 ⟨Nat.le_of_ble_eq_true rfl, Nat.le_of_ble_eq_true rfl⟩ dX6_addCorner_5) cut_T z_hid ?_
  refine z_toA (z_mro cut_T) ?_
  refine z_if_eq hB (tgt := 41) dX6_addCorner_8 (by decide) (fun c3 => ?_) (fun c3 => ?_)
  · have h := z_ifT c3 h
    refine z_iconst hB dX6_addCorner_41 zcI_m1 ?_
    obtain ⟨h1, h2⟩ := z_prE h
    exact hret _ _ _ _ h1 h2 rfl dX6_addCorner_42
  · have h := z_ifF c3 h
    refine z_iload_n hB 2 dX6_addCorner_11 rfl rfl ?_
    refine z_iconst hB dX6_addCorner_12 zcI_1 ?_
    refine z_bipush hB dX6_addCorner_13 zcB_50 ?_
    obtain ⟨r5, h4, h⟩ := z_b1E h
    refine z_cI hB (z_rN (ι := fun k => k) hB yY_X9_within (c_X9_within _ _ _ _ _ h4) rfl z_cut0 z_hno rfl rfl rfl (Nat.le_of_ble_eq_true rfl) (List.mem_of_getElem? (i := 15) rfl) ⟨Nat.le_of_ble_eq_true rfl, Nat.le_of_ble_eq_true rfl⟩ dX6_addCorner_15) z_cut0 z_hno ?_
    refine z_toA (z_mro (lay := layT) (lay' := z_lay0) (b := false) z_cut0) ?_
    refine z_if_eq hB (tgt := 41) dX6_addCorner_18 (by decide) (fun c6 => ?_) (fun c6 => ?_)
    · have h := z_ifT c6 h
      refine z_iconst hB dX6_addCorner_41 zcI_m1 ?_
      obtain ⟨h1, h2⟩ := z_prE h
      exact hret _ _ _ _ h1 h2 rfl dX6_addCorner_42
    · have h := z_ifF c6 h
      refine z_iload_n hB 3 dX6_addCorner_21 rfl rfl ?_
      refine z_iconst hB dX6_addCorner_22 zcI_0 ?_
      refine z_bipush hB dX6_addCorner_23 zcB_100 ?_
      obtain ⟨r8, h7, h⟩ := z_b1E h
      refine z_cI hB (z_rN (ι := fun k => k) hB yY_X9_within (c_X9_within _ _ _ _ _ h7) rfl z_cut0 z_hno rfl rfl rfl (Nat.le_of_ble_eq_true rfl) (List.mem_of_getElem? (i := 15) rfl) ⟨Nat.le_of_ble_eq_true rfl, Nat.le_of_ble_eq_true rfl⟩ dX6_addCorner_25) z_cut0 z_hno ?_
      refine z_toA (z_mro (lay := layT) (lay' := z_lay0) (b := false) z_cut0) ?_
      refine z_if_eq hB (tgt := 41) dX6_addCorner_28 (by decide) (fun c9 => ?_) (fun c9 => ?_)
      · have h := z_ifT c9 h
        refine z_iconst hB dX6_addCorner_41 zcI_m1 ?_
        obtain ⟨h1, h2⟩ := z_prE h
        exact hret _ _ _ _ h1 h2 rfl dX6_addCorner_42
      · have h := z_ifF c9 h
        refine z_iload hB 4 dX6_addCorner_31 rfl ?_
        refine z_iconst hB dX6_addCorner_33 zcI_0 ?_
        refine z_iconst hB dX6_addCorner_34 zcI_1 ?_
        obtain ⟨r11, h10, h⟩ := z_b1E h
        refine z_cI hB (z_rN (ι := fun k => k) hB yY_X9_within (c_X9_within _ _ _ _ _ h10) rfl z_cut0 z_hno rfl rfl rfl (Nat.le_of_ble_eq_true rfl) (List.mem_of_getElem? (i := 15) rfl) ⟨Nat.le_of_ble_eq_true rfl, Nat.le_of_ble_eq_true rfl⟩ dX6_addCorner_35) z_cut0 z_hno ?_
        refine z_toA (z_mro (lay := layT) (lay' := z_lay0) (b := false) z_cut0) ?_
        refine z_if_ne hB (tgt := 43) dX6_addCorner_38 (by decide) (fun c12 => ?_) (fun c12 => ?_)
        · have h := z_ifF c12 h
          refine z_aload_n hB 0 dX6_addCorner_43 rfl rfl ?_
          refine z_getr hB 0 4 2 kT_0 (Nat.le_of_ble_eq_true rfl) vc_6 inlX6 (Nat.le_of_ble_eq_true rfl) rfl (Nat.le_of_ble_eq_true rfl) fl_X6_28 dX6_addCorner_44 ?_
          refine z_get hB 2 0 kT_2 (Nat.le_of_ble_eq_true rfl) vc_4 inlX4 (Nat.le_of_ble_eq_true rfl) rfl fl_X6_78 dX6_addCorner_47 ?_
          refine z_bipush hB dX6_addCorner_50 zcB_20 ?_
          refine z_icmp_lt hB (tgt := 60) dX6_addCorner_52 (by decide) (fun c13 => ?_) (fun c13 => ?_)
          · have h := z_ifT c13 h
            refine z_aload_n hB 0 dX6_addCorner_60 rfl rfl ?_
            refine z_getr hB 0 4 2 kT_0 (Nat.le_of_ble_eq_true rfl) vc_6 inlX6 (Nat.le_of_ble_eq_true rfl) rfl (Nat.le_of_ble_eq_true rfl) fl_X6_28 dX6_addCorner_61 ?_
            refine z_iload_n hB 1 dX6_addCorner_64 rfl rfl ?_
            refine z_iload_n hB 2 dX6_addCorner_65 rfl rfl ?_
            refine z_iload_n hB 3 dX6_addCorner_66 rfl rfl ?_
            refine z_iload hB 4 dX6_addCorner_67 rfl ?_
            obtain ⟨r16, σ15, h14, h⟩ := z_b2E h
            refine z_cI hB (z_rV (ι := fun k => k) hB yY_X4_add (c_X4_add _ _ _ _ _ _ _ h14) rfl cut_T z_hid kT_2 (Nat.le_of_ble_eq_true rfl) vc_4 rfl rfl rfl (Nat.le_of_ble_eq_true rfl) ml_X6_81 ⟨Nat.le_of_ble_eq_true rfl, Nat.le_of_ble_eq_true rfl⟩ dX6_addCorner_69) cut_T z_hid ?_
            refine z_toA z_mid ?_
            obtain ⟨h1, h2⟩ := z_prE h
            exact hret _ _ _ _ h1 h2 rfl dX6_addCorner_72
          · have h := z_ifF c13 h
            refine z_bipush hB dX6_addCorner_55 zcB_m3 ?_
            refine z_goto hB (tgt := 72) dX6_addCorner_57 (by decide) ?_
            obtain ⟨h1, h2⟩ := z_prE h
            exact hret _ _ _ _ h1 h2 rfl dX6_addCorner_72
        · have h := z_ifT c12 h
          refine z_iconst hB dX6_addCorner_41 zcI_m1 ?_
          obtain ⟨h1, h2⟩ := z_prE h
          exact hret _ _ _ _ h1 h2 rfl dX6_addCorner_42
def f_X6_addHouse (p1 : Int32) (p2 : Int32) (p3 : Int32) (σ : z_S) : Option (Int32 × z_S) :=
  z_b1 (f_X4_has p1 σ) fun r2 =>
  if r2 = (0 : Int32) then
  (some ((-1 : Int32), σ))
  else
  (z_b1 (f_X9_within p2 (1 : Int32) (5 : Int32) σ) fun r5 =>
  if r5 = (0 : Int32) then
  (some ((-1 : Int32), σ))
  else
  (z_b1 (f_X9_within p3 (0 : Int32) (500 : Int32) σ) fun r8 =>
  if r8 = (0 : Int32) then
  (some ((-1 : Int32), σ))
  else
  (if (σ 11 0) < (24 : Int32) then
  (z_b2 (f_X2_add p1 p2 p3 σ) fun r13 σ12 =>
  some (r13, σ12))
  else
  (some ((-3 : Int32), σ)))))
set_option maxRecDepth 100000 in
set_option maxHeartbeats 4000000 in
theorem c_X6_addHouse (p1 : Int32) (p2 : Int32) (p3 : Int32) (σ : z_S) (r : Int32) (σz : z_S) (h : f_X6_addHouse p1 p2 p3 σ = some (r, σz)) : zMet yX6_addHouse cX6_addHouse 4 (some .int) 2 49 layT 38 (fun ad => [.ref (ad 0), .int p1, .int p2, .int p3]) σ (z_QI layT 38 r σz) := by
  refine z_headI RX6 (by decide) rfl (fun _ => Nat.le_of_ble_eq_true rfl) (fun E G A ad hB hret => ?_)
  show ZW E G A 4 layT 38 ad 0 [(0, .ref (ad 0)), (1, .int p1), (2, .int p2), (3, .int p3)] [] σ
  unfold f_X6_addHouse at h
  refine z_aload_n hB 0 dX6_addHouse_0 rfl rfl ?_
  refine z_getr hB 0 4 2 kT_0 (Nat.le_of_ble_eq_true rfl) vc_6 inlX6 (Nat.le_of_ble_eq_true rfl) rfl (Nat.le_of_ble_eq_true rfl) fl_X6_28 dX6_addHouse_1 ?_
  refine z_iload_n hB 1 dX6_addHouse_4 rfl rfl ?_
  obtain ⟨r2, h1, h⟩ := z_b1E h
  refine z_cI hB (z_rV (ι := fun k => k) hB yY_X4_has (c_X4_has _ _ _ h1) rfl cut_T z_hid kT_2 (Nat.le_of_ble_eq_true rfl) vc_4 rfl rfl rfl (Nat.le_of_ble_eq_true rfl) ml_X6_70 ⟨Nat.le_of_ble_eq_true rfl, Nat.le_of_ble_eq_true rfl⟩ dX6_addHouse_5) cut_T z_hid ?_
  refine z_toA (z_mro cut_T) ?_
  refine z_if_eq hB (tgt := 31) dX6_addHouse_8 (by decide) (fun c3 => ?_) (fun c3 => ?_)
  · have h := z_ifT c3 h
    refine z_iconst hB dX6_addHouse_31 zcI_m1 ?_
    obtain ⟨h1, h2⟩ := z_prE h
    exact hret _ _ _ _ h1 h2 rfl dX6_addHouse_32
  · have h := z_ifF c3 h
    refine z_iload_n hB 2 dX6_addHouse_11 rfl rfl ?_
    refine z_iconst hB dX6_addHouse_12 zcI_1 ?_
    refine z_iconst hB dX6_addHouse_13 zcI_5 ?_
    obtain ⟨r5, h4, h⟩ := z_b1E h
    refine z_cI hB (z_rN (ι := fun k => k) hB yY_X9_within (c_X9_within _ _ _ _ _ h4) rfl z_cut0 z_hno rfl rfl rfl (Nat.le_of_ble_eq_true rfl) (List.mem_of_getElem? (i := 15) rfl) ⟨Nat.le_of_ble_eq_true rfl, Nat.le_of_ble_eq_true rfl⟩ dX6_addHouse_14) z_cut0 z_hno ?_
    refine z_toA (z_mro (lay := layT) (lay' := z_lay0) (b := false) z_cut0) ?_
    refine z_if_eq hB (tgt := 31) dX6_addHouse_17 (by decide) (fun c6 => ?_) (fun c6 => ?_)
    · have h := z_ifT c6 h
      refine z_iconst hB dX6_addHouse_31 zcI_m1 ?_
      obtain ⟨h1, h2⟩ := z_prE h
      exact hret _ _ _ _ h1 h2 rfl dX6_addHouse_32
    · have h := z_ifF c6 h
      refine z_iload_n hB 3 dX6_addHouse_20 rfl rfl ?_
      refine z_iconst hB dX6_addHouse_21 zcI_0 ?_
      refine z_sipush hB dX6_addHouse_22 zcS_500 ?_
      obtain ⟨r8, h7, h⟩ := z_b1E h
      refine z_cI hB (z_rN (ι := fun k => k) hB yY_X9_within (c_X9_within _ _ _ _ _ h7) rfl z_cut0 z_hno rfl rfl rfl (Nat.le_of_ble_eq_true rfl) (List.mem_of_getElem? (i := 15) rfl) ⟨Nat.le_of_ble_eq_true rfl, Nat.le_of_ble_eq_true rfl⟩ dX6_addHouse_25) z_cut0 z_hno ?_
      refine z_toA (z_mro (lay := layT) (lay' := z_lay0) (b := false) z_cut0) ?_
      refine z_if_ne hB (tgt := 33) dX6_addHouse_28 (by decide) (fun c9 => ?_) (fun c9 => ?_)
      · have h := z_ifF c9 h
        refine z_aload_n hB 0 dX6_addHouse_33 rfl rfl ?_
        refine z_getr hB 0 5 11 kT_0 (Nat.le_of_ble_eq_true rfl) vc_6 inlX6 (Nat.le_of_ble_eq_true rfl) rfl (Nat.le_of_ble_eq_true rfl) fl_X6_35 dX6_addHouse_34 ?_
        refine z_get hB 11 0 kT_11 (Nat.le_of_ble_eq_true rfl) vc_2 inlX2 (Nat.le_of_ble_eq_true rfl) rfl fl_X6_85 dX6_addHouse_37 ?_
        refine z_bipush hB dX6_addHouse_40 zcB_24 ?_
        refine z_icmp_lt hB (tgt := 50) dX6_addHouse_42 (by decide) (fun c10 => ?_) (fun c10 => ?_)
        · have h := z_ifT c10 h
          refine z_aload_n hB 0 dX6_addHouse_50 rfl rfl ?_
          refine z_getr hB 0 5 11 kT_0 (Nat.le_of_ble_eq_true rfl) vc_6 inlX6 (Nat.le_of_ble_eq_true rfl) rfl (Nat.le_of_ble_eq_true rfl) fl_X6_35 dX6_addHouse_51 ?_
          refine z_aload_n hB 0 dX6_addHouse_54 rfl rfl ?_
          refine z_getr hB 0 4 2 kT_0 (Nat.le_of_ble_eq_true rfl) vc_6 inlX6 (Nat.le_of_ble_eq_true rfl) rfl (Nat.le_of_ble_eq_true rfl) fl_X6_28 dX6_addHouse_55 ?_
          refine z_iload_n hB 1 dX6_addHouse_58 rfl rfl ?_
          refine z_iload_n hB 2 dX6_addHouse_59 rfl rfl ?_
          refine z_iload_n hB 3 dX6_addHouse_60 rfl rfl ?_
          obtain ⟨r13, σ12, h11, h⟩ := z_b2E h
          refine z_cI hB (z_rV (ι := fun k => k) hB yY_X2_add (c_X2_add _ _ _ _ _ _ h11) rfl cut_T z_hid kT_11 (Nat.le_of_ble_eq_true rfl) vc_2 rfl rfl rfl (Nat.le_of_ble_eq_true rfl) ml_X6_86 ⟨Nat.le_of_ble_eq_true rfl, Nat.le_of_ble_eq_true rfl⟩ dX6_addHouse_61) cut_T z_hid ?_
          refine z_toA z_mid ?_
          obtain ⟨h1, h2⟩ := z_prE h
          exact hret _ _ _ _ h1 h2 rfl dX6_addHouse_64
        · have h := z_ifF c10 h
          refine z_bipush hB dX6_addHouse_45 zcB_m3 ?_
          refine z_goto hB (tgt := 64) dX6_addHouse_47 (by decide) ?_
          obtain ⟨h1, h2⟩ := z_prE h
          exact hret _ _ _ _ h1 h2 rfl dX6_addHouse_64
      · have h := z_ifT c9 h
        refine z_iconst hB dX6_addHouse_31 zcI_m1 ?_
        obtain ⟨h1, h2⟩ := z_prE h
        exact hret _ _ _ _ h1 h2 rfl dX6_addHouse_32
def f_X6_changeDog (p1 : Int32) (p2 : Int32) (p3 : Int32) (σ : z_S) : Option (Int32 × z_S) :=
  z_let (fun (y1 : Int32) => z_b1 (f_X2_has p1 σ) fun r4 =>
  if r4 = (0 : Int32) then
  (some ((-1 : Int32), σ))
  else
  (if y1 = (0 : Int32) then
  (some ((-1 : Int32), σ))
  else
  (z_b1 (f_X9_within p3 (0 : Int32) (8 : Int32) σ) fun r8 =>
  if r8 = (0 : Int32) then
  (some ((-1 : Int32), σ))
  else
  (z_cki p1 24 <|
  z_let (σ 16 p1.toNatClampNeg) fun x11 =>
  z_cki p1 24 <|
  z_let (z_u σ 16 p1.toNatClampNeg (p2)) fun σ13 =>
  z_cki p1 24 <|
  z_let (z_u σ13 17 p1.toNatClampNeg (p3)) fun σ15 =>
  some (x11, σ15))))) fun j2 =>
  z_let (fun (_ : Unit) => j2 (1 : Int32)) fun j16 =>
  if p2 = (0 : Int32) then
  (j16 ())
  else
  (z_b1 (f_X9_within p2 (2 : Int32) (9 : Int32) σ) fun r19 =>
  if r19 = (0 : Int32) then
  (j2 (0 : Int32))
  else
  (j16 ()))
set_option maxRecDepth 100000 in
set_option maxHeartbeats 4000000 in
theorem c_X6_changeDog (p1 : Int32) (p2 : Int32) (p3 : Int32) (σ : z_S) (r : Int32) (σz : z_S) (h : f_X6_changeDog p1 p2 p3 σ = some (r, σz)) : zMet yX6_changeDog cX6_changeDog 6 (some .int) 2 43 layT 38 (fun ad => [.ref (ad 0), .int p1, .int p2, .int p3]) σ (z_QI layT 38 r σz) := by
  refine z_headI RX6 (by decide) rfl (fun _ => Nat.le_of_ble_eq_true rfl) (fun E G A ad hB hret => ?_)
  show ZW E G A 6 layT 38 ad 0 [(0, .ref (ad 0)), (1, .int p1), (2, .int p2), (3, .int p3)] [] σ
  unfold f_X6_changeDog at h
  refine z_iload_n hB 2 dX6_changeDog_0 rfl rfl ?_
  obtain ⟨j2, ej2, h⟩ := z_letE h
  have hj2 : ∀ (y1 : Int32), j2 y1 = some (r, σz) → ZW E G A 6 layT 38 ad 19 [(0, .ref (ad 0)), (1, .int p1), (2, .int p2), (3, .int p3)] [.int y1] σ := by
    intro y1 h
    rw [ej2] at h
    refine z_istore hB [(4, .int y1), (0, .ref (ad 0)), (1, .int p1), (2, .int p2), (3, .int p3)] dX6_changeDog_19 (Nat.le_of_ble_eq_true rfl) rfl rfl ?_
    refine z_aload_n hB 1 dX6_changeDog_21 rfl rfl ?_
    refine z_getr hB 0 5 11 kT_0 (Nat.le_of_ble_eq_true rfl) vc_6 inlX6 (Nat.le_of_ble_eq_true rfl) rfl (Nat.le_of_ble_eq_true rfl) fl_X6_35 dX6_changeDog_22 ?_
    refine z_iload_n hB 2 dX6_changeDog_25 rfl rfl ?_
    obtain ⟨r4, h3, h⟩ := z_b1E h
    refine z_cI hB (z_rV (ι := fun k => k) hB yY_X2_has (c_X2_has _ _ _ h3) rfl cut_T z_hid kT_11 (Nat.le_of_ble_eq_true rfl) vc_2 rfl rfl rfl (Nat.le_of_ble_eq_true rfl) ml_X6_89 ⟨Nat.le_of_ble_eq_true rfl, Nat.le_of_ble_eq_true rfl⟩ dX6_changeDog_26) cut_T z_hid ?_
    refine z_toA (z_mro cut_T) ?_
    refine z_if_eq hB (tgt := 47) dX6_changeDog_29 (by decide) (fun c5 => ?_) (fun c5 => ?_)
    · have h := z_ifT c5 h
      refine z_iconst hB dX6_changeDog_47 zcI_m1 ?_
      obtain ⟨h1, h2⟩ := z_prE h
      exact hret _ _ _ _ h1 h2 rfl dX6_changeDog_48
    · have h := z_ifF c5 h
      refine z_iload hB 0 dX6_changeDog_32 rfl ?_
      refine z_if_eq hB (tgt := 47) dX6_changeDog_34 (by decide) (fun c6 => ?_) (fun c6 => ?_)
      · have h := z_ifT c6 h
        refine z_iconst hB dX6_changeDog_47 zcI_m1 ?_
        obtain ⟨h1, h2⟩ := z_prE h
        exact hret _ _ _ _ h1 h2 rfl dX6_changeDog_48
      · have h := z_ifF c6 h
        refine z_iload_n hB 4 dX6_changeDog_37 rfl rfl ?_
        refine z_iconst hB dX6_changeDog_38 zcI_0 ?_
        refine z_bipush hB dX6_changeDog_39 zcB_8 ?_
        obtain ⟨r8, h7, h⟩ := z_b1E h
        refine z_cI hB (z_rN (ι := fun k => k) hB yY_X9_within (c_X9_within _ _ _ _ _ h7) rfl z_cut0 z_hno rfl rfl rfl (Nat.le_of_ble_eq_true rfl) (List.mem_of_getElem? (i := 15) rfl) ⟨Nat.le_of_ble_eq_true rfl, Nat.le_of_ble_eq_true rfl⟩ dX6_changeDog_41) z_cut0 z_hno ?_
        refine z_toA (z_mro (lay := layT) (lay' := z_lay0) (b := false) z_cut0) ?_
        refine z_if_ne hB (tgt := 49) dX6_changeDog_44 (by decide) (fun c9 => ?_) (fun c9 => ?_)
        · have h := z_ifF c9 h
          refine z_aload_n hB 1 dX6_changeDog_49 rfl rfl ?_
          refine z_getr hB 0 5 11 kT_0 (Nat.le_of_ble_eq_true rfl) vc_6 inlX6 (Nat.le_of_ble_eq_true rfl) rfl (Nat.le_of_ble_eq_true rfl) fl_X6_35 dX6_changeDog_50 ?_
          refine z_getr hB 11 5 16 kT_11 (Nat.le_of_ble_eq_true rfl) vc_2 inlX2 (Nat.le_of_ble_eq_true rfl) rfl (Nat.le_of_ble_eq_true rfl) fl_X6_90 dX6_changeDog_53 ?_
          refine z_iload_n hB 2 dX6_changeDog_56 rfl rfl ?_
          obtain ⟨h10, h⟩ := z_ckiE h
          refine z_iald hB 16 24 kT_16 (Nat.le_of_ble_eq_true rfl) dX6_changeDog_57 h10 ?_
          obtain ⟨x11, ex11, h⟩ := z_letE h
          refine z_istore hB [(5, .int x11), (4, .int y1), (0, .ref (ad 0)), (1, .int p1), (2, .int p2), (3, .int p3)] dX6_changeDog_58 (Nat.le_of_ble_eq_true rfl) ex11 rfl ?_
          refine z_aload_n hB 2 dX6_changeDog_60 rfl rfl ?_
          refine z_getr hB 0 5 11 kT_0 (Nat.le_of_ble_eq_true rfl) vc_6 inlX6 (Nat.le_of_ble_eq_true rfl) rfl (Nat.le_of_ble_eq_true rfl) fl_X6_35 dX6_changeDog_61 ?_
          refine z_getr hB 11 5 16 kT_11 (Nat.le_of_ble_eq_true rfl) vc_2 inlX2 (Nat.le_of_ble_eq_true rfl) rfl (Nat.le_of_ble_eq_true rfl) fl_X6_90 dX6_changeDog_64 ?_
          refine z_iload_n hB 3 dX6_changeDog_67 rfl rfl ?_
          refine z_iload_n hB 4 dX6_changeDog_68 rfl rfl ?_
          obtain ⟨h12, h⟩ := z_ckiE h
          obtain ⟨σ13, eσ13, h⟩ := z_letE h
          refine z_iast hB 16 24 kT_16 (Nat.le_of_ble_eq_true rfl) dX6_changeDog_69 h12 ?_
          refine z_to eσ13 ?_
          refine z_aload_n hB 2 dX6_changeDog_70 rfl rfl ?_
          refine z_getr hB 0 5 11 kT_0 (Nat.le_of_ble_eq_true rfl) vc_6 inlX6 (Nat.le_of_ble_eq_true rfl) rfl (Nat.le_of_ble_eq_true rfl) fl_X6_35 dX6_changeDog_71 ?_
          refine z_getr hB 11 6 17 kT_11 (Nat.le_of_ble_eq_true rfl) vc_2 inlX2 (Nat.le_of_ble_eq_true rfl) rfl (Nat.le_of_ble_eq_true rfl) fl_X6_93 dX6_changeDog_74 ?_
          refine z_iload_n hB 3 dX6_changeDog_77 rfl rfl ?_
          refine z_iload_n hB 5 dX6_changeDog_78 rfl rfl ?_
          obtain ⟨h14, h⟩ := z_ckiE h
          obtain ⟨σ15, eσ15, h⟩ := z_letE h
          refine z_iast hB 17 24 kT_17 (Nat.le_of_ble_eq_true rfl) dX6_changeDog_79 h14 ?_
          refine z_to eσ15 ?_
          refine z_iload hB 0 dX6_changeDog_80 rfl ?_
          obtain ⟨h1, h2⟩ := z_prE h
          exact hret _ _ _ _ h1 h2 rfl dX6_changeDog_82
        · have h := z_ifT c9 h
          refine z_iconst hB dX6_changeDog_47 zcI_m1 ?_
          obtain ⟨h1, h2⟩ := z_prE h
          exact hret _ _ _ _ h1 h2 rfl dX6_changeDog_48
  obtain ⟨j16, ej16, h⟩ := z_letE h
  have hj16 : ∀ (_ : Unit), j16 () = some (r, σz) → ZW E G A 6 layT 38 ad 14 [(0, .ref (ad 0)), (1, .int p1), (2, .int p2), (3, .int p3)] [] σ := by
    intro _ h
    rw [ej16] at h
    refine z_iconst hB dX6_changeDog_14 zcI_1 ?_
    refine z_goto hB (tgt := 19) dX6_changeDog_15 (by decide) ?_
    exact hj2 _ h
  refine z_if_eq hB (tgt := 14) dX6_changeDog_1 (by decide) (fun c17 => ?_) (fun c17 => ?_)
  · have h := z_ifT c17 h
    exact hj16 () h
  · have h := z_ifF c17 h
    refine z_iload_n hB 2 dX6_changeDog_4 rfl rfl ?_
    refine z_iconst hB dX6_changeDog_5 zcI_2 ?_
    refine z_bipush hB dX6_changeDog_6 zcB_9 ?_
    obtain ⟨r19, h18, h⟩ := z_b1E h
    refine z_cI hB (z_rN (ι := fun k => k) hB yY_X9_within (c_X9_within _ _ _ _ _ h18) rfl z_cut0 z_hno rfl rfl rfl (Nat.le_of_ble_eq_true rfl) (List.mem_of_getElem? (i := 15) rfl) ⟨Nat.le_of_ble_eq_true rfl, Nat.le_of_ble_eq_true rfl⟩ dX6_changeDog_8) z_cut0 z_hno ?_
    refine z_toA (z_mro (lay := layT) (lay' := z_lay0) (b := false) z_cut0) ?_
    refine z_if_eq hB (tgt := 18) dX6_changeDog_11 (by decide) (fun c20 => ?_) (fun c20 => ?_)
    · have h := z_ifT c20 h
      refine z_iconst hB dX6_changeDog_18 zcI_0 ?_
      exact hj2 _ h
    · have h := z_ifF c20 h
      exact hj16 () h
def f_X6_addPause (p1 : Int32) (p2 : Int32) (p3 : Int32) (σ : z_S) : Option (Int32 × z_S) :=
  z_b1 (f_X2_has p1 σ) fun r2 =>
  if r2 = (0 : Int32) then
  (some ((-1 : Int32), σ))
  else
  (z_b1 (f_X9_within p2 (σ 0 0) (999 : Int32) σ) fun r5 =>
  if r5 = (0 : Int32) then
  (some ((-1 : Int32), σ))
  else
  (z_b1 (f_X9_within p3 p2 (999 : Int32) σ) fun r8 =>
  if r8 = (0 : Int32) then
  (some ((-1 : Int32), σ))
  else
  (if (σ 26 0) < (30 : Int32) then
  (z_b2 (f_X3_add p1 p2 p3 σ) fun r13 σ12 =>
  some (r13, σ12))
  else
  (some ((-3 : Int32), σ)))))
set_option maxRecDepth 100000 in
set_option maxHeartbeats 4000000 in
theorem c_X6_addPause (p1 : Int32) (p2 : Int32) (p3 : Int32) (σ : z_S) (r : Int32) (σz : z_S) (h : f_X6_addPause p1 p2 p3 σ = some (r, σz)) : zMet yX6_addPause cX6_addPause 4 (some .int) 2 43 layT 38 (fun ad => [.ref (ad 0), .int p1, .int p2, .int p3]) σ (z_QI layT 38 r σz) := by
  refine z_headI RX6 (by decide) rfl (fun _ => Nat.le_of_ble_eq_true rfl) (fun E G A ad hB hret => ?_)
  show ZW E G A 4 layT 38 ad 0 [(0, .ref (ad 0)), (1, .int p1), (2, .int p2), (3, .int p3)] [] σ
  unfold f_X6_addPause at h
  refine z_aload_n hB 0 dX6_addPause_0 rfl rfl ?_
  refine z_getr hB 0 5 11 kT_0 (Nat.le_of_ble_eq_true rfl) vc_6 inlX6 (Nat.le_of_ble_eq_true rfl) rfl (Nat.le_of_ble_eq_true rfl) fl_X6_35 dX6_addPause_1 ?_
  refine z_iload_n hB 1 dX6_addPause_4 rfl rfl ?_
  obtain ⟨r2, h1, h⟩ := z_b1E h
  refine z_cI hB (z_rV (ι := fun k => k) hB yY_X2_has (c_X2_has _ _ _ h1) rfl cut_T z_hid kT_11 (Nat.le_of_ble_eq_true rfl) vc_2 rfl rfl rfl (Nat.le_of_ble_eq_true rfl) ml_X6_89 ⟨Nat.le_of_ble_eq_true rfl, Nat.le_of_ble_eq_true rfl⟩ dX6_addPause_5) cut_T z_hid ?_
  refine z_toA (z_mro cut_T) ?_
  refine z_if_eq hB (tgt := 36) dX6_addPause_8 (by decide) (fun c3 => ?_) (fun c3 => ?_)
  · have h := z_ifT c3 h
    refine z_iconst hB dX6_addPause_36 zcI_m1 ?_
    obtain ⟨h1, h2⟩ := z_prE h
    exact hret _ _ _ _ h1 h2 rfl dX6_addPause_37
  · have h := z_ifF c3 h
    refine z_iload_n hB 2 dX6_addPause_11 rfl rfl ?_
    refine z_aload_n hB 0 dX6_addPause_12 rfl rfl ?_
    refine z_get hB 0 0 kT_0 (Nat.le_of_ble_eq_true rfl) vc_6 inlX6 (Nat.le_of_ble_eq_true rfl) rfl fl_X6_9 dX6_addPause_13 ?_
    refine z_sipush hB dX6_addPause_16 zcS_999 ?_
    obtain ⟨r5, h4, h⟩ := z_b1E h
    refine z_cI hB (z_rN (ι := fun k => k) hB yY_X9_within (c_X9_within _ _ _ _ _ h4) rfl z_cut0 z_hno rfl rfl rfl (Nat.le_of_ble_eq_true rfl) (List.mem_of_getElem? (i := 15) rfl) ⟨Nat.le_of_ble_eq_true rfl, Nat.le_of_ble_eq_true rfl⟩ dX6_addPause_19) z_cut0 z_hno ?_
    refine z_toA (z_mro (lay := layT) (lay' := z_lay0) (b := false) z_cut0) ?_
    refine z_if_eq hB (tgt := 36) dX6_addPause_22 (by decide) (fun c6 => ?_) (fun c6 => ?_)
    · have h := z_ifT c6 h
      refine z_iconst hB dX6_addPause_36 zcI_m1 ?_
      obtain ⟨h1, h2⟩ := z_prE h
      exact hret _ _ _ _ h1 h2 rfl dX6_addPause_37
    · have h := z_ifF c6 h
      refine z_iload_n hB 3 dX6_addPause_25 rfl rfl ?_
      refine z_iload_n hB 2 dX6_addPause_26 rfl rfl ?_
      refine z_sipush hB dX6_addPause_27 zcS_999 ?_
      obtain ⟨r8, h7, h⟩ := z_b1E h
      refine z_cI hB (z_rN (ι := fun k => k) hB yY_X9_within (c_X9_within _ _ _ _ _ h7) rfl z_cut0 z_hno rfl rfl rfl (Nat.le_of_ble_eq_true rfl) (List.mem_of_getElem? (i := 15) rfl) ⟨Nat.le_of_ble_eq_true rfl, Nat.le_of_ble_eq_true rfl⟩ dX6_addPause_30) z_cut0 z_hno ?_
      refine z_toA (z_mro (lay := layT) (lay' := z_lay0) (b := false) z_cut0) ?_
      refine z_if_ne hB (tgt := 38) dX6_addPause_33 (by decide) (fun c9 => ?_) (fun c9 => ?_)
      · have h := z_ifF c9 h
        refine z_aload_n hB 0 dX6_addPause_38 rfl rfl ?_
        refine z_getr hB 0 6 26 kT_0 (Nat.le_of_ble_eq_true rfl) vc_6 inlX6 (Nat.le_of_ble_eq_true rfl) rfl (Nat.le_of_ble_eq_true rfl) fl_X6_42 dX6_addPause_39 ?_
        refine z_get hB 26 0 kT_26 (Nat.le_of_ble_eq_true rfl) vc_3 inlX3 (Nat.le_of_ble_eq_true rfl) rfl fl_X6_96 dX6_addPause_42 ?_
        refine z_bipush hB dX6_addPause_45 zcB_30 ?_
        refine z_icmp_lt hB (tgt := 55) dX6_addPause_47 (by decide) (fun c10 => ?_) (fun c10 => ?_)
        · have h := z_ifT c10 h
          refine z_aload_n hB 0 dX6_addPause_55 rfl rfl ?_
          refine z_getr hB 0 6 26 kT_0 (Nat.le_of_ble_eq_true rfl) vc_6 inlX6 (Nat.le_of_ble_eq_true rfl) rfl (Nat.le_of_ble_eq_true rfl) fl_X6_42 dX6_addPause_56 ?_
          refine z_iload_n hB 1 dX6_addPause_59 rfl rfl ?_
          refine z_iload_n hB 2 dX6_addPause_60 rfl rfl ?_
          refine z_iload_n hB 3 dX6_addPause_61 rfl rfl ?_
          obtain ⟨r13, σ12, h11, h⟩ := z_b2E h
          refine z_cI hB (z_rV (ι := fun k => k) hB yY_X3_add (c_X3_add _ _ _ _ _ _ h11) rfl cut_T z_hid kT_26 (Nat.le_of_ble_eq_true rfl) vc_3 rfl rfl rfl (Nat.le_of_ble_eq_true rfl) ml_X6_97 ⟨Nat.le_of_ble_eq_true rfl, Nat.le_of_ble_eq_true rfl⟩ dX6_addPause_62) cut_T z_hid ?_
          refine z_toA z_mid ?_
          obtain ⟨h1, h2⟩ := z_prE h
          exact hret _ _ _ _ h1 h2 rfl dX6_addPause_65
        · have h := z_ifF c10 h
          refine z_bipush hB dX6_addPause_50 zcB_m3 ?_
          refine z_goto hB (tgt := 65) dX6_addPause_52 (by decide) ?_
          obtain ⟨h1, h2⟩ := z_prE h
          exact hret _ _ _ _ h1 h2 rfl dX6_addPause_65
      · have h := z_ifT c9 h
        refine z_iconst hB dX6_addPause_36 zcI_m1 ?_
        obtain ⟨h1, h2⟩ := z_prE h
        exact hret _ _ _ _ h1 h2 rfl dX6_addPause_37
def f_X6_addCarrier (p1 : Int32) (p2 : Int32) (σ : z_S) : Option (Int32 × z_S) :=
  z_b1 (f_X9_within p1 (0 : Int32) (1 : Int32) σ) fun r2 =>
  if r2 = (0 : Int32) then
  (some ((-1 : Int32), σ))
  else
  (z_b1 (f_X9_within p2 (10 : Int32) (500 : Int32) σ) fun r5 =>
  if r5 = (0 : Int32) then
  (some ((-1 : Int32), σ))
  else
  (if (σ 30 0) < (3 : Int32) then
  (z_b2 (f_X0_add p1 p2 σ) fun r10 σ9 =>
  some (r10, σ9))
  else
  (some ((-3 : Int32), σ))))
set_option maxRecDepth 100000 in
set_option maxHeartbeats 4000000 in
theorem c_X6_addCarrier (p1 : Int32) (p2 : Int32) (σ : z_S) (r : Int32) (σz : z_S) (h : f_X6_addCarrier p1 p2 σ = some (r, σz)) : zMet yX6_addCarrier cX6_addCarrier 3 (some .int) 1 23 layT 38 (fun ad => [.ref (ad 0), .int p1, .int p2]) σ (z_QI layT 38 r σz) := by
  refine z_headI RX6 (by decide) rfl (fun _ => Nat.le_of_ble_eq_true rfl) (fun E G A ad hB hret => ?_)
  show ZW E G A 3 layT 38 ad 0 [(0, .ref (ad 0)), (1, .int p1), (2, .int p2)] [] σ
  unfold f_X6_addCarrier at h
  refine z_iload_n hB 1 dX6_addCarrier_0 rfl rfl ?_
  refine z_iconst hB dX6_addCarrier_1 zcI_0 ?_
  refine z_iconst hB dX6_addCarrier_2 zcI_1 ?_
  obtain ⟨r2, h1, h⟩ := z_b1E h
  refine z_cI hB (z_rN (ι := fun k => k) hB yY_X9_within (c_X9_within _ _ _ _ _ h1) rfl z_cut0 z_hno rfl rfl rfl (Nat.le_of_ble_eq_true rfl) (List.mem_of_getElem? (i := 15) rfl) ⟨Nat.le_of_ble_eq_true rfl, Nat.le_of_ble_eq_true rfl⟩ dX6_addCarrier_3) z_cut0 z_hno ?_
  refine z_toA (z_mro (lay := layT) (lay' := z_lay0) (b := false) z_cut0) ?_
  refine z_if_eq hB (tgt := 21) dX6_addCarrier_6 (by decide) (fun c3 => ?_) (fun c3 => ?_)
  · have h := z_ifT c3 h
    refine z_iconst hB dX6_addCarrier_21 zcI_m1 ?_
    obtain ⟨h1, h2⟩ := z_prE h
    exact hret _ _ _ _ h1 h2 rfl dX6_addCarrier_22
  · have h := z_ifF c3 h
    refine z_iload_n hB 2 dX6_addCarrier_9 rfl rfl ?_
    refine z_bipush hB dX6_addCarrier_10 zcB_10 ?_
    refine z_sipush hB dX6_addCarrier_12 zcS_500 ?_
    obtain ⟨r5, h4, h⟩ := z_b1E h
    refine z_cI hB (z_rN (ι := fun k => k) hB yY_X9_within (c_X9_within _ _ _ _ _ h4) rfl z_cut0 z_hno rfl rfl rfl (Nat.le_of_ble_eq_true rfl) (List.mem_of_getElem? (i := 15) rfl) ⟨Nat.le_of_ble_eq_true rfl, Nat.le_of_ble_eq_true rfl⟩ dX6_addCarrier_15) z_cut0 z_hno ?_
    refine z_toA (z_mro (lay := layT) (lay' := z_lay0) (b := false) z_cut0) ?_
    refine z_if_ne hB (tgt := 23) dX6_addCarrier_18 (by decide) (fun c6 => ?_) (fun c6 => ?_)
    · have h := z_ifF c6 h
      refine z_aload_n hB 0 dX6_addCarrier_23 rfl rfl ?_
      refine z_getr hB 0 7 30 kT_0 (Nat.le_of_ble_eq_true rfl) vc_6 inlX6 (Nat.le_of_ble_eq_true rfl) rfl (Nat.le_of_ble_eq_true rfl) fl_X6_49 dX6_addCarrier_24 ?_
      refine z_get hB 30 0 kT_30 (Nat.le_of_ble_eq_true rfl) vc_0 inlX0 (Nat.le_of_ble_eq_true rfl) rfl fl_X6_100 dX6_addCarrier_27 ?_
      refine z_iconst hB dX6_addCarrier_30 zcI_3 ?_
      refine z_icmp_lt hB (tgt := 39) dX6_addCarrier_31 (by decide) (fun c7 => ?_) (fun c7 => ?_)
      · have h := z_ifT c7 h
        refine z_aload_n hB 0 dX6_addCarrier_39 rfl rfl ?_
        refine z_getr hB 0 7 30 kT_0 (Nat.le_of_ble_eq_true rfl) vc_6 inlX6 (Nat.le_of_ble_eq_true rfl) rfl (Nat.le_of_ble_eq_true rfl) fl_X6_49 dX6_addCarrier_40 ?_
        refine z_iload_n hB 1 dX6_addCarrier_43 rfl rfl ?_
        refine z_iload_n hB 2 dX6_addCarrier_44 rfl rfl ?_
        obtain ⟨r10, σ9, h8, h⟩ := z_b2E h
        refine z_cI hB (z_rV (ι := fun k => k) hB yY_X0_add (c_X0_add _ _ _ _ _ h8) rfl cut_T z_hid kT_30 (Nat.le_of_ble_eq_true rfl) vc_0 rfl rfl rfl (Nat.le_of_ble_eq_true rfl) ml_X6_101 ⟨Nat.le_of_ble_eq_true rfl, Nat.le_of_ble_eq_true rfl⟩ dX6_addCarrier_45) cut_T z_hid ?_
        refine z_toA z_mid ?_
        obtain ⟨h1, h2⟩ := z_prE h
        exact hret _ _ _ _ h1 h2 rfl dX6_addCarrier_48
      · have h := z_ifF c7 h
        refine z_bipush hB dX6_addCarrier_34 zcB_m3 ?_
        refine z_goto hB (tgt := 48) dX6_addCarrier_36 (by decide) ?_
        obtain ⟨h1, h2⟩ := z_prE h
        exact hret _ _ _ _ h1 h2 rfl dX6_addCarrier_48
    · have h := z_ifT c6 h
      refine z_iconst hB dX6_addCarrier_21 zcI_m1 ?_
      obtain ⟨h1, h2⟩ := z_prE h
      exact hret _ _ _ _ h1 h2 rfl dX6_addCarrier_22
def f_X6_canReach (p1 : Int32) (p2 : Int32) (σ : z_S) : Option Int32 :=
  z_cki p1 3 <|
  if (σ 31 p1.toNatClampNeg) = (0 : Int32) then
  (some ((1 : Int32)))
  else
  (z_cki p2 24 <|
  z_cki (σ 12 p2.toNatClampNeg) 20 <|
  if (σ 9 (σ 12 p2.toNatClampNeg).toNatClampNeg) = (1 : Int32) then
  (some ((1 : Int32)))
  else
  (some ((0 : Int32))))
set_option maxRecDepth 100000 in
set_option maxHeartbeats 4000000 in
theorem c_X6_canReach (p1 : Int32) (p2 : Int32) (σ : z_S) (r : Int32) (h : f_X6_canReach p1 p2 σ = some r) : zMet yX6_canReach cX6_canReach 3 (some .boolean) 0 0 layT 38 (fun ad => [.ref (ad 0), .int p1, .int p2]) σ (z_QI layT 38 r σ) := by
  refine z_headI RX6 (by decide) rfl (fun _ => Nat.le_of_ble_eq_true rfl) (fun E G A ad hB hret => ?_)
  show ZW E G A 3 layT 38 ad 0 [(0, .ref (ad 0)), (1, .int p1), (2, .int p2)] [] σ
  unfold f_X6_canReach at h
  refine z_aload_n hB 0 dX6_canReach_0 rfl rfl ?_
  refine z_getr hB 0 7 30 kT_0 (Nat.le_of_ble_eq_true rfl) vc_6 inlX6 (Nat.le_of_ble_eq_true rfl) rfl (Nat.le_of_ble_eq_true rfl) fl_X6_49 dX6_canReach_1 ?_
  refine z_getr hB 30 1 31 kT_30 (Nat.le_of_ble_eq_true rfl) vc_0 inlX0 (Nat.le_of_ble_eq_true rfl) rfl (Nat.le_of_ble_eq_true rfl) fl_X6_198 dX6_canReach_4 ?_
  refine z_iload_n hB 1 dX6_canReach_7 rfl rfl ?_
  obtain ⟨h1, h⟩ := z_ckiE h
  refine z_iald hB 31 3 kT_31 (Nat.le_of_ble_eq_true rfl) dX6_canReach_8 h1 ?_
  refine z_if_eq hB (tgt := 33) dX6_canReach_9 (by decide) (fun c2 => ?_) (fun c2 => ?_)
  · have h := z_ifT c2 h
    refine z_iconst hB dX6_canReach_33 zcI_1 ?_
    refine z_goto hB (tgt := 38) dX6_canReach_34 (by decide) ?_
    exact hret _ _ _ _ (Option.some.inj h) rfl rfl dX6_canReach_38
  · have h := z_ifF c2 h
    refine z_aload_n hB 0 dX6_canReach_12 rfl rfl ?_
    refine z_getr hB 0 4 2 kT_0 (Nat.le_of_ble_eq_true rfl) vc_6 inlX6 (Nat.le_of_ble_eq_true rfl) rfl (Nat.le_of_ble_eq_true rfl) fl_X6_28 dX6_canReach_13 ?_
    refine z_getr hB 2 7 9 kT_2 (Nat.le_of_ble_eq_true rfl) vc_4 inlX4 (Nat.le_of_ble_eq_true rfl) rfl (Nat.le_of_ble_eq_true rfl) fl_X6_201 dX6_canReach_16 ?_
    refine z_aload_n hB 0 dX6_canReach_19 rfl rfl ?_
    refine z_getr hB 0 5 11 kT_0 (Nat.le_of_ble_eq_true rfl) vc_6 inlX6 (Nat.le_of_ble_eq_true rfl) rfl (Nat.le_of_ble_eq_true rfl) fl_X6_35 dX6_canReach_20 ?_
    refine z_getr hB 11 1 12 kT_11 (Nat.le_of_ble_eq_true rfl) vc_2 inlX2 (Nat.le_of_ble_eq_true rfl) rfl (Nat.le_of_ble_eq_true rfl) fl_X6_204 dX6_canReach_23 ?_
    refine z_iload_n hB 2 dX6_canReach_26 rfl rfl ?_
    obtain ⟨h3, h⟩ := z_ckiE h
    refine z_iald hB 12 24 kT_12 (Nat.le_of_ble_eq_true rfl) dX6_canReach_27 h3 ?_
    obtain ⟨h4, h⟩ := z_ckiE h
    refine z_iald hB 9 20 kT_9 (Nat.le_of_ble_eq_true rfl) dX6_canReach_28 h4 ?_
    refine z_iconst hB dX6_canReach_29 zcI_1 ?_
    refine z_icmp_ne hB (tgt := 37) dX6_canReach_30 (by decide) (fun c5 => ?_) (fun c5 => ?_)
    · have h := z_ifF c5 h
      refine z_iconst hB dX6_canReach_37 zcI_0 ?_
      exact hret _ _ _ _ (Option.some.inj h) rfl rfl dX6_canReach_38
    · have h := z_ifT c5 h
      refine z_iconst hB dX6_canReach_33 zcI_1 ?_
      refine z_goto hB (tgt := 38) dX6_canReach_34 (by decide) ?_
      exact hret _ _ _ _ (Option.some.inj h) rfl rfl dX6_canReach_38
def f_X6_handOver (p1 : Int32) (p2 : Int32) (σ : z_S) : Option (Int32 × z_S) :=
  z_b1 (f_X2_has p1 σ) fun r2 =>
  if r2 = (0 : Int32) then
  (some ((-1 : Int32), σ))
  else
  (z_b1 (f_X0_has p2 σ) fun r5 =>
  if r5 = (0 : Int32) then
  (some ((-1 : Int32), σ))
  else
  (z_cki p1 24 <|
  if (σ 15 p1.toNatClampNeg) = p2 then
  (some ((-2 : Int32), σ))
  else
  (z_b1 (f_X6_canReach p2 p1 σ) fun r10 =>
  if r10 = (0 : Int32) then
  (some ((-2 : Int32), σ))
  else
  (z_cki p1 24 <|
  z_let (z_u σ 15 p1.toNatClampNeg (p2)) fun σ13 =>
  z_b1 (f_X2_manyOf p2 σ13) fun r15 =>
  some (r15, σ13)))))
set_option maxRecDepth 100000 in
set_option maxHeartbeats 4000000 in
theorem c_X6_handOver (p1 : Int32) (p2 : Int32) (σ : z_S) (r : Int32) (σz : z_S) (h : f_X6_handOver p1 p2 σ = some (r, σz)) : zMet yX6_handOver cX6_handOver 3 (some .int) 2 43 layT 38 (fun ad => [.ref (ad 0), .int p1, .int p2]) σ (z_QI layT 38 r σz) := by
  refine z_headI RX6 (by decide) rfl (fun _ => Nat.le_of_ble_eq_true rfl) (fun E G A ad hB hret => ?_)
  show ZW E G A 3 layT 38 ad 0 [(0, .ref (ad 0)), (1, .int p1), (2, .int p2)] [] σ
  unfold f_X6_handOver at h
  refine z_aload_n hB 0 dX6_handOver_0 rfl rfl ?_
  refine z_getr hB 0 5 11 kT_0 (Nat.le_of_ble_eq_true rfl) vc_6 inlX6 (Nat.le_of_ble_eq_true rfl) rfl (Nat.le_of_ble_eq_true rfl) fl_X6_35 dX6_handOver_1 ?_
  refine z_iload_n hB 1 dX6_handOver_4 rfl rfl ?_
  obtain ⟨r2, h1, h⟩ := z_b1E h
  refine z_cI hB (z_rV (ι := fun k => k) hB yY_X2_has (c_X2_has _ _ _ h1) rfl cut_T z_hid kT_11 (Nat.le_of_ble_eq_true rfl) vc_2 rfl rfl rfl (Nat.le_of_ble_eq_true rfl) ml_X6_89 ⟨Nat.le_of_ble_eq_true rfl, Nat.le_of_ble_eq_true rfl⟩ dX6_handOver_5) cut_T z_hid ?_
  refine z_toA (z_mro cut_T) ?_
  refine z_if_eq hB (tgt := 22) dX6_handOver_8 (by decide) (fun c3 => ?_) (fun c3 => ?_)
  · have h := z_ifT c3 h
    refine z_iconst hB dX6_handOver_22 zcI_m1 ?_
    obtain ⟨h1, h2⟩ := z_prE h
    exact hret _ _ _ _ h1 h2 rfl dX6_handOver_23
  · have h := z_ifF c3 h
    refine z_aload_n hB 0 dX6_handOver_11 rfl rfl ?_
    refine z_getr hB 0 7 30 kT_0 (Nat.le_of_ble_eq_true rfl) vc_6 inlX6 (Nat.le_of_ble_eq_true rfl) rfl (Nat.le_of_ble_eq_true rfl) fl_X6_49 dX6_handOver_12 ?_
    refine z_iload_n hB 2 dX6_handOver_15 rfl rfl ?_
    obtain ⟨r5, h4, h⟩ := z_b1E h
    refine z_cI hB (z_rV (ι := fun k => k) hB yY_X0_has (c_X0_has _ _ _ h4) rfl cut_T z_hid kT_30 (Nat.le_of_ble_eq_true rfl) vc_0 rfl rfl rfl (Nat.le_of_ble_eq_true rfl) ml_X6_104 ⟨Nat.le_of_ble_eq_true rfl, Nat.le_of_ble_eq_true rfl⟩ dX6_handOver_16) cut_T z_hid ?_
    refine z_toA (z_mro cut_T) ?_
    refine z_if_ne hB (tgt := 24) dX6_handOver_19 (by decide) (fun c6 => ?_) (fun c6 => ?_)
    · have h := z_ifF c6 h
      refine z_aload_n hB 0 dX6_handOver_24 rfl rfl ?_
      refine z_getr hB 0 5 11 kT_0 (Nat.le_of_ble_eq_true rfl) vc_6 inlX6 (Nat.le_of_ble_eq_true rfl) rfl (Nat.le_of_ble_eq_true rfl) fl_X6_35 dX6_handOver_25 ?_
      refine z_getr hB 11 4 15 kT_11 (Nat.le_of_ble_eq_true rfl) vc_2 inlX2 (Nat.le_of_ble_eq_true rfl) rfl (Nat.le_of_ble_eq_true rfl) fl_X6_105 dX6_handOver_28 ?_
      refine z_iload_n hB 1 dX6_handOver_31 rfl rfl ?_
      obtain ⟨h7, h⟩ := z_ckiE h
      refine z_iald hB 15 24 kT_15 (Nat.le_of_ble_eq_true rfl) dX6_handOver_32 h7 ?_
      refine z_iload_n hB 2 dX6_handOver_33 rfl rfl ?_
      refine z_icmp_eq hB (tgt := 46) dX6_handOver_34 (by decide) (fun c8 => ?_) (fun c8 => ?_)
      · have h := z_ifT c8 h
        refine z_bipush hB dX6_handOver_46 zcB_m2 ?_
        obtain ⟨h1, h2⟩ := z_prE h
        exact hret _ _ _ _ h1 h2 rfl dX6_handOver_48
      · have h := z_ifF c8 h
        refine z_aload_n hB 0 dX6_handOver_37 rfl rfl ?_
        refine z_iload_n hB 2 dX6_handOver_38 rfl rfl ?_
        refine z_iload_n hB 1 dX6_handOver_39 rfl rfl ?_
        obtain ⟨r10, h9, h⟩ := z_b1E h
        refine z_cI hB (z_rV (ι := fun k => k) hB yY_X6_canReach (c_X6_canReach _ _ _ _ h9) rfl cut_T z_hid kT_0 (Nat.le_of_ble_eq_true rfl) vc_6 rfl rfl rfl (Nat.le_of_ble_eq_true rfl) ml_X6_108 ⟨Nat.le_of_ble_eq_true rfl, Nat.le_of_ble_eq_true rfl⟩ dX6_handOver_40) cut_T z_hid ?_
        refine z_toA (z_mro cut_T) ?_
        refine z_if_ne hB (tgt := 49) dX6_handOver_43 (by decide) (fun c11 => ?_) (fun c11 => ?_)
        · have h := z_ifF c11 h
          refine z_aload_n hB 0 dX6_handOver_49 rfl rfl ?_
          refine z_getr hB 0 5 11 kT_0 (Nat.le_of_ble_eq_true rfl) vc_6 inlX6 (Nat.le_of_ble_eq_true rfl) rfl (Nat.le_of_ble_eq_true rfl) fl_X6_35 dX6_handOver_50 ?_
          refine z_getr hB 11 4 15 kT_11 (Nat.le_of_ble_eq_true rfl) vc_2 inlX2 (Nat.le_of_ble_eq_true rfl) rfl (Nat.le_of_ble_eq_true rfl) fl_X6_105 dX6_handOver_53 ?_
          refine z_iload_n hB 1 dX6_handOver_56 rfl rfl ?_
          refine z_iload_n hB 2 dX6_handOver_57 rfl rfl ?_
          obtain ⟨h12, h⟩ := z_ckiE h
          obtain ⟨σ13, eσ13, h⟩ := z_letE h
          refine z_iast hB 15 24 kT_15 (Nat.le_of_ble_eq_true rfl) dX6_handOver_58 h12 ?_
          refine z_to eσ13 ?_
          refine z_aload_n hB 0 dX6_handOver_59 rfl rfl ?_
          refine z_getr hB 0 5 11 kT_0 (Nat.le_of_ble_eq_true rfl) vc_6 inlX6 (Nat.le_of_ble_eq_true rfl) rfl (Nat.le_of_ble_eq_true rfl) fl_X6_35 dX6_handOver_60 ?_
          refine z_iload_n hB 2 dX6_handOver_63 rfl rfl ?_
          obtain ⟨r15, h14, h⟩ := z_b1E h
          refine z_cI hB (z_rV (ι := fun k => k) hB yY_X2_manyOf (c_X2_manyOf _ _ _ h14) rfl cut_T z_hid kT_11 (Nat.le_of_ble_eq_true rfl) vc_2 rfl rfl rfl (Nat.le_of_ble_eq_true rfl) ml_X6_112 ⟨Nat.le_of_ble_eq_true rfl, Nat.le_of_ble_eq_true rfl⟩ dX6_handOver_64) cut_T z_hid ?_
          refine z_toA (z_mro cut_T) ?_
          obtain ⟨h1, h2⟩ := z_prE h
          exact hret _ _ _ _ h1 h2 rfl dX6_handOver_67
        · have h := z_ifT c11 h
          refine z_bipush hB dX6_handOver_46 zcB_m2 ?_
          obtain ⟨h1, h2⟩ := z_prE h
          exact hret _ _ _ _ h1 h2 rfl dX6_handOver_48
    · have h := z_ifT c6 h
      refine z_iconst hB dX6_handOver_22 zcI_m1 ?_
      obtain ⟨h1, h2⟩ := z_prE h
      exact hret _ _ _ _ h1 h2 rfl dX6_handOver_23
def f_X6_takeBack (p1 : Int32) (σ : z_S) : Option (Int32 × z_S) :=
  z_b1 (f_X2_has p1 σ) fun r2 =>
  if r2 = (0 : Int32) then
  (some ((-1 : Int32), σ))
  else
  (z_cki p1 24 <|
  z_let (σ 15 p1.toNatClampNeg) fun x5 =>
  if x5 = (-1 : Int32) then
  (some ((-2 : Int32), σ))
  else
  (z_cki p1 24 <|
  z_let (z_u σ 15 p1.toNatClampNeg ((-1 : Int32))) fun σ8 =>
  some (x5, σ8)))
set_option maxRecDepth 100000 in
set_option maxHeartbeats 4000000 in
theorem c_X6_takeBack (p1 : Int32) (σ : z_S) (r : Int32) (σz : z_S) (h : f_X6_takeBack p1 σ = some (r, σz)) : zMet yX6_takeBack cX6_takeBack 3 (some .int) 2 43 layT 38 (fun ad => [.ref (ad 0), .int p1]) σ (z_QI layT 38 r σz) := by
  refine z_headI RX6 (by decide) rfl (fun _ => Nat.le_of_ble_eq_true rfl) (fun E G A ad hB hret => ?_)
  show ZW E G A 3 layT 38 ad 0 [(0, .ref (ad 0)), (1, .int p1)] [] σ
  unfold f_X6_takeBack at h
  refine z_aload_n hB 0 dX6_takeBack_0 rfl rfl ?_
  refine z_getr hB 0 5 11 kT_0 (Nat.le_of_ble_eq_true rfl) vc_6 inlX6 (Nat.le_of_ble_eq_true rfl) rfl (Nat.le_of_ble_eq_true rfl) fl_X6_35 dX6_takeBack_1 ?_
  refine z_iload_n hB 1 dX6_takeBack_4 rfl rfl ?_
  obtain ⟨r2, h1, h⟩ := z_b1E h
  refine z_cI hB (z_rV (ι := fun k => k) hB yY_X2_has (c_X2_has _ _ _ h1) rfl cut_T z_hid kT_11 (Nat.le_of_ble_eq_true rfl) vc_2 rfl rfl rfl (Nat.le_of_ble_eq_true rfl) ml_X6_89 ⟨Nat.le_of_ble_eq_true rfl, Nat.le_of_ble_eq_true rfl⟩ dX6_takeBack_5) cut_T z_hid ?_
  refine z_toA (z_mro cut_T) ?_
  refine z_if_ne hB (tgt := 13) dX6_takeBack_8 (by decide) (fun c3 => ?_) (fun c3 => ?_)
  · have h := z_ifF c3 h
    refine z_aload_n hB 0 dX6_takeBack_13 rfl rfl ?_
    refine z_getr hB 0 5 11 kT_0 (Nat.le_of_ble_eq_true rfl) vc_6 inlX6 (Nat.le_of_ble_eq_true rfl) rfl (Nat.le_of_ble_eq_true rfl) fl_X6_35 dX6_takeBack_14 ?_
    refine z_getr hB 11 4 15 kT_11 (Nat.le_of_ble_eq_true rfl) vc_2 inlX2 (Nat.le_of_ble_eq_true rfl) rfl (Nat.le_of_ble_eq_true rfl) fl_X6_105 dX6_takeBack_17 ?_
    refine z_iload_n hB 1 dX6_takeBack_20 rfl rfl ?_
    obtain ⟨h4, h⟩ := z_ckiE h
    refine z_iald hB 15 24 kT_15 (Nat.le_of_ble_eq_true rfl) dX6_takeBack_21 h4 ?_
    obtain ⟨x5, ex5, h⟩ := z_letE h
    refine z_istore_n hB [(2, .int x5), (0, .ref (ad 0)), (1, .int p1)] dX6_takeBack_22 rfl (Nat.le_of_ble_eq_true rfl) ex5 rfl ?_
    refine z_iload_n hB 0 dX6_takeBack_23 rfl rfl ?_
    refine z_iconst hB dX6_takeBack_24 zcI_m1 ?_
    refine z_icmp_ne hB (tgt := 31) dX6_takeBack_25 (by decide) (fun c6 => ?_) (fun c6 => ?_)
    · have h := z_ifF c6 h
      refine z_aload_n hB 1 dX6_takeBack_31 rfl rfl ?_
      refine z_getr hB 0 5 11 kT_0 (Nat.le_of_ble_eq_true rfl) vc_6 inlX6 (Nat.le_of_ble_eq_true rfl) rfl (Nat.le_of_ble_eq_true rfl) fl_X6_35 dX6_takeBack_32 ?_
      refine z_getr hB 11 4 15 kT_11 (Nat.le_of_ble_eq_true rfl) vc_2 inlX2 (Nat.le_of_ble_eq_true rfl) rfl (Nat.le_of_ble_eq_true rfl) fl_X6_105 dX6_takeBack_35 ?_
      refine z_iload_n hB 2 dX6_takeBack_38 rfl rfl ?_
      refine z_iconst hB dX6_takeBack_39 zcI_m1 ?_
      obtain ⟨h7, h⟩ := z_ckiE h
      obtain ⟨σ8, eσ8, h⟩ := z_letE h
      refine z_iast hB 15 24 kT_15 (Nat.le_of_ble_eq_true rfl) dX6_takeBack_40 h7 ?_
      refine z_to eσ8 ?_
      refine z_iload_n hB 0 dX6_takeBack_41 rfl rfl ?_
      obtain ⟨h1, h2⟩ := z_prE h
      exact hret _ _ _ _ h1 h2 rfl dX6_takeBack_42
    · have h := z_ifT c6 h
      refine z_bipush hB dX6_takeBack_28 zcB_m2 ?_
      obtain ⟨h1, h2⟩ := z_prE h
      exact hret _ _ _ _ h1 h2 rfl dX6_takeBack_30
  · have h := z_ifT c3 h
    refine z_iconst hB dX6_takeBack_11 zcI_m1 ?_
    obtain ⟨h1, h2⟩ := z_prE h
    exact hret _ _ _ _ h1 h2 rfl dX6_takeBack_12
def f_X6_addBiscuits (p1 : Int32) (p2 : Int32) (σ : z_S) : Option (Int32 × z_S) :=
  z_b1 (f_X0_has p1 σ) fun r2 =>
  if r2 = (0 : Int32) then
  (some ((-1 : Int32), σ))
  else
  (z_b1 (f_X9_within p2 (1 : Int32) (99 : Int32) σ) fun r5 =>
  if r5 = (0 : Int32) then
  (some ((-1 : Int32), σ))
  else
  (z_cki p1 3 <|
  if ((σ 33 p1.toNatClampNeg) + p2) ≤ (500 : Int32) then
  (z_cki p1 3 <|
  z_cki p1 3 <|
  z_let (z_u σ 33 p1.toNatClampNeg ((σ 33 p1.toNatClampNeg) + p2)) fun σ11 =>
  z_cki p1 3 <|
  some (σ11 33 p1.toNatClampNeg, σ11))
  else
  (some ((-3 : Int32), σ))))
set_option maxRecDepth 100000 in
set_option maxHeartbeats 4000000 in
theorem c_X6_addBiscuits (p1 : Int32) (p2 : Int32) (σ : z_S) (r : Int32) (σz : z_S) (h : f_X6_addBiscuits p1 p2 σ = some (r, σz)) : zMet yX6_addBiscuits cX6_addBiscuits 3 (some .int) 2 43 layT 38 (fun ad => [.ref (ad 0), .int p1, .int p2]) σ (z_QI layT 38 r σz) := by
  refine z_headI RX6 (by decide) rfl (fun _ => Nat.le_of_ble_eq_true rfl) (fun E G A ad hB hret => ?_)
  show ZW E G A 3 layT 38 ad 0 [(0, .ref (ad 0)), (1, .int p1), (2, .int p2)] [] σ
  unfold f_X6_addBiscuits at h
  refine z_aload_n hB 0 dX6_addBiscuits_0 rfl rfl ?_
  refine z_getr hB 0 7 30 kT_0 (Nat.le_of_ble_eq_true rfl) vc_6 inlX6 (Nat.le_of_ble_eq_true rfl) rfl (Nat.le_of_ble_eq_true rfl) fl_X6_49 dX6_addBiscuits_1 ?_
  refine z_iload_n hB 1 dX6_addBiscuits_4 rfl rfl ?_
  obtain ⟨r2, h1, h⟩ := z_b1E h
  refine z_cI hB (z_rV (ι := fun k => k) hB yY_X0_has (c_X0_has _ _ _ h1) rfl cut_T z_hid kT_30 (Nat.le_of_ble_eq_true rfl) vc_0 rfl rfl rfl (Nat.le_of_ble_eq_true rfl) ml_X6_104 ⟨Nat.le_of_ble_eq_true rfl, Nat.le_of_ble_eq_true rfl⟩ dX6_addBiscuits_5) cut_T z_hid ?_
  refine z_toA (z_mro cut_T) ?_
  refine z_if_eq hB (tgt := 21) dX6_addBiscuits_8 (by decide) (fun c3 => ?_) (fun c3 => ?_)
  · have h := z_ifT c3 h
    refine z_iconst hB dX6_addBiscuits_21 zcI_m1 ?_
    obtain ⟨h1, h2⟩ := z_prE h
    exact hret _ _ _ _ h1 h2 rfl dX6_addBiscuits_22
  · have h := z_ifF c3 h
    refine z_iload_n hB 2 dX6_addBiscuits_11 rfl rfl ?_
    refine z_iconst hB dX6_addBiscuits_12 zcI_1 ?_
    refine z_bipush hB dX6_addBiscuits_13 zcB_99 ?_
    obtain ⟨r5, h4, h⟩ := z_b1E h
    refine z_cI hB (z_rN (ι := fun k => k) hB yY_X9_within (c_X9_within _ _ _ _ _ h4) rfl z_cut0 z_hno rfl rfl rfl (Nat.le_of_ble_eq_true rfl) (List.mem_of_getElem? (i := 15) rfl) ⟨Nat.le_of_ble_eq_true rfl, Nat.le_of_ble_eq_true rfl⟩ dX6_addBiscuits_15) z_cut0 z_hno ?_
    refine z_toA (z_mro (lay := layT) (lay' := z_lay0) (b := false) z_cut0) ?_
    refine z_if_ne hB (tgt := 23) dX6_addBiscuits_18 (by decide) (fun c6 => ?_) (fun c6 => ?_)
    · have h := z_ifF c6 h
      refine z_aload_n hB 0 dX6_addBiscuits_23 rfl rfl ?_
      refine z_getr hB 0 7 30 kT_0 (Nat.le_of_ble_eq_true rfl) vc_6 inlX6 (Nat.le_of_ble_eq_true rfl) rfl (Nat.le_of_ble_eq_true rfl) fl_X6_49 dX6_addBiscuits_24 ?_
      refine z_getr hB 30 3 33 kT_30 (Nat.le_of_ble_eq_true rfl) vc_0 inlX0 (Nat.le_of_ble_eq_true rfl) rfl (Nat.le_of_ble_eq_true rfl) fl_X6_116 dX6_addBiscuits_27 ?_
      refine z_iload_n hB 1 dX6_addBiscuits_30 rfl rfl ?_
      obtain ⟨h7, h⟩ := z_ckiE h
      refine z_iald hB 33 3 kT_33 (Nat.le_of_ble_eq_true rfl) dX6_addBiscuits_31 h7 ?_
      refine z_iload_n hB 2 dX6_addBiscuits_32 rfl rfl ?_
      refine z_iadd hB dX6_addBiscuits_33 ?_
      refine z_sipush hB dX6_addBiscuits_34 zcS_500 ?_
      refine z_icmp_le hB (tgt := 43) dX6_addBiscuits_37 (by decide) (fun c8 => ?_) (fun c8 => ?_)
      · have h := z_ifT c8 h
        refine z_aload_n hB 0 dX6_addBiscuits_43 rfl rfl ?_
        refine z_getr hB 0 7 30 kT_0 (Nat.le_of_ble_eq_true rfl) vc_6 inlX6 (Nat.le_of_ble_eq_true rfl) rfl (Nat.le_of_ble_eq_true rfl) fl_X6_49 dX6_addBiscuits_44 ?_
        refine z_getr hB 30 3 33 kT_30 (Nat.le_of_ble_eq_true rfl) vc_0 inlX0 (Nat.le_of_ble_eq_true rfl) rfl (Nat.le_of_ble_eq_true rfl) fl_X6_116 dX6_addBiscuits_47 ?_
        refine z_iload_n hB 1 dX6_addBiscuits_50 rfl rfl ?_
        refine z_dup2 hB dX6_addBiscuits_51 rfl rfl ?_
        obtain ⟨h9, h⟩ := z_ckiE h
        refine z_iald hB 33 3 kT_33 (Nat.le_of_ble_eq_true rfl) dX6_addBiscuits_52 h9 ?_
        refine z_iload_n hB 2 dX6_addBiscuits_53 rfl rfl ?_
        refine z_iadd hB dX6_addBiscuits_54 ?_
        obtain ⟨h10, h⟩ := z_ckiE h
        obtain ⟨σ11, eσ11, h⟩ := z_letE h
        refine z_iast hB 33 3 kT_33 (Nat.le_of_ble_eq_true rfl) dX6_addBiscuits_55 h10 ?_
        refine z_to eσ11 ?_
        refine z_aload_n hB 0 dX6_addBiscuits_56 rfl rfl ?_
        refine z_getr hB 0 7 30 kT_0 (Nat.le_of_ble_eq_true rfl) vc_6 inlX6 (Nat.le_of_ble_eq_true rfl) rfl (Nat.le_of_ble_eq_true rfl) fl_X6_49 dX6_addBiscuits_57 ?_
        refine z_getr hB 30 3 33 kT_30 (Nat.le_of_ble_eq_true rfl) vc_0 inlX0 (Nat.le_of_ble_eq_true rfl) rfl (Nat.le_of_ble_eq_true rfl) fl_X6_116 dX6_addBiscuits_60 ?_
        refine z_iload_n hB 1 dX6_addBiscuits_63 rfl rfl ?_
        obtain ⟨h12, h⟩ := z_ckiE h
        refine z_iald hB 33 3 kT_33 (Nat.le_of_ble_eq_true rfl) dX6_addBiscuits_64 h12 ?_
        obtain ⟨h1, h2⟩ := z_prE h
        exact hret _ _ _ _ h1 h2 rfl dX6_addBiscuits_65
      · have h := z_ifF c8 h
        refine z_bipush hB dX6_addBiscuits_40 zcB_m3 ?_
        obtain ⟨h1, h2⟩ := z_prE h
        exact hret _ _ _ _ h1 h2 rfl dX6_addBiscuits_42
    · have h := z_ifT c6 h
      refine z_iconst hB dX6_addBiscuits_21 zcI_m1 ?_
      obtain ⟨h1, h2⟩ := z_prE h
      exact hret _ _ _ _ h1 h2 rfl dX6_addBiscuits_22
def f_X6_changeSetting (p1 : Int32) (p2 : Int32) (σ : z_S) : Option (Int32 × z_S) :=
  z_let (fun (_ : Unit) => if p1 = (1 : Int32) then
  (z_b1 (f_X9_within p2 (1 : Int32) (50 : Int32) σ) fun r4 =>
  if r4 = (0 : Int32) then
  (some ((-1 : Int32), σ))
  else
  (z_let (σ 0 2) fun x6 =>
  z_let (z_u σ 0 2 (p2)) fun σ7 =>
  some (x6, σ7)))
  else
  (some ((-1 : Int32), σ))) fun j1 =>
  if p1 = (0 : Int32) then
  (z_b1 (f_X9_within p2 (1 : Int32) (20 : Int32) σ) fun r10 =>
  if r10 = (0 : Int32) then
  (j1 ())
  else
  (z_let (σ 0 1) fun x12 =>
  z_let (z_u σ 0 1 (p2)) fun σ13 =>
  some (x12, σ13)))
  else
  (j1 ())
set_option maxRecDepth 100000 in
set_option maxHeartbeats 4000000 in
theorem c_X6_changeSetting (p1 : Int32) (p2 : Int32) (σ : z_S) (r : Int32) (σz : z_S) (h : f_X6_changeSetting p1 p2 σ = some (r, σz)) : zMet yX6_changeSetting cX6_changeSetting 4 (some .int) 1 22 layT 38 (fun ad => [.ref (ad 0), .int p1, .int p2]) σ (z_QI layT 38 r σz) := by
  refine z_headI RX6 (by decide) rfl (fun _ => Nat.le_of_ble_eq_true rfl) (fun E G A ad hB hret => ?_)
  show ZW E G A 4 layT 38 ad 0 [(0, .ref (ad 0)), (1, .int p1), (2, .int p2)] [] σ
  unfold f_X6_changeSetting at h
  refine z_iload_n hB 1 dX6_changeSetting_0 rfl rfl ?_
  obtain ⟨j1, ej1, h⟩ := z_letE h
  have hj1 : ∀ (_ : Unit), j1 () = some (r, σz) → ZW E G A 4 layT 38 ad 26 [(0, .ref (ad 0)), (1, .int p1), (2, .int p2)] [] σ := by
    intro _ h
    rw [ej1] at h
    refine z_iload_n hB 1 dX6_changeSetting_26 rfl rfl ?_
    refine z_iconst hB dX6_changeSetting_27 zcI_1 ?_
    refine z_icmp_ne hB (tgt := 53) dX6_changeSetting_28 (by decide) (fun c2 => ?_) (fun c2 => ?_)
    · have h := z_ifF c2 h
      refine z_iconst hB dX6_changeSetting_53 zcI_m1 ?_
      obtain ⟨h1, h2⟩ := z_prE h
      exact hret _ _ _ _ h1 h2 rfl dX6_changeSetting_54
    · have h := z_ifT c2 h
      refine z_iload_n hB 2 dX6_changeSetting_31 rfl rfl ?_
      refine z_iconst hB dX6_changeSetting_32 zcI_1 ?_
      refine z_bipush hB dX6_changeSetting_33 zcB_50 ?_
      obtain ⟨r4, h3, h⟩ := z_b1E h
      refine z_cI hB (z_rN (ι := fun k => k) hB yY_X9_within (c_X9_within _ _ _ _ _ h3) rfl z_cut0 z_hno rfl rfl rfl (Nat.le_of_ble_eq_true rfl) (List.mem_of_getElem? (i := 15) rfl) ⟨Nat.le_of_ble_eq_true rfl, Nat.le_of_ble_eq_true rfl⟩ dX6_changeSetting_35) z_cut0 z_hno ?_
      refine z_toA (z_mro (lay := layT) (lay' := z_lay0) (b := false) z_cut0) ?_
      refine z_if_eq hB (tgt := 53) dX6_changeSetting_38 (by decide) (fun c5 => ?_) (fun c5 => ?_)
      · have h := z_ifT c5 h
        refine z_iconst hB dX6_changeSetting_53 zcI_m1 ?_
        obtain ⟨h1, h2⟩ := z_prE h
        exact hret _ _ _ _ h1 h2 rfl dX6_changeSetting_54
      · have h := z_ifF c5 h
        refine z_aload_n hB 0 dX6_changeSetting_41 rfl rfl ?_
        refine z_get hB 0 2 kT_0 (Nat.le_of_ble_eq_true rfl) vc_6 inlX6 (Nat.le_of_ble_eq_true rfl) rfl fl_X6_18 dX6_changeSetting_42 ?_
        obtain ⟨x6, ex6, h⟩ := z_letE h
        refine z_istore_n hB [(3, .int x6), (0, .ref (ad 0)), (1, .int p1), (2, .int p2)] dX6_changeSetting_45 rfl (Nat.le_of_ble_eq_true rfl) ex6 rfl ?_
        refine z_aload_n hB 1 dX6_changeSetting_46 rfl rfl ?_
        refine z_iload_n hB 3 dX6_changeSetting_47 rfl rfl ?_
        obtain ⟨σ7, eσ7, h⟩ := z_letE h
        refine z_put hB 0 2 kT_0 (Nat.le_of_ble_eq_true rfl) vc_6 inlX6 tyX6 tyX6_ok nmX6 (Nat.le_of_ble_eq_true rfl) rfl rfl (tyX6_ok 2 (Nat.le_of_ble_eq_true rfl)) fl_X6_18 dX6_changeSetting_48 ?_
        refine z_to eσ7 ?_
        refine z_iload_n hB 0 dX6_changeSetting_51 rfl rfl ?_
        obtain ⟨h1, h2⟩ := z_prE h
        exact hret _ _ _ _ h1 h2 rfl dX6_changeSetting_52
  refine z_if_ne hB (tgt := 26) dX6_changeSetting_1 (by decide) (fun c8 => ?_) (fun c8 => ?_)
  · have h := z_ifF c8 h
    exact hj1 () h
  · have h := z_ifT c8 h
    refine z_iload_n hB 2 dX6_changeSetting_4 rfl rfl ?_
    refine z_iconst hB dX6_changeSetting_5 zcI_1 ?_
    refine z_bipush hB dX6_changeSetting_6 zcB_20 ?_
    obtain ⟨r10, h9, h⟩ := z_b1E h
    refine z_cI hB (z_rN (ι := fun k => k) hB yY_X9_within (c_X9_within _ _ _ _ _ h9) rfl z_cut0 z_hno rfl rfl rfl (Nat.le_of_ble_eq_true rfl) (List.mem_of_getElem? (i := 15) rfl) ⟨Nat.le_of_ble_eq_true rfl, Nat.le_of_ble_eq_true rfl⟩ dX6_changeSetting_8) z_cut0 z_hno ?_
    refine z_toA (z_mro (lay := layT) (lay' := z_lay0) (b := false) z_cut0) ?_
    refine z_if_eq hB (tgt := 26) dX6_changeSetting_11 (by decide) (fun c11 => ?_) (fun c11 => ?_)
    · have h := z_ifT c11 h
      exact hj1 () h
    · have h := z_ifF c11 h
      refine z_aload_n hB 0 dX6_changeSetting_14 rfl rfl ?_
      refine z_get hB 0 1 kT_0 (Nat.le_of_ble_eq_true rfl) vc_6 inlX6 (Nat.le_of_ble_eq_true rfl) rfl fl_X6_15 dX6_changeSetting_15 ?_
      obtain ⟨x12, ex12, h⟩ := z_letE h
      refine z_istore_n hB [(3, .int x12), (0, .ref (ad 0)), (1, .int p1), (2, .int p2)] dX6_changeSetting_18 rfl (Nat.le_of_ble_eq_true rfl) ex12 rfl ?_
      refine z_aload_n hB 1 dX6_changeSetting_19 rfl rfl ?_
      refine z_iload_n hB 3 dX6_changeSetting_20 rfl rfl ?_
      obtain ⟨σ13, eσ13, h⟩ := z_letE h
      refine z_put hB 0 1 kT_0 (Nat.le_of_ble_eq_true rfl) vc_6 inlX6 tyX6 tyX6_ok nmX6 (Nat.le_of_ble_eq_true rfl) rfl rfl (tyX6_ok 1 (Nat.le_of_ble_eq_true rfl)) fl_X6_15 dX6_changeSetting_21 ?_
      refine z_to eσ13 ?_
      refine z_iload_n hB 0 dX6_changeSetting_24 rfl rfl ?_
      obtain ⟨h1, h2⟩ := z_prE h
      exact hret _ _ _ _ h1 h2 rfl dX6_changeSetting_25
def f_X8_clear (σ : z_S) : Option z_S :=
  z_let (z_u σ 38 0 ((0 : Int32))) fun σ1 =>
  z_let (z_u σ1 38 1 ((0 : Int32))) fun σ2 =>
  z_let (z_u σ2 38 2 ((0 : Int32))) fun σ3 =>
  z_let (z_u σ3 38 3 ((0 : Int32))) fun σ4 =>
  some σ4
set_option maxRecDepth 100000 in
set_option maxHeartbeats 4000000 in
theorem c_X8_clear (σ σz : z_S) (h : f_X8_clear σ = some σz) : zMet yX8_clear cX8_clear 1 none 0 0 layTW 40 (fun ad => [.ref (ad 38)]) σ (z_QV layTW 40 σz) := by
  refine z_headV RX8 (by decide) rfl (fun _ => Nat.le_of_ble_eq_true rfl) (fun E G A ad hB hret => ?_)
  show ZW E G A 1 layTW 40 ad 0 [(0, .ref (ad 38))] [] σ
  unfold f_X8_clear at h
  refine z_aload_n hB 0 dX8_clear_0 rfl rfl ?_
  refine z_iconst hB dX8_clear_1 zcI_0 ?_
  obtain ⟨σ1, eσ1, h⟩ := z_letE h
  refine z_put hB 38 0 kTW_38 (Nat.le_of_ble_eq_true rfl) vc_8 inlX8 tyX8 tyX8_ok nmX8 (Nat.le_of_ble_eq_true rfl) rfl rfl (tyX8_ok 0 (Nat.le_of_ble_eq_true rfl)) fl_X8_9 dX8_clear_2 ?_
  refine z_to eσ1 ?_
  refine z_aload_n hB 0 dX8_clear_5 rfl rfl ?_
  refine z_iconst hB dX8_clear_6 zcI_0 ?_
  obtain ⟨σ2, eσ2, h⟩ := z_letE h
  refine z_put hB 38 1 kTW_38 (Nat.le_of_ble_eq_true rfl) vc_8 inlX8 tyX8 tyX8_ok nmX8 (Nat.le_of_ble_eq_true rfl) rfl rfl (tyX8_ok 1 (Nat.le_of_ble_eq_true rfl)) fl_X8_15 dX8_clear_7 ?_
  refine z_to eσ2 ?_
  refine z_aload_n hB 0 dX8_clear_10 rfl rfl ?_
  refine z_iconst hB dX8_clear_11 zcI_0 ?_
  obtain ⟨σ3, eσ3, h⟩ := z_letE h
  refine z_put hB 38 2 kTW_38 (Nat.le_of_ble_eq_true rfl) vc_8 inlX8 tyX8 tyX8_ok nmX8 (Nat.le_of_ble_eq_true rfl) rfl rfl (tyX8_ok 2 (Nat.le_of_ble_eq_true rfl)) fl_X8_18 dX8_clear_12 ?_
  refine z_to eσ3 ?_
  refine z_aload_n hB 0 dX8_clear_15 rfl rfl ?_
  refine z_iconst hB dX8_clear_16 zcI_0 ?_
  obtain ⟨σ4, eσ4, h⟩ := z_letE h
  refine z_put hB 38 3 kTW_38 (Nat.le_of_ble_eq_true rfl) vc_8 inlX8 tyX8 tyX8_ok nmX8 (Nat.le_of_ble_eq_true rfl) rfl rfl (tyX8_ok 3 (Nat.le_of_ble_eq_true rfl)) fl_X8_21 dX8_clear_17 ?_
  refine z_to eσ4 ?_
  exact hret _ _ _ (Option.some.inj h) dX8_clear_20
def f_X6_isSunday (p0 : Int32) (σ : z_S) : Option Int32 :=
  z_ck (¬ (7 : Int32) = 0) <|
  if (p0 - p0 / (7 : Int32) * (7 : Int32)) = (6 : Int32) then
  (some ((1 : Int32)))
  else
  (some ((0 : Int32)))
set_option maxRecDepth 100000 in
set_option maxHeartbeats 4000000 in
theorem c_X6_isSunday (p0 : Int32) (σ : z_S) (r : Int32) (h : f_X6_isSunday p0 σ = some r) : zMet yX6_isSunday cX6_isSunday 1 (some .boolean) 0 0 z_lay0 0 (fun ad => [.int p0]) σ (z_QI z_lay0 0 r σ) := by
  refine z_headI RX6 (by decide) rfl (fun _ => Nat.le_of_ble_eq_true rfl) (fun E G A ad hB hret => ?_)
  show ZW E G A 1 z_lay0 0 ad 0 [(0, .int p0)] [] σ
  unfold f_X6_isSunday at h
  refine z_iload_n hB 0 dX6_isSunday_0 rfl rfl ?_
  refine z_bipush hB dX6_isSunday_1 zcB_7 ?_
  obtain ⟨h1, h⟩ := z_ckE h
  refine z_irem hB dX6_isSunday_3 h1 ?_
  refine z_bipush hB dX6_isSunday_4 zcB_6 ?_
  refine z_icmp_ne hB (tgt := 13) dX6_isSunday_6 (by decide) (fun c2 => ?_) (fun c2 => ?_)
  · have h := z_ifF c2 h
    refine z_iconst hB dX6_isSunday_13 zcI_0 ?_
    exact hret _ _ _ _ (Option.some.inj h) rfl rfl dX6_isSunday_14
  · have h := z_ifT c2 h
    refine z_iconst hB dX6_isSunday_9 zcI_1 ?_
    refine z_goto hB (tgt := 14) dX6_isSunday_10 (by decide) ?_
    exact hret _ _ _ _ (Option.some.inj h) rfl rfl dX6_isSunday_14
def f_X6_weightOn (p1 : Int32) (σ : z_S) : Option Int32 :=
  z_b1 (f_X6_isSunday p1 σ) fun r2 =>
  if r2 = (0 : Int32) then
  (some (σ 0 1))
  else
  (some (σ 0 2))
set_option maxRecDepth 100000 in
set_option maxHeartbeats 4000000 in
theorem c_X6_weightOn (p1 : Int32) (σ : z_S) (r : Int32) (h : f_X6_weightOn p1 σ = some r) : zMet yX6_weightOn cX6_weightOn 2 (some .int) 1 20 layT 38 (fun ad => [.ref (ad 0), .int p1]) σ (z_QI layT 38 r σ) := by
  refine z_headI RX6 (by decide) rfl (fun _ => Nat.le_of_ble_eq_true rfl) (fun E G A ad hB hret => ?_)
  show ZW E G A 2 layT 38 ad 0 [(0, .ref (ad 0)), (1, .int p1)] [] σ
  unfold f_X6_weightOn at h
  refine z_iload_n hB 1 dX6_weightOn_0 rfl rfl ?_
  obtain ⟨r2, h1, h⟩ := z_b1E h
  refine z_cI hB (z_rS (ι := fun k => k) hB yY_X6_isSunday (c_X6_isSunday _ _ _ h1) rfl z_cut0 z_hno rfl rfl rfl (Nat.le_of_ble_eq_true rfl) ml_X6_138 ⟨Nat.le_of_ble_eq_true rfl, Nat.le_of_ble_eq_true rfl⟩ dX6_weightOn_1) z_cut0 z_hno ?_
  refine z_toA (z_mro (lay := layT) (lay' := z_lay0) (b := false) z_cut0) ?_
  refine z_if_eq hB (tgt := 14) dX6_weightOn_4 (by decide) (fun c3 => ?_) (fun c3 => ?_)
  · have h := z_ifT c3 h
    refine z_aload_n hB 0 dX6_weightOn_14 rfl rfl ?_
    refine z_get hB 0 1 kT_0 (Nat.le_of_ble_eq_true rfl) vc_6 inlX6 (Nat.le_of_ble_eq_true rfl) rfl fl_X6_15 dX6_weightOn_15 ?_
    exact hret _ _ _ _ (Option.some.inj h) rfl rfl dX6_weightOn_18
  · have h := z_ifF c3 h
    refine z_aload_n hB 0 dX6_weightOn_7 rfl rfl ?_
    refine z_get hB 0 2 kT_0 (Nat.le_of_ble_eq_true rfl) vc_6 inlX6 (Nat.le_of_ble_eq_true rfl) rfl fl_X6_18 dX6_weightOn_8 ?_
    refine z_goto hB (tgt := 18) dX6_weightOn_11 (by decide) ?_
    exact hret _ _ _ _ (Option.some.inj h) rfl rfl dX6_weightOn_18
