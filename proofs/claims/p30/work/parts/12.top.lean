def f_X1_keepPrepared (σ : z_S) : Option z_S :=
  if (4 : Int32) ≤ (σ 0 0) then
  (z_ck (¬ (5 : Int32) = 0) <|
  z_let (z_u σ 0 1 (((σ 0 1) + (1 : Int32)) - ((σ 0 1) + (1 : Int32)) / (5 : Int32) * (5 : Int32))) fun σ3 =>
  some σ3)
  else
  (z_let (z_u σ 0 0 ((σ 0 0) + (1 : Int32))) fun σ4 =>
  some σ4)
set_option maxRecDepth 100000 in
set_option maxHeartbeats 4000000 in
theorem c_X1_keepPrepared (σ σz : z_S) (h : f_X1_keepPrepared σ = some σz) : zMet yX1_keepPrepared cX1_keepPrepared 1 none 0 0 layH 230 (fun ad => [.ref (ad 0)]) σ (z_QV layH 230 σz) := by
  refine z_headV RX1 (by decide) rfl (fun _ => Nat.le_of_ble_eq_true rfl) (fun E G A ad hB hret => ?_)
  show ZW E G A 1 layH 230 ad 0 [(0, .ref (ad 0))] [] σ
  unfold f_X1_keepPrepared at h
  refine z_aload_n hB 0 dX1_keepPrepared_0 rfl rfl ?_
  refine z_get hB 0 0 kH_0 (Nat.le_of_ble_eq_true rfl) vc_1 inlX1 (Nat.le_of_ble_eq_true rfl) rfl fl_X1_9 dX1_keepPrepared_1 ?_
  refine z_iconst hB dX1_keepPrepared_4 zcI_4 ?_
  refine z_icmp_ge hB (tgt := 21) dX1_keepPrepared_5 (by decide) (fun c1 => ?_) (fun c1 => ?_)
  · have h := z_ifT c1 h
    refine z_aload_n hB 0 dX1_keepPrepared_21 rfl rfl ?_
    refine z_aload_n hB 0 dX1_keepPrepared_22 rfl rfl ?_
    refine z_get hB 0 1 kH_0 (Nat.le_of_ble_eq_true rfl) vc_1 inlX1 (Nat.le_of_ble_eq_true rfl) rfl fl_X1_15 dX1_keepPrepared_23 ?_
    refine z_iconst hB dX1_keepPrepared_26 zcI_1 ?_
    refine z_iadd hB dX1_keepPrepared_27 ?_
    refine z_iconst hB dX1_keepPrepared_28 zcI_5 ?_
    obtain ⟨h2, h⟩ := z_ckE h
    refine z_irem hB dX1_keepPrepared_29 h2 ?_
    obtain ⟨σ3, eσ3, h⟩ := z_letE h
    refine z_put hB 0 1 kH_0 (Nat.le_of_ble_eq_true rfl) vc_1 inlX1 tyX1 tyX1_ok nmX1 (Nat.le_of_ble_eq_true rfl) rfl rfl (tyX1_ok 1 (Nat.le_of_ble_eq_true rfl)) fl_X1_15 dX1_keepPrepared_30 ?_
    refine z_to eσ3 ?_
    exact hret _ _ _ (Option.some.inj h) dX1_keepPrepared_33
  · have h := z_ifF c1 h
    refine z_aload_n hB 0 dX1_keepPrepared_8 rfl rfl ?_
    refine z_dup hB dX1_keepPrepared_9 rfl ?_
    refine z_get hB 0 0 kH_0 (Nat.le_of_ble_eq_true rfl) vc_1 inlX1 (Nat.le_of_ble_eq_true rfl) rfl fl_X1_9 dX1_keepPrepared_10 ?_
    refine z_iconst hB dX1_keepPrepared_13 zcI_1 ?_
    refine z_iadd hB dX1_keepPrepared_14 ?_
    obtain ⟨σ4, eσ4, h⟩ := z_letE h
    refine z_put hB 0 0 kH_0 (Nat.le_of_ble_eq_true rfl) vc_1 inlX1 tyX1 tyX1_ok nmX1 (Nat.le_of_ble_eq_true rfl) rfl rfl (tyX1_ok 0 (Nat.le_of_ble_eq_true rfl)) fl_X1_9 dX1_keepPrepared_15 ?_
    refine z_to eσ4 ?_
    refine z_goto hB (tgt := 33) dX1_keepPrepared_18 (by decide) ?_
    exact hret _ _ _ (Option.some.inj h) dX1_keepPrepared_33
def f_X7_answerOf (p1 : Int32) (σ : z_S) : Option (Int32 × z_S) :=
  if p1 = (98 : Int32) then
  (z_cki (0 : Int32) 3 <|
  z_cki (1 : Int32) 3 <|
  z_b2 (f_X6_addBiscuits (σ 79 (0 : Int32).toNatClampNeg) (σ 79 (1 : Int32).toNatClampNeg) (fun k => σ (zi_R_T k))) fun r6 σ5 =>
  z_let (z_m σ (zk_R_T) 38 σ5) fun σ7 =>
  some (r6, σ7))
  else if p1 = (103 : Int32) then
  (z_cki (0 : Int32) 3 <|
  z_cki (1 : Int32) 3 <|
  z_b2 (f_X6_handOver (σ 79 (0 : Int32).toNatClampNeg) (σ 79 (1 : Int32).toNatClampNeg) (fun k => σ (zi_R_T k))) fun r13 σ12 =>
  z_let (z_m σ (zk_R_T) 38 σ12) fun σ14 =>
  some (r13, σ14))
  else if p1 = (110 : Int32) then
  (z_cki (0 : Int32) 3 <|
  z_b2 (f_X6_takeBack (σ 79 (0 : Int32).toNatClampNeg) (fun k => σ (zi_R_T k))) fun r19 σ18 =>
  z_let (z_m σ (zk_R_T) 38 σ18) fun σ20 =>
  some (r19, σ20))
  else if p1 = (112 : Int32) then
  (z_cki (0 : Int32) 3 <|
  z_cki (1 : Int32) 3 <|
  z_cki (2 : Int32) 3 <|
  z_b2 (f_X6_addPause (σ 79 (0 : Int32).toNatClampNeg) (σ 79 (1 : Int32).toNatClampNeg) (σ 79 (2 : Int32).toNatClampNeg) (fun k => σ (zi_R_T k))) fun r27 σ26 =>
  z_let (z_m σ (zk_R_T) 38 σ26) fun σ28 =>
  some (r27, σ28))
  else (z_cki (0 : Int32) 3 <|
  z_b2 (f_X6_letDaysGo (σ 79 (0 : Int32).toNatClampNeg) (fun k => σ (zi_R_TW k))) fun r32 σ31 =>
  z_let (z_m σ (zk_R_TW) 40 σ31) fun σ33 =>
  some (r32, σ33))
set_option maxRecDepth 100000 in
set_option maxHeartbeats 4000000 in
theorem c_X7_answerOf (p1 : Int32) (σ : z_S) (r : Int32) (σz : z_S) (h : f_X7_answerOf p1 σ = some (r, σz)) : zMet yX7_answerOf cX7_answerOf 4 (some .int) 5 112 layR 82 (fun ad => [.ref (ad 0), .int p1, .ref (ad 79), .ref (ad 80)]) σ (z_QI layR 82 r σz) := by
  refine z_headI RX7 (by decide) rfl (fun _ => Nat.le_of_ble_eq_true rfl) (fun E G A ad hB hret => ?_)
  show ZW E G A 4 layR 82 ad 0 [(0, .ref (ad 0)), (1, .int p1), (2, .ref (ad 79)), (3, .ref (ad 80))] [] σ
  unfold f_X7_answerOf at h
  refine z_iload_n hB 1 dX7_answerOf_0 rfl rfl ?_
  by_cases c1 : p1 = (98 : Int32)
  · have h := z_ifT c1 h
    refine z_lookup hB (tgt := 86) (off := 85) dX7_answerOf_1 (by decide) (by first | (rw [c1]; done) | (rw [c1]; rfl)) (by decide) ?_
    refine z_aload_n hB 0 dX7_answerOf_86 rfl rfl ?_
    refine z_getr hB 0 0 1 kR_0 (Nat.le_of_ble_eq_true rfl) vc_7 inlX7 (Nat.le_of_ble_eq_true rfl) rfl (Nat.le_of_ble_eq_true rfl) fl_X7_12 dX7_answerOf_87 ?_
    refine z_aload_n hB 2 dX7_answerOf_90 rfl rfl ?_
    refine z_iconst hB dX7_answerOf_91 zcI_0 ?_
    obtain ⟨h2, h⟩ := z_ckiE h
    refine z_iald hB 79 3 kR_79 (Nat.le_of_ble_eq_true rfl) dX7_answerOf_92 h2 ?_
    refine z_aload_n hB 2 dX7_answerOf_93 rfl rfl ?_
    refine z_iconst hB dX7_answerOf_94 zcI_1 ?_
    obtain ⟨h3, h⟩ := z_ckiE h
    refine z_iald hB 79 3 kR_79 (Nat.le_of_ble_eq_true rfl) dX7_answerOf_95 h3 ?_
    obtain ⟨r6, σ5, h4, h⟩ := z_b2E h
    refine z_cI hB (z_rV (ι := zi_R_T) hB yY_X6_addBiscuits (c_X6_addBiscuits _ _ _ _ _ h4) rfl cut_R_T z_hno kT_0 (Nat.le_of_ble_eq_true rfl) vc_6 rfl rfl rfl (Nat.le_of_ble_eq_true rfl) ml_X7_71 ⟨Nat.le_of_ble_eq_true rfl, Nat.le_of_ble_eq_true rfl⟩ dX7_answerOf_96) cut_R_T z_hno ?_
    obtain ⟨σ7, eσ7, h⟩ := z_letE h
    refine z_to eσ7 ?_
    obtain ⟨h1, h2⟩ := z_prE h
    exact hret _ _ _ _ h1 h2 rfl dX7_answerOf_99
  have h := z_ifF c1 h
  by_cases c8 : p1 = (103 : Int32)
  · have h := z_ifT c8 h
    refine z_lookup hB (tgt := 61) (off := 60) dX7_answerOf_1 (by decide) (by first | (rw [c8]; done) | (rw [c8]; rfl)) (by decide) ?_
    refine z_aload_n hB 0 dX7_answerOf_61 rfl rfl ?_
    refine z_getr hB 0 0 1 kR_0 (Nat.le_of_ble_eq_true rfl) vc_7 inlX7 (Nat.le_of_ble_eq_true rfl) rfl (Nat.le_of_ble_eq_true rfl) fl_X7_12 dX7_answerOf_62 ?_
    refine z_aload_n hB 2 dX7_answerOf_65 rfl rfl ?_
    refine z_iconst hB dX7_answerOf_66 zcI_0 ?_
    obtain ⟨h9, h⟩ := z_ckiE h
    refine z_iald hB 79 3 kR_79 (Nat.le_of_ble_eq_true rfl) dX7_answerOf_67 h9 ?_
    refine z_aload_n hB 2 dX7_answerOf_68 rfl rfl ?_
    refine z_iconst hB dX7_answerOf_69 zcI_1 ?_
    obtain ⟨h10, h⟩ := z_ckiE h
    refine z_iald hB 79 3 kR_79 (Nat.le_of_ble_eq_true rfl) dX7_answerOf_70 h10 ?_
    obtain ⟨r13, σ12, h11, h⟩ := z_b2E h
    refine z_cI hB (z_rV (ι := zi_R_T) hB yY_X6_handOver (c_X6_handOver _ _ _ _ _ h11) rfl cut_R_T z_hno kT_0 (Nat.le_of_ble_eq_true rfl) vc_6 rfl rfl rfl (Nat.le_of_ble_eq_true rfl) ml_X7_63 ⟨Nat.le_of_ble_eq_true rfl, Nat.le_of_ble_eq_true rfl⟩ dX7_answerOf_71) cut_R_T z_hno ?_
    obtain ⟨σ14, eσ14, h⟩ := z_letE h
    refine z_to eσ14 ?_
    obtain ⟨h1, h2⟩ := z_prE h
    exact hret _ _ _ _ h1 h2 rfl dX7_answerOf_74
  have h := z_ifF c8 h
  by_cases c15 : p1 = (110 : Int32)
  · have h := z_ifT c15 h
    refine z_lookup hB (tgt := 75) (off := 74) dX7_answerOf_1 (by decide) (by first | (rw [c15]; done) | (rw [c15]; rfl)) (by decide) ?_
    refine z_aload_n hB 0 dX7_answerOf_75 rfl rfl ?_
    refine z_getr hB 0 0 1 kR_0 (Nat.le_of_ble_eq_true rfl) vc_7 inlX7 (Nat.le_of_ble_eq_true rfl) rfl (Nat.le_of_ble_eq_true rfl) fl_X7_12 dX7_answerOf_76 ?_
    refine z_aload_n hB 2 dX7_answerOf_79 rfl rfl ?_
    refine z_iconst hB dX7_answerOf_80 zcI_0 ?_
    obtain ⟨h16, h⟩ := z_ckiE h
    refine z_iald hB 79 3 kR_79 (Nat.le_of_ble_eq_true rfl) dX7_answerOf_81 h16 ?_
    obtain ⟨r19, σ18, h17, h⟩ := z_b2E h
    refine z_cI hB (z_rV (ι := zi_R_T) hB yY_X6_takeBack (c_X6_takeBack _ _ _ _ h17) rfl cut_R_T z_hno kT_0 (Nat.le_of_ble_eq_true rfl) vc_6 rfl rfl rfl (Nat.le_of_ble_eq_true rfl) ml_X7_67 ⟨Nat.le_of_ble_eq_true rfl, Nat.le_of_ble_eq_true rfl⟩ dX7_answerOf_82) cut_R_T z_hno ?_
    obtain ⟨σ20, eσ20, h⟩ := z_letE h
    refine z_to eσ20 ?_
    obtain ⟨h1, h2⟩ := z_prE h
    exact hret _ _ _ _ h1 h2 rfl dX7_answerOf_85
  have h := z_ifF c15 h
  by_cases c21 : p1 = (112 : Int32)
  · have h := z_ifT c21 h
    refine z_lookup hB (tgt := 44) (off := 43) dX7_answerOf_1 (by decide) (by first | (rw [c21]; done) | (rw [c21]; rfl)) (by decide) ?_
    refine z_aload_n hB 0 dX7_answerOf_44 rfl rfl ?_
    refine z_getr hB 0 0 1 kR_0 (Nat.le_of_ble_eq_true rfl) vc_7 inlX7 (Nat.le_of_ble_eq_true rfl) rfl (Nat.le_of_ble_eq_true rfl) fl_X7_12 dX7_answerOf_45 ?_
    refine z_aload_n hB 2 dX7_answerOf_48 rfl rfl ?_
    refine z_iconst hB dX7_answerOf_49 zcI_0 ?_
    obtain ⟨h22, h⟩ := z_ckiE h
    refine z_iald hB 79 3 kR_79 (Nat.le_of_ble_eq_true rfl) dX7_answerOf_50 h22 ?_
    refine z_aload_n hB 2 dX7_answerOf_51 rfl rfl ?_
    refine z_iconst hB dX7_answerOf_52 zcI_1 ?_
    obtain ⟨h23, h⟩ := z_ckiE h
    refine z_iald hB 79 3 kR_79 (Nat.le_of_ble_eq_true rfl) dX7_answerOf_53 h23 ?_
    refine z_aload_n hB 2 dX7_answerOf_54 rfl rfl ?_
    refine z_iconst hB dX7_answerOf_55 zcI_2 ?_
    obtain ⟨h24, h⟩ := z_ckiE h
    refine z_iald hB 79 3 kR_79 (Nat.le_of_ble_eq_true rfl) dX7_answerOf_56 h24 ?_
    obtain ⟨r27, σ26, h25, h⟩ := z_b2E h
    refine z_cI hB (z_rV (ι := zi_R_T) hB yY_X6_addPause (c_X6_addPause _ _ _ _ _ _ h25) rfl cut_R_T z_hno kT_0 (Nat.le_of_ble_eq_true rfl) vc_6 rfl rfl rfl (Nat.le_of_ble_eq_true rfl) ml_X7_59 ⟨Nat.le_of_ble_eq_true rfl, Nat.le_of_ble_eq_true rfl⟩ dX7_answerOf_57) cut_R_T z_hno ?_
    obtain ⟨σ28, eσ28, h⟩ := z_letE h
    refine z_to eσ28 ?_
    obtain ⟨h1, h2⟩ := z_prE h
    exact hret _ _ _ _ h1 h2 rfl dX7_answerOf_60
  have h := z_ifF c21 h
  refine z_lookup hB (tgt := 100) (off := 99) dX7_answerOf_1 (by decide) ((lv_osw c1 rfl).trans ((lv_osw c8 rfl).trans ((lv_osw c15 rfl).trans ((lv_osw c21 rfl).trans (rfl))))) (by decide) ?_
  refine z_aload_n hB 0 dX7_answerOf_100 rfl rfl ?_
  refine z_getr hB 0 0 1 kR_0 (Nat.le_of_ble_eq_true rfl) vc_7 inlX7 (Nat.le_of_ble_eq_true rfl) rfl (Nat.le_of_ble_eq_true rfl) fl_X7_12 dX7_answerOf_101 ?_
  refine z_aload_n hB 2 dX7_answerOf_104 rfl rfl ?_
  refine z_iconst hB dX7_answerOf_105 zcI_0 ?_
  obtain ⟨h29, h⟩ := z_ckiE h
  refine z_iald hB 79 3 kR_79 (Nat.le_of_ble_eq_true rfl) dX7_answerOf_106 h29 ?_
  refine z_aload_n hB 3 dX7_answerOf_107 rfl rfl ?_
  obtain ⟨r32, σ31, h30, h⟩ := z_b2E h
  refine z_cI hB (z_rV (ι := zi_R_TW) hB yY_X6_letDaysGo (c_X6_letDaysGo _ _ _ _ h30) rfl cut_R_TW z_hno kTW_0 (Nat.le_of_ble_eq_true rfl) vc_6 rfl rfl rfl (Nat.le_of_ble_eq_true rfl) ml_X7_74 ⟨Nat.le_of_ble_eq_true rfl, Nat.le_of_ble_eq_true rfl⟩ dX7_answerOf_108) cut_R_TW z_hno ?_
  obtain ⟨σ33, eσ33, h⟩ := z_letE h
  refine z_to eσ33 ?_
  obtain ⟨h1, h2⟩ := z_prE h
  exact hret _ _ _ _ h1 h2 rfl dX7_answerOf_111
def lb_X7_run_28 (k8 : z_S → Option z_S) (σ9 : z_S) : Option z_S :=
  if (σ9 0 3) = (0 : Int32) then
  (if (σ9 77 0) ≤ (σ9 0 2) then
  (some σ9)
  else
  (if (60 : Int32) ≤ (σ9 0 1) then
  (some σ9)
  else
  (z_b2 (f_X5_readOrder (σ9 0 2) (fun k => σ9 (zi_R_X0 k))) fun r15 σ14 =>
  z_let (z_m σ9 (zk_R_X0) 3 σ14) fun σ16 =>
  if r15 = (0 : Int32) then
  (z_let (z_u σ16 0 3 ((1 : Int32))) fun σ28 =>
  k8 σ28)
  else
  (z_b2 (f_X7_answerOf (σ16 77 2) σ16) fun r20 σ19 =>
  z_let (fun (σ21 : z_S) => k8 σ21) fun j22 =>
  if (0 : Int32) ≤ r20 then
  (z_let (z_u σ19 0 1 ((σ19 0 1) + (1 : Int32))) fun σ24 =>
  z_let (z_u σ24 0 2 (σ24 77 3)) fun σ25 =>
  j22 σ25)
  else
  (z_let (z_u σ19 0 3 ((2 : Int32))) fun σ26 =>
  z_let (z_u σ26 0 4 (r20)) fun σ27 =>
  j22 σ27)))))
  else
  (some σ9)
def f_X7_run (σ : z_S) : Option z_S :=
  z_b1 (f_X6_copyFrom (fun k => σ (zi_R_TT k))) fun σ2 =>
  z_let (z_m σ (zk_R_TT) 76 σ2) fun σ3 =>
  z_let (z_u σ3 0 1 ((0 : Int32))) fun σ4 =>
  z_let (z_u σ4 0 2 ((0 : Int32))) fun σ5 =>
  z_let (z_u σ5 0 3 ((0 : Int32))) fun σ6 =>
  z_let (z_u σ6 0 4 ((0 : Int32))) fun σ7 =>
  z_lp1 lb_X7_run_28 z_Fu σ7
set_option maxRecDepth 100000 in
set_option maxHeartbeats 4000000 in
theorem c_X7_run (σ σz : z_S) (h : f_X7_run σ = some σz) : zMet yX7_run cX7_run 5 none 6 135 layR 82 (fun ad => [.ref (ad 0), .ref (ad 39), .ref (ad 77), .ref (ad 80)]) σ (z_QV layR 82 σz) := by
  refine z_headV RX7 (by decide) rfl (fun _ => Nat.le_of_ble_eq_true rfl) (fun E G A ad hB hret => ?_)
  show ZW E G A 5 layR 82 ad 0 [(0, .ref (ad 0)), (1, .ref (ad 39)), (2, .ref (ad 77)), (3, .ref (ad 80))] [] σ
  unfold f_X7_run at h
  refine z_aload_n hB 0 dX7_run_0 rfl rfl ?_
  refine z_getr hB 0 0 1 kR_0 (Nat.le_of_ble_eq_true rfl) vc_7 inlX7 (Nat.le_of_ble_eq_true rfl) rfl (Nat.le_of_ble_eq_true rfl) fl_X7_12 dX7_run_1 ?_
  refine z_aload_n hB 1 dX7_run_4 rfl rfl ?_
  obtain ⟨σ2, h1, h⟩ := z_b1E h
  refine z_cV hB (z_rV (ι := zi_R_TT) hB yY_X6_copyFrom (c_X6_copyFrom _ _ h1) rfl cut_R_TT z_hno kTT_0 (Nat.le_of_ble_eq_true rfl) vc_6 rfl rfl rfl (Nat.le_of_ble_eq_true rfl) ml_X7_31 ⟨Nat.le_of_ble_eq_true rfl, Nat.le_of_ble_eq_true rfl⟩ dX7_run_5) cut_R_TT z_hno ?_
  obtain ⟨σ3, eσ3, h⟩ := z_letE h
  refine z_to eσ3 ?_
  refine z_aload_n hB 0 dX7_run_8 rfl rfl ?_
  refine z_iconst hB dX7_run_9 zcI_0 ?_
  obtain ⟨σ4, eσ4, h⟩ := z_letE h
  refine z_put hB 0 1 kR_0 (Nat.le_of_ble_eq_true rfl) vc_7 inlX7 tyX7 tyX7_ok nmX7 (Nat.le_of_ble_eq_true rfl) rfl rfl (tyX7_ok 1 (Nat.le_of_ble_eq_true rfl)) fl_X7_18 dX7_run_10 ?_
  refine z_to eσ4 ?_
  refine z_aload_n hB 0 dX7_run_13 rfl rfl ?_
  refine z_iconst hB dX7_run_14 zcI_0 ?_
  obtain ⟨σ5, eσ5, h⟩ := z_letE h
  refine z_put hB 0 2 kR_0 (Nat.le_of_ble_eq_true rfl) vc_7 inlX7 tyX7 tyX7_ok nmX7 (Nat.le_of_ble_eq_true rfl) rfl rfl (tyX7_ok 2 (Nat.le_of_ble_eq_true rfl)) fl_X7_22 dX7_run_15 ?_
  refine z_to eσ5 ?_
  refine z_aload_n hB 0 dX7_run_18 rfl rfl ?_
  refine z_iconst hB dX7_run_19 zcI_0 ?_
  obtain ⟨σ6, eσ6, h⟩ := z_letE h
  refine z_put hB 0 3 kR_0 (Nat.le_of_ble_eq_true rfl) vc_7 inlX7 tyX7 tyX7_ok nmX7 (Nat.le_of_ble_eq_true rfl) rfl rfl (tyX7_ok 3 (Nat.le_of_ble_eq_true rfl)) fl_X7_25 dX7_run_20 ?_
  refine z_to eσ6 ?_
  refine z_aload_n hB 0 dX7_run_23 rfl rfl ?_
  refine z_iconst hB dX7_run_24 zcI_0 ?_
  obtain ⟨σ7, eσ7, h⟩ := z_letE h
  refine z_put hB 0 4 kR_0 (Nat.le_of_ble_eq_true rfl) vc_7 inlX7 tyX7 tyX7_ok nmX7 (Nat.le_of_ble_eq_true rfl) rfl rfl (tyX7_ok 4 (Nat.le_of_ble_eq_true rfl)) fl_X7_28 dX7_run_25 ?_
  refine z_to eσ7 ?_
  refine z_lv [0, 2, 3] rfl ?_
  refine z_lpr1 (g := fun σ9 => ZW E G A 5 layR 82 ad 28 [(0, .ref (ad 0)), (2, .ref (ad 77)), (3, .ref (ad 80))] [] σ9) (fun k8 σ9 hk_k8 h => ?_) _ _ h
  show ZW E G A 5 layR 82 ad 28 [(0, .ref (ad 0)), (2, .ref (ad 77)), (3, .ref (ad 80))] [] σ9
  unfold lb_X7_run_28 at h
  refine z_aload_n hB 0 dX7_run_28 rfl rfl ?_
  refine z_get hB 0 3 kR_0 (Nat.le_of_ble_eq_true rfl) vc_7 inlX7 (Nat.le_of_ble_eq_true rfl) rfl fl_X7_25 dX7_run_29 ?_
  refine z_if_ne hB (tgt := 129) dX7_run_32 (by decide) (fun c10 => ?_) (fun c10 => ?_)
  · have h := z_ifF c10 h
    exact hret _ _ _ (Option.some.inj h) dX7_run_129
  · have h := z_ifT c10 h
    refine z_aload_n hB 0 dX7_run_35 rfl rfl ?_
    refine z_get hB 0 2 kR_0 (Nat.le_of_ble_eq_true rfl) vc_7 inlX7 (Nat.le_of_ble_eq_true rfl) rfl fl_X7_22 dX7_run_36 ?_
    refine z_aload_n hB 1 dX7_run_39 rfl rfl ?_
    refine z_get hB 77 0 kR_77 (Nat.le_of_ble_eq_true rfl) vc_5 inlX5 (Nat.le_of_ble_eq_true rfl) rfl fl_X7_35 dX7_run_40 ?_
    refine z_icmp_ge hB (tgt := 129) dX7_run_43 (by decide) (fun c11 => ?_) (fun c11 => ?_)
    · have h := z_ifT c11 h
      exact hret _ _ _ (Option.some.inj h) dX7_run_129
    · have h := z_ifF c11 h
      refine z_aload_n hB 0 dX7_run_46 rfl rfl ?_
      refine z_get hB 0 1 kR_0 (Nat.le_of_ble_eq_true rfl) vc_7 inlX7 (Nat.le_of_ble_eq_true rfl) rfl fl_X7_18 dX7_run_47 ?_
      refine z_bipush hB dX7_run_50 zcB_60 ?_
      refine z_icmp_ge hB (tgt := 129) dX7_run_52 (by decide) (fun c12 => ?_) (fun c12 => ?_)
      · have h := z_ifT c12 h
        exact hret _ _ _ (Option.some.inj h) dX7_run_129
      · have h := z_ifF c12 h
        refine z_aload_n hB 1 dX7_run_55 rfl rfl ?_
        refine z_aload_n hB 0 dX7_run_56 rfl rfl ?_
        refine z_get hB 0 2 kR_0 (Nat.le_of_ble_eq_true rfl) vc_7 inlX7 (Nat.le_of_ble_eq_true rfl) rfl fl_X7_22 dX7_run_57 ?_
        obtain ⟨r15, σ14, h13, h⟩ := z_b2E h
        refine z_cI hB (z_rV (ι := zi_R_X0) hB yY_X5_readOrder (c_X5_readOrder _ _ _ _ h13) rfl cut_R_X0 z_hno kX0_0 (Nat.le_of_ble_eq_true rfl) vc_5 rfl rfl rfl (Nat.le_of_ble_eq_true rfl) ml_X7_40 ⟨Nat.le_of_ble_eq_true rfl, Nat.le_of_ble_eq_true rfl⟩ dX7_run_60) cut_R_X0 z_hno ?_
        obtain ⟨σ16, eσ16, h⟩ := z_letE h
        refine z_to eσ16 ?_
        refine z_if_ne hB (tgt := 74) dX7_run_63 (by decide) (fun c17 => ?_) (fun c17 => ?_)
        · have h := z_ifF c17 h
          refine z_aload_n hB 0 dX7_run_74 rfl rfl ?_
          refine z_aload_n hB 1 dX7_run_75 rfl rfl ?_
          refine z_get hB 77 2 kR_77 (Nat.le_of_ble_eq_true rfl) vc_5 inlX5 (Nat.le_of_ble_eq_true rfl) rfl fl_X7_44 dX7_run_76 ?_
          refine z_aload_n hB 1 dX7_run_79 rfl rfl ?_
          refine z_getr hB 77 4 79 kR_77 (Nat.le_of_ble_eq_true rfl) vc_5 inlX5 (Nat.le_of_ble_eq_true rfl) rfl (Nat.le_of_ble_eq_true rfl) fl_X7_48 dX7_run_80 ?_
          refine z_aload_n hB 2 dX7_run_83 rfl rfl ?_
          obtain ⟨r20, σ19, h18, h⟩ := z_b2E h
          refine z_cI hB (z_rV (ι := fun k => k) hB yY_X7_answerOf (c_X7_answerOf _ _ _ _ h18) rfl cut_R z_hid kR_0 (Nat.le_of_ble_eq_true rfl) vc_7 rfl rfl rfl (Nat.le_of_ble_eq_true rfl) ml_X7_52 ⟨Nat.le_of_ble_eq_true rfl, Nat.le_of_ble_eq_true rfl⟩ dX7_run_84) cut_R z_hid ?_
          refine z_toA z_mid ?_
          refine z_istore hB [(4, .int r20), (0, .ref (ad 0)), (2, .ref (ad 77)), (3, .ref (ad 80))] dX7_run_87 (Nat.le_of_ble_eq_true rfl) rfl rfl ?_
          refine z_iload hB 0 dX7_run_89 rfl ?_
          obtain ⟨j22, ej22, h⟩ := z_letE h
          have hj22 : ∀ (σ21 : z_S), j22 σ21 = some σz → ZW E G A 5 layR 82 ad 126 [(0, .ref (ad 0)), (2, .ref (ad 77)), (3, .ref (ad 80))] [] σ21 := by
            intro σ21 h
            rw [ej22] at h
            refine z_goto hB (tgt := 28) dX7_run_126 (by decide) ?_
            exact hk_k8 _ h
          refine z_if_ge hB (tgt := 108) dX7_run_91 (by decide) (fun c23 => ?_) (fun c23 => ?_)
          · have h := z_ifT c23 h
            refine z_aload_n hB 1 dX7_run_108 rfl rfl ?_
            refine z_dup hB dX7_run_109 rfl ?_
            refine z_get hB 0 1 kR_0 (Nat.le_of_ble_eq_true rfl) vc_7 inlX7 (Nat.le_of_ble_eq_true rfl) rfl fl_X7_18 dX7_run_110 ?_
            refine z_iconst hB dX7_run_113 zcI_1 ?_
            refine z_iadd hB dX7_run_114 ?_
            obtain ⟨σ24, eσ24, h⟩ := z_letE h
            refine z_put hB 0 1 kR_0 (Nat.le_of_ble_eq_true rfl) vc_7 inlX7 tyX7 tyX7_ok nmX7 (Nat.le_of_ble_eq_true rfl) rfl rfl (tyX7_ok 1 (Nat.le_of_ble_eq_true rfl)) fl_X7_18 dX7_run_115 ?_
            refine z_to eσ24 ?_
            refine z_aload_n hB 1 dX7_run_118 rfl rfl ?_
            refine z_aload_n hB 2 dX7_run_119 rfl rfl ?_
            refine z_get hB 77 3 kR_77 (Nat.le_of_ble_eq_true rfl) vc_5 inlX5 (Nat.le_of_ble_eq_true rfl) rfl fl_X7_56 dX7_run_120 ?_
            obtain ⟨σ25, eσ25, h⟩ := z_letE h
            refine z_put hB 0 2 kR_0 (Nat.le_of_ble_eq_true rfl) vc_7 inlX7 tyX7 tyX7_ok nmX7 (Nat.le_of_ble_eq_true rfl) rfl rfl (tyX7_ok 2 (Nat.le_of_ble_eq_true rfl)) fl_X7_22 dX7_run_123 ?_
            refine z_to eσ25 ?_
            refine z_lv [1, 2, 3] rfl ?_
            exact hj22 _ h
          · have h := z_ifF c23 h
            refine z_aload_n hB 1 dX7_run_94 rfl rfl ?_
            refine z_iconst hB dX7_run_95 zcI_2 ?_
            obtain ⟨σ26, eσ26, h⟩ := z_letE h
            refine z_put hB 0 3 kR_0 (Nat.le_of_ble_eq_true rfl) vc_7 inlX7 tyX7 tyX7_ok nmX7 (Nat.le_of_ble_eq_true rfl) rfl rfl (tyX7_ok 3 (Nat.le_of_ble_eq_true rfl)) fl_X7_25 dX7_run_96 ?_
            refine z_to eσ26 ?_
            refine z_aload_n hB 1 dX7_run_99 rfl rfl ?_
            refine z_iload hB 0 dX7_run_100 rfl ?_
            obtain ⟨σ27, eσ27, h⟩ := z_letE h
            refine z_put hB 0 4 kR_0 (Nat.le_of_ble_eq_true rfl) vc_7 inlX7 tyX7 tyX7_ok nmX7 (Nat.le_of_ble_eq_true rfl) rfl rfl (tyX7_ok 4 (Nat.le_of_ble_eq_true rfl)) fl_X7_28 dX7_run_102 ?_
            refine z_to eσ27 ?_
            refine z_goto hB (tgt := 126) dX7_run_105 (by decide) ?_
            refine z_lv [1, 2, 3] rfl ?_
            exact hj22 _ h
        · have h := z_ifT c17 h
          refine z_aload_n hB 0 dX7_run_66 rfl rfl ?_
          refine z_iconst hB dX7_run_67 zcI_1 ?_
          obtain ⟨σ28, eσ28, h⟩ := z_letE h
          refine z_put hB 0 3 kR_0 (Nat.le_of_ble_eq_true rfl) vc_7 inlX7 tyX7 tyX7_ok nmX7 (Nat.le_of_ble_eq_true rfl) rfl rfl (tyX7_ok 3 (Nat.le_of_ble_eq_true rfl)) fl_X7_25 dX7_run_68 ?_
          refine z_to eσ28 ?_
          refine z_goto hB (tgt := 28) dX7_run_71 (by decide) ?_
          exact hk_k8 _ h
def f_X9_settled (p1 : Int32) (σ : z_S) : Option (Int32 × z_S) :=
  if p1 < (0 : Int32) then
  (some (p1, σ))
  else
  (z_b1 (f_X1_keepPrepared (fun k => σ (zi_X_H k))) fun σ3 =>
  z_let (z_m σ (zk_X_H) 230 σ3) fun σ4 =>
  some (p1, σ4))
set_option maxRecDepth 100000 in
set_option maxHeartbeats 4000000 in
theorem c_X9_settled (p1 : Int32) (σ : z_S) (r : Int32) (σz : z_S) (h : f_X9_settled p1 σ = some (r, σz)) : zMet yX9_settled cX9_settled 2 (some .int) 1 20 layX 275 (fun ad => [.ref (ad 230), .int p1]) σ (z_QI layX 275 r σz) := by
  refine z_headI RX9 (by decide) rfl (fun _ => Nat.le_of_ble_eq_true rfl) (fun E G A ad hB hret => ?_)
  show ZW E G A 2 layX 275 ad 0 [(0, .ref (ad 230)), (1, .int p1)] [] σ
  unfold f_X9_settled at h
  refine z_iload_n hB 1 dX9_settled_0 rfl rfl ?_
  refine z_if_lt hB (tgt := 11) dX9_settled_1 (by decide) (fun c1 => ?_) (fun c1 => ?_)
  · have h := z_ifT c1 h
    refine z_iload_n hB 1 dX9_settled_11 rfl rfl ?_
    obtain ⟨h1, h2⟩ := z_prE h
    exact hret _ _ _ _ h1 h2 rfl dX9_settled_12
  · have h := z_ifF c1 h
    refine z_aload_n hB 0 dX9_settled_4 rfl rfl ?_
    refine z_getr hB 230 1 0 kX_230 (Nat.le_of_ble_eq_true rfl) vc_9 inlX9 (Nat.le_of_ble_eq_true rfl) rfl (Nat.le_of_ble_eq_true rfl) fl_X9_19 dX9_settled_5 ?_
    obtain ⟨σ3, h2, h⟩ := z_b1E h
    refine z_cV hB (z_rV (ι := zi_X_H) hB yY_X1_keepPrepared (c_X1_keepPrepared _ _ h2) rfl cut_X_H z_hidH kH_0 (Nat.le_of_ble_eq_true rfl) vc_1 rfl rfl rfl (Nat.le_of_ble_eq_true rfl) ml_X9_308 ⟨Nat.le_of_ble_eq_true rfl, Nat.le_of_ble_eq_true rfl⟩ dX9_settled_8) cut_X_H z_hidH ?_
    obtain ⟨σ4, eσ4, h⟩ := z_letE h
    refine z_to eσ4 ?_
    refine z_iload_n hB 1 dX9_settled_11 rfl rfl ?_
    obtain ⟨h1, h2⟩ := z_prE h
    exact hret _ _ _ _ h1 h2 rfl dX9_settled_12
def f_X9_corner (p1 : Int32) (p2 : Int32) (p3 : Int32) (p4 : Int32) (σ : z_S) : Option (Int32 × z_S) :=
  z_b1 (f_X1_prepare (fun k => σ (zi_X_H k))) fun σ2 =>
  z_let (z_m σ (zk_X_H) 230 σ2) fun σ3 =>
  z_b2 (f_X6_addCorner p1 p2 p3 p4 (fun k => σ3 (zi_X_T k))) fun r6 σ5 =>
  z_let (z_m σ3 (zk_X_T) 38 σ5) fun σ7 =>
  z_b2 (f_X9_settled r6 σ7) fun r10 σ9 =>
  some (r10, σ9)
set_option maxRecDepth 100000 in
set_option maxHeartbeats 4000000 in
theorem c_X9_corner (p1 : Int32) (p2 : Int32) (p3 : Int32) (p4 : Int32) (σ : z_S) (r : Int32) (σz : z_S) (h : f_X9_corner p1 p2 p3 p4 σ = some (r, σz)) : zMet yX9_corner cX9_corner 5 (some .int) 5 103 layX 275 (fun ad => [.ref (ad 230), .int p1, .int p2, .int p3, .int p4]) σ (z_QI layX 275 r σz) := by
  refine z_headI RX9 (by decide) rfl (fun _ => Nat.le_of_ble_eq_true rfl) (fun E G A ad hB hret => ?_)
  show ZW E G A 5 layX 275 ad 0 [(0, .ref (ad 230)), (1, .int p1), (2, .int p2), (3, .int p3), (4, .int p4)] [] σ
  unfold f_X9_corner at h
  refine z_aload_n hB 0 dX9_corner_0 rfl rfl ?_
  refine z_getr hB 230 1 0 kX_230 (Nat.le_of_ble_eq_true rfl) vc_9 inlX9 (Nat.le_of_ble_eq_true rfl) rfl (Nat.le_of_ble_eq_true rfl) fl_X9_19 dX9_corner_1 ?_
  refine z_aload_n hB 0 dX9_corner_4 rfl rfl ?_
  refine z_getr hB 230 0 192 kX_230 (Nat.le_of_ble_eq_true rfl) vc_9 inlX9 (Nat.le_of_ble_eq_true rfl) rfl (Nat.le_of_ble_eq_true rfl) fl_X9_10 dX9_corner_5 ?_
  obtain ⟨σ2, h1, h⟩ := z_b1E h
  refine z_cV hB (z_rV (ι := zi_X_H) hB yY_X1_prepare (c_X1_prepare _ _ h1) rfl cut_X_H z_hidH kH_0 (Nat.le_of_ble_eq_true rfl) vc_1 rfl rfl rfl (Nat.le_of_ble_eq_true rfl) ml_X9_44 ⟨Nat.le_of_ble_eq_true rfl, Nat.le_of_ble_eq_true rfl⟩ dX9_corner_8) cut_X_H z_hidH ?_
  obtain ⟨σ3, eσ3, h⟩ := z_letE h
  refine z_to eσ3 ?_
  refine z_aload_n hB 0 dX9_corner_11 rfl rfl ?_
  refine z_aload_n hB 0 dX9_corner_12 rfl rfl ?_
  refine z_getr hB 230 0 192 kX_230 (Nat.le_of_ble_eq_true rfl) vc_9 inlX9 (Nat.le_of_ble_eq_true rfl) rfl (Nat.le_of_ble_eq_true rfl) fl_X9_10 dX9_corner_13 ?_
  refine z_iload_n hB 1 dX9_corner_16 rfl rfl ?_
  refine z_iload_n hB 2 dX9_corner_17 rfl rfl ?_
  refine z_iload_n hB 3 dX9_corner_18 rfl rfl ?_
  refine z_iload hB 4 dX9_corner_19 rfl ?_
  obtain ⟨r6, σ5, h4, h⟩ := z_b2E h
  refine z_cI hB (z_rV (ι := zi_X_T) hB yY_X6_addCorner (c_X6_addCorner _ _ _ _ _ _ _ h4) rfl cut_X_T z_hno kT_0 (Nat.le_of_ble_eq_true rfl) vc_6 rfl rfl rfl (Nat.le_of_ble_eq_true rfl) ml_X9_48 ⟨Nat.le_of_ble_eq_true rfl, Nat.le_of_ble_eq_true rfl⟩ dX9_corner_21) cut_X_T z_hno ?_
  obtain ⟨σ7, eσ7, h⟩ := z_letE h
  refine z_to eσ7 ?_
  obtain ⟨r10, σ9, h8, h⟩ := z_b2E h
  refine z_cI hB (z_rV (ι := fun k => k) hB yY_X9_settled (c_X9_settled _ _ _ _ h8) rfl cut_X z_hid kX_230 (Nat.le_of_ble_eq_true rfl) vc_9 rfl rfl rfl (Nat.le_of_ble_eq_true rfl) ml_X9_52 ⟨Nat.le_of_ble_eq_true rfl, Nat.le_of_ble_eq_true rfl⟩ dX9_corner_24) cut_X z_hid ?_
  refine z_toA z_mid ?_
  obtain ⟨h1, h2⟩ := z_prE h
  exact hret _ _ _ _ h1 h2 rfl dX9_corner_27
def f_X9_house (p1 : Int32) (p2 : Int32) (p3 : Int32) (σ : z_S) : Option (Int32 × z_S) :=
  z_b1 (f_X1_prepare (fun k => σ (zi_X_H k))) fun σ2 =>
  z_let (z_m σ (zk_X_H) 230 σ2) fun σ3 =>
  z_b2 (f_X6_addHouse p1 p2 p3 (fun k => σ3 (zi_X_T k))) fun r6 σ5 =>
  z_let (z_m σ3 (zk_X_T) 38 σ5) fun σ7 =>
  z_b2 (f_X9_settled r6 σ7) fun r10 σ9 =>
  some (r10, σ9)
set_option maxRecDepth 100000 in
set_option maxHeartbeats 4000000 in
theorem c_X9_house (p1 : Int32) (p2 : Int32) (p3 : Int32) (σ : z_S) (r : Int32) (σz : z_S) (h : f_X9_house p1 p2 p3 σ = some (r, σz)) : zMet yX9_house cX9_house 4 (some .int) 5 103 layX 275 (fun ad => [.ref (ad 230), .int p1, .int p2, .int p3]) σ (z_QI layX 275 r σz) := by
  refine z_headI RX9 (by decide) rfl (fun _ => Nat.le_of_ble_eq_true rfl) (fun E G A ad hB hret => ?_)
  show ZW E G A 4 layX 275 ad 0 [(0, .ref (ad 230)), (1, .int p1), (2, .int p2), (3, .int p3)] [] σ
  unfold f_X9_house at h
  refine z_aload_n hB 0 dX9_house_0 rfl rfl ?_
  refine z_getr hB 230 1 0 kX_230 (Nat.le_of_ble_eq_true rfl) vc_9 inlX9 (Nat.le_of_ble_eq_true rfl) rfl (Nat.le_of_ble_eq_true rfl) fl_X9_19 dX9_house_1 ?_
  refine z_aload_n hB 0 dX9_house_4 rfl rfl ?_
  refine z_getr hB 230 0 192 kX_230 (Nat.le_of_ble_eq_true rfl) vc_9 inlX9 (Nat.le_of_ble_eq_true rfl) rfl (Nat.le_of_ble_eq_true rfl) fl_X9_10 dX9_house_5 ?_
  obtain ⟨σ2, h1, h⟩ := z_b1E h
  refine z_cV hB (z_rV (ι := zi_X_H) hB yY_X1_prepare (c_X1_prepare _ _ h1) rfl cut_X_H z_hidH kH_0 (Nat.le_of_ble_eq_true rfl) vc_1 rfl rfl rfl (Nat.le_of_ble_eq_true rfl) ml_X9_44 ⟨Nat.le_of_ble_eq_true rfl, Nat.le_of_ble_eq_true rfl⟩ dX9_house_8) cut_X_H z_hidH ?_
  obtain ⟨σ3, eσ3, h⟩ := z_letE h
  refine z_to eσ3 ?_
  refine z_aload_n hB 0 dX9_house_11 rfl rfl ?_
  refine z_aload_n hB 0 dX9_house_12 rfl rfl ?_
  refine z_getr hB 230 0 192 kX_230 (Nat.le_of_ble_eq_true rfl) vc_9 inlX9 (Nat.le_of_ble_eq_true rfl) rfl (Nat.le_of_ble_eq_true rfl) fl_X9_10 dX9_house_13 ?_
  refine z_iload_n hB 1 dX9_house_16 rfl rfl ?_
  refine z_iload_n hB 2 dX9_house_17 rfl rfl ?_
  refine z_iload_n hB 3 dX9_house_18 rfl rfl ?_
  obtain ⟨r6, σ5, h4, h⟩ := z_b2E h
  refine z_cI hB (z_rV (ι := zi_X_T) hB yY_X6_addHouse (c_X6_addHouse _ _ _ _ _ _ h4) rfl cut_X_T z_hno kT_0 (Nat.le_of_ble_eq_true rfl) vc_6 rfl rfl rfl (Nat.le_of_ble_eq_true rfl) ml_X9_56 ⟨Nat.le_of_ble_eq_true rfl, Nat.le_of_ble_eq_true rfl⟩ dX9_house_19) cut_X_T z_hno ?_
  obtain ⟨σ7, eσ7, h⟩ := z_letE h
  refine z_to eσ7 ?_
  obtain ⟨r10, σ9, h8, h⟩ := z_b2E h
  refine z_cI hB (z_rV (ι := fun k => k) hB yY_X9_settled (c_X9_settled _ _ _ _ h8) rfl cut_X z_hid kX_230 (Nat.le_of_ble_eq_true rfl) vc_9 rfl rfl rfl (Nat.le_of_ble_eq_true rfl) ml_X9_52 ⟨Nat.le_of_ble_eq_true rfl, Nat.le_of_ble_eq_true rfl⟩ dX9_house_22) cut_X z_hid ?_
  refine z_toA z_mid ?_
  obtain ⟨h1, h2⟩ := z_prE h
  exact hret _ _ _ _ h1 h2 rfl dX9_house_25
def f_X9_dog (p1 : Int32) (p2 : Int32) (p3 : Int32) (σ : z_S) : Option (Int32 × z_S) :=
  z_b1 (f_X1_prepare (fun k => σ (zi_X_H k))) fun σ2 =>
  z_let (z_m σ (zk_X_H) 230 σ2) fun σ3 =>
  z_b2 (f_X6_changeDog p1 p2 p3 (fun k => σ3 (zi_X_T k))) fun r6 σ5 =>
  z_let (z_m σ3 (zk_X_T) 38 σ5) fun σ7 =>
  z_b2 (f_X9_settled r6 σ7) fun r10 σ9 =>
  some (r10, σ9)
set_option maxRecDepth 100000 in
set_option maxHeartbeats 4000000 in
theorem c_X9_dog (p1 : Int32) (p2 : Int32) (p3 : Int32) (σ : z_S) (r : Int32) (σz : z_S) (h : f_X9_dog p1 p2 p3 σ = some (r, σz)) : zMet yX9_dog cX9_dog 4 (some .int) 5 103 layX 275 (fun ad => [.ref (ad 230), .int p1, .int p2, .int p3]) σ (z_QI layX 275 r σz) := by
  refine z_headI RX9 (by decide) rfl (fun _ => Nat.le_of_ble_eq_true rfl) (fun E G A ad hB hret => ?_)
  show ZW E G A 4 layX 275 ad 0 [(0, .ref (ad 230)), (1, .int p1), (2, .int p2), (3, .int p3)] [] σ
  unfold f_X9_dog at h
  refine z_aload_n hB 0 dX9_dog_0 rfl rfl ?_
  refine z_getr hB 230 1 0 kX_230 (Nat.le_of_ble_eq_true rfl) vc_9 inlX9 (Nat.le_of_ble_eq_true rfl) rfl (Nat.le_of_ble_eq_true rfl) fl_X9_19 dX9_dog_1 ?_
  refine z_aload_n hB 0 dX9_dog_4 rfl rfl ?_
  refine z_getr hB 230 0 192 kX_230 (Nat.le_of_ble_eq_true rfl) vc_9 inlX9 (Nat.le_of_ble_eq_true rfl) rfl (Nat.le_of_ble_eq_true rfl) fl_X9_10 dX9_dog_5 ?_
  obtain ⟨σ2, h1, h⟩ := z_b1E h
  refine z_cV hB (z_rV (ι := zi_X_H) hB yY_X1_prepare (c_X1_prepare _ _ h1) rfl cut_X_H z_hidH kH_0 (Nat.le_of_ble_eq_true rfl) vc_1 rfl rfl rfl (Nat.le_of_ble_eq_true rfl) ml_X9_44 ⟨Nat.le_of_ble_eq_true rfl, Nat.le_of_ble_eq_true rfl⟩ dX9_dog_8) cut_X_H z_hidH ?_
  obtain ⟨σ3, eσ3, h⟩ := z_letE h
  refine z_to eσ3 ?_
  refine z_aload_n hB 0 dX9_dog_11 rfl rfl ?_
  refine z_aload_n hB 0 dX9_dog_12 rfl rfl ?_
  refine z_getr hB 230 0 192 kX_230 (Nat.le_of_ble_eq_true rfl) vc_9 inlX9 (Nat.le_of_ble_eq_true rfl) rfl (Nat.le_of_ble_eq_true rfl) fl_X9_10 dX9_dog_13 ?_
  refine z_iload_n hB 1 dX9_dog_16 rfl rfl ?_
  refine z_iload_n hB 2 dX9_dog_17 rfl rfl ?_
  refine z_iload_n hB 3 dX9_dog_18 rfl rfl ?_
  obtain ⟨r6, σ5, h4, h⟩ := z_b2E h
  refine z_cI hB (z_rV (ι := zi_X_T) hB yY_X6_changeDog (c_X6_changeDog _ _ _ _ _ _ h4) rfl cut_X_T z_hno kT_0 (Nat.le_of_ble_eq_true rfl) vc_6 rfl rfl rfl (Nat.le_of_ble_eq_true rfl) ml_X9_60 ⟨Nat.le_of_ble_eq_true rfl, Nat.le_of_ble_eq_true rfl⟩ dX9_dog_19) cut_X_T z_hno ?_
  obtain ⟨σ7, eσ7, h⟩ := z_letE h
  refine z_to eσ7 ?_
  obtain ⟨r10, σ9, h8, h⟩ := z_b2E h
  refine z_cI hB (z_rV (ι := fun k => k) hB yY_X9_settled (c_X9_settled _ _ _ _ h8) rfl cut_X z_hid kX_230 (Nat.le_of_ble_eq_true rfl) vc_9 rfl rfl rfl (Nat.le_of_ble_eq_true rfl) ml_X9_52 ⟨Nat.le_of_ble_eq_true rfl, Nat.le_of_ble_eq_true rfl⟩ dX9_dog_22) cut_X z_hid ?_
  refine z_toA z_mid ?_
  obtain ⟨h1, h2⟩ := z_prE h
  exact hret _ _ _ _ h1 h2 rfl dX9_dog_25
def f_X9_pause (p1 : Int32) (p2 : Int32) (p3 : Int32) (σ : z_S) : Option (Int32 × z_S) :=
  z_b1 (f_X1_prepare (fun k => σ (zi_X_H k))) fun σ2 =>
  z_let (z_m σ (zk_X_H) 230 σ2) fun σ3 =>
  z_b2 (f_X6_addPause p1 p2 p3 (fun k => σ3 (zi_X_T k))) fun r6 σ5 =>
  z_let (z_m σ3 (zk_X_T) 38 σ5) fun σ7 =>
  z_b2 (f_X9_settled r6 σ7) fun r10 σ9 =>
  some (r10, σ9)
set_option maxRecDepth 100000 in
set_option maxHeartbeats 4000000 in
theorem c_X9_pause (p1 : Int32) (p2 : Int32) (p3 : Int32) (σ : z_S) (r : Int32) (σz : z_S) (h : f_X9_pause p1 p2 p3 σ = some (r, σz)) : zMet yX9_pause cX9_pause 4 (some .int) 5 103 layX 275 (fun ad => [.ref (ad 230), .int p1, .int p2, .int p3]) σ (z_QI layX 275 r σz) := by
  refine z_headI RX9 (by decide) rfl (fun _ => Nat.le_of_ble_eq_true rfl) (fun E G A ad hB hret => ?_)
  show ZW E G A 4 layX 275 ad 0 [(0, .ref (ad 230)), (1, .int p1), (2, .int p2), (3, .int p3)] [] σ
  unfold f_X9_pause at h
  refine z_aload_n hB 0 dX9_pause_0 rfl rfl ?_
  refine z_getr hB 230 1 0 kX_230 (Nat.le_of_ble_eq_true rfl) vc_9 inlX9 (Nat.le_of_ble_eq_true rfl) rfl (Nat.le_of_ble_eq_true rfl) fl_X9_19 dX9_pause_1 ?_
  refine z_aload_n hB 0 dX9_pause_4 rfl rfl ?_
  refine z_getr hB 230 0 192 kX_230 (Nat.le_of_ble_eq_true rfl) vc_9 inlX9 (Nat.le_of_ble_eq_true rfl) rfl (Nat.le_of_ble_eq_true rfl) fl_X9_10 dX9_pause_5 ?_
  obtain ⟨σ2, h1, h⟩ := z_b1E h
  refine z_cV hB (z_rV (ι := zi_X_H) hB yY_X1_prepare (c_X1_prepare _ _ h1) rfl cut_X_H z_hidH kH_0 (Nat.le_of_ble_eq_true rfl) vc_1 rfl rfl rfl (Nat.le_of_ble_eq_true rfl) ml_X9_44 ⟨Nat.le_of_ble_eq_true rfl, Nat.le_of_ble_eq_true rfl⟩ dX9_pause_8) cut_X_H z_hidH ?_
  obtain ⟨σ3, eσ3, h⟩ := z_letE h
  refine z_to eσ3 ?_
  refine z_aload_n hB 0 dX9_pause_11 rfl rfl ?_
  refine z_aload_n hB 0 dX9_pause_12 rfl rfl ?_
  refine z_getr hB 230 0 192 kX_230 (Nat.le_of_ble_eq_true rfl) vc_9 inlX9 (Nat.le_of_ble_eq_true rfl) rfl (Nat.le_of_ble_eq_true rfl) fl_X9_10 dX9_pause_13 ?_
  refine z_iload_n hB 1 dX9_pause_16 rfl rfl ?_
  refine z_iload_n hB 2 dX9_pause_17 rfl rfl ?_
  refine z_iload_n hB 3 dX9_pause_18 rfl rfl ?_
  obtain ⟨r6, σ5, h4, h⟩ := z_b2E h
  refine z_cI hB (z_rV (ι := zi_X_T) hB yY_X6_addPause (c_X6_addPause _ _ _ _ _ _ h4) rfl cut_X_T z_hno kT_0 (Nat.le_of_ble_eq_true rfl) vc_6 rfl rfl rfl (Nat.le_of_ble_eq_true rfl) ml_X9_63 ⟨Nat.le_of_ble_eq_true rfl, Nat.le_of_ble_eq_true rfl⟩ dX9_pause_19) cut_X_T z_hno ?_
  obtain ⟨σ7, eσ7, h⟩ := z_letE h
  refine z_to eσ7 ?_
  obtain ⟨r10, σ9, h8, h⟩ := z_b2E h
  refine z_cI hB (z_rV (ι := fun k => k) hB yY_X9_settled (c_X9_settled _ _ _ _ h8) rfl cut_X z_hid kX_230 (Nat.le_of_ble_eq_true rfl) vc_9 rfl rfl rfl (Nat.le_of_ble_eq_true rfl) ml_X9_52 ⟨Nat.le_of_ble_eq_true rfl, Nat.le_of_ble_eq_true rfl⟩ dX9_pause_22) cut_X z_hid ?_
  refine z_toA z_mid ?_
  obtain ⟨h1, h2⟩ := z_prE h
  exact hret _ _ _ _ h1 h2 rfl dX9_pause_25
def f_X9_carrier (p1 : Int32) (p2 : Int32) (σ : z_S) : Option (Int32 × z_S) :=
  z_b1 (f_X1_prepare (fun k => σ (zi_X_H k))) fun σ2 =>
  z_let (z_m σ (zk_X_H) 230 σ2) fun σ3 =>
  z_b2 (f_X6_addCarrier p1 p2 (fun k => σ3 (zi_X_T k))) fun r6 σ5 =>
  z_let (z_m σ3 (zk_X_T) 38 σ5) fun σ7 =>
  z_b2 (f_X9_settled r6 σ7) fun r10 σ9 =>
  some (r10, σ9)
set_option maxRecDepth 100000 in
set_option maxHeartbeats 4000000 in
theorem c_X9_carrier (p1 : Int32) (p2 : Int32) (σ : z_S) (r : Int32) (σz : z_S) (h : f_X9_carrier p1 p2 σ = some (r, σz)) : zMet yX9_carrier cX9_carrier 3 (some .int) 5 103 layX 275 (fun ad => [.ref (ad 230), .int p1, .int p2]) σ (z_QI layX 275 r σz) := by
  refine z_headI RX9 (by decide) rfl (fun _ => Nat.le_of_ble_eq_true rfl) (fun E G A ad hB hret => ?_)
  show ZW E G A 3 layX 275 ad 0 [(0, .ref (ad 230)), (1, .int p1), (2, .int p2)] [] σ
  unfold f_X9_carrier at h
  refine z_aload_n hB 0 dX9_carrier_0 rfl rfl ?_
  refine z_getr hB 230 1 0 kX_230 (Nat.le_of_ble_eq_true rfl) vc_9 inlX9 (Nat.le_of_ble_eq_true rfl) rfl (Nat.le_of_ble_eq_true rfl) fl_X9_19 dX9_carrier_1 ?_
  refine z_aload_n hB 0 dX9_carrier_4 rfl rfl ?_
  refine z_getr hB 230 0 192 kX_230 (Nat.le_of_ble_eq_true rfl) vc_9 inlX9 (Nat.le_of_ble_eq_true rfl) rfl (Nat.le_of_ble_eq_true rfl) fl_X9_10 dX9_carrier_5 ?_
  obtain ⟨σ2, h1, h⟩ := z_b1E h
  refine z_cV hB (z_rV (ι := zi_X_H) hB yY_X1_prepare (c_X1_prepare _ _ h1) rfl cut_X_H z_hidH kH_0 (Nat.le_of_ble_eq_true rfl) vc_1 rfl rfl rfl (Nat.le_of_ble_eq_true rfl) ml_X9_44 ⟨Nat.le_of_ble_eq_true rfl, Nat.le_of_ble_eq_true rfl⟩ dX9_carrier_8) cut_X_H z_hidH ?_
  obtain ⟨σ3, eσ3, h⟩ := z_letE h
  refine z_to eσ3 ?_
  refine z_aload_n hB 0 dX9_carrier_11 rfl rfl ?_
  refine z_aload_n hB 0 dX9_carrier_12 rfl rfl ?_
  refine z_getr hB 230 0 192 kX_230 (Nat.le_of_ble_eq_true rfl) vc_9 inlX9 (Nat.le_of_ble_eq_true rfl) rfl (Nat.le_of_ble_eq_true rfl) fl_X9_10 dX9_carrier_13 ?_
  refine z_iload_n hB 1 dX9_carrier_16 rfl rfl ?_
  refine z_iload_n hB 2 dX9_carrier_17 rfl rfl ?_
  obtain ⟨r6, σ5, h4, h⟩ := z_b2E h
  refine z_cI hB (z_rV (ι := zi_X_T) hB yY_X6_addCarrier (c_X6_addCarrier _ _ _ _ _ h4) rfl cut_X_T z_hno kT_0 (Nat.le_of_ble_eq_true rfl) vc_6 rfl rfl rfl (Nat.le_of_ble_eq_true rfl) ml_X9_66 ⟨Nat.le_of_ble_eq_true rfl, Nat.le_of_ble_eq_true rfl⟩ dX9_carrier_18) cut_X_T z_hno ?_
  obtain ⟨σ7, eσ7, h⟩ := z_letE h
  refine z_to eσ7 ?_
  obtain ⟨r10, σ9, h8, h⟩ := z_b2E h
  refine z_cI hB (z_rV (ι := fun k => k) hB yY_X9_settled (c_X9_settled _ _ _ _ h8) rfl cut_X z_hid kX_230 (Nat.le_of_ble_eq_true rfl) vc_9 rfl rfl rfl (Nat.le_of_ble_eq_true rfl) ml_X9_52 ⟨Nat.le_of_ble_eq_true rfl, Nat.le_of_ble_eq_true rfl⟩ dX9_carrier_21) cut_X z_hid ?_
  refine z_toA z_mid ?_
  obtain ⟨h1, h2⟩ := z_prE h
  exact hret _ _ _ _ h1 h2 rfl dX9_carrier_24
def f_X9_give (p1 : Int32) (p2 : Int32) (σ : z_S) : Option (Int32 × z_S) :=
  z_b1 (f_X1_prepare (fun k => σ (zi_X_H k))) fun σ2 =>
  z_let (z_m σ (zk_X_H) 230 σ2) fun σ3 =>
  z_b2 (f_X6_handOver p1 p2 (fun k => σ3 (zi_X_T k))) fun r6 σ5 =>
  z_let (z_m σ3 (zk_X_T) 38 σ5) fun σ7 =>
  z_b2 (f_X9_settled r6 σ7) fun r10 σ9 =>
  some (r10, σ9)
set_option maxRecDepth 100000 in
set_option maxHeartbeats 4000000 in
theorem c_X9_give (p1 : Int32) (p2 : Int32) (σ : z_S) (r : Int32) (σz : z_S) (h : f_X9_give p1 p2 σ = some (r, σz)) : zMet yX9_give cX9_give 3 (some .int) 5 103 layX 275 (fun ad => [.ref (ad 230), .int p1, .int p2]) σ (z_QI layX 275 r σz) := by
  refine z_headI RX9 (by decide) rfl (fun _ => Nat.le_of_ble_eq_true rfl) (fun E G A ad hB hret => ?_)
  show ZW E G A 3 layX 275 ad 0 [(0, .ref (ad 230)), (1, .int p1), (2, .int p2)] [] σ
  unfold f_X9_give at h
  refine z_aload_n hB 0 dX9_give_0 rfl rfl ?_
  refine z_getr hB 230 1 0 kX_230 (Nat.le_of_ble_eq_true rfl) vc_9 inlX9 (Nat.le_of_ble_eq_true rfl) rfl (Nat.le_of_ble_eq_true rfl) fl_X9_19 dX9_give_1 ?_
  refine z_aload_n hB 0 dX9_give_4 rfl rfl ?_
  refine z_getr hB 230 0 192 kX_230 (Nat.le_of_ble_eq_true rfl) vc_9 inlX9 (Nat.le_of_ble_eq_true rfl) rfl (Nat.le_of_ble_eq_true rfl) fl_X9_10 dX9_give_5 ?_
  obtain ⟨σ2, h1, h⟩ := z_b1E h
  refine z_cV hB (z_rV (ι := zi_X_H) hB yY_X1_prepare (c_X1_prepare _ _ h1) rfl cut_X_H z_hidH kH_0 (Nat.le_of_ble_eq_true rfl) vc_1 rfl rfl rfl (Nat.le_of_ble_eq_true rfl) ml_X9_44 ⟨Nat.le_of_ble_eq_true rfl, Nat.le_of_ble_eq_true rfl⟩ dX9_give_8) cut_X_H z_hidH ?_
  obtain ⟨σ3, eσ3, h⟩ := z_letE h
  refine z_to eσ3 ?_
  refine z_aload_n hB 0 dX9_give_11 rfl rfl ?_
  refine z_aload_n hB 0 dX9_give_12 rfl rfl ?_
  refine z_getr hB 230 0 192 kX_230 (Nat.le_of_ble_eq_true rfl) vc_9 inlX9 (Nat.le_of_ble_eq_true rfl) rfl (Nat.le_of_ble_eq_true rfl) fl_X9_10 dX9_give_13 ?_
  refine z_iload_n hB 1 dX9_give_16 rfl rfl ?_
  refine z_iload_n hB 2 dX9_give_17 rfl rfl ?_
  obtain ⟨r6, σ5, h4, h⟩ := z_b2E h
  refine z_cI hB (z_rV (ι := zi_X_T) hB yY_X6_handOver (c_X6_handOver _ _ _ _ _ h4) rfl cut_X_T z_hno kT_0 (Nat.le_of_ble_eq_true rfl) vc_6 rfl rfl rfl (Nat.le_of_ble_eq_true rfl) ml_X9_70 ⟨Nat.le_of_ble_eq_true rfl, Nat.le_of_ble_eq_true rfl⟩ dX9_give_18) cut_X_T z_hno ?_
  obtain ⟨σ7, eσ7, h⟩ := z_letE h
  refine z_to eσ7 ?_
  obtain ⟨r10, σ9, h8, h⟩ := z_b2E h
  refine z_cI hB (z_rV (ι := fun k => k) hB yY_X9_settled (c_X9_settled _ _ _ _ h8) rfl cut_X z_hid kX_230 (Nat.le_of_ble_eq_true rfl) vc_9 rfl rfl rfl (Nat.le_of_ble_eq_true rfl) ml_X9_52 ⟨Nat.le_of_ble_eq_true rfl, Nat.le_of_ble_eq_true rfl⟩ dX9_give_21) cut_X z_hid ?_
  refine z_toA z_mid ?_
  obtain ⟨h1, h2⟩ := z_prE h
  exact hret _ _ _ _ h1 h2 rfl dX9_give_24
def f_X9_giveNone (p1 : Int32) (σ : z_S) : Option (Int32 × z_S) :=
  z_b1 (f_X1_prepare (fun k => σ (zi_X_H k))) fun σ2 =>
  z_let (z_m σ (zk_X_H) 230 σ2) fun σ3 =>
  z_b2 (f_X6_takeBack p1 (fun k => σ3 (zi_X_T k))) fun r6 σ5 =>
  z_let (z_m σ3 (zk_X_T) 38 σ5) fun σ7 =>
  z_b2 (f_X9_settled r6 σ7) fun r10 σ9 =>
  some (r10, σ9)
set_option maxRecDepth 100000 in
set_option maxHeartbeats 4000000 in
theorem c_X9_giveNone (p1 : Int32) (σ : z_S) (r : Int32) (σz : z_S) (h : f_X9_giveNone p1 σ = some (r, σz)) : zMet yX9_giveNone cX9_giveNone 2 (some .int) 5 103 layX 275 (fun ad => [.ref (ad 230), .int p1]) σ (z_QI layX 275 r σz) := by
  refine z_headI RX9 (by decide) rfl (fun _ => Nat.le_of_ble_eq_true rfl) (fun E G A ad hB hret => ?_)
  show ZW E G A 2 layX 275 ad 0 [(0, .ref (ad 230)), (1, .int p1)] [] σ
  unfold f_X9_giveNone at h
  refine z_aload_n hB 0 dX9_giveNone_0 rfl rfl ?_
  refine z_getr hB 230 1 0 kX_230 (Nat.le_of_ble_eq_true rfl) vc_9 inlX9 (Nat.le_of_ble_eq_true rfl) rfl (Nat.le_of_ble_eq_true rfl) fl_X9_19 dX9_giveNone_1 ?_
  refine z_aload_n hB 0 dX9_giveNone_4 rfl rfl ?_
  refine z_getr hB 230 0 192 kX_230 (Nat.le_of_ble_eq_true rfl) vc_9 inlX9 (Nat.le_of_ble_eq_true rfl) rfl (Nat.le_of_ble_eq_true rfl) fl_X9_10 dX9_giveNone_5 ?_
  obtain ⟨σ2, h1, h⟩ := z_b1E h
  refine z_cV hB (z_rV (ι := zi_X_H) hB yY_X1_prepare (c_X1_prepare _ _ h1) rfl cut_X_H z_hidH kH_0 (Nat.le_of_ble_eq_true rfl) vc_1 rfl rfl rfl (Nat.le_of_ble_eq_true rfl) ml_X9_44 ⟨Nat.le_of_ble_eq_true rfl, Nat.le_of_ble_eq_true rfl⟩ dX9_giveNone_8) cut_X_H z_hidH ?_
  obtain ⟨σ3, eσ3, h⟩ := z_letE h
  refine z_to eσ3 ?_
  refine z_aload_n hB 0 dX9_giveNone_11 rfl rfl ?_
  refine z_aload_n hB 0 dX9_giveNone_12 rfl rfl ?_
  refine z_getr hB 230 0 192 kX_230 (Nat.le_of_ble_eq_true rfl) vc_9 inlX9 (Nat.le_of_ble_eq_true rfl) rfl (Nat.le_of_ble_eq_true rfl) fl_X9_10 dX9_giveNone_13 ?_
  refine z_iload_n hB 1 dX9_giveNone_16 rfl rfl ?_
  obtain ⟨r6, σ5, h4, h⟩ := z_b2E h
  refine z_cI hB (z_rV (ι := zi_X_T) hB yY_X6_takeBack (c_X6_takeBack _ _ _ _ h4) rfl cut_X_T z_hno kT_0 (Nat.le_of_ble_eq_true rfl) vc_6 rfl rfl rfl (Nat.le_of_ble_eq_true rfl) ml_X9_73 ⟨Nat.le_of_ble_eq_true rfl, Nat.le_of_ble_eq_true rfl⟩ dX9_giveNone_17) cut_X_T z_hno ?_
  obtain ⟨σ7, eσ7, h⟩ := z_letE h
  refine z_to eσ7 ?_
  obtain ⟨r10, σ9, h8, h⟩ := z_b2E h
  refine z_cI hB (z_rV (ι := fun k => k) hB yY_X9_settled (c_X9_settled _ _ _ _ h8) rfl cut_X z_hid kX_230 (Nat.le_of_ble_eq_true rfl) vc_9 rfl rfl rfl (Nat.le_of_ble_eq_true rfl) ml_X9_52 ⟨Nat.le_of_ble_eq_true rfl, Nat.le_of_ble_eq_true rfl⟩ dX9_giveNone_20) cut_X z_hid ?_
  refine z_toA z_mid ?_
  obtain ⟨h1, h2⟩ := z_prE h
  exact hret _ _ _ _ h1 h2 rfl dX9_giveNone_23
def f_X9_biscuits (p1 : Int32) (p2 : Int32) (σ : z_S) : Option (Int32 × z_S) :=
  z_b1 (f_X1_prepare (fun k => σ (zi_X_H k))) fun σ2 =>
  z_let (z_m σ (zk_X_H) 230 σ2) fun σ3 =>
  z_b2 (f_X6_addBiscuits p1 p2 (fun k => σ3 (zi_X_T k))) fun r6 σ5 =>
  z_let (z_m σ3 (zk_X_T) 38 σ5) fun σ7 =>
  z_b2 (f_X9_settled r6 σ7) fun r10 σ9 =>
  some (r10, σ9)
set_option maxRecDepth 100000 in
set_option maxHeartbeats 4000000 in
theorem c_X9_biscuits (p1 : Int32) (p2 : Int32) (σ : z_S) (r : Int32) (σz : z_S) (h : f_X9_biscuits p1 p2 σ = some (r, σz)) : zMet yX9_biscuits cX9_biscuits 3 (some .int) 5 103 layX 275 (fun ad => [.ref (ad 230), .int p1, .int p2]) σ (z_QI layX 275 r σz) := by
  refine z_headI RX9 (by decide) rfl (fun _ => Nat.le_of_ble_eq_true rfl) (fun E G A ad hB hret => ?_)
  show ZW E G A 3 layX 275 ad 0 [(0, .ref (ad 230)), (1, .int p1), (2, .int p2)] [] σ
  unfold f_X9_biscuits at h
  refine z_aload_n hB 0 dX9_biscuits_0 rfl rfl ?_
  refine z_getr hB 230 1 0 kX_230 (Nat.le_of_ble_eq_true rfl) vc_9 inlX9 (Nat.le_of_ble_eq_true rfl) rfl (Nat.le_of_ble_eq_true rfl) fl_X9_19 dX9_biscuits_1 ?_
  refine z_aload_n hB 0 dX9_biscuits_4 rfl rfl ?_
  refine z_getr hB 230 0 192 kX_230 (Nat.le_of_ble_eq_true rfl) vc_9 inlX9 (Nat.le_of_ble_eq_true rfl) rfl (Nat.le_of_ble_eq_true rfl) fl_X9_10 dX9_biscuits_5 ?_
  obtain ⟨σ2, h1, h⟩ := z_b1E h
  refine z_cV hB (z_rV (ι := zi_X_H) hB yY_X1_prepare (c_X1_prepare _ _ h1) rfl cut_X_H z_hidH kH_0 (Nat.le_of_ble_eq_true rfl) vc_1 rfl rfl rfl (Nat.le_of_ble_eq_true rfl) ml_X9_44 ⟨Nat.le_of_ble_eq_true rfl, Nat.le_of_ble_eq_true rfl⟩ dX9_biscuits_8) cut_X_H z_hidH ?_
  obtain ⟨σ3, eσ3, h⟩ := z_letE h
  refine z_to eσ3 ?_
  refine z_aload_n hB 0 dX9_biscuits_11 rfl rfl ?_
  refine z_aload_n hB 0 dX9_biscuits_12 rfl rfl ?_
  refine z_getr hB 230 0 192 kX_230 (Nat.le_of_ble_eq_true rfl) vc_9 inlX9 (Nat.le_of_ble_eq_true rfl) rfl (Nat.le_of_ble_eq_true rfl) fl_X9_10 dX9_biscuits_13 ?_
  refine z_iload_n hB 1 dX9_biscuits_16 rfl rfl ?_
  refine z_iload_n hB 2 dX9_biscuits_17 rfl rfl ?_
  obtain ⟨r6, σ5, h4, h⟩ := z_b2E h
  refine z_cI hB (z_rV (ι := zi_X_T) hB yY_X6_addBiscuits (c_X6_addBiscuits _ _ _ _ _ h4) rfl cut_X_T z_hno kT_0 (Nat.le_of_ble_eq_true rfl) vc_6 rfl rfl rfl (Nat.le_of_ble_eq_true rfl) ml_X9_76 ⟨Nat.le_of_ble_eq_true rfl, Nat.le_of_ble_eq_true rfl⟩ dX9_biscuits_18) cut_X_T z_hno ?_
  obtain ⟨σ7, eσ7, h⟩ := z_letE h
  refine z_to eσ7 ?_
  obtain ⟨r10, σ9, h8, h⟩ := z_b2E h
  refine z_cI hB (z_rV (ι := fun k => k) hB yY_X9_settled (c_X9_settled _ _ _ _ h8) rfl cut_X z_hid kX_230 (Nat.le_of_ble_eq_true rfl) vc_9 rfl rfl rfl (Nat.le_of_ble_eq_true rfl) ml_X9_52 ⟨Nat.le_of_ble_eq_true rfl, Nat.le_of_ble_eq_true rfl⟩ dX9_biscuits_21) cut_X z_hid ?_
  refine z_toA z_mid ?_
  obtain ⟨h1, h2⟩ := z_prE h
  exact hret _ _ _ _ h1 h2 rfl dX9_biscuits_24
def f_X9_set (p1 : Int32) (p2 : Int32) (σ : z_S) : Option (Int32 × z_S) :=
  z_b1 (f_X1_prepare (fun k => σ (zi_X_H k))) fun σ2 =>
  z_let (z_m σ (zk_X_H) 230 σ2) fun σ3 =>
  z_b2 (f_X6_changeSetting p1 p2 (fun k => σ3 (zi_X_T k))) fun r6 σ5 =>
  z_let (z_m σ3 (zk_X_T) 38 σ5) fun σ7 =>
  z_b2 (f_X9_settled r6 σ7) fun r10 σ9 =>
  some (r10, σ9)
set_option maxRecDepth 100000 in
set_option maxHeartbeats 4000000 in
theorem c_X9_set (p1 : Int32) (p2 : Int32) (σ : z_S) (r : Int32) (σz : z_S) (h : f_X9_set p1 p2 σ = some (r, σz)) : zMet yX9_set cX9_set 3 (some .int) 5 103 layX 275 (fun ad => [.ref (ad 230), .int p1, .int p2]) σ (z_QI layX 275 r σz) := by
  refine z_headI RX9 (by decide) rfl (fun _ => Nat.le_of_ble_eq_true rfl) (fun E G A ad hB hret => ?_)
  show ZW E G A 3 layX 275 ad 0 [(0, .ref (ad 230)), (1, .int p1), (2, .int p2)] [] σ
  unfold f_X9_set at h
  refine z_aload_n hB 0 dX9_set_0 rfl rfl ?_
  refine z_getr hB 230 1 0 kX_230 (Nat.le_of_ble_eq_true rfl) vc_9 inlX9 (Nat.le_of_ble_eq_true rfl) rfl (Nat.le_of_ble_eq_true rfl) fl_X9_19 dX9_set_1 ?_
  refine z_aload_n hB 0 dX9_set_4 rfl rfl ?_
  refine z_getr hB 230 0 192 kX_230 (Nat.le_of_ble_eq_true rfl) vc_9 inlX9 (Nat.le_of_ble_eq_true rfl) rfl (Nat.le_of_ble_eq_true rfl) fl_X9_10 dX9_set_5 ?_
  obtain ⟨σ2, h1, h⟩ := z_b1E h
  refine z_cV hB (z_rV (ι := zi_X_H) hB yY_X1_prepare (c_X1_prepare _ _ h1) rfl cut_X_H z_hidH kH_0 (Nat.le_of_ble_eq_true rfl) vc_1 rfl rfl rfl (Nat.le_of_ble_eq_true rfl) ml_X9_44 ⟨Nat.le_of_ble_eq_true rfl, Nat.le_of_ble_eq_true rfl⟩ dX9_set_8) cut_X_H z_hidH ?_
  obtain ⟨σ3, eσ3, h⟩ := z_letE h
  refine z_to eσ3 ?_
  refine z_aload_n hB 0 dX9_set_11 rfl rfl ?_
  refine z_aload_n hB 0 dX9_set_12 rfl rfl ?_
  refine z_getr hB 230 0 192 kX_230 (Nat.le_of_ble_eq_true rfl) vc_9 inlX9 (Nat.le_of_ble_eq_true rfl) rfl (Nat.le_of_ble_eq_true rfl) fl_X9_10 dX9_set_13 ?_
  refine z_iload_n hB 1 dX9_set_16 rfl rfl ?_
  refine z_iload_n hB 2 dX9_set_17 rfl rfl ?_
  obtain ⟨r6, σ5, h4, h⟩ := z_b2E h
  refine z_cI hB (z_rV (ι := zi_X_T) hB yY_X6_changeSetting (c_X6_changeSetting _ _ _ _ _ h4) rfl cut_X_T z_hno kT_0 (Nat.le_of_ble_eq_true rfl) vc_6 rfl rfl rfl (Nat.le_of_ble_eq_true rfl) ml_X9_79 ⟨Nat.le_of_ble_eq_true rfl, Nat.le_of_ble_eq_true rfl⟩ dX9_set_18) cut_X_T z_hno ?_
  obtain ⟨σ7, eσ7, h⟩ := z_letE h
  refine z_to eσ7 ?_
  obtain ⟨r10, σ9, h8, h⟩ := z_b2E h
  refine z_cI hB (z_rV (ι := fun k => k) hB yY_X9_settled (c_X9_settled _ _ _ _ h8) rfl cut_X z_hid kX_230 (Nat.le_of_ble_eq_true rfl) vc_9 rfl rfl rfl (Nat.le_of_ble_eq_true rfl) ml_X9_52 ⟨Nat.le_of_ble_eq_true rfl, Nat.le_of_ble_eq_true rfl⟩ dX9_set_21) cut_X z_hid ?_
  refine z_toA z_mid ?_
  obtain ⟨h1, h2⟩ := z_prE h
  exact hret _ _ _ _ h1 h2 rfl dX9_set_24
def f_X9_days (p1 : Int32) (σ : z_S) : Option (Int32 × z_S) :=
  z_b1 (f_X1_prepare (fun k => σ (zi_X_H k))) fun σ2 =>
  z_let (z_m σ (zk_X_H) 230 σ2) fun σ3 =>
  z_b2 (f_X6_letDaysGo p1 (fun k => σ3 (zi_X_TW k))) fun r6 σ5 =>
  z_let (z_m σ3 (zk_X_TW) 40 σ5) fun σ7 =>
  z_b2 (f_X9_settled r6 σ7) fun r10 σ9 =>
  some (r10, σ9)
set_option maxRecDepth 100000 in
set_option maxHeartbeats 4000000 in
theorem c_X9_days (p1 : Int32) (σ : z_S) (r : Int32) (σz : z_S) (h : f_X9_days p1 σ = some (r, σz)) : zMet yX9_days cX9_days 2 (some .int) 5 112 layX 275 (fun ad => [.ref (ad 230), .int p1]) σ (z_QI layX 275 r σz) := by
  refine z_headI RX9 (by decide) rfl (fun _ => Nat.le_of_ble_eq_true rfl) (fun E G A ad hB hret => ?_)
  show ZW E G A 2 layX 275 ad 0 [(0, .ref (ad 230)), (1, .int p1)] [] σ
  unfold f_X9_days at h
  refine z_aload_n hB 0 dX9_days_0 rfl rfl ?_
  refine z_getr hB 230 1 0 kX_230 (Nat.le_of_ble_eq_true rfl) vc_9 inlX9 (Nat.le_of_ble_eq_true rfl) rfl (Nat.le_of_ble_eq_true rfl) fl_X9_19 dX9_days_1 ?_
  refine z_aload_n hB 0 dX9_days_4 rfl rfl ?_
  refine z_getr hB 230 0 192 kX_230 (Nat.le_of_ble_eq_true rfl) vc_9 inlX9 (Nat.le_of_ble_eq_true rfl) rfl (Nat.le_of_ble_eq_true rfl) fl_X9_10 dX9_days_5 ?_
  obtain ⟨σ2, h1, h⟩ := z_b1E h
  refine z_cV hB (z_rV (ι := zi_X_H) hB yY_X1_prepare (c_X1_prepare _ _ h1) rfl cut_X_H z_hidH kH_0 (Nat.le_of_ble_eq_true rfl) vc_1 rfl rfl rfl (Nat.le_of_ble_eq_true rfl) ml_X9_44 ⟨Nat.le_of_ble_eq_true rfl, Nat.le_of_ble_eq_true rfl⟩ dX9_days_8) cut_X_H z_hidH ?_
  obtain ⟨σ3, eσ3, h⟩ := z_letE h
  refine z_to eσ3 ?_
  refine z_aload_n hB 0 dX9_days_11 rfl rfl ?_
  refine z_aload_n hB 0 dX9_days_12 rfl rfl ?_
  refine z_getr hB 230 0 192 kX_230 (Nat.le_of_ble_eq_true rfl) vc_9 inlX9 (Nat.le_of_ble_eq_true rfl) rfl (Nat.le_of_ble_eq_true rfl) fl_X9_10 dX9_days_13 ?_
  refine z_iload_n hB 1 dX9_days_16 rfl rfl ?_
  refine z_aload_n hB 0 dX9_days_17 rfl rfl ?_
  refine z_getr hB 230 2 231 kX_230 (Nat.le_of_ble_eq_true rfl) vc_9 inlX9 (Nat.le_of_ble_eq_true rfl) rfl (Nat.le_of_ble_eq_true rfl) fl_X9_26 dX9_days_18 ?_
  obtain ⟨r6, σ5, h4, h⟩ := z_b2E h
  refine z_cI hB (z_rV (ι := zi_X_TW) hB yY_X6_letDaysGo (c_X6_letDaysGo _ _ _ _ h4) rfl cut_X_TW z_hno kTW_0 (Nat.le_of_ble_eq_true rfl) vc_6 rfl rfl rfl (Nat.le_of_ble_eq_true rfl) ml_X9_82 ⟨Nat.le_of_ble_eq_true rfl, Nat.le_of_ble_eq_true rfl⟩ dX9_days_21) cut_X_TW z_hno ?_
  obtain ⟨σ7, eσ7, h⟩ := z_letE h
  refine z_to eσ7 ?_
  obtain ⟨r10, σ9, h8, h⟩ := z_b2E h
  refine z_cI hB (z_rV (ι := fun k => k) hB yY_X9_settled (c_X9_settled _ _ _ _ h8) rfl cut_X z_hid kX_230 (Nat.le_of_ble_eq_true rfl) vc_9 rfl rfl rfl (Nat.le_of_ble_eq_true rfl) ml_X9_52 ⟨Nat.le_of_ble_eq_true rfl, Nat.le_of_ble_eq_true rfl⟩ dX9_days_24) cut_X z_hid ?_
  refine z_toA z_mid ?_
  obtain ⟨h1, h2⟩ := z_prE h
  exact hret _ _ _ _ h1 h2 rfl dX9_days_27
def f_X9_cornerOf (p1 : Int32) (p2 : Int32) (σ : z_S) : Option Int32 :=
  z_b1 (f_X4_has p1 (fun k => σ (zi_X_T k))) fun r2 =>
  if r2 = (0 : Int32) then
  (some ((-1 : Int32)))
  else
  (z_b1 (f_X9_within p2 (0 : Int32) (6 : Int32) σ) fun r5 =>
  if r5 = (0 : Int32) then
  (some ((-1 : Int32)))
  else
  (z_let (fun (_ : Unit) => if p2 = (0 : Int32) then
  (z_cki p1 20 <|
  some (σ 195 p1.toNatClampNeg))
  else if p2 = (1 : Int32) then
  (z_cki p1 20 <|
  some (σ 196 p1.toNatClampNeg))
  else if p2 = (2 : Int32) then
  (z_cki p1 20 <|
  some (σ 197 p1.toNatClampNeg))
  else if p2 = (3 : Int32) then
  (z_cki p1 20 <|
  some (σ 198 p1.toNatClampNeg))
  else if p2 = (4 : Int32) then
  (z_cki p1 20 <|
  some (σ 200 p1.toNatClampNeg))
  else if p2 = (5 : Int32) then
  (z_b1 (f_X6_housesFrom p1 (fun k => σ (zi_X_T k))) fun r20 =>
  some (r20))
  else (z_cki p1 20 <|
  some (σ 201 p1.toNatClampNeg))) fun j7 =>
  if p1 = (0 : Int32) then
  (if p2 = (0 : Int32) then
  (some ((-4 : Int32)))
  else
  (if p2 = (1 : Int32) then
  (some ((-4 : Int32)))
  else
  (if p2 = (3 : Int32) then
  (some ((-4 : Int32)))
  else
  (j7 ()))))
  else
  (j7 ())))
set_option maxRecDepth 100000 in
set_option maxHeartbeats 4000000 in
theorem c_X9_cornerOf (p1 : Int32) (p2 : Int32) (σ : z_S) (r : Int32) (h : f_X9_cornerOf p1 p2 σ = some r) : zMet yX9_cornerOf cX9_cornerOf 4 (some .int) 2 47 layX 275 (fun ad => [.ref (ad 230), .int p1, .int p2]) σ (z_QI layX 275 r σ) := by
  refine z_headI RX9 (by decide) rfl (fun _ => Nat.le_of_ble_eq_true rfl) (fun E G A ad hB hret => ?_)
  show ZW E G A 4 layX 275 ad 0 [(0, .ref (ad 230)), (1, .int p1), (2, .int p2)] [] σ
  unfold f_X9_cornerOf at h
  refine z_aload_n hB 0 dX9_cornerOf_0 rfl rfl ?_
  refine z_getr hB 230 0 192 kX_230 (Nat.le_of_ble_eq_true rfl) vc_9 inlX9 (Nat.le_of_ble_eq_true rfl) rfl (Nat.le_of_ble_eq_true rfl) fl_X9_10 dX9_cornerOf_1 ?_
  refine z_getr hB 192 4 194 kX_192 (Nat.le_of_ble_eq_true rfl) vc_6 inlX6 (Nat.le_of_ble_eq_true rfl) rfl (Nat.le_of_ble_eq_true rfl) fl_X9_86 dX9_cornerOf_4 ?_
  refine z_iload_n hB 1 dX9_cornerOf_7 rfl rfl ?_
  obtain ⟨r2, h1, h⟩ := z_b1E h
  refine z_cI hB (z_rV (ι := zi_X_T) hB yY_X4_has (c_X4_has _ _ _ h1) rfl cut_X_T z_hno kT_2 (Nat.le_of_ble_eq_true rfl) vc_4 rfl rfl rfl (Nat.le_of_ble_eq_true rfl) ml_X9_90 ⟨Nat.le_of_ble_eq_true rfl, Nat.le_of_ble_eq_true rfl⟩ dX9_cornerOf_8) cut_X_T z_hno ?_
  refine z_toA (z_mro cut_X_T) ?_
  refine z_if_eq hB (tgt := 24) dX9_cornerOf_11 (by decide) (fun c3 => ?_) (fun c3 => ?_)
  · have h := z_ifT c3 h
    refine z_iconst hB dX9_cornerOf_24 zcI_m1 ?_
    exact hret _ _ _ _ (Option.some.inj h) rfl rfl dX9_cornerOf_25
  · have h := z_ifF c3 h
    refine z_iload_n hB 2 dX9_cornerOf_14 rfl rfl ?_
    refine z_iconst hB dX9_cornerOf_15 zcI_0 ?_
    refine z_bipush hB dX9_cornerOf_16 zcB_6 ?_
    obtain ⟨r5, h4, h⟩ := z_b1E h
    refine z_cI hB (z_rS (ι := fun k => k) hB yY_X9_within (c_X9_within _ _ _ _ _ h4) rfl z_cut0 z_hno rfl rfl rfl (Nat.le_of_ble_eq_true rfl) ml_X9_96 ⟨Nat.le_of_ble_eq_true rfl, Nat.le_of_ble_eq_true rfl⟩ dX9_cornerOf_18) z_cut0 z_hno ?_
    refine z_toA (z_mro (lay := layX) (lay' := z_lay0) (b := false) z_cut0) ?_
    refine z_if_ne hB (tgt := 26) dX9_cornerOf_21 (by decide) (fun c6 => ?_) (fun c6 => ?_)
    · have h := z_ifF c6 h
      refine z_iload_n hB 1 dX9_cornerOf_26 rfl rfl ?_
      obtain ⟨j7, ej7, h⟩ := z_letE h
      have hj7 : ∀ (_ : Unit), j7 () = some r → ZW E G A 4 layX 275 ad 47 [(0, .ref (ad 230)), (1, .int p1), (2, .int p2)] [] σ := by
        intro _ h
        rw [ej7] at h
        refine z_aload_n hB 0 dX9_cornerOf_47 rfl rfl ?_
        refine z_getr hB 230 0 192 kX_230 (Nat.le_of_ble_eq_true rfl) vc_9 inlX9 (Nat.le_of_ble_eq_true rfl) rfl (Nat.le_of_ble_eq_true rfl) fl_X9_10 dX9_cornerOf_48 ?_
        refine z_getr hB 192 4 194 kX_192 (Nat.le_of_ble_eq_true rfl) vc_6 inlX6 (Nat.le_of_ble_eq_true rfl) rfl (Nat.le_of_ble_eq_true rfl) fl_X9_86 dX9_cornerOf_51 ?_
        refine z_astore_n hB [(3, .ref (ad 194)), (0, .ref (ad 230)), (1, .int p1), (2, .int p2)] dX9_cornerOf_54 rfl (Nat.le_of_ble_eq_true rfl) rfl rfl ?_
        refine z_iload_n hB 3 dX9_cornerOf_55 rfl rfl ?_
        by_cases c8 : p2 = (0 : Int32)
        · have h := z_ifT c8 h
          refine z_tableIn hB (tgt := 96) dX9_cornerOf_56 c8 (by decide) (by decide) rfl (by decide) ?_
          refine z_aload_n hB 0 dX9_cornerOf_96 rfl rfl ?_
          refine z_getr hB 194 1 195 kX_194 (Nat.le_of_ble_eq_true rfl) vc_4 inlX4 (Nat.le_of_ble_eq_true rfl) rfl (Nat.le_of_ble_eq_true rfl) fl_X9_100 dX9_cornerOf_97 ?_
          refine z_iload_n hB 2 dX9_cornerOf_100 rfl rfl ?_
          obtain ⟨h9, h⟩ := z_ckiE h
          refine z_iald hB 195 20 kX_195 (Nat.le_of_ble_eq_true rfl) dX9_cornerOf_101 h9 ?_
          exact hret _ _ _ _ (Option.some.inj h) rfl rfl dX9_cornerOf_102
        have h := z_ifF c8 h
        by_cases c10 : p2 = (1 : Int32)
        · have h := z_ifT c10 h
          refine z_tableIn hB (tgt := 103) dX9_cornerOf_56 c10 (by decide) (by decide) rfl (by decide) ?_
          refine z_aload_n hB 0 dX9_cornerOf_103 rfl rfl ?_
          refine z_getr hB 194 2 196 kX_194 (Nat.le_of_ble_eq_true rfl) vc_4 inlX4 (Nat.le_of_ble_eq_true rfl) rfl (Nat.le_of_ble_eq_true rfl) fl_X9_104 dX9_cornerOf_104 ?_
          refine z_iload_n hB 2 dX9_cornerOf_107 rfl rfl ?_
          obtain ⟨h11, h⟩ := z_ckiE h
          refine z_iald hB 196 20 kX_196 (Nat.le_of_ble_eq_true rfl) dX9_cornerOf_108 h11 ?_
          exact hret _ _ _ _ (Option.some.inj h) rfl rfl dX9_cornerOf_109
        have h := z_ifF c10 h
        by_cases c12 : p2 = (2 : Int32)
        · have h := z_ifT c12 h
          refine z_tableIn hB (tgt := 110) dX9_cornerOf_56 c12 (by decide) (by decide) rfl (by decide) ?_
          refine z_aload_n hB 0 dX9_cornerOf_110 rfl rfl ?_
          refine z_getr hB 194 3 197 kX_194 (Nat.le_of_ble_eq_true rfl) vc_4 inlX4 (Nat.le_of_ble_eq_true rfl) rfl (Nat.le_of_ble_eq_true rfl) fl_X9_107 dX9_cornerOf_111 ?_
          refine z_iload_n hB 2 dX9_cornerOf_114 rfl rfl ?_
          obtain ⟨h13, h⟩ := z_ckiE h
          refine z_iald hB 197 20 kX_197 (Nat.le_of_ble_eq_true rfl) dX9_cornerOf_115 h13 ?_
          exact hret _ _ _ _ (Option.some.inj h) rfl rfl dX9_cornerOf_116
        have h := z_ifF c12 h
        by_cases c14 : p2 = (3 : Int32)
        · have h := z_ifT c14 h
          refine z_tableIn hB (tgt := 117) dX9_cornerOf_56 c14 (by decide) (by decide) rfl (by decide) ?_
          refine z_aload_n hB 0 dX9_cornerOf_117 rfl rfl ?_
          refine z_getr hB 194 4 198 kX_194 (Nat.le_of_ble_eq_true rfl) vc_4 inlX4 (Nat.le_of_ble_eq_true rfl) rfl (Nat.le_of_ble_eq_true rfl) fl_X9_110 dX9_cornerOf_118 ?_
          refine z_iload_n hB 2 dX9_cornerOf_121 rfl rfl ?_
          obtain ⟨h15, h⟩ := z_ckiE h
          refine z_iald hB 198 20 kX_198 (Nat.le_of_ble_eq_true rfl) dX9_cornerOf_122 h15 ?_
          exact hret _ _ _ _ (Option.some.inj h) rfl rfl dX9_cornerOf_123
        have h := z_ifF c14 h
        by_cases c16 : p2 = (4 : Int32)
        · have h := z_ifT c16 h
          refine z_tableIn hB (tgt := 124) dX9_cornerOf_56 c16 (by decide) (by decide) rfl (by decide) ?_
          refine z_aload_n hB 0 dX9_cornerOf_124 rfl rfl ?_
          refine z_getr hB 194 6 200 kX_194 (Nat.le_of_ble_eq_true rfl) vc_4 inlX4 (Nat.le_of_ble_eq_true rfl) rfl (Nat.le_of_ble_eq_true rfl) fl_X9_113 dX9_cornerOf_125 ?_
          refine z_iload_n hB 2 dX9_cornerOf_128 rfl rfl ?_
          obtain ⟨h17, h⟩ := z_ckiE h
          refine z_iald hB 200 20 kX_200 (Nat.le_of_ble_eq_true rfl) dX9_cornerOf_129 h17 ?_
          exact hret _ _ _ _ (Option.some.inj h) rfl rfl dX9_cornerOf_130
        have h := z_ifF c16 h
        by_cases c18 : p2 = (5 : Int32)
        · have h := z_ifT c18 h
          refine z_tableIn hB (tgt := 131) dX9_cornerOf_56 c18 (by decide) (by decide) rfl (by decide) ?_
          refine z_aload_n hB 1 dX9_cornerOf_131 rfl rfl ?_
          refine z_getr hB 230 0 192 kX_230 (Nat.le_of_ble_eq_true rfl) vc_9 inlX9 (Nat.le_of_ble_eq_true rfl) rfl (Nat.le_of_ble_eq_true rfl) fl_X9_10 dX9_cornerOf_132 ?_
          refine z_iload_n hB 2 dX9_cornerOf_135 rfl rfl ?_
          obtain ⟨r20, h19, h⟩ := z_b1E h
          refine z_cI hB (z_rV (ι := zi_X_T) hB yY_X6_housesFrom (c_X6_housesFrom _ _ _ h19) rfl cut_X_T z_hno kT_0 (Nat.le_of_ble_eq_true rfl) vc_6 rfl rfl rfl (Nat.le_of_ble_eq_true rfl) ml_X9_116 ⟨Nat.le_of_ble_eq_true rfl, Nat.le_of_ble_eq_true rfl⟩ dX9_cornerOf_136) cut_X_T z_hno ?_
          refine z_toA (z_mro cut_X_T) ?_
          exact hret _ _ _ _ (Option.some.inj h) rfl rfl dX9_cornerOf_139
        have h := z_ifF c18 h
        refine z_tableOut hB (tgt := 140) dX9_cornerOf_56 (z_tsE (z_ts ((z_ts ((z_ts ((z_ts ((z_ts ((z_ts (z_ts0 p2 0) c8 rfl)) c10 rfl)) c12 rfl)) c14 rfl)) c16 rfl)) c18 rfl) (by decide)) (by decide) ?_
        refine z_aload_n hB 0 dX9_cornerOf_140 rfl rfl ?_
        refine z_getr hB 194 7 201 kX_194 (Nat.le_of_ble_eq_true rfl) vc_4 inlX4 (Nat.le_of_ble_eq_true rfl) rfl (Nat.le_of_ble_eq_true rfl) fl_X9_119 dX9_cornerOf_141 ?_
        refine z_iload_n hB 2 dX9_cornerOf_144 rfl rfl ?_
        obtain ⟨h21, h⟩ := z_ckiE h
        refine z_iald hB 201 20 kX_201 (Nat.le_of_ble_eq_true rfl) dX9_cornerOf_145 h21 ?_
        exact hret _ _ _ _ (Option.some.inj h) rfl rfl dX9_cornerOf_146
      refine z_if_ne hB (tgt := 47) dX9_cornerOf_27 (by decide) (fun c22 => ?_) (fun c22 => ?_)
      · have h := z_ifF c22 h
        exact hj7 () h
      · have h := z_ifT c22 h
        refine z_iload_n hB 2 dX9_cornerOf_30 rfl rfl ?_
        refine z_if_eq hB (tgt := 44) dX9_cornerOf_31 (by decide) (fun c23 => ?_) (fun c23 => ?_)
        · have h := z_ifT c23 h
          refine z_bipush hB dX9_cornerOf_44 zcB_m4 ?_
          exact hret _ _ _ _ (Option.some.inj h) rfl rfl dX9_cornerOf_46
        · have h := z_ifF c23 h
          refine z_iload_n hB 2 dX9_cornerOf_34 rfl rfl ?_
          refine z_iconst hB dX9_cornerOf_35 zcI_1 ?_
          refine z_icmp_eq hB (tgt := 44) dX9_cornerOf_36 (by decide) (fun c24 => ?_) (fun c24 => ?_)
          · have h := z_ifT c24 h
            refine z_bipush hB dX9_cornerOf_44 zcB_m4 ?_
            exact hret _ _ _ _ (Option.some.inj h) rfl rfl dX9_cornerOf_46
          · have h := z_ifF c24 h
            refine z_iload_n hB 2 dX9_cornerOf_39 rfl rfl ?_
            refine z_iconst hB dX9_cornerOf_40 zcI_3 ?_
            refine z_icmp_ne hB (tgt := 47) dX9_cornerOf_41 (by decide) (fun c25 => ?_) (fun c25 => ?_)
            · have h := z_ifF c25 h
              exact hj7 () h
            · have h := z_ifT c25 h
              refine z_bipush hB dX9_cornerOf_44 zcB_m4 ?_
              exact hret _ _ _ _ (Option.some.inj h) rfl rfl dX9_cornerOf_46
    · have h := z_ifT c6 h
      refine z_iconst hB dX9_cornerOf_24 zcI_m1 ?_
      exact hret _ _ _ _ (Option.some.inj h) rfl rfl dX9_cornerOf_25
def f_X9_houseOf (p1 : Int32) (p2 : Int32) (σ : z_S) : Option Int32 :=
  z_b1 (f_X2_has p1 (fun k => σ (zi_X_T k))) fun r2 =>
  if r2 = (0 : Int32) then
  (some ((-1 : Int32)))
  else
  (z_b1 (f_X9_within p2 (0 : Int32) (11 : Int32) σ) fun r5 =>
  if r5 = (0 : Int32) then
  (some ((-1 : Int32)))
  else
  (if p2 = (0 : Int32) then
  (z_cki p1 24 <|
  some (σ 204 p1.toNatClampNeg))
  else if p2 = (1 : Int32) then
  (z_cki p1 24 <|
  some (σ 205 p1.toNatClampNeg))
  else if p2 = (2 : Int32) then
  (z_cki p1 24 <|
  some (σ 206 p1.toNatClampNeg))
  else if p2 = (3 : Int32) then
  (z_cki p1 24 <|
  if (σ 207 p1.toNatClampNeg) = (-1 : Int32) then
  (some ((-4 : Int32)))
  else
  (z_cki p1 24 <|
  some (σ 207 p1.toNatClampNeg)))
  else if p2 = (4 : Int32) then
  (z_cki p1 24 <|
  if (σ 208 p1.toNatClampNeg) = (0 : Int32) then
  (some ((-4 : Int32)))
  else
  (z_cki p1 24 <|
  some (σ 208 p1.toNatClampNeg)))
  else if p2 = (5 : Int32) then
  (z_b1 (f_X3_cover p1 (σ 192 0) (fun k => σ (zi_X_T k))) fun r23 =>
  if r23 = (0 : Int32) then
  (some ((0 : Int32)))
  else
  (some ((1 : Int32))))
  else if p2 = (6 : Int32) then
  (z_cki p1 24 <|
  some (σ 210 p1.toNatClampNeg))
  else if p2 = (7 : Int32) then
  (z_cki p1 24 <|
  some (σ 211 p1.toNatClampNeg))
  else if p2 = (8 : Int32) then
  (z_cki p1 24 <|
  some (σ 212 p1.toNatClampNeg))
  else if p2 = (9 : Int32) then
  (z_cki p1 24 <|
  some (σ 213 p1.toNatClampNeg))
  else if p2 = (10 : Int32) then
  (z_cki p1 24 <|
  some (σ 214 p1.toNatClampNeg))
  else (z_cki p1 24 <|
  some (σ 215 p1.toNatClampNeg))))
set_option maxRecDepth 100000 in
set_option maxHeartbeats 4000000 in
theorem c_X9_houseOf (p1 : Int32) (p2 : Int32) (σ : z_S) (r : Int32) (h : f_X9_houseOf p1 p2 σ = some r) : zMet yX9_houseOf cX9_houseOf 4 (some .int) 2 43 layX 275 (fun ad => [.ref (ad 230), .int p1, .int p2]) σ (z_QI layX 275 r σ) := by
  refine z_headI RX9 (by decide) rfl (fun _ => Nat.le_of_ble_eq_true rfl) (fun E G A ad hB hret => ?_)
  show ZW E G A 4 layX 275 ad 0 [(0, .ref (ad 230)), (1, .int p1), (2, .int p2)] [] σ
  unfold f_X9_houseOf at h
  refine z_aload_n hB 0 dX9_houseOf_0 rfl rfl ?_
  refine z_getr hB 230 0 192 kX_230 (Nat.le_of_ble_eq_true rfl) vc_9 inlX9 (Nat.le_of_ble_eq_true rfl) rfl (Nat.le_of_ble_eq_true rfl) fl_X9_10 dX9_houseOf_1 ?_
  refine z_getr hB 192 5 203 kX_192 (Nat.le_of_ble_eq_true rfl) vc_6 inlX6 (Nat.le_of_ble_eq_true rfl) rfl (Nat.le_of_ble_eq_true rfl) fl_X9_122 dX9_houseOf_4 ?_
  refine z_astore_n hB [(3, .ref (ad 203)), (0, .ref (ad 230)), (1, .int p1), (2, .int p2)] dX9_houseOf_7 rfl (Nat.le_of_ble_eq_true rfl) rfl rfl ?_
  refine z_aload_n hB 0 dX9_houseOf_8 rfl rfl ?_
  refine z_iload_n hB 2 dX9_houseOf_9 rfl rfl ?_
  obtain ⟨r2, h1, h⟩ := z_b1E h
  refine z_cI hB (z_rV (ι := zi_X_T) hB yY_X2_has (c_X2_has _ _ _ h1) rfl cut_X_T z_hno kT_11 (Nat.le_of_ble_eq_true rfl) vc_2 rfl rfl rfl (Nat.le_of_ble_eq_true rfl) ml_X9_126 ⟨Nat.le_of_ble_eq_true rfl, Nat.le_of_ble_eq_true rfl⟩ dX9_houseOf_10) cut_X_T z_hno ?_
  refine z_toA (z_mro cut_X_T) ?_
  refine z_if_eq hB (tgt := 26) dX9_houseOf_13 (by decide) (fun c3 => ?_) (fun c3 => ?_)
  · have h := z_ifT c3 h
    refine z_iconst hB dX9_houseOf_26 zcI_m1 ?_
    exact hret _ _ _ _ (Option.some.inj h) rfl rfl dX9_houseOf_27
  · have h := z_ifF c3 h
    refine z_iload_n hB 3 dX9_houseOf_16 rfl rfl ?_
    refine z_iconst hB dX9_houseOf_17 zcI_0 ?_
    refine z_bipush hB dX9_houseOf_18 zcB_11 ?_
    obtain ⟨r5, h4, h⟩ := z_b1E h
    refine z_cI hB (z_rS (ι := fun k => k) hB yY_X9_within (c_X9_within _ _ _ _ _ h4) rfl z_cut0 z_hno rfl rfl rfl (Nat.le_of_ble_eq_true rfl) ml_X9_96 ⟨Nat.le_of_ble_eq_true rfl, Nat.le_of_ble_eq_true rfl⟩ dX9_houseOf_20) z_cut0 z_hno ?_
    refine z_toA (z_mro (lay := layX) (lay' := z_lay0) (b := false) z_cut0) ?_
    refine z_if_ne hB (tgt := 28) dX9_houseOf_23 (by decide) (fun c6 => ?_) (fun c6 => ?_)
    · have h := z_ifF c6 h
      refine z_iload_n hB 3 dX9_houseOf_28 rfl rfl ?_
      by_cases c7 : p2 = (0 : Int32)
      · have h := z_ifT c7 h
        refine z_tableIn hB (tgt := 88) dX9_houseOf_29 c7 (by decide) (by decide) rfl (by decide) ?_
        refine z_aload_n hB 0 dX9_houseOf_88 rfl rfl ?_
        refine z_getr hB 203 1 204 kX_203 (Nat.le_of_ble_eq_true rfl) vc_2 inlX2 (Nat.le_of_ble_eq_true rfl) rfl (Nat.le_of_ble_eq_true rfl) fl_X9_129 dX9_houseOf_89 ?_
        refine z_iload_n hB 2 dX9_houseOf_92 rfl rfl ?_
        obtain ⟨h8, h⟩ := z_ckiE h
        refine z_iald hB 204 24 kX_204 (Nat.le_of_ble_eq_true rfl) dX9_houseOf_93 h8 ?_
        exact hret _ _ _ _ (Option.some.inj h) rfl rfl dX9_houseOf_94
      have h := z_ifF c7 h
      by_cases c9 : p2 = (1 : Int32)
      · have h := z_ifT c9 h
        refine z_tableIn hB (tgt := 95) dX9_houseOf_29 c9 (by decide) (by decide) rfl (by decide) ?_
        refine z_aload_n hB 0 dX9_houseOf_95 rfl rfl ?_
        refine z_getr hB 203 2 205 kX_203 (Nat.le_of_ble_eq_true rfl) vc_2 inlX2 (Nat.le_of_ble_eq_true rfl) rfl (Nat.le_of_ble_eq_true rfl) fl_X9_132 dX9_houseOf_96 ?_
        refine z_iload_n hB 2 dX9_houseOf_99 rfl rfl ?_
        obtain ⟨h10, h⟩ := z_ckiE h
        refine z_iald hB 205 24 kX_205 (Nat.le_of_ble_eq_true rfl) dX9_houseOf_100 h10 ?_
        exact hret _ _ _ _ (Option.some.inj h) rfl rfl dX9_houseOf_101
      have h := z_ifF c9 h
      by_cases c11 : p2 = (2 : Int32)
      · have h := z_ifT c11 h
        refine z_tableIn hB (tgt := 102) dX9_houseOf_29 c11 (by decide) (by decide) rfl (by decide) ?_
        refine z_aload_n hB 0 dX9_houseOf_102 rfl rfl ?_
        refine z_getr hB 203 3 206 kX_203 (Nat.le_of_ble_eq_true rfl) vc_2 inlX2 (Nat.le_of_ble_eq_true rfl) rfl (Nat.le_of_ble_eq_true rfl) fl_X9_135 dX9_houseOf_103 ?_
        refine z_iload_n hB 2 dX9_houseOf_106 rfl rfl ?_
        obtain ⟨h12, h⟩ := z_ckiE h
        refine z_iald hB 206 24 kX_206 (Nat.le_of_ble_eq_true rfl) dX9_houseOf_107 h12 ?_
        exact hret _ _ _ _ (Option.some.inj h) rfl rfl dX9_houseOf_108
      have h := z_ifF c11 h
      by_cases c13 : p2 = (3 : Int32)
      · have h := z_ifT c13 h
        refine z_tableIn hB (tgt := 109) dX9_houseOf_29 c13 (by decide) (by decide) rfl (by decide) ?_
        refine z_aload_n hB 0 dX9_houseOf_109 rfl rfl ?_
        refine z_getr hB 203 4 207 kX_203 (Nat.le_of_ble_eq_true rfl) vc_2 inlX2 (Nat.le_of_ble_eq_true rfl) rfl (Nat.le_of_ble_eq_true rfl) fl_X9_138 dX9_houseOf_110 ?_
        refine z_iload_n hB 2 dX9_houseOf_113 rfl rfl ?_
        obtain ⟨h14, h⟩ := z_ckiE h
        refine z_iald hB 207 24 kX_207 (Nat.le_of_ble_eq_true rfl) dX9_houseOf_114 h14 ?_
        refine z_iconst hB dX9_houseOf_115 zcI_m1 ?_
        refine z_icmp_ne hB (tgt := 124) dX9_houseOf_116 (by decide) (fun c15 => ?_) (fun c15 => ?_)
        · have h := z_ifF c15 h
          refine z_aload_n hB 0 dX9_houseOf_124 rfl rfl ?_
          refine z_getr hB 203 4 207 kX_203 (Nat.le_of_ble_eq_true rfl) vc_2 inlX2 (Nat.le_of_ble_eq_true rfl) rfl (Nat.le_of_ble_eq_true rfl) fl_X9_138 dX9_houseOf_125 ?_
          refine z_iload_n hB 2 dX9_houseOf_128 rfl rfl ?_
          obtain ⟨h16, h⟩ := z_ckiE h
          refine z_iald hB 207 24 kX_207 (Nat.le_of_ble_eq_true rfl) dX9_houseOf_129 h16 ?_
          exact hret _ _ _ _ (Option.some.inj h) rfl rfl dX9_houseOf_130
        · have h := z_ifT c15 h
          refine z_bipush hB dX9_houseOf_119 zcB_m4 ?_
          refine z_goto hB (tgt := 130) dX9_houseOf_121 (by decide) ?_
          exact hret _ _ _ _ (Option.some.inj h) rfl rfl dX9_houseOf_130
      have h := z_ifF c13 h
      by_cases c17 : p2 = (4 : Int32)
      · have h := z_ifT c17 h
        refine z_tableIn hB (tgt := 131) dX9_houseOf_29 c17 (by decide) (by decide) rfl (by decide) ?_
        refine z_aload_n hB 0 dX9_houseOf_131 rfl rfl ?_
        refine z_getr hB 203 5 208 kX_203 (Nat.le_of_ble_eq_true rfl) vc_2 inlX2 (Nat.le_of_ble_eq_true rfl) rfl (Nat.le_of_ble_eq_true rfl) fl_X9_141 dX9_houseOf_132 ?_
        refine z_iload_n hB 2 dX9_houseOf_135 rfl rfl ?_
        obtain ⟨h18, h⟩ := z_ckiE h
        refine z_iald hB 208 24 kX_208 (Nat.le_of_ble_eq_true rfl) dX9_houseOf_136 h18 ?_
        refine z_if_ne hB (tgt := 145) dX9_houseOf_137 (by decide) (fun c19 => ?_) (fun c19 => ?_)
        · have h := z_ifF c19 h
          refine z_aload_n hB 0 dX9_houseOf_145 rfl rfl ?_
          refine z_getr hB 203 5 208 kX_203 (Nat.le_of_ble_eq_true rfl) vc_2 inlX2 (Nat.le_of_ble_eq_true rfl) rfl (Nat.le_of_ble_eq_true rfl) fl_X9_141 dX9_houseOf_146 ?_
          refine z_iload_n hB 2 dX9_houseOf_149 rfl rfl ?_
          obtain ⟨h20, h⟩ := z_ckiE h
          refine z_iald hB 208 24 kX_208 (Nat.le_of_ble_eq_true rfl) dX9_houseOf_150 h20 ?_
          exact hret _ _ _ _ (Option.some.inj h) rfl rfl dX9_houseOf_151
        · have h := z_ifT c19 h
          refine z_bipush hB dX9_houseOf_140 zcB_m4 ?_
          refine z_goto hB (tgt := 151) dX9_houseOf_142 (by decide) ?_
          exact hret _ _ _ _ (Option.some.inj h) rfl rfl dX9_houseOf_151
      have h := z_ifF c17 h
      by_cases c21 : p2 = (5 : Int32)
      · have h := z_ifT c21 h
        refine z_tableIn hB (tgt := 152) dX9_houseOf_29 c21 (by decide) (by decide) rfl (by decide) ?_
        refine z_aload_n hB 1 dX9_houseOf_152 rfl rfl ?_
        refine z_getr hB 230 0 192 kX_230 (Nat.le_of_ble_eq_true rfl) vc_9 inlX9 (Nat.le_of_ble_eq_true rfl) rfl (Nat.le_of_ble_eq_true rfl) fl_X9_10 dX9_houseOf_153 ?_
        refine z_getr hB 192 6 218 kX_192 (Nat.le_of_ble_eq_true rfl) vc_6 inlX6 (Nat.le_of_ble_eq_true rfl) rfl (Nat.le_of_ble_eq_true rfl) fl_X9_144 dX9_houseOf_156 ?_
        refine z_iload_n hB 2 dX9_houseOf_159 rfl rfl ?_
        refine z_aload_n hB 1 dX9_houseOf_160 rfl rfl ?_
        refine z_getr hB 230 0 192 kX_230 (Nat.le_of_ble_eq_true rfl) vc_9 inlX9 (Nat.le_of_ble_eq_true rfl) rfl (Nat.le_of_ble_eq_true rfl) fl_X9_10 dX9_houseOf_161 ?_
        refine z_get hB 192 0 kX_192 (Nat.le_of_ble_eq_true rfl) vc_6 inlX6 (Nat.le_of_ble_eq_true rfl) rfl fl_X9_148 dX9_houseOf_164 ?_
        obtain ⟨r23, h22, h⟩ := z_b1E h
        refine z_cI hB (z_rV (ι := zi_X_T) hB yY_X3_cover (c_X3_cover _ _ _ _ h22) rfl cut_X_T z_hno kT_26 (Nat.le_of_ble_eq_true rfl) vc_3 rfl rfl rfl (Nat.le_of_ble_eq_true rfl) ml_X9_152 ⟨Nat.le_of_ble_eq_true rfl, Nat.le_of_ble_eq_true rfl⟩ dX9_houseOf_167) cut_X_T z_hno ?_
        refine z_toA (z_mro cut_X_T) ?_
        refine z_if_eq hB (tgt := 177) dX9_houseOf_170 (by decide) (fun c24 => ?_) (fun c24 => ?_)
        · have h := z_ifT c24 h
          refine z_iconst hB dX9_houseOf_177 zcI_0 ?_
          exact hret _ _ _ _ (Option.some.inj h) rfl rfl dX9_houseOf_178
        · have h := z_ifF c24 h
          refine z_iconst hB dX9_houseOf_173 zcI_1 ?_
          refine z_goto hB (tgt := 178) dX9_houseOf_174 (by decide) ?_
          exact hret _ _ _ _ (Option.some.inj h) rfl rfl dX9_houseOf_178
      have h := z_ifF c21 h
      by_cases c25 : p2 = (6 : Int32)
      · have h := z_ifT c25 h
        refine z_tableIn hB (tgt := 179) dX9_houseOf_29 c25 (by decide) (by decide) rfl (by decide) ?_
        refine z_aload_n hB 0 dX9_houseOf_179 rfl rfl ?_
        refine z_getr hB 203 7 210 kX_203 (Nat.le_of_ble_eq_true rfl) vc_2 inlX2 (Nat.le_of_ble_eq_true rfl) rfl (Nat.le_of_ble_eq_true rfl) fl_X9_158 dX9_houseOf_180 ?_
        refine z_iload_n hB 2 dX9_houseOf_183 rfl rfl ?_
        obtain ⟨h26, h⟩ := z_ckiE h
        refine z_iald hB 210 24 kX_210 (Nat.le_of_ble_eq_true rfl) dX9_houseOf_184 h26 ?_
        exact hret _ _ _ _ (Option.some.inj h) rfl rfl dX9_houseOf_185
      have h := z_ifF c25 h
      by_cases c27 : p2 = (7 : Int32)
      · have h := z_ifT c27 h
        refine z_tableIn hB (tgt := 186) dX9_houseOf_29 c27 (by decide) (by decide) rfl (by decide) ?_
        refine z_aload_n hB 0 dX9_houseOf_186 rfl rfl ?_
        refine z_getr hB 203 8 211 kX_203 (Nat.le_of_ble_eq_true rfl) vc_2 inlX2 (Nat.le_of_ble_eq_true rfl) rfl (Nat.le_of_ble_eq_true rfl) fl_X9_161 dX9_houseOf_187 ?_
        refine z_iload_n hB 2 dX9_houseOf_190 rfl rfl ?_
        obtain ⟨h28, h⟩ := z_ckiE h
        refine z_iald hB 211 24 kX_211 (Nat.le_of_ble_eq_true rfl) dX9_houseOf_191 h28 ?_
        exact hret _ _ _ _ (Option.some.inj h) rfl rfl dX9_houseOf_192
      have h := z_ifF c27 h
      by_cases c29 : p2 = (8 : Int32)
      · have h := z_ifT c29 h
        refine z_tableIn hB (tgt := 193) dX9_houseOf_29 c29 (by decide) (by decide) rfl (by decide) ?_
        refine z_aload_n hB 0 dX9_houseOf_193 rfl rfl ?_
        refine z_getr hB 203 9 212 kX_203 (Nat.le_of_ble_eq_true rfl) vc_2 inlX2 (Nat.le_of_ble_eq_true rfl) rfl (Nat.le_of_ble_eq_true rfl) fl_X9_164 dX9_houseOf_194 ?_
        refine z_iload_n hB 2 dX9_houseOf_197 rfl rfl ?_
        obtain ⟨h30, h⟩ := z_ckiE h
        refine z_iald hB 212 24 kX_212 (Nat.le_of_ble_eq_true rfl) dX9_houseOf_198 h30 ?_
        exact hret _ _ _ _ (Option.some.inj h) rfl rfl dX9_houseOf_199
      have h := z_ifF c29 h
      by_cases c31 : p2 = (9 : Int32)
      · have h := z_ifT c31 h
        refine z_tableIn hB (tgt := 200) dX9_houseOf_29 c31 (by decide) (by decide) rfl (by decide) ?_
        refine z_aload_n hB 0 dX9_houseOf_200 rfl rfl ?_
        refine z_getr hB 203 10 213 kX_203 (Nat.le_of_ble_eq_true rfl) vc_2 inlX2 (Nat.le_of_ble_eq_true rfl) rfl (Nat.le_of_ble_eq_true rfl) fl_X9_167 dX9_houseOf_201 ?_
        refine z_iload_n hB 2 dX9_houseOf_204 rfl rfl ?_
        obtain ⟨h32, h⟩ := z_ckiE h
        refine z_iald hB 213 24 kX_213 (Nat.le_of_ble_eq_true rfl) dX9_houseOf_205 h32 ?_
        exact hret _ _ _ _ (Option.some.inj h) rfl rfl dX9_houseOf_206
      have h := z_ifF c31 h
      by_cases c33 : p2 = (10 : Int32)
      · have h := z_ifT c33 h
        refine z_tableIn hB (tgt := 207) dX9_houseOf_29 c33 (by decide) (by decide) rfl (by decide) ?_
        refine z_aload_n hB 0 dX9_houseOf_207 rfl rfl ?_
        refine z_getr hB 203 11 214 kX_203 (Nat.le_of_ble_eq_true rfl) vc_2 inlX2 (Nat.le_of_ble_eq_true rfl) rfl (Nat.le_of_ble_eq_true rfl) fl_X9_170 dX9_houseOf_208 ?_
        refine z_iload_n hB 2 dX9_houseOf_211 rfl rfl ?_
        obtain ⟨h34, h⟩ := z_ckiE h
        refine z_iald hB 214 24 kX_214 (Nat.le_of_ble_eq_true rfl) dX9_houseOf_212 h34 ?_
        exact hret _ _ _ _ (Option.some.inj h) rfl rfl dX9_houseOf_213
      have h := z_ifF c33 h
      refine z_tableOut hB (tgt := 214) dX9_houseOf_29 (z_tsE (z_ts ((z_ts ((z_ts ((z_ts ((z_ts ((z_ts ((z_ts ((z_ts ((z_ts ((z_ts ((z_ts (z_ts0 p2 0) c7 rfl)) c9 rfl)) c11 rfl)) c13 rfl)) c17 rfl)) c21 rfl)) c25 rfl)) c27 rfl)) c29 rfl)) c31 rfl)) c33 rfl) (by decide)) (by decide) ?_
      refine z_aload_n hB 0 dX9_houseOf_214 rfl rfl ?_
      refine z_getr hB 203 12 215 kX_203 (Nat.le_of_ble_eq_true rfl) vc_2 inlX2 (Nat.le_of_ble_eq_true rfl) rfl (Nat.le_of_ble_eq_true rfl) fl_X9_173 dX9_houseOf_215 ?_
      refine z_iload_n hB 2 dX9_houseOf_218 rfl rfl ?_
      obtain ⟨h35, h⟩ := z_ckiE h
      refine z_iald hB 215 24 kX_215 (Nat.le_of_ble_eq_true rfl) dX9_houseOf_219 h35 ?_
      exact hret _ _ _ _ (Option.some.inj h) rfl rfl dX9_houseOf_220
    · have h := z_ifT c6 h
      refine z_iconst hB dX9_houseOf_26 zcI_m1 ?_
      exact hret _ _ _ _ (Option.some.inj h) rfl rfl dX9_houseOf_27
def f_X9_shareBits (p1 : Int32) (σ : z_S) : Option Int32 :=
  z_b1 (f_X2_has p1 (fun k => σ (zi_X_T k))) fun r2 =>
  if r2 = (0 : Int32) then
  (some ((-1 : Int32)))
  else
  (z_b1 (f_X2_papersDue p1 (fun k => σ (zi_X_T k))) fun r5 =>
  if r5 = (0 : Int32) then
  (some ((-4 : Int32)))
  else
  (z_b1 (f_X2_share p1 (fun k => σ (zi_X_T k))) fun r8 =>
  z_b1 (f_X9_bitsOf r8 σ) fun r10 =>
  some (r10)))
set_option maxRecDepth 100000 in
set_option maxHeartbeats 4000000 in
theorem c_X9_shareBits (p1 : Int32) (σ : z_S) (r : Int32) (h : f_X9_shareBits p1 σ = some r) : zMet yX9_shareBits cX9_shareBits 2 (some .int) 2 43 layX 275 (fun ad => [.ref (ad 230), .int p1]) σ (z_QI layX 275 r σ) := by
  refine z_headI RX9 (by decide) rfl (fun _ => Nat.le_of_ble_eq_true rfl) (fun E G A ad hB hret => ?_)
  show ZW E G A 2 layX 275 ad 0 [(0, .ref (ad 230)), (1, .int p1)] [] σ
  unfold f_X9_shareBits at h
  refine z_aload_n hB 0 dX9_shareBits_0 rfl rfl ?_
  refine z_getr hB 230 0 192 kX_230 (Nat.le_of_ble_eq_true rfl) vc_9 inlX9 (Nat.le_of_ble_eq_true rfl) rfl (Nat.le_of_ble_eq_true rfl) fl_X9_10 dX9_shareBits_1 ?_
  refine z_getr hB 192 5 203 kX_192 (Nat.le_of_ble_eq_true rfl) vc_6 inlX6 (Nat.le_of_ble_eq_true rfl) rfl (Nat.le_of_ble_eq_true rfl) fl_X9_122 dX9_shareBits_4 ?_
  refine z_iload_n hB 1 dX9_shareBits_7 rfl rfl ?_
  obtain ⟨r2, h1, h⟩ := z_b1E h
  refine z_cI hB (z_rV (ι := zi_X_T) hB yY_X2_has (c_X2_has _ _ _ h1) rfl cut_X_T z_hno kT_11 (Nat.le_of_ble_eq_true rfl) vc_2 rfl rfl rfl (Nat.le_of_ble_eq_true rfl) ml_X9_126 ⟨Nat.le_of_ble_eq_true rfl, Nat.le_of_ble_eq_true rfl⟩ dX9_shareBits_8) cut_X_T z_hno ?_
  refine z_toA (z_mro cut_X_T) ?_
  refine z_if_ne hB (tgt := 16) dX9_shareBits_11 (by decide) (fun c3 => ?_) (fun c3 => ?_)
  · have h := z_ifF c3 h
    refine z_aload_n hB 0 dX9_shareBits_16 rfl rfl ?_
    refine z_getr hB 230 0 192 kX_230 (Nat.le_of_ble_eq_true rfl) vc_9 inlX9 (Nat.le_of_ble_eq_true rfl) rfl (Nat.le_of_ble_eq_true rfl) fl_X9_10 dX9_shareBits_17 ?_
    refine z_getr hB 192 5 203 kX_192 (Nat.le_of_ble_eq_true rfl) vc_6 inlX6 (Nat.le_of_ble_eq_true rfl) rfl (Nat.le_of_ble_eq_true rfl) fl_X9_122 dX9_shareBits_20 ?_
    refine z_iload_n hB 1 dX9_shareBits_23 rfl rfl ?_
    obtain ⟨r5, h4, h⟩ := z_b1E h
    refine z_cI hB (z_rV (ι := zi_X_T) hB yY_X2_papersDue (c_X2_papersDue _ _ _ h4) rfl cut_X_T z_hno kT_11 (Nat.le_of_ble_eq_true rfl) vc_2 rfl rfl rfl (Nat.le_of_ble_eq_true rfl) ml_X9_176 ⟨Nat.le_of_ble_eq_true rfl, Nat.le_of_ble_eq_true rfl⟩ dX9_shareBits_24) cut_X_T z_hno ?_
    refine z_toA (z_mro cut_X_T) ?_
    refine z_if_ne hB (tgt := 33) dX9_shareBits_27 (by decide) (fun c6 => ?_) (fun c6 => ?_)
    · have h := z_ifF c6 h
      refine z_aload_n hB 0 dX9_shareBits_33 rfl rfl ?_
      refine z_getr hB 230 0 192 kX_230 (Nat.le_of_ble_eq_true rfl) vc_9 inlX9 (Nat.le_of_ble_eq_true rfl) rfl (Nat.le_of_ble_eq_true rfl) fl_X9_10 dX9_shareBits_34 ?_
      refine z_getr hB 192 5 203 kX_192 (Nat.le_of_ble_eq_true rfl) vc_6 inlX6 (Nat.le_of_ble_eq_true rfl) rfl (Nat.le_of_ble_eq_true rfl) fl_X9_122 dX9_shareBits_37 ?_
      refine z_iload_n hB 1 dX9_shareBits_40 rfl rfl ?_
      obtain ⟨r8, h7, h⟩ := z_b1E h
      refine z_cF hB (z_rV (ι := zi_X_T) hB yY_X2_share (c_X2_share _ _ _ h7) rfl cut_X_T z_hno kT_11 (Nat.le_of_ble_eq_true rfl) vc_2 rfl rfl rfl (Nat.le_of_ble_eq_true rfl) ml_X9_179 ⟨Nat.le_of_ble_eq_true rfl, Nat.le_of_ble_eq_true rfl⟩ dX9_shareBits_41) cut_X_T z_hno ?_
      refine z_toA (z_mro cut_X_T) ?_
      obtain ⟨r10, h9, h⟩ := z_b1E h
      refine z_cI hB (z_rS (ι := fun k => k) hB yY_X9_bitsOf (c_X9_bitsOf _ _ _ h9) rfl z_cut0 z_hno rfl rfl rfl (Nat.le_of_ble_eq_true rfl) ml_X9_183 ⟨Nat.le_of_ble_eq_true rfl, Nat.le_of_ble_eq_true rfl⟩ dX9_shareBits_44) z_cut0 z_hno ?_
      refine z_toA (z_mro (lay := layX) (lay' := z_lay0) (b := false) z_cut0) ?_
      exact hret _ _ _ _ (Option.some.inj h) rfl rfl dX9_shareBits_47
    · have h := z_ifT c6 h
      refine z_bipush hB dX9_shareBits_30 zcB_m4 ?_
      exact hret _ _ _ _ (Option.some.inj h) rfl rfl dX9_shareBits_32
  · have h := z_ifT c3 h
    refine z_iconst hB dX9_shareBits_14 zcI_m1 ?_
    exact hret _ _ _ _ (Option.some.inj h) rfl rfl dX9_shareBits_15
def lb_X9_meanBits_7 (σ : z_S) (k2 : UInt64 → Int32 → Int32 → Option Int32) (x3 : UInt64) (x4 : Int32) (x5 : Int32) : Option Int32 :=
  if (σ 203 0) ≤ x5 then
  (if x4 = (0 : Int32) then
  (some ((-4 : Int32)))
  else
  (z_f64 (FP.ddiv x3 (FP.i2d x4)) <|
  z_f32 (FP.d2f (FP.ddiv x3 (FP.i2d x4))) <|
  z_b1 (f_X9_bitsOf (FP.d2f (FP.ddiv x3 (FP.i2d x4))) σ) fun r11 =>
  some (r11)))
  else
  (z_b1 (f_X2_papersDue x5 (fun k => σ (zi_X_T k))) fun r13 =>
  z_let (fun (y14 : UInt64) (y15 : Int32) => z_let (x5 + (1 : Int32)) fun x17 =>
  k2 y14 y15 x17) fun j16 =>
  if r13 ≤ (0 : Int32) then
  (j16 x3 x4)
  else
  (z_b1 (f_X2_share x5 (fun k => σ (zi_X_T k))) fun r20 =>
  z_f64 (FP.f2d r20) <|
  z_f64 (FP.dadd x3 (FP.f2d r20)) <|
  z_let (FP.dadd x3 (FP.f2d r20)) fun x23 =>
  z_let (x4 + (1 : Int32)) fun x24 =>
  j16 x23 x24))
def f_X9_meanBits (σ : z_S) : Option Int32 :=
  z_let (FP.dconst0) fun x1 =>
  z_lp3 (lb_X9_meanBits_7 σ) z_Fu x1 (0 : Int32) (0 : Int32)
set_option maxRecDepth 100000 in
set_option maxHeartbeats 4000000 in
theorem c_X9_meanBits (σ : z_S) (r : Int32) (h : f_X9_meanBits σ = some r) : zMet yX9_meanBits cX9_meanBits 5 (some .int) 2 43 layX 275 (fun ad => [.ref (ad 230)]) σ (z_QI layX 275 r σ) := by
  refine z_headI RX9 (by decide) rfl (fun _ => Nat.le_of_ble_eq_true rfl) (fun E G A ad hB hret => ?_)
  show ZW E G A 5 layX 275 ad 0 [(0, .ref (ad 230))] [] σ
  unfold f_X9_meanBits at h
  refine z_dconst0 hB dX9_meanBits_0 ?_
  obtain ⟨x1, ex1, h⟩ := z_letE h
  refine z_dstore_n hB [(1, .double x1), (0, .ref (ad 230))] dX9_meanBits_1 rfl (Nat.le_of_ble_eq_true rfl) ex1 rfl ?_
  refine z_iconst hB dX9_meanBits_2 zcI_0 ?_
  refine z_istore_n hB [(3, .int ((0 : Int32))), (1, .double x1), (0, .ref (ad 230))] dX9_meanBits_3 rfl (Nat.le_of_ble_eq_true rfl) rfl rfl ?_
  refine z_iconst hB dX9_meanBits_4 zcI_0 ?_
  refine z_istore hB [(4, .int ((0 : Int32))), (3, .int ((0 : Int32))), (1, .double x1), (0, .ref (ad 230))] dX9_meanBits_5 (Nat.le_of_ble_eq_true rfl) rfl rfl ?_
  refine z_lv [3, 2, 1, 0] rfl ?_
  refine z_lpr3 (g := fun x3 x4 x5 => ZW E G A 5 layX 275 ad 7 [(0, .ref (ad 230)), (1, .double x3), (3, .int x4), (4, .int x5)] [] σ) (fun k2 x3 x4 x5 hk_k2 h => ?_) _ _ _ _ h
  show ZW E G A 5 layX 275 ad 7 [(0, .ref (ad 230)), (1, .double x3), (3, .int x4), (4, .int x5)] [] σ
  unfold lb_X9_meanBits_7 at h
  refine z_iload hB 3 dX9_meanBits_7 rfl ?_
  refine z_aload_n hB 0 dX9_meanBits_9 rfl rfl ?_
  refine z_getr hB 230 0 192 kX_230 (Nat.le_of_ble_eq_true rfl) vc_9 inlX9 (Nat.le_of_ble_eq_true rfl) rfl (Nat.le_of_ble_eq_true rfl) fl_X9_10 dX9_meanBits_10 ?_
  refine z_getr hB 192 5 203 kX_192 (Nat.le_of_ble_eq_true rfl) vc_6 inlX6 (Nat.le_of_ble_eq_true rfl) rfl (Nat.le_of_ble_eq_true rfl) fl_X9_122 dX9_meanBits_13 ?_
  refine z_get hB 203 0 kX_203 (Nat.le_of_ble_eq_true rfl) vc_2 inlX2 (Nat.le_of_ble_eq_true rfl) rfl fl_X9_187 dX9_meanBits_16 ?_
  refine z_icmp_ge hB (tgt := 62) dX9_meanBits_19 (by decide) (fun c6 => ?_) (fun c6 => ?_)
  · have h := z_ifT c6 h
    refine z_iload_n hB 2 dX9_meanBits_62 rfl rfl ?_
    refine z_if_ne hB (tgt := 69) dX9_meanBits_63 (by decide) (fun c7 => ?_) (fun c7 => ?_)
    · have h := z_ifF c7 h
      refine z_dload_n hB 1 dX9_meanBits_69 rfl rfl ?_
      refine z_iload_n hB 2 dX9_meanBits_70 rfl rfl ?_
      refine z_i2d hB dX9_meanBits_71 ?_
      obtain ⟨h8, h⟩ := z_f64E h
      refine z_ddiv hB dX9_meanBits_72 h8 ?_
      obtain ⟨h9, h⟩ := z_f32E h
      refine z_d2f hB dX9_meanBits_73 h9 ?_
      obtain ⟨r11, h10, h⟩ := z_b1E h
      refine z_cI hB (z_rS (ι := fun k => k) hB yY_X9_bitsOf (c_X9_bitsOf _ _ _ h10) rfl z_cut0 z_hno rfl rfl rfl (Nat.le_of_ble_eq_true rfl) ml_X9_183 ⟨Nat.le_of_ble_eq_true rfl, Nat.le_of_ble_eq_true rfl⟩ dX9_meanBits_74) z_cut0 z_hno ?_
      refine z_toA (z_mro (lay := layX) (lay' := z_lay0) (b := false) z_cut0) ?_
      exact hret _ _ _ _ (Option.some.inj h) rfl rfl dX9_meanBits_77
    · have h := z_ifT c7 h
      refine z_bipush hB dX9_meanBits_66 zcB_m4 ?_
      exact hret _ _ _ _ (Option.some.inj h) rfl rfl dX9_meanBits_68
  · have h := z_ifF c6 h
    refine z_aload_n hB 0 dX9_meanBits_22 rfl rfl ?_
    refine z_getr hB 230 0 192 kX_230 (Nat.le_of_ble_eq_true rfl) vc_9 inlX9 (Nat.le_of_ble_eq_true rfl) rfl (Nat.le_of_ble_eq_true rfl) fl_X9_10 dX9_meanBits_23 ?_
    refine z_getr hB 192 5 203 kX_192 (Nat.le_of_ble_eq_true rfl) vc_6 inlX6 (Nat.le_of_ble_eq_true rfl) rfl (Nat.le_of_ble_eq_true rfl) fl_X9_122 dX9_meanBits_26 ?_
    refine z_iload hB 3 dX9_meanBits_29 rfl ?_
    obtain ⟨r13, h12, h⟩ := z_b1E h
    refine z_cI hB (z_rV (ι := zi_X_T) hB yY_X2_papersDue (c_X2_papersDue _ _ _ h12) rfl cut_X_T z_hno kT_11 (Nat.le_of_ble_eq_true rfl) vc_2 rfl rfl rfl (Nat.le_of_ble_eq_true rfl) ml_X9_176 ⟨Nat.le_of_ble_eq_true rfl, Nat.le_of_ble_eq_true rfl⟩ dX9_meanBits_31) cut_X_T z_hno ?_
    refine z_toA (z_mro cut_X_T) ?_
    obtain ⟨j16, ej16, h⟩ := z_letE h
    have hj16 : ∀ (y14 : UInt64) (y15 : Int32), j16 y14 y15 = some r → ZW E G A 5 layX 275 ad 56 [(0, .ref (ad 230)), (1, .double y14), (3, .int y15), (4, .int x5)] [] σ := by
      intro y14 y15 h
      rw [ej16] at h
      obtain ⟨x17, ex17, h⟩ := z_letE h
      refine z_iinc hB 3 [(4, .int x17), (0, .ref (ad 230)), (1, .double y14), (3, .int y15)] dX9_meanBits_56 rfl (by rw [zcI_1]; exact ex17) (Nat.le_of_ble_eq_true rfl) rfl ?_
      refine z_goto hB (tgt := 7) dX9_meanBits_59 (by decide) ?_
      refine z_lv [1, 2, 3, 0] rfl ?_
      exact hk_k2 _ _ _ h
    refine z_if_le hB (tgt := 56) dX9_meanBits_34 (by decide) (fun c18 => ?_) (fun c18 => ?_)
    · have h := z_ifT c18 h
      exact hj16 _ _ h
    · have h := z_ifF c18 h
      refine z_dload_n hB 1 dX9_meanBits_37 rfl rfl ?_
      refine z_aload_n hB 0 dX9_meanBits_38 rfl rfl ?_
      refine z_getr hB 230 0 192 kX_230 (Nat.le_of_ble_eq_true rfl) vc_9 inlX9 (Nat.le_of_ble_eq_true rfl) rfl (Nat.le_of_ble_eq_true rfl) fl_X9_10 dX9_meanBits_39 ?_
      refine z_getr hB 192 5 203 kX_192 (Nat.le_of_ble_eq_true rfl) vc_6 inlX6 (Nat.le_of_ble_eq_true rfl) rfl (Nat.le_of_ble_eq_true rfl) fl_X9_122 dX9_meanBits_42 ?_
      refine z_iload hB 3 dX9_meanBits_45 rfl ?_
      obtain ⟨r20, h19, h⟩ := z_b1E h
      refine z_cF hB (z_rV (ι := zi_X_T) hB yY_X2_share (c_X2_share _ _ _ h19) rfl cut_X_T z_hno kT_11 (Nat.le_of_ble_eq_true rfl) vc_2 rfl rfl rfl (Nat.le_of_ble_eq_true rfl) ml_X9_179 ⟨Nat.le_of_ble_eq_true rfl, Nat.le_of_ble_eq_true rfl⟩ dX9_meanBits_47) cut_X_T z_hno ?_
      refine z_toA (z_mro cut_X_T) ?_
      obtain ⟨h21, h⟩ := z_f64E h
      refine z_f2d hB dX9_meanBits_50 h21 ?_
      obtain ⟨h22, h⟩ := z_f64E h
      refine z_dadd hB dX9_meanBits_51 h22 ?_
      obtain ⟨x23, ex23, h⟩ := z_letE h
      refine z_dstore_n hB [(1, .double x23), (0, .ref (ad 230)), (3, .int x4), (4, .int x5)] dX9_meanBits_52 rfl (Nat.le_of_ble_eq_true rfl) ex23 rfl ?_
      obtain ⟨x24, ex24, h⟩ := z_letE h
      refine z_iinc hB 2 [(3, .int x24), (1, .double x23), (0, .ref (ad 230)), (4, .int x5)] dX9_meanBits_53 rfl (by rw [zcI_1]; exact ex24) (Nat.le_of_ble_eq_true rfl) rfl ?_
      refine z_lv [2, 1, 0, 3] rfl ?_
      exact hj16 _ _ h
def f_X9_carrierOf (p1 : Int32) (p2 : Int32) (σ : z_S) : Option Int32 :=
  z_b1 (f_X0_has p1 (fun k => σ (zi_X_T k))) fun r2 =>
  if r2 = (0 : Int32) then
  (some ((-1 : Int32)))
  else
  (z_b1 (f_X9_within p2 (0 : Int32) (7 : Int32) σ) fun r5 =>
  if r5 = (0 : Int32) then
  (some ((-1 : Int32)))
  else
  (if p2 = (0 : Int32) then
  (z_cki p1 3 <|
  some (σ 223 p1.toNatClampNeg))
  else if p2 = (1 : Int32) then
  (z_cki p1 3 <|
  some (σ 224 p1.toNatClampNeg))
  else if p2 = (2 : Int32) then
  (z_cki p1 3 <|
  some (σ 225 p1.toNatClampNeg))
  else if p2 = (3 : Int32) then
  (z_b1 (f_X2_manyOf p1 (fun k => σ (zi_X_T k))) fun r15 =>
  some (r15))
  else if p2 = (4 : Int32) then
  (z_cki p1 3 <|
  some (σ 226 p1.toNatClampNeg))
  else if p2 = (5 : Int32) then
  (z_cki p1 3 <|
  some (σ 227 p1.toNatClampNeg))
  else if p2 = (6 : Int32) then
  (z_cki p1 3 <|
  some (σ 228 p1.toNatClampNeg))
  else (z_cki p1 3 <|
  some (σ 229 p1.toNatClampNeg))))
set_option maxRecDepth 100000 in
set_option maxHeartbeats 4000000 in
theorem c_X9_carrierOf (p1 : Int32) (p2 : Int32) (σ : z_S) (r : Int32) (h : f_X9_carrierOf p1 p2 σ = some r) : zMet yX9_carrierOf cX9_carrierOf 4 (some .int) 2 43 layX 275 (fun ad => [.ref (ad 230), .int p1, .int p2]) σ (z_QI layX 275 r σ) := by
  refine z_headI RX9 (by decide) rfl (fun _ => Nat.le_of_ble_eq_true rfl) (fun E G A ad hB hret => ?_)
  show ZW E G A 4 layX 275 ad 0 [(0, .ref (ad 230)), (1, .int p1), (2, .int p2)] [] σ
  unfold f_X9_carrierOf at h
  refine z_aload_n hB 0 dX9_carrierOf_0 rfl rfl ?_
  refine z_getr hB 230 0 192 kX_230 (Nat.le_of_ble_eq_true rfl) vc_9 inlX9 (Nat.le_of_ble_eq_true rfl) rfl (Nat.le_of_ble_eq_true rfl) fl_X9_10 dX9_carrierOf_1 ?_
  refine z_getr hB 192 7 222 kX_192 (Nat.le_of_ble_eq_true rfl) vc_6 inlX6 (Nat.le_of_ble_eq_true rfl) rfl (Nat.le_of_ble_eq_true rfl) fl_X9_190 dX9_carrierOf_4 ?_
  refine z_astore_n hB [(3, .ref (ad 222)), (0, .ref (ad 230)), (1, .int p1), (2, .int p2)] dX9_carrierOf_7 rfl (Nat.le_of_ble_eq_true rfl) rfl rfl ?_
  refine z_aload_n hB 0 dX9_carrierOf_8 rfl rfl ?_
  refine z_iload_n hB 2 dX9_carrierOf_9 rfl rfl ?_
  obtain ⟨r2, h1, h⟩ := z_b1E h
  refine z_cI hB (z_rV (ι := zi_X_T) hB yY_X0_has (c_X0_has _ _ _ h1) rfl cut_X_T z_hno kT_30 (Nat.le_of_ble_eq_true rfl) vc_0 rfl rfl rfl (Nat.le_of_ble_eq_true rfl) ml_X9_194 ⟨Nat.le_of_ble_eq_true rfl, Nat.le_of_ble_eq_true rfl⟩ dX9_carrierOf_10) cut_X_T z_hno ?_
  refine z_toA (z_mro cut_X_T) ?_
  refine z_if_eq hB (tgt := 26) dX9_carrierOf_13 (by decide) (fun c3 => ?_) (fun c3 => ?_)
  · have h := z_ifT c3 h
    refine z_iconst hB dX9_carrierOf_26 zcI_m1 ?_
    exact hret _ _ _ _ (Option.some.inj h) rfl rfl dX9_carrierOf_27
  · have h := z_ifF c3 h
    refine z_iload_n hB 3 dX9_carrierOf_16 rfl rfl ?_
    refine z_iconst hB dX9_carrierOf_17 zcI_0 ?_
    refine z_bipush hB dX9_carrierOf_18 zcB_7 ?_
    obtain ⟨r5, h4, h⟩ := z_b1E h
    refine z_cI hB (z_rS (ι := fun k => k) hB yY_X9_within (c_X9_within _ _ _ _ _ h4) rfl z_cut0 z_hno rfl rfl rfl (Nat.le_of_ble_eq_true rfl) ml_X9_96 ⟨Nat.le_of_ble_eq_true rfl, Nat.le_of_ble_eq_true rfl⟩ dX9_carrierOf_20) z_cut0 z_hno ?_
    refine z_toA (z_mro (lay := layX) (lay' := z_lay0) (b := false) z_cut0) ?_
    refine z_if_ne hB (tgt := 28) dX9_carrierOf_23 (by decide) (fun c6 => ?_) (fun c6 => ?_)
    · have h := z_ifF c6 h
      refine z_iload_n hB 3 dX9_carrierOf_28 rfl rfl ?_
      by_cases c7 : p2 = (0 : Int32)
      · have h := z_ifT c7 h
        refine z_tableIn hB (tgt := 72) dX9_carrierOf_29 c7 (by decide) (by decide) rfl (by decide) ?_
        refine z_aload_n hB 0 dX9_carrierOf_72 rfl rfl ?_
        refine z_getr hB 222 1 223 kX_222 (Nat.le_of_ble_eq_true rfl) vc_0 inlX0 (Nat.le_of_ble_eq_true rfl) rfl (Nat.le_of_ble_eq_true rfl) fl_X9_197 dX9_carrierOf_73 ?_
        refine z_iload_n hB 2 dX9_carrierOf_76 rfl rfl ?_
        obtain ⟨h8, h⟩ := z_ckiE h
        refine z_iald hB 223 3 kX_223 (Nat.le_of_ble_eq_true rfl) dX9_carrierOf_77 h8 ?_
        exact hret _ _ _ _ (Option.some.inj h) rfl rfl dX9_carrierOf_78
      have h := z_ifF c7 h
      by_cases c9 : p2 = (1 : Int32)
      · have h := z_ifT c9 h
        refine z_tableIn hB (tgt := 79) dX9_carrierOf_29 c9 (by decide) (by decide) rfl (by decide) ?_
        refine z_aload_n hB 0 dX9_carrierOf_79 rfl rfl ?_
        refine z_getr hB 222 2 224 kX_222 (Nat.le_of_ble_eq_true rfl) vc_0 inlX0 (Nat.le_of_ble_eq_true rfl) rfl (Nat.le_of_ble_eq_true rfl) fl_X9_200 dX9_carrierOf_80 ?_
        refine z_iload_n hB 2 dX9_carrierOf_83 rfl rfl ?_
        obtain ⟨h10, h⟩ := z_ckiE h
        refine z_iald hB 224 3 kX_224 (Nat.le_of_ble_eq_true rfl) dX9_carrierOf_84 h10 ?_
        exact hret _ _ _ _ (Option.some.inj h) rfl rfl dX9_carrierOf_85
      have h := z_ifF c9 h
      by_cases c11 : p2 = (2 : Int32)
      · have h := z_ifT c11 h
        refine z_tableIn hB (tgt := 86) dX9_carrierOf_29 c11 (by decide) (by decide) rfl (by decide) ?_
        refine z_aload_n hB 0 dX9_carrierOf_86 rfl rfl ?_
        refine z_getr hB 222 3 225 kX_222 (Nat.le_of_ble_eq_true rfl) vc_0 inlX0 (Nat.le_of_ble_eq_true rfl) rfl (Nat.le_of_ble_eq_true rfl) fl_X9_203 dX9_carrierOf_87 ?_
        refine z_iload_n hB 2 dX9_carrierOf_90 rfl rfl ?_
        obtain ⟨h12, h⟩ := z_ckiE h
        refine z_iald hB 225 3 kX_225 (Nat.le_of_ble_eq_true rfl) dX9_carrierOf_91 h12 ?_
        exact hret _ _ _ _ (Option.some.inj h) rfl rfl dX9_carrierOf_92
      have h := z_ifF c11 h
      by_cases c13 : p2 = (3 : Int32)
      · have h := z_ifT c13 h
        refine z_tableIn hB (tgt := 93) dX9_carrierOf_29 c13 (by decide) (by decide) rfl (by decide) ?_
        refine z_aload_n hB 1 dX9_carrierOf_93 rfl rfl ?_
        refine z_getr hB 230 0 192 kX_230 (Nat.le_of_ble_eq_true rfl) vc_9 inlX9 (Nat.le_of_ble_eq_true rfl) rfl (Nat.le_of_ble_eq_true rfl) fl_X9_10 dX9_carrierOf_94 ?_
        refine z_getr hB 192 5 203 kX_192 (Nat.le_of_ble_eq_true rfl) vc_6 inlX6 (Nat.le_of_ble_eq_true rfl) rfl (Nat.le_of_ble_eq_true rfl) fl_X9_122 dX9_carrierOf_97 ?_
        refine z_iload_n hB 2 dX9_carrierOf_100 rfl rfl ?_
        obtain ⟨r15, h14, h⟩ := z_b1E h
        refine z_cI hB (z_rV (ι := zi_X_T) hB yY_X2_manyOf (c_X2_manyOf _ _ _ h14) rfl cut_X_T z_hno kT_11 (Nat.le_of_ble_eq_true rfl) vc_2 rfl rfl rfl (Nat.le_of_ble_eq_true rfl) ml_X9_206 ⟨Nat.le_of_ble_eq_true rfl, Nat.le_of_ble_eq_true rfl⟩ dX9_carrierOf_101) cut_X_T z_hno ?_
        refine z_toA (z_mro cut_X_T) ?_
        exact hret _ _ _ _ (Option.some.inj h) rfl rfl dX9_carrierOf_104
      have h := z_ifF c13 h
      by_cases c16 : p2 = (4 : Int32)
      · have h := z_ifT c16 h
        refine z_tableIn hB (tgt := 105) dX9_carrierOf_29 c16 (by decide) (by decide) rfl (by decide) ?_
        refine z_aload_n hB 0 dX9_carrierOf_105 rfl rfl ?_
        refine z_getr hB 222 4 226 kX_222 (Nat.le_of_ble_eq_true rfl) vc_0 inlX0 (Nat.le_of_ble_eq_true rfl) rfl (Nat.le_of_ble_eq_true rfl) fl_X9_209 dX9_carrierOf_106 ?_
        refine z_iload_n hB 2 dX9_carrierOf_109 rfl rfl ?_
        obtain ⟨h17, h⟩ := z_ckiE h
        refine z_iald hB 226 3 kX_226 (Nat.le_of_ble_eq_true rfl) dX9_carrierOf_110 h17 ?_
        exact hret _ _ _ _ (Option.some.inj h) rfl rfl dX9_carrierOf_111
      have h := z_ifF c16 h
      by_cases c18 : p2 = (5 : Int32)
      · have h := z_ifT c18 h
        refine z_tableIn hB (tgt := 112) dX9_carrierOf_29 c18 (by decide) (by decide) rfl (by decide) ?_
        refine z_aload_n hB 0 dX9_carrierOf_112 rfl rfl ?_
        refine z_getr hB 222 5 227 kX_222 (Nat.le_of_ble_eq_true rfl) vc_0 inlX0 (Nat.le_of_ble_eq_true rfl) rfl (Nat.le_of_ble_eq_true rfl) fl_X9_212 dX9_carrierOf_113 ?_
        refine z_iload_n hB 2 dX9_carrierOf_116 rfl rfl ?_
        obtain ⟨h19, h⟩ := z_ckiE h
        refine z_iald hB 227 3 kX_227 (Nat.le_of_ble_eq_true rfl) dX9_carrierOf_117 h19 ?_
        exact hret _ _ _ _ (Option.some.inj h) rfl rfl dX9_carrierOf_118
      have h := z_ifF c18 h
      by_cases c20 : p2 = (6 : Int32)
      · have h := z_ifT c20 h
        refine z_tableIn hB (tgt := 119) dX9_carrierOf_29 c20 (by decide) (by decide) rfl (by decide) ?_
        refine z_aload_n hB 0 dX9_carrierOf_119 rfl rfl ?_
        refine z_getr hB 222 6 228 kX_222 (Nat.le_of_ble_eq_true rfl) vc_0 inlX0 (Nat.le_of_ble_eq_true rfl) rfl (Nat.le_of_ble_eq_true rfl) fl_X9_215 dX9_carrierOf_120 ?_
        refine z_iload_n hB 2 dX9_carrierOf_123 rfl rfl ?_
        obtain ⟨h21, h⟩ := z_ckiE h
        refine z_iald hB 228 3 kX_228 (Nat.le_of_ble_eq_true rfl) dX9_carrierOf_124 h21 ?_
        exact hret _ _ _ _ (Option.some.inj h) rfl rfl dX9_carrierOf_125
      have h := z_ifF c20 h
      refine z_tableOut hB (tgt := 126) dX9_carrierOf_29 (z_tsE (z_ts ((z_ts ((z_ts ((z_ts ((z_ts ((z_ts ((z_ts (z_ts0 p2 0) c7 rfl)) c9 rfl)) c11 rfl)) c13 rfl)) c16 rfl)) c18 rfl)) c20 rfl) (by decide)) (by decide) ?_
      refine z_aload_n hB 0 dX9_carrierOf_126 rfl rfl ?_
      refine z_getr hB 222 7 229 kX_222 (Nat.le_of_ble_eq_true rfl) vc_0 inlX0 (Nat.le_of_ble_eq_true rfl) rfl (Nat.le_of_ble_eq_true rfl) fl_X9_218 dX9_carrierOf_127 ?_
      refine z_iload_n hB 2 dX9_carrierOf_130 rfl rfl ?_
      obtain ⟨h22, h⟩ := z_ckiE h
      refine z_iald hB 229 3 kX_229 (Nat.le_of_ble_eq_true rfl) dX9_carrierOf_131 h22 ?_
      exact hret _ _ _ _ (Option.some.inj h) rfl rfl dX9_carrierOf_132
    · have h := z_ifT c6 h
      refine z_iconst hB dX9_carrierOf_26 zcI_m1 ?_
      exact hret _ _ _ _ (Option.some.inj h) rfl rfl dX9_carrierOf_27
def f_X9_pauseOf (p1 : Int32) (p2 : Int32) (σ : z_S) : Option Int32 :=
  z_b1 (f_X9_within p1 (0 : Int32) ((σ 218 0) - (1 : Int32)) σ) fun r2 =>
  if r2 = (0 : Int32) then
  (some ((-1 : Int32)))
  else
  (z_b1 (f_X9_within p2 (0 : Int32) (2 : Int32) σ) fun r5 =>
  if r5 = (0 : Int32) then
  (some ((-1 : Int32)))
  else
  (if p2 = (0 : Int32) then
  (z_cki p1 30 <|
  some (σ 219 p1.toNatClampNeg))
  else if p2 = (1 : Int32) then
  (z_cki p1 30 <|
  some (σ 220 p1.toNatClampNeg))
  else (z_cki p1 30 <|
  some (σ 221 p1.toNatClampNeg))))
set_option maxRecDepth 100000 in
set_option maxHeartbeats 4000000 in
theorem c_X9_pauseOf (p1 : Int32) (p2 : Int32) (σ : z_S) (r : Int32) (h : f_X9_pauseOf p1 p2 σ = some r) : zMet yX9_pauseOf cX9_pauseOf 4 (some .int) 1 22 layX 275 (fun ad => [.ref (ad 230), .int p1, .int p2]) σ (z_QI layX 275 r σ) := by
  refine z_headI RX9 (by decide) rfl (fun _ => Nat.le_of_ble_eq_true rfl) (fun E G A ad hB hret => ?_)
  show ZW E G A 4 layX 275 ad 0 [(0, .ref (ad 230)), (1, .int p1), (2, .int p2)] [] σ
  unfold f_X9_pauseOf at h
  refine z_aload_n hB 0 dX9_pauseOf_0 rfl rfl ?_
  refine z_getr hB 230 0 192 kX_230 (Nat.le_of_ble_eq_true rfl) vc_9 inlX9 (Nat.le_of_ble_eq_true rfl) rfl (Nat.le_of_ble_eq_true rfl) fl_X9_10 dX9_pauseOf_1 ?_
  refine z_getr hB 192 6 218 kX_192 (Nat.le_of_ble_eq_true rfl) vc_6 inlX6 (Nat.le_of_ble_eq_true rfl) rfl (Nat.le_of_ble_eq_true rfl) fl_X9_144 dX9_pauseOf_4 ?_
  refine z_astore_n hB [(3, .ref (ad 218)), (0, .ref (ad 230)), (1, .int p1), (2, .int p2)] dX9_pauseOf_7 rfl (Nat.le_of_ble_eq_true rfl) rfl rfl ?_
  refine z_iload_n hB 2 dX9_pauseOf_8 rfl rfl ?_
  refine z_iconst hB dX9_pauseOf_9 zcI_0 ?_
  refine z_aload_n hB 0 dX9_pauseOf_10 rfl rfl ?_
  refine z_get hB 218 0 kX_218 (Nat.le_of_ble_eq_true rfl) vc_3 inlX3 (Nat.le_of_ble_eq_true rfl) rfl fl_X9_219 dX9_pauseOf_11 ?_
  refine z_iconst hB dX9_pauseOf_14 zcI_1 ?_
  refine z_isub hB dX9_pauseOf_15 ?_
  obtain ⟨r2, h1, h⟩ := z_b1E h
  refine z_cI hB (z_rS (ι := fun k => k) hB yY_X9_within (c_X9_within _ _ _ _ _ h1) rfl z_cut0 z_hno rfl rfl rfl (Nat.le_of_ble_eq_true rfl) ml_X9_96 ⟨Nat.le_of_ble_eq_true rfl, Nat.le_of_ble_eq_true rfl⟩ dX9_pauseOf_16) z_cut0 z_hno ?_
  refine z_toA (z_mro (lay := layX) (lay' := z_lay0) (b := false) z_cut0) ?_
  refine z_if_eq hB (tgt := 31) dX9_pauseOf_19 (by decide) (fun c3 => ?_) (fun c3 => ?_)
  · have h := z_ifT c3 h
    refine z_iconst hB dX9_pauseOf_31 zcI_m1 ?_
    exact hret _ _ _ _ (Option.some.inj h) rfl rfl dX9_pauseOf_32
  · have h := z_ifF c3 h
    refine z_iload_n hB 3 dX9_pauseOf_22 rfl rfl ?_
    refine z_iconst hB dX9_pauseOf_23 zcI_0 ?_
    refine z_iconst hB dX9_pauseOf_24 zcI_2 ?_
    obtain ⟨r5, h4, h⟩ := z_b1E h
    refine z_cI hB (z_rS (ι := fun k => k) hB yY_X9_within (c_X9_within _ _ _ _ _ h4) rfl z_cut0 z_hno rfl rfl rfl (Nat.le_of_ble_eq_true rfl) ml_X9_96 ⟨Nat.le_of_ble_eq_true rfl, Nat.le_of_ble_eq_true rfl⟩ dX9_pauseOf_25) z_cut0 z_hno ?_
    refine z_toA (z_mro (lay := layX) (lay' := z_lay0) (b := false) z_cut0) ?_
    refine z_if_ne hB (tgt := 33) dX9_pauseOf_28 (by decide) (fun c6 => ?_) (fun c6 => ?_)
    · have h := z_ifF c6 h
      refine z_iload_n hB 3 dX9_pauseOf_33 rfl rfl ?_
      by_cases c7 : p2 = (0 : Int32)
      · have h := z_ifT c7 h
        refine z_lookup hB (tgt := 60) (off := 26) dX9_pauseOf_34 (by decide) (by first | (rw [c7]; done) | (rw [c7]; rfl)) (by decide) ?_
        refine z_aload_n hB 0 dX9_pauseOf_60 rfl rfl ?_
        refine z_getr hB 218 1 219 kX_218 (Nat.le_of_ble_eq_true rfl) vc_3 inlX3 (Nat.le_of_ble_eq_true rfl) rfl (Nat.le_of_ble_eq_true rfl) fl_X9_220 dX9_pauseOf_61 ?_
        refine z_iload_n hB 2 dX9_pauseOf_64 rfl rfl ?_
        obtain ⟨h8, h⟩ := z_ckiE h
        refine z_iald hB 219 30 kX_219 (Nat.le_of_ble_eq_true rfl) dX9_pauseOf_65 h8 ?_
        exact hret _ _ _ _ (Option.some.inj h) rfl rfl dX9_pauseOf_66
      have h := z_ifF c7 h
      by_cases c9 : p2 = (1 : Int32)
      · have h := z_ifT c9 h
        refine z_lookup hB (tgt := 67) (off := 33) dX9_pauseOf_34 (by decide) (by first | (rw [c9]; done) | (rw [c9]; rfl)) (by decide) ?_
        refine z_aload_n hB 0 dX9_pauseOf_67 rfl rfl ?_
        refine z_getr hB 218 2 220 kX_218 (Nat.le_of_ble_eq_true rfl) vc_3 inlX3 (Nat.le_of_ble_eq_true rfl) rfl (Nat.le_of_ble_eq_true rfl) fl_X9_223 dX9_pauseOf_68 ?_
        refine z_iload_n hB 2 dX9_pauseOf_71 rfl rfl ?_
        obtain ⟨h10, h⟩ := z_ckiE h
        refine z_iald hB 220 30 kX_220 (Nat.le_of_ble_eq_true rfl) dX9_pauseOf_72 h10 ?_
        exact hret _ _ _ _ (Option.some.inj h) rfl rfl dX9_pauseOf_73
      have h := z_ifF c9 h
      refine z_lookup hB (tgt := 74) (off := 40) dX9_pauseOf_34 (by decide) ((lv_osw c7 rfl).trans ((lv_osw c9 rfl).trans (rfl))) (by decide) ?_
      refine z_aload_n hB 0 dX9_pauseOf_74 rfl rfl ?_
      refine z_getr hB 218 3 221 kX_218 (Nat.le_of_ble_eq_true rfl) vc_3 inlX3 (Nat.le_of_ble_eq_true rfl) rfl (Nat.le_of_ble_eq_true rfl) fl_X9_226 dX9_pauseOf_75 ?_
      refine z_iload_n hB 2 dX9_pauseOf_78 rfl rfl ?_
      obtain ⟨h11, h⟩ := z_ckiE h
      refine z_iald hB 221 30 kX_221 (Nat.le_of_ble_eq_true rfl) dX9_pauseOf_79 h11 ?_
      exact hret _ _ _ _ (Option.some.inj h) rfl rfl dX9_pauseOf_80
    · have h := z_ifT c6 h
      refine z_iconst hB dX9_pauseOf_31 zcI_m1 ?_
      exact hret _ _ _ _ (Option.some.inj h) rfl rfl dX9_pauseOf_32
def lb_X9_roundAt_34 (p1 : Int32) (p2 : Int32) (σ : z_S) (k5 : Int32 → Int32 → Option Int32) (x6 : Int32) (x7 : Int32) : Option Int32 :=
  if (σ 203 0) ≤ x7 then
  (some ((-4 : Int32)))
  else
  (z_cki x7 24 <|
  z_let (σ 217 x7.toNatClampNeg) fun x10 =>
  z_cki x10 24 <|
  z_let (fun (y12 : Int32) => z_let (x7 + (1 : Int32)) fun x14 =>
  k5 y12 x14) fun j13 =>
  if (σ 207 x10.toNatClampNeg) = p1 then
  (if x6 = p2 then
  (some (x10))
  else
  (z_let (x6 + (1 : Int32)) fun x17 =>
  j13 x17))
  else
  (j13 x6))
def f_X9_roundAt (p1 : Int32) (p2 : Int32) (σ : z_S) : Option Int32 :=
  z_b1 (f_X0_has p1 (fun k => σ (zi_X_T k))) fun r2 =>
  if r2 = (0 : Int32) then
  (some ((-1 : Int32)))
  else
  (if (0 : Int32) ≤ p2 then
  (z_lp2 (lb_X9_roundAt_34 p1 p2 σ) z_Fu (0 : Int32) (0 : Int32))
  else
  (some ((-1 : Int32))))
set_option maxRecDepth 100000 in
set_option maxHeartbeats 4000000 in
theorem c_X9_roundAt (p1 : Int32) (p2 : Int32) (σ : z_S) (r : Int32) (h : f_X9_roundAt p1 p2 σ = some r) : zMet yX9_roundAt cX9_roundAt 7 (some .int) 2 43 layX 275 (fun ad => [.ref (ad 230), .int p1, .int p2]) σ (z_QI layX 275 r σ) := by
  refine z_headI RX9 (by decide) rfl (fun _ => Nat.le_of_ble_eq_true rfl) (fun E G A ad hB hret => ?_)
  show ZW E G A 7 layX 275 ad 0 [(0, .ref (ad 230)), (1, .int p1), (2, .int p2)] [] σ
  unfold f_X9_roundAt at h
  refine z_aload_n hB 0 dX9_roundAt_0 rfl rfl ?_
  refine z_getr hB 230 0 192 kX_230 (Nat.le_of_ble_eq_true rfl) vc_9 inlX9 (Nat.le_of_ble_eq_true rfl) rfl (Nat.le_of_ble_eq_true rfl) fl_X9_10 dX9_roundAt_1 ?_
  refine z_getr hB 192 7 222 kX_192 (Nat.le_of_ble_eq_true rfl) vc_6 inlX6 (Nat.le_of_ble_eq_true rfl) rfl (Nat.le_of_ble_eq_true rfl) fl_X9_190 dX9_roundAt_4 ?_
  refine z_iload_n hB 1 dX9_roundAt_7 rfl rfl ?_
  obtain ⟨r2, h1, h⟩ := z_b1E h
  refine z_cI hB (z_rV (ι := zi_X_T) hB yY_X0_has (c_X0_has _ _ _ h1) rfl cut_X_T z_hno kT_30 (Nat.le_of_ble_eq_true rfl) vc_0 rfl rfl rfl (Nat.le_of_ble_eq_true rfl) ml_X9_194 ⟨Nat.le_of_ble_eq_true rfl, Nat.le_of_ble_eq_true rfl⟩ dX9_roundAt_8) cut_X_T z_hno ?_
  refine z_toA (z_mro cut_X_T) ?_
  refine z_if_eq hB (tgt := 18) dX9_roundAt_11 (by decide) (fun c3 => ?_) (fun c3 => ?_)
  · have h := z_ifT c3 h
    refine z_iconst hB dX9_roundAt_18 zcI_m1 ?_
    exact hret _ _ _ _ (Option.some.inj h) rfl rfl dX9_roundAt_19
  · have h := z_ifF c3 h
    refine z_iload_n hB 2 dX9_roundAt_14 rfl rfl ?_
    refine z_if_ge hB (tgt := 20) dX9_roundAt_15 (by decide) (fun c4 => ?_) (fun c4 => ?_)
    · have h := z_ifT c4 h
      refine z_aload_n hB 0 dX9_roundAt_20 rfl rfl ?_
      refine z_getr hB 230 0 192 kX_230 (Nat.le_of_ble_eq_true rfl) vc_9 inlX9 (Nat.le_of_ble_eq_true rfl) rfl (Nat.le_of_ble_eq_true rfl) fl_X9_10 dX9_roundAt_21 ?_
      refine z_getr hB 192 5 203 kX_192 (Nat.le_of_ble_eq_true rfl) vc_6 inlX6 (Nat.le_of_ble_eq_true rfl) rfl (Nat.le_of_ble_eq_true rfl) fl_X9_122 dX9_roundAt_24 ?_
      refine z_astore_n hB [(3, .ref (ad 203)), (0, .ref (ad 230)), (1, .int p1), (2, .int p2)] dX9_roundAt_27 rfl (Nat.le_of_ble_eq_true rfl) rfl rfl ?_
      refine z_iconst hB dX9_roundAt_28 zcI_0 ?_
      refine z_istore hB [(4, .int ((0 : Int32))), (3, .ref (ad 203)), (0, .ref (ad 230)), (1, .int p1), (2, .int p2)] dX9_roundAt_29 (Nat.le_of_ble_eq_true rfl) rfl rfl ?_
      refine z_iconst hB dX9_roundAt_31 zcI_0 ?_
      refine z_istore hB [(5, .int ((0 : Int32))), (4, .int ((0 : Int32))), (3, .ref (ad 203)), (0, .ref (ad 230)), (1, .int p1), (2, .int p2)] dX9_roundAt_32 (Nat.le_of_ble_eq_true rfl) rfl rfl ?_
      refine z_lv [4, 5, 2, 1, 0] rfl ?_
      refine z_lpr2 (g := fun x6 x7 => ZW E G A 7 layX 275 ad 34 [(1, .int p1), (2, .int p2), (3, .ref (ad 203)), (4, .int x6), (5, .int x7)] [] σ) (fun k5 x6 x7 hk_k5 h => ?_) _ _ _ h
      show ZW E G A 7 layX 275 ad 34 [(1, .int p1), (2, .int p2), (3, .ref (ad 203)), (4, .int x6), (5, .int x7)] [] σ
      unfold lb_X9_roundAt_34 at h
      refine z_iload hB 4 dX9_roundAt_34 rfl ?_
      refine z_aload_n hB 2 dX9_roundAt_36 rfl rfl ?_
      refine z_get hB 203 0 kX_203 (Nat.le_of_ble_eq_true rfl) vc_2 inlX2 (Nat.le_of_ble_eq_true rfl) rfl fl_X9_187 dX9_roundAt_37 ?_
      refine z_icmp_ge hB (tgt := 81) dX9_roundAt_40 (by decide) (fun c8 => ?_) (fun c8 => ?_)
      · have h := z_ifT c8 h
        refine z_bipush hB dX9_roundAt_81 zcB_m4 ?_
        exact hret _ _ _ _ (Option.some.inj h) rfl rfl dX9_roundAt_83
      · have h := z_ifF c8 h
        refine z_aload_n hB 2 dX9_roundAt_43 rfl rfl ?_
        refine z_getr hB 203 14 217 kX_203 (Nat.le_of_ble_eq_true rfl) vc_2 inlX2 (Nat.le_of_ble_eq_true rfl) rfl (Nat.le_of_ble_eq_true rfl) fl_X9_229 dX9_roundAt_44 ?_
        refine z_iload hB 4 dX9_roundAt_47 rfl ?_
        obtain ⟨h9, h⟩ := z_ckiE h
        refine z_iald hB 217 24 kX_217 (Nat.le_of_ble_eq_true rfl) dX9_roundAt_49 h9 ?_
        obtain ⟨x10, ex10, h⟩ := z_letE h
        refine z_istore hB [(6, .int x10), (1, .int p1), (2, .int p2), (3, .ref (ad 203)), (4, .int x6), (5, .int x7)] dX9_roundAt_50 (Nat.le_of_ble_eq_true rfl) ex10 rfl ?_
        refine z_aload_n hB 3 dX9_roundAt_52 rfl rfl ?_
        refine z_getr hB 203 4 207 kX_203 (Nat.le_of_ble_eq_true rfl) vc_2 inlX2 (Nat.le_of_ble_eq_true rfl) rfl (Nat.le_of_ble_eq_true rfl) fl_X9_138 dX9_roundAt_53 ?_
        refine z_iload hB 0 dX9_roundAt_56 rfl ?_
        obtain ⟨h11, h⟩ := z_ckiE h
        refine z_iald hB 207 24 kX_207 (Nat.le_of_ble_eq_true rfl) dX9_roundAt_58 h11 ?_
        refine z_iload_n hB 1 dX9_roundAt_59 rfl rfl ?_
        obtain ⟨j13, ej13, h⟩ := z_letE h
        have hj13 : ∀ (y12 : Int32), j13 y12 = some r → ZW E G A 7 layX 275 ad 75 [(1, .int p1), (2, .int p2), (3, .ref (ad 203)), (4, .int y12), (5, .int x7)] [] σ := by
          intro y12 h
          rw [ej13] at h
          obtain ⟨x14, ex14, h⟩ := z_letE h
          refine z_iinc hB 4 [(5, .int x14), (1, .int p1), (2, .int p2), (3, .ref (ad 203)), (4, .int y12)] dX9_roundAt_75 rfl (by rw [zcI_1]; exact ex14) (Nat.le_of_ble_eq_true rfl) rfl ?_
          refine z_goto hB (tgt := 34) dX9_roundAt_78 (by decide) ?_
          refine z_lv [1, 2, 3, 4, 0] rfl ?_
          exact hk_k5 _ _ h
        refine z_icmp_ne hB (tgt := 75) dX9_roundAt_60 (by decide) (fun c15 => ?_) (fun c15 => ?_)
        · have h := z_ifF c15 h
          refine z_lv [1, 2, 3, 4, 5] rfl ?_
          exact hj13 _ h
        · have h := z_ifT c15 h
          refine z_iload hB 4 dX9_roundAt_63 rfl ?_
          refine z_iload_n hB 2 dX9_roundAt_65 rfl rfl ?_
          refine z_icmp_ne hB (tgt := 72) dX9_roundAt_66 (by decide) (fun c16 => ?_) (fun c16 => ?_)
          · have h := z_ifF c16 h
            obtain ⟨x17, ex17, h⟩ := z_letE h
            refine z_iinc hB 4 [(4, .int x17), (6, .int x10), (1, .int p1), (2, .int p2), (3, .ref (ad 203)), (5, .int x7)] dX9_roundAt_72 rfl (by rw [zcI_1]; exact ex17) (Nat.le_of_ble_eq_true rfl) rfl ?_
            refine z_lv [2, 3, 4, 0, 5] rfl ?_
            exact hj13 _ h
          · have h := z_ifT c16 h
            refine z_iload hB 0 dX9_roundAt_69 rfl ?_
            exact hret _ _ _ _ (Option.some.inj h) rfl rfl dX9_roundAt_71
    · have h := z_ifF c4 h
      refine z_iconst hB dX9_roundAt_18 zcI_m1 ?_
      exact hret _ _ _ _ (Option.some.inj h) rfl rfl dX9_roundAt_19
def f_X9_round (p1 : Int32) (p2 : Int32) (p3 : Int32) (σ : z_S) : Option (Int32 × z_S) :=
  z_b1 (f_X0_has p1 (fun k => σ (zi_X_T k))) fun r2 =>
  if r2 = (0 : Int32) then
  (some ((-1 : Int32), σ))
  else
  (z_b1 (f_X9_within p2 (σ 192 0) (999 : Int32) σ) fun r5 =>
  if r5 = (0 : Int32) then
  (some ((-1 : Int32), σ))
  else
  (z_b1 (f_X9_within p3 (0 : Int32) (3 : Int32) σ) fun r8 =>
  if r8 = (0 : Int32) then
  (some ((-1 : Int32), σ))
  else
  (z_b1 (f_X8_go p1 p2 (-1 : Int32) (fun k => σ (zi_X_TW k))) fun σ11 =>
  z_let (z_m σ (zk_X_TW) 40 σ11) fun σ12 =>
  if p3 = (0 : Int32) then
  (some (σ12 231 0, σ12))
  else if p3 = (1 : Int32) then
  (some (σ12 231 1, σ12))
  else if p3 = (2 : Int32) then
  (some (σ12 231 2, σ12))
  else (some (σ12 231 3, σ12)))))
set_option maxRecDepth 100000 in
set_option maxHeartbeats 4000000 in
theorem c_X9_round (p1 : Int32) (p2 : Int32) (p3 : Int32) (σ : z_S) (r : Int32) (σz : z_S) (h : f_X9_round p1 p2 p3 σ = some (r, σz)) : zMet yX9_round cX9_round 4 (some .int) 3 80 layX 275 (fun ad => [.ref (ad 230), .int p1, .int p2, .int p3]) σ (z_QI layX 275 r σz) := by
  refine z_headI RX9 (by decide) rfl (fun _ => Nat.le_of_ble_eq_true rfl) (fun E G A ad hB hret => ?_)
  show ZW E G A 4 layX 275 ad 0 [(0, .ref (ad 230)), (1, .int p1), (2, .int p2), (3, .int p3)] [] σ
  unfold f_X9_round at h
  refine z_aload_n hB 0 dX9_round_0 rfl rfl ?_
  refine z_getr hB 230 0 192 kX_230 (Nat.le_of_ble_eq_true rfl) vc_9 inlX9 (Nat.le_of_ble_eq_true rfl) rfl (Nat.le_of_ble_eq_true rfl) fl_X9_10 dX9_round_1 ?_
  refine z_getr hB 192 7 222 kX_192 (Nat.le_of_ble_eq_true rfl) vc_6 inlX6 (Nat.le_of_ble_eq_true rfl) rfl (Nat.le_of_ble_eq_true rfl) fl_X9_190 dX9_round_4 ?_
  refine z_iload_n hB 1 dX9_round_7 rfl rfl ?_
  obtain ⟨r2, h1, h⟩ := z_b1E h
  refine z_cI hB (z_rV (ι := zi_X_T) hB yY_X0_has (c_X0_has _ _ _ h1) rfl cut_X_T z_hno kT_30 (Nat.le_of_ble_eq_true rfl) vc_0 rfl rfl rfl (Nat.le_of_ble_eq_true rfl) ml_X9_194 ⟨Nat.le_of_ble_eq_true rfl, Nat.le_of_ble_eq_true rfl⟩ dX9_round_8) cut_X_T z_hno ?_
  refine z_toA (z_mro cut_X_T) ?_
  refine z_if_eq hB (tgt := 40) dX9_round_11 (by decide) (fun c3 => ?_) (fun c3 => ?_)
  · have h := z_ifT c3 h
    refine z_iconst hB dX9_round_40 zcI_m1 ?_
    obtain ⟨h1, h2⟩ := z_prE h
    exact hret _ _ _ _ h1 h2 rfl dX9_round_41
  · have h := z_ifF c3 h
    refine z_iload_n hB 2 dX9_round_14 rfl rfl ?_
    refine z_aload_n hB 0 dX9_round_15 rfl rfl ?_
    refine z_getr hB 230 0 192 kX_230 (Nat.le_of_ble_eq_true rfl) vc_9 inlX9 (Nat.le_of_ble_eq_true rfl) rfl (Nat.le_of_ble_eq_true rfl) fl_X9_10 dX9_round_16 ?_
    refine z_get hB 192 0 kX_192 (Nat.le_of_ble_eq_true rfl) vc_6 inlX6 (Nat.le_of_ble_eq_true rfl) rfl fl_X9_148 dX9_round_19 ?_
    refine z_sipush hB dX9_round_22 zcS_999 ?_
    obtain ⟨r5, h4, h⟩ := z_b1E h
    refine z_cI hB (z_rS (ι := fun k => k) hB yY_X9_within (c_X9_within _ _ _ _ _ h4) rfl z_cut0 z_hno rfl rfl rfl (Nat.le_of_ble_eq_true rfl) ml_X9_96 ⟨Nat.le_of_ble_eq_true rfl, Nat.le_of_ble_eq_true rfl⟩ dX9_round_25) z_cut0 z_hno ?_
    refine z_toA (z_mro (lay := layX) (lay' := z_lay0) (b := false) z_cut0) ?_
    refine z_if_eq hB (tgt := 40) dX9_round_28 (by decide) (fun c6 => ?_) (fun c6 => ?_)
    · have h := z_ifT c6 h
      refine z_iconst hB dX9_round_40 zcI_m1 ?_
      obtain ⟨h1, h2⟩ := z_prE h
      exact hret _ _ _ _ h1 h2 rfl dX9_round_41
    · have h := z_ifF c6 h
      refine z_iload_n hB 3 dX9_round_31 rfl rfl ?_
      refine z_iconst hB dX9_round_32 zcI_0 ?_
      refine z_iconst hB dX9_round_33 zcI_3 ?_
      obtain ⟨r8, h7, h⟩ := z_b1E h
      refine z_cI hB (z_rS (ι := fun k => k) hB yY_X9_within (c_X9_within _ _ _ _ _ h7) rfl z_cut0 z_hno rfl rfl rfl (Nat.le_of_ble_eq_true rfl) ml_X9_96 ⟨Nat.le_of_ble_eq_true rfl, Nat.le_of_ble_eq_true rfl⟩ dX9_round_34) z_cut0 z_hno ?_
      refine z_toA (z_mro (lay := layX) (lay' := z_lay0) (b := false) z_cut0) ?_
      refine z_if_ne hB (tgt := 42) dX9_round_37 (by decide) (fun c9 => ?_) (fun c9 => ?_)
      · have h := z_ifF c9 h
        refine z_aload_n hB 0 dX9_round_42 rfl rfl ?_
        refine z_getr hB 230 2 231 kX_230 (Nat.le_of_ble_eq_true rfl) vc_9 inlX9 (Nat.le_of_ble_eq_true rfl) rfl (Nat.le_of_ble_eq_true rfl) fl_X9_26 dX9_round_43 ?_
        refine z_aload_n hB 0 dX9_round_46 rfl rfl ?_
        refine z_getr hB 230 0 192 kX_230 (Nat.le_of_ble_eq_true rfl) vc_9 inlX9 (Nat.le_of_ble_eq_true rfl) rfl (Nat.le_of_ble_eq_true rfl) fl_X9_10 dX9_round_47 ?_
        refine z_iload_n hB 1 dX9_round_50 rfl rfl ?_
        refine z_iload_n hB 2 dX9_round_51 rfl rfl ?_
        refine z_iconst hB dX9_round_52 zcI_m1 ?_
        obtain ⟨σ11, h10, h⟩ := z_b1E h
        refine z_cV hB (z_rV (ι := zi_X_TW) hB yY_X8_go (c_X8_go _ _ _ _ _ h10) rfl cut_X_TW z_hno kTW_38 (Nat.le_of_ble_eq_true rfl) vc_8 rfl rfl rfl (Nat.le_of_ble_eq_true rfl) ml_X9_232 ⟨Nat.le_of_ble_eq_true rfl, Nat.le_of_ble_eq_true rfl⟩ dX9_round_53) cut_X_TW z_hno ?_
        obtain ⟨σ12, eσ12, h⟩ := z_letE h
        refine z_to eσ12 ?_
        refine z_iload_n hB 3 dX9_round_56 rfl rfl ?_
        by_cases c13 : p3 = (0 : Int32)
        · have h := z_ifT c13 h
          refine z_tableIn hB (tgt := 84) dX9_round_57 c13 (by decide) (by decide) rfl (by decide) ?_
          refine z_aload_n hB 0 dX9_round_84 rfl rfl ?_
          refine z_getr hB 230 2 231 kX_230 (Nat.le_of_ble_eq_true rfl) vc_9 inlX9 (Nat.le_of_ble_eq_true rfl) rfl (Nat.le_of_ble_eq_true rfl) fl_X9_26 dX9_round_85 ?_
          refine z_get hB 231 0 kX_231 (Nat.le_of_ble_eq_true rfl) vc_8 inlX8 (Nat.le_of_ble_eq_true rfl) rfl fl_X9_236 dX9_round_88 ?_
          obtain ⟨h1, h2⟩ := z_prE h
          exact hret _ _ _ _ h1 h2 rfl dX9_round_91
        have h := z_ifF c13 h
        by_cases c14 : p3 = (1 : Int32)
        · have h := z_ifT c14 h
          refine z_tableIn hB (tgt := 92) dX9_round_57 c14 (by decide) (by decide) rfl (by decide) ?_
          refine z_aload_n hB 0 dX9_round_92 rfl rfl ?_
          refine z_getr hB 230 2 231 kX_230 (Nat.le_of_ble_eq_true rfl) vc_9 inlX9 (Nat.le_of_ble_eq_true rfl) rfl (Nat.le_of_ble_eq_true rfl) fl_X9_26 dX9_round_93 ?_
          refine z_get hB 231 1 kX_231 (Nat.le_of_ble_eq_true rfl) vc_8 inlX8 (Nat.le_of_ble_eq_true rfl) rfl fl_X9_238 dX9_round_96 ?_
          obtain ⟨h1, h2⟩ := z_prE h
          exact hret _ _ _ _ h1 h2 rfl dX9_round_99
        have h := z_ifF c14 h
        by_cases c15 : p3 = (2 : Int32)
        · have h := z_ifT c15 h
          refine z_tableIn hB (tgt := 100) dX9_round_57 c15 (by decide) (by decide) rfl (by decide) ?_
          refine z_aload_n hB 0 dX9_round_100 rfl rfl ?_
          refine z_getr hB 230 2 231 kX_230 (Nat.le_of_ble_eq_true rfl) vc_9 inlX9 (Nat.le_of_ble_eq_true rfl) rfl (Nat.le_of_ble_eq_true rfl) fl_X9_26 dX9_round_101 ?_
          refine z_get hB 231 2 kX_231 (Nat.le_of_ble_eq_true rfl) vc_8 inlX8 (Nat.le_of_ble_eq_true rfl) rfl fl_X9_240 dX9_round_104 ?_
          obtain ⟨h1, h2⟩ := z_prE h
          exact hret _ _ _ _ h1 h2 rfl dX9_round_107
        have h := z_ifF c15 h
        refine z_tableOut hB (tgt := 108) dX9_round_57 (z_tsE (z_ts ((z_ts ((z_ts (z_ts0 p3 0) c13 rfl)) c14 rfl)) c15 rfl) (by decide)) (by decide) ?_
        refine z_aload_n hB 0 dX9_round_108 rfl rfl ?_
        refine z_getr hB 230 2 231 kX_230 (Nat.le_of_ble_eq_true rfl) vc_9 inlX9 (Nat.le_of_ble_eq_true rfl) rfl (Nat.le_of_ble_eq_true rfl) fl_X9_26 dX9_round_109 ?_
        refine z_get hB 231 3 kX_231 (Nat.le_of_ble_eq_true rfl) vc_8 inlX8 (Nat.le_of_ble_eq_true rfl) rfl fl_X9_242 dX9_round_112 ?_
        obtain ⟨h1, h2⟩ := z_prE h
        exact hret _ _ _ _ h1 h2 rfl dX9_round_115
      · have h := z_ifT c9 h
        refine z_iconst hB dX9_round_40 zcI_m1 ?_
        obtain ⟨h1, h2⟩ := z_prE h
        exact hret _ _ _ _ h1 h2 rfl dX9_round_41
def lb_X9_lightest_42 (p1 : Int32) (p2 : Int32) (k7 : Int32 → Int32 → Int32 → z_S → Option (Int32 × z_S)) (x8 : Int32) (x9 : Int32) (x10 : Int32) (σ11 : z_S) : Option (Int32 × z_S) :=
  if (σ11 222 0) ≤ x10 then
  (some (x8, σ11))
  else
  (z_cki p1 24 <|
  z_let (fun (y14 : Int32) (y15 : Int32) (σ16 : z_S) => z_let (x10 + (1 : Int32)) fun x18 =>
  k7 y14 y15 x18 σ16) fun j17 =>
  if x10 = (σ11 207 p1.toNatClampNeg) then
  (j17 x8 x9 σ11)
  else
  (z_b1 (f_X6_canReach x10 p1 (fun k => σ11 (zi_X_T k))) fun r21 =>
  if r21 = (0 : Int32) then
  (j17 x8 x9 σ11)
  else
  (z_b2 (f_X8_moreEffort x10 p2 p1 (fun k => σ11 (zi_X_TW k))) fun r25 σ24 =>
  z_let (z_m σ11 (zk_X_TW) 40 σ24) fun σ26 =>
  z_let (fun (_ : Unit) => j17 x10 r25 σ26) fun j27 =>
  if x8 = (-4 : Int32) then
  (j27 ())
  else
  (if x9 ≤ r25 then
  (j17 x8 x9 σ26)
  else
  (j27 ())))))
def f_X9_lightest (p1 : Int32) (p2 : Int32) (σ : z_S) : Option (Int32 × z_S) :=
  z_b1 (f_X2_has p1 (fun k => σ (zi_X_T k))) fun r2 =>
  if r2 = (0 : Int32) then
  (some ((-1 : Int32), σ))
  else
  (z_b1 (f_X9_within p2 (σ 192 0) (999 : Int32) σ) fun r5 =>
  if r5 = (0 : Int32) then
  (some ((-1 : Int32), σ))
  else
  (z_lp4 (lb_X9_lightest_42 p1 p2) z_Fu (-4 : Int32) (0 : Int32) (0 : Int32) σ))
set_option maxRecDepth 100000 in
set_option maxHeartbeats 4000000 in
theorem c_X9_lightest (p1 : Int32) (p2 : Int32) (σ : z_S) (r : Int32) (σz : z_S) (h : f_X9_lightest p1 p2 σ = some (r, σz)) : zMet yX9_lightest cX9_lightest 7 (some .int) 4 105 layX 275 (fun ad => [.ref (ad 230), .int p1, .int p2]) σ (z_QI layX 275 r σz) := by
  refine z_headI RX9 (by decide) rfl (fun _ => Nat.le_of_ble_eq_true rfl) (fun E G A ad hB hret => ?_)
  show ZW E G A 7 layX 275 ad 0 [(0, .ref (ad 230)), (1, .int p1), (2, .int p2)] [] σ
  unfold f_X9_lightest at h
  refine z_aload_n hB 0 dX9_lightest_0 rfl rfl ?_
  refine z_getr hB 230 0 192 kX_230 (Nat.le_of_ble_eq_true rfl) vc_9 inlX9 (Nat.le_of_ble_eq_true rfl) rfl (Nat.le_of_ble_eq_true rfl) fl_X9_10 dX9_lightest_1 ?_
  refine z_getr hB 192 5 203 kX_192 (Nat.le_of_ble_eq_true rfl) vc_6 inlX6 (Nat.le_of_ble_eq_true rfl) rfl (Nat.le_of_ble_eq_true rfl) fl_X9_122 dX9_lightest_4 ?_
  refine z_iload_n hB 1 dX9_lightest_7 rfl rfl ?_
  obtain ⟨r2, h1, h⟩ := z_b1E h
  refine z_cI hB (z_rV (ι := zi_X_T) hB yY_X2_has (c_X2_has _ _ _ h1) rfl cut_X_T z_hno kT_11 (Nat.le_of_ble_eq_true rfl) vc_2 rfl rfl rfl (Nat.le_of_ble_eq_true rfl) ml_X9_126 ⟨Nat.le_of_ble_eq_true rfl, Nat.le_of_ble_eq_true rfl⟩ dX9_lightest_8) cut_X_T z_hno ?_
  refine z_toA (z_mro cut_X_T) ?_
  refine z_if_eq hB (tgt := 31) dX9_lightest_11 (by decide) (fun c3 => ?_) (fun c3 => ?_)
  · have h := z_ifT c3 h
    refine z_iconst hB dX9_lightest_31 zcI_m1 ?_
    obtain ⟨h1, h2⟩ := z_prE h
    exact hret _ _ _ _ h1 h2 rfl dX9_lightest_32
  · have h := z_ifF c3 h
    refine z_iload_n hB 2 dX9_lightest_14 rfl rfl ?_
    refine z_aload_n hB 0 dX9_lightest_15 rfl rfl ?_
    refine z_getr hB 230 0 192 kX_230 (Nat.le_of_ble_eq_true rfl) vc_9 inlX9 (Nat.le_of_ble_eq_true rfl) rfl (Nat.le_of_ble_eq_true rfl) fl_X9_10 dX9_lightest_16 ?_
    refine z_get hB 192 0 kX_192 (Nat.le_of_ble_eq_true rfl) vc_6 inlX6 (Nat.le_of_ble_eq_true rfl) rfl fl_X9_148 dX9_lightest_19 ?_
    refine z_sipush hB dX9_lightest_22 zcS_999 ?_
    obtain ⟨r5, h4, h⟩ := z_b1E h
    refine z_cI hB (z_rS (ι := fun k => k) hB yY_X9_within (c_X9_within _ _ _ _ _ h4) rfl z_cut0 z_hno rfl rfl rfl (Nat.le_of_ble_eq_true rfl) ml_X9_96 ⟨Nat.le_of_ble_eq_true rfl, Nat.le_of_ble_eq_true rfl⟩ dX9_lightest_25) z_cut0 z_hno ?_
    refine z_toA (z_mro (lay := layX) (lay' := z_lay0) (b := false) z_cut0) ?_
    refine z_if_ne hB (tgt := 33) dX9_lightest_28 (by decide) (fun c6 => ?_) (fun c6 => ?_)
    · have h := z_ifF c6 h
      refine z_bipush hB dX9_lightest_33 zcB_m4 ?_
      refine z_istore_n hB [(3, .int ((-4 : Int32))), (0, .ref (ad 230)), (1, .int p1), (2, .int p2)] dX9_lightest_35 rfl (Nat.le_of_ble_eq_true rfl) rfl rfl ?_
      refine z_iconst hB dX9_lightest_36 zcI_0 ?_
      refine z_istore hB [(4, .int ((0 : Int32))), (3, .int ((-4 : Int32))), (0, .ref (ad 230)), (1, .int p1), (2, .int p2)] dX9_lightest_37 (Nat.le_of_ble_eq_true rfl) rfl rfl ?_
      refine z_iconst hB dX9_lightest_39 zcI_0 ?_
      refine z_istore hB [(5, .int ((0 : Int32))), (4, .int ((0 : Int32))), (3, .int ((-4 : Int32))), (0, .ref (ad 230)), (1, .int p1), (2, .int p2)] dX9_lightest_40 (Nat.le_of_ble_eq_true rfl) rfl rfl ?_
      refine z_lv [3, 4, 5, 2, 1, 0] rfl ?_
      refine z_lpr4 (g := fun x8 x9 x10 σ11 => ZW E G A 7 layX 275 ad 42 [(0, .ref (ad 230)), (1, .int p1), (2, .int p2), (3, .int x8), (4, .int x9), (5, .int x10)] [] σ11) (fun k7 x8 x9 x10 σ11 hk_k7 h => ?_) _ _ _ _ _ h
      show ZW E G A 7 layX 275 ad 42 [(0, .ref (ad 230)), (1, .int p1), (2, .int p2), (3, .int x8), (4, .int x9), (5, .int x10)] [] σ11
      unfold lb_X9_lightest_42 at h
      refine z_iload hB 5 dX9_lightest_42 rfl ?_
      refine z_aload_n hB 0 dX9_lightest_44 rfl rfl ?_
      refine z_getr hB 230 0 192 kX_230 (Nat.le_of_ble_eq_true rfl) vc_9 inlX9 (Nat.le_of_ble_eq_true rfl) rfl (Nat.le_of_ble_eq_true rfl) fl_X9_10 dX9_lightest_45 ?_
      refine z_getr hB 192 7 222 kX_192 (Nat.le_of_ble_eq_true rfl) vc_6 inlX6 (Nat.le_of_ble_eq_true rfl) rfl (Nat.le_of_ble_eq_true rfl) fl_X9_190 dX9_lightest_48 ?_
      refine z_get hB 222 0 kX_222 (Nat.le_of_ble_eq_true rfl) vc_0 inlX0 (Nat.le_of_ble_eq_true rfl) rfl fl_X9_245 dX9_lightest_51 ?_
      refine z_icmp_ge hB (tgt := 130) dX9_lightest_54 (by decide) (fun c12 => ?_) (fun c12 => ?_)
      · have h := z_ifT c12 h
        refine z_iload_n hB 3 dX9_lightest_130 rfl rfl ?_
        obtain ⟨h1, h2⟩ := z_prE h
        exact hret _ _ _ _ h1 h2 rfl dX9_lightest_131
      · have h := z_ifF c12 h
        refine z_iload hB 5 dX9_lightest_57 rfl ?_
        refine z_aload_n hB 0 dX9_lightest_59 rfl rfl ?_
        refine z_getr hB 230 0 192 kX_230 (Nat.le_of_ble_eq_true rfl) vc_9 inlX9 (Nat.le_of_ble_eq_true rfl) rfl (Nat.le_of_ble_eq_true rfl) fl_X9_10 dX9_lightest_60 ?_
        refine z_getr hB 192 5 203 kX_192 (Nat.le_of_ble_eq_true rfl) vc_6 inlX6 (Nat.le_of_ble_eq_true rfl) rfl (Nat.le_of_ble_eq_true rfl) fl_X9_122 dX9_lightest_63 ?_
        refine z_getr hB 203 4 207 kX_203 (Nat.le_of_ble_eq_true rfl) vc_2 inlX2 (Nat.le_of_ble_eq_true rfl) rfl (Nat.le_of_ble_eq_true rfl) fl_X9_138 dX9_lightest_66 ?_
        refine z_iload_n hB 1 dX9_lightest_69 rfl rfl ?_
        obtain ⟨h13, h⟩ := z_ckiE h
        refine z_iald hB 207 24 kX_207 (Nat.le_of_ble_eq_true rfl) dX9_lightest_70 h13 ?_
        obtain ⟨j17, ej17, h⟩ := z_letE h
        have hj17 : ∀ (y14 : Int32) (y15 : Int32) (σ16 : z_S), j17 y14 y15 σ16 = some (r, σz) → ZW E G A 7 layX 275 ad 124 [(0, .ref (ad 230)), (1, .int p1), (2, .int p2), (3, .int y14), (4, .int y15), (5, .int x10)] [] σ16 := by
          intro y14 y15 σ16 h
          rw [ej17] at h
          obtain ⟨x18, ex18, h⟩ := z_letE h
          refine z_iinc hB 5 [(5, .int x18), (0, .ref (ad 230)), (1, .int p1), (2, .int p2), (3, .int y14), (4, .int y15)] dX9_lightest_124 rfl (by rw [zcI_1]; exact ex18) (Nat.le_of_ble_eq_true rfl) rfl ?_
          refine z_goto hB (tgt := 42) dX9_lightest_127 (by decide) ?_
          refine z_lv [1, 2, 3, 4, 5, 0] rfl ?_
          exact hk_k7 _ _ _ _ h
        refine z_icmp_eq hB (tgt := 124) dX9_lightest_71 (by decide) (fun c19 => ?_) (fun c19 => ?_)
        · have h := z_ifT c19 h
          exact hj17 _ _ _ h
        · have h := z_ifF c19 h
          refine z_aload_n hB 0 dX9_lightest_74 rfl rfl ?_
          refine z_getr hB 230 0 192 kX_230 (Nat.le_of_ble_eq_true rfl) vc_9 inlX9 (Nat.le_of_ble_eq_true rfl) rfl (Nat.le_of_ble_eq_true rfl) fl_X9_10 dX9_lightest_75 ?_
          refine z_iload hB 5 dX9_lightest_78 rfl ?_
          refine z_iload_n hB 1 dX9_lightest_80 rfl rfl ?_
          obtain ⟨r21, h20, h⟩ := z_b1E h
          refine z_cI hB (z_rV (ι := zi_X_T) hB yY_X6_canReach (c_X6_canReach _ _ _ _ h20) rfl cut_X_T z_hno kT_0 (Nat.le_of_ble_eq_true rfl) vc_6 rfl rfl rfl (Nat.le_of_ble_eq_true rfl) ml_X9_246 ⟨Nat.le_of_ble_eq_true rfl, Nat.le_of_ble_eq_true rfl⟩ dX9_lightest_81) cut_X_T z_hno ?_
          refine z_toA (z_mro cut_X_T) ?_
          refine z_if_eq hB (tgt := 124) dX9_lightest_84 (by decide) (fun c22 => ?_) (fun c22 => ?_)
          · have h := z_ifT c22 h
            exact hj17 _ _ _ h
          · have h := z_ifF c22 h
            refine z_aload_n hB 0 dX9_lightest_87 rfl rfl ?_
            refine z_getr hB 230 2 231 kX_230 (Nat.le_of_ble_eq_true rfl) vc_9 inlX9 (Nat.le_of_ble_eq_true rfl) rfl (Nat.le_of_ble_eq_true rfl) fl_X9_26 dX9_lightest_88 ?_
            refine z_aload_n hB 0 dX9_lightest_91 rfl rfl ?_
            refine z_getr hB 230 0 192 kX_230 (Nat.le_of_ble_eq_true rfl) vc_9 inlX9 (Nat.le_of_ble_eq_true rfl) rfl (Nat.le_of_ble_eq_true rfl) fl_X9_10 dX9_lightest_92 ?_
            refine z_iload hB 5 dX9_lightest_95 rfl ?_
            refine z_iload_n hB 2 dX9_lightest_97 rfl rfl ?_
            refine z_iload_n hB 1 dX9_lightest_98 rfl rfl ?_
            obtain ⟨r25, σ24, h23, h⟩ := z_b2E h
            refine z_cI hB (z_rV (ι := zi_X_TW) hB yY_X8_moreEffort (c_X8_moreEffort _ _ _ _ _ _ h23) rfl cut_X_TW z_hno kTW_38 (Nat.le_of_ble_eq_true rfl) vc_8 rfl rfl rfl (Nat.le_of_ble_eq_true rfl) ml_X9_249 ⟨Nat.le_of_ble_eq_true rfl, Nat.le_of_ble_eq_true rfl⟩ dX9_lightest_99) cut_X_TW z_hno ?_
            obtain ⟨σ26, eσ26, h⟩ := z_letE h
            refine z_to eσ26 ?_
            refine z_istore hB [(6, .int r25), (0, .ref (ad 230)), (1, .int p1), (2, .int p2), (3, .int x8), (4, .int x9), (5, .int x10)] dX9_lightest_102 (Nat.le_of_ble_eq_true rfl) rfl rfl ?_
            refine z_iload_n hB 4 dX9_lightest_104 rfl rfl ?_
            refine z_bipush hB dX9_lightest_105 zcB_m4 ?_
            obtain ⟨j27, ej27, h⟩ := z_letE h
            have hj27 : ∀ (_ : Unit), j27 () = some (r, σz) → ZW E G A 7 layX 275 ad 117 [(0, .ref (ad 230)), (1, .int p1), (2, .int p2), (5, .int x10), (6, .int r25)] [] σ26 := by
              intro _ h
              rw [ej27] at h
              refine z_iload hB 3 dX9_lightest_117 rfl ?_
              refine z_istore_n hB [(3, .int x10), (0, .ref (ad 230)), (1, .int p1), (2, .int p2), (5, .int x10), (6, .int r25)] dX9_lightest_119 rfl (Nat.le_of_ble_eq_true rfl) rfl rfl ?_
              refine z_iload hB 5 dX9_lightest_120 rfl ?_
              refine z_istore hB [(4, .int r25), (3, .int x10), (0, .ref (ad 230)), (1, .int p1), (2, .int p2), (5, .int x10), (6, .int r25)] dX9_lightest_122 (Nat.le_of_ble_eq_true rfl) rfl rfl ?_
              refine z_lv [2, 3, 4, 1, 0, 5] rfl ?_
              exact hj17 _ _ _ h
            refine z_icmp_eq hB (tgt := 117) dX9_lightest_107 (by decide) (fun c28 => ?_) (fun c28 => ?_)
            · have h := z_ifT c28 h
              refine z_lv [1, 2, 3, 6, 0] rfl ?_
              exact hj27 () h
            · have h := z_ifF c28 h
              refine z_iload hB 0 dX9_lightest_110 rfl ?_
              refine z_iload hB 5 dX9_lightest_112 rfl ?_
              refine z_icmp_ge hB (tgt := 124) dX9_lightest_114 (by decide) (fun c29 => ?_) (fun c29 => ?_)
              · have h := z_ifT c29 h
                refine z_lv [1, 2, 3, 4, 5, 6] rfl ?_
                exact hj17 _ _ _ h
              · have h := z_ifF c29 h
                refine z_lv [1, 2, 3, 6, 0] rfl ?_
                exact hj27 () h
    · have h := z_ifT c6 h
      refine z_iconst hB dX9_lightest_31 zcI_m1 ?_
      obtain ⟨h1, h2⟩ := z_prE h
      exact hret _ _ _ _ h1 h2 rfl dX9_lightest_32
def lb_X9_nextDog_24 (p1 : Int32) (σ : z_S) (k5 : Int32 → Option Int32) (x6 : Int32) : Option Int32 :=
  if (999 : Int32) < x6 then
  (some ((-4 : Int32)))
  else
  (z_b1 (f_X2_dogIsOut p1 x6 (fun k => σ (zi_X_T k))) fun r9 =>
  z_let (fun (_ : Unit) => z_let (x6 + (1 : Int32)) fun x11 =>
  k5 x11) fun j10 =>
  if r9 = (0 : Int32) then
  (j10 ())
  else
  (z_b1 (f_X3_cover p1 x6 (fun k => σ (zi_X_T k))) fun r14 =>
  if r14 = (0 : Int32) then
  (some (x6))
  else
  (j10 ())))
def f_X9_nextDog (p1 : Int32) (σ : z_S) : Option Int32 :=
  z_b1 (f_X2_has p1 (fun k => σ (zi_X_T k))) fun r2 =>
  if r2 = (0 : Int32) then
  (some ((-1 : Int32)))
  else
  (z_let (σ 192 0) fun x4 =>
  z_lp1 (lb_X9_nextDog_24 p1 σ) z_Fu x4)
set_option maxRecDepth 100000 in
set_option maxHeartbeats 4000000 in
theorem c_X9_nextDog (p1 : Int32) (σ : z_S) (r : Int32) (h : f_X9_nextDog p1 σ = some r) : zMet yX9_nextDog cX9_nextDog 3 (some .int) 2 43 layX 275 (fun ad => [.ref (ad 230), .int p1]) σ (z_QI layX 275 r σ) := by
  refine z_headI RX9 (by decide) rfl (fun _ => Nat.le_of_ble_eq_true rfl) (fun E G A ad hB hret => ?_)
  show ZW E G A 3 layX 275 ad 0 [(0, .ref (ad 230)), (1, .int p1)] [] σ
  unfold f_X9_nextDog at h
  refine z_aload_n hB 0 dX9_nextDog_0 rfl rfl ?_
  refine z_getr hB 230 0 192 kX_230 (Nat.le_of_ble_eq_true rfl) vc_9 inlX9 (Nat.le_of_ble_eq_true rfl) rfl (Nat.le_of_ble_eq_true rfl) fl_X9_10 dX9_nextDog_1 ?_
  refine z_getr hB 192 5 203 kX_192 (Nat.le_of_ble_eq_true rfl) vc_6 inlX6 (Nat.le_of_ble_eq_true rfl) rfl (Nat.le_of_ble_eq_true rfl) fl_X9_122 dX9_nextDog_4 ?_
  refine z_iload_n hB 1 dX9_nextDog_7 rfl rfl ?_
  obtain ⟨r2, h1, h⟩ := z_b1E h
  refine z_cI hB (z_rV (ι := zi_X_T) hB yY_X2_has (c_X2_has _ _ _ h1) rfl cut_X_T z_hno kT_11 (Nat.le_of_ble_eq_true rfl) vc_2 rfl rfl rfl (Nat.le_of_ble_eq_true rfl) ml_X9_126 ⟨Nat.le_of_ble_eq_true rfl, Nat.le_of_ble_eq_true rfl⟩ dX9_nextDog_8) cut_X_T z_hno ?_
  refine z_toA (z_mro cut_X_T) ?_
  refine z_if_ne hB (tgt := 16) dX9_nextDog_11 (by decide) (fun c3 => ?_) (fun c3 => ?_)
  · have h := z_ifF c3 h
    refine z_aload_n hB 0 dX9_nextDog_16 rfl rfl ?_
    refine z_getr hB 230 0 192 kX_230 (Nat.le_of_ble_eq_true rfl) vc_9 inlX9 (Nat.le_of_ble_eq_true rfl) rfl (Nat.le_of_ble_eq_true rfl) fl_X9_10 dX9_nextDog_17 ?_
    refine z_get hB 192 0 kX_192 (Nat.le_of_ble_eq_true rfl) vc_6 inlX6 (Nat.le_of_ble_eq_true rfl) rfl fl_X9_148 dX9_nextDog_20 ?_
    obtain ⟨x4, ex4, h⟩ := z_letE h
    refine z_istore_n hB [(2, .int x4), (0, .ref (ad 230)), (1, .int p1)] dX9_nextDog_23 rfl (Nat.le_of_ble_eq_true rfl) ex4 rfl ?_
    refine z_lv [1, 2, 0] rfl ?_
    refine z_lpr1 (g := fun x6 => ZW E G A 3 layX 275 ad 24 [(0, .ref (ad 230)), (1, .int p1), (2, .int x6)] [] σ) (fun k5 x6 hk_k5 h => ?_) _ _ h
    show ZW E G A 3 layX 275 ad 24 [(0, .ref (ad 230)), (1, .int p1), (2, .int x6)] [] σ
    unfold lb_X9_nextDog_24 at h
    refine z_iload_n hB 2 dX9_nextDog_24 rfl rfl ?_
    refine z_sipush hB dX9_nextDog_25 zcS_999 ?_
    refine z_icmp_gt hB (tgt := 69) dX9_nextDog_28 (by decide) (fun c7 => ?_) (fun c7 => ?_)
    · have h := z_ifT c7 h
      refine z_bipush hB dX9_nextDog_69 zcB_m4 ?_
      exact hret _ _ _ _ (Option.some.inj h) rfl rfl dX9_nextDog_71
    · have h := z_ifF c7 h
      refine z_aload_n hB 0 dX9_nextDog_31 rfl rfl ?_
      refine z_getr hB 230 0 192 kX_230 (Nat.le_of_ble_eq_true rfl) vc_9 inlX9 (Nat.le_of_ble_eq_true rfl) rfl (Nat.le_of_ble_eq_true rfl) fl_X9_10 dX9_nextDog_32 ?_
      refine z_getr hB 192 5 203 kX_192 (Nat.le_of_ble_eq_true rfl) vc_6 inlX6 (Nat.le_of_ble_eq_true rfl) rfl (Nat.le_of_ble_eq_true rfl) fl_X9_122 dX9_nextDog_35 ?_
      refine z_iload_n hB 1 dX9_nextDog_38 rfl rfl ?_
      refine z_iload_n hB 2 dX9_nextDog_39 rfl rfl ?_
      obtain ⟨r9, h8, h⟩ := z_b1E h
      refine z_cI hB (z_rV (ι := zi_X_T) hB yY_X2_dogIsOut (c_X2_dogIsOut _ _ _ _ h8) rfl cut_X_T z_hno kT_11 (Nat.le_of_ble_eq_true rfl) vc_2 rfl rfl rfl (Nat.le_of_ble_eq_true rfl) ml_X9_253 ⟨Nat.le_of_ble_eq_true rfl, Nat.le_of_ble_eq_true rfl⟩ dX9_nextDog_40) cut_X_T z_hno ?_
      refine z_toA (z_mro cut_X_T) ?_
      obtain ⟨j10, ej10, h⟩ := z_letE h
      have hj10 : ∀ (_ : Unit), j10 () = some r → ZW E G A 3 layX 275 ad 63 [(0, .ref (ad 230)), (1, .int p1), (2, .int x6)] [] σ := by
        intro _ h
        rw [ej10] at h
        obtain ⟨x11, ex11, h⟩ := z_letE h
        refine z_iinc hB 2 [(2, .int x11), (0, .ref (ad 230)), (1, .int p1)] dX9_nextDog_63 rfl (by rw [zcI_1]; exact ex11) (Nat.le_of_ble_eq_true rfl) rfl ?_
        refine z_goto hB (tgt := 24) dX9_nextDog_66 (by decide) ?_
        refine z_lv [1, 2, 0] rfl ?_
        exact hk_k5 _ h
      refine z_if_eq hB (tgt := 63) dX9_nextDog_43 (by decide) (fun c12 => ?_) (fun c12 => ?_)
      · have h := z_ifT c12 h
        exact hj10 () h
      · have h := z_ifF c12 h
        refine z_aload_n hB 0 dX9_nextDog_46 rfl rfl ?_
        refine z_getr hB 230 0 192 kX_230 (Nat.le_of_ble_eq_true rfl) vc_9 inlX9 (Nat.le_of_ble_eq_true rfl) rfl (Nat.le_of_ble_eq_true rfl) fl_X9_10 dX9_nextDog_47 ?_
        refine z_getr hB 192 6 218 kX_192 (Nat.le_of_ble_eq_true rfl) vc_6 inlX6 (Nat.le_of_ble_eq_true rfl) rfl (Nat.le_of_ble_eq_true rfl) fl_X9_144 dX9_nextDog_50 ?_
        refine z_iload_n hB 1 dX9_nextDog_53 rfl rfl ?_
        refine z_iload_n hB 2 dX9_nextDog_54 rfl rfl ?_
        obtain ⟨r14, h13, h⟩ := z_b1E h
        refine z_cI hB (z_rV (ι := zi_X_T) hB yY_X3_cover (c_X3_cover _ _ _ _ h13) rfl cut_X_T z_hno kT_26 (Nat.le_of_ble_eq_true rfl) vc_3 rfl rfl rfl (Nat.le_of_ble_eq_true rfl) ml_X9_152 ⟨Nat.le_of_ble_eq_true rfl, Nat.le_of_ble_eq_true rfl⟩ dX9_nextDog_55) cut_X_T z_hno ?_
        refine z_toA (z_mro cut_X_T) ?_
        refine z_if_ne hB (tgt := 63) dX9_nextDog_58 (by decide) (fun c15 => ?_) (fun c15 => ?_)
        · have h := z_ifF c15 h
          exact hj10 () h
        · have h := z_ifT c15 h
          refine z_iload_n hB 2 dX9_nextDog_61 rfl rfl ?_
          exact hret _ _ _ _ (Option.some.inj h) rfl rfl dX9_nextDog_62
  · have h := z_ifT c3 h
    refine z_iconst hB dX9_nextDog_14 zcI_m1 ?_
    exact hret _ _ _ _ (Option.some.inj h) rfl rfl dX9_nextDog_15
def f_X9_account (p1 : Int32) (σ : z_S) : Option Int32 :=
  z_b1 (f_X9_within p1 (0 : Int32) (5 : Int32) σ) fun r2 =>
  if r2 = (0 : Int32) then
  (some ((-1 : Int32)))
  else
  (z_cki p1 6 <|
  some (σ 193 p1.toNatClampNeg))
set_option maxRecDepth 100000 in
set_option maxHeartbeats 4000000 in
theorem c_X9_account (p1 : Int32) (σ : z_S) (r : Int32) (h : f_X9_account p1 σ = some r) : zMet yX9_account cX9_account 2 (some .int) 1 22 layX 275 (fun ad => [.ref (ad 230), .int p1]) σ (z_QI layX 275 r σ) := by
  refine z_headI RX9 (by decide) rfl (fun _ => Nat.le_of_ble_eq_true rfl) (fun E G A ad hB hret => ?_)
  show ZW E G A 2 layX 275 ad 0 [(0, .ref (ad 230)), (1, .int p1)] [] σ
  unfold f_X9_account at h
  refine z_iload_n hB 1 dX9_account_0 rfl rfl ?_
  refine z_iconst hB dX9_account_1 zcI_0 ?_
  refine z_iconst hB dX9_account_2 zcI_5 ?_
  obtain ⟨r2, h1, h⟩ := z_b1E h
  refine z_cI hB (z_rS (ι := fun k => k) hB yY_X9_within (c_X9_within _ _ _ _ _ h1) rfl z_cut0 z_hno rfl rfl rfl (Nat.le_of_ble_eq_true rfl) ml_X9_96 ⟨Nat.le_of_ble_eq_true rfl, Nat.le_of_ble_eq_true rfl⟩ dX9_account_3) z_cut0 z_hno ?_
  refine z_toA (z_mro (lay := layX) (lay' := z_lay0) (b := false) z_cut0) ?_
  refine z_if_ne hB (tgt := 11) dX9_account_6 (by decide) (fun c3 => ?_) (fun c3 => ?_)
  · have h := z_ifF c3 h
    refine z_aload_n hB 0 dX9_account_11 rfl rfl ?_
    refine z_getr hB 230 0 192 kX_230 (Nat.le_of_ble_eq_true rfl) vc_9 inlX9 (Nat.le_of_ble_eq_true rfl) rfl (Nat.le_of_ble_eq_true rfl) fl_X9_10 dX9_account_12 ?_
    refine z_getr hB 192 3 193 kX_192 (Nat.le_of_ble_eq_true rfl) vc_6 inlX6 (Nat.le_of_ble_eq_true rfl) rfl (Nat.le_of_ble_eq_true rfl) fl_X9_256 dX9_account_15 ?_
    refine z_iload_n hB 1 dX9_account_18 rfl rfl ?_
    obtain ⟨h4, h⟩ := z_ckiE h
    refine z_iald hB 193 6 kX_193 (Nat.le_of_ble_eq_true rfl) dX9_account_19 h4 ?_
    exact hret _ _ _ _ (Option.some.inj h) rfl rfl dX9_account_20
  · have h := z_ifT c3 h
    refine z_iconst hB dX9_account_9 zcI_m1 ?_
    exact hret _ _ _ _ (Option.some.inj h) rfl rfl dX9_account_10
def f_X9_count (p1 : Int32) (σ : z_S) : Option Int32 :=
  if p1 = (0 : Int32) then
  (some (σ 194 0))
  else if p1 = (1 : Int32) then
  (some (σ 203 0))
  else if p1 = (2 : Int32) then
  (some (σ 222 0))
  else if p1 = (3 : Int32) then
  (some (σ 218 0))
  else if p1 = (4 : Int32) then
  (some (σ 192 0))
  else if p1 = (5 : Int32) then
  (z_b1 (f_X2_manyOf (-1 : Int32) (fun k => σ (zi_X_T k))) fun r8 =>
  some (r8))
  else if p1 = (6 : Int32) then
  (z_b1 (f_X6_housesPaused (fun k => σ (zi_X_T k))) fun r11 =>
  some (r11))
  else if p1 = (7 : Int32) then
  (z_b1 (f_X2_allComplaints (fun k => σ (zi_X_T k))) fun r14 =>
  some (r14))
  else if p1 = (8 : Int32) then
  (z_b1 (f_X0_allTips (fun k => σ (zi_X_T k))) fun r17 =>
  some (r17))
  else if p1 = (9 : Int32) then
  (some (σ 0 0))
  else if p1 = (10 : Int32) then
  (some (σ 233 0))
  else if p1 = (20 : Int32) then
  (some (σ 192 1))
  else if p1 = (21 : Int32) then
  (some (σ 192 2))
  else (some ((-1 : Int32)))
set_option maxRecDepth 100000 in
set_option maxHeartbeats 4000000 in
theorem c_X9_count (p1 : Int32) (σ : z_S) (r : Int32) (h : f_X9_count p1 σ = some r) : zMet yX9_count cX9_count 2 (some .int) 2 45 layX 275 (fun ad => [.ref (ad 230), .int p1]) σ (z_QI layX 275 r σ) := by
  refine z_headI RX9 (by decide) rfl (fun _ => Nat.le_of_ble_eq_true rfl) (fun E G A ad hB hret => ?_)
  show ZW E G A 2 layX 275 ad 0 [(0, .ref (ad 230)), (1, .int p1)] [] σ
  unfold f_X9_count at h
  refine z_iload_n hB 1 dX9_count_0 rfl rfl ?_
  by_cases c1 : p1 = (0 : Int32)
  · have h := z_ifT c1 h
    refine z_tableIn hB (tgt := 104) dX9_count_1 c1 (by decide) (by decide) rfl (by decide) ?_
    refine z_aload_n hB 0 dX9_count_104 rfl rfl ?_
    refine z_getr hB 230 0 192 kX_230 (Nat.le_of_ble_eq_true rfl) vc_9 inlX9 (Nat.le_of_ble_eq_true rfl) rfl (Nat.le_of_ble_eq_true rfl) fl_X9_10 dX9_count_105 ?_
    refine z_getr hB 192 4 194 kX_192 (Nat.le_of_ble_eq_true rfl) vc_6 inlX6 (Nat.le_of_ble_eq_true rfl) rfl (Nat.le_of_ble_eq_true rfl) fl_X9_86 dX9_count_108 ?_
    refine z_get hB 194 0 kX_194 (Nat.le_of_ble_eq_true rfl) vc_4 inlX4 (Nat.le_of_ble_eq_true rfl) rfl fl_X9_259 dX9_count_111 ?_
    exact hret _ _ _ _ (Option.some.inj h) rfl rfl dX9_count_114
  have h := z_ifF c1 h
  by_cases c2 : p1 = (1 : Int32)
  · have h := z_ifT c2 h
    refine z_tableIn hB (tgt := 115) dX9_count_1 c2 (by decide) (by decide) rfl (by decide) ?_
    refine z_aload_n hB 0 dX9_count_115 rfl rfl ?_
    refine z_getr hB 230 0 192 kX_230 (Nat.le_of_ble_eq_true rfl) vc_9 inlX9 (Nat.le_of_ble_eq_true rfl) rfl (Nat.le_of_ble_eq_true rfl) fl_X9_10 dX9_count_116 ?_
    refine z_getr hB 192 5 203 kX_192 (Nat.le_of_ble_eq_true rfl) vc_6 inlX6 (Nat.le_of_ble_eq_true rfl) rfl (Nat.le_of_ble_eq_true rfl) fl_X9_122 dX9_count_119 ?_
    refine z_get hB 203 0 kX_203 (Nat.le_of_ble_eq_true rfl) vc_2 inlX2 (Nat.le_of_ble_eq_true rfl) rfl fl_X9_187 dX9_count_122 ?_
    exact hret _ _ _ _ (Option.some.inj h) rfl rfl dX9_count_125
  have h := z_ifF c2 h
  by_cases c3 : p1 = (2 : Int32)
  · have h := z_ifT c3 h
    refine z_tableIn hB (tgt := 126) dX9_count_1 c3 (by decide) (by decide) rfl (by decide) ?_
    refine z_aload_n hB 0 dX9_count_126 rfl rfl ?_
    refine z_getr hB 230 0 192 kX_230 (Nat.le_of_ble_eq_true rfl) vc_9 inlX9 (Nat.le_of_ble_eq_true rfl) rfl (Nat.le_of_ble_eq_true rfl) fl_X9_10 dX9_count_127 ?_
    refine z_getr hB 192 7 222 kX_192 (Nat.le_of_ble_eq_true rfl) vc_6 inlX6 (Nat.le_of_ble_eq_true rfl) rfl (Nat.le_of_ble_eq_true rfl) fl_X9_190 dX9_count_130 ?_
    refine z_get hB 222 0 kX_222 (Nat.le_of_ble_eq_true rfl) vc_0 inlX0 (Nat.le_of_ble_eq_true rfl) rfl fl_X9_245 dX9_count_133 ?_
    exact hret _ _ _ _ (Option.some.inj h) rfl rfl dX9_count_136
  have h := z_ifF c3 h
  by_cases c4 : p1 = (3 : Int32)
  · have h := z_ifT c4 h
    refine z_tableIn hB (tgt := 137) dX9_count_1 c4 (by decide) (by decide) rfl (by decide) ?_
    refine z_aload_n hB 0 dX9_count_137 rfl rfl ?_
    refine z_getr hB 230 0 192 kX_230 (Nat.le_of_ble_eq_true rfl) vc_9 inlX9 (Nat.le_of_ble_eq_true rfl) rfl (Nat.le_of_ble_eq_true rfl) fl_X9_10 dX9_count_138 ?_
    refine z_getr hB 192 6 218 kX_192 (Nat.le_of_ble_eq_true rfl) vc_6 inlX6 (Nat.le_of_ble_eq_true rfl) rfl (Nat.le_of_ble_eq_true rfl) fl_X9_144 dX9_count_141 ?_
    refine z_get hB 218 0 kX_218 (Nat.le_of_ble_eq_true rfl) vc_3 inlX3 (Nat.le_of_ble_eq_true rfl) rfl fl_X9_219 dX9_count_144 ?_
    exact hret _ _ _ _ (Option.some.inj h) rfl rfl dX9_count_147
  have h := z_ifF c4 h
  by_cases c5 : p1 = (4 : Int32)
  · have h := z_ifT c5 h
    refine z_tableIn hB (tgt := 148) dX9_count_1 c5 (by decide) (by decide) rfl (by decide) ?_
    refine z_aload_n hB 0 dX9_count_148 rfl rfl ?_
    refine z_getr hB 230 0 192 kX_230 (Nat.le_of_ble_eq_true rfl) vc_9 inlX9 (Nat.le_of_ble_eq_true rfl) rfl (Nat.le_of_ble_eq_true rfl) fl_X9_10 dX9_count_149 ?_
    refine z_get hB 192 0 kX_192 (Nat.le_of_ble_eq_true rfl) vc_6 inlX6 (Nat.le_of_ble_eq_true rfl) rfl fl_X9_148 dX9_count_152 ?_
    exact hret _ _ _ _ (Option.some.inj h) rfl rfl dX9_count_155
  have h := z_ifF c5 h
  by_cases c6 : p1 = (5 : Int32)
  · have h := z_ifT c6 h
    refine z_tableIn hB (tgt := 156) dX9_count_1 c6 (by decide) (by decide) rfl (by decide) ?_
    refine z_aload_n hB 0 dX9_count_156 rfl rfl ?_
    refine z_getr hB 230 0 192 kX_230 (Nat.le_of_ble_eq_true rfl) vc_9 inlX9 (Nat.le_of_ble_eq_true rfl) rfl (Nat.le_of_ble_eq_true rfl) fl_X9_10 dX9_count_157 ?_
    refine z_getr hB 192 5 203 kX_192 (Nat.le_of_ble_eq_true rfl) vc_6 inlX6 (Nat.le_of_ble_eq_true rfl) rfl (Nat.le_of_ble_eq_true rfl) fl_X9_122 dX9_count_160 ?_
    refine z_iconst hB dX9_count_163 zcI_m1 ?_
    obtain ⟨r8, h7, h⟩ := z_b1E h
    refine z_cI hB (z_rV (ι := zi_X_T) hB yY_X2_manyOf (c_X2_manyOf _ _ _ h7) rfl cut_X_T z_hno kT_11 (Nat.le_of_ble_eq_true rfl) vc_2 rfl rfl rfl (Nat.le_of_ble_eq_true rfl) ml_X9_206 ⟨Nat.le_of_ble_eq_true rfl, Nat.le_of_ble_eq_true rfl⟩ dX9_count_164) cut_X_T z_hno ?_
    refine z_toA (z_mro cut_X_T) ?_
    exact hret _ _ _ _ (Option.some.inj h) rfl rfl dX9_count_167
  have h := z_ifF c6 h
  by_cases c9 : p1 = (6 : Int32)
  · have h := z_ifT c9 h
    refine z_tableIn hB (tgt := 168) dX9_count_1 c9 (by decide) (by decide) rfl (by decide) ?_
    refine z_aload_n hB 0 dX9_count_168 rfl rfl ?_
    refine z_getr hB 230 0 192 kX_230 (Nat.le_of_ble_eq_true rfl) vc_9 inlX9 (Nat.le_of_ble_eq_true rfl) rfl (Nat.le_of_ble_eq_true rfl) fl_X9_10 dX9_count_169 ?_
    obtain ⟨r11, h10, h⟩ := z_b1E h
    refine z_cI hB (z_rV (ι := zi_X_T) hB yY_X6_housesPaused (c_X6_housesPaused _ _ h10) rfl cut_X_T z_hno kT_0 (Nat.le_of_ble_eq_true rfl) vc_6 rfl rfl rfl (Nat.le_of_ble_eq_true rfl) ml_X9_260 ⟨Nat.le_of_ble_eq_true rfl, Nat.le_of_ble_eq_true rfl⟩ dX9_count_172) cut_X_T z_hno ?_
    refine z_toA (z_mro cut_X_T) ?_
    exact hret _ _ _ _ (Option.some.inj h) rfl rfl dX9_count_175
  have h := z_ifF c9 h
  by_cases c12 : p1 = (7 : Int32)
  · have h := z_ifT c12 h
    refine z_tableIn hB (tgt := 176) dX9_count_1 c12 (by decide) (by decide) rfl (by decide) ?_
    refine z_aload_n hB 0 dX9_count_176 rfl rfl ?_
    refine z_getr hB 230 0 192 kX_230 (Nat.le_of_ble_eq_true rfl) vc_9 inlX9 (Nat.le_of_ble_eq_true rfl) rfl (Nat.le_of_ble_eq_true rfl) fl_X9_10 dX9_count_177 ?_
    refine z_getr hB 192 5 203 kX_192 (Nat.le_of_ble_eq_true rfl) vc_6 inlX6 (Nat.le_of_ble_eq_true rfl) rfl (Nat.le_of_ble_eq_true rfl) fl_X9_122 dX9_count_180 ?_
    obtain ⟨r14, h13, h⟩ := z_b1E h
    refine z_cI hB (z_rV (ι := zi_X_T) hB yY_X2_allComplaints (c_X2_allComplaints _ _ h13) rfl cut_X_T z_hno kT_11 (Nat.le_of_ble_eq_true rfl) vc_2 rfl rfl rfl (Nat.le_of_ble_eq_true rfl) ml_X9_264 ⟨Nat.le_of_ble_eq_true rfl, Nat.le_of_ble_eq_true rfl⟩ dX9_count_183) cut_X_T z_hno ?_
    refine z_toA (z_mro cut_X_T) ?_
    exact hret _ _ _ _ (Option.some.inj h) rfl rfl dX9_count_186
  have h := z_ifF c12 h
  by_cases c15 : p1 = (8 : Int32)
  · have h := z_ifT c15 h
    refine z_tableIn hB (tgt := 187) dX9_count_1 c15 (by decide) (by decide) rfl (by decide) ?_
    refine z_aload_n hB 0 dX9_count_187 rfl rfl ?_
    refine z_getr hB 230 0 192 kX_230 (Nat.le_of_ble_eq_true rfl) vc_9 inlX9 (Nat.le_of_ble_eq_true rfl) rfl (Nat.le_of_ble_eq_true rfl) fl_X9_10 dX9_count_188 ?_
    refine z_getr hB 192 7 222 kX_192 (Nat.le_of_ble_eq_true rfl) vc_6 inlX6 (Nat.le_of_ble_eq_true rfl) rfl (Nat.le_of_ble_eq_true rfl) fl_X9_190 dX9_count_191 ?_
    obtain ⟨r17, h16, h⟩ := z_b1E h
    refine z_cI hB (z_rV (ι := zi_X_T) hB yY_X0_allTips (c_X0_allTips _ _ h16) rfl cut_X_T z_hno kT_30 (Nat.le_of_ble_eq_true rfl) vc_0 rfl rfl rfl (Nat.le_of_ble_eq_true rfl) ml_X9_267 ⟨Nat.le_of_ble_eq_true rfl, Nat.le_of_ble_eq_true rfl⟩ dX9_count_194) cut_X_T z_hno ?_
    refine z_toA (z_mro cut_X_T) ?_
    exact hret _ _ _ _ (Option.some.inj h) rfl rfl dX9_count_197
  have h := z_ifF c15 h
  by_cases c18 : p1 = (9 : Int32)
  · have h := z_ifT c18 h
    refine z_tableIn hB (tgt := 198) dX9_count_1 c18 (by decide) (by decide) rfl (by decide) ?_
    refine z_aload_n hB 0 dX9_count_198 rfl rfl ?_
    refine z_getr hB 230 1 0 kX_230 (Nat.le_of_ble_eq_true rfl) vc_9 inlX9 (Nat.le_of_ble_eq_true rfl) rfl (Nat.le_of_ble_eq_true rfl) fl_X9_19 dX9_count_199 ?_
    refine z_get hB 0 0 kX_0 (Nat.le_of_ble_eq_true rfl) vc_1 inlX1 (Nat.le_of_ble_eq_true rfl) rfl fl_X9_270 dX9_count_202 ?_
    exact hret _ _ _ _ (Option.some.inj h) rfl rfl dX9_count_205
  have h := z_ifF c18 h
  by_cases c19 : p1 = (10 : Int32)
  · have h := z_ifT c19 h
    refine z_tableIn hB (tgt := 206) dX9_count_1 c19 (by decide) (by decide) rfl (by decide) ?_
    refine z_aload_n hB 0 dX9_count_206 rfl rfl ?_
    refine z_getr hB 230 3 233 kX_230 (Nat.le_of_ble_eq_true rfl) vc_9 inlX9 (Nat.le_of_ble_eq_true rfl) rfl (Nat.le_of_ble_eq_true rfl) fl_X9_33 dX9_count_207 ?_
    refine z_get hB 233 0 kX_233 (Nat.le_of_ble_eq_true rfl) vc_5 inlX5 (Nat.le_of_ble_eq_true rfl) rfl fl_X9_273 dX9_count_210 ?_
    exact hret _ _ _ _ (Option.some.inj h) rfl rfl dX9_count_213
  have h := z_ifF c19 h
  by_cases c20 : p1 = (20 : Int32)
  · have h := z_ifT c20 h
    refine z_tableIn hB (tgt := 214) dX9_count_1 c20 (by decide) (by decide) rfl (by decide) ?_
    refine z_aload_n hB 0 dX9_count_214 rfl rfl ?_
    refine z_getr hB 230 0 192 kX_230 (Nat.le_of_ble_eq_true rfl) vc_9 inlX9 (Nat.le_of_ble_eq_true rfl) rfl (Nat.le_of_ble_eq_true rfl) fl_X9_10 dX9_count_215 ?_
    refine z_get hB 192 1 kX_192 (Nat.le_of_ble_eq_true rfl) vc_6 inlX6 (Nat.le_of_ble_eq_true rfl) rfl fl_X9_275 dX9_count_218 ?_
    exact hret _ _ _ _ (Option.some.inj h) rfl rfl dX9_count_221
  have h := z_ifF c20 h
  by_cases c21 : p1 = (21 : Int32)
  · have h := z_ifT c21 h
    refine z_tableIn hB (tgt := 222) dX9_count_1 c21 (by decide) (by decide) rfl (by decide) ?_
    refine z_aload_n hB 0 dX9_count_222 rfl rfl ?_
    refine z_getr hB 230 0 192 kX_230 (Nat.le_of_ble_eq_true rfl) vc_9 inlX9 (Nat.le_of_ble_eq_true rfl) rfl (Nat.le_of_ble_eq_true rfl) fl_X9_10 dX9_count_223 ?_
    refine z_get hB 192 2 kX_192 (Nat.le_of_ble_eq_true rfl) vc_6 inlX6 (Nat.le_of_ble_eq_true rfl) rfl fl_X9_278 dX9_count_226 ?_
    exact hret _ _ _ _ (Option.some.inj h) rfl rfl dX9_count_229
  have h := z_ifF c21 h
  refine z_tableD hB (tgt := 230) dX9_count_1 (fun kz h1 h2 he => ?_) (by decide) ?_
  · have hz : kz = 0 ∨ kz = 1 ∨ kz = 2 ∨ kz = 3 ∨ kz = 4 ∨ kz = 5 ∨ kz = 6 ∨ kz = 7 ∨ kz = 8 ∨ kz = 9 ∨ kz = 10 ∨ kz = 11 ∨ kz = 12 ∨ kz = 13 ∨ kz = 14 ∨ kz = 15 ∨ kz = 16 ∨ kz = 17 ∨ kz = 18 ∨ kz = 19 ∨ kz = 20 ∨ kz = 21 := by omega
    rcases hz with rfl | rfl | rfl | rfl | rfl | rfl | rfl | rfl | rfl | rfl | rfl | rfl | rfl | rfl | rfl | rfl | rfl | rfl | rfl | rfl | rfl | rfl <;> first | rfl | exact (c1 (Int32.toInt_inj.mp (he.trans (show (0 : Int) = (0 : Int32).toInt from rfl)))).elim | exact (c2 (Int32.toInt_inj.mp (he.trans (show (1 : Int) = (1 : Int32).toInt from rfl)))).elim | exact (c3 (Int32.toInt_inj.mp (he.trans (show (2 : Int) = (2 : Int32).toInt from rfl)))).elim | exact (c4 (Int32.toInt_inj.mp (he.trans (show (3 : Int) = (3 : Int32).toInt from rfl)))).elim | exact (c5 (Int32.toInt_inj.mp (he.trans (show (4 : Int) = (4 : Int32).toInt from rfl)))).elim | exact (c6 (Int32.toInt_inj.mp (he.trans (show (5 : Int) = (5 : Int32).toInt from rfl)))).elim | exact (c9 (Int32.toInt_inj.mp (he.trans (show (6 : Int) = (6 : Int32).toInt from rfl)))).elim | exact (c12 (Int32.toInt_inj.mp (he.trans (show (7 : Int) = (7 : Int32).toInt from rfl)))).elim | exact (c15 (Int32.toInt_inj.mp (he.trans (show (8 : Int) = (8 : Int32).toInt from rfl)))).elim | exact (c18 (Int32.toInt_inj.mp (he.trans (show (9 : Int) = (9 : Int32).toInt from rfl)))).elim | exact (c19 (Int32.toInt_inj.mp (he.trans (show (10 : Int) = (10 : Int32).toInt from rfl)))).elim | exact (c20 (Int32.toInt_inj.mp (he.trans (show (20 : Int) = (20 : Int32).toInt from rfl)))).elim | exact (c21 (Int32.toInt_inj.mp (he.trans (show (21 : Int) = (21 : Int32).toInt from rfl)))).elim
  refine z_iconst hB dX9_count_230 zcI_m1 ?_
  exact hret _ _ _ _ (Option.some.inj h) rfl rfl dX9_count_231
def f_X9_undo (σ : z_S) : Option (Int32 × z_S) :=
  if (σ 0 0) = (0 : Int32) then
  (some ((-2 : Int32), σ))
  else
  (z_b1 (f_X1_restoreInto (fun k => σ (zi_X_H k))) fun σ3 =>
  z_let (z_m σ (zk_X_H) 230 σ3) fun σ4 =>
  some (σ4 0 0, σ4))
set_option maxRecDepth 100000 in
set_option maxHeartbeats 4000000 in
theorem c_X9_undo (σ : z_S) (r : Int32) (σz : z_S) (h : f_X9_undo σ = some (r, σz)) : zMet yX9_undo cX9_undo 1 (some .int) 5 103 layX 275 (fun ad => [.ref (ad 230)]) σ (z_QI layX 275 r σz) := by
  refine z_headI RX9 (by decide) rfl (fun _ => Nat.le_of_ble_eq_true rfl) (fun E G A ad hB hret => ?_)
  show ZW E G A 1 layX 275 ad 0 [(0, .ref (ad 230))] [] σ
  unfold f_X9_undo at h
  refine z_aload_n hB 0 dX9_undo_0 rfl rfl ?_
  refine z_getr hB 230 1 0 kX_230 (Nat.le_of_ble_eq_true rfl) vc_9 inlX9 (Nat.le_of_ble_eq_true rfl) rfl (Nat.le_of_ble_eq_true rfl) fl_X9_19 dX9_undo_1 ?_
  refine z_get hB 0 0 kX_0 (Nat.le_of_ble_eq_true rfl) vc_1 inlX1 (Nat.le_of_ble_eq_true rfl) rfl fl_X9_270 dX9_undo_4 ?_
  refine z_if_ne hB (tgt := 13) dX9_undo_7 (by decide) (fun c1 => ?_) (fun c1 => ?_)
  · have h := z_ifF c1 h
    refine z_aload_n hB 0 dX9_undo_13 rfl rfl ?_
    refine z_getr hB 230 1 0 kX_230 (Nat.le_of_ble_eq_true rfl) vc_9 inlX9 (Nat.le_of_ble_eq_true rfl) rfl (Nat.le_of_ble_eq_true rfl) fl_X9_19 dX9_undo_14 ?_
    refine z_aload_n hB 0 dX9_undo_17 rfl rfl ?_
    refine z_getr hB 230 0 192 kX_230 (Nat.le_of_ble_eq_true rfl) vc_9 inlX9 (Nat.le_of_ble_eq_true rfl) rfl (Nat.le_of_ble_eq_true rfl) fl_X9_10 dX9_undo_18 ?_
    obtain ⟨σ3, h2, h⟩ := z_b1E h
    refine z_cV hB (z_rV (ι := zi_X_H) hB yY_X1_restoreInto (c_X1_restoreInto _ _ h2) rfl cut_X_H z_hidH kH_0 (Nat.le_of_ble_eq_true rfl) vc_1 rfl rfl rfl (Nat.le_of_ble_eq_true rfl) ml_X9_281 ⟨Nat.le_of_ble_eq_true rfl, Nat.le_of_ble_eq_true rfl⟩ dX9_undo_21) cut_X_H z_hidH ?_
    obtain ⟨σ4, eσ4, h⟩ := z_letE h
    refine z_to eσ4 ?_
    refine z_aload_n hB 0 dX9_undo_24 rfl rfl ?_
    refine z_getr hB 230 1 0 kX_230 (Nat.le_of_ble_eq_true rfl) vc_9 inlX9 (Nat.le_of_ble_eq_true rfl) rfl (Nat.le_of_ble_eq_true rfl) fl_X9_19 dX9_undo_25 ?_
    refine z_get hB 0 0 kX_0 (Nat.le_of_ble_eq_true rfl) vc_1 inlX1 (Nat.le_of_ble_eq_true rfl) rfl fl_X9_270 dX9_undo_28 ?_
    obtain ⟨h1, h2⟩ := z_prE h
    exact hret _ _ _ _ h1 h2 rfl dX9_undo_31
  · have h := z_ifT c1 h
    refine z_bipush hB dX9_undo_10 zcB_m2 ?_
    obtain ⟨h1, h2⟩ := z_prE h
    exact hret _ _ _ _ h1 h2 rfl dX9_undo_12
def f_X9_type (p1 : Int32) (σ : z_S) : Option (Int32 × z_S) :=
  z_b1 (f_X9_within p1 (32 : Int32) (126 : Int32) σ) fun r2 =>
  if r2 = (0 : Int32) then
  (some ((-1 : Int32), σ))
  else
  (z_b2 (f_X5_append (((p1).toUInt32 % 65536).toInt32) (fun k => σ (zi_X_X0 k))) fun r6 σ5 =>
  z_let (z_m σ (zk_X_X0) 3 σ5) fun σ7 =>
  some (r6, σ7))
set_option maxRecDepth 100000 in
set_option maxHeartbeats 4000000 in
theorem c_X9_type (p1 : Int32) (σ : z_S) (r : Int32) (σz : z_S) (h : f_X9_type p1 σ = some (r, σz)) : zMet yX9_type cX9_type 2 (some .int) 1 22 layX 275 (fun ad => [.ref (ad 230), .int p1]) σ (z_QI layX 275 r σz) := by
  refine z_headI RX9 (by decide) rfl (fun _ => Nat.le_of_ble_eq_true rfl) (fun E G A ad hB hret => ?_)
  show ZW E G A 2 layX 275 ad 0 [(0, .ref (ad 230)), (1, .int p1)] [] σ
  unfold f_X9_type at h
  refine z_iload_n hB 1 dX9_type_0 rfl rfl ?_
  refine z_bipush hB dX9_type_1 zcB_32 ?_
  refine z_bipush hB dX9_type_3 zcB_126 ?_
  obtain ⟨r2, h1, h⟩ := z_b1E h
  refine z_cI hB (z_rS (ι := fun k => k) hB yY_X9_within (c_X9_within _ _ _ _ _ h1) rfl z_cut0 z_hno rfl rfl rfl (Nat.le_of_ble_eq_true rfl) ml_X9_96 ⟨Nat.le_of_ble_eq_true rfl, Nat.le_of_ble_eq_true rfl⟩ dX9_type_5) z_cut0 z_hno ?_
  refine z_toA (z_mro (lay := layX) (lay' := z_lay0) (b := false) z_cut0) ?_
  refine z_if_ne hB (tgt := 13) dX9_type_8 (by decide) (fun c3 => ?_) (fun c3 => ?_)
  · have h := z_ifF c3 h
    refine z_aload_n hB 0 dX9_type_13 rfl rfl ?_
    refine z_getr hB 230 3 233 kX_230 (Nat.le_of_ble_eq_true rfl) vc_9 inlX9 (Nat.le_of_ble_eq_true rfl) rfl (Nat.le_of_ble_eq_true rfl) fl_X9_33 dX9_type_14 ?_
    refine z_iload_n hB 1 dX9_type_17 rfl rfl ?_
    refine z_i2c hB dX9_type_18 ?_
    obtain ⟨r6, σ5, h4, h⟩ := z_b2E h
    refine z_cI hB (z_rV (ι := zi_X_X0) hB yY_X5_append (c_X5_append _ _ _ _ h4) rfl cut_X_X0 z_hno kX0_0 (Nat.le_of_ble_eq_true rfl) vc_5 rfl rfl rfl (Nat.le_of_ble_eq_true rfl) ml_X9_284 ⟨Nat.le_of_ble_eq_true rfl, Nat.le_of_ble_eq_true rfl⟩ dX9_type_19) cut_X_X0 z_hno ?_
    obtain ⟨σ7, eσ7, h⟩ := z_letE h
    refine z_to eσ7 ?_
    obtain ⟨h1, h2⟩ := z_prE h
    exact hret _ _ _ _ h1 h2 rfl dX9_type_22
  · have h := z_ifT c3 h
    refine z_iconst hB dX9_type_11 zcI_m1 ?_
    obtain ⟨h1, h2⟩ := z_prE h
    exact hret _ _ _ _ h1 h2 rfl dX9_type_12
def f_X9_fault (p1 : Int32) (σ : z_S) : Option (Int32 × z_S) :=
  z_b1 (f_X9_within p1 (0 : Int32) (2 : Int32) σ) fun r2 =>
  if r2 = (0 : Int32) then
  (some ((-1 : Int32), σ))
  else
  (z_b1 (f_X7_run (fun k => σ (zi_X_R k))) fun σ5 =>
  z_let (z_m σ (zk_X_R) 82 σ5) fun σ6 =>
  if (σ6 236 3) = (0 : Int32) then
  (some ((-4 : Int32), σ6))
  else
  (z_let (fun (_ : Unit) => if p1 = (0 : Int32) then
  (some (σ6 236 2, σ6))
  else if p1 = (1 : Int32) then
  (some (σ6 236 3, σ6))
  else (some (σ6 236 4, σ6))) fun j8 =>
  if p1 = (2 : Int32) then
  (if (σ6 236 3) = (1 : Int32) then
  (some ((-4 : Int32), σ6))
  else
  (j8 ()))
  else
  (j8 ())))
set_option maxRecDepth 100000 in
set_option maxHeartbeats 4000000 in
theorem c_X9_fault (p1 : Int32) (σ : z_S) (r : Int32) (σz : z_S) (h : f_X9_fault p1 σ = some (r, σz)) : zMet yX9_fault cX9_fault 2 (some .int) 7 159 layX 275 (fun ad => [.ref (ad 230), .int p1]) σ (z_QI layX 275 r σz) := by
  refine z_headI RX9 (by decide) rfl (fun _ => Nat.le_of_ble_eq_true rfl) (fun E G A ad hB hret => ?_)
  show ZW E G A 2 layX 275 ad 0 [(0, .ref (ad 230)), (1, .int p1)] [] σ
  unfold f_X9_fault at h
  refine z_iload_n hB 1 dX9_fault_0 rfl rfl ?_
  refine z_iconst hB dX9_fault_1 zcI_0 ?_
  refine z_iconst hB dX9_fault_2 zcI_2 ?_
  obtain ⟨r2, h1, h⟩ := z_b1E h
  refine z_cI hB (z_rS (ι := fun k => k) hB yY_X9_within (c_X9_within _ _ _ _ _ h1) rfl z_cut0 z_hno rfl rfl rfl (Nat.le_of_ble_eq_true rfl) ml_X9_96 ⟨Nat.le_of_ble_eq_true rfl, Nat.le_of_ble_eq_true rfl⟩ dX9_fault_3) z_cut0 z_hno ?_
  refine z_toA (z_mro (lay := layX) (lay' := z_lay0) (b := false) z_cut0) ?_
  refine z_if_ne hB (tgt := 11) dX9_fault_6 (by decide) (fun c3 => ?_) (fun c3 => ?_)
  · have h := z_ifF c3 h
    refine z_aload_n hB 0 dX9_fault_11 rfl rfl ?_
    refine z_getr hB 230 4 236 kX_230 (Nat.le_of_ble_eq_true rfl) vc_9 inlX9 (Nat.le_of_ble_eq_true rfl) rfl (Nat.le_of_ble_eq_true rfl) fl_X9_40 dX9_fault_12 ?_
    refine z_aload_n hB 0 dX9_fault_15 rfl rfl ?_
    refine z_getr hB 230 0 192 kX_230 (Nat.le_of_ble_eq_true rfl) vc_9 inlX9 (Nat.le_of_ble_eq_true rfl) rfl (Nat.le_of_ble_eq_true rfl) fl_X9_10 dX9_fault_16 ?_
    refine z_aload_n hB 0 dX9_fault_19 rfl rfl ?_
    refine z_getr hB 230 3 233 kX_230 (Nat.le_of_ble_eq_true rfl) vc_9 inlX9 (Nat.le_of_ble_eq_true rfl) rfl (Nat.le_of_ble_eq_true rfl) fl_X9_33 dX9_fault_20 ?_
    refine z_aload_n hB 0 dX9_fault_23 rfl rfl ?_
    refine z_getr hB 230 2 231 kX_230 (Nat.le_of_ble_eq_true rfl) vc_9 inlX9 (Nat.le_of_ble_eq_true rfl) rfl (Nat.le_of_ble_eq_true rfl) fl_X9_26 dX9_fault_24 ?_
    obtain ⟨σ5, h4, h⟩ := z_b1E h
    refine z_cV hB (z_rV (ι := zi_X_R) hB yY_X7_run (c_X7_run _ _ h4) rfl cut_X_R z_hno kR_0 (Nat.le_of_ble_eq_true rfl) vc_7 rfl rfl rfl (Nat.le_of_ble_eq_true rfl) ml_X9_288 ⟨Nat.le_of_ble_eq_true rfl, Nat.le_of_ble_eq_true rfl⟩ dX9_fault_27) cut_X_R z_hno ?_
    obtain ⟨σ6, eσ6, h⟩ := z_letE h
    refine z_to eσ6 ?_
    refine z_aload_n hB 0 dX9_fault_30 rfl rfl ?_
    refine z_getr hB 230 4 236 kX_230 (Nat.le_of_ble_eq_true rfl) vc_9 inlX9 (Nat.le_of_ble_eq_true rfl) rfl (Nat.le_of_ble_eq_true rfl) fl_X9_40 dX9_fault_31 ?_
    refine z_get hB 236 3 kX_236 (Nat.le_of_ble_eq_true rfl) vc_7 inlX7 (Nat.le_of_ble_eq_true rfl) rfl fl_X9_292 dX9_fault_34 ?_
    refine z_if_eq hB (tgt := 56) dX9_fault_37 (by decide) (fun c7 => ?_) (fun c7 => ?_)
    · have h := z_ifT c7 h
      refine z_bipush hB dX9_fault_56 zcB_m4 ?_
      obtain ⟨h1, h2⟩ := z_prE h
      exact hret _ _ _ _ h1 h2 rfl dX9_fault_58
    · have h := z_ifF c7 h
      refine z_iload_n hB 1 dX9_fault_40 rfl rfl ?_
      refine z_iconst hB dX9_fault_41 zcI_2 ?_
      obtain ⟨j8, ej8, h⟩ := z_letE h
      have hj8 : ∀ (_ : Unit), j8 () = some (r, σz) → ZW E G A 2 layX 275 ad 59 [(0, .ref (ad 230)), (1, .int p1)] [] σ6 := by
        intro _ h
        rw [ej8] at h
        refine z_iload_n hB 1 dX9_fault_59 rfl rfl ?_
        by_cases c9 : p1 = (0 : Int32)
        · have h := z_ifT c9 h
          refine z_lookup hB (tgt := 88) (off := 28) dX9_fault_60 (by decide) (by first | (rw [c9]; done) | (rw [c9]; rfl)) (by decide) ?_
          refine z_aload_n hB 0 dX9_fault_88 rfl rfl ?_
          refine z_getr hB 230 4 236 kX_230 (Nat.le_of_ble_eq_true rfl) vc_9 inlX9 (Nat.le_of_ble_eq_true rfl) rfl (Nat.le_of_ble_eq_true rfl) fl_X9_40 dX9_fault_89 ?_
          refine z_get hB 236 2 kX_236 (Nat.le_of_ble_eq_true rfl) vc_7 inlX7 (Nat.le_of_ble_eq_true rfl) rfl fl_X9_295 dX9_fault_92 ?_
          obtain ⟨h1, h2⟩ := z_prE h
          exact hret _ _ _ _ h1 h2 rfl dX9_fault_95
        have h := z_ifF c9 h
        by_cases c10 : p1 = (1 : Int32)
        · have h := z_ifT c10 h
          refine z_lookup hB (tgt := 96) (off := 36) dX9_fault_60 (by decide) (by first | (rw [c10]; done) | (rw [c10]; rfl)) (by decide) ?_
          refine z_aload_n hB 0 dX9_fault_96 rfl rfl ?_
          refine z_getr hB 230 4 236 kX_230 (Nat.le_of_ble_eq_true rfl) vc_9 inlX9 (Nat.le_of_ble_eq_true rfl) rfl (Nat.le_of_ble_eq_true rfl) fl_X9_40 dX9_fault_97 ?_
          refine z_get hB 236 3 kX_236 (Nat.le_of_ble_eq_true rfl) vc_7 inlX7 (Nat.le_of_ble_eq_true rfl) rfl fl_X9_292 dX9_fault_100 ?_
          obtain ⟨h1, h2⟩ := z_prE h
          exact hret _ _ _ _ h1 h2 rfl dX9_fault_103
        have h := z_ifF c10 h
        refine z_lookup hB (tgt := 104) (off := 44) dX9_fault_60 (by decide) ((lv_osw c9 rfl).trans ((lv_osw c10 rfl).trans (rfl))) (by decide) ?_
        refine z_aload_n hB 0 dX9_fault_104 rfl rfl ?_
        refine z_getr hB 230 4 236 kX_230 (Nat.le_of_ble_eq_true rfl) vc_9 inlX9 (Nat.le_of_ble_eq_true rfl) rfl (Nat.le_of_ble_eq_true rfl) fl_X9_40 dX9_fault_105 ?_
        refine z_get hB 236 4 kX_236 (Nat.le_of_ble_eq_true rfl) vc_7 inlX7 (Nat.le_of_ble_eq_true rfl) rfl fl_X9_298 dX9_fault_108 ?_
        obtain ⟨h1, h2⟩ := z_prE h
        exact hret _ _ _ _ h1 h2 rfl dX9_fault_111
      refine z_icmp_ne hB (tgt := 59) dX9_fault_42 (by decide) (fun c11 => ?_) (fun c11 => ?_)
      · have h := z_ifF c11 h
        exact hj8 () h
      · have h := z_ifT c11 h
        refine z_aload_n hB 0 dX9_fault_45 rfl rfl ?_
        refine z_getr hB 230 4 236 kX_230 (Nat.le_of_ble_eq_true rfl) vc_9 inlX9 (Nat.le_of_ble_eq_true rfl) rfl (Nat.le_of_ble_eq_true rfl) fl_X9_40 dX9_fault_46 ?_
        refine z_get hB 236 3 kX_236 (Nat.le_of_ble_eq_true rfl) vc_7 inlX7 (Nat.le_of_ble_eq_true rfl) rfl fl_X9_292 dX9_fault_49 ?_
        refine z_iconst hB dX9_fault_52 zcI_1 ?_
        refine z_icmp_ne hB (tgt := 59) dX9_fault_53 (by decide) (fun c12 => ?_) (fun c12 => ?_)
        · have h := z_ifF c12 h
          exact hj8 () h
        · have h := z_ifT c12 h
          refine z_bipush hB dX9_fault_56 zcB_m4 ?_
          obtain ⟨h1, h2⟩ := z_prE h
          exact hret _ _ _ _ h1 h2 rfl dX9_fault_58
  · have h := z_ifT c3 h
    refine z_iconst hB dX9_fault_9 zcI_m1 ?_
    obtain ⟨h1, h2⟩ := z_prE h
    exact hret _ _ _ _ h1 h2 rfl dX9_fault_10
def f_X9_play (σ : z_S) : Option (Int32 × z_S) :=
  z_b1 (f_X7_run (fun k => σ (zi_X_R k))) fun σ2 =>
  z_let (z_m σ (zk_X_R) 82 σ2) fun σ3 =>
  if (σ3 236 3) = (0 : Int32) then
  (z_b1 (f_X1_prepare (fun k => σ3 (zi_X_H k))) fun σ6 =>
  z_let (z_m σ3 (zk_X_H) 230 σ6) fun σ7 =>
  z_b1 (f_X6_copyFrom (fun k => σ7 (zi_X_TT k))) fun σ9 =>
  z_let (z_m σ7 (zk_X_TT) 76 σ9) fun σ10 =>
  z_b2 (f_X9_settled (σ10 236 1) σ10) fun r13 σ12 =>
  some (r13, σ12))
  else
  (some ((-2 : Int32), σ3))
set_option maxRecDepth 100000 in
set_option maxHeartbeats 4000000 in
theorem c_X9_play (σ : z_S) (r : Int32) (σz : z_S) (h : f_X9_play σ = some (r, σz)) : zMet yX9_play cX9_play 1 (some .int) 7 159 layX 275 (fun ad => [.ref (ad 230)]) σ (z_QI layX 275 r σz) := by
  refine z_headI RX9 (by decide) rfl (fun _ => Nat.le_of_ble_eq_true rfl) (fun E G A ad hB hret => ?_)
  show ZW E G A 1 layX 275 ad 0 [(0, .ref (ad 230))] [] σ
  unfold f_X9_play at h
  refine z_aload_n hB 0 dX9_play_0 rfl rfl ?_
  refine z_getr hB 230 4 236 kX_230 (Nat.le_of_ble_eq_true rfl) vc_9 inlX9 (Nat.le_of_ble_eq_true rfl) rfl (Nat.le_of_ble_eq_true rfl) fl_X9_40 dX9_play_1 ?_
  refine z_aload_n hB 0 dX9_play_4 rfl rfl ?_
  refine z_getr hB 230 0 192 kX_230 (Nat.le_of_ble_eq_true rfl) vc_9 inlX9 (Nat.le_of_ble_eq_true rfl) rfl (Nat.le_of_ble_eq_true rfl) fl_X9_10 dX9_play_5 ?_
  refine z_aload_n hB 0 dX9_play_8 rfl rfl ?_
  refine z_getr hB 230 3 233 kX_230 (Nat.le_of_ble_eq_true rfl) vc_9 inlX9 (Nat.le_of_ble_eq_true rfl) rfl (Nat.le_of_ble_eq_true rfl) fl_X9_33 dX9_play_9 ?_
  refine z_aload_n hB 0 dX9_play_12 rfl rfl ?_
  refine z_getr hB 230 2 231 kX_230 (Nat.le_of_ble_eq_true rfl) vc_9 inlX9 (Nat.le_of_ble_eq_true rfl) rfl (Nat.le_of_ble_eq_true rfl) fl_X9_26 dX9_play_13 ?_
  obtain ⟨σ2, h1, h⟩ := z_b1E h
  refine z_cV hB (z_rV (ι := zi_X_R) hB yY_X7_run (c_X7_run _ _ h1) rfl cut_X_R z_hno kR_0 (Nat.le_of_ble_eq_true rfl) vc_7 rfl rfl rfl (Nat.le_of_ble_eq_true rfl) ml_X9_288 ⟨Nat.le_of_ble_eq_true rfl, Nat.le_of_ble_eq_true rfl⟩ dX9_play_16) cut_X_R z_hno ?_
  obtain ⟨σ3, eσ3, h⟩ := z_letE h
  refine z_to eσ3 ?_
  refine z_aload_n hB 0 dX9_play_19 rfl rfl ?_
  refine z_getr hB 230 4 236 kX_230 (Nat.le_of_ble_eq_true rfl) vc_9 inlX9 (Nat.le_of_ble_eq_true rfl) rfl (Nat.le_of_ble_eq_true rfl) fl_X9_40 dX9_play_20 ?_
  refine z_get hB 236 3 kX_236 (Nat.le_of_ble_eq_true rfl) vc_7 inlX7 (Nat.le_of_ble_eq_true rfl) rfl fl_X9_292 dX9_play_23 ?_
  refine z_if_eq hB (tgt := 32) dX9_play_26 (by decide) (fun c4 => ?_) (fun c4 => ?_)
  · have h := z_ifT c4 h
    refine z_aload_n hB 0 dX9_play_32 rfl rfl ?_
    refine z_getr hB 230 1 0 kX_230 (Nat.le_of_ble_eq_true rfl) vc_9 inlX9 (Nat.le_of_ble_eq_true rfl) rfl (Nat.le_of_ble_eq_true rfl) fl_X9_19 dX9_play_33 ?_
    refine z_aload_n hB 0 dX9_play_36 rfl rfl ?_
    refine z_getr hB 230 0 192 kX_230 (Nat.le_of_ble_eq_true rfl) vc_9 inlX9 (Nat.le_of_ble_eq_true rfl) rfl (Nat.le_of_ble_eq_true rfl) fl_X9_10 dX9_play_37 ?_
    obtain ⟨σ6, h5, h⟩ := z_b1E h
    refine z_cV hB (z_rV (ι := zi_X_H) hB yY_X1_prepare (c_X1_prepare _ _ h5) rfl cut_X_H z_hidH kH_0 (Nat.le_of_ble_eq_true rfl) vc_1 rfl rfl rfl (Nat.le_of_ble_eq_true rfl) ml_X9_44 ⟨Nat.le_of_ble_eq_true rfl, Nat.le_of_ble_eq_true rfl⟩ dX9_play_40) cut_X_H z_hidH ?_
    obtain ⟨σ7, eσ7, h⟩ := z_letE h
    refine z_to eσ7 ?_
    refine z_aload_n hB 0 dX9_play_43 rfl rfl ?_
    refine z_getr hB 230 0 192 kX_230 (Nat.le_of_ble_eq_true rfl) vc_9 inlX9 (Nat.le_of_ble_eq_true rfl) rfl (Nat.le_of_ble_eq_true rfl) fl_X9_10 dX9_play_44 ?_
    refine z_aload_n hB 0 dX9_play_47 rfl rfl ?_
    refine z_getr hB 230 4 236 kX_230 (Nat.le_of_ble_eq_true rfl) vc_9 inlX9 (Nat.le_of_ble_eq_true rfl) rfl (Nat.le_of_ble_eq_true rfl) fl_X9_40 dX9_play_48 ?_
    refine z_getr hB 236 0 237 kX_236 (Nat.le_of_ble_eq_true rfl) vc_7 inlX7 (Nat.le_of_ble_eq_true rfl) rfl (Nat.le_of_ble_eq_true rfl) fl_X9_301 dX9_play_51 ?_
    obtain ⟨σ9, h8, h⟩ := z_b1E h
    refine z_cV hB (z_rV (ι := zi_X_TT) hB yY_X6_copyFrom (c_X6_copyFrom _ _ h8) rfl cut_X_TT z_hno kTT_0 (Nat.le_of_ble_eq_true rfl) vc_6 rfl rfl rfl (Nat.le_of_ble_eq_true rfl) ml_X9_302 ⟨Nat.le_of_ble_eq_true rfl, Nat.le_of_ble_eq_true rfl⟩ dX9_play_54) cut_X_TT z_hno ?_
    obtain ⟨σ10, eσ10, h⟩ := z_letE h
    refine z_to eσ10 ?_
    refine z_aload_n hB 0 dX9_play_57 rfl rfl ?_
    refine z_aload_n hB 0 dX9_play_58 rfl rfl ?_
    refine z_getr hB 230 4 236 kX_230 (Nat.le_of_ble_eq_true rfl) vc_9 inlX9 (Nat.le_of_ble_eq_true rfl) rfl (Nat.le_of_ble_eq_true rfl) fl_X9_40 dX9_play_59 ?_
    refine z_get hB 236 1 kX_236 (Nat.le_of_ble_eq_true rfl) vc_7 inlX7 (Nat.le_of_ble_eq_true rfl) rfl fl_X9_305 dX9_play_62 ?_
    obtain ⟨r13, σ12, h11, h⟩ := z_b2E h
    refine z_cI hB (z_rV (ι := fun k => k) hB yY_X9_settled (c_X9_settled _ _ _ _ h11) rfl cut_X z_hid kX_230 (Nat.le_of_ble_eq_true rfl) vc_9 rfl rfl rfl (Nat.le_of_ble_eq_true rfl) ml_X9_52 ⟨Nat.le_of_ble_eq_true rfl, Nat.le_of_ble_eq_true rfl⟩ dX9_play_65) cut_X z_hid ?_
    refine z_toA z_mid ?_
    obtain ⟨h1, h2⟩ := z_prE h
    exact hret _ _ _ _ h1 h2 rfl dX9_play_68
  · have h := z_ifF c4 h
    refine z_bipush hB dX9_play_29 zcB_m2 ?_
    obtain ⟨h1, h2⟩ := z_prE h
    exact hret _ _ _ _ h1 h2 rfl dX9_play_31
