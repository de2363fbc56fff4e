def f_X10_tips (p1 : Int32) (σ : z_S) : Option z_S :=
  z_b1 (f_X10_of p1 (3 : Int32) σ) fun r2 =>
  z_b1 (f_X10_of p1 (12 : Int32) σ) fun r4 =>
  z_let (fun (y5 : Int32) => z_let (fun (σ7 : z_S) => z_b1 (f_X10_lays p1 (13 : Int32) (0 : Int32) σ7) fun σ10 =>
  z_b1 (f_X10_lays p1 (12 : Int32) (0 : Int32) σ10) fun σ12 =>
  some σ12) fun j8 =>
  if r2 = (-1 : Int32) then
  (j8 σ)
  else
  (z_b1 (f_X10_of p1 (13 : Int32) σ) fun r15 =>
  if r15 = (1 : Int32) then
  (z_b1 (f_X10_addsCarrier r2 (5 : Int32) y5 σ) fun σ18 =>
  j8 σ18)
  else
  (j8 σ))) fun j6 =>
  if r4 = (0 : Int32) then
  (z_b1 (f_X10_of p1 (2 : Int32) σ) fun r25 =>
  j6 r25)
  else
  (if r4 = (1 : Int32) then
  (z_b1 (f_X10_of p1 (2 : Int32) σ) fun r22 =>
  z_ck (¬ (2 : Int32) = 0) <|
  j6 (r22 / (2 : Int32)))
  else
  (j6 (0 : Int32)))
set_option maxRecDepth 100000 in
set_option maxHeartbeats 4000000 in
theorem c_X10_tips (p1 : Int32) (σ σz : z_S) (h : f_X10_tips p1 σ = some σz) : zMet yX10_tips cX10_tips 5 none 1 23 layM 10 (fun ad => [.ref (ad 0), .int p1]) σ (z_QV layM 10 σz) := by
  refine z_headV RX10 (by decide) rfl (fun _ => Nat.le_of_ble_eq_true rfl) (fun E G A ad hB hret => ?_)
  show ZW E G A 5 layM 10 ad 0 [(0, .ref (ad 0)), (1, .int p1)] [] σ
  unfold f_X10_tips at h
  refine z_aload_n hB 0 dX10_tips_0 rfl rfl ?_
  refine z_iload_n hB 1 dX10_tips_1 rfl rfl ?_
  refine z_iconst hB dX10_tips_2 zcI_3 ?_
  obtain ⟨r2, h1, h⟩ := z_b1E h
  refine z_cI hB (z_rV (ι := fun k => k) hB yY_X10_of (c_X10_of _ _ _ _ h1) rfl cut_M z_hid kM_0 (Nat.le_of_ble_eq_true rfl) vc_10 rfl rfl rfl (Nat.le_of_ble_eq_true rfl) ml_X10_57 ⟨Nat.le_of_ble_eq_true rfl, Nat.le_of_ble_eq_true rfl⟩ dX10_tips_3) cut_M z_hid ?_
  refine z_toA (z_mro cut_M) ?_
  refine z_istore_n hB [(2, .int r2), (0, .ref (ad 0)), (1, .int p1)] dX10_tips_6 rfl (Nat.le_of_ble_eq_true rfl) rfl rfl ?_
  refine z_aload_n hB 1 dX10_tips_7 rfl rfl ?_
  refine z_iload_n hB 2 dX10_tips_8 rfl rfl ?_
  refine z_bipush hB dX10_tips_9 zcB_12 ?_
  obtain ⟨r4, h3, h⟩ := z_b1E h
  refine z_cI hB (z_rV (ι := fun k => k) hB yY_X10_of (c_X10_of _ _ _ _ h3) rfl cut_M z_hid kM_0 (Nat.le_of_ble_eq_true rfl) vc_10 rfl rfl rfl (Nat.le_of_ble_eq_true rfl) ml_X10_57 ⟨Nat.le_of_ble_eq_true rfl, Nat.le_of_ble_eq_true rfl⟩ dX10_tips_11) cut_M z_hid ?_
  refine z_toA (z_mro cut_M) ?_
  refine z_istore_n hB [(3, .int r4), (2, .int r2), (0, .ref (ad 0)), (1, .int p1)] dX10_tips_14 rfl (Nat.le_of_ble_eq_true rfl) rfl rfl ?_
  refine z_iload_n hB 0 dX10_tips_15 rfl rfl ?_
  obtain ⟨j6, ej6, h⟩ := z_letE h
  have hj6 : ∀ (y5 : Int32), j6 y5 = some σz → ZW E G A 5 layM 10 ad 45 [(0, .ref (ad 0)), (1, .int p1), (2, .int r2)] [.int y5] σ := by
    intro y5 h
    rw [ej6] at h
    refine z_istore hB [(4, .int y5), (0, .ref (ad 0)), (1, .int p1), (2, .int r2)] dX10_tips_45 (Nat.le_of_ble_eq_true rfl) rfl rfl ?_
    refine z_iload_n hB 3 dX10_tips_47 rfl rfl ?_
    refine z_iconst hB dX10_tips_48 zcI_m1 ?_
    obtain ⟨j8, ej8, h⟩ := z_letE h
    have hj8 : ∀ (σ7 : z_S), j8 σ7 = some σz → ZW E G A 5 layM 10 ad 71 [(0, .ref (ad 0)), (1, .int p1)] [] σ7 := by
      intro σ7 h
      rw [ej8] at h
      refine z_aload_n hB 0 dX10_tips_71 rfl rfl ?_
      refine z_iload_n hB 1 dX10_tips_72 rfl rfl ?_
      refine z_bipush hB dX10_tips_73 zcB_13 ?_
      refine z_iconst hB dX10_tips_75 zcI_0 ?_
      obtain ⟨σ10, h9, h⟩ := z_b1E h
      refine z_cV hB (z_rV (ι := fun k => k) hB yY_X10_lays (c_X10_lays _ _ _ _ _ h9) rfl cut_M z_hid kM_0 (Nat.le_of_ble_eq_true rfl) vc_10 rfl rfl rfl (Nat.le_of_ble_eq_true rfl) ml_X10_71 ⟨Nat.le_of_ble_eq_true rfl, Nat.le_of_ble_eq_true rfl⟩ dX10_tips_76) cut_M z_hid ?_
      refine z_toA z_mid ?_
      refine z_aload_n hB 0 dX10_tips_79 rfl rfl ?_
      refine z_iload_n hB 1 dX10_tips_80 rfl rfl ?_
      refine z_bipush hB dX10_tips_81 zcB_12 ?_
      refine z_iconst hB dX10_tips_83 zcI_0 ?_
      obtain ⟨σ12, h11, h⟩ := z_b1E h
      refine z_cV hB (z_rV (ι := fun k => k) hB yY_X10_lays (c_X10_lays _ _ _ _ _ h11) rfl cut_M z_hid kM_0 (Nat.le_of_ble_eq_true rfl) vc_10 rfl rfl rfl (Nat.le_of_ble_eq_true rfl) ml_X10_71 ⟨Nat.le_of_ble_eq_true rfl, Nat.le_of_ble_eq_true rfl⟩ dX10_tips_84) cut_M z_hid ?_
      refine z_toA z_mid ?_
      exact hret _ _ _ (Option.some.inj h) dX10_tips_87
    refine z_icmp_eq hB (tgt := 71) dX10_tips_49 (by decide) (fun c13 => ?_) (fun c13 => ?_)
    · have h := z_ifT c13 h
      refine z_lv [1, 2] rfl ?_
      exact hj8 _ h
    · have h := z_ifF c13 h
      refine z_aload_n hB 1 dX10_tips_52 rfl rfl ?_
      refine z_iload_n hB 2 dX10_tips_53 rfl rfl ?_
      refine z_bipush hB dX10_tips_54 zcB_13 ?_
      obtain ⟨r15, h14, h⟩ := z_b1E h
      refine z_cI hB (z_rV (ι := fun k => k) hB yY_X10_of (c_X10_of _ _ _ _ h14) rfl cut_M z_hid kM_0 (Nat.le_of_ble_eq_true rfl) vc_10 rfl rfl rfl (Nat.le_of_ble_eq_true rfl) ml_X10_57 ⟨Nat.le_of_ble_eq_true rfl, Nat.le_of_ble_eq_true rfl⟩ dX10_tips_56) cut_M z_hid ?_
      refine z_toA (z_mro cut_M) ?_
      refine z_iconst hB dX10_tips_59 zcI_1 ?_
      refine z_icmp_ne hB (tgt := 71) dX10_tips_60 (by decide) (fun c16 => ?_) (fun c16 => ?_)
      · have h := z_ifF c16 h
        refine z_lv [1, 2] rfl ?_
        exact hj8 _ h
      · have h := z_ifT c16 h
        refine z_aload_n hB 1 dX10_tips_63 rfl rfl ?_
        refine z_iload_n hB 3 dX10_tips_64 rfl rfl ?_
        refine z_iconst hB dX10_tips_65 zcI_5 ?_
        refine z_iload hB 0 dX10_tips_66 rfl ?_
        obtain ⟨σ18, h17, h⟩ := z_b1E h
        refine z_cV hB (z_rV (ι := fun k => k) hB yY_X10_addsCarrier (c_X10_addsCarrier _ _ _ _ _ h17) rfl cut_M z_hid kM_0 (Nat.le_of_ble_eq_true rfl) vc_10 rfl rfl rfl (Nat.le_of_ble_eq_true rfl) ml_X10_82 ⟨Nat.le_of_ble_eq_true rfl, Nat.le_of_ble_eq_true rfl⟩ dX10_tips_68) cut_M z_hid ?_
        refine z_toA z_mid ?_
        refine z_lv [1, 2] rfl ?_
        exact hj8 _ h
  refine z_if_ne hB (tgt := 28) dX10_tips_16 (by decide) (fun c19 => ?_) (fun c19 => ?_)
  · have h := z_ifF c19 h
    refine z_iload_n hB 0 dX10_tips_28 rfl rfl ?_
    refine z_iconst hB dX10_tips_29 zcI_1 ?_
    refine z_icmp_ne hB (tgt := 44) dX10_tips_30 (by decide) (fun c20 => ?_) (fun c20 => ?_)
    · have h := z_ifF c20 h
      refine z_iconst hB dX10_tips_44 zcI_0 ?_
      refine z_lv [2, 3, 1] rfl ?_
      exact hj6 _ h
    · have h := z_ifT c20 h
      refine z_aload_n hB 2 dX10_tips_33 rfl rfl ?_
      refine z_iload_n hB 3 dX10_tips_34 rfl rfl ?_
      refine z_iconst hB dX10_tips_35 zcI_2 ?_
      obtain ⟨r22, h21, h⟩ := z_b1E h
      refine z_cI hB (z_rV (ι := fun k => k) hB yY_X10_of (c_X10_of _ _ _ _ h21) rfl cut_M z_hid kM_0 (Nat.le_of_ble_eq_true rfl) vc_10 rfl rfl rfl (Nat.le_of_ble_eq_true rfl) ml_X10_57 ⟨Nat.le_of_ble_eq_true rfl, Nat.le_of_ble_eq_true rfl⟩ dX10_tips_36) cut_M z_hid ?_
      refine z_toA (z_mro cut_M) ?_
      refine z_iconst hB dX10_tips_39 zcI_2 ?_
      obtain ⟨h23, h⟩ := z_ckE h
      refine z_idiv hB dX10_tips_40 h23 ?_
      refine z_goto hB (tgt := 45) dX10_tips_41 (by decide) ?_
      refine z_lv [2, 3, 1] rfl ?_
      exact hj6 _ h
  · have h := z_ifT c19 h
    refine z_aload_n hB 2 dX10_tips_19 rfl rfl ?_
    refine z_iload_n hB 3 dX10_tips_20 rfl rfl ?_
    refine z_iconst hB dX10_tips_21 zcI_2 ?_
    obtain ⟨r25, h24, h⟩ := z_b1E h
    refine z_cI hB (z_rV (ι := fun k => k) hB yY_X10_of (c_X10_of _ _ _ _ h24) rfl cut_M z_hid kM_0 (Nat.le_of_ble_eq_true rfl) vc_10 rfl rfl rfl (Nat.le_of_ble_eq_true rfl) ml_X10_57 ⟨Nat.le_of_ble_eq_true rfl, Nat.le_of_ble_eq_true rfl⟩ dX10_tips_22) cut_M z_hid ?_
    refine z_toA (z_mro cut_M) ?_
    refine z_goto hB (tgt := 45) dX10_tips_25 (by decide) ?_
    refine z_lv [2, 3, 1] rfl ?_
    exact hj6 _ h
def lb_X10_dayGoes_118 (x2 : Int32) (x9 : Int32) (k14 : Int32 → z_S → Option (Int32 × z_S)) (x15 : Int32) (σ16 : z_S) : Option (Int32 × z_S) :=
  z_cki (1 : Int32) 537 <|
  z_let (fun (_ : Unit) => z_cki (4 : Int32) 537 <|
  z_cki (4 : Int32) 537 <|
  z_let (z_u σ16 1 (4 : Int32).toNatClampNeg ((σ16 1 (4 : Int32).toNatClampNeg) + (1 : Int32))) fun σ21 =>
  some (x9, σ21)) fun j18 =>
  if (σ16 1 (1 : Int32).toNatClampNeg) ≤ x15 then
  (j18 ())
  else
  (z_ck (¬ (7 : Int32) = 0) <|
  if (x2 - x2 / (7 : Int32) * (7 : Int32)) = (6 : Int32) then
  (z_b1 (f_X10_tips x15 σ16) fun σ26 =>
  z_let (x15 + (1 : Int32)) fun x27 =>
  k14 x27 σ26)
  else
  (j18 ()))
def lb_X10_dayGoes_70 (x2 : Int32) (k8 : Int32 → Int32 → z_S → Option (Int32 × z_S)) (x9 : Int32) (x10 : Int32) (σ11 : z_S) : Option (Int32 × z_S) :=
  z_cki (2 : Int32) 537 <|
  if (σ11 1 (2 : Int32).toNatClampNeg) ≤ x10 then
  (z_lp2 (lb_X10_dayGoes_118 x2 x9) z_Fu (0 : Int32) σ11)
  else
  (z_b2 (f_X10_goes x10 x2 (1 : Int32) σ11) fun r30 σ29 =>
  z_let (x9 + r30) fun x31 =>
  z_b1 (f_X10_addsCarrier x10 (3 : Int32) (σ29 0 9) σ29) fun σ33 =>
  z_b1 (f_X10_addsCarrier x10 (4 : Int32) (σ33 0 10) σ33) fun σ35 =>
  z_let (x10 + (1 : Int32)) fun x36 =>
  k8 x31 x36 σ35)
def lb_X10_dayGoes_9 (x2 : Int32) (k3 : Int32 → z_S → Option (Int32 × z_S)) (x4 : Int32) (σ5 : z_S) : Option (Int32 × z_S) :=
  z_cki (1 : Int32) 537 <|
  if (σ5 1 (1 : Int32).toNatClampNeg) ≤ x4 then
  (z_lp3 (lb_X10_dayGoes_70 x2) z_Fu (0 : Int32) (0 : Int32) σ5)
  else
  (z_b1 (f_X10_isPaused x4 x2 σ5) fun r38 =>
  z_let (fun (σ39 : z_S) => z_let (x4 + (1 : Int32)) fun x41 =>
  k3 x41 σ39) fun j40 =>
  if r38 = (0 : Int32) then
  (z_b1 (f_X10_of x4 (3 : Int32) σ5) fun r44 =>
  if r44 = (-1 : Int32) then
  (z_b1 (f_X10_become x4 (10 : Int32) σ5) fun σ47 =>
  z_b1 (f_X10_complains x4 σ47) fun σ49 =>
  j40 σ49)
  else
  (j40 σ5))
  else
  (z_b1 (f_X10_become x4 (7 : Int32) σ5) fun σ51 =>
  j40 σ51))
def f_X10_dayGoes (σ : z_S) : Option (Int32 × z_S) :=
  z_cki (4 : Int32) 537 <|
  z_let (σ 1 (4 : Int32).toNatClampNeg) fun x2 =>
  z_lp2 (lb_X10_dayGoes_9 x2) z_Fu (0 : Int32) σ
set_option maxRecDepth 100000 in
set_option maxHeartbeats 4000000 in
theorem c_X10_dayGoes (σ : z_S) (r : Int32) (σz : z_S) (h : f_X10_dayGoes σ = some (r, σz)) : zMet yX10_dayGoes cX10_dayGoes 4 (some .int) 4 100 layM 10 (fun ad => [.ref (ad 0)]) σ (z_QI layM 10 r σz) := by
  refine z_headI RX10 (by decide) rfl (fun _ => Nat.le_of_ble_eq_true rfl) (fun E G A ad hB hret => ?_)
  show ZW E G A 4 layM 10 ad 0 [(0, .ref (ad 0))] [] σ
  unfold f_X10_dayGoes at h
  refine z_aload_n hB 0 dX10_dayGoes_0 rfl rfl ?_
  refine z_getr hB 0 0 1 kM_0 (Nat.le_of_ble_eq_true rfl) vc_10 inlX10 (Nat.le_of_ble_eq_true rfl) rfl (Nat.le_of_ble_eq_true rfl) fl_X10_7 dX10_dayGoes_1 ?_
  refine z_iconst hB dX10_dayGoes_4 zcI_4 ?_
  obtain ⟨h1, h⟩ := z_ckiE h
  refine z_iald hB 1 537 kM_1 (Nat.le_of_ble_eq_true rfl) dX10_dayGoes_5 h1 ?_
  obtain ⟨x2, ex2, h⟩ := z_letE h
  refine z_istore_n hB [(1, .int x2), (0, .ref (ad 0))] dX10_dayGoes_6 rfl (Nat.le_of_ble_eq_true rfl) ex2 rfl ?_
  refine z_iconst hB dX10_dayGoes_7 zcI_0 ?_
  refine z_istore_n hB [(2, .int ((0 : Int32))), (1, .int x2), (0, .ref (ad 0))] dX10_dayGoes_8 rfl (Nat.le_of_ble_eq_true rfl) rfl rfl ?_
  refine z_lv [2, 1, 0] rfl ?_
  refine z_lpr2 (g := fun x4 σ5 => ZW E G A 4 layM 10 ad 9 [(0, .ref (ad 0)), (1, .int x2), (2, .int x4)] [] σ5) (fun k3 x4 σ5 hk_k3 h => ?_) _ _ _ h
  show ZW E G A 4 layM 10 ad 9 [(0, .ref (ad 0)), (1, .int x2), (2, .int x4)] [] σ5
  unfold lb_X10_dayGoes_9 at h
  refine z_iload_n hB 2 dX10_dayGoes_9 rfl rfl ?_
  refine z_aload_n hB 0 dX10_dayGoes_10 rfl rfl ?_
  refine z_getr hB 0 0 1 kM_0 (Nat.le_of_ble_eq_true rfl) vc_10 inlX10 (Nat.le_of_ble_eq_true rfl) rfl (Nat.le_of_ble_eq_true rfl) fl_X10_7 dX10_dayGoes_11 ?_
  refine z_iconst hB dX10_dayGoes_14 zcI_1 ?_
  obtain ⟨h6, h⟩ := z_ckiE h
  refine z_iald hB 1 537 kM_1 (Nat.le_of_ble_eq_true rfl) dX10_dayGoes_15 h6 ?_
  refine z_icmp_ge hB (tgt := 66) dX10_dayGoes_16 (by decide) (fun c7 => ?_) (fun c7 => ?_)
  · have h := z_ifT c7 h
    refine z_iconst hB dX10_dayGoes_66 zcI_0 ?_
    refine z_istore_n hB [(2, .int ((0 : Int32))), (0, .ref (ad 0)), (1, .int x2)] dX10_dayGoes_67 rfl (Nat.le_of_ble_eq_true rfl) rfl rfl ?_
    refine z_iconst hB dX10_dayGoes_68 zcI_0 ?_
    refine z_istore_n hB [(3, .int ((0 : Int32))), (2, .int ((0 : Int32))), (0, .ref (ad 0)), (1, .int x2)] dX10_dayGoes_69 rfl (Nat.le_of_ble_eq_true rfl) rfl rfl ?_
    refine z_lv [2, 3, 1, 0] rfl ?_
    refine z_lpr3 (g := fun x9 x10 σ11 => ZW E G A 4 layM 10 ad 70 [(0, .ref (ad 0)), (1, .int x2), (2, .int x9), (3, .int x10)] [] σ11) (fun k8 x9 x10 σ11 hk_k8 h => ?_) _ _ _ _ h
    show ZW E G A 4 layM 10 ad 70 [(0, .ref (ad 0)), (1, .int x2), (2, .int x9), (3, .int x10)] [] σ11
    unfold lb_X10_dayGoes_70 at h
    refine z_iload_n hB 3 dX10_dayGoes_70 rfl rfl ?_
    refine z_aload_n hB 0 dX10_dayGoes_71 rfl rfl ?_
    refine z_getr hB 0 0 1 kM_0 (Nat.le_of_ble_eq_true rfl) vc_10 inlX10 (Nat.le_of_ble_eq_true rfl) rfl (Nat.le_of_ble_eq_true rfl) fl_X10_7 dX10_dayGoes_72 ?_
    refine z_iconst hB dX10_dayGoes_75 zcI_2 ?_
    obtain ⟨h12, h⟩ := z_ckiE h
    refine z_iald hB 1 537 kM_1 (Nat.le_of_ble_eq_true rfl) dX10_dayGoes_76 h12 ?_
    refine z_icmp_ge hB (tgt := 116) dX10_dayGoes_77 (by decide) (fun c13 => ?_) (fun c13 => ?_)
    · have h := z_ifT c13 h
      refine z_iconst hB dX10_dayGoes_116 zcI_0 ?_
      refine z_istore_n hB [(3, .int ((0 : Int32))), (0, .ref (ad 0)), (1, .int x2), (2, .int x9)] dX10_dayGoes_117 rfl (Nat.le_of_ble_eq_true rfl) rfl rfl ?_
      refine z_lv [1, 2, 3, 0] rfl ?_
      refine z_lpr2 (g := fun x15 σ16 => ZW E G A 4 layM 10 ad 118 [(0, .ref (ad 0)), (1, .int x2), (2, .int x9), (3, .int x15)] [] σ16) (fun k14 x15 σ16 hk_k14 h => ?_) _ _ _ h
      show ZW E G A 4 layM 10 ad 118 [(0, .ref (ad 0)), (1, .int x2), (2, .int x9), (3, .int x15)] [] σ16
      unfold lb_X10_dayGoes_118 at h
      refine z_iload_n hB 3 dX10_dayGoes_118 rfl rfl ?_
      refine z_aload_n hB 0 dX10_dayGoes_119 rfl rfl ?_
      refine z_getr hB 0 0 1 kM_0 (Nat.le_of_ble_eq_true rfl) vc_10 inlX10 (Nat.le_of_ble_eq_true rfl) rfl (Nat.le_of_ble_eq_true rfl) fl_X10_7 dX10_dayGoes_120 ?_
      refine z_iconst hB dX10_dayGoes_123 zcI_1 ?_
      obtain ⟨h17, h⟩ := z_ckiE h
      refine z_iald hB 1 537 kM_1 (Nat.le_of_ble_eq_true rfl) dX10_dayGoes_124 h17 ?_
      obtain ⟨j18, ej18, h⟩ := z_letE h
      have hj18 : ∀ (_ : Unit), j18 () = some (r, σz) → ZW E G A 4 layM 10 ad 148 [(0, .ref (ad 0)), (2, .int x9)] [] σ16 := by
        intro _ h
        rw [ej18] at h
        refine z_aload_n hB 0 dX10_dayGoes_148 rfl rfl ?_
        refine z_getr hB 0 0 1 kM_0 (Nat.le_of_ble_eq_true rfl) vc_10 inlX10 (Nat.le_of_ble_eq_true rfl) rfl (Nat.le_of_ble_eq_true rfl) fl_X10_7 dX10_dayGoes_149 ?_
        refine z_iconst hB dX10_dayGoes_152 zcI_4 ?_
        refine z_dup2 hB dX10_dayGoes_153 rfl rfl ?_
        obtain ⟨h19, h⟩ := z_ckiE h
        refine z_iald hB 1 537 kM_1 (Nat.le_of_ble_eq_true rfl) dX10_dayGoes_154 h19 ?_
        refine z_iconst hB dX10_dayGoes_155 zcI_1 ?_
        refine z_iadd hB dX10_dayGoes_156 ?_
        obtain ⟨h20, h⟩ := z_ckiE h
        obtain ⟨σ21, eσ21, h⟩ := z_letE h
        refine z_iast hB 1 537 kM_1 (Nat.le_of_ble_eq_true rfl) dX10_dayGoes_157 h20 ?_
        refine z_to eσ21 ?_
        refine z_iload_n hB 1 dX10_dayGoes_158 rfl rfl ?_
        obtain ⟨h1, h2⟩ := z_prE h
        exact hret _ _ _ _ h1 h2 rfl dX10_dayGoes_159
      refine z_icmp_ge hB (tgt := 148) dX10_dayGoes_125 (by decide) (fun c22 => ?_) (fun c22 => ?_)
      · have h := z_ifT c22 h
        refine z_lv [0, 2] rfl ?_
        exact hj18 () h
      · have h := z_ifF c22 h
        refine z_iload_n hB 1 dX10_dayGoes_128 rfl rfl ?_
        refine z_bipush hB dX10_dayGoes_129 zcB_7 ?_
        obtain ⟨h23, h⟩ := z_ckE h
        refine z_irem hB dX10_dayGoes_131 h23 ?_
        refine z_bipush hB dX10_dayGoes_132 zcB_6 ?_
        refine z_icmp_ne hB (tgt := 148) dX10_dayGoes_134 (by decide) (fun c24 => ?_) (fun c24 => ?_)
        · have h := z_ifF c24 h
          refine z_lv [0, 2] rfl ?_
          exact hj18 () h
        · have h := z_ifT c24 h
          refine z_aload_n hB 0 dX10_dayGoes_137 rfl rfl ?_
          refine z_iload_n hB 3 dX10_dayGoes_138 rfl rfl ?_
          obtain ⟨σ26, h25, h⟩ := z_b1E h
          refine z_cV hB (z_rV (ι := fun k => k) hB yY_X10_tips (c_X10_tips _ _ _ h25) rfl cut_M z_hid kM_0 (Nat.le_of_ble_eq_true rfl) vc_10 rfl rfl rfl (Nat.le_of_ble_eq_true rfl) ml_X10_154 ⟨Nat.le_of_ble_eq_true rfl, Nat.le_of_ble_eq_true rfl⟩ dX10_dayGoes_139) cut_M z_hid ?_
          refine z_toA z_mid ?_
          obtain ⟨x27, ex27, h⟩ := z_letE h
          refine z_iinc hB 3 [(3, .int x27), (0, .ref (ad 0)), (1, .int x2), (2, .int x9)] dX10_dayGoes_142 rfl (by rw [zcI_1]; exact ex27) (Nat.le_of_ble_eq_true rfl) rfl ?_
          refine z_goto hB (tgt := 118) dX10_dayGoes_145 (by decide) ?_
          refine z_lv [1, 2, 3, 0] rfl ?_
          exact hk_k14 _ _ h
    · have h := z_ifF c13 h
      refine z_iload_n hB 2 dX10_dayGoes_80 rfl rfl ?_
      refine z_aload_n hB 0 dX10_dayGoes_81 rfl rfl ?_
      refine z_iload_n hB 3 dX10_dayGoes_82 rfl rfl ?_
      refine z_iload_n hB 1 dX10_dayGoes_83 rfl rfl ?_
      refine z_iconst hB dX10_dayGoes_84 zcI_1 ?_
      obtain ⟨r30, σ29, h28, h⟩ := z_b2E h
      refine z_cI hB (z_rV (ι := fun k => k) hB yY_X10_goes (c_X10_goes _ _ _ _ _ _ h28) rfl cut_M z_hid kM_0 (Nat.le_of_ble_eq_true rfl) vc_10 rfl rfl rfl (Nat.le_of_ble_eq_true rfl) ml_X10_150 ⟨Nat.le_of_ble_eq_true rfl, Nat.le_of_ble_eq_true rfl⟩ dX10_dayGoes_85) cut_M z_hid ?_
      refine z_toA z_mid ?_
      refine z_iadd hB dX10_dayGoes_88 ?_
      obtain ⟨x31, ex31, h⟩ := z_letE h
      refine z_istore_n hB [(2, .int x31), (0, .ref (ad 0)), (1, .int x2), (3, .int x10)] dX10_dayGoes_89 rfl (Nat.le_of_ble_eq_true rfl) ex31 rfl ?_
      refine z_aload_n hB 1 dX10_dayGoes_90 rfl rfl ?_
      refine z_iload_n hB 3 dX10_dayGoes_91 rfl rfl ?_
      refine z_iconst hB dX10_dayGoes_92 zcI_3 ?_
      refine z_aload_n hB 1 dX10_dayGoes_93 rfl rfl ?_
      refine z_get hB 0 9 kM_0 (Nat.le_of_ble_eq_true rfl) vc_10 inlX10 (Nat.le_of_ble_eq_true rfl) rfl fl_X10_123 dX10_dayGoes_94 ?_
      obtain ⟨σ33, h32, h⟩ := z_b1E h
      refine z_cV hB (z_rV (ι := fun k => k) hB yY_X10_addsCarrier (c_X10_addsCarrier _ _ _ _ _ h32) rfl cut_M z_hid kM_0 (Nat.le_of_ble_eq_true rfl) vc_10 rfl rfl rfl (Nat.le_of_ble_eq_true rfl) ml_X10_82 ⟨Nat.le_of_ble_eq_true rfl, Nat.le_of_ble_eq_true rfl⟩ dX10_dayGoes_97) cut_M z_hid ?_
      refine z_toA z_mid ?_
      refine z_aload_n hB 1 dX10_dayGoes_100 rfl rfl ?_
      refine z_iload_n hB 3 dX10_dayGoes_101 rfl rfl ?_
      refine z_iconst hB dX10_dayGoes_102 zcI_4 ?_
      refine z_aload_n hB 1 dX10_dayGoes_103 rfl rfl ?_
      refine z_get hB 0 10 kM_0 (Nat.le_of_ble_eq_true rfl) vc_10 inlX10 (Nat.le_of_ble_eq_true rfl) rfl fl_X10_109 dX10_dayGoes_104 ?_
      obtain ⟨σ35, h34, h⟩ := z_b1E h
      refine z_cV hB (z_rV (ι := fun k => k) hB yY_X10_addsCarrier (c_X10_addsCarrier _ _ _ _ _ h34) rfl cut_M z_hid kM_0 (Nat.le_of_ble_eq_true rfl) vc_10 rfl rfl rfl (Nat.le_of_ble_eq_true rfl) ml_X10_82 ⟨Nat.le_of_ble_eq_true rfl, Nat.le_of_ble_eq_true rfl⟩ dX10_dayGoes_107) cut_M z_hid ?_
      refine z_toA z_mid ?_
      obtain ⟨x36, ex36, h⟩ := z_letE h
      refine z_iinc hB 3 [(3, .int x36), (2, .int x31), (0, .ref (ad 0)), (1, .int x2)] dX10_dayGoes_110 rfl (by rw [zcI_1]; exact ex36) (Nat.le_of_ble_eq_true rfl) rfl ?_
      refine z_goto hB (tgt := 70) dX10_dayGoes_113 (by decide) ?_
      refine z_lv [2, 3, 1, 0] rfl ?_
      exact hk_k8 _ _ _ h
  · have h := z_ifF c7 h
    refine z_aload_n hB 0 dX10_dayGoes_19 rfl rfl ?_
    refine z_iload_n hB 2 dX10_dayGoes_20 rfl rfl ?_
    refine z_iload_n hB 1 dX10_dayGoes_21 rfl rfl ?_
    obtain ⟨r38, h37, h⟩ := z_b1E h
    refine z_cI hB (z_rV (ι := fun k => k) hB yY_X10_isPaused (c_X10_isPaused _ _ _ _ h37) rfl cut_M z_hid kM_0 (Nat.le_of_ble_eq_true rfl) vc_10 rfl rfl rfl (Nat.le_of_ble_eq_true rfl) ml_X10_138 ⟨Nat.le_of_ble_eq_true rfl, Nat.le_of_ble_eq_true rfl⟩ dX10_dayGoes_22) cut_M z_hid ?_
    refine z_toA (z_mro cut_M) ?_
    obtain ⟨j40, ej40, h⟩ := z_letE h
    have hj40 : ∀ (σ39 : z_S), j40 σ39 = some (r, σz) → ZW E G A 4 layM 10 ad 60 [(0, .ref (ad 0)), (1, .int x2), (2, .int x4)] [] σ39 := by
      intro σ39 h
      rw [ej40] at h
      obtain ⟨x41, ex41, h⟩ := z_letE h
      refine z_iinc hB 2 [(2, .int x41), (0, .ref (ad 0)), (1, .int x2)] dX10_dayGoes_60 rfl (by rw [zcI_1]; exact ex41) (Nat.le_of_ble_eq_true rfl) rfl ?_
      refine z_goto hB (tgt := 9) dX10_dayGoes_63 (by decide) ?_
      refine z_lv [1, 2, 0] rfl ?_
      exact hk_k3 _ _ h
    refine z_if_eq hB (tgt := 38) dX10_dayGoes_25 (by decide) (fun c42 => ?_) (fun c42 => ?_)
    · have h := z_ifT c42 h
      refine z_aload_n hB 0 dX10_dayGoes_38 rfl rfl ?_
      refine z_iload_n hB 2 dX10_dayGoes_39 rfl rfl ?_
      refine z_iconst hB dX10_dayGoes_40 zcI_3 ?_
      obtain ⟨r44, h43, h⟩ := z_b1E h
      refine z_cI hB (z_rV (ι := fun k => k) hB yY_X10_of (c_X10_of _ _ _ _ h43) rfl cut_M z_hid kM_0 (Nat.le_of_ble_eq_true rfl) vc_10 rfl rfl rfl (Nat.le_of_ble_eq_true rfl) ml_X10_57 ⟨Nat.le_of_ble_eq_true rfl, Nat.le_of_ble_eq_true rfl⟩ dX10_dayGoes_41) cut_M z_hid ?_
      refine z_toA (z_mro cut_M) ?_
      refine z_iconst hB dX10_dayGoes_44 zcI_m1 ?_
      refine z_icmp_ne hB (tgt := 60) dX10_dayGoes_45 (by decide) (fun c45 => ?_) (fun c45 => ?_)
      · have h := z_ifF c45 h
        exact hj40 _ h
      · have h := z_ifT c45 h
        refine z_aload_n hB 0 dX10_dayGoes_48 rfl rfl ?_
        refine z_iload_n hB 2 dX10_dayGoes_49 rfl rfl ?_
        refine z_bipush hB dX10_dayGoes_50 zcB_10 ?_
        obtain ⟨σ47, h46, h⟩ := z_b1E h
        refine z_cV hB (z_rV (ι := fun k => k) hB yY_X10_become (c_X10_become _ _ _ _ h46) rfl cut_M z_hid kM_0 (Nat.le_of_ble_eq_true rfl) vc_10 rfl rfl rfl (Nat.le_of_ble_eq_true rfl) ml_X10_115 ⟨Nat.le_of_ble_eq_true rfl, Nat.le_of_ble_eq_true rfl⟩ dX10_dayGoes_52) cut_M z_hid ?_
        refine z_toA z_mid ?_
        refine z_aload_n hB 0 dX10_dayGoes_55 rfl rfl ?_
        refine z_iload_n hB 2 dX10_dayGoes_56 rfl rfl ?_
        obtain ⟨σ49, h48, h⟩ := z_b1E h
        refine z_cV hB (z_rV (ι := fun k => k) hB yY_X10_complains (c_X10_complains _ _ _ h48) rfl cut_M z_hid kM_0 (Nat.le_of_ble_eq_true rfl) vc_10 rfl rfl rfl (Nat.le_of_ble_eq_true rfl) ml_X10_119 ⟨Nat.le_of_ble_eq_true rfl, Nat.le_of_ble_eq_true rfl⟩ dX10_dayGoes_57) cut_M z_hid ?_
        refine z_toA z_mid ?_
        exact hj40 _ h
    · have h := z_ifF c42 h
      refine z_aload_n hB 0 dX10_dayGoes_28 rfl rfl ?_
      refine z_iload_n hB 2 dX10_dayGoes_29 rfl rfl ?_
      refine z_bipush hB dX10_dayGoes_30 zcB_7 ?_
      obtain ⟨σ51, h50, h⟩ := z_b1E h
      refine z_cV hB (z_rV (ι := fun k => k) hB yY_X10_become (c_X10_become _ _ _ _ h50) rfl cut_M z_hid kM_0 (Nat.le_of_ble_eq_true rfl) vc_10 rfl rfl rfl (Nat.le_of_ble_eq_true rfl) ml_X10_115 ⟨Nat.le_of_ble_eq_true rfl, Nat.le_of_ble_eq_true rfl⟩ dX10_dayGoes_32) cut_M z_hid ?_
      refine z_toA z_mid ?_
      refine z_goto hB (tgt := 60) dX10_dayGoes_35 (by decide) ?_
      exact hj40 _ h
def lb_X10_daysGo_33 (p1 : Int32) (k6 : Int32 → Int32 → z_S → Option (Int32 × z_S)) (x7 : Int32) (x8 : Int32) (σ9 : z_S) : Option (Int32 × z_S) :=
  if p1 ≤ x8 then
  (some (x7, σ9))
  else
  (z_b2 (f_X10_dayGoes σ9) fun r13 σ12 =>
  z_let (x7 + r13) fun x14 =>
  z_let (x8 + (1 : Int32)) fun x15 =>
  k6 x14 x15 σ12)
def f_X10_daysGo (p1 : Int32) (σ : z_S) : Option (Int32 × z_S) :=
  z_b1 (f_X10_in p1 (1 : Int32) (31 : Int32) σ) fun r2 =>
  if r2 = (0 : Int32) then
  (some ((-1 : Int32), σ))
  else
  (z_cki (4 : Int32) 537 <|
  if ((σ 1 (4 : Int32).toNatClampNeg) + p1) ≤ (1000 : Int32) then
  (z_lp3 (lb_X10_daysGo_33 p1) z_Fu (0 : Int32) (0 : Int32) σ)
  else
  (some ((-3 : Int32), σ)))
set_option maxRecDepth 100000 in
set_option maxHeartbeats 4000000 in
theorem c_X10_daysGo (p1 : Int32) (σ : z_S) (r : Int32) (σz : z_S) (h : f_X10_daysGo p1 σ = some (r, σz)) : zMet yX10_daysGo cX10_daysGo 4 (some .int) 5 123 layM 10 (fun ad => [.ref (ad 0), .int p1]) σ (z_QI layM 10 r σz) := by
  refine z_headI RX10 (by decide) rfl (fun _ => Nat.le_of_ble_eq_true rfl) (fun E G A ad hB hret => ?_)
  show ZW E G A 4 layM 10 ad 0 [(0, .ref (ad 0)), (1, .int p1)] [] σ
  unfold f_X10_daysGo at h
  refine z_iload_n hB 1 dX10_daysGo_0 rfl rfl ?_
  refine z_iconst hB dX10_daysGo_1 zcI_1 ?_
  refine z_bipush hB dX10_daysGo_2 zcB_31 ?_
  obtain ⟨r2, h1, h⟩ := z_b1E h
  refine z_cI hB (z_rS (ι := fun k => k) hB yY_X10_in (c_X10_in _ _ _ _ _ h1) rfl z_cut0 z_hno rfl rfl rfl (Nat.le_of_ble_eq_true rfl) ml_X10_45 ⟨Nat.le_of_ble_eq_true rfl, Nat.le_of_ble_eq_true rfl⟩ dX10_daysGo_4) z_cut0 z_hno ?_
  refine z_toA (z_mro (lay := layM) (lay' := z_lay0) (b := false) z_cut0) ?_
  refine z_if_ne hB (tgt := 12) dX10_daysGo_7 (by decide) (fun c3 => ?_) (fun c3 => ?_)
  · have h := z_ifF c3 h
    refine z_aload_n hB 0 dX10_daysGo_12 rfl rfl ?_
    refine z_getr hB 0 0 1 kM_0 (Nat.le_of_ble_eq_true rfl) vc_10 inlX10 (Nat.le_of_ble_eq_true rfl) rfl (Nat.le_of_ble_eq_true rfl) fl_X10_7 dX10_daysGo_13 ?_
    refine z_iconst hB dX10_daysGo_16 zcI_4 ?_
    obtain ⟨h4, h⟩ := z_ckiE h
    refine z_iald hB 1 537 kM_1 (Nat.le_of_ble_eq_true rfl) dX10_daysGo_17 h4 ?_
    refine z_iload_n hB 1 dX10_daysGo_18 rfl rfl ?_
    refine z_iadd hB dX10_daysGo_19 ?_
    refine z_sipush hB dX10_daysGo_20 zcS_1000 ?_
    refine z_icmp_le hB (tgt := 29) dX10_daysGo_23 (by decide) (fun c5 => ?_) (fun c5 => ?_)
    · have h := z_ifT c5 h
      refine z_iconst hB dX10_daysGo_29 zcI_0 ?_
      refine z_istore_n hB [(2, .int ((0 : Int32))), (0, .ref (ad 0)), (1, .int p1)] dX10_daysGo_30 rfl (Nat.le_of_ble_eq_true rfl) rfl rfl ?_
      refine z_iconst hB dX10_daysGo_31 zcI_0 ?_
      refine z_istore_n hB [(3, .int ((0 : Int32))), (2, .int ((0 : Int32))), (0, .ref (ad 0)), (1, .int p1)] dX10_daysGo_32 rfl (Nat.le_of_ble_eq_true rfl) rfl rfl ?_
      refine z_lv [2, 3, 1, 0] rfl ?_
      refine z_lpr3 (g := fun x7 x8 σ9 => ZW E G A 4 layM 10 ad 33 [(0, .ref (ad 0)), (1, .int p1), (2, .int x7), (3, .int x8)] [] σ9) (fun k6 x7 x8 σ9 hk_k6 h => ?_) _ _ _ _ h
      show ZW E G A 4 layM 10 ad 33 [(0, .ref (ad 0)), (1, .int p1), (2, .int x7), (3, .int x8)] [] σ9
      unfold lb_X10_daysGo_33 at h
      refine z_iload_n hB 3 dX10_daysGo_33 rfl rfl ?_
      refine z_iload_n hB 1 dX10_daysGo_34 rfl rfl ?_
      refine z_icmp_ge hB (tgt := 51) dX10_daysGo_35 (by decide) (fun c10 => ?_) (fun c10 => ?_)
      · have h := z_ifT c10 h
        refine z_iload_n hB 2 dX10_daysGo_51 rfl rfl ?_
        obtain ⟨h1, h2⟩ := z_prE h
        exact hret _ _ _ _ h1 h2 rfl dX10_daysGo_52
      · have h := z_ifF c10 h
        refine z_iload_n hB 2 dX10_daysGo_38 rfl rfl ?_
        refine z_aload_n hB 0 dX10_daysGo_39 rfl rfl ?_
        obtain ⟨r13, σ12, h11, h⟩ := z_b2E h
        refine z_cI hB (z_rV (ι := fun k => k) hB yY_X10_dayGoes (c_X10_dayGoes _ _ _ h11) rfl cut_M z_hid kM_0 (Nat.le_of_ble_eq_true rfl) vc_10 rfl rfl rfl (Nat.le_of_ble_eq_true rfl) ml_X10_157 ⟨Nat.le_of_ble_eq_true rfl, Nat.le_of_ble_eq_true rfl⟩ dX10_daysGo_40) cut_M z_hid ?_
        refine z_toA z_mid ?_
        refine z_iadd hB dX10_daysGo_43 ?_
        obtain ⟨x14, ex14, h⟩ := z_letE h
        refine z_istore_n hB [(2, .int x14), (0, .ref (ad 0)), (1, .int p1), (3, .int x8)] dX10_daysGo_44 rfl (Nat.le_of_ble_eq_true rfl) ex14 rfl ?_
        obtain ⟨x15, ex15, h⟩ := z_letE h
        refine z_iinc hB 3 [(3, .int x15), (2, .int x14), (0, .ref (ad 0)), (1, .int p1)] dX10_daysGo_45 rfl (by rw [zcI_1]; exact ex15) (Nat.le_of_ble_eq_true rfl) rfl ?_
        refine z_goto hB (tgt := 33) dX10_daysGo_48 (by decide) ?_
        refine z_lv [2, 3, 1, 0] rfl ?_
        exact hk_k6 _ _ _ h
    · have h := z_ifF c5 h
      refine z_bipush hB dX10_daysGo_26 zcB_m3 ?_
      obtain ⟨h1, h2⟩ := z_prE h
      exact hret _ _ _ _ h1 h2 rfl dX10_daysGo_28
  · have h := z_ifT c3 h
    refine z_iconst hB dX10_daysGo_10 zcI_m1 ?_
    obtain ⟨h1, h2⟩ := z_prE h
    exact hret _ _ _ _ h1 h2 rfl dX10_daysGo_11
def f_X10_days (p1 : Int32) (σ : z_S) : Option (Int32 × z_S) :=
  z_b1 (f_X10_notes σ) fun σ2 =>
  z_b2 (f_X10_daysGo p1 σ2) fun r5 σ4 =>
  z_b2 (f_X10_ends r5 σ4) fun r8 σ7 =>
  some (r8, σ7)
set_option maxRecDepth 100000 in
set_option maxHeartbeats 4000000 in
theorem c_X10_days (p1 : Int32) (σ : z_S) (r : Int32) (σz : z_S) (h : f_X10_days p1 σ = some (r, σz)) : zMet yX10_days cX10_days 2 (some .int) 6 146 layM 10 (fun ad => [.ref (ad 0), .int p1]) σ (z_QI layM 10 r σz) := by
  refine z_headI RX10 (by decide) rfl (fun _ => Nat.le_of_ble_eq_true rfl) (fun E G A ad hB hret => ?_)
  show ZW E G A 2 layM 10 ad 0 [(0, .ref (ad 0)), (1, .int p1)] [] σ
  unfold f_X10_days at h
  refine z_aload_n hB 0 dX10_days_0 rfl rfl ?_
  obtain ⟨σ2, h1, h⟩ := z_b1E h
  refine z_cV hB (z_rV (ι := fun k => k) hB yY_X10_notes (c_X10_notes _ _ h1) rfl cut_M z_hid kM_0 (Nat.le_of_ble_eq_true rfl) vc_10 rfl rfl rfl (Nat.le_of_ble_eq_true rfl) ml_X10_64 ⟨Nat.le_of_ble_eq_true rfl, Nat.le_of_ble_eq_true rfl⟩ dX10_days_1) cut_M z_hid ?_
  refine z_toA z_mid ?_
  refine z_aload_n hB 0 dX10_days_4 rfl rfl ?_
  refine z_aload_n hB 0 dX10_days_5 rfl rfl ?_
  refine z_iload_n hB 1 dX10_days_6 rfl rfl ?_
  obtain ⟨r5, σ4, h3, h⟩ := z_b2E h
  refine z_cI hB (z_rV (ι := fun k => k) hB yY_X10_daysGo (c_X10_daysGo _ _ _ _ h3) rfl cut_M z_hid kM_0 (Nat.le_of_ble_eq_true rfl) vc_10 rfl rfl rfl (Nat.le_of_ble_eq_true rfl) ml_X10_161 ⟨Nat.le_of_ble_eq_true rfl, Nat.le_of_ble_eq_true rfl⟩ dX10_days_7) cut_M z_hid ?_
  refine z_toA z_mid ?_
  obtain ⟨r8, σ7, h6, h⟩ := z_b2E h
  refine z_cI hB (z_rV (ι := fun k => k) hB yY_X10_ends (c_X10_ends _ _ _ _ h6) rfl cut_M z_hid kM_0 (Nat.le_of_ble_eq_true rfl) vc_10 rfl rfl rfl (Nat.le_of_ble_eq_true rfl) ml_X10_67 ⟨Nat.le_of_ble_eq_true rfl, Nat.le_of_ble_eq_true rfl⟩ dX10_days_10) cut_M z_hid ?_
  refine z_toA z_mid ?_
  obtain ⟨h1, h2⟩ := z_prE h
  exact hret _ _ _ _ h1 h2 rfl dX10_days_13
def lb_X10_housesBeyond_4 (p1 : Int32) (σ : z_S) (k1 : Int32 → Int32 → Option Int32) (x2 : Int32) (x3 : Int32) : Option Int32 :=
  z_cki (1 : Int32) 537 <|
  if (σ 1 (1 : Int32).toNatClampNeg) ≤ x3 then
  (some (x2))
  else
  (z_b1 (f_X10_of x3 (0 : Int32) σ) fun r7 =>
  z_b1 (f_X10_isBeyond r7 p1 σ) fun r9 =>
  z_let (fun (y10 : Int32) => z_let (x2 + y10) fun x12 =>
  z_let (x3 + (1 : Int32)) fun x13 =>
  k1 x12 x13) fun j11 =>
  if r9 = (0 : Int32) then
  (j11 (0 : Int32))
  else
  (j11 (1 : Int32)))
def f_X10_housesBeyond (p1 : Int32) (σ : z_S) : Option Int32 :=
  z_lp2 (lb_X10_housesBeyond_4 p1 σ) z_Fu (0 : Int32) (0 : Int32)
set_option maxRecDepth 100000 in
set_option maxHeartbeats 4000000 in
theorem c_X10_housesBeyond (p1 : Int32) (σ : z_S) (r : Int32) (h : f_X10_housesBeyond p1 σ = some r) : zMet yX10_housesBeyond cX10_housesBeyond 4 (some .int) 2 45 layM 10 (fun ad => [.ref (ad 0), .int p1]) σ (z_QI layM 10 r σ) := by
  refine z_headI RX10 (by decide) rfl (fun _ => Nat.le_of_ble_eq_true rfl) (fun E G A ad hB hret => ?_)
  show ZW E G A 4 layM 10 ad 0 [(0, .ref (ad 0)), (1, .int p1)] [] σ
  unfold f_X10_housesBeyond at h
  refine z_iconst hB dX10_housesBeyond_0 zcI_0 ?_
  refine z_istore_n hB [(2, .int ((0 : Int32))), (0, .ref (ad 0)), (1, .int p1)] dX10_housesBeyond_1 rfl (Nat.le_of_ble_eq_true rfl) rfl rfl ?_
  refine z_iconst hB dX10_housesBeyond_2 zcI_0 ?_
  refine z_istore_n hB [(3, .int ((0 : Int32))), (2, .int ((0 : Int32))), (0, .ref (ad 0)), (1, .int p1)] dX10_housesBeyond_3 rfl (Nat.le_of_ble_eq_true rfl) rfl rfl ?_
  refine z_lv [2, 3, 1, 0] rfl ?_
  refine z_lpr2 (g := fun x2 x3 => ZW E G A 4 layM 10 ad 4 [(0, .ref (ad 0)), (1, .int p1), (2, .int x2), (3, .int x3)] [] σ) (fun k1 x2 x3 hk_k1 h => ?_) _ _ _ h
  show ZW E G A 4 layM 10 ad 4 [(0, .ref (ad 0)), (1, .int p1), (2, .int x2), (3, .int x3)] [] σ
  unfold lb_X10_housesBeyond_4 at h
  refine z_iload_n hB 3 dX10_housesBeyond_4 rfl rfl ?_
  refine z_aload_n hB 0 dX10_housesBeyond_5 rfl rfl ?_
  refine z_getr hB 0 0 1 kM_0 (Nat.le_of_ble_eq_true rfl) vc_10 inlX10 (Nat.le_of_ble_eq_true rfl) rfl (Nat.le_of_ble_eq_true rfl) fl_X10_7 dX10_housesBeyond_6 ?_
  refine z_iconst hB dX10_housesBeyond_9 zcI_1 ?_
  obtain ⟨h4, h⟩ := z_ckiE h
  refine z_iald hB 1 537 kM_1 (Nat.le_of_ble_eq_true rfl) dX10_housesBeyond_10 h4 ?_
  refine z_icmp_ge hB (tgt := 42) dX10_housesBeyond_11 (by decide) (fun c5 => ?_) (fun c5 => ?_)
  · have h := z_ifT c5 h
    refine z_iload_n hB 2 dX10_housesBeyond_42 rfl rfl ?_
    exact hret _ _ _ _ (Option.some.inj h) rfl rfl dX10_housesBeyond_43
  · have h := z_ifF c5 h
    refine z_iload_n hB 2 dX10_housesBeyond_14 rfl rfl ?_
    refine z_aload_n hB 0 dX10_housesBeyond_15 rfl rfl ?_
    refine z_aload_n hB 0 dX10_housesBeyond_16 rfl rfl ?_
    refine z_iload_n hB 3 dX10_housesBeyond_17 rfl rfl ?_
    refine z_iconst hB dX10_housesBeyond_18 zcI_0 ?_
    obtain ⟨r7, h6, h⟩ := z_b1E h
    refine z_cI hB (z_rV (ι := fun k => k) hB yY_X10_of (c_X10_of _ _ _ _ h6) rfl cut_M z_hid kM_0 (Nat.le_of_ble_eq_true rfl) vc_10 rfl rfl rfl (Nat.le_of_ble_eq_true rfl) ml_X10_57 ⟨Nat.le_of_ble_eq_true rfl, Nat.le_of_ble_eq_true rfl⟩ dX10_housesBeyond_19) cut_M z_hid ?_
    refine z_toA (z_mro cut_M) ?_
    refine z_iload_n hB 1 dX10_housesBeyond_22 rfl rfl ?_
    obtain ⟨r9, h8, h⟩ := z_b1E h
    refine z_cI hB (z_rV (ι := fun k => k) hB yY_X10_isBeyond (c_X10_isBeyond _ _ _ _ h8) rfl cut_M z_hid kM_0 (Nat.le_of_ble_eq_true rfl) vc_10 rfl rfl rfl (Nat.le_of_ble_eq_true rfl) ml_X10_53 ⟨Nat.le_of_ble_eq_true rfl, Nat.le_of_ble_eq_true rfl⟩ dX10_housesBeyond_23) cut_M z_hid ?_
    refine z_toA (z_mro cut_M) ?_
    obtain ⟨j11, ej11, h⟩ := z_letE h
    have hj11 : ∀ (y10 : Int32), j11 y10 = some r → ZW E G A 4 layM 10 ad 34 [(0, .ref (ad 0)), (1, .int p1), (3, .int x3)] [.int y10, .int x2] σ := by
      intro y10 h
      rw [ej11] at h
      refine z_iadd hB dX10_housesBeyond_34 ?_
      obtain ⟨x12, ex12, h⟩ := z_letE h
      refine z_istore_n hB [(2, .int x12), (0, .ref (ad 0)), (1, .int p1), (3, .int x3)] dX10_housesBeyond_35 rfl (Nat.le_of_ble_eq_true rfl) ex12 rfl ?_
      obtain ⟨x13, ex13, h⟩ := z_letE h
      refine z_iinc hB 3 [(3, .int x13), (2, .int x12), (0, .ref (ad 0)), (1, .int p1)] dX10_housesBeyond_36 rfl (by rw [zcI_1]; exact ex13) (Nat.le_of_ble_eq_true rfl) rfl ?_
      refine z_goto hB (tgt := 4) dX10_housesBeyond_39 (by decide) ?_
      refine z_lv [2, 3, 1, 0] rfl ?_
      exact hk_k1 _ _ h
    refine z_if_eq hB (tgt := 33) dX10_housesBeyond_26 (by decide) (fun c14 => ?_) (fun c14 => ?_)
    · have h := z_ifT c14 h
      refine z_iconst hB dX10_housesBeyond_33 zcI_0 ?_
      refine z_lv [0, 1, 3] rfl ?_
      exact hj11 _ h
    · have h := z_ifF c14 h
      refine z_iconst hB dX10_housesBeyond_29 zcI_1 ?_
      refine z_goto hB (tgt := 34) dX10_housesBeyond_30 (by decide) ?_
      refine z_lv [0, 1, 3] rfl ?_
      exact hj11 _ h
def f_X10_cornerOf (p1 : Int32) (p2 : Int32) (σ : z_S) : Option Int32 :=
  z_b1 (f_X10_isCorner p1 σ) fun r2 =>
  if r2 = (0 : Int32) then
  (some ((-1 : Int32)))
  else
  (z_b1 (f_X10_in p2 (0 : Int32) (6 : Int32) σ) fun r5 =>
  if r5 = (0 : Int32) then
  (some ((-1 : Int32)))
  else
  (z_let (fun (_ : Unit) => if (4 : Int32) ≤ p2 then
  (if p2 = (4 : Int32) then
  (z_b1 (f_X10_farOf p1 σ) fun r17 =>
  some (r17))
  else
  (if p2 = (5 : Int32) then
  (z_b1 (f_X10_housesBeyond p1 σ) fun r15 =>
  some (r15))
  else
  (z_b1 (f_X10_cartsCome p1 σ) fun r12 =>
  if r12 = (0 : Int32) then
  (some ((0 : Int32)))
  else
  (some ((1 : Int32))))))
  else
  (z_b1 (f_X10_ofCorner p1 p2 σ) fun r19 =>
  some (r19))) fun j7 =>
  if p1 = (0 : Int32) then
  (if p2 < (2 : Int32) then
  (some ((-4 : Int32)))
  else
  (if p2 = (3 : Int32) then
  (some ((-4 : Int32)))
  else
  (j7 ())))
  else
  (j7 ())))
set_option maxRecDepth 100000 in
set_option maxHeartbeats 4000000 in
theorem c_X10_cornerOf (p1 : Int32) (p2 : Int32) (σ : z_S) (r : Int32) (h : f_X10_cornerOf p1 p2 σ = some r) : zMet yX10_cornerOf cX10_cornerOf 3 (some .int) 3 68 layM 10 (fun ad => [.ref (ad 0), .int p1, .int p2]) σ (z_QI layM 10 r σ) := by
  refine z_headI RX10 (by decide) rfl (fun _ => Nat.le_of_ble_eq_true rfl) (fun E G A ad hB hret => ?_)
  show ZW E G A 3 layM 10 ad 0 [(0, .ref (ad 0)), (1, .int p1), (2, .int p2)] [] σ
  unfold f_X10_cornerOf at h
  refine z_aload_n hB 0 dX10_cornerOf_0 rfl rfl ?_
  refine z_iload_n hB 1 dX10_cornerOf_1 rfl rfl ?_
  obtain ⟨r2, h1, h⟩ := z_b1E h
  refine z_cI hB (z_rV (ι := fun k => k) hB yY_X10_isCorner (c_X10_isCorner _ _ _ h1) rfl cut_M z_hid kM_0 (Nat.le_of_ble_eq_true rfl) vc_10 rfl rfl rfl (Nat.le_of_ble_eq_true rfl) ml_X10_60 ⟨Nat.le_of_ble_eq_true rfl, Nat.le_of_ble_eq_true rfl⟩ dX10_cornerOf_2) cut_M z_hid ?_
  refine z_toA (z_mro cut_M) ?_
  refine z_if_eq hB (tgt := 18) dX10_cornerOf_5 (by decide) (fun c3 => ?_) (fun c3 => ?_)
  · have h := z_ifT c3 h
    refine z_iconst hB dX10_cornerOf_18 zcI_m1 ?_
    exact hret _ _ _ _ (Option.some.inj h) rfl rfl dX10_cornerOf_19
  · have h := z_ifF c3 h
    refine z_iload_n hB 2 dX10_cornerOf_8 rfl rfl ?_
    refine z_iconst hB dX10_cornerOf_9 zcI_0 ?_
    refine z_bipush hB dX10_cornerOf_10 zcB_6 ?_
    obtain ⟨r5, h4, h⟩ := z_b1E h
    refine z_cI hB (z_rS (ι := fun k => k) hB yY_X10_in (c_X10_in _ _ _ _ _ h4) rfl z_cut0 z_hno rfl rfl rfl (Nat.le_of_ble_eq_true rfl) ml_X10_45 ⟨Nat.le_of_ble_eq_true rfl, Nat.le_of_ble_eq_true rfl⟩ dX10_cornerOf_12) z_cut0 z_hno ?_
    refine z_toA (z_mro (lay := layM) (lay' := z_lay0) (b := false) z_cut0) ?_
    refine z_if_ne hB (tgt := 20) dX10_cornerOf_15 (by decide) (fun c6 => ?_) (fun c6 => ?_)
    · have h := z_ifF c6 h
      refine z_iload_n hB 1 dX10_cornerOf_20 rfl rfl ?_
      obtain ⟨j7, ej7, h⟩ := z_letE h
      have hj7 : ∀ (_ : Unit), j7 () = some r → ZW E G A 3 layM 10 ad 37 [(0, .ref (ad 0)), (1, .int p1), (2, .int p2)] [] σ := by
        intro _ h
        rw [ej7] at h
        refine z_iload_n hB 2 dX10_cornerOf_37 rfl rfl ?_
        refine z_iconst hB dX10_cornerOf_38 zcI_4 ?_
        refine z_icmp_ge hB (tgt := 51) dX10_cornerOf_39 (by decide) (fun c8 => ?_) (fun c8 => ?_)
        · have h := z_ifT c8 h
          refine z_iload_n hB 2 dX10_cornerOf_51 rfl rfl ?_
          refine z_iconst hB dX10_cornerOf_52 zcI_4 ?_
          refine z_icmp_ne hB (tgt := 64) dX10_cornerOf_53 (by decide) (fun c9 => ?_) (fun c9 => ?_)
          · have h := z_ifF c9 h
            refine z_iload_n hB 2 dX10_cornerOf_64 rfl rfl ?_
            refine z_iconst hB dX10_cornerOf_65 zcI_5 ?_
            refine z_icmp_ne hB (tgt := 77) dX10_cornerOf_66 (by decide) (fun c10 => ?_) (fun c10 => ?_)
            · have h := z_ifF c10 h
              refine z_aload_n hB 0 dX10_cornerOf_77 rfl rfl ?_
              refine z_iload_n hB 1 dX10_cornerOf_78 rfl rfl ?_
              obtain ⟨r12, h11, h⟩ := z_b1E h
              refine z_cI hB (z_rV (ι := fun k => k) hB yY_X10_cartsCome (c_X10_cartsCome _ _ _ h11) rfl cut_M z_hid kM_0 (Nat.le_of_ble_eq_true rfl) vc_10 rfl rfl rfl (Nat.le_of_ble_eq_true rfl) ml_X10_88 ⟨Nat.le_of_ble_eq_true rfl, Nat.le_of_ble_eq_true rfl⟩ dX10_cornerOf_79) cut_M z_hid ?_
              refine z_toA (z_mro cut_M) ?_
              refine z_if_eq hB (tgt := 89) dX10_cornerOf_82 (by decide) (fun c13 => ?_) (fun c13 => ?_)
              · have h := z_ifT c13 h
                refine z_iconst hB dX10_cornerOf_89 zcI_0 ?_
                exact hret _ _ _ _ (Option.some.inj h) rfl rfl dX10_cornerOf_90
              · have h := z_ifF c13 h
                refine z_iconst hB dX10_cornerOf_85 zcI_1 ?_
                refine z_goto hB (tgt := 90) dX10_cornerOf_86 (by decide) ?_
                exact hret _ _ _ _ (Option.some.inj h) rfl rfl dX10_cornerOf_90
            · have h := z_ifT c10 h
              refine z_aload_n hB 0 dX10_cornerOf_69 rfl rfl ?_
              refine z_iload_n hB 1 dX10_cornerOf_70 rfl rfl ?_
              obtain ⟨r15, h14, h⟩ := z_b1E h
              refine z_cI hB (z_rV (ι := fun k => k) hB yY_X10_housesBeyond (c_X10_housesBeyond _ _ _ h14) rfl cut_M z_hid kM_0 (Nat.le_of_ble_eq_true rfl) vc_10 rfl rfl rfl (Nat.le_of_ble_eq_true rfl) ml_X10_167 ⟨Nat.le_of_ble_eq_true rfl, Nat.le_of_ble_eq_true rfl⟩ dX10_cornerOf_71) cut_M z_hid ?_
              refine z_toA (z_mro cut_M) ?_
              refine z_goto hB (tgt := 90) dX10_cornerOf_74 (by decide) ?_
              exact hret _ _ _ _ (Option.some.inj h) rfl rfl dX10_cornerOf_90
          · have h := z_ifT c9 h
            refine z_aload_n hB 0 dX10_cornerOf_56 rfl rfl ?_
            refine z_iload_n hB 1 dX10_cornerOf_57 rfl rfl ?_
            obtain ⟨r17, h16, h⟩ := z_b1E h
            refine z_cI hB (z_rV (ι := fun k => k) hB yY_X10_farOf (c_X10_farOf _ _ _ h16) rfl cut_M z_hid kM_0 (Nat.le_of_ble_eq_true rfl) vc_10 rfl rfl rfl (Nat.le_of_ble_eq_true rfl) ml_X10_164 ⟨Nat.le_of_ble_eq_true rfl, Nat.le_of_ble_eq_true rfl⟩ dX10_cornerOf_58) cut_M z_hid ?_
            refine z_toA (z_mro cut_M) ?_
            refine z_goto hB (tgt := 90) dX10_cornerOf_61 (by decide) ?_
            exact hret _ _ _ _ (Option.some.inj h) rfl rfl dX10_cornerOf_90
        · have h := z_ifF c8 h
          refine z_aload_n hB 0 dX10_cornerOf_42 rfl rfl ?_
          refine z_iload_n hB 1 dX10_cornerOf_43 rfl rfl ?_
          refine z_iload_n hB 2 dX10_cornerOf_44 rfl rfl ?_
          obtain ⟨r19, h18, h⟩ := z_b1E h
          refine z_cI hB (z_rV (ι := fun k => k) hB yY_X10_ofCorner (c_X10_ofCorner _ _ _ _ h18) rfl cut_M z_hid kM_0 (Nat.le_of_ble_eq_true rfl) vc_10 rfl rfl rfl (Nat.le_of_ble_eq_true rfl) ml_X10_49 ⟨Nat.le_of_ble_eq_true rfl, Nat.le_of_ble_eq_true rfl⟩ dX10_cornerOf_45) cut_M z_hid ?_
          refine z_toA (z_mro cut_M) ?_
          refine z_goto hB (tgt := 90) dX10_cornerOf_48 (by decide) ?_
          exact hret _ _ _ _ (Option.some.inj h) rfl rfl dX10_cornerOf_90
      refine z_if_ne hB (tgt := 37) dX10_cornerOf_21 (by decide) (fun c20 => ?_) (fun c20 => ?_)
      · have h := z_ifF c20 h
        exact hj7 () h
      · have h := z_ifT c20 h
        refine z_iload_n hB 2 dX10_cornerOf_24 rfl rfl ?_
        refine z_iconst hB dX10_cornerOf_25 zcI_2 ?_
        refine z_icmp_lt hB (tgt := 34) dX10_cornerOf_26 (by decide) (fun c21 => ?_) (fun c21 => ?_)
        · have h := z_ifT c21 h
          refine z_bipush hB dX10_cornerOf_34 zcB_m4 ?_
          exact hret _ _ _ _ (Option.some.inj h) rfl rfl dX10_cornerOf_36
        · have h := z_ifF c21 h
          refine z_iload_n hB 2 dX10_cornerOf_29 rfl rfl ?_
          refine z_iconst hB dX10_cornerOf_30 zcI_3 ?_
          refine z_icmp_ne hB (tgt := 37) dX10_cornerOf_31 (by decide) (fun c22 => ?_) (fun c22 => ?_)
          · have h := z_ifF c22 h
            exact hj7 () h
          · have h := z_ifT c22 h
            refine z_bipush hB dX10_cornerOf_34 zcB_m4 ?_
            exact hret _ _ _ _ (Option.some.inj h) rfl rfl dX10_cornerOf_36
    · have h := z_ifT c6 h
      refine z_iconst hB dX10_cornerOf_18 zcI_m1 ?_
      exact hret _ _ _ _ (Option.some.inj h) rfl rfl dX10_cornerOf_19
def f_X10_houseOf (p1 : Int32) (p2 : Int32) (σ : z_S) : Option Int32 :=
  z_b1 (f_X10_isHouse p1 σ) fun r2 =>
  if r2 = (0 : Int32) then
  (some ((-1 : Int32)))
  else
  (z_b1 (f_X10_in p2 (0 : Int32) (11 : Int32) σ) fun r5 =>
  if r5 = (0 : Int32) then
  (some ((-1 : Int32)))
  else
  (if p2 = (3 : Int32) then
  (z_b1 (f_X10_of p1 (3 : Int32) σ) fun r9 =>
  if r9 = (-1 : Int32) then
  (some ((-4 : Int32)))
  else
  (z_b1 (f_X10_of p1 (3 : Int32) σ) fun r12 =>
  some (r12)))
  else if p2 = (4 : Int32) then
  (z_b1 (f_X10_of p1 (4 : Int32) σ) fun r15 =>
  if r15 = (0 : Int32) then
  (some ((-4 : Int32)))
  else
  (z_b1 (f_X10_of p1 (4 : Int32) σ) fun r18 =>
  some (r18)))
  else if p2 = (5 : Int32) then
  (z_cki (4 : Int32) 537 <|
  z_b1 (f_X10_isPaused p1 (σ 1 (4 : Int32).toNatClampNeg) σ) fun r22 =>
  if r22 = (0 : Int32) then
  (some ((0 : Int32)))
  else
  (some ((1 : Int32))))
  else if p2 = (6 : Int32) then
  (z_b1 (f_X10_of p1 p2 σ) fun r26 =>
  some (r26))
  else if p2 = (7 : Int32) then
  (z_b1 (f_X10_of p1 p2 σ) fun r29 =>
  some (r29))
  else if p2 = (8 : Int32) then
  (z_b1 (f_X10_of p1 (8 : Int32) σ) fun r32 =>
  z_b1 (f_X10_of p1 (9 : Int32) σ) fun r34 =>
  some (r32 + r34))
  else if p2 = (9 : Int32) then
  (z_b1 (f_X10_of p1 (p2 + (1 : Int32)) σ) fun r37 =>
  some (r37))
  else if p2 = (10 : Int32) then
  (z_b1 (f_X10_of p1 (p2 + (1 : Int32)) σ) fun r40 =>
  some (r40))
  else if p2 = (11 : Int32) then
  (z_b1 (f_X10_of p1 (p2 + (1 : Int32)) σ) fun r43 =>
  some (r43))
  else (z_b1 (f_X10_of p1 p2 σ) fun r45 =>
  some (r45))))
set_option maxRecDepth 100000 in
set_option maxHeartbeats 4000000 in
theorem c_X10_houseOf (p1 : Int32) (p2 : Int32) (σ : z_S) (r : Int32) (h : f_X10_houseOf p1 p2 σ = some r) : zMet yX10_houseOf cX10_houseOf 3 (some .int) 2 47 layM 10 (fun ad => [.ref (ad 0), .int p1, .int p2]) σ (z_QI layM 10 r σ) := by
  refine z_headI RX10 (by decide) rfl (fun _ => Nat.le_of_ble_eq_true rfl) (fun E G A ad hB hret => ?_)
  show ZW E G A 3 layM 10 ad 0 [(0, .ref (ad 0)), (1, .int p1), (2, .int p2)] [] σ
  unfold f_X10_houseOf at h
  refine z_aload_n hB 0 dX10_houseOf_0 rfl rfl ?_
  refine z_iload_n hB 1 dX10_houseOf_1 rfl rfl ?_
  obtain ⟨r2, h1, h⟩ := z_b1E h
  refine z_cI hB (z_rV (ι := fun k => k) hB yY_X10_isHouse (c_X10_isHouse _ _ _ h1) rfl cut_M z_hid kM_0 (Nat.le_of_ble_eq_true rfl) vc_10 rfl rfl rfl (Nat.le_of_ble_eq_true rfl) ml_X10_75 ⟨Nat.le_of_ble_eq_true rfl, Nat.le_of_ble_eq_true rfl⟩ dX10_houseOf_2) cut_M z_hid ?_
  refine z_toA (z_mro cut_M) ?_
  refine z_if_eq hB (tgt := 18) dX10_houseOf_5 (by decide) (fun c3 => ?_) (fun c3 => ?_)
  · have h := z_ifT c3 h
    refine z_iconst hB dX10_houseOf_18 zcI_m1 ?_
    exact hret _ _ _ _ (Option.some.inj h) rfl rfl dX10_houseOf_19
  · have h := z_ifF c3 h
    refine z_iload_n hB 2 dX10_houseOf_8 rfl rfl ?_
    refine z_iconst hB dX10_houseOf_9 zcI_0 ?_
    refine z_bipush hB dX10_houseOf_10 zcB_11 ?_
    obtain ⟨r5, h4, h⟩ := z_b1E h
    refine z_cI hB (z_rS (ι := fun k => k) hB yY_X10_in (c_X10_in _ _ _ _ _ h4) rfl z_cut0 z_hno rfl rfl rfl (Nat.le_of_ble_eq_true rfl) ml_X10_45 ⟨Nat.le_of_ble_eq_true rfl, Nat.le_of_ble_eq_true rfl⟩ dX10_houseOf_12) z_cut0 z_hno ?_
    refine z_toA (z_mro (lay := layM) (lay' := z_lay0) (b := false) z_cut0) ?_
    refine z_if_ne hB (tgt := 20) dX10_houseOf_15 (by decide) (fun c6 => ?_) (fun c6 => ?_)
    · have h := z_ifF c6 h
      refine z_iload_n hB 2 dX10_houseOf_20 rfl rfl ?_
      by_cases c7 : p2 = (3 : Int32)
      · have h := z_ifT c7 h
        refine z_tableIn hB (tgt := 72) dX10_houseOf_21 c7 (by decide) (by decide) rfl (by decide) ?_
        refine z_aload_n hB 0 dX10_houseOf_72 rfl rfl ?_
        refine z_iload_n hB 1 dX10_houseOf_73 rfl rfl ?_
        refine z_iconst hB dX10_houseOf_74 zcI_3 ?_
        obtain ⟨r9, h8, h⟩ := z_b1E h
        refine z_cI hB (z_rV (ι := fun k => k) hB yY_X10_of (c_X10_of _ _ _ _ h8) rfl cut_M z_hid kM_0 (Nat.le_of_ble_eq_true rfl) vc_10 rfl rfl rfl (Nat.le_of_ble_eq_true rfl) ml_X10_57 ⟨Nat.le_of_ble_eq_true rfl, Nat.le_of_ble_eq_true rfl⟩ dX10_houseOf_75) cut_M z_hid ?_
        refine z_toA (z_mro cut_M) ?_
        refine z_iconst hB dX10_houseOf_78 zcI_m1 ?_
        refine z_icmp_ne hB (tgt := 87) dX10_houseOf_79 (by decide) (fun c10 => ?_) (fun c10 => ?_)
        · have h := z_ifF c10 h
          refine z_aload_n hB 0 dX10_houseOf_87 rfl rfl ?_
          refine z_iload_n hB 1 dX10_houseOf_88 rfl rfl ?_
          refine z_iconst hB dX10_houseOf_89 zcI_3 ?_
          obtain ⟨r12, h11, h⟩ := z_b1E h
          refine z_cI hB (z_rV (ι := fun k => k) hB yY_X10_of (c_X10_of _ _ _ _ h11) rfl cut_M z_hid kM_0 (Nat.le_of_ble_eq_true rfl) vc_10 rfl rfl rfl (Nat.le_of_ble_eq_true rfl) ml_X10_57 ⟨Nat.le_of_ble_eq_true rfl, Nat.le_of_ble_eq_true rfl⟩ dX10_houseOf_90) cut_M z_hid ?_
          refine z_toA (z_mro cut_M) ?_
          exact hret _ _ _ _ (Option.some.inj h) rfl rfl dX10_houseOf_93
        · have h := z_ifT c10 h
          refine z_bipush hB dX10_houseOf_82 zcB_m4 ?_
          refine z_goto hB (tgt := 93) dX10_houseOf_84 (by decide) ?_
          exact hret _ _ _ _ (Option.some.inj h) rfl rfl dX10_houseOf_93
      have h := z_ifF c7 h
      by_cases c13 : p2 = (4 : Int32)
      · have h := z_ifT c13 h
        refine z_tableIn hB (tgt := 94) dX10_houseOf_21 c13 (by decide) (by decide) rfl (by decide) ?_
        refine z_aload_n hB 0 dX10_houseOf_94 rfl rfl ?_
        refine z_iload_n hB 1 dX10_houseOf_95 rfl rfl ?_
        refine z_iconst hB dX10_houseOf_96 zcI_4 ?_
        obtain ⟨r15, h14, h⟩ := z_b1E h
        refine z_cI hB (z_rV (ι := fun k => k) hB yY_X10_of (c_X10_of _ _ _ _ h14) rfl cut_M z_hid kM_0 (Nat.le_of_ble_eq_true rfl) vc_10 rfl rfl rfl (Nat.le_of_ble_eq_true rfl) ml_X10_57 ⟨Nat.le_of_ble_eq_true rfl, Nat.le_of_ble_eq_true rfl⟩ dX10_houseOf_97) cut_M z_hid ?_
        refine z_toA (z_mro cut_M) ?_
        refine z_if_ne hB (tgt := 108) dX10_houseOf_100 (by decide) (fun c16 => ?_) (fun c16 => ?_)
        · have h := z_ifF c16 h
          refine z_aload_n hB 0 dX10_houseOf_108 rfl rfl ?_
          refine z_iload_n hB 1 dX10_houseOf_109 rfl rfl ?_
          refine z_iconst hB dX10_houseOf_110 zcI_4 ?_
          obtain ⟨r18, h17, h⟩ := z_b1E h
          refine z_cI hB (z_rV (ι := fun k => k) hB yY_X10_of (c_X10_of _ _ _ _ h17) rfl cut_M z_hid kM_0 (Nat.le_of_ble_eq_true rfl) vc_10 rfl rfl rfl (Nat.le_of_ble_eq_true rfl) ml_X10_57 ⟨Nat.le_of_ble_eq_true rfl, Nat.le_of_ble_eq_true rfl⟩ dX10_houseOf_111) cut_M z_hid ?_
          refine z_toA (z_mro cut_M) ?_
          exact hret _ _ _ _ (Option.some.inj h) rfl rfl dX10_houseOf_114
        · have h := z_ifT c16 h
          refine z_bipush hB dX10_houseOf_103 zcB_m4 ?_
          refine z_goto hB (tgt := 114) dX10_houseOf_105 (by decide) ?_
          exact hret _ _ _ _ (Option.some.inj h) rfl rfl dX10_houseOf_114
      have h := z_ifF c13 h
      by_cases c19 : p2 = (5 : Int32)
      · have h := z_ifT c19 h
        refine z_tableIn hB (tgt := 115) dX10_houseOf_21 c19 (by decide) (by decide) rfl (by decide) ?_
        refine z_aload_n hB 0 dX10_houseOf_115 rfl rfl ?_
        refine z_iload_n hB 1 dX10_houseOf_116 rfl rfl ?_
        refine z_aload_n hB 0 dX10_houseOf_117 rfl rfl ?_
        refine z_getr hB 0 0 1 kM_0 (Nat.le_of_ble_eq_true rfl) vc_10 inlX10 (Nat.le_of_ble_eq_true rfl) rfl (Nat.le_of_ble_eq_true rfl) fl_X10_7 dX10_houseOf_118 ?_
        refine z_iconst hB dX10_houseOf_121 zcI_4 ?_
        obtain ⟨h20, h⟩ := z_ckiE h
        refine z_iald hB 1 537 kM_1 (Nat.le_of_ble_eq_true rfl) dX10_houseOf_122 h20 ?_
        obtain ⟨r22, h21, h⟩ := z_b1E h
        refine z_cI hB (z_rV (ι := fun k => k) hB yY_X10_isPaused (c_X10_isPaused _ _ _ _ h21) rfl cut_M z_hid kM_0 (Nat.le_of_ble_eq_true rfl) vc_10 rfl rfl rfl (Nat.le_of_ble_eq_true rfl) ml_X10_138 ⟨Nat.le_of_ble_eq_true rfl, Nat.le_of_ble_eq_true rfl⟩ dX10_houseOf_123) cut_M z_hid ?_
        refine z_toA (z_mro cut_M) ?_
        refine z_if_eq hB (tgt := 133) dX10_houseOf_126 (by decide) (fun c23 => ?_) (fun c23 => ?_)
        · have h := z_ifT c23 h
          refine z_iconst hB dX10_houseOf_133 zcI_0 ?_
          exact hret _ _ _ _ (Option.some.inj h) rfl rfl dX10_houseOf_134
        · have h := z_ifF c23 h
          refine z_iconst hB dX10_houseOf_129 zcI_1 ?_
          refine z_goto hB (tgt := 134) dX10_houseOf_130 (by decide) ?_
          exact hret _ _ _ _ (Option.some.inj h) rfl rfl dX10_houseOf_134
      have h := z_ifF c19 h
      by_cases c24 : p2 = (6 : Int32)
      · have h := z_ifT c24 h
        refine z_tableIn hB (tgt := 135) dX10_houseOf_21 c24 (by decide) (by decide) rfl (by decide) ?_
        refine z_aload_n hB 0 dX10_houseOf_135 rfl rfl ?_
        refine z_iload_n hB 1 dX10_houseOf_136 rfl rfl ?_
        refine z_iload_n hB 2 dX10_houseOf_137 rfl rfl ?_
        obtain ⟨r26, h25, h⟩ := z_b1E h
        refine z_cI hB (z_rV (ι := fun k => k) hB yY_X10_of (c_X10_of _ _ _ _ h25) rfl cut_M z_hid kM_0 (Nat.le_of_ble_eq_true rfl) vc_10 rfl rfl rfl (Nat.le_of_ble_eq_true rfl) ml_X10_57 ⟨Nat.le_of_ble_eq_true rfl, Nat.le_of_ble_eq_true rfl⟩ dX10_houseOf_138) cut_M z_hid ?_
        refine z_toA (z_mro cut_M) ?_
        exact hret _ _ _ _ (Option.some.inj h) rfl rfl dX10_houseOf_141
      have h := z_ifF c24 h
      by_cases c27 : p2 = (7 : Int32)
      · have h := z_ifT c27 h
        refine z_tableIn hB (tgt := 135) dX10_houseOf_21 c27 (by decide) (by decide) rfl (by decide) ?_
        refine z_aload_n hB 0 dX10_houseOf_135 rfl rfl ?_
        refine z_iload_n hB 1 dX10_houseOf_136 rfl rfl ?_
        refine z_iload_n hB 2 dX10_houseOf_137 rfl rfl ?_
        obtain ⟨r29, h28, h⟩ := z_b1E h
        refine z_cI hB (z_rV (ι := fun k => k) hB yY_X10_of (c_X10_of _ _ _ _ h28) rfl cut_M z_hid kM_0 (Nat.le_of_ble_eq_true rfl) vc_10 rfl rfl rfl (Nat.le_of_ble_eq_true rfl) ml_X10_57 ⟨Nat.le_of_ble_eq_true rfl, Nat.le_of_ble_eq_true rfl⟩ dX10_houseOf_138) cut_M z_hid ?_
        refine z_toA (z_mro cut_M) ?_
        exact hret _ _ _ _ (Option.some.inj h) rfl rfl dX10_houseOf_141
      have h := z_ifF c27 h
      by_cases c30 : p2 = (8 : Int32)
      · have h := z_ifT c30 h
        refine z_tableIn hB (tgt := 142) dX10_houseOf_21 c30 (by decide) (by decide) rfl (by decide) ?_
        refine z_aload_n hB 0 dX10_houseOf_142 rfl rfl ?_
        refine z_iload_n hB 1 dX10_houseOf_143 rfl rfl ?_
        refine z_bipush hB dX10_houseOf_144 zcB_8 ?_
        obtain ⟨r32, h31, h⟩ := z_b1E h
        refine z_cI hB (z_rV (ι := fun k => k) hB yY_X10_of (c_X10_of _ _ _ _ h31) rfl cut_M z_hid kM_0 (Nat.le_of_ble_eq_true rfl) vc_10 rfl rfl rfl (Nat.le_of_ble_eq_true rfl) ml_X10_57 ⟨Nat.le_of_ble_eq_true rfl, Nat.le_of_ble_eq_true rfl⟩ dX10_houseOf_146) cut_M z_hid ?_
        refine z_toA (z_mro cut_M) ?_
        refine z_aload_n hB 0 dX10_houseOf_149 rfl rfl ?_
        refine z_iload_n hB 1 dX10_houseOf_150 rfl rfl ?_
        refine z_bipush hB dX10_houseOf_151 zcB_9 ?_
        obtain ⟨r34, h33, h⟩ := z_b1E h
        refine z_cI hB (z_rV (ι := fun k => k) hB yY_X10_of (c_X10_of _ _ _ _ h33) rfl cut_M z_hid kM_0 (Nat.le_of_ble_eq_true rfl) vc_10 rfl rfl rfl (Nat.le_of_ble_eq_true rfl) ml_X10_57 ⟨Nat.le_of_ble_eq_true rfl, Nat.le_of_ble_eq_true rfl⟩ dX10_houseOf_153) cut_M z_hid ?_
        refine z_toA (z_mro cut_M) ?_
        refine z_iadd hB dX10_houseOf_156 ?_
        exact hret _ _ _ _ (Option.some.inj h) rfl rfl dX10_houseOf_157
      have h := z_ifF c30 h
      by_cases c35 : p2 = (9 : Int32)
      · have h := z_ifT c35 h
        refine z_tableIn hB (tgt := 158) dX10_houseOf_21 c35 (by decide) (by decide) rfl (by decide) ?_
        refine z_aload_n hB 0 dX10_houseOf_158 rfl rfl ?_
        refine z_iload_n hB 1 dX10_houseOf_159 rfl rfl ?_
        refine z_iload_n hB 2 dX10_houseOf_160 rfl rfl ?_
        refine z_iconst hB dX10_houseOf_161 zcI_1 ?_
        refine z_iadd hB dX10_houseOf_162 ?_
        obtain ⟨r37, h36, h⟩ := z_b1E h
        refine z_cI hB (z_rV (ι := fun k => k) hB yY_X10_of (c_X10_of _ _ _ _ h36) rfl cut_M z_hid kM_0 (Nat.le_of_ble_eq_true rfl) vc_10 rfl rfl rfl (Nat.le_of_ble_eq_true rfl) ml_X10_57 ⟨Nat.le_of_ble_eq_true rfl, Nat.le_of_ble_eq_true rfl⟩ dX10_houseOf_163) cut_M z_hid ?_
        refine z_toA (z_mro cut_M) ?_
        exact hret _ _ _ _ (Option.some.inj h) rfl rfl dX10_houseOf_166
      have h := z_ifF c35 h
      by_cases c38 : p2 = (10 : Int32)
      · have h := z_ifT c38 h
        refine z_tableIn hB (tgt := 158) dX10_houseOf_21 c38 (by decide) (by decide) rfl (by decide) ?_
        refine z_aload_n hB 0 dX10_houseOf_158 rfl rfl ?_
        refine z_iload_n hB 1 dX10_houseOf_159 rfl rfl ?_
        refine z_iload_n hB 2 dX10_houseOf_160 rfl rfl ?_
        refine z_iconst hB dX10_houseOf_161 zcI_1 ?_
        refine z_iadd hB dX10_houseOf_162 ?_
        obtain ⟨r40, h39, h⟩ := z_b1E h
        refine z_cI hB (z_rV (ι := fun k => k) hB yY_X10_of (c_X10_of _ _ _ _ h39) rfl cut_M z_hid kM_0 (Nat.le_of_ble_eq_true rfl) vc_10 rfl rfl rfl (Nat.le_of_ble_eq_true rfl) ml_X10_57 ⟨Nat.le_of_ble_eq_true rfl, Nat.le_of_ble_eq_true rfl⟩ dX10_houseOf_163) cut_M z_hid ?_
        refine z_toA (z_mro cut_M) ?_
        exact hret _ _ _ _ (Option.some.inj h) rfl rfl dX10_houseOf_166
      have h := z_ifF c38 h
      by_cases c41 : p2 = (11 : Int32)
      · have h := z_ifT c41 h
        refine z_tableIn hB (tgt := 158) dX10_houseOf_21 c41 (by decide) (by decide) rfl (by decide) ?_
        refine z_aload_n hB 0 dX10_houseOf_158 rfl rfl ?_
        refine z_iload_n hB 1 dX10_houseOf_159 rfl rfl ?_
        refine z_iload_n hB 2 dX10_houseOf_160 rfl rfl ?_
        refine z_iconst hB dX10_houseOf_161 zcI_1 ?_
        refine z_iadd hB dX10_houseOf_162 ?_
        obtain ⟨r43, h42, h⟩ := z_b1E h
        refine z_cI hB (z_rV (ι := fun k => k) hB yY_X10_of (c_X10_of _ _ _ _ h42) rfl cut_M z_hid kM_0 (Nat.le_of_ble_eq_true rfl) vc_10 rfl rfl rfl (Nat.le_of_ble_eq_true rfl) ml_X10_57 ⟨Nat.le_of_ble_eq_true rfl, Nat.le_of_ble_eq_true rfl⟩ dX10_houseOf_163) cut_M z_hid ?_
        refine z_toA (z_mro cut_M) ?_
        exact hret _ _ _ _ (Option.some.inj h) rfl rfl dX10_houseOf_166
      have h := z_ifF c41 h
      refine z_tableOut hB (tgt := 167) dX10_houseOf_21 (z_tsE (z_ts ((z_ts ((z_ts ((z_ts ((z_ts ((z_ts ((z_ts ((z_ts ((z_ts (z_ts0 p2 3) c7 rfl)) c13 rfl)) c19 rfl)) c24 rfl)) c27 rfl)) c30 rfl)) c35 rfl)) c38 rfl)) c41 rfl) (by decide)) (by decide) ?_
      refine z_aload_n hB 0 dX10_houseOf_167 rfl rfl ?_
      refine z_iload_n hB 1 dX10_houseOf_168 rfl rfl ?_
      refine z_iload_n hB 2 dX10_houseOf_169 rfl rfl ?_
      obtain ⟨r45, h44, h⟩ := z_b1E h
      refine z_cI hB (z_rV (ι := fun k => k) hB yY_X10_of (c_X10_of _ _ _ _ h44) rfl cut_M z_hid kM_0 (Nat.le_of_ble_eq_true rfl) vc_10 rfl rfl rfl (Nat.le_of_ble_eq_true rfl) ml_X10_57 ⟨Nat.le_of_ble_eq_true rfl, Nat.le_of_ble_eq_true rfl⟩ dX10_houseOf_170) cut_M z_hid ?_
      refine z_toA (z_mro cut_M) ?_
      exact hret _ _ _ _ (Option.some.inj h) rfl rfl dX10_houseOf_173
    · have h := z_ifT c6 h
      refine z_iconst hB dX10_houseOf_18 zcI_m1 ?_
      exact hret _ _ _ _ (Option.some.inj h) rfl rfl dX10_houseOf_19
def f_X10_dueOf (p1 : Int32) (σ : z_S) : Option Int32 :=
  z_b1 (f_X10_of p1 (6 : Int32) σ) fun r2 =>
  z_b1 (f_X10_of p1 (8 : Int32) σ) fun r4 =>
  z_b1 (f_X10_of p1 (9 : Int32) σ) fun r6 =>
  z_b1 (f_X10_of p1 (10 : Int32) σ) fun r8 =>
  some (((r2 + r4) + r6) + r8)
set_option maxRecDepth 100000 in
set_option maxHeartbeats 4000000 in
theorem c_X10_dueOf (p1 : Int32) (σ : z_S) (r : Int32) (h : f_X10_dueOf p1 σ = some r) : zMet yX10_dueOf cX10_dueOf 2 (some .int) 1 22 layM 10 (fun ad => [.ref (ad 0), .int p1]) σ (z_QI layM 10 r σ) := by
  refine z_headI RX10 (by decide) rfl (fun _ => Nat.le_of_ble_eq_true rfl) (fun E G A ad hB hret => ?_)
  show ZW E G A 2 layM 10 ad 0 [(0, .ref (ad 0)), (1, .int p1)] [] σ
  unfold f_X10_dueOf at h
  refine z_aload_n hB 0 dX10_dueOf_0 rfl rfl ?_
  refine z_iload_n hB 1 dX10_dueOf_1 rfl rfl ?_
  refine z_bipush hB dX10_dueOf_2 zcB_6 ?_
  obtain ⟨r2, h1, h⟩ := z_b1E h
  refine z_cI hB (z_rV (ι := fun k => k) hB yY_X10_of (c_X10_of _ _ _ _ h1) rfl cut_M z_hid kM_0 (Nat.le_of_ble_eq_true rfl) vc_10 rfl rfl rfl (Nat.le_of_ble_eq_true rfl) ml_X10_57 ⟨Nat.le_of_ble_eq_true rfl, Nat.le_of_ble_eq_true rfl⟩ dX10_dueOf_4) cut_M z_hid ?_
  refine z_toA (z_mro cut_M) ?_
  refine z_aload_n hB 0 dX10_dueOf_7 rfl rfl ?_
  refine z_iload_n hB 1 dX10_dueOf_8 rfl rfl ?_
  refine z_bipush hB dX10_dueOf_9 zcB_8 ?_
  obtain ⟨r4, h3, h⟩ := z_b1E h
  refine z_cI hB (z_rV (ι := fun k => k) hB yY_X10_of (c_X10_of _ _ _ _ h3) rfl cut_M z_hid kM_0 (Nat.le_of_ble_eq_true rfl) vc_10 rfl rfl rfl (Nat.le_of_ble_eq_true rfl) ml_X10_57 ⟨Nat.le_of_ble_eq_true rfl, Nat.le_of_ble_eq_true rfl⟩ dX10_dueOf_11) cut_M z_hid ?_
  refine z_toA (z_mro cut_M) ?_
  refine z_iadd hB dX10_dueOf_14 ?_
  refine z_aload_n hB 0 dX10_dueOf_15 rfl rfl ?_
  refine z_iload_n hB 1 dX10_dueOf_16 rfl rfl ?_
  refine z_bipush hB dX10_dueOf_17 zcB_9 ?_
  obtain ⟨r6, h5, h⟩ := z_b1E h
  refine z_cI hB (z_rV (ι := fun k => k) hB yY_X10_of (c_X10_of _ _ _ _ h5) rfl cut_M z_hid kM_0 (Nat.le_of_ble_eq_true rfl) vc_10 rfl rfl rfl (Nat.le_of_ble_eq_true rfl) ml_X10_57 ⟨Nat.le_of_ble_eq_true rfl, Nat.le_of_ble_eq_true rfl⟩ dX10_dueOf_19) cut_M z_hid ?_
  refine z_toA (z_mro cut_M) ?_
  refine z_iadd hB dX10_dueOf_22 ?_
  refine z_aload_n hB 0 dX10_dueOf_23 rfl rfl ?_
  refine z_iload_n hB 1 dX10_dueOf_24 rfl rfl ?_
  refine z_bipush hB dX10_dueOf_25 zcB_10 ?_
  obtain ⟨r8, h7, h⟩ := z_b1E h
  refine z_cI hB (z_rV (ι := fun k => k) hB yY_X10_of (c_X10_of _ _ _ _ h7) rfl cut_M z_hid kM_0 (Nat.le_of_ble_eq_true rfl) vc_10 rfl rfl rfl (Nat.le_of_ble_eq_true rfl) ml_X10_57 ⟨Nat.le_of_ble_eq_true rfl, Nat.le_of_ble_eq_true rfl⟩ dX10_dueOf_27) cut_M z_hid ?_
  refine z_toA (z_mro cut_M) ?_
  refine z_iadd hB dX10_dueOf_30 ?_
  exact hret _ _ _ _ (Option.some.inj h) rfl rfl dX10_dueOf_31
def f_X10_shareOf (p1 : Int32) (σ : z_S) : Option UInt32 :=
  z_b1 (f_X10_of p1 (6 : Int32) σ) fun r2 =>
  z_b1 (f_X10_dueOf p1 σ) fun r4 =>
  z_f32 (FP.fdiv (FP.i2f r2) (FP.i2f r4)) <|
  some (FP.fdiv (FP.i2f r2) (FP.i2f r4))
set_option maxRecDepth 100000 in
set_option maxHeartbeats 4000000 in
theorem c_X10_shareOf (p1 : Int32) (σ : z_S) (r : UInt32) (h : f_X10_shareOf p1 σ = some r) : zMet yX10_shareOf cX10_shareOf 2 (some .float) 2 43 layM 10 (fun ad => [.ref (ad 0), .int p1]) σ (z_QF layM 10 r σ) := by
  refine z_headF RX10 (by decide) rfl (fun _ => Nat.le_of_ble_eq_true rfl) (fun E G A ad hB hret => ?_)
  show ZW E G A 2 layM 10 ad 0 [(0, .ref (ad 0)), (1, .int p1)] [] σ
  unfold f_X10_shareOf at h
  refine z_aload_n hB 0 dX10_shareOf_0 rfl rfl ?_
  refine z_iload_n hB 1 dX10_shareOf_1 rfl rfl ?_
  refine z_bipush hB dX10_shareOf_2 zcB_6 ?_
  obtain ⟨r2, h1, h⟩ := z_b1E h
  refine z_cI hB (z_rV (ι := fun k => k) hB yY_X10_of (c_X10_of _ _ _ _ h1) rfl cut_M z_hid kM_0 (Nat.le_of_ble_eq_true rfl) vc_10 rfl rfl rfl (Nat.le_of_ble_eq_true rfl) ml_X10_57 ⟨Nat.le_of_ble_eq_true rfl, Nat.le_of_ble_eq_true rfl⟩ dX10_shareOf_4) cut_M z_hid ?_
  refine z_toA (z_mro cut_M) ?_
  refine z_i2f hB dX10_shareOf_7 ?_
  refine z_aload_n hB 0 dX10_shareOf_8 rfl rfl ?_
  refine z_iload_n hB 1 dX10_shareOf_9 rfl rfl ?_
  obtain ⟨r4, h3, h⟩ := z_b1E h
  refine z_cI hB (z_rV (ι := fun k => k) hB yY_X10_dueOf (c_X10_dueOf _ _ _ h3) rfl cut_M z_hid kM_0 (Nat.le_of_ble_eq_true rfl) vc_10 rfl rfl rfl (Nat.le_of_ble_eq_true rfl) ml_X10_170 ⟨Nat.le_of_ble_eq_true rfl, Nat.le_of_ble_eq_true rfl⟩ dX10_shareOf_10) cut_M z_hid ?_
  refine z_toA (z_mro cut_M) ?_
  refine z_i2f hB dX10_shareOf_13 ?_
  obtain ⟨h5, h⟩ := z_f32E h
  refine z_fdiv hB dX10_shareOf_14 h5 ?_
  exact hret _ _ _ _ (Option.some.inj h) rfl dX10_shareOf_15
def lb_X10_bitsOf_13 (k2 : UInt32 → Int32 → Option Int32) (x3 : UInt32) (x4 : Int32) : Option Int32 :=
  if (0 : Int32) ≤ (Op.cmpValue (FP.fcmp x3 (FP.fconst1)) .g) then
  (z_f32 (FP.fsub x3 (FP.fconst1)) <|
  z_f32 (FP.fmul (FP.fsub x3 (FP.fconst1)) ((1258291200 : UInt32))) <|
  some ((x4 <<< ((23 : Int32) &&& 31)) + (FP.f2i (FP.fmul (FP.fsub x3 (FP.fconst1)) ((1258291200 : UInt32))))))
  else
  (z_f32 (FP.fmul x3 (FP.fconst2)) <|
  z_let (FP.fmul x3 (FP.fconst2)) fun x9 =>
  z_let (x4 + (-1 : Int32)) fun x10 =>
  k2 x9 x10)
def f_X10_bitsOf (p0 : UInt32) (σ : z_S) : Option Int32 :=
  if (Op.cmpValue (FP.fcmp p0 (FP.fconst0)) .l) = (0 : Int32) then
  (some ((0 : Int32)))
  else
  (z_lp2 lb_X10_bitsOf_13 z_Fu p0 (127 : Int32))
set_option maxRecDepth 100000 in
set_option maxHeartbeats 4000000 in
theorem c_X10_bitsOf (p0 : UInt32) (σ : z_S) (r : Int32) (h : f_X10_bitsOf p0 σ = some r) : zMet yX10_bitsOf cX10_bitsOf 3 (some .int) 0 0 z_lay0 0 (fun ad => [.float p0]) σ (z_QI z_lay0 0 r σ) := by
  refine z_headI RX10 (by decide) rfl (fun _ => Nat.le_of_ble_eq_true rfl) (fun E G A ad hB hret => ?_)
  show ZW E G A 3 z_lay0 0 ad 0 [(0, .float p0)] [] σ
  unfold f_X10_bitsOf at h
  refine z_fload_n hB 0 dX10_bitsOf_0 rfl rfl ?_
  refine z_fconst0 hB dX10_bitsOf_1 ?_
  refine z_fcmp hB dX10_bitsOf_2 ?_
  refine z_if_ne hB (tgt := 8) dX10_bitsOf_3 (by decide) (fun c1 => ?_) (fun c1 => ?_)
  · have h := z_ifF c1 h
    refine z_fload_n hB 0 dX10_bitsOf_8 rfl rfl ?_
    refine z_fstore_n hB [(1, .float p0), (0, .float p0)] dX10_bitsOf_9 rfl (Nat.le_of_ble_eq_true rfl) rfl rfl ?_
    refine z_bipush hB dX10_bitsOf_10 zcB_127 ?_
    refine z_istore_n hB [(2, .int ((127 : Int32))), (1, .float p0), (0, .float p0)] dX10_bitsOf_12 rfl (Nat.le_of_ble_eq_true rfl) rfl rfl ?_
    refine z_lv [1, 0] rfl ?_
    refine z_lpr2 (g := fun x3 x4 => ZW E G A 3 z_lay0 0 ad 13 [(1, .float x3), (2, .int x4)] [] σ) (fun k2 x3 x4 hk_k2 h => ?_) _ _ _ h
    show ZW E G A 3 z_lay0 0 ad 13 [(1, .float x3), (2, .int x4)] [] σ
    unfold lb_X10_bitsOf_13 at h
    refine z_fload_n hB 0 dX10_bitsOf_13 rfl rfl ?_
    refine z_fconst1 hB dX10_bitsOf_14 ?_
    refine z_fcmp hB dX10_bitsOf_15 ?_
    refine z_if_ge hB (tgt := 29) dX10_bitsOf_16 (by decide) (fun c5 => ?_) (fun c5 => ?_)
    · have h := z_ifT c5 h
      refine z_iload_n hB 1 dX10_bitsOf_29 rfl rfl ?_
      refine z_bipush hB dX10_bitsOf_30 zcB_23 ?_
      refine z_ishl hB dX10_bitsOf_32 ?_
      refine z_fload_n hB 0 dX10_bitsOf_33 rfl rfl ?_
      refine z_fconst1 hB dX10_bitsOf_34 ?_
      obtain ⟨h6, h⟩ := z_f32E h
      refine z_fsub hB dX10_bitsOf_35 h6 ?_
      refine z_ldcf hB (v := 1258291200) (wsL_c29 _ (List.mem_of_getElem? (i := 12) rfl)) dX10_bitsOf_36 ?_
      obtain ⟨h7, h⟩ := z_f32E h
      refine z_fmul hB dX10_bitsOf_38 h7 ?_
      refine z_f2i hB dX10_bitsOf_39 ?_
      refine z_iadd hB dX10_bitsOf_40 ?_
      exact hret _ _ _ _ (Option.some.inj h) rfl rfl dX10_bitsOf_41
    · have h := z_ifF c5 h
      refine z_fload_n hB 0 dX10_bitsOf_19 rfl rfl ?_
      refine z_fconst2 hB dX10_bitsOf_20 ?_
      obtain ⟨h8, h⟩ := z_f32E h
      refine z_fmul hB dX10_bitsOf_21 h8 ?_
      obtain ⟨x9, ex9, h⟩ := z_letE h
      refine z_fstore_n hB [(1, .float x9), (2, .int x4)] dX10_bitsOf_22 rfl (Nat.le_of_ble_eq_true rfl) ex9 rfl ?_
      obtain ⟨x10, ex10, h⟩ := z_letE h
      refine z_iinc hB 1 [(2, .int x10), (1, .float x9)] dX10_bitsOf_23 rfl (by rw [zcI_m1]; exact ex10) (Nat.le_of_ble_eq_true rfl) rfl ?_
      refine z_goto hB (tgt := 13) dX10_bitsOf_26 (by decide) ?_
      refine z_lv [1, 0] rfl ?_
      exact hk_k2 _ _ h
  · have h := z_ifT c1 h
    refine z_iconst hB dX10_bitsOf_6 zcI_0 ?_
    exact hret _ _ _ _ (Option.some.inj h) rfl rfl dX10_bitsOf_7
def f_X10_shareBits (p1 : Int32) (σ : z_S) : Option Int32 :=
  z_b1 (f_X10_isHouse p1 σ) fun r2 =>
  if r2 = (0 : Int32) then
  (some ((-1 : Int32)))
  else
  (z_b1 (f_X10_dueOf p1 σ) fun r5 =>
  if r5 = (0 : Int32) then
  (some ((-4 : Int32)))
  else
  (z_b1 (f_X10_shareOf p1 σ) fun r8 =>
  z_b1 (f_X10_bitsOf r8 σ) fun r10 =>
  some (r10)))
set_option maxRecDepth 100000 in
set_option maxHeartbeats 4000000 in
theorem c_X10_shareBits (p1 : Int32) (σ : z_S) (r : Int32) (h : f_X10_shareBits p1 σ = some r) : zMet yX10_shareBits cX10_shareBits 2 (some .int) 3 64 layM 10 (fun ad => [.ref (ad 0), .int p1]) σ (z_QI layM 10 r σ) := by
  refine z_headI RX10 (by decide) rfl (fun _ => Nat.le_of_ble_eq_true rfl) (fun E G A ad hB hret => ?_)
  show ZW E G A 2 layM 10 ad 0 [(0, .ref (ad 0)), (1, .int p1)] [] σ
  unfold f_X10_shareBits at h
  refine z_aload_n hB 0 dX10_shareBits_0 rfl rfl ?_
  refine z_iload_n hB 1 dX10_shareBits_1 rfl rfl ?_
  obtain ⟨r2, h1, h⟩ := z_b1E h
  refine z_cI hB (z_rV (ι := fun k => k) hB yY_X10_isHouse (c_X10_isHouse _ _ _ h1) rfl cut_M z_hid kM_0 (Nat.le_of_ble_eq_true rfl) vc_10 rfl rfl rfl (Nat.le_of_ble_eq_true rfl) ml_X10_75 ⟨Nat.le_of_ble_eq_true rfl, Nat.le_of_ble_eq_true rfl⟩ dX10_shareBits_2) cut_M z_hid ?_
  refine z_toA (z_mro cut_M) ?_
  refine z_if_ne hB (tgt := 12) dX10_shareBits_5 (by decide) (fun c3 => ?_) (fun c3 => ?_)
  · have h := z_ifF c3 h
    refine z_aload_n hB 0 dX10_shareBits_12 rfl rfl ?_
    refine z_iload_n hB 1 dX10_shareBits_13 rfl rfl ?_
    obtain ⟨r5, h4, h⟩ := z_b1E h
    refine z_cI hB (z_rV (ι := fun k => k) hB yY_X10_dueOf (c_X10_dueOf _ _ _ h4) rfl cut_M z_hid kM_0 (Nat.le_of_ble_eq_true rfl) vc_10 rfl rfl rfl (Nat.le_of_ble_eq_true rfl) ml_X10_170 ⟨Nat.le_of_ble_eq_true rfl, Nat.le_of_ble_eq_true rfl⟩ dX10_shareBits_14) cut_M z_hid ?_
    refine z_toA (z_mro cut_M) ?_
    refine z_if_ne hB (tgt := 25) dX10_shareBits_17 (by decide) (fun c6 => ?_) (fun c6 => ?_)
    · have h := z_ifF c6 h
      refine z_aload_n hB 0 dX10_shareBits_25 rfl rfl ?_
      refine z_iload_n hB 1 dX10_shareBits_26 rfl rfl ?_
      obtain ⟨r8, h7, h⟩ := z_b1E h
      refine z_cF hB (z_rV (ι := fun k => k) hB yY_X10_shareOf (c_X10_shareOf _ _ _ h7) rfl cut_M z_hid kM_0 (Nat.le_of_ble_eq_true rfl) vc_10 rfl rfl rfl (Nat.le_of_ble_eq_true rfl) ml_X10_174 ⟨Nat.le_of_ble_eq_true rfl, Nat.le_of_ble_eq_true rfl⟩ dX10_shareBits_27) cut_M z_hid ?_
      refine z_toA (z_mro cut_M) ?_
      obtain ⟨r10, h9, h⟩ := z_b1E h
      refine z_cI hB (z_rS (ι := fun k => k) hB yY_X10_bitsOf (c_X10_bitsOf _ _ _ h9) rfl z_cut0 z_hno rfl rfl rfl (Nat.le_of_ble_eq_true rfl) ml_X10_178 ⟨Nat.le_of_ble_eq_true rfl, Nat.le_of_ble_eq_true rfl⟩ dX10_shareBits_30) z_cut0 z_hno ?_
      refine z_toA (z_mro (lay := layM) (lay' := z_lay0) (b := false) z_cut0) ?_
      exact hret _ _ _ _ (Option.some.inj h) rfl rfl dX10_shareBits_33
    · have h := z_ifT c6 h
      refine z_bipush hB dX10_shareBits_20 zcB_m4 ?_
      refine z_goto hB (tgt := 33) dX10_shareBits_22 (by decide) ?_
      exact hret _ _ _ _ (Option.some.inj h) rfl rfl dX10_shareBits_33
  · have h := z_ifT c3 h
    refine z_iconst hB dX10_shareBits_8 zcI_m1 ?_
    refine z_goto hB (tgt := 33) dX10_shareBits_9 (by decide) ?_
    exact hret _ _ _ _ (Option.some.inj h) rfl rfl dX10_shareBits_33
def lb_X10_meanBits_7 (σ : z_S) (k2 : UInt64 → Int32 → Int32 → Option Int32) (x3 : UInt64) (x4 : Int32) (x5 : Int32) : Option Int32 :=
  z_cki (1 : Int32) 537 <|
  if (σ 1 (1 : Int32).toNatClampNeg) ≤ x5 then
  (if x4 = (0 : Int32) then
  (some ((-4 : Int32)))
  else
  (z_f64 (FP.ddiv x3 (FP.i2d x4)) <|
  z_f32 (FP.d2f (FP.ddiv x3 (FP.i2d x4))) <|
  z_b1 (f_X10_bitsOf (FP.d2f (FP.ddiv x3 (FP.i2d x4))) σ) fun r12 =>
  some (r12)))
  else
  (z_b1 (f_X10_dueOf x5 σ) fun r14 =>
  z_let (fun (y15 : UInt64) (y16 : Int32) => z_let (x5 + (1 : Int32)) fun x18 =>
  k2 y15 y16 x18) fun j17 =>
  if r14 ≤ (0 : Int32) then
  (j17 x3 x4)
  else
  (z_b1 (f_X10_shareOf x5 σ) fun r21 =>
  z_f64 (FP.f2d r21) <|
  z_f64 (FP.dadd x3 (FP.f2d r21)) <|
  z_let (FP.dadd x3 (FP.f2d r21)) fun x24 =>
  z_let (x4 + (1 : Int32)) fun x25 =>
  j17 x24 x25))
def f_X10_meanBits (σ : z_S) : Option Int32 :=
  z_let (FP.dconst0) fun x1 =>
  z_lp3 (lb_X10_meanBits_7 σ) z_Fu x1 (0 : Int32) (0 : Int32)
set_option maxRecDepth 100000 in
set_option maxHeartbeats 4000000 in
theorem c_X10_meanBits (σ : z_S) (r : Int32) (h : f_X10_meanBits σ = some r) : zMet yX10_meanBits cX10_meanBits 5 (some .int) 3 64 layM 10 (fun ad => [.ref (ad 0)]) σ (z_QI layM 10 r σ) := by
  refine z_headI RX10 (by decide) rfl (fun _ => Nat.le_of_ble_eq_true rfl) (fun E G A ad hB hret => ?_)
  show ZW E G A 5 layM 10 ad 0 [(0, .ref (ad 0))] [] σ
  unfold f_X10_meanBits at h
  refine z_dconst0 hB dX10_meanBits_0 ?_
  obtain ⟨x1, ex1, h⟩ := z_letE h
  refine z_dstore_n hB [(1, .double x1), (0, .ref (ad 0))] dX10_meanBits_1 rfl (Nat.le_of_ble_eq_true rfl) ex1 rfl ?_
  refine z_iconst hB dX10_meanBits_2 zcI_0 ?_
  refine z_istore_n hB [(3, .int ((0 : Int32))), (1, .double x1), (0, .ref (ad 0))] dX10_meanBits_3 rfl (Nat.le_of_ble_eq_true rfl) rfl rfl ?_
  refine z_iconst hB dX10_meanBits_4 zcI_0 ?_
  refine z_istore hB [(4, .int ((0 : Int32))), (3, .int ((0 : Int32))), (1, .double x1), (0, .ref (ad 0))] dX10_meanBits_5 (Nat.le_of_ble_eq_true rfl) rfl rfl ?_
  refine z_lv [3, 2, 1, 0] rfl ?_
  refine z_lpr3 (g := fun x3 x4 x5 => ZW E G A 5 layM 10 ad 7 [(0, .ref (ad 0)), (1, .double x3), (3, .int x4), (4, .int x5)] [] σ) (fun k2 x3 x4 x5 hk_k2 h => ?_) _ _ _ _ h
  show ZW E G A 5 layM 10 ad 7 [(0, .ref (ad 0)), (1, .double x3), (3, .int x4), (4, .int x5)] [] σ
  unfold lb_X10_meanBits_7 at h
  refine z_iload hB 3 dX10_meanBits_7 rfl ?_
  refine z_aload_n hB 0 dX10_meanBits_9 rfl rfl ?_
  refine z_getr hB 0 0 1 kM_0 (Nat.le_of_ble_eq_true rfl) vc_10 inlX10 (Nat.le_of_ble_eq_true rfl) rfl (Nat.le_of_ble_eq_true rfl) fl_X10_7 dX10_meanBits_10 ?_
  refine z_iconst hB dX10_meanBits_13 zcI_1 ?_
  obtain ⟨h6, h⟩ := z_ckiE h
  refine z_iald hB 1 537 kM_1 (Nat.le_of_ble_eq_true rfl) dX10_meanBits_14 h6 ?_
  refine z_icmp_ge hB (tgt := 46) dX10_meanBits_15 (by decide) (fun c7 => ?_) (fun c7 => ?_)
  · have h := z_ifT c7 h
    refine z_iload_n hB 2 dX10_meanBits_46 rfl rfl ?_
    refine z_if_ne hB (tgt := 55) dX10_meanBits_47 (by decide) (fun c8 => ?_) (fun c8 => ?_)
    · have h := z_ifF c8 h
      refine z_dload_n hB 1 dX10_meanBits_55 rfl rfl ?_
      refine z_iload_n hB 2 dX10_meanBits_56 rfl rfl ?_
      refine z_i2d hB dX10_meanBits_57 ?_
      obtain ⟨h9, h⟩ := z_f64E h
      refine z_ddiv hB dX10_meanBits_58 h9 ?_
      obtain ⟨h10, h⟩ := z_f32E h
      refine z_d2f hB dX10_meanBits_59 h10 ?_
      obtain ⟨r12, h11, h⟩ := z_b1E h
      refine z_cI hB (z_rS (ι := fun k => k) hB yY_X10_bitsOf (c_X10_bitsOf _ _ _ h11) rfl z_cut0 z_hno rfl rfl rfl (Nat.le_of_ble_eq_true rfl) ml_X10_178 ⟨Nat.le_of_ble_eq_true rfl, Nat.le_of_ble_eq_true rfl⟩ dX10_meanBits_60) z_cut0 z_hno ?_
      refine z_toA (z_mro (lay := layM) (lay' := z_lay0) (b := false) z_cut0) ?_
      exact hret _ _ _ _ (Option.some.inj h) rfl rfl dX10_meanBits_63
    · have h := z_ifT c8 h
      refine z_bipush hB dX10_meanBits_50 zcB_m4 ?_
      refine z_goto hB (tgt := 63) dX10_meanBits_52 (by decide) ?_
      exact hret _ _ _ _ (Option.some.inj h) rfl rfl dX10_meanBits_63
  · have h := z_ifF c7 h
    refine z_aload_n hB 0 dX10_meanBits_18 rfl rfl ?_
    refine z_iload hB 3 dX10_meanBits_19 rfl ?_
    obtain ⟨r14, h13, h⟩ := z_b1E h
    refine z_cI hB (z_rV (ι := fun k => k) hB yY_X10_dueOf (c_X10_dueOf _ _ _ h13) rfl cut_M z_hid kM_0 (Nat.le_of_ble_eq_true rfl) vc_10 rfl rfl rfl (Nat.le_of_ble_eq_true rfl) ml_X10_170 ⟨Nat.le_of_ble_eq_true rfl, Nat.le_of_ble_eq_true rfl⟩ dX10_meanBits_21) cut_M z_hid ?_
    refine z_toA (z_mro cut_M) ?_
    obtain ⟨j17, ej17, h⟩ := z_letE h
    have hj17 : ∀ (y15 : UInt64) (y16 : Int32), j17 y15 y16 = some r → ZW E G A 5 layM 10 ad 40 [(0, .ref (ad 0)), (1, .double y15), (3, .int y16), (4, .int x5)] [] σ := by
      intro y15 y16 h
      rw [ej17] at h
      obtain ⟨x18, ex18, h⟩ := z_letE h
      refine z_iinc hB 3 [(4, .int x18), (0, .ref (ad 0)), (1, .double y15), (3, .int y16)] dX10_meanBits_40 rfl (by rw [zcI_1]; exact ex18) (Nat.le_of_ble_eq_true rfl) rfl ?_
      refine z_goto hB (tgt := 7) dX10_meanBits_43 (by decide) ?_
      refine z_lv [1, 2, 3, 0] rfl ?_
      exact hk_k2 _ _ _ h
    refine z_if_le hB (tgt := 40) dX10_meanBits_24 (by decide) (fun c19 => ?_) (fun c19 => ?_)
    · have h := z_ifT c19 h
      exact hj17 _ _ h
    · have h := z_ifF c19 h
      refine z_dload_n hB 1 dX10_meanBits_27 rfl rfl ?_
      refine z_aload_n hB 0 dX10_meanBits_28 rfl rfl ?_
      refine z_iload hB 3 dX10_meanBits_29 rfl ?_
      obtain ⟨r21, h20, h⟩ := z_b1E h
      refine z_cF hB (z_rV (ι := fun k => k) hB yY_X10_shareOf (c_X10_shareOf _ _ _ h20) rfl cut_M z_hid kM_0 (Nat.le_of_ble_eq_true rfl) vc_10 rfl rfl rfl (Nat.le_of_ble_eq_true rfl) ml_X10_174 ⟨Nat.le_of_ble_eq_true rfl, Nat.le_of_ble_eq_true rfl⟩ dX10_meanBits_31) cut_M z_hid ?_
      refine z_toA (z_mro cut_M) ?_
      obtain ⟨h22, h⟩ := z_f64E h
      refine z_f2d hB dX10_meanBits_34 h22 ?_
      obtain ⟨h23, h⟩ := z_f64E h
      refine z_dadd hB dX10_meanBits_35 h23 ?_
      obtain ⟨x24, ex24, h⟩ := z_letE h
      refine z_dstore_n hB [(1, .double x24), (0, .ref (ad 0)), (3, .int x4), (4, .int x5)] dX10_meanBits_36 rfl (Nat.le_of_ble_eq_true rfl) ex24 rfl ?_
      obtain ⟨x25, ex25, h⟩ := z_letE h
      refine z_iinc hB 2 [(3, .int x25), (1, .double x24), (0, .ref (ad 0)), (4, .int x5)] dX10_meanBits_37 rfl (by rw [zcI_1]; exact ex25) (Nat.le_of_ble_eq_true rfl) rfl ?_
      refine z_lv [2, 1, 0, 3] rfl ?_
      exact hj17 _ _ h
def f_X10_carrierOf (p1 : Int32) (p2 : Int32) (σ : z_S) : Option Int32 :=
  z_b1 (f_X10_isCarrier p1 σ) fun r2 =>
  if r2 = (0 : Int32) then
  (some ((-1 : Int32)))
  else
  (z_b1 (f_X10_in p2 (0 : Int32) (7 : Int32) σ) fun r5 =>
  if r5 = (0 : Int32) then
  (some ((-1 : Int32)))
  else
  (if p2 = (3 : Int32) then
  (z_b1 (f_X10_housesOf p1 σ) fun r14 =>
  some (r14))
  else
  (z_let (fun (y8 : Int32) => z_b1 (f_X10_ofCarrier p1 y8 σ) fun r11 =>
  some (r11)) fun j9 =>
  if (3 : Int32) ≤ p2 then
  (j9 (p2 - (1 : Int32)))
  else
  (j9 p2))))
set_option maxRecDepth 100000 in
set_option maxHeartbeats 4000000 in
theorem c_X10_carrierOf (p1 : Int32) (p2 : Int32) (σ : z_S) (r : Int32) (h : f_X10_carrierOf p1 p2 σ = some r) : zMet yX10_carrierOf cX10_carrierOf 3 (some .int) 2 45 layM 10 (fun ad => [.ref (ad 0), .int p1, .int p2]) σ (z_QI layM 10 r σ) := by
  refine z_headI RX10 (by decide) rfl (fun _ => Nat.le_of_ble_eq_true rfl) (fun E G A ad hB hret => ?_)
  show ZW E G A 3 layM 10 ad 0 [(0, .ref (ad 0)), (1, .int p1), (2, .int p2)] [] σ
  unfold f_X10_carrierOf at h
  refine z_aload_n hB 0 dX10_carrierOf_0 rfl rfl ?_
  refine z_iload_n hB 1 dX10_carrierOf_1 rfl rfl ?_
  obtain ⟨r2, h1, h⟩ := z_b1E h
  refine z_cI hB (z_rV (ι := fun k => k) hB yY_X10_isCarrier (c_X10_isCarrier _ _ _ h1) rfl cut_M z_hid kM_0 (Nat.le_of_ble_eq_true rfl) vc_10 rfl rfl rfl (Nat.le_of_ble_eq_true rfl) ml_X10_91 ⟨Nat.le_of_ble_eq_true rfl, Nat.le_of_ble_eq_true rfl⟩ dX10_carrierOf_2) cut_M z_hid ?_
  refine z_toA (z_mro cut_M) ?_
  refine z_if_eq hB (tgt := 18) dX10_carrierOf_5 (by decide) (fun c3 => ?_) (fun c3 => ?_)
  · have h := z_ifT c3 h
    refine z_iconst hB dX10_carrierOf_18 zcI_m1 ?_
    exact hret _ _ _ _ (Option.some.inj h) rfl rfl dX10_carrierOf_19
  · have h := z_ifF c3 h
    refine z_iload_n hB 2 dX10_carrierOf_8 rfl rfl ?_
    refine z_iconst hB dX10_carrierOf_9 zcI_0 ?_
    refine z_bipush hB dX10_carrierOf_10 zcB_7 ?_
    obtain ⟨r5, h4, h⟩ := z_b1E h
    refine z_cI hB (z_rS (ι := fun k => k) hB yY_X10_in (c_X10_in _ _ _ _ _ h4) rfl z_cut0 z_hno rfl rfl rfl (Nat.le_of_ble_eq_true rfl) ml_X10_45 ⟨Nat.le_of_ble_eq_true rfl, Nat.le_of_ble_eq_true rfl⟩ dX10_carrierOf_12) z_cut0 z_hno ?_
    refine z_toA (z_mro (lay := layM) (lay' := z_lay0) (b := false) z_cut0) ?_
    refine z_if_ne hB (tgt := 20) dX10_carrierOf_15 (by decide) (fun c6 => ?_) (fun c6 => ?_)
    · have h := z_ifF c6 h
      refine z_iload_n hB 2 dX10_carrierOf_20 rfl rfl ?_
      refine z_iconst hB dX10_carrierOf_21 zcI_3 ?_
      refine z_icmp_ne hB (tgt := 33) dX10_carrierOf_22 (by decide) (fun c7 => ?_) (fun c7 => ?_)
      · have h := z_ifF c7 h
        refine z_aload_n hB 0 dX10_carrierOf_33 rfl rfl ?_
        refine z_iload_n hB 1 dX10_carrierOf_34 rfl rfl ?_
        refine z_iload_n hB 2 dX10_carrierOf_35 rfl rfl ?_
        refine z_iconst hB dX10_carrierOf_36 zcI_3 ?_
        obtain ⟨j9, ej9, h⟩ := z_letE h
        have hj9 : ∀ (y8 : Int32), j9 y8 = some r → ZW E G A 3 layM 10 ad 47 [] [.int y8, .int p1, .ref (ad 0)] σ := by
          intro y8 h
          rw [ej9] at h
          obtain ⟨r11, h10, h⟩ := z_b1E h
          refine z_cI hB (z_rV (ι := fun k => k) hB yY_X10_ofCarrier (c_X10_ofCarrier _ _ _ _ h10) rfl cut_M z_hid kM_0 (Nat.le_of_ble_eq_true rfl) vc_10 rfl rfl rfl (Nat.le_of_ble_eq_true rfl) ml_X10_85 ⟨Nat.le_of_ble_eq_true rfl, Nat.le_of_ble_eq_true rfl⟩ dX10_carrierOf_47) cut_M z_hid ?_
          refine z_toA (z_mro cut_M) ?_
          exact hret _ _ _ _ (Option.some.inj h) rfl rfl dX10_carrierOf_50
        refine z_icmp_ge hB (tgt := 44) dX10_carrierOf_37 (by decide) (fun c12 => ?_) (fun c12 => ?_)
        · have h := z_ifT c12 h
          refine z_iload_n hB 2 dX10_carrierOf_44 rfl rfl ?_
          refine z_iconst hB dX10_carrierOf_45 zcI_1 ?_
          refine z_isub hB dX10_carrierOf_46 ?_
          refine z_lv [] rfl ?_
          exact hj9 _ h
        · have h := z_ifF c12 h
          refine z_iload_n hB 2 dX10_carrierOf_40 rfl rfl ?_
          refine z_goto hB (tgt := 47) dX10_carrierOf_41 (by decide) ?_
          refine z_lv [] rfl ?_
          exact hj9 _ h
      · have h := z_ifT c7 h
        refine z_aload_n hB 0 dX10_carrierOf_25 rfl rfl ?_
        refine z_iload_n hB 1 dX10_carrierOf_26 rfl rfl ?_
        obtain ⟨r14, h13, h⟩ := z_b1E h
        refine z_cI hB (z_rV (ι := fun k => k) hB yY_X10_housesOf (c_X10_housesOf _ _ _ h13) rfl cut_M z_hid kM_0 (Nat.le_of_ble_eq_true rfl) vc_10 rfl rfl rfl (Nat.le_of_ble_eq_true rfl) ml_X10_97 ⟨Nat.le_of_ble_eq_true rfl, Nat.le_of_ble_eq_true rfl⟩ dX10_carrierOf_27) cut_M z_hid ?_
        refine z_toA (z_mro cut_M) ?_
        refine z_goto hB (tgt := 50) dX10_carrierOf_30 (by decide) ?_
        exact hret _ _ _ _ (Option.some.inj h) rfl rfl dX10_carrierOf_50
    · have h := z_ifT c6 h
      refine z_iconst hB dX10_carrierOf_18 zcI_m1 ?_
      exact hret _ _ _ _ (Option.some.inj h) rfl rfl dX10_carrierOf_19
def f_X10_pauseOf (p1 : Int32) (p2 : Int32) (σ : z_S) : Option Int32 :=
  z_cki (3 : Int32) 537 <|
  z_b1 (f_X10_in p1 (0 : Int32) ((σ 1 (3 : Int32).toNatClampNeg) - (1 : Int32)) σ) fun r3 =>
  if r3 = (0 : Int32) then
  (some ((-1 : Int32)))
  else
  (z_b1 (f_X10_in p2 (0 : Int32) (2 : Int32) σ) fun r6 =>
  if r6 = (0 : Int32) then
  (some ((-1 : Int32)))
  else
  (z_cki (((447 : Int32) + ((3 : Int32) * p1)) + p2) 537 <|
  some (σ 1 (((447 : Int32) + ((3 : Int32) * p1)) + p2).toNatClampNeg)))
set_option maxRecDepth 100000 in
set_option maxHeartbeats 4000000 in
theorem c_X10_pauseOf (p1 : Int32) (p2 : Int32) (σ : z_S) (r : Int32) (h : f_X10_pauseOf p1 p2 σ = some r) : zMet yX10_pauseOf cX10_pauseOf 3 (some .int) 1 22 layM 10 (fun ad => [.ref (ad 0), .int p1, .int p2]) σ (z_QI layM 10 r σ) := by
  refine z_headI RX10 (by decide) rfl (fun _ => Nat.le_of_ble_eq_true rfl) (fun E G A ad hB hret => ?_)
  show ZW E G A 3 layM 10 ad 0 [(0, .ref (ad 0)), (1, .int p1), (2, .int p2)] [] σ
  unfold f_X10_pauseOf at h
  refine z_iload_n hB 1 dX10_pauseOf_0 rfl rfl ?_
  refine z_iconst hB dX10_pauseOf_1 zcI_0 ?_
  refine z_aload_n hB 0 dX10_pauseOf_2 rfl rfl ?_
  refine z_getr hB 0 0 1 kM_0 (Nat.le_of_ble_eq_true rfl) vc_10 inlX10 (Nat.le_of_ble_eq_true rfl) rfl (Nat.le_of_ble_eq_true rfl) fl_X10_7 dX10_pauseOf_3 ?_
  refine z_iconst hB dX10_pauseOf_6 zcI_3 ?_
  obtain ⟨h1, h⟩ := z_ckiE h
  refine z_iald hB 1 537 kM_1 (Nat.le_of_ble_eq_true rfl) dX10_pauseOf_7 h1 ?_
  refine z_iconst hB dX10_pauseOf_8 zcI_1 ?_
  refine z_isub hB dX10_pauseOf_9 ?_
  obtain ⟨r3, h2, h⟩ := z_b1E h
  refine z_cI hB (z_rS (ι := fun k => k) hB yY_X10_in (c_X10_in _ _ _ _ _ h2) rfl z_cut0 z_hno rfl rfl rfl (Nat.le_of_ble_eq_true rfl) ml_X10_45 ⟨Nat.le_of_ble_eq_true rfl, Nat.le_of_ble_eq_true rfl⟩ dX10_pauseOf_10) z_cut0 z_hno ?_
  refine z_toA (z_mro (lay := layM) (lay' := z_lay0) (b := false) z_cut0) ?_
  refine z_if_eq hB (tgt := 25) dX10_pauseOf_13 (by decide) (fun c4 => ?_) (fun c4 => ?_)
  · have h := z_ifT c4 h
    refine z_iconst hB dX10_pauseOf_25 zcI_m1 ?_
    refine z_goto hB (tgt := 43) dX10_pauseOf_26 (by decide) ?_
    exact hret _ _ _ _ (Option.some.inj h) rfl rfl dX10_pauseOf_43
  · have h := z_ifF c4 h
    refine z_iload_n hB 2 dX10_pauseOf_16 rfl rfl ?_
    refine z_iconst hB dX10_pauseOf_17 zcI_0 ?_
    refine z_iconst hB dX10_pauseOf_18 zcI_2 ?_
    obtain ⟨r6, h5, h⟩ := z_b1E h
    refine z_cI hB (z_rS (ι := fun k => k) hB yY_X10_in (c_X10_in _ _ _ _ _ h5) rfl z_cut0 z_hno rfl rfl rfl (Nat.le_of_ble_eq_true rfl) ml_X10_45 ⟨Nat.le_of_ble_eq_true rfl, Nat.le_of_ble_eq_true rfl⟩ dX10_pauseOf_19) z_cut0 z_hno ?_
    refine z_toA (z_mro (lay := layM) (lay' := z_lay0) (b := false) z_cut0) ?_
    refine z_if_ne hB (tgt := 29) dX10_pauseOf_22 (by decide) (fun c7 => ?_) (fun c7 => ?_)
    · have h := z_ifF c7 h
      refine z_aload_n hB 0 dX10_pauseOf_29 rfl rfl ?_
      refine z_getr hB 0 0 1 kM_0 (Nat.le_of_ble_eq_true rfl) vc_10 inlX10 (Nat.le_of_ble_eq_true rfl) rfl (Nat.le_of_ble_eq_true rfl) fl_X10_7 dX10_pauseOf_30 ?_
      refine z_sipush hB dX10_pauseOf_33 zcS_447 ?_
      refine z_iconst hB dX10_pauseOf_36 zcI_3 ?_
      refine z_iload_n hB 1 dX10_pauseOf_37 rfl rfl ?_
      refine z_imul hB dX10_pauseOf_38 ?_
      refine z_iadd hB dX10_pauseOf_39 ?_
      refine z_iload_n hB 2 dX10_pauseOf_40 rfl rfl ?_
      refine z_iadd hB dX10_pauseOf_41 ?_
      obtain ⟨h8, h⟩ := z_ckiE h
      refine z_iald hB 1 537 kM_1 (Nat.le_of_ble_eq_true rfl) dX10_pauseOf_42 h8 ?_
      exact hret _ _ _ _ (Option.some.inj h) rfl rfl dX10_pauseOf_43
    · have h := z_ifT c7 h
      refine z_iconst hB dX10_pauseOf_25 zcI_m1 ?_
      refine z_goto hB (tgt := 43) dX10_pauseOf_26 (by decide) ?_
      exact hret _ _ _ _ (Option.some.inj h) rfl rfl dX10_pauseOf_43
def lb_X10_roundAt_23 (p1 : Int32) (σ6 : z_S) (k7 : Int32 → Int32 → Option (Int32 × z_S)) (x8 : Int32) (x9 : Int32) : Option (Int32 × z_S) :=
  z_cki (1 : Int32) 537 <|
  if (σ6 1 (1 : Int32).toNatClampNeg) ≤ x9 then
  (some ((-4 : Int32), σ6))
  else
  (z_cki x9 24 <|
  z_b1 (f_X10_of (σ6 7 x9.toNatClampNeg) (3 : Int32) σ6) fun r14 =>
  z_let (fun (y15 : Int32) => z_let (x9 + (1 : Int32)) fun x17 =>
  k7 y15 x17) fun j16 =>
  if r14 = p1 then
  (if x8 = (0 : Int32) then
  (z_cki x9 24 <|
  some (σ6 7 x9.toNatClampNeg, σ6))
  else
  (z_let (x8 + (-1 : Int32)) fun x20 =>
  j16 x20))
  else
  (j16 x8))
def f_X10_roundAt (p1 : Int32) (p2 : Int32) (σ : z_S) : Option (Int32 × z_S) :=
  z_b1 (f_X10_isCarrier p1 σ) fun r2 =>
  if r2 = (0 : Int32) then
  (some ((-1 : Int32), σ))
  else
  (if (0 : Int32) ≤ p2 then
  (z_b1 (f_X10_laysRow σ) fun σ6 =>
  z_lp2 (lb_X10_roundAt_23 p1 σ6) z_Fu p2 (0 : Int32))
  else
  (some ((-1 : Int32), σ)))
set_option maxRecDepth 100000 in
set_option maxHeartbeats 4000000 in
theorem c_X10_roundAt (p1 : Int32) (p2 : Int32) (σ : z_S) (r : Int32) (σz : z_S) (h : f_X10_roundAt p1 p2 σ = some (r, σz)) : zMet yX10_roundAt cX10_roundAt 5 (some .int) 3 68 layM 10 (fun ad => [.ref (ad 0), .int p1, .int p2]) σ (z_QI layM 10 r σz) := by
  refine z_headI RX10 (by decide) rfl (fun _ => Nat.le_of_ble_eq_true rfl) (fun E G A ad hB hret => ?_)
  show ZW E G A 5 layM 10 ad 0 [(0, .ref (ad 0)), (1, .int p1), (2, .int p2)] [] σ
  unfold f_X10_roundAt at h
  refine z_aload_n hB 0 dX10_roundAt_0 rfl rfl ?_
  refine z_iload_n hB 1 dX10_roundAt_1 rfl rfl ?_
  obtain ⟨r2, h1, h⟩ := z_b1E h
  refine z_cI hB (z_rV (ι := fun k => k) hB yY_X10_isCarrier (c_X10_isCarrier _ _ _ h1) rfl cut_M z_hid kM_0 (Nat.le_of_ble_eq_true rfl) vc_10 rfl rfl rfl (Nat.le_of_ble_eq_true rfl) ml_X10_91 ⟨Nat.le_of_ble_eq_true rfl, Nat.le_of_ble_eq_true rfl⟩ dX10_roundAt_2) cut_M z_hid ?_
  refine z_toA (z_mro cut_M) ?_
  refine z_if_eq hB (tgt := 12) dX10_roundAt_5 (by decide) (fun c3 => ?_) (fun c3 => ?_)
  · have h := z_ifT c3 h
    refine z_iconst hB dX10_roundAt_12 zcI_m1 ?_
    obtain ⟨h1, h2⟩ := z_prE h
    exact hret _ _ _ _ h1 h2 rfl dX10_roundAt_13
  · have h := z_ifF c3 h
    refine z_iload_n hB 2 dX10_roundAt_8 rfl rfl ?_
    refine z_if_ge hB (tgt := 14) dX10_roundAt_9 (by decide) (fun c4 => ?_) (fun c4 => ?_)
    · have h := z_ifT c4 h
      refine z_aload_n hB 0 dX10_roundAt_14 rfl rfl ?_
      obtain ⟨σ6, h5, h⟩ := z_b1E h
      refine z_cV hB (z_rV (ι := fun k => k) hB yY_X10_laysRow (c_X10_laysRow _ _ h5) rfl cut_M z_hid kM_0 (Nat.le_of_ble_eq_true rfl) vc_10 rfl rfl rfl (Nat.le_of_ble_eq_true rfl) ml_X10_132 ⟨Nat.le_of_ble_eq_true rfl, Nat.le_of_ble_eq_true rfl⟩ dX10_roundAt_15) cut_M z_hid ?_
      refine z_toA z_mid ?_
      refine z_iload_n hB 2 dX10_roundAt_18 rfl rfl ?_
      refine z_istore_n hB [(3, .int p2), (0, .ref (ad 0)), (1, .int p1), (2, .int p2)] dX10_roundAt_19 rfl (Nat.le_of_ble_eq_true rfl) rfl rfl ?_
      refine z_iconst hB dX10_roundAt_20 zcI_0 ?_
      refine z_istore hB [(4, .int ((0 : Int32))), (3, .int p2), (0, .ref (ad 0)), (1, .int p1), (2, .int p2)] dX10_roundAt_21 (Nat.le_of_ble_eq_true rfl) rfl rfl ?_
      refine z_lv [2, 3, 1, 0] rfl ?_
      refine z_lpr2 (g := fun x8 x9 => ZW E G A 5 layM 10 ad 23 [(0, .ref (ad 0)), (1, .int p1), (3, .int x8), (4, .int x9)] [] σ6) (fun k7 x8 x9 hk_k7 h => ?_) _ _ _ h
      show ZW E G A 5 layM 10 ad 23 [(0, .ref (ad 0)), (1, .int p1), (3, .int x8), (4, .int x9)] [] σ6
      unfold lb_X10_roundAt_23 at h
      refine z_iload hB 3 dX10_roundAt_23 rfl ?_
      refine z_aload_n hB 0 dX10_roundAt_25 rfl rfl ?_
      refine z_getr hB 0 0 1 kM_0 (Nat.le_of_ble_eq_true rfl) vc_10 inlX10 (Nat.le_of_ble_eq_true rfl) rfl (Nat.le_of_ble_eq_true rfl) fl_X10_7 dX10_roundAt_26 ?_
      refine z_iconst hB dX10_roundAt_29 zcI_1 ?_
      obtain ⟨h10, h⟩ := z_ckiE h
      refine z_iald hB 1 537 kM_1 (Nat.le_of_ble_eq_true rfl) dX10_roundAt_30 h10 ?_
      refine z_icmp_ge hB (tgt := 71) dX10_roundAt_31 (by decide) (fun c11 => ?_) (fun c11 => ?_)
      · have h := z_ifT c11 h
        refine z_bipush hB dX10_roundAt_71 zcB_m4 ?_
        obtain ⟨h1, h2⟩ := z_prE h
        exact hret _ _ _ _ h1 h2 rfl dX10_roundAt_73
      · have h := z_ifF c11 h
        refine z_aload_n hB 0 dX10_roundAt_34 rfl rfl ?_
        refine z_aload_n hB 0 dX10_roundAt_35 rfl rfl ?_
        refine z_getr hB 0 8 7 kM_0 (Nat.le_of_ble_eq_true rfl) vc_10 inlX10 (Nat.le_of_ble_eq_true rfl) rfl (Nat.le_of_ble_eq_true rfl) fl_X10_28 dX10_roundAt_36 ?_
        refine z_iload hB 3 dX10_roundAt_39 rfl ?_
        obtain ⟨h12, h⟩ := z_ckiE h
        refine z_iald hB 7 24 kM_7 (Nat.le_of_ble_eq_true rfl) dX10_roundAt_41 h12 ?_
        refine z_iconst hB dX10_roundAt_42 zcI_3 ?_
        obtain ⟨r14, h13, h⟩ := z_b1E h
        refine z_cI hB (z_rV (ι := fun k => k) hB yY_X10_of (c_X10_of _ _ _ _ h13) rfl cut_M z_hid kM_0 (Nat.le_of_ble_eq_true rfl) vc_10 rfl rfl rfl (Nat.le_of_ble_eq_true rfl) ml_X10_57 ⟨Nat.le_of_ble_eq_true rfl, Nat.le_of_ble_eq_true rfl⟩ dX10_roundAt_43) cut_M z_hid ?_
        refine z_toA (z_mro cut_M) ?_
        refine z_iload_n hB 1 dX10_roundAt_46 rfl rfl ?_
        obtain ⟨j16, ej16, h⟩ := z_letE h
        have hj16 : ∀ (y15 : Int32), j16 y15 = some (r, σz) → ZW E G A 5 layM 10 ad 65 [(0, .ref (ad 0)), (1, .int p1), (3, .int y15), (4, .int x9)] [] σ6 := by
          intro y15 h
          rw [ej16] at h
          obtain ⟨x17, ex17, h⟩ := z_letE h
          refine z_iinc hB 3 [(4, .int x17), (0, .ref (ad 0)), (1, .int p1), (3, .int y15)] dX10_roundAt_65 rfl (by rw [zcI_1]; exact ex17) (Nat.le_of_ble_eq_true rfl) rfl ?_
          refine z_goto hB (tgt := 23) dX10_roundAt_68 (by decide) ?_
          refine z_lv [1, 2, 3, 0] rfl ?_
          exact hk_k7 _ _ h
        refine z_icmp_ne hB (tgt := 65) dX10_roundAt_47 (by decide) (fun c18 => ?_) (fun c18 => ?_)
        · have h := z_ifF c18 h
          exact hj16 _ h
        · have h := z_ifT c18 h
          refine z_iload_n hB 2 dX10_roundAt_50 rfl rfl ?_
          refine z_if_ne hB (tgt := 62) dX10_roundAt_51 (by decide) (fun c19 => ?_) (fun c19 => ?_)
          · have h := z_ifF c19 h
            obtain ⟨x20, ex20, h⟩ := z_letE h
            refine z_iinc hB 2 [(3, .int x20), (0, .ref (ad 0)), (1, .int p1), (4, .int x9)] dX10_roundAt_62 rfl (by rw [zcI_m1]; exact ex20) (Nat.le_of_ble_eq_true rfl) rfl ?_
            refine z_lv [1, 2, 0, 3] rfl ?_
            exact hj16 _ h
          · have h := z_ifT c19 h
            refine z_aload_n hB 0 dX10_roundAt_54 rfl rfl ?_
            refine z_getr hB 0 8 7 kM_0 (Nat.le_of_ble_eq_true rfl) vc_10 inlX10 (Nat.le_of_ble_eq_true rfl) rfl (Nat.le_of_ble_eq_true rfl) fl_X10_28 dX10_roundAt_55 ?_
            refine z_iload hB 3 dX10_roundAt_58 rfl ?_
            obtain ⟨h21, h⟩ := z_ckiE h
            refine z_iald hB 7 24 kM_7 (Nat.le_of_ble_eq_true rfl) dX10_roundAt_60 h21 ?_
            obtain ⟨h1, h2⟩ := z_prE h
            exact hret _ _ _ _ h1 h2 rfl dX10_roundAt_61
    · have h := z_ifF c4 h
      refine z_iconst hB dX10_roundAt_12 zcI_m1 ?_
      obtain ⟨h1, h2⟩ := z_prE h
      exact hret _ _ _ _ h1 h2 rfl dX10_roundAt_13
def f_X10_round (p1 : Int32) (p2 : Int32) (p3 : Int32) (σ : z_S) : Option (Int32 × z_S) :=
  z_b1 (f_X10_isCarrier p1 σ) fun r2 =>
  if r2 = (0 : Int32) then
  (some ((-1 : Int32), σ))
  else
  (z_cki (4 : Int32) 537 <|
  z_b1 (f_X10_in p2 (σ 1 (4 : Int32).toNatClampNeg) (999 : Int32) σ) fun r6 =>
  if r6 = (0 : Int32) then
  (some ((-1 : Int32), σ))
  else
  (z_b1 (f_X10_in p3 (0 : Int32) (3 : Int32) σ) fun r9 =>
  if r9 = (0 : Int32) then
  (some ((-1 : Int32), σ))
  else
  (z_b2 (f_X10_goes p1 p2 (0 : Int32) σ) fun r13 σ12 =>
  if p3 = (0 : Int32) then
  (some (σ12 0 9, σ12))
  else
  (if p3 = (1 : Int32) then
  (some (σ12 0 10, σ12))
  else
  (if p3 = (2 : Int32) then
  (some (σ12 0 11, σ12))
  else
  (some (σ12 0 12, σ12)))))))
set_option maxRecDepth 100000 in
set_option maxHeartbeats 4000000 in
theorem c_X10_round (p1 : Int32) (p2 : Int32) (p3 : Int32) (σ : z_S) (r : Int32) (σz : z_S) (h : f_X10_round p1 p2 p3 σ = some (r, σz)) : zMet yX10_round cX10_round 5 (some .int) 4 100 layM 10 (fun ad => [.ref (ad 0), .int p1, .int p2, .int p3]) σ (z_QI layM 10 r σz) := by
  refine z_headI RX10 (by decide) rfl (fun _ => Nat.le_of_ble_eq_true rfl) (fun E G A ad hB hret => ?_)
  show ZW E G A 5 layM 10 ad 0 [(0, .ref (ad 0)), (1, .int p1), (2, .int p2), (3, .int p3)] [] σ
  unfold f_X10_round at h
  refine z_aload_n hB 0 dX10_round_0 rfl rfl ?_
  refine z_iload_n hB 1 dX10_round_1 rfl rfl ?_
  obtain ⟨r2, h1, h⟩ := z_b1E h
  refine z_cI hB (z_rV (ι := fun k => k) hB yY_X10_isCarrier (c_X10_isCarrier _ _ _ h1) rfl cut_M z_hid kM_0 (Nat.le_of_ble_eq_true rfl) vc_10 rfl rfl rfl (Nat.le_of_ble_eq_true rfl) ml_X10_91 ⟨Nat.le_of_ble_eq_true rfl, Nat.le_of_ble_eq_true rfl⟩ dX10_round_2) cut_M z_hid ?_
  refine z_toA (z_mro cut_M) ?_
  refine z_if_eq hB (tgt := 33) dX10_round_5 (by decide) (fun c3 => ?_) (fun c3 => ?_)
  · have h := z_ifT c3 h
    refine z_iconst hB dX10_round_33 zcI_m1 ?_
    obtain ⟨h1, h2⟩ := z_prE h
    exact hret _ _ _ _ h1 h2 rfl dX10_round_34
  · have h := z_ifF c3 h
    refine z_iload_n hB 2 dX10_round_8 rfl rfl ?_
    refine z_aload_n hB 0 dX10_round_9 rfl rfl ?_
    refine z_getr hB 0 0 1 kM_0 (Nat.le_of_ble_eq_true rfl) vc_10 inlX10 (Nat.le_of_ble_eq_true rfl) rfl (Nat.le_of_ble_eq_true rfl) fl_X10_7 dX10_round_10 ?_
    refine z_iconst hB dX10_round_13 zcI_4 ?_
    obtain ⟨h4, h⟩ := z_ckiE h
    refine z_iald hB 1 537 kM_1 (Nat.le_of_ble_eq_true rfl) dX10_round_14 h4 ?_
    refine z_sipush hB dX10_round_15 zcS_999 ?_
    obtain ⟨r6, h5, h⟩ := z_b1E h
    refine z_cI hB (z_rS (ι := fun k => k) hB yY_X10_in (c_X10_in _ _ _ _ _ h5) rfl z_cut0 z_hno rfl rfl rfl (Nat.le_of_ble_eq_true rfl) ml_X10_45 ⟨Nat.le_of_ble_eq_true rfl, Nat.le_of_ble_eq_true rfl⟩ dX10_round_18) z_cut0 z_hno ?_
    refine z_toA (z_mro (lay := layM) (lay' := z_lay0) (b := false) z_cut0) ?_
    refine z_if_eq hB (tgt := 33) dX10_round_21 (by decide) (fun c7 => ?_) (fun c7 => ?_)
    · have h := z_ifT c7 h
      refine z_iconst hB dX10_round_33 zcI_m1 ?_
      obtain ⟨h1, h2⟩ := z_prE h
      exact hret _ _ _ _ h1 h2 rfl dX10_round_34
    · have h := z_ifF c7 h
      refine z_iload_n hB 3 dX10_round_24 rfl rfl ?_
      refine z_iconst hB dX10_round_25 zcI_0 ?_
      refine z_iconst hB dX10_round_26 zcI_3 ?_
      obtain ⟨r9, h8, h⟩ := z_b1E h
      refine z_cI hB (z_rS (ι := fun k => k) hB yY_X10_in (c_X10_in _ _ _ _ _ h8) rfl z_cut0 z_hno rfl rfl rfl (Nat.le_of_ble_eq_true rfl) ml_X10_45 ⟨Nat.le_of_ble_eq_true rfl, Nat.le_of_ble_eq_true rfl⟩ dX10_round_27) z_cut0 z_hno ?_
      refine z_toA (z_mro (lay := layM) (lay' := z_lay0) (b := false) z_cut0) ?_
      refine z_if_ne hB (tgt := 35) dX10_round_30 (by decide) (fun c10 => ?_) (fun c10 => ?_)
      · have h := z_ifF c10 h
        refine z_aload_n hB 0 dX10_round_35 rfl rfl ?_
        refine z_iload_n hB 1 dX10_round_36 rfl rfl ?_
        refine z_iload_n hB 2 dX10_round_37 rfl rfl ?_
        refine z_iconst hB dX10_round_38 zcI_0 ?_
        obtain ⟨r13, σ12, h11, h⟩ := z_b2E h
        refine z_cI hB (z_rV (ι := fun k => k) hB yY_X10_goes (c_X10_goes _ _ _ _ _ _ h11) rfl cut_M z_hid kM_0 (Nat.le_of_ble_eq_true rfl) vc_10 rfl rfl rfl (Nat.le_of_ble_eq_true rfl) ml_X10_150 ⟨Nat.le_of_ble_eq_true rfl, Nat.le_of_ble_eq_true rfl⟩ dX10_round_39) cut_M z_hid ?_
        refine z_toA z_mid ?_
        refine z_istore hB [(4, .int r13), (0, .ref (ad 0)), (1, .int p1), (2, .int p2), (3, .int p3)] dX10_round_42 (Nat.le_of_ble_eq_true rfl) rfl rfl ?_
        refine z_iload_n hB 4 dX10_round_44 rfl rfl ?_
        refine z_if_ne hB (tgt := 55) dX10_round_45 (by decide) (fun c14 => ?_) (fun c14 => ?_)
        · have h := z_ifF c14 h
          refine z_iload_n hB 4 dX10_round_55 rfl rfl ?_
          refine z_iconst hB dX10_round_56 zcI_1 ?_
          refine z_icmp_ne hB (tgt := 67) dX10_round_57 (by decide) (fun c15 => ?_) (fun c15 => ?_)
          · have h := z_ifF c15 h
            refine z_iload_n hB 4 dX10_round_67 rfl rfl ?_
            refine z_iconst hB dX10_round_68 zcI_2 ?_
            refine z_icmp_ne hB (tgt := 79) dX10_round_69 (by decide) (fun c16 => ?_) (fun c16 => ?_)
            · have h := z_ifF c16 h
              refine z_aload_n hB 1 dX10_round_79 rfl rfl ?_
              refine z_get hB 0 12 kM_0 (Nat.le_of_ble_eq_true rfl) vc_10 inlX10 (Nat.le_of_ble_eq_true rfl) rfl fl_X10_129 dX10_round_80 ?_
              obtain ⟨h1, h2⟩ := z_prE h
              exact hret _ _ _ _ h1 h2 rfl dX10_round_83
            · have h := z_ifT c16 h
              refine z_aload_n hB 1 dX10_round_72 rfl rfl ?_
              refine z_get hB 0 11 kM_0 (Nat.le_of_ble_eq_true rfl) vc_10 inlX10 (Nat.le_of_ble_eq_true rfl) rfl fl_X10_126 dX10_round_73 ?_
              refine z_goto hB (tgt := 83) dX10_round_76 (by decide) ?_
              obtain ⟨h1, h2⟩ := z_prE h
              exact hret _ _ _ _ h1 h2 rfl dX10_round_83
          · have h := z_ifT c15 h
            refine z_aload_n hB 1 dX10_round_60 rfl rfl ?_
            refine z_get hB 0 10 kM_0 (Nat.le_of_ble_eq_true rfl) vc_10 inlX10 (Nat.le_of_ble_eq_true rfl) rfl fl_X10_109 dX10_round_61 ?_
            refine z_goto hB (tgt := 83) dX10_round_64 (by decide) ?_
            obtain ⟨h1, h2⟩ := z_prE h
            exact hret _ _ _ _ h1 h2 rfl dX10_round_83
        · have h := z_ifT c14 h
          refine z_aload_n hB 1 dX10_round_48 rfl rfl ?_
          refine z_get hB 0 9 kM_0 (Nat.le_of_ble_eq_true rfl) vc_10 inlX10 (Nat.le_of_ble_eq_true rfl) rfl fl_X10_123 dX10_round_49 ?_
          refine z_goto hB (tgt := 83) dX10_round_52 (by decide) ?_
          obtain ⟨h1, h2⟩ := z_prE h
          exact hret _ _ _ _ h1 h2 rfl dX10_round_83
      · have h := z_ifT c10 h
        refine z_iconst hB dX10_round_33 zcI_m1 ?_
        obtain ⟨h1, h2⟩ := z_prE h
        exact hret _ _ _ _ h1 h2 rfl dX10_round_34
def f_X10_moreBy (p1 : Int32) (p2 : Int32) (p3 : Int32) (σ : z_S) : Option (Int32 × z_S) :=
  z_b2 (f_X10_goes p1 p3 (0 : Int32) σ) fun r3 σ2 =>
  z_let (σ2 0 10) fun x4 =>
  z_b1 (f_X10_of p2 (3 : Int32) σ2) fun r6 =>
  z_b1 (f_X10_lays p2 (3 : Int32) p1 σ2) fun σ8 =>
  z_b2 (f_X10_goes p1 p3 (0 : Int32) σ8) fun r11 σ10 =>
  z_b1 (f_X10_lays p2 (3 : Int32) r6 σ10) fun σ13 =>
  some ((σ13 0 10) - x4, σ13)
set_option maxRecDepth 100000 in
set_option maxHeartbeats 4000000 in
theorem c_X10_moreBy (p1 : Int32) (p2 : Int32) (p3 : Int32) (σ : z_S) (r : Int32) (σz : z_S) (h : f_X10_moreBy p1 p2 p3 σ = some (r, σz)) : zMet yX10_moreBy cX10_moreBy 7 (some .int) 4 100 layM 10 (fun ad => [.ref (ad 0), .int p1, .int p2, .int p3]) σ (z_QI layM 10 r σz) := by
  refine z_headI RX10 (by decide) rfl (fun _ => Nat.le_of_ble_eq_true rfl) (fun E G A ad hB hret => ?_)
  show ZW E G A 7 layM 10 ad 0 [(0, .ref (ad 0)), (1, .int p1), (2, .int p2), (3, .int p3)] [] σ
  unfold f_X10_moreBy at h
  refine z_aload_n hB 0 dX10_moreBy_0 rfl rfl ?_
  refine z_iload_n hB 1 dX10_moreBy_1 rfl rfl ?_
  refine z_iload_n hB 3 dX10_moreBy_2 rfl rfl ?_
  refine z_iconst hB dX10_moreBy_3 zcI_0 ?_
  obtain ⟨r3, σ2, h1, h⟩ := z_b2E h
  refine z_cI hB (z_rV (ι := fun k => k) hB yY_X10_goes (c_X10_goes _ _ _ _ _ _ h1) rfl cut_M z_hid kM_0 (Nat.le_of_ble_eq_true rfl) vc_10 rfl rfl rfl (Nat.le_of_ble_eq_true rfl) ml_X10_150 ⟨Nat.le_of_ble_eq_true rfl, Nat.le_of_ble_eq_true rfl⟩ dX10_moreBy_4) cut_M z_hid ?_
  refine z_toA z_mid ?_
  refine z_istore hB [(4, .int r3), (0, .ref (ad 0)), (1, .int p1), (2, .int p2), (3, .int p3)] dX10_moreBy_7 (Nat.le_of_ble_eq_true rfl) rfl rfl ?_
  refine z_aload_n hB 1 dX10_moreBy_9 rfl rfl ?_
  refine z_get hB 0 10 kM_0 (Nat.le_of_ble_eq_true rfl) vc_10 inlX10 (Nat.le_of_ble_eq_true rfl) rfl fl_X10_109 dX10_moreBy_10 ?_
  obtain ⟨x4, ex4, h⟩ := z_letE h
  refine z_istore hB [(5, .int x4), (4, .int r3), (0, .ref (ad 0)), (1, .int p1), (2, .int p2), (3, .int p3)] dX10_moreBy_13 (Nat.le_of_ble_eq_true rfl) ex4 rfl ?_
  refine z_aload_n hB 2 dX10_moreBy_15 rfl rfl ?_
  refine z_iload_n hB 4 dX10_moreBy_16 rfl rfl ?_
  refine z_iconst hB dX10_moreBy_17 zcI_3 ?_
  obtain ⟨r6, h5, h⟩ := z_b1E h
  refine z_cI hB (z_rV (ι := fun k => k) hB yY_X10_of (c_X10_of _ _ _ _ h5) rfl cut_M z_hid kM_0 (Nat.le_of_ble_eq_true rfl) vc_10 rfl rfl rfl (Nat.le_of_ble_eq_true rfl) ml_X10_57 ⟨Nat.le_of_ble_eq_true rfl, Nat.le_of_ble_eq_true rfl⟩ dX10_moreBy_18) cut_M z_hid ?_
  refine z_toA (z_mro cut_M) ?_
  refine z_istore hB [(6, .int r6), (5, .int x4), (4, .int r3), (0, .ref (ad 0)), (1, .int p1), (2, .int p2), (3, .int p3)] dX10_moreBy_21 (Nat.le_of_ble_eq_true rfl) rfl rfl ?_
  refine z_aload_n hB 3 dX10_moreBy_23 rfl rfl ?_
  refine z_iload_n hB 5 dX10_moreBy_24 rfl rfl ?_
  refine z_iconst hB dX10_moreBy_25 zcI_3 ?_
  refine z_iload_n hB 4 dX10_moreBy_26 rfl rfl ?_
  obtain ⟨σ8, h7, h⟩ := z_b1E h
  refine z_cV hB (z_rV (ι := fun k => k) hB yY_X10_lays (c_X10_lays _ _ _ _ _ h7) rfl cut_M z_hid kM_0 (Nat.le_of_ble_eq_true rfl) vc_10 rfl rfl rfl (Nat.le_of_ble_eq_true rfl) ml_X10_71 ⟨Nat.le_of_ble_eq_true rfl, Nat.le_of_ble_eq_true rfl⟩ dX10_moreBy_27) cut_M z_hid ?_
  refine z_toA z_mid ?_
  refine z_aload_n hB 3 dX10_moreBy_30 rfl rfl ?_
  refine z_iload_n hB 4 dX10_moreBy_31 rfl rfl ?_
  refine z_iload_n hB 6 dX10_moreBy_32 rfl rfl ?_
  refine z_iconst hB dX10_moreBy_33 zcI_0 ?_
  obtain ⟨r11, σ10, h9, h⟩ := z_b2E h
  refine z_cI hB (z_rV (ι := fun k => k) hB yY_X10_goes (c_X10_goes _ _ _ _ _ _ h9) rfl cut_M z_hid kM_0 (Nat.le_of_ble_eq_true rfl) vc_10 rfl rfl rfl (Nat.le_of_ble_eq_true rfl) ml_X10_150 ⟨Nat.le_of_ble_eq_true rfl, Nat.le_of_ble_eq_true rfl⟩ dX10_moreBy_34) cut_M z_hid ?_
  refine z_toA z_mid ?_
  refine z_istore hB [(4, .int r11), (6, .int r6), (5, .int x4), (0, .ref (ad 0)), (1, .int p1), (2, .int p2), (3, .int p3)] dX10_moreBy_37 (Nat.le_of_ble_eq_true rfl) rfl rfl ?_
  refine z_aload_n hB 3 dX10_moreBy_39 rfl rfl ?_
  refine z_iload_n hB 5 dX10_moreBy_40 rfl rfl ?_
  refine z_iconst hB dX10_moreBy_41 zcI_3 ?_
  refine z_iload hB 1 dX10_moreBy_42 rfl ?_
  obtain ⟨σ13, h12, h⟩ := z_b1E h
  refine z_cV hB (z_rV (ι := fun k => k) hB yY_X10_lays (c_X10_lays _ _ _ _ _ h12) rfl cut_M z_hid kM_0 (Nat.le_of_ble_eq_true rfl) vc_10 rfl rfl rfl (Nat.le_of_ble_eq_true rfl) ml_X10_71 ⟨Nat.le_of_ble_eq_true rfl, Nat.le_of_ble_eq_true rfl⟩ dX10_moreBy_44) cut_M z_hid ?_
  refine z_toA z_mid ?_
  refine z_aload_n hB 3 dX10_moreBy_47 rfl rfl ?_
  refine z_get hB 0 10 kM_0 (Nat.le_of_ble_eq_true rfl) vc_10 inlX10 (Nat.le_of_ble_eq_true rfl) rfl fl_X10_109 dX10_moreBy_48 ?_
  refine z_iload hB 2 dX10_moreBy_51 rfl ?_
  refine z_isub hB dX10_moreBy_53 ?_
  obtain ⟨h1, h2⟩ := z_prE h
  exact hret _ _ _ _ h1 h2 rfl dX10_moreBy_54
def lb_X10_lightest_35 (p1 : Int32) (p2 : Int32) (k8 : Int32 → Int32 → Int32 → z_S → Option (Int32 × z_S)) (x9 : Int32) (x10 : Int32) (x11 : Int32) (σ12 : z_S) : Option (Int32 × z_S) :=
  z_cki (2 : Int32) 537 <|
  if (σ12 1 (2 : Int32).toNatClampNeg) ≤ x11 then
  (some (x9, σ12))
  else
  (z_b1 (f_X10_of p1 (3 : Int32) σ12) fun r16 =>
  z_let (fun (y17 : Int32) (y18 : Int32) (σ19 : z_S) => z_let (x11 + (1 : Int32)) fun x21 =>
  k8 y17 y18 x21 σ19) fun j20 =>
  if r16 = x11 then
  (j20 x9 x10 σ12)
  else
  (z_b1 (f_X10_canReach x11 p1 σ12) fun r24 =>
  if r24 = (0 : Int32) then
  (j20 x9 x10 σ12)
  else
  (z_b2 (f_X10_moreBy x11 p1 p2 σ12) fun r28 σ27 =>
  z_let (fun (y29 : Int32) => z_let (fun (y31 : Int32) => z_let (fun (y33 : Int32) => j20 y31 y33 σ27) fun j34 =>
  if y29 = (0 : Int32) then
  (j34 x10)
  else
  (j34 r28)) fun j32 =>
  if y29 = (0 : Int32) then
  (j32 x9)
  else
  (j32 x11)) fun j30 =>
  z_let (fun (_ : Unit) => j30 (1 : Int32)) fun j37 =>
  if x9 = (-4 : Int32) then
  (j37 ())
  else
  (if x10 ≤ r28 then
  (j30 (0 : Int32))
  else
  (j37 ())))))
def f_X10_lightest (p1 : Int32) (p2 : Int32) (σ : z_S) : Option (Int32 × z_S) :=
  z_b1 (f_X10_isHouse p1 σ) fun r2 =>
  if r2 = (0 : Int32) then
  (some ((-1 : Int32), σ))
  else
  (z_cki (4 : Int32) 537 <|
  z_b1 (f_X10_in p2 (σ 1 (4 : Int32).toNatClampNeg) (999 : Int32) σ) fun r6 =>
  if r6 = (0 : Int32) then
  (some ((-1 : Int32), σ))
  else
  (z_lp4 (lb_X10_lightest_35 p1 p2) z_Fu (-4 : Int32) (0 : Int32) (0 : Int32) σ))
set_option maxRecDepth 100000 in
set_option maxHeartbeats 4000000 in
theorem c_X10_lightest (p1 : Int32) (p2 : Int32) (σ : z_S) (r : Int32) (σz : z_S) (h : f_X10_lightest p1 p2 σ = some (r, σz)) : zMet yX10_lightest cX10_lightest 8 (some .int) 5 126 layM 10 (fun ad => [.ref (ad 0), .int p1, .int p2]) σ (z_QI layM 10 r σz) := by
  refine z_headI RX10 (by decide) rfl (fun _ => Nat.le_of_ble_eq_true rfl) (fun E G A ad hB hret => ?_)
  show ZW E G A 8 layM 10 ad 0 [(0, .ref (ad 0)), (1, .int p1), (2, .int p2)] [] σ
  unfold f_X10_lightest at h
  refine z_aload_n hB 0 dX10_lightest_0 rfl rfl ?_
  refine z_iload_n hB 1 dX10_lightest_1 rfl rfl ?_
  obtain ⟨r2, h1, h⟩ := z_b1E h
  refine z_cI hB (z_rV (ι := fun k => k) hB yY_X10_isHouse (c_X10_isHouse _ _ _ h1) rfl cut_M z_hid kM_0 (Nat.le_of_ble_eq_true rfl) vc_10 rfl rfl rfl (Nat.le_of_ble_eq_true rfl) ml_X10_75 ⟨Nat.le_of_ble_eq_true rfl, Nat.le_of_ble_eq_true rfl⟩ dX10_lightest_2) cut_M z_hid ?_
  refine z_toA (z_mro cut_M) ?_
  refine z_if_eq hB (tgt := 24) dX10_lightest_5 (by decide) (fun c3 => ?_) (fun c3 => ?_)
  · have h := z_ifT c3 h
    refine z_iconst hB dX10_lightest_24 zcI_m1 ?_
    obtain ⟨h1, h2⟩ := z_prE h
    exact hret _ _ _ _ h1 h2 rfl dX10_lightest_25
  · have h := z_ifF c3 h
    refine z_iload_n hB 2 dX10_lightest_8 rfl rfl ?_
    refine z_aload_n hB 0 dX10_lightest_9 rfl rfl ?_
    refine z_getr hB 0 0 1 kM_0 (Nat.le_of_ble_eq_true rfl) vc_10 inlX10 (Nat.le_of_ble_eq_true rfl) rfl (Nat.le_of_ble_eq_true rfl) fl_X10_7 dX10_lightest_10 ?_
    refine z_iconst hB dX10_lightest_13 zcI_4 ?_
    obtain ⟨h4, h⟩ := z_ckiE h
    refine z_iald hB 1 537 kM_1 (Nat.le_of_ble_eq_true rfl) dX10_lightest_14 h4 ?_
    refine z_sipush hB dX10_lightest_15 zcS_999 ?_
    obtain ⟨r6, h5, h⟩ := z_b1E h
    refine z_cI hB (z_rS (ι := fun k => k) hB yY_X10_in (c_X10_in _ _ _ _ _ h5) rfl z_cut0 z_hno rfl rfl rfl (Nat.le_of_ble_eq_true rfl) ml_X10_45 ⟨Nat.le_of_ble_eq_true rfl, Nat.le_of_ble_eq_true rfl⟩ dX10_lightest_18) z_cut0 z_hno ?_
    refine z_toA (z_mro (lay := layM) (lay' := z_lay0) (b := false) z_cut0) ?_
    refine z_if_ne hB (tgt := 26) dX10_lightest_21 (by decide) (fun c7 => ?_) (fun c7 => ?_)
    · have h := z_ifF c7 h
      refine z_bipush hB dX10_lightest_26 zcB_m4 ?_
      refine z_istore_n hB [(3, .int ((-4 : Int32))), (0, .ref (ad 0)), (1, .int p1), (2, .int p2)] dX10_lightest_28 rfl (Nat.le_of_ble_eq_true rfl) rfl rfl ?_
      refine z_iconst hB dX10_lightest_29 zcI_0 ?_
      refine z_istore hB [(4, .int ((0 : Int32))), (3, .int ((-4 : Int32))), (0, .ref (ad 0)), (1, .int p1), (2, .int p2)] dX10_lightest_30 (Nat.le_of_ble_eq_true rfl) rfl rfl ?_
      refine z_iconst hB dX10_lightest_32 zcI_0 ?_
      refine z_istore hB [(5, .int ((0 : Int32))), (4, .int ((0 : Int32))), (3, .int ((-4 : Int32))), (0, .ref (ad 0)), (1, .int p1), (2, .int p2)] dX10_lightest_33 (Nat.le_of_ble_eq_true rfl) rfl rfl ?_
      refine z_lv [3, 4, 5, 2, 1, 0] rfl ?_
      refine z_lpr4 (g := fun x9 x10 x11 σ12 => ZW E G A 8 layM 10 ad 35 [(0, .ref (ad 0)), (1, .int p1), (2, .int p2), (3, .int x9), (4, .int x10), (5, .int x11)] [] σ12) (fun k8 x9 x10 x11 σ12 hk_k8 h => ?_) _ _ _ _ _ h
      show ZW E G A 8 layM 10 ad 35 [(0, .ref (ad 0)), (1, .int p1), (2, .int p2), (3, .int x9), (4, .int x10), (5, .int x11)] [] σ12
      unfold lb_X10_lightest_35 at h
      refine z_iload hB 5 dX10_lightest_35 rfl ?_
      refine z_aload_n hB 0 dX10_lightest_37 rfl rfl ?_
      refine z_getr hB 0 0 1 kM_0 (Nat.le_of_ble_eq_true rfl) vc_10 inlX10 (Nat.le_of_ble_eq_true rfl) rfl (Nat.le_of_ble_eq_true rfl) fl_X10_7 dX10_lightest_38 ?_
      refine z_iconst hB dX10_lightest_41 zcI_2 ?_
      obtain ⟨h13, h⟩ := z_ckiE h
      refine z_iald hB 1 537 kM_1 (Nat.le_of_ble_eq_true rfl) dX10_lightest_42 h13 ?_
      refine z_icmp_ge hB (tgt := 129) dX10_lightest_43 (by decide) (fun c14 => ?_) (fun c14 => ?_)
      · have h := z_ifT c14 h
        refine z_iload_n hB 3 dX10_lightest_129 rfl rfl ?_
        obtain ⟨h1, h2⟩ := z_prE h
        exact hret _ _ _ _ h1 h2 rfl dX10_lightest_130
      · have h := z_ifF c14 h
        refine z_aload_n hB 0 dX10_lightest_46 rfl rfl ?_
        refine z_iload_n hB 1 dX10_lightest_47 rfl rfl ?_
        refine z_iconst hB dX10_lightest_48 zcI_3 ?_
        obtain ⟨r16, h15, h⟩ := z_b1E h
        refine z_cI hB (z_rV (ι := fun k => k) hB yY_X10_of (c_X10_of _ _ _ _ h15) rfl cut_M z_hid kM_0 (Nat.le_of_ble_eq_true rfl) vc_10 rfl rfl rfl (Nat.le_of_ble_eq_true rfl) ml_X10_57 ⟨Nat.le_of_ble_eq_true rfl, Nat.le_of_ble_eq_true rfl⟩ dX10_lightest_49) cut_M z_hid ?_
        refine z_toA (z_mro cut_M) ?_
        refine z_iload hB 5 dX10_lightest_52 rfl ?_
        obtain ⟨j20, ej20, h⟩ := z_letE h
        have hj20 : ∀ (y17 : Int32) (y18 : Int32) (σ19 : z_S), j20 y17 y18 σ19 = some (r, σz) → ZW E G A 8 layM 10 ad 123 [(0, .ref (ad 0)), (1, .int p1), (2, .int p2), (3, .int y17), (4, .int y18), (5, .int x11)] [] σ19 := by
          intro y17 y18 σ19 h
          rw [ej20] at h
          obtain ⟨x21, ex21, h⟩ := z_letE h
          refine z_iinc hB 5 [(5, .int x21), (0, .ref (ad 0)), (1, .int p1), (2, .int p2), (3, .int y17), (4, .int y18)] dX10_lightest_123 rfl (by rw [zcI_1]; exact ex21) (Nat.le_of_ble_eq_true rfl) rfl ?_
          refine z_goto hB (tgt := 35) dX10_lightest_126 (by decide) ?_
          refine z_lv [1, 2, 3, 4, 5, 0] rfl ?_
          exact hk_k8 _ _ _ _ h
        refine z_icmp_eq hB (tgt := 123) dX10_lightest_54 (by decide) (fun c22 => ?_) (fun c22 => ?_)
        · have h := z_ifT c22 h
          exact hj20 _ _ _ h
        · have h := z_ifF c22 h
          refine z_aload_n hB 0 dX10_lightest_57 rfl rfl ?_
          refine z_iload hB 5 dX10_lightest_58 rfl ?_
          refine z_iload_n hB 1 dX10_lightest_60 rfl rfl ?_
          obtain ⟨r24, h23, h⟩ := z_b1E h
          refine z_cI hB (z_rV (ι := fun k => k) hB yY_X10_canReach (c_X10_canReach _ _ _ _ h23) rfl cut_M z_hid kM_0 (Nat.le_of_ble_eq_true rfl) vc_10 rfl rfl rfl (Nat.le_of_ble_eq_true rfl) ml_X10_94 ⟨Nat.le_of_ble_eq_true rfl, Nat.le_of_ble_eq_true rfl⟩ dX10_lightest_61) cut_M z_hid ?_
          refine z_toA (z_mro cut_M) ?_
          refine z_if_eq hB (tgt := 123) dX10_lightest_64 (by decide) (fun c25 => ?_) (fun c25 => ?_)
          · have h := z_ifT c25 h
            exact hj20 _ _ _ h
          · have h := z_ifF c25 h
            refine z_aload_n hB 0 dX10_lightest_67 rfl rfl ?_
            refine z_iload hB 5 dX10_lightest_68 rfl ?_
            refine z_iload_n hB 1 dX10_lightest_70 rfl rfl ?_
            refine z_iload_n hB 2 dX10_lightest_71 rfl rfl ?_
            obtain ⟨r28, σ27, h26, h⟩ := z_b2E h
            refine z_cI hB (z_rV (ι := fun k => k) hB yY_X10_moreBy (c_X10_moreBy _ _ _ _ _ _ h26) rfl cut_M z_hid kM_0 (Nat.le_of_ble_eq_true rfl) vc_10 rfl rfl rfl (Nat.le_of_ble_eq_true rfl) ml_X10_182 ⟨Nat.le_of_ble_eq_true rfl, Nat.le_of_ble_eq_true rfl⟩ dX10_lightest_72) cut_M z_hid ?_
            refine z_toA z_mid ?_
            refine z_istore hB [(6, .int r28), (0, .ref (ad 0)), (1, .int p1), (2, .int p2), (3, .int x9), (4, .int x10), (5, .int x11)] dX10_lightest_75 (Nat.le_of_ble_eq_true rfl) rfl rfl ?_
            refine z_iload_n hB 4 dX10_lightest_77 rfl rfl ?_
            refine z_bipush hB dX10_lightest_78 zcB_m4 ?_
            obtain ⟨j30, ej30, h⟩ := z_letE h
            have hj30 : ∀ (y29 : Int32), j30 y29 = some (r, σz) → ZW E G A 8 layM 10 ad 95 [(0, .ref (ad 0)), (1, .int p1), (2, .int p2), (3, .int x9), (4, .int x10), (5, .int x11), (6, .int r28)] [.int y29] σ27 := by
              intro y29 h
              rw [ej30] at h
              refine z_istore hB [(7, .int y29), (0, .ref (ad 0)), (1, .int p1), (2, .int p2), (3, .int x9), (4, .int x10), (5, .int x11), (6, .int r28)] dX10_lightest_95 (Nat.le_of_ble_eq_true rfl) rfl rfl ?_
              refine z_iload hB 0 dX10_lightest_97 rfl ?_
              obtain ⟨j32, ej32, h⟩ := z_letE h
              have hj32 : ∀ (y31 : Int32), j32 y31 = some (r, σz) → ZW E G A 8 layM 10 ad 108 [(0, .ref (ad 0)), (1, .int p1), (2, .int p2), (4, .int x10), (5, .int x11), (6, .int r28), (7, .int y29)] [.int y31] σ27 := by
                intro y31 h
                rw [ej32] at h
                refine z_istore_n hB [(3, .int y31), (0, .ref (ad 0)), (1, .int p1), (2, .int p2), (4, .int x10), (5, .int x11), (6, .int r28), (7, .int y29)] dX10_lightest_108 rfl (Nat.le_of_ble_eq_true rfl) rfl rfl ?_
                refine z_iload hB 7 dX10_lightest_109 rfl ?_
                obtain ⟨j34, ej34, h⟩ := z_letE h
                have hj34 : ∀ (y33 : Int32), j34 y33 = some (r, σz) → ZW E G A 8 layM 10 ad 121 [(0, .ref (ad 0)), (1, .int p1), (2, .int p2), (3, .int y31), (5, .int x11)] [.int y33] σ27 := by
                  intro y33 h
                  rw [ej34] at h
                  refine z_istore hB [(4, .int y33), (0, .ref (ad 0)), (1, .int p1), (2, .int p2), (3, .int y31), (5, .int x11)] dX10_lightest_121 (Nat.le_of_ble_eq_true rfl) rfl rfl ?_
                  refine z_lv [1, 2, 3, 4, 0, 5] rfl ?_
                  exact hj20 _ _ _ h
                refine z_if_eq hB (tgt := 119) dX10_lightest_111 (by decide) (fun c35 => ?_) (fun c35 => ?_)
                · have h := z_ifT c35 h
                  refine z_iload hB 4 dX10_lightest_119 rfl ?_
                  refine z_lv [1, 2, 3, 0, 5] rfl ?_
                  exact hj34 _ h
                · have h := z_ifF c35 h
                  refine z_iload hB 6 dX10_lightest_114 rfl ?_
                  refine z_goto hB (tgt := 121) dX10_lightest_116 (by decide) ?_
                  refine z_lv [1, 2, 3, 0, 5] rfl ?_
                  exact hj34 _ h
              refine z_if_eq hB (tgt := 107) dX10_lightest_99 (by decide) (fun c36 => ?_) (fun c36 => ?_)
              · have h := z_ifT c36 h
                refine z_iload_n hB 4 dX10_lightest_107 rfl rfl ?_
                refine z_lv [1, 2, 3, 5, 6, 7, 0] rfl ?_
                exact hj32 _ h
              · have h := z_ifF c36 h
                refine z_iload hB 6 dX10_lightest_102 rfl ?_
                refine z_goto hB (tgt := 108) dX10_lightest_104 (by decide) ?_
                refine z_lv [1, 2, 3, 5, 6, 7, 0] rfl ?_
                exact hj32 _ h
            obtain ⟨j37, ej37, h⟩ := z_letE h
            have hj37 : ∀ (_ : Unit), j37 () = some (r, σz) → ZW E G A 8 layM 10 ad 90 [(0, .ref (ad 0)), (1, .int p1), (2, .int p2), (3, .int x9), (4, .int x10), (5, .int x11), (6, .int r28)] [] σ27 := by
              intro _ h
              rw [ej37] at h
              refine z_iconst hB dX10_lightest_90 zcI_1 ?_
              refine z_goto hB (tgt := 95) dX10_lightest_91 (by decide) ?_
              exact hj30 _ h
            refine z_icmp_eq hB (tgt := 90) dX10_lightest_80 (by decide) (fun c38 => ?_) (fun c38 => ?_)
            · have h := z_ifT c38 h
              refine z_lv [1, 2, 3, 4, 5, 6, 0] rfl ?_
              exact hj37 () h
            · have h := z_ifF c38 h
              refine z_iload hB 0 dX10_lightest_83 rfl ?_
              refine z_iload hB 5 dX10_lightest_85 rfl ?_
              refine z_icmp_ge hB (tgt := 94) dX10_lightest_87 (by decide) (fun c39 => ?_) (fun c39 => ?_)
              · have h := z_ifT c39 h
                refine z_iconst hB dX10_lightest_94 zcI_0 ?_
                refine z_lv [1, 2, 3, 4, 5, 6, 0] rfl ?_
                exact hj30 _ h
              · have h := z_ifF c39 h
                refine z_lv [1, 2, 3, 4, 5, 6, 0] rfl ?_
                exact hj37 () h
    · have h := z_ifT c7 h
      refine z_iconst hB dX10_lightest_24 zcI_m1 ?_
      obtain ⟨h1, h2⟩ := z_prE h
      exact hret _ _ _ _ h1 h2 rfl dX10_lightest_25
def lb_X10_nextDog_17 (p1 : Int32) (σ : z_S) (k6 : Int32 → Option Int32) (x7 : Int32) : Option Int32 :=
  if (1000 : Int32) ≤ x7 then
  (some ((-4 : Int32)))
  else
  (z_b1 (f_X10_isOut p1 x7 σ) fun r10 =>
  z_let (fun (_ : Unit) => z_let (x7 + (1 : Int32)) fun x12 =>
  k6 x12) fun j11 =>
  if r10 = (0 : Int32) then
  (j11 ())
  else
  (z_b1 (f_X10_isPaused p1 x7 σ) fun r15 =>
  if r15 = (0 : Int32) then
  (some (x7))
  else
  (j11 ())))
def f_X10_nextDog (p1 : Int32) (σ : z_S) : Option Int32 :=
  z_b1 (f_X10_isHouse p1 σ) fun r2 =>
  if r2 = (0 : Int32) then
  (some ((-1 : Int32)))
  else
  (z_cki (4 : Int32) 537 <|
  z_let (σ 1 (4 : Int32).toNatClampNeg) fun x5 =>
  z_lp1 (lb_X10_nextDog_17 p1 σ) z_Fu x5)
set_option maxRecDepth 100000 in
set_option maxHeartbeats 4000000 in
theorem c_X10_nextDog (p1 : Int32) (σ : z_S) (r : Int32) (h : f_X10_nextDog p1 σ = some r) : zMet yX10_nextDog cX10_nextDog 3 (some .int) 2 47 layM 10 (fun ad => [.ref (ad 0), .int p1]) σ (z_QI layM 10 r σ) := by
  refine z_headI RX10 (by decide) rfl (fun _ => Nat.le_of_ble_eq_true rfl) (fun E G A ad hB hret => ?_)
  show ZW E G A 3 layM 10 ad 0 [(0, .ref (ad 0)), (1, .int p1)] [] σ
  unfold f_X10_nextDog at h
  refine z_aload_n hB 0 dX10_nextDog_0 rfl rfl ?_
  refine z_iload_n hB 1 dX10_nextDog_1 rfl rfl ?_
  obtain ⟨r2, h1, h⟩ := z_b1E h
  refine z_cI hB (z_rV (ι := fun k => k) hB yY_X10_isHouse (c_X10_isHouse _ _ _ h1) rfl cut_M z_hid kM_0 (Nat.le_of_ble_eq_true rfl) vc_10 rfl rfl rfl (Nat.le_of_ble_eq_true rfl) ml_X10_75 ⟨Nat.le_of_ble_eq_true rfl, Nat.le_of_ble_eq_true rfl⟩ dX10_nextDog_2) cut_M z_hid ?_
  refine z_toA (z_mro cut_M) ?_
  refine z_if_ne hB (tgt := 10) dX10_nextDog_5 (by decide) (fun c3 => ?_) (fun c3 => ?_)
  · have h := z_ifF c3 h
    refine z_aload_n hB 0 dX10_nextDog_10 rfl rfl ?_
    refine z_getr hB 0 0 1 kM_0 (Nat.le_of_ble_eq_true rfl) vc_10 inlX10 (Nat.le_of_ble_eq_true rfl) rfl (Nat.le_of_ble_eq_true rfl) fl_X10_7 dX10_nextDog_11 ?_
    refine z_iconst hB dX10_nextDog_14 zcI_4 ?_
    obtain ⟨h4, h⟩ := z_ckiE h
    refine z_iald hB 1 537 kM_1 (Nat.le_of_ble_eq_true rfl) dX10_nextDog_15 h4 ?_
    obtain ⟨x5, ex5, h⟩ := z_letE h
    refine z_istore_n hB [(2, .int x5), (0, .ref (ad 0)), (1, .int p1)] dX10_nextDog_16 rfl (Nat.le_of_ble_eq_true rfl) ex5 rfl ?_
    refine z_lv [1, 2, 0] rfl ?_
    refine z_lpr1 (g := fun x7 => ZW E G A 3 layM 10 ad 17 [(0, .ref (ad 0)), (1, .int p1), (2, .int x7)] [] σ) (fun k6 x7 hk_k6 h => ?_) _ _ h
    show ZW E G A 3 layM 10 ad 17 [(0, .ref (ad 0)), (1, .int p1), (2, .int x7)] [] σ
    unfold lb_X10_nextDog_17 at h
    refine z_iload_n hB 2 dX10_nextDog_17 rfl rfl ?_
    refine z_sipush hB dX10_nextDog_18 zcS_1000 ?_
    refine z_icmp_ge hB (tgt := 50) dX10_nextDog_21 (by decide) (fun c8 => ?_) (fun c8 => ?_)
    · have h := z_ifT c8 h
      refine z_bipush hB dX10_nextDog_50 zcB_m4 ?_
      exact hret _ _ _ _ (Option.some.inj h) rfl rfl dX10_nextDog_52
    · have h := z_ifF c8 h
      refine z_aload_n hB 0 dX10_nextDog_24 rfl rfl ?_
      refine z_iload_n hB 1 dX10_nextDog_25 rfl rfl ?_
      refine z_iload_n hB 2 dX10_nextDog_26 rfl rfl ?_
      obtain ⟨r10, h9, h⟩ := z_b1E h
      refine z_cI hB (z_rV (ι := fun k => k) hB yY_X10_isOut (c_X10_isOut _ _ _ _ h9) rfl cut_M z_hid kM_0 (Nat.le_of_ble_eq_true rfl) vc_10 rfl rfl rfl (Nat.le_of_ble_eq_true rfl) ml_X10_112 ⟨Nat.le_of_ble_eq_true rfl, Nat.le_of_ble_eq_true rfl⟩ dX10_nextDog_27) cut_M z_hid ?_
      refine z_toA (z_mro cut_M) ?_
      obtain ⟨j11, ej11, h⟩ := z_letE h
      have hj11 : ∀ (_ : Unit), j11 () = some r → ZW E G A 3 layM 10 ad 44 [(0, .ref (ad 0)), (1, .int p1), (2, .int x7)] [] σ := by
        intro _ h
        rw [ej11] at h
        obtain ⟨x12, ex12, h⟩ := z_letE h
        refine z_iinc hB 2 [(2, .int x12), (0, .ref (ad 0)), (1, .int p1)] dX10_nextDog_44 rfl (by rw [zcI_1]; exact ex12) (Nat.le_of_ble_eq_true rfl) rfl ?_
        refine z_goto hB (tgt := 17) dX10_nextDog_47 (by decide) ?_
        refine z_lv [1, 2, 0] rfl ?_
        exact hk_k6 _ h
      refine z_if_eq hB (tgt := 44) dX10_nextDog_30 (by decide) (fun c13 => ?_) (fun c13 => ?_)
      · have h := z_ifT c13 h
        exact hj11 () h
      · have h := z_ifF c13 h
        refine z_aload_n hB 0 dX10_nextDog_33 rfl rfl ?_
        refine z_iload_n hB 1 dX10_nextDog_34 rfl rfl ?_
        refine z_iload_n hB 2 dX10_nextDog_35 rfl rfl ?_
        obtain ⟨r15, h14, h⟩ := z_b1E h
        refine z_cI hB (z_rV (ι := fun k => k) hB yY_X10_isPaused (c_X10_isPaused _ _ _ _ h14) rfl cut_M z_hid kM_0 (Nat.le_of_ble_eq_true rfl) vc_10 rfl rfl rfl (Nat.le_of_ble_eq_true rfl) ml_X10_138 ⟨Nat.le_of_ble_eq_true rfl, Nat.le_of_ble_eq_true rfl⟩ dX10_nextDog_36) cut_M z_hid ?_
        refine z_toA (z_mro cut_M) ?_
        refine z_if_ne hB (tgt := 44) dX10_nextDog_39 (by decide) (fun c16 => ?_) (fun c16 => ?_)
        · have h := z_ifF c16 h
          exact hj11 () h
        · have h := z_ifT c16 h
          refine z_iload_n hB 2 dX10_nextDog_42 rfl rfl ?_
          exact hret _ _ _ _ (Option.some.inj h) rfl rfl dX10_nextDog_43
  · have h := z_ifT c3 h
    refine z_iconst hB dX10_nextDog_8 zcI_m1 ?_
    exact hret _ _ _ _ (Option.some.inj h) rfl rfl dX10_nextDog_9
def lb_X10_overHouses_4 (p1 : Int32) (σ : z_S) (k1 : Int32 → Int32 → Option Int32) (x2 : Int32) (x3 : Int32) : Option Int32 :=
  z_cki (1 : Int32) 537 <|
  if (σ 1 (1 : Int32).toNatClampNeg) ≤ x3 then
  (some (x2))
  else
  (z_b1 (f_X10_of x3 p1 σ) fun r7 =>
  z_let (x2 + r7) fun x8 =>
  z_let (x3 + (1 : Int32)) fun x9 =>
  k1 x8 x9)
def f_X10_overHouses (p1 : Int32) (σ : z_S) : Option Int32 :=
  z_lp2 (lb_X10_overHouses_4 p1 σ) z_Fu (0 : Int32) (0 : Int32)
set_option maxRecDepth 100000 in
set_option maxHeartbeats 4000000 in
theorem c_X10_overHouses (p1 : Int32) (σ : z_S) (r : Int32) (h : f_X10_overHouses p1 σ = some r) : zMet yX10_overHouses cX10_overHouses 4 (some .int) 1 22 layM 10 (fun ad => [.ref (ad 0), .int p1]) σ (z_QI layM 10 r σ) := by
  refine z_headI RX10 (by decide) rfl (fun _ => Nat.le_of_ble_eq_true rfl) (fun E G A ad hB hret => ?_)
  show ZW E G A 4 layM 10 ad 0 [(0, .ref (ad 0)), (1, .int p1)] [] σ
  unfold f_X10_overHouses at h
  refine z_iconst hB dX10_overHouses_0 zcI_0 ?_
  refine z_istore_n hB [(2, .int ((0 : Int32))), (0, .ref (ad 0)), (1, .int p1)] dX10_overHouses_1 rfl (Nat.le_of_ble_eq_true rfl) rfl rfl ?_
  refine z_iconst hB dX10_overHouses_2 zcI_0 ?_
  refine z_istore_n hB [(3, .int ((0 : Int32))), (2, .int ((0 : Int32))), (0, .ref (ad 0)), (1, .int p1)] dX10_overHouses_3 rfl (Nat.le_of_ble_eq_true rfl) rfl rfl ?_
  refine z_lv [2, 3, 1, 0] rfl ?_
  refine z_lpr2 (g := fun x2 x3 => ZW E G A 4 layM 10 ad 4 [(0, .ref (ad 0)), (1, .int p1), (2, .int x2), (3, .int x3)] [] σ) (fun k1 x2 x3 hk_k1 h => ?_) _ _ _ h
  show ZW E G A 4 layM 10 ad 4 [(0, .ref (ad 0)), (1, .int p1), (2, .int x2), (3, .int x3)] [] σ
  unfold lb_X10_overHouses_4 at h
  refine z_iload_n hB 3 dX10_overHouses_4 rfl rfl ?_
  refine z_aload_n hB 0 dX10_overHouses_5 rfl rfl ?_
  refine z_getr hB 0 0 1 kM_0 (Nat.le_of_ble_eq_true rfl) vc_10 inlX10 (Nat.le_of_ble_eq_true rfl) rfl (Nat.le_of_ble_eq_true rfl) fl_X10_7 dX10_overHouses_6 ?_
  refine z_iconst hB dX10_overHouses_9 zcI_1 ?_
  obtain ⟨h4, h⟩ := z_ckiE h
  refine z_iald hB 1 537 kM_1 (Nat.le_of_ble_eq_true rfl) dX10_overHouses_10 h4 ?_
  refine z_icmp_ge hB (tgt := 29) dX10_overHouses_11 (by decide) (fun c5 => ?_) (fun c5 => ?_)
  · have h := z_ifT c5 h
    refine z_iload_n hB 2 dX10_overHouses_29 rfl rfl ?_
    exact hret _ _ _ _ (Option.some.inj h) rfl rfl dX10_overHouses_30
  · have h := z_ifF c5 h
    refine z_iload_n hB 2 dX10_overHouses_14 rfl rfl ?_
    refine z_aload_n hB 0 dX10_overHouses_15 rfl rfl ?_
    refine z_iload_n hB 3 dX10_overHouses_16 rfl rfl ?_
    refine z_iload_n hB 1 dX10_overHouses_17 rfl rfl ?_
    obtain ⟨r7, h6, h⟩ := z_b1E h
    refine z_cI hB (z_rV (ι := fun k => k) hB yY_X10_of (c_X10_of _ _ _ _ h6) rfl cut_M z_hid kM_0 (Nat.le_of_ble_eq_true rfl) vc_10 rfl rfl rfl (Nat.le_of_ble_eq_true rfl) ml_X10_57 ⟨Nat.le_of_ble_eq_true rfl, Nat.le_of_ble_eq_true rfl⟩ dX10_overHouses_18) cut_M z_hid ?_
    refine z_toA (z_mro cut_M) ?_
    refine z_iadd hB dX10_overHouses_21 ?_
    obtain ⟨x8, ex8, h⟩ := z_letE h
    refine z_istore_n hB [(2, .int x8), (0, .ref (ad 0)), (1, .int p1), (3, .int x3)] dX10_overHouses_22 rfl (Nat.le_of_ble_eq_true rfl) ex8 rfl ?_
    obtain ⟨x9, ex9, h⟩ := z_letE h
    refine z_iinc hB 3 [(3, .int x9), (2, .int x8), (0, .ref (ad 0)), (1, .int p1)] dX10_overHouses_23 rfl (by rw [zcI_1]; exact ex9) (Nat.le_of_ble_eq_true rfl) rfl ?_
    refine z_goto hB (tgt := 4) dX10_overHouses_26 (by decide) ?_
    refine z_lv [2, 3, 1, 0] rfl ?_
    exact hk_k1 _ _ h
def f_X10_account (p1 : Int32) (σ : z_S) : Option Int32 :=
  if p1 = (0 : Int32) then
  (z_b1 (f_X10_overHouses (6 : Int32) σ) fun r3 =>
  z_b1 (f_X10_overHouses (7 : Int32) σ) fun r5 =>
  z_b1 (f_X10_overHouses (8 : Int32) σ) fun r7 =>
  z_b1 (f_X10_overHouses (9 : Int32) σ) fun r9 =>
  z_b1 (f_X10_overHouses (10 : Int32) σ) fun r11 =>
  some ((((r3 + r5) + r7) + r9) + r11))
  else if p1 = (1 : Int32) then
  (z_b1 (f_X10_overHouses (((6 : Int32) + p1) - (1 : Int32)) σ) fun r14 =>
  some (r14))
  else if p1 = (2 : Int32) then
  (z_b1 (f_X10_overHouses (((6 : Int32) + p1) - (1 : Int32)) σ) fun r17 =>
  some (r17))
  else if p1 = (3 : Int32) then
  (z_b1 (f_X10_overHouses (((6 : Int32) + p1) - (1 : Int32)) σ) fun r20 =>
  some (r20))
  else if p1 = (4 : Int32) then
  (z_b1 (f_X10_overHouses (((6 : Int32) + p1) - (1 : Int32)) σ) fun r23 =>
  some (r23))
  else if p1 = (5 : Int32) then
  (z_b1 (f_X10_overHouses (((6 : Int32) + p1) - (1 : Int32)) σ) fun r26 =>
  some (r26))
  else (some ((-1 : Int32)))
set_option maxRecDepth 100000 in
set_option maxHeartbeats 4000000 in
theorem c_X10_account (p1 : Int32) (σ : z_S) (r : Int32) (h : f_X10_account p1 σ = some r) : zMet yX10_account cX10_account 2 (some .int) 2 45 layM 10 (fun ad => [.ref (ad 0), .int p1]) σ (z_QI layM 10 r σ) := by
  refine z_headI RX10 (by decide) rfl (fun _ => Nat.le_of_ble_eq_true rfl) (fun E G A ad hB hret => ?_)
  show ZW E G A 2 layM 10 ad 0 [(0, .ref (ad 0)), (1, .int p1)] [] σ
  unfold f_X10_account at h
  refine z_iload_n hB 1 dX10_account_0 rfl rfl ?_
  by_cases c1 : p1 = (0 : Int32)
  · have h := z_ifT c1 h
    refine z_tableIn hB (tgt := 40) dX10_account_1 c1 (by decide) (by decide) rfl (by decide) ?_
    refine z_aload_n hB 0 dX10_account_40 rfl rfl ?_
    refine z_bipush hB dX10_account_41 zcB_6 ?_
    obtain ⟨r3, h2, h⟩ := z_b1E h
    refine z_cI hB (z_rV (ι := fun k => k) hB yY_X10_overHouses (c_X10_overHouses _ _ _ h2) rfl cut_M z_hid kM_0 (Nat.le_of_ble_eq_true rfl) vc_10 rfl rfl rfl (Nat.le_of_ble_eq_true rfl) ml_X10_185 ⟨Nat.le_of_ble_eq_true rfl, Nat.le_of_ble_eq_true rfl⟩ dX10_account_43) cut_M z_hid ?_
    refine z_toA (z_mro cut_M) ?_
    refine z_aload_n hB 0 dX10_account_46 rfl rfl ?_
    refine z_bipush hB dX10_account_47 zcB_7 ?_
    obtain ⟨r5, h4, h⟩ := z_b1E h
    refine z_cI hB (z_rV (ι := fun k => k) hB yY_X10_overHouses (c_X10_overHouses _ _ _ h4) rfl cut_M z_hid kM_0 (Nat.le_of_ble_eq_true rfl) vc_10 rfl rfl rfl (Nat.le_of_ble_eq_true rfl) ml_X10_185 ⟨Nat.le_of_ble_eq_true rfl, Nat.le_of_ble_eq_true rfl⟩ dX10_account_49) cut_M z_hid ?_
    refine z_toA (z_mro cut_M) ?_
    refine z_iadd hB dX10_account_52 ?_
    refine z_aload_n hB 0 dX10_account_53 rfl rfl ?_
    refine z_bipush hB dX10_account_54 zcB_8 ?_
    obtain ⟨r7, h6, h⟩ := z_b1E h
    refine z_cI hB (z_rV (ι := fun k => k) hB yY_X10_overHouses (c_X10_overHouses _ _ _ h6) rfl cut_M z_hid kM_0 (Nat.le_of_ble_eq_true rfl) vc_10 rfl rfl rfl (Nat.le_of_ble_eq_true rfl) ml_X10_185 ⟨Nat.le_of_ble_eq_true rfl, Nat.le_of_ble_eq_true rfl⟩ dX10_account_56) cut_M z_hid ?_
    refine z_toA (z_mro cut_M) ?_
    refine z_iadd hB dX10_account_59 ?_
    refine z_aload_n hB 0 dX10_account_60 rfl rfl ?_
    refine z_bipush hB dX10_account_61 zcB_9 ?_
    obtain ⟨r9, h8, h⟩ := z_b1E h
    refine z_cI hB (z_rV (ι := fun k => k) hB yY_X10_overHouses (c_X10_overHouses _ _ _ h8) rfl cut_M z_hid kM_0 (Nat.le_of_ble_eq_true rfl) vc_10 rfl rfl rfl (Nat.le_of_ble_eq_true rfl) ml_X10_185 ⟨Nat.le_of_ble_eq_true rfl, Nat.le_of_ble_eq_true rfl⟩ dX10_account_63) cut_M z_hid ?_
    refine z_toA (z_mro cut_M) ?_
    refine z_iadd hB dX10_account_66 ?_
    refine z_aload_n hB 0 dX10_account_67 rfl rfl ?_
    refine z_bipush hB dX10_account_68 zcB_10 ?_
    obtain ⟨r11, h10, h⟩ := z_b1E h
    refine z_cI hB (z_rV (ι := fun k => k) hB yY_X10_overHouses (c_X10_overHouses _ _ _ h10) rfl cut_M z_hid kM_0 (Nat.le_of_ble_eq_true rfl) vc_10 rfl rfl rfl (Nat.le_of_ble_eq_true rfl) ml_X10_185 ⟨Nat.le_of_ble_eq_true rfl, Nat.le_of_ble_eq_true rfl⟩ dX10_account_70) cut_M z_hid ?_
    refine z_toA (z_mro cut_M) ?_
    refine z_iadd hB dX10_account_73 ?_
    exact hret _ _ _ _ (Option.some.inj h) rfl rfl dX10_account_74
  have h := z_ifF c1 h
  by_cases c12 : p1 = (1 : Int32)
  · have h := z_ifT c12 h
    refine z_tableIn hB (tgt := 75) dX10_account_1 c12 (by decide) (by decide) rfl (by decide) ?_
    refine z_aload_n hB 0 dX10_account_75 rfl rfl ?_
    refine z_bipush hB dX10_account_76 zcB_6 ?_
    refine z_iload_n hB 1 dX10_account_78 rfl rfl ?_
    refine z_iadd hB dX10_account_79 ?_
    refine z_iconst hB dX10_account_80 zcI_1 ?_
    refine z_isub hB dX10_account_81 ?_
    obtain ⟨r14, h13, h⟩ := z_b1E h
    refine z_cI hB (z_rV (ι := fun k => k) hB yY_X10_overHouses (c_X10_overHouses _ _ _ h13) rfl cut_M z_hid kM_0 (Nat.le_of_ble_eq_true rfl) vc_10 rfl rfl rfl (Nat.le_of_ble_eq_true rfl) ml_X10_185 ⟨Nat.le_of_ble_eq_true rfl, Nat.le_of_ble_eq_true rfl⟩ dX10_account_82) cut_M z_hid ?_
    refine z_toA (z_mro cut_M) ?_
    exact hret _ _ _ _ (Option.some.inj h) rfl rfl dX10_account_85
  have h := z_ifF c12 h
  by_cases c15 : p1 = (2 : Int32)
  · have h := z_ifT c15 h
    refine z_tableIn hB (tgt := 75) dX10_account_1 c15 (by decide) (by decide) rfl (by decide) ?_
    refine z_aload_n hB 0 dX10_account_75 rfl rfl ?_
    refine z_bipush hB dX10_account_76 zcB_6 ?_
    refine z_iload_n hB 1 dX10_account_78 rfl rfl ?_
    refine z_iadd hB dX10_account_79 ?_
    refine z_iconst hB dX10_account_80 zcI_1 ?_
    refine z_isub hB dX10_account_81 ?_
    obtain ⟨r17, h16, h⟩ := z_b1E h
    refine z_cI hB (z_rV (ι := fun k => k) hB yY_X10_overHouses (c_X10_overHouses _ _ _ h16) rfl cut_M z_hid kM_0 (Nat.le_of_ble_eq_true rfl) vc_10 rfl rfl rfl (Nat.le_of_ble_eq_true rfl) ml_X10_185 ⟨Nat.le_of_ble_eq_true rfl, Nat.le_of_ble_eq_true rfl⟩ dX10_account_82) cut_M z_hid ?_
    refine z_toA (z_mro cut_M) ?_
    exact hret _ _ _ _ (Option.some.inj h) rfl rfl dX10_account_85
  have h := z_ifF c15 h
  by_cases c18 : p1 = (3 : Int32)
  · have h := z_ifT c18 h
    refine z_tableIn hB (tgt := 75) dX10_account_1 c18 (by decide) (by decide) rfl (by decide) ?_
    refine z_aload_n hB 0 dX10_account_75 rfl rfl ?_
    refine z_bipush hB dX10_account_76 zcB_6 ?_
    refine z_iload_n hB 1 dX10_account_78 rfl rfl ?_
    refine z_iadd hB dX10_account_79 ?_
    refine z_iconst hB dX10_account_80 zcI_1 ?_
    refine z_isub hB dX10_account_81 ?_
    obtain ⟨r20, h19, h⟩ := z_b1E h
    refine z_cI hB (z_rV (ι := fun k => k) hB yY_X10_overHouses (c_X10_overHouses _ _ _ h19) rfl cut_M z_hid kM_0 (Nat.le_of_ble_eq_true rfl) vc_10 rfl rfl rfl (Nat.le_of_ble_eq_true rfl) ml_X10_185 ⟨Nat.le_of_ble_eq_true rfl, Nat.le_of_ble_eq_true rfl⟩ dX10_account_82) cut_M z_hid ?_
    refine z_toA (z_mro cut_M) ?_
    exact hret _ _ _ _ (Option.some.inj h) rfl rfl dX10_account_85
  have h := z_ifF c18 h
  by_cases c21 : p1 = (4 : Int32)
  · have h := z_ifT c21 h
    refine z_tableIn hB (tgt := 75) dX10_account_1 c21 (by decide) (by decide) rfl (by decide) ?_
    refine z_aload_n hB 0 dX10_account_75 rfl rfl ?_
    refine z_bipush hB dX10_account_76 zcB_6 ?_
    refine z_iload_n hB 1 dX10_account_78 rfl rfl ?_
    refine z_iadd hB dX10_account_79 ?_
    refine z_iconst hB dX10_account_80 zcI_1 ?_
    refine z_isub hB dX10_account_81 ?_
    obtain ⟨r23, h22, h⟩ := z_b1E h
    refine z_cI hB (z_rV (ι := fun k => k) hB yY_X10_overHouses (c_X10_overHouses _ _ _ h22) rfl cut_M z_hid kM_0 (Nat.le_of_ble_eq_true rfl) vc_10 rfl rfl rfl (Nat.le_of_ble_eq_true rfl) ml_X10_185 ⟨Nat.le_of_ble_eq_true rfl, Nat.le_of_ble_eq_true rfl⟩ dX10_account_82) cut_M z_hid ?_
    refine z_toA (z_mro cut_M) ?_
    exact hret _ _ _ _ (Option.some.inj h) rfl rfl dX10_account_85
  have h := z_ifF c21 h
  by_cases c24 : p1 = (5 : Int32)
  · have h := z_ifT c24 h
    refine z_tableIn hB (tgt := 75) dX10_account_1 c24 (by decide) (by decide) rfl (by decide) ?_
    refine z_aload_n hB 0 dX10_account_75 rfl rfl ?_
    refine z_bipush hB dX10_account_76 zcB_6 ?_
    refine z_iload_n hB 1 dX10_account_78 rfl rfl ?_
    refine z_iadd hB dX10_account_79 ?_
    refine z_iconst hB dX10_account_80 zcI_1 ?_
    refine z_isub hB dX10_account_81 ?_
    obtain ⟨r26, h25, h⟩ := z_b1E h
    refine z_cI hB (z_rV (ι := fun k => k) hB yY_X10_overHouses (c_X10_overHouses _ _ _ h25) rfl cut_M z_hid kM_0 (Nat.le_of_ble_eq_true rfl) vc_10 rfl rfl rfl (Nat.le_of_ble_eq_true rfl) ml_X10_185 ⟨Nat.le_of_ble_eq_true rfl, Nat.le_of_ble_eq_true rfl⟩ dX10_account_82) cut_M z_hid ?_
    refine z_toA (z_mro cut_M) ?_
    exact hret _ _ _ _ (Option.some.inj h) rfl rfl dX10_account_85
  have h := z_ifF c24 h
  refine z_tableOut hB (tgt := 86) dX10_account_1 (z_tsE (z_ts ((z_ts ((z_ts ((z_ts ((z_ts ((z_ts (z_ts0 p1 0) c1 rfl)) c12 rfl)) c15 rfl)) c18 rfl)) c21 rfl)) c24 rfl) (by decide)) (by decide) ?_
  refine z_iconst hB dX10_account_86 zcI_m1 ?_
  exact hret _ _ _ _ (Option.some.inj h) rfl rfl dX10_account_87
def lb_X10_pausedNow_4 (σ : z_S) (k1 : Int32 → Int32 → Option Int32) (x2 : Int32) (x3 : Int32) : Option Int32 :=
  z_cki (1 : Int32) 537 <|
  if (σ 1 (1 : Int32).toNatClampNeg) ≤ x3 then
  (some (x2))
  else
  (z_cki (4 : Int32) 537 <|
  z_b1 (f_X10_isPaused x3 (σ 1 (4 : Int32).toNatClampNeg) σ) fun r8 =>
  z_let (fun (y9 : Int32) => z_let (x2 + y9) fun x11 =>
  z_let (x3 + (1 : Int32)) fun x12 =>
  k1 x11 x12) fun j10 =>
  if r8 = (0 : Int32) then
  (j10 (0 : Int32))
  else
  (j10 (1 : Int32)))
def f_X10_pausedNow (σ : z_S) : Option Int32 :=
  z_lp2 (lb_X10_pausedNow_4 σ) z_Fu (0 : Int32) (0 : Int32)
set_option maxRecDepth 100000 in
set_option maxHeartbeats 4000000 in
theorem c_X10_pausedNow (σ : z_S) (r : Int32) (h : f_X10_pausedNow σ = some r) : zMet yX10_pausedNow cX10_pausedNow 3 (some .int) 2 47 layM 10 (fun ad => [.ref (ad 0)]) σ (z_QI layM 10 r σ) := by
  refine z_headI RX10 (by decide) rfl (fun _ => Nat.le_of_ble_eq_true rfl) (fun E G A ad hB hret => ?_)
  show ZW E G A 3 layM 10 ad 0 [(0, .ref (ad 0))] [] σ
  unfold f_X10_pausedNow at h
  refine z_iconst hB dX10_pausedNow_0 zcI_0 ?_
  refine z_istore_n hB [(1, .int ((0 : Int32))), (0, .ref (ad 0))] dX10_pausedNow_1 rfl (Nat.le_of_ble_eq_true rfl) rfl rfl ?_
  refine z_iconst hB dX10_pausedNow_2 zcI_0 ?_
  refine z_istore_n hB [(2, .int ((0 : Int32))), (1, .int ((0 : Int32))), (0, .ref (ad 0))] dX10_pausedNow_3 rfl (Nat.le_of_ble_eq_true rfl) rfl rfl ?_
  refine z_lv [2, 1, 0] rfl ?_
  refine z_lpr2 (g := fun x2 x3 => ZW E G A 3 layM 10 ad 4 [(0, .ref (ad 0)), (1, .int x2), (2, .int x3)] [] σ) (fun k1 x2 x3 hk_k1 h => ?_) _ _ _ h
  show ZW E G A 3 layM 10 ad 4 [(0, .ref (ad 0)), (1, .int x2), (2, .int x3)] [] σ
  unfold lb_X10_pausedNow_4 at h
  refine z_iload_n hB 2 dX10_pausedNow_4 rfl rfl ?_
  refine z_aload_n hB 0 dX10_pausedNow_5 rfl rfl ?_
  refine z_getr hB 0 0 1 kM_0 (Nat.le_of_ble_eq_true rfl) vc_10 inlX10 (Nat.le_of_ble_eq_true rfl) rfl (Nat.le_of_ble_eq_true rfl) fl_X10_7 dX10_pausedNow_6 ?_
  refine z_iconst hB dX10_pausedNow_9 zcI_1 ?_
  obtain ⟨h4, h⟩ := z_ckiE h
  refine z_iald hB 1 537 kM_1 (Nat.le_of_ble_eq_true rfl) dX10_pausedNow_10 h4 ?_
  refine z_icmp_ge hB (tgt := 42) dX10_pausedNow_11 (by decide) (fun c5 => ?_) (fun c5 => ?_)
  · have h := z_ifT c5 h
    refine z_iload_n hB 1 dX10_pausedNow_42 rfl rfl ?_
    exact hret _ _ _ _ (Option.some.inj h) rfl rfl dX10_pausedNow_43
  · have h := z_ifF c5 h
    refine z_iload_n hB 1 dX10_pausedNow_14 rfl rfl ?_
    refine z_aload_n hB 0 dX10_pausedNow_15 rfl rfl ?_
    refine z_iload_n hB 2 dX10_pausedNow_16 rfl rfl ?_
    refine z_aload_n hB 0 dX10_pausedNow_17 rfl rfl ?_
    refine z_getr hB 0 0 1 kM_0 (Nat.le_of_ble_eq_true rfl) vc_10 inlX10 (Nat.le_of_ble_eq_true rfl) rfl (Nat.le_of_ble_eq_true rfl) fl_X10_7 dX10_pausedNow_18 ?_
    refine z_iconst hB dX10_pausedNow_21 zcI_4 ?_
    obtain ⟨h6, h⟩ := z_ckiE h
    refine z_iald hB 1 537 kM_1 (Nat.le_of_ble_eq_true rfl) dX10_pausedNow_22 h6 ?_
    obtain ⟨r8, h7, h⟩ := z_b1E h
    refine z_cI hB (z_rV (ι := fun k => k) hB yY_X10_isPaused (c_X10_isPaused _ _ _ _ h7) rfl cut_M z_hid kM_0 (Nat.le_of_ble_eq_true rfl) vc_10 rfl rfl rfl (Nat.le_of_ble_eq_true rfl) ml_X10_138 ⟨Nat.le_of_ble_eq_true rfl, Nat.le_of_ble_eq_true rfl⟩ dX10_pausedNow_23) cut_M z_hid ?_
    refine z_toA (z_mro cut_M) ?_
    obtain ⟨j10, ej10, h⟩ := z_letE h
    have hj10 : ∀ (y9 : Int32), j10 y9 = some r → ZW E G A 3 layM 10 ad 34 [(0, .ref (ad 0)), (2, .int x3)] [.int y9, .int x2] σ := by
      intro y9 h
      rw [ej10] at h
      refine z_iadd hB dX10_pausedNow_34 ?_
      obtain ⟨x11, ex11, h⟩ := z_letE h
      refine z_istore_n hB [(1, .int x11), (0, .ref (ad 0)), (2, .int x3)] dX10_pausedNow_35 rfl (Nat.le_of_ble_eq_true rfl) ex11 rfl ?_
      obtain ⟨x12, ex12, h⟩ := z_letE h
      refine z_iinc hB 2 [(2, .int x12), (1, .int x11), (0, .ref (ad 0))] dX10_pausedNow_36 rfl (by rw [zcI_1]; exact ex12) (Nat.le_of_ble_eq_true rfl) rfl ?_
      refine z_goto hB (tgt := 4) dX10_pausedNow_39 (by decide) ?_
      refine z_lv [2, 1, 0] rfl ?_
      exact hk_k1 _ _ h
    refine z_if_eq hB (tgt := 33) dX10_pausedNow_26 (by decide) (fun c13 => ?_) (fun c13 => ?_)
    · have h := z_ifT c13 h
      refine z_iconst hB dX10_pausedNow_33 zcI_0 ?_
      refine z_lv [0, 2] rfl ?_
      exact hj10 _ h
    · have h := z_ifF c13 h
      refine z_iconst hB dX10_pausedNow_29 zcI_1 ?_
      refine z_goto hB (tgt := 34) dX10_pausedNow_30 (by decide) ?_
      refine z_lv [0, 2] rfl ?_
      exact hj10 _ h
def lb_X10_tipsAll_4 (σ : z_S) (k1 : Int32 → Int32 → Option Int32) (x2 : Int32) (x3 : Int32) : Option Int32 :=
  z_cki (2 : Int32) 537 <|
  if (σ 1 (2 : Int32).toNatClampNeg) ≤ x3 then
  (some (x2))
  else
  (z_b1 (f_X10_ofCarrier x3 (5 : Int32) σ) fun r7 =>
  z_let (x2 + r7) fun x8 =>
  z_let (x3 + (1 : Int32)) fun x9 =>
  k1 x8 x9)
def f_X10_tipsAll (σ : z_S) : Option Int32 :=
  z_lp2 (lb_X10_tipsAll_4 σ) z_Fu (0 : Int32) (0 : Int32)
set_option maxRecDepth 100000 in
set_option maxHeartbeats 4000000 in
theorem c_X10_tipsAll (σ : z_S) (r : Int32) (h : f_X10_tipsAll σ = some r) : zMet yX10_tipsAll cX10_tipsAll 3 (some .int) 1 22 layM 10 (fun ad => [.ref (ad 0)]) σ (z_QI layM 10 r σ) := by
  refine z_headI RX10 (by decide) rfl (fun _ => Nat.le_of_ble_eq_true rfl) (fun E G A ad hB hret => ?_)
  show ZW E G A 3 layM 10 ad 0 [(0, .ref (ad 0))] [] σ
  unfold f_X10_tipsAll at h
  refine z_iconst hB dX10_tipsAll_0 zcI_0 ?_
  refine z_istore_n hB [(1, .int ((0 : Int32))), (0, .ref (ad 0))] dX10_tipsAll_1 rfl (Nat.le_of_ble_eq_true rfl) rfl rfl ?_
  refine z_iconst hB dX10_tipsAll_2 zcI_0 ?_
  refine z_istore_n hB [(2, .int ((0 : Int32))), (1, .int ((0 : Int32))), (0, .ref (ad 0))] dX10_tipsAll_3 rfl (Nat.le_of_ble_eq_true rfl) rfl rfl ?_
  refine z_lv [2, 1, 0] rfl ?_
  refine z_lpr2 (g := fun x2 x3 => ZW E G A 3 layM 10 ad 4 [(0, .ref (ad 0)), (1, .int x2), (2, .int x3)] [] σ) (fun k1 x2 x3 hk_k1 h => ?_) _ _ _ h
  show ZW E G A 3 layM 10 ad 4 [(0, .ref (ad 0)), (1, .int x2), (2, .int x3)] [] σ
  unfold lb_X10_tipsAll_4 at h
  refine z_iload_n hB 2 dX10_tipsAll_4 rfl rfl ?_
  refine z_aload_n hB 0 dX10_tipsAll_5 rfl rfl ?_
  refine z_getr hB 0 0 1 kM_0 (Nat.le_of_ble_eq_true rfl) vc_10 inlX10 (Nat.le_of_ble_eq_true rfl) rfl (Nat.le_of_ble_eq_true rfl) fl_X10_7 dX10_tipsAll_6 ?_
  refine z_iconst hB dX10_tipsAll_9 zcI_2 ?_
  obtain ⟨h4, h⟩ := z_ckiE h
  refine z_iald hB 1 537 kM_1 (Nat.le_of_ble_eq_true rfl) dX10_tipsAll_10 h4 ?_
  refine z_icmp_ge hB (tgt := 29) dX10_tipsAll_11 (by decide) (fun c5 => ?_) (fun c5 => ?_)
  · have h := z_ifT c5 h
    refine z_iload_n hB 1 dX10_tipsAll_29 rfl rfl ?_
    exact hret _ _ _ _ (Option.some.inj h) rfl rfl dX10_tipsAll_30
  · have h := z_ifF c5 h
    refine z_iload_n hB 1 dX10_tipsAll_14 rfl rfl ?_
    refine z_aload_n hB 0 dX10_tipsAll_15 rfl rfl ?_
    refine z_iload_n hB 2 dX10_tipsAll_16 rfl rfl ?_
    refine z_iconst hB dX10_tipsAll_17 zcI_5 ?_
    obtain ⟨r7, h6, h⟩ := z_b1E h
    refine z_cI hB (z_rV (ι := fun k => k) hB yY_X10_ofCarrier (c_X10_ofCarrier _ _ _ _ h6) rfl cut_M z_hid kM_0 (Nat.le_of_ble_eq_true rfl) vc_10 rfl rfl rfl (Nat.le_of_ble_eq_true rfl) ml_X10_85 ⟨Nat.le_of_ble_eq_true rfl, Nat.le_of_ble_eq_true rfl⟩ dX10_tipsAll_18) cut_M z_hid ?_
    refine z_toA (z_mro cut_M) ?_
    refine z_iadd hB dX10_tipsAll_21 ?_
    obtain ⟨x8, ex8, h⟩ := z_letE h
    refine z_istore_n hB [(1, .int x8), (0, .ref (ad 0)), (2, .int x3)] dX10_tipsAll_22 rfl (Nat.le_of_ble_eq_true rfl) ex8 rfl ?_
    obtain ⟨x9, ex9, h⟩ := z_letE h
    refine z_iinc hB 2 [(2, .int x9), (1, .int x8), (0, .ref (ad 0))] dX10_tipsAll_23 rfl (by rw [zcI_1]; exact ex9) (Nat.le_of_ble_eq_true rfl) rfl ?_
    refine z_goto hB (tgt := 4) dX10_tipsAll_26 (by decide) ?_
    refine z_lv [2, 1, 0] rfl ?_
    exact hk_k1 _ _ h
def f_X10_count (p1 : Int32) (σ : z_S) : Option Int32 :=
  if p1 = (0 : Int32) then
  (z_cki p1 537 <|
  some (σ 1 p1.toNatClampNeg))
  else if p1 = (1 : Int32) then
  (z_cki p1 537 <|
  some (σ 1 p1.toNatClampNeg))
  else if p1 = (2 : Int32) then
  (z_cki p1 537 <|
  some (σ 1 p1.toNatClampNeg))
  else if p1 = (3 : Int32) then
  (z_cki p1 537 <|
  some (σ 1 p1.toNatClampNeg))
  else if p1 = (4 : Int32) then
  (z_cki p1 537 <|
  some (σ 1 p1.toNatClampNeg))
  else if p1 = (5 : Int32) then
  (z_b1 (f_X10_housesOf (-1 : Int32) σ) fun r13 =>
  some (r13))
  else if p1 = (6 : Int32) then
  (z_b1 (f_X10_pausedNow σ) fun r16 =>
  some (r16))
  else if p1 = (7 : Int32) then
  (z_b1 (f_X10_overHouses (11 : Int32) σ) fun r19 =>
  some (r19))
  else if p1 = (8 : Int32) then
  (z_b1 (f_X10_tipsAll σ) fun r22 =>
  some (r22))
  else if p1 = (9 : Int32) then
  (some (σ 0 2))
  else if p1 = (10 : Int32) then
  (some (σ 0 6))
  else (z_b1 (f_X10_in p1 (20 : Int32) (21 : Int32) σ) fun r26 =>
  if r26 = (0 : Int32) then
  (some ((-1 : Int32)))
  else
  (z_cki (((5 : Int32) + p1) - (20 : Int32)) 537 <|
  some (σ 1 (((5 : Int32) + p1) - (20 : Int32)).toNatClampNeg)))
set_option maxRecDepth 100000 in
set_option maxHeartbeats 4000000 in
theorem c_X10_count (p1 : Int32) (σ : z_S) (r : Int32) (h : f_X10_count p1 σ = some r) : zMet yX10_count cX10_count 2 (some .int) 3 69 layM 10 (fun ad => [.ref (ad 0), .int p1]) σ (z_QI layM 10 r σ) := by
  refine z_headI RX10 (by decide) rfl (fun _ => Nat.le_of_ble_eq_true rfl) (fun E G A ad hB hret => ?_)
  show ZW E G A 2 layM 10 ad 0 [(0, .ref (ad 0)), (1, .int p1)] [] σ
  unfold f_X10_count at h
  refine z_iload_n hB 1 dX10_count_0 rfl rfl ?_
  by_cases c1 : p1 = (0 : Int32)
  · have h := z_ifT c1 h
    refine z_tableIn hB (tgt := 60) dX10_count_1 c1 (by decide) (by decide) rfl (by decide) ?_
    refine z_aload_n hB 0 dX10_count_60 rfl rfl ?_
    refine z_getr hB 0 0 1 kM_0 (Nat.le_of_ble_eq_true rfl) vc_10 inlX10 (Nat.le_of_ble_eq_true rfl) rfl (Nat.le_of_ble_eq_true rfl) fl_X10_7 dX10_count_61 ?_
    refine z_iload_n hB 1 dX10_count_64 rfl rfl ?_
    obtain ⟨h2, h⟩ := z_ckiE h
    refine z_iald hB 1 537 kM_1 (Nat.le_of_ble_eq_true rfl) dX10_count_65 h2 ?_
    exact hret _ _ _ _ (Option.some.inj h) rfl rfl dX10_count_66
  have h := z_ifF c1 h
  by_cases c3 : p1 = (1 : Int32)
  · have h := z_ifT c3 h
    refine z_tableIn hB (tgt := 60) dX10_count_1 c3 (by decide) (by decide) rfl (by decide) ?_
    refine z_aload_n hB 0 dX10_count_60 rfl rfl ?_
    refine z_getr hB 0 0 1 kM_0 (Nat.le_of_ble_eq_true rfl) vc_10 inlX10 (Nat.le_of_ble_eq_true rfl) rfl (Nat.le_of_ble_eq_true rfl) fl_X10_7 dX10_count_61 ?_
    refine z_iload_n hB 1 dX10_count_64 rfl rfl ?_
    obtain ⟨h4, h⟩ := z_ckiE h
    refine z_iald hB 1 537 kM_1 (Nat.le_of_ble_eq_true rfl) dX10_count_65 h4 ?_
    exact hret _ _ _ _ (Option.some.inj h) rfl rfl dX10_count_66
  have h := z_ifF c3 h
  by_cases c5 : p1 = (2 : Int32)
  · have h := z_ifT c5 h
    refine z_tableIn hB (tgt := 60) dX10_count_1 c5 (by decide) (by decide) rfl (by decide) ?_
    refine z_aload_n hB 0 dX10_count_60 rfl rfl ?_
    refine z_getr hB 0 0 1 kM_0 (Nat.le_of_ble_eq_true rfl) vc_10 inlX10 (Nat.le_of_ble_eq_true rfl) rfl (Nat.le_of_ble_eq_true rfl) fl_X10_7 dX10_count_61 ?_
    refine z_iload_n hB 1 dX10_count_64 rfl rfl ?_
    obtain ⟨h6, h⟩ := z_ckiE h
    refine z_iald hB 1 537 kM_1 (Nat.le_of_ble_eq_true rfl) dX10_count_65 h6 ?_
    exact hret _ _ _ _ (Option.some.inj h) rfl rfl dX10_count_66
  have h := z_ifF c5 h
  by_cases c7 : p1 = (3 : Int32)
  · have h := z_ifT c7 h
    refine z_tableIn hB (tgt := 60) dX10_count_1 c7 (by decide) (by decide) rfl (by decide) ?_
    refine z_aload_n hB 0 dX10_count_60 rfl rfl ?_
    refine z_getr hB 0 0 1 kM_0 (Nat.le_of_ble_eq_true rfl) vc_10 inlX10 (Nat.le_of_ble_eq_true rfl) rfl (Nat.le_of_ble_eq_true rfl) fl_X10_7 dX10_count_61 ?_
    refine z_iload_n hB 1 dX10_count_64 rfl rfl ?_
    obtain ⟨h8, h⟩ := z_ckiE h
    refine z_iald hB 1 537 kM_1 (Nat.le_of_ble_eq_true rfl) dX10_count_65 h8 ?_
    exact hret _ _ _ _ (Option.some.inj h) rfl rfl dX10_count_66
  have h := z_ifF c7 h
  by_cases c9 : p1 = (4 : Int32)
  · have h := z_ifT c9 h
    refine z_tableIn hB (tgt := 60) dX10_count_1 c9 (by decide) (by decide) rfl (by decide) ?_
    refine z_aload_n hB 0 dX10_count_60 rfl rfl ?_
    refine z_getr hB 0 0 1 kM_0 (Nat.le_of_ble_eq_true rfl) vc_10 inlX10 (Nat.le_of_ble_eq_true rfl) rfl (Nat.le_of_ble_eq_true rfl) fl_X10_7 dX10_count_61 ?_
    refine z_iload_n hB 1 dX10_count_64 rfl rfl ?_
    obtain ⟨h10, h⟩ := z_ckiE h
    refine z_iald hB 1 537 kM_1 (Nat.le_of_ble_eq_true rfl) dX10_count_65 h10 ?_
    exact hret _ _ _ _ (Option.some.inj h) rfl rfl dX10_count_66
  have h := z_ifF c9 h
  by_cases c11 : p1 = (5 : Int32)
  · have h := z_ifT c11 h
    refine z_tableIn hB (tgt := 67) dX10_count_1 c11 (by decide) (by decide) rfl (by decide) ?_
    refine z_aload_n hB 0 dX10_count_67 rfl rfl ?_
    refine z_iconst hB dX10_count_68 zcI_m1 ?_
    obtain ⟨r13, h12, h⟩ := z_b1E h
    refine z_cI hB (z_rV (ι := fun k => k) hB yY_X10_housesOf (c_X10_housesOf _ _ _ h12) rfl cut_M z_hid kM_0 (Nat.le_of_ble_eq_true rfl) vc_10 rfl rfl rfl (Nat.le_of_ble_eq_true rfl) ml_X10_97 ⟨Nat.le_of_ble_eq_true rfl, Nat.le_of_ble_eq_true rfl⟩ dX10_count_69) cut_M z_hid ?_
    refine z_toA (z_mro cut_M) ?_
    exact hret _ _ _ _ (Option.some.inj h) rfl rfl dX10_count_72
  have h := z_ifF c11 h
  by_cases c14 : p1 = (6 : Int32)
  · have h := z_ifT c14 h
    refine z_tableIn hB (tgt := 73) dX10_count_1 c14 (by decide) (by decide) rfl (by decide) ?_
    refine z_aload_n hB 0 dX10_count_73 rfl rfl ?_
    obtain ⟨r16, h15, h⟩ := z_b1E h
    refine z_cI hB (z_rV (ι := fun k => k) hB yY_X10_pausedNow (c_X10_pausedNow _ _ h15) rfl cut_M z_hid kM_0 (Nat.le_of_ble_eq_true rfl) vc_10 rfl rfl rfl (Nat.le_of_ble_eq_true rfl) ml_X10_188 ⟨Nat.le_of_ble_eq_true rfl, Nat.le_of_ble_eq_true rfl⟩ dX10_count_74) cut_M z_hid ?_
    refine z_toA (z_mro cut_M) ?_
    exact hret _ _ _ _ (Option.some.inj h) rfl rfl dX10_count_77
  have h := z_ifF c14 h
  by_cases c17 : p1 = (7 : Int32)
  · have h := z_ifT c17 h
    refine z_tableIn hB (tgt := 78) dX10_count_1 c17 (by decide) (by decide) rfl (by decide) ?_
    refine z_aload_n hB 0 dX10_count_78 rfl rfl ?_
    refine z_bipush hB dX10_count_79 zcB_11 ?_
    obtain ⟨r19, h18, h⟩ := z_b1E h
    refine z_cI hB (z_rV (ι := fun k => k) hB yY_X10_overHouses (c_X10_overHouses _ _ _ h18) rfl cut_M z_hid kM_0 (Nat.le_of_ble_eq_true rfl) vc_10 rfl rfl rfl (Nat.le_of_ble_eq_true rfl) ml_X10_185 ⟨Nat.le_of_ble_eq_true rfl, Nat.le_of_ble_eq_true rfl⟩ dX10_count_81) cut_M z_hid ?_
    refine z_toA (z_mro cut_M) ?_
    exact hret _ _ _ _ (Option.some.inj h) rfl rfl dX10_count_84
  have h := z_ifF c17 h
  by_cases c20 : p1 = (8 : Int32)
  · have h := z_ifT c20 h
    refine z_tableIn hB (tgt := 85) dX10_count_1 c20 (by decide) (by decide) rfl (by decide) ?_
    refine z_aload_n hB 0 dX10_count_85 rfl rfl ?_
    obtain ⟨r22, h21, h⟩ := z_b1E h
    refine z_cI hB (z_rV (ι := fun k => k) hB yY_X10_tipsAll (c_X10_tipsAll _ _ h21) rfl cut_M z_hid kM_0 (Nat.le_of_ble_eq_true rfl) vc_10 rfl rfl rfl (Nat.le_of_ble_eq_true rfl) ml_X10_191 ⟨Nat.le_of_ble_eq_true rfl, Nat.le_of_ble_eq_true rfl⟩ dX10_count_86) cut_M z_hid ?_
    refine z_toA (z_mro cut_M) ?_
    exact hret _ _ _ _ (Option.some.inj h) rfl rfl dX10_count_89
  have h := z_ifF c20 h
  by_cases c23 : p1 = (9 : Int32)
  · have h := z_ifT c23 h
    refine z_tableIn hB (tgt := 90) dX10_count_1 c23 (by decide) (by decide) rfl (by decide) ?_
    refine z_aload_n hB 0 dX10_count_90 rfl rfl ?_
    refine z_get hB 0 2 kM_0 (Nat.le_of_ble_eq_true rfl) vc_10 inlX10 (Nat.le_of_ble_eq_true rfl) rfl fl_X10_41 dX10_count_91 ?_
    exact hret _ _ _ _ (Option.some.inj h) rfl rfl dX10_count_94
  have h := z_ifF c23 h
  by_cases c24 : p1 = (10 : Int32)
  · have h := z_ifT c24 h
    refine z_tableIn hB (tgt := 95) dX10_count_1 c24 (by decide) (by decide) rfl (by decide) ?_
    refine z_aload_n hB 0 dX10_count_95 rfl rfl ?_
    refine z_get hB 0 6 kM_0 (Nat.le_of_ble_eq_true rfl) vc_10 inlX10 (Nat.le_of_ble_eq_true rfl) rfl fl_X10_194 dX10_count_96 ?_
    exact hret _ _ _ _ (Option.some.inj h) rfl rfl dX10_count_99
  have h := z_ifF c24 h
  refine z_tableOut hB (tgt := 100) dX10_count_1 (z_tsE (z_ts ((z_ts ((z_ts ((z_ts ((z_ts ((z_ts ((z_ts ((z_ts ((z_ts ((z_ts ((z_ts (z_ts0 p1 0) c1 rfl)) c3 rfl)) c5 rfl)) c7 rfl)) c9 rfl)) c11 rfl)) c14 rfl)) c17 rfl)) c20 rfl)) c23 rfl)) c24 rfl) (by decide)) (by decide) ?_
  refine z_iload_n hB 1 dX10_count_100 rfl rfl ?_
  refine z_bipush hB dX10_count_101 zcB_20 ?_
  refine z_bipush hB dX10_count_103 zcB_21 ?_
  obtain ⟨r26, h25, h⟩ := z_b1E h
  refine z_cI hB (z_rS (ι := fun k => k) hB yY_X10_in (c_X10_in _ _ _ _ _ h25) rfl z_cut0 z_hno rfl rfl rfl (Nat.le_of_ble_eq_true rfl) ml_X10_45 ⟨Nat.le_of_ble_eq_true rfl, Nat.le_of_ble_eq_true rfl⟩ dX10_count_105) z_cut0 z_hno ?_
  refine z_toA (z_mro (lay := layM) (lay' := z_lay0) (b := false) z_cut0) ?_
  refine z_if_eq hB (tgt := 125) dX10_count_108 (by decide) (fun c27 => ?_) (fun c27 => ?_)
  · have h := z_ifT c27 h
    refine z_iconst hB dX10_count_125 zcI_m1 ?_
    exact hret _ _ _ _ (Option.some.inj h) rfl rfl dX10_count_126
  · have h := z_ifF c27 h
    refine z_aload_n hB 0 dX10_count_111 rfl rfl ?_
    refine z_getr hB 0 0 1 kM_0 (Nat.le_of_ble_eq_true rfl) vc_10 inlX10 (Nat.le_of_ble_eq_true rfl) rfl (Nat.le_of_ble_eq_true rfl) fl_X10_7 dX10_count_112 ?_
    refine z_iconst hB dX10_count_115 zcI_5 ?_
    refine z_iload_n hB 1 dX10_count_116 rfl rfl ?_
    refine z_iadd hB dX10_count_117 ?_
    refine z_bipush hB dX10_count_118 zcB_20 ?_
    refine z_isub hB dX10_count_120 ?_
    obtain ⟨h28, h⟩ := z_ckiE h
    refine z_iald hB 1 537 kM_1 (Nat.le_of_ble_eq_true rfl) dX10_count_121 h28 ?_
    refine z_goto hB (tgt := 126) dX10_count_122 (by decide) ?_
    exact hret _ _ _ _ (Option.some.inj h) rfl rfl dX10_count_126
def f_X10_undo (σ : z_S) : Option (Int32 × z_S) :=
  if (σ 0 2) = (0 : Int32) then
  (some ((-2 : Int32), σ))
  else
  (z_let (z_u σ 0 2 ((σ 0 2) - (1 : Int32))) fun σ2 =>
  z_b1 (f_X10_copies 2148 537 ((σ2 0 2) * (537 : Int32)) (0 : Int32) (fun k => σ2 (zi2 2 1 k))) fun σ4 =>
  z_let (z_m σ2 (zk2 2 1) 2 σ4) fun σ5 =>
  some (σ5 0 2, σ5))
set_option maxRecDepth 100000 in
set_option maxHeartbeats 4000000 in
theorem c_X10_undo (σ : z_S) (r : Int32) (σz : z_S) (h : f_X10_undo σ = some (r, σz)) : zMet yX10_undo cX10_undo 1 (some .int) 1 24 layM 10 (fun ad => [.ref (ad 0)]) σ (z_QI layM 10 r σz) := by
  refine z_headI RX10 (by decide) rfl (fun _ => Nat.le_of_ble_eq_true rfl) (fun E G A ad hB hret => ?_)
  show ZW E G A 1 layM 10 ad 0 [(0, .ref (ad 0))] [] σ
  unfold f_X10_undo at h
  refine z_aload_n hB 0 dX10_undo_0 rfl rfl ?_
  refine z_get hB 0 2 kM_0 (Nat.le_of_ble_eq_true rfl) vc_10 inlX10 (Nat.le_of_ble_eq_true rfl) rfl fl_X10_41 dX10_undo_1 ?_
  refine z_if_ne hB (tgt := 10) dX10_undo_4 (by decide) (fun c1 => ?_) (fun c1 => ?_)
  · have h := z_ifF c1 h
    refine z_aload_n hB 0 dX10_undo_10 rfl rfl ?_
    refine z_dup hB dX10_undo_11 rfl ?_
    refine z_get hB 0 2 kM_0 (Nat.le_of_ble_eq_true rfl) vc_10 inlX10 (Nat.le_of_ble_eq_true rfl) rfl fl_X10_41 dX10_undo_12 ?_
    refine z_iconst hB dX10_undo_15 zcI_1 ?_
    refine z_isub hB dX10_undo_16 ?_
    obtain ⟨σ2, eσ2, h⟩ := z_letE h
    refine z_put hB 0 2 kM_0 (Nat.le_of_ble_eq_true rfl) vc_10 inlX10 tyX10 tyX10_ok nmX10 (Nat.le_of_ble_eq_true rfl) rfl rfl (tyX10_ok 2 (Nat.le_of_ble_eq_true rfl)) fl_X10_41 dX10_undo_17 ?_
    refine z_to eσ2 ?_
    refine z_aload_n hB 0 dX10_undo_20 rfl rfl ?_
    refine z_getr hB 0 1 2 kM_0 (Nat.le_of_ble_eq_true rfl) vc_10 inlX10 (Nat.le_of_ble_eq_true rfl) rfl (Nat.le_of_ble_eq_true rfl) fl_X10_13 dX10_undo_21 ?_
    refine z_aload_n hB 0 dX10_undo_24 rfl rfl ?_
    refine z_get hB 0 2 kM_0 (Nat.le_of_ble_eq_true rfl) vc_10 inlX10 (Nat.le_of_ble_eq_true rfl) rfl fl_X10_41 dX10_undo_25 ?_
    refine z_sipush hB dX10_undo_28 zcS_537 ?_
    refine z_imul hB dX10_undo_31 ?_
    refine z_aload_n hB 0 dX10_undo_32 rfl rfl ?_
    refine z_getr hB 0 0 1 kM_0 (Nat.le_of_ble_eq_true rfl) vc_10 inlX10 (Nat.le_of_ble_eq_true rfl) rfl (Nat.le_of_ble_eq_true rfl) fl_X10_7 dX10_undo_33 ?_
    refine z_iconst hB dX10_undo_36 zcI_0 ?_
    obtain ⟨σ4, h3, h⟩ := z_b1E h
    refine z_cV hB (z_rS (ι := zi2 2 1) hB yY_X10_copies (c_X10_copies _ _ _ _ _ _ h3) rfl (cutC_M_2_1) z_hno rfl rfl rfl (Nat.le_of_ble_eq_true rfl) ml_X10_37 ⟨Nat.le_of_ble_eq_true rfl, Nat.le_of_ble_eq_true rfl⟩ dX10_undo_37) (cutC_M_2_1) z_hno ?_
    obtain ⟨σ5, eσ5, h⟩ := z_letE h
    refine z_to eσ5 ?_
    refine z_aload_n hB 0 dX10_undo_40 rfl rfl ?_
    refine z_get hB 0 2 kM_0 (Nat.le_of_ble_eq_true rfl) vc_10 inlX10 (Nat.le_of_ble_eq_true rfl) rfl fl_X10_41 dX10_undo_41 ?_
    obtain ⟨h1, h2⟩ := z_prE h
    exact hret _ _ _ _ h1 h2 rfl dX10_undo_44
  · have h := z_ifT c1 h
    refine z_bipush hB dX10_undo_7 zcB_m2 ?_
    obtain ⟨h1, h2⟩ := z_prE h
    exact hret _ _ _ _ h1 h2 rfl dX10_undo_9
def f_X10_type (p1 : Int32) (σ : z_S) : Option (Int32 × z_S) :=
  z_b1 (f_X10_in p1 (32 : Int32) (126 : Int32) σ) fun r2 =>
  if r2 = (0 : Int32) then
  (some ((-1 : Int32), σ))
  else
  (if (σ 0 6) = (60 : Int32) then
  (some ((-3 : Int32), σ))
  else
  (z_cki (σ 0 6) 60 <|
  z_let (z_u σ 5 (σ 0 6).toNatClampNeg (p1)) fun σ6 =>
  z_let (z_u σ6 0 6 ((σ6 0 6) + (1 : Int32))) fun σ7 =>
  some (σ7 0 6, σ7)))
set_option maxRecDepth 100000 in
set_option maxHeartbeats 4000000 in
theorem c_X10_type (p1 : Int32) (σ : z_S) (r : Int32) (σz : z_S) (h : f_X10_type p1 σ = some (r, σz)) : zMet yX10_type cX10_type 2 (some .int) 1 22 layM 10 (fun ad => [.ref (ad 0), .int p1]) σ (z_QI layM 10 r σz) := by
  refine z_headI RX10 (by decide) rfl (fun _ => Nat.le_of_ble_eq_true rfl) (fun E G A ad hB hret => ?_)
  show ZW E G A 2 layM 10 ad 0 [(0, .ref (ad 0)), (1, .int p1)] [] σ
  unfold f_X10_type at h
  refine z_iload_n hB 1 dX10_type_0 rfl rfl ?_
  refine z_bipush hB dX10_type_1 zcB_32 ?_
  refine z_bipush hB dX10_type_3 zcB_126 ?_
  obtain ⟨r2, h1, h⟩ := z_b1E h
  refine z_cI hB (z_rS (ι := fun k => k) hB yY_X10_in (c_X10_in _ _ _ _ _ h1) rfl z_cut0 z_hno rfl rfl rfl (Nat.le_of_ble_eq_true rfl) ml_X10_45 ⟨Nat.le_of_ble_eq_true rfl, Nat.le_of_ble_eq_true rfl⟩ dX10_type_5) z_cut0 z_hno ?_
  refine z_toA (z_mro (lay := layM) (lay' := z_lay0) (b := false) z_cut0) ?_
  refine z_if_ne hB (tgt := 13) dX10_type_8 (by decide) (fun c3 => ?_) (fun c3 => ?_)
  · have h := z_ifF c3 h
    refine z_aload_n hB 0 dX10_type_13 rfl rfl ?_
    refine z_get hB 0 6 kM_0 (Nat.le_of_ble_eq_true rfl) vc_10 inlX10 (Nat.le_of_ble_eq_true rfl) rfl fl_X10_194 dX10_type_14 ?_
    refine z_bipush hB dX10_type_17 zcB_60 ?_
    refine z_icmp_ne hB (tgt := 25) dX10_type_19 (by decide) (fun c4 => ?_) (fun c4 => ?_)
    · have h := z_ifF c4 h
      refine z_aload_n hB 0 dX10_type_25 rfl rfl ?_
      refine z_getr hB 0 5 5 kM_0 (Nat.le_of_ble_eq_true rfl) vc_10 inlX10 (Nat.le_of_ble_eq_true rfl) rfl (Nat.le_of_ble_eq_true rfl) fl_X10_22 dX10_type_26 ?_
      refine z_aload_n hB 0 dX10_type_29 rfl rfl ?_
      refine z_get hB 0 6 kM_0 (Nat.le_of_ble_eq_true rfl) vc_10 inlX10 (Nat.le_of_ble_eq_true rfl) rfl fl_X10_194 dX10_type_30 ?_
      refine z_iload_n hB 1 dX10_type_33 rfl rfl ?_
      obtain ⟨h5, h⟩ := z_ckiE h
      obtain ⟨σ6, eσ6, h⟩ := z_letE h
      refine z_iast hB 5 60 kM_5 (Nat.le_of_ble_eq_true rfl) dX10_type_34 h5 ?_
      refine z_to eσ6 ?_
      refine z_aload_n hB 0 dX10_type_35 rfl rfl ?_
      refine z_dup hB dX10_type_36 rfl ?_
      refine z_get hB 0 6 kM_0 (Nat.le_of_ble_eq_true rfl) vc_10 inlX10 (Nat.le_of_ble_eq_true rfl) rfl fl_X10_194 dX10_type_37 ?_
      refine z_iconst hB dX10_type_40 zcI_1 ?_
      refine z_iadd hB dX10_type_41 ?_
      obtain ⟨σ7, eσ7, h⟩ := z_letE h
      refine z_put hB 0 6 kM_0 (Nat.le_of_ble_eq_true rfl) vc_10 inlX10 tyX10 tyX10_ok nmX10 (Nat.le_of_ble_eq_true rfl) rfl rfl (tyX10_ok 6 (Nat.le_of_ble_eq_true rfl)) fl_X10_194 dX10_type_42 ?_
      refine z_to eσ7 ?_
      refine z_aload_n hB 0 dX10_type_45 rfl rfl ?_
      refine z_get hB 0 6 kM_0 (Nat.le_of_ble_eq_true rfl) vc_10 inlX10 (Nat.le_of_ble_eq_true rfl) rfl fl_X10_194 dX10_type_46 ?_
      obtain ⟨h1, h2⟩ := z_prE h
      exact hret _ _ _ _ h1 h2 rfl dX10_type_49
    · have h := z_ifT c4 h
      refine z_bipush hB dX10_type_22 zcB_m3 ?_
      obtain ⟨h1, h2⟩ := z_prE h
      exact hret _ _ _ _ h1 h2 rfl dX10_type_24
  · have h := z_ifT c3 h
    refine z_iconst hB dX10_type_11 zcI_m1 ?_
    obtain ⟨h1, h2⟩ := z_prE h
    exact hret _ _ _ _ h1 h2 rfl dX10_type_12
def f_X10_clearText (σ : z_S) : Option (Int32 × z_S) :=
  z_let (σ 0 6) fun x1 =>
  z_let (z_u σ 0 6 ((0 : Int32))) fun σ2 =>
  some (x1, σ2)
set_option maxRecDepth 100000 in
set_option maxHeartbeats 4000000 in
theorem c_X10_clearText (σ : z_S) (r : Int32) (σz : z_S) (h : f_X10_clearText σ = some (r, σz)) : zMet yX10_clearText cX10_clearText 2 (some .int) 0 0 layM 10 (fun ad => [.ref (ad 0)]) σ (z_QI layM 10 r σz) := by
  refine z_headI RX10 (by decide) rfl (fun _ => Nat.le_of_ble_eq_true rfl) (fun E G A ad hB hret => ?_)
  show ZW E G A 2 layM 10 ad 0 [(0, .ref (ad 0))] [] σ
  unfold f_X10_clearText at h
  refine z_aload_n hB 0 dX10_clearText_0 rfl rfl ?_
  refine z_get hB 0 6 kM_0 (Nat.le_of_ble_eq_true rfl) vc_10 inlX10 (Nat.le_of_ble_eq_true rfl) rfl fl_X10_194 dX10_clearText_1 ?_
  obtain ⟨x1, ex1, h⟩ := z_letE h
  refine z_istore_n hB [(1, .int x1), (0, .ref (ad 0))] dX10_clearText_4 rfl (Nat.le_of_ble_eq_true rfl) ex1 rfl ?_
  refine z_aload_n hB 1 dX10_clearText_5 rfl rfl ?_
  refine z_iconst hB dX10_clearText_6 zcI_0 ?_
  obtain ⟨σ2, eσ2, h⟩ := z_letE h
  refine z_put hB 0 6 kM_0 (Nat.le_of_ble_eq_true rfl) vc_10 inlX10 tyX10 tyX10_ok nmX10 (Nat.le_of_ble_eq_true rfl) rfl rfl (tyX10_ok 6 (Nat.le_of_ble_eq_true rfl)) fl_X10_194 dX10_clearText_7 ?_
  refine z_to eσ2 ?_
  refine z_iload_n hB 0 dX10_clearText_10 rfl rfl ?_
  obtain ⟨h1, h2⟩ := z_prE h
  exact hret _ _ _ _ h1 h2 rfl dX10_clearText_11
def f_X10_signAt (p1 : Int32) (σ : z_S) : Option Int32 :=
  if (σ 0 6) ≤ p1 then
  (some ((0 : Int32)))
  else
  (z_cki p1 60 <|
  some (σ 5 p1.toNatClampNeg))
set_option maxRecDepth 100000 in
set_option maxHeartbeats 4000000 in
theorem c_X10_signAt (p1 : Int32) (σ : z_S) (r : Int32) (h : f_X10_signAt p1 σ = some r) : zMet yX10_signAt cX10_signAt 2 (some .int) 0 0 layM 10 (fun ad => [.ref (ad 0), .int p1]) σ (z_QI layM 10 r σ) := by
  refine z_headI RX10 (by decide) rfl (fun _ => Nat.le_of_ble_eq_true rfl) (fun E G A ad hB hret => ?_)
  show ZW E G A 2 layM 10 ad 0 [(0, .ref (ad 0)), (1, .int p1)] [] σ
  unfold f_X10_signAt at h
  refine z_iload_n hB 1 dX10_signAt_0 rfl rfl ?_
  refine z_aload_n hB 0 dX10_signAt_1 rfl rfl ?_
  refine z_get hB 0 6 kM_0 (Nat.le_of_ble_eq_true rfl) vc_10 inlX10 (Nat.le_of_ble_eq_true rfl) rfl fl_X10_194 dX10_signAt_2 ?_
  refine z_icmp_ge hB (tgt := 17) dX10_signAt_5 (by decide) (fun c1 => ?_) (fun c1 => ?_)
  · have h := z_ifT c1 h
    refine z_iconst hB dX10_signAt_17 zcI_0 ?_
    exact hret _ _ _ _ (Option.some.inj h) rfl rfl dX10_signAt_18
  · have h := z_ifF c1 h
    refine z_aload_n hB 0 dX10_signAt_8 rfl rfl ?_
    refine z_getr hB 0 5 5 kM_0 (Nat.le_of_ble_eq_true rfl) vc_10 inlX10 (Nat.le_of_ble_eq_true rfl) rfl (Nat.le_of_ble_eq_true rfl) fl_X10_22 dX10_signAt_9 ?_
    refine z_iload_n hB 1 dX10_signAt_12 rfl rfl ?_
    obtain ⟨h2, h⟩ := z_ckiE h
    refine z_iald hB 5 60 kM_5 (Nat.le_of_ble_eq_true rfl) dX10_signAt_13 h2 ?_
    refine z_goto hB (tgt := 18) dX10_signAt_14 (by decide) ?_
    exact hret _ _ _ _ (Option.some.inj h) rfl rfl dX10_signAt_18
def lb_X10_readsNumber_4 (p1 : Int32) (k1 : Int32 → Int32 → z_S → Option (Int32 × z_S)) (x2 : Int32) (x3 : Int32) (σ4 : z_S) : Option (Int32 × z_S) :=
  z_let (fun (_ : Unit) => z_cki p1 3 <|
  z_let (z_u σ4 9 p1.toNatClampNeg (x2)) fun σ7 =>
  if x3 ≤ (0 : Int32) then
  (some ((0 : Int32), σ7))
  else
  (some ((1 : Int32), σ7))) fun j5 =>
  if (3 : Int32) ≤ x3 then
  (j5 ())
  else
  (z_b1 (f_X10_signAt (σ4 0 14) σ4) fun r11 =>
  z_b1 (f_X10_in r11 (48 : Int32) (57 : Int32) σ4) fun r13 =>
  if r13 = (0 : Int32) then
  (j5 ())
  else
  (z_b1 (f_X10_signAt (σ4 0 14) σ4) fun r16 =>
  z_let ((((10 : Int32) * x2) + r16) - (48 : Int32)) fun x17 =>
  z_let (z_u σ4 0 14 ((σ4 0 14) + (1 : Int32))) fun σ18 =>
  z_let (x3 + (1 : Int32)) fun x19 =>
  k1 x17 x19 σ18))
def f_X10_readsNumber (p1 : Int32) (σ : z_S) : Option (Int32 × z_S) :=
  z_lp3 (lb_X10_readsNumber_4 p1) z_Fu (0 : Int32) (0 : Int32) σ
set_option maxRecDepth 100000 in
set_option maxHeartbeats 4000000 in
theorem c_X10_readsNumber (p1 : Int32) (σ : z_S) (r : Int32) (σz : z_S) (h : f_X10_readsNumber p1 σ = some (r, σz)) : zMet yX10_readsNumber cX10_readsNumber 4 (some .boolean) 1 22 layM 10 (fun ad => [.ref (ad 0), .int p1]) σ (z_QI layM 10 r σz) := by
  refine z_headI RX10 (by decide) rfl (fun _ => Nat.le_of_ble_eq_true rfl) (fun E G A ad hB hret => ?_)
  show ZW E G A 4 layM 10 ad 0 [(0, .ref (ad 0)), (1, .int p1)] [] σ
  unfold f_X10_readsNumber at h
  refine z_iconst hB dX10_readsNumber_0 zcI_0 ?_
  refine z_istore_n hB [(2, .int ((0 : Int32))), (0, .ref (ad 0)), (1, .int p1)] dX10_readsNumber_1 rfl (Nat.le_of_ble_eq_true rfl) rfl rfl ?_
  refine z_iconst hB dX10_readsNumber_2 zcI_0 ?_
  refine z_istore_n hB [(3, .int ((0 : Int32))), (2, .int ((0 : Int32))), (0, .ref (ad 0)), (1, .int p1)] dX10_readsNumber_3 rfl (Nat.le_of_ble_eq_true rfl) rfl rfl ?_
  refine z_lv [2, 3, 1, 0] rfl ?_
  refine z_lpr3 (g := fun x2 x3 σ4 => ZW E G A 4 layM 10 ad 4 [(0, .ref (ad 0)), (1, .int p1), (2, .int x2), (3, .int x3)] [] σ4) (fun k1 x2 x3 σ4 hk_k1 h => ?_) _ _ _ _ h
  show ZW E G A 4 layM 10 ad 4 [(0, .ref (ad 0)), (1, .int p1), (2, .int x2), (3, .int x3)] [] σ4
  unfold lb_X10_readsNumber_4 at h
  refine z_iload_n hB 3 dX10_readsNumber_4 rfl rfl ?_
  refine z_iconst hB dX10_readsNumber_5 zcI_3 ?_
  obtain ⟨j5, ej5, h⟩ := z_letE h
  have hj5 : ∀ (_ : Unit), j5 () = some (r, σz) → ZW E G A 4 layM 10 ad 60 [(0, .ref (ad 0)), (1, .int p1), (2, .int x2), (3, .int x3)] [] σ4 := by
    intro _ h
    rw [ej5] at h
    refine z_aload_n hB 0 dX10_readsNumber_60 rfl rfl ?_
    refine z_getr hB 0 16 9 kM_0 (Nat.le_of_ble_eq_true rfl) vc_10 inlX10 (Nat.le_of_ble_eq_true rfl) rfl (Nat.le_of_ble_eq_true rfl) fl_X10_34 dX10_readsNumber_61 ?_
    refine z_iload_n hB 1 dX10_readsNumber_64 rfl rfl ?_
    refine z_iload_n hB 2 dX10_readsNumber_65 rfl rfl ?_
    obtain ⟨h6, h⟩ := z_ckiE h
    obtain ⟨σ7, eσ7, h⟩ := z_letE h
    refine z_iast hB 9 3 kM_9 (Nat.le_of_ble_eq_true rfl) dX10_readsNumber_66 h6 ?_
    refine z_to eσ7 ?_
    refine z_iload_n hB 3 dX10_readsNumber_67 rfl rfl ?_
    refine z_if_le hB (tgt := 75) dX10_readsNumber_68 (by decide) (fun c8 => ?_) (fun c8 => ?_)
    · have h := z_ifT c8 h
      refine z_iconst hB dX10_readsNumber_75 zcI_0 ?_
      obtain ⟨h1, h2⟩ := z_prE h
      exact hret _ _ _ _ h1 h2 rfl dX10_readsNumber_76
    · have h := z_ifF c8 h
      refine z_iconst hB dX10_readsNumber_71 zcI_1 ?_
      refine z_goto hB (tgt := 76) dX10_readsNumber_72 (by decide) ?_
      obtain ⟨h1, h2⟩ := z_prE h
      exact hret _ _ _ _ h1 h2 rfl dX10_readsNumber_76
  refine z_icmp_ge hB (tgt := 60) dX10_readsNumber_6 (by decide) (fun c9 => ?_) (fun c9 => ?_)
  · have h := z_ifT c9 h
    exact hj5 () h
  · have h := z_ifF c9 h
    refine z_aload_n hB 0 dX10_readsNumber_9 rfl rfl ?_
    refine z_aload_n hB 0 dX10_readsNumber_10 rfl rfl ?_
    refine z_get hB 0 14 kM_0 (Nat.le_of_ble_eq_true rfl) vc_10 inlX10 (Nat.le_of_ble_eq_true rfl) rfl fl_X10_197 dX10_readsNumber_11 ?_
    obtain ⟨r11, h10, h⟩ := z_b1E h
    refine z_cI hB (z_rV (ι := fun k => k) hB yY_X10_signAt (c_X10_signAt _ _ _ h10) rfl cut_M z_hid kM_0 (Nat.le_of_ble_eq_true rfl) vc_10 rfl rfl rfl (Nat.le_of_ble_eq_true rfl) ml_X10_200 ⟨Nat.le_of_ble_eq_true rfl, Nat.le_of_ble_eq_true rfl⟩ dX10_readsNumber_14) cut_M z_hid ?_
    refine z_toA (z_mro cut_M) ?_
    refine z_bipush hB dX10_readsNumber_17 zcB_48 ?_
    refine z_bipush hB dX10_readsNumber_19 zcB_57 ?_
    obtain ⟨r13, h12, h⟩ := z_b1E h
    refine z_cI hB (z_rS (ι := fun k => k) hB yY_X10_in (c_X10_in _ _ _ _ _ h12) rfl z_cut0 z_hno rfl rfl rfl (Nat.le_of_ble_eq_true rfl) ml_X10_45 ⟨Nat.le_of_ble_eq_true rfl, Nat.le_of_ble_eq_true rfl⟩ dX10_readsNumber_21) z_cut0 z_hno ?_
    refine z_toA (z_mro (lay := layM) (lay' := z_lay0) (b := false) z_cut0) ?_
    refine z_if_eq hB (tgt := 60) dX10_readsNumber_24 (by decide) (fun c14 => ?_) (fun c14 => ?_)
    · have h := z_ifT c14 h
      exact hj5 () h
    · have h := z_ifF c14 h
      refine z_bipush hB dX10_readsNumber_27 zcB_10 ?_
      refine z_iload_n hB 2 dX10_readsNumber_29 rfl rfl ?_
      refine z_imul hB dX10_readsNumber_30 ?_
      refine z_aload_n hB 0 dX10_readsNumber_31 rfl rfl ?_
      refine z_aload_n hB 0 dX10_readsNumber_32 rfl rfl ?_
      refine z_get hB 0 14 kM_0 (Nat.le_of_ble_eq_true rfl) vc_10 inlX10 (Nat.le_of_ble_eq_true rfl) rfl fl_X10_197 dX10_readsNumber_33 ?_
      obtain ⟨r16, h15, h⟩ := z_b1E h
      refine z_cI hB (z_rV (ι := fun k => k) hB yY_X10_signAt (c_X10_signAt _ _ _ h15) rfl cut_M z_hid kM_0 (Nat.le_of_ble_eq_true rfl) vc_10 rfl rfl rfl (Nat.le_of_ble_eq_true rfl) ml_X10_200 ⟨Nat.le_of_ble_eq_true rfl, Nat.le_of_ble_eq_true rfl⟩ dX10_readsNumber_36) cut_M z_hid ?_
      refine z_toA (z_mro cut_M) ?_
      refine z_iadd hB dX10_readsNumber_39 ?_
      refine z_bipush hB dX10_readsNumber_40 zcB_48 ?_
      refine z_isub hB dX10_readsNumber_42 ?_
      obtain ⟨x17, ex17, h⟩ := z_letE h
      refine z_istore_n hB [(2, .int x17), (0, .ref (ad 0)), (1, .int p1), (3, .int x3)] dX10_readsNumber_43 rfl (Nat.le_of_ble_eq_true rfl) ex17 rfl ?_
      refine z_aload_n hB 1 dX10_readsNumber_44 rfl rfl ?_
      refine z_dup hB dX10_readsNumber_45 rfl ?_
      refine z_get hB 0 14 kM_0 (Nat.le_of_ble_eq_true rfl) vc_10 inlX10 (Nat.le_of_ble_eq_true rfl) rfl fl_X10_197 dX10_readsNumber_46 ?_
      refine z_iconst hB dX10_readsNumber_49 zcI_1 ?_
      refine z_iadd hB dX10_readsNumber_50 ?_
      obtain ⟨σ18, eσ18, h⟩ := z_letE h
      refine z_put hB 0 14 kM_0 (Nat.le_of_ble_eq_true rfl) vc_10 inlX10 tyX10 tyX10_ok nmX10 (Nat.le_of_ble_eq_true rfl) rfl rfl (tyX10_ok 14 (Nat.le_of_ble_eq_true rfl)) fl_X10_197 dX10_readsNumber_51 ?_
      refine z_to eσ18 ?_
      obtain ⟨x19, ex19, h⟩ := z_letE h
      refine z_iinc hB 3 [(3, .int x19), (2, .int x17), (0, .ref (ad 0)), (1, .int p1)] dX10_readsNumber_54 rfl (by rw [zcI_1]; exact ex19) (Nat.le_of_ble_eq_true rfl) rfl ?_
      refine z_goto hB (tgt := 4) dX10_readsNumber_57 (by decide) ?_
      refine z_lv [2, 3, 1, 0] rfl ?_
      exact hk_k1 _ _ _ h
def lb_X10_reads_88 (y5 : Int32) (k9 : Int32 → Int32 → z_S → Option (Int32 × z_S)) (x10 : Int32) (x11 : Int32) (σ12 : z_S) : Option (Int32 × z_S) :=
  z_let (fun (_ : Unit) => z_let (fun (y14 : Int32) => z_let (z_u σ12 0 14 ((σ12 0 14) + (1 : Int32))) fun σ16 =>
  z_ckz (y14) <|
  some (y14, σ16)) fun j15 =>
  z_let (fun (_ : Unit) => j15 (0 : Int32)) fun j18 =>
  if x10 = (0 : Int32) then
  (j18 ())
  else
  (z_b1 (f_X10_signAt (σ12 0 14) σ12) fun r21 =>
  if r21 = (59 : Int32) then
  (j15 (1 : Int32))
  else
  (j18 ()))) fun j13 =>
  if y5 ≤ x11 then
  (j13 ())
  else
  (if x10 = (0 : Int32) then
  (j13 ())
  else
  (z_let (fun (y25 : Int32) (σ26 : z_S) => z_let (fun (y28 : Int32) (σ29 : z_S) => z_let (x11 + (1 : Int32)) fun x31 =>
  k9 y28 x31 σ29) fun j30 =>
  z_let (fun (σ32 : z_S) => j30 (0 : Int32) σ32) fun j33 =>
  if y25 = (0 : Int32) then
  (j33 σ26)
  else
  (z_b2 (f_X10_readsNumber x11 σ26) fun r37 σ36 =>
  if r37 = (0 : Int32) then
  (j33 σ36)
  else
  (j30 (1 : Int32) σ36))) fun j27 =>
  if x11 ≤ (0 : Int32) then
  (j27 x10 σ12)
  else
  (z_b1 (f_X10_signAt (σ12 0 14) σ12) fun r41 =>
  z_let (fun (y42 : Int32) => z_let (z_u σ12 0 14 ((σ12 0 14) + (1 : Int32))) fun σ44 =>
  j27 y42 σ44) fun j43 =>
  if r41 = (44 : Int32) then
  (j43 (1 : Int32))
  else
  (j43 (0 : Int32)))))
def f_X10_reads (p1 : Int32) (σ : z_S) : Option (Int32 × z_S) :=
  z_b1 (f_X10_signAt p1 σ) fun r2 =>
  z_let (z_u σ 0 15 (r2)) fun σ3 =>
  z_let (z_u σ3 0 14 (p1 + (1 : Int32))) fun σ4 =>
  z_let (fun (y5 : Int32) => z_let (fun (y7 : Int32) => z_lp3 (lb_X10_reads_88 y5) z_Fu y7 (0 : Int32) σ4) fun j8 =>
  if y5 ≤ (0 : Int32) then
  (j8 (0 : Int32))
  else
  (j8 (1 : Int32))) fun j6 =>
  if (σ4 0 15) = (112 : Int32) then
  (j6 (3 : Int32))
  else
  (z_let (fun (_ : Unit) => j6 (2 : Int32)) fun j48 =>
  if (σ4 0 15) = (103 : Int32) then
  (j48 ())
  else
  (if (σ4 0 15) = (98 : Int32) then
  (j48 ())
  else
  (z_let (fun (_ : Unit) => j6 (1 : Int32)) fun j51 =>
  if (σ4 0 15) = (110 : Int32) then
  (j51 ())
  else
  (if (σ4 0 15) = (100 : Int32) then
  (j51 ())
  else
  (j6 (0 : Int32))))))
set_option maxRecDepth 100000 in
set_option maxHeartbeats 4000000 in
theorem c_X10_reads (p1 : Int32) (σ : z_S) (r : Int32) (σz : z_S) (h : f_X10_reads p1 σ = some (r, σz)) : zMet yX10_reads cX10_reads 5 (some .boolean) 2 45 layM 10 (fun ad => [.ref (ad 0), .int p1]) σ (z_QI layM 10 r σz) := by
  refine z_headI RX10 (by decide) rfl (fun _ => Nat.le_of_ble_eq_true rfl) (fun E G A ad hB hret => ?_)
  show ZW E G A 5 layM 10 ad 0 [(0, .ref (ad 0)), (1, .int p1)] [] σ
  unfold f_X10_reads at h
  refine z_aload_n hB 0 dX10_reads_0 rfl rfl ?_
  refine z_aload_n hB 0 dX10_reads_1 rfl rfl ?_
  refine z_iload_n hB 1 dX10_reads_2 rfl rfl ?_
  obtain ⟨r2, h1, h⟩ := z_b1E h
  refine z_cI hB (z_rV (ι := fun k => k) hB yY_X10_signAt (c_X10_signAt _ _ _ h1) rfl cut_M z_hid kM_0 (Nat.le_of_ble_eq_true rfl) vc_10 rfl rfl rfl (Nat.le_of_ble_eq_true rfl) ml_X10_200 ⟨Nat.le_of_ble_eq_true rfl, Nat.le_of_ble_eq_true rfl⟩ dX10_reads_3) cut_M z_hid ?_
  refine z_toA (z_mro cut_M) ?_
  obtain ⟨σ3, eσ3, h⟩ := z_letE h
  refine z_put hB 0 15 kM_0 (Nat.le_of_ble_eq_true rfl) vc_10 inlX10 tyX10 tyX10_ok nmX10 (Nat.le_of_ble_eq_true rfl) rfl rfl (tyX10_ok 15 (Nat.le_of_ble_eq_true rfl)) fl_X10_203 dX10_reads_6 ?_
  refine z_to eσ3 ?_
  refine z_aload_n hB 0 dX10_reads_9 rfl rfl ?_
  refine z_iload_n hB 1 dX10_reads_10 rfl rfl ?_
  refine z_iconst hB dX10_reads_11 zcI_1 ?_
  refine z_iadd hB dX10_reads_12 ?_
  obtain ⟨σ4, eσ4, h⟩ := z_letE h
  refine z_put hB 0 14 kM_0 (Nat.le_of_ble_eq_true rfl) vc_10 inlX10 tyX10 tyX10_ok nmX10 (Nat.le_of_ble_eq_true rfl) rfl rfl (tyX10_ok 14 (Nat.le_of_ble_eq_true rfl)) fl_X10_197 dX10_reads_13 ?_
  refine z_to eσ4 ?_
  refine z_aload_n hB 0 dX10_reads_16 rfl rfl ?_
  refine z_get hB 0 15 kM_0 (Nat.le_of_ble_eq_true rfl) vc_10 inlX10 (Nat.le_of_ble_eq_true rfl) rfl fl_X10_203 dX10_reads_17 ?_
  refine z_bipush hB dX10_reads_20 zcB_112 ?_
  obtain ⟨j6, ej6, h⟩ := z_letE h
  have hj6 : ∀ (y5 : Int32), j6 y5 = some (r, σz) → ZW E G A 5 layM 10 ad 74 [(0, .ref (ad 0))] [.int y5] σ4 := by
    intro y5 h
    rw [ej6] at h
    refine z_istore_n hB [(2, .int y5), (0, .ref (ad 0))] dX10_reads_74 rfl (Nat.le_of_ble_eq_true rfl) rfl rfl ?_
    refine z_iload_n hB 0 dX10_reads_75 rfl rfl ?_
    obtain ⟨j8, ej8, h⟩ := z_letE h
    have hj8 : ∀ (y7 : Int32), j8 y7 = some (r, σz) → ZW E G A 5 layM 10 ad 84 [(0, .ref (ad 0)), (2, .int y5)] [.int y7] σ4 := by
      intro y7 h
      rw [ej8] at h
      refine z_istore_n hB [(3, .int y7), (0, .ref (ad 0)), (2, .int y5)] dX10_reads_84 rfl (Nat.le_of_ble_eq_true rfl) rfl rfl ?_
      refine z_iconst hB dX10_reads_85 zcI_0 ?_
      refine z_istore hB [(4, .int ((0 : Int32))), (3, .int y7), (0, .ref (ad 0)), (2, .int y5)] dX10_reads_86 (Nat.le_of_ble_eq_true rfl) rfl rfl ?_
      refine z_lv [2, 3, 1, 0] rfl ?_
      refine z_lpr3 (g := fun x10 x11 σ12 => ZW E G A 5 layM 10 ad 88 [(0, .ref (ad 0)), (2, .int y5), (3, .int x10), (4, .int x11)] [] σ12) (fun k9 x10 x11 σ12 hk_k9 h => ?_) _ _ _ _ h
      show ZW E G A 5 layM 10 ad 88 [(0, .ref (ad 0)), (2, .int y5), (3, .int x10), (4, .int x11)] [] σ12
      unfold lb_X10_reads_88 at h
      refine z_iload hB 3 dX10_reads_88 rfl ?_
      refine z_iload_n hB 1 dX10_reads_90 rfl rfl ?_
      obtain ⟨j13, ej13, h⟩ := z_letE h
      have hj13 : ∀ (_ : Unit), j13 () = some (r, σz) → ZW E G A 5 layM 10 ad 157 [(0, .ref (ad 0)), (3, .int x10)] [] σ12 := by
        intro _ h
        rw [ej13] at h
        refine z_iload_n hB 1 dX10_reads_157 rfl rfl ?_
        obtain ⟨j15, ej15, h⟩ := z_letE h
        have hj15 : ∀ (y14 : Int32), j15 y14 = some (r, σz) → ZW E G A 5 layM 10 ad 179 [(0, .ref (ad 0))] [.int y14] σ12 := by
          intro y14 h
          rw [ej15] at h
          refine z_istore_n hB [(3, .int y14), (0, .ref (ad 0))] dX10_reads_179 rfl (Nat.le_of_ble_eq_true rfl) rfl rfl ?_
          refine z_aload_n hB 1 dX10_reads_180 rfl rfl ?_
          refine z_dup hB dX10_reads_181 rfl ?_
          refine z_get hB 0 14 kM_0 (Nat.le_of_ble_eq_true rfl) vc_10 inlX10 (Nat.le_of_ble_eq_true rfl) rfl fl_X10_197 dX10_reads_182 ?_
          refine z_iconst hB dX10_reads_185 zcI_1 ?_
          refine z_iadd hB dX10_reads_186 ?_
          obtain ⟨σ16, eσ16, h⟩ := z_letE h
          refine z_put hB 0 14 kM_0 (Nat.le_of_ble_eq_true rfl) vc_10 inlX10 tyX10 tyX10_ok nmX10 (Nat.le_of_ble_eq_true rfl) rfl rfl (tyX10_ok 14 (Nat.le_of_ble_eq_true rfl)) fl_X10_197 dX10_reads_187 ?_
          refine z_to eσ16 ?_
          refine z_iload_n hB 0 dX10_reads_190 rfl rfl ?_
          obtain ⟨h17, h⟩ := z_ckzE h
          obtain ⟨h1, h2⟩ := z_prE h
          exact hret _ _ _ _ h1 h2 h17 dX10_reads_191
        obtain ⟨j18, ej18, h⟩ := z_letE h
        have hj18 : ∀ (_ : Unit), j18 () = some (r, σz) → ZW E G A 5 layM 10 ad 178 [(0, .ref (ad 0))] [] σ12 := by
          intro _ h
          rw [ej18] at h
          refine z_iconst hB dX10_reads_178 zcI_0 ?_
          exact hj15 _ h
        refine z_if_eq hB (tgt := 178) dX10_reads_158 (by decide) (fun c19 => ?_) (fun c19 => ?_)
        · have h := z_ifT c19 h
          refine z_lv [0] rfl ?_
          exact hj18 () h
        · have h := z_ifF c19 h
          refine z_aload_n hB 0 dX10_reads_161 rfl rfl ?_
          refine z_aload_n hB 0 dX10_reads_162 rfl rfl ?_
          refine z_get hB 0 14 kM_0 (Nat.le_of_ble_eq_true rfl) vc_10 inlX10 (Nat.le_of_ble_eq_true rfl) rfl fl_X10_197 dX10_reads_163 ?_
          obtain ⟨r21, h20, h⟩ := z_b1E h
          refine z_cI hB (z_rV (ι := fun k => k) hB yY_X10_signAt (c_X10_signAt _ _ _ h20) rfl cut_M z_hid kM_0 (Nat.le_of_ble_eq_true rfl) vc_10 rfl rfl rfl (Nat.le_of_ble_eq_true rfl) ml_X10_200 ⟨Nat.le_of_ble_eq_true rfl, Nat.le_of_ble_eq_true rfl⟩ dX10_reads_166) cut_M z_hid ?_
          refine z_toA (z_mro cut_M) ?_
          refine z_bipush hB dX10_reads_169 zcB_59 ?_
          refine z_icmp_ne hB (tgt := 178) dX10_reads_171 (by decide) (fun c22 => ?_) (fun c22 => ?_)
          · have h := z_ifF c22 h
            refine z_lv [0] rfl ?_
            exact hj18 () h
          · have h := z_ifT c22 h
            refine z_iconst hB dX10_reads_174 zcI_1 ?_
            refine z_goto hB (tgt := 179) dX10_reads_175 (by decide) ?_
            refine z_lv [0] rfl ?_
            exact hj15 _ h
      refine z_icmp_ge hB (tgt := 157) dX10_reads_91 (by decide) (fun c23 => ?_) (fun c23 => ?_)
      · have h := z_ifT c23 h
        refine z_lv [0, 2] rfl ?_
        exact hj13 () h
      · have h := z_ifF c23 h
        refine z_iload_n hB 2 dX10_reads_94 rfl rfl ?_
        refine z_if_eq hB (tgt := 157) dX10_reads_95 (by decide) (fun c24 => ?_) (fun c24 => ?_)
        · have h := z_ifT c24 h
          refine z_lv [0, 2] rfl ?_
          exact hj13 () h
        · have h := z_ifF c24 h
          refine z_iload hB 3 dX10_reads_98 rfl ?_
          obtain ⟨j27, ej27, h⟩ := z_letE h
          have hj27 : ∀ (y25 : Int32) (σ26 : z_S), j27 y25 σ26 = some (r, σz) → ZW E G A 5 layM 10 ad 132 [(0, .ref (ad 0)), (2, .int y5), (3, .int y25), (4, .int x11)] [] σ26 := by
            intro y25 σ26 h
            rw [ej27] at h
            refine z_iload_n hB 2 dX10_reads_132 rfl rfl ?_
            obtain ⟨j30, ej30, h⟩ := z_letE h
            have hj30 : ∀ (y28 : Int32) (σ29 : z_S), j30 y28 σ29 = some (r, σz) → ZW E G A 5 layM 10 ad 150 [(0, .ref (ad 0)), (2, .int y5), (4, .int x11)] [.int y28] σ29 := by
              intro y28 σ29 h
              rw [ej30] at h
              refine z_istore_n hB [(3, .int y28), (0, .ref (ad 0)), (2, .int y5), (4, .int x11)] dX10_reads_150 rfl (Nat.le_of_ble_eq_true rfl) rfl rfl ?_
              obtain ⟨x31, ex31, h⟩ := z_letE h
              refine z_iinc hB 3 [(4, .int x31), (3, .int y28), (0, .ref (ad 0)), (2, .int y5)] dX10_reads_151 rfl (by rw [zcI_1]; exact ex31) (Nat.le_of_ble_eq_true rfl) rfl ?_
              refine z_goto hB (tgt := 88) dX10_reads_154 (by decide) ?_
              refine z_lv [2, 3, 1, 0] rfl ?_
              exact hk_k9 _ _ _ h
            obtain ⟨j33, ej33, h⟩ := z_letE h
            have hj33 : ∀ (σ32 : z_S), j33 σ32 = some (r, σz) → ZW E G A 5 layM 10 ad 149 [(0, .ref (ad 0)), (2, .int y5), (4, .int x11)] [] σ32 := by
              intro σ32 h
              rw [ej33] at h
              refine z_iconst hB dX10_reads_149 zcI_0 ?_
              exact hj30 _ _ h
            refine z_if_eq hB (tgt := 149) dX10_reads_133 (by decide) (fun c34 => ?_) (fun c34 => ?_)
            · have h := z_ifT c34 h
              refine z_lv [0, 1, 3] rfl ?_
              exact hj33 _ h
            · have h := z_ifF c34 h
              refine z_aload_n hB 0 dX10_reads_136 rfl rfl ?_
              refine z_iload hB 3 dX10_reads_137 rfl ?_
              obtain ⟨r37, σ36, h35, h⟩ := z_b2E h
              refine z_cI hB (z_rV (ι := fun k => k) hB yY_X10_readsNumber (c_X10_readsNumber _ _ _ _ h35) rfl cut_M z_hid kM_0 (Nat.le_of_ble_eq_true rfl) vc_10 rfl rfl rfl (Nat.le_of_ble_eq_true rfl) ml_X10_206 ⟨Nat.le_of_ble_eq_true rfl, Nat.le_of_ble_eq_true rfl⟩ dX10_reads_139) cut_M z_hid ?_
              refine z_toA z_mid ?_
              refine z_if_eq hB (tgt := 149) dX10_reads_142 (by decide) (fun c38 => ?_) (fun c38 => ?_)
              · have h := z_ifT c38 h
                refine z_lv [0, 1, 3] rfl ?_
                exact hj33 _ h
              · have h := z_ifF c38 h
                refine z_iconst hB dX10_reads_145 zcI_1 ?_
                refine z_goto hB (tgt := 150) dX10_reads_146 (by decide) ?_
                refine z_lv [0, 1, 3] rfl ?_
                exact hj30 _ _ h
          refine z_if_le hB (tgt := 132) dX10_reads_100 (by decide) (fun c39 => ?_) (fun c39 => ?_)
          · have h := z_ifT c39 h
            exact hj27 _ _ h
          · have h := z_ifF c39 h
            refine z_aload_n hB 0 dX10_reads_103 rfl rfl ?_
            refine z_aload_n hB 0 dX10_reads_104 rfl rfl ?_
            refine z_get hB 0 14 kM_0 (Nat.le_of_ble_eq_true rfl) vc_10 inlX10 (Nat.le_of_ble_eq_true rfl) rfl fl_X10_197 dX10_reads_105 ?_
            obtain ⟨r41, h40, h⟩ := z_b1E h
            refine z_cI hB (z_rV (ι := fun k => k) hB yY_X10_signAt (c_X10_signAt _ _ _ h40) rfl cut_M z_hid kM_0 (Nat.le_of_ble_eq_true rfl) vc_10 rfl rfl rfl (Nat.le_of_ble_eq_true rfl) ml_X10_200 ⟨Nat.le_of_ble_eq_true rfl, Nat.le_of_ble_eq_true rfl⟩ dX10_reads_108) cut_M z_hid ?_
            refine z_toA (z_mro cut_M) ?_
            refine z_bipush hB dX10_reads_111 zcB_44 ?_
            obtain ⟨j43, ej43, h⟩ := z_letE h
            have hj43 : ∀ (y42 : Int32), j43 y42 = some (r, σz) → ZW E G A 5 layM 10 ad 121 [(0, .ref (ad 0)), (2, .int y5), (4, .int x11)] [.int y42] σ12 := by
              intro y42 h
              rw [ej43] at h
              refine z_istore_n hB [(3, .int y42), (0, .ref (ad 0)), (2, .int y5), (4, .int x11)] dX10_reads_121 rfl (Nat.le_of_ble_eq_true rfl) rfl rfl ?_
              refine z_aload_n hB 1 dX10_reads_122 rfl rfl ?_
              refine z_dup hB dX10_reads_123 rfl ?_
              refine z_get hB 0 14 kM_0 (Nat.le_of_ble_eq_true rfl) vc_10 inlX10 (Nat.le_of_ble_eq_true rfl) rfl fl_X10_197 dX10_reads_124 ?_
              refine z_iconst hB dX10_reads_127 zcI_1 ?_
              refine z_iadd hB dX10_reads_128 ?_
              obtain ⟨σ44, eσ44, h⟩ := z_letE h
              refine z_put hB 0 14 kM_0 (Nat.le_of_ble_eq_true rfl) vc_10 inlX10 tyX10 tyX10_ok nmX10 (Nat.le_of_ble_eq_true rfl) rfl rfl (tyX10_ok 14 (Nat.le_of_ble_eq_true rfl)) fl_X10_197 dX10_reads_129 ?_
              refine z_to eσ44 ?_
              refine z_lv [1, 2, 0, 3] rfl ?_
              exact hj27 _ _ h
            refine z_icmp_ne hB (tgt := 120) dX10_reads_113 (by decide) (fun c45 => ?_) (fun c45 => ?_)
            · have h := z_ifF c45 h
              refine z_iconst hB dX10_reads_120 zcI_0 ?_
              refine z_lv [0, 1, 3] rfl ?_
              exact hj43 _ h
            · have h := z_ifT c45 h
              refine z_iconst hB dX10_reads_116 zcI_1 ?_
              refine z_goto hB (tgt := 121) dX10_reads_117 (by decide) ?_
              refine z_lv [0, 1, 3] rfl ?_
              exact hj43 _ h
    refine z_if_le hB (tgt := 83) dX10_reads_76 (by decide) (fun c46 => ?_) (fun c46 => ?_)
    · have h := z_ifT c46 h
      refine z_iconst hB dX10_reads_83 zcI_0 ?_
      refine z_lv [1, 0] rfl ?_
      exact hj8 _ h
    · have h := z_ifF c46 h
      refine z_iconst hB dX10_reads_79 zcI_1 ?_
      refine z_goto hB (tgt := 84) dX10_reads_80 (by decide) ?_
      refine z_lv [1, 0] rfl ?_
      exact hj8 _ h
  refine z_icmp_ne hB (tgt := 29) dX10_reads_22 (by decide) (fun c47 => ?_) (fun c47 => ?_)
  · have h := z_ifF c47 h
    refine z_aload_n hB 0 dX10_reads_29 rfl rfl ?_
    refine z_get hB 0 15 kM_0 (Nat.le_of_ble_eq_true rfl) vc_10 inlX10 (Nat.le_of_ble_eq_true rfl) rfl fl_X10_203 dX10_reads_30 ?_
    refine z_bipush hB dX10_reads_33 zcB_103 ?_
    obtain ⟨j48, ej48, h⟩ := z_letE h
    have hj48 : ∀ (_ : Unit), j48 () = some (r, σz) → ZW E G A 5 layM 10 ad 47 [(0, .ref (ad 0))] [] σ4 := by
      intro _ h
      rw [ej48] at h
      refine z_iconst hB dX10_reads_47 zcI_2 ?_
      refine z_goto hB (tgt := 74) dX10_reads_48 (by decide) ?_
      exact hj6 _ h
    refine z_icmp_eq hB (tgt := 47) dX10_reads_35 (by decide) (fun c49 => ?_) (fun c49 => ?_)
    · have h := z_ifT c49 h
      refine z_lv [0] rfl ?_
      exact hj48 () h
    · have h := z_ifF c49 h
      refine z_aload_n hB 0 dX10_reads_38 rfl rfl ?_
      refine z_get hB 0 15 kM_0 (Nat.le_of_ble_eq_true rfl) vc_10 inlX10 (Nat.le_of_ble_eq_true rfl) rfl fl_X10_203 dX10_reads_39 ?_
      refine z_bipush hB dX10_reads_42 zcB_98 ?_
      refine z_icmp_ne hB (tgt := 51) dX10_reads_44 (by decide) (fun c50 => ?_) (fun c50 => ?_)
      · have h := z_ifF c50 h
        refine z_aload_n hB 0 dX10_reads_51 rfl rfl ?_
        refine z_get hB 0 15 kM_0 (Nat.le_of_ble_eq_true rfl) vc_10 inlX10 (Nat.le_of_ble_eq_true rfl) rfl fl_X10_203 dX10_reads_52 ?_
        refine z_bipush hB dX10_reads_55 zcB_110 ?_
        obtain ⟨j51, ej51, h⟩ := z_letE h
        have hj51 : ∀ (_ : Unit), j51 () = some (r, σz) → ZW E G A 5 layM 10 ad 69 [(0, .ref (ad 0))] [] σ4 := by
          intro _ h
          rw [ej51] at h
          refine z_iconst hB dX10_reads_69 zcI_1 ?_
          refine z_goto hB (tgt := 74) dX10_reads_70 (by decide) ?_
          exact hj6 _ h
        refine z_icmp_eq hB (tgt := 69) dX10_reads_57 (by decide) (fun c52 => ?_) (fun c52 => ?_)
        · have h := z_ifT c52 h
          refine z_lv [0] rfl ?_
          exact hj51 () h
        · have h := z_ifF c52 h
          refine z_aload_n hB 0 dX10_reads_60 rfl rfl ?_
          refine z_get hB 0 15 kM_0 (Nat.le_of_ble_eq_true rfl) vc_10 inlX10 (Nat.le_of_ble_eq_true rfl) rfl fl_X10_203 dX10_reads_61 ?_
          refine z_bipush hB dX10_reads_64 zcB_100 ?_
          refine z_icmp_ne hB (tgt := 73) dX10_reads_66 (by decide) (fun c53 => ?_) (fun c53 => ?_)
          · have h := z_ifF c53 h
            refine z_iconst hB dX10_reads_73 zcI_0 ?_
            refine z_lv [0] rfl ?_
            exact hj6 _ h
          · have h := z_ifT c53 h
            refine z_lv [0] rfl ?_
            exact hj51 () h
      · have h := z_ifT c50 h
        refine z_lv [0] rfl ?_
        exact hj48 () h
  · have h := z_ifT c47 h
    refine z_iconst hB dX10_reads_25 zcI_3 ?_
    refine z_goto hB (tgt := 74) dX10_reads_26 (by decide) ?_
    refine z_lv [0] rfl ?_
    exact hj6 _ h
def f_X10_does (σ : z_S) : Option (Int32 × z_S) :=
  if (σ 0 15) = (98 : Int32) then
  (z_cki (0 : Int32) 3 <|
  z_cki (1 : Int32) 3 <|
  z_b2 (f_X10_addsBiscuits (σ 9 (0 : Int32).toNatClampNeg) (σ 9 (1 : Int32).toNatClampNeg) σ) fun r6 σ5 =>
  some (r6, σ5))
  else if (σ 0 15) = (103 : Int32) then
  (z_cki (0 : Int32) 3 <|
  z_cki (1 : Int32) 3 <|
  z_b2 (f_X10_gives (σ 9 (0 : Int32).toNatClampNeg) (σ 9 (1 : Int32).toNatClampNeg) σ) fun r12 σ11 =>
  some (r12, σ11))
  else if (σ 0 15) = (110 : Int32) then
  (z_cki (0 : Int32) 3 <|
  z_b2 (f_X10_givesNone (σ 9 (0 : Int32).toNatClampNeg) σ) fun r17 σ16 =>
  some (r17, σ16))
  else if (σ 0 15) = (112 : Int32) then
  (z_cki (0 : Int32) 3 <|
  z_cki (1 : Int32) 3 <|
  z_cki (2 : Int32) 3 <|
  z_b2 (f_X10_pauses (σ 9 (0 : Int32).toNatClampNeg) (σ 9 (1 : Int32).toNatClampNeg) (σ 9 (2 : Int32).toNatClampNeg) σ) fun r24 σ23 =>
  some (r24, σ23))
  else (z_cki (0 : Int32) 3 <|
  z_b2 (f_X10_daysGo (σ 9 (0 : Int32).toNatClampNeg) σ) fun r28 σ27 =>
  some (r28, σ27))
set_option maxRecDepth 100000 in
set_option maxHeartbeats 4000000 in
theorem c_X10_does (σ : z_S) (r : Int32) (σz : z_S) (h : f_X10_does σ = some (r, σz)) : zMet yX10_does cX10_does 1 (some .int) 6 146 layM 10 (fun ad => [.ref (ad 0)]) σ (z_QI layM 10 r σz) := by
  refine z_headI RX10 (by decide) rfl (fun _ => Nat.le_of_ble_eq_true rfl) (fun E G A ad hB hret => ?_)
  show ZW E G A 1 layM 10 ad 0 [(0, .ref (ad 0))] [] σ
  unfold f_X10_does at h
  refine z_aload_n hB 0 dX10_does_0 rfl rfl ?_
  refine z_get hB 0 15 kM_0 (Nat.le_of_ble_eq_true rfl) vc_10 inlX10 (Nat.le_of_ble_eq_true rfl) rfl fl_X10_203 dX10_does_1 ?_
  by_cases c1 : (σ 0 15) = (98 : Int32)
  · have h := z_ifT c1 h
    refine z_lookup hB (tgt := 99) (off := 95) dX10_does_4 (by decide) (by first | (rw [c1]; done) | (rw [c1]; rfl)) (by decide) ?_
    refine z_aload_n hB 0 dX10_does_99 rfl rfl ?_
    refine z_aload_n hB 0 dX10_does_100 rfl rfl ?_
    refine z_getr hB 0 16 9 kM_0 (Nat.le_of_ble_eq_true rfl) vc_10 inlX10 (Nat.le_of_ble_eq_true rfl) rfl (Nat.le_of_ble_eq_true rfl) fl_X10_34 dX10_does_101 ?_
    refine z_iconst hB dX10_does_104 zcI_0 ?_
    obtain ⟨h2, h⟩ := z_ckiE h
    refine z_iald hB 9 3 kM_9 (Nat.le_of_ble_eq_true rfl) dX10_does_105 h2 ?_
    refine z_aload_n hB 0 dX10_does_106 rfl rfl ?_
    refine z_getr hB 0 16 9 kM_0 (Nat.le_of_ble_eq_true rfl) vc_10 inlX10 (Nat.le_of_ble_eq_true rfl) rfl (Nat.le_of_ble_eq_true rfl) fl_X10_34 dX10_does_107 ?_
    refine z_iconst hB dX10_does_110 zcI_1 ?_
    obtain ⟨h3, h⟩ := z_ckiE h
    refine z_iald hB 9 3 kM_9 (Nat.le_of_ble_eq_true rfl) dX10_does_111 h3 ?_
    obtain ⟨r6, σ5, h4, h⟩ := z_b2E h
    refine z_cI hB (z_rV (ι := fun k => k) hB yY_X10_addsBiscuits (c_X10_addsBiscuits _ _ _ _ _ h4) rfl cut_M z_hid kM_0 (Nat.le_of_ble_eq_true rfl) vc_10 rfl rfl rfl (Nat.le_of_ble_eq_true rfl) ml_X10_106 ⟨Nat.le_of_ble_eq_true rfl, Nat.le_of_ble_eq_true rfl⟩ dX10_does_112) cut_M z_hid ?_
    refine z_toA z_mid ?_
    obtain ⟨h1, h2⟩ := z_prE h
    exact hret _ _ _ _ h1 h2 rfl dX10_does_115
  have h := z_ifF c1 h
  by_cases c7 : (σ 0 15) = (103 : Int32)
  · have h := z_ifT c7 h
    refine z_lookup hB (tgt := 71) (off := 67) dX10_does_4 (by decide) (by first | (rw [c7]; done) | (rw [c7]; rfl)) (by decide) ?_
    refine z_aload_n hB 0 dX10_does_71 rfl rfl ?_
    refine z_aload_n hB 0 dX10_does_72 rfl rfl ?_
    refine z_getr hB 0 16 9 kM_0 (Nat.le_of_ble_eq_true rfl) vc_10 inlX10 (Nat.le_of_ble_eq_true rfl) rfl (Nat.le_of_ble_eq_true rfl) fl_X10_34 dX10_does_73 ?_
    refine z_iconst hB dX10_does_76 zcI_0 ?_
    obtain ⟨h8, h⟩ := z_ckiE h
    refine z_iald hB 9 3 kM_9 (Nat.le_of_ble_eq_true rfl) dX10_does_77 h8 ?_
    refine z_aload_n hB 0 dX10_does_78 rfl rfl ?_
    refine z_getr hB 0 16 9 kM_0 (Nat.le_of_ble_eq_true rfl) vc_10 inlX10 (Nat.le_of_ble_eq_true rfl) rfl (Nat.le_of_ble_eq_true rfl) fl_X10_34 dX10_does_79 ?_
    refine z_iconst hB dX10_does_82 zcI_1 ?_
    obtain ⟨h9, h⟩ := z_ckiE h
    refine z_iald hB 9 3 kM_9 (Nat.le_of_ble_eq_true rfl) dX10_does_83 h9 ?_
    obtain ⟨r12, σ11, h10, h⟩ := z_b2E h
    refine z_cI hB (z_rV (ι := fun k => k) hB yY_X10_gives (c_X10_gives _ _ _ _ _ h10) rfl cut_M z_hid kM_0 (Nat.le_of_ble_eq_true rfl) vc_10 rfl rfl rfl (Nat.le_of_ble_eq_true rfl) ml_X10_100 ⟨Nat.le_of_ble_eq_true rfl, Nat.le_of_ble_eq_true rfl⟩ dX10_does_84) cut_M z_hid ?_
    refine z_toA z_mid ?_
    obtain ⟨h1, h2⟩ := z_prE h
    exact hret _ _ _ _ h1 h2 rfl dX10_does_87
  have h := z_ifF c7 h
  by_cases c13 : (σ 0 15) = (110 : Int32)
  · have h := z_ifT c13 h
    refine z_lookup hB (tgt := 88) (off := 84) dX10_does_4 (by decide) (by first | (rw [c13]; done) | (rw [c13]; rfl)) (by decide) ?_
    refine z_aload_n hB 0 dX10_does_88 rfl rfl ?_
    refine z_aload_n hB 0 dX10_does_89 rfl rfl ?_
    refine z_getr hB 0 16 9 kM_0 (Nat.le_of_ble_eq_true rfl) vc_10 inlX10 (Nat.le_of_ble_eq_true rfl) rfl (Nat.le_of_ble_eq_true rfl) fl_X10_34 dX10_does_90 ?_
    refine z_iconst hB dX10_does_93 zcI_0 ?_
    obtain ⟨h14, h⟩ := z_ckiE h
    refine z_iald hB 9 3 kM_9 (Nat.le_of_ble_eq_true rfl) dX10_does_94 h14 ?_
    obtain ⟨r17, σ16, h15, h⟩ := z_b2E h
    refine z_cI hB (z_rV (ι := fun k => k) hB yY_X10_givesNone (c_X10_givesNone _ _ _ _ h15) rfl cut_M z_hid kM_0 (Nat.le_of_ble_eq_true rfl) vc_10 rfl rfl rfl (Nat.le_of_ble_eq_true rfl) ml_X10_103 ⟨Nat.le_of_ble_eq_true rfl, Nat.le_of_ble_eq_true rfl⟩ dX10_does_95) cut_M z_hid ?_
    refine z_toA z_mid ?_
    obtain ⟨h1, h2⟩ := z_prE h
    exact hret _ _ _ _ h1 h2 rfl dX10_does_98
  have h := z_ifF c13 h
  by_cases c18 : (σ 0 15) = (112 : Int32)
  · have h := z_ifT c18 h
    refine z_lookup hB (tgt := 48) (off := 44) dX10_does_4 (by decide) (by first | (rw [c18]; done) | (rw [c18]; rfl)) (by decide) ?_
    refine z_aload_n hB 0 dX10_does_48 rfl rfl ?_
    refine z_aload_n hB 0 dX10_does_49 rfl rfl ?_
    refine z_getr hB 0 16 9 kM_0 (Nat.le_of_ble_eq_true rfl) vc_10 inlX10 (Nat.le_of_ble_eq_true rfl) rfl (Nat.le_of_ble_eq_true rfl) fl_X10_34 dX10_does_50 ?_
    refine z_iconst hB dX10_does_53 zcI_0 ?_
    obtain ⟨h19, h⟩ := z_ckiE h
    refine z_iald hB 9 3 kM_9 (Nat.le_of_ble_eq_true rfl) dX10_does_54 h19 ?_
    refine z_aload_n hB 0 dX10_does_55 rfl rfl ?_
    refine z_getr hB 0 16 9 kM_0 (Nat.le_of_ble_eq_true rfl) vc_10 inlX10 (Nat.le_of_ble_eq_true rfl) rfl (Nat.le_of_ble_eq_true rfl) fl_X10_34 dX10_does_56 ?_
    refine z_iconst hB dX10_does_59 zcI_1 ?_
    obtain ⟨h20, h⟩ := z_ckiE h
    refine z_iald hB 9 3 kM_9 (Nat.le_of_ble_eq_true rfl) dX10_does_60 h20 ?_
    refine z_aload_n hB 0 dX10_does_61 rfl rfl ?_
    refine z_getr hB 0 16 9 kM_0 (Nat.le_of_ble_eq_true rfl) vc_10 inlX10 (Nat.le_of_ble_eq_true rfl) rfl (Nat.le_of_ble_eq_true rfl) fl_X10_34 dX10_does_62 ?_
    refine z_iconst hB dX10_does_65 zcI_2 ?_
    obtain ⟨h21, h⟩ := z_ckiE h
    refine z_iald hB 9 3 kM_9 (Nat.le_of_ble_eq_true rfl) dX10_does_66 h21 ?_
    obtain ⟨r24, σ23, h22, h⟩ := z_b2E h
    refine z_cI hB (z_rV (ι := fun k => k) hB yY_X10_pauses (c_X10_pauses _ _ _ _ _ _ h22) rfl cut_M z_hid kM_0 (Nat.le_of_ble_eq_true rfl) vc_10 rfl rfl rfl (Nat.le_of_ble_eq_true rfl) ml_X10_78 ⟨Nat.le_of_ble_eq_true rfl, Nat.le_of_ble_eq_true rfl⟩ dX10_does_67) cut_M z_hid ?_
    refine z_toA z_mid ?_
    obtain ⟨h1, h2⟩ := z_prE h
    exact hret _ _ _ _ h1 h2 rfl dX10_does_70
  have h := z_ifF c18 h
  refine z_lookup hB (tgt := 116) (off := 112) dX10_does_4 (by decide) ((lv_osw c1 rfl).trans ((lv_osw c7 rfl).trans ((lv_osw c13 rfl).trans ((lv_osw c18 rfl).trans (rfl))))) (by decide) ?_
  refine z_aload_n hB 0 dX10_does_116 rfl rfl ?_
  refine z_aload_n hB 0 dX10_does_117 rfl rfl ?_
  refine z_getr hB 0 16 9 kM_0 (Nat.le_of_ble_eq_true rfl) vc_10 inlX10 (Nat.le_of_ble_eq_true rfl) rfl (Nat.le_of_ble_eq_true rfl) fl_X10_34 dX10_does_118 ?_
  refine z_iconst hB dX10_does_121 zcI_0 ?_
  obtain ⟨h25, h⟩ := z_ckiE h
  refine z_iald hB 9 3 kM_9 (Nat.le_of_ble_eq_true rfl) dX10_does_122 h25 ?_
  obtain ⟨r28, σ27, h26, h⟩ := z_b2E h
  refine z_cI hB (z_rV (ι := fun k => k) hB yY_X10_daysGo (c_X10_daysGo _ _ _ _ h26) rfl cut_M z_hid kM_0 (Nat.le_of_ble_eq_true rfl) vc_10 rfl rfl rfl (Nat.le_of_ble_eq_true rfl) ml_X10_161 ⟨Nat.le_of_ble_eq_true rfl, Nat.le_of_ble_eq_true rfl⟩ dX10_does_123) cut_M z_hid ?_
  refine z_toA z_mid ?_
  obtain ⟨h1, h2⟩ := z_prE h
  exact hret _ _ _ _ h1 h2 rfl dX10_does_126
def lb_X10_doesAll_13 (k3 : Int32 → z_S → Option (Int32 × z_S)) (x4 : Int32) (σ5 : z_S) : Option (Int32 × z_S) :=
  if (σ5 0 6) ≤ x4 then
  (some ((0 : Int32), σ5))
  else
  (z_let (z_u σ5 0 18 (x4)) fun σ7 =>
  z_b2 (f_X10_reads x4 σ7) fun r10 σ9 =>
  if r10 = (0 : Int32) then
  (some ((1 : Int32), σ9))
  else
  (z_b2 (f_X10_does σ9) fun r14 σ13 =>
  if (0 : Int32) ≤ r14 then
  (z_let (z_u σ13 0 17 ((σ13 0 17) + (1 : Int32))) fun σ16 =>
  z_let (σ16 0 14) fun x17 =>
  k3 x17 σ16)
  else
  (z_let (z_u σ13 0 19 (r14)) fun σ18 =>
  some ((2 : Int32), σ18))))
def f_X10_doesAll (σ : z_S) : Option (Int32 × z_S) :=
  z_let (z_u σ 0 17 ((0 : Int32))) fun σ1 =>
  z_let (z_u σ1 0 19 ((-4 : Int32))) fun σ2 =>
  z_lp2 lb_X10_doesAll_13 z_Fu (0 : Int32) σ2
set_option maxRecDepth 100000 in
set_option maxHeartbeats 4000000 in
theorem c_X10_doesAll (σ : z_S) (r : Int32) (σz : z_S) (h : f_X10_doesAll σ = some (r, σz)) : zMet yX10_doesAll cX10_doesAll 3 (some .int) 7 166 layM 10 (fun ad => [.ref (ad 0)]) σ (z_QI layM 10 r σz) := by
  refine z_headI RX10 (by decide) rfl (fun _ => Nat.le_of_ble_eq_true rfl) (fun E G A ad hB hret => ?_)
  show ZW E G A 3 layM 10 ad 0 [(0, .ref (ad 0))] [] σ
  unfold f_X10_doesAll at h
  refine z_iconst hB dX10_doesAll_0 zcI_0 ?_
  refine z_istore_n hB [(1, .int ((0 : Int32))), (0, .ref (ad 0))] dX10_doesAll_1 rfl (Nat.le_of_ble_eq_true rfl) rfl rfl ?_
  refine z_aload_n hB 1 dX10_doesAll_2 rfl rfl ?_
  refine z_iconst hB dX10_doesAll_3 zcI_0 ?_
  obtain ⟨σ1, eσ1, h⟩ := z_letE h
  refine z_put hB 0 17 kM_0 (Nat.le_of_ble_eq_true rfl) vc_10 inlX10 tyX10 tyX10_ok nmX10 (Nat.le_of_ble_eq_true rfl) rfl rfl (tyX10_ok 17 (Nat.le_of_ble_eq_true rfl)) fl_X10_209 dX10_doesAll_4 ?_
  refine z_to eσ1 ?_
  refine z_aload_n hB 1 dX10_doesAll_7 rfl rfl ?_
  refine z_bipush hB dX10_doesAll_8 zcB_m4 ?_
  obtain ⟨σ2, eσ2, h⟩ := z_letE h
  refine z_put hB 0 19 kM_0 (Nat.le_of_ble_eq_true rfl) vc_10 inlX10 tyX10 tyX10_ok nmX10 (Nat.le_of_ble_eq_true rfl) rfl rfl (tyX10_ok 19 (Nat.le_of_ble_eq_true rfl)) fl_X10_212 dX10_doesAll_10 ?_
  refine z_to eσ2 ?_
  refine z_lv [1, 0] rfl ?_
  refine z_lpr2 (g := fun x4 σ5 => ZW E G A 3 layM 10 ad 13 [(0, .ref (ad 0)), (1, .int x4)] [] σ5) (fun k3 x4 σ5 hk_k3 h => ?_) _ _ _ h
  show ZW E G A 3 layM 10 ad 13 [(0, .ref (ad 0)), (1, .int x4)] [] σ5
  unfold lb_X10_doesAll_13 at h
  refine z_iload_n hB 1 dX10_doesAll_13 rfl rfl ?_
  refine z_aload_n hB 0 dX10_doesAll_14 rfl rfl ?_
  refine z_get hB 0 6 kM_0 (Nat.le_of_ble_eq_true rfl) vc_10 inlX10 (Nat.le_of_ble_eq_true rfl) rfl fl_X10_194 dX10_doesAll_15 ?_
  refine z_icmp_ge hB (tgt := 70) dX10_doesAll_18 (by decide) (fun c6 => ?_) (fun c6 => ?_)
  · have h := z_ifT c6 h
    refine z_iconst hB dX10_doesAll_70 zcI_0 ?_
    obtain ⟨h1, h2⟩ := z_prE h
    exact hret _ _ _ _ h1 h2 rfl dX10_doesAll_71
  · have h := z_ifF c6 h
    refine z_aload_n hB 0 dX10_doesAll_21 rfl rfl ?_
    refine z_iload_n hB 1 dX10_doesAll_22 rfl rfl ?_
    obtain ⟨σ7, eσ7, h⟩ := z_letE h
    refine z_put hB 0 18 kM_0 (Nat.le_of_ble_eq_true rfl) vc_10 inlX10 tyX10 tyX10_ok nmX10 (Nat.le_of_ble_eq_true rfl) rfl rfl (tyX10_ok 18 (Nat.le_of_ble_eq_true rfl)) fl_X10_215 dX10_doesAll_23 ?_
    refine z_to eσ7 ?_
    refine z_aload_n hB 0 dX10_doesAll_26 rfl rfl ?_
    refine z_iload_n hB 1 dX10_doesAll_27 rfl rfl ?_
    obtain ⟨r10, σ9, h8, h⟩ := z_b2E h
    refine z_cI hB (z_rV (ι := fun k => k) hB yY_X10_reads (c_X10_reads _ _ _ _ h8) rfl cut_M z_hid kM_0 (Nat.le_of_ble_eq_true rfl) vc_10 rfl rfl rfl (Nat.le_of_ble_eq_true rfl) ml_X10_218 ⟨Nat.le_of_ble_eq_true rfl, Nat.le_of_ble_eq_true rfl⟩ dX10_doesAll_28) cut_M z_hid ?_
    refine z_toA z_mid ?_
    refine z_if_ne hB (tgt := 36) dX10_doesAll_31 (by decide) (fun c11 => ?_) (fun c11 => ?_)
    · have h := z_ifF c11 h
      refine z_aload_n hB 0 dX10_doesAll_36 rfl rfl ?_
      obtain ⟨r14, σ13, h12, h⟩ := z_b2E h
      refine z_cI hB (z_rV (ι := fun k => k) hB yY_X10_does (c_X10_does _ _ _ h12) rfl cut_M z_hid kM_0 (Nat.le_of_ble_eq_true rfl) vc_10 rfl rfl rfl (Nat.le_of_ble_eq_true rfl) ml_X10_221 ⟨Nat.le_of_ble_eq_true rfl, Nat.le_of_ble_eq_true rfl⟩ dX10_doesAll_37) cut_M z_hid ?_
      refine z_toA z_mid ?_
      refine z_istore_n hB [(2, .int r14), (0, .ref (ad 0)), (1, .int x4)] dX10_doesAll_40 rfl (Nat.le_of_ble_eq_true rfl) rfl rfl ?_
      refine z_iload_n hB 0 dX10_doesAll_41 rfl rfl ?_
      refine z_if_ge hB (tgt := 52) dX10_doesAll_42 (by decide) (fun c15 => ?_) (fun c15 => ?_)
      · have h := z_ifT c15 h
        refine z_aload_n hB 1 dX10_doesAll_52 rfl rfl ?_
        refine z_dup hB dX10_doesAll_53 rfl ?_
        refine z_get hB 0 17 kM_0 (Nat.le_of_ble_eq_true rfl) vc_10 inlX10 (Nat.le_of_ble_eq_true rfl) rfl fl_X10_209 dX10_doesAll_54 ?_
        refine z_iconst hB dX10_doesAll_57 zcI_1 ?_
        refine z_iadd hB dX10_doesAll_58 ?_
        obtain ⟨σ16, eσ16, h⟩ := z_letE h
        refine z_put hB 0 17 kM_0 (Nat.le_of_ble_eq_true rfl) vc_10 inlX10 tyX10 tyX10_ok nmX10 (Nat.le_of_ble_eq_true rfl) rfl rfl (tyX10_ok 17 (Nat.le_of_ble_eq_true rfl)) fl_X10_209 dX10_doesAll_59 ?_
        refine z_to eσ16 ?_
        refine z_aload_n hB 1 dX10_doesAll_62 rfl rfl ?_
        refine z_get hB 0 14 kM_0 (Nat.le_of_ble_eq_true rfl) vc_10 inlX10 (Nat.le_of_ble_eq_true rfl) rfl fl_X10_197 dX10_doesAll_63 ?_
        obtain ⟨x17, ex17, h⟩ := z_letE h
        refine z_istore_n hB [(1, .int x17), (2, .int r14), (0, .ref (ad 0))] dX10_doesAll_66 rfl (Nat.le_of_ble_eq_true rfl) ex17 rfl ?_
        refine z_goto hB (tgt := 13) dX10_doesAll_67 (by decide) ?_
        refine z_lv [2, 0] rfl ?_
        exact hk_k3 _ _ h
      · have h := z_ifF c15 h
        refine z_aload_n hB 1 dX10_doesAll_45 rfl rfl ?_
        refine z_iload_n hB 0 dX10_doesAll_46 rfl rfl ?_
        obtain ⟨σ18, eσ18, h⟩ := z_letE h
        refine z_put hB 0 19 kM_0 (Nat.le_of_ble_eq_true rfl) vc_10 inlX10 tyX10 tyX10_ok nmX10 (Nat.le_of_ble_eq_true rfl) rfl rfl (tyX10_ok 19 (Nat.le_of_ble_eq_true rfl)) fl_X10_212 dX10_doesAll_47 ?_
        refine z_to eσ18 ?_
        refine z_iconst hB dX10_doesAll_50 zcI_2 ?_
        obtain ⟨h1, h2⟩ := z_prE h
        exact hret _ _ _ _ h1 h2 rfl dX10_doesAll_51
    · have h := z_ifT c11 h
      refine z_iconst hB dX10_doesAll_34 zcI_1 ?_
      obtain ⟨h1, h2⟩ := z_prE h
      exact hret _ _ _ _ h1 h2 rfl dX10_doesAll_35
def f_X10_looks (σ : z_S) : Option (Int32 × z_S) :=
  z_b1 (f_X10_copies 537 537 (0 : Int32) (0 : Int32) (fun k => σ (zi2 1 4 k))) fun σ2 =>
  z_let (z_m σ (zk2 1 4) 2 σ2) fun σ3 =>
  z_b2 (f_X10_doesAll σ3) fun r6 σ5 =>
  z_b1 (f_X10_copies 537 537 (0 : Int32) (0 : Int32) (fun k => σ5 (zi2 4 1 k))) fun σ8 =>
  z_let (z_m σ5 (zk2 4 1) 2 σ8) fun σ9 =>
  some (r6, σ9)
set_option maxRecDepth 100000 in
set_option maxHeartbeats 4000000 in
theorem c_X10_looks (σ : z_S) (r : Int32) (σz : z_S) (h : f_X10_looks σ = some (r, σz)) : zMet yX10_looks cX10_looks 2 (some .int) 8 188 layM 10 (fun ad => [.ref (ad 0)]) σ (z_QI layM 10 r σz) := by
  refine z_headI RX10 (by decide) rfl (fun _ => Nat.le_of_ble_eq_true rfl) (fun E G A ad hB hret => ?_)
  show ZW E G A 2 layM 10 ad 0 [(0, .ref (ad 0))] [] σ
  unfold f_X10_looks at h
  refine z_aload_n hB 0 dX10_looks_0 rfl rfl ?_
  refine z_getr hB 0 0 1 kM_0 (Nat.le_of_ble_eq_true rfl) vc_10 inlX10 (Nat.le_of_ble_eq_true rfl) rfl (Nat.le_of_ble_eq_true rfl) fl_X10_7 dX10_looks_1 ?_
  refine z_iconst hB dX10_looks_4 zcI_0 ?_
  refine z_aload_n hB 0 dX10_looks_5 rfl rfl ?_
  refine z_getr hB 0 4 4 kM_0 (Nat.le_of_ble_eq_true rfl) vc_10 inlX10 (Nat.le_of_ble_eq_true rfl) rfl (Nat.le_of_ble_eq_true rfl) fl_X10_19 dX10_looks_6 ?_
  refine z_iconst hB dX10_looks_9 zcI_0 ?_
  obtain ⟨σ2, h1, h⟩ := z_b1E h
  refine z_cV hB (z_rS (ι := zi2 1 4) hB yY_X10_copies (c_X10_copies _ _ _ _ _ _ h1) rfl (cutC_M_1_4) z_hno rfl rfl rfl (Nat.le_of_ble_eq_true rfl) ml_X10_37 ⟨Nat.le_of_ble_eq_true rfl, Nat.le_of_ble_eq_true rfl⟩ dX10_looks_10) (cutC_M_1_4) z_hno ?_
  obtain ⟨σ3, eσ3, h⟩ := z_letE h
  refine z_to eσ3 ?_
  refine z_aload_n hB 0 dX10_looks_13 rfl rfl ?_
  obtain ⟨r6, σ5, h4, h⟩ := z_b2E h
  refine z_cI hB (z_rV (ι := fun k => k) hB yY_X10_doesAll (c_X10_doesAll _ _ _ h4) rfl cut_M z_hid kM_0 (Nat.le_of_ble_eq_true rfl) vc_10 rfl rfl rfl (Nat.le_of_ble_eq_true rfl) ml_X10_224 ⟨Nat.le_of_ble_eq_true rfl, Nat.le_of_ble_eq_true rfl⟩ dX10_looks_14) cut_M z_hid ?_
  refine z_toA z_mid ?_
  refine z_istore_n hB [(1, .int r6), (0, .ref (ad 0))] dX10_looks_17 rfl (Nat.le_of_ble_eq_true rfl) rfl rfl ?_
  refine z_aload_n hB 1 dX10_looks_18 rfl rfl ?_
  refine z_getr hB 0 4 4 kM_0 (Nat.le_of_ble_eq_true rfl) vc_10 inlX10 (Nat.le_of_ble_eq_true rfl) rfl (Nat.le_of_ble_eq_true rfl) fl_X10_19 dX10_looks_19 ?_
  refine z_iconst hB dX10_looks_22 zcI_0 ?_
  refine z_aload_n hB 1 dX10_looks_23 rfl rfl ?_
  refine z_getr hB 0 0 1 kM_0 (Nat.le_of_ble_eq_true rfl) vc_10 inlX10 (Nat.le_of_ble_eq_true rfl) rfl (Nat.le_of_ble_eq_true rfl) fl_X10_7 dX10_looks_24 ?_
  refine z_iconst hB dX10_looks_27 zcI_0 ?_
  obtain ⟨σ8, h7, h⟩ := z_b1E h
  refine z_cV hB (z_rS (ι := zi2 4 1) hB yY_X10_copies (c_X10_copies _ _ _ _ _ _ h7) rfl (cutC_M_4_1) z_hno rfl rfl rfl (Nat.le_of_ble_eq_true rfl) ml_X10_37 ⟨Nat.le_of_ble_eq_true rfl, Nat.le_of_ble_eq_true rfl⟩ dX10_looks_28) (cutC_M_4_1) z_hno ?_
  obtain ⟨σ9, eσ9, h⟩ := z_letE h
  refine z_to eσ9 ?_
  refine z_iload_n hB 0 dX10_looks_31 rfl rfl ?_
  obtain ⟨h1, h2⟩ := z_prE h
  exact hret _ _ _ _ h1 h2 rfl dX10_looks_32
def f_X10_fault (p1 : Int32) (σ : z_S) : Option (Int32 × z_S) :=
  z_b1 (f_X10_in p1 (0 : Int32) (2 : Int32) σ) fun r2 =>
  if r2 = (0 : Int32) then
  (some ((-1 : Int32), σ))
  else
  (z_b2 (f_X10_looks σ) fun r6 σ5 =>
  if r6 = (0 : Int32) then
  (some ((-4 : Int32), σ5))
  else
  (if p1 = (0 : Int32) then
  (some (σ5 0 18, σ5))
  else
  (if p1 = (1 : Int32) then
  (some (r6, σ5))
  else
  (some (σ5 0 19, σ5)))))
set_option maxRecDepth 100000 in
set_option maxHeartbeats 4000000 in
theorem c_X10_fault (p1 : Int32) (σ : z_S) (r : Int32) (σz : z_S) (h : f_X10_fault p1 σ = some (r, σz)) : zMet yX10_fault cX10_fault 3 (some .int) 9 209 layM 10 (fun ad => [.ref (ad 0), .int p1]) σ (z_QI layM 10 r σz) := by
  refine z_headI RX10 (by decide) rfl (fun _ => Nat.le_of_ble_eq_true rfl) (fun E G A ad hB hret => ?_)
  show ZW E G A 3 layM 10 ad 0 [(0, .ref (ad 0)), (1, .int p1)] [] σ
  unfold f_X10_fault at h
  refine z_iload_n hB 1 dX10_fault_0 rfl rfl ?_
  refine z_iconst hB dX10_fault_1 zcI_0 ?_
  refine z_iconst hB dX10_fault_2 zcI_2 ?_
  obtain ⟨r2, h1, h⟩ := z_b1E h
  refine z_cI hB (z_rS (ι := fun k => k) hB yY_X10_in (c_X10_in _ _ _ _ _ h1) rfl z_cut0 z_hno rfl rfl rfl (Nat.le_of_ble_eq_true rfl) ml_X10_45 ⟨Nat.le_of_ble_eq_true rfl, Nat.le_of_ble_eq_true rfl⟩ dX10_fault_3) z_cut0 z_hno ?_
  refine z_toA (z_mro (lay := layM) (lay' := z_lay0) (b := false) z_cut0) ?_
  refine z_if_ne hB (tgt := 11) dX10_fault_6 (by decide) (fun c3 => ?_) (fun c3 => ?_)
  · have h := z_ifF c3 h
    refine z_aload_n hB 0 dX10_fault_11 rfl rfl ?_
    obtain ⟨r6, σ5, h4, h⟩ := z_b2E h
    refine z_cI hB (z_rV (ι := fun k => k) hB yY_X10_looks (c_X10_looks _ _ _ h4) rfl cut_M z_hid kM_0 (Nat.le_of_ble_eq_true rfl) vc_10 rfl rfl rfl (Nat.le_of_ble_eq_true rfl) ml_X10_227 ⟨Nat.le_of_ble_eq_true rfl, Nat.le_of_ble_eq_true rfl⟩ dX10_fault_12) cut_M z_hid ?_
    refine z_toA z_mid ?_
    refine z_istore_n hB [(2, .int r6), (0, .ref (ad 0)), (1, .int p1)] dX10_fault_15 rfl (Nat.le_of_ble_eq_true rfl) rfl rfl ?_
    refine z_iload_n hB 0 dX10_fault_16 rfl rfl ?_
    refine z_if_ne hB (tgt := 25) dX10_fault_17 (by decide) (fun c7 => ?_) (fun c7 => ?_)
    · have h := z_ifF c7 h
      refine z_iload_n hB 2 dX10_fault_25 rfl rfl ?_
      refine z_if_ne hB (tgt := 36) dX10_fault_26 (by decide) (fun c8 => ?_) (fun c8 => ?_)
      · have h := z_ifF c8 h
        refine z_iload_n hB 2 dX10_fault_36 rfl rfl ?_
        refine z_iconst hB dX10_fault_37 zcI_1 ?_
        refine z_icmp_ne hB (tgt := 45) dX10_fault_38 (by decide) (fun c9 => ?_) (fun c9 => ?_)
        · have h := z_ifF c9 h
          refine z_aload_n hB 1 dX10_fault_45 rfl rfl ?_
          refine z_get hB 0 19 kM_0 (Nat.le_of_ble_eq_true rfl) vc_10 inlX10 (Nat.le_of_ble_eq_true rfl) rfl fl_X10_212 dX10_fault_46 ?_
          obtain ⟨h1, h2⟩ := z_prE h
          exact hret _ _ _ _ h1 h2 rfl dX10_fault_49
        · have h := z_ifT c9 h
          refine z_iload_n hB 0 dX10_fault_41 rfl rfl ?_
          refine z_goto hB (tgt := 49) dX10_fault_42 (by decide) ?_
          obtain ⟨h1, h2⟩ := z_prE h
          exact hret _ _ _ _ h1 h2 rfl dX10_fault_49
      · have h := z_ifT c8 h
        refine z_aload_n hB 1 dX10_fault_29 rfl rfl ?_
        refine z_get hB 0 18 kM_0 (Nat.le_of_ble_eq_true rfl) vc_10 inlX10 (Nat.le_of_ble_eq_true rfl) rfl fl_X10_215 dX10_fault_30 ?_
        refine z_goto hB (tgt := 49) dX10_fault_33 (by decide) ?_
        obtain ⟨h1, h2⟩ := z_prE h
        exact hret _ _ _ _ h1 h2 rfl dX10_fault_49
    · have h := z_ifT c7 h
      refine z_bipush hB dX10_fault_20 zcB_m4 ?_
      refine z_goto hB (tgt := 49) dX10_fault_22 (by decide) ?_
      obtain ⟨h1, h2⟩ := z_prE h
      exact hret _ _ _ _ h1 h2 rfl dX10_fault_49
  · have h := z_ifT c3 h
    refine z_iconst hB dX10_fault_9 zcI_m1 ?_
    obtain ⟨h1, h2⟩ := z_prE h
    exact hret _ _ _ _ h1 h2 rfl dX10_fault_10
def f_X10_play (σ : z_S) : Option (Int32 × z_S) :=
  z_b2 (f_X10_looks σ) fun r3 σ2 =>
  if r3 = (0 : Int32) then
  (z_b1 (f_X10_notes σ2) fun σ6 =>
  z_b2 (f_X10_doesAll σ6) fun r9 σ8 =>
  z_let (fun (y10 : Int32) => z_b2 (f_X10_ends y10 σ8) fun r14 σ13 =>
  some (r14, σ13)) fun j11 =>
  if r9 = (0 : Int32) then
  (j11 (σ8 0 17))
  else
  (j11 (-2 : Int32)))
  else
  (some ((-2 : Int32), σ2))
set_option maxRecDepth 100000 in
set_option maxHeartbeats 4000000 in
theorem c_X10_play (σ : z_S) (r : Int32) (σz : z_S) (h : f_X10_play σ = some (r, σz)) : zMet yX10_play cX10_play 2 (some .int) 9 209 layM 10 (fun ad => [.ref (ad 0)]) σ (z_QI layM 10 r σz) := by
  refine z_headI RX10 (by decide) rfl (fun _ => Nat.le_of_ble_eq_true rfl) (fun E G A ad hB hret => ?_)
  show ZW E G A 2 layM 10 ad 0 [(0, .ref (ad 0))] [] σ
  unfold f_X10_play at h
  refine z_aload_n hB 0 dX10_play_0 rfl rfl ?_
  obtain ⟨r3, σ2, h1, h⟩ := z_b2E h
  refine z_cI hB (z_rV (ι := fun k => k) hB yY_X10_looks (c_X10_looks _ _ _ h1) rfl cut_M z_hid kM_0 (Nat.le_of_ble_eq_true rfl) vc_10 rfl rfl rfl (Nat.le_of_ble_eq_true rfl) ml_X10_227 ⟨Nat.le_of_ble_eq_true rfl, Nat.le_of_ble_eq_true rfl⟩ dX10_play_1) cut_M z_hid ?_
  refine z_toA z_mid ?_
  refine z_if_eq hB (tgt := 10) dX10_play_4 (by decide) (fun c4 => ?_) (fun c4 => ?_)
  · have h := z_ifT c4 h
    refine z_aload_n hB 0 dX10_play_10 rfl rfl ?_
    obtain ⟨σ6, h5, h⟩ := z_b1E h
    refine z_cV hB (z_rV (ι := fun k => k) hB yY_X10_notes (c_X10_notes _ _ h5) rfl cut_M z_hid kM_0 (Nat.le_of_ble_eq_true rfl) vc_10 rfl rfl rfl (Nat.le_of_ble_eq_true rfl) ml_X10_64 ⟨Nat.le_of_ble_eq_true rfl, Nat.le_of_ble_eq_true rfl⟩ dX10_play_11) cut_M z_hid ?_
    refine z_toA z_mid ?_
    refine z_aload_n hB 0 dX10_play_14 rfl rfl ?_
    obtain ⟨r9, σ8, h7, h⟩ := z_b2E h
    refine z_cI hB (z_rV (ι := fun k => k) hB yY_X10_doesAll (c_X10_doesAll _ _ _ h7) rfl cut_M z_hid kM_0 (Nat.le_of_ble_eq_true rfl) vc_10 rfl rfl rfl (Nat.le_of_ble_eq_true rfl) ml_X10_224 ⟨Nat.le_of_ble_eq_true rfl, Nat.le_of_ble_eq_true rfl⟩ dX10_play_15) cut_M z_hid ?_
    refine z_toA z_mid ?_
    refine z_istore_n hB [(1, .int r9), (0, .ref (ad 0))] dX10_play_18 rfl (Nat.le_of_ble_eq_true rfl) rfl rfl ?_
    refine z_aload_n hB 1 dX10_play_19 rfl rfl ?_
    refine z_iload_n hB 0 dX10_play_20 rfl rfl ?_
    obtain ⟨j11, ej11, h⟩ := z_letE h
    have hj11 : ∀ (y10 : Int32), j11 y10 = some (r, σz) → ZW E G A 2 layM 10 ad 33 [] [.int y10, .ref (ad 0)] σ8 := by
      intro y10 h
      rw [ej11] at h
      obtain ⟨r14, σ13, h12, h⟩ := z_b2E h
      refine z_cI hB (z_rV (ι := fun k => k) hB yY_X10_ends (c_X10_ends _ _ _ _ h12) rfl cut_M z_hid kM_0 (Nat.le_of_ble_eq_true rfl) vc_10 rfl rfl rfl (Nat.le_of_ble_eq_true rfl) ml_X10_67 ⟨Nat.le_of_ble_eq_true rfl, Nat.le_of_ble_eq_true rfl⟩ dX10_play_33) cut_M z_hid ?_
      refine z_toA z_mid ?_
      obtain ⟨h1, h2⟩ := z_prE h
      exact hret _ _ _ _ h1 h2 rfl dX10_play_36
    refine z_if_ne hB (tgt := 31) dX10_play_21 (by decide) (fun c15 => ?_) (fun c15 => ?_)
    · have h := z_ifF c15 h
      refine z_bipush hB dX10_play_31 zcB_m2 ?_
      refine z_lv [] rfl ?_
      exact hj11 _ h
    · have h := z_ifT c15 h
      refine z_aload_n hB 1 dX10_play_24 rfl rfl ?_
      refine z_get hB 0 17 kM_0 (Nat.le_of_ble_eq_true rfl) vc_10 inlX10 (Nat.le_of_ble_eq_true rfl) rfl fl_X10_209 dX10_play_25 ?_
      refine z_goto hB (tgt := 33) dX10_play_28 (by decide) ?_
      refine z_lv [] rfl ?_
      exact hj11 _ h
  · have h := z_ifF c4 h
    refine z_bipush hB dX10_play_7 zcB_m2 ?_
    obtain ⟨h1, h2⟩ := z_prE h
    exact hret _ _ _ _ h1 h2 rfl dX10_play_9
