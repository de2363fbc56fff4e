def f_X10_in (p0 : Int32) (p1 : Int32) (p2 : Int32) (σ : z_S) : Option Int32 :=
  if p0 < p1 then
  (some ((0 : Int32)))
  else
  (if p2 < p0 then
  (some ((0 : Int32)))
  else
  (some ((1 : Int32))))
set_option maxRecDepth 100000 in
set_option maxHeartbeats 4000000 in
theorem c_X10_in (p0 : Int32) (p1 : Int32) (p2 : Int32) (σ : z_S) (r : Int32) (h : f_X10_in p0 p1 p2 σ = some r) : zMet yX10_in cX10_in 3 (some .boolean) 0 0 z_lay0 0 (fun ad => [.int p0, .int p1, .int p2]) σ (z_QI z_lay0 0 r σ) := by
  refine z_headI RX10 (by decide) rfl (fun _ => Nat.le_of_ble_eq_true rfl) (fun E G A ad hB hret => ?_)
  show ZW E G A 3 z_lay0 0 ad 0 [(0, .int p0), (1, .int p1), (2, .int p2)] [] σ
  unfold f_X10_in at h
  refine z_iload_n hB 0 dX10_in_0 rfl rfl ?_
  refine z_iload_n hB 1 dX10_in_1 rfl rfl ?_
  refine z_icmp_lt hB (tgt := 14) dX10_in_2 (by decide) (fun c1 => ?_) (fun c1 => ?_)
  · have h := z_ifT c1 h
    refine z_iconst hB dX10_in_14 zcI_0 ?_
    exact hret _ _ _ _ (Option.some.inj h) rfl rfl dX10_in_15
  · have h := z_ifF c1 h
    refine z_iload_n hB 0 dX10_in_5 rfl rfl ?_
    refine z_iload_n hB 2 dX10_in_6 rfl rfl ?_
    refine z_icmp_gt hB (tgt := 14) dX10_in_7 (by decide) (fun c2 => ?_) (fun c2 => ?_)
    · have h := z_ifT c2 h
      refine z_iconst hB dX10_in_14 zcI_0 ?_
      exact hret _ _ _ _ (Option.some.inj h) rfl rfl dX10_in_15
    · have h := z_ifF c2 h
      refine z_iconst hB dX10_in_10 zcI_1 ?_
      refine z_goto hB (tgt := 15) dX10_in_11 (by decide) ?_
      exact hret _ _ _ _ (Option.some.inj h) rfl rfl dX10_in_15
def lb_X10_copies_3 (n0 : Nat) (n1 : Nat) (p1 : Int32) (p3 : Int32) (k1 : Int32 → z_S → Option z_S) (x2 : Int32) (σ3 : z_S) : Option z_S :=
  if (537 : Int32) ≤ x2 then
  (some σ3)
  else
  (z_cki (p1 + x2) n0 <|
  z_cki (p3 + x2) n1 <|
  z_let (z_u σ3 1 (p3 + x2).toNatClampNeg (σ3 0 (p1 + x2).toNatClampNeg)) fun σ7 =>
  z_let (x2 + (1 : Int32)) fun x8 =>
  k1 x8 σ7)
def f_X10_copies (n0 : Nat) (n1 : Nat) (p1 : Int32) (p3 : Int32) (σ : z_S) : Option z_S :=
  z_lp2 (lb_X10_copies_3 n0 n1 p1 p3) z_Fu (0 : Int32) σ
set_option maxRecDepth 100000 in
set_option maxHeartbeats 4000000 in
theorem c_X10_copies (n0 : Nat) (n1 : Nat) (p1 : Int32) (p3 : Int32) (σ σz : z_S) (h : f_X10_copies n0 n1 p1 p3 σ = some σz) : zMet yX10_copies cX10_copies 5 none 0 0 (layC n0 n1) 2 (fun ad => [.ref (ad 0), .int p1, .ref (ad 1), .int p3]) σ (z_QV (layC n0 n1) 2 σz) := by
  refine z_headV RX10 (by decide) rfl (fun _ => Nat.le_of_ble_eq_true rfl) (fun E G A ad hB hret => ?_)
  show ZW E G A 5 (layC n0 n1) 2 ad 0 [(0, .ref (ad 0)), (1, .int p1), (2, .ref (ad 1)), (3, .int p3)] [] σ
  unfold f_X10_copies at h
  refine z_iconst hB dX10_copies_0 zcI_0 ?_
  refine z_istore hB [(4, .int ((0 : Int32))), (0, .ref (ad 0)), (1, .int p1), (2, .ref (ad 1)), (3, .int p3)] dX10_copies_1 (Nat.le_of_ble_eq_true rfl) rfl rfl ?_
  refine z_lv [1, 2, 3, 4, 0] rfl ?_
  refine z_lpr2 (g := fun x2 σ3 => ZW E G A 5 (layC n0 n1) 2 ad 3 [(0, .ref (ad 0)), (1, .int p1), (2, .ref (ad 1)), (3, .int p3), (4, .int x2)] [] σ3) (fun k1 x2 σ3 hk_k1 h => ?_) _ _ _ h
  show ZW E G A 5 (layC n0 n1) 2 ad 3 [(0, .ref (ad 0)), (1, .int p1), (2, .ref (ad 1)), (3, .int p3), (4, .int x2)] [] σ3
  unfold lb_X10_copies_3 at h
  refine z_iload hB 4 dX10_copies_3 rfl ?_
  refine z_sipush hB dX10_copies_5 zcS_537 ?_
  refine z_icmp_ge hB (tgt := 29) dX10_copies_8 (by decide) (fun c4 => ?_) (fun c4 => ?_)
  · have h := z_ifT c4 h
    exact hret _ _ _ (Option.some.inj h) dX10_copies_29
  · have h := z_ifF c4 h
    refine z_aload_n hB 2 dX10_copies_11 rfl rfl ?_
    refine z_iload_n hB 3 dX10_copies_12 rfl rfl ?_
    refine z_iload hB 4 dX10_copies_13 rfl ?_
    refine z_iadd hB dX10_copies_15 ?_
    refine z_aload_n hB 0 dX10_copies_16 rfl rfl ?_
    refine z_iload_n hB 1 dX10_copies_17 rfl rfl ?_
    refine z_iload hB 4 dX10_copies_18 rfl ?_
    refine z_iadd hB dX10_copies_20 ?_
    obtain ⟨h5, h⟩ := z_ckiE h
    refine z_iald hB 0 n0 rfl (Nat.le_of_ble_eq_true rfl) dX10_copies_21 h5 ?_
    obtain ⟨h6, h⟩ := z_ckiE h
    obtain ⟨σ7, eσ7, h⟩ := z_letE h
    refine z_iast hB 1 n1 rfl (Nat.le_of_ble_eq_true rfl) dX10_copies_22 h6 ?_
    refine z_to eσ7 ?_
    obtain ⟨x8, ex8, h⟩ := z_letE h
    refine z_iinc hB 4 [(4, .int x8), (0, .ref (ad 0)), (1, .int p1), (2, .ref (ad 1)), (3, .int p3)] dX10_copies_23 rfl (by rw [zcI_1]; exact ex8) (Nat.le_of_ble_eq_true rfl) rfl ?_
    refine z_goto hB (tgt := 3) dX10_copies_26 (by decide) ?_
    refine z_lv [1, 2, 3, 4, 0] rfl ?_
    exact hk_k1 _ _ h
def f_X10_notes (σ : z_S) : Option z_S :=
  z_b1 (f_X10_copies 537 537 (0 : Int32) (0 : Int32) (fun k => σ (zi2 1 3 k))) fun σ2 =>
  z_let (z_m σ (zk2 1 3) 2 σ2) fun σ3 =>
  some σ3
set_option maxRecDepth 100000 in
set_option maxHeartbeats 4000000 in
theorem c_X10_notes (σ σz : z_S) (h : f_X10_notes σ = some σz) : zMet yX10_notes cX10_notes 1 none 1 24 layM 10 (fun ad => [.ref (ad 0)]) σ (z_QV layM 10 σz) := by
  refine z_headV RX10 (by decide) rfl (fun _ => Nat.le_of_ble_eq_true rfl) (fun E G A ad hB hret => ?_)
  show ZW E G A 1 layM 10 ad 0 [(0, .ref (ad 0))] [] σ
  unfold f_X10_notes at h
  refine z_aload_n hB 0 dX10_notes_0 rfl rfl ?_
  refine z_getr hB 0 0 1 kM_0 (Nat.le_of_ble_eq_true rfl) vc_10 inlX10 (Nat.le_of_ble_eq_true rfl) rfl (Nat.le_of_ble_eq_true rfl) fl_X10_7 dX10_notes_1 ?_
  refine z_iconst hB dX10_notes_4 zcI_0 ?_
  refine z_aload_n hB 0 dX10_notes_5 rfl rfl ?_
  refine z_getr hB 0 3 3 kM_0 (Nat.le_of_ble_eq_true rfl) vc_10 inlX10 (Nat.le_of_ble_eq_true rfl) rfl (Nat.le_of_ble_eq_true rfl) fl_X10_16 dX10_notes_6 ?_
  refine z_iconst hB dX10_notes_9 zcI_0 ?_
  obtain ⟨σ2, h1, h⟩ := z_b1E h
  refine z_cV hB (z_rS (ι := zi2 1 3) hB yY_X10_copies (c_X10_copies _ _ _ _ _ _ h1) rfl (cutC_M_1_3) z_hno rfl rfl rfl (Nat.le_of_ble_eq_true rfl) ml_X10_37 ⟨Nat.le_of_ble_eq_true rfl, Nat.le_of_ble_eq_true rfl⟩ dX10_notes_10) (cutC_M_1_3) z_hno ?_
  obtain ⟨σ3, eσ3, h⟩ := z_letE h
  refine z_to eσ3 ?_
  exact hret _ _ _ (Option.some.inj h) dX10_notes_13
def lb_X10_ends_14 (j3 : z_S → Option (Int32 × z_S)) (k9 : Int32 → z_S → Option (Int32 × z_S)) (x10 : Int32) (σ11 : z_S) : Option (Int32 × z_S) :=
  if (1611 : Int32) ≤ x10 then
  (z_let (z_u σ11 0 2 ((3 : Int32))) fun σ13 =>
  j3 σ13)
  else
  (z_cki (x10 + (537 : Int32)) 2148 <|
  z_cki x10 2148 <|
  z_let (z_u σ11 2 x10.toNatClampNeg (σ11 2 (x10 + (537 : Int32)).toNatClampNeg)) fun σ16 =>
  z_let (x10 + (1 : Int32)) fun x17 =>
  k9 x17 σ16)
def f_X10_ends (p1 : Int32) (σ : z_S) : Option (Int32 × z_S) :=
  if p1 < (0 : Int32) then
  (some (p1, σ))
  else
  (z_let (fun (σ2 : z_S) => z_b1 (f_X10_copies 537 2148 (0 : Int32) ((σ2 0 2) * (537 : Int32)) (fun k => σ2 (zi2 3 2 k))) fun σ5 =>
  z_let (z_m σ2 (zk2 3 2) 2 σ5) fun σ6 =>
  z_let (z_u σ6 0 2 ((σ6 0 2) + (1 : Int32))) fun σ7 =>
  some (p1, σ7)) fun j3 =>
  if (σ 0 2) = (4 : Int32) then
  (z_lp2 (lb_X10_ends_14 j3) z_Fu (0 : Int32) σ)
  else
  (j3 σ))
set_option maxRecDepth 100000 in
set_option maxHeartbeats 4000000 in
theorem c_X10_ends (p1 : Int32) (σ : z_S) (r : Int32) (σz : z_S) (h : f_X10_ends p1 σ = some (r, σz)) : zMet yX10_ends cX10_ends 3 (some .int) 1 24 layM 10 (fun ad => [.ref (ad 0), .int p1]) σ (z_QI layM 10 r σz) := by
  refine z_headI RX10 (by decide) rfl (fun _ => Nat.le_of_ble_eq_true rfl) (fun E G A ad hB hret => ?_)
  show ZW E G A 3 layM 10 ad 0 [(0, .ref (ad 0)), (1, .int p1)] [] σ
  unfold f_X10_ends at h
  refine z_iload_n hB 1 dX10_ends_0 rfl rfl ?_
  refine z_if_lt hB (tgt := 78) dX10_ends_1 (by decide) (fun c1 => ?_) (fun c1 => ?_)
  · have h := z_ifT c1 h
    refine z_iload_n hB 1 dX10_ends_78 rfl rfl ?_
    obtain ⟨h1, h2⟩ := z_prE h
    exact hret _ _ _ _ h1 h2 rfl dX10_ends_79
  · have h := z_ifF c1 h
    refine z_aload_n hB 0 dX10_ends_4 rfl rfl ?_
    refine z_get hB 0 2 kM_0 (Nat.le_of_ble_eq_true rfl) vc_10 inlX10 (Nat.le_of_ble_eq_true rfl) rfl fl_X10_41 dX10_ends_5 ?_
    refine z_iconst hB dX10_ends_8 zcI_4 ?_
    obtain ⟨j3, ej3, h⟩ := z_letE h
    have hj3 : ∀ (σ2 : z_S), j3 σ2 = some (r, σz) → ZW E G A 3 layM 10 ad 48 [(0, .ref (ad 0)), (1, .int p1)] [] σ2 := by
      intro σ2 h
      rw [ej3] at h
      refine z_aload_n hB 0 dX10_ends_48 rfl rfl ?_
      refine z_getr hB 0 3 3 kM_0 (Nat.le_of_ble_eq_true rfl) vc_10 inlX10 (Nat.le_of_ble_eq_true rfl) rfl (Nat.le_of_ble_eq_true rfl) fl_X10_16 dX10_ends_49 ?_
      refine z_iconst hB dX10_ends_52 zcI_0 ?_
      refine z_aload_n hB 0 dX10_ends_53 rfl rfl ?_
      refine z_getr hB 0 1 2 kM_0 (Nat.le_of_ble_eq_true rfl) vc_10 inlX10 (Nat.le_of_ble_eq_true rfl) rfl (Nat.le_of_ble_eq_true rfl) fl_X10_13 dX10_ends_54 ?_
      refine z_aload_n hB 0 dX10_ends_57 rfl rfl ?_
      refine z_get hB 0 2 kM_0 (Nat.le_of_ble_eq_true rfl) vc_10 inlX10 (Nat.le_of_ble_eq_true rfl) rfl fl_X10_41 dX10_ends_58 ?_
      refine z_sipush hB dX10_ends_61 zcS_537 ?_
      refine z_imul hB dX10_ends_64 ?_
      obtain ⟨σ5, h4, h⟩ := z_b1E h
      refine z_cV hB (z_rS (ι := zi2 3 2) hB yY_X10_copies (c_X10_copies _ _ _ _ _ _ h4) rfl (cutC_M_3_2) z_hno rfl rfl rfl (Nat.le_of_ble_eq_true rfl) ml_X10_37 ⟨Nat.le_of_ble_eq_true rfl, Nat.le_of_ble_eq_true rfl⟩ dX10_ends_65) (cutC_M_3_2) z_hno ?_
      obtain ⟨σ6, eσ6, h⟩ := z_letE h
      refine z_to eσ6 ?_
      refine z_aload_n hB 0 dX10_ends_68 rfl rfl ?_
      refine z_dup hB dX10_ends_69 rfl ?_
      refine z_get hB 0 2 kM_0 (Nat.le_of_ble_eq_true rfl) vc_10 inlX10 (Nat.le_of_ble_eq_true rfl) rfl fl_X10_41 dX10_ends_70 ?_
      refine z_iconst hB dX10_ends_73 zcI_1 ?_
      refine z_iadd hB dX10_ends_74 ?_
      obtain ⟨σ7, eσ7, h⟩ := z_letE h
      refine z_put hB 0 2 kM_0 (Nat.le_of_ble_eq_true rfl) vc_10 inlX10 tyX10 tyX10_ok nmX10 (Nat.le_of_ble_eq_true rfl) rfl rfl (tyX10_ok 2 (Nat.le_of_ble_eq_true rfl)) fl_X10_41 dX10_ends_75 ?_
      refine z_to eσ7 ?_
      refine z_iload_n hB 1 dX10_ends_78 rfl rfl ?_
      obtain ⟨h1, h2⟩ := z_prE h
      exact hret _ _ _ _ h1 h2 rfl dX10_ends_79
    refine z_icmp_ne hB (tgt := 48) dX10_ends_9 (by decide) (fun c8 => ?_) (fun c8 => ?_)
    · have h := z_ifF c8 h
      exact hj3 _ h
    · have h := z_ifT c8 h
      refine z_iconst hB dX10_ends_12 zcI_0 ?_
      refine z_istore_n hB [(2, .int ((0 : Int32))), (0, .ref (ad 0)), (1, .int p1)] dX10_ends_13 rfl (Nat.le_of_ble_eq_true rfl) rfl rfl ?_
      refine z_lv [1, 2, 0] rfl ?_
      refine z_lpr2 (g := fun x10 σ11 => ZW E G A 3 layM 10 ad 14 [(0, .ref (ad 0)), (1, .int p1), (2, .int x10)] [] σ11) (fun k9 x10 σ11 hk_k9 h => ?_) _ _ _ h
      show ZW E G A 3 layM 10 ad 14 [(0, .ref (ad 0)), (1, .int p1), (2, .int x10)] [] σ11
      unfold lb_X10_ends_14 at h
      refine z_iload_n hB 2 dX10_ends_14 rfl rfl ?_
      refine z_sipush hB dX10_ends_15 zcS_1611 ?_
      refine z_icmp_ge hB (tgt := 43) dX10_ends_18 (by decide) (fun c12 => ?_) (fun c12 => ?_)
      · have h := z_ifT c12 h
        refine z_aload_n hB 0 dX10_ends_43 rfl rfl ?_
        refine z_iconst hB dX10_ends_44 zcI_3 ?_
        obtain ⟨σ13, eσ13, h⟩ := z_letE h
        refine z_put hB 0 2 kM_0 (Nat.le_of_ble_eq_true rfl) vc_10 inlX10 tyX10 tyX10_ok nmX10 (Nat.le_of_ble_eq_true rfl) rfl rfl (tyX10_ok 2 (Nat.le_of_ble_eq_true rfl)) fl_X10_41 dX10_ends_45 ?_
        refine z_to eσ13 ?_
        refine z_lv [0, 1] rfl ?_
        exact hj3 _ h
      · have h := z_ifF c12 h
        refine z_aload_n hB 0 dX10_ends_21 rfl rfl ?_
        refine z_getr hB 0 1 2 kM_0 (Nat.le_of_ble_eq_true rfl) vc_10 inlX10 (Nat.le_of_ble_eq_true rfl) rfl (Nat.le_of_ble_eq_true rfl) fl_X10_13 dX10_ends_22 ?_
        refine z_iload_n hB 2 dX10_ends_25 rfl rfl ?_
        refine z_aload_n hB 0 dX10_ends_26 rfl rfl ?_
        refine z_getr hB 0 1 2 kM_0 (Nat.le_of_ble_eq_true rfl) vc_10 inlX10 (Nat.le_of_ble_eq_true rfl) rfl (Nat.le_of_ble_eq_true rfl) fl_X10_13 dX10_ends_27 ?_
        refine z_iload_n hB 2 dX10_ends_30 rfl rfl ?_
        refine z_sipush hB dX10_ends_31 zcS_537 ?_
        refine z_iadd hB dX10_ends_34 ?_
        obtain ⟨h14, h⟩ := z_ckiE h
        refine z_iald hB 2 2148 kM_2 (Nat.le_of_ble_eq_true rfl) dX10_ends_35 h14 ?_
        obtain ⟨h15, h⟩ := z_ckiE h
        obtain ⟨σ16, eσ16, h⟩ := z_letE h
        refine z_iast hB 2 2148 kM_2 (Nat.le_of_ble_eq_true rfl) dX10_ends_36 h15 ?_
        refine z_to eσ16 ?_
        obtain ⟨x17, ex17, h⟩ := z_letE h
        refine z_iinc hB 2 [(2, .int x17), (0, .ref (ad 0)), (1, .int p1)] dX10_ends_37 rfl (by rw [zcI_1]; exact ex17) (Nat.le_of_ble_eq_true rfl) rfl ?_
        refine z_goto hB (tgt := 14) dX10_ends_40 (by decide) ?_
        refine z_lv [1, 2, 0] rfl ?_
        exact hk_k9 _ _ h
def f_X10_isCorner (p1 : Int32) (σ : z_S) : Option Int32 :=
  z_cki (0 : Int32) 537 <|
  z_b1 (f_X10_in p1 (0 : Int32) ((σ 1 (0 : Int32).toNatClampNeg) - (1 : Int32)) σ) fun r3 =>
  z_ckz (r3) <|
  some (r3)
set_option maxRecDepth 100000 in
set_option maxHeartbeats 4000000 in
theorem c_X10_isCorner (p1 : Int32) (σ : z_S) (r : Int32) (h : f_X10_isCorner p1 σ = some r) : zMet yX10_isCorner cX10_isCorner 2 (some .boolean) 1 22 layM 10 (fun ad => [.ref (ad 0), .int p1]) σ (z_QI layM 10 r σ) := by
  refine z_headI RX10 (by decide) rfl (fun _ => Nat.le_of_ble_eq_true rfl) (fun E G A ad hB hret => ?_)
  show ZW E G A 2 layM 10 ad 0 [(0, .ref (ad 0)), (1, .int p1)] [] σ
  unfold f_X10_isCorner at h
  refine z_iload_n hB 1 dX10_isCorner_0 rfl rfl ?_
  refine z_iconst hB dX10_isCorner_1 zcI_0 ?_
  refine z_aload_n hB 0 dX10_isCorner_2 rfl rfl ?_
  refine z_getr hB 0 0 1 kM_0 (Nat.le_of_ble_eq_true rfl) vc_10 inlX10 (Nat.le_of_ble_eq_true rfl) rfl (Nat.le_of_ble_eq_true rfl) fl_X10_7 dX10_isCorner_3 ?_
  refine z_iconst hB dX10_isCorner_6 zcI_0 ?_
  obtain ⟨h1, h⟩ := z_ckiE h
  refine z_iald hB 1 537 kM_1 (Nat.le_of_ble_eq_true rfl) dX10_isCorner_7 h1 ?_
  refine z_iconst hB dX10_isCorner_8 zcI_1 ?_
  refine z_isub hB dX10_isCorner_9 ?_
  obtain ⟨r3, h2, h⟩ := z_b1E h
  refine z_cI hB (z_rS (ι := fun k => k) hB yY_X10_in (c_X10_in _ _ _ _ _ h2) rfl z_cut0 z_hno rfl rfl rfl (Nat.le_of_ble_eq_true rfl) ml_X10_45 ⟨Nat.le_of_ble_eq_true rfl, Nat.le_of_ble_eq_true rfl⟩ dX10_isCorner_10) z_cut0 z_hno ?_
  refine z_toA (z_mro (lay := layM) (lay' := z_lay0) (b := false) z_cut0) ?_
  obtain ⟨h4, h⟩ := z_ckzE h
  exact hret _ _ _ _ (Option.some.inj h) rfl h4 dX10_isCorner_13
def f_X10_isHouse (p1 : Int32) (σ : z_S) : Option Int32 :=
  z_cki (1 : Int32) 537 <|
  z_b1 (f_X10_in p1 (0 : Int32) ((σ 1 (1 : Int32).toNatClampNeg) - (1 : Int32)) σ) fun r3 =>
  z_ckz (r3) <|
  some (r3)
set_option maxRecDepth 100000 in
set_option maxHeartbeats 4000000 in
theorem c_X10_isHouse (p1 : Int32) (σ : z_S) (r : Int32) (h : f_X10_isHouse p1 σ = some r) : zMet yX10_isHouse cX10_isHouse 2 (some .boolean) 1 22 layM 10 (fun ad => [.ref (ad 0), .int p1]) σ (z_QI layM 10 r σ) := by
  refine z_headI RX10 (by decide) rfl (fun _ => Nat.le_of_ble_eq_true rfl) (fun E G A ad hB hret => ?_)
  show ZW E G A 2 layM 10 ad 0 [(0, .ref (ad 0)), (1, .int p1)] [] σ
  unfold f_X10_isHouse at h
  refine z_iload_n hB 1 dX10_isHouse_0 rfl rfl ?_
  refine z_iconst hB dX10_isHouse_1 zcI_0 ?_
  refine z_aload_n hB 0 dX10_isHouse_2 rfl rfl ?_
  refine z_getr hB 0 0 1 kM_0 (Nat.le_of_ble_eq_true rfl) vc_10 inlX10 (Nat.le_of_ble_eq_true rfl) rfl (Nat.le_of_ble_eq_true rfl) fl_X10_7 dX10_isHouse_3 ?_
  refine z_iconst hB dX10_isHouse_6 zcI_1 ?_
  obtain ⟨h1, h⟩ := z_ckiE h
  refine z_iald hB 1 537 kM_1 (Nat.le_of_ble_eq_true rfl) dX10_isHouse_7 h1 ?_
  refine z_iconst hB dX10_isHouse_8 zcI_1 ?_
  refine z_isub hB dX10_isHouse_9 ?_
  obtain ⟨r3, h2, h⟩ := z_b1E h
  refine z_cI hB (z_rS (ι := fun k => k) hB yY_X10_in (c_X10_in _ _ _ _ _ h2) rfl z_cut0 z_hno rfl rfl rfl (Nat.le_of_ble_eq_true rfl) ml_X10_45 ⟨Nat.le_of_ble_eq_true rfl, Nat.le_of_ble_eq_true rfl⟩ dX10_isHouse_10) z_cut0 z_hno ?_
  refine z_toA (z_mro (lay := layM) (lay' := z_lay0) (b := false) z_cut0) ?_
  obtain ⟨h4, h⟩ := z_ckzE h
  exact hret _ _ _ _ (Option.some.inj h) rfl h4 dX10_isHouse_13
def f_X10_isCarrier (p1 : Int32) (σ : z_S) : Option Int32 :=
  z_cki (2 : Int32) 537 <|
  z_b1 (f_X10_in p1 (0 : Int32) ((σ 1 (2 : Int32).toNatClampNeg) - (1 : Int32)) σ) fun r3 =>
  z_ckz (r3) <|
  some (r3)
set_option maxRecDepth 100000 in
set_option maxHeartbeats 4000000 in
theorem c_X10_isCarrier (p1 : Int32) (σ : z_S) (r : Int32) (h : f_X10_isCarrier p1 σ = some r) : zMet yX10_isCarrier cX10_isCarrier 2 (some .boolean) 1 22 layM 10 (fun ad => [.ref (ad 0), .int p1]) σ (z_QI layM 10 r σ) := by
  refine z_headI RX10 (by decide) rfl (fun _ => Nat.le_of_ble_eq_true rfl) (fun E G A ad hB hret => ?_)
  show ZW E G A 2 layM 10 ad 0 [(0, .ref (ad 0)), (1, .int p1)] [] σ
  unfold f_X10_isCarrier at h
  refine z_iload_n hB 1 dX10_isCarrier_0 rfl rfl ?_
  refine z_iconst hB dX10_isCarrier_1 zcI_0 ?_
  refine z_aload_n hB 0 dX10_isCarrier_2 rfl rfl ?_
  refine z_getr hB 0 0 1 kM_0 (Nat.le_of_ble_eq_true rfl) vc_10 inlX10 (Nat.le_of_ble_eq_true rfl) rfl (Nat.le_of_ble_eq_true rfl) fl_X10_7 dX10_isCarrier_3 ?_
  refine z_iconst hB dX10_isCarrier_6 zcI_2 ?_
  obtain ⟨h1, h⟩ := z_ckiE h
  refine z_iald hB 1 537 kM_1 (Nat.le_of_ble_eq_true rfl) dX10_isCarrier_7 h1 ?_
  refine z_iconst hB dX10_isCarrier_8 zcI_1 ?_
  refine z_isub hB dX10_isCarrier_9 ?_
  obtain ⟨r3, h2, h⟩ := z_b1E h
  refine z_cI hB (z_rS (ι := fun k => k) hB yY_X10_in (c_X10_in _ _ _ _ _ h2) rfl z_cut0 z_hno rfl rfl rfl (Nat.le_of_ble_eq_true rfl) ml_X10_45 ⟨Nat.le_of_ble_eq_true rfl, Nat.le_of_ble_eq_true rfl⟩ dX10_isCarrier_10) z_cut0 z_hno ?_
  refine z_toA (z_mro (lay := layM) (lay' := z_lay0) (b := false) z_cut0) ?_
  obtain ⟨h4, h⟩ := z_ckzE h
  exact hret _ _ _ _ (Option.some.inj h) rfl h4 dX10_isCarrier_13
def f_X10_ofCorner (p1 : Int32) (p2 : Int32) (σ : z_S) : Option Int32 :=
  z_cki (((10 : Int32) + ((4 : Int32) * p1)) + p2) 537 <|
  some (σ 1 (((10 : Int32) + ((4 : Int32) * p1)) + p2).toNatClampNeg)
set_option maxRecDepth 100000 in
set_option maxHeartbeats 4000000 in
theorem c_X10_ofCorner (p1 : Int32) (p2 : Int32) (σ : z_S) (r : Int32) (h : f_X10_ofCorner p1 p2 σ = some r) : zMet yX10_ofCorner cX10_ofCorner 3 (some .int) 0 0 layM 10 (fun ad => [.ref (ad 0), .int p1, .int p2]) σ (z_QI layM 10 r σ) := by
  refine z_headI RX10 (by decide) rfl (fun _ => Nat.le_of_ble_eq_true rfl) (fun E G A ad hB hret => ?_)
  show ZW E G A 3 layM 10 ad 0 [(0, .ref (ad 0)), (1, .int p1), (2, .int p2)] [] σ
  unfold f_X10_ofCorner at h
  refine z_aload_n hB 0 dX10_ofCorner_0 rfl rfl ?_
  refine z_getr hB 0 0 1 kM_0 (Nat.le_of_ble_eq_true rfl) vc_10 inlX10 (Nat.le_of_ble_eq_true rfl) rfl (Nat.le_of_ble_eq_true rfl) fl_X10_7 dX10_ofCorner_1 ?_
  refine z_bipush hB dX10_ofCorner_4 zcB_10 ?_
  refine z_iconst hB dX10_ofCorner_6 zcI_4 ?_
  refine z_iload_n hB 1 dX10_ofCorner_7 rfl rfl ?_
  refine z_imul hB dX10_ofCorner_8 ?_
  refine z_iadd hB dX10_ofCorner_9 ?_
  refine z_iload_n hB 2 dX10_ofCorner_10 rfl rfl ?_
  refine z_iadd hB dX10_ofCorner_11 ?_
  obtain ⟨h1, h⟩ := z_ckiE h
  refine z_iald hB 1 537 kM_1 (Nat.le_of_ble_eq_true rfl) dX10_ofCorner_12 h1 ?_
  exact hret _ _ _ _ (Option.some.inj h) rfl rfl dX10_ofCorner_13
def f_X10_of (p1 : Int32) (p2 : Int32) (σ : z_S) : Option Int32 :=
  z_cki (((90 : Int32) + ((14 : Int32) * p1)) + p2) 537 <|
  some (σ 1 (((90 : Int32) + ((14 : Int32) * p1)) + p2).toNatClampNeg)
set_option maxRecDepth 100000 in
set_option maxHeartbeats 4000000 in
theorem c_X10_of (p1 : Int32) (p2 : Int32) (σ : z_S) (r : Int32) (h : f_X10_of p1 p2 σ = some r) : zMet yX10_of cX10_of 3 (some .int) 0 0 layM 10 (fun ad => [.ref (ad 0), .int p1, .int p2]) σ (z_QI layM 10 r σ) := by
  refine z_headI RX10 (by decide) rfl (fun _ => Nat.le_of_ble_eq_true rfl) (fun E G A ad hB hret => ?_)
  show ZW E G A 3 layM 10 ad 0 [(0, .ref (ad 0)), (1, .int p1), (2, .int p2)] [] σ
  unfold f_X10_of at h
  refine z_aload_n hB 0 dX10_of_0 rfl rfl ?_
  refine z_getr hB 0 0 1 kM_0 (Nat.le_of_ble_eq_true rfl) vc_10 inlX10 (Nat.le_of_ble_eq_true rfl) rfl (Nat.le_of_ble_eq_true rfl) fl_X10_7 dX10_of_1 ?_
  refine z_bipush hB dX10_of_4 zcB_90 ?_
  refine z_bipush hB dX10_of_6 zcB_14 ?_
  refine z_iload_n hB 1 dX10_of_8 rfl rfl ?_
  refine z_imul hB dX10_of_9 ?_
  refine z_iadd hB dX10_of_10 ?_
  refine z_iload_n hB 2 dX10_of_11 rfl rfl ?_
  refine z_iadd hB dX10_of_12 ?_
  obtain ⟨h1, h⟩ := z_ckiE h
  refine z_iald hB 1 537 kM_1 (Nat.le_of_ble_eq_true rfl) dX10_of_13 h1 ?_
  exact hret _ _ _ _ (Option.some.inj h) rfl rfl dX10_of_14
def f_X10_lays (p1 : Int32) (p2 : Int32) (p3 : Int32) (σ : z_S) : Option z_S :=
  z_cki (((90 : Int32) + ((14 : Int32) * p1)) + p2) 537 <|
  z_let (z_u σ 1 (((90 : Int32) + ((14 : Int32) * p1)) + p2).toNatClampNeg (p3)) fun σ2 =>
  some σ2
set_option maxRecDepth 100000 in
set_option maxHeartbeats 4000000 in
theorem c_X10_lays (p1 : Int32) (p2 : Int32) (p3 : Int32) (σ σz : z_S) (h : f_X10_lays p1 p2 p3 σ = some σz) : zMet yX10_lays cX10_lays 4 none 0 0 layM 10 (fun ad => [.ref (ad 0), .int p1, .int p2, .int p3]) σ (z_QV layM 10 σz) := by
  refine z_headV RX10 (by decide) rfl (fun _ => Nat.le_of_ble_eq_true rfl) (fun E G A ad hB hret => ?_)
  show ZW E G A 4 layM 10 ad 0 [(0, .ref (ad 0)), (1, .int p1), (2, .int p2), (3, .int p3)] [] σ
  unfold f_X10_lays at h
  refine z_aload_n hB 0 dX10_lays_0 rfl rfl ?_
  refine z_getr hB 0 0 1 kM_0 (Nat.le_of_ble_eq_true rfl) vc_10 inlX10 (Nat.le_of_ble_eq_true rfl) rfl (Nat.le_of_ble_eq_true rfl) fl_X10_7 dX10_lays_1 ?_
  refine z_bipush hB dX10_lays_4 zcB_90 ?_
  refine z_bipush hB dX10_lays_6 zcB_14 ?_
  refine z_iload_n hB 1 dX10_lays_8 rfl rfl ?_
  refine z_imul hB dX10_lays_9 ?_
  refine z_iadd hB dX10_lays_10 ?_
  refine z_iload_n hB 2 dX10_lays_11 rfl rfl ?_
  refine z_iadd hB dX10_lays_12 ?_
  refine z_iload_n hB 3 dX10_lays_13 rfl rfl ?_
  obtain ⟨h1, h⟩ := z_ckiE h
  obtain ⟨σ2, eσ2, h⟩ := z_letE h
  refine z_iast hB 1 537 kM_1 (Nat.le_of_ble_eq_true rfl) dX10_lays_14 h1 ?_
  refine z_to eσ2 ?_
  exact hret _ _ _ (Option.some.inj h) dX10_lays_15
def f_X10_ofCarrier (p1 : Int32) (p2 : Int32) (σ : z_S) : Option Int32 :=
  z_cki (((426 : Int32) + ((7 : Int32) * p1)) + p2) 537 <|
  some (σ 1 (((426 : Int32) + ((7 : Int32) * p1)) + p2).toNatClampNeg)
set_option maxRecDepth 100000 in
set_option maxHeartbeats 4000000 in
theorem c_X10_ofCarrier (p1 : Int32) (p2 : Int32) (σ : z_S) (r : Int32) (h : f_X10_ofCarrier p1 p2 σ = some r) : zMet yX10_ofCarrier cX10_ofCarrier 3 (some .int) 0 0 layM 10 (fun ad => [.ref (ad 0), .int p1, .int p2]) σ (z_QI layM 10 r σ) := by
  refine z_headI RX10 (by decide) rfl (fun _ => Nat.le_of_ble_eq_true rfl) (fun E G A ad hB hret => ?_)
  show ZW E G A 3 layM 10 ad 0 [(0, .ref (ad 0)), (1, .int p1), (2, .int p2)] [] σ
  unfold f_X10_ofCarrier at h
  refine z_aload_n hB 0 dX10_ofCarrier_0 rfl rfl ?_
  refine z_getr hB 0 0 1 kM_0 (Nat.le_of_ble_eq_true rfl) vc_10 inlX10 (Nat.le_of_ble_eq_true rfl) rfl (Nat.le_of_ble_eq_true rfl) fl_X10_7 dX10_ofCarrier_1 ?_
  refine z_sipush hB dX10_ofCarrier_4 zcS_426 ?_
  refine z_bipush hB dX10_ofCarrier_7 zcB_7 ?_
  refine z_iload_n hB 1 dX10_ofCarrier_9 rfl rfl ?_
  refine z_imul hB dX10_ofCarrier_10 ?_
  refine z_iadd hB dX10_ofCarrier_11 ?_
  refine z_iload_n hB 2 dX10_ofCarrier_12 rfl rfl ?_
  refine z_iadd hB dX10_ofCarrier_13 ?_
  obtain ⟨h1, h⟩ := z_ckiE h
  refine z_iald hB 1 537 kM_1 (Nat.le_of_ble_eq_true rfl) dX10_ofCarrier_14 h1 ?_
  exact hret _ _ _ _ (Option.some.inj h) rfl rfl dX10_ofCarrier_15
def f_X10_addsCarrier (p1 : Int32) (p2 : Int32) (p3 : Int32) (σ : z_S) : Option z_S :=
  z_cki (((426 : Int32) + ((7 : Int32) * p1)) + p2) 537 <|
  z_cki (((426 : Int32) + ((7 : Int32) * p1)) + p2) 537 <|
  z_let (z_u σ 1 (((426 : Int32) + ((7 : Int32) * p1)) + p2).toNatClampNeg ((σ 1 (((426 : Int32) + ((7 : Int32) * p1)) + p2).toNatClampNeg) + p3)) fun σ3 =>
  some σ3
set_option maxRecDepth 100000 in
set_option maxHeartbeats 4000000 in
theorem c_X10_addsCarrier (p1 : Int32) (p2 : Int32) (p3 : Int32) (σ σz : z_S) (h : f_X10_addsCarrier p1 p2 p3 σ = some σz) : zMet yX10_addsCarrier cX10_addsCarrier 4 none 0 0 layM 10 (fun ad => [.ref (ad 0), .int p1, .int p2, .int p3]) σ (z_QV layM 10 σz) := by
  refine z_headV RX10 (by decide) rfl (fun _ => Nat.le_of_ble_eq_true rfl) (fun E G A ad hB hret => ?_)
  show ZW E G A 4 layM 10 ad 0 [(0, .ref (ad 0)), (1, .int p1), (2, .int p2), (3, .int p3)] [] σ
  unfold f_X10_addsCarrier at h
  refine z_aload_n hB 0 dX10_addsCarrier_0 rfl rfl ?_
  refine z_getr hB 0 0 1 kM_0 (Nat.le_of_ble_eq_true rfl) vc_10 inlX10 (Nat.le_of_ble_eq_true rfl) rfl (Nat.le_of_ble_eq_true rfl) fl_X10_7 dX10_addsCarrier_1 ?_
  refine z_sipush hB dX10_addsCarrier_4 zcS_426 ?_
  refine z_bipush hB dX10_addsCarrier_7 zcB_7 ?_
  refine z_iload_n hB 1 dX10_addsCarrier_9 rfl rfl ?_
  refine z_imul hB dX10_addsCarrier_10 ?_
  refine z_iadd hB dX10_addsCarrier_11 ?_
  refine z_iload_n hB 2 dX10_addsCarrier_12 rfl rfl ?_
  refine z_iadd hB dX10_addsCarrier_13 ?_
  refine z_dup2 hB dX10_addsCarrier_14 rfl rfl ?_
  obtain ⟨h1, h⟩ := z_ckiE h
  refine z_iald hB 1 537 kM_1 (Nat.le_of_ble_eq_true rfl) dX10_addsCarrier_15 h1 ?_
  refine z_iload_n hB 3 dX10_addsCarrier_16 rfl rfl ?_
  refine z_iadd hB dX10_addsCarrier_17 ?_
  obtain ⟨h2, h⟩ := z_ckiE h
  obtain ⟨σ3, eσ3, h⟩ := z_letE h
  refine z_iast hB 1 537 kM_1 (Nat.le_of_ble_eq_true rfl) dX10_addsCarrier_18 h2 ?_
  refine z_to eσ3 ?_
  exact hret _ _ _ (Option.some.inj h) dX10_addsCarrier_19
def lb_X10_isBeyond_2 (p2 : Int32) (σ : z_S) (k1 : Int32 → Option Int32) (x2 : Int32) : Option Int32 :=
  if x2 ≤ p2 then
  (if x2 = p2 then
  (some ((1 : Int32)))
  else
  (some ((0 : Int32))))
  else
  (z_b1 (f_X10_ofCorner x2 (0 : Int32) σ) fun r6 =>
  k1 r6)
def f_X10_isBeyond (p1 : Int32) (p2 : Int32) (σ : z_S) : Option Int32 :=
  z_lp1 (lb_X10_isBeyond_2 p2 σ) z_Fu p1
set_option maxRecDepth 100000 in
set_option maxHeartbeats 4000000 in
theorem c_X10_isBeyond (p1 : Int32) (p2 : Int32) (σ : z_S) (r : Int32) (h : f_X10_isBeyond p1 p2 σ = some r) : zMet yX10_isBeyond cX10_isBeyond 4 (some .boolean) 1 22 layM 10 (fun ad => [.ref (ad 0), .int p1, .int p2]) σ (z_QI layM 10 r σ) := by
  refine z_headI RX10 (by decide) rfl (fun _ => Nat.le_of_ble_eq_true rfl) (fun E G A ad hB hret => ?_)
  show ZW E G A 4 layM 10 ad 0 [(0, .ref (ad 0)), (1, .int p1), (2, .int p2)] [] σ
  unfold f_X10_isBeyond at h
  refine z_iload_n hB 1 dX10_isBeyond_0 rfl rfl ?_
  refine z_istore_n hB [(3, .int p1), (0, .ref (ad 0)), (1, .int p1), (2, .int p2)] dX10_isBeyond_1 rfl (Nat.le_of_ble_eq_true rfl) rfl rfl ?_
  refine z_lv [1, 3, 0] rfl ?_
  refine z_lpr1 (g := fun x2 => ZW E G A 4 layM 10 ad 2 [(0, .ref (ad 0)), (2, .int p2), (3, .int x2)] [] σ) (fun k1 x2 hk_k1 h => ?_) _ _ h
  show ZW E G A 4 layM 10 ad 2 [(0, .ref (ad 0)), (2, .int p2), (3, .int x2)] [] σ
  unfold lb_X10_isBeyond_2 at h
  refine z_iload_n hB 2 dX10_isBeyond_2 rfl rfl ?_
  refine z_iload_n hB 1 dX10_isBeyond_3 rfl rfl ?_
  refine z_icmp_le hB (tgt := 17) dX10_isBeyond_4 (by decide) (fun c3 => ?_) (fun c3 => ?_)
  · have h := z_ifT c3 h
    refine z_iload_n hB 2 dX10_isBeyond_17 rfl rfl ?_
    refine z_iload_n hB 1 dX10_isBeyond_18 rfl rfl ?_
    refine z_icmp_ne hB (tgt := 26) dX10_isBeyond_19 (by decide) (fun c4 => ?_) (fun c4 => ?_)
    · have h := z_ifF c4 h
      refine z_iconst hB dX10_isBeyond_26 zcI_0 ?_
      exact hret _ _ _ _ (Option.some.inj h) rfl rfl dX10_isBeyond_27
    · have h := z_ifT c4 h
      refine z_iconst hB dX10_isBeyond_22 zcI_1 ?_
      refine z_goto hB (tgt := 27) dX10_isBeyond_23 (by decide) ?_
      exact hret _ _ _ _ (Option.some.inj h) rfl rfl dX10_isBeyond_27
  · have h := z_ifF c3 h
    refine z_aload_n hB 0 dX10_isBeyond_7 rfl rfl ?_
    refine z_iload_n hB 2 dX10_isBeyond_8 rfl rfl ?_
    refine z_iconst hB dX10_isBeyond_9 zcI_0 ?_
    obtain ⟨r6, h5, h⟩ := z_b1E h
    refine z_cI hB (z_rV (ι := fun k => k) hB yY_X10_ofCorner (c_X10_ofCorner _ _ _ _ h5) rfl cut_M z_hid kM_0 (Nat.le_of_ble_eq_true rfl) vc_10 rfl rfl rfl (Nat.le_of_ble_eq_true rfl) ml_X10_49 ⟨Nat.le_of_ble_eq_true rfl, Nat.le_of_ble_eq_true rfl⟩ dX10_isBeyond_10) cut_M z_hid ?_
    refine z_toA (z_mro cut_M) ?_
    refine z_istore_n hB [(3, .int r6), (0, .ref (ad 0)), (2, .int p2)] dX10_isBeyond_13 rfl (Nat.le_of_ble_eq_true rfl) rfl rfl ?_
    refine z_goto hB (tgt := 2) dX10_isBeyond_14 (by decide) ?_
    refine z_lv [1, 2, 0] rfl ?_
    exact hk_k1 _ h
def lb_X10_cartsCome_4 (σ : z_S) (k1 : Int32 → Int32 → Option Int32) (x2 : Int32) (x3 : Int32) : Option Int32 :=
  if x3 ≤ (0 : Int32) then
  (z_ckz (x2) <|
  some (x2))
  else
  (z_let (fun (y6 : Int32) => z_b1 (f_X10_ofCorner x3 (0 : Int32) σ) fun r9 =>
  k1 y6 r9) fun j7 =>
  z_let (fun (_ : Unit) => j7 (0 : Int32)) fun j10 =>
  if x2 = (0 : Int32) then
  (j10 ())
  else
  (z_b1 (f_X10_ofCorner x3 (3 : Int32) σ) fun r13 =>
  if r13 = (0 : Int32) then
  (j7 (1 : Int32))
  else
  (j10 ())))
def f_X10_cartsCome (p1 : Int32) (σ : z_S) : Option Int32 :=
  z_lp2 (lb_X10_cartsCome_4 σ) z_Fu (1 : Int32) p1
set_option maxRecDepth 100000 in
set_option maxHeartbeats 4000000 in
theorem c_X10_cartsCome (p1 : Int32) (σ : z_S) (r : Int32) (h : f_X10_cartsCome p1 σ = some r) : zMet yX10_cartsCome cX10_cartsCome 4 (some .boolean) 1 22 layM 10 (fun ad => [.ref (ad 0), .int p1]) σ (z_QI layM 10 r σ) := by
  refine z_headI RX10 (by decide) rfl (fun _ => Nat.le_of_ble_eq_true rfl) (fun E G A ad hB hret => ?_)
  show ZW E G A 4 layM 10 ad 0 [(0, .ref (ad 0)), (1, .int p1)] [] σ
  unfold f_X10_cartsCome at h
  refine z_iconst hB dX10_cartsCome_0 zcI_1 ?_
  refine z_istore_n hB [(2, .int ((1 : Int32))), (0, .ref (ad 0)), (1, .int p1)] dX10_cartsCome_1 rfl (Nat.le_of_ble_eq_true rfl) rfl rfl ?_
  refine z_iload_n hB 2 dX10_cartsCome_2 rfl rfl ?_
  refine z_istore_n hB [(3, .int p1), (2, .int ((1 : Int32))), (0, .ref (ad 0)), (1, .int p1)] dX10_cartsCome_3 rfl (Nat.le_of_ble_eq_true rfl) rfl rfl ?_
  refine z_lv [2, 1, 0] rfl ?_
  refine z_lpr2 (g := fun x2 x3 => ZW E G A 4 layM 10 ad 4 [(0, .ref (ad 0)), (2, .int x2), (3, .int x3)] [] σ) (fun k1 x2 x3 hk_k1 h => ?_) _ _ _ h
  show ZW E G A 4 layM 10 ad 4 [(0, .ref (ad 0)), (2, .int x2), (3, .int x3)] [] σ
  unfold lb_X10_cartsCome_4 at h
  refine z_iload_n hB 2 dX10_cartsCome_4 rfl rfl ?_
  refine z_if_le hB (tgt := 37) dX10_cartsCome_5 (by decide) (fun c4 => ?_) (fun c4 => ?_)
  · have h := z_ifT c4 h
    refine z_iload_n hB 1 dX10_cartsCome_37 rfl rfl ?_
    obtain ⟨h5, h⟩ := z_ckzE h
    exact hret _ _ _ _ (Option.some.inj h) rfl h5 dX10_cartsCome_38
  · have h := z_ifF c4 h
    refine z_iload_n hB 1 dX10_cartsCome_8 rfl rfl ?_
    obtain ⟨j7, ej7, h⟩ := z_letE h
    have hj7 : ∀ (y6 : Int32), j7 y6 = some r → ZW E G A 4 layM 10 ad 26 [(0, .ref (ad 0)), (3, .int x3)] [.int y6] σ := by
      intro y6 h
      rw [ej7] at h
      refine z_istore_n hB [(2, .int y6), (0, .ref (ad 0)), (3, .int x3)] dX10_cartsCome_26 rfl (Nat.le_of_ble_eq_true rfl) rfl rfl ?_
      refine z_aload_n hB 1 dX10_cartsCome_27 rfl rfl ?_
      refine z_iload_n hB 2 dX10_cartsCome_28 rfl rfl ?_
      refine z_iconst hB dX10_cartsCome_29 zcI_0 ?_
      obtain ⟨r9, h8, h⟩ := z_b1E h
      refine z_cI hB (z_rV (ι := fun k => k) hB yY_X10_ofCorner (c_X10_ofCorner _ _ _ _ h8) rfl cut_M z_hid kM_0 (Nat.le_of_ble_eq_true rfl) vc_10 rfl rfl rfl (Nat.le_of_ble_eq_true rfl) ml_X10_49 ⟨Nat.le_of_ble_eq_true rfl, Nat.le_of_ble_eq_true rfl⟩ dX10_cartsCome_30) cut_M z_hid ?_
      refine z_toA (z_mro cut_M) ?_
      refine z_istore_n hB [(3, .int r9), (2, .int y6), (0, .ref (ad 0))] dX10_cartsCome_33 rfl (Nat.le_of_ble_eq_true rfl) rfl rfl ?_
      refine z_goto hB (tgt := 4) dX10_cartsCome_34 (by decide) ?_
      refine z_lv [2, 1, 0] rfl ?_
      exact hk_k1 _ _ h
    obtain ⟨j10, ej10, h⟩ := z_letE h
    have hj10 : ∀ (_ : Unit), j10 () = some r → ZW E G A 4 layM 10 ad 25 [(0, .ref (ad 0)), (3, .int x3)] [] σ := by
      intro _ h
      rw [ej10] at h
      refine z_iconst hB dX10_cartsCome_25 zcI_0 ?_
      exact hj7 _ h
    refine z_if_eq hB (tgt := 25) dX10_cartsCome_9 (by decide) (fun c11 => ?_) (fun c11 => ?_)
    · have h := z_ifT c11 h
      refine z_lv [0, 2] rfl ?_
      exact hj10 () h
    · have h := z_ifF c11 h
      refine z_aload_n hB 0 dX10_cartsCome_12 rfl rfl ?_
      refine z_iload_n hB 2 dX10_cartsCome_13 rfl rfl ?_
      refine z_iconst hB dX10_cartsCome_14 zcI_3 ?_
      obtain ⟨r13, h12, h⟩ := z_b1E h
      refine z_cI hB (z_rV (ι := fun k => k) hB yY_X10_ofCorner (c_X10_ofCorner _ _ _ _ h12) rfl cut_M z_hid kM_0 (Nat.le_of_ble_eq_true rfl) vc_10 rfl rfl rfl (Nat.le_of_ble_eq_true rfl) ml_X10_49 ⟨Nat.le_of_ble_eq_true rfl, Nat.le_of_ble_eq_true rfl⟩ dX10_cartsCome_15) cut_M z_hid ?_
      refine z_toA (z_mro cut_M) ?_
      refine z_if_ne hB (tgt := 25) dX10_cartsCome_18 (by decide) (fun c14 => ?_) (fun c14 => ?_)
      · have h := z_ifF c14 h
        refine z_lv [0, 2] rfl ?_
        exact hj10 () h
      · have h := z_ifT c14 h
        refine z_iconst hB dX10_cartsCome_21 zcI_1 ?_
        refine z_goto hB (tgt := 26) dX10_cartsCome_22 (by decide) ?_
        refine z_lv [0, 2] rfl ?_
        exact hj7 _ h
def lb_X10_farOf_4 (σ : z_S) (k1 : Int32 → Int32 → Option Int32) (x2 : Int32) (x3 : Int32) : Option Int32 :=
  if x3 ≤ (0 : Int32) then
  (some (x2))
  else
  (z_b1 (f_X10_ofCorner x3 (1 : Int32) σ) fun r6 =>
  z_let (x2 + r6) fun x7 =>
  z_b1 (f_X10_ofCorner x3 (0 : Int32) σ) fun r9 =>
  k1 x7 r9)
def f_X10_farOf (p1 : Int32) (σ : z_S) : Option Int32 :=
  z_lp2 (lb_X10_farOf_4 σ) z_Fu (0 : Int32) p1
set_option maxRecDepth 100000 in
set_option maxHeartbeats 4000000 in
theorem c_X10_farOf (p1 : Int32) (σ : z_S) (r : Int32) (h : f_X10_farOf p1 σ = some r) : zMet yX10_farOf cX10_farOf 4 (some .int) 1 22 layM 10 (fun ad => [.ref (ad 0), .int p1]) σ (z_QI layM 10 r σ) := by
  refine z_headI RX10 (by decide) rfl (fun _ => Nat.le_of_ble_eq_true rfl) (fun E G A ad hB hret => ?_)
  show ZW E G A 4 layM 10 ad 0 [(0, .ref (ad 0)), (1, .int p1)] [] σ
  unfold f_X10_farOf at h
  refine z_iconst hB dX10_farOf_0 zcI_0 ?_
  refine z_istore_n hB [(2, .int ((0 : Int32))), (0, .ref (ad 0)), (1, .int p1)] dX10_farOf_1 rfl (Nat.le_of_ble_eq_true rfl) rfl rfl ?_
  refine z_iload_n hB 2 dX10_farOf_2 rfl rfl ?_
  refine z_istore_n hB [(3, .int p1), (2, .int ((0 : Int32))), (0, .ref (ad 0)), (1, .int p1)] dX10_farOf_3 rfl (Nat.le_of_ble_eq_true rfl) rfl rfl ?_
  refine z_lv [2, 1, 0] rfl ?_
  refine z_lpr2 (g := fun x2 x3 => ZW E G A 4 layM 10 ad 4 [(0, .ref (ad 0)), (2, .int x2), (3, .int x3)] [] σ) (fun k1 x2 x3 hk_k1 h => ?_) _ _ _ h
  show ZW E G A 4 layM 10 ad 4 [(0, .ref (ad 0)), (2, .int x2), (3, .int x3)] [] σ
  unfold lb_X10_farOf_4 at h
  refine z_iload_n hB 2 dX10_farOf_4 rfl rfl ?_
  refine z_if_le hB (tgt := 27) dX10_farOf_5 (by decide) (fun c4 => ?_) (fun c4 => ?_)
  · have h := z_ifT c4 h
    refine z_iload_n hB 1 dX10_farOf_27 rfl rfl ?_
    exact hret _ _ _ _ (Option.some.inj h) rfl rfl dX10_farOf_28
  · have h := z_ifF c4 h
    refine z_iload_n hB 1 dX10_farOf_8 rfl rfl ?_
    refine z_aload_n hB 0 dX10_farOf_9 rfl rfl ?_
    refine z_iload_n hB 2 dX10_farOf_10 rfl rfl ?_
    refine z_iconst hB dX10_farOf_11 zcI_1 ?_
    obtain ⟨r6, h5, h⟩ := z_b1E h
    refine z_cI hB (z_rV (ι := fun k => k) hB yY_X10_ofCorner (c_X10_ofCorner _ _ _ _ h5) rfl cut_M z_hid kM_0 (Nat.le_of_ble_eq_true rfl) vc_10 rfl rfl rfl (Nat.le_of_ble_eq_true rfl) ml_X10_49 ⟨Nat.le_of_ble_eq_true rfl, Nat.le_of_ble_eq_true rfl⟩ dX10_farOf_12) cut_M z_hid ?_
    refine z_toA (z_mro cut_M) ?_
    refine z_iadd hB dX10_farOf_15 ?_
    obtain ⟨x7, ex7, h⟩ := z_letE h
    refine z_istore_n hB [(2, .int x7), (0, .ref (ad 0)), (3, .int x3)] dX10_farOf_16 rfl (Nat.le_of_ble_eq_true rfl) ex7 rfl ?_
    refine z_aload_n hB 1 dX10_farOf_17 rfl rfl ?_
    refine z_iload_n hB 2 dX10_farOf_18 rfl rfl ?_
    refine z_iconst hB dX10_farOf_19 zcI_0 ?_
    obtain ⟨r9, h8, h⟩ := z_b1E h
    refine z_cI hB (z_rV (ι := fun k => k) hB yY_X10_ofCorner (c_X10_ofCorner _ _ _ _ h8) rfl cut_M z_hid kM_0 (Nat.le_of_ble_eq_true rfl) vc_10 rfl rfl rfl (Nat.le_of_ble_eq_true rfl) ml_X10_49 ⟨Nat.le_of_ble_eq_true rfl, Nat.le_of_ble_eq_true rfl⟩ dX10_farOf_20) cut_M z_hid ?_
    refine z_toA (z_mro cut_M) ?_
    refine z_istore_n hB [(3, .int r9), (2, .int x7), (0, .ref (ad 0))] dX10_farOf_23 rfl (Nat.le_of_ble_eq_true rfl) rfl rfl ?_
    refine z_goto hB (tgt := 4) dX10_farOf_24 (by decide) ?_
    refine z_lv [2, 1, 0] rfl ?_
    exact hk_k1 _ _ h
def lb_X10_laysRow_91 (k8 : Int32 → Int32 → z_S → Option z_S) (x10 : Int32) (k14 : Int32 → Int32 → z_S → Option z_S) (x15 : Int32) (x16 : Int32) (σ17 : z_S) : Option z_S :=
  z_cki (1 : Int32) 537 <|
  if (σ17 1 (1 : Int32).toNatClampNeg) ≤ x16 then
  (z_let (x10 + (1 : Int32)) fun x20 =>
  k8 x15 x20 σ17)
  else
  (z_b1 (f_X10_of x16 (0 : Int32) σ17) fun r22 =>
  z_cki x10 20 <|
  z_let (fun (y24 : Int32) (σ25 : z_S) => z_let (x16 + (1 : Int32)) fun x27 =>
  k14 y24 x27 σ25) fun j26 =>
  if r22 = (σ17 6 x10.toNatClampNeg) then
  (z_cki x15 24 <|
  z_let (z_u σ17 7 x15.toNatClampNeg (x16)) fun σ30 =>
  z_let (x15 + (1 : Int32)) fun x31 =>
  j26 x31 σ30)
  else
  (j26 x15 σ17))
def lb_X10_laysRow_79 (k8 : Int32 → Int32 → z_S → Option z_S) (x9 : Int32) (x10 : Int32) (σ11 : z_S) : Option z_S :=
  z_cki (0 : Int32) 537 <|
  if (σ11 1 (0 : Int32).toNatClampNeg) ≤ x10 then
  (some σ11)
  else
  (z_lp3 (lb_X10_laysRow_91 k8 x10) z_Fu x9 (0 : Int32) σ11)
def lb_X10_laysRow_21 (k3 : Int32 → z_S → Option z_S) (x4 : Int32) (k32 : Int32 → z_S → Option z_S) (x33 : Int32) (σ34 : z_S) : Option z_S :=
  z_cki (x33 - (1 : Int32)) 20 <|
  z_b1 (f_X10_ofCorner x4 (0 : Int32) σ34) fun r37 =>
  z_b1 (f_X10_isBeyond (σ34 6 (x33 - (1 : Int32)).toNatClampNeg) r37 σ34) fun r39 =>
  if r39 = (0 : Int32) then
  (z_cki (x33 - (1 : Int32)) 20 <|
  z_cki x33 20 <|
  z_let (z_u σ34 6 x33.toNatClampNeg (σ34 6 (x33 - (1 : Int32)).toNatClampNeg)) fun σ46 =>
  z_let (x33 + (-1 : Int32)) fun x47 =>
  k32 x47 σ46)
  else
  (z_cki x33 20 <|
  z_let (z_u σ34 6 x33.toNatClampNeg (x4)) fun σ42 =>
  z_let (x4 + (1 : Int32)) fun x43 =>
  k3 x43 σ42)
def lb_X10_laysRow_9 (k3 : Int32 → z_S → Option z_S) (x4 : Int32) (σ5 : z_S) : Option z_S :=
  z_cki (0 : Int32) 537 <|
  if (σ5 1 (0 : Int32).toNatClampNeg) ≤ x4 then
  (z_lp3 lb_X10_laysRow_79 z_Fu (0 : Int32) (0 : Int32) σ5)
  else
  (z_lp2 (lb_X10_laysRow_21 k3 x4) z_Fu x4 σ5)
def f_X10_laysRow (σ : z_S) : Option z_S :=
  z_cki (0 : Int32) 20 <|
  z_let (z_u σ 6 (0 : Int32).toNatClampNeg ((0 : Int32))) fun σ2 =>
  z_lp2 lb_X10_laysRow_9 z_Fu (1 : Int32) σ2
set_option maxRecDepth 100000 in
set_option maxHeartbeats 4000000 in
theorem c_X10_laysRow (σ σz : z_S) (h : f_X10_laysRow σ = some σz) : zMet yX10_laysRow cX10_laysRow 4 none 2 45 layM 10 (fun ad => [.ref (ad 0)]) σ (z_QV layM 10 σz) := by
  refine z_headV RX10 (by decide) rfl (fun _ => Nat.le_of_ble_eq_true rfl) (fun E G A ad hB hret => ?_)
  show ZW E G A 4 layM 10 ad 0 [(0, .ref (ad 0))] [] σ
  unfold f_X10_laysRow at h
  refine z_aload_n hB 0 dX10_laysRow_0 rfl rfl ?_
  refine z_getr hB 0 7 6 kM_0 (Nat.le_of_ble_eq_true rfl) vc_10 inlX10 (Nat.le_of_ble_eq_true rfl) rfl (Nat.le_of_ble_eq_true rfl) fl_X10_25 dX10_laysRow_1 ?_
  refine z_iconst hB dX10_laysRow_4 zcI_0 ?_
  refine z_iconst hB dX10_laysRow_5 zcI_0 ?_
  obtain ⟨h1, h⟩ := z_ckiE h
  obtain ⟨σ2, eσ2, h⟩ := z_letE h
  refine z_iast hB 6 20 kM_6 (Nat.le_of_ble_eq_true rfl) dX10_laysRow_6 h1 ?_
  refine z_to eσ2 ?_
  refine z_iconst hB dX10_laysRow_7 zcI_1 ?_
  refine z_istore_n hB [(1, .int ((1 : Int32))), (0, .ref (ad 0))] dX10_laysRow_8 rfl (Nat.le_of_ble_eq_true rfl) rfl rfl ?_
  refine z_lv [1, 0] rfl ?_
  refine z_lpr2 (g := fun x4 σ5 => ZW E G A 4 layM 10 ad 9 [(0, .ref (ad 0)), (1, .int x4)] [] σ5) (fun k3 x4 σ5 hk_k3 h => ?_) _ _ _ h
  show ZW E G A 4 layM 10 ad 9 [(0, .ref (ad 0)), (1, .int x4)] [] σ5
  unfold lb_X10_laysRow_9 at h
  refine z_iload_n hB 1 dX10_laysRow_9 rfl rfl ?_
  refine z_aload_n hB 0 dX10_laysRow_10 rfl rfl ?_
  refine z_getr hB 0 0 1 kM_0 (Nat.le_of_ble_eq_true rfl) vc_10 inlX10 (Nat.le_of_ble_eq_true rfl) rfl (Nat.le_of_ble_eq_true rfl) fl_X10_7 dX10_laysRow_11 ?_
  refine z_iconst hB dX10_laysRow_14 zcI_0 ?_
  obtain ⟨h6, h⟩ := z_ckiE h
  refine z_iald hB 1 537 kM_1 (Nat.le_of_ble_eq_true rfl) dX10_laysRow_15 h6 ?_
  refine z_icmp_ge hB (tgt := 75) dX10_laysRow_16 (by decide) (fun c7 => ?_) (fun c7 => ?_)
  · have h := z_ifT c7 h
    refine z_iconst hB dX10_laysRow_75 zcI_0 ?_
    refine z_istore_n hB [(1, .int ((0 : Int32))), (0, .ref (ad 0))] dX10_laysRow_76 rfl (Nat.le_of_ble_eq_true rfl) rfl rfl ?_
    refine z_iconst hB dX10_laysRow_77 zcI_0 ?_
    refine z_istore_n hB [(2, .int ((0 : Int32))), (1, .int ((0 : Int32))), (0, .ref (ad 0))] dX10_laysRow_78 rfl (Nat.le_of_ble_eq_true rfl) rfl rfl ?_
    refine z_lv [2, 1, 0] rfl ?_
    refine z_lpr3 (g := fun x9 x10 σ11 => ZW E G A 4 layM 10 ad 79 [(0, .ref (ad 0)), (1, .int x9), (2, .int x10)] [] σ11) (fun k8 x9 x10 σ11 hk_k8 h => ?_) _ _ _ _ h
    show ZW E G A 4 layM 10 ad 79 [(0, .ref (ad 0)), (1, .int x9), (2, .int x10)] [] σ11
    unfold lb_X10_laysRow_79 at h
    refine z_iload_n hB 2 dX10_laysRow_79 rfl rfl ?_
    refine z_aload_n hB 0 dX10_laysRow_80 rfl rfl ?_
    refine z_getr hB 0 0 1 kM_0 (Nat.le_of_ble_eq_true rfl) vc_10 inlX10 (Nat.le_of_ble_eq_true rfl) rfl (Nat.le_of_ble_eq_true rfl) fl_X10_7 dX10_laysRow_81 ?_
    refine z_iconst hB dX10_laysRow_84 zcI_0 ?_
    obtain ⟨h12, h⟩ := z_ckiE h
    refine z_iald hB 1 537 kM_1 (Nat.le_of_ble_eq_true rfl) dX10_laysRow_85 h12 ?_
    refine z_icmp_ge hB (tgt := 138) dX10_laysRow_86 (by decide) (fun c13 => ?_) (fun c13 => ?_)
    · have h := z_ifT c13 h
      exact hret _ _ _ (Option.some.inj h) dX10_laysRow_138
    · have h := z_ifF c13 h
      refine z_iconst hB dX10_laysRow_89 zcI_0 ?_
      refine z_istore_n hB [(3, .int ((0 : Int32))), (0, .ref (ad 0)), (1, .int x9), (2, .int x10)] dX10_laysRow_90 rfl (Nat.le_of_ble_eq_true rfl) rfl rfl ?_
      refine z_lv [1, 2, 3, 0] rfl ?_
      refine z_lpr3 (g := fun x15 x16 σ17 => ZW E G A 4 layM 10 ad 91 [(0, .ref (ad 0)), (1, .int x15), (2, .int x10), (3, .int x16)] [] σ17) (fun k14 x15 x16 σ17 hk_k14 h => ?_) _ _ _ _ h
      show ZW E G A 4 layM 10 ad 91 [(0, .ref (ad 0)), (1, .int x15), (2, .int x10), (3, .int x16)] [] σ17
      unfold lb_X10_laysRow_91 at h
      refine z_iload_n hB 3 dX10_laysRow_91 rfl rfl ?_
      refine z_aload_n hB 0 dX10_laysRow_92 rfl rfl ?_
      refine z_getr hB 0 0 1 kM_0 (Nat.le_of_ble_eq_true rfl) vc_10 inlX10 (Nat.le_of_ble_eq_true rfl) rfl (Nat.le_of_ble_eq_true rfl) fl_X10_7 dX10_laysRow_93 ?_
      refine z_iconst hB dX10_laysRow_96 zcI_1 ?_
      obtain ⟨h18, h⟩ := z_ckiE h
      refine z_iald hB 1 537 kM_1 (Nat.le_of_ble_eq_true rfl) dX10_laysRow_97 h18 ?_
      refine z_icmp_ge hB (tgt := 132) dX10_laysRow_98 (by decide) (fun c19 => ?_) (fun c19 => ?_)
      · have h := z_ifT c19 h
        obtain ⟨x20, ex20, h⟩ := z_letE h
        refine z_iinc hB 2 [(2, .int x20), (0, .ref (ad 0)), (1, .int x15), (3, .int x16)] dX10_laysRow_132 rfl (by rw [zcI_1]; exact ex20) (Nat.le_of_ble_eq_true rfl) rfl ?_
        refine z_goto hB (tgt := 79) dX10_laysRow_135 (by decide) ?_
        refine z_lv [1, 2, 0] rfl ?_
        exact hk_k8 _ _ _ h
      · have h := z_ifF c19 h
        refine z_aload_n hB 0 dX10_laysRow_101 rfl rfl ?_
        refine z_iload_n hB 3 dX10_laysRow_102 rfl rfl ?_
        refine z_iconst hB dX10_laysRow_103 zcI_0 ?_
        obtain ⟨r22, h21, h⟩ := z_b1E h
        refine z_cI hB (z_rV (ι := fun k => k) hB yY_X10_of (c_X10_of _ _ _ _ h21) rfl cut_M z_hid kM_0 (Nat.le_of_ble_eq_true rfl) vc_10 rfl rfl rfl (Nat.le_of_ble_eq_true rfl) ml_X10_57 ⟨Nat.le_of_ble_eq_true rfl, Nat.le_of_ble_eq_true rfl⟩ dX10_laysRow_104) cut_M z_hid ?_
        refine z_toA (z_mro cut_M) ?_
        refine z_aload_n hB 0 dX10_laysRow_107 rfl rfl ?_
        refine z_getr hB 0 7 6 kM_0 (Nat.le_of_ble_eq_true rfl) vc_10 inlX10 (Nat.le_of_ble_eq_true rfl) rfl (Nat.le_of_ble_eq_true rfl) fl_X10_25 dX10_laysRow_108 ?_
        refine z_iload_n hB 2 dX10_laysRow_111 rfl rfl ?_
        obtain ⟨h23, h⟩ := z_ckiE h
        refine z_iald hB 6 20 kM_6 (Nat.le_of_ble_eq_true rfl) dX10_laysRow_112 h23 ?_
        obtain ⟨j26, ej26, h⟩ := z_letE h
        have hj26 : ∀ (y24 : Int32) (σ25 : z_S), j26 y24 σ25 = some σz → ZW E G A 4 layM 10 ad 126 [(0, .ref (ad 0)), (1, .int y24), (2, .int x10), (3, .int x16)] [] σ25 := by
          intro y24 σ25 h
          rw [ej26] at h
          obtain ⟨x27, ex27, h⟩ := z_letE h
          refine z_iinc hB 3 [(3, .int x27), (0, .ref (ad 0)), (1, .int y24), (2, .int x10)] dX10_laysRow_126 rfl (by rw [zcI_1]; exact ex27) (Nat.le_of_ble_eq_true rfl) rfl ?_
          refine z_goto hB (tgt := 91) dX10_laysRow_129 (by decide) ?_
          refine z_lv [1, 2, 3, 0] rfl ?_
          exact hk_k14 _ _ _ h
        refine z_icmp_ne hB (tgt := 126) dX10_laysRow_113 (by decide) (fun c28 => ?_) (fun c28 => ?_)
        · have h := z_ifF c28 h
          exact hj26 _ _ h
        · have h := z_ifT c28 h
          refine z_aload_n hB 0 dX10_laysRow_116 rfl rfl ?_
          refine z_getr hB 0 8 7 kM_0 (Nat.le_of_ble_eq_true rfl) vc_10 inlX10 (Nat.le_of_ble_eq_true rfl) rfl (Nat.le_of_ble_eq_true rfl) fl_X10_28 dX10_laysRow_117 ?_
          refine z_iload_n hB 1 dX10_laysRow_120 rfl rfl ?_
          refine z_iload_n hB 3 dX10_laysRow_121 rfl rfl ?_
          obtain ⟨h29, h⟩ := z_ckiE h
          obtain ⟨σ30, eσ30, h⟩ := z_letE h
          refine z_iast hB 7 24 kM_7 (Nat.le_of_ble_eq_true rfl) dX10_laysRow_122 h29 ?_
          refine z_to eσ30 ?_
          obtain ⟨x31, ex31, h⟩ := z_letE h
          refine z_iinc hB 1 [(1, .int x31), (0, .ref (ad 0)), (2, .int x10), (3, .int x16)] dX10_laysRow_123 rfl (by rw [zcI_1]; exact ex31) (Nat.le_of_ble_eq_true rfl) rfl ?_
          refine z_lv [1, 0, 2, 3] rfl ?_
          exact hj26 _ _ h
  · have h := z_ifF c7 h
    refine z_iload_n hB 1 dX10_laysRow_19 rfl rfl ?_
    refine z_istore_n hB [(2, .int x4), (0, .ref (ad 0)), (1, .int x4)] dX10_laysRow_20 rfl (Nat.le_of_ble_eq_true rfl) rfl rfl ?_
    refine z_lv [1, 2, 0] rfl ?_
    refine z_lpr2 (g := fun x33 σ34 => ZW E G A 4 layM 10 ad 21 [(0, .ref (ad 0)), (1, .int x4), (2, .int x33)] [] σ34) (fun k32 x33 σ34 hk_k32 h => ?_) _ _ _ h
    show ZW E G A 4 layM 10 ad 21 [(0, .ref (ad 0)), (1, .int x4), (2, .int x33)] [] σ34
    unfold lb_X10_laysRow_21 at h
    refine z_aload_n hB 0 dX10_laysRow_21 rfl rfl ?_
    refine z_aload_n hB 0 dX10_laysRow_22 rfl rfl ?_
    refine z_getr hB 0 7 6 kM_0 (Nat.le_of_ble_eq_true rfl) vc_10 inlX10 (Nat.le_of_ble_eq_true rfl) rfl (Nat.le_of_ble_eq_true rfl) fl_X10_25 dX10_laysRow_23 ?_
    refine z_iload_n hB 2 dX10_laysRow_26 rfl rfl ?_
    refine z_iconst hB dX10_laysRow_27 zcI_1 ?_
    refine z_isub hB dX10_laysRow_28 ?_
    obtain ⟨h35, h⟩ := z_ckiE h
    refine z_iald hB 6 20 kM_6 (Nat.le_of_ble_eq_true rfl) dX10_laysRow_29 h35 ?_
    refine z_aload_n hB 0 dX10_laysRow_30 rfl rfl ?_
    refine z_iload_n hB 1 dX10_laysRow_31 rfl rfl ?_
    refine z_iconst hB dX10_laysRow_32 zcI_0 ?_
    obtain ⟨r37, h36, h⟩ := z_b1E h
    refine z_cI hB (z_rV (ι := fun k => k) hB yY_X10_ofCorner (c_X10_ofCorner _ _ _ _ h36) rfl cut_M z_hid kM_0 (Nat.le_of_ble_eq_true rfl) vc_10 rfl rfl rfl (Nat.le_of_ble_eq_true rfl) ml_X10_49 ⟨Nat.le_of_ble_eq_true rfl, Nat.le_of_ble_eq_true rfl⟩ dX10_laysRow_33) cut_M z_hid ?_
    refine z_toA (z_mro cut_M) ?_
    obtain ⟨r39, h38, h⟩ := z_b1E h
    refine z_cI hB (z_rV (ι := fun k => k) hB yY_X10_isBeyond (c_X10_isBeyond _ _ _ _ h38) rfl cut_M z_hid kM_0 (Nat.le_of_ble_eq_true rfl) vc_10 rfl rfl rfl (Nat.le_of_ble_eq_true rfl) ml_X10_53 ⟨Nat.le_of_ble_eq_true rfl, Nat.le_of_ble_eq_true rfl⟩ dX10_laysRow_36) cut_M z_hid ?_
    refine z_toA (z_mro cut_M) ?_
    refine z_if_ne hB (tgt := 62) dX10_laysRow_39 (by decide) (fun c40 => ?_) (fun c40 => ?_)
    · have h := z_ifF c40 h
      refine z_aload_n hB 0 dX10_laysRow_62 rfl rfl ?_
      refine z_getr hB 0 7 6 kM_0 (Nat.le_of_ble_eq_true rfl) vc_10 inlX10 (Nat.le_of_ble_eq_true rfl) rfl (Nat.le_of_ble_eq_true rfl) fl_X10_25 dX10_laysRow_63 ?_
      refine z_iload_n hB 2 dX10_laysRow_66 rfl rfl ?_
      refine z_iload_n hB 1 dX10_laysRow_67 rfl rfl ?_
      obtain ⟨h41, h⟩ := z_ckiE h
      obtain ⟨σ42, eσ42, h⟩ := z_letE h
      refine z_iast hB 6 20 kM_6 (Nat.le_of_ble_eq_true rfl) dX10_laysRow_68 h41 ?_
      refine z_to eσ42 ?_
      obtain ⟨x43, ex43, h⟩ := z_letE h
      refine z_iinc hB 1 [(1, .int x43), (0, .ref (ad 0)), (2, .int x33)] dX10_laysRow_69 rfl (by rw [zcI_1]; exact ex43) (Nat.le_of_ble_eq_true rfl) rfl ?_
      refine z_goto hB (tgt := 9) dX10_laysRow_72 (by decide) ?_
      refine z_lv [1, 0] rfl ?_
      exact hk_k3 _ _ h
    · have h := z_ifT c40 h
      refine z_aload_n hB 0 dX10_laysRow_42 rfl rfl ?_
      refine z_getr hB 0 7 6 kM_0 (Nat.le_of_ble_eq_true rfl) vc_10 inlX10 (Nat.le_of_ble_eq_true rfl) rfl (Nat.le_of_ble_eq_true rfl) fl_X10_25 dX10_laysRow_43 ?_
      refine z_iload_n hB 2 dX10_laysRow_46 rfl rfl ?_
      refine z_aload_n hB 0 dX10_laysRow_47 rfl rfl ?_
      refine z_getr hB 0 7 6 kM_0 (Nat.le_of_ble_eq_true rfl) vc_10 inlX10 (Nat.le_of_ble_eq_true rfl) rfl (Nat.le_of_ble_eq_true rfl) fl_X10_25 dX10_laysRow_48 ?_
      refine z_iload_n hB 2 dX10_laysRow_51 rfl rfl ?_
      refine z_iconst hB dX10_laysRow_52 zcI_1 ?_
      refine z_isub hB dX10_laysRow_53 ?_
      obtain ⟨h44, h⟩ := z_ckiE h
      refine z_iald hB 6 20 kM_6 (Nat.le_of_ble_eq_true rfl) dX10_laysRow_54 h44 ?_
      obtain ⟨h45, h⟩ := z_ckiE h
      obtain ⟨σ46, eσ46, h⟩ := z_letE h
      refine z_iast hB 6 20 kM_6 (Nat.le_of_ble_eq_true rfl) dX10_laysRow_55 h45 ?_
      refine z_to eσ46 ?_
      obtain ⟨x47, ex47, h⟩ := z_letE h
      refine z_iinc hB 2 [(2, .int x47), (0, .ref (ad 0)), (1, .int x4)] dX10_laysRow_56 rfl (by rw [zcI_m1]; exact ex47) (Nat.le_of_ble_eq_true rfl) rfl ?_
      refine z_goto hB (tgt := 21) dX10_laysRow_59 (by decide) ?_
      refine z_lv [1, 2, 0] rfl ?_
      exact hk_k32 _ _ h
def f_X10_corner (p1 : Int32) (p2 : Int32) (p3 : Int32) (p4 : Int32) (σ : z_S) : Option (Int32 × z_S) :=
  z_b1 (f_X10_isCorner p1 σ) fun r2 =>
  if r2 = (0 : Int32) then
  (some ((-1 : Int32), σ))
  else
  (z_b1 (f_X10_in p2 (1 : Int32) (50 : Int32) σ) fun r5 =>
  if r5 = (0 : Int32) then
  (some ((-1 : Int32), σ))
  else
  (z_b1 (f_X10_in p3 (0 : Int32) (100 : Int32) σ) fun r8 =>
  if r8 = (0 : Int32) then
  (some ((-1 : Int32), σ))
  else
  (z_b1 (f_X10_in p4 (0 : Int32) (1 : Int32) σ) fun r11 =>
  if r11 = (0 : Int32) then
  (some ((-1 : Int32), σ))
  else
  (z_cki (0 : Int32) 537 <|
  if (σ 1 (0 : Int32).toNatClampNeg) = (20 : Int32) then
  (some ((-3 : Int32), σ))
  else
  (z_b1 (f_X10_notes σ) fun σ16 =>
  z_cki (0 : Int32) 537 <|
  z_let ((10 : Int32) + ((4 : Int32) * (σ16 1 (0 : Int32).toNatClampNeg))) fun x18 =>
  z_cki (x18 + (0 : Int32)) 537 <|
  z_let (z_u σ16 1 (x18 + (0 : Int32)).toNatClampNeg (p1)) fun σ20 =>
  z_cki (x18 + (1 : Int32)) 537 <|
  z_let (z_u σ20 1 (x18 + (1 : Int32)).toNatClampNeg (p2)) fun σ22 =>
  z_cki (x18 + (2 : Int32)) 537 <|
  z_let (z_u σ22 1 (x18 + (2 : Int32)).toNatClampNeg (p3)) fun σ24 =>
  z_cki (x18 + (3 : Int32)) 537 <|
  z_let (z_u σ24 1 (x18 + (3 : Int32)).toNatClampNeg (p4)) fun σ26 =>
  z_cki (0 : Int32) 537 <|
  z_cki (0 : Int32) 537 <|
  z_let (z_u σ26 1 (0 : Int32).toNatClampNeg ((σ26 1 (0 : Int32).toNatClampNeg) + (1 : Int32))) fun σ29 =>
  z_cki (0 : Int32) 537 <|
  z_b2 (f_X10_ends ((σ29 1 (0 : Int32).toNatClampNeg) - (1 : Int32)) σ29) fun r33 σ32 =>
  some (r33, σ32))))))
set_option maxRecDepth 100000 in
set_option maxHeartbeats 4000000 in
theorem c_X10_corner (p1 : Int32) (p2 : Int32) (p3 : Int32) (p4 : Int32) (σ : z_S) (r : Int32) (σz : z_S) (h : f_X10_corner p1 p2 p3 p4 σ = some (r, σz)) : zMet yX10_corner cX10_corner 6 (some .int) 2 46 layM 10 (fun ad => [.ref (ad 0), .int p1, .int p2, .int p3, .int p4]) σ (z_QI layM 10 r σz) := by
  refine z_headI RX10 (by decide) rfl (fun _ => Nat.le_of_ble_eq_true rfl) (fun E G A ad hB hret => ?_)
  show ZW E G A 6 layM 10 ad 0 [(0, .ref (ad 0)), (1, .int p1), (2, .int p2), (3, .int p3), (4, .int p4)] [] σ
  unfold f_X10_corner at h
  refine z_aload_n hB 0 dX10_corner_0 rfl rfl ?_
  refine z_iload_n hB 1 dX10_corner_1 rfl rfl ?_
  obtain ⟨r2, h1, h⟩ := z_b1E h
  refine z_cI hB (z_rV (ι := fun k => k) hB yY_X10_isCorner (c_X10_isCorner _ _ _ h1) rfl cut_M z_hid kM_0 (Nat.le_of_ble_eq_true rfl) vc_10 rfl rfl rfl (Nat.le_of_ble_eq_true rfl) ml_X10_60 ⟨Nat.le_of_ble_eq_true rfl, Nat.le_of_ble_eq_true rfl⟩ dX10_corner_2) cut_M z_hid ?_
  refine z_toA (z_mro cut_M) ?_
  refine z_if_eq hB (tgt := 38) dX10_corner_5 (by decide) (fun c3 => ?_) (fun c3 => ?_)
  · have h := z_ifT c3 h
    refine z_iconst hB dX10_corner_38 zcI_m1 ?_
    obtain ⟨h1, h2⟩ := z_prE h
    exact hret _ _ _ _ h1 h2 rfl dX10_corner_39
  · have h := z_ifF c3 h
    refine z_iload_n hB 2 dX10_corner_8 rfl rfl ?_
    refine z_iconst hB dX10_corner_9 zcI_1 ?_
    refine z_bipush hB dX10_corner_10 zcB_50 ?_
    obtain ⟨r5, h4, h⟩ := z_b1E h
    refine z_cI hB (z_rS (ι := fun k => k) hB yY_X10_in (c_X10_in _ _ _ _ _ h4) rfl z_cut0 z_hno rfl rfl rfl (Nat.le_of_ble_eq_true rfl) ml_X10_45 ⟨Nat.le_of_ble_eq_true rfl, Nat.le_of_ble_eq_true rfl⟩ dX10_corner_12) z_cut0 z_hno ?_
    refine z_toA (z_mro (lay := layM) (lay' := z_lay0) (b := false) z_cut0) ?_
    refine z_if_eq hB (tgt := 38) dX10_corner_15 (by decide) (fun c6 => ?_) (fun c6 => ?_)
    · have h := z_ifT c6 h
      refine z_iconst hB dX10_corner_38 zcI_m1 ?_
      obtain ⟨h1, h2⟩ := z_prE h
      exact hret _ _ _ _ h1 h2 rfl dX10_corner_39
    · have h := z_ifF c6 h
      refine z_iload_n hB 3 dX10_corner_18 rfl rfl ?_
      refine z_iconst hB dX10_corner_19 zcI_0 ?_
      refine z_bipush hB dX10_corner_20 zcB_100 ?_
      obtain ⟨r8, h7, h⟩ := z_b1E h
      refine z_cI hB (z_rS (ι := fun k => k) hB yY_X10_in (c_X10_in _ _ _ _ _ h7) rfl z_cut0 z_hno rfl rfl rfl (Nat.le_of_ble_eq_true rfl) ml_X10_45 ⟨Nat.le_of_ble_eq_true rfl, Nat.le_of_ble_eq_true rfl⟩ dX10_corner_22) z_cut0 z_hno ?_
      refine z_toA (z_mro (lay := layM) (lay' := z_lay0) (b := false) z_cut0) ?_
      refine z_if_eq hB (tgt := 38) dX10_corner_25 (by decide) (fun c9 => ?_) (fun c9 => ?_)
      · have h := z_ifT c9 h
        refine z_iconst hB dX10_corner_38 zcI_m1 ?_
        obtain ⟨h1, h2⟩ := z_prE h
        exact hret _ _ _ _ h1 h2 rfl dX10_corner_39
      · have h := z_ifF c9 h
        refine z_iload hB 4 dX10_corner_28 rfl ?_
        refine z_iconst hB dX10_corner_30 zcI_0 ?_
        refine z_iconst hB dX10_corner_31 zcI_1 ?_
        obtain ⟨r11, h10, h⟩ := z_b1E h
        refine z_cI hB (z_rS (ι := fun k => k) hB yY_X10_in (c_X10_in _ _ _ _ _ h10) rfl z_cut0 z_hno rfl rfl rfl (Nat.le_of_ble_eq_true rfl) ml_X10_45 ⟨Nat.le_of_ble_eq_true rfl, Nat.le_of_ble_eq_true rfl⟩ dX10_corner_32) z_cut0 z_hno ?_
        refine z_toA (z_mro (lay := layM) (lay' := z_lay0) (b := false) z_cut0) ?_
        refine z_if_ne hB (tgt := 40) dX10_corner_35 (by decide) (fun c12 => ?_) (fun c12 => ?_)
        · have h := z_ifF c12 h
          refine z_aload_n hB 0 dX10_corner_40 rfl rfl ?_
          refine z_getr hB 0 0 1 kM_0 (Nat.le_of_ble_eq_true rfl) vc_10 inlX10 (Nat.le_of_ble_eq_true rfl) rfl (Nat.le_of_ble_eq_true rfl) fl_X10_7 dX10_corner_41 ?_
          refine z_iconst hB dX10_corner_44 zcI_0 ?_
          obtain ⟨h13, h⟩ := z_ckiE h
          refine z_iald hB 1 537 kM_1 (Nat.le_of_ble_eq_true rfl) dX10_corner_45 h13 ?_
          refine z_bipush hB dX10_corner_46 zcB_20 ?_
          refine z_icmp_ne hB (tgt := 54) dX10_corner_48 (by decide) (fun c14 => ?_) (fun c14 => ?_)
          · have h := z_ifF c14 h
            refine z_aload_n hB 0 dX10_corner_54 rfl rfl ?_
            obtain ⟨σ16, h15, h⟩ := z_b1E h
            refine z_cV hB (z_rV (ι := fun k => k) hB yY_X10_notes (c_X10_notes _ _ h15) rfl cut_M z_hid kM_0 (Nat.le_of_ble_eq_true rfl) vc_10 rfl rfl rfl (Nat.le_of_ble_eq_true rfl) ml_X10_64 ⟨Nat.le_of_ble_eq_true rfl, Nat.le_of_ble_eq_true rfl⟩ dX10_corner_55) cut_M z_hid ?_
            refine z_toA z_mid ?_
            refine z_bipush hB dX10_corner_58 zcB_10 ?_
            refine z_iconst hB dX10_corner_60 zcI_4 ?_
            refine z_aload_n hB 0 dX10_corner_61 rfl rfl ?_
            refine z_getr hB 0 0 1 kM_0 (Nat.le_of_ble_eq_true rfl) vc_10 inlX10 (Nat.le_of_ble_eq_true rfl) rfl (Nat.le_of_ble_eq_true rfl) fl_X10_7 dX10_corner_62 ?_
            refine z_iconst hB dX10_corner_65 zcI_0 ?_
            obtain ⟨h17, h⟩ := z_ckiE h
            refine z_iald hB 1 537 kM_1 (Nat.le_of_ble_eq_true rfl) dX10_corner_66 h17 ?_
            refine z_imul hB dX10_corner_67 ?_
            refine z_iadd hB dX10_corner_68 ?_
            obtain ⟨x18, ex18, h⟩ := z_letE h
            refine z_istore hB [(5, .int x18), (0, .ref (ad 0)), (1, .int p1), (2, .int p2), (3, .int p3), (4, .int p4)] dX10_corner_69 (Nat.le_of_ble_eq_true rfl) ex18 rfl ?_
            refine z_aload_n hB 1 dX10_corner_71 rfl rfl ?_
            refine z_getr hB 0 0 1 kM_0 (Nat.le_of_ble_eq_true rfl) vc_10 inlX10 (Nat.le_of_ble_eq_true rfl) rfl (Nat.le_of_ble_eq_true rfl) fl_X10_7 dX10_corner_72 ?_
            refine z_iload hB 0 dX10_corner_75 rfl ?_
            refine z_iconst hB dX10_corner_77 zcI_0 ?_
            refine z_iadd hB dX10_corner_78 ?_
            refine z_iload_n hB 2 dX10_corner_79 rfl rfl ?_
            obtain ⟨h19, h⟩ := z_ckiE h
            obtain ⟨σ20, eσ20, h⟩ := z_letE h
            refine z_iast hB 1 537 kM_1 (Nat.le_of_ble_eq_true rfl) dX10_corner_80 h19 ?_
            refine z_to eσ20 ?_
            refine z_aload_n hB 1 dX10_corner_81 rfl rfl ?_
            refine z_getr hB 0 0 1 kM_0 (Nat.le_of_ble_eq_true rfl) vc_10 inlX10 (Nat.le_of_ble_eq_true rfl) rfl (Nat.le_of_ble_eq_true rfl) fl_X10_7 dX10_corner_82 ?_
            refine z_iload hB 0 dX10_corner_85 rfl ?_
            refine z_iconst hB dX10_corner_87 zcI_1 ?_
            refine z_iadd hB dX10_corner_88 ?_
            refine z_iload_n hB 3 dX10_corner_89 rfl rfl ?_
            obtain ⟨h21, h⟩ := z_ckiE h
            obtain ⟨σ22, eσ22, h⟩ := z_letE h
            refine z_iast hB 1 537 kM_1 (Nat.le_of_ble_eq_true rfl) dX10_corner_90 h21 ?_
            refine z_to eσ22 ?_
            refine z_aload_n hB 1 dX10_corner_91 rfl rfl ?_
            refine z_getr hB 0 0 1 kM_0 (Nat.le_of_ble_eq_true rfl) vc_10 inlX10 (Nat.le_of_ble_eq_true rfl) rfl (Nat.le_of_ble_eq_true rfl) fl_X10_7 dX10_corner_92 ?_
            refine z_iload hB 0 dX10_corner_95 rfl ?_
            refine z_iconst hB dX10_corner_97 zcI_2 ?_
            refine z_iadd hB dX10_corner_98 ?_
            refine z_iload_n hB 4 dX10_corner_99 rfl rfl ?_
            obtain ⟨h23, h⟩ := z_ckiE h
            obtain ⟨σ24, eσ24, h⟩ := z_letE h
            refine z_iast hB 1 537 kM_1 (Nat.le_of_ble_eq_true rfl) dX10_corner_100 h23 ?_
            refine z_to eσ24 ?_
            refine z_aload_n hB 1 dX10_corner_101 rfl rfl ?_
            refine z_getr hB 0 0 1 kM_0 (Nat.le_of_ble_eq_true rfl) vc_10 inlX10 (Nat.le_of_ble_eq_true rfl) rfl (Nat.le_of_ble_eq_true rfl) fl_X10_7 dX10_corner_102 ?_
            refine z_iload hB 0 dX10_corner_105 rfl ?_
            refine z_iconst hB dX10_corner_107 zcI_3 ?_
            refine z_iadd hB dX10_corner_108 ?_
            refine z_iload hB 5 dX10_corner_109 rfl ?_
            obtain ⟨h25, h⟩ := z_ckiE h
            obtain ⟨σ26, eσ26, h⟩ := z_letE h
            refine z_iast hB 1 537 kM_1 (Nat.le_of_ble_eq_true rfl) dX10_corner_111 h25 ?_
            refine z_to eσ26 ?_
            refine z_aload_n hB 1 dX10_corner_112 rfl rfl ?_
            refine z_getr hB 0 0 1 kM_0 (Nat.le_of_ble_eq_true rfl) vc_10 inlX10 (Nat.le_of_ble_eq_true rfl) rfl (Nat.le_of_ble_eq_true rfl) fl_X10_7 dX10_corner_113 ?_
            refine z_iconst hB dX10_corner_116 zcI_0 ?_
            refine z_dup2 hB dX10_corner_117 rfl rfl ?_
            obtain ⟨h27, h⟩ := z_ckiE h
            refine z_iald hB 1 537 kM_1 (Nat.le_of_ble_eq_true rfl) dX10_corner_118 h27 ?_
            refine z_iconst hB dX10_corner_119 zcI_1 ?_
            refine z_iadd hB dX10_corner_120 ?_
            obtain ⟨h28, h⟩ := z_ckiE h
            obtain ⟨σ29, eσ29, h⟩ := z_letE h
            refine z_iast hB 1 537 kM_1 (Nat.le_of_ble_eq_true rfl) dX10_corner_121 h28 ?_
            refine z_to eσ29 ?_
            refine z_aload_n hB 1 dX10_corner_122 rfl rfl ?_
            refine z_aload_n hB 1 dX10_corner_123 rfl rfl ?_
            refine z_getr hB 0 0 1 kM_0 (Nat.le_of_ble_eq_true rfl) vc_10 inlX10 (Nat.le_of_ble_eq_true rfl) rfl (Nat.le_of_ble_eq_true rfl) fl_X10_7 dX10_corner_124 ?_
            refine z_iconst hB dX10_corner_127 zcI_0 ?_
            obtain ⟨h30, h⟩ := z_ckiE h
            refine z_iald hB 1 537 kM_1 (Nat.le_of_ble_eq_true rfl) dX10_corner_128 h30 ?_
            refine z_iconst hB dX10_corner_129 zcI_1 ?_
            refine z_isub hB dX10_corner_130 ?_
            obtain ⟨r33, σ32, h31, h⟩ := z_b2E h
            refine z_cI hB (z_rV (ι := fun k => k) hB yY_X10_ends (c_X10_ends _ _ _ _ h31) rfl cut_M z_hid kM_0 (Nat.le_of_ble_eq_true rfl) vc_10 rfl rfl rfl (Nat.le_of_ble_eq_true rfl) ml_X10_67 ⟨Nat.le_of_ble_eq_true rfl, Nat.le_of_ble_eq_true rfl⟩ dX10_corner_131) cut_M z_hid ?_
            refine z_toA z_mid ?_
            obtain ⟨h1, h2⟩ := z_prE h
            exact hret _ _ _ _ h1 h2 rfl dX10_corner_134
          · have h := z_ifT c14 h
            refine z_bipush hB dX10_corner_51 zcB_m3 ?_
            obtain ⟨h1, h2⟩ := z_prE h
            exact hret _ _ _ _ h1 h2 rfl dX10_corner_53
        · have h := z_ifT c12 h
          refine z_iconst hB dX10_corner_38 zcI_m1 ?_
          obtain ⟨h1, h2⟩ := z_prE h
          exact hret _ _ _ _ h1 h2 rfl dX10_corner_39
def f_X10_house (p1 : Int32) (p2 : Int32) (p3 : Int32) (σ : z_S) : Option (Int32 × z_S) :=
  z_b1 (f_X10_isCorner p1 σ) fun r2 =>
  if r2 = (0 : Int32) then
  (some ((-1 : Int32), σ))
  else
  (z_b1 (f_X10_in p2 (1 : Int32) (5 : Int32) σ) fun r5 =>
  if r5 = (0 : Int32) then
  (some ((-1 : Int32), σ))
  else
  (z_b1 (f_X10_in p3 (0 : Int32) (500 : Int32) σ) fun r8 =>
  if r8 = (0 : Int32) then
  (some ((-1 : Int32), σ))
  else
  (z_cki (1 : Int32) 537 <|
  if (σ 1 (1 : Int32).toNatClampNeg) = (24 : Int32) then
  (some ((-3 : Int32), σ))
  else
  (z_b1 (f_X10_notes σ) fun σ13 =>
  z_cki (1 : Int32) 537 <|
  z_let (σ13 1 (1 : Int32).toNatClampNeg) fun x15 =>
  z_b1 (f_X10_lays x15 (0 : Int32) p1 σ13) fun σ17 =>
  z_b1 (f_X10_lays x15 (1 : Int32) p2 σ17) fun σ19 =>
  z_b1 (f_X10_lays x15 (2 : Int32) p3 σ19) fun σ21 =>
  z_b1 (f_X10_lays x15 (3 : Int32) (-1 : Int32) σ21) fun σ23 =>
  z_cki (1 : Int32) 537 <|
  z_cki (1 : Int32) 537 <|
  z_let (z_u σ23 1 (1 : Int32).toNatClampNeg ((σ23 1 (1 : Int32).toNatClampNeg) + (1 : Int32))) fun σ26 =>
  z_b2 (f_X10_ends x15 σ26) fun r29 σ28 =>
  some (r29, σ28)))))
set_option maxRecDepth 100000 in
set_option maxHeartbeats 4000000 in
theorem c_X10_house (p1 : Int32) (p2 : Int32) (p3 : Int32) (σ : z_S) (r : Int32) (σz : z_S) (h : f_X10_house p1 p2 p3 σ = some (r, σz)) : zMet yX10_house cX10_house 5 (some .int) 2 46 layM 10 (fun ad => [.ref (ad 0), .int p1, .int p2, .int p3]) σ (z_QI layM 10 r σz) := by
  refine z_headI RX10 (by decide) rfl (fun _ => Nat.le_of_ble_eq_true rfl) (fun E G A ad hB hret => ?_)
  show ZW E G A 5 layM 10 ad 0 [(0, .ref (ad 0)), (1, .int p1), (2, .int p2), (3, .int p3)] [] σ
  unfold f_X10_house at h
  refine z_aload_n hB 0 dX10_house_0 rfl rfl ?_
  refine z_iload_n hB 1 dX10_house_1 rfl rfl ?_
  obtain ⟨r2, h1, h⟩ := z_b1E h
  refine z_cI hB (z_rV (ι := fun k => k) hB yY_X10_isCorner (c_X10_isCorner _ _ _ h1) rfl cut_M z_hid kM_0 (Nat.le_of_ble_eq_true rfl) vc_10 rfl rfl rfl (Nat.le_of_ble_eq_true rfl) ml_X10_60 ⟨Nat.le_of_ble_eq_true rfl, Nat.le_of_ble_eq_true rfl⟩ dX10_house_2) cut_M z_hid ?_
  refine z_toA (z_mro cut_M) ?_
  refine z_if_eq hB (tgt := 28) dX10_house_5 (by decide) (fun c3 => ?_) (fun c3 => ?_)
  · have h := z_ifT c3 h
    refine z_iconst hB dX10_house_28 zcI_m1 ?_
    obtain ⟨h1, h2⟩ := z_prE h
    exact hret _ _ _ _ h1 h2 rfl dX10_house_29
  · have h := z_ifF c3 h
    refine z_iload_n hB 2 dX10_house_8 rfl rfl ?_
    refine z_iconst hB dX10_house_9 zcI_1 ?_
    refine z_iconst hB dX10_house_10 zcI_5 ?_
    obtain ⟨r5, h4, h⟩ := z_b1E h
    refine z_cI hB (z_rS (ι := fun k => k) hB yY_X10_in (c_X10_in _ _ _ _ _ h4) rfl z_cut0 z_hno rfl rfl rfl (Nat.le_of_ble_eq_true rfl) ml_X10_45 ⟨Nat.le_of_ble_eq_true rfl, Nat.le_of_ble_eq_true rfl⟩ dX10_house_11) z_cut0 z_hno ?_
    refine z_toA (z_mro (lay := layM) (lay' := z_lay0) (b := false) z_cut0) ?_
    refine z_if_eq hB (tgt := 28) dX10_house_14 (by decide) (fun c6 => ?_) (fun c6 => ?_)
    · have h := z_ifT c6 h
      refine z_iconst hB dX10_house_28 zcI_m1 ?_
      obtain ⟨h1, h2⟩ := z_prE h
      exact hret _ _ _ _ h1 h2 rfl dX10_house_29
    · have h := z_ifF c6 h
      refine z_iload_n hB 3 dX10_house_17 rfl rfl ?_
      refine z_iconst hB dX10_house_18 zcI_0 ?_
      refine z_sipush hB dX10_house_19 zcS_500 ?_
      obtain ⟨r8, h7, h⟩ := z_b1E h
      refine z_cI hB (z_rS (ι := fun k => k) hB yY_X10_in (c_X10_in _ _ _ _ _ h7) rfl z_cut0 z_hno rfl rfl rfl (Nat.le_of_ble_eq_true rfl) ml_X10_45 ⟨Nat.le_of_ble_eq_true rfl, Nat.le_of_ble_eq_true rfl⟩ dX10_house_22) z_cut0 z_hno ?_
      refine z_toA (z_mro (lay := layM) (lay' := z_lay0) (b := false) z_cut0) ?_
      refine z_if_ne hB (tgt := 30) dX10_house_25 (by decide) (fun c9 => ?_) (fun c9 => ?_)
      · have h := z_ifF c9 h
        refine z_aload_n hB 0 dX10_house_30 rfl rfl ?_
        refine z_getr hB 0 0 1 kM_0 (Nat.le_of_ble_eq_true rfl) vc_10 inlX10 (Nat.le_of_ble_eq_true rfl) rfl (Nat.le_of_ble_eq_true rfl) fl_X10_7 dX10_house_31 ?_
        refine z_iconst hB dX10_house_34 zcI_1 ?_
        obtain ⟨h10, h⟩ := z_ckiE h
        refine z_iald hB 1 537 kM_1 (Nat.le_of_ble_eq_true rfl) dX10_house_35 h10 ?_
        refine z_bipush hB dX10_house_36 zcB_24 ?_
        refine z_icmp_ne hB (tgt := 44) dX10_house_38 (by decide) (fun c11 => ?_) (fun c11 => ?_)
        · have h := z_ifF c11 h
          refine z_aload_n hB 0 dX10_house_44 rfl rfl ?_
          obtain ⟨σ13, h12, h⟩ := z_b1E h
          refine z_cV hB (z_rV (ι := fun k => k) hB yY_X10_notes (c_X10_notes _ _ h12) rfl cut_M z_hid kM_0 (Nat.le_of_ble_eq_true rfl) vc_10 rfl rfl rfl (Nat.le_of_ble_eq_true rfl) ml_X10_64 ⟨Nat.le_of_ble_eq_true rfl, Nat.le_of_ble_eq_true rfl⟩ dX10_house_45) cut_M z_hid ?_
          refine z_toA z_mid ?_
          refine z_aload_n hB 0 dX10_house_48 rfl rfl ?_
          refine z_getr hB 0 0 1 kM_0 (Nat.le_of_ble_eq_true rfl) vc_10 inlX10 (Nat.le_of_ble_eq_true rfl) rfl (Nat.le_of_ble_eq_true rfl) fl_X10_7 dX10_house_49 ?_
          refine z_iconst hB dX10_house_52 zcI_1 ?_
          obtain ⟨h14, h⟩ := z_ckiE h
          refine z_iald hB 1 537 kM_1 (Nat.le_of_ble_eq_true rfl) dX10_house_53 h14 ?_
          obtain ⟨x15, ex15, h⟩ := z_letE h
          refine z_istore hB [(4, .int x15), (0, .ref (ad 0)), (1, .int p1), (2, .int p2), (3, .int p3)] dX10_house_54 (Nat.le_of_ble_eq_true rfl) ex15 rfl ?_
          refine z_aload_n hB 1 dX10_house_56 rfl rfl ?_
          refine z_iload hB 0 dX10_house_57 rfl ?_
          refine z_iconst hB dX10_house_59 zcI_0 ?_
          refine z_iload_n hB 2 dX10_house_60 rfl rfl ?_
          obtain ⟨σ17, h16, h⟩ := z_b1E h
          refine z_cV hB (z_rV (ι := fun k => k) hB yY_X10_lays (c_X10_lays _ _ _ _ _ h16) rfl cut_M z_hid kM_0 (Nat.le_of_ble_eq_true rfl) vc_10 rfl rfl rfl (Nat.le_of_ble_eq_true rfl) ml_X10_71 ⟨Nat.le_of_ble_eq_true rfl, Nat.le_of_ble_eq_true rfl⟩ dX10_house_61) cut_M z_hid ?_
          refine z_toA z_mid ?_
          refine z_aload_n hB 1 dX10_house_64 rfl rfl ?_
          refine z_iload hB 0 dX10_house_65 rfl ?_
          refine z_iconst hB dX10_house_67 zcI_1 ?_
          refine z_iload_n hB 3 dX10_house_68 rfl rfl ?_
          obtain ⟨σ19, h18, h⟩ := z_b1E h
          refine z_cV hB (z_rV (ι := fun k => k) hB yY_X10_lays (c_X10_lays _ _ _ _ _ h18) rfl cut_M z_hid kM_0 (Nat.le_of_ble_eq_true rfl) vc_10 rfl rfl rfl (Nat.le_of_ble_eq_true rfl) ml_X10_71 ⟨Nat.le_of_ble_eq_true rfl, Nat.le_of_ble_eq_true rfl⟩ dX10_house_69) cut_M z_hid ?_
          refine z_toA z_mid ?_
          refine z_aload_n hB 1 dX10_house_72 rfl rfl ?_
          refine z_iload hB 0 dX10_house_73 rfl ?_
          refine z_iconst hB dX10_house_75 zcI_2 ?_
          refine z_iload_n hB 4 dX10_house_76 rfl rfl ?_
          obtain ⟨σ21, h20, h⟩ := z_b1E h
          refine z_cV hB (z_rV (ι := fun k => k) hB yY_X10_lays (c_X10_lays _ _ _ _ _ h20) rfl cut_M z_hid kM_0 (Nat.le_of_ble_eq_true rfl) vc_10 rfl rfl rfl (Nat.le_of_ble_eq_true rfl) ml_X10_71 ⟨Nat.le_of_ble_eq_true rfl, Nat.le_of_ble_eq_true rfl⟩ dX10_house_77) cut_M z_hid ?_
          refine z_toA z_mid ?_
          refine z_aload_n hB 1 dX10_house_80 rfl rfl ?_
          refine z_iload hB 0 dX10_house_81 rfl ?_
          refine z_iconst hB dX10_house_83 zcI_3 ?_
          refine z_iconst hB dX10_house_84 zcI_m1 ?_
          obtain ⟨σ23, h22, h⟩ := z_b1E h
          refine z_cV hB (z_rV (ι := fun k => k) hB yY_X10_lays (c_X10_lays _ _ _ _ _ h22) rfl cut_M z_hid kM_0 (Nat.le_of_ble_eq_true rfl) vc_10 rfl rfl rfl (Nat.le_of_ble_eq_true rfl) ml_X10_71 ⟨Nat.le_of_ble_eq_true rfl, Nat.le_of_ble_eq_true rfl⟩ dX10_house_85) cut_M z_hid ?_
          refine z_toA z_mid ?_
          refine z_aload_n hB 1 dX10_house_88 rfl rfl ?_
          refine z_getr hB 0 0 1 kM_0 (Nat.le_of_ble_eq_true rfl) vc_10 inlX10 (Nat.le_of_ble_eq_true rfl) rfl (Nat.le_of_ble_eq_true rfl) fl_X10_7 dX10_house_89 ?_
          refine z_iconst hB dX10_house_92 zcI_1 ?_
          refine z_dup2 hB dX10_house_93 rfl rfl ?_
          obtain ⟨h24, h⟩ := z_ckiE h
          refine z_iald hB 1 537 kM_1 (Nat.le_of_ble_eq_true rfl) dX10_house_94 h24 ?_
          refine z_iconst hB dX10_house_95 zcI_1 ?_
          refine z_iadd hB dX10_house_96 ?_
          obtain ⟨h25, h⟩ := z_ckiE h
          obtain ⟨σ26, eσ26, h⟩ := z_letE h
          refine z_iast hB 1 537 kM_1 (Nat.le_of_ble_eq_true rfl) dX10_house_97 h25 ?_
          refine z_to eσ26 ?_
          refine z_aload_n hB 1 dX10_house_98 rfl rfl ?_
          refine z_iload hB 0 dX10_house_99 rfl ?_
          obtain ⟨r29, σ28, h27, h⟩ := z_b2E h
          refine z_cI hB (z_rV (ι := fun k => k) hB yY_X10_ends (c_X10_ends _ _ _ _ h27) rfl cut_M z_hid kM_0 (Nat.le_of_ble_eq_true rfl) vc_10 rfl rfl rfl (Nat.le_of_ble_eq_true rfl) ml_X10_67 ⟨Nat.le_of_ble_eq_true rfl, Nat.le_of_ble_eq_true rfl⟩ dX10_house_101) cut_M z_hid ?_
          refine z_toA z_mid ?_
          obtain ⟨h1, h2⟩ := z_prE h
          exact hret _ _ _ _ h1 h2 rfl dX10_house_104
        · have h := z_ifT c11 h
          refine z_bipush hB dX10_house_41 zcB_m3 ?_
          obtain ⟨h1, h2⟩ := z_prE h
          exact hret _ _ _ _ h1 h2 rfl dX10_house_43
      · have h := z_ifT c9 h
        refine z_iconst hB dX10_house_28 zcI_m1 ?_
        obtain ⟨h1, h2⟩ := z_prE h
        exact hret _ _ _ _ h1 h2 rfl dX10_house_29
def f_X10_dog (p1 : Int32) (p2 : Int32) (p3 : Int32) (σ : z_S) : Option (Int32 × z_S) :=
  z_b1 (f_X10_isHouse p1 σ) fun r2 =>
  if r2 = (0 : Int32) then
  (some ((-1 : Int32), σ))
  else
  (z_let (fun (_ : Unit) => z_b1 (f_X10_in p3 (0 : Int32) (8 : Int32) σ) fun r6 =>
  if r6 = (0 : Int32) then
  (some ((-1 : Int32), σ))
  else
  (z_b1 (f_X10_notes σ) fun σ9 =>
  z_b1 (f_X10_of p1 (4 : Int32) σ9) fun r11 =>
  z_b1 (f_X10_lays p1 (4 : Int32) p2 σ9) fun σ13 =>
  z_b1 (f_X10_lays p1 (5 : Int32) p3 σ13) fun σ15 =>
  z_b2 (f_X10_ends r11 σ15) fun r18 σ17 =>
  some (r18, σ17))) fun j4 =>
  if p2 = (0 : Int32) then
  (j4 ())
  else
  (z_b1 (f_X10_in p2 (2 : Int32) (9 : Int32) σ) fun r21 =>
  if r21 = (0 : Int32) then
  (some ((-1 : Int32), σ))
  else
  (j4 ())))
set_option maxRecDepth 100000 in
set_option maxHeartbeats 4000000 in
theorem c_X10_dog (p1 : Int32) (p2 : Int32) (p3 : Int32) (σ : z_S) (r : Int32) (σz : z_S) (h : f_X10_dog p1 p2 p3 σ = some (r, σz)) : zMet yX10_dog cX10_dog 5 (some .int) 2 46 layM 10 (fun ad => [.ref (ad 0), .int p1, .int p2, .int p3]) σ (z_QI layM 10 r σz) := by
  refine z_headI RX10 (by decide) rfl (fun _ => Nat.le_of_ble_eq_true rfl) (fun E G A ad hB hret => ?_)
  show ZW E G A 5 layM 10 ad 0 [(0, .ref (ad 0)), (1, .int p1), (2, .int p2), (3, .int p3)] [] σ
  unfold f_X10_dog at h
  refine z_aload_n hB 0 dX10_dog_0 rfl rfl ?_
  refine z_iload_n hB 1 dX10_dog_1 rfl rfl ?_
  obtain ⟨r2, h1, h⟩ := z_b1E h
  refine z_cI hB (z_rV (ι := fun k => k) hB yY_X10_isHouse (c_X10_isHouse _ _ _ h1) rfl cut_M z_hid kM_0 (Nat.le_of_ble_eq_true rfl) vc_10 rfl rfl rfl (Nat.le_of_ble_eq_true rfl) ml_X10_75 ⟨Nat.le_of_ble_eq_true rfl, Nat.le_of_ble_eq_true rfl⟩ dX10_dog_2) cut_M z_hid ?_
  refine z_toA (z_mro cut_M) ?_
  refine z_if_eq hB (tgt := 32) dX10_dog_5 (by decide) (fun c3 => ?_) (fun c3 => ?_)
  · have h := z_ifT c3 h
    refine z_iconst hB dX10_dog_32 zcI_m1 ?_
    obtain ⟨h1, h2⟩ := z_prE h
    exact hret _ _ _ _ h1 h2 rfl dX10_dog_33
  · have h := z_ifF c3 h
    refine z_iload_n hB 2 dX10_dog_8 rfl rfl ?_
    obtain ⟨j4, ej4, h⟩ := z_letE h
    have hj4 : ∀ (_ : Unit), j4 () = some (r, σz) → ZW E G A 5 layM 10 ad 22 [(0, .ref (ad 0)), (1, .int p1), (2, .int p2), (3, .int p3)] [] σ := by
      intro _ h
      rw [ej4] at h
      refine z_iload_n hB 3 dX10_dog_22 rfl rfl ?_
      refine z_iconst hB dX10_dog_23 zcI_0 ?_
      refine z_bipush hB dX10_dog_24 zcB_8 ?_
      obtain ⟨r6, h5, h⟩ := z_b1E h
      refine z_cI hB (z_rS (ι := fun k => k) hB yY_X10_in (c_X10_in _ _ _ _ _ h5) rfl z_cut0 z_hno rfl rfl rfl (Nat.le_of_ble_eq_true rfl) ml_X10_45 ⟨Nat.le_of_ble_eq_true rfl, Nat.le_of_ble_eq_true rfl⟩ dX10_dog_26) z_cut0 z_hno ?_
      refine z_toA (z_mro (lay := layM) (lay' := z_lay0) (b := false) z_cut0) ?_
      refine z_if_ne hB (tgt := 34) dX10_dog_29 (by decide) (fun c7 => ?_) (fun c7 => ?_)
      · have h := z_ifF c7 h
        refine z_aload_n hB 0 dX10_dog_34 rfl rfl ?_
        obtain ⟨σ9, h8, h⟩ := z_b1E h
        refine z_cV hB (z_rV (ι := fun k => k) hB yY_X10_notes (c_X10_notes _ _ h8) rfl cut_M z_hid kM_0 (Nat.le_of_ble_eq_true rfl) vc_10 rfl rfl rfl (Nat.le_of_ble_eq_true rfl) ml_X10_64 ⟨Nat.le_of_ble_eq_true rfl, Nat.le_of_ble_eq_true rfl⟩ dX10_dog_35) cut_M z_hid ?_
        refine z_toA z_mid ?_
        refine z_aload_n hB 0 dX10_dog_38 rfl rfl ?_
        refine z_iload_n hB 1 dX10_dog_39 rfl rfl ?_
        refine z_iconst hB dX10_dog_40 zcI_4 ?_
        obtain ⟨r11, h10, h⟩ := z_b1E h
        refine z_cI hB (z_rV (ι := fun k => k) hB yY_X10_of (c_X10_of _ _ _ _ h10) rfl cut_M z_hid kM_0 (Nat.le_of_ble_eq_true rfl) vc_10 rfl rfl rfl (Nat.le_of_ble_eq_true rfl) ml_X10_57 ⟨Nat.le_of_ble_eq_true rfl, Nat.le_of_ble_eq_true rfl⟩ dX10_dog_41) cut_M z_hid ?_
        refine z_toA (z_mro cut_M) ?_
        refine z_istore hB [(4, .int r11), (0, .ref (ad 0)), (1, .int p1), (2, .int p2), (3, .int p3)] dX10_dog_44 (Nat.le_of_ble_eq_true rfl) rfl rfl ?_
        refine z_aload_n hB 1 dX10_dog_46 rfl rfl ?_
        refine z_iload_n hB 2 dX10_dog_47 rfl rfl ?_
        refine z_iconst hB dX10_dog_48 zcI_4 ?_
        refine z_iload_n hB 3 dX10_dog_49 rfl rfl ?_
        obtain ⟨σ13, h12, h⟩ := z_b1E h
        refine z_cV hB (z_rV (ι := fun k => k) hB yY_X10_lays (c_X10_lays _ _ _ _ _ h12) rfl cut_M z_hid kM_0 (Nat.le_of_ble_eq_true rfl) vc_10 rfl rfl rfl (Nat.le_of_ble_eq_true rfl) ml_X10_71 ⟨Nat.le_of_ble_eq_true rfl, Nat.le_of_ble_eq_true rfl⟩ dX10_dog_50) cut_M z_hid ?_
        refine z_toA z_mid ?_
        refine z_aload_n hB 1 dX10_dog_53 rfl rfl ?_
        refine z_iload_n hB 2 dX10_dog_54 rfl rfl ?_
        refine z_iconst hB dX10_dog_55 zcI_5 ?_
        refine z_iload_n hB 4 dX10_dog_56 rfl rfl ?_
        obtain ⟨σ15, h14, h⟩ := z_b1E h
        refine z_cV hB (z_rV (ι := fun k => k) hB yY_X10_lays (c_X10_lays _ _ _ _ _ h14) rfl cut_M z_hid kM_0 (Nat.le_of_ble_eq_true rfl) vc_10 rfl rfl rfl (Nat.le_of_ble_eq_true rfl) ml_X10_71 ⟨Nat.le_of_ble_eq_true rfl, Nat.le_of_ble_eq_true rfl⟩ dX10_dog_57) cut_M z_hid ?_
        refine z_toA z_mid ?_
        refine z_aload_n hB 1 dX10_dog_60 rfl rfl ?_
        refine z_iload hB 0 dX10_dog_61 rfl ?_
        obtain ⟨r18, σ17, h16, h⟩ := z_b2E h
        refine z_cI hB (z_rV (ι := fun k => k) hB yY_X10_ends (c_X10_ends _ _ _ _ h16) rfl cut_M z_hid kM_0 (Nat.le_of_ble_eq_true rfl) vc_10 rfl rfl rfl (Nat.le_of_ble_eq_true rfl) ml_X10_67 ⟨Nat.le_of_ble_eq_true rfl, Nat.le_of_ble_eq_true rfl⟩ dX10_dog_63) cut_M z_hid ?_
        refine z_toA z_mid ?_
        obtain ⟨h1, h2⟩ := z_prE h
        exact hret _ _ _ _ h1 h2 rfl dX10_dog_66
      · have h := z_ifT c7 h
        refine z_iconst hB dX10_dog_32 zcI_m1 ?_
        obtain ⟨h1, h2⟩ := z_prE h
        exact hret _ _ _ _ h1 h2 rfl dX10_dog_33
    refine z_if_eq hB (tgt := 22) dX10_dog_9 (by decide) (fun c19 => ?_) (fun c19 => ?_)
    · have h := z_ifT c19 h
      exact hj4 () h
    · have h := z_ifF c19 h
      refine z_iload_n hB 2 dX10_dog_12 rfl rfl ?_
      refine z_iconst hB dX10_dog_13 zcI_2 ?_
      refine z_bipush hB dX10_dog_14 zcB_9 ?_
      obtain ⟨r21, h20, h⟩ := z_b1E h
      refine z_cI hB (z_rS (ι := fun k => k) hB yY_X10_in (c_X10_in _ _ _ _ _ h20) rfl z_cut0 z_hno rfl rfl rfl (Nat.le_of_ble_eq_true rfl) ml_X10_45 ⟨Nat.le_of_ble_eq_true rfl, Nat.le_of_ble_eq_true rfl⟩ dX10_dog_16) z_cut0 z_hno ?_
      refine z_toA (z_mro (lay := layM) (lay' := z_lay0) (b := false) z_cut0) ?_
      refine z_if_eq hB (tgt := 32) dX10_dog_19 (by decide) (fun c22 => ?_) (fun c22 => ?_)
      · have h := z_ifT c22 h
        refine z_iconst hB dX10_dog_32 zcI_m1 ?_
        obtain ⟨h1, h2⟩ := z_prE h
        exact hret _ _ _ _ h1 h2 rfl dX10_dog_33
      · have h := z_ifF c22 h
        exact hj4 () h
def f_X10_pauses (p1 : Int32) (p2 : Int32) (p3 : Int32) (σ : z_S) : Option (Int32 × z_S) :=
  z_b1 (f_X10_isHouse p1 σ) fun r2 =>
  if r2 = (0 : Int32) then
  (some ((-1 : Int32), σ))
  else
  (z_cki (4 : Int32) 537 <|
  z_b1 (f_X10_in p2 (σ 1 (4 : Int32).toNatClampNeg) (999 : Int32) σ) fun r6 =>
  if r6 = (0 : Int32) then
  (some ((-1 : Int32), σ))
  else
  (z_b1 (f_X10_in p3 p2 (999 : Int32) σ) fun r9 =>
  if r9 = (0 : Int32) then
  (some ((-1 : Int32), σ))
  else
  (z_cki (3 : Int32) 537 <|
  if (σ 1 (3 : Int32).toNatClampNeg) = (30 : Int32) then
  (some ((-3 : Int32), σ))
  else
  (z_cki (3 : Int32) 537 <|
  z_let ((447 : Int32) + ((3 : Int32) * (σ 1 (3 : Int32).toNatClampNeg))) fun x14 =>
  z_cki x14 537 <|
  z_let (z_u σ 1 x14.toNatClampNeg (p1)) fun σ16 =>
  z_cki (x14 + (1 : Int32)) 537 <|
  z_let (z_u σ16 1 (x14 + (1 : Int32)).toNatClampNeg (p2)) fun σ18 =>
  z_cki (x14 + (2 : Int32)) 537 <|
  z_let (z_u σ18 1 (x14 + (2 : Int32)).toNatClampNeg (p3)) fun σ20 =>
  z_cki (3 : Int32) 537 <|
  z_cki (3 : Int32) 537 <|
  z_let (z_u σ20 1 (3 : Int32).toNatClampNeg ((σ20 1 (3 : Int32).toNatClampNeg) + (1 : Int32))) fun σ23 =>
  z_cki (3 : Int32) 537 <|
  some ((σ23 1 (3 : Int32).toNatClampNeg) - (1 : Int32), σ23)))))
set_option maxRecDepth 100000 in
set_option maxHeartbeats 4000000 in
theorem c_X10_pauses (p1 : Int32) (p2 : Int32) (p3 : Int32) (σ : z_S) (r : Int32) (σz : z_S) (h : f_X10_pauses p1 p2 p3 σ = some (r, σz)) : zMet yX10_pauses cX10_pauses 5 (some .int) 2 43 layM 10 (fun ad => [.ref (ad 0), .int p1, .int p2, .int p3]) σ (z_QI layM 10 r σz) := by
  refine z_headI RX10 (by decide) rfl (fun _ => Nat.le_of_ble_eq_true rfl) (fun E G A ad hB hret => ?_)
  show ZW E G A 5 layM 10 ad 0 [(0, .ref (ad 0)), (1, .int p1), (2, .int p2), (3, .int p3)] [] σ
  unfold f_X10_pauses at h
  refine z_aload_n hB 0 dX10_pauses_0 rfl rfl ?_
  refine z_iload_n hB 1 dX10_pauses_1 rfl rfl ?_
  obtain ⟨r2, h1, h⟩ := z_b1E h
  refine z_cI hB (z_rV (ι := fun k => k) hB yY_X10_isHouse (c_X10_isHouse _ _ _ h1) rfl cut_M z_hid kM_0 (Nat.le_of_ble_eq_true rfl) vc_10 rfl rfl rfl (Nat.le_of_ble_eq_true rfl) ml_X10_75 ⟨Nat.le_of_ble_eq_true rfl, Nat.le_of_ble_eq_true rfl⟩ dX10_pauses_2) cut_M z_hid ?_
  refine z_toA (z_mro cut_M) ?_
  refine z_if_eq hB (tgt := 35) dX10_pauses_5 (by decide) (fun c3 => ?_) (fun c3 => ?_)
  · have h := z_ifT c3 h
    refine z_iconst hB dX10_pauses_35 zcI_m1 ?_
    obtain ⟨h1, h2⟩ := z_prE h
    exact hret _ _ _ _ h1 h2 rfl dX10_pauses_36
  · have h := z_ifF c3 h
    refine z_iload_n hB 2 dX10_pauses_8 rfl rfl ?_
    refine z_aload_n hB 0 dX10_pauses_9 rfl rfl ?_
    refine z_getr hB 0 0 1 kM_0 (Nat.le_of_ble_eq_true rfl) vc_10 inlX10 (Nat.le_of_ble_eq_true rfl) rfl (Nat.le_of_ble_eq_true rfl) fl_X10_7 dX10_pauses_10 ?_
    refine z_iconst hB dX10_pauses_13 zcI_4 ?_
    obtain ⟨h4, h⟩ := z_ckiE h
    refine z_iald hB 1 537 kM_1 (Nat.le_of_ble_eq_true rfl) dX10_pauses_14 h4 ?_
    refine z_sipush hB dX10_pauses_15 zcS_999 ?_
    obtain ⟨r6, h5, h⟩ := z_b1E h
    refine z_cI hB (z_rS (ι := fun k => k) hB yY_X10_in (c_X10_in _ _ _ _ _ h5) rfl z_cut0 z_hno rfl rfl rfl (Nat.le_of_ble_eq_true rfl) ml_X10_45 ⟨Nat.le_of_ble_eq_true rfl, Nat.le_of_ble_eq_true rfl⟩ dX10_pauses_18) z_cut0 z_hno ?_
    refine z_toA (z_mro (lay := layM) (lay' := z_lay0) (b := false) z_cut0) ?_
    refine z_if_eq hB (tgt := 35) dX10_pauses_21 (by decide) (fun c7 => ?_) (fun c7 => ?_)
    · have h := z_ifT c7 h
      refine z_iconst hB dX10_pauses_35 zcI_m1 ?_
      obtain ⟨h1, h2⟩ := z_prE h
      exact hret _ _ _ _ h1 h2 rfl dX10_pauses_36
    · have h := z_ifF c7 h
      refine z_iload_n hB 3 dX10_pauses_24 rfl rfl ?_
      refine z_iload_n hB 2 dX10_pauses_25 rfl rfl ?_
      refine z_sipush hB dX10_pauses_26 zcS_999 ?_
      obtain ⟨r9, h8, h⟩ := z_b1E h
      refine z_cI hB (z_rS (ι := fun k => k) hB yY_X10_in (c_X10_in _ _ _ _ _ h8) rfl z_cut0 z_hno rfl rfl rfl (Nat.le_of_ble_eq_true rfl) ml_X10_45 ⟨Nat.le_of_ble_eq_true rfl, Nat.le_of_ble_eq_true rfl⟩ dX10_pauses_29) z_cut0 z_hno ?_
      refine z_toA (z_mro (lay := layM) (lay' := z_lay0) (b := false) z_cut0) ?_
      refine z_if_ne hB (tgt := 37) dX10_pauses_32 (by decide) (fun c10 => ?_) (fun c10 => ?_)
      · have h := z_ifF c10 h
        refine z_aload_n hB 0 dX10_pauses_37 rfl rfl ?_
        refine z_getr hB 0 0 1 kM_0 (Nat.le_of_ble_eq_true rfl) vc_10 inlX10 (Nat.le_of_ble_eq_true rfl) rfl (Nat.le_of_ble_eq_true rfl) fl_X10_7 dX10_pauses_38 ?_
        refine z_iconst hB dX10_pauses_41 zcI_3 ?_
        obtain ⟨h11, h⟩ := z_ckiE h
        refine z_iald hB 1 537 kM_1 (Nat.le_of_ble_eq_true rfl) dX10_pauses_42 h11 ?_
        refine z_bipush hB dX10_pauses_43 zcB_30 ?_
        refine z_icmp_ne hB (tgt := 51) dX10_pauses_45 (by decide) (fun c12 => ?_) (fun c12 => ?_)
        · have h := z_ifF c12 h
          refine z_sipush hB dX10_pauses_51 zcS_447 ?_
          refine z_iconst hB dX10_pauses_54 zcI_3 ?_
          refine z_aload_n hB 0 dX10_pauses_55 rfl rfl ?_
          refine z_getr hB 0 0 1 kM_0 (Nat.le_of_ble_eq_true rfl) vc_10 inlX10 (Nat.le_of_ble_eq_true rfl) rfl (Nat.le_of_ble_eq_true rfl) fl_X10_7 dX10_pauses_56 ?_
          refine z_iconst hB dX10_pauses_59 zcI_3 ?_
          obtain ⟨h13, h⟩ := z_ckiE h
          refine z_iald hB 1 537 kM_1 (Nat.le_of_ble_eq_true rfl) dX10_pauses_60 h13 ?_
          refine z_imul hB dX10_pauses_61 ?_
          refine z_iadd hB dX10_pauses_62 ?_
          obtain ⟨x14, ex14, h⟩ := z_letE h
          refine z_istore hB [(4, .int x14), (0, .ref (ad 0)), (1, .int p1), (2, .int p2), (3, .int p3)] dX10_pauses_63 (Nat.le_of_ble_eq_true rfl) ex14 rfl ?_
          refine z_aload_n hB 1 dX10_pauses_65 rfl rfl ?_
          refine z_getr hB 0 0 1 kM_0 (Nat.le_of_ble_eq_true rfl) vc_10 inlX10 (Nat.le_of_ble_eq_true rfl) rfl (Nat.le_of_ble_eq_true rfl) fl_X10_7 dX10_pauses_66 ?_
          refine z_iload hB 0 dX10_pauses_69 rfl ?_
          refine z_iload_n hB 2 dX10_pauses_71 rfl rfl ?_
          obtain ⟨h15, h⟩ := z_ckiE h
          obtain ⟨σ16, eσ16, h⟩ := z_letE h
          refine z_iast hB 1 537 kM_1 (Nat.le_of_ble_eq_true rfl) dX10_pauses_72 h15 ?_
          refine z_to eσ16 ?_
          refine z_aload_n hB 1 dX10_pauses_73 rfl rfl ?_
          refine z_getr hB 0 0 1 kM_0 (Nat.le_of_ble_eq_true rfl) vc_10 inlX10 (Nat.le_of_ble_eq_true rfl) rfl (Nat.le_of_ble_eq_true rfl) fl_X10_7 dX10_pauses_74 ?_
          refine z_iload hB 0 dX10_pauses_77 rfl ?_
          refine z_iconst hB dX10_pauses_79 zcI_1 ?_
          refine z_iadd hB dX10_pauses_80 ?_
          refine z_iload_n hB 3 dX10_pauses_81 rfl rfl ?_
          obtain ⟨h17, h⟩ := z_ckiE h
          obtain ⟨σ18, eσ18, h⟩ := z_letE h
          refine z_iast hB 1 537 kM_1 (Nat.le_of_ble_eq_true rfl) dX10_pauses_82 h17 ?_
          refine z_to eσ18 ?_
          refine z_aload_n hB 1 dX10_pauses_83 rfl rfl ?_
          refine z_getr hB 0 0 1 kM_0 (Nat.le_of_ble_eq_true rfl) vc_10 inlX10 (Nat.le_of_ble_eq_true rfl) rfl (Nat.le_of_ble_eq_true rfl) fl_X10_7 dX10_pauses_84 ?_
          refine z_iload hB 0 dX10_pauses_87 rfl ?_
          refine z_iconst hB dX10_pauses_89 zcI_2 ?_
          refine z_iadd hB dX10_pauses_90 ?_
          refine z_iload_n hB 4 dX10_pauses_91 rfl rfl ?_
          obtain ⟨h19, h⟩ := z_ckiE h
          obtain ⟨σ20, eσ20, h⟩ := z_letE h
          refine z_iast hB 1 537 kM_1 (Nat.le_of_ble_eq_true rfl) dX10_pauses_92 h19 ?_
          refine z_to eσ20 ?_
          refine z_aload_n hB 1 dX10_pauses_93 rfl rfl ?_
          refine z_getr hB 0 0 1 kM_0 (Nat.le_of_ble_eq_true rfl) vc_10 inlX10 (Nat.le_of_ble_eq_true rfl) rfl (Nat.le_of_ble_eq_true rfl) fl_X10_7 dX10_pauses_94 ?_
          refine z_iconst hB dX10_pauses_97 zcI_3 ?_
          refine z_dup2 hB dX10_pauses_98 rfl rfl ?_
          obtain ⟨h21, h⟩ := z_ckiE h
          refine z_iald hB 1 537 kM_1 (Nat.le_of_ble_eq_true rfl) dX10_pauses_99 h21 ?_
          refine z_iconst hB dX10_pauses_100 zcI_1 ?_
          refine z_iadd hB dX10_pauses_101 ?_
          obtain ⟨h22, h⟩ := z_ckiE h
          obtain ⟨σ23, eσ23, h⟩ := z_letE h
          refine z_iast hB 1 537 kM_1 (Nat.le_of_ble_eq_true rfl) dX10_pauses_102 h22 ?_
          refine z_to eσ23 ?_
          refine z_aload_n hB 1 dX10_pauses_103 rfl rfl ?_
          refine z_getr hB 0 0 1 kM_0 (Nat.le_of_ble_eq_true rfl) vc_10 inlX10 (Nat.le_of_ble_eq_true rfl) rfl (Nat.le_of_ble_eq_true rfl) fl_X10_7 dX10_pauses_104 ?_
          refine z_iconst hB dX10_pauses_107 zcI_3 ?_
          obtain ⟨h24, h⟩ := z_ckiE h
          refine z_iald hB 1 537 kM_1 (Nat.le_of_ble_eq_true rfl) dX10_pauses_108 h24 ?_
          refine z_iconst hB dX10_pauses_109 zcI_1 ?_
          refine z_isub hB dX10_pauses_110 ?_
          obtain ⟨h1, h2⟩ := z_prE h
          exact hret _ _ _ _ h1 h2 rfl dX10_pauses_111
        · have h := z_ifT c12 h
          refine z_bipush hB dX10_pauses_48 zcB_m3 ?_
          obtain ⟨h1, h2⟩ := z_prE h
          exact hret _ _ _ _ h1 h2 rfl dX10_pauses_50
      · have h := z_ifT c10 h
        refine z_iconst hB dX10_pauses_35 zcI_m1 ?_
        obtain ⟨h1, h2⟩ := z_prE h
        exact hret _ _ _ _ h1 h2 rfl dX10_pauses_36
def f_X10_pause (p1 : Int32) (p2 : Int32) (p3 : Int32) (σ : z_S) : Option (Int32 × z_S) :=
  z_b1 (f_X10_notes σ) fun σ2 =>
  z_b2 (f_X10_pauses p1 p2 p3 σ2) fun r5 σ4 =>
  z_b2 (f_X10_ends r5 σ4) fun r8 σ7 =>
  some (r8, σ7)
set_option maxRecDepth 100000 in
set_option maxHeartbeats 4000000 in
theorem c_X10_pause (p1 : Int32) (p2 : Int32) (p3 : Int32) (σ : z_S) (r : Int32) (σz : z_S) (h : f_X10_pause p1 p2 p3 σ = some (r, σz)) : zMet yX10_pause cX10_pause 4 (some .int) 3 67 layM 10 (fun ad => [.ref (ad 0), .int p1, .int p2, .int p3]) σ (z_QI layM 10 r σz) := by
  refine z_headI RX10 (by decide) rfl (fun _ => Nat.le_of_ble_eq_true rfl) (fun E G A ad hB hret => ?_)
  show ZW E G A 4 layM 10 ad 0 [(0, .ref (ad 0)), (1, .int p1), (2, .int p2), (3, .int p3)] [] σ
  unfold f_X10_pause at h
  refine z_aload_n hB 0 dX10_pause_0 rfl rfl ?_
  obtain ⟨σ2, h1, h⟩ := z_b1E h
  refine z_cV hB (z_rV (ι := fun k => k) hB yY_X10_notes (c_X10_notes _ _ h1) rfl cut_M z_hid kM_0 (Nat.le_of_ble_eq_true rfl) vc_10 rfl rfl rfl (Nat.le_of_ble_eq_true rfl) ml_X10_64 ⟨Nat.le_of_ble_eq_true rfl, Nat.le_of_ble_eq_true rfl⟩ dX10_pause_1) cut_M z_hid ?_
  refine z_toA z_mid ?_
  refine z_aload_n hB 0 dX10_pause_4 rfl rfl ?_
  refine z_aload_n hB 0 dX10_pause_5 rfl rfl ?_
  refine z_iload_n hB 1 dX10_pause_6 rfl rfl ?_
  refine z_iload_n hB 2 dX10_pause_7 rfl rfl ?_
  refine z_iload_n hB 3 dX10_pause_8 rfl rfl ?_
  obtain ⟨r5, σ4, h3, h⟩ := z_b2E h
  refine z_cI hB (z_rV (ι := fun k => k) hB yY_X10_pauses (c_X10_pauses _ _ _ _ _ _ h3) rfl cut_M z_hid kM_0 (Nat.le_of_ble_eq_true rfl) vc_10 rfl rfl rfl (Nat.le_of_ble_eq_true rfl) ml_X10_78 ⟨Nat.le_of_ble_eq_true rfl, Nat.le_of_ble_eq_true rfl⟩ dX10_pause_9) cut_M z_hid ?_
  refine z_toA z_mid ?_
  obtain ⟨r8, σ7, h6, h⟩ := z_b2E h
  refine z_cI hB (z_rV (ι := fun k => k) hB yY_X10_ends (c_X10_ends _ _ _ _ h6) rfl cut_M z_hid kM_0 (Nat.le_of_ble_eq_true rfl) vc_10 rfl rfl rfl (Nat.le_of_ble_eq_true rfl) ml_X10_67 ⟨Nat.le_of_ble_eq_true rfl, Nat.le_of_ble_eq_true rfl⟩ dX10_pause_12) cut_M z_hid ?_
  refine z_toA z_mid ?_
  obtain ⟨h1, h2⟩ := z_prE h
  exact hret _ _ _ _ h1 h2 rfl dX10_pause_15
def f_X10_carrier (p1 : Int32) (p2 : Int32) (σ : z_S) : Option (Int32 × z_S) :=
  z_b1 (f_X10_in p1 (0 : Int32) (1 : Int32) σ) fun r2 =>
  if r2 = (0 : Int32) then
  (some ((-1 : Int32), σ))
  else
  (z_b1 (f_X10_in p2 (10 : Int32) (500 : Int32) σ) fun r5 =>
  if r5 = (0 : Int32) then
  (some ((-1 : Int32), σ))
  else
  (z_cki (2 : Int32) 537 <|
  if (σ 1 (2 : Int32).toNatClampNeg) = (3 : Int32) then
  (some ((-3 : Int32), σ))
  else
  (z_b1 (f_X10_notes σ) fun σ10 =>
  z_cki (2 : Int32) 537 <|
  z_b1 (f_X10_addsCarrier (σ10 1 (2 : Int32).toNatClampNeg) (0 : Int32) p1 σ10) fun σ13 =>
  z_cki (2 : Int32) 537 <|
  z_b1 (f_X10_addsCarrier (σ13 1 (2 : Int32).toNatClampNeg) (1 : Int32) p2 σ13) fun σ16 =>
  z_cki (2 : Int32) 537 <|
  z_cki (2 : Int32) 537 <|
  z_let (z_u σ16 1 (2 : Int32).toNatClampNeg ((σ16 1 (2 : Int32).toNatClampNeg) + (1 : Int32))) fun σ19 =>
  z_cki (2 : Int32) 537 <|
  z_b2 (f_X10_ends ((σ19 1 (2 : Int32).toNatClampNeg) - (1 : Int32)) σ19) fun r23 σ22 =>
  some (r23, σ22))))
set_option maxRecDepth 100000 in
set_option maxHeartbeats 4000000 in
theorem c_X10_carrier (p1 : Int32) (p2 : Int32) (σ : z_S) (r : Int32) (σz : z_S) (h : f_X10_carrier p1 p2 σ = some (r, σz)) : zMet yX10_carrier cX10_carrier 3 (some .int) 2 46 layM 10 (fun ad => [.ref (ad 0), .int p1, .int p2]) σ (z_QI layM 10 r σz) := by
  refine z_headI RX10 (by decide) rfl (fun _ => Nat.le_of_ble_eq_true rfl) (fun E G A ad hB hret => ?_)
  show ZW E G A 3 layM 10 ad 0 [(0, .ref (ad 0)), (1, .int p1), (2, .int p2)] [] σ
  unfold f_X10_carrier at h
  refine z_iload_n hB 1 dX10_carrier_0 rfl rfl ?_
  refine z_iconst hB dX10_carrier_1 zcI_0 ?_
  refine z_iconst hB dX10_carrier_2 zcI_1 ?_
  obtain ⟨r2, h1, h⟩ := z_b1E h
  refine z_cI hB (z_rS (ι := fun k => k) hB yY_X10_in (c_X10_in _ _ _ _ _ h1) rfl z_cut0 z_hno rfl rfl rfl (Nat.le_of_ble_eq_true rfl) ml_X10_45 ⟨Nat.le_of_ble_eq_true rfl, Nat.le_of_ble_eq_true rfl⟩ dX10_carrier_3) z_cut0 z_hno ?_
  refine z_toA (z_mro (lay := layM) (lay' := z_lay0) (b := false) z_cut0) ?_
  refine z_if_eq hB (tgt := 21) dX10_carrier_6 (by decide) (fun c3 => ?_) (fun c3 => ?_)
  · have h := z_ifT c3 h
    refine z_iconst hB dX10_carrier_21 zcI_m1 ?_
    obtain ⟨h1, h2⟩ := z_prE h
    exact hret _ _ _ _ h1 h2 rfl dX10_carrier_22
  · have h := z_ifF c3 h
    refine z_iload_n hB 2 dX10_carrier_9 rfl rfl ?_
    refine z_bipush hB dX10_carrier_10 zcB_10 ?_
    refine z_sipush hB dX10_carrier_12 zcS_500 ?_
    obtain ⟨r5, h4, h⟩ := z_b1E h
    refine z_cI hB (z_rS (ι := fun k => k) hB yY_X10_in (c_X10_in _ _ _ _ _ h4) rfl z_cut0 z_hno rfl rfl rfl (Nat.le_of_ble_eq_true rfl) ml_X10_45 ⟨Nat.le_of_ble_eq_true rfl, Nat.le_of_ble_eq_true rfl⟩ dX10_carrier_15) z_cut0 z_hno ?_
    refine z_toA (z_mro (lay := layM) (lay' := z_lay0) (b := false) z_cut0) ?_
    refine z_if_ne hB (tgt := 23) dX10_carrier_18 (by decide) (fun c6 => ?_) (fun c6 => ?_)
    · have h := z_ifF c6 h
      refine z_aload_n hB 0 dX10_carrier_23 rfl rfl ?_
      refine z_getr hB 0 0 1 kM_0 (Nat.le_of_ble_eq_true rfl) vc_10 inlX10 (Nat.le_of_ble_eq_true rfl) rfl (Nat.le_of_ble_eq_true rfl) fl_X10_7 dX10_carrier_24 ?_
      refine z_iconst hB dX10_carrier_27 zcI_2 ?_
      obtain ⟨h7, h⟩ := z_ckiE h
      refine z_iald hB 1 537 kM_1 (Nat.le_of_ble_eq_true rfl) dX10_carrier_28 h7 ?_
      refine z_iconst hB dX10_carrier_29 zcI_3 ?_
      refine z_icmp_ne hB (tgt := 36) dX10_carrier_30 (by decide) (fun c8 => ?_) (fun c8 => ?_)
      · have h := z_ifF c8 h
        refine z_aload_n hB 0 dX10_carrier_36 rfl rfl ?_
        obtain ⟨σ10, h9, h⟩ := z_b1E h
        refine z_cV hB (z_rV (ι := fun k => k) hB yY_X10_notes (c_X10_notes _ _ h9) rfl cut_M z_hid kM_0 (Nat.le_of_ble_eq_true rfl) vc_10 rfl rfl rfl (Nat.le_of_ble_eq_true rfl) ml_X10_64 ⟨Nat.le_of_ble_eq_true rfl, Nat.le_of_ble_eq_true rfl⟩ dX10_carrier_37) cut_M z_hid ?_
        refine z_toA z_mid ?_
        refine z_aload_n hB 0 dX10_carrier_40 rfl rfl ?_
        refine z_aload_n hB 0 dX10_carrier_41 rfl rfl ?_
        refine z_getr hB 0 0 1 kM_0 (Nat.le_of_ble_eq_true rfl) vc_10 inlX10 (Nat.le_of_ble_eq_true rfl) rfl (Nat.le_of_ble_eq_true rfl) fl_X10_7 dX10_carrier_42 ?_
        refine z_iconst hB dX10_carrier_45 zcI_2 ?_
        obtain ⟨h11, h⟩ := z_ckiE h
        refine z_iald hB 1 537 kM_1 (Nat.le_of_ble_eq_true rfl) dX10_carrier_46 h11 ?_
        refine z_iconst hB dX10_carrier_47 zcI_0 ?_
        refine z_iload_n hB 1 dX10_carrier_48 rfl rfl ?_
        obtain ⟨σ13, h12, h⟩ := z_b1E h
        refine z_cV hB (z_rV (ι := fun k => k) hB yY_X10_addsCarrier (c_X10_addsCarrier _ _ _ _ _ h12) rfl cut_M z_hid kM_0 (Nat.le_of_ble_eq_true rfl) vc_10 rfl rfl rfl (Nat.le_of_ble_eq_true rfl) ml_X10_82 ⟨Nat.le_of_ble_eq_true rfl, Nat.le_of_ble_eq_true rfl⟩ dX10_carrier_49) cut_M z_hid ?_
        refine z_toA z_mid ?_
        refine z_aload_n hB 0 dX10_carrier_52 rfl rfl ?_
        refine z_aload_n hB 0 dX10_carrier_53 rfl rfl ?_
        refine z_getr hB 0 0 1 kM_0 (Nat.le_of_ble_eq_true rfl) vc_10 inlX10 (Nat.le_of_ble_eq_true rfl) rfl (Nat.le_of_ble_eq_true rfl) fl_X10_7 dX10_carrier_54 ?_
        refine z_iconst hB dX10_carrier_57 zcI_2 ?_
        obtain ⟨h14, h⟩ := z_ckiE h
        refine z_iald hB 1 537 kM_1 (Nat.le_of_ble_eq_true rfl) dX10_carrier_58 h14 ?_
        refine z_iconst hB dX10_carrier_59 zcI_1 ?_
        refine z_iload_n hB 2 dX10_carrier_60 rfl rfl ?_
        obtain ⟨σ16, h15, h⟩ := z_b1E h
        refine z_cV hB (z_rV (ι := fun k => k) hB yY_X10_addsCarrier (c_X10_addsCarrier _ _ _ _ _ h15) rfl cut_M z_hid kM_0 (Nat.le_of_ble_eq_true rfl) vc_10 rfl rfl rfl (Nat.le_of_ble_eq_true rfl) ml_X10_82 ⟨Nat.le_of_ble_eq_true rfl, Nat.le_of_ble_eq_true rfl⟩ dX10_carrier_61) cut_M z_hid ?_
        refine z_toA z_mid ?_
        refine z_aload_n hB 0 dX10_carrier_64 rfl rfl ?_
        refine z_getr hB 0 0 1 kM_0 (Nat.le_of_ble_eq_true rfl) vc_10 inlX10 (Nat.le_of_ble_eq_true rfl) rfl (Nat.le_of_ble_eq_true rfl) fl_X10_7 dX10_carrier_65 ?_
        refine z_iconst hB dX10_carrier_68 zcI_2 ?_
        refine z_dup2 hB dX10_carrier_69 rfl rfl ?_
        obtain ⟨h17, h⟩ := z_ckiE h
        refine z_iald hB 1 537 kM_1 (Nat.le_of_ble_eq_true rfl) dX10_carrier_70 h17 ?_
        refine z_iconst hB dX10_carrier_71 zcI_1 ?_
        refine z_iadd hB dX10_carrier_72 ?_
        obtain ⟨h18, h⟩ := z_ckiE h
        obtain ⟨σ19, eσ19, h⟩ := z_letE h
        refine z_iast hB 1 537 kM_1 (Nat.le_of_ble_eq_true rfl) dX10_carrier_73 h18 ?_
        refine z_to eσ19 ?_
        refine z_aload_n hB 0 dX10_carrier_74 rfl rfl ?_
        refine z_aload_n hB 0 dX10_carrier_75 rfl rfl ?_
        refine z_getr hB 0 0 1 kM_0 (Nat.le_of_ble_eq_true rfl) vc_10 inlX10 (Nat.le_of_ble_eq_true rfl) rfl (Nat.le_of_ble_eq_true rfl) fl_X10_7 dX10_carrier_76 ?_
        refine z_iconst hB dX10_carrier_79 zcI_2 ?_
        obtain ⟨h20, h⟩ := z_ckiE h
        refine z_iald hB 1 537 kM_1 (Nat.le_of_ble_eq_true rfl) dX10_carrier_80 h20 ?_
        refine z_iconst hB dX10_carrier_81 zcI_1 ?_
        refine z_isub hB dX10_carrier_82 ?_
        obtain ⟨r23, σ22, h21, h⟩ := z_b2E h
        refine z_cI hB (z_rV (ι := fun k => k) hB yY_X10_ends (c_X10_ends _ _ _ _ h21) rfl cut_M z_hid kM_0 (Nat.le_of_ble_eq_true rfl) vc_10 rfl rfl rfl (Nat.le_of_ble_eq_true rfl) ml_X10_67 ⟨Nat.le_of_ble_eq_true rfl, Nat.le_of_ble_eq_true rfl⟩ dX10_carrier_83) cut_M z_hid ?_
        refine z_toA z_mid ?_
        obtain ⟨h1, h2⟩ := z_prE h
        exact hret _ _ _ _ h1 h2 rfl dX10_carrier_86
      · have h := z_ifT c8 h
        refine z_bipush hB dX10_carrier_33 zcB_m3 ?_
        obtain ⟨h1, h2⟩ := z_prE h
        exact hret _ _ _ _ h1 h2 rfl dX10_carrier_35
    · have h := z_ifT c6 h
      refine z_iconst hB dX10_carrier_21 zcI_m1 ?_
      obtain ⟨h1, h2⟩ := z_prE h
      exact hret _ _ _ _ h1 h2 rfl dX10_carrier_22
def lb_X10_housesOf_4 (p1 : Int32) (σ : z_S) (k1 : Int32 → Int32 → Option Int32) (x2 : Int32) (x3 : Int32) : Option Int32 :=
  z_cki (1 : Int32) 537 <|
  if (σ 1 (1 : Int32).toNatClampNeg) ≤ x3 then
  (some (x2))
  else
  (z_b1 (f_X10_of x3 (3 : Int32) σ) fun r7 =>
  z_let (fun (y8 : Int32) => z_let (x2 + y8) fun x10 =>
  z_let (x3 + (1 : Int32)) fun x11 =>
  k1 x10 x11) fun j9 =>
  if r7 = p1 then
  (j9 (1 : Int32))
  else
  (j9 (0 : Int32)))
def f_X10_housesOf (p1 : Int32) (σ : z_S) : Option Int32 :=
  z_lp2 (lb_X10_housesOf_4 p1 σ) z_Fu (0 : Int32) (0 : Int32)
set_option maxRecDepth 100000 in
set_option maxHeartbeats 4000000 in
theorem c_X10_housesOf (p1 : Int32) (σ : z_S) (r : Int32) (h : f_X10_housesOf p1 σ = some r) : zMet yX10_housesOf cX10_housesOf 4 (some .int) 1 22 layM 10 (fun ad => [.ref (ad 0), .int p1]) σ (z_QI layM 10 r σ) := by
  refine z_headI RX10 (by decide) rfl (fun _ => Nat.le_of_ble_eq_true rfl) (fun E G A ad hB hret => ?_)
  show ZW E G A 4 layM 10 ad 0 [(0, .ref (ad 0)), (1, .int p1)] [] σ
  unfold f_X10_housesOf at h
  refine z_iconst hB dX10_housesOf_0 zcI_0 ?_
  refine z_istore_n hB [(2, .int ((0 : Int32))), (0, .ref (ad 0)), (1, .int p1)] dX10_housesOf_1 rfl (Nat.le_of_ble_eq_true rfl) rfl rfl ?_
  refine z_iconst hB dX10_housesOf_2 zcI_0 ?_
  refine z_istore_n hB [(3, .int ((0 : Int32))), (2, .int ((0 : Int32))), (0, .ref (ad 0)), (1, .int p1)] dX10_housesOf_3 rfl (Nat.le_of_ble_eq_true rfl) rfl rfl ?_
  refine z_lv [2, 3, 1, 0] rfl ?_
  refine z_lpr2 (g := fun x2 x3 => ZW E G A 4 layM 10 ad 4 [(0, .ref (ad 0)), (1, .int p1), (2, .int x2), (3, .int x3)] [] σ) (fun k1 x2 x3 hk_k1 h => ?_) _ _ _ h
  show ZW E G A 4 layM 10 ad 4 [(0, .ref (ad 0)), (1, .int p1), (2, .int x2), (3, .int x3)] [] σ
  unfold lb_X10_housesOf_4 at h
  refine z_iload_n hB 3 dX10_housesOf_4 rfl rfl ?_
  refine z_aload_n hB 0 dX10_housesOf_5 rfl rfl ?_
  refine z_getr hB 0 0 1 kM_0 (Nat.le_of_ble_eq_true rfl) vc_10 inlX10 (Nat.le_of_ble_eq_true rfl) rfl (Nat.le_of_ble_eq_true rfl) fl_X10_7 dX10_housesOf_6 ?_
  refine z_iconst hB dX10_housesOf_9 zcI_1 ?_
  obtain ⟨h4, h⟩ := z_ckiE h
  refine z_iald hB 1 537 kM_1 (Nat.le_of_ble_eq_true rfl) dX10_housesOf_10 h4 ?_
  refine z_icmp_ge hB (tgt := 38) dX10_housesOf_11 (by decide) (fun c5 => ?_) (fun c5 => ?_)
  · have h := z_ifT c5 h
    refine z_iload_n hB 2 dX10_housesOf_38 rfl rfl ?_
    exact hret _ _ _ _ (Option.some.inj h) rfl rfl dX10_housesOf_39
  · have h := z_ifF c5 h
    refine z_iload_n hB 2 dX10_housesOf_14 rfl rfl ?_
    refine z_aload_n hB 0 dX10_housesOf_15 rfl rfl ?_
    refine z_iload_n hB 3 dX10_housesOf_16 rfl rfl ?_
    refine z_iconst hB dX10_housesOf_17 zcI_3 ?_
    obtain ⟨r7, h6, h⟩ := z_b1E h
    refine z_cI hB (z_rV (ι := fun k => k) hB yY_X10_of (c_X10_of _ _ _ _ h6) rfl cut_M z_hid kM_0 (Nat.le_of_ble_eq_true rfl) vc_10 rfl rfl rfl (Nat.le_of_ble_eq_true rfl) ml_X10_57 ⟨Nat.le_of_ble_eq_true rfl, Nat.le_of_ble_eq_true rfl⟩ dX10_housesOf_18) cut_M z_hid ?_
    refine z_toA (z_mro cut_M) ?_
    refine z_iload_n hB 1 dX10_housesOf_21 rfl rfl ?_
    obtain ⟨j9, ej9, h⟩ := z_letE h
    have hj9 : ∀ (y8 : Int32), j9 y8 = some r → ZW E G A 4 layM 10 ad 30 [(0, .ref (ad 0)), (1, .int p1), (3, .int x3)] [.int y8, .int x2] σ := by
      intro y8 h
      rw [ej9] at h
      refine z_iadd hB dX10_housesOf_30 ?_
      obtain ⟨x10, ex10, h⟩ := z_letE h
      refine z_istore_n hB [(2, .int x10), (0, .ref (ad 0)), (1, .int p1), (3, .int x3)] dX10_housesOf_31 rfl (Nat.le_of_ble_eq_true rfl) ex10 rfl ?_
      obtain ⟨x11, ex11, h⟩ := z_letE h
      refine z_iinc hB 3 [(3, .int x11), (2, .int x10), (0, .ref (ad 0)), (1, .int p1)] dX10_housesOf_32 rfl (by rw [zcI_1]; exact ex11) (Nat.le_of_ble_eq_true rfl) rfl ?_
      refine z_goto hB (tgt := 4) dX10_housesOf_35 (by decide) ?_
      refine z_lv [2, 3, 1, 0] rfl ?_
      exact hk_k1 _ _ h
    refine z_icmp_ne hB (tgt := 29) dX10_housesOf_22 (by decide) (fun c12 => ?_) (fun c12 => ?_)
    · have h := z_ifF c12 h
      refine z_iconst hB dX10_housesOf_29 zcI_0 ?_
      refine z_lv [0, 1, 3] rfl ?_
      exact hj9 _ h
    · have h := z_ifT c12 h
      refine z_iconst hB dX10_housesOf_25 zcI_1 ?_
      refine z_goto hB (tgt := 30) dX10_housesOf_26 (by decide) ?_
      refine z_lv [0, 1, 3] rfl ?_
      exact hj9 _ h
def f_X10_canReach (p1 : Int32) (p2 : Int32) (σ : z_S) : Option Int32 :=
  z_b1 (f_X10_ofCarrier p1 (0 : Int32) σ) fun r2 =>
  if r2 = (0 : Int32) then
  (some ((1 : Int32)))
  else
  (z_b1 (f_X10_of p2 (0 : Int32) σ) fun r5 =>
  z_b1 (f_X10_cartsCome r5 σ) fun r7 =>
  if r7 = (0 : Int32) then
  (some ((0 : Int32)))
  else
  (some ((1 : Int32))))
set_option maxRecDepth 100000 in
set_option maxHeartbeats 4000000 in
theorem c_X10_canReach (p1 : Int32) (p2 : Int32) (σ : z_S) (r : Int32) (h : f_X10_canReach p1 p2 σ = some r) : zMet yX10_canReach cX10_canReach 3 (some .boolean) 2 45 layM 10 (fun ad => [.ref (ad 0), .int p1, .int p2]) σ (z_QI layM 10 r σ) := by
  refine z_headI RX10 (by decide) rfl (fun _ => Nat.le_of_ble_eq_true rfl) (fun E G A ad hB hret => ?_)
  show ZW E G A 3 layM 10 ad 0 [(0, .ref (ad 0)), (1, .int p1), (2, .int p2)] [] σ
  unfold f_X10_canReach at h
  refine z_aload_n hB 0 dX10_canReach_0 rfl rfl ?_
  refine z_iload_n hB 1 dX10_canReach_1 rfl rfl ?_
  refine z_iconst hB dX10_canReach_2 zcI_0 ?_
  obtain ⟨r2, h1, h⟩ := z_b1E h
  refine z_cI hB (z_rV (ι := fun k => k) hB yY_X10_ofCarrier (c_X10_ofCarrier _ _ _ _ h1) rfl cut_M z_hid kM_0 (Nat.le_of_ble_eq_true rfl) vc_10 rfl rfl rfl (Nat.le_of_ble_eq_true rfl) ml_X10_85 ⟨Nat.le_of_ble_eq_true rfl, Nat.le_of_ble_eq_true rfl⟩ dX10_canReach_3) cut_M z_hid ?_
  refine z_toA (z_mro cut_M) ?_
  refine z_if_eq hB (tgt := 22) dX10_canReach_6 (by decide) (fun c3 => ?_) (fun c3 => ?_)
  · have h := z_ifT c3 h
    refine z_iconst hB dX10_canReach_22 zcI_1 ?_
    refine z_goto hB (tgt := 27) dX10_canReach_23 (by decide) ?_
    exact hret _ _ _ _ (Option.some.inj h) rfl rfl dX10_canReach_27
  · have h := z_ifF c3 h
    refine z_aload_n hB 0 dX10_canReach_9 rfl rfl ?_
    refine z_aload_n hB 0 dX10_canReach_10 rfl rfl ?_
    refine z_iload_n hB 2 dX10_canReach_11 rfl rfl ?_
    refine z_iconst hB dX10_canReach_12 zcI_0 ?_
    obtain ⟨r5, h4, h⟩ := z_b1E h
    refine z_cI hB (z_rV (ι := fun k => k) hB yY_X10_of (c_X10_of _ _ _ _ h4) rfl cut_M z_hid kM_0 (Nat.le_of_ble_eq_true rfl) vc_10 rfl rfl rfl (Nat.le_of_ble_eq_true rfl) ml_X10_57 ⟨Nat.le_of_ble_eq_true rfl, Nat.le_of_ble_eq_true rfl⟩ dX10_canReach_13) cut_M z_hid ?_
    refine z_toA (z_mro cut_M) ?_
    obtain ⟨r7, h6, h⟩ := z_b1E h
    refine z_cI hB (z_rV (ι := fun k => k) hB yY_X10_cartsCome (c_X10_cartsCome _ _ _ h6) rfl cut_M z_hid kM_0 (Nat.le_of_ble_eq_true rfl) vc_10 rfl rfl rfl (Nat.le_of_ble_eq_true rfl) ml_X10_88 ⟨Nat.le_of_ble_eq_true rfl, Nat.le_of_ble_eq_true rfl⟩ dX10_canReach_16) cut_M z_hid ?_
    refine z_toA (z_mro cut_M) ?_
    refine z_if_eq hB (tgt := 26) dX10_canReach_19 (by decide) (fun c8 => ?_) (fun c8 => ?_)
    · have h := z_ifT c8 h
      refine z_iconst hB dX10_canReach_26 zcI_0 ?_
      exact hret _ _ _ _ (Option.some.inj h) rfl rfl dX10_canReach_27
    · have h := z_ifF c8 h
      refine z_iconst hB dX10_canReach_22 zcI_1 ?_
      refine z_goto hB (tgt := 27) dX10_canReach_23 (by decide) ?_
      exact hret _ _ _ _ (Option.some.inj h) rfl rfl dX10_canReach_27
def f_X10_gives (p1 : Int32) (p2 : Int32) (σ : z_S) : Option (Int32 × z_S) :=
  z_b1 (f_X10_isHouse p1 σ) fun r2 =>
  if r2 = (0 : Int32) then
  (some ((-1 : Int32), σ))
  else
  (z_b1 (f_X10_isCarrier p2 σ) fun r5 =>
  if r5 = (0 : Int32) then
  (some ((-1 : Int32), σ))
  else
  (z_b1 (f_X10_of p1 (3 : Int32) σ) fun r8 =>
  if r8 = p2 then
  (some ((-2 : Int32), σ))
  else
  (z_b1 (f_X10_canReach p2 p1 σ) fun r11 =>
  if r11 = (0 : Int32) then
  (some ((-2 : Int32), σ))
  else
  (z_b1 (f_X10_lays p1 (3 : Int32) p2 σ) fun σ14 =>
  z_b1 (f_X10_housesOf p2 σ14) fun r16 =>
  some (r16, σ14)))))
set_option maxRecDepth 100000 in
set_option maxHeartbeats 4000000 in
theorem c_X10_gives (p1 : Int32) (p2 : Int32) (σ : z_S) (r : Int32) (σz : z_S) (h : f_X10_gives p1 p2 σ = some (r, σz)) : zMet yX10_gives cX10_gives 3 (some .int) 3 67 layM 10 (fun ad => [.ref (ad 0), .int p1, .int p2]) σ (z_QI layM 10 r σz) := by
  refine z_headI RX10 (by decide) rfl (fun _ => Nat.le_of_ble_eq_true rfl) (fun E G A ad hB hret => ?_)
  show ZW E G A 3 layM 10 ad 0 [(0, .ref (ad 0)), (1, .int p1), (2, .int p2)] [] σ
  unfold f_X10_gives at h
  refine z_aload_n hB 0 dX10_gives_0 rfl rfl ?_
  refine z_iload_n hB 1 dX10_gives_1 rfl rfl ?_
  obtain ⟨r2, h1, h⟩ := z_b1E h
  refine z_cI hB (z_rV (ι := fun k => k) hB yY_X10_isHouse (c_X10_isHouse _ _ _ h1) rfl cut_M z_hid kM_0 (Nat.le_of_ble_eq_true rfl) vc_10 rfl rfl rfl (Nat.le_of_ble_eq_true rfl) ml_X10_75 ⟨Nat.le_of_ble_eq_true rfl, Nat.le_of_ble_eq_true rfl⟩ dX10_gives_2) cut_M z_hid ?_
  refine z_toA (z_mro cut_M) ?_
  refine z_if_eq hB (tgt := 16) dX10_gives_5 (by decide) (fun c3 => ?_) (fun c3 => ?_)
  · have h := z_ifT c3 h
    refine z_iconst hB dX10_gives_16 zcI_m1 ?_
    obtain ⟨h1, h2⟩ := z_prE h
    exact hret _ _ _ _ h1 h2 rfl dX10_gives_17
  · have h := z_ifF c3 h
    refine z_aload_n hB 0 dX10_gives_8 rfl rfl ?_
    refine z_iload_n hB 2 dX10_gives_9 rfl rfl ?_
    obtain ⟨r5, h4, h⟩ := z_b1E h
    refine z_cI hB (z_rV (ι := fun k => k) hB yY_X10_isCarrier (c_X10_isCarrier _ _ _ h4) rfl cut_M z_hid kM_0 (Nat.le_of_ble_eq_true rfl) vc_10 rfl rfl rfl (Nat.le_of_ble_eq_true rfl) ml_X10_91 ⟨Nat.le_of_ble_eq_true rfl, Nat.le_of_ble_eq_true rfl⟩ dX10_gives_10) cut_M z_hid ?_
    refine z_toA (z_mro cut_M) ?_
    refine z_if_ne hB (tgt := 18) dX10_gives_13 (by decide) (fun c6 => ?_) (fun c6 => ?_)
    · have h := z_ifF c6 h
      refine z_aload_n hB 0 dX10_gives_18 rfl rfl ?_
      refine z_iload_n hB 1 dX10_gives_19 rfl rfl ?_
      refine z_iconst hB dX10_gives_20 zcI_3 ?_
      obtain ⟨r8, h7, h⟩ := z_b1E h
      refine z_cI hB (z_rV (ι := fun k => k) hB yY_X10_of (c_X10_of _ _ _ _ h7) rfl cut_M z_hid kM_0 (Nat.le_of_ble_eq_true rfl) vc_10 rfl rfl rfl (Nat.le_of_ble_eq_true rfl) ml_X10_57 ⟨Nat.le_of_ble_eq_true rfl, Nat.le_of_ble_eq_true rfl⟩ dX10_gives_21) cut_M z_hid ?_
      refine z_toA (z_mro cut_M) ?_
      refine z_iload_n hB 2 dX10_gives_24 rfl rfl ?_
      refine z_icmp_eq hB (tgt := 37) dX10_gives_25 (by decide) (fun c9 => ?_) (fun c9 => ?_)
      · have h := z_ifT c9 h
        refine z_bipush hB dX10_gives_37 zcB_m2 ?_
        obtain ⟨h1, h2⟩ := z_prE h
        exact hret _ _ _ _ h1 h2 rfl dX10_gives_39
      · have h := z_ifF c9 h
        refine z_aload_n hB 0 dX10_gives_28 rfl rfl ?_
        refine z_iload_n hB 2 dX10_gives_29 rfl rfl ?_
        refine z_iload_n hB 1 dX10_gives_30 rfl rfl ?_
        obtain ⟨r11, h10, h⟩ := z_b1E h
        refine z_cI hB (z_rV (ι := fun k => k) hB yY_X10_canReach (c_X10_canReach _ _ _ _ h10) rfl cut_M z_hid kM_0 (Nat.le_of_ble_eq_true rfl) vc_10 rfl rfl rfl (Nat.le_of_ble_eq_true rfl) ml_X10_94 ⟨Nat.le_of_ble_eq_true rfl, Nat.le_of_ble_eq_true rfl⟩ dX10_gives_31) cut_M z_hid ?_
        refine z_toA (z_mro cut_M) ?_
        refine z_if_ne hB (tgt := 40) dX10_gives_34 (by decide) (fun c12 => ?_) (fun c12 => ?_)
        · have h := z_ifF c12 h
          refine z_aload_n hB 0 dX10_gives_40 rfl rfl ?_
          refine z_iload_n hB 1 dX10_gives_41 rfl rfl ?_
          refine z_iconst hB dX10_gives_42 zcI_3 ?_
          refine z_iload_n hB 2 dX10_gives_43 rfl rfl ?_
          obtain ⟨σ14, h13, h⟩ := z_b1E h
          refine z_cV hB (z_rV (ι := fun k => k) hB yY_X10_lays (c_X10_lays _ _ _ _ _ h13) rfl cut_M z_hid kM_0 (Nat.le_of_ble_eq_true rfl) vc_10 rfl rfl rfl (Nat.le_of_ble_eq_true rfl) ml_X10_71 ⟨Nat.le_of_ble_eq_true rfl, Nat.le_of_ble_eq_true rfl⟩ dX10_gives_44) cut_M z_hid ?_
          refine z_toA z_mid ?_
          refine z_aload_n hB 0 dX10_gives_47 rfl rfl ?_
          refine z_iload_n hB 2 dX10_gives_48 rfl rfl ?_
          obtain ⟨r16, h15, h⟩ := z_b1E h
          refine z_cI hB (z_rV (ι := fun k => k) hB yY_X10_housesOf (c_X10_housesOf _ _ _ h15) rfl cut_M z_hid kM_0 (Nat.le_of_ble_eq_true rfl) vc_10 rfl rfl rfl (Nat.le_of_ble_eq_true rfl) ml_X10_97 ⟨Nat.le_of_ble_eq_true rfl, Nat.le_of_ble_eq_true rfl⟩ dX10_gives_49) cut_M z_hid ?_
          refine z_toA (z_mro cut_M) ?_
          obtain ⟨h1, h2⟩ := z_prE h
          exact hret _ _ _ _ h1 h2 rfl dX10_gives_52
        · have h := z_ifT c12 h
          refine z_bipush hB dX10_gives_37 zcB_m2 ?_
          obtain ⟨h1, h2⟩ := z_prE h
          exact hret _ _ _ _ h1 h2 rfl dX10_gives_39
    · have h := z_ifT c6 h
      refine z_iconst hB dX10_gives_16 zcI_m1 ?_
      obtain ⟨h1, h2⟩ := z_prE h
      exact hret _ _ _ _ h1 h2 rfl dX10_gives_17
def f_X10_give (p1 : Int32) (p2 : Int32) (σ : z_S) : Option (Int32 × z_S) :=
  z_b1 (f_X10_notes σ) fun σ2 =>
  z_b2 (f_X10_gives p1 p2 σ2) fun r5 σ4 =>
  z_b2 (f_X10_ends r5 σ4) fun r8 σ7 =>
  some (r8, σ7)
set_option maxRecDepth 100000 in
set_option maxHeartbeats 4000000 in
theorem c_X10_give (p1 : Int32) (p2 : Int32) (σ : z_S) (r : Int32) (σz : z_S) (h : f_X10_give p1 p2 σ = some (r, σz)) : zMet yX10_give cX10_give 3 (some .int) 4 89 layM 10 (fun ad => [.ref (ad 0), .int p1, .int p2]) σ (z_QI layM 10 r σz) := by
  refine z_headI RX10 (by decide) rfl (fun _ => Nat.le_of_ble_eq_true rfl) (fun E G A ad hB hret => ?_)
  show ZW E G A 3 layM 10 ad 0 [(0, .ref (ad 0)), (1, .int p1), (2, .int p2)] [] σ
  unfold f_X10_give at h
  refine z_aload_n hB 0 dX10_give_0 rfl rfl ?_
  obtain ⟨σ2, h1, h⟩ := z_b1E h
  refine z_cV hB (z_rV (ι := fun k => k) hB yY_X10_notes (c_X10_notes _ _ h1) rfl cut_M z_hid kM_0 (Nat.le_of_ble_eq_true rfl) vc_10 rfl rfl rfl (Nat.le_of_ble_eq_true rfl) ml_X10_64 ⟨Nat.le_of_ble_eq_true rfl, Nat.le_of_ble_eq_true rfl⟩ dX10_give_1) cut_M z_hid ?_
  refine z_toA z_mid ?_
  refine z_aload_n hB 0 dX10_give_4 rfl rfl ?_
  refine z_aload_n hB 0 dX10_give_5 rfl rfl ?_
  refine z_iload_n hB 1 dX10_give_6 rfl rfl ?_
  refine z_iload_n hB 2 dX10_give_7 rfl rfl ?_
  obtain ⟨r5, σ4, h3, h⟩ := z_b2E h
  refine z_cI hB (z_rV (ι := fun k => k) hB yY_X10_gives (c_X10_gives _ _ _ _ _ h3) rfl cut_M z_hid kM_0 (Nat.le_of_ble_eq_true rfl) vc_10 rfl rfl rfl (Nat.le_of_ble_eq_true rfl) ml_X10_100 ⟨Nat.le_of_ble_eq_true rfl, Nat.le_of_ble_eq_true rfl⟩ dX10_give_8) cut_M z_hid ?_
  refine z_toA z_mid ?_
  obtain ⟨r8, σ7, h6, h⟩ := z_b2E h
  refine z_cI hB (z_rV (ι := fun k => k) hB yY_X10_ends (c_X10_ends _ _ _ _ h6) rfl cut_M z_hid kM_0 (Nat.le_of_ble_eq_true rfl) vc_10 rfl rfl rfl (Nat.le_of_ble_eq_true rfl) ml_X10_67 ⟨Nat.le_of_ble_eq_true rfl, Nat.le_of_ble_eq_true rfl⟩ dX10_give_11) cut_M z_hid ?_
  refine z_toA z_mid ?_
  obtain ⟨h1, h2⟩ := z_prE h
  exact hret _ _ _ _ h1 h2 rfl dX10_give_14
def f_X10_givesNone (p1 : Int32) (σ : z_S) : Option (Int32 × z_S) :=
  z_b1 (f_X10_isHouse p1 σ) fun r2 =>
  if r2 = (0 : Int32) then
  (some ((-1 : Int32), σ))
  else
  (z_b1 (f_X10_of p1 (3 : Int32) σ) fun r5 =>
  if r5 = (-1 : Int32) then
  (some ((-2 : Int32), σ))
  else
  (z_b1 (f_X10_lays p1 (3 : Int32) (-1 : Int32) σ) fun σ8 =>
  some (r5, σ8)))
set_option maxRecDepth 100000 in
set_option maxHeartbeats 4000000 in
theorem c_X10_givesNone (p1 : Int32) (σ : z_S) (r : Int32) (σz : z_S) (h : f_X10_givesNone p1 σ = some (r, σz)) : zMet yX10_givesNone cX10_givesNone 3 (some .int) 2 43 layM 10 (fun ad => [.ref (ad 0), .int p1]) σ (z_QI layM 10 r σz) := by
  refine z_headI RX10 (by decide) rfl (fun _ => Nat.le_of_ble_eq_true rfl) (fun E G A ad hB hret => ?_)
  show ZW E G A 3 layM 10 ad 0 [(0, .ref (ad 0)), (1, .int p1)] [] σ
  unfold f_X10_givesNone at h
  refine z_aload_n hB 0 dX10_givesNone_0 rfl rfl ?_
  refine z_iload_n hB 1 dX10_givesNone_1 rfl rfl ?_
  obtain ⟨r2, h1, h⟩ := z_b1E h
  refine z_cI hB (z_rV (ι := fun k => k) hB yY_X10_isHouse (c_X10_isHouse _ _ _ h1) rfl cut_M z_hid kM_0 (Nat.le_of_ble_eq_true rfl) vc_10 rfl rfl rfl (Nat.le_of_ble_eq_true rfl) ml_X10_75 ⟨Nat.le_of_ble_eq_true rfl, Nat.le_of_ble_eq_true rfl⟩ dX10_givesNone_2) cut_M z_hid ?_
  refine z_toA (z_mro cut_M) ?_
  refine z_if_ne hB (tgt := 10) dX10_givesNone_5 (by decide) (fun c3 => ?_) (fun c3 => ?_)
  · have h := z_ifF c3 h
    refine z_aload_n hB 0 dX10_givesNone_10 rfl rfl ?_
    refine z_iload_n hB 1 dX10_givesNone_11 rfl rfl ?_
    refine z_iconst hB dX10_givesNone_12 zcI_3 ?_
    obtain ⟨r5, h4, h⟩ := z_b1E h
    refine z_cI hB (z_rV (ι := fun k => k) hB yY_X10_of (c_X10_of _ _ _ _ h4) rfl cut_M z_hid kM_0 (Nat.le_of_ble_eq_true rfl) vc_10 rfl rfl rfl (Nat.le_of_ble_eq_true rfl) ml_X10_57 ⟨Nat.le_of_ble_eq_true rfl, Nat.le_of_ble_eq_true rfl⟩ dX10_givesNone_13) cut_M z_hid ?_
    refine z_toA (z_mro cut_M) ?_
    refine z_istore_n hB [(2, .int r5), (0, .ref (ad 0)), (1, .int p1)] dX10_givesNone_16 rfl (Nat.le_of_ble_eq_true rfl) rfl rfl ?_
    refine z_iload_n hB 0 dX10_givesNone_17 rfl rfl ?_
    refine z_iconst hB dX10_givesNone_18 zcI_m1 ?_
    refine z_icmp_ne hB (tgt := 25) dX10_givesNone_19 (by decide) (fun c6 => ?_) (fun c6 => ?_)
    · have h := z_ifF c6 h
      refine z_aload_n hB 1 dX10_givesNone_25 rfl rfl ?_
      refine z_iload_n hB 2 dX10_givesNone_26 rfl rfl ?_
      refine z_iconst hB dX10_givesNone_27 zcI_3 ?_
      refine z_iconst hB dX10_givesNone_28 zcI_m1 ?_
      obtain ⟨σ8, h7, h⟩ := z_b1E h
      refine z_cV hB (z_rV (ι := fun k => k) hB yY_X10_lays (c_X10_lays _ _ _ _ _ h7) rfl cut_M z_hid kM_0 (Nat.le_of_ble_eq_true rfl) vc_10 rfl rfl rfl (Nat.le_of_ble_eq_true rfl) ml_X10_71 ⟨Nat.le_of_ble_eq_true rfl, Nat.le_of_ble_eq_true rfl⟩ dX10_givesNone_29) cut_M z_hid ?_
      refine z_toA z_mid ?_
      refine z_iload_n hB 0 dX10_givesNone_32 rfl rfl ?_
      obtain ⟨h1, h2⟩ := z_prE h
      exact hret _ _ _ _ h1 h2 rfl dX10_givesNone_33
    · have h := z_ifT c6 h
      refine z_bipush hB dX10_givesNone_22 zcB_m2 ?_
      obtain ⟨h1, h2⟩ := z_prE h
      exact hret _ _ _ _ h1 h2 rfl dX10_givesNone_24
  · have h := z_ifT c3 h
    refine z_iconst hB dX10_givesNone_8 zcI_m1 ?_
    obtain ⟨h1, h2⟩ := z_prE h
    exact hret _ _ _ _ h1 h2 rfl dX10_givesNone_9
def f_X10_giveNone (p1 : Int32) (σ : z_S) : Option (Int32 × z_S) :=
  z_b1 (f_X10_notes σ) fun σ2 =>
  z_b2 (f_X10_givesNone p1 σ2) fun r5 σ4 =>
  z_b2 (f_X10_ends r5 σ4) fun r8 σ7 =>
  some (r8, σ7)
set_option maxRecDepth 100000 in
set_option maxHeartbeats 4000000 in
theorem c_X10_giveNone (p1 : Int32) (σ : z_S) (r : Int32) (σz : z_S) (h : f_X10_giveNone p1 σ = some (r, σz)) : zMet yX10_giveNone cX10_giveNone 2 (some .int) 3 65 layM 10 (fun ad => [.ref (ad 0), .int p1]) σ (z_QI layM 10 r σz) := by
  refine z_headI RX10 (by decide) rfl (fun _ => Nat.le_of_ble_eq_true rfl) (fun E G A ad hB hret => ?_)
  show ZW E G A 2 layM 10 ad 0 [(0, .ref (ad 0)), (1, .int p1)] [] σ
  unfold f_X10_giveNone at h
  refine z_aload_n hB 0 dX10_giveNone_0 rfl rfl ?_
  obtain ⟨σ2, h1, h⟩ := z_b1E h
  refine z_cV hB (z_rV (ι := fun k => k) hB yY_X10_notes (c_X10_notes _ _ h1) rfl cut_M z_hid kM_0 (Nat.le_of_ble_eq_true rfl) vc_10 rfl rfl rfl (Nat.le_of_ble_eq_true rfl) ml_X10_64 ⟨Nat.le_of_ble_eq_true rfl, Nat.le_of_ble_eq_true rfl⟩ dX10_giveNone_1) cut_M z_hid ?_
  refine z_toA z_mid ?_
  refine z_aload_n hB 0 dX10_giveNone_4 rfl rfl ?_
  refine z_aload_n hB 0 dX10_giveNone_5 rfl rfl ?_
  refine z_iload_n hB 1 dX10_giveNone_6 rfl rfl ?_
  obtain ⟨r5, σ4, h3, h⟩ := z_b2E h
  refine z_cI hB (z_rV (ι := fun k => k) hB yY_X10_givesNone (c_X10_givesNone _ _ _ _ h3) rfl cut_M z_hid kM_0 (Nat.le_of_ble_eq_true rfl) vc_10 rfl rfl rfl (Nat.le_of_ble_eq_true rfl) ml_X10_103 ⟨Nat.le_of_ble_eq_true rfl, Nat.le_of_ble_eq_true rfl⟩ dX10_giveNone_7) cut_M z_hid ?_
  refine z_toA z_mid ?_
  obtain ⟨r8, σ7, h6, h⟩ := z_b2E h
  refine z_cI hB (z_rV (ι := fun k => k) hB yY_X10_ends (c_X10_ends _ _ _ _ h6) rfl cut_M z_hid kM_0 (Nat.le_of_ble_eq_true rfl) vc_10 rfl rfl rfl (Nat.le_of_ble_eq_true rfl) ml_X10_67 ⟨Nat.le_of_ble_eq_true rfl, Nat.le_of_ble_eq_true rfl⟩ dX10_giveNone_10) cut_M z_hid ?_
  refine z_toA z_mid ?_
  obtain ⟨h1, h2⟩ := z_prE h
  exact hret _ _ _ _ h1 h2 rfl dX10_giveNone_13
def f_X10_addsBiscuits (p1 : Int32) (p2 : Int32) (σ : z_S) : Option (Int32 × z_S) :=
  z_b1 (f_X10_isCarrier p1 σ) fun r2 =>
  if r2 = (0 : Int32) then
  (some ((-1 : Int32), σ))
  else
  (z_b1 (f_X10_in p2 (1 : Int32) (99 : Int32) σ) fun r5 =>
  if r5 = (0 : Int32) then
  (some ((-1 : Int32), σ))
  else
  (z_b1 (f_X10_ofCarrier p1 (2 : Int32) σ) fun r8 =>
  if (r8 + p2) ≤ (500 : Int32) then
  (z_b1 (f_X10_addsCarrier p1 (2 : Int32) p2 σ) fun σ11 =>
  z_b1 (f_X10_ofCarrier p1 (2 : Int32) σ11) fun r13 =>
  some (r13, σ11))
  else
  (some ((-3 : Int32), σ))))
set_option maxRecDepth 100000 in
set_option maxHeartbeats 4000000 in
theorem c_X10_addsBiscuits (p1 : Int32) (p2 : Int32) (σ : z_S) (r : Int32) (σz : z_S) (h : f_X10_addsBiscuits p1 p2 σ = some (r, σz)) : zMet yX10_addsBiscuits cX10_addsBiscuits 3 (some .int) 2 43 layM 10 (fun ad => [.ref (ad 0), .int p1, .int p2]) σ (z_QI layM 10 r σz) := by
  refine z_headI RX10 (by decide) rfl (fun _ => Nat.le_of_ble_eq_true rfl) (fun E G A ad hB hret => ?_)
  show ZW E G A 3 layM 10 ad 0 [(0, .ref (ad 0)), (1, .int p1), (2, .int p2)] [] σ
  unfold f_X10_addsBiscuits at h
  refine z_aload_n hB 0 dX10_addsBiscuits_0 rfl rfl ?_
  refine z_iload_n hB 1 dX10_addsBiscuits_1 rfl rfl ?_
  obtain ⟨r2, h1, h⟩ := z_b1E h
  refine z_cI hB (z_rV (ι := fun k => k) hB yY_X10_isCarrier (c_X10_isCarrier _ _ _ h1) rfl cut_M z_hid kM_0 (Nat.le_of_ble_eq_true rfl) vc_10 rfl rfl rfl (Nat.le_of_ble_eq_true rfl) ml_X10_91 ⟨Nat.le_of_ble_eq_true rfl, Nat.le_of_ble_eq_true rfl⟩ dX10_addsBiscuits_2) cut_M z_hid ?_
  refine z_toA (z_mro cut_M) ?_
  refine z_if_eq hB (tgt := 18) dX10_addsBiscuits_5 (by decide) (fun c3 => ?_) (fun c3 => ?_)
  · have h := z_ifT c3 h
    refine z_iconst hB dX10_addsBiscuits_18 zcI_m1 ?_
    obtain ⟨h1, h2⟩ := z_prE h
    exact hret _ _ _ _ h1 h2 rfl dX10_addsBiscuits_19
  · have h := z_ifF c3 h
    refine z_iload_n hB 2 dX10_addsBiscuits_8 rfl rfl ?_
    refine z_iconst hB dX10_addsBiscuits_9 zcI_1 ?_
    refine z_bipush hB dX10_addsBiscuits_10 zcB_99 ?_
    obtain ⟨r5, h4, h⟩ := z_b1E h
    refine z_cI hB (z_rS (ι := fun k => k) hB yY_X10_in (c_X10_in _ _ _ _ _ h4) rfl z_cut0 z_hno rfl rfl rfl (Nat.le_of_ble_eq_true rfl) ml_X10_45 ⟨Nat.le_of_ble_eq_true rfl, Nat.le_of_ble_eq_true rfl⟩ dX10_addsBiscuits_12) z_cut0 z_hno ?_
    refine z_toA (z_mro (lay := layM) (lay' := z_lay0) (b := false) z_cut0) ?_
    refine z_if_ne hB (tgt := 20) dX10_addsBiscuits_15 (by decide) (fun c6 => ?_) (fun c6 => ?_)
    · have h := z_ifF c6 h
      refine z_aload_n hB 0 dX10_addsBiscuits_20 rfl rfl ?_
      refine z_iload_n hB 1 dX10_addsBiscuits_21 rfl rfl ?_
      refine z_iconst hB dX10_addsBiscuits_22 zcI_2 ?_
      obtain ⟨r8, h7, h⟩ := z_b1E h
      refine z_cI hB (z_rV (ι := fun k => k) hB yY_X10_ofCarrier (c_X10_ofCarrier _ _ _ _ h7) rfl cut_M z_hid kM_0 (Nat.le_of_ble_eq_true rfl) vc_10 rfl rfl rfl (Nat.le_of_ble_eq_true rfl) ml_X10_85 ⟨Nat.le_of_ble_eq_true rfl, Nat.le_of_ble_eq_true rfl⟩ dX10_addsBiscuits_23) cut_M z_hid ?_
      refine z_toA (z_mro cut_M) ?_
      refine z_iload_n hB 2 dX10_addsBiscuits_26 rfl rfl ?_
      refine z_iadd hB dX10_addsBiscuits_27 ?_
      refine z_sipush hB dX10_addsBiscuits_28 zcS_500 ?_
      refine z_icmp_le hB (tgt := 37) dX10_addsBiscuits_31 (by decide) (fun c9 => ?_) (fun c9 => ?_)
      · have h := z_ifT c9 h
        refine z_aload_n hB 0 dX10_addsBiscuits_37 rfl rfl ?_
        refine z_iload_n hB 1 dX10_addsBiscuits_38 rfl rfl ?_
        refine z_iconst hB dX10_addsBiscuits_39 zcI_2 ?_
        refine z_iload_n hB 2 dX10_addsBiscuits_40 rfl rfl ?_
        obtain ⟨σ11, h10, h⟩ := z_b1E h
        refine z_cV hB (z_rV (ι := fun k => k) hB yY_X10_addsCarrier (c_X10_addsCarrier _ _ _ _ _ h10) rfl cut_M z_hid kM_0 (Nat.le_of_ble_eq_true rfl) vc_10 rfl rfl rfl (Nat.le_of_ble_eq_true rfl) ml_X10_82 ⟨Nat.le_of_ble_eq_true rfl, Nat.le_of_ble_eq_true rfl⟩ dX10_addsBiscuits_41) cut_M z_hid ?_
        refine z_toA z_mid ?_
        refine z_aload_n hB 0 dX10_addsBiscuits_44 rfl rfl ?_
        refine z_iload_n hB 1 dX10_addsBiscuits_45 rfl rfl ?_
        refine z_iconst hB dX10_addsBiscuits_46 zcI_2 ?_
        obtain ⟨r13, h12, h⟩ := z_b1E h
        refine z_cI hB (z_rV (ι := fun k => k) hB yY_X10_ofCarrier (c_X10_ofCarrier _ _ _ _ h12) rfl cut_M z_hid kM_0 (Nat.le_of_ble_eq_true rfl) vc_10 rfl rfl rfl (Nat.le_of_ble_eq_true rfl) ml_X10_85 ⟨Nat.le_of_ble_eq_true rfl, Nat.le_of_ble_eq_true rfl⟩ dX10_addsBiscuits_47) cut_M z_hid ?_
        refine z_toA (z_mro cut_M) ?_
        obtain ⟨h1, h2⟩ := z_prE h
        exact hret _ _ _ _ h1 h2 rfl dX10_addsBiscuits_50
      · have h := z_ifF c9 h
        refine z_bipush hB dX10_addsBiscuits_34 zcB_m3 ?_
        obtain ⟨h1, h2⟩ := z_prE h
        exact hret _ _ _ _ h1 h2 rfl dX10_addsBiscuits_36
    · have h := z_ifT c6 h
      refine z_iconst hB dX10_addsBiscuits_18 zcI_m1 ?_
      obtain ⟨h1, h2⟩ := z_prE h
      exact hret _ _ _ _ h1 h2 rfl dX10_addsBiscuits_19
def f_X10_biscuits (p1 : Int32) (p2 : Int32) (σ : z_S) : Option (Int32 × z_S) :=
  z_b1 (f_X10_notes σ) fun σ2 =>
  z_b2 (f_X10_addsBiscuits p1 p2 σ2) fun r5 σ4 =>
  z_b2 (f_X10_ends r5 σ4) fun r8 σ7 =>
  some (r8, σ7)
set_option maxRecDepth 100000 in
set_option maxHeartbeats 4000000 in
theorem c_X10_biscuits (p1 : Int32) (p2 : Int32) (σ : z_S) (r : Int32) (σz : z_S) (h : f_X10_biscuits p1 p2 σ = some (r, σz)) : zMet yX10_biscuits cX10_biscuits 3 (some .int) 3 65 layM 10 (fun ad => [.ref (ad 0), .int p1, .int p2]) σ (z_QI layM 10 r σz) := by
  refine z_headI RX10 (by decide) rfl (fun _ => Nat.le_of_ble_eq_true rfl) (fun E G A ad hB hret => ?_)
  show ZW E G A 3 layM 10 ad 0 [(0, .ref (ad 0)), (1, .int p1), (2, .int p2)] [] σ
  unfold f_X10_biscuits at h
  refine z_aload_n hB 0 dX10_biscuits_0 rfl rfl ?_
  obtain ⟨σ2, h1, h⟩ := z_b1E h
  refine z_cV hB (z_rV (ι := fun k => k) hB yY_X10_notes (c_X10_notes _ _ h1) rfl cut_M z_hid kM_0 (Nat.le_of_ble_eq_true rfl) vc_10 rfl rfl rfl (Nat.le_of_ble_eq_true rfl) ml_X10_64 ⟨Nat.le_of_ble_eq_true rfl, Nat.le_of_ble_eq_true rfl⟩ dX10_biscuits_1) cut_M z_hid ?_
  refine z_toA z_mid ?_
  refine z_aload_n hB 0 dX10_biscuits_4 rfl rfl ?_
  refine z_aload_n hB 0 dX10_biscuits_5 rfl rfl ?_
  refine z_iload_n hB 1 dX10_biscuits_6 rfl rfl ?_
  refine z_iload_n hB 2 dX10_biscuits_7 rfl rfl ?_
  obtain ⟨r5, σ4, h3, h⟩ := z_b2E h
  refine z_cI hB (z_rV (ι := fun k => k) hB yY_X10_addsBiscuits (c_X10_addsBiscuits _ _ _ _ _ h3) rfl cut_M z_hid kM_0 (Nat.le_of_ble_eq_true rfl) vc_10 rfl rfl rfl (Nat.le_of_ble_eq_true rfl) ml_X10_106 ⟨Nat.le_of_ble_eq_true rfl, Nat.le_of_ble_eq_true rfl⟩ dX10_biscuits_8) cut_M z_hid ?_
  refine z_toA z_mid ?_
  obtain ⟨r8, σ7, h6, h⟩ := z_b2E h
  refine z_cI hB (z_rV (ι := fun k => k) hB yY_X10_ends (c_X10_ends _ _ _ _ h6) rfl cut_M z_hid kM_0 (Nat.le_of_ble_eq_true rfl) vc_10 rfl rfl rfl (Nat.le_of_ble_eq_true rfl) ml_X10_67 ⟨Nat.le_of_ble_eq_true rfl, Nat.le_of_ble_eq_true rfl⟩ dX10_biscuits_11) cut_M z_hid ?_
  refine z_toA z_mid ?_
  obtain ⟨h1, h2⟩ := z_prE h
  exact hret _ _ _ _ h1 h2 rfl dX10_biscuits_14
def f_X10_set (p1 : Int32) (p2 : Int32) (σ : z_S) : Option (Int32 × z_S) :=
  z_b1 (f_X10_in p1 (0 : Int32) (1 : Int32) σ) fun r2 =>
  if r2 = (0 : Int32) then
  (some ((-1 : Int32), σ))
  else
  (z_let (fun (y4 : Int32) => z_b1 (f_X10_in p2 (1 : Int32) y4 σ) fun r7 =>
  if r7 = (0 : Int32) then
  (some ((-1 : Int32), σ))
  else
  (z_b1 (f_X10_notes σ) fun σ10 =>
  z_cki ((5 : Int32) + p1) 537 <|
  z_let (σ10 1 ((5 : Int32) + p1).toNatClampNeg) fun x12 =>
  z_cki ((5 : Int32) + p1) 537 <|
  z_let (z_u σ10 1 ((5 : Int32) + p1).toNatClampNeg (p2)) fun σ14 =>
  z_b2 (f_X10_ends x12 σ14) fun r17 σ16 =>
  some (r17, σ16))) fun j5 =>
  if p1 = (0 : Int32) then
  (j5 (20 : Int32))
  else
  (j5 (50 : Int32)))
set_option maxRecDepth 100000 in
set_option maxHeartbeats 4000000 in
theorem c_X10_set (p1 : Int32) (p2 : Int32) (σ : z_S) (r : Int32) (σz : z_S) (h : f_X10_set p1 p2 σ = some (r, σz)) : zMet yX10_set cX10_set 4 (some .int) 2 46 layM 10 (fun ad => [.ref (ad 0), .int p1, .int p2]) σ (z_QI layM 10 r σz) := by
  refine z_headI RX10 (by decide) rfl (fun _ => Nat.le_of_ble_eq_true rfl) (fun E G A ad hB hret => ?_)
  show ZW E G A 4 layM 10 ad 0 [(0, .ref (ad 0)), (1, .int p1), (2, .int p2)] [] σ
  unfold f_X10_set at h
  refine z_iload_n hB 1 dX10_set_0 rfl rfl ?_
  refine z_iconst hB dX10_set_1 zcI_0 ?_
  refine z_iconst hB dX10_set_2 zcI_1 ?_
  obtain ⟨r2, h1, h⟩ := z_b1E h
  refine z_cI hB (z_rS (ι := fun k => k) hB yY_X10_in (c_X10_in _ _ _ _ _ h1) rfl z_cut0 z_hno rfl rfl rfl (Nat.le_of_ble_eq_true rfl) ml_X10_45 ⟨Nat.le_of_ble_eq_true rfl, Nat.le_of_ble_eq_true rfl⟩ dX10_set_3) z_cut0 z_hno ?_
  refine z_toA (z_mro (lay := layM) (lay' := z_lay0) (b := false) z_cut0) ?_
  refine z_if_eq hB (tgt := 28) dX10_set_6 (by decide) (fun c3 => ?_) (fun c3 => ?_)
  · have h := z_ifT c3 h
    refine z_iconst hB dX10_set_28 zcI_m1 ?_
    obtain ⟨h1, h2⟩ := z_prE h
    exact hret _ _ _ _ h1 h2 rfl dX10_set_29
  · have h := z_ifF c3 h
    refine z_iload_n hB 2 dX10_set_9 rfl rfl ?_
    refine z_iconst hB dX10_set_10 zcI_1 ?_
    refine z_iload_n hB 1 dX10_set_11 rfl rfl ?_
    obtain ⟨j5, ej5, h⟩ := z_letE h
    have hj5 : ∀ (y4 : Int32), j5 y4 = some (r, σz) → ZW E G A 4 layM 10 ad 22 [(0, .ref (ad 0)), (1, .int p1), (2, .int p2)] [.int y4, .int ((1 : Int32)), .int p2] σ := by
      intro y4 h
      rw [ej5] at h
      obtain ⟨r7, h6, h⟩ := z_b1E h
      refine z_cI hB (z_rS (ι := fun k => k) hB yY_X10_in (c_X10_in _ _ _ _ _ h6) rfl z_cut0 z_hno rfl rfl rfl (Nat.le_of_ble_eq_true rfl) ml_X10_45 ⟨Nat.le_of_ble_eq_true rfl, Nat.le_of_ble_eq_true rfl⟩ dX10_set_22) z_cut0 z_hno ?_
      refine z_toA (z_mro (lay := layM) (lay' := z_lay0) (b := false) z_cut0) ?_
      refine z_if_ne hB (tgt := 30) dX10_set_25 (by decide) (fun c8 => ?_) (fun c8 => ?_)
      · have h := z_ifF c8 h
        refine z_aload_n hB 0 dX10_set_30 rfl rfl ?_
        obtain ⟨σ10, h9, h⟩ := z_b1E h
        refine z_cV hB (z_rV (ι := fun k => k) hB yY_X10_notes (c_X10_notes _ _ h9) rfl cut_M z_hid kM_0 (Nat.le_of_ble_eq_true rfl) vc_10 rfl rfl rfl (Nat.le_of_ble_eq_true rfl) ml_X10_64 ⟨Nat.le_of_ble_eq_true rfl, Nat.le_of_ble_eq_true rfl⟩ dX10_set_31) cut_M z_hid ?_
        refine z_toA z_mid ?_
        refine z_aload_n hB 0 dX10_set_34 rfl rfl ?_
        refine z_getr hB 0 0 1 kM_0 (Nat.le_of_ble_eq_true rfl) vc_10 inlX10 (Nat.le_of_ble_eq_true rfl) rfl (Nat.le_of_ble_eq_true rfl) fl_X10_7 dX10_set_35 ?_
        refine z_iconst hB dX10_set_38 zcI_5 ?_
        refine z_iload_n hB 1 dX10_set_39 rfl rfl ?_
        refine z_iadd hB dX10_set_40 ?_
        obtain ⟨h11, h⟩ := z_ckiE h
        refine z_iald hB 1 537 kM_1 (Nat.le_of_ble_eq_true rfl) dX10_set_41 h11 ?_
        obtain ⟨x12, ex12, h⟩ := z_letE h
        refine z_istore_n hB [(3, .int x12), (0, .ref (ad 0)), (1, .int p1), (2, .int p2)] dX10_set_42 rfl (Nat.le_of_ble_eq_true rfl) ex12 rfl ?_
        refine z_aload_n hB 1 dX10_set_43 rfl rfl ?_
        refine z_getr hB 0 0 1 kM_0 (Nat.le_of_ble_eq_true rfl) vc_10 inlX10 (Nat.le_of_ble_eq_true rfl) rfl (Nat.le_of_ble_eq_true rfl) fl_X10_7 dX10_set_44 ?_
        refine z_iconst hB dX10_set_47 zcI_5 ?_
        refine z_iload_n hB 2 dX10_set_48 rfl rfl ?_
        refine z_iadd hB dX10_set_49 ?_
        refine z_iload_n hB 3 dX10_set_50 rfl rfl ?_
        obtain ⟨h13, h⟩ := z_ckiE h
        obtain ⟨σ14, eσ14, h⟩ := z_letE h
        refine z_iast hB 1 537 kM_1 (Nat.le_of_ble_eq_true rfl) dX10_set_51 h13 ?_
        refine z_to eσ14 ?_
        refine z_aload_n hB 1 dX10_set_52 rfl rfl ?_
        refine z_iload_n hB 0 dX10_set_53 rfl rfl ?_
        obtain ⟨r17, σ16, h15, h⟩ := z_b2E h
        refine z_cI hB (z_rV (ι := fun k => k) hB yY_X10_ends (c_X10_ends _ _ _ _ h15) rfl cut_M z_hid kM_0 (Nat.le_of_ble_eq_true rfl) vc_10 rfl rfl rfl (Nat.le_of_ble_eq_true rfl) ml_X10_67 ⟨Nat.le_of_ble_eq_true rfl, Nat.le_of_ble_eq_true rfl⟩ dX10_set_54) cut_M z_hid ?_
        refine z_toA z_mid ?_
        obtain ⟨h1, h2⟩ := z_prE h
        exact hret _ _ _ _ h1 h2 rfl dX10_set_57
      · have h := z_ifT c8 h
        refine z_iconst hB dX10_set_28 zcI_m1 ?_
        obtain ⟨h1, h2⟩ := z_prE h
        exact hret _ _ _ _ h1 h2 rfl dX10_set_29
    refine z_if_ne hB (tgt := 20) dX10_set_12 (by decide) (fun c18 => ?_) (fun c18 => ?_)
    · have h := z_ifF c18 h
      refine z_bipush hB dX10_set_20 zcB_50 ?_
      exact hj5 _ h
    · have h := z_ifT c18 h
      refine z_bipush hB dX10_set_15 zcB_20 ?_
      refine z_goto hB (tgt := 22) dX10_set_17 (by decide) ?_
      exact hj5 _ h
def lb_X10_isPaused_5 (p1 : Int32) (p2 : Int32) (σ : z_S) (k1 : Int32 → Int32 → Option Int32) (x2 : Int32) (x3 : Int32) : Option Int32 :=
  z_cki (3 : Int32) 537 <|
  if (σ 1 (3 : Int32).toNatClampNeg) ≤ x3 then
  (z_ckz (x2) <|
  some (x2))
  else
  (z_let ((447 : Int32) + ((3 : Int32) * x3)) fun x7 =>
  z_let (fun (y8 : Int32) => z_let (x3 + (1 : Int32)) fun x10 =>
  k1 y8 x10) fun j9 =>
  z_let (fun (_ : Unit) => j9 (1 : Int32)) fun j11 =>
  if x2 = (0 : Int32) then
  (z_cki x7 537 <|
  z_let (fun (_ : Unit) => j9 (0 : Int32)) fun j14 =>
  if (σ 1 x7.toNatClampNeg) = p1 then
  (z_cki (x7 + (1 : Int32)) 537 <|
  z_cki (x7 + (2 : Int32)) 537 <|
  z_b1 (f_X10_in p2 (σ 1 (x7 + (1 : Int32)).toNatClampNeg) (σ 1 (x7 + (2 : Int32)).toNatClampNeg) σ) fun r19 =>
  if r19 = (0 : Int32) then
  (j14 ())
  else
  (j11 ()))
  else
  (j14 ()))
  else
  (j11 ()))
def f_X10_isPaused (p1 : Int32) (p2 : Int32) (σ : z_S) : Option Int32 :=
  z_lp2 (lb_X10_isPaused_5 p1 p2 σ) z_Fu (0 : Int32) (0 : Int32)
set_option maxRecDepth 100000 in
set_option maxHeartbeats 4000000 in
theorem c_X10_isPaused (p1 : Int32) (p2 : Int32) (σ : z_S) (r : Int32) (h : f_X10_isPaused p1 p2 σ = some r) : zMet yX10_isPaused cX10_isPaused 6 (some .boolean) 1 22 layM 10 (fun ad => [.ref (ad 0), .int p1, .int p2]) σ (z_QI layM 10 r σ) := by
  refine z_headI RX10 (by decide) rfl (fun _ => Nat.le_of_ble_eq_true rfl) (fun E G A ad hB hret => ?_)
  show ZW E G A 6 layM 10 ad 0 [(0, .ref (ad 0)), (1, .int p1), (2, .int p2)] [] σ
  unfold f_X10_isPaused at h
  refine z_iconst hB dX10_isPaused_0 zcI_0 ?_
  refine z_istore_n hB [(3, .int ((0 : Int32))), (0, .ref (ad 0)), (1, .int p1), (2, .int p2)] dX10_isPaused_1 rfl (Nat.le_of_ble_eq_true rfl) rfl rfl ?_
  refine z_iconst hB dX10_isPaused_2 zcI_0 ?_
  refine z_istore hB [(4, .int ((0 : Int32))), (3, .int ((0 : Int32))), (0, .ref (ad 0)), (1, .int p1), (2, .int p2)] dX10_isPaused_3 (Nat.le_of_ble_eq_true rfl) rfl rfl ?_
  refine z_lv [2, 3, 4, 1, 0] rfl ?_
  refine z_lpr2 (g := fun x2 x3 => ZW E G A 6 layM 10 ad 5 [(0, .ref (ad 0)), (1, .int p1), (2, .int p2), (3, .int x2), (4, .int x3)] [] σ) (fun k1 x2 x3 hk_k1 h => ?_) _ _ _ h
  show ZW E G A 6 layM 10 ad 5 [(0, .ref (ad 0)), (1, .int p1), (2, .int p2), (3, .int x2), (4, .int x3)] [] σ
  unfold lb_X10_isPaused_5 at h
  refine z_iload hB 4 dX10_isPaused_5 rfl ?_
  refine z_aload_n hB 0 dX10_isPaused_7 rfl rfl ?_
  refine z_getr hB 0 0 1 kM_0 (Nat.le_of_ble_eq_true rfl) vc_10 inlX10 (Nat.le_of_ble_eq_true rfl) rfl (Nat.le_of_ble_eq_true rfl) fl_X10_7 dX10_isPaused_8 ?_
  refine z_iconst hB dX10_isPaused_11 zcI_3 ?_
  obtain ⟨h4, h⟩ := z_ckiE h
  refine z_iald hB 1 537 kM_1 (Nat.le_of_ble_eq_true rfl) dX10_isPaused_12 h4 ?_
  refine z_icmp_ge hB (tgt := 78) dX10_isPaused_13 (by decide) (fun c5 => ?_) (fun c5 => ?_)
  · have h := z_ifT c5 h
    refine z_iload_n hB 3 dX10_isPaused_78 rfl rfl ?_
    obtain ⟨h6, h⟩ := z_ckzE h
    exact hret _ _ _ _ (Option.some.inj h) rfl h6 dX10_isPaused_79
  · have h := z_ifF c5 h
    refine z_sipush hB dX10_isPaused_16 zcS_447 ?_
    refine z_iconst hB dX10_isPaused_19 zcI_3 ?_
    refine z_iload hB 4 dX10_isPaused_20 rfl ?_
    refine z_imul hB dX10_isPaused_22 ?_
    refine z_iadd hB dX10_isPaused_23 ?_
    obtain ⟨x7, ex7, h⟩ := z_letE h
    refine z_istore hB [(5, .int x7), (0, .ref (ad 0)), (1, .int p1), (2, .int p2), (3, .int x2), (4, .int x3)] dX10_isPaused_24 (Nat.le_of_ble_eq_true rfl) ex7 rfl ?_
    refine z_iload_n hB 4 dX10_isPaused_26 rfl rfl ?_
    obtain ⟨j9, ej9, h⟩ := z_letE h
    have hj9 : ∀ (y8 : Int32), j9 y8 = some r → ZW E G A 6 layM 10 ad 71 [(0, .ref (ad 0)), (1, .int p1), (2, .int p2), (4, .int x3)] [.int y8] σ := by
      intro y8 h
      rw [ej9] at h
      refine z_istore_n hB [(3, .int y8), (0, .ref (ad 0)), (1, .int p1), (2, .int p2), (4, .int x3)] dX10_isPaused_71 rfl (Nat.le_of_ble_eq_true rfl) rfl rfl ?_
      obtain ⟨x10, ex10, h⟩ := z_letE h
      refine z_iinc hB 4 [(4, .int x10), (3, .int y8), (0, .ref (ad 0)), (1, .int p1), (2, .int p2)] dX10_isPaused_72 rfl (by rw [zcI_1]; exact ex10) (Nat.le_of_ble_eq_true rfl) rfl ?_
      refine z_goto hB (tgt := 5) dX10_isPaused_75 (by decide) ?_
      refine z_lv [2, 3, 4, 1, 0] rfl ?_
      exact hk_k1 _ _ h
    obtain ⟨j11, ej11, h⟩ := z_letE h
    have hj11 : ∀ (_ : Unit), j11 () = some r → ZW E G A 6 layM 10 ad 66 [(0, .ref (ad 0)), (1, .int p1), (2, .int p2), (4, .int x3)] [] σ := by
      intro _ h
      rw [ej11] at h
      refine z_iconst hB dX10_isPaused_66 zcI_1 ?_
      refine z_goto hB (tgt := 71) dX10_isPaused_67 (by decide) ?_
      exact hj9 _ h
    refine z_if_ne hB (tgt := 66) dX10_isPaused_27 (by decide) (fun c12 => ?_) (fun c12 => ?_)
    · have h := z_ifF c12 h
      refine z_lv [1, 2, 3, 5] rfl ?_
      exact hj11 () h
    · have h := z_ifT c12 h
      refine z_aload_n hB 1 dX10_isPaused_30 rfl rfl ?_
      refine z_getr hB 0 0 1 kM_0 (Nat.le_of_ble_eq_true rfl) vc_10 inlX10 (Nat.le_of_ble_eq_true rfl) rfl (Nat.le_of_ble_eq_true rfl) fl_X10_7 dX10_isPaused_31 ?_
      refine z_iload hB 0 dX10_isPaused_34 rfl ?_
      obtain ⟨h13, h⟩ := z_ckiE h
      refine z_iald hB 1 537 kM_1 (Nat.le_of_ble_eq_true rfl) dX10_isPaused_36 h13 ?_
      refine z_iload_n hB 2 dX10_isPaused_37 rfl rfl ?_
      obtain ⟨j14, ej14, h⟩ := z_letE h
      have hj14 : ∀ (_ : Unit), j14 () = some r → ZW E G A 6 layM 10 ad 70 [(0, .ref (ad 0)), (1, .int p1), (2, .int p2), (4, .int x3)] [] σ := by
        intro _ h
        rw [ej14] at h
        refine z_iconst hB dX10_isPaused_70 zcI_0 ?_
        exact hj9 _ h
      refine z_icmp_ne hB (tgt := 70) dX10_isPaused_38 (by decide) (fun c15 => ?_) (fun c15 => ?_)
      · have h := z_ifF c15 h
        refine z_lv [1, 2, 3, 5] rfl ?_
        exact hj14 () h
      · have h := z_ifT c15 h
        refine z_iload_n hB 3 dX10_isPaused_41 rfl rfl ?_
        refine z_aload_n hB 1 dX10_isPaused_42 rfl rfl ?_
        refine z_getr hB 0 0 1 kM_0 (Nat.le_of_ble_eq_true rfl) vc_10 inlX10 (Nat.le_of_ble_eq_true rfl) rfl (Nat.le_of_ble_eq_true rfl) fl_X10_7 dX10_isPaused_43 ?_
        refine z_iload hB 0 dX10_isPaused_46 rfl ?_
        refine z_iconst hB dX10_isPaused_48 zcI_1 ?_
        refine z_iadd hB dX10_isPaused_49 ?_
        obtain ⟨h16, h⟩ := z_ckiE h
        refine z_iald hB 1 537 kM_1 (Nat.le_of_ble_eq_true rfl) dX10_isPaused_50 h16 ?_
        refine z_aload_n hB 1 dX10_isPaused_51 rfl rfl ?_
        refine z_getr hB 0 0 1 kM_0 (Nat.le_of_ble_eq_true rfl) vc_10 inlX10 (Nat.le_of_ble_eq_true rfl) rfl (Nat.le_of_ble_eq_true rfl) fl_X10_7 dX10_isPaused_52 ?_
        refine z_iload hB 0 dX10_isPaused_55 rfl ?_
        refine z_iconst hB dX10_isPaused_57 zcI_2 ?_
        refine z_iadd hB dX10_isPaused_58 ?_
        obtain ⟨h17, h⟩ := z_ckiE h
        refine z_iald hB 1 537 kM_1 (Nat.le_of_ble_eq_true rfl) dX10_isPaused_59 h17 ?_
        obtain ⟨r19, h18, h⟩ := z_b1E h
        refine z_cI hB (z_rS (ι := fun k => k) hB yY_X10_in (c_X10_in _ _ _ _ _ h18) rfl z_cut0 z_hno rfl rfl rfl (Nat.le_of_ble_eq_true rfl) ml_X10_45 ⟨Nat.le_of_ble_eq_true rfl, Nat.le_of_ble_eq_true rfl⟩ dX10_isPaused_60) z_cut0 z_hno ?_
        refine z_toA (z_mro (lay := layM) (lay' := z_lay0) (b := false) z_cut0) ?_
        refine z_if_eq hB (tgt := 70) dX10_isPaused_63 (by decide) (fun c20 => ?_) (fun c20 => ?_)
        · have h := z_ifT c20 h
          refine z_lv [1, 2, 3, 5] rfl ?_
          exact hj14 () h
        · have h := z_ifF c20 h
          refine z_lv [1, 2, 3, 5] rfl ?_
          exact hj11 () h
def f_X10_isOut (p1 : Int32) (p2 : Int32) (σ : z_S) : Option Int32 :=
  z_b1 (f_X10_of p1 (4 : Int32) σ) fun r2 =>
  if r2 ≤ (0 : Int32) then
  (some ((0 : Int32)))
  else
  (z_ck (¬ r2 = 0) <|
  z_b1 (f_X10_of p1 (5 : Int32) σ) fun r6 =>
  z_ck (¬ r2 = 0) <|
  if (p2 - p2 / r2 * r2) = (r6 - r6 / r2 * r2) then
  (some ((1 : Int32)))
  else
  (some ((0 : Int32))))
set_option maxRecDepth 100000 in
set_option maxHeartbeats 4000000 in
theorem c_X10_isOut (p1 : Int32) (p2 : Int32) (σ : z_S) (r : Int32) (h : f_X10_isOut p1 p2 σ = some r) : zMet yX10_isOut cX10_isOut 4 (some .boolean) 1 22 layM 10 (fun ad => [.ref (ad 0), .int p1, .int p2]) σ (z_QI layM 10 r σ) := by
  refine z_headI RX10 (by decide) rfl (fun _ => Nat.le_of_ble_eq_true rfl) (fun E G A ad hB hret => ?_)
  show ZW E G A 4 layM 10 ad 0 [(0, .ref (ad 0)), (1, .int p1), (2, .int p2)] [] σ
  unfold f_X10_isOut at h
  refine z_aload_n hB 0 dX10_isOut_0 rfl rfl ?_
  refine z_iload_n hB 1 dX10_isOut_1 rfl rfl ?_
  refine z_iconst hB dX10_isOut_2 zcI_4 ?_
  obtain ⟨r2, h1, h⟩ := z_b1E h
  refine z_cI hB (z_rV (ι := fun k => k) hB yY_X10_of (c_X10_of _ _ _ _ h1) rfl cut_M z_hid kM_0 (Nat.le_of_ble_eq_true rfl) vc_10 rfl rfl rfl (Nat.le_of_ble_eq_true rfl) ml_X10_57 ⟨Nat.le_of_ble_eq_true rfl, Nat.le_of_ble_eq_true rfl⟩ dX10_isOut_3) cut_M z_hid ?_
  refine z_toA (z_mro cut_M) ?_
  refine z_istore_n hB [(3, .int r2), (0, .ref (ad 0)), (1, .int p1), (2, .int p2)] dX10_isOut_6 rfl (Nat.le_of_ble_eq_true rfl) rfl rfl ?_
  refine z_iload_n hB 0 dX10_isOut_7 rfl rfl ?_
  refine z_if_le hB (tgt := 29) dX10_isOut_8 (by decide) (fun c3 => ?_) (fun c3 => ?_)
  · have h := z_ifT c3 h
    refine z_iconst hB dX10_isOut_29 zcI_0 ?_
    exact hret _ _ _ _ (Option.some.inj h) rfl rfl dX10_isOut_30
  · have h := z_ifF c3 h
    refine z_iload_n hB 3 dX10_isOut_11 rfl rfl ?_
    refine z_iload_n hB 0 dX10_isOut_12 rfl rfl ?_
    obtain ⟨h4, h⟩ := z_ckE h
    refine z_irem hB dX10_isOut_13 h4 ?_
    refine z_aload_n hB 1 dX10_isOut_14 rfl rfl ?_
    refine z_iload_n hB 2 dX10_isOut_15 rfl rfl ?_
    refine z_iconst hB dX10_isOut_16 zcI_5 ?_
    obtain ⟨r6, h5, h⟩ := z_b1E h
    refine z_cI hB (z_rV (ι := fun k => k) hB yY_X10_of (c_X10_of _ _ _ _ h5) rfl cut_M z_hid kM_0 (Nat.le_of_ble_eq_true rfl) vc_10 rfl rfl rfl (Nat.le_of_ble_eq_true rfl) ml_X10_57 ⟨Nat.le_of_ble_eq_true rfl, Nat.le_of_ble_eq_true rfl⟩ dX10_isOut_17) cut_M z_hid ?_
    refine z_toA (z_mro cut_M) ?_
    refine z_iload_n hB 0 dX10_isOut_20 rfl rfl ?_
    obtain ⟨h7, h⟩ := z_ckE h
    refine z_irem hB dX10_isOut_21 h7 ?_
    refine z_icmp_ne hB (tgt := 29) dX10_isOut_22 (by decide) (fun c8 => ?_) (fun c8 => ?_)
    · have h := z_ifF c8 h
      refine z_iconst hB dX10_isOut_29 zcI_0 ?_
      exact hret _ _ _ _ (Option.some.inj h) rfl rfl dX10_isOut_30
    · have h := z_ifT c8 h
      refine z_iconst hB dX10_isOut_25 zcI_1 ?_
      refine z_goto hB (tgt := 30) dX10_isOut_26 (by decide) ?_
      exact hret _ _ _ _ (Option.some.inj h) rfl rfl dX10_isOut_30
def f_X10_weightOn (p1 : Int32) (p2 : Int32) (σ : z_S) : Option Int32 :=
  z_b1 (f_X10_of p1 (1 : Int32) σ) fun r2 =>
  z_ck (¬ (7 : Int32) = 0) <|
  if (p2 - p2 / (7 : Int32) * (7 : Int32)) = (6 : Int32) then
  (z_cki (6 : Int32) 537 <|
  some (r2 * (σ 1 (6 : Int32).toNatClampNeg)))
  else
  (z_cki (5 : Int32) 537 <|
  some (r2 * (σ 1 (5 : Int32).toNatClampNeg)))
set_option maxRecDepth 100000 in
set_option maxHeartbeats 4000000 in
theorem c_X10_weightOn (p1 : Int32) (p2 : Int32) (σ : z_S) (r : Int32) (h : f_X10_weightOn p1 p2 σ = some r) : zMet yX10_weightOn cX10_weightOn 3 (some .int) 1 22 layM 10 (fun ad => [.ref (ad 0), .int p1, .int p2]) σ (z_QI layM 10 r σ) := by
  refine z_headI RX10 (by decide) rfl (fun _ => Nat.le_of_ble_eq_true rfl) (fun E G A ad hB hret => ?_)
  show ZW E G A 3 layM 10 ad 0 [(0, .ref (ad 0)), (1, .int p1), (2, .int p2)] [] σ
  unfold f_X10_weightOn at h
  refine z_aload_n hB 0 dX10_weightOn_0 rfl rfl ?_
  refine z_iload_n hB 1 dX10_weightOn_1 rfl rfl ?_
  refine z_iconst hB dX10_weightOn_2 zcI_1 ?_
  obtain ⟨r2, h1, h⟩ := z_b1E h
  refine z_cI hB (z_rV (ι := fun k => k) hB yY_X10_of (c_X10_of _ _ _ _ h1) rfl cut_M z_hid kM_0 (Nat.le_of_ble_eq_true rfl) vc_10 rfl rfl rfl (Nat.le_of_ble_eq_true rfl) ml_X10_57 ⟨Nat.le_of_ble_eq_true rfl, Nat.le_of_ble_eq_true rfl⟩ dX10_weightOn_3) cut_M z_hid ?_
  refine z_toA (z_mro cut_M) ?_
  refine z_iload_n hB 2 dX10_weightOn_6 rfl rfl ?_
  refine z_bipush hB dX10_weightOn_7 zcB_7 ?_
  obtain ⟨h3, h⟩ := z_ckE h
  refine z_irem hB dX10_weightOn_9 h3 ?_
  refine z_bipush hB dX10_weightOn_10 zcB_6 ?_
  refine z_icmp_ne hB (tgt := 25) dX10_weightOn_12 (by decide) (fun c4 => ?_) (fun c4 => ?_)
  · have h := z_ifF c4 h
    refine z_aload_n hB 0 dX10_weightOn_25 rfl rfl ?_
    refine z_getr hB 0 0 1 kM_0 (Nat.le_of_ble_eq_true rfl) vc_10 inlX10 (Nat.le_of_ble_eq_true rfl) rfl (Nat.le_of_ble_eq_true rfl) fl_X10_7 dX10_weightOn_26 ?_
    refine z_iconst hB dX10_weightOn_29 zcI_5 ?_
    obtain ⟨h5, h⟩ := z_ckiE h
    refine z_iald hB 1 537 kM_1 (Nat.le_of_ble_eq_true rfl) dX10_weightOn_30 h5 ?_
    refine z_imul hB dX10_weightOn_31 ?_
    exact hret _ _ _ _ (Option.some.inj h) rfl rfl dX10_weightOn_32
  · have h := z_ifT c4 h
    refine z_aload_n hB 0 dX10_weightOn_15 rfl rfl ?_
    refine z_getr hB 0 0 1 kM_0 (Nat.le_of_ble_eq_true rfl) vc_10 inlX10 (Nat.le_of_ble_eq_true rfl) rfl (Nat.le_of_ble_eq_true rfl) fl_X10_7 dX10_weightOn_16 ?_
    refine z_bipush hB dX10_weightOn_19 zcB_6 ?_
    obtain ⟨h6, h⟩ := z_ckiE h
    refine z_iald hB 1 537 kM_1 (Nat.le_of_ble_eq_true rfl) dX10_weightOn_21 h6 ?_
    refine z_goto hB (tgt := 31) dX10_weightOn_22 (by decide) ?_
    refine z_imul hB dX10_weightOn_31 ?_
    exact hret _ _ _ _ (Option.some.inj h) rfl rfl dX10_weightOn_32
def lb_X10_loads_2 (p2 : Int32) (k1 : Int32 → z_S → Option z_S) (x2 : Int32) (σ3 : z_S) : Option z_S :=
  if x2 ≤ (0 : Int32) then
  (some σ3)
  else
  (z_cki x2 20 <|
  z_cki x2 20 <|
  z_let (z_u σ3 8 x2.toNatClampNeg ((σ3 8 x2.toNatClampNeg) + p2)) fun σ7 =>
  z_b1 (f_X10_ofCorner x2 (0 : Int32) σ7) fun r9 =>
  k1 r9 σ7)
def f_X10_loads (p1 : Int32) (p2 : Int32) (σ : z_S) : Option z_S :=
  z_lp2 (lb_X10_loads_2 p2) z_Fu p1 σ
set_option maxRecDepth 100000 in
set_option maxHeartbeats 4000000 in
theorem c_X10_loads (p1 : Int32) (p2 : Int32) (σ σz : z_S) (h : f_X10_loads p1 p2 σ = some σz) : zMet yX10_loads cX10_loads 4 none 1 22 layM 10 (fun ad => [.ref (ad 0), .int p1, .int p2]) σ (z_QV layM 10 σz) := by
  refine z_headV RX10 (by decide) rfl (fun _ => Nat.le_of_ble_eq_true rfl) (fun E G A ad hB hret => ?_)
  show ZW E G A 4 layM 10 ad 0 [(0, .ref (ad 0)), (1, .int p1), (2, .int p2)] [] σ
  unfold f_X10_loads at h
  refine z_iload_n hB 1 dX10_loads_0 rfl rfl ?_
  refine z_istore_n hB [(3, .int p1), (0, .ref (ad 0)), (1, .int p1), (2, .int p2)] dX10_loads_1 rfl (Nat.le_of_ble_eq_true rfl) rfl rfl ?_
  refine z_lv [1, 3, 0] rfl ?_
  refine z_lpr2 (g := fun x2 σ3 => ZW E G A 4 layM 10 ad 2 [(0, .ref (ad 0)), (2, .int p2), (3, .int x2)] [] σ3) (fun k1 x2 σ3 hk_k1 h => ?_) _ _ _ h
  show ZW E G A 4 layM 10 ad 2 [(0, .ref (ad 0)), (2, .int p2), (3, .int x2)] [] σ3
  unfold lb_X10_loads_2 at h
  refine z_iload_n hB 2 dX10_loads_2 rfl rfl ?_
  refine z_if_le hB (tgt := 26) dX10_loads_3 (by decide) (fun c4 => ?_) (fun c4 => ?_)
  · have h := z_ifT c4 h
    exact hret _ _ _ (Option.some.inj h) dX10_loads_26
  · have h := z_ifF c4 h
    refine z_aload_n hB 0 dX10_loads_6 rfl rfl ?_
    refine z_getr hB 0 13 8 kM_0 (Nat.le_of_ble_eq_true rfl) vc_10 inlX10 (Nat.le_of_ble_eq_true rfl) rfl (Nat.le_of_ble_eq_true rfl) fl_X10_31 dX10_loads_7 ?_
    refine z_iload_n hB 2 dX10_loads_10 rfl rfl ?_
    refine z_dup2 hB dX10_loads_11 rfl rfl ?_
    obtain ⟨h5, h⟩ := z_ckiE h
    refine z_iald hB 8 20 kM_8 (Nat.le_of_ble_eq_true rfl) dX10_loads_12 h5 ?_
    refine z_iload_n hB 1 dX10_loads_13 rfl rfl ?_
    refine z_iadd hB dX10_loads_14 ?_
    obtain ⟨h6, h⟩ := z_ckiE h
    obtain ⟨σ7, eσ7, h⟩ := z_letE h
    refine z_iast hB 8 20 kM_8 (Nat.le_of_ble_eq_true rfl) dX10_loads_15 h6 ?_
    refine z_to eσ7 ?_
    refine z_aload_n hB 0 dX10_loads_16 rfl rfl ?_
    refine z_iload_n hB 2 dX10_loads_17 rfl rfl ?_
    refine z_iconst hB dX10_loads_18 zcI_0 ?_
    obtain ⟨r9, h8, h⟩ := z_b1E h
    refine z_cI hB (z_rV (ι := fun k => k) hB yY_X10_ofCorner (c_X10_ofCorner _ _ _ _ h8) rfl cut_M z_hid kM_0 (Nat.le_of_ble_eq_true rfl) vc_10 rfl rfl rfl (Nat.le_of_ble_eq_true rfl) ml_X10_49 ⟨Nat.le_of_ble_eq_true rfl, Nat.le_of_ble_eq_true rfl⟩ dX10_loads_19) cut_M z_hid ?_
    refine z_toA (z_mro cut_M) ?_
    refine z_istore_n hB [(3, .int r9), (0, .ref (ad 0)), (2, .int p2)] dX10_loads_22 rfl (Nat.le_of_ble_eq_true rfl) rfl rfl ?_
    refine z_goto hB (tgt := 2) dX10_loads_23 (by decide) ?_
    refine z_lv [1, 2, 0] rfl ?_
    exact hk_k1 _ _ h
def lb_X10_endsTrip_20 (y3 : Int32) (k5 : Int32 → z_S → Option z_S) (x6 : Int32) (σ7 : z_S) : Option z_S :=
  z_cki (0 : Int32) 537 <|
  if (σ7 1 (0 : Int32).toNatClampNeg) ≤ x6 then
  (some σ7)
  else
  (z_b1 (f_X10_ofCorner x6 (2 : Int32) σ7) fun r11 =>
  z_b1 (f_X10_ofCorner x6 (0 : Int32) σ7) fun r13 =>
  z_b1 (f_X10_ofCorner r13 (2 : Int32) σ7) fun r15 =>
  z_let (r11 - r15) fun x16 =>
  z_cki x6 20 <|
  z_let (fun (σ18 : z_S) => z_cki x6 20 <|
  z_let (z_u σ18 8 x6.toNatClampNeg ((0 : Int32))) fun σ21 =>
  z_let (x6 + (1 : Int32)) fun x22 =>
  k5 x22 σ21) fun j19 =>
  if (σ7 8 x6.toNatClampNeg) ≤ (0 : Int32) then
  (j19 σ7)
  else
  (z_b1 (f_X10_ofCorner x6 (1 : Int32) σ7) fun r25 =>
  z_let (fun (y26 : Int32) => z_let (z_u σ7 0 10 ((σ7 0 10) + (((2 : Int32) * r25) + y26))) fun σ28 =>
  j19 σ28) fun j27 =>
  if x16 ≤ (0 : Int32) then
  (j27 (-(x16)))
  else
  (z_cki x6 20 <|
  z_ck (¬ y3 = 0) <|
  j27 ((x16 * (y3 + (σ7 8 x6.toNatClampNeg))) / y3))))
def f_X10_endsTrip (p1 : Int32) (σ : z_S) : Option z_S :=
  z_b1 (f_X10_ofCarrier p1 (0 : Int32) σ) fun r2 =>
  z_let (fun (y3 : Int32) => z_lp2 (lb_X10_endsTrip_20 y3) z_Fu (1 : Int32) σ) fun j4 =>
  if r2 = (1 : Int32) then
  (j4 (20 : Int32))
  else
  (j4 (10 : Int32))
set_option maxRecDepth 100000 in
set_option maxHeartbeats 4000000 in
theorem c_X10_endsTrip (p1 : Int32) (σ σz : z_S) (h : f_X10_endsTrip p1 σ = some σz) : zMet yX10_endsTrip cX10_endsTrip 5 none 1 22 layM 10 (fun ad => [.ref (ad 0), .int p1]) σ (z_QV layM 10 σz) := by
  refine z_headV RX10 (by decide) rfl (fun _ => Nat.le_of_ble_eq_true rfl) (fun E G A ad hB hret => ?_)
  show ZW E G A 5 layM 10 ad 0 [(0, .ref (ad 0)), (1, .int p1)] [] σ
  unfold f_X10_endsTrip at h
  refine z_aload_n hB 0 dX10_endsTrip_0 rfl rfl ?_
  refine z_iload_n hB 1 dX10_endsTrip_1 rfl rfl ?_
  refine z_iconst hB dX10_endsTrip_2 zcI_0 ?_
  obtain ⟨r2, h1, h⟩ := z_b1E h
  refine z_cI hB (z_rV (ι := fun k => k) hB yY_X10_ofCarrier (c_X10_ofCarrier _ _ _ _ h1) rfl cut_M z_hid kM_0 (Nat.le_of_ble_eq_true rfl) vc_10 rfl rfl rfl (Nat.le_of_ble_eq_true rfl) ml_X10_85 ⟨Nat.le_of_ble_eq_true rfl, Nat.le_of_ble_eq_true rfl⟩ dX10_endsTrip_3) cut_M z_hid ?_
  refine z_toA (z_mro cut_M) ?_
  refine z_iconst hB dX10_endsTrip_6 zcI_1 ?_
  obtain ⟨j4, ej4, h⟩ := z_letE h
  have hj4 : ∀ (y3 : Int32), j4 y3 = some σz → ZW E G A 5 layM 10 ad 17 [(0, .ref (ad 0))] [.int y3] σ := by
    intro y3 h
    rw [ej4] at h
    refine z_istore_n hB [(2, .int y3), (0, .ref (ad 0))] dX10_endsTrip_17 rfl (Nat.le_of_ble_eq_true rfl) rfl rfl ?_
    refine z_iconst hB dX10_endsTrip_18 zcI_1 ?_
    refine z_istore_n hB [(3, .int ((1 : Int32))), (2, .int y3), (0, .ref (ad 0))] dX10_endsTrip_19 rfl (Nat.le_of_ble_eq_true rfl) rfl rfl ?_
    refine z_lv [2, 1, 0] rfl ?_
    refine z_lpr2 (g := fun x6 σ7 => ZW E G A 5 layM 10 ad 20 [(0, .ref (ad 0)), (2, .int y3), (3, .int x6)] [] σ7) (fun k5 x6 σ7 hk_k5 h => ?_) _ _ _ h
    show ZW E G A 5 layM 10 ad 20 [(0, .ref (ad 0)), (2, .int y3), (3, .int x6)] [] σ7
    unfold lb_X10_endsTrip_20 at h
    refine z_iload_n hB 2 dX10_endsTrip_20 rfl rfl ?_
    refine z_aload_n hB 0 dX10_endsTrip_21 rfl rfl ?_
    refine z_getr hB 0 0 1 kM_0 (Nat.le_of_ble_eq_true rfl) vc_10 inlX10 (Nat.le_of_ble_eq_true rfl) rfl (Nat.le_of_ble_eq_true rfl) fl_X10_7 dX10_endsTrip_22 ?_
    refine z_iconst hB dX10_endsTrip_25 zcI_0 ?_
    obtain ⟨h8, h⟩ := z_ckiE h
    refine z_iald hB 1 537 kM_1 (Nat.le_of_ble_eq_true rfl) dX10_endsTrip_26 h8 ?_
    refine z_icmp_ge hB (tgt := 114) dX10_endsTrip_27 (by decide) (fun c9 => ?_) (fun c9 => ?_)
    · have h := z_ifT c9 h
      exact hret _ _ _ (Option.some.inj h) dX10_endsTrip_114
    · have h := z_ifF c9 h
      refine z_aload_n hB 0 dX10_endsTrip_30 rfl rfl ?_
      refine z_iload_n hB 2 dX10_endsTrip_31 rfl rfl ?_
      refine z_iconst hB dX10_endsTrip_32 zcI_2 ?_
      obtain ⟨r11, h10, h⟩ := z_b1E h
      refine z_cI hB (z_rV (ι := fun k => k) hB yY_X10_ofCorner (c_X10_ofCorner _ _ _ _ h10) rfl cut_M z_hid kM_0 (Nat.le_of_ble_eq_true rfl) vc_10 rfl rfl rfl (Nat.le_of_ble_eq_true rfl) ml_X10_49 ⟨Nat.le_of_ble_eq_true rfl, Nat.le_of_ble_eq_true rfl⟩ dX10_endsTrip_33) cut_M z_hid ?_
      refine z_toA (z_mro cut_M) ?_
      refine z_aload_n hB 0 dX10_endsTrip_36 rfl rfl ?_
      refine z_aload_n hB 0 dX10_endsTrip_37 rfl rfl ?_
      refine z_iload_n hB 2 dX10_endsTrip_38 rfl rfl ?_
      refine z_iconst hB dX10_endsTrip_39 zcI_0 ?_
      obtain ⟨r13, h12, h⟩ := z_b1E h
      refine z_cI hB (z_rV (ι := fun k => k) hB yY_X10_ofCorner (c_X10_ofCorner _ _ _ _ h12) rfl cut_M z_hid kM_0 (Nat.le_of_ble_eq_true rfl) vc_10 rfl rfl rfl (Nat.le_of_ble_eq_true rfl) ml_X10_49 ⟨Nat.le_of_ble_eq_true rfl, Nat.le_of_ble_eq_true rfl⟩ dX10_endsTrip_40) cut_M z_hid ?_
      refine z_toA (z_mro cut_M) ?_
      refine z_iconst hB dX10_endsTrip_43 zcI_2 ?_
      obtain ⟨r15, h14, h⟩ := z_b1E h
      refine z_cI hB (z_rV (ι := fun k => k) hB yY_X10_ofCorner (c_X10_ofCorner _ _ _ _ h14) rfl cut_M z_hid kM_0 (Nat.le_of_ble_eq_true rfl) vc_10 rfl rfl rfl (Nat.le_of_ble_eq_true rfl) ml_X10_49 ⟨Nat.le_of_ble_eq_true rfl, Nat.le_of_ble_eq_true rfl⟩ dX10_endsTrip_44) cut_M z_hid ?_
      refine z_toA (z_mro cut_M) ?_
      refine z_isub hB dX10_endsTrip_47 ?_
      obtain ⟨x16, ex16, h⟩ := z_letE h
      refine z_istore hB [(4, .int x16), (0, .ref (ad 0)), (2, .int y3), (3, .int x6)] dX10_endsTrip_48 (Nat.le_of_ble_eq_true rfl) ex16 rfl ?_
      refine z_aload_n hB 1 dX10_endsTrip_50 rfl rfl ?_
      refine z_getr hB 0 13 8 kM_0 (Nat.le_of_ble_eq_true rfl) vc_10 inlX10 (Nat.le_of_ble_eq_true rfl) rfl (Nat.le_of_ble_eq_true rfl) fl_X10_31 dX10_endsTrip_51 ?_
      refine z_iload_n hB 3 dX10_endsTrip_54 rfl rfl ?_
      obtain ⟨h17, h⟩ := z_ckiE h
      refine z_iald hB 8 20 kM_8 (Nat.le_of_ble_eq_true rfl) dX10_endsTrip_55 h17 ?_
      obtain ⟨j19, ej19, h⟩ := z_letE h
      have hj19 : ∀ (σ18 : z_S), j19 σ18 = some σz → ZW E G A 5 layM 10 ad 101 [(0, .ref (ad 0)), (2, .int y3), (3, .int x6)] [] σ18 := by
        intro σ18 h
        rw [ej19] at h
        refine z_aload_n hB 0 dX10_endsTrip_101 rfl rfl ?_
        refine z_getr hB 0 13 8 kM_0 (Nat.le_of_ble_eq_true rfl) vc_10 inlX10 (Nat.le_of_ble_eq_true rfl) rfl (Nat.le_of_ble_eq_true rfl) fl_X10_31 dX10_endsTrip_102 ?_
        refine z_iload_n hB 2 dX10_endsTrip_105 rfl rfl ?_
        refine z_iconst hB dX10_endsTrip_106 zcI_0 ?_
        obtain ⟨h20, h⟩ := z_ckiE h
        obtain ⟨σ21, eσ21, h⟩ := z_letE h
        refine z_iast hB 8 20 kM_8 (Nat.le_of_ble_eq_true rfl) dX10_endsTrip_107 h20 ?_
        refine z_to eσ21 ?_
        obtain ⟨x22, ex22, h⟩ := z_letE h
        refine z_iinc hB 2 [(3, .int x22), (0, .ref (ad 0)), (2, .int y3)] dX10_endsTrip_108 rfl (by rw [zcI_1]; exact ex22) (Nat.le_of_ble_eq_true rfl) rfl ?_
        refine z_goto hB (tgt := 20) dX10_endsTrip_111 (by decide) ?_
        refine z_lv [1, 2, 0] rfl ?_
        exact hk_k5 _ _ h
      refine z_if_le hB (tgt := 101) dX10_endsTrip_56 (by decide) (fun c23 => ?_) (fun c23 => ?_)
      · have h := z_ifT c23 h
        refine z_lv [1, 2, 3] rfl ?_
        exact hj19 _ h
      · have h := z_ifF c23 h
        refine z_aload_n hB 1 dX10_endsTrip_59 rfl rfl ?_
        refine z_dup hB dX10_endsTrip_60 rfl ?_
        refine z_get hB 0 10 kM_0 (Nat.le_of_ble_eq_true rfl) vc_10 inlX10 (Nat.le_of_ble_eq_true rfl) rfl fl_X10_109 dX10_endsTrip_61 ?_
        refine z_iconst hB dX10_endsTrip_64 zcI_2 ?_
        refine z_aload_n hB 1 dX10_endsTrip_65 rfl rfl ?_
        refine z_iload_n hB 3 dX10_endsTrip_66 rfl rfl ?_
        refine z_iconst hB dX10_endsTrip_67 zcI_1 ?_
        obtain ⟨r25, h24, h⟩ := z_b1E h
        refine z_cI hB (z_rV (ι := fun k => k) hB yY_X10_ofCorner (c_X10_ofCorner _ _ _ _ h24) rfl cut_M z_hid kM_0 (Nat.le_of_ble_eq_true rfl) vc_10 rfl rfl rfl (Nat.le_of_ble_eq_true rfl) ml_X10_49 ⟨Nat.le_of_ble_eq_true rfl, Nat.le_of_ble_eq_true rfl⟩ dX10_endsTrip_68) cut_M z_hid ?_
        refine z_toA (z_mro cut_M) ?_
        refine z_imul hB dX10_endsTrip_71 ?_
        refine z_iload hB 0 dX10_endsTrip_72 rfl ?_
        obtain ⟨j27, ej27, h⟩ := z_letE h
        have hj27 : ∀ (y26 : Int32), j27 y26 = some σz → ZW E G A 5 layM 10 ad 96 [(0, .ref (ad 0)), (2, .int y3), (3, .int x6)] [.int y26, .int ((2 : Int32) * r25), .int (σ7 0 10), .ref (ad 0)] σ7 := by
          intro y26 h
          rw [ej27] at h
          refine z_iadd hB dX10_endsTrip_96 ?_
          refine z_iadd hB dX10_endsTrip_97 ?_
          obtain ⟨σ28, eσ28, h⟩ := z_letE h
          refine z_put hB 0 10 kM_0 (Nat.le_of_ble_eq_true rfl) vc_10 inlX10 tyX10 tyX10_ok nmX10 (Nat.le_of_ble_eq_true rfl) rfl rfl (tyX10_ok 10 (Nat.le_of_ble_eq_true rfl)) fl_X10_109 dX10_endsTrip_98 ?_
          refine z_to eσ28 ?_
          exact hj19 _ h
        refine z_if_le hB (tgt := 93) dX10_endsTrip_74 (by decide) (fun c29 => ?_) (fun c29 => ?_)
        · have h := z_ifT c29 h
          refine z_iload hB 0 dX10_endsTrip_93 rfl ?_
          refine z_ineg hB dX10_endsTrip_95 ?_
          refine z_lv [1, 2, 3] rfl ?_
          exact hj27 _ h
        · have h := z_ifF c29 h
          refine z_iload hB 0 dX10_endsTrip_77 rfl ?_
          refine z_iload_n hB 2 dX10_endsTrip_79 rfl rfl ?_
          refine z_aload_n hB 1 dX10_endsTrip_80 rfl rfl ?_
          refine z_getr hB 0 13 8 kM_0 (Nat.le_of_ble_eq_true rfl) vc_10 inlX10 (Nat.le_of_ble_eq_true rfl) rfl (Nat.le_of_ble_eq_true rfl) fl_X10_31 dX10_endsTrip_81 ?_
          refine z_iload_n hB 3 dX10_endsTrip_84 rfl rfl ?_
          obtain ⟨h30, h⟩ := z_ckiE h
          refine z_iald hB 8 20 kM_8 (Nat.le_of_ble_eq_true rfl) dX10_endsTrip_85 h30 ?_
          refine z_iadd hB dX10_endsTrip_86 ?_
          refine z_imul hB dX10_endsTrip_87 ?_
          refine z_iload_n hB 2 dX10_endsTrip_88 rfl rfl ?_
          obtain ⟨h31, h⟩ := z_ckE h
          refine z_idiv hB dX10_endsTrip_89 h31 ?_
          refine z_goto hB (tgt := 96) dX10_endsTrip_90 (by decide) ?_
          refine z_lv [1, 2, 3] rfl ?_
          exact hj27 _ h
  refine z_icmp_ne hB (tgt := 15) dX10_endsTrip_7 (by decide) (fun c32 => ?_) (fun c32 => ?_)
  · have h := z_ifF c32 h
    refine z_bipush hB dX10_endsTrip_15 zcB_10 ?_
    refine z_lv [0] rfl ?_
    exact hj4 _ h
  · have h := z_ifT c32 h
    refine z_bipush hB dX10_endsTrip_10 zcB_20 ?_
    refine z_goto hB (tgt := 17) dX10_endsTrip_12 (by decide) ?_
    refine z_lv [0] rfl ?_
    exact hj4 _ h
def f_X10_complains (p1 : Int32) (σ : z_S) : Option z_S :=
  z_b1 (f_X10_of p1 (11 : Int32) σ) fun r2 =>
  z_b1 (f_X10_lays p1 (11 : Int32) (r2 + (1 : Int32)) σ) fun σ4 =>
  z_b1 (f_X10_of p1 (12 : Int32) σ4) fun r6 =>
  z_b1 (f_X10_lays p1 (12 : Int32) (r6 + (1 : Int32)) σ4) fun σ8 =>
  some σ8
set_option maxRecDepth 100000 in
set_option maxHeartbeats 4000000 in
theorem c_X10_complains (p1 : Int32) (σ σz : z_S) (h : f_X10_complains p1 σ = some σz) : zMet yX10_complains cX10_complains 2 none 1 23 layM 10 (fun ad => [.ref (ad 0), .int p1]) σ (z_QV layM 10 σz) := by
  refine z_headV RX10 (by decide) rfl (fun _ => Nat.le_of_ble_eq_true rfl) (fun E G A ad hB hret => ?_)
  show ZW E G A 2 layM 10 ad 0 [(0, .ref (ad 0)), (1, .int p1)] [] σ
  unfold f_X10_complains at h
  refine z_aload_n hB 0 dX10_complains_0 rfl rfl ?_
  refine z_iload_n hB 1 dX10_complains_1 rfl rfl ?_
  refine z_bipush hB dX10_complains_2 zcB_11 ?_
  refine z_aload_n hB 0 dX10_complains_4 rfl rfl ?_
  refine z_iload_n hB 1 dX10_complains_5 rfl rfl ?_
  refine z_bipush hB dX10_complains_6 zcB_11 ?_
  obtain ⟨r2, h1, h⟩ := z_b1E h
  refine z_cI hB (z_rV (ι := fun k => k) hB yY_X10_of (c_X10_of _ _ _ _ h1) rfl cut_M z_hid kM_0 (Nat.le_of_ble_eq_true rfl) vc_10 rfl rfl rfl (Nat.le_of_ble_eq_true rfl) ml_X10_57 ⟨Nat.le_of_ble_eq_true rfl, Nat.le_of_ble_eq_true rfl⟩ dX10_complains_8) cut_M z_hid ?_
  refine z_toA (z_mro cut_M) ?_
  refine z_iconst hB dX10_complains_11 zcI_1 ?_
  refine z_iadd hB dX10_complains_12 ?_
  obtain ⟨σ4, h3, h⟩ := z_b1E h
  refine z_cV hB (z_rV (ι := fun k => k) hB yY_X10_lays (c_X10_lays _ _ _ _ _ h3) rfl cut_M z_hid kM_0 (Nat.le_of_ble_eq_true rfl) vc_10 rfl rfl rfl (Nat.le_of_ble_eq_true rfl) ml_X10_71 ⟨Nat.le_of_ble_eq_true rfl, Nat.le_of_ble_eq_true rfl⟩ dX10_complains_13) cut_M z_hid ?_
  refine z_toA z_mid ?_
  refine z_aload_n hB 0 dX10_complains_16 rfl rfl ?_
  refine z_iload_n hB 1 dX10_complains_17 rfl rfl ?_
  refine z_bipush hB dX10_complains_18 zcB_12 ?_
  refine z_aload_n hB 0 dX10_complains_20 rfl rfl ?_
  refine z_iload_n hB 1 dX10_complains_21 rfl rfl ?_
  refine z_bipush hB dX10_complains_22 zcB_12 ?_
  obtain ⟨r6, h5, h⟩ := z_b1E h
  refine z_cI hB (z_rV (ι := fun k => k) hB yY_X10_of (c_X10_of _ _ _ _ h5) rfl cut_M z_hid kM_0 (Nat.le_of_ble_eq_true rfl) vc_10 rfl rfl rfl (Nat.le_of_ble_eq_true rfl) ml_X10_57 ⟨Nat.le_of_ble_eq_true rfl, Nat.le_of_ble_eq_true rfl⟩ dX10_complains_24) cut_M z_hid ?_
  refine z_toA (z_mro cut_M) ?_
  refine z_iconst hB dX10_complains_27 zcI_1 ?_
  refine z_iadd hB dX10_complains_28 ?_
  obtain ⟨σ8, h7, h⟩ := z_b1E h
  refine z_cV hB (z_rV (ι := fun k => k) hB yY_X10_lays (c_X10_lays _ _ _ _ _ h7) rfl cut_M z_hid kM_0 (Nat.le_of_ble_eq_true rfl) vc_10 rfl rfl rfl (Nat.le_of_ble_eq_true rfl) ml_X10_71 ⟨Nat.le_of_ble_eq_true rfl, Nat.le_of_ble_eq_true rfl⟩ dX10_complains_29) cut_M z_hid ?_
  refine z_toA z_mid ?_
  exact hret _ _ _ (Option.some.inj h) dX10_complains_32
def f_X10_become (p1 : Int32) (p2 : Int32) (σ : z_S) : Option z_S :=
  z_b1 (f_X10_of p1 p2 σ) fun r2 =>
  z_b1 (f_X10_of p1 (1 : Int32) σ) fun r4 =>
  z_b1 (f_X10_lays p1 p2 (r2 + r4) σ) fun σ6 =>
  some σ6
set_option maxRecDepth 100000 in
set_option maxHeartbeats 4000000 in
theorem c_X10_become (p1 : Int32) (p2 : Int32) (σ σz : z_S) (h : f_X10_become p1 p2 σ = some σz) : zMet yX10_become cX10_become 3 none 1 23 layM 10 (fun ad => [.ref (ad 0), .int p1, .int p2]) σ (z_QV layM 10 σz) := by
  refine z_headV RX10 (by decide) rfl (fun _ => Nat.le_of_ble_eq_true rfl) (fun E G A ad hB hret => ?_)
  show ZW E G A 3 layM 10 ad 0 [(0, .ref (ad 0)), (1, .int p1), (2, .int p2)] [] σ
  unfold f_X10_become at h
  refine z_aload_n hB 0 dX10_become_0 rfl rfl ?_
  refine z_iload_n hB 1 dX10_become_1 rfl rfl ?_
  refine z_iload_n hB 2 dX10_become_2 rfl rfl ?_
  refine z_aload_n hB 0 dX10_become_3 rfl rfl ?_
  refine z_iload_n hB 1 dX10_become_4 rfl rfl ?_
  refine z_iload_n hB 2 dX10_become_5 rfl rfl ?_
  obtain ⟨r2, h1, h⟩ := z_b1E h
  refine z_cI hB (z_rV (ι := fun k => k) hB yY_X10_of (c_X10_of _ _ _ _ h1) rfl cut_M z_hid kM_0 (Nat.le_of_ble_eq_true rfl) vc_10 rfl rfl rfl (Nat.le_of_ble_eq_true rfl) ml_X10_57 ⟨Nat.le_of_ble_eq_true rfl, Nat.le_of_ble_eq_true rfl⟩ dX10_become_6) cut_M z_hid ?_
  refine z_toA (z_mro cut_M) ?_
  refine z_aload_n hB 0 dX10_become_9 rfl rfl ?_
  refine z_iload_n hB 1 dX10_become_10 rfl rfl ?_
  refine z_iconst hB dX10_become_11 zcI_1 ?_
  obtain ⟨r4, h3, h⟩ := z_b1E h
  refine z_cI hB (z_rV (ι := fun k => k) hB yY_X10_of (c_X10_of _ _ _ _ h3) rfl cut_M z_hid kM_0 (Nat.le_of_ble_eq_true rfl) vc_10 rfl rfl rfl (Nat.le_of_ble_eq_true rfl) ml_X10_57 ⟨Nat.le_of_ble_eq_true rfl, Nat.le_of_ble_eq_true rfl⟩ dX10_become_12) cut_M z_hid ?_
  refine z_toA (z_mro cut_M) ?_
  refine z_iadd hB dX10_become_15 ?_
  obtain ⟨σ6, h5, h⟩ := z_b1E h
  refine z_cV hB (z_rV (ι := fun k => k) hB yY_X10_lays (c_X10_lays _ _ _ _ _ h5) rfl cut_M z_hid kM_0 (Nat.le_of_ble_eq_true rfl) vc_10 rfl rfl rfl (Nat.le_of_ble_eq_true rfl) ml_X10_71 ⟨Nat.le_of_ble_eq_true rfl, Nat.le_of_ble_eq_true rfl⟩ dX10_become_16) cut_M z_hid ?_
  refine z_toA z_mid ?_
  exact hret _ _ _ (Option.some.inj h) dX10_become_19
def f_X10_delivers (p1 : Int32) (p2 : Int32) (p3 : Int32) (σ : z_S) : Option (Int32 × z_S) :=
  z_b1 (f_X10_isOut p2 p3 σ) fun r2 =>
  z_let (fun (_ : Unit) => z_let (fun (y4 : Int32) => z_b1 (f_X10_addsCarrier p1 (2 : Int32) y4 σ) fun σ7 =>
  z_b1 (f_X10_become p2 (6 : Int32) σ7) fun σ9 =>
  z_b1 (f_X10_lays p2 (13 : Int32) (1 : Int32) σ9) fun σ11 =>
  z_b1 (f_X10_of p2 (1 : Int32) σ11) fun r13 =>
  z_b1 (f_X10_addsCarrier p1 (6 : Int32) r13 σ11) fun σ15 =>
  some ((1 : Int32), σ15)) fun j5 =>
  if r2 = (0 : Int32) then
  (j5 (0 : Int32))
  else
  (j5 (-1 : Int32))) fun j3 =>
  if r2 = (0 : Int32) then
  (j3 ())
  else
  (z_b1 (f_X10_ofCarrier p1 (2 : Int32) σ) fun r19 =>
  if r19 = (0 : Int32) then
  (z_b1 (f_X10_become p2 (8 : Int32) σ) fun σ22 =>
  z_b1 (f_X10_complains p2 σ22) fun σ24 =>
  some ((0 : Int32), σ24))
  else
  (j3 ()))
set_option maxRecDepth 100000 in
set_option maxHeartbeats 4000000 in
theorem c_X10_delivers (p1 : Int32) (p2 : Int32) (p3 : Int32) (σ : z_S) (r : Int32) (σz : z_S) (h : f_X10_delivers p1 p2 p3 σ = some (r, σz)) : zMet yX10_delivers cX10_delivers 5 (some .boolean) 2 45 layM 10 (fun ad => [.ref (ad 0), .int p1, .int p2, .int p3]) σ (z_QI layM 10 r σz) := by
  refine z_headI RX10 (by decide) rfl (fun _ => Nat.le_of_ble_eq_true rfl) (fun E G A ad hB hret => ?_)
  show ZW E G A 5 layM 10 ad 0 [(0, .ref (ad 0)), (1, .int p1), (2, .int p2), (3, .int p3)] [] σ
  unfold f_X10_delivers at h
  refine z_aload_n hB 0 dX10_delivers_0 rfl rfl ?_
  refine z_iload_n hB 2 dX10_delivers_1 rfl rfl ?_
  refine z_iload_n hB 3 dX10_delivers_2 rfl rfl ?_
  obtain ⟨r2, h1, h⟩ := z_b1E h
  refine z_cI hB (z_rV (ι := fun k => k) hB yY_X10_isOut (c_X10_isOut _ _ _ _ h1) rfl cut_M z_hid kM_0 (Nat.le_of_ble_eq_true rfl) vc_10 rfl rfl rfl (Nat.le_of_ble_eq_true rfl) ml_X10_112 ⟨Nat.le_of_ble_eq_true rfl, Nat.le_of_ble_eq_true rfl⟩ dX10_delivers_3) cut_M z_hid ?_
  refine z_toA (z_mro cut_M) ?_
  refine z_istore hB [(4, .int r2), (0, .ref (ad 0)), (1, .int p1), (2, .int p2), (3, .int p3)] dX10_delivers_6 (Nat.le_of_ble_eq_true rfl) rfl rfl ?_
  refine z_iload hB 0 dX10_delivers_8 rfl ?_
  obtain ⟨j3, ej3, h⟩ := z_letE h
  have hj3 : ∀ (_ : Unit), j3 () = some (r, σz) → ZW E G A 5 layM 10 ad 36 [(0, .ref (ad 0)), (1, .int p1), (2, .int p2), (4, .int r2)] [] σ := by
    intro _ h
    rw [ej3] at h
    refine z_aload_n hB 0 dX10_delivers_36 rfl rfl ?_
    refine z_iload_n hB 1 dX10_delivers_37 rfl rfl ?_
    refine z_iconst hB dX10_delivers_38 zcI_2 ?_
    refine z_iload hB 3 dX10_delivers_39 rfl ?_
    obtain ⟨j5, ej5, h⟩ := z_letE h
    have hj5 : ∀ (y4 : Int32), j5 y4 = some (r, σz) → ZW E G A 5 layM 10 ad 49 [(0, .ref (ad 0)), (1, .int p1), (2, .int p2)] [.int y4, .int ((2 : Int32)), .int p1, .ref (ad 0)] σ := by
      intro y4 h
      rw [ej5] at h
      obtain ⟨σ7, h6, h⟩ := z_b1E h
      refine z_cV hB (z_rV (ι := fun k => k) hB yY_X10_addsCarrier (c_X10_addsCarrier _ _ _ _ _ h6) rfl cut_M z_hid kM_0 (Nat.le_of_ble_eq_true rfl) vc_10 rfl rfl rfl (Nat.le_of_ble_eq_true rfl) ml_X10_82 ⟨Nat.le_of_ble_eq_true rfl, Nat.le_of_ble_eq_true rfl⟩ dX10_delivers_49) cut_M z_hid ?_
      refine z_toA z_mid ?_
      refine z_aload_n hB 0 dX10_delivers_52 rfl rfl ?_
      refine z_iload_n hB 2 dX10_delivers_53 rfl rfl ?_
      refine z_bipush hB dX10_delivers_54 zcB_6 ?_
      obtain ⟨σ9, h8, h⟩ := z_b1E h
      refine z_cV hB (z_rV (ι := fun k => k) hB yY_X10_become (c_X10_become _ _ _ _ h8) rfl cut_M z_hid kM_0 (Nat.le_of_ble_eq_true rfl) vc_10 rfl rfl rfl (Nat.le_of_ble_eq_true rfl) ml_X10_115 ⟨Nat.le_of_ble_eq_true rfl, Nat.le_of_ble_eq_true rfl⟩ dX10_delivers_56) cut_M z_hid ?_
      refine z_toA z_mid ?_
      refine z_aload_n hB 0 dX10_delivers_59 rfl rfl ?_
      refine z_iload_n hB 2 dX10_delivers_60 rfl rfl ?_
      refine z_bipush hB dX10_delivers_61 zcB_13 ?_
      refine z_iconst hB dX10_delivers_63 zcI_1 ?_
      obtain ⟨σ11, h10, h⟩ := z_b1E h
      refine z_cV hB (z_rV (ι := fun k => k) hB yY_X10_lays (c_X10_lays _ _ _ _ _ h10) rfl cut_M z_hid kM_0 (Nat.le_of_ble_eq_true rfl) vc_10 rfl rfl rfl (Nat.le_of_ble_eq_true rfl) ml_X10_71 ⟨Nat.le_of_ble_eq_true rfl, Nat.le_of_ble_eq_true rfl⟩ dX10_delivers_64) cut_M z_hid ?_
      refine z_toA z_mid ?_
      refine z_aload_n hB 0 dX10_delivers_67 rfl rfl ?_
      refine z_iload_n hB 1 dX10_delivers_68 rfl rfl ?_
      refine z_bipush hB dX10_delivers_69 zcB_6 ?_
      refine z_aload_n hB 0 dX10_delivers_71 rfl rfl ?_
      refine z_iload_n hB 2 dX10_delivers_72 rfl rfl ?_
      refine z_iconst hB dX10_delivers_73 zcI_1 ?_
      obtain ⟨r13, h12, h⟩ := z_b1E h
      refine z_cI hB (z_rV (ι := fun k => k) hB yY_X10_of (c_X10_of _ _ _ _ h12) rfl cut_M z_hid kM_0 (Nat.le_of_ble_eq_true rfl) vc_10 rfl rfl rfl (Nat.le_of_ble_eq_true rfl) ml_X10_57 ⟨Nat.le_of_ble_eq_true rfl, Nat.le_of_ble_eq_true rfl⟩ dX10_delivers_74) cut_M z_hid ?_
      refine z_toA (z_mro cut_M) ?_
      obtain ⟨σ15, h14, h⟩ := z_b1E h
      refine z_cV hB (z_rV (ι := fun k => k) hB yY_X10_addsCarrier (c_X10_addsCarrier _ _ _ _ _ h14) rfl cut_M z_hid kM_0 (Nat.le_of_ble_eq_true rfl) vc_10 rfl rfl rfl (Nat.le_of_ble_eq_true rfl) ml_X10_82 ⟨Nat.le_of_ble_eq_true rfl, Nat.le_of_ble_eq_true rfl⟩ dX10_delivers_77) cut_M z_hid ?_
      refine z_toA z_mid ?_
      refine z_iconst hB dX10_delivers_80 zcI_1 ?_
      obtain ⟨h1, h2⟩ := z_prE h
      exact hret _ _ _ _ h1 h2 rfl dX10_delivers_81
    refine z_if_eq hB (tgt := 48) dX10_delivers_41 (by decide) (fun c16 => ?_) (fun c16 => ?_)
    · have h := z_ifT c16 h
      refine z_iconst hB dX10_delivers_48 zcI_0 ?_
      refine z_lv [0, 1, 2] rfl ?_
      exact hj5 _ h
    · have h := z_ifF c16 h
      refine z_iconst hB dX10_delivers_44 zcI_m1 ?_
      refine z_goto hB (tgt := 49) dX10_delivers_45 (by decide) ?_
      refine z_lv [0, 1, 2] rfl ?_
      exact hj5 _ h
  refine z_if_eq hB (tgt := 36) dX10_delivers_10 (by decide) (fun c17 => ?_) (fun c17 => ?_)
  · have h := z_ifT c17 h
    refine z_lv [1, 2, 3, 0] rfl ?_
    exact hj3 () h
  · have h := z_ifF c17 h
    refine z_aload_n hB 1 dX10_delivers_13 rfl rfl ?_
    refine z_iload_n hB 2 dX10_delivers_14 rfl rfl ?_
    refine z_iconst hB dX10_delivers_15 zcI_2 ?_
    obtain ⟨r19, h18, h⟩ := z_b1E h
    refine z_cI hB (z_rV (ι := fun k => k) hB yY_X10_ofCarrier (c_X10_ofCarrier _ _ _ _ h18) rfl cut_M z_hid kM_0 (Nat.le_of_ble_eq_true rfl) vc_10 rfl rfl rfl (Nat.le_of_ble_eq_true rfl) ml_X10_85 ⟨Nat.le_of_ble_eq_true rfl, Nat.le_of_ble_eq_true rfl⟩ dX10_delivers_16) cut_M z_hid ?_
    refine z_toA (z_mro cut_M) ?_
    refine z_if_ne hB (tgt := 36) dX10_delivers_19 (by decide) (fun c20 => ?_) (fun c20 => ?_)
    · have h := z_ifF c20 h
      refine z_lv [1, 2, 3, 0] rfl ?_
      exact hj3 () h
    · have h := z_ifT c20 h
      refine z_aload_n hB 1 dX10_delivers_22 rfl rfl ?_
      refine z_iload_n hB 3 dX10_delivers_23 rfl rfl ?_
      refine z_bipush hB dX10_delivers_24 zcB_8 ?_
      obtain ⟨σ22, h21, h⟩ := z_b1E h
      refine z_cV hB (z_rV (ι := fun k => k) hB yY_X10_become (c_X10_become _ _ _ _ h21) rfl cut_M z_hid kM_0 (Nat.le_of_ble_eq_true rfl) vc_10 rfl rfl rfl (Nat.le_of_ble_eq_true rfl) ml_X10_115 ⟨Nat.le_of_ble_eq_true rfl, Nat.le_of_ble_eq_true rfl⟩ dX10_delivers_26) cut_M z_hid ?_
      refine z_toA z_mid ?_
      refine z_aload_n hB 1 dX10_delivers_29 rfl rfl ?_
      refine z_iload_n hB 3 dX10_delivers_30 rfl rfl ?_
      obtain ⟨σ24, h23, h⟩ := z_b1E h
      refine z_cV hB (z_rV (ι := fun k => k) hB yY_X10_complains (c_X10_complains _ _ _ h23) rfl cut_M z_hid kM_0 (Nat.le_of_ble_eq_true rfl) vc_10 rfl rfl rfl (Nat.le_of_ble_eq_true rfl) ml_X10_119 ⟨Nat.le_of_ble_eq_true rfl, Nat.le_of_ble_eq_true rfl⟩ dX10_delivers_31) cut_M z_hid ?_
      refine z_toA z_mid ?_
      refine z_iconst hB dX10_delivers_34 zcI_0 ?_
      obtain ⟨h1, h2⟩ := z_prE h
      exact hret _ _ _ _ h1 h2 rfl dX10_delivers_35
def lb_X10_goes_65 (p1 : Int32) (p2 : Int32) (p3 : Int32) (r2 : Int32) (k13 : Int32 → Int32 → Int32 → z_S → Option (Int32 × z_S)) (x14 : Int32) (x15 : Int32) (x16 : Int32) (σ17 : z_S) : Option (Int32 × z_S) :=
  z_cki (1 : Int32) 537 <|
  if (σ17 1 (1 : Int32).toNatClampNeg) ≤ x16 then
  (z_b1 (f_X10_endsTrip p1 σ17) fun σ21 =>
  some (x15, σ21))
  else
  (z_cki x16 24 <|
  z_let (σ17 7 x16.toNatClampNeg) fun x23 =>
  z_b1 (f_X10_weightOn x23 p2 σ17) fun r25 =>
  z_b1 (f_X10_of x23 (3 : Int32) σ17) fun r27 =>
  z_let (fun (y28 : Int32) => z_let (fun (σ30 : z_S) => z_let (fun (y32 : Int32) (y33 : Int32) (σ34 : z_S) => z_let (x16 + (1 : Int32)) fun x36 =>
  k13 y32 y33 x36 σ34) fun j35 =>
  if y28 = (0 : Int32) then
  (j35 x14 x15 σ30)
  else
  (if r2 < r25 then
  (j35 x14 x15 σ30)
  else
  (z_let (fun (σ39 : z_S) => z_let (fun (y41 : Int32) => z_let (fun (y43 : Int32) => z_let (z_u σ39 0 9 ((σ39 0 9) + y43)) fun σ45 =>
  z_let (fun (y46 : Int32) => z_b1 (f_X10_of x23 (0 : Int32) σ45) fun r49 =>
  z_b1 (f_X10_loads r49 r25 σ45) fun σ51 =>
  z_b1 (f_X10_of x23 (1 : Int32) σ51) fun r53 =>
  z_let (z_u σ51 0 11 ((σ51 0 11) + r53)) fun σ54 =>
  z_b1 (f_X10_isOut x23 p2 σ54) fun r56 =>
  z_let (fun (y57 : Int32) => z_let (z_u σ54 0 12 ((σ54 0 12) + y57)) fun σ59 =>
  z_let (fun (y60 : Int32) (σ61 : z_S) => z_let (x15 + y60) fun x63 =>
  j35 y46 x63 σ61) fun j62 =>
  z_let (fun (σ64 : z_S) => j62 (0 : Int32) σ64) fun j65 =>
  if p3 = (0 : Int32) then
  (j65 σ59)
  else
  (z_b2 (f_X10_delivers p1 x23 p2 σ59) fun r69 σ68 =>
  if r69 = (0 : Int32) then
  (j65 σ68)
  else
  (z_b1 (f_X10_of x23 (1 : Int32) σ68) fun r72 =>
  j62 r72 σ68))) fun j58 =>
  if r56 = (0 : Int32) then
  (j58 (0 : Int32))
  else
  (j58 (1 : Int32))) fun j47 =>
  if y41 = (0 : Int32) then
  (j47 (x14 + r25))
  else
  (j47 r25)) fun j44 =>
  if y41 = (0 : Int32) then
  (j44 (0 : Int32))
  else
  (j44 (1 : Int32))) fun j42 =>
  z_let (fun (_ : Unit) => j42 (1 : Int32)) fun j76 =>
  if (σ39 0 9) = (0 : Int32) then
  (j76 ())
  else
  (if (x14 + r25) ≤ r2 then
  (j42 (0 : Int32))
  else
  (j76 ()))) fun j40 =>
  if (σ30 0 9) ≤ (0 : Int32) then
  (j40 σ30)
  else
  (if (x14 + r25) ≤ r2 then
  (j40 σ30)
  else
  (z_b1 (f_X10_endsTrip p1 σ30) fun σ82 =>
  j40 σ82))))) fun j31 =>
  if y28 = (0 : Int32) then
  (j31 σ17)
  else
  (if r25 ≤ r2 then
  (j31 σ17)
  else
  (if p3 = (0 : Int32) then
  (j31 σ17)
  else
  (z_b1 (f_X10_become x23 (9 : Int32) σ17) fun σ87 =>
  z_b1 (f_X10_complains x23 σ87) fun σ89 =>
  j31 σ89)))) fun j29 =>
  z_let (fun (_ : Unit) => j29 (0 : Int32)) fun j90 =>
  if r27 = p1 then
  (z_b1 (f_X10_isPaused x23 p2 σ17) fun r93 =>
  if r93 = (0 : Int32) then
  (j29 (1 : Int32))
  else
  (j90 ()))
  else
  (j90 ()))
def lb_X10_goes_41 (p1 : Int32) (p2 : Int32) (p3 : Int32) (r2 : Int32) (k9 : Int32 → z_S → Option (Int32 × z_S)) (x10 : Int32) (σ11 : z_S) : Option (Int32 × z_S) :=
  if (20 : Int32) ≤ x10 then
  (z_lp4 (lb_X10_goes_65 p1 p2 p3 r2) z_Fu (0 : Int32) (0 : Int32) (0 : Int32) σ11)
  else
  (z_cki x10 20 <|
  z_let (z_u σ11 8 x10.toNatClampNeg ((0 : Int32))) fun σ96 =>
  z_let (x10 + (1 : Int32)) fun x97 =>
  k9 x97 σ96)
def f_X10_goes (p1 : Int32) (p2 : Int32) (p3 : Int32) (σ : z_S) : Option (Int32 × z_S) :=
  z_b1 (f_X10_ofCarrier p1 (1 : Int32) σ) fun r2 =>
  z_let (z_u σ 0 9 ((0 : Int32))) fun σ3 =>
  z_let (z_u σ3 0 10 ((0 : Int32))) fun σ4 =>
  z_let (z_u σ4 0 11 ((0 : Int32))) fun σ5 =>
  z_let (z_u σ5 0 12 ((0 : Int32))) fun σ6 =>
  z_b1 (f_X10_laysRow σ6) fun σ8 =>
  z_lp2 (lb_X10_goes_41 p1 p2 p3 r2) z_Fu (0 : Int32) σ8
set_option maxRecDepth 100000 in
set_option maxHeartbeats 4000000 in
theorem c_X10_goes (p1 : Int32) (p2 : Int32) (p3 : Int32) (σ : z_S) (r : Int32) (σz : z_S) (h : f_X10_goes p1 p2 p3 σ = some (r, σz)) : zMet yX10_goes cX10_goes 12 (some .int) 3 69 layM 10 (fun ad => [.ref (ad 0), .int p1, .int p2, .int p3]) σ (z_QI layM 10 r σz) := by
  refine z_headI RX10 (by decide) rfl (fun _ => Nat.le_of_ble_eq_true rfl) (fun E G A ad hB hret => ?_)
  show ZW E G A 12 layM 10 ad 0 [(0, .ref (ad 0)), (1, .int p1), (2, .int p2), (3, .int p3)] [] σ
  unfold f_X10_goes at h
  refine z_aload_n hB 0 dX10_goes_0 rfl rfl ?_
  refine z_iload_n hB 1 dX10_goes_1 rfl rfl ?_
  refine z_iconst hB dX10_goes_2 zcI_1 ?_
  obtain ⟨r2, h1, h⟩ := z_b1E h
  refine z_cI hB (z_rV (ι := fun k => k) hB yY_X10_ofCarrier (c_X10_ofCarrier _ _ _ _ h1) rfl cut_M z_hid kM_0 (Nat.le_of_ble_eq_true rfl) vc_10 rfl rfl rfl (Nat.le_of_ble_eq_true rfl) ml_X10_85 ⟨Nat.le_of_ble_eq_true rfl, Nat.le_of_ble_eq_true rfl⟩ dX10_goes_3) cut_M z_hid ?_
  refine z_toA (z_mro cut_M) ?_
  refine z_istore hB [(4, .int r2), (0, .ref (ad 0)), (1, .int p1), (2, .int p2), (3, .int p3)] dX10_goes_6 (Nat.le_of_ble_eq_true rfl) rfl rfl ?_
  refine z_iconst hB dX10_goes_8 zcI_0 ?_
  refine z_istore hB [(5, .int ((0 : Int32))), (4, .int r2), (0, .ref (ad 0)), (1, .int p1), (2, .int p2), (3, .int p3)] dX10_goes_9 (Nat.le_of_ble_eq_true rfl) rfl rfl ?_
  refine z_iconst hB dX10_goes_11 zcI_0 ?_
  refine z_istore hB [(6, .int ((0 : Int32))), (5, .int ((0 : Int32))), (4, .int r2), (0, .ref (ad 0)), (1, .int p1), (2, .int p2), (3, .int p3)] dX10_goes_12 (Nat.le_of_ble_eq_true rfl) rfl rfl ?_
  refine z_aload_n hB 3 dX10_goes_14 rfl rfl ?_
  refine z_iconst hB dX10_goes_15 zcI_0 ?_
  obtain ⟨σ3, eσ3, h⟩ := z_letE h
  refine z_put hB 0 9 kM_0 (Nat.le_of_ble_eq_true rfl) vc_10 inlX10 tyX10 tyX10_ok nmX10 (Nat.le_of_ble_eq_true rfl) rfl rfl (tyX10_ok 9 (Nat.le_of_ble_eq_true rfl)) fl_X10_123 dX10_goes_16 ?_
  refine z_to eσ3 ?_
  refine z_aload_n hB 3 dX10_goes_19 rfl rfl ?_
  refine z_iconst hB dX10_goes_20 zcI_0 ?_
  obtain ⟨σ4, eσ4, h⟩ := z_letE h
  refine z_put hB 0 10 kM_0 (Nat.le_of_ble_eq_true rfl) vc_10 inlX10 tyX10 tyX10_ok nmX10 (Nat.le_of_ble_eq_true rfl) rfl rfl (tyX10_ok 10 (Nat.le_of_ble_eq_true rfl)) fl_X10_109 dX10_goes_21 ?_
  refine z_to eσ4 ?_
  refine z_aload_n hB 3 dX10_goes_24 rfl rfl ?_
  refine z_iconst hB dX10_goes_25 zcI_0 ?_
  obtain ⟨σ5, eσ5, h⟩ := z_letE h
  refine z_put hB 0 11 kM_0 (Nat.le_of_ble_eq_true rfl) vc_10 inlX10 tyX10 tyX10_ok nmX10 (Nat.le_of_ble_eq_true rfl) rfl rfl (tyX10_ok 11 (Nat.le_of_ble_eq_true rfl)) fl_X10_126 dX10_goes_26 ?_
  refine z_to eσ5 ?_
  refine z_aload_n hB 3 dX10_goes_29 rfl rfl ?_
  refine z_iconst hB dX10_goes_30 zcI_0 ?_
  obtain ⟨σ6, eσ6, h⟩ := z_letE h
  refine z_put hB 0 12 kM_0 (Nat.le_of_ble_eq_true rfl) vc_10 inlX10 tyX10 tyX10_ok nmX10 (Nat.le_of_ble_eq_true rfl) rfl rfl (tyX10_ok 12 (Nat.le_of_ble_eq_true rfl)) fl_X10_129 dX10_goes_31 ?_
  refine z_to eσ6 ?_
  refine z_aload_n hB 3 dX10_goes_34 rfl rfl ?_
  obtain ⟨σ8, h7, h⟩ := z_b1E h
  refine z_cV hB (z_rV (ι := fun k => k) hB yY_X10_laysRow (c_X10_laysRow _ _ h7) rfl cut_M z_hid kM_0 (Nat.le_of_ble_eq_true rfl) vc_10 rfl rfl rfl (Nat.le_of_ble_eq_true rfl) ml_X10_132 ⟨Nat.le_of_ble_eq_true rfl, Nat.le_of_ble_eq_true rfl⟩ dX10_goes_35) cut_M z_hid ?_
  refine z_toA z_mid ?_
  refine z_iconst hB dX10_goes_38 zcI_0 ?_
  refine z_istore hB [(7, .int ((0 : Int32))), (6, .int ((0 : Int32))), (5, .int ((0 : Int32))), (4, .int r2), (0, .ref (ad 0)), (1, .int p1), (2, .int p2), (3, .int p3)] dX10_goes_39 (Nat.le_of_ble_eq_true rfl) rfl rfl ?_
  refine z_lv [4, 5, 6, 7, 3, 2, 1, 0] rfl ?_
  refine z_lpr2 (g := fun x10 σ11 => ZW E G A 12 layM 10 ad 41 [(0, .ref (ad 0)), (1, .int p1), (2, .int p2), (3, .int p3), (4, .int r2), (5, .int ((0 : Int32))), (6, .int ((0 : Int32))), (7, .int x10)] [] σ11) (fun k9 x10 σ11 hk_k9 h => ?_) _ _ _ h
  show ZW E G A 12 layM 10 ad 41 [(0, .ref (ad 0)), (1, .int p1), (2, .int p2), (3, .int p3), (4, .int r2), (5, .int ((0 : Int32))), (6, .int ((0 : Int32))), (7, .int x10)] [] σ11
  unfold lb_X10_goes_41 at h
  refine z_iload hB 7 dX10_goes_41 rfl ?_
  refine z_bipush hB dX10_goes_43 zcB_20 ?_
  refine z_icmp_ge hB (tgt := 62) dX10_goes_45 (by decide) (fun c12 => ?_) (fun c12 => ?_)
  · have h := z_ifT c12 h
    refine z_iconst hB dX10_goes_62 zcI_0 ?_
    refine z_istore hB [(7, .int ((0 : Int32))), (0, .ref (ad 0)), (1, .int p1), (2, .int p2), (3, .int p3), (4, .int r2), (5, .int ((0 : Int32))), (6, .int ((0 : Int32)))] dX10_goes_63 (Nat.le_of_ble_eq_true rfl) rfl rfl ?_
    refine z_lv [1, 2, 3, 4, 5, 6, 7, 0] rfl ?_
    refine z_lpr4 (g := fun x14 x15 x16 σ17 => ZW E G A 12 layM 10 ad 65 [(0, .ref (ad 0)), (1, .int p1), (2, .int p2), (3, .int p3), (4, .int r2), (5, .int x14), (6, .int x15), (7, .int x16)] [] σ17) (fun k13 x14 x15 x16 σ17 hk_k13 h => ?_) _ _ _ _ _ h
    show ZW E G A 12 layM 10 ad 65 [(0, .ref (ad 0)), (1, .int p1), (2, .int p2), (3, .int p3), (4, .int r2), (5, .int x14), (6, .int x15), (7, .int x16)] [] σ17
    unfold lb_X10_goes_65 at h
    refine z_iload hB 7 dX10_goes_65 rfl ?_
    refine z_aload_n hB 0 dX10_goes_67 rfl rfl ?_
    refine z_getr hB 0 0 1 kM_0 (Nat.le_of_ble_eq_true rfl) vc_10 inlX10 (Nat.le_of_ble_eq_true rfl) rfl (Nat.le_of_ble_eq_true rfl) fl_X10_7 dX10_goes_68 ?_
    refine z_iconst hB dX10_goes_71 zcI_1 ?_
    obtain ⟨h18, h⟩ := z_ckiE h
    refine z_iald hB 1 537 kM_1 (Nat.le_of_ble_eq_true rfl) dX10_goes_72 h18 ?_
    refine z_icmp_ge hB (tgt := 336) dX10_goes_73 (by decide) (fun c19 => ?_) (fun c19 => ?_)
    · have h := z_ifT c19 h
      refine z_aload_n hB 0 dX10_goes_336 rfl rfl ?_
      refine z_iload_n hB 1 dX10_goes_337 rfl rfl ?_
      obtain ⟨σ21, h20, h⟩ := z_b1E h
      refine z_cV hB (z_rV (ι := fun k => k) hB yY_X10_endsTrip (c_X10_endsTrip _ _ _ h20) rfl cut_M z_hid kM_0 (Nat.le_of_ble_eq_true rfl) vc_10 rfl rfl rfl (Nat.le_of_ble_eq_true rfl) ml_X10_141 ⟨Nat.le_of_ble_eq_true rfl, Nat.le_of_ble_eq_true rfl⟩ dX10_goes_338) cut_M z_hid ?_
      refine z_toA z_mid ?_
      refine z_iload hB 6 dX10_goes_341 rfl ?_
      obtain ⟨h1, h2⟩ := z_prE h
      exact hret _ _ _ _ h1 h2 rfl dX10_goes_343
    · have h := z_ifF c19 h
      refine z_aload_n hB 0 dX10_goes_76 rfl rfl ?_
      refine z_getr hB 0 8 7 kM_0 (Nat.le_of_ble_eq_true rfl) vc_10 inlX10 (Nat.le_of_ble_eq_true rfl) rfl (Nat.le_of_ble_eq_true rfl) fl_X10_28 dX10_goes_77 ?_
      refine z_iload hB 7 dX10_goes_80 rfl ?_
      obtain ⟨h22, h⟩ := z_ckiE h
      refine z_iald hB 7 24 kM_7 (Nat.le_of_ble_eq_true rfl) dX10_goes_82 h22 ?_
      obtain ⟨x23, ex23, h⟩ := z_letE h
      refine z_istore hB [(8, .int x23), (0, .ref (ad 0)), (1, .int p1), (2, .int p2), (3, .int p3), (4, .int r2), (5, .int x14), (6, .int x15), (7, .int x16)] dX10_goes_83 (Nat.le_of_ble_eq_true rfl) ex23 rfl ?_
      refine z_aload_n hB 1 dX10_goes_85 rfl rfl ?_
      refine z_iload hB 0 dX10_goes_86 rfl ?_
      refine z_iload_n hB 3 dX10_goes_88 rfl rfl ?_
      obtain ⟨r25, h24, h⟩ := z_b1E h
      refine z_cI hB (z_rV (ι := fun k => k) hB yY_X10_weightOn (c_X10_weightOn _ _ _ _ h24) rfl cut_M z_hid kM_0 (Nat.le_of_ble_eq_true rfl) vc_10 rfl rfl rfl (Nat.le_of_ble_eq_true rfl) ml_X10_135 ⟨Nat.le_of_ble_eq_true rfl, Nat.le_of_ble_eq_true rfl⟩ dX10_goes_89) cut_M z_hid ?_
      refine z_toA (z_mro cut_M) ?_
      refine z_istore hB [(9, .int r25), (8, .int x23), (0, .ref (ad 0)), (1, .int p1), (2, .int p2), (3, .int p3), (4, .int r2), (5, .int x14), (6, .int x15), (7, .int x16)] dX10_goes_92 (Nat.le_of_ble_eq_true rfl) rfl rfl ?_
      refine z_aload_n hB 2 dX10_goes_94 rfl rfl ?_
      refine z_iload hB 1 dX10_goes_95 rfl ?_
      refine z_iconst hB dX10_goes_97 zcI_3 ?_
      obtain ⟨r27, h26, h⟩ := z_b1E h
      refine z_cI hB (z_rV (ι := fun k => k) hB yY_X10_of (c_X10_of _ _ _ _ h26) rfl cut_M z_hid kM_0 (Nat.le_of_ble_eq_true rfl) vc_10 rfl rfl rfl (Nat.le_of_ble_eq_true rfl) ml_X10_57 ⟨Nat.le_of_ble_eq_true rfl, Nat.le_of_ble_eq_true rfl⟩ dX10_goes_98) cut_M z_hid ?_
      refine z_toA (z_mro cut_M) ?_
      refine z_iload_n hB 3 dX10_goes_101 rfl rfl ?_
      obtain ⟨j29, ej29, h⟩ := z_letE h
      have hj29 : ∀ (y28 : Int32), j29 y28 = some (r, σz) → ZW E G A 12 layM 10 ad 120 [(0, .ref (ad 0)), (1, .int p1), (2, .int p2), (3, .int p3), (4, .int r2), (5, .int x14), (6, .int x15), (7, .int x16), (8, .int x23), (9, .int r25)] [.int y28] σ17 := by
        intro y28 h
        rw [ej29] at h
        refine z_istore hB [(10, .int y28), (0, .ref (ad 0)), (1, .int p1), (2, .int p2), (3, .int p3), (4, .int r2), (5, .int x14), (6, .int x15), (7, .int x16), (8, .int x23), (9, .int r25)] dX10_goes_120 (Nat.le_of_ble_eq_true rfl) rfl rfl ?_
        refine z_iload hB 0 dX10_goes_122 rfl ?_
        obtain ⟨j31, ej31, h⟩ := z_letE h
        have hj31 : ∀ (σ30 : z_S), j31 σ30 = some (r, σz) → ZW E G A 12 layM 10 ad 152 [(0, .ref (ad 0)), (1, .int p1), (2, .int p2), (3, .int p3), (4, .int r2), (5, .int x14), (6, .int x15), (7, .int x16), (8, .int x23), (9, .int r25), (10, .int y28)] [] σ30 := by
          intro σ30 h
          rw [ej31] at h
          refine z_iload hB 10 dX10_goes_152 rfl ?_
          obtain ⟨j35, ej35, h⟩ := z_letE h
          have hj35 : ∀ (y32 : Int32) (y33 : Int32) (σ34 : z_S), j35 y32 y33 σ34 = some (r, σz) → ZW E G A 12 layM 10 ad 330 [(0, .ref (ad 0)), (1, .int p1), (2, .int p2), (3, .int p3), (4, .int r2), (5, .int y32), (6, .int y33), (7, .int x16)] [] σ34 := by
            intro y32 y33 σ34 h
            rw [ej35] at h
            obtain ⟨x36, ex36, h⟩ := z_letE h
            refine z_iinc hB 7 [(7, .int x36), (0, .ref (ad 0)), (1, .int p1), (2, .int p2), (3, .int p3), (4, .int r2), (5, .int y32), (6, .int y33)] dX10_goes_330 rfl (by rw [zcI_1]; exact ex36) (Nat.le_of_ble_eq_true rfl) rfl ?_
            refine z_goto hB (tgt := 65) dX10_goes_333 (by decide) ?_
            refine z_lv [1, 2, 3, 4, 5, 6, 7, 0] rfl ?_
            exact hk_k13 _ _ _ _ h
          refine z_if_eq hB (tgt := 330) dX10_goes_154 (by decide) (fun c37 => ?_) (fun c37 => ?_)
          · have h := z_ifT c37 h
            refine z_lv [0, 1, 2, 3, 4, 5, 6, 7] rfl ?_
            exact hj35 _ _ _ h
          · have h := z_ifF c37 h
            refine z_iload hB 9 dX10_goes_157 rfl ?_
            refine z_iload hB 4 dX10_goes_159 rfl ?_
            refine z_icmp_gt hB (tgt := 330) dX10_goes_161 (by decide) (fun c38 => ?_) (fun c38 => ?_)
            · have h := z_ifT c38 h
              refine z_lv [0, 1, 2, 3, 4, 5, 6, 7] rfl ?_
              exact hj35 _ _ _ h
            · have h := z_ifF c38 h
              refine z_aload_n hB 0 dX10_goes_164 rfl rfl ?_
              refine z_get hB 0 9 kM_0 (Nat.le_of_ble_eq_true rfl) vc_10 inlX10 (Nat.le_of_ble_eq_true rfl) rfl fl_X10_123 dX10_goes_165 ?_
              obtain ⟨j40, ej40, h⟩ := z_letE h
              have hj40 : ∀ (σ39 : z_S), j40 σ39 = some (r, σz) → ZW E G A 12 layM 10 ad 186 [(0, .ref (ad 0)), (1, .int p1), (2, .int p2), (3, .int p3), (4, .int r2), (5, .int x14), (6, .int x15), (7, .int x16), (8, .int x23), (9, .int r25)] [] σ39 := by
                intro σ39 h
                rw [ej40] at h
                refine z_aload_n hB 0 dX10_goes_186 rfl rfl ?_
                refine z_get hB 0 9 kM_0 (Nat.le_of_ble_eq_true rfl) vc_10 inlX10 (Nat.le_of_ble_eq_true rfl) rfl fl_X10_123 dX10_goes_187 ?_
                obtain ⟨j42, ej42, h⟩ := z_letE h
                have hj42 : ∀ (y41 : Int32), j42 y41 = some (r, σz) → ZW E G A 12 layM 10 ad 208 [(0, .ref (ad 0)), (1, .int p1), (2, .int p2), (3, .int p3), (4, .int r2), (5, .int x14), (6, .int x15), (7, .int x16), (8, .int x23), (9, .int r25)] [.int y41] σ39 := by
                  intro y41 h
                  rw [ej42] at h
                  refine z_istore hB [(11, .int y41), (0, .ref (ad 0)), (1, .int p1), (2, .int p2), (3, .int p3), (4, .int r2), (5, .int x14), (6, .int x15), (7, .int x16), (8, .int x23), (9, .int r25)] dX10_goes_208 (Nat.le_of_ble_eq_true rfl) rfl rfl ?_
                  refine z_aload_n hB 1 dX10_goes_210 rfl rfl ?_
                  refine z_dup hB dX10_goes_211 rfl ?_
                  refine z_get hB 0 9 kM_0 (Nat.le_of_ble_eq_true rfl) vc_10 inlX10 (Nat.le_of_ble_eq_true rfl) rfl fl_X10_123 dX10_goes_212 ?_
                  refine z_iload hB 0 dX10_goes_215 rfl ?_
                  obtain ⟨j44, ej44, h⟩ := z_letE h
                  have hj44 : ∀ (y43 : Int32), j44 y43 = some (r, σz) → ZW E G A 12 layM 10 ad 225 [(0, .ref (ad 0)), (1, .int p1), (2, .int p2), (3, .int p3), (4, .int r2), (5, .int x14), (6, .int x15), (7, .int x16), (8, .int x23), (9, .int r25), (11, .int y41)] [.int y43, .int (σ39 0 9), .ref (ad 0)] σ39 := by
                    intro y43 h
                    rw [ej44] at h
                    refine z_iadd hB dX10_goes_225 ?_
                    obtain ⟨σ45, eσ45, h⟩ := z_letE h
                    refine z_put hB 0 9 kM_0 (Nat.le_of_ble_eq_true rfl) vc_10 inlX10 tyX10 tyX10_ok nmX10 (Nat.le_of_ble_eq_true rfl) rfl rfl (tyX10_ok 9 (Nat.le_of_ble_eq_true rfl)) fl_X10_123 dX10_goes_226 ?_
                    refine z_to eσ45 ?_
                    refine z_iload hB 10 dX10_goes_229 rfl ?_
                    obtain ⟨j47, ej47, h⟩ := z_letE h
                    have hj47 : ∀ (y46 : Int32), j47 y46 = some (r, σz) → ZW E G A 12 layM 10 ad 244 [(0, .ref (ad 0)), (1, .int p1), (2, .int p2), (3, .int p3), (4, .int r2), (6, .int x15), (7, .int x16), (8, .int x23), (9, .int r25)] [.int y46] σ45 := by
                      intro y46 h
                      rw [ej47] at h
                      refine z_istore hB [(5, .int y46), (0, .ref (ad 0)), (1, .int p1), (2, .int p2), (3, .int p3), (4, .int r2), (6, .int x15), (7, .int x16), (8, .int x23), (9, .int r25)] dX10_goes_244 (Nat.le_of_ble_eq_true rfl) rfl rfl ?_
                      refine z_aload_n hB 1 dX10_goes_246 rfl rfl ?_
                      refine z_aload_n hB 1 dX10_goes_247 rfl rfl ?_
                      refine z_iload hB 8 dX10_goes_248 rfl ?_
                      refine z_iconst hB dX10_goes_250 zcI_0 ?_
                      obtain ⟨r49, h48, h⟩ := z_b1E h
                      refine z_cI hB (z_rV (ι := fun k => k) hB yY_X10_of (c_X10_of _ _ _ _ h48) rfl cut_M z_hid kM_0 (Nat.le_of_ble_eq_true rfl) vc_10 rfl rfl rfl (Nat.le_of_ble_eq_true rfl) ml_X10_57 ⟨Nat.le_of_ble_eq_true rfl, Nat.le_of_ble_eq_true rfl⟩ dX10_goes_251) cut_M z_hid ?_
                      refine z_toA (z_mro cut_M) ?_
                      refine z_iload hB 9 dX10_goes_254 rfl ?_
                      obtain ⟨σ51, h50, h⟩ := z_b1E h
                      refine z_cV hB (z_rV (ι := fun k => k) hB yY_X10_loads (c_X10_loads _ _ _ _ h50) rfl cut_M z_hid kM_0 (Nat.le_of_ble_eq_true rfl) vc_10 rfl rfl rfl (Nat.le_of_ble_eq_true rfl) ml_X10_144 ⟨Nat.le_of_ble_eq_true rfl, Nat.le_of_ble_eq_true rfl⟩ dX10_goes_256) cut_M z_hid ?_
                      refine z_toA z_mid ?_
                      refine z_aload_n hB 1 dX10_goes_259 rfl rfl ?_
                      refine z_dup hB dX10_goes_260 rfl ?_
                      refine z_get hB 0 11 kM_0 (Nat.le_of_ble_eq_true rfl) vc_10 inlX10 (Nat.le_of_ble_eq_true rfl) rfl fl_X10_126 dX10_goes_261 ?_
                      refine z_aload_n hB 1 dX10_goes_264 rfl rfl ?_
                      refine z_iload hB 8 dX10_goes_265 rfl ?_
                      refine z_iconst hB dX10_goes_267 zcI_1 ?_
                      obtain ⟨r53, h52, h⟩ := z_b1E h
                      refine z_cI hB (z_rV (ι := fun k => k) hB yY_X10_of (c_X10_of _ _ _ _ h52) rfl cut_M z_hid kM_0 (Nat.le_of_ble_eq_true rfl) vc_10 rfl rfl rfl (Nat.le_of_ble_eq_true rfl) ml_X10_57 ⟨Nat.le_of_ble_eq_true rfl, Nat.le_of_ble_eq_true rfl⟩ dX10_goes_268) cut_M z_hid ?_
                      refine z_toA (z_mro cut_M) ?_
                      refine z_iadd hB dX10_goes_271 ?_
                      obtain ⟨σ54, eσ54, h⟩ := z_letE h
                      refine z_put hB 0 11 kM_0 (Nat.le_of_ble_eq_true rfl) vc_10 inlX10 tyX10 tyX10_ok nmX10 (Nat.le_of_ble_eq_true rfl) rfl rfl (tyX10_ok 11 (Nat.le_of_ble_eq_true rfl)) fl_X10_126 dX10_goes_272 ?_
                      refine z_to eσ54 ?_
                      refine z_aload_n hB 1 dX10_goes_275 rfl rfl ?_
                      refine z_dup hB dX10_goes_276 rfl ?_
                      refine z_get hB 0 12 kM_0 (Nat.le_of_ble_eq_true rfl) vc_10 inlX10 (Nat.le_of_ble_eq_true rfl) rfl fl_X10_129 dX10_goes_277 ?_
                      refine z_aload_n hB 1 dX10_goes_280 rfl rfl ?_
                      refine z_iload hB 8 dX10_goes_281 rfl ?_
                      refine z_iload_n hB 3 dX10_goes_283 rfl rfl ?_
                      obtain ⟨r56, h55, h⟩ := z_b1E h
                      refine z_cI hB (z_rV (ι := fun k => k) hB yY_X10_isOut (c_X10_isOut _ _ _ _ h55) rfl cut_M z_hid kM_0 (Nat.le_of_ble_eq_true rfl) vc_10 rfl rfl rfl (Nat.le_of_ble_eq_true rfl) ml_X10_112 ⟨Nat.le_of_ble_eq_true rfl, Nat.le_of_ble_eq_true rfl⟩ dX10_goes_284) cut_M z_hid ?_
                      refine z_toA (z_mro cut_M) ?_
                      obtain ⟨j58, ej58, h⟩ := z_letE h
                      have hj58 : ∀ (y57 : Int32), j58 y57 = some (r, σz) → ZW E G A 12 layM 10 ad 295 [(0, .ref (ad 0)), (1, .int p1), (2, .int p2), (3, .int p3), (4, .int r2), (5, .int y46), (6, .int x15), (7, .int x16), (8, .int x23)] [.int y57, .int (σ54 0 12), .ref (ad 0)] σ54 := by
                        intro y57 h
                        rw [ej58] at h
                        refine z_iadd hB dX10_goes_295 ?_
                        obtain ⟨σ59, eσ59, h⟩ := z_letE h
                        refine z_put hB 0 12 kM_0 (Nat.le_of_ble_eq_true rfl) vc_10 inlX10 tyX10 tyX10_ok nmX10 (Nat.le_of_ble_eq_true rfl) rfl rfl (tyX10_ok 12 (Nat.le_of_ble_eq_true rfl)) fl_X10_129 dX10_goes_296 ?_
                        refine z_to eσ59 ?_
                        refine z_iload hB 6 dX10_goes_299 rfl ?_
                        refine z_iload_n hB 3 dX10_goes_301 rfl rfl ?_
                        obtain ⟨j62, ej62, h⟩ := z_letE h
                        have hj62 : ∀ (y60 : Int32) (σ61 : z_S), j62 y60 σ61 = some (r, σz) → ZW E G A 12 layM 10 ad 327 [(0, .ref (ad 0)), (1, .int p1), (2, .int p2), (3, .int p3), (4, .int r2), (5, .int y46), (7, .int x16)] [.int y60, .int x15] σ61 := by
                          intro y60 σ61 h
                          rw [ej62] at h
                          refine z_iadd hB dX10_goes_327 ?_
                          obtain ⟨x63, ex63, h⟩ := z_letE h
                          refine z_istore hB [(6, .int x63), (0, .ref (ad 0)), (1, .int p1), (2, .int p2), (3, .int p3), (4, .int r2), (5, .int y46), (7, .int x16)] dX10_goes_328 (Nat.le_of_ble_eq_true rfl) ex63 rfl ?_
                          refine z_lv [1, 2, 3, 4, 5, 6, 0, 7] rfl ?_
                          exact hj35 _ _ _ h
                        obtain ⟨j65, ej65, h⟩ := z_letE h
                        have hj65 : ∀ (σ64 : z_S), j65 σ64 = some (r, σz) → ZW E G A 12 layM 10 ad 326 [(0, .ref (ad 0)), (1, .int p1), (2, .int p2), (3, .int p3), (4, .int r2), (5, .int y46), (7, .int x16)] [.int x15] σ64 := by
                          intro σ64 h
                          rw [ej65] at h
                          refine z_iconst hB dX10_goes_326 zcI_0 ?_
                          exact hj62 _ _ h
                        refine z_if_eq hB (tgt := 326) dX10_goes_302 (by decide) (fun c66 => ?_) (fun c66 => ?_)
                        · have h := z_ifT c66 h
                          refine z_lv [0, 1, 2, 3, 4, 5, 7] rfl ?_
                          exact hj65 _ h
                        · have h := z_ifF c66 h
                          refine z_aload_n hB 0 dX10_goes_305 rfl rfl ?_
                          refine z_iload_n hB 1 dX10_goes_306 rfl rfl ?_
                          refine z_iload hB 8 dX10_goes_307 rfl ?_
                          refine z_iload_n hB 2 dX10_goes_309 rfl rfl ?_
                          obtain ⟨r69, σ68, h67, h⟩ := z_b2E h
                          refine z_cI hB (z_rV (ι := fun k => k) hB yY_X10_delivers (c_X10_delivers _ _ _ _ _ _ h67) rfl cut_M z_hid kM_0 (Nat.le_of_ble_eq_true rfl) vc_10 rfl rfl rfl (Nat.le_of_ble_eq_true rfl) ml_X10_147 ⟨Nat.le_of_ble_eq_true rfl, Nat.le_of_ble_eq_true rfl⟩ dX10_goes_310) cut_M z_hid ?_
                          refine z_toA z_mid ?_
                          refine z_if_eq hB (tgt := 326) dX10_goes_313 (by decide) (fun c70 => ?_) (fun c70 => ?_)
                          · have h := z_ifT c70 h
                            refine z_lv [0, 1, 2, 3, 4, 5, 7] rfl ?_
                            exact hj65 _ h
                          · have h := z_ifF c70 h
                            refine z_aload_n hB 0 dX10_goes_316 rfl rfl ?_
                            refine z_iload hB 8 dX10_goes_317 rfl ?_
                            refine z_iconst hB dX10_goes_319 zcI_1 ?_
                            obtain ⟨r72, h71, h⟩ := z_b1E h
                            refine z_cI hB (z_rV (ι := fun k => k) hB yY_X10_of (c_X10_of _ _ _ _ h71) rfl cut_M z_hid kM_0 (Nat.le_of_ble_eq_true rfl) vc_10 rfl rfl rfl (Nat.le_of_ble_eq_true rfl) ml_X10_57 ⟨Nat.le_of_ble_eq_true rfl, Nat.le_of_ble_eq_true rfl⟩ dX10_goes_320) cut_M z_hid ?_
                            refine z_toA (z_mro cut_M) ?_
                            refine z_goto hB (tgt := 327) dX10_goes_323 (by decide) ?_
                            refine z_lv [0, 1, 2, 3, 4, 5, 7] rfl ?_
                            exact hj62 _ _ h
                      refine z_if_eq hB (tgt := 294) dX10_goes_287 (by decide) (fun c73 => ?_) (fun c73 => ?_)
                      · have h := z_ifT c73 h
                        refine z_iconst hB dX10_goes_294 zcI_0 ?_
                        refine z_lv [1, 2, 3, 4, 5, 0, 6, 7, 8] rfl ?_
                        exact hj58 _ h
                      · have h := z_ifF c73 h
                        refine z_iconst hB dX10_goes_290 zcI_1 ?_
                        refine z_goto hB (tgt := 295) dX10_goes_291 (by decide) ?_
                        refine z_lv [1, 2, 3, 4, 5, 0, 6, 7, 8] rfl ?_
                        exact hj58 _ h
                    refine z_if_eq hB (tgt := 239) dX10_goes_231 (by decide) (fun c74 => ?_) (fun c74 => ?_)
                    · have h := z_ifT c74 h
                      refine z_iload hB 5 dX10_goes_239 rfl ?_
                      refine z_iload hB 9 dX10_goes_241 rfl ?_
                      refine z_iadd hB dX10_goes_243 ?_
                      refine z_lv [0, 1, 2, 3, 4, 6, 7, 8, 9] rfl ?_
                      exact hj47 _ h
                    · have h := z_ifF c74 h
                      refine z_iload hB 9 dX10_goes_234 rfl ?_
                      refine z_goto hB (tgt := 244) dX10_goes_236 (by decide) ?_
                      refine z_lv [0, 1, 2, 3, 4, 6, 7, 8, 9] rfl ?_
                      exact hj47 _ h
                  refine z_if_eq hB (tgt := 224) dX10_goes_217 (by decide) (fun c75 => ?_) (fun c75 => ?_)
                  · have h := z_ifT c75 h
                    refine z_iconst hB dX10_goes_224 zcI_0 ?_
                    refine z_lv [1, 2, 3, 4, 5, 6, 7, 8, 9, 10, 0] rfl ?_
                    exact hj44 _ h
                  · have h := z_ifF c75 h
                    refine z_iconst hB dX10_goes_220 zcI_1 ?_
                    refine z_goto hB (tgt := 225) dX10_goes_221 (by decide) ?_
                    refine z_lv [1, 2, 3, 4, 5, 6, 7, 8, 9, 10, 0] rfl ?_
                    exact hj44 _ h
                obtain ⟨j76, ej76, h⟩ := z_letE h
                have hj76 : ∀ (_ : Unit), j76 () = some (r, σz) → ZW E G A 12 layM 10 ad 203 [(0, .ref (ad 0)), (1, .int p1), (2, .int p2), (3, .int p3), (4, .int r2), (5, .int x14), (6, .int x15), (7, .int x16), (8, .int x23), (9, .int r25)] [] σ39 := by
                  intro _ h
                  rw [ej76] at h
                  refine z_iconst hB dX10_goes_203 zcI_1 ?_
                  refine z_goto hB (tgt := 208) dX10_goes_204 (by decide) ?_
                  exact hj42 _ h
                refine z_if_eq hB (tgt := 203) dX10_goes_190 (by decide) (fun c77 => ?_) (fun c77 => ?_)
                · have h := z_ifT c77 h
                  exact hj76 () h
                · have h := z_ifF c77 h
                  refine z_iload hB 5 dX10_goes_193 rfl ?_
                  refine z_iload hB 9 dX10_goes_195 rfl ?_
                  refine z_iadd hB dX10_goes_197 ?_
                  refine z_iload hB 4 dX10_goes_198 rfl ?_
                  refine z_icmp_le hB (tgt := 207) dX10_goes_200 (by decide) (fun c78 => ?_) (fun c78 => ?_)
                  · have h := z_ifT c78 h
                    refine z_iconst hB dX10_goes_207 zcI_0 ?_
                    exact hj42 _ h
                  · have h := z_ifF c78 h
                    exact hj76 () h
              refine z_if_le hB (tgt := 186) dX10_goes_168 (by decide) (fun c79 => ?_) (fun c79 => ?_)
              · have h := z_ifT c79 h
                refine z_lv [0, 1, 2, 3, 4, 5, 6, 7, 8, 9] rfl ?_
                exact hj40 _ h
              · have h := z_ifF c79 h
                refine z_iload hB 5 dX10_goes_171 rfl ?_
                refine z_iload hB 9 dX10_goes_173 rfl ?_
                refine z_iadd hB dX10_goes_175 ?_
                refine z_iload hB 4 dX10_goes_176 rfl ?_
                refine z_icmp_le hB (tgt := 186) dX10_goes_178 (by decide) (fun c80 => ?_) (fun c80 => ?_)
                · have h := z_ifT c80 h
                  refine z_lv [0, 1, 2, 3, 4, 5, 6, 7, 8, 9] rfl ?_
                  exact hj40 _ h
                · have h := z_ifF c80 h
                  refine z_aload_n hB 0 dX10_goes_181 rfl rfl ?_
                  refine z_iload_n hB 1 dX10_goes_182 rfl rfl ?_
                  obtain ⟨σ82, h81, h⟩ := z_b1E h
                  refine z_cV hB (z_rV (ι := fun k => k) hB yY_X10_endsTrip (c_X10_endsTrip _ _ _ h81) rfl cut_M z_hid kM_0 (Nat.le_of_ble_eq_true rfl) vc_10 rfl rfl rfl (Nat.le_of_ble_eq_true rfl) ml_X10_141 ⟨Nat.le_of_ble_eq_true rfl, Nat.le_of_ble_eq_true rfl⟩ dX10_goes_183) cut_M z_hid ?_
                  refine z_toA z_mid ?_
                  refine z_lv [0, 1, 2, 3, 4, 5, 6, 7, 8, 9] rfl ?_
                  exact hj40 _ h
        refine z_if_eq hB (tgt := 152) dX10_goes_124 (by decide) (fun c83 => ?_) (fun c83 => ?_)
        · have h := z_ifT c83 h
          refine z_lv [1, 2, 3, 4, 5, 6, 7, 8, 9, 10, 0] rfl ?_
          exact hj31 _ h
        · have h := z_ifF c83 h
          refine z_iload hB 10 dX10_goes_127 rfl ?_
          refine z_iload hB 5 dX10_goes_129 rfl ?_
          refine z_icmp_le hB (tgt := 152) dX10_goes_131 (by decide) (fun c84 => ?_) (fun c84 => ?_)
          · have h := z_ifT c84 h
            refine z_lv [1, 2, 3, 4, 5, 6, 7, 8, 9, 10, 0] rfl ?_
            exact hj31 _ h
          · have h := z_ifF c84 h
            refine z_iload_n hB 4 dX10_goes_134 rfl rfl ?_
            refine z_if_eq hB (tgt := 152) dX10_goes_135 (by decide) (fun c85 => ?_) (fun c85 => ?_)
            · have h := z_ifT c85 h
              refine z_lv [1, 2, 3, 4, 5, 6, 7, 8, 9, 10, 0] rfl ?_
              exact hj31 _ h
            · have h := z_ifF c85 h
              refine z_aload_n hB 1 dX10_goes_138 rfl rfl ?_
              refine z_iload hB 9 dX10_goes_139 rfl ?_
              refine z_bipush hB dX10_goes_141 zcB_9 ?_
              obtain ⟨σ87, h86, h⟩ := z_b1E h
              refine z_cV hB (z_rV (ι := fun k => k) hB yY_X10_become (c_X10_become _ _ _ _ h86) rfl cut_M z_hid kM_0 (Nat.le_of_ble_eq_true rfl) vc_10 rfl rfl rfl (Nat.le_of_ble_eq_true rfl) ml_X10_115 ⟨Nat.le_of_ble_eq_true rfl, Nat.le_of_ble_eq_true rfl⟩ dX10_goes_143) cut_M z_hid ?_
              refine z_toA z_mid ?_
              refine z_aload_n hB 1 dX10_goes_146 rfl rfl ?_
              refine z_iload hB 9 dX10_goes_147 rfl ?_
              obtain ⟨σ89, h88, h⟩ := z_b1E h
              refine z_cV hB (z_rV (ι := fun k => k) hB yY_X10_complains (c_X10_complains _ _ _ h88) rfl cut_M z_hid kM_0 (Nat.le_of_ble_eq_true rfl) vc_10 rfl rfl rfl (Nat.le_of_ble_eq_true rfl) ml_X10_119 ⟨Nat.le_of_ble_eq_true rfl, Nat.le_of_ble_eq_true rfl⟩ dX10_goes_149) cut_M z_hid ?_
              refine z_toA z_mid ?_
              refine z_lv [1, 2, 3, 4, 5, 6, 7, 8, 9, 10, 0] rfl ?_
              exact hj31 _ h
      obtain ⟨j90, ej90, h⟩ := z_letE h
      have hj90 : ∀ (_ : Unit), j90 () = some (r, σz) → ZW E G A 12 layM 10 ad 119 [(0, .ref (ad 0)), (1, .int p1), (2, .int p2), (3, .int p3), (4, .int r2), (5, .int x14), (6, .int x15), (7, .int x16), (8, .int x23), (9, .int r25)] [] σ17 := by
        intro _ h
        rw [ej90] at h
        refine z_iconst hB dX10_goes_119 zcI_0 ?_
        exact hj29 _ h
      refine z_icmp_ne hB (tgt := 119) dX10_goes_102 (by decide) (fun c91 => ?_) (fun c91 => ?_)
      · have h := z_ifF c91 h
        refine z_lv [2, 3, 4, 5, 6, 7, 8, 9, 1, 0] rfl ?_
        exact hj90 () h
      · have h := z_ifT c91 h
        refine z_aload_n hB 2 dX10_goes_105 rfl rfl ?_
        refine z_iload hB 1 dX10_goes_106 rfl ?_
        refine z_iload_n hB 4 dX10_goes_108 rfl rfl ?_
        obtain ⟨r93, h92, h⟩ := z_b1E h
        refine z_cI hB (z_rV (ι := fun k => k) hB yY_X10_isPaused (c_X10_isPaused _ _ _ _ h92) rfl cut_M z_hid kM_0 (Nat.le_of_ble_eq_true rfl) vc_10 rfl rfl rfl (Nat.le_of_ble_eq_true rfl) ml_X10_138 ⟨Nat.le_of_ble_eq_true rfl, Nat.le_of_ble_eq_true rfl⟩ dX10_goes_109) cut_M z_hid ?_
        refine z_toA (z_mro cut_M) ?_
        refine z_if_ne hB (tgt := 119) dX10_goes_112 (by decide) (fun c94 => ?_) (fun c94 => ?_)
        · have h := z_ifF c94 h
          refine z_lv [2, 3, 4, 5, 6, 7, 8, 9, 1, 0] rfl ?_
          exact hj90 () h
        · have h := z_ifT c94 h
          refine z_iconst hB dX10_goes_115 zcI_1 ?_
          refine z_goto hB (tgt := 120) dX10_goes_116 (by decide) ?_
          refine z_lv [2, 3, 4, 5, 6, 7, 8, 9, 1, 0] rfl ?_
          exact hj29 _ h
  · have h := z_ifF c12 h
    refine z_aload_n hB 0 dX10_goes_48 rfl rfl ?_
    refine z_getr hB 0 13 8 kM_0 (Nat.le_of_ble_eq_true rfl) vc_10 inlX10 (Nat.le_of_ble_eq_true rfl) rfl (Nat.le_of_ble_eq_true rfl) fl_X10_31 dX10_goes_49 ?_
    refine z_iload hB 7 dX10_goes_52 rfl ?_
    refine z_iconst hB dX10_goes_54 zcI_0 ?_
    obtain ⟨h95, h⟩ := z_ckiE h
    obtain ⟨σ96, eσ96, h⟩ := z_letE h
    refine z_iast hB 8 20 kM_8 (Nat.le_of_ble_eq_true rfl) dX10_goes_55 h95 ?_
    refine z_to eσ96 ?_
    obtain ⟨x97, ex97, h⟩ := z_letE h
    refine z_iinc hB 7 [(7, .int x97), (0, .ref (ad 0)), (1, .int p1), (2, .int p2), (3, .int p3), (4, .int r2), (5, .int ((0 : Int32))), (6, .int ((0 : Int32)))] dX10_goes_56 rfl (by rw [zcI_1]; exact ex97) (Nat.le_of_ble_eq_true rfl) rfl ?_
    refine z_goto hB (tgt := 41) dX10_goes_59 (by decide) ?_
    refine z_lv [1, 2, 3, 4, 5, 6, 7, 0] rfl ?_
    exact hk_k9 _ _ h
