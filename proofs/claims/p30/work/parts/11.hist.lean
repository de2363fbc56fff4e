/-! the history's two calls on a row of towns, by hand: the row's number is in the run -/
def ziH (r : Nat) : Nat → Nat := fun k => if k < 38 then 2 + 38 * r + k else k + 154
def zkH (r : Nat) : Nat → Nat := fun i => if 2 + 38 * r ≤ i ∧ i < 40 + 38 * r then i - (2 + 38 * r) else if 192 ≤ i ∧ i < 230 then i - 154 else 76
def ziG (r : Nat) : Nat → Nat := fun k => if k < 38 then k + 192 else 2 + 38 * r + (k - 38)
def zkG (r : Nat) : Nat → Nat := fun i => if 2 + 38 * r ≤ i ∧ i < 40 + 38 * r then i - (2 + 38 * r) + 38 else if 192 ≤ i ∧ i < 230 then i - 192 else 76
theorem cutH_0 : z_cut layH 230 layTT 76 (ziH 0) (zkH 0) false = true := by decide +kernel
theorem cutH_1 : z_cut layH 230 layTT 76 (ziH 1) (zkH 1) false = true := by decide +kernel
theorem cutH_2 : z_cut layH 230 layTT 76 (ziH 2) (zkH 2) false = true := by decide +kernel
theorem cutH_3 : z_cut layH 230 layTT 76 (ziH 3) (zkH 3) false = true := by decide +kernel
theorem cutH_4 : z_cut layH 230 layTT 76 (ziH 4) (zkH 4) false = true := by decide +kernel
theorem cutG_0 : z_cut layH 230 layTT 76 (ziG 0) (zkG 0) false = true := by decide +kernel
theorem cutG_1 : z_cut layH 230 layTT 76 (ziG 1) (zkG 1) false = true := by decide +kernel
theorem cutG_2 : z_cut layH 230 layTT 76 (ziG 2) (zkG 2) false = true := by decide +kernel
theorem cutG_3 : z_cut layH 230 layTT 76 (ziG 3) (zkG 3) false = true := by decide +kernel
theorem cutG_4 : z_cut layH 230 layTT 76 (ziG 4) (zkG 4) false = true := by decide +kernel
theorem cutH : ∀ r, r < 5 → z_cut layH 230 layTT 76 (ziH r) (zkH r) false = true
  | 0, _ => cutH_0
  | 1, _ => cutH_1
  | 2, _ => cutH_2
  | 3, _ => cutH_3
  | 4, _ => cutH_4
  | n + 5, h => by omega
theorem cutG : ∀ r, r < 5 → z_cut layH 230 layTT 76 (ziG r) (zkG r) false = true
  | 0, _ => cutG_0
  | 1, _ => cutG_1
  | 2, _ => cutG_2
  | 3, _ => cutG_3
  | 4, _ => cutG_4
  | n + 5, h => by omega
theorem z_inlt {x : Int32} {n : Nat} (h : vp_in x n) : x.toNatClampNeg < n := by
  unfold vp_in at h
  omega
def f_X1_prepare (σ : z_S) : Option z_S :=
  z_let ((σ 0 1) + (σ 0 0)) fun x1 =>
  z_let (x1 - x1 / (5 : Int32) * (5 : Int32)) fun x2 =>
  z_cki x2 5 <|
  z_b1 (f_X6_copyFrom (fun k => σ (ziH x2.toNatClampNeg k))) fun τ =>
  some (z_m σ (zkH x2.toNatClampNeg) 76 τ)
set_option maxRecDepth 100000 in
set_option maxHeartbeats 4000000 in
theorem c_X1_prepare (σ σz : z_S) (h : f_X1_prepare σ = some σz) : zMet yX1_prepare cX1_prepare 2 none 4 82 layH 230 (fun ad => [.ref (ad 0), .ref (ad 192)]) σ (z_QV layH 230 σz) := by
  refine z_headV RX1 (by decide) rfl (fun _ => Nat.le_of_ble_eq_true rfl) (fun E G A ad hB hret => ?_)
  show ZW E G A 2 layH 230 ad 0 [(0, .ref (ad 0)), (1, .ref (ad 192))] [] σ
  unfold f_X1_prepare at h
  refine z_aload_n hB 0 dX1_prepare_0 rfl rfl ?_
  refine z_getr hB 0 2 1 kH_0 (Nat.le_of_ble_eq_true rfl) vc_1 inlX1 (Nat.le_of_ble_eq_true rfl) rfl (Nat.le_of_ble_eq_true rfl) fl_X1_20 dX1_prepare_1 ?_
  refine z_aload_n hB 0 dX1_prepare_4 rfl rfl ?_
  refine z_get hB 0 1 kH_0 (Nat.le_of_ble_eq_true rfl) vc_1 inlX1 (Nat.le_of_ble_eq_true rfl) rfl fl_X1_15 dX1_prepare_5 ?_
  refine z_aload_n hB 0 dX1_prepare_8 rfl rfl ?_
  refine z_get hB 0 0 kH_0 (Nat.le_of_ble_eq_true rfl) vc_1 inlX1 (Nat.le_of_ble_eq_true rfl) rfl fl_X1_9 dX1_prepare_9 ?_
  refine z_iadd hB dX1_prepare_12 ?_
  obtain ⟨x1, ex1, h⟩ := z_letE h
  rw [← ex1]
  refine z_iconst hB dX1_prepare_13 zcI_5 ?_
  refine z_irem hB dX1_prepare_14 (by decide) ?_
  obtain ⟨x2, ex2, h⟩ := z_letE h
  rw [← ex2]
  obtain ⟨h1, h⟩ := z_ckiE h
  refine z_aald hB 1 2 5 kH_1 (Nat.le_of_ble_eq_true rfl) dX1_prepare_15 h1 ?_
  refine z_aload_n hB 1 dX1_prepare_16 rfl rfl ?_
  obtain ⟨τ, h2, h⟩ := z_b1E h
  have hcut := cutH _ (z_inlt h1)
  refine z_cV hB (z_rV (ι := ziH x2.toNatClampNeg) hB yY_X6_copyFrom (c_X6_copyFrom _ _ h2) rfl hcut z_hno kTT_0 (Nat.le_of_ble_eq_true rfl) vc_6 rfl rfl rfl (Nat.le_of_ble_eq_true rfl) ml_X1_25 ⟨Nat.le_of_ble_eq_true rfl, Nat.le_of_ble_eq_true rfl⟩ dX1_prepare_17) hcut z_hno ?_
  exact hret _ _ _ (Option.some.inj h) dX1_prepare_20
def f_X1_restoreInto (σ : z_S) : Option z_S :=
  if (σ 0 0) ≤ (0 : Int32) then some σ else
  z_let (z_u σ 0 0 ((σ 0 0) - (1 : Int32))) fun σ1 =>
  z_let ((σ1 0 1) + (σ1 0 0)) fun x1 =>
  z_let (x1 - x1 / (5 : Int32) * (5 : Int32)) fun x2 =>
  z_cki x2 5 <|
  z_b1 (f_X6_copyFrom (fun k => σ1 (ziG x2.toNatClampNeg k))) fun τ =>
  some (z_m σ1 (zkG x2.toNatClampNeg) 76 τ)
set_option maxRecDepth 100000 in
set_option maxHeartbeats 4000000 in
theorem c_X1_restoreInto (σ σz : z_S) (h : f_X1_restoreInto σ = some σz) : zMet yX1_restoreInto cX1_restoreInto 2 none 4 82 layH 230 (fun ad => [.ref (ad 0), .ref (ad 192)]) σ (z_QV layH 230 σz) := by
  refine z_headV RX1 (by decide) rfl (fun _ => Nat.le_of_ble_eq_true rfl) (fun E G A ad hB hret => ?_)
  show ZW E G A 2 layH 230 ad 0 [(0, .ref (ad 0)), (1, .ref (ad 192))] [] σ
  unfold f_X1_restoreInto at h
  refine z_aload_n hB 0 dX1_restoreInto_0 rfl rfl ?_
  refine z_get hB 0 0 kH_0 (Nat.le_of_ble_eq_true rfl) vc_1 inlX1 (Nat.le_of_ble_eq_true rfl) rfl fl_X1_9 dX1_restoreInto_1 ?_
  refine z_if_le hB (tgt := 37) dX1_restoreInto_4 (by decide) (fun hc => ?_) (fun hc => ?_)
  · have h := z_ifT hc h
    exact hret _ _ _ (Option.some.inj h) dX1_restoreInto_37
  · have h := z_ifF hc h
    refine z_aload_n hB 0 dX1_restoreInto_7 rfl rfl ?_
    refine z_dup hB dX1_restoreInto_8 rfl ?_
    refine z_get hB 0 0 kH_0 (Nat.le_of_ble_eq_true rfl) vc_1 inlX1 (Nat.le_of_ble_eq_true rfl) rfl fl_X1_9 dX1_restoreInto_9 ?_
    refine z_iconst hB dX1_restoreInto_12 zcI_1 ?_
    refine z_isub hB dX1_restoreInto_13 ?_
    obtain ⟨σ1, eσ1, h⟩ := z_letE h
    refine z_put hB 0 0 kH_0 (Nat.le_of_ble_eq_true rfl) vc_1 inlX1 tyX1 tyX1_ok nmX1 (Nat.le_of_ble_eq_true rfl) rfl rfl (tyX1_ok 0 (Nat.le_of_ble_eq_true rfl)) fl_X1_9 dX1_restoreInto_14 ?_
    refine z_to eσ1 ?_
    refine z_aload_n hB 1 dX1_restoreInto_17 rfl rfl ?_
    refine z_aload_n hB 0 dX1_restoreInto_18 rfl rfl ?_
    refine z_getr hB 0 2 1 kH_0 (Nat.le_of_ble_eq_true rfl) vc_1 inlX1 (Nat.le_of_ble_eq_true rfl) rfl (Nat.le_of_ble_eq_true rfl) fl_X1_20 dX1_restoreInto_19 ?_
    refine z_aload_n hB 0 dX1_restoreInto_22 rfl rfl ?_
    refine z_get hB 0 1 kH_0 (Nat.le_of_ble_eq_true rfl) vc_1 inlX1 (Nat.le_of_ble_eq_true rfl) rfl fl_X1_15 dX1_restoreInto_23 ?_
    refine z_aload_n hB 0 dX1_restoreInto_26 rfl rfl ?_
    refine z_get hB 0 0 kH_0 (Nat.le_of_ble_eq_true rfl) vc_1 inlX1 (Nat.le_of_ble_eq_true rfl) rfl fl_X1_9 dX1_restoreInto_27 ?_
    refine z_iadd hB dX1_restoreInto_30 ?_
    obtain ⟨x1, ex1, h⟩ := z_letE h
    rw [← ex1]
    refine z_iconst hB dX1_restoreInto_31 zcI_5 ?_
    refine z_irem hB dX1_restoreInto_32 (by decide) ?_
    obtain ⟨x2, ex2, h⟩ := z_letE h
    rw [← ex2]
    obtain ⟨h1, h⟩ := z_ckiE h
    refine z_aald hB 1 2 5 kH_1 (Nat.le_of_ble_eq_true rfl) dX1_restoreInto_33 h1 ?_
    obtain ⟨τ, h2, h⟩ := z_b1E h
    have hcut := cutG _ (z_inlt h1)
    refine z_cV hB (z_rV (ι := ziG x2.toNatClampNeg) hB yY_X6_copyFrom (c_X6_copyFrom _ _ h2) rfl hcut z_hno kTT_0 (Nat.le_of_ble_eq_true rfl) vc_6 rfl rfl rfl (Nat.le_of_ble_eq_true rfl) ml_X1_25 ⟨Nat.le_of_ble_eq_true rfl, Nat.le_of_ble_eq_true rfl⟩ dX1_restoreInto_34) hcut z_hno ?_
    exact hret _ _ _ (Option.some.inj h) dX1_restoreInto_37
