def f_X11_up (p0 : Int32) (p1 : Int32) (σ : z_S) : Option Int32 :=
  z_ck (¬ p1 = 0) <|
  some ((p0 &&& (2147483647 : Int32)) - (p0 &&& (2147483647 : Int32)) / p1 * p1)
set_option maxRecDepth 100000 in
set_option maxHeartbeats 4000000 in
theorem c_X11_up (p0 : Int32) (p1 : Int32) (σ : z_S) (r : Int32) (h : f_X11_up p0 p1 σ = some r) : zMet yX11_up cX11_up 2 (some .int) 0 0 z_lay0 0 (fun ad => [.int p0, .int p1]) σ (z_QI z_lay0 0 r σ) := by
  refine z_headI RX11 (by decide) rfl (fun _ => Nat.le_of_ble_eq_true rfl) (fun E G A ad hB hret => ?_)
  show ZW E G A 2 z_lay0 0 ad 0 [(0, .int p0), (1, .int p1)] [] σ
  unfold f_X11_up at h
  refine z_iload_n hB 0 dX11_up_0 rfl rfl ?_
  refine z_ldci hB (v := 2147483647) (wsL_c26 _ (List.mem_of_getElem? (i := 23) rfl)) dX11_up_1 ?_
  refine z_iand hB dX11_up_3 ?_
  refine z_iload_n hB 1 dX11_up_4 rfl rfl ?_
  obtain ⟨h1, h⟩ := z_ckE h
  refine z_irem hB dX11_up_5 h1 ?_
  exact hret _ _ _ _ (Option.some.inj h) rfl rfl dX11_up_6
def lb_X11_bundle_4 (σ : z_S) (k1 : Int32 → Int32 → Option Int32) (x2 : Int32) (x3 : Int32) : Option Int32 :=
  z_b1 (f_X9_count (1 : Int32) σ) fun r5 =>
  if r5 ≤ x3 then
  (some (x2))
  else
  (z_b1 (f_X9_houseOf x3 (1 : Int32) σ) fun r8 =>
  z_let (x2 + r8) fun x9 =>
  z_let (x3 + (1 : Int32)) fun x10 =>
  k1 x9 x10)
def f_X11_bundle (σ : z_S) : Option Int32 :=
  z_lp2 (lb_X11_bundle_4 σ) z_Fu (0 : Int32) (0 : Int32)
set_option maxRecDepth 100000 in
set_option maxHeartbeats 4000000 in
theorem c_X11_bundle (σ : z_S) (r : Int32) (h : f_X11_bundle σ = some r) : zMet yX11_bundle cX11_bundle 3 (some .int) 3 66 layX 275 (fun ad => [.ref (ad 230)]) σ (z_QI layX 275 r σ) := by
  refine z_headI RX11 (by decide) rfl (fun _ => Nat.le_of_ble_eq_true rfl) (fun E G A ad hB hret => ?_)
  show ZW E G A 3 layX 275 ad 0 [(0, .ref (ad 230))] [] σ
  unfold f_X11_bundle at h
  refine z_iconst hB dX11_bundle_0 zcI_0 ?_
  refine z_istore_n hB [(1, .int ((0 : Int32))), (0, .ref (ad 230))] dX11_bundle_1 rfl (Nat.le_of_ble_eq_true rfl) rfl rfl ?_
  refine z_iconst hB dX11_bundle_2 zcI_0 ?_
  refine z_istore_n hB [(2, .int ((0 : Int32))), (1, .int ((0 : Int32))), (0, .ref (ad 230))] dX11_bundle_3 rfl (Nat.le_of_ble_eq_true rfl) rfl rfl ?_
  refine z_lv [2, 1, 0] rfl ?_
  refine z_lpr2 (g := fun x2 x3 => ZW E G A 3 layX 275 ad 4 [(0, .ref (ad 230)), (1, .int x2), (2, .int x3)] [] σ) (fun k1 x2 x3 hk_k1 h => ?_) _ _ _ h
  show ZW E G A 3 layX 275 ad 4 [(0, .ref (ad 230)), (1, .int x2), (2, .int x3)] [] σ
  unfold lb_X11_bundle_4 at h
  refine z_iload_n hB 2 dX11_bundle_4 rfl rfl ?_
  refine z_aload_n hB 0 dX11_bundle_5 rfl rfl ?_
  refine z_iconst hB dX11_bundle_6 zcI_1 ?_
  obtain ⟨r5, h4, h⟩ := z_b1E h
  refine z_cI hB (z_rV (ι := fun k => k) hB yY_X9_count (c_X9_count _ _ _ h4) rfl cut_X z_hid kX_230 (Nat.le_of_ble_eq_true rfl) vc_9 rfl rfl rfl (Nat.le_of_ble_eq_true rfl) ml_X11_11 ⟨Nat.le_of_ble_eq_true rfl, Nat.le_of_ble_eq_true rfl⟩ dX11_bundle_7) cut_X z_hid ?_
  refine z_toA (z_mro cut_X) ?_
  refine z_icmp_ge hB (tgt := 28) dX11_bundle_10 (by decide) (fun c6 => ?_) (fun c6 => ?_)
  · have h := z_ifT c6 h
    refine z_iload_n hB 1 dX11_bundle_28 rfl rfl ?_
    exact hret _ _ _ _ (Option.some.inj h) rfl rfl dX11_bundle_29
  · have h := z_ifF c6 h
    refine z_iload_n hB 1 dX11_bundle_13 rfl rfl ?_
    refine z_aload_n hB 0 dX11_bundle_14 rfl rfl ?_
    refine z_iload_n hB 2 dX11_bundle_15 rfl rfl ?_
    refine z_iconst hB dX11_bundle_16 zcI_1 ?_
    obtain ⟨r8, h7, h⟩ := z_b1E h
    refine z_cI hB (z_rV (ι := fun k => k) hB yY_X9_houseOf (c_X9_houseOf _ _ _ _ h7) rfl cut_X z_hid kX_230 (Nat.le_of_ble_eq_true rfl) vc_9 rfl rfl rfl (Nat.le_of_ble_eq_true rfl) ml_X11_24 ⟨Nat.le_of_ble_eq_true rfl, Nat.le_of_ble_eq_true rfl⟩ dX11_bundle_17) cut_X z_hid ?_
    refine z_toA (z_mro cut_X) ?_
    refine z_iadd hB dX11_bundle_20 ?_
    obtain ⟨x9, ex9, h⟩ := z_letE h
    refine z_istore_n hB [(1, .int x9), (0, .ref (ad 230)), (2, .int x3)] dX11_bundle_21 rfl (Nat.le_of_ble_eq_true rfl) ex9 rfl ?_
    obtain ⟨x10, ex10, h⟩ := z_letE h
    refine z_iinc hB 2 [(2, .int x10), (1, .int x9), (0, .ref (ad 230))] dX11_bundle_22 rfl (by rw [zcI_1]; exact ex10) (Nat.le_of_ble_eq_true rfl) rfl ?_
    refine z_goto hB (tgt := 4) dX11_bundle_25 (by decide) ?_
    refine z_lv [2, 1, 0] rfl ?_
    exact hk_k1 _ _ h
def lb_X11_mark_244 (σ : z_S) (k32 : Int64 → Int32 → Option Int64) (x33 : Int64) (x34 : Int32) : Option Int64 :=
  z_b1 (f_X9_count (3 : Int32) σ) fun r36 =>
  if r36 ≤ x34 then
  (some (x33))
  else
  (z_b1 (f_X9_pauseOf x34 (0 : Int32) σ) fun r39 =>
  z_b1 (f_X9_pauseOf x34 (1 : Int32) σ) fun r41 =>
  z_b1 (f_X9_pauseOf x34 (2 : Int32) σ) fun r43 =>
  z_let ((((31 : Int64)) * ((((31 : Int64)) * ((((31 : Int64)) * x33) + (Int32.toInt64 r39))) + (Int32.toInt64 r41))) + (Int32.toInt64 r43)) fun x44 =>
  z_let (x34 + (1 : Int32)) fun x45 =>
  k32 x44 x45)
def lb_X11_mark_208 (σ : z_S) (k26 : Int64 → Int32 → Option Int64) (x28 : Int32) (k46 : Int64 → Int32 → Option Int64) (x47 : Int64) (x48 : Int32) : Option Int64 :=
  if (8 : Int32) ≤ x48 then
  (z_let (x28 + (1 : Int32)) fun x50 =>
  k26 x47 x50)
  else
  (z_b1 (f_X9_carrierOf x28 x48 σ) fun r52 =>
  z_let ((((31 : Int64)) * x47) + (Int32.toInt64 r52)) fun x53 =>
  z_let (x48 + (1 : Int32)) fun x54 =>
  k46 x53 x54)
def lb_X11_mark_196 (σ : z_S) (k26 : Int64 → Int32 → Option Int64) (x27 : Int64) (x28 : Int32) : Option Int64 :=
  z_b1 (f_X9_count (2 : Int32) σ) fun r30 =>
  if r30 ≤ x28 then
  (z_lp2 (lb_X11_mark_244 σ) z_Fu x27 (0 : Int32))
  else
  (z_lp2 (lb_X11_mark_208 σ k26 x28) z_Fu x27 (0 : Int32))
def lb_X11_mark_136 (σ : z_S) (k20 : Int64 → Int32 → Option Int64) (x22 : Int32) (k55 : Int64 → Int32 → Option Int64) (x56 : Int64) (x57 : Int32) : Option Int64 :=
  if (12 : Int32) ≤ x57 then
  (z_b1 (f_X9_shareBits x22 σ) fun r60 =>
  z_b1 (f_X9_nextDog x22 σ) fun r62 =>
  z_let ((((31 : Int64)) * ((((31 : Int64)) * x56) + (Int32.toInt64 r60))) + (Int32.toInt64 r62)) fun x63 =>
  z_let (x22 + (1 : Int32)) fun x64 =>
  k20 x63 x64)
  else
  (z_b1 (f_X9_houseOf x22 x57 σ) fun r66 =>
  z_let ((((31 : Int64)) * x56) + (Int32.toInt64 r66)) fun x67 =>
  z_let (x57 + (1 : Int32)) fun x68 =>
  k55 x67 x68)
def lb_X11_mark_124 (σ : z_S) (k20 : Int64 → Int32 → Option Int64) (x21 : Int64) (x22 : Int32) : Option Int64 :=
  z_b1 (f_X9_count (1 : Int32) σ) fun r24 =>
  if r24 ≤ x22 then
  (z_lp2 (lb_X11_mark_196 σ) z_Fu x21 (0 : Int32))
  else
  (z_lp2 (lb_X11_mark_136 σ k20 x22) z_Fu x21 (0 : Int32))
def lb_X11_mark_88 (σ : z_S) (k14 : Int64 → Int32 → Option Int64) (x16 : Int32) (k69 : Int64 → Int32 → Option Int64) (x70 : Int64) (x71 : Int32) : Option Int64 :=
  if (7 : Int32) ≤ x71 then
  (z_let (x16 + (1 : Int32)) fun x73 =>
  k14 x70 x73)
  else
  (z_b1 (f_X9_cornerOf x16 x71 σ) fun r75 =>
  z_let ((((31 : Int64)) * x70) + (Int32.toInt64 r75)) fun x76 =>
  z_let (x71 + (1 : Int32)) fun x77 =>
  k69 x76 x77)
def lb_X11_mark_76 (σ : z_S) (k14 : Int64 → Int32 → Option Int64) (x15 : Int64) (x16 : Int32) : Option Int64 :=
  z_b1 (f_X9_count (0 : Int32) σ) fun r18 =>
  if r18 ≤ x16 then
  (z_lp2 (lb_X11_mark_124 σ) z_Fu x15 (0 : Int32))
  else
  (z_lp2 (lb_X11_mark_88 σ k14 x16) z_Fu x15 (0 : Int32))
def lb_X11_mark_49 (σ : z_S) (k10 : Int64 → Int32 → Option Int64) (x11 : Int64) (x12 : Int32) : Option Int64 :=
  if (6 : Int32) ≤ x12 then
  (z_lp2 (lb_X11_mark_76 σ) z_Fu x11 (0 : Int32))
  else
  (z_b1 (f_X9_account x12 σ) fun r79 =>
  z_let ((((31 : Int64)) * x11) + (Int32.toInt64 r79)) fun x80 =>
  z_let (x12 + (1 : Int32)) fun x81 =>
  k10 x80 x81)
def lb_X11_mark_22 (σ : z_S) (k6 : Int64 → Int32 → Option Int64) (x7 : Int64) (x8 : Int32) : Option Int64 :=
  if (9 : Int32) ≤ x8 then
  (z_lp2 (lb_X11_mark_49 σ) z_Fu x7 (0 : Int32))
  else
  (z_b1 (f_X9_count x8 σ) fun r83 =>
  z_let ((((31 : Int64)) * x7) + (Int32.toInt64 r83)) fun x84 =>
  z_let (x8 + (1 : Int32)) fun x85 =>
  k6 x84 x85)
def f_X11_mark (σ : z_S) : Option Int64 :=
  z_b1 (f_X9_count (20 : Int32) σ) fun r2 =>
  z_b1 (f_X9_count (21 : Int32) σ) fun r4 =>
  z_let ((((31 : Int64)) * (Int32.toInt64 r2)) + (Int32.toInt64 r4)) fun x5 =>
  z_lp2 (lb_X11_mark_22 σ) z_Fu x5 (0 : Int32)
set_option maxRecDepth 100000 in
set_option maxHeartbeats 4000000 in
theorem c_X11_mark (σ : z_S) (r : Int64) (h : f_X11_mark σ = some r) : zMet yX11_mark cX11_mark 5 (some .long) 3 70 layX 275 (fun ad => [.ref (ad 230)]) σ (z_QL layX 275 r σ) := by
  refine z_headL RX11 (by decide) rfl (fun _ => Nat.le_of_ble_eq_true rfl) (fun E G A ad hB hret => ?_)
  show ZW E G A 5 layX 275 ad 0 [(0, .ref (ad 230))] [] σ
  unfold f_X11_mark at h
  refine z_ldc2 hB (v := 31) (wsL_c18 _ (List.mem_of_getElem? (i := 17) rfl)) dX11_mark_0 ?_
  refine z_aload_n hB 0 dX11_mark_3 rfl rfl ?_
  refine z_bipush hB dX11_mark_4 zcB_20 ?_
  obtain ⟨r2, h1, h⟩ := z_b1E h
  refine z_cI hB (z_rV (ι := fun k => k) hB yY_X9_count (c_X9_count _ _ _ h1) rfl cut_X z_hid kX_230 (Nat.le_of_ble_eq_true rfl) vc_9 rfl rfl rfl (Nat.le_of_ble_eq_true rfl) ml_X11_11 ⟨Nat.le_of_ble_eq_true rfl, Nat.le_of_ble_eq_true rfl⟩ dX11_mark_6) cut_X z_hid ?_
  refine z_toA (z_mro cut_X) ?_
  refine z_i2l hB dX11_mark_9 ?_
  refine z_lmul hB dX11_mark_10 ?_
  refine z_aload_n hB 0 dX11_mark_11 rfl rfl ?_
  refine z_bipush hB dX11_mark_12 zcB_21 ?_
  obtain ⟨r4, h3, h⟩ := z_b1E h
  refine z_cI hB (z_rV (ι := fun k => k) hB yY_X9_count (c_X9_count _ _ _ h3) rfl cut_X z_hid kX_230 (Nat.le_of_ble_eq_true rfl) vc_9 rfl rfl rfl (Nat.le_of_ble_eq_true rfl) ml_X11_11 ⟨Nat.le_of_ble_eq_true rfl, Nat.le_of_ble_eq_true rfl⟩ dX11_mark_14) cut_X z_hid ?_
  refine z_toA (z_mro cut_X) ?_
  refine z_i2l hB dX11_mark_17 ?_
  refine z_ladd hB dX11_mark_18 ?_
  obtain ⟨x5, ex5, h⟩ := z_letE h
  refine z_lstore_n hB [(1, .long x5), (0, .ref (ad 230))] dX11_mark_19 rfl (Nat.le_of_ble_eq_true rfl) ex5 rfl ?_
  refine z_iconst hB dX11_mark_20 zcI_0 ?_
  refine z_istore_n hB [(3, .int ((0 : Int32))), (1, .long x5), (0, .ref (ad 230))] dX11_mark_21 rfl (Nat.le_of_ble_eq_true rfl) rfl rfl ?_
  refine z_lv [2, 1, 0] rfl ?_
  refine z_lpr2 (g := fun x7 x8 => ZW E G A 5 layX 275 ad 22 [(0, .ref (ad 230)), (1, .long x7), (3, .int x8)] [] σ) (fun k6 x7 x8 hk_k6 h => ?_) _ _ _ h
  show ZW E G A 5 layX 275 ad 22 [(0, .ref (ad 230)), (1, .long x7), (3, .int x8)] [] σ
  unfold lb_X11_mark_22 at h
  refine z_iload_n hB 2 dX11_mark_22 rfl rfl ?_
  refine z_bipush hB dX11_mark_23 zcB_9 ?_
  refine z_icmp_ge hB (tgt := 47) dX11_mark_25 (by decide) (fun c9 => ?_) (fun c9 => ?_)
  · have h := z_ifT c9 h
    refine z_iconst hB dX11_mark_47 zcI_0 ?_
    refine z_istore_n hB [(3, .int ((0 : Int32))), (0, .ref (ad 230)), (1, .long x7)] dX11_mark_48 rfl (Nat.le_of_ble_eq_true rfl) rfl rfl ?_
    refine z_lv [1, 2, 0] rfl ?_
    refine z_lpr2 (g := fun x11 x12 => ZW E G A 5 layX 275 ad 49 [(0, .ref (ad 230)), (1, .long x11), (3, .int x12)] [] σ) (fun k10 x11 x12 hk_k10 h => ?_) _ _ _ h
    show ZW E G A 5 layX 275 ad 49 [(0, .ref (ad 230)), (1, .long x11), (3, .int x12)] [] σ
    unfold lb_X11_mark_49 at h
    refine z_iload_n hB 2 dX11_mark_49 rfl rfl ?_
    refine z_bipush hB dX11_mark_50 zcB_6 ?_
    refine z_icmp_ge hB (tgt := 74) dX11_mark_52 (by decide) (fun c13 => ?_) (fun c13 => ?_)
    · have h := z_ifT c13 h
      refine z_iconst hB dX11_mark_74 zcI_0 ?_
      refine z_istore_n hB [(3, .int ((0 : Int32))), (0, .ref (ad 230)), (1, .long x11)] dX11_mark_75 rfl (Nat.le_of_ble_eq_true rfl) rfl rfl ?_
      refine z_lv [1, 2, 0] rfl ?_
      refine z_lpr2 (g := fun x15 x16 => ZW E G A 5 layX 275 ad 76 [(0, .ref (ad 230)), (1, .long x15), (3, .int x16)] [] σ) (fun k14 x15 x16 hk_k14 h => ?_) _ _ _ h
      show ZW E G A 5 layX 275 ad 76 [(0, .ref (ad 230)), (1, .long x15), (3, .int x16)] [] σ
      unfold lb_X11_mark_76 at h
      refine z_iload_n hB 2 dX11_mark_76 rfl rfl ?_
      refine z_aload_n hB 0 dX11_mark_77 rfl rfl ?_
      refine z_iconst hB dX11_mark_78 zcI_0 ?_
      obtain ⟨r18, h17, h⟩ := z_b1E h
      refine z_cI hB (z_rV (ι := fun k => k) hB yY_X9_count (c_X9_count _ _ _ h17) rfl cut_X z_hid kX_230 (Nat.le_of_ble_eq_true rfl) vc_9 rfl rfl rfl (Nat.le_of_ble_eq_true rfl) ml_X11_11 ⟨Nat.le_of_ble_eq_true rfl, Nat.le_of_ble_eq_true rfl⟩ dX11_mark_79) cut_X z_hid ?_
      refine z_toA (z_mro cut_X) ?_
      refine z_icmp_ge hB (tgt := 122) dX11_mark_82 (by decide) (fun c19 => ?_) (fun c19 => ?_)
      · have h := z_ifT c19 h
        refine z_iconst hB dX11_mark_122 zcI_0 ?_
        refine z_istore_n hB [(3, .int ((0 : Int32))), (0, .ref (ad 230)), (1, .long x15)] dX11_mark_123 rfl (Nat.le_of_ble_eq_true rfl) rfl rfl ?_
        refine z_lv [1, 2, 0] rfl ?_
        refine z_lpr2 (g := fun x21 x22 => ZW E G A 5 layX 275 ad 124 [(0, .ref (ad 230)), (1, .long x21), (3, .int x22)] [] σ) (fun k20 x21 x22 hk_k20 h => ?_) _ _ _ h
        show ZW E G A 5 layX 275 ad 124 [(0, .ref (ad 230)), (1, .long x21), (3, .int x22)] [] σ
        unfold lb_X11_mark_124 at h
        refine z_iload_n hB 2 dX11_mark_124 rfl rfl ?_
        refine z_aload_n hB 0 dX11_mark_125 rfl rfl ?_
        refine z_iconst hB dX11_mark_126 zcI_1 ?_
        obtain ⟨r24, h23, h⟩ := z_b1E h
        refine z_cI hB (z_rV (ι := fun k => k) hB yY_X9_count (c_X9_count _ _ _ h23) rfl cut_X z_hid kX_230 (Nat.le_of_ble_eq_true rfl) vc_9 rfl rfl rfl (Nat.le_of_ble_eq_true rfl) ml_X11_11 ⟨Nat.le_of_ble_eq_true rfl, Nat.le_of_ble_eq_true rfl⟩ dX11_mark_127) cut_X z_hid ?_
        refine z_toA (z_mro cut_X) ?_
        refine z_icmp_ge hB (tgt := 194) dX11_mark_130 (by decide) (fun c25 => ?_) (fun c25 => ?_)
        · have h := z_ifT c25 h
          refine z_iconst hB dX11_mark_194 zcI_0 ?_
          refine z_istore_n hB [(3, .int ((0 : Int32))), (0, .ref (ad 230)), (1, .long x21)] dX11_mark_195 rfl (Nat.le_of_ble_eq_true rfl) rfl rfl ?_
          refine z_lv [1, 2, 0] rfl ?_
          refine z_lpr2 (g := fun x27 x28 => ZW E G A 5 layX 275 ad 196 [(0, .ref (ad 230)), (1, .long x27), (3, .int x28)] [] σ) (fun k26 x27 x28 hk_k26 h => ?_) _ _ _ h
          show ZW E G A 5 layX 275 ad 196 [(0, .ref (ad 230)), (1, .long x27), (3, .int x28)] [] σ
          unfold lb_X11_mark_196 at h
          refine z_iload_n hB 2 dX11_mark_196 rfl rfl ?_
          refine z_aload_n hB 0 dX11_mark_197 rfl rfl ?_
          refine z_iconst hB dX11_mark_198 zcI_2 ?_
          obtain ⟨r30, h29, h⟩ := z_b1E h
          refine z_cI hB (z_rV (ι := fun k => k) hB yY_X9_count (c_X9_count _ _ _ h29) rfl cut_X z_hid kX_230 (Nat.le_of_ble_eq_true rfl) vc_9 rfl rfl rfl (Nat.le_of_ble_eq_true rfl) ml_X11_11 ⟨Nat.le_of_ble_eq_true rfl, Nat.le_of_ble_eq_true rfl⟩ dX11_mark_199) cut_X z_hid ?_
          refine z_toA (z_mro cut_X) ?_
          refine z_icmp_ge hB (tgt := 242) dX11_mark_202 (by decide) (fun c31 => ?_) (fun c31 => ?_)
          · have h := z_ifT c31 h
            refine z_iconst hB dX11_mark_242 zcI_0 ?_
            refine z_istore_n hB [(3, .int ((0 : Int32))), (0, .ref (ad 230)), (1, .long x27)] dX11_mark_243 rfl (Nat.le_of_ble_eq_true rfl) rfl rfl ?_
            refine z_lv [1, 2, 0] rfl ?_
            refine z_lpr2 (g := fun x33 x34 => ZW E G A 5 layX 275 ad 244 [(0, .ref (ad 230)), (1, .long x33), (3, .int x34)] [] σ) (fun k32 x33 x34 hk_k32 h => ?_) _ _ _ h
            show ZW E G A 5 layX 275 ad 244 [(0, .ref (ad 230)), (1, .long x33), (3, .int x34)] [] σ
            unfold lb_X11_mark_244 at h
            refine z_iload_n hB 2 dX11_mark_244 rfl rfl ?_
            refine z_aload_n hB 0 dX11_mark_245 rfl rfl ?_
            refine z_iconst hB dX11_mark_246 zcI_3 ?_
            obtain ⟨r36, h35, h⟩ := z_b1E h
            refine z_cI hB (z_rV (ι := fun k => k) hB yY_X9_count (c_X9_count _ _ _ h35) rfl cut_X z_hid kX_230 (Nat.le_of_ble_eq_true rfl) vc_9 rfl rfl rfl (Nat.le_of_ble_eq_true rfl) ml_X11_11 ⟨Nat.le_of_ble_eq_true rfl, Nat.le_of_ble_eq_true rfl⟩ dX11_mark_247) cut_X z_hid ?_
            refine z_toA (z_mro cut_X) ?_
            refine z_icmp_ge hB (tgt := 297) dX11_mark_250 (by decide) (fun c37 => ?_) (fun c37 => ?_)
            · have h := z_ifT c37 h
              refine z_lload_n hB 1 dX11_mark_297 rfl rfl ?_
              exact hret _ _ _ _ (Option.some.inj h) rfl dX11_mark_298
            · have h := z_ifF c37 h
              refine z_ldc2 hB (v := 31) (wsL_c18 _ (List.mem_of_getElem? (i := 17) rfl)) dX11_mark_253 ?_
              refine z_ldc2 hB (v := 31) (wsL_c18 _ (List.mem_of_getElem? (i := 17) rfl)) dX11_mark_256 ?_
              refine z_ldc2 hB (v := 31) (wsL_c18 _ (List.mem_of_getElem? (i := 17) rfl)) dX11_mark_259 ?_
              refine z_lload_n hB 1 dX11_mark_262 rfl rfl ?_
              refine z_lmul hB dX11_mark_263 ?_
              refine z_aload_n hB 0 dX11_mark_264 rfl rfl ?_
              refine z_iload_n hB 2 dX11_mark_265 rfl rfl ?_
              refine z_iconst hB dX11_mark_266 zcI_0 ?_
              obtain ⟨r39, h38, h⟩ := z_b1E h
              refine z_cI hB (z_rV (ι := fun k => k) hB yY_X9_pauseOf (c_X9_pauseOf _ _ _ _ h38) rfl cut_X z_hid kX_230 (Nat.le_of_ble_eq_true rfl) vc_9 rfl rfl rfl (Nat.le_of_ble_eq_true rfl) ml_X11_36 ⟨Nat.le_of_ble_eq_true rfl, Nat.le_of_ble_eq_true rfl⟩ dX11_mark_267) cut_X z_hid ?_
              refine z_toA (z_mro cut_X) ?_
              refine z_i2l hB dX11_mark_270 ?_
              refine z_ladd hB dX11_mark_271 ?_
              refine z_lmul hB dX11_mark_272 ?_
              refine z_aload_n hB 0 dX11_mark_273 rfl rfl ?_
              refine z_iload_n hB 2 dX11_mark_274 rfl rfl ?_
              refine z_iconst hB dX11_mark_275 zcI_1 ?_
              obtain ⟨r41, h40, h⟩ := z_b1E h
              refine z_cI hB (z_rV (ι := fun k => k) hB yY_X9_pauseOf (c_X9_pauseOf _ _ _ _ h40) rfl cut_X z_hid kX_230 (Nat.le_of_ble_eq_true rfl) vc_9 rfl rfl rfl (Nat.le_of_ble_eq_true rfl) ml_X11_36 ⟨Nat.le_of_ble_eq_true rfl, Nat.le_of_ble_eq_true rfl⟩ dX11_mark_276) cut_X z_hid ?_
              refine z_toA (z_mro cut_X) ?_
              refine z_i2l hB dX11_mark_279 ?_
              refine z_ladd hB dX11_mark_280 ?_
              refine z_lmul hB dX11_mark_281 ?_
              refine z_aload_n hB 0 dX11_mark_282 rfl rfl ?_
              refine z_iload_n hB 2 dX11_mark_283 rfl rfl ?_
              refine z_iconst hB dX11_mark_284 zcI_2 ?_
              obtain ⟨r43, h42, h⟩ := z_b1E h
              refine z_cI hB (z_rV (ι := fun k => k) hB yY_X9_pauseOf (c_X9_pauseOf _ _ _ _ h42) rfl cut_X z_hid kX_230 (Nat.le_of_ble_eq_true rfl) vc_9 rfl rfl rfl (Nat.le_of_ble_eq_true rfl) ml_X11_36 ⟨Nat.le_of_ble_eq_true rfl, Nat.le_of_ble_eq_true rfl⟩ dX11_mark_285) cut_X z_hid ?_
              refine z_toA (z_mro cut_X) ?_
              refine z_i2l hB dX11_mark_288 ?_
              refine z_ladd hB dX11_mark_289 ?_
              obtain ⟨x44, ex44, h⟩ := z_letE h
              refine z_lstore_n hB [(1, .long x44), (0, .ref (ad 230)), (3, .int x34)] dX11_mark_290 rfl (Nat.le_of_ble_eq_true rfl) ex44 rfl ?_
              obtain ⟨x45, ex45, h⟩ := z_letE h
              refine z_iinc hB 2 [(3, .int x45), (1, .long x44), (0, .ref (ad 230))] dX11_mark_291 rfl (by rw [zcI_1]; exact ex45) (Nat.le_of_ble_eq_true rfl) rfl ?_
              refine z_goto hB (tgt := 244) dX11_mark_294 (by decide) ?_
              refine z_lv [2, 1, 0] rfl ?_
              exact hk_k32 _ _ h
          · have h := z_ifF c31 h
            refine z_iconst hB dX11_mark_205 zcI_0 ?_
            refine z_istore hB [(4, .int ((0 : Int32))), (0, .ref (ad 230)), (1, .long x27), (3, .int x28)] dX11_mark_206 (Nat.le_of_ble_eq_true rfl) rfl rfl ?_
            refine z_lv [1, 2, 3, 0] rfl ?_
            refine z_lpr2 (g := fun x47 x48 => ZW E G A 5 layX 275 ad 208 [(0, .ref (ad 230)), (1, .long x47), (3, .int x28), (4, .int x48)] [] σ) (fun k46 x47 x48 hk_k46 h => ?_) _ _ _ h
            show ZW E G A 5 layX 275 ad 208 [(0, .ref (ad 230)), (1, .long x47), (3, .int x28), (4, .int x48)] [] σ
            unfold lb_X11_mark_208 at h
            refine z_iload hB 3 dX11_mark_208 rfl ?_
            refine z_bipush hB dX11_mark_210 zcB_8 ?_
            refine z_icmp_ge hB (tgt := 236) dX11_mark_212 (by decide) (fun c49 => ?_) (fun c49 => ?_)
            · have h := z_ifT c49 h
              obtain ⟨x50, ex50, h⟩ := z_letE h
              refine z_iinc hB 2 [(3, .int x50), (0, .ref (ad 230)), (1, .long x47), (4, .int x48)] dX11_mark_236 rfl (by rw [zcI_1]; exact ex50) (Nat.le_of_ble_eq_true rfl) rfl ?_
              refine z_goto hB (tgt := 196) dX11_mark_239 (by decide) ?_
              refine z_lv [1, 2, 0] rfl ?_
              exact hk_k26 _ _ h
            · have h := z_ifF c49 h
              refine z_ldc2 hB (v := 31) (wsL_c18 _ (List.mem_of_getElem? (i := 17) rfl)) dX11_mark_215 ?_
              refine z_lload_n hB 1 dX11_mark_218 rfl rfl ?_
              refine z_lmul hB dX11_mark_219 ?_
              refine z_aload_n hB 0 dX11_mark_220 rfl rfl ?_
              refine z_iload_n hB 2 dX11_mark_221 rfl rfl ?_
              refine z_iload hB 3 dX11_mark_222 rfl ?_
              obtain ⟨r52, h51, h⟩ := z_b1E h
              refine z_cI hB (z_rV (ι := fun k => k) hB yY_X9_carrierOf (c_X9_carrierOf _ _ _ _ h51) rfl cut_X z_hid kX_230 (Nat.le_of_ble_eq_true rfl) vc_9 rfl rfl rfl (Nat.le_of_ble_eq_true rfl) ml_X11_33 ⟨Nat.le_of_ble_eq_true rfl, Nat.le_of_ble_eq_true rfl⟩ dX11_mark_224) cut_X z_hid ?_
              refine z_toA (z_mro cut_X) ?_
              refine z_i2l hB dX11_mark_227 ?_
              refine z_ladd hB dX11_mark_228 ?_
              obtain ⟨x53, ex53, h⟩ := z_letE h
              refine z_lstore_n hB [(1, .long x53), (0, .ref (ad 230)), (3, .int x28), (4, .int x48)] dX11_mark_229 rfl (Nat.le_of_ble_eq_true rfl) ex53 rfl ?_
              obtain ⟨x54, ex54, h⟩ := z_letE h
              refine z_iinc hB 3 [(4, .int x54), (1, .long x53), (0, .ref (ad 230)), (3, .int x28)] dX11_mark_230 rfl (by rw [zcI_1]; exact ex54) (Nat.le_of_ble_eq_true rfl) rfl ?_
              refine z_goto hB (tgt := 208) dX11_mark_233 (by decide) ?_
              refine z_lv [2, 1, 3, 0] rfl ?_
              exact hk_k46 _ _ h
        · have h := z_ifF c25 h
          refine z_iconst hB dX11_mark_133 zcI_0 ?_
          refine z_istore hB [(4, .int ((0 : Int32))), (0, .ref (ad 230)), (1, .long x21), (3, .int x22)] dX11_mark_134 (Nat.le_of_ble_eq_true rfl) rfl rfl ?_
          refine z_lv [1, 2, 3, 0] rfl ?_
          refine z_lpr2 (g := fun x56 x57 => ZW E G A 5 layX 275 ad 136 [(0, .ref (ad 230)), (1, .long x56), (3, .int x22), (4, .int x57)] [] σ) (fun k55 x56 x57 hk_k55 h => ?_) _ _ _ h
          show ZW E G A 5 layX 275 ad 136 [(0, .ref (ad 230)), (1, .long x56), (3, .int x22), (4, .int x57)] [] σ
          unfold lb_X11_mark_136 at h
          refine z_iload hB 3 dX11_mark_136 rfl ?_
          refine z_bipush hB dX11_mark_138 zcB_12 ?_
          refine z_icmp_ge hB (tgt := 164) dX11_mark_140 (by decide) (fun c58 => ?_) (fun c58 => ?_)
          · have h := z_ifT c58 h
            refine z_ldc2 hB (v := 31) (wsL_c18 _ (List.mem_of_getElem? (i := 17) rfl)) dX11_mark_164 ?_
            refine z_ldc2 hB (v := 31) (wsL_c18 _ (List.mem_of_getElem? (i := 17) rfl)) dX11_mark_167 ?_
            refine z_lload_n hB 1 dX11_mark_170 rfl rfl ?_
            refine z_lmul hB dX11_mark_171 ?_
            refine z_aload_n hB 0 dX11_mark_172 rfl rfl ?_
            refine z_iload_n hB 2 dX11_mark_173 rfl rfl ?_
            obtain ⟨r60, h59, h⟩ := z_b1E h
            refine z_cI hB (z_rV (ι := fun k => k) hB yY_X9_shareBits (c_X9_shareBits _ _ _ h59) rfl cut_X z_hid kX_230 (Nat.le_of_ble_eq_true rfl) vc_9 rfl rfl rfl (Nat.le_of_ble_eq_true rfl) ml_X11_27 ⟨Nat.le_of_ble_eq_true rfl, Nat.le_of_ble_eq_true rfl⟩ dX11_mark_174) cut_X z_hid ?_
            refine z_toA (z_mro cut_X) ?_
            refine z_i2l hB dX11_mark_177 ?_
            refine z_ladd hB dX11_mark_178 ?_
            refine z_lmul hB dX11_mark_179 ?_
            refine z_aload_n hB 0 dX11_mark_180 rfl rfl ?_
            refine z_iload_n hB 2 dX11_mark_181 rfl rfl ?_
            obtain ⟨r62, h61, h⟩ := z_b1E h
            refine z_cI hB (z_rV (ι := fun k => k) hB yY_X9_nextDog (c_X9_nextDog _ _ _ h61) rfl cut_X z_hid kX_230 (Nat.le_of_ble_eq_true rfl) vc_9 rfl rfl rfl (Nat.le_of_ble_eq_true rfl) ml_X11_30 ⟨Nat.le_of_ble_eq_true rfl, Nat.le_of_ble_eq_true rfl⟩ dX11_mark_182) cut_X z_hid ?_
            refine z_toA (z_mro cut_X) ?_
            refine z_i2l hB dX11_mark_185 ?_
            refine z_ladd hB dX11_mark_186 ?_
            obtain ⟨x63, ex63, h⟩ := z_letE h
            refine z_lstore_n hB [(1, .long x63), (0, .ref (ad 230)), (3, .int x22), (4, .int x57)] dX11_mark_187 rfl (Nat.le_of_ble_eq_true rfl) ex63 rfl ?_
            obtain ⟨x64, ex64, h⟩ := z_letE h
            refine z_iinc hB 2 [(3, .int x64), (1, .long x63), (0, .ref (ad 230)), (4, .int x57)] dX11_mark_188 rfl (by rw [zcI_1]; exact ex64) (Nat.le_of_ble_eq_true rfl) rfl ?_
            refine z_goto hB (tgt := 124) dX11_mark_191 (by decide) ?_
            refine z_lv [2, 1, 0] rfl ?_
            exact hk_k20 _ _ h
          · have h := z_ifF c58 h
            refine z_ldc2 hB (v := 31) (wsL_c18 _ (List.mem_of_getElem? (i := 17) rfl)) dX11_mark_143 ?_
            refine z_lload_n hB 1 dX11_mark_146 rfl rfl ?_
            refine z_lmul hB dX11_mark_147 ?_
            refine z_aload_n hB 0 dX11_mark_148 rfl rfl ?_
            refine z_iload_n hB 2 dX11_mark_149 rfl rfl ?_
            refine z_iload hB 3 dX11_mark_150 rfl ?_
            obtain ⟨r66, h65, h⟩ := z_b1E h
            refine z_cI hB (z_rV (ι := fun k => k) hB yY_X9_houseOf (c_X9_houseOf _ _ _ _ h65) rfl cut_X z_hid kX_230 (Nat.le_of_ble_eq_true rfl) vc_9 rfl rfl rfl (Nat.le_of_ble_eq_true rfl) ml_X11_24 ⟨Nat.le_of_ble_eq_true rfl, Nat.le_of_ble_eq_true rfl⟩ dX11_mark_152) cut_X z_hid ?_
            refine z_toA (z_mro cut_X) ?_
            refine z_i2l hB dX11_mark_155 ?_
            refine z_ladd hB dX11_mark_156 ?_
            obtain ⟨x67, ex67, h⟩ := z_letE h
            refine z_lstore_n hB [(1, .long x67), (0, .ref (ad 230)), (3, .int x22), (4, .int x57)] dX11_mark_157 rfl (Nat.le_of_ble_eq_true rfl) ex67 rfl ?_
            obtain ⟨x68, ex68, h⟩ := z_letE h
            refine z_iinc hB 3 [(4, .int x68), (1, .long x67), (0, .ref (ad 230)), (3, .int x22)] dX11_mark_158 rfl (by rw [zcI_1]; exact ex68) (Nat.le_of_ble_eq_true rfl) rfl ?_
            refine z_goto hB (tgt := 136) dX11_mark_161 (by decide) ?_
            refine z_lv [2, 1, 3, 0] rfl ?_
            exact hk_k55 _ _ h
      · have h := z_ifF c19 h
        refine z_iconst hB dX11_mark_85 zcI_0 ?_
        refine z_istore hB [(4, .int ((0 : Int32))), (0, .ref (ad 230)), (1, .long x15), (3, .int x16)] dX11_mark_86 (Nat.le_of_ble_eq_true rfl) rfl rfl ?_
        refine z_lv [1, 2, 3, 0] rfl ?_
        refine z_lpr2 (g := fun x70 x71 => ZW E G A 5 layX 275 ad 88 [(0, .ref (ad 230)), (1, .long x70), (3, .int x16), (4, .int x71)] [] σ) (fun k69 x70 x71 hk_k69 h => ?_) _ _ _ h
        show ZW E G A 5 layX 275 ad 88 [(0, .ref (ad 230)), (1, .long x70), (3, .int x16), (4, .int x71)] [] σ
        unfold lb_X11_mark_88 at h
        refine z_iload hB 3 dX11_mark_88 rfl ?_
        refine z_bipush hB dX11_mark_90 zcB_7 ?_
        refine z_icmp_ge hB (tgt := 116) dX11_mark_92 (by decide) (fun c72 => ?_) (fun c72 => ?_)
        · have h := z_ifT c72 h
          obtain ⟨x73, ex73, h⟩ := z_letE h
          refine z_iinc hB 2 [(3, .int x73), (0, .ref (ad 230)), (1, .long x70), (4, .int x71)] dX11_mark_116 rfl (by rw [zcI_1]; exact ex73) (Nat.le_of_ble_eq_true rfl) rfl ?_
          refine z_goto hB (tgt := 76) dX11_mark_119 (by decide) ?_
          refine z_lv [1, 2, 0] rfl ?_
          exact hk_k14 _ _ h
        · have h := z_ifF c72 h
          refine z_ldc2 hB (v := 31) (wsL_c18 _ (List.mem_of_getElem? (i := 17) rfl)) dX11_mark_95 ?_
          refine z_lload_n hB 1 dX11_mark_98 rfl rfl ?_
          refine z_lmul hB dX11_mark_99 ?_
          refine z_aload_n hB 0 dX11_mark_100 rfl rfl ?_
          refine z_iload_n hB 2 dX11_mark_101 rfl rfl ?_
          refine z_iload hB 3 dX11_mark_102 rfl ?_
          obtain ⟨r75, h74, h⟩ := z_b1E h
          refine z_cI hB (z_rV (ι := fun k => k) hB yY_X9_cornerOf (c_X9_cornerOf _ _ _ _ h74) rfl cut_X z_hid kX_230 (Nat.le_of_ble_eq_true rfl) vc_9 rfl rfl rfl (Nat.le_of_ble_eq_true rfl) ml_X11_20 ⟨Nat.le_of_ble_eq_true rfl, Nat.le_of_ble_eq_true rfl⟩ dX11_mark_104) cut_X z_hid ?_
          refine z_toA (z_mro cut_X) ?_
          refine z_i2l hB dX11_mark_107 ?_
          refine z_ladd hB dX11_mark_108 ?_
          obtain ⟨x76, ex76, h⟩ := z_letE h
          refine z_lstore_n hB [(1, .long x76), (0, .ref (ad 230)), (3, .int x16), (4, .int x71)] dX11_mark_109 rfl (Nat.le_of_ble_eq_true rfl) ex76 rfl ?_
          obtain ⟨x77, ex77, h⟩ := z_letE h
          refine z_iinc hB 3 [(4, .int x77), (1, .long x76), (0, .ref (ad 230)), (3, .int x16)] dX11_mark_110 rfl (by rw [zcI_1]; exact ex77) (Nat.le_of_ble_eq_true rfl) rfl ?_
          refine z_goto hB (tgt := 88) dX11_mark_113 (by decide) ?_
          refine z_lv [2, 1, 3, 0] rfl ?_
          exact hk_k69 _ _ h
    · have h := z_ifF c13 h
      refine z_ldc2 hB (v := 31) (wsL_c18 _ (List.mem_of_getElem? (i := 17) rfl)) dX11_mark_55 ?_
      refine z_lload_n hB 1 dX11_mark_58 rfl rfl ?_
      refine z_lmul hB dX11_mark_59 ?_
      refine z_aload_n hB 0 dX11_mark_60 rfl rfl ?_
      refine z_iload_n hB 2 dX11_mark_61 rfl rfl ?_
      obtain ⟨r79, h78, h⟩ := z_b1E h
      refine z_cI hB (z_rV (ι := fun k => k) hB yY_X9_account (c_X9_account _ _ _ h78) rfl cut_X z_hid kX_230 (Nat.le_of_ble_eq_true rfl) vc_9 rfl rfl rfl (Nat.le_of_ble_eq_true rfl) ml_X11_17 ⟨Nat.le_of_ble_eq_true rfl, Nat.le_of_ble_eq_true rfl⟩ dX11_mark_62) cut_X z_hid ?_
      refine z_toA (z_mro cut_X) ?_
      refine z_i2l hB dX11_mark_65 ?_
      refine z_ladd hB dX11_mark_66 ?_
      obtain ⟨x80, ex80, h⟩ := z_letE h
      refine z_lstore_n hB [(1, .long x80), (0, .ref (ad 230)), (3, .int x12)] dX11_mark_67 rfl (Nat.le_of_ble_eq_true rfl) ex80 rfl ?_
      obtain ⟨x81, ex81, h⟩ := z_letE h
      refine z_iinc hB 2 [(3, .int x81), (1, .long x80), (0, .ref (ad 230))] dX11_mark_68 rfl (by rw [zcI_1]; exact ex81) (Nat.le_of_ble_eq_true rfl) rfl ?_
      refine z_goto hB (tgt := 49) dX11_mark_71 (by decide) ?_
      refine z_lv [2, 1, 0] rfl ?_
      exact hk_k10 _ _ h
  · have h := z_ifF c9 h
    refine z_ldc2 hB (v := 31) (wsL_c18 _ (List.mem_of_getElem? (i := 17) rfl)) dX11_mark_28 ?_
    refine z_lload_n hB 1 dX11_mark_31 rfl rfl ?_
    refine z_lmul hB dX11_mark_32 ?_
    refine z_aload_n hB 0 dX11_mark_33 rfl rfl ?_
    refine z_iload_n hB 2 dX11_mark_34 rfl rfl ?_
    obtain ⟨r83, h82, h⟩ := z_b1E h
    refine z_cI hB (z_rV (ι := fun k => k) hB yY_X9_count (c_X9_count _ _ _ h82) rfl cut_X z_hid kX_230 (Nat.le_of_ble_eq_true rfl) vc_9 rfl rfl rfl (Nat.le_of_ble_eq_true rfl) ml_X11_11 ⟨Nat.le_of_ble_eq_true rfl, Nat.le_of_ble_eq_true rfl⟩ dX11_mark_35) cut_X z_hid ?_
    refine z_toA (z_mro cut_X) ?_
    refine z_i2l hB dX11_mark_38 ?_
    refine z_ladd hB dX11_mark_39 ?_
    obtain ⟨x84, ex84, h⟩ := z_letE h
    refine z_lstore_n hB [(1, .long x84), (0, .ref (ad 230)), (3, .int x8)] dX11_mark_40 rfl (Nat.le_of_ble_eq_true rfl) ex84 rfl ?_
    obtain ⟨x85, ex85, h⟩ := z_letE h
    refine z_iinc hB 2 [(3, .int x85), (1, .long x84), (0, .ref (ad 230))] dX11_mark_41 rfl (by rw [zcI_1]; exact ex85) (Nat.le_of_ble_eq_true rfl) rfl ?_
    refine z_goto hB (tgt := 22) dX11_mark_44 (by decide) ?_
    refine z_lv [2, 1, 0] rfl ?_
    exact hk_k6 _ _ h
def lb_X11_streets_2 (σ : z_S) (k1 : Int32 → Option Int32) (x2 : Int32) : Option Int32 :=
  z_b1 (f_X9_count (0 : Int32) σ) fun r4 =>
  if r4 ≤ x2 then
  (z_b1 (f_X9_cornerOf (0 : Int32) (4 : Int32) σ) fun r7 =>
  if r7 = (0 : Int32) then
  (z_b1 (f_X9_cornerOf (0 : Int32) (2 : Int32) σ) fun r10 =>
  if r10 = (0 : Int32) then
  (z_b1 (f_X9_cornerOf (0 : Int32) (6 : Int32) σ) fun r13 =>
  if r13 = (1 : Int32) then
  (z_b1 (f_X9_cornerOf (0 : Int32) (5 : Int32) σ) fun r16 =>
  z_b1 (f_X9_count (1 : Int32) σ) fun r18 =>
  if r16 = r18 then
  (some ((1 : Int32)))
  else
  (some ((0 : Int32))))
  else
  (some ((0 : Int32))))
  else
  (some ((0 : Int32))))
  else
  (some ((0 : Int32))))
  else
  (z_b1 (f_X9_cornerOf x2 (0 : Int32) σ) fun r21 =>
  if r21 < (0 : Int32) then
  (some ((0 : Int32)))
  else
  (if x2 ≤ r21 then
  (some ((0 : Int32)))
  else
  (z_b1 (f_X9_cornerOf x2 (4 : Int32) σ) fun r25 =>
  z_b1 (f_X9_cornerOf r21 (4 : Int32) σ) fun r27 =>
  z_b1 (f_X9_cornerOf x2 (1 : Int32) σ) fun r29 =>
  if r25 = (r27 + r29) then
  (z_b1 (f_X9_cornerOf x2 (6 : Int32) σ) fun r32 =>
  z_b1 (f_X9_cornerOf r21 (6 : Int32) σ) fun r34 =>
  z_let (fun (y35 : Int32) => if r32 = y35 then
  (z_b1 (f_X9_cornerOf x2 (5 : Int32) σ) fun r39 =>
  z_b1 (f_X9_cornerOf r21 (5 : Int32) σ) fun r41 =>
  if r39 ≤ r41 then
  (z_let (x2 + (1 : Int32)) fun x43 =>
  k1 x43)
  else
  (some ((0 : Int32))))
  else
  (some ((0 : Int32)))) fun j36 =>
  z_let (fun (_ : Unit) => j36 (0 : Int32)) fun j44 =>
  if r34 = (1 : Int32) then
  (z_b1 (f_X9_cornerOf x2 (3 : Int32) σ) fun r47 =>
  if r47 = (0 : Int32) then
  (j36 (1 : Int32))
  else
  (j44 ()))
  else
  (j44 ()))
  else
  (some ((0 : Int32))))))
def f_X11_streets (σ : z_S) : Option Int32 :=
  z_lp1 (lb_X11_streets_2 σ) z_Fu (1 : Int32)
set_option maxRecDepth 100000 in
set_option maxHeartbeats 4000000 in
theorem c_X11_streets (σ : z_S) (r : Int32) (h : f_X11_streets σ = some r) : zMet yX11_streets cX11_streets 3 (some .boolean) 3 70 layX 275 (fun ad => [.ref (ad 230)]) σ (z_QI layX 275 r σ) := by
  refine z_headI RX11 (by decide) rfl (fun _ => Nat.le_of_ble_eq_true rfl) (fun E G A ad hB hret => ?_)
  show ZW E G A 3 layX 275 ad 0 [(0, .ref (ad 230))] [] σ
  unfold f_X11_streets at h
  refine z_iconst hB dX11_streets_0 zcI_1 ?_
  refine z_istore_n hB [(1, .int ((1 : Int32))), (0, .ref (ad 230))] dX11_streets_1 rfl (Nat.le_of_ble_eq_true rfl) rfl rfl ?_
  refine z_lv [1, 0] rfl ?_
  refine z_lpr1 (g := fun x2 => ZW E G A 3 layX 275 ad 2 [(0, .ref (ad 230)), (1, .int x2)] [] σ) (fun k1 x2 hk_k1 h => ?_) _ _ h
  show ZW E G A 3 layX 275 ad 2 [(0, .ref (ad 230)), (1, .int x2)] [] σ
  unfold lb_X11_streets_2 at h
  refine z_iload_n hB 1 dX11_streets_2 rfl rfl ?_
  refine z_aload_n hB 0 dX11_streets_3 rfl rfl ?_
  refine z_iconst hB dX11_streets_4 zcI_0 ?_
  obtain ⟨r4, h3, h⟩ := z_b1E h
  refine z_cI hB (z_rV (ι := fun k => k) hB yY_X9_count (c_X9_count _ _ _ h3) rfl cut_X z_hid kX_230 (Nat.le_of_ble_eq_true rfl) vc_9 rfl rfl rfl (Nat.le_of_ble_eq_true rfl) ml_X11_11 ⟨Nat.le_of_ble_eq_true rfl, Nat.le_of_ble_eq_true rfl⟩ dX11_streets_5) cut_X z_hid ?_
  refine z_toA (z_mro cut_X) ?_
  refine z_icmp_ge hB (tgt := 107) dX11_streets_8 (by decide) (fun c5 => ?_) (fun c5 => ?_)
  · have h := z_ifT c5 h
    refine z_aload_n hB 0 dX11_streets_107 rfl rfl ?_
    refine z_iconst hB dX11_streets_108 zcI_0 ?_
    refine z_iconst hB dX11_streets_109 zcI_4 ?_
    obtain ⟨r7, h6, h⟩ := z_b1E h
    refine z_cI hB (z_rV (ι := fun k => k) hB yY_X9_cornerOf (c_X9_cornerOf _ _ _ _ h6) rfl cut_X z_hid kX_230 (Nat.le_of_ble_eq_true rfl) vc_9 rfl rfl rfl (Nat.le_of_ble_eq_true rfl) ml_X11_20 ⟨Nat.le_of_ble_eq_true rfl, Nat.le_of_ble_eq_true rfl⟩ dX11_streets_110) cut_X z_hid ?_
    refine z_toA (z_mro cut_X) ?_
    refine z_if_ne hB (tgt := 154) dX11_streets_113 (by decide) (fun c8 => ?_) (fun c8 => ?_)
    · have h := z_ifF c8 h
      refine z_iconst hB dX11_streets_154 zcI_0 ?_
      exact hret _ _ _ _ (Option.some.inj h) rfl rfl dX11_streets_155
    · have h := z_ifT c8 h
      refine z_aload_n hB 0 dX11_streets_116 rfl rfl ?_
      refine z_iconst hB dX11_streets_117 zcI_0 ?_
      refine z_iconst hB dX11_streets_118 zcI_2 ?_
      obtain ⟨r10, h9, h⟩ := z_b1E h
      refine z_cI hB (z_rV (ι := fun k => k) hB yY_X9_cornerOf (c_X9_cornerOf _ _ _ _ h9) rfl cut_X z_hid kX_230 (Nat.le_of_ble_eq_true rfl) vc_9 rfl rfl rfl (Nat.le_of_ble_eq_true rfl) ml_X11_20 ⟨Nat.le_of_ble_eq_true rfl, Nat.le_of_ble_eq_true rfl⟩ dX11_streets_119) cut_X z_hid ?_
      refine z_toA (z_mro cut_X) ?_
      refine z_if_ne hB (tgt := 154) dX11_streets_122 (by decide) (fun c11 => ?_) (fun c11 => ?_)
      · have h := z_ifF c11 h
        refine z_iconst hB dX11_streets_154 zcI_0 ?_
        exact hret _ _ _ _ (Option.some.inj h) rfl rfl dX11_streets_155
      · have h := z_ifT c11 h
        refine z_aload_n hB 0 dX11_streets_125 rfl rfl ?_
        refine z_iconst hB dX11_streets_126 zcI_0 ?_
        refine z_bipush hB dX11_streets_127 zcB_6 ?_
        obtain ⟨r13, h12, h⟩ := z_b1E h
        refine z_cI hB (z_rV (ι := fun k => k) hB yY_X9_cornerOf (c_X9_cornerOf _ _ _ _ h12) rfl cut_X z_hid kX_230 (Nat.le_of_ble_eq_true rfl) vc_9 rfl rfl rfl (Nat.le_of_ble_eq_true rfl) ml_X11_20 ⟨Nat.le_of_ble_eq_true rfl, Nat.le_of_ble_eq_true rfl⟩ dX11_streets_129) cut_X z_hid ?_
        refine z_toA (z_mro cut_X) ?_
        refine z_iconst hB dX11_streets_132 zcI_1 ?_
        refine z_icmp_ne hB (tgt := 154) dX11_streets_133 (by decide) (fun c14 => ?_) (fun c14 => ?_)
        · have h := z_ifF c14 h
          refine z_iconst hB dX11_streets_154 zcI_0 ?_
          exact hret _ _ _ _ (Option.some.inj h) rfl rfl dX11_streets_155
        · have h := z_ifT c14 h
          refine z_aload_n hB 0 dX11_streets_136 rfl rfl ?_
          refine z_iconst hB dX11_streets_137 zcI_0 ?_
          refine z_iconst hB dX11_streets_138 zcI_5 ?_
          obtain ⟨r16, h15, h⟩ := z_b1E h
          refine z_cI hB (z_rV (ι := fun k => k) hB yY_X9_cornerOf (c_X9_cornerOf _ _ _ _ h15) rfl cut_X z_hid kX_230 (Nat.le_of_ble_eq_true rfl) vc_9 rfl rfl rfl (Nat.le_of_ble_eq_true rfl) ml_X11_20 ⟨Nat.le_of_ble_eq_true rfl, Nat.le_of_ble_eq_true rfl⟩ dX11_streets_139) cut_X z_hid ?_
          refine z_toA (z_mro cut_X) ?_
          refine z_aload_n hB 0 dX11_streets_142 rfl rfl ?_
          refine z_iconst hB dX11_streets_143 zcI_1 ?_
          obtain ⟨r18, h17, h⟩ := z_b1E h
          refine z_cI hB (z_rV (ι := fun k => k) hB yY_X9_count (c_X9_count _ _ _ h17) rfl cut_X z_hid kX_230 (Nat.le_of_ble_eq_true rfl) vc_9 rfl rfl rfl (Nat.le_of_ble_eq_true rfl) ml_X11_11 ⟨Nat.le_of_ble_eq_true rfl, Nat.le_of_ble_eq_true rfl⟩ dX11_streets_144) cut_X z_hid ?_
          refine z_toA (z_mro cut_X) ?_
          refine z_icmp_ne hB (tgt := 154) dX11_streets_147 (by decide) (fun c19 => ?_) (fun c19 => ?_)
          · have h := z_ifF c19 h
            refine z_iconst hB dX11_streets_154 zcI_0 ?_
            exact hret _ _ _ _ (Option.some.inj h) rfl rfl dX11_streets_155
          · have h := z_ifT c19 h
            refine z_iconst hB dX11_streets_150 zcI_1 ?_
            refine z_goto hB (tgt := 155) dX11_streets_151 (by decide) ?_
            exact hret _ _ _ _ (Option.some.inj h) rfl rfl dX11_streets_155
  · have h := z_ifF c5 h
    refine z_aload_n hB 0 dX11_streets_11 rfl rfl ?_
    refine z_iload_n hB 1 dX11_streets_12 rfl rfl ?_
    refine z_iconst hB dX11_streets_13 zcI_0 ?_
    obtain ⟨r21, h20, h⟩ := z_b1E h
    refine z_cI hB (z_rV (ι := fun k => k) hB yY_X9_cornerOf (c_X9_cornerOf _ _ _ _ h20) rfl cut_X z_hid kX_230 (Nat.le_of_ble_eq_true rfl) vc_9 rfl rfl rfl (Nat.le_of_ble_eq_true rfl) ml_X11_20 ⟨Nat.le_of_ble_eq_true rfl, Nat.le_of_ble_eq_true rfl⟩ dX11_streets_14) cut_X z_hid ?_
    refine z_toA (z_mro cut_X) ?_
    refine z_istore_n hB [(2, .int r21), (0, .ref (ad 230)), (1, .int x2)] dX11_streets_17 rfl (Nat.le_of_ble_eq_true rfl) rfl rfl ?_
    refine z_iload_n hB 0 dX11_streets_18 rfl rfl ?_
    refine z_if_lt hB (tgt := 99) dX11_streets_19 (by decide) (fun c22 => ?_) (fun c22 => ?_)
    · have h := z_ifT c22 h
      refine z_iconst hB dX11_streets_99 zcI_0 ?_
      exact hret _ _ _ _ (Option.some.inj h) rfl rfl dX11_streets_100
    · have h := z_ifF c22 h
      refine z_iload_n hB 0 dX11_streets_22 rfl rfl ?_
      refine z_iload_n hB 2 dX11_streets_23 rfl rfl ?_
      refine z_icmp_ge hB (tgt := 99) dX11_streets_24 (by decide) (fun c23 => ?_) (fun c23 => ?_)
      · have h := z_ifT c23 h
        refine z_iconst hB dX11_streets_99 zcI_0 ?_
        exact hret _ _ _ _ (Option.some.inj h) rfl rfl dX11_streets_100
      · have h := z_ifF c23 h
        refine z_aload_n hB 1 dX11_streets_27 rfl rfl ?_
        refine z_iload_n hB 2 dX11_streets_28 rfl rfl ?_
        refine z_iconst hB dX11_streets_29 zcI_4 ?_
        obtain ⟨r25, h24, h⟩ := z_b1E h
        refine z_cI hB (z_rV (ι := fun k => k) hB yY_X9_cornerOf (c_X9_cornerOf _ _ _ _ h24) rfl cut_X z_hid kX_230 (Nat.le_of_ble_eq_true rfl) vc_9 rfl rfl rfl (Nat.le_of_ble_eq_true rfl) ml_X11_20 ⟨Nat.le_of_ble_eq_true rfl, Nat.le_of_ble_eq_true rfl⟩ dX11_streets_30) cut_X z_hid ?_
        refine z_toA (z_mro cut_X) ?_
        refine z_aload_n hB 1 dX11_streets_33 rfl rfl ?_
        refine z_iload_n hB 0 dX11_streets_34 rfl rfl ?_
        refine z_iconst hB dX11_streets_35 zcI_4 ?_
        obtain ⟨r27, h26, h⟩ := z_b1E h
        refine z_cI hB (z_rV (ι := fun k => k) hB yY_X9_cornerOf (c_X9_cornerOf _ _ _ _ h26) rfl cut_X z_hid kX_230 (Nat.le_of_ble_eq_true rfl) vc_9 rfl rfl rfl (Nat.le_of_ble_eq_true rfl) ml_X11_20 ⟨Nat.le_of_ble_eq_true rfl, Nat.le_of_ble_eq_true rfl⟩ dX11_streets_36) cut_X z_hid ?_
        refine z_toA (z_mro cut_X) ?_
        refine z_aload_n hB 1 dX11_streets_39 rfl rfl ?_
        refine z_iload_n hB 2 dX11_streets_40 rfl rfl ?_
        refine z_iconst hB dX11_streets_41 zcI_1 ?_
        obtain ⟨r29, h28, h⟩ := z_b1E h
        refine z_cI hB (z_rV (ι := fun k => k) hB yY_X9_cornerOf (c_X9_cornerOf _ _ _ _ h28) rfl cut_X z_hid kX_230 (Nat.le_of_ble_eq_true rfl) vc_9 rfl rfl rfl (Nat.le_of_ble_eq_true rfl) ml_X11_20 ⟨Nat.le_of_ble_eq_true rfl, Nat.le_of_ble_eq_true rfl⟩ dX11_streets_42) cut_X z_hid ?_
        refine z_toA (z_mro cut_X) ?_
        refine z_iadd hB dX11_streets_45 ?_
        refine z_icmp_ne hB (tgt := 99) dX11_streets_46 (by decide) (fun c30 => ?_) (fun c30 => ?_)
        · have h := z_ifF c30 h
          refine z_iconst hB dX11_streets_99 zcI_0 ?_
          exact hret _ _ _ _ (Option.some.inj h) rfl rfl dX11_streets_100
        · have h := z_ifT c30 h
          refine z_aload_n hB 1 dX11_streets_49 rfl rfl ?_
          refine z_iload_n hB 2 dX11_streets_50 rfl rfl ?_
          refine z_bipush hB dX11_streets_51 zcB_6 ?_
          obtain ⟨r32, h31, h⟩ := z_b1E h
          refine z_cI hB (z_rV (ι := fun k => k) hB yY_X9_cornerOf (c_X9_cornerOf _ _ _ _ h31) rfl cut_X z_hid kX_230 (Nat.le_of_ble_eq_true rfl) vc_9 rfl rfl rfl (Nat.le_of_ble_eq_true rfl) ml_X11_20 ⟨Nat.le_of_ble_eq_true rfl, Nat.le_of_ble_eq_true rfl⟩ dX11_streets_53) cut_X z_hid ?_
          refine z_toA (z_mro cut_X) ?_
          refine z_aload_n hB 1 dX11_streets_56 rfl rfl ?_
          refine z_iload_n hB 0 dX11_streets_57 rfl rfl ?_
          refine z_bipush hB dX11_streets_58 zcB_6 ?_
          obtain ⟨r34, h33, h⟩ := z_b1E h
          refine z_cI hB (z_rV (ι := fun k => k) hB yY_X9_cornerOf (c_X9_cornerOf _ _ _ _ h33) rfl cut_X z_hid kX_230 (Nat.le_of_ble_eq_true rfl) vc_9 rfl rfl rfl (Nat.le_of_ble_eq_true rfl) ml_X11_20 ⟨Nat.le_of_ble_eq_true rfl, Nat.le_of_ble_eq_true rfl⟩ dX11_streets_60) cut_X z_hid ?_
          refine z_toA (z_mro cut_X) ?_
          refine z_iconst hB dX11_streets_63 zcI_1 ?_
          obtain ⟨j36, ej36, h⟩ := z_letE h
          have hj36 : ∀ (y35 : Int32), j36 y35 = some r → ZW E G A 3 layX 275 ad 81 [(0, .ref (ad 230)), (1, .int x2), (2, .int r21)] [.int y35, .int r32] σ := by
            intro y35 h
            rw [ej36] at h
            refine z_icmp_ne hB (tgt := 99) dX11_streets_81 (by decide) (fun c37 => ?_) (fun c37 => ?_)
            · have h := z_ifF c37 h
              refine z_iconst hB dX11_streets_99 zcI_0 ?_
              exact hret _ _ _ _ (Option.some.inj h) rfl rfl dX11_streets_100
            · have h := z_ifT c37 h
              refine z_aload_n hB 0 dX11_streets_84 rfl rfl ?_
              refine z_iload_n hB 1 dX11_streets_85 rfl rfl ?_
              refine z_iconst hB dX11_streets_86 zcI_5 ?_
              obtain ⟨r39, h38, h⟩ := z_b1E h
              refine z_cI hB (z_rV (ι := fun k => k) hB yY_X9_cornerOf (c_X9_cornerOf _ _ _ _ h38) rfl cut_X z_hid kX_230 (Nat.le_of_ble_eq_true rfl) vc_9 rfl rfl rfl (Nat.le_of_ble_eq_true rfl) ml_X11_20 ⟨Nat.le_of_ble_eq_true rfl, Nat.le_of_ble_eq_true rfl⟩ dX11_streets_87) cut_X z_hid ?_
              refine z_toA (z_mro cut_X) ?_
              refine z_aload_n hB 0 dX11_streets_90 rfl rfl ?_
              refine z_iload_n hB 2 dX11_streets_91 rfl rfl ?_
              refine z_iconst hB dX11_streets_92 zcI_5 ?_
              obtain ⟨r41, h40, h⟩ := z_b1E h
              refine z_cI hB (z_rV (ι := fun k => k) hB yY_X9_cornerOf (c_X9_cornerOf _ _ _ _ h40) rfl cut_X z_hid kX_230 (Nat.le_of_ble_eq_true rfl) vc_9 rfl rfl rfl (Nat.le_of_ble_eq_true rfl) ml_X11_20 ⟨Nat.le_of_ble_eq_true rfl, Nat.le_of_ble_eq_true rfl⟩ dX11_streets_93) cut_X z_hid ?_
              refine z_toA (z_mro cut_X) ?_
              refine z_icmp_le hB (tgt := 101) dX11_streets_96 (by decide) (fun c42 => ?_) (fun c42 => ?_)
              · have h := z_ifT c42 h
                obtain ⟨x43, ex43, h⟩ := z_letE h
                refine z_iinc hB 1 [(1, .int x43), (0, .ref (ad 230)), (2, .int r21)] dX11_streets_101 rfl (by rw [zcI_1]; exact ex43) (Nat.le_of_ble_eq_true rfl) rfl ?_
                refine z_goto hB (tgt := 2) dX11_streets_104 (by decide) ?_
                refine z_lv [1, 0] rfl ?_
                exact hk_k1 _ h
              · have h := z_ifF c42 h
                refine z_iconst hB dX11_streets_99 zcI_0 ?_
                exact hret _ _ _ _ (Option.some.inj h) rfl rfl dX11_streets_100
          obtain ⟨j44, ej44, h⟩ := z_letE h
          have hj44 : ∀ (_ : Unit), j44 () = some r → ZW E G A 3 layX 275 ad 80 [(0, .ref (ad 230)), (1, .int x2), (2, .int r21)] [.int r32] σ := by
            intro _ h
            rw [ej44] at h
            refine z_iconst hB dX11_streets_80 zcI_0 ?_
            exact hj36 _ h
          refine z_icmp_ne hB (tgt := 80) dX11_streets_64 (by decide) (fun c45 => ?_) (fun c45 => ?_)
          · have h := z_ifF c45 h
            refine z_lv [1, 2, 0] rfl ?_
            exact hj44 () h
          · have h := z_ifT c45 h
            refine z_aload_n hB 1 dX11_streets_67 rfl rfl ?_
            refine z_iload_n hB 2 dX11_streets_68 rfl rfl ?_
            refine z_iconst hB dX11_streets_69 zcI_3 ?_
            obtain ⟨r47, h46, h⟩ := z_b1E h
            refine z_cI hB (z_rV (ι := fun k => k) hB yY_X9_cornerOf (c_X9_cornerOf _ _ _ _ h46) rfl cut_X z_hid kX_230 (Nat.le_of_ble_eq_true rfl) vc_9 rfl rfl rfl (Nat.le_of_ble_eq_true rfl) ml_X11_20 ⟨Nat.le_of_ble_eq_true rfl, Nat.le_of_ble_eq_true rfl⟩ dX11_streets_70) cut_X z_hid ?_
            refine z_toA (z_mro cut_X) ?_
            refine z_if_ne hB (tgt := 80) dX11_streets_73 (by decide) (fun c48 => ?_) (fun c48 => ?_)
            · have h := z_ifF c48 h
              refine z_lv [1, 2, 0] rfl ?_
              exact hj44 () h
            · have h := z_ifT c48 h
              refine z_iconst hB dX11_streets_76 zcI_1 ?_
              refine z_goto hB (tgt := 81) dX11_streets_77 (by decide) ?_
              refine z_lv [1, 2, 0] rfl ?_
              exact hj36 _ h
def lb_X11_rounds_134 (σ : z_S) (k8 : Int32 → Int32 → Option Int32) (x10 : Int32) (r17 : Int32) (x23 : Int32) (y24 : Int32) (r27 : Int32) (y28 : Int32) (k30 : Int32 → Int32 → Int32 → Option Int32) (x31 : Int32) (x32 : Int32) (x33 : Int32) : Option Int32 :=
  z_let (fun (_ : Unit) => z_let (fun (_ : Unit) => z_let (x10 + (1 : Int32)) fun x36 =>
  k8 x23 x36) fun j35 =>
  if y24 < (0 : Int32) then
  (j35 ())
  else
  (if r27 = y28 then
  (if r17 ≤ y24 then
  (j35 ())
  else
  (some ((0 : Int32))))
  else
  (if (0 : Int32) ≤ x33 then
  (j35 ())
  else
  (some ((0 : Int32)))))) fun j34 =>
  if y28 < (0 : Int32) then
  (j34 ())
  else
  (if x31 = x32 then
  (j34 ())
  else
  (z_let (fun (y43 : Int32) => if x32 ≤ x31 then
  (z_b1 (f_X9_cornerOf x31 (0 : Int32) σ) fun r47 =>
  k30 r47 x32 y43)
  else
  (z_b1 (f_X9_cornerOf x32 (0 : Int32) σ) fun r49 =>
  k30 x31 r49 y43)) fun j44 =>
  if x32 ≤ x31 then
  (j44 x33)
  else
  (j44 x32)))
def lb_X11_rounds_23 (σ : z_S) (k1 : Int32 → Option Int32) (x2 : Int32) (r7 : Int32) (k8 : Int32 → Int32 → Option Int32) (x9 : Int32) (x10 : Int32) : Option Int32 :=
  if r7 ≤ x10 then
  (z_b1 (f_X9_roundAt x2 r7 σ) fun r13 =>
  if r13 = (-4 : Int32) then
  (z_let (x2 + (1 : Int32)) fun x15 =>
  k1 x15)
  else
  (some ((0 : Int32))))
  else
  (z_b1 (f_X9_roundAt x2 x10 σ) fun r17 =>
  if r17 < (0 : Int32) then
  (some ((0 : Int32)))
  else
  (z_b1 (f_X9_houseOf r17 (3 : Int32) σ) fun r20 =>
  if r20 = x2 then
  (if ((x9 >>> (r17 &&& 31)) &&& (1 : Int32)) = (1 : Int32) then
  (some ((0 : Int32)))
  else
  (z_let (x9 ||| ((1 : Int32) <<< (r17 &&& 31))) fun x23 =>
  z_let (fun (y24 : Int32) => z_b1 (f_X9_houseOf r17 (0 : Int32) σ) fun r27 =>
  z_let (fun (y28 : Int32) => z_lp3 (lb_X11_rounds_134 σ k8 x10 r17 x23 y24 r27 y28) z_Fu r27 y28 (-1 : Int32)) fun j29 =>
  if (0 : Int32) ≤ y24 then
  (z_b1 (f_X9_houseOf y24 (0 : Int32) σ) fun r53 =>
  j29 r53)
  else
  (j29 (-1 : Int32))) fun j25 =>
  if r7 ≤ (x10 + (1 : Int32)) then
  (j25 (-1 : Int32))
  else
  (z_b1 (f_X9_roundAt x2 (x10 + (1 : Int32)) σ) fun r56 =>
  j25 r56)))
  else
  (some ((0 : Int32)))))
def lb_X11_rounds_2 (σ : z_S) (k1 : Int32 → Option Int32) (x2 : Int32) : Option Int32 :=
  z_b1 (f_X9_count (2 : Int32) σ) fun r4 =>
  if r4 ≤ x2 then
  (some ((1 : Int32)))
  else
  (z_b1 (f_X9_carrierOf x2 (3 : Int32) σ) fun r7 =>
  z_lp2 (lb_X11_rounds_23 σ k1 x2 r7) z_Fu (0 : Int32) (0 : Int32))
def f_X11_rounds (σ : z_S) : Option Int32 :=
  z_lp1 (lb_X11_rounds_2 σ) z_Fu (0 : Int32)
set_option maxRecDepth 100000 in
set_option maxHeartbeats 4000000 in
theorem c_X11_rounds (σ : z_S) (r : Int32) (h : f_X11_rounds σ = some r) : zMet yX11_rounds cX11_rounds 12 (some .boolean) 3 70 layX 275 (fun ad => [.ref (ad 230)]) σ (z_QI layX 275 r σ) := by
  refine z_headI RX11 (by decide) rfl (fun _ => Nat.le_of_ble_eq_true rfl) (fun E G A ad hB hret => ?_)
  show ZW E G A 12 layX 275 ad 0 [(0, .ref (ad 230))] [] σ
  unfold f_X11_rounds at h
  refine z_iconst hB dX11_rounds_0 zcI_0 ?_
  refine z_istore_n hB [(1, .int ((0 : Int32))), (0, .ref (ad 230))] dX11_rounds_1 rfl (Nat.le_of_ble_eq_true rfl) rfl rfl ?_
  refine z_lv [1, 0] rfl ?_
  refine z_lpr1 (g := fun x2 => ZW E G A 12 layX 275 ad 2 [(0, .ref (ad 230)), (1, .int x2)] [] σ) (fun k1 x2 hk_k1 h => ?_) _ _ h
  show ZW E G A 12 layX 275 ad 2 [(0, .ref (ad 230)), (1, .int x2)] [] σ
  unfold lb_X11_rounds_2 at h
  refine z_iload_n hB 1 dX11_rounds_2 rfl rfl ?_
  refine z_aload_n hB 0 dX11_rounds_3 rfl rfl ?_
  refine z_iconst hB dX11_rounds_4 zcI_2 ?_
  obtain ⟨r4, h3, h⟩ := z_b1E h
  refine z_cI hB (z_rV (ι := fun k => k) hB yY_X9_count (c_X9_count _ _ _ h3) rfl cut_X z_hid kX_230 (Nat.le_of_ble_eq_true rfl) vc_9 rfl rfl rfl (Nat.le_of_ble_eq_true rfl) ml_X11_11 ⟨Nat.le_of_ble_eq_true rfl, Nat.le_of_ble_eq_true rfl⟩ dX11_rounds_5) cut_X z_hid ?_
  refine z_toA (z_mro cut_X) ?_
  refine z_icmp_ge hB (tgt := 247) dX11_rounds_8 (by decide) (fun c5 => ?_) (fun c5 => ?_)
  · have h := z_ifT c5 h
    refine z_iconst hB dX11_rounds_247 zcI_1 ?_
    exact hret _ _ _ _ (Option.some.inj h) rfl rfl dX11_rounds_248
  · have h := z_ifF c5 h
    refine z_aload_n hB 0 dX11_rounds_11 rfl rfl ?_
    refine z_iload_n hB 1 dX11_rounds_12 rfl rfl ?_
    refine z_iconst hB dX11_rounds_13 zcI_3 ?_
    obtain ⟨r7, h6, h⟩ := z_b1E h
    refine z_cI hB (z_rV (ι := fun k => k) hB yY_X9_carrierOf (c_X9_carrierOf _ _ _ _ h6) rfl cut_X z_hid kX_230 (Nat.le_of_ble_eq_true rfl) vc_9 rfl rfl rfl (Nat.le_of_ble_eq_true rfl) ml_X11_33 ⟨Nat.le_of_ble_eq_true rfl, Nat.le_of_ble_eq_true rfl⟩ dX11_rounds_14) cut_X z_hid ?_
    refine z_toA (z_mro cut_X) ?_
    refine z_istore_n hB [(2, .int r7), (0, .ref (ad 230)), (1, .int x2)] dX11_rounds_17 rfl (Nat.le_of_ble_eq_true rfl) rfl rfl ?_
    refine z_iconst hB dX11_rounds_18 zcI_0 ?_
    refine z_istore_n hB [(3, .int ((0 : Int32))), (2, .int r7), (0, .ref (ad 230)), (1, .int x2)] dX11_rounds_19 rfl (Nat.le_of_ble_eq_true rfl) rfl rfl ?_
    refine z_iconst hB dX11_rounds_20 zcI_0 ?_
    refine z_istore hB [(4, .int ((0 : Int32))), (3, .int ((0 : Int32))), (2, .int r7), (0, .ref (ad 230)), (1, .int x2)] dX11_rounds_21 (Nat.le_of_ble_eq_true rfl) rfl rfl ?_
    refine z_lv [3, 4, 2, 1, 0] rfl ?_
    refine z_lpr2 (g := fun x9 x10 => ZW E G A 12 layX 275 ad 23 [(0, .ref (ad 230)), (1, .int x2), (2, .int r7), (3, .int x9), (4, .int x10)] [] σ) (fun k8 x9 x10 hk_k8 h => ?_) _ _ _ h
    show ZW E G A 12 layX 275 ad 23 [(0, .ref (ad 230)), (1, .int x2), (2, .int r7), (3, .int x9), (4, .int x10)] [] σ
    unfold lb_X11_rounds_23 at h
    refine z_iload hB 4 dX11_rounds_23 rfl ?_
    refine z_iload_n hB 2 dX11_rounds_25 rfl rfl ?_
    refine z_icmp_ge hB (tgt := 228) dX11_rounds_26 (by decide) (fun c11 => ?_) (fun c11 => ?_)
    · have h := z_ifT c11 h
      refine z_aload_n hB 0 dX11_rounds_228 rfl rfl ?_
      refine z_iload_n hB 1 dX11_rounds_229 rfl rfl ?_
      refine z_iload_n hB 2 dX11_rounds_230 rfl rfl ?_
      obtain ⟨r13, h12, h⟩ := z_b1E h
      refine z_cI hB (z_rV (ι := fun k => k) hB yY_X9_roundAt (c_X9_roundAt _ _ _ _ h12) rfl cut_X z_hid kX_230 (Nat.le_of_ble_eq_true rfl) vc_9 rfl rfl rfl (Nat.le_of_ble_eq_true rfl) ml_X11_77 ⟨Nat.le_of_ble_eq_true rfl, Nat.le_of_ble_eq_true rfl⟩ dX11_rounds_231) cut_X z_hid ?_
      refine z_toA (z_mro cut_X) ?_
      refine z_bipush hB dX11_rounds_234 zcB_m4 ?_
      refine z_icmp_eq hB (tgt := 241) dX11_rounds_236 (by decide) (fun c14 => ?_) (fun c14 => ?_)
      · have h := z_ifT c14 h
        obtain ⟨x15, ex15, h⟩ := z_letE h
        refine z_iinc hB 1 [(1, .int x15), (0, .ref (ad 230)), (2, .int r7), (3, .int x9), (4, .int x10)] dX11_rounds_241 rfl (by rw [zcI_1]; exact ex15) (Nat.le_of_ble_eq_true rfl) rfl ?_
        refine z_goto hB (tgt := 2) dX11_rounds_244 (by decide) ?_
        refine z_lv [1, 0] rfl ?_
        exact hk_k1 _ h
      · have h := z_ifF c14 h
        refine z_iconst hB dX11_rounds_239 zcI_0 ?_
        exact hret _ _ _ _ (Option.some.inj h) rfl rfl dX11_rounds_240
    · have h := z_ifF c11 h
      refine z_aload_n hB 0 dX11_rounds_29 rfl rfl ?_
      refine z_iload_n hB 1 dX11_rounds_30 rfl rfl ?_
      refine z_iload hB 4 dX11_rounds_31 rfl ?_
      obtain ⟨r17, h16, h⟩ := z_b1E h
      refine z_cI hB (z_rV (ι := fun k => k) hB yY_X9_roundAt (c_X9_roundAt _ _ _ _ h16) rfl cut_X z_hid kX_230 (Nat.le_of_ble_eq_true rfl) vc_9 rfl rfl rfl (Nat.le_of_ble_eq_true rfl) ml_X11_77 ⟨Nat.le_of_ble_eq_true rfl, Nat.le_of_ble_eq_true rfl⟩ dX11_rounds_33) cut_X z_hid ?_
      refine z_toA (z_mro cut_X) ?_
      refine z_istore hB [(5, .int r17), (0, .ref (ad 230)), (1, .int x2), (2, .int r7), (3, .int x9), (4, .int x10)] dX11_rounds_36 (Nat.le_of_ble_eq_true rfl) rfl rfl ?_
      refine z_iload hB 0 dX11_rounds_38 rfl ?_
      refine z_if_lt hB (tgt := 64) dX11_rounds_40 (by decide) (fun c18 => ?_) (fun c18 => ?_)
      · have h := z_ifT c18 h
        refine z_iconst hB dX11_rounds_64 zcI_0 ?_
        exact hret _ _ _ _ (Option.some.inj h) rfl rfl dX11_rounds_65
      · have h := z_ifF c18 h
        refine z_aload_n hB 1 dX11_rounds_43 rfl rfl ?_
        refine z_iload hB 0 dX11_rounds_44 rfl ?_
        refine z_iconst hB dX11_rounds_46 zcI_3 ?_
        obtain ⟨r20, h19, h⟩ := z_b1E h
        refine z_cI hB (z_rV (ι := fun k => k) hB yY_X9_houseOf (c_X9_houseOf _ _ _ _ h19) rfl cut_X z_hid kX_230 (Nat.le_of_ble_eq_true rfl) vc_9 rfl rfl rfl (Nat.le_of_ble_eq_true rfl) ml_X11_24 ⟨Nat.le_of_ble_eq_true rfl, Nat.le_of_ble_eq_true rfl⟩ dX11_rounds_47) cut_X z_hid ?_
        refine z_toA (z_mro cut_X) ?_
        refine z_iload_n hB 2 dX11_rounds_50 rfl rfl ?_
        refine z_icmp_ne hB (tgt := 64) dX11_rounds_51 (by decide) (fun c21 => ?_) (fun c21 => ?_)
        · have h := z_ifF c21 h
          refine z_iconst hB dX11_rounds_64 zcI_0 ?_
          exact hret _ _ _ _ (Option.some.inj h) rfl rfl dX11_rounds_65
        · have h := z_ifT c21 h
          refine z_iload_n hB 4 dX11_rounds_54 rfl rfl ?_
          refine z_iload hB 0 dX11_rounds_55 rfl ?_
          refine z_ishr hB dX11_rounds_57 ?_
          refine z_iconst hB dX11_rounds_58 zcI_1 ?_
          refine z_iand hB dX11_rounds_59 ?_
          refine z_iconst hB dX11_rounds_60 zcI_1 ?_
          refine z_icmp_ne hB (tgt := 66) dX11_rounds_61 (by decide) (fun c22 => ?_) (fun c22 => ?_)
          · have h := z_ifF c22 h
            refine z_iload_n hB 4 dX11_rounds_66 rfl rfl ?_
            refine z_iconst hB dX11_rounds_67 zcI_1 ?_
            refine z_iload hB 0 dX11_rounds_68 rfl ?_
            refine z_ishl hB dX11_rounds_70 ?_
            refine z_ior hB dX11_rounds_71 ?_
            obtain ⟨x23, ex23, h⟩ := z_letE h
            refine z_istore_n hB [(3, .int x23), (5, .int r17), (0, .ref (ad 230)), (1, .int x2), (2, .int r7), (4, .int x10)] dX11_rounds_72 rfl (Nat.le_of_ble_eq_true rfl) ex23 rfl ?_
            refine z_iload hB 5 dX11_rounds_73 rfl ?_
            refine z_iconst hB dX11_rounds_75 zcI_1 ?_
            refine z_iadd hB dX11_rounds_76 ?_
            refine z_iload_n hB 4 dX11_rounds_77 rfl rfl ?_
            obtain ⟨j25, ej25, h⟩ := z_letE h
            have hj25 : ∀ (y24 : Int32), j25 y24 = some r → ZW E G A 12 layX 275 ad 94 [(0, .ref (ad 230)), (1, .int x2), (2, .int r7), (3, .int x23), (4, .int x10), (5, .int r17)] [.int y24] σ := by
              intro y24 h
              rw [ej25] at h
              refine z_istore hB [(6, .int y24), (0, .ref (ad 230)), (1, .int x2), (2, .int r7), (3, .int x23), (4, .int x10), (5, .int r17)] dX11_rounds_94 (Nat.le_of_ble_eq_true rfl) rfl rfl ?_
              refine z_aload_n hB 1 dX11_rounds_96 rfl rfl ?_
              refine z_iload hB 6 dX11_rounds_97 rfl ?_
              refine z_iconst hB dX11_rounds_99 zcI_0 ?_
              obtain ⟨r27, h26, h⟩ := z_b1E h
              refine z_cI hB (z_rV (ι := fun k => k) hB yY_X9_houseOf (c_X9_houseOf _ _ _ _ h26) rfl cut_X z_hid kX_230 (Nat.le_of_ble_eq_true rfl) vc_9 rfl rfl rfl (Nat.le_of_ble_eq_true rfl) ml_X11_24 ⟨Nat.le_of_ble_eq_true rfl, Nat.le_of_ble_eq_true rfl⟩ dX11_rounds_100) cut_X z_hid ?_
              refine z_toA (z_mro cut_X) ?_
              refine z_istore hB [(7, .int r27), (6, .int y24), (0, .ref (ad 230)), (1, .int x2), (2, .int r7), (3, .int x23), (4, .int x10), (5, .int r17)] dX11_rounds_103 (Nat.le_of_ble_eq_true rfl) rfl rfl ?_
              refine z_iload hB 1 dX11_rounds_105 rfl ?_
              obtain ⟨j29, ej29, h⟩ := z_letE h
              have hj29 : ∀ (y28 : Int32), j29 y28 = some r → ZW E G A 12 layX 275 ad 121 [(0, .ref (ad 230)), (1, .int x2), (2, .int r7), (3, .int x23), (4, .int x10), (5, .int r17), (6, .int y24), (7, .int r27)] [.int y28] σ := by
                intro y28 h
                rw [ej29] at h
                refine z_istore hB [(8, .int y28), (0, .ref (ad 230)), (1, .int x2), (2, .int r7), (3, .int x23), (4, .int x10), (5, .int r17), (6, .int y24), (7, .int r27)] dX11_rounds_121 (Nat.le_of_ble_eq_true rfl) rfl rfl ?_
                refine z_iload hB 8 dX11_rounds_123 rfl ?_
                refine z_istore hB [(9, .int r27), (8, .int y28), (0, .ref (ad 230)), (1, .int x2), (2, .int r7), (3, .int x23), (4, .int x10), (5, .int r17), (6, .int y24), (7, .int r27)] dX11_rounds_125 (Nat.le_of_ble_eq_true rfl) rfl rfl ?_
                refine z_iload hB 1 dX11_rounds_127 rfl ?_
                refine z_istore hB [(10, .int y28), (9, .int r27), (8, .int y28), (0, .ref (ad 230)), (1, .int x2), (2, .int r7), (3, .int x23), (4, .int x10), (5, .int r17), (6, .int y24), (7, .int r27)] dX11_rounds_129 (Nat.le_of_ble_eq_true rfl) rfl rfl ?_
                refine z_iconst hB dX11_rounds_131 zcI_m1 ?_
                refine z_istore hB [(11, .int ((-1 : Int32))), (10, .int y28), (9, .int r27), (8, .int y28), (0, .ref (ad 230)), (1, .int x2), (2, .int r7), (3, .int x23), (4, .int x10), (5, .int r17), (6, .int y24), (7, .int r27)] dX11_rounds_132 (Nat.le_of_ble_eq_true rfl) rfl rfl ?_
                refine z_lv [4, 5, 6, 7, 8, 9, 10, 11, 3, 2, 1, 0] rfl ?_
                refine z_lpr3 (g := fun x31 x32 x33 => ZW E G A 12 layX 275 ad 134 [(0, .ref (ad 230)), (1, .int x2), (2, .int r7), (3, .int x23), (4, .int x10), (5, .int r17), (6, .int y24), (7, .int r27), (8, .int y28), (9, .int x31), (10, .int x32), (11, .int x33)] [] σ) (fun k30 x31 x32 x33 hk_k30 h => ?_) _ _ _ _ h
                show ZW E G A 12 layX 275 ad 134 [(0, .ref (ad 230)), (1, .int x2), (2, .int r7), (3, .int x23), (4, .int x10), (5, .int r17), (6, .int y24), (7, .int r27), (8, .int y28), (9, .int x31), (10, .int x32), (11, .int x33)] [] σ
                unfold lb_X11_rounds_134 at h
                refine z_iload hB 8 dX11_rounds_134 rfl ?_
                obtain ⟨j34, ej34, h⟩ := z_letE h
                have hj34 : ∀ (_ : Unit), j34 () = some r → ZW E G A 12 layX 275 ad 193 [(0, .ref (ad 230)), (1, .int x2), (2, .int r7), (3, .int x23), (4, .int x10), (5, .int r17), (6, .int y24), (7, .int r27), (8, .int y28), (11, .int x33)] [] σ := by
                  intro _ h
                  rw [ej34] at h
                  refine z_iload hB 6 dX11_rounds_193 rfl ?_
                  obtain ⟨j35, ej35, h⟩ := z_letE h
                  have hj35 : ∀ (_ : Unit), j35 () = some r → ZW E G A 12 layX 275 ad 222 [(0, .ref (ad 230)), (1, .int x2), (2, .int r7), (3, .int x23), (4, .int x10)] [] σ := by
                    intro _ h
                    rw [ej35] at h
                    obtain ⟨x36, ex36, h⟩ := z_letE h
                    refine z_iinc hB 4 [(4, .int x36), (0, .ref (ad 230)), (1, .int x2), (2, .int r7), (3, .int x23)] dX11_rounds_222 rfl (by rw [zcI_1]; exact ex36) (Nat.le_of_ble_eq_true rfl) rfl ?_
                    refine z_goto hB (tgt := 23) dX11_rounds_225 (by decide) ?_
                    refine z_lv [1, 2, 3, 4, 0] rfl ?_
                    exact hk_k8 _ _ h
                  refine z_if_lt hB (tgt := 222) dX11_rounds_195 (by decide) (fun c37 => ?_) (fun c37 => ?_)
                  · have h := z_ifT c37 h
                    refine z_lv [0, 1, 2, 3, 4] rfl ?_
                    exact hj35 () h
                  · have h := z_ifF c37 h
                    refine z_iload hB 7 dX11_rounds_198 rfl ?_
                    refine z_iload hB 8 dX11_rounds_200 rfl ?_
                    refine z_icmp_ne hB (tgt := 215) dX11_rounds_202 (by decide) (fun c38 => ?_) (fun c38 => ?_)
                    · have h := z_ifF c38 h
                      refine z_iload hB 9 dX11_rounds_215 rfl ?_
                      refine z_if_ge hB (tgt := 222) dX11_rounds_217 (by decide) (fun c39 => ?_) (fun c39 => ?_)
                      · have h := z_ifT c39 h
                        refine z_lv [0, 1, 2, 3, 4] rfl ?_
                        exact hj35 () h
                      · have h := z_ifF c39 h
                        refine z_iconst hB dX11_rounds_220 zcI_0 ?_
                        exact hret _ _ _ _ (Option.some.inj h) rfl rfl dX11_rounds_221
                    · have h := z_ifT c38 h
                      refine z_iload hB 6 dX11_rounds_205 rfl ?_
                      refine z_iload hB 5 dX11_rounds_207 rfl ?_
                      refine z_icmp_ge hB (tgt := 222) dX11_rounds_209 (by decide) (fun c40 => ?_) (fun c40 => ?_)
                      · have h := z_ifT c40 h
                        refine z_lv [0, 1, 2, 3, 4] rfl ?_
                        exact hj35 () h
                      · have h := z_ifF c40 h
                        refine z_goto hB (tgt := 220) dX11_rounds_212 (by decide) ?_
                        refine z_iconst hB dX11_rounds_220 zcI_0 ?_
                        exact hret _ _ _ _ (Option.some.inj h) rfl rfl dX11_rounds_221
                refine z_if_lt hB (tgt := 193) dX11_rounds_136 (by decide) (fun c41 => ?_) (fun c41 => ?_)
                · have h := z_ifT c41 h
                  refine z_lv [0, 1, 2, 3, 4, 5, 6, 7, 8, 11] rfl ?_
                  exact hj34 () h
                · have h := z_ifF c41 h
                  refine z_iload hB 9 dX11_rounds_139 rfl ?_
                  refine z_iload hB 10 dX11_rounds_141 rfl ?_
                  refine z_icmp_eq hB (tgt := 193) dX11_rounds_143 (by decide) (fun c42 => ?_) (fun c42 => ?_)
                  · have h := z_ifT c42 h
                    refine z_lv [0, 1, 2, 3, 4, 5, 6, 7, 8, 11] rfl ?_
                    exact hj34 () h
                  · have h := z_ifF c42 h
                    refine z_iload hB 10 dX11_rounds_146 rfl ?_
                    refine z_iload hB 9 dX11_rounds_148 rfl ?_
                    obtain ⟨j44, ej44, h⟩ := z_letE h
                    have hj44 : ∀ (y43 : Int32), j44 y43 = some r → ZW E G A 12 layX 275 ad 160 [(0, .ref (ad 230)), (1, .int x2), (2, .int r7), (3, .int x23), (4, .int x10), (5, .int r17), (6, .int y24), (7, .int r27), (8, .int y28), (9, .int x31), (10, .int x32)] [.int y43] σ := by
                      intro y43 h
                      rw [ej44] at h
                      refine z_istore hB [(11, .int y43), (0, .ref (ad 230)), (1, .int x2), (2, .int r7), (3, .int x23), (4, .int x10), (5, .int r17), (6, .int y24), (7, .int r27), (8, .int y28), (9, .int x31), (10, .int x32)] dX11_rounds_160 (Nat.le_of_ble_eq_true rfl) rfl rfl ?_
                      refine z_iload hB 11 dX11_rounds_162 rfl ?_
                      refine z_iload hB 10 dX11_rounds_164 rfl ?_
                      refine z_icmp_le hB (tgt := 181) dX11_rounds_166 (by decide) (fun c45 => ?_) (fun c45 => ?_)
                      · have h := z_ifT c45 h
                        refine z_aload_n hB 1 dX11_rounds_181 rfl rfl ?_
                        refine z_iload hB 10 dX11_rounds_182 rfl ?_
                        refine z_iconst hB dX11_rounds_184 zcI_0 ?_
                        obtain ⟨r47, h46, h⟩ := z_b1E h
                        refine z_cI hB (z_rV (ι := fun k => k) hB yY_X9_cornerOf (c_X9_cornerOf _ _ _ _ h46) rfl cut_X z_hid kX_230 (Nat.le_of_ble_eq_true rfl) vc_9 rfl rfl rfl (Nat.le_of_ble_eq_true rfl) ml_X11_20 ⟨Nat.le_of_ble_eq_true rfl, Nat.le_of_ble_eq_true rfl⟩ dX11_rounds_185) cut_X z_hid ?_
                        refine z_toA (z_mro cut_X) ?_
                        refine z_istore hB [(9, .int r47), (11, .int y43), (0, .ref (ad 230)), (1, .int x2), (2, .int r7), (3, .int x23), (4, .int x10), (5, .int r17), (6, .int y24), (7, .int r27), (8, .int y28), (10, .int x32)] dX11_rounds_188 (Nat.le_of_ble_eq_true rfl) rfl rfl ?_
                        refine z_goto hB (tgt := 134) dX11_rounds_190 (by decide) ?_
                        refine z_lv [2, 3, 4, 5, 6, 7, 8, 9, 10, 0, 11, 1] rfl ?_
                        exact hk_k30 _ _ _ h
                      · have h := z_ifF c45 h
                        refine z_aload_n hB 1 dX11_rounds_169 rfl rfl ?_
                        refine z_iload hB 11 dX11_rounds_170 rfl ?_
                        refine z_iconst hB dX11_rounds_172 zcI_0 ?_
                        obtain ⟨r49, h48, h⟩ := z_b1E h
                        refine z_cI hB (z_rV (ι := fun k => k) hB yY_X9_cornerOf (c_X9_cornerOf _ _ _ _ h48) rfl cut_X z_hid kX_230 (Nat.le_of_ble_eq_true rfl) vc_9 rfl rfl rfl (Nat.le_of_ble_eq_true rfl) ml_X11_20 ⟨Nat.le_of_ble_eq_true rfl, Nat.le_of_ble_eq_true rfl⟩ dX11_rounds_173) cut_X z_hid ?_
                        refine z_toA (z_mro cut_X) ?_
                        refine z_istore hB [(10, .int r49), (11, .int y43), (0, .ref (ad 230)), (1, .int x2), (2, .int r7), (3, .int x23), (4, .int x10), (5, .int r17), (6, .int y24), (7, .int r27), (8, .int y28), (9, .int x31)] dX11_rounds_176 (Nat.le_of_ble_eq_true rfl) rfl rfl ?_
                        refine z_goto hB (tgt := 134) dX11_rounds_178 (by decide) ?_
                        refine z_lv [2, 3, 4, 5, 6, 7, 8, 9, 10, 11, 0, 1] rfl ?_
                        exact hk_k30 _ _ _ h
                    refine z_icmp_le hB (tgt := 158) dX11_rounds_150 (by decide) (fun c50 => ?_) (fun c50 => ?_)
                    · have h := z_ifT c50 h
                      refine z_iload hB 11 dX11_rounds_158 rfl ?_
                      refine z_lv [0, 1, 2, 3, 4, 5, 6, 7, 8, 9, 10] rfl ?_
                      exact hj44 _ h
                    · have h := z_ifF c50 h
                      refine z_iload hB 10 dX11_rounds_153 rfl ?_
                      refine z_goto hB (tgt := 160) dX11_rounds_155 (by decide) ?_
                      refine z_lv [0, 1, 2, 3, 4, 5, 6, 7, 8, 9, 10] rfl ?_
                      exact hj44 _ h
              refine z_if_ge hB (tgt := 114) dX11_rounds_107 (by decide) (fun c51 => ?_) (fun c51 => ?_)
              · have h := z_ifT c51 h
                refine z_aload_n hB 2 dX11_rounds_114 rfl rfl ?_
                refine z_iload hB 1 dX11_rounds_115 rfl ?_
                refine z_iconst hB dX11_rounds_117 zcI_0 ?_
                obtain ⟨r53, h52, h⟩ := z_b1E h
                refine z_cI hB (z_rV (ι := fun k => k) hB yY_X9_houseOf (c_X9_houseOf _ _ _ _ h52) rfl cut_X z_hid kX_230 (Nat.le_of_ble_eq_true rfl) vc_9 rfl rfl rfl (Nat.le_of_ble_eq_true rfl) ml_X11_24 ⟨Nat.le_of_ble_eq_true rfl, Nat.le_of_ble_eq_true rfl⟩ dX11_rounds_118) cut_X z_hid ?_
                refine z_toA (z_mro cut_X) ?_
                refine z_lv [2, 3, 4, 5, 6, 7, 1, 0] rfl ?_
                exact hj29 _ h
              · have h := z_ifF c51 h
                refine z_iconst hB dX11_rounds_110 zcI_m1 ?_
                refine z_goto hB (tgt := 121) dX11_rounds_111 (by decide) ?_
                refine z_lv [2, 3, 4, 5, 6, 7, 1, 0] rfl ?_
                exact hj29 _ h
            refine z_icmp_ge hB (tgt := 93) dX11_rounds_78 (by decide) (fun c54 => ?_) (fun c54 => ?_)
            · have h := z_ifT c54 h
              refine z_iconst hB dX11_rounds_93 zcI_m1 ?_
              refine z_lv [2, 3, 4, 0, 5, 1] rfl ?_
              exact hj25 _ h
            · have h := z_ifF c54 h
              refine z_aload_n hB 2 dX11_rounds_81 rfl rfl ?_
              refine z_iload_n hB 3 dX11_rounds_82 rfl rfl ?_
              refine z_iload hB 5 dX11_rounds_83 rfl ?_
              refine z_iconst hB dX11_rounds_85 zcI_1 ?_
              refine z_iadd hB dX11_rounds_86 ?_
              obtain ⟨r56, h55, h⟩ := z_b1E h
              refine z_cI hB (z_rV (ι := fun k => k) hB yY_X9_roundAt (c_X9_roundAt _ _ _ _ h55) rfl cut_X z_hid kX_230 (Nat.le_of_ble_eq_true rfl) vc_9 rfl rfl rfl (Nat.le_of_ble_eq_true rfl) ml_X11_77 ⟨Nat.le_of_ble_eq_true rfl, Nat.le_of_ble_eq_true rfl⟩ dX11_rounds_87) cut_X z_hid ?_
              refine z_toA (z_mro cut_X) ?_
              refine z_goto hB (tgt := 94) dX11_rounds_90 (by decide) ?_
              refine z_lv [2, 3, 4, 0, 5, 1] rfl ?_
              exact hj25 _ h
          · have h := z_ifT c22 h
            refine z_iconst hB dX11_rounds_64 zcI_0 ?_
            exact hret _ _ _ _ (Option.some.inj h) rfl rfl dX11_rounds_65
