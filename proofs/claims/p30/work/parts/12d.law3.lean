def lb_X11_goes_214 (r5 : Int32) (σ19 : z_S) (k29 : Int32 → Option (Int32 × z_S)) (x30 : Int32) : Option (Int32 × z_S) :=
  if r5 ≤ x30 then
  (some ((1 : Int32), σ19))
  else
  (z_cki (((4 : Int32) * x30) + (3 : Int32)) 12 <|
  z_cki (((4 : Int32) * x30) + (2 : Int32)) 12 <|
  z_let (fun (y34 : Int32) => z_b1 (f_X9_carrierOf x30 (4 : Int32) (fun k => σ19 (zi_XG_X k))) fun r37 =>
  z_cki ((4 : Int32) * x30) 12 <|
  if r37 = (σ19 275 ((4 : Int32) * x30).toNatClampNeg) then
  (z_b1 (f_X9_carrierOf x30 (5 : Int32) (fun k => σ19 (zi_XG_X k))) fun r41 =>
  z_cki (((4 : Int32) * x30) + (1 : Int32)) 12 <|
  if r41 = (σ19 275 (((4 : Int32) * x30) + (1 : Int32)).toNatClampNeg) then
  (z_b1 (f_X9_carrierOf x30 (2 : Int32) (fun k => σ19 (zi_XG_X k))) fun r45 =>
  if r45 = y34 then
  (z_let (x30 + (1 : Int32)) fun x47 =>
  k29 x47)
  else
  (some ((0 : Int32), σ19)))
  else
  (some ((0 : Int32), σ19)))
  else
  (some ((0 : Int32), σ19))) fun j35 =>
  if (σ19 275 (((4 : Int32) * x30) + (3 : Int32)).toNatClampNeg) ≤ (σ19 275 (((4 : Int32) * x30) + (2 : Int32)).toNatClampNeg) then
  (j35 (0 : Int32))
  else
  (z_cki (((4 : Int32) * x30) + (3 : Int32)) 12 <|
  z_cki (((4 : Int32) * x30) + (2 : Int32)) 12 <|
  j35 ((σ19 275 (((4 : Int32) * x30) + (3 : Int32)).toNatClampNeg) - (σ19 275 (((4 : Int32) * x30) + (2 : Int32)).toNatClampNeg))))
def lb_X11_goes_46 (r2 : Int32) (r5 : Int32) (k7 : Int32 → Int32 → z_S → Option (Int32 × z_S)) (x8 : Int32) (x9 : Int32) (σ10 : z_S) : Option (Int32 × z_S) :=
  if r5 ≤ x9 then
  (z_b1 (f_X9_account (1 : Int32) (fun k => σ10 (zi_XG_X k))) fun r13 =>
  z_b1 (f_X9_account (3 : Int32) (fun k => σ10 (zi_XG_X k))) fun r15 =>
  z_b2 (f_X9_days (1 : Int32) (fun k => σ10 (zi_XG_X k))) fun r18 σ17 =>
  z_let (z_m σ10 (zk_XG_X) 275 σ17) fun σ19 =>
  z_b1 (f_X9_account (1 : Int32) (fun k => σ19 (zi_XG_X k))) fun r21 =>
  if r18 = (r21 - r13) then
  (z_b1 (f_X9_account (3 : Int32) (fun k => σ19 (zi_XG_X k))) fun r24 =>
  if ((r18 + r24) - r15) = x8 then
  (z_b1 (f_X9_count (4 : Int32) (fun k => σ19 (zi_XG_X k))) fun r27 =>
  if r27 = (r2 + (1 : Int32)) then
  (z_lp1 (lb_X11_goes_214 r5 σ19) z_Fu (0 : Int32))
  else
  (some ((0 : Int32), σ19)))
  else
  (some ((0 : Int32), σ19)))
  else
  (some ((0 : Int32), σ19)))
  else
  (z_b2 (f_X9_round x9 r2 (0 : Int32) (fun k => σ10 (zi_XG_X k))) fun r53 σ52 =>
  z_let (z_m σ10 (zk_XG_X) 275 σ52) fun σ54 =>
  z_b1 (f_X9_carrierOf x9 (4 : Int32) (fun k => σ54 (zi_XG_X k))) fun r56 =>
  z_cki ((4 : Int32) * x9) 12 <|
  z_let (z_u σ54 275 ((4 : Int32) * x9).toNatClampNeg (r53 + r56)) fun σ58 =>
  z_b2 (f_X9_round x9 r2 (1 : Int32) (fun k => σ58 (zi_XG_X k))) fun r61 σ60 =>
  z_let (z_m σ58 (zk_XG_X) 275 σ60) fun σ62 =>
  z_b1 (f_X9_carrierOf x9 (5 : Int32) (fun k => σ62 (zi_XG_X k))) fun r64 =>
  z_cki (((4 : Int32) * x9) + (1 : Int32)) 12 <|
  z_let (z_u σ62 275 (((4 : Int32) * x9) + (1 : Int32)).toNatClampNeg (r61 + r64)) fun σ66 =>
  z_b2 (f_X9_round x9 r2 (3 : Int32) (fun k => σ66 (zi_XG_X k))) fun r69 σ68 =>
  z_let (z_m σ66 (zk_XG_X) 275 σ68) fun σ70 =>
  z_cki (((4 : Int32) * x9) + (2 : Int32)) 12 <|
  z_let (z_u σ70 275 (((4 : Int32) * x9) + (2 : Int32)).toNatClampNeg (r69)) fun σ72 =>
  z_b1 (f_X9_carrierOf x9 (2 : Int32) (fun k => σ72 (zi_XG_X k))) fun r74 =>
  z_cki (((4 : Int32) * x9) + (3 : Int32)) 12 <|
  z_let (z_u σ72 275 (((4 : Int32) * x9) + (3 : Int32)).toNatClampNeg (r74)) fun σ76 =>
  z_b2 (f_X9_round x9 r2 (2 : Int32) (fun k => σ76 (zi_XG_X k))) fun r79 σ78 =>
  z_let (z_m σ76 (zk_XG_X) 275 σ78) fun σ80 =>
  z_let (x8 + r79) fun x81 =>
  z_let (x9 + (1 : Int32)) fun x82 =>
  k7 x81 x82 σ80)
def f_X11_goes (σ : z_S) : Option (Int32 × z_S) :=
  z_b1 (f_X9_count (4 : Int32) σ) fun r2 =>
  if r2 ≤ (999 : Int32) then
  (z_b1 (f_X9_count (2 : Int32) σ) fun r5 =>
  z_let (z_n σ 275) fun σ6 =>
  z_lp3 (lb_X11_goes_46 r2 r5) z_Fu (0 : Int32) (0 : Int32) σ6)
  else
  (z_b2 (f_X9_days (1 : Int32) σ) fun r85 σ84 =>
  if r85 = (-3 : Int32) then
  (some ((1 : Int32), σ84))
  else
  (some ((0 : Int32), σ84)))
set_option maxRecDepth 100000 in
set_option maxHeartbeats 4000000 in
theorem c_X11_goes (σ : z_S) (r : Int32) (σz : z_S) (h : f_X11_goes σ = some (r, σz)) : zMetN 1 12 yX11_goes cX11_goes 10 (some .boolean) 6 133 layX 275 (fun ad => [.ref (ad 230)]) σ (z_QI layX 275 r σz) := by
  refine z_headIN RX11 (by decide) rfl (fun _ => Nat.le_of_ble_eq_true rfl) (fun E G A ad hB hE0 hret0 hret1 => ?_)
  have hret := hret0
  show ZW E G A 10 layX 275 ad 0 [(0, .ref (ad 230))] [] σ
  unfold f_X11_goes at h
  refine z_aload_n hB 0 dX11_goes_0 rfl rfl ?_
  refine z_iconst hB dX11_goes_1 zcI_4 ?_
  obtain ⟨r2, h1, h⟩ := z_b1E h
  refine z_cI hB (z_rV (ι := fun k => k) hB yY_X9_count (c_X9_count _ _ _ h1) rfl cut_X z_hid kX_230 (Nat.le_of_ble_eq_true rfl) vc_9 rfl rfl rfl (Nat.le_of_ble_eq_true rfl) ml_X11_11 ⟨Nat.le_of_ble_eq_true rfl, Nat.le_of_ble_eq_true rfl⟩ dX11_goes_2) cut_X z_hid ?_
  refine z_toA (z_mro cut_X) ?_
  refine z_istore_n hB [(1, .int r2), (0, .ref (ad 230))] dX11_goes_5 rfl (Nat.le_of_ble_eq_true rfl) rfl rfl ?_
  refine z_iload_n hB 0 dX11_goes_6 rfl rfl ?_
  refine z_sipush hB dX11_goes_7 zcS_999 ?_
  refine z_icmp_le hB (tgt := 29) dX11_goes_10 (by decide) (fun c3 => ?_) (fun c3 => ?_)
  · have h := z_ifT c3 h
    refine z_aload_n hB 1 dX11_goes_29 rfl rfl ?_
    refine z_iconst hB dX11_goes_30 zcI_2 ?_
    obtain ⟨r5, h4, h⟩ := z_b1E h
    refine z_cI hB (z_rV (ι := fun k => k) hB yY_X9_count (c_X9_count _ _ _ h4) rfl cut_X z_hid kX_230 (Nat.le_of_ble_eq_true rfl) vc_9 rfl rfl rfl (Nat.le_of_ble_eq_true rfl) ml_X11_11 ⟨Nat.le_of_ble_eq_true rfl, Nat.le_of_ble_eq_true rfl⟩ dX11_goes_31) cut_X z_hid ?_
    refine z_toA (z_mro cut_X) ?_
    refine z_istore_n hB [(2, .int r5), (1, .int r2), (0, .ref (ad 230))] dX11_goes_34 rfl (Nat.le_of_ble_eq_true rfl) rfl rfl ?_
    refine z_bipush hB dX11_goes_35 zcB_12 ?_
    obtain ⟨σ6, eσ6, h⟩ := z_letE h
    refine z_newi hB 275 12 (lay' := layXG) lay_XG_X rfl dX11_goes_37 (wsL_c2 _ (List.mem_of_getElem? (i := 11) rfl)) (by decide) rfl (by decide) hE0 lay_X_ref ⟨Nat.le_of_ble_eq_true rfl, Nat.le_of_ble_eq_true rfl⟩ (fun ad => [(2, .int r5), (1, .int r2), (0, .ref (ad 230))]) (fun ad => []) rfl rfl (fun ad2 hE => ?_) (fun E ad eE hE hB => ?_)
    · simp only [hE 230 (by decide)]; exact ⟨trivial, trivial⟩
    have hret : ∀ (pc : Nat) (lv : List (Nat × Value)) (v : Int32) (s : z_S), v = r → s = σz → narrow .boolean (.int v) = .int v → decode cX11_goes pc = .ok (.ireturn, 1) → ZW E G A 10 layXG 276 ad pc lv [.int v] s := fun pc lv v s a b c d => z_down lay_XG_X lay_X_ref hE (by rw [eE]; exact hret1 pc lv v s a b c d)
    clear hret0 hret1
    refine z_to eσ6 ?_
    refine z_astore_n hB [(3, .ref (ad 275)), (2, .int r5), (1, .int r2), (0, .ref (ad 230))] dX11_goes_39 rfl (Nat.le_of_ble_eq_true rfl) rfl rfl ?_
    refine z_iconst hB dX11_goes_40 zcI_0 ?_
    refine z_istore hB [(4, .int ((0 : Int32))), (3, .ref (ad 275)), (2, .int r5), (1, .int r2), (0, .ref (ad 230))] dX11_goes_41 (Nat.le_of_ble_eq_true rfl) rfl rfl ?_
    refine z_iconst hB dX11_goes_43 zcI_0 ?_
    refine z_istore hB [(5, .int ((0 : Int32))), (4, .int ((0 : Int32))), (3, .ref (ad 275)), (2, .int r5), (1, .int r2), (0, .ref (ad 230))] dX11_goes_44 (Nat.le_of_ble_eq_true rfl) rfl rfl ?_
    refine z_lv [5, 4, 3, 2, 1, 0] rfl ?_
    refine z_lpr3 (g := fun x8 x9 σ10 => ZW E G A 10 layXG 276 ad 46 [(0, .ref (ad 230)), (1, .int r2), (2, .int r5), (3, .ref (ad 275)), (4, .int x8), (5, .int x9)] [] σ10) (fun k7 x8 x9 σ10 hk_k7 h => ?_) _ _ _ _ h
    show ZW E G A 10 layXG 276 ad 46 [(0, .ref (ad 230)), (1, .int r2), (2, .int r5), (3, .ref (ad 275)), (4, .int x8), (5, .int x9)] [] σ10
    unfold lb_X11_goes_46 at h
    refine z_iload hB 5 dX11_goes_46 rfl ?_
    refine z_iload_n hB 2 dX11_goes_48 rfl rfl ?_
    refine z_icmp_ge hB (tgt := 148) dX11_goes_49 (by decide) (fun c11 => ?_) (fun c11 => ?_)
    · have h := z_ifT c11 h
      refine z_aload_n hB 0 dX11_goes_148 rfl rfl ?_
      refine z_iconst hB dX11_goes_149 zcI_1 ?_
      obtain ⟨r13, h12, h⟩ := z_b1E h
      refine z_cI hB (z_rV (ι := zi_XG_X) hB yY_X9_account (c_X9_account _ _ _ h12) rfl cut_XG_X z_hidXG kX_230 (Nat.le_of_ble_eq_true rfl) vc_9 rfl rfl rfl (Nat.le_of_ble_eq_true rfl) ml_X11_17 ⟨Nat.le_of_ble_eq_true rfl, Nat.le_of_ble_eq_true rfl⟩ dX11_goes_150) cut_XG_X z_hidXG ?_
      refine z_toA (z_mro cut_XG_X) ?_
      refine z_istore hB [(5, .int r13), (0, .ref (ad 230)), (1, .int r2), (2, .int r5), (3, .ref (ad 275)), (4, .int x8)] dX11_goes_153 (Nat.le_of_ble_eq_true rfl) rfl rfl ?_
      refine z_aload_n hB 1 dX11_goes_155 rfl rfl ?_
      refine z_iconst hB dX11_goes_156 zcI_3 ?_
      obtain ⟨r15, h14, h⟩ := z_b1E h
      refine z_cI hB (z_rV (ι := zi_XG_X) hB yY_X9_account (c_X9_account _ _ _ h14) rfl cut_XG_X z_hidXG kX_230 (Nat.le_of_ble_eq_true rfl) vc_9 rfl rfl rfl (Nat.le_of_ble_eq_true rfl) ml_X11_17 ⟨Nat.le_of_ble_eq_true rfl, Nat.le_of_ble_eq_true rfl⟩ dX11_goes_157) cut_XG_X z_hidXG ?_
      refine z_toA (z_mro cut_XG_X) ?_
      refine z_istore hB [(6, .int r15), (5, .int r13), (0, .ref (ad 230)), (1, .int r2), (2, .int r5), (3, .ref (ad 275)), (4, .int x8)] dX11_goes_160 (Nat.le_of_ble_eq_true rfl) rfl rfl ?_
      refine z_aload_n hB 2 dX11_goes_162 rfl rfl ?_
      refine z_iconst hB dX11_goes_163 zcI_1 ?_
      obtain ⟨r18, σ17, h16, h⟩ := z_b2E h
      refine z_cI hB (z_rV (ι := zi_XG_X) hB yY_X9_days (c_X9_days _ _ _ _ h16) rfl cut_XG_X z_hidXG kX_230 (Nat.le_of_ble_eq_true rfl) vc_9 rfl rfl rfl (Nat.le_of_ble_eq_true rfl) ml_X11_74 ⟨Nat.le_of_ble_eq_true rfl, Nat.le_of_ble_eq_true rfl⟩ dX11_goes_164) cut_XG_X z_hidXG ?_
      obtain ⟨σ19, eσ19, h⟩ := z_letE h
      refine z_to eσ19 ?_
      refine z_istore hB [(7, .int r18), (6, .int r15), (5, .int r13), (0, .ref (ad 230)), (1, .int r2), (2, .int r5), (3, .ref (ad 275)), (4, .int x8)] dX11_goes_167 (Nat.le_of_ble_eq_true rfl) rfl rfl ?_
      refine z_iload hB 0 dX11_goes_169 rfl ?_
      refine z_aload_n hB 3 dX11_goes_171 rfl rfl ?_
      refine z_iconst hB dX11_goes_172 zcI_1 ?_
      obtain ⟨r21, h20, h⟩ := z_b1E h
      refine z_cI hB (z_rV (ι := zi_XG_X) hB yY_X9_account (c_X9_account _ _ _ h20) rfl cut_XG_X z_hidXG kX_230 (Nat.le_of_ble_eq_true rfl) vc_9 rfl rfl rfl (Nat.le_of_ble_eq_true rfl) ml_X11_17 ⟨Nat.le_of_ble_eq_true rfl, Nat.le_of_ble_eq_true rfl⟩ dX11_goes_173) cut_XG_X z_hidXG ?_
      refine z_toA (z_mro cut_XG_X) ?_
      refine z_iload hB 2 dX11_goes_176 rfl ?_
      refine z_isub hB dX11_goes_178 ?_
      refine z_icmp_ne hB (tgt := 209) dX11_goes_179 (by decide) (fun c22 => ?_) (fun c22 => ?_)
      · have h := z_ifF c22 h
        refine z_iconst hB dX11_goes_209 zcI_0 ?_
        obtain ⟨h1, h2⟩ := z_prE h
        exact hret _ _ _ _ h1 h2 rfl dX11_goes_210
      · have h := z_ifT c22 h
        refine z_iload hB 0 dX11_goes_182 rfl ?_
        refine z_aload_n hB 3 dX11_goes_184 rfl rfl ?_
        refine z_iconst hB dX11_goes_185 zcI_3 ?_
        obtain ⟨r24, h23, h⟩ := z_b1E h
        refine z_cI hB (z_rV (ι := zi_XG_X) hB yY_X9_account (c_X9_account _ _ _ h23) rfl cut_XG_X z_hidXG kX_230 (Nat.le_of_ble_eq_true rfl) vc_9 rfl rfl rfl (Nat.le_of_ble_eq_true rfl) ml_X11_17 ⟨Nat.le_of_ble_eq_true rfl, Nat.le_of_ble_eq_true rfl⟩ dX11_goes_186) cut_XG_X z_hidXG ?_
        refine z_toA (z_mro cut_XG_X) ?_
        refine z_iadd hB dX11_goes_189 ?_
        refine z_iload hB 1 dX11_goes_190 rfl ?_
        refine z_isub hB dX11_goes_192 ?_
        refine z_iload hB 7 dX11_goes_193 rfl ?_
        refine z_icmp_ne hB (tgt := 209) dX11_goes_195 (by decide) (fun c25 => ?_) (fun c25 => ?_)
        · have h := z_ifF c25 h
          refine z_iconst hB dX11_goes_209 zcI_0 ?_
          obtain ⟨h1, h2⟩ := z_prE h
          exact hret _ _ _ _ h1 h2 rfl dX11_goes_210
        · have h := z_ifT c25 h
          refine z_aload_n hB 3 dX11_goes_198 rfl rfl ?_
          refine z_iconst hB dX11_goes_199 zcI_4 ?_
          obtain ⟨r27, h26, h⟩ := z_b1E h
          refine z_cI hB (z_rV (ι := zi_XG_X) hB yY_X9_count (c_X9_count _ _ _ h26) rfl cut_XG_X z_hidXG kX_230 (Nat.le_of_ble_eq_true rfl) vc_9 rfl rfl rfl (Nat.le_of_ble_eq_true rfl) ml_X11_11 ⟨Nat.le_of_ble_eq_true rfl, Nat.le_of_ble_eq_true rfl⟩ dX11_goes_200) cut_XG_X z_hidXG ?_
          refine z_toA (z_mro cut_XG_X) ?_
          refine z_iload_n hB 4 dX11_goes_203 rfl rfl ?_
          refine z_iconst hB dX11_goes_204 zcI_1 ?_
          refine z_iadd hB dX11_goes_205 ?_
          refine z_icmp_eq hB (tgt := 211) dX11_goes_206 (by decide) (fun c28 => ?_) (fun c28 => ?_)
          · have h := z_ifT c28 h
            refine z_iconst hB dX11_goes_211 zcI_0 ?_
            refine z_istore hB [(8, .int ((0 : Int32))), (7, .int r18), (6, .int r15), (5, .int r13), (0, .ref (ad 230)), (1, .int r2), (2, .int r5), (3, .ref (ad 275)), (4, .int x8)] dX11_goes_212 (Nat.le_of_ble_eq_true rfl) rfl rfl ?_
            refine z_lv [4, 6, 7, 0] rfl ?_
            refine z_lpr1 (g := fun x30 => ZW E G A 10 layXG 276 ad 214 [(0, .ref (ad 230)), (2, .int r5), (3, .ref (ad 275)), (8, .int x30)] [] σ19) (fun k29 x30 hk_k29 h => ?_) _ _ h
            show ZW E G A 10 layXG 276 ad 214 [(0, .ref (ad 230)), (2, .int r5), (3, .ref (ad 275)), (8, .int x30)] [] σ19
            unfold lb_X11_goes_214 at h
            refine z_iload hB 3 dX11_goes_214 rfl ?_
            refine z_iload_n hB 1 dX11_goes_216 rfl rfl ?_
            refine z_icmp_ge hB (tgt := 316) dX11_goes_217 (by decide) (fun c31 => ?_) (fun c31 => ?_)
            · have h := z_ifT c31 h
              refine z_iconst hB dX11_goes_316 zcI_1 ?_
              obtain ⟨h1, h2⟩ := z_prE h
              exact hret _ _ _ _ h1 h2 rfl dX11_goes_317
            · have h := z_ifF c31 h
              refine z_aload_n hB 2 dX11_goes_220 rfl rfl ?_
              refine z_iconst hB dX11_goes_221 zcI_4 ?_
              refine z_iload hB 3 dX11_goes_222 rfl ?_
              refine z_imul hB dX11_goes_224 ?_
              refine z_iconst hB dX11_goes_225 zcI_3 ?_
              refine z_iadd hB dX11_goes_226 ?_
              obtain ⟨h32, h⟩ := z_ckiE h
              refine z_iald hB 275 12 kXG_275 (Nat.le_of_ble_eq_true rfl) dX11_goes_227 h32 ?_
              refine z_aload_n hB 2 dX11_goes_228 rfl rfl ?_
              refine z_iconst hB dX11_goes_229 zcI_4 ?_
              refine z_iload hB 3 dX11_goes_230 rfl ?_
              refine z_imul hB dX11_goes_232 ?_
              refine z_iconst hB dX11_goes_233 zcI_2 ?_
              refine z_iadd hB dX11_goes_234 ?_
              obtain ⟨h33, h⟩ := z_ckiE h
              refine z_iald hB 275 12 kXG_275 (Nat.le_of_ble_eq_true rfl) dX11_goes_235 h33 ?_
              obtain ⟨j35, ej35, h⟩ := z_letE h
              have hj35 : ∀ (y34 : Int32), j35 y34 = some (r, σz) → ZW E G A 10 layXG 276 ad 260 [(0, .ref (ad 230)), (2, .int r5), (3, .ref (ad 275)), (8, .int x30)] [.int y34] σ19 := by
                intro y34 h
                rw [ej35] at h
                refine z_istore hB [(9, .int y34), (0, .ref (ad 230)), (2, .int r5), (3, .ref (ad 275)), (8, .int x30)] dX11_goes_260 (Nat.le_of_ble_eq_true rfl) rfl rfl ?_
                refine z_aload_n hB 1 dX11_goes_262 rfl rfl ?_
                refine z_iload hB 4 dX11_goes_263 rfl ?_
                refine z_iconst hB dX11_goes_265 zcI_4 ?_
                obtain ⟨r37, h36, h⟩ := z_b1E h
                refine z_cI hB (z_rV (ι := zi_XG_X) hB yY_X9_carrierOf (c_X9_carrierOf _ _ _ _ h36) rfl cut_XG_X z_hidXG kX_230 (Nat.le_of_ble_eq_true rfl) vc_9 rfl rfl rfl (Nat.le_of_ble_eq_true rfl) ml_X11_33 ⟨Nat.le_of_ble_eq_true rfl, Nat.le_of_ble_eq_true rfl⟩ dX11_goes_266) cut_XG_X z_hidXG ?_
                refine z_toA (z_mro cut_XG_X) ?_
                refine z_aload_n hB 3 dX11_goes_269 rfl rfl ?_
                refine z_iconst hB dX11_goes_270 zcI_4 ?_
                refine z_iload hB 4 dX11_goes_271 rfl ?_
                refine z_imul hB dX11_goes_273 ?_
                obtain ⟨h38, h⟩ := z_ckiE h
                refine z_iald hB 275 12 kXG_275 (Nat.le_of_ble_eq_true rfl) dX11_goes_274 h38 ?_
                refine z_icmp_ne hB (tgt := 308) dX11_goes_275 (by decide) (fun c39 => ?_) (fun c39 => ?_)
                · have h := z_ifF c39 h
                  refine z_iconst hB dX11_goes_308 zcI_0 ?_
                  obtain ⟨h1, h2⟩ := z_prE h
                  exact hret _ _ _ _ h1 h2 rfl dX11_goes_309
                · have h := z_ifT c39 h
                  refine z_aload_n hB 1 dX11_goes_278 rfl rfl ?_
                  refine z_iload hB 4 dX11_goes_279 rfl ?_
                  refine z_iconst hB dX11_goes_281 zcI_5 ?_
                  obtain ⟨r41, h40, h⟩ := z_b1E h
                  refine z_cI hB (z_rV (ι := zi_XG_X) hB yY_X9_carrierOf (c_X9_carrierOf _ _ _ _ h40) rfl cut_XG_X z_hidXG kX_230 (Nat.le_of_ble_eq_true rfl) vc_9 rfl rfl rfl (Nat.le_of_ble_eq_true rfl) ml_X11_33 ⟨Nat.le_of_ble_eq_true rfl, Nat.le_of_ble_eq_true rfl⟩ dX11_goes_282) cut_XG_X z_hidXG ?_
                  refine z_toA (z_mro cut_XG_X) ?_
                  refine z_aload_n hB 3 dX11_goes_285 rfl rfl ?_
                  refine z_iconst hB dX11_goes_286 zcI_4 ?_
                  refine z_iload hB 4 dX11_goes_287 rfl ?_
                  refine z_imul hB dX11_goes_289 ?_
                  refine z_iconst hB dX11_goes_290 zcI_1 ?_
                  refine z_iadd hB dX11_goes_291 ?_
                  obtain ⟨h42, h⟩ := z_ckiE h
                  refine z_iald hB 275 12 kXG_275 (Nat.le_of_ble_eq_true rfl) dX11_goes_292 h42 ?_
                  refine z_icmp_ne hB (tgt := 308) dX11_goes_293 (by decide) (fun c43 => ?_) (fun c43 => ?_)
                  · have h := z_ifF c43 h
                    refine z_iconst hB dX11_goes_308 zcI_0 ?_
                    obtain ⟨h1, h2⟩ := z_prE h
                    exact hret _ _ _ _ h1 h2 rfl dX11_goes_309
                  · have h := z_ifT c43 h
                    refine z_aload_n hB 1 dX11_goes_296 rfl rfl ?_
                    refine z_iload hB 4 dX11_goes_297 rfl ?_
                    refine z_iconst hB dX11_goes_299 zcI_2 ?_
                    obtain ⟨r45, h44, h⟩ := z_b1E h
                    refine z_cI hB (z_rV (ι := zi_XG_X) hB yY_X9_carrierOf (c_X9_carrierOf _ _ _ _ h44) rfl cut_XG_X z_hidXG kX_230 (Nat.le_of_ble_eq_true rfl) vc_9 rfl rfl rfl (Nat.le_of_ble_eq_true rfl) ml_X11_33 ⟨Nat.le_of_ble_eq_true rfl, Nat.le_of_ble_eq_true rfl⟩ dX11_goes_300) cut_XG_X z_hidXG ?_
                    refine z_toA (z_mro cut_XG_X) ?_
                    refine z_iload hB 0 dX11_goes_303 rfl ?_
                    refine z_icmp_eq hB (tgt := 310) dX11_goes_305 (by decide) (fun c46 => ?_) (fun c46 => ?_)
                    · have h := z_ifT c46 h
                      obtain ⟨x47, ex47, h⟩ := z_letE h
                      refine z_iinc hB 4 [(8, .int x47), (9, .int y34), (0, .ref (ad 230)), (2, .int r5), (3, .ref (ad 275))] dX11_goes_310 rfl (by rw [zcI_1]; exact ex47) (Nat.le_of_ble_eq_true rfl) rfl ?_
                      refine z_goto hB (tgt := 214) dX11_goes_313 (by decide) ?_
                      refine z_lv [2, 3, 4, 0] rfl ?_
                      exact hk_k29 _ h
                    · have h := z_ifF c46 h
                      refine z_iconst hB dX11_goes_308 zcI_0 ?_
                      obtain ⟨h1, h2⟩ := z_prE h
                      exact hret _ _ _ _ h1 h2 rfl dX11_goes_309
              refine z_icmp_le hB (tgt := 259) dX11_goes_236 (by decide) (fun c48 => ?_) (fun c48 => ?_)
              · have h := z_ifT c48 h
                refine z_iconst hB dX11_goes_259 zcI_0 ?_
                exact hj35 _ h
              · have h := z_ifF c48 h
                refine z_aload_n hB 2 dX11_goes_239 rfl rfl ?_
                refine z_iconst hB dX11_goes_240 zcI_4 ?_
                refine z_iload hB 3 dX11_goes_241 rfl ?_
                refine z_imul hB dX11_goes_243 ?_
                refine z_iconst hB dX11_goes_244 zcI_3 ?_
                refine z_iadd hB dX11_goes_245 ?_
                obtain ⟨h49, h⟩ := z_ckiE h
                refine z_iald hB 275 12 kXG_275 (Nat.le_of_ble_eq_true rfl) dX11_goes_246 h49 ?_
                refine z_aload_n hB 2 dX11_goes_247 rfl rfl ?_
                refine z_iconst hB dX11_goes_248 zcI_4 ?_
                refine z_iload hB 3 dX11_goes_249 rfl ?_
                refine z_imul hB dX11_goes_251 ?_
                refine z_iconst hB dX11_goes_252 zcI_2 ?_
                refine z_iadd hB dX11_goes_253 ?_
                obtain ⟨h50, h⟩ := z_ckiE h
                refine z_iald hB 275 12 kXG_275 (Nat.le_of_ble_eq_true rfl) dX11_goes_254 h50 ?_
                refine z_isub hB dX11_goes_255 ?_
                refine z_goto hB (tgt := 260) dX11_goes_256 (by decide) ?_
                exact hj35 _ h
          · have h := z_ifF c28 h
            refine z_iconst hB dX11_goes_209 zcI_0 ?_
            obtain ⟨h1, h2⟩ := z_prE h
            exact hret _ _ _ _ h1 h2 rfl dX11_goes_210
    · have h := z_ifF c11 h
      refine z_aload_n hB 3 dX11_goes_52 rfl rfl ?_
      refine z_iconst hB dX11_goes_53 zcI_4 ?_
      refine z_iload hB 5 dX11_goes_54 rfl ?_
      refine z_imul hB dX11_goes_56 ?_
      refine z_aload_n hB 0 dX11_goes_57 rfl rfl ?_
      refine z_iload hB 5 dX11_goes_58 rfl ?_
      refine z_iload_n hB 1 dX11_goes_60 rfl rfl ?_
      refine z_iconst hB dX11_goes_61 zcI_0 ?_
      obtain ⟨r53, σ52, h51, h⟩ := z_b2E h
      refine z_cI hB (z_rV (ι := zi_XG_X) hB yY_X9_round (c_X9_round _ _ _ _ _ _ h51) rfl cut_XG_X z_hidXG kX_230 (Nat.le_of_ble_eq_true rfl) vc_9 rfl rfl rfl (Nat.le_of_ble_eq_true rfl) ml_X11_80 ⟨Nat.le_of_ble_eq_true rfl, Nat.le_of_ble_eq_true rfl⟩ dX11_goes_62) cut_XG_X z_hidXG ?_
      obtain ⟨σ54, eσ54, h⟩ := z_letE h
      refine z_to eσ54 ?_
      refine z_aload_n hB 0 dX11_goes_65 rfl rfl ?_
      refine z_iload hB 5 dX11_goes_66 rfl ?_
      refine z_iconst hB dX11_goes_68 zcI_4 ?_
      obtain ⟨r56, h55, h⟩ := z_b1E h
      refine z_cI hB (z_rV (ι := zi_XG_X) hB yY_X9_carrierOf (c_X9_carrierOf _ _ _ _ h55) rfl cut_XG_X z_hidXG kX_230 (Nat.le_of_ble_eq_true rfl) vc_9 rfl rfl rfl (Nat.le_of_ble_eq_true rfl) ml_X11_33 ⟨Nat.le_of_ble_eq_true rfl, Nat.le_of_ble_eq_true rfl⟩ dX11_goes_69) cut_XG_X z_hidXG ?_
      refine z_toA (z_mro cut_XG_X) ?_
      refine z_iadd hB dX11_goes_72 ?_
      obtain ⟨h57, h⟩ := z_ckiE h
      obtain ⟨σ58, eσ58, h⟩ := z_letE h
      refine z_iast hB 275 12 kXG_275 (Nat.le_of_ble_eq_true rfl) dX11_goes_73 h57 ?_
      refine z_to eσ58 ?_
      refine z_aload_n hB 3 dX11_goes_74 rfl rfl ?_
      refine z_iconst hB dX11_goes_75 zcI_4 ?_
      refine z_iload hB 5 dX11_goes_76 rfl ?_
      refine z_imul hB dX11_goes_78 ?_
      refine z_iconst hB dX11_goes_79 zcI_1 ?_
      refine z_iadd hB dX11_goes_80 ?_
      refine z_aload_n hB 0 dX11_goes_81 rfl rfl ?_
      refine z_iload hB 5 dX11_goes_82 rfl ?_
      refine z_iload_n hB 1 dX11_goes_84 rfl rfl ?_
      refine z_iconst hB dX11_goes_85 zcI_1 ?_
      obtain ⟨r61, σ60, h59, h⟩ := z_b2E h
      refine z_cI hB (z_rV (ι := zi_XG_X) hB yY_X9_round (c_X9_round _ _ _ _ _ _ h59) rfl cut_XG_X z_hidXG kX_230 (Nat.le_of_ble_eq_true rfl) vc_9 rfl rfl rfl (Nat.le_of_ble_eq_true rfl) ml_X11_80 ⟨Nat.le_of_ble_eq_true rfl, Nat.le_of_ble_eq_true rfl⟩ dX11_goes_86) cut_XG_X z_hidXG ?_
      obtain ⟨σ62, eσ62, h⟩ := z_letE h
      refine z_to eσ62 ?_
      refine z_aload_n hB 0 dX11_goes_89 rfl rfl ?_
      refine z_iload hB 5 dX11_goes_90 rfl ?_
      refine z_iconst hB dX11_goes_92 zcI_5 ?_
      obtain ⟨r64, h63, h⟩ := z_b1E h
      refine z_cI hB (z_rV (ι := zi_XG_X) hB yY_X9_carrierOf (c_X9_carrierOf _ _ _ _ h63) rfl cut_XG_X z_hidXG kX_230 (Nat.le_of_ble_eq_true rfl) vc_9 rfl rfl rfl (Nat.le_of_ble_eq_true rfl) ml_X11_33 ⟨Nat.le_of_ble_eq_true rfl, Nat.le_of_ble_eq_true rfl⟩ dX11_goes_93) cut_XG_X z_hidXG ?_
      refine z_toA (z_mro cut_XG_X) ?_
      refine z_iadd hB dX11_goes_96 ?_
      obtain ⟨h65, h⟩ := z_ckiE h
      obtain ⟨σ66, eσ66, h⟩ := z_letE h
      refine z_iast hB 275 12 kXG_275 (Nat.le_of_ble_eq_true rfl) dX11_goes_97 h65 ?_
      refine z_to eσ66 ?_
      refine z_aload_n hB 3 dX11_goes_98 rfl rfl ?_
      refine z_iconst hB dX11_goes_99 zcI_4 ?_
      refine z_iload hB 5 dX11_goes_100 rfl ?_
      refine z_imul hB dX11_goes_102 ?_
      refine z_iconst hB dX11_goes_103 zcI_2 ?_
      refine z_iadd hB dX11_goes_104 ?_
      refine z_aload_n hB 0 dX11_goes_105 rfl rfl ?_
      refine z_iload hB 5 dX11_goes_106 rfl ?_
      refine z_iload_n hB 1 dX11_goes_108 rfl rfl ?_
      refine z_iconst hB dX11_goes_109 zcI_3 ?_
      obtain ⟨r69, σ68, h67, h⟩ := z_b2E h
      refine z_cI hB (z_rV (ι := zi_XG_X) hB yY_X9_round (c_X9_round _ _ _ _ _ _ h67) rfl cut_XG_X z_hidXG kX_230 (Nat.le_of_ble_eq_true rfl) vc_9 rfl rfl rfl (Nat.le_of_ble_eq_true rfl) ml_X11_80 ⟨Nat.le_of_ble_eq_true rfl, Nat.le_of_ble_eq_true rfl⟩ dX11_goes_110) cut_XG_X z_hidXG ?_
      obtain ⟨σ70, eσ70, h⟩ := z_letE h
      refine z_to eσ70 ?_
      obtain ⟨h71, h⟩ := z_ckiE h
      obtain ⟨σ72, eσ72, h⟩ := z_letE h
      refine z_iast hB 275 12 kXG_275 (Nat.le_of_ble_eq_true rfl) dX11_goes_113 h71 ?_
      refine z_to eσ72 ?_
      refine z_aload_n hB 3 dX11_goes_114 rfl rfl ?_
      refine z_iconst hB dX11_goes_115 zcI_4 ?_
      refine z_iload hB 5 dX11_goes_116 rfl ?_
      refine z_imul hB dX11_goes_118 ?_
      refine z_iconst hB dX11_goes_119 zcI_3 ?_
      refine z_iadd hB dX11_goes_120 ?_
      refine z_aload_n hB 0 dX11_goes_121 rfl rfl ?_
      refine z_iload hB 5 dX11_goes_122 rfl ?_
      refine z_iconst hB dX11_goes_124 zcI_2 ?_
      obtain ⟨r74, h73, h⟩ := z_b1E h
      refine z_cI hB (z_rV (ι := zi_XG_X) hB yY_X9_carrierOf (c_X9_carrierOf _ _ _ _ h73) rfl cut_XG_X z_hidXG kX_230 (Nat.le_of_ble_eq_true rfl) vc_9 rfl rfl rfl (Nat.le_of_ble_eq_true rfl) ml_X11_33 ⟨Nat.le_of_ble_eq_true rfl, Nat.le_of_ble_eq_true rfl⟩ dX11_goes_125) cut_XG_X z_hidXG ?_
      refine z_toA (z_mro cut_XG_X) ?_
      obtain ⟨h75, h⟩ := z_ckiE h
      obtain ⟨σ76, eσ76, h⟩ := z_letE h
      refine z_iast hB 275 12 kXG_275 (Nat.le_of_ble_eq_true rfl) dX11_goes_128 h75 ?_
      refine z_to eσ76 ?_
      refine z_iload hB 4 dX11_goes_129 rfl ?_
      refine z_aload_n hB 0 dX11_goes_131 rfl rfl ?_
      refine z_iload hB 5 dX11_goes_132 rfl ?_
      refine z_iload_n hB 1 dX11_goes_134 rfl rfl ?_
      refine z_iconst hB dX11_goes_135 zcI_2 ?_
      obtain ⟨r79, σ78, h77, h⟩ := z_b2E h
      refine z_cI hB (z_rV (ι := zi_XG_X) hB yY_X9_round (c_X9_round _ _ _ _ _ _ h77) rfl cut_XG_X z_hidXG kX_230 (Nat.le_of_ble_eq_true rfl) vc_9 rfl rfl rfl (Nat.le_of_ble_eq_true rfl) ml_X11_80 ⟨Nat.le_of_ble_eq_true rfl, Nat.le_of_ble_eq_true rfl⟩ dX11_goes_136) cut_XG_X z_hidXG ?_
      obtain ⟨σ80, eσ80, h⟩ := z_letE h
      refine z_to eσ80 ?_
      refine z_iadd hB dX11_goes_139 ?_
      obtain ⟨x81, ex81, h⟩ := z_letE h
      refine z_istore hB [(4, .int x81), (0, .ref (ad 230)), (1, .int r2), (2, .int r5), (3, .ref (ad 275)), (5, .int x9)] dX11_goes_140 (Nat.le_of_ble_eq_true rfl) ex81 rfl ?_
      obtain ⟨x82, ex82, h⟩ := z_letE h
      refine z_iinc hB 5 [(5, .int x82), (4, .int x81), (0, .ref (ad 230)), (1, .int r2), (2, .int r5), (3, .ref (ad 275))] dX11_goes_142 rfl (by rw [zcI_1]; exact ex82) (Nat.le_of_ble_eq_true rfl) rfl ?_
      refine z_goto hB (tgt := 46) dX11_goes_145 (by decide) ?_
      refine z_lv [2, 3, 4, 5, 1, 0] rfl ?_
      exact hk_k7 _ _ _ h
  · have h := z_ifF c3 h
    refine z_aload_n hB 1 dX11_goes_13 rfl rfl ?_
    refine z_iconst hB dX11_goes_14 zcI_1 ?_
    obtain ⟨r85, σ84, h83, h⟩ := z_b2E h
    refine z_cI hB (z_rV (ι := fun k => k) hB yY_X9_days (c_X9_days _ _ _ _ h83) rfl cut_X z_hid kX_230 (Nat.le_of_ble_eq_true rfl) vc_9 rfl rfl rfl (Nat.le_of_ble_eq_true rfl) ml_X11_74 ⟨Nat.le_of_ble_eq_true rfl, Nat.le_of_ble_eq_true rfl⟩ dX11_goes_15) cut_X z_hid ?_
    refine z_toA z_mid ?_
    refine z_bipush hB dX11_goes_18 zcB_m3 ?_
    refine z_icmp_ne hB (tgt := 27) dX11_goes_20 (by decide) (fun c86 => ?_) (fun c86 => ?_)
    · have h := z_ifF c86 h
      refine z_iconst hB dX11_goes_27 zcI_0 ?_
      obtain ⟨h1, h2⟩ := z_prE h
      exact hret _ _ _ _ h1 h2 rfl dX11_goes_28
    · have h := z_ifT c86 h
      refine z_iconst hB dX11_goes_23 zcI_1 ?_
      refine z_goto hB (tgt := 28) dX11_goes_24 (by decide) ?_
      obtain ⟨h1, h2⟩ := z_prE h
      exact hret _ _ _ _ h1 h2 rfl dX11_goes_28
def lb_X11_papers_402 (p1 : Int32) (σ : z_S) (x2 : Int32) (x3 : Int32) (x4 : Int32) (x5 : Int32) (x6 : Int32) (x7 : Int32) (x8 : Int32) (k13 : Int32 → Int32 → Int32 → Int32 → Option Int32) (x14 : Int32) (x15 : Int32) (x16 : Int32) (x17 : Int32) : Option Int32 :=
  z_b1 (f_X9_count (2 : Int32) σ) fun r19 =>
  if r19 ≤ x17 then
  (if x14 = x2 then
  (z_b1 (f_X9_count (8 : Int32) σ) fun r23 =>
  if x15 = r23 then
  (z_b1 (f_X9_count (1 : Int32) σ) fun r26 =>
  if (x16 + x7) = r26 then
  (z_b1 (f_X9_count (5 : Int32) σ) fun r29 =>
  if x7 = r29 then
  (z_b1 (f_X9_account (1 : Int32) σ) fun r32 =>
  if r32 = x2 then
  (z_b1 (f_X9_account (2 : Int32) σ) fun r35 =>
  if r35 = x3 then
  (z_b1 (f_X9_account (3 : Int32) σ) fun r38 =>
  z_b1 (f_X9_account (4 : Int32) σ) fun r40 =>
  if (r38 + r40) = x4 then
  (z_b1 (f_X9_account (5 : Int32) σ) fun r43 =>
  if r43 = x5 then
  (z_b1 (f_X9_account (0 : Int32) σ) fun r46 =>
  if r46 = p1 then
  (if (((x2 + x3) + x4) + x5) = p1 then
  (z_b1 (f_X9_count (7 : Int32) σ) fun r50 =>
  if x6 = r50 then
  (z_b1 (f_X9_meanBits σ) fun r53 =>
  z_let (fun (y54 : Int32) => z_let (fun (y56 : Int32) => if y54 = y56 then
  (some ((1 : Int32)))
  else
  (some ((0 : Int32)))) fun j57 =>
  if x8 = (0 : Int32) then
  (j57 (1 : Int32))
  else
  (j57 (0 : Int32))) fun j55 =>
  if r53 = (-4 : Int32) then
  (j55 (1 : Int32))
  else
  (j55 (0 : Int32)))
  else
  (some ((0 : Int32))))
  else
  (some ((0 : Int32))))
  else
  (some ((0 : Int32))))
  else
  (some ((0 : Int32))))
  else
  (some ((0 : Int32))))
  else
  (some ((0 : Int32))))
  else
  (some ((0 : Int32))))
  else
  (some ((0 : Int32))))
  else
  (some ((0 : Int32))))
  else
  (some ((0 : Int32))))
  else
  (some ((0 : Int32))))
  else
  (z_b1 (f_X9_carrierOf x17 (7 : Int32) σ) fun r62 =>
  z_let (x14 + r62) fun x63 =>
  z_b1 (f_X9_carrierOf x17 (6 : Int32) σ) fun r65 =>
  z_let (x15 + r65) fun x66 =>
  z_b1 (f_X9_carrierOf x17 (3 : Int32) σ) fun r68 =>
  z_let (x16 + r68) fun x69 =>
  z_let (x17 + (1 : Int32)) fun x70 =>
  k13 x63 x66 x69 x70)
def lb_X11_papers_22 (p1 : Int32) (σ : z_S) (k1 : Int32 → Int32 → Int32 → Int32 → Int32 → Int32 → Int32 → Int32 → Option Int32) (x2 : Int32) (x3 : Int32) (x4 : Int32) (x5 : Int32) (x6 : Int32) (x7 : Int32) (x8 : Int32) (x9 : Int32) : Option Int32 :=
  z_b1 (f_X9_count (1 : Int32) σ) fun r11 =>
  if r11 ≤ x9 then
  (z_lp4 (lb_X11_papers_402 p1 σ x2 x3 x4 x5 x6 x7 x8) z_Fu (0 : Int32) (0 : Int32) (0 : Int32) (0 : Int32))
  else
  (z_b1 (f_X9_houseOf x9 (6 : Int32) σ) fun r72 =>
  z_b1 (f_X9_houseOf x9 (8 : Int32) σ) fun r74 =>
  z_b1 (f_X9_houseOf x9 (9 : Int32) σ) fun r76 =>
  z_let ((r72 + r74) + r76) fun x77 =>
  z_b1 (f_X9_shareBits x9 σ) fun r79 =>
  z_b1 (f_X9_houseOf x9 (3 : Int32) σ) fun r81 =>
  z_let (x2 + r72) fun x82 =>
  z_b1 (f_X9_houseOf x9 (7 : Int32) σ) fun r84 =>
  z_let (x3 + r84) fun x85 =>
  z_b1 (f_X9_houseOf x9 (8 : Int32) σ) fun r87 =>
  z_let (x4 + r87) fun x88 =>
  z_b1 (f_X9_houseOf x9 (9 : Int32) σ) fun r90 =>
  z_let (x5 + r90) fun x91 =>
  z_b1 (f_X9_houseOf x9 (10 : Int32) σ) fun r93 =>
  z_let (x6 + r93) fun x94 =>
  z_let (fun (y95 : Int32) => z_let (x7 + y95) fun x97 =>
  z_let (fun (y98 : Int32) => z_let (x8 + y98) fun x100 =>
  z_let (fun (y101 : Int32) => z_b1 (f_X9_houseOf x9 (1 : Int32) σ) fun r104 =>
  if y101 = (0 : Int32) then
  (some ((0 : Int32)))
  else
  (z_b1 (f_X9_houseOf x9 (8 : Int32) σ) fun r107 =>
  z_b1 (f_X9_houseOf x9 (9 : Int32) σ) fun r109 =>
  z_b1 (f_X9_houseOf x9 (10 : Int32) σ) fun r111 =>
  if (r107 + r109) = (r104 * r111) then
  (z_b1 (f_X9_houseOf x9 (11 : Int32) σ) fun r114 =>
  z_b1 (f_X9_houseOf x9 (10 : Int32) σ) fun r116 =>
  if r116 < r114 then
  (some ((0 : Int32)))
  else
  (z_ck (¬ r104 = 0) <|
  if (x77 - x77 / r104 * r104) = (0 : Int32) then
  (z_let (fun (_ : Unit) => z_let (x9 + (1 : Int32)) fun x121 =>
  k1 x82 x85 x88 x91 x94 x97 x100 x121) fun j120 =>
  if r81 < (0 : Int32) then
  (j120 ())
  else
  (z_b1 (f_X9_carrierOf r81 (0 : Int32) σ) fun r124 =>
  if r124 = (1 : Int32) then
  (z_b1 (f_X9_houseOf x9 (0 : Int32) σ) fun r127 =>
  z_b1 (f_X9_cornerOf r127 (6 : Int32) σ) fun r129 =>
  if r129 = (0 : Int32) then
  (some ((0 : Int32)))
  else
  (j120 ()))
  else
  (j120 ())))
  else
  (some ((0 : Int32)))))
  else
  (some ((0 : Int32))))) fun j102 =>
  if x77 = (0 : Int32) then
  (if r79 = (-4 : Int32) then
  (j102 (1 : Int32))
  else
  (j102 (0 : Int32)))
  else
  (if r72 = (0 : Int32) then
  (if r79 = (0 : Int32) then
  (j102 (1 : Int32))
  else
  (j102 (0 : Int32)))
  else
  (if r72 = x77 then
  (if r79 = (1065353216 : Int32) then
  (j102 (1 : Int32))
  else
  (j102 (0 : Int32)))
  else
  (if ((2 : Int32) * r72) < x77 then
  (z_let (fun (_ : Unit) => j102 (0 : Int32)) fun j135 =>
  if r79 ≤ (0 : Int32) then
  (j135 ())
  else
  (if (1056964608 : Int32) ≤ r79 then
  (j135 ())
  else
  (j102 (1 : Int32))))
  else
  (z_let (fun (_ : Unit) => j102 (0 : Int32)) fun j138 =>
  if r79 < (1056964608 : Int32) then
  (j138 ())
  else
  (if (1065353216 : Int32) ≤ r79 then
  (j138 ())
  else
  (j102 (1 : Int32)))))))) fun j99 =>
  if x77 ≤ (0 : Int32) then
  (j99 (0 : Int32))
  else
  (j99 (1 : Int32))) fun j96 =>
  if r81 = (-4 : Int32) then
  (j96 (1 : Int32))
  else
  (j96 (0 : Int32)))
def f_X11_papers (p1 : Int32) (σ : z_S) : Option Int32 :=
  z_lp8 (lb_X11_papers_22 p1 σ) z_Fu (0 : Int32) (0 : Int32) (0 : Int32) (0 : Int32) (0 : Int32) (0 : Int32) (0 : Int32) (0 : Int32)
set_option maxRecDepth 100000 in
set_option maxHeartbeats 4000000 in
theorem c_X11_papers (p1 : Int32) (σ : z_S) (r : Int32) (h : f_X11_papers p1 σ = some r) : zMet yX11_papers cX11_papers 16 (some .boolean) 3 70 layX 275 (fun ad => [.ref (ad 230), .int p1]) σ (z_QI layX 275 r σ) := by
  refine z_headI RX11 (by decide) rfl (fun _ => Nat.le_of_ble_eq_true rfl) (fun E G A ad hB hret => ?_)
  show ZW E G A 16 layX 275 ad 0 [(0, .ref (ad 230)), (1, .int p1)] [] σ
  unfold f_X11_papers at h
  refine z_iconst hB dX11_papers_0 zcI_0 ?_
  refine z_istore_n hB [(2, .int ((0 : Int32))), (0, .ref (ad 230)), (1, .int p1)] dX11_papers_1 rfl (Nat.le_of_ble_eq_true rfl) rfl rfl ?_
  refine z_iconst hB dX11_papers_2 zcI_0 ?_
  refine z_istore_n hB [(3, .int ((0 : Int32))), (2, .int ((0 : Int32))), (0, .ref (ad 230)), (1, .int p1)] dX11_papers_3 rfl (Nat.le_of_ble_eq_true rfl) rfl rfl ?_
  refine z_iconst hB dX11_papers_4 zcI_0 ?_
  refine z_istore hB [(4, .int ((0 : Int32))), (3, .int ((0 : Int32))), (2, .int ((0 : Int32))), (0, .ref (ad 230)), (1, .int p1)] dX11_papers_5 (Nat.le_of_ble_eq_true rfl) rfl rfl ?_
  refine z_iconst hB dX11_papers_7 zcI_0 ?_
  refine z_istore hB [(5, .int ((0 : Int32))), (4, .int ((0 : Int32))), (3, .int ((0 : Int32))), (2, .int ((0 : Int32))), (0, .ref (ad 230)), (1, .int p1)] dX11_papers_8 (Nat.le_of_ble_eq_true rfl) rfl rfl ?_
  refine z_iconst hB dX11_papers_10 zcI_0 ?_
  refine z_istore hB [(6, .int ((0 : Int32))), (5, .int ((0 : Int32))), (4, .int ((0 : Int32))), (3, .int ((0 : Int32))), (2, .int ((0 : Int32))), (0, .ref (ad 230)), (1, .int p1)] dX11_papers_11 (Nat.le_of_ble_eq_true rfl) rfl rfl ?_
  refine z_iconst hB dX11_papers_13 zcI_0 ?_
  refine z_istore hB [(7, .int ((0 : Int32))), (6, .int ((0 : Int32))), (5, .int ((0 : Int32))), (4, .int ((0 : Int32))), (3, .int ((0 : Int32))), (2, .int ((0 : Int32))), (0, .ref (ad 230)), (1, .int p1)] dX11_papers_14 (Nat.le_of_ble_eq_true rfl) rfl rfl ?_
  refine z_iconst hB dX11_papers_16 zcI_0 ?_
  refine z_istore hB [(8, .int ((0 : Int32))), (7, .int ((0 : Int32))), (6, .int ((0 : Int32))), (5, .int ((0 : Int32))), (4, .int ((0 : Int32))), (3, .int ((0 : Int32))), (2, .int ((0 : Int32))), (0, .ref (ad 230)), (1, .int p1)] dX11_papers_17 (Nat.le_of_ble_eq_true rfl) rfl rfl ?_
  refine z_iconst hB dX11_papers_19 zcI_0 ?_
  refine z_istore hB [(9, .int ((0 : Int32))), (8, .int ((0 : Int32))), (7, .int ((0 : Int32))), (6, .int ((0 : Int32))), (5, .int ((0 : Int32))), (4, .int ((0 : Int32))), (3, .int ((0 : Int32))), (2, .int ((0 : Int32))), (0, .ref (ad 230)), (1, .int p1)] dX11_papers_20 (Nat.le_of_ble_eq_true rfl) rfl rfl ?_
  refine z_lv [8, 9, 7, 6, 5, 4, 3, 2, 1, 0] rfl ?_
  refine z_lpr8 (g := fun x2 x3 x4 x5 x6 x7 x8 x9 => ZW E G A 16 layX 275 ad 22 [(0, .ref (ad 230)), (1, .int p1), (2, .int x2), (3, .int x3), (4, .int x4), (5, .int x5), (6, .int x6), (7, .int x7), (8, .int x8), (9, .int x9)] [] σ) (fun k1 x2 x3 x4 x5 x6 x7 x8 x9 hk_k1 h => ?_) _ _ _ _ _ _ _ _ _ h
  show ZW E G A 16 layX 275 ad 22 [(0, .ref (ad 230)), (1, .int p1), (2, .int x2), (3, .int x3), (4, .int x4), (5, .int x5), (6, .int x6), (7, .int x7), (8, .int x8), (9, .int x9)] [] σ
  unfold lb_X11_papers_22 at h
  refine z_iload hB 9 dX11_papers_22 rfl ?_
  refine z_aload_n hB 0 dX11_papers_24 rfl rfl ?_
  refine z_iconst hB dX11_papers_25 zcI_1 ?_
  obtain ⟨r11, h10, h⟩ := z_b1E h
  refine z_cI hB (z_rV (ι := fun k => k) hB yY_X9_count (c_X9_count _ _ _ h10) rfl cut_X z_hid kX_230 (Nat.le_of_ble_eq_true rfl) vc_9 rfl rfl rfl (Nat.le_of_ble_eq_true rfl) ml_X11_11 ⟨Nat.le_of_ble_eq_true rfl, Nat.le_of_ble_eq_true rfl⟩ dX11_papers_26) cut_X z_hid ?_
  refine z_toA (z_mro cut_X) ?_
  refine z_icmp_ge hB (tgt := 390) dX11_papers_29 (by decide) (fun c12 => ?_) (fun c12 => ?_)
  · have h := z_ifT c12 h
    refine z_iconst hB dX11_papers_390 zcI_0 ?_
    refine z_istore hB [(9, .int ((0 : Int32))), (0, .ref (ad 230)), (1, .int p1), (2, .int x2), (3, .int x3), (4, .int x4), (5, .int x5), (6, .int x6), (7, .int x7), (8, .int x8)] dX11_papers_391 (Nat.le_of_ble_eq_true rfl) rfl rfl ?_
    refine z_iconst hB dX11_papers_393 zcI_0 ?_
    refine z_istore hB [(10, .int ((0 : Int32))), (9, .int ((0 : Int32))), (0, .ref (ad 230)), (1, .int p1), (2, .int x2), (3, .int x3), (4, .int x4), (5, .int x5), (6, .int x6), (7, .int x7), (8, .int x8)] dX11_papers_394 (Nat.le_of_ble_eq_true rfl) rfl rfl ?_
    refine z_iconst hB dX11_papers_396 zcI_0 ?_
    refine z_istore hB [(11, .int ((0 : Int32))), (10, .int ((0 : Int32))), (9, .int ((0 : Int32))), (0, .ref (ad 230)), (1, .int p1), (2, .int x2), (3, .int x3), (4, .int x4), (5, .int x5), (6, .int x6), (7, .int x7), (8, .int x8)] dX11_papers_397 (Nat.le_of_ble_eq_true rfl) rfl rfl ?_
    refine z_iconst hB dX11_papers_399 zcI_0 ?_
    refine z_istore hB [(12, .int ((0 : Int32))), (11, .int ((0 : Int32))), (10, .int ((0 : Int32))), (9, .int ((0 : Int32))), (0, .ref (ad 230)), (1, .int p1), (2, .int x2), (3, .int x3), (4, .int x4), (5, .int x5), (6, .int x6), (7, .int x7), (8, .int x8)] dX11_papers_400 (Nat.le_of_ble_eq_true rfl) rfl rfl ?_
    refine z_lv [4, 5, 6, 7, 8, 9, 10, 11, 12, 3, 2, 1, 0] rfl ?_
    refine z_lpr4 (g := fun x14 x15 x16 x17 => ZW E G A 16 layX 275 ad 402 [(0, .ref (ad 230)), (1, .int p1), (2, .int x2), (3, .int x3), (4, .int x4), (5, .int x5), (6, .int x6), (7, .int x7), (8, .int x8), (9, .int x14), (10, .int x15), (11, .int x16), (12, .int x17)] [] σ) (fun k13 x14 x15 x16 x17 hk_k13 h => ?_) _ _ _ _ _ h
    show ZW E G A 16 layX 275 ad 402 [(0, .ref (ad 230)), (1, .int p1), (2, .int x2), (3, .int x3), (4, .int x4), (5, .int x5), (6, .int x6), (7, .int x7), (8, .int x8), (9, .int x14), (10, .int x15), (11, .int x16), (12, .int x17)] [] σ
    unfold lb_X11_papers_402 at h
    refine z_iload hB 12 dX11_papers_402 rfl ?_
    refine z_aload_n hB 0 dX11_papers_404 rfl rfl ?_
    refine z_iconst hB dX11_papers_405 zcI_2 ?_
    obtain ⟨r19, h18, h⟩ := z_b1E h
    refine z_cI hB (z_rV (ι := fun k => k) hB yY_X9_count (c_X9_count _ _ _ h18) rfl cut_X z_hid kX_230 (Nat.le_of_ble_eq_true rfl) vc_9 rfl rfl rfl (Nat.le_of_ble_eq_true rfl) ml_X11_11 ⟨Nat.le_of_ble_eq_true rfl, Nat.le_of_ble_eq_true rfl⟩ dX11_papers_406) cut_X z_hid ?_
    refine z_toA (z_mro cut_X) ?_
    refine z_icmp_ge hB (tgt := 456) dX11_papers_409 (by decide) (fun c20 => ?_) (fun c20 => ?_)
    · have h := z_ifT c20 h
      refine z_iload hB 9 dX11_papers_456 rfl ?_
      refine z_iload_n hB 2 dX11_papers_458 rfl rfl ?_
      refine z_icmp_ne hB (tgt := 604) dX11_papers_459 (by decide) (fun c21 => ?_) (fun c21 => ?_)
      · have h := z_ifF c21 h
        refine z_iconst hB dX11_papers_604 zcI_0 ?_
        exact hret _ _ _ _ (Option.some.inj h) rfl rfl dX11_papers_605
      · have h := z_ifT c21 h
        refine z_iload hB 10 dX11_papers_462 rfl ?_
        refine z_aload_n hB 0 dX11_papers_464 rfl rfl ?_
        refine z_bipush hB dX11_papers_465 zcB_8 ?_
        obtain ⟨r23, h22, h⟩ := z_b1E h
        refine z_cI hB (z_rV (ι := fun k => k) hB yY_X9_count (c_X9_count _ _ _ h22) rfl cut_X z_hid kX_230 (Nat.le_of_ble_eq_true rfl) vc_9 rfl rfl rfl (Nat.le_of_ble_eq_true rfl) ml_X11_11 ⟨Nat.le_of_ble_eq_true rfl, Nat.le_of_ble_eq_true rfl⟩ dX11_papers_467) cut_X z_hid ?_
        refine z_toA (z_mro cut_X) ?_
        refine z_icmp_ne hB (tgt := 604) dX11_papers_470 (by decide) (fun c24 => ?_) (fun c24 => ?_)
        · have h := z_ifF c24 h
          refine z_iconst hB dX11_papers_604 zcI_0 ?_
          exact hret _ _ _ _ (Option.some.inj h) rfl rfl dX11_papers_605
        · have h := z_ifT c24 h
          refine z_iload hB 11 dX11_papers_473 rfl ?_
          refine z_iload hB 7 dX11_papers_475 rfl ?_
          refine z_iadd hB dX11_papers_477 ?_
          refine z_aload_n hB 0 dX11_papers_478 rfl rfl ?_
          refine z_iconst hB dX11_papers_479 zcI_1 ?_
          obtain ⟨r26, h25, h⟩ := z_b1E h
          refine z_cI hB (z_rV (ι := fun k => k) hB yY_X9_count (c_X9_count _ _ _ h25) rfl cut_X z_hid kX_230 (Nat.le_of_ble_eq_true rfl) vc_9 rfl rfl rfl (Nat.le_of_ble_eq_true rfl) ml_X11_11 ⟨Nat.le_of_ble_eq_true rfl, Nat.le_of_ble_eq_true rfl⟩ dX11_papers_480) cut_X z_hid ?_
          refine z_toA (z_mro cut_X) ?_
          refine z_icmp_ne hB (tgt := 604) dX11_papers_483 (by decide) (fun c27 => ?_) (fun c27 => ?_)
          · have h := z_ifF c27 h
            refine z_iconst hB dX11_papers_604 zcI_0 ?_
            exact hret _ _ _ _ (Option.some.inj h) rfl rfl dX11_papers_605
          · have h := z_ifT c27 h
            refine z_iload hB 7 dX11_papers_486 rfl ?_
            refine z_aload_n hB 0 dX11_papers_488 rfl rfl ?_
            refine z_iconst hB dX11_papers_489 zcI_5 ?_
            obtain ⟨r29, h28, h⟩ := z_b1E h
            refine z_cI hB (z_rV (ι := fun k => k) hB yY_X9_count (c_X9_count _ _ _ h28) rfl cut_X z_hid kX_230 (Nat.le_of_ble_eq_true rfl) vc_9 rfl rfl rfl (Nat.le_of_ble_eq_true rfl) ml_X11_11 ⟨Nat.le_of_ble_eq_true rfl, Nat.le_of_ble_eq_true rfl⟩ dX11_papers_490) cut_X z_hid ?_
            refine z_toA (z_mro cut_X) ?_
            refine z_icmp_ne hB (tgt := 604) dX11_papers_493 (by decide) (fun c30 => ?_) (fun c30 => ?_)
            · have h := z_ifF c30 h
              refine z_iconst hB dX11_papers_604 zcI_0 ?_
              exact hret _ _ _ _ (Option.some.inj h) rfl rfl dX11_papers_605
            · have h := z_ifT c30 h
              refine z_aload_n hB 0 dX11_papers_496 rfl rfl ?_
              refine z_iconst hB dX11_papers_497 zcI_1 ?_
              obtain ⟨r32, h31, h⟩ := z_b1E h
              refine z_cI hB (z_rV (ι := fun k => k) hB yY_X9_account (c_X9_account _ _ _ h31) rfl cut_X z_hid kX_230 (Nat.le_of_ble_eq_true rfl) vc_9 rfl rfl rfl (Nat.le_of_ble_eq_true rfl) ml_X11_17 ⟨Nat.le_of_ble_eq_true rfl, Nat.le_of_ble_eq_true rfl⟩ dX11_papers_498) cut_X z_hid ?_
              refine z_toA (z_mro cut_X) ?_
              refine z_iload_n hB 2 dX11_papers_501 rfl rfl ?_
              refine z_icmp_ne hB (tgt := 604) dX11_papers_502 (by decide) (fun c33 => ?_) (fun c33 => ?_)
              · have h := z_ifF c33 h
                refine z_iconst hB dX11_papers_604 zcI_0 ?_
                exact hret _ _ _ _ (Option.some.inj h) rfl rfl dX11_papers_605
              · have h := z_ifT c33 h
                refine z_aload_n hB 0 dX11_papers_505 rfl rfl ?_
                refine z_iconst hB dX11_papers_506 zcI_2 ?_
                obtain ⟨r35, h34, h⟩ := z_b1E h
                refine z_cI hB (z_rV (ι := fun k => k) hB yY_X9_account (c_X9_account _ _ _ h34) rfl cut_X z_hid kX_230 (Nat.le_of_ble_eq_true rfl) vc_9 rfl rfl rfl (Nat.le_of_ble_eq_true rfl) ml_X11_17 ⟨Nat.le_of_ble_eq_true rfl, Nat.le_of_ble_eq_true rfl⟩ dX11_papers_507) cut_X z_hid ?_
                refine z_toA (z_mro cut_X) ?_
                refine z_iload_n hB 3 dX11_papers_510 rfl rfl ?_
                refine z_icmp_ne hB (tgt := 604) dX11_papers_511 (by decide) (fun c36 => ?_) (fun c36 => ?_)
                · have h := z_ifF c36 h
                  refine z_iconst hB dX11_papers_604 zcI_0 ?_
                  exact hret _ _ _ _ (Option.some.inj h) rfl rfl dX11_papers_605
                · have h := z_ifT c36 h
                  refine z_aload_n hB 0 dX11_papers_514 rfl rfl ?_
                  refine z_iconst hB dX11_papers_515 zcI_3 ?_
                  obtain ⟨r38, h37, h⟩ := z_b1E h
                  refine z_cI hB (z_rV (ι := fun k => k) hB yY_X9_account (c_X9_account _ _ _ h37) rfl cut_X z_hid kX_230 (Nat.le_of_ble_eq_true rfl) vc_9 rfl rfl rfl (Nat.le_of_ble_eq_true rfl) ml_X11_17 ⟨Nat.le_of_ble_eq_true rfl, Nat.le_of_ble_eq_true rfl⟩ dX11_papers_516) cut_X z_hid ?_
                  refine z_toA (z_mro cut_X) ?_
                  refine z_aload_n hB 0 dX11_papers_519 rfl rfl ?_
                  refine z_iconst hB dX11_papers_520 zcI_4 ?_
                  obtain ⟨r40, h39, h⟩ := z_b1E h
                  refine z_cI hB (z_rV (ι := fun k => k) hB yY_X9_account (c_X9_account _ _ _ h39) rfl cut_X z_hid kX_230 (Nat.le_of_ble_eq_true rfl) vc_9 rfl rfl rfl (Nat.le_of_ble_eq_true rfl) ml_X11_17 ⟨Nat.le_of_ble_eq_true rfl, Nat.le_of_ble_eq_true rfl⟩ dX11_papers_521) cut_X z_hid ?_
                  refine z_toA (z_mro cut_X) ?_
                  refine z_iadd hB dX11_papers_524 ?_
                  refine z_iload hB 4 dX11_papers_525 rfl ?_
                  refine z_icmp_ne hB (tgt := 604) dX11_papers_527 (by decide) (fun c41 => ?_) (fun c41 => ?_)
                  · have h := z_ifF c41 h
                    refine z_iconst hB dX11_papers_604 zcI_0 ?_
                    exact hret _ _ _ _ (Option.some.inj h) rfl rfl dX11_papers_605
                  · have h := z_ifT c41 h
                    refine z_aload_n hB 0 dX11_papers_530 rfl rfl ?_
                    refine z_iconst hB dX11_papers_531 zcI_5 ?_
                    obtain ⟨r43, h42, h⟩ := z_b1E h
                    refine z_cI hB (z_rV (ι := fun k => k) hB yY_X9_account (c_X9_account _ _ _ h42) rfl cut_X z_hid kX_230 (Nat.le_of_ble_eq_true rfl) vc_9 rfl rfl rfl (Nat.le_of_ble_eq_true rfl) ml_X11_17 ⟨Nat.le_of_ble_eq_true rfl, Nat.le_of_ble_eq_true rfl⟩ dX11_papers_532) cut_X z_hid ?_
                    refine z_toA (z_mro cut_X) ?_
                    refine z_iload hB 5 dX11_papers_535 rfl ?_
                    refine z_icmp_ne hB (tgt := 604) dX11_papers_537 (by decide) (fun c44 => ?_) (fun c44 => ?_)
                    · have h := z_ifF c44 h
                      refine z_iconst hB dX11_papers_604 zcI_0 ?_
                      exact hret _ _ _ _ (Option.some.inj h) rfl rfl dX11_papers_605
                    · have h := z_ifT c44 h
                      refine z_aload_n hB 0 dX11_papers_540 rfl rfl ?_
                      refine z_iconst hB dX11_papers_541 zcI_0 ?_
                      obtain ⟨r46, h45, h⟩ := z_b1E h
                      refine z_cI hB (z_rV (ι := fun k => k) hB yY_X9_account (c_X9_account _ _ _ h45) rfl cut_X z_hid kX_230 (Nat.le_of_ble_eq_true rfl) vc_9 rfl rfl rfl (Nat.le_of_ble_eq_true rfl) ml_X11_17 ⟨Nat.le_of_ble_eq_true rfl, Nat.le_of_ble_eq_true rfl⟩ dX11_papers_542) cut_X z_hid ?_
                      refine z_toA (z_mro cut_X) ?_
                      refine z_iload_n hB 1 dX11_papers_545 rfl rfl ?_
                      refine z_icmp_ne hB (tgt := 604) dX11_papers_546 (by decide) (fun c47 => ?_) (fun c47 => ?_)
                      · have h := z_ifF c47 h
                        refine z_iconst hB dX11_papers_604 zcI_0 ?_
                        exact hret _ _ _ _ (Option.some.inj h) rfl rfl dX11_papers_605
                      · have h := z_ifT c47 h
                        refine z_iload_n hB 2 dX11_papers_549 rfl rfl ?_
                        refine z_iload_n hB 3 dX11_papers_550 rfl rfl ?_
                        refine z_iadd hB dX11_papers_551 ?_
                        refine z_iload hB 4 dX11_papers_552 rfl ?_
                        refine z_iadd hB dX11_papers_554 ?_
                        refine z_iload hB 5 dX11_papers_555 rfl ?_
                        refine z_iadd hB dX11_papers_557 ?_
                        refine z_iload_n hB 1 dX11_papers_558 rfl rfl ?_
                        refine z_icmp_ne hB (tgt := 604) dX11_papers_559 (by decide) (fun c48 => ?_) (fun c48 => ?_)
                        · have h := z_ifF c48 h
                          refine z_iconst hB dX11_papers_604 zcI_0 ?_
                          exact hret _ _ _ _ (Option.some.inj h) rfl rfl dX11_papers_605
                        · have h := z_ifT c48 h
                          refine z_iload hB 6 dX11_papers_562 rfl ?_
                          refine z_aload_n hB 0 dX11_papers_564 rfl rfl ?_
                          refine z_bipush hB dX11_papers_565 zcB_7 ?_
                          obtain ⟨r50, h49, h⟩ := z_b1E h
                          refine z_cI hB (z_rV (ι := fun k => k) hB yY_X9_count (c_X9_count _ _ _ h49) rfl cut_X z_hid kX_230 (Nat.le_of_ble_eq_true rfl) vc_9 rfl rfl rfl (Nat.le_of_ble_eq_true rfl) ml_X11_11 ⟨Nat.le_of_ble_eq_true rfl, Nat.le_of_ble_eq_true rfl⟩ dX11_papers_567) cut_X z_hid ?_
                          refine z_toA (z_mro cut_X) ?_
                          refine z_icmp_ne hB (tgt := 604) dX11_papers_570 (by decide) (fun c51 => ?_) (fun c51 => ?_)
                          · have h := z_ifF c51 h
                            refine z_iconst hB dX11_papers_604 zcI_0 ?_
                            exact hret _ _ _ _ (Option.some.inj h) rfl rfl dX11_papers_605
                          · have h := z_ifT c51 h
                            refine z_aload_n hB 0 dX11_papers_573 rfl rfl ?_
                            obtain ⟨r53, h52, h⟩ := z_b1E h
                            refine z_cI hB (z_rV (ι := fun k => k) hB yY_X9_meanBits (c_X9_meanBits _ _ h52) rfl cut_X z_hid kX_230 (Nat.le_of_ble_eq_true rfl) vc_9 rfl rfl rfl (Nat.le_of_ble_eq_true rfl) ml_X11_94 ⟨Nat.le_of_ble_eq_true rfl, Nat.le_of_ble_eq_true rfl⟩ dX11_papers_574) cut_X z_hid ?_
                            refine z_toA (z_mro cut_X) ?_
                            refine z_bipush hB dX11_papers_577 zcB_m4 ?_
                            obtain ⟨j55, ej55, h⟩ := z_letE h
                            have hj55 : ∀ (y54 : Int32), j55 y54 = some r → ZW E G A 16 layX 275 ad 587 [(8, .int x8)] [.int y54] σ := by
                              intro y54 h
                              rw [ej55] at h
                              refine z_iload hB 0 dX11_papers_587 rfl ?_
                              obtain ⟨j57, ej57, h⟩ := z_letE h
                              have hj57 : ∀ (y56 : Int32), j57 y56 = some r → ZW E G A 16 layX 275 ad 597 [] [.int y56, .int y54] σ := by
                                intro y56 h
                                rw [ej57] at h
                                refine z_icmp_ne hB (tgt := 604) dX11_papers_597 (by decide) (fun c58 => ?_) (fun c58 => ?_)
                                · have h := z_ifF c58 h
                                  refine z_iconst hB dX11_papers_604 zcI_0 ?_
                                  exact hret _ _ _ _ (Option.some.inj h) rfl rfl dX11_papers_605
                                · have h := z_ifT c58 h
                                  refine z_iconst hB dX11_papers_600 zcI_1 ?_
                                  refine z_goto hB (tgt := 605) dX11_papers_601 (by decide) ?_
                                  exact hret _ _ _ _ (Option.some.inj h) rfl rfl dX11_papers_605
                              refine z_if_ne hB (tgt := 596) dX11_papers_589 (by decide) (fun c59 => ?_) (fun c59 => ?_)
                              · have h := z_ifF c59 h
                                refine z_iconst hB dX11_papers_596 zcI_0 ?_
                                refine z_lv [] rfl ?_
                                exact hj57 _ h
                              · have h := z_ifT c59 h
                                refine z_iconst hB dX11_papers_592 zcI_1 ?_
                                refine z_goto hB (tgt := 597) dX11_papers_593 (by decide) ?_
                                refine z_lv [] rfl ?_
                                exact hj57 _ h
                            refine z_icmp_ne hB (tgt := 586) dX11_papers_579 (by decide) (fun c60 => ?_) (fun c60 => ?_)
                            · have h := z_ifF c60 h
                              refine z_iconst hB dX11_papers_586 zcI_0 ?_
                              refine z_lv [8] rfl ?_
                              exact hj55 _ h
                            · have h := z_ifT c60 h
                              refine z_iconst hB dX11_papers_582 zcI_1 ?_
                              refine z_goto hB (tgt := 587) dX11_papers_583 (by decide) ?_
                              refine z_lv [8] rfl ?_
                              exact hj55 _ h
    · have h := z_ifF c20 h
      refine z_iload hB 9 dX11_papers_412 rfl ?_
      refine z_aload_n hB 0 dX11_papers_414 rfl rfl ?_
      refine z_iload hB 12 dX11_papers_415 rfl ?_
      refine z_bipush hB dX11_papers_417 zcB_7 ?_
      obtain ⟨r62, h61, h⟩ := z_b1E h
      refine z_cI hB (z_rV (ι := fun k => k) hB yY_X9_carrierOf (c_X9_carrierOf _ _ _ _ h61) rfl cut_X z_hid kX_230 (Nat.le_of_ble_eq_true rfl) vc_9 rfl rfl rfl (Nat.le_of_ble_eq_true rfl) ml_X11_33 ⟨Nat.le_of_ble_eq_true rfl, Nat.le_of_ble_eq_true rfl⟩ dX11_papers_419) cut_X z_hid ?_
      refine z_toA (z_mro cut_X) ?_
      refine z_iadd hB dX11_papers_422 ?_
      obtain ⟨x63, ex63, h⟩ := z_letE h
      refine z_istore hB [(9, .int x63), (0, .ref (ad 230)), (1, .int p1), (2, .int x2), (3, .int x3), (4, .int x4), (5, .int x5), (6, .int x6), (7, .int x7), (8, .int x8), (10, .int x15), (11, .int x16), (12, .int x17)] dX11_papers_423 (Nat.le_of_ble_eq_true rfl) ex63 rfl ?_
      refine z_iload hB 10 dX11_papers_425 rfl ?_
      refine z_aload_n hB 1 dX11_papers_427 rfl rfl ?_
      refine z_iload hB 12 dX11_papers_428 rfl ?_
      refine z_bipush hB dX11_papers_430 zcB_6 ?_
      obtain ⟨r65, h64, h⟩ := z_b1E h
      refine z_cI hB (z_rV (ι := fun k => k) hB yY_X9_carrierOf (c_X9_carrierOf _ _ _ _ h64) rfl cut_X z_hid kX_230 (Nat.le_of_ble_eq_true rfl) vc_9 rfl rfl rfl (Nat.le_of_ble_eq_true rfl) ml_X11_33 ⟨Nat.le_of_ble_eq_true rfl, Nat.le_of_ble_eq_true rfl⟩ dX11_papers_432) cut_X z_hid ?_
      refine z_toA (z_mro cut_X) ?_
      refine z_iadd hB dX11_papers_435 ?_
      obtain ⟨x66, ex66, h⟩ := z_letE h
      refine z_istore hB [(10, .int x66), (9, .int x63), (0, .ref (ad 230)), (1, .int p1), (2, .int x2), (3, .int x3), (4, .int x4), (5, .int x5), (6, .int x6), (7, .int x7), (8, .int x8), (11, .int x16), (12, .int x17)] dX11_papers_436 (Nat.le_of_ble_eq_true rfl) ex66 rfl ?_
      refine z_iload hB 11 dX11_papers_438 rfl ?_
      refine z_aload_n hB 2 dX11_papers_440 rfl rfl ?_
      refine z_iload hB 12 dX11_papers_441 rfl ?_
      refine z_iconst hB dX11_papers_443 zcI_3 ?_
      obtain ⟨r68, h67, h⟩ := z_b1E h
      refine z_cI hB (z_rV (ι := fun k => k) hB yY_X9_carrierOf (c_X9_carrierOf _ _ _ _ h67) rfl cut_X z_hid kX_230 (Nat.le_of_ble_eq_true rfl) vc_9 rfl rfl rfl (Nat.le_of_ble_eq_true rfl) ml_X11_33 ⟨Nat.le_of_ble_eq_true rfl, Nat.le_of_ble_eq_true rfl⟩ dX11_papers_444) cut_X z_hid ?_
      refine z_toA (z_mro cut_X) ?_
      refine z_iadd hB dX11_papers_447 ?_
      obtain ⟨x69, ex69, h⟩ := z_letE h
      refine z_istore hB [(11, .int x69), (10, .int x66), (9, .int x63), (0, .ref (ad 230)), (1, .int p1), (2, .int x2), (3, .int x3), (4, .int x4), (5, .int x5), (6, .int x6), (7, .int x7), (8, .int x8), (12, .int x17)] dX11_papers_448 (Nat.le_of_ble_eq_true rfl) ex69 rfl ?_
      obtain ⟨x70, ex70, h⟩ := z_letE h
      refine z_iinc hB 12 [(12, .int x70), (11, .int x69), (10, .int x66), (9, .int x63), (0, .ref (ad 230)), (1, .int p1), (2, .int x2), (3, .int x3), (4, .int x4), (5, .int x5), (6, .int x6), (7, .int x7), (8, .int x8)] dX11_papers_450 rfl (by rw [zcI_1]; exact ex70) (Nat.le_of_ble_eq_true rfl) rfl ?_
      refine z_goto hB (tgt := 402) dX11_papers_453 (by decide) ?_
      refine z_lv [4, 5, 6, 7, 8, 9, 10, 11, 12, 3, 2, 1, 0] rfl ?_
      exact hk_k13 _ _ _ _ h
  · have h := z_ifF c12 h
    refine z_aload_n hB 0 dX11_papers_32 rfl rfl ?_
    refine z_iload hB 9 dX11_papers_33 rfl ?_
    refine z_bipush hB dX11_papers_35 zcB_6 ?_
    obtain ⟨r72, h71, h⟩ := z_b1E h
    refine z_cI hB (z_rV (ι := fun k => k) hB yY_X9_houseOf (c_X9_houseOf _ _ _ _ h71) rfl cut_X z_hid kX_230 (Nat.le_of_ble_eq_true rfl) vc_9 rfl rfl rfl (Nat.le_of_ble_eq_true rfl) ml_X11_24 ⟨Nat.le_of_ble_eq_true rfl, Nat.le_of_ble_eq_true rfl⟩ dX11_papers_37) cut_X z_hid ?_
    refine z_toA (z_mro cut_X) ?_
    refine z_istore hB [(10, .int r72), (0, .ref (ad 230)), (1, .int p1), (2, .int x2), (3, .int x3), (4, .int x4), (5, .int x5), (6, .int x6), (7, .int x7), (8, .int x8), (9, .int x9)] dX11_papers_40 (Nat.le_of_ble_eq_true rfl) rfl rfl ?_
    refine z_iload hB 0 dX11_papers_42 rfl ?_
    refine z_aload_n hB 1 dX11_papers_44 rfl rfl ?_
    refine z_iload hB 10 dX11_papers_45 rfl ?_
    refine z_bipush hB dX11_papers_47 zcB_8 ?_
    obtain ⟨r74, h73, h⟩ := z_b1E h
    refine z_cI hB (z_rV (ι := fun k => k) hB yY_X9_houseOf (c_X9_houseOf _ _ _ _ h73) rfl cut_X z_hid kX_230 (Nat.le_of_ble_eq_true rfl) vc_9 rfl rfl rfl (Nat.le_of_ble_eq_true rfl) ml_X11_24 ⟨Nat.le_of_ble_eq_true rfl, Nat.le_of_ble_eq_true rfl⟩ dX11_papers_49) cut_X z_hid ?_
    refine z_toA (z_mro cut_X) ?_
    refine z_iadd hB dX11_papers_52 ?_
    refine z_aload_n hB 1 dX11_papers_53 rfl rfl ?_
    refine z_iload hB 10 dX11_papers_54 rfl ?_
    refine z_bipush hB dX11_papers_56 zcB_9 ?_
    obtain ⟨r76, h75, h⟩ := z_b1E h
    refine z_cI hB (z_rV (ι := fun k => k) hB yY_X9_houseOf (c_X9_houseOf _ _ _ _ h75) rfl cut_X z_hid kX_230 (Nat.le_of_ble_eq_true rfl) vc_9 rfl rfl rfl (Nat.le_of_ble_eq_true rfl) ml_X11_24 ⟨Nat.le_of_ble_eq_true rfl, Nat.le_of_ble_eq_true rfl⟩ dX11_papers_58) cut_X z_hid ?_
    refine z_toA (z_mro cut_X) ?_
    refine z_iadd hB dX11_papers_61 ?_
    obtain ⟨x77, ex77, h⟩ := z_letE h
    refine z_istore hB [(11, .int x77), (10, .int r72), (0, .ref (ad 230)), (1, .int p1), (2, .int x2), (3, .int x3), (4, .int x4), (5, .int x5), (6, .int x6), (7, .int x7), (8, .int x8), (9, .int x9)] dX11_papers_62 (Nat.le_of_ble_eq_true rfl) ex77 rfl ?_
    refine z_aload_n hB 2 dX11_papers_64 rfl rfl ?_
    refine z_iload hB 11 dX11_papers_65 rfl ?_
    obtain ⟨r79, h78, h⟩ := z_b1E h
    refine z_cI hB (z_rV (ι := fun k => k) hB yY_X9_shareBits (c_X9_shareBits _ _ _ h78) rfl cut_X z_hid kX_230 (Nat.le_of_ble_eq_true rfl) vc_9 rfl rfl rfl (Nat.le_of_ble_eq_true rfl) ml_X11_27 ⟨Nat.le_of_ble_eq_true rfl, Nat.le_of_ble_eq_true rfl⟩ dX11_papers_67) cut_X z_hid ?_
    refine z_toA (z_mro cut_X) ?_
    refine z_istore hB [(12, .int r79), (11, .int x77), (10, .int r72), (0, .ref (ad 230)), (1, .int p1), (2, .int x2), (3, .int x3), (4, .int x4), (5, .int x5), (6, .int x6), (7, .int x7), (8, .int x8), (9, .int x9)] dX11_papers_70 (Nat.le_of_ble_eq_true rfl) rfl rfl ?_
    refine z_aload_n hB 3 dX11_papers_72 rfl rfl ?_
    refine z_iload hB 12 dX11_papers_73 rfl ?_
    refine z_iconst hB dX11_papers_75 zcI_3 ?_
    obtain ⟨r81, h80, h⟩ := z_b1E h
    refine z_cI hB (z_rV (ι := fun k => k) hB yY_X9_houseOf (c_X9_houseOf _ _ _ _ h80) rfl cut_X z_hid kX_230 (Nat.le_of_ble_eq_true rfl) vc_9 rfl rfl rfl (Nat.le_of_ble_eq_true rfl) ml_X11_24 ⟨Nat.le_of_ble_eq_true rfl, Nat.le_of_ble_eq_true rfl⟩ dX11_papers_76) cut_X z_hid ?_
    refine z_toA (z_mro cut_X) ?_
    refine z_istore hB [(13, .int r81), (12, .int r79), (11, .int x77), (10, .int r72), (0, .ref (ad 230)), (1, .int p1), (2, .int x2), (3, .int x3), (4, .int x4), (5, .int x5), (6, .int x6), (7, .int x7), (8, .int x8), (9, .int x9)] dX11_papers_79 (Nat.le_of_ble_eq_true rfl) rfl rfl ?_
    refine z_iload_n hB 6 dX11_papers_81 rfl rfl ?_
    refine z_iload hB 3 dX11_papers_82 rfl ?_
    refine z_iadd hB dX11_papers_84 ?_
    obtain ⟨x82, ex82, h⟩ := z_letE h
    refine z_istore_n hB [(2, .int x82), (13, .int r81), (12, .int r79), (11, .int x77), (10, .int r72), (0, .ref (ad 230)), (1, .int p1), (3, .int x3), (4, .int x4), (5, .int x5), (6, .int x6), (7, .int x7), (8, .int x8), (9, .int x9)] dX11_papers_85 rfl (Nat.le_of_ble_eq_true rfl) ex82 rfl ?_
    refine z_iload_n hB 7 dX11_papers_86 rfl rfl ?_
    refine z_aload_n hB 5 dX11_papers_87 rfl rfl ?_
    refine z_iload hB 13 dX11_papers_88 rfl ?_
    refine z_bipush hB dX11_papers_90 zcB_7 ?_
    obtain ⟨r84, h83, h⟩ := z_b1E h
    refine z_cI hB (z_rV (ι := fun k => k) hB yY_X9_houseOf (c_X9_houseOf _ _ _ _ h83) rfl cut_X z_hid kX_230 (Nat.le_of_ble_eq_true rfl) vc_9 rfl rfl rfl (Nat.le_of_ble_eq_true rfl) ml_X11_24 ⟨Nat.le_of_ble_eq_true rfl, Nat.le_of_ble_eq_true rfl⟩ dX11_papers_92) cut_X z_hid ?_
    refine z_toA (z_mro cut_X) ?_
    refine z_iadd hB dX11_papers_95 ?_
    obtain ⟨x85, ex85, h⟩ := z_letE h
    refine z_istore_n hB [(3, .int x85), (2, .int x82), (13, .int r81), (12, .int r79), (11, .int x77), (10, .int r72), (0, .ref (ad 230)), (1, .int p1), (4, .int x4), (5, .int x5), (6, .int x6), (7, .int x7), (8, .int x8), (9, .int x9)] dX11_papers_96 rfl (Nat.le_of_ble_eq_true rfl) ex85 rfl ?_
    refine z_iload hB 8 dX11_papers_97 rfl ?_
    refine z_aload_n hB 6 dX11_papers_99 rfl rfl ?_
    refine z_iload hB 13 dX11_papers_100 rfl ?_
    refine z_bipush hB dX11_papers_102 zcB_8 ?_
    obtain ⟨r87, h86, h⟩ := z_b1E h
    refine z_cI hB (z_rV (ι := fun k => k) hB yY_X9_houseOf (c_X9_houseOf _ _ _ _ h86) rfl cut_X z_hid kX_230 (Nat.le_of_ble_eq_true rfl) vc_9 rfl rfl rfl (Nat.le_of_ble_eq_true rfl) ml_X11_24 ⟨Nat.le_of_ble_eq_true rfl, Nat.le_of_ble_eq_true rfl⟩ dX11_papers_104) cut_X z_hid ?_
    refine z_toA (z_mro cut_X) ?_
    refine z_iadd hB dX11_papers_107 ?_
    obtain ⟨x88, ex88, h⟩ := z_letE h
    refine z_istore hB [(4, .int x88), (3, .int x85), (2, .int x82), (13, .int r81), (12, .int r79), (11, .int x77), (10, .int r72), (0, .ref (ad 230)), (1, .int p1), (5, .int x5), (6, .int x6), (7, .int x7), (8, .int x8), (9, .int x9)] dX11_papers_108 (Nat.le_of_ble_eq_true rfl) ex88 rfl ?_
    refine z_iload hB 9 dX11_papers_110 rfl ?_
    refine z_aload_n hB 7 dX11_papers_112 rfl rfl ?_
    refine z_iload hB 13 dX11_papers_113 rfl ?_
    refine z_bipush hB dX11_papers_115 zcB_9 ?_
    obtain ⟨r90, h89, h⟩ := z_b1E h
    refine z_cI hB (z_rV (ι := fun k => k) hB yY_X9_houseOf (c_X9_houseOf _ _ _ _ h89) rfl cut_X z_hid kX_230 (Nat.le_of_ble_eq_true rfl) vc_9 rfl rfl rfl (Nat.le_of_ble_eq_true rfl) ml_X11_24 ⟨Nat.le_of_ble_eq_true rfl, Nat.le_of_ble_eq_true rfl⟩ dX11_papers_117) cut_X z_hid ?_
    refine z_toA (z_mro cut_X) ?_
    refine z_iadd hB dX11_papers_120 ?_
    obtain ⟨x91, ex91, h⟩ := z_letE h
    refine z_istore hB [(5, .int x91), (4, .int x88), (3, .int x85), (2, .int x82), (13, .int r81), (12, .int r79), (11, .int x77), (10, .int r72), (0, .ref (ad 230)), (1, .int p1), (6, .int x6), (7, .int x7), (8, .int x8), (9, .int x9)] dX11_papers_121 (Nat.le_of_ble_eq_true rfl) ex91 rfl ?_
    refine z_iload hB 10 dX11_papers_123 rfl ?_
    refine z_aload_n hB 8 dX11_papers_125 rfl rfl ?_
    refine z_iload hB 13 dX11_papers_126 rfl ?_
    refine z_bipush hB dX11_papers_128 zcB_10 ?_
    obtain ⟨r93, h92, h⟩ := z_b1E h
    refine z_cI hB (z_rV (ι := fun k => k) hB yY_X9_houseOf (c_X9_houseOf _ _ _ _ h92) rfl cut_X z_hid kX_230 (Nat.le_of_ble_eq_true rfl) vc_9 rfl rfl rfl (Nat.le_of_ble_eq_true rfl) ml_X11_24 ⟨Nat.le_of_ble_eq_true rfl, Nat.le_of_ble_eq_true rfl⟩ dX11_papers_130) cut_X z_hid ?_
    refine z_toA (z_mro cut_X) ?_
    refine z_iadd hB dX11_papers_133 ?_
    obtain ⟨x94, ex94, h⟩ := z_letE h
    refine z_istore hB [(6, .int x94), (5, .int x91), (4, .int x88), (3, .int x85), (2, .int x82), (13, .int r81), (12, .int r79), (11, .int x77), (10, .int r72), (0, .ref (ad 230)), (1, .int p1), (7, .int x7), (8, .int x8), (9, .int x9)] dX11_papers_134 (Nat.le_of_ble_eq_true rfl) ex94 rfl ?_
    refine z_iload hB 11 dX11_papers_136 rfl ?_
    refine z_iload hB 5 dX11_papers_138 rfl ?_
    refine z_bipush hB dX11_papers_140 zcB_m4 ?_
    obtain ⟨j96, ej96, h⟩ := z_letE h
    have hj96 : ∀ (y95 : Int32), j96 y95 = some r → ZW E G A 16 layX 275 ad 150 [(0, .ref (ad 230)), (1, .int p1), (2, .int x82), (3, .int x85), (4, .int x88), (5, .int x91), (6, .int x94), (8, .int x8), (9, .int x9), (10, .int r72), (11, .int x77), (12, .int r79), (13, .int r81)] [.int y95, .int x7] σ := by
      intro y95 h
      rw [ej96] at h
      refine z_iadd hB dX11_papers_150 ?_
      obtain ⟨x97, ex97, h⟩ := z_letE h
      refine z_istore hB [(7, .int x97), (0, .ref (ad 230)), (1, .int p1), (2, .int x82), (3, .int x85), (4, .int x88), (5, .int x91), (6, .int x94), (8, .int x8), (9, .int x9), (10, .int r72), (11, .int x77), (12, .int r79), (13, .int r81)] dX11_papers_151 (Nat.le_of_ble_eq_true rfl) ex97 rfl ?_
      refine z_iload hB 8 dX11_papers_153 rfl ?_
      refine z_iload hB 11 dX11_papers_155 rfl ?_
      obtain ⟨j99, ej99, h⟩ := z_letE h
      have hj99 : ∀ (y98 : Int32), j99 y98 = some r → ZW E G A 16 layX 275 ad 165 [(0, .ref (ad 230)), (1, .int p1), (2, .int x82), (3, .int x85), (4, .int x88), (5, .int x91), (6, .int x94), (7, .int x97), (9, .int x9), (10, .int r72), (11, .int x77), (12, .int r79), (13, .int r81)] [.int y98, .int x8] σ := by
        intro y98 h
        rw [ej99] at h
        refine z_iadd hB dX11_papers_165 ?_
        obtain ⟨x100, ex100, h⟩ := z_letE h
        refine z_istore hB [(8, .int x100), (0, .ref (ad 230)), (1, .int p1), (2, .int x82), (3, .int x85), (4, .int x88), (5, .int x91), (6, .int x94), (7, .int x97), (9, .int x9), (10, .int r72), (11, .int x77), (12, .int r79), (13, .int r81)] dX11_papers_166 (Nat.le_of_ble_eq_true rfl) ex100 rfl ?_
        refine z_iload hB 11 dX11_papers_168 rfl ?_
        obtain ⟨j102, ej102, h⟩ := z_letE h
        have hj102 : ∀ (y101 : Int32), j102 y101 = some r → ZW E G A 16 layX 275 ad 276 [(0, .ref (ad 230)), (1, .int p1), (2, .int x82), (3, .int x85), (4, .int x88), (5, .int x91), (6, .int x94), (7, .int x97), (8, .int x100), (9, .int x9), (11, .int x77), (13, .int r81)] [.int y101] σ := by
          intro y101 h
          rw [ej102] at h
          refine z_istore hB [(14, .int y101), (0, .ref (ad 230)), (1, .int p1), (2, .int x82), (3, .int x85), (4, .int x88), (5, .int x91), (6, .int x94), (7, .int x97), (8, .int x100), (9, .int x9), (11, .int x77), (13, .int r81)] dX11_papers_276 (Nat.le_of_ble_eq_true rfl) rfl rfl ?_
          refine z_aload_n hB 1 dX11_papers_278 rfl rfl ?_
          refine z_iload hB 10 dX11_papers_279 rfl ?_
          refine z_iconst hB dX11_papers_281 zcI_1 ?_
          obtain ⟨r104, h103, h⟩ := z_b1E h
          refine z_cI hB (z_rV (ι := fun k => k) hB yY_X9_houseOf (c_X9_houseOf _ _ _ _ h103) rfl cut_X z_hid kX_230 (Nat.le_of_ble_eq_true rfl) vc_9 rfl rfl rfl (Nat.le_of_ble_eq_true rfl) ml_X11_24 ⟨Nat.le_of_ble_eq_true rfl, Nat.le_of_ble_eq_true rfl⟩ dX11_papers_282) cut_X z_hid ?_
          refine z_toA (z_mro cut_X) ?_
          refine z_istore hB [(15, .int r104), (14, .int y101), (0, .ref (ad 230)), (1, .int p1), (2, .int x82), (3, .int x85), (4, .int x88), (5, .int x91), (6, .int x94), (7, .int x97), (8, .int x100), (9, .int x9), (11, .int x77), (13, .int r81)] dX11_papers_285 (Nat.le_of_ble_eq_true rfl) rfl rfl ?_
          refine z_iload hB 1 dX11_papers_287 rfl ?_
          refine z_if_eq hB (tgt := 382) dX11_papers_289 (by decide) (fun c105 => ?_) (fun c105 => ?_)
          · have h := z_ifT c105 h
            refine z_iconst hB dX11_papers_382 zcI_0 ?_
            exact hret _ _ _ _ (Option.some.inj h) rfl rfl dX11_papers_383
          · have h := z_ifF c105 h
            refine z_aload_n hB 2 dX11_papers_292 rfl rfl ?_
            refine z_iload hB 11 dX11_papers_293 rfl ?_
            refine z_bipush hB dX11_papers_295 zcB_8 ?_
            obtain ⟨r107, h106, h⟩ := z_b1E h
            refine z_cI hB (z_rV (ι := fun k => k) hB yY_X9_houseOf (c_X9_houseOf _ _ _ _ h106) rfl cut_X z_hid kX_230 (Nat.le_of_ble_eq_true rfl) vc_9 rfl rfl rfl (Nat.le_of_ble_eq_true rfl) ml_X11_24 ⟨Nat.le_of_ble_eq_true rfl, Nat.le_of_ble_eq_true rfl⟩ dX11_papers_297) cut_X z_hid ?_
            refine z_toA (z_mro cut_X) ?_
            refine z_aload_n hB 2 dX11_papers_300 rfl rfl ?_
            refine z_iload hB 11 dX11_papers_301 rfl ?_
            refine z_bipush hB dX11_papers_303 zcB_9 ?_
            obtain ⟨r109, h108, h⟩ := z_b1E h
            refine z_cI hB (z_rV (ι := fun k => k) hB yY_X9_houseOf (c_X9_houseOf _ _ _ _ h108) rfl cut_X z_hid kX_230 (Nat.le_of_ble_eq_true rfl) vc_9 rfl rfl rfl (Nat.le_of_ble_eq_true rfl) ml_X11_24 ⟨Nat.le_of_ble_eq_true rfl, Nat.le_of_ble_eq_true rfl⟩ dX11_papers_305) cut_X z_hid ?_
            refine z_toA (z_mro cut_X) ?_
            refine z_iadd hB dX11_papers_308 ?_
            refine z_iload hB 0 dX11_papers_309 rfl ?_
            refine z_aload_n hB 2 dX11_papers_311 rfl rfl ?_
            refine z_iload hB 11 dX11_papers_312 rfl ?_
            refine z_bipush hB dX11_papers_314 zcB_10 ?_
            obtain ⟨r111, h110, h⟩ := z_b1E h
            refine z_cI hB (z_rV (ι := fun k => k) hB yY_X9_houseOf (c_X9_houseOf _ _ _ _ h110) rfl cut_X z_hid kX_230 (Nat.le_of_ble_eq_true rfl) vc_9 rfl rfl rfl (Nat.le_of_ble_eq_true rfl) ml_X11_24 ⟨Nat.le_of_ble_eq_true rfl, Nat.le_of_ble_eq_true rfl⟩ dX11_papers_316) cut_X z_hid ?_
            refine z_toA (z_mro cut_X) ?_
            refine z_imul hB dX11_papers_319 ?_
            refine z_icmp_ne hB (tgt := 382) dX11_papers_320 (by decide) (fun c112 => ?_) (fun c112 => ?_)
            · have h := z_ifF c112 h
              refine z_iconst hB dX11_papers_382 zcI_0 ?_
              exact hret _ _ _ _ (Option.some.inj h) rfl rfl dX11_papers_383
            · have h := z_ifT c112 h
              refine z_aload_n hB 2 dX11_papers_323 rfl rfl ?_
              refine z_iload hB 11 dX11_papers_324 rfl ?_
              refine z_bipush hB dX11_papers_326 zcB_11 ?_
              obtain ⟨r114, h113, h⟩ := z_b1E h
              refine z_cI hB (z_rV (ι := fun k => k) hB yY_X9_houseOf (c_X9_houseOf _ _ _ _ h113) rfl cut_X z_hid kX_230 (Nat.le_of_ble_eq_true rfl) vc_9 rfl rfl rfl (Nat.le_of_ble_eq_true rfl) ml_X11_24 ⟨Nat.le_of_ble_eq_true rfl, Nat.le_of_ble_eq_true rfl⟩ dX11_papers_328) cut_X z_hid ?_
              refine z_toA (z_mro cut_X) ?_
              refine z_aload_n hB 2 dX11_papers_331 rfl rfl ?_
              refine z_iload hB 11 dX11_papers_332 rfl ?_
              refine z_bipush hB dX11_papers_334 zcB_10 ?_
              obtain ⟨r116, h115, h⟩ := z_b1E h
              refine z_cI hB (z_rV (ι := fun k => k) hB yY_X9_houseOf (c_X9_houseOf _ _ _ _ h115) rfl cut_X z_hid kX_230 (Nat.le_of_ble_eq_true rfl) vc_9 rfl rfl rfl (Nat.le_of_ble_eq_true rfl) ml_X11_24 ⟨Nat.le_of_ble_eq_true rfl, Nat.le_of_ble_eq_true rfl⟩ dX11_papers_336) cut_X z_hid ?_
              refine z_toA (z_mro cut_X) ?_
              refine z_icmp_gt hB (tgt := 382) dX11_papers_339 (by decide) (fun c117 => ?_) (fun c117 => ?_)
              · have h := z_ifT c117 h
                refine z_iconst hB dX11_papers_382 zcI_0 ?_
                exact hret _ _ _ _ (Option.some.inj h) rfl rfl dX11_papers_383
              · have h := z_ifF c117 h
                refine z_iload hB 12 dX11_papers_342 rfl ?_
                refine z_iload hB 0 dX11_papers_344 rfl ?_
                obtain ⟨h118, h⟩ := z_ckE h
                refine z_irem hB dX11_papers_346 h118 ?_
                refine z_if_ne hB (tgt := 382) dX11_papers_347 (by decide) (fun c119 => ?_) (fun c119 => ?_)
                · have h := z_ifF c119 h
                  refine z_iconst hB dX11_papers_382 zcI_0 ?_
                  exact hret _ _ _ _ (Option.some.inj h) rfl rfl dX11_papers_383
                · have h := z_ifT c119 h
                  refine z_iload hB 13 dX11_papers_350 rfl ?_
                  obtain ⟨j120, ej120, h⟩ := z_letE h
                  have hj120 : ∀ (_ : Unit), j120 () = some r → ZW E G A 16 layX 275 ad 384 [(0, .ref (ad 230)), (1, .int p1), (2, .int x82), (3, .int x85), (4, .int x88), (5, .int x91), (6, .int x94), (7, .int x97), (8, .int x100), (9, .int x9)] [] σ := by
                    intro _ h
                    rw [ej120] at h
                    obtain ⟨x121, ex121, h⟩ := z_letE h
                    refine z_iinc hB 9 [(9, .int x121), (0, .ref (ad 230)), (1, .int p1), (2, .int x82), (3, .int x85), (4, .int x88), (5, .int x91), (6, .int x94), (7, .int x97), (8, .int x100)] dX11_papers_384 rfl (by rw [zcI_1]; exact ex121) (Nat.le_of_ble_eq_true rfl) rfl ?_
                    refine z_goto hB (tgt := 22) dX11_papers_387 (by decide) ?_
                    refine z_lv [1, 2, 3, 4, 5, 6, 7, 8, 9, 0] rfl ?_
                    exact hk_k1 _ _ _ _ _ _ _ _ h
                  refine z_if_lt hB (tgt := 384) dX11_papers_352 (by decide) (fun c122 => ?_) (fun c122 => ?_)
                  · have h := z_ifT c122 h
                    refine z_lv [2, 3, 4, 5, 6, 7, 8, 9, 10, 11] rfl ?_
                    exact hj120 () h
                  · have h := z_ifF c122 h
                    refine z_aload_n hB 2 dX11_papers_355 rfl rfl ?_
                    refine z_iload hB 13 dX11_papers_356 rfl ?_
                    refine z_iconst hB dX11_papers_358 zcI_0 ?_
                    obtain ⟨r124, h123, h⟩ := z_b1E h
                    refine z_cI hB (z_rV (ι := fun k => k) hB yY_X9_carrierOf (c_X9_carrierOf _ _ _ _ h123) rfl cut_X z_hid kX_230 (Nat.le_of_ble_eq_true rfl) vc_9 rfl rfl rfl (Nat.le_of_ble_eq_true rfl) ml_X11_33 ⟨Nat.le_of_ble_eq_true rfl, Nat.le_of_ble_eq_true rfl⟩ dX11_papers_359) cut_X z_hid ?_
                    refine z_toA (z_mro cut_X) ?_
                    refine z_iconst hB dX11_papers_362 zcI_1 ?_
                    refine z_icmp_ne hB (tgt := 384) dX11_papers_363 (by decide) (fun c125 => ?_) (fun c125 => ?_)
                    · have h := z_ifF c125 h
                      refine z_lv [2, 3, 4, 5, 6, 7, 8, 9, 10, 11] rfl ?_
                      exact hj120 () h
                    · have h := z_ifT c125 h
                      refine z_aload_n hB 2 dX11_papers_366 rfl rfl ?_
                      refine z_aload_n hB 2 dX11_papers_367 rfl rfl ?_
                      refine z_iload hB 11 dX11_papers_368 rfl ?_
                      refine z_iconst hB dX11_papers_370 zcI_0 ?_
                      obtain ⟨r127, h126, h⟩ := z_b1E h
                      refine z_cI hB (z_rV (ι := fun k => k) hB yY_X9_houseOf (c_X9_houseOf _ _ _ _ h126) rfl cut_X z_hid kX_230 (Nat.le_of_ble_eq_true rfl) vc_9 rfl rfl rfl (Nat.le_of_ble_eq_true rfl) ml_X11_24 ⟨Nat.le_of_ble_eq_true rfl, Nat.le_of_ble_eq_true rfl⟩ dX11_papers_371) cut_X z_hid ?_
                      refine z_toA (z_mro cut_X) ?_
                      refine z_bipush hB dX11_papers_374 zcB_6 ?_
                      obtain ⟨r129, h128, h⟩ := z_b1E h
                      refine z_cI hB (z_rV (ι := fun k => k) hB yY_X9_cornerOf (c_X9_cornerOf _ _ _ _ h128) rfl cut_X z_hid kX_230 (Nat.le_of_ble_eq_true rfl) vc_9 rfl rfl rfl (Nat.le_of_ble_eq_true rfl) ml_X11_20 ⟨Nat.le_of_ble_eq_true rfl, Nat.le_of_ble_eq_true rfl⟩ dX11_papers_376) cut_X z_hid ?_
                      refine z_toA (z_mro cut_X) ?_
                      refine z_if_ne hB (tgt := 384) dX11_papers_379 (by decide) (fun c130 => ?_) (fun c130 => ?_)
                      · have h := z_ifF c130 h
                        refine z_lv [2, 3, 4, 5, 6, 7, 8, 9, 10, 11] rfl ?_
                        exact hj120 () h
                      · have h := z_ifT c130 h
                        refine z_iconst hB dX11_papers_382 zcI_0 ?_
                        exact hret _ _ _ _ (Option.some.inj h) rfl rfl dX11_papers_383
        refine z_if_ne hB (tgt := 188) dX11_papers_170 (by decide) (fun c131 => ?_) (fun c131 => ?_)
        · have h := z_ifF c131 h
          refine z_iload hB 10 dX11_papers_188 rfl ?_
          refine z_if_ne hB (tgt := 206) dX11_papers_190 (by decide) (fun c132 => ?_) (fun c132 => ?_)
          · have h := z_ifF c132 h
            refine z_iload hB 10 dX11_papers_206 rfl ?_
            refine z_iload hB 11 dX11_papers_208 rfl ?_
            refine z_icmp_ne hB (tgt := 228) dX11_papers_210 (by decide) (fun c133 => ?_) (fun c133 => ?_)
            · have h := z_ifF c133 h
              refine z_iconst hB dX11_papers_228 zcI_2 ?_
              refine z_iload hB 10 dX11_papers_229 rfl ?_
              refine z_imul hB dX11_papers_231 ?_
              refine z_iload hB 11 dX11_papers_232 rfl ?_
              refine z_icmp_lt hB (tgt := 259) dX11_papers_234 (by decide) (fun c134 => ?_) (fun c134 => ?_)
              · have h := z_ifT c134 h
                refine z_iload hB 12 dX11_papers_259 rfl ?_
                obtain ⟨j135, ej135, h⟩ := z_letE h
                have hj135 : ∀ (_ : Unit), j135 () = some r → ZW E G A 16 layX 275 ad 275 [(0, .ref (ad 230)), (1, .int p1), (2, .int x82), (3, .int x85), (4, .int x88), (5, .int x91), (6, .int x94), (7, .int x97), (8, .int x100), (9, .int x9), (11, .int x77), (13, .int r81)] [] σ := by
                  intro _ h
                  rw [ej135] at h
                  refine z_iconst hB dX11_papers_275 zcI_0 ?_
                  exact hj102 _ h
                refine z_if_le hB (tgt := 275) dX11_papers_261 (by decide) (fun c136 => ?_) (fun c136 => ?_)
                · have h := z_ifT c136 h
                  refine z_lv [1, 2, 3, 4, 5, 6, 7, 8, 0, 9, 11, 13] rfl ?_
                  exact hj135 () h
                · have h := z_ifF c136 h
                  refine z_iload hB 12 dX11_papers_264 rfl ?_
                  refine z_ldci hB (v := 1056964608) (wsL_c27 _ (List.mem_of_getElem? (i := 16) rfl)) dX11_papers_266 ?_
                  refine z_icmp_ge hB (tgt := 275) dX11_papers_268 (by decide) (fun c137 => ?_) (fun c137 => ?_)
                  · have h := z_ifT c137 h
                    refine z_lv [1, 2, 3, 4, 5, 6, 7, 8, 0, 9, 11, 13] rfl ?_
                    exact hj135 () h
                  · have h := z_ifF c137 h
                    refine z_iconst hB dX11_papers_271 zcI_1 ?_
                    refine z_goto hB (tgt := 276) dX11_papers_272 (by decide) ?_
                    refine z_lv [1, 2, 3, 4, 5, 6, 7, 8, 0, 9, 11, 13] rfl ?_
                    exact hj102 _ h
              · have h := z_ifF c134 h
                refine z_iload hB 12 dX11_papers_237 rfl ?_
                refine z_ldci hB (v := 1056964608) (wsL_c27 _ (List.mem_of_getElem? (i := 16) rfl)) dX11_papers_239 ?_
                obtain ⟨j138, ej138, h⟩ := z_letE h
                have hj138 : ∀ (_ : Unit), j138 () = some r → ZW E G A 16 layX 275 ad 255 [(0, .ref (ad 230)), (1, .int p1), (2, .int x82), (3, .int x85), (4, .int x88), (5, .int x91), (6, .int x94), (7, .int x97), (8, .int x100), (9, .int x9), (11, .int x77), (13, .int r81)] [] σ := by
                  intro _ h
                  rw [ej138] at h
                  refine z_iconst hB dX11_papers_255 zcI_0 ?_
                  refine z_goto hB (tgt := 276) dX11_papers_256 (by decide) ?_
                  exact hj102 _ h
                refine z_icmp_lt hB (tgt := 255) dX11_papers_241 (by decide) (fun c139 => ?_) (fun c139 => ?_)
                · have h := z_ifT c139 h
                  refine z_lv [1, 2, 3, 4, 5, 6, 7, 8, 0, 9, 11, 13] rfl ?_
                  exact hj138 () h
                · have h := z_ifF c139 h
                  refine z_iload hB 12 dX11_papers_244 rfl ?_
                  refine z_ldci hB (v := 1065353216) (wsL_c27 _ (List.mem_of_getElem? (i := 15) rfl)) dX11_papers_246 ?_
                  refine z_icmp_ge hB (tgt := 255) dX11_papers_248 (by decide) (fun c140 => ?_) (fun c140 => ?_)
                  · have h := z_ifT c140 h
                    refine z_lv [1, 2, 3, 4, 5, 6, 7, 8, 0, 9, 11, 13] rfl ?_
                    exact hj138 () h
                  · have h := z_ifF c140 h
                    refine z_iconst hB dX11_papers_251 zcI_1 ?_
                    refine z_goto hB (tgt := 276) dX11_papers_252 (by decide) ?_
                    refine z_lv [1, 2, 3, 4, 5, 6, 7, 8, 0, 9, 11, 13] rfl ?_
                    exact hj102 _ h
            · have h := z_ifT c133 h
              refine z_iload hB 12 dX11_papers_213 rfl ?_
              refine z_ldci hB (v := 1065353216) (wsL_c27 _ (List.mem_of_getElem? (i := 15) rfl)) dX11_papers_215 ?_
              refine z_icmp_ne hB (tgt := 224) dX11_papers_217 (by decide) (fun c141 => ?_) (fun c141 => ?_)
              · have h := z_ifF c141 h
                refine z_iconst hB dX11_papers_224 zcI_0 ?_
                refine z_goto hB (tgt := 276) dX11_papers_225 (by decide) ?_
                refine z_lv [1, 2, 3, 4, 5, 6, 7, 8, 0, 9, 11, 13] rfl ?_
                exact hj102 _ h
              · have h := z_ifT c141 h
                refine z_iconst hB dX11_papers_220 zcI_1 ?_
                refine z_goto hB (tgt := 276) dX11_papers_221 (by decide) ?_
                refine z_lv [1, 2, 3, 4, 5, 6, 7, 8, 0, 9, 11, 13] rfl ?_
                exact hj102 _ h
          · have h := z_ifT c132 h
            refine z_iload hB 12 dX11_papers_193 rfl ?_
            refine z_if_ne hB (tgt := 202) dX11_papers_195 (by decide) (fun c142 => ?_) (fun c142 => ?_)
            · have h := z_ifF c142 h
              refine z_iconst hB dX11_papers_202 zcI_0 ?_
              refine z_goto hB (tgt := 276) dX11_papers_203 (by decide) ?_
              refine z_lv [1, 2, 3, 4, 5, 6, 7, 8, 0, 9, 11, 13] rfl ?_
              exact hj102 _ h
            · have h := z_ifT c142 h
              refine z_iconst hB dX11_papers_198 zcI_1 ?_
              refine z_goto hB (tgt := 276) dX11_papers_199 (by decide) ?_
              refine z_lv [1, 2, 3, 4, 5, 6, 7, 8, 0, 9, 11, 13] rfl ?_
              exact hj102 _ h
        · have h := z_ifT c131 h
          refine z_iload hB 12 dX11_papers_173 rfl ?_
          refine z_bipush hB dX11_papers_175 zcB_m4 ?_
          refine z_icmp_ne hB (tgt := 184) dX11_papers_177 (by decide) (fun c143 => ?_) (fun c143 => ?_)
          · have h := z_ifF c143 h
            refine z_iconst hB dX11_papers_184 zcI_0 ?_
            refine z_goto hB (tgt := 276) dX11_papers_185 (by decide) ?_
            refine z_lv [1, 2, 3, 4, 5, 6, 7, 8, 0, 9, 11, 13] rfl ?_
            exact hj102 _ h
          · have h := z_ifT c143 h
            refine z_iconst hB dX11_papers_180 zcI_1 ?_
            refine z_goto hB (tgt := 276) dX11_papers_181 (by decide) ?_
            refine z_lv [1, 2, 3, 4, 5, 6, 7, 8, 0, 9, 11, 13] rfl ?_
            exact hj102 _ h
      refine z_if_le hB (tgt := 164) dX11_papers_157 (by decide) (fun c144 => ?_) (fun c144 => ?_)
      · have h := z_ifT c144 h
        refine z_iconst hB dX11_papers_164 zcI_0 ?_
        refine z_lv [1, 2, 3, 4, 5, 6, 7, 0, 9, 10, 11, 12, 13] rfl ?_
        exact hj99 _ h
      · have h := z_ifF c144 h
        refine z_iconst hB dX11_papers_160 zcI_1 ?_
        refine z_goto hB (tgt := 165) dX11_papers_161 (by decide) ?_
        refine z_lv [1, 2, 3, 4, 5, 6, 7, 0, 9, 10, 11, 12, 13] rfl ?_
        exact hj99 _ h
    refine z_icmp_ne hB (tgt := 149) dX11_papers_142 (by decide) (fun c145 => ?_) (fun c145 => ?_)
    · have h := z_ifF c145 h
      refine z_iconst hB dX11_papers_149 zcI_0 ?_
      refine z_lv [9, 10, 4, 3, 2, 1, 0, 12, 13, 8, 7, 6, 5] rfl ?_
      exact hj96 _ h
    · have h := z_ifT c145 h
      refine z_iconst hB dX11_papers_145 zcI_1 ?_
      refine z_goto hB (tgt := 150) dX11_papers_146 (by decide) ?_
      refine z_lv [9, 10, 4, 3, 2, 1, 0, 12, 13, 8, 7, 6, 5] rfl ?_
      exact hj96 _ h
