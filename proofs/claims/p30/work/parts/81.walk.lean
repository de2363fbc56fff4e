/-! THE LAW's walk (by program) -/
theorem cellK {L : Nat} {xs : Nat → Int32} (hL : L ≤ 260) {k : Int32} {j : Nat} (hk : k = nI j) (hj : j < 2 ^ 30) : ∃ r : Int32, zMetS yX11_cell cX11_cell 2 0 0 L xs k r := hk ▸ c_X11_cell hL hj
theorem z_at_at {E : z_En} {k n k' n' : Nat} : z_at (z_at E k n) k' n' = z_at E k' n' := by
  obtain ⟨p, l, e, R, s, m, args, below, meth, c, Q, cz, sz⟩ := E
  rfl
theorem z_at_cs' {E : z_En} {k n : Nat} : z_cs (z_at E k n) k n := by
  obtain ⟨p, l, e, R, s, m, args, below, meth, c, Q, cz, sz⟩ := E
  exact ⟨rfl, rfl⟩
def HB (n : Nat → Int32) (i H : Nat) : Prop := ∀ h, i ≤ h → h < H → n (90 + 14 * h + 3) = -1
set_option maxRecDepth 100000 in
set_option maxHeartbeats 4000000 in
theorem law_A {E : z_En} {G : z_G} {A : Nat → Prop} {ad : Nat → Nat} {b L : Nat} {xs : Nat → Int32} (hB : zB E G A cX11_law 12 RX11 room_1) (hX : zX E A b L xs) (hL : L ≤ 260) (next : ∀ σ m, IV σ m 1 0 0 1 0 → ZW E G A 12 layX 275 ad 97 [(1, .ref (ad 230)), (0, .ref b)] [] σ) : ZW E G A 12 layX 275 ad 8 [(1, .ref (ad 230)), (0, .ref b)] [] st0 := by
  obtain ⟨x1, x2, x3, x4, x5, x6, m6, h1, h2, h3, h4, h5, h6, h7, h8, h9, h10, h11⟩ := v_start
  refine z_aload_n hB 0 dX11_law_8 rfl rfl ?_
  refine z_cI hB (z_rV (ι := fun k => k) hB yY_X9_undo (c_X9_undo _ _ _ h1) rfl cut_X z_hid kX_230 (Nat.le_of_ble_eq_true rfl) vc_9 rfl rfl rfl (Nat.le_of_ble_eq_true rfl) ml_X11_101 ⟨Nat.le_of_ble_eq_true rfl, Nat.le_of_ble_eq_true rfl⟩ dX11_law_9) cut_X z_hid ?_
  refine z_toA z_mid ?_
  refine z_bipush hB dX11_law_12 zcB_m2 ?_
  refine z_icmp_ne hB (tgt := 95) dX11_law_14 (by decide) (fun q => absurd (rfl) q) (fun _ => ?_)
  refine z_aload_n hB 0 dX11_law_17 rfl rfl ?_
  refine z_iconst hB dX11_law_18 zcI_0 ?_
  refine z_cI hB (z_rV (ι := fun k => k) hB yY_X9_count (c_X9_count _ _ _ h2) rfl cut_X z_hid kX_230 (Nat.le_of_ble_eq_true rfl) vc_9 rfl rfl rfl (Nat.le_of_ble_eq_true rfl) ml_X11_11 ⟨Nat.le_of_ble_eq_true rfl, Nat.le_of_ble_eq_true rfl⟩ dX11_law_19) cut_X z_hid ?_
  refine z_toA (z_mro cut_X) ?_
  refine z_iconst hB dX11_law_22 zcI_1 ?_
  refine z_icmp_ne hB (tgt := 95) dX11_law_23 (by decide) (fun q => absurd (rfl) q) (fun _ => ?_)
  refine z_aload_n hB 0 dX11_law_26 rfl rfl ?_
  refine z_bipush hB dX11_law_27 zcB_20 ?_
  refine z_cI hB (z_rV (ι := fun k => k) hB yY_X9_count (c_X9_count _ _ _ h3) rfl cut_X z_hid kX_230 (Nat.le_of_ble_eq_true rfl) vc_9 rfl rfl rfl (Nat.le_of_ble_eq_true rfl) ml_X11_11 ⟨Nat.le_of_ble_eq_true rfl, Nat.le_of_ble_eq_true rfl⟩ dX11_law_29) cut_X z_hid ?_
  refine z_toA (z_mro cut_X) ?_
  refine z_iconst hB dX11_law_32 zcI_3 ?_
  refine z_icmp_ne hB (tgt := 95) dX11_law_33 (by decide) (fun q => absurd (rfl) q) (fun _ => ?_)
  refine z_aload_n hB 0 dX11_law_36 rfl rfl ?_
  refine z_bipush hB dX11_law_37 zcB_21 ?_
  refine z_cI hB (z_rV (ι := fun k => k) hB yY_X9_count (c_X9_count _ _ _ h4) rfl cut_X z_hid kX_230 (Nat.le_of_ble_eq_true rfl) vc_9 rfl rfl rfl (Nat.le_of_ble_eq_true rfl) ml_X11_11 ⟨Nat.le_of_ble_eq_true rfl, Nat.le_of_ble_eq_true rfl⟩ dX11_law_39) cut_X z_hid ?_
  refine z_toA (z_mro cut_X) ?_
  refine z_bipush hB dX11_law_42 zcB_8 ?_
  refine z_icmp_ne hB (tgt := 95) dX11_law_44 (by decide) (fun q => absurd (rfl) q) (fun _ => ?_)
  refine z_aload_n hB 0 dX11_law_47 rfl rfl ?_
  refine z_cI hB (z_rV (ι := fun k => k) hB yY_X9_play (c_X9_play _ _ _ h5) rfl cut_X z_hid kX_230 (Nat.le_of_ble_eq_true rfl) vc_9 rfl rfl rfl (Nat.le_of_ble_eq_true rfl) ml_X11_105 ⟨Nat.le_of_ble_eq_true rfl, Nat.le_of_ble_eq_true rfl⟩ dX11_law_48) cut_X z_hid ?_
  refine z_toA z_mid ?_
  refine z_if_ne hB (tgt := 95) dX11_law_51 (by decide) (fun q => absurd (rfl) q) (fun _ => ?_)
  refine z_aload_n hB 0 dX11_law_54 rfl rfl ?_
  refine z_cI hB (z_rV (ι := fun k => k) hB yY_X9_undo (c_X9_undo _ _ _ h6) rfl cut_X z_hid kX_230 (Nat.le_of_ble_eq_true rfl) vc_9 rfl rfl rfl (Nat.le_of_ble_eq_true rfl) ml_X11_101 ⟨Nat.le_of_ble_eq_true rfl, Nat.le_of_ble_eq_true rfl⟩ dX11_law_55) cut_X z_hid ?_
  refine z_toA z_mid ?_
  refine z_if_ne hB (tgt := 95) dX11_law_58 (by decide) (fun q => absurd (rfl) q) (fun _ => ?_)
  refine z_aload_n hB 0 dX11_law_61 rfl rfl ?_
  refine z_iconst hB dX11_law_62 zcI_0 ?_
  refine z_cI hB (z_rV (ι := fun k => k) hB yY_X9_fault (c_X9_fault _ _ _ _ h7) rfl cut_X z_hid kX_230 (Nat.le_of_ble_eq_true rfl) vc_9 rfl rfl rfl (Nat.le_of_ble_eq_true rfl) ml_X11_89 ⟨Nat.le_of_ble_eq_true rfl, Nat.le_of_ble_eq_true rfl⟩ dX11_law_63) cut_X z_hid ?_
  refine z_toA z_mid ?_
  refine z_bipush hB dX11_law_66 zcB_m4 ?_
  refine z_icmp_ne hB (tgt := 95) dX11_law_68 (by decide) (fun q => absurd (rfl) q) (fun _ => ?_)
  refine z_aload_n hB 0 dX11_law_71 rfl rfl ?_
  refine z_cI hB (z_rV (ι := fun k => k) hB yY_X9_meanBits (c_X9_meanBits _ _ h8) rfl cut_X z_hid kX_230 (Nat.le_of_ble_eq_true rfl) vc_9 rfl rfl rfl (Nat.le_of_ble_eq_true rfl) ml_X11_94 ⟨Nat.le_of_ble_eq_true rfl, Nat.le_of_ble_eq_true rfl⟩ dX11_law_72) cut_X z_hid ?_
  refine z_toA (z_mro cut_X) ?_
  refine z_bipush hB dX11_law_75 zcB_m4 ?_
  refine z_icmp_ne hB (tgt := 95) dX11_law_77 (by decide) (fun q => absurd (rfl) q) (fun _ => ?_)
  refine z_aload_n hB 0 dX11_law_80 rfl rfl ?_
  refine z_iconst hB dX11_law_81 zcI_1 ?_
  refine z_cI hB (z_rV (ι := fun k => k) hB yY_X9_days (c_X9_days _ _ _ _ h9) rfl cut_X z_hid kX_230 (Nat.le_of_ble_eq_true rfl) vc_9 rfl rfl rfl (Nat.le_of_ble_eq_true rfl) ml_X11_74 ⟨Nat.le_of_ble_eq_true rfl, Nat.le_of_ble_eq_true rfl⟩ dX11_law_82) cut_X z_hid ?_
  refine z_toA z_mid ?_
  refine z_if_ne hB (tgt := 95) dX11_law_85 (by decide) (fun q => absurd (rfl) q) (fun _ => ?_)
  refine z_aload_n hB 0 dX11_law_88 rfl rfl ?_
  refine z_cI hB (z_rS (ι := fun k => k) hB yY_X11_fails (c_X11_fails _ _ _ h10) rfl cut_X z_hid rfl rfl rfl (Nat.le_of_ble_eq_true rfl) ml_X11_108 ⟨Nat.le_of_ble_eq_true rfl, Nat.le_of_ble_eq_true rfl⟩ dX11_law_89) cut_X z_hid ?_
  refine z_toA z_mid ?_
  refine z_if_ne hB (tgt := 97) dX11_law_92 (by decide) (fun _ => ?_) (fun q => absurd q (show ¬ (1 : Int32) = 0 from by decide))
  exact next x6 m6 h11
set_option maxRecDepth 100000 in
set_option maxHeartbeats 4000000 in
theorem law_B1 {E : z_En} {G : z_G} {A : Nat → Prop} {ad : Nat → Nat} {b L : Nat} {xs : Nat → Int32} (hB : zB E G A cX11_law 12 RX11 room_1) (hX : zX E A b L xs) (hL : L ≤ 260) {σ : z_S} (next : ∀ v, 1 ≤ v → v ≤ 7 → ZW E G A 12 layX 275 ad 112 [(3, .int (nI 1)), (2, .int (nI v)), (1, .ref (ad 230)), (0, .ref b)] [] σ) : ZW E G A 12 layX 275 ad 97 [(1, .ref (ad 230)), (0, .ref b)] [] σ := by
  obtain ⟨r, hr⟩ := c_X11_cell (xs := xs) hL (j := 0) (by omega)
  obtain ⟨j, hj, e⟩ := u_up r (N := 7) (by omega) (by omega) σ
  refine z_iconst hB dX11_law_97 zcI_1 ?_
  refine z_aload_n hB 1 dX11_law_98 rfl rfl ?_
  refine z_iconst hB dX11_law_99 zcI_0 ?_
  refine z_callS hB hX yY_X11_cell hr (Nat.le_of_ble_eq_true rfl) ml_X11_112 ⟨Nat.le_of_ble_eq_true rfl, Nat.le_of_ble_eq_true rfl⟩ dX11_law_100 ?_
  refine z_bipush hB dX11_law_103 zcB_7 ?_
  refine z_cI hB (z_rS (ι := fun k => k) hB yY_X11_up (c_X11_up _ _ _ _ (show f_X11_up r 7 σ = some (nI j) from e)) rfl z_cut0 z_hno rfl rfl rfl (Nat.le_of_ble_eq_true rfl) ml_X11_98 ⟨Nat.le_of_ble_eq_true rfl, Nat.le_of_ble_eq_true rfl⟩ dX11_law_105) z_cut0 z_hno ?_
  refine z_toA (z_mro (lay := layX) (lay' := z_lay0) (b := false) z_cut0) ?_
  refine z_iadd hB dX11_law_108 ?_
  refine z_istore_n hB [(2, .int (nI (1 + j))), (1, .ref (ad 230)), (0, .ref b)] dX11_law_109 rfl (Nat.le_of_ble_eq_true rfl) (nI_add 1 j).symm rfl ?_
  refine z_iconst hB dX11_law_110 zcI_1 ?_
  refine z_istore_n hB [(3, .int (nI 1)), (2, .int (nI (1 + j))), (1, .ref (ad 230)), (0, .ref b)] dX11_law_111 rfl (Nat.le_of_ble_eq_true rfl) rfl rfl ?_
  exact next (1 + j) (by omega) (by omega)
set_option maxRecDepth 100000 in
set_option maxHeartbeats 4000000 in
theorem law_C {E : z_En} {G : z_G} {A : Nat → Prop} {ad : Nat → Nat} {b L : Nat} {xs : Nat → Int32} (hB : zB E G A cX11_law 12 RX11 room_1) (hX : zX E A b L xs) (hL : L ≤ 260) {K : Nat} (hK : K ≤ 7) (next : ∀ σ m, IV σ m (K + 1) 0 0 1 0 → ZW E G A 12 layX 275 ad 182 [(3, .int (nI (K + 1))), (2, .int (nI K)), (1, .ref (ad 230)), (0, .ref b)] [] σ) :
    ∀ (n i : Nat) (σ m : z_S), n + i = K + 1 → 1 ≤ i → IV σ m i 0 0 1 0 → ZW E G A 12 layX 275 ad 112 [(3, .int (nI i)), (2, .int (nI K)), (1, .ref (ad 230)), (0, .ref b)] [] σ := by
  intro n
  induction n with
  | zero =>
    intro i σ m hn hi hI
    obtain rfl : i = K + 1 := by omega
    refine z_iload_n hB 0 dX11_law_112 rfl rfl ?_
    refine z_iload_n hB 1 dX11_law_113 rfl rfl ?_
    refine z_icmp_gt hB (tgt := 182) dX11_law_114 (by decide) (fun _ => ?_) (fun q => absurd (Int32.not_le.mp (nI_ge (by omega) (by omega))) q)
    exact next σ m hI
  | succ n ih =>
    intro i σ m hn hi hI
    refine z_iload_n hB 0 dX11_law_112 rfl rfl ?_
    refine z_iload_n hB 1 dX11_law_113 rfl rfl ?_
    refine z_icmp_gt hB (tgt := 182) dX11_law_114 (by decide) (fun q => absurd q (Int32.not_lt.mpr (nI_le (by omega) (by omega)))) (fun _ => ?_)
    obtain ⟨np, ah, pl, X⟩ := hI.X
    obtain ⟨r, hc⟩ := c_X11_cell (xs := xs) hL (j := i) (by omega)
    obtain ⟨f, hf, e1⟩ := u_up r (N := i) (by omega) (by omega) σ
    obtain ⟨jb, hb, e2⟩ := u_up (r >>> ((4 : Int32) &&& 31)) (N := 50) (by omega) (by omega) σ
    obtain ⟨jc, hjc, e3⟩ := u_up (r >>> ((10 : Int32) &&& 31)) (N := 101) (by omega) (by omega) σ
    refine z_aload_n hB 3 dX11_law_117 rfl rfl ?_
    refine z_iload_n hB 0 dX11_law_118 rfl rfl ?_
    refine z_callS hB hX yY_X11_cell hc (Nat.le_of_ble_eq_true rfl) ml_X11_112 ⟨Nat.le_of_ble_eq_true rfl, Nat.le_of_ble_eq_true rfl⟩ dX11_law_119 ?_
    refine z_istore hB [(4, .int r), (3, .int (nI i)), (2, .int (nI K)), (1, .ref (ad 230)), (0, .ref b)] dX11_law_122 (Nat.le_of_ble_eq_true rfl) rfl rfl ?_
    refine z_aload_n hB 3 dX11_law_124 rfl rfl ?_
    refine z_iload hB 0 dX11_law_125 rfl ?_
    refine z_iload_n hB 1 dX11_law_127 rfl rfl ?_
    refine z_cI hB (z_rS (ι := fun k => k) hB yY_X11_up (c_X11_up _ _ _ _ e1) rfl z_cut0 z_hno rfl rfl rfl (Nat.le_of_ble_eq_true rfl) ml_X11_98 ⟨Nat.le_of_ble_eq_true rfl, Nat.le_of_ble_eq_true rfl⟩ dX11_law_128) z_cut0 z_hno ?_
    refine z_toA (z_mro (lay := layX) (lay' := z_lay0) (b := false) z_cut0) ?_
    refine z_iconst hB dX11_law_131 zcI_1 ?_
    refine z_iload hB 0 dX11_law_132 rfl ?_
    refine z_iconst hB dX11_law_134 zcI_4 ?_
    refine z_ishr hB dX11_law_135 ?_
    refine z_bipush hB dX11_law_136 zcB_50 ?_
    refine z_cI hB (z_rS (ι := fun k => k) hB yY_X11_up (c_X11_up _ _ _ _ (show f_X11_up (r >>> ((4 : Int32) &&& 31)) 50 σ = some (nI jb) from e2)) rfl z_cut0 z_hno rfl rfl rfl (Nat.le_of_ble_eq_true rfl) ml_X11_98 ⟨Nat.le_of_ble_eq_true rfl, Nat.le_of_ble_eq_true rfl⟩ dX11_law_138) z_cut0 z_hno ?_
    refine z_toA (z_mro (lay := layX) (lay' := z_lay0) (b := false) z_cut0) ?_
    refine z_iadd hB dX11_law_141 ?_
    refine z_iload hB 0 dX11_law_142 rfl ?_
    refine z_bipush hB dX11_law_144 zcB_10 ?_
    refine z_ishr hB dX11_law_146 ?_
    refine z_bipush hB dX11_law_147 zcB_101 ?_
    refine z_cI hB (z_rS (ι := fun k => k) hB yY_X11_up (c_X11_up _ _ _ _ (show f_X11_up (r >>> ((10 : Int32) &&& 31)) 101 σ = some (nI jc) from e3)) rfl z_cut0 z_hno rfl rfl rfl (Nat.le_of_ble_eq_true rfl) ml_X11_98 ⟨Nat.le_of_ble_eq_true rfl, Nat.le_of_ble_eq_true rfl⟩ dX11_law_149) z_cut0 z_hno ?_
    refine z_toA (z_mro (lay := layX) (lay' := z_lay0) (b := false) z_cut0) ?_
    refine z_iload hB 0 dX11_law_152 rfl ?_
    refine z_bipush hB dX11_law_154 zcB_17 ?_
    refine z_ishr hB dX11_law_156 ?_
    refine z_iconst hB dX11_law_157 zcI_3 ?_
    refine z_iand hB dX11_law_158 ?_
    have go : ∀ v : Int32, (0 ≤ v ∧ v ≤ 1) → ZW E G A 12 layX 275 ad 167 [(4, .int r), (3, .int (nI i)), (2, .int (nI K)), (1, .ref (ad 230)), (0, .ref b)] (.int v :: [.int (nI jc), .int ((1 : Int32) + (nI jb)), .int (nI f), .ref (ad 230)]) σ := by
      intro v hv
      obtain ⟨x', m', hk, hR, -, q0, q1⟩ := k_corner_ok X (f := f) (b := (1 : Int32) + (nI jb)) (c := nI jc) (d := v) hf (by rw [show (1 : Int32) + nI jb = nI (1 + jb) from nI_add 1 jb]; exact ⟨nI_le (a := 1) (by omega) (by omega), nI_le (b := 50) (by omega) (by omega)⟩) ⟨nI_le (a := 0) (by omega) (by omega), nI_le (b := 100) (by omega) (by omega)⟩ hv (by omega)
      refine z_cI hB (z_rV (ι := fun k => k) hB yY_X9_corner (c_X9_corner _ _ _ _ _ _ _ hk) rfl cut_X z_hid kX_230 (Nat.le_of_ble_eq_true rfl) vc_9 rfl rfl rfl (Nat.le_of_ble_eq_true rfl) ml_X11_45 ⟨Nat.le_of_ble_eq_true rfl, Nat.le_of_ble_eq_true rfl⟩ dX11_law_167) cut_X z_hid ?_
      refine z_toA z_mid ?_
      refine z_iload_n hB 1 dX11_law_170 rfl rfl ?_
      refine z_icmp_eq hB (tgt := 176) dX11_law_171 (by decide) (fun _ => ?_) (fun q => absurd (rfl) q)
      refine z_iinc hB 1 [(3, .int (nI (i + 1))), (4, .int r), (2, .int (nI K)), (1, .ref (ad 230)), (0, .ref b)] dX11_law_176 rfl (by rw [zcI_1]; exact (nI_add i 1).symm) (Nat.le_of_ble_eq_true rfl) rfl ?_
      refine z_goto hB (tgt := 112) dX11_law_179 (by decide) ?_
      refine z_lv [0, 2, 3, 4] rfl ?_
      refine ih (i + 1) x' m' (by omega) (by omega) ?_
      obtain ⟨-, J, b0, b1, b2, b3, f0, f1, f2, f4⟩ := hI
      exact ⟨hR, ⟨fun h hh => absurd hh (Nat.not_lt_zero _), fun h hh => absurd hh (Nat.not_lt_zero _), fun h hh => absurd hh (Nat.not_lt_zero _), rfl, rfl, by rw [q1 12 (by omega) (by omega)]; exact J.2.2.2.2.2⟩, by omega, by omega, by omega, by omega, q0, by rw [q1 1 (by omega) (by omega)]; exact f1, by rw [q1 2 (by omega) (by omega)]; exact f2, by rw [q1 4 (by omega) (by omega)]; exact f4⟩
    refine z_if_ne hB (tgt := 166) dX11_law_159 (by decide) (fun _ => ?_) (fun _ => ?_)
    · refine z_iconst hB dX11_law_166 zcI_0 ?_
      exact go 0 (by decide)
    · refine z_iconst hB dX11_law_162 zcI_1 ?_
      refine z_goto hB (tgt := 167) dX11_law_163 (by decide) ?_
      exact go 1 (by decide)
