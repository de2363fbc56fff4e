/-! THE LAW's walk, 3 (by program) -/
set_option maxRecDepth 100000 in
set_option maxHeartbeats 4000000 in
theorem law_T {E : z_En} {G : z_G} {A : Nat → Prop} {ad : Nat → Nat} {b L : Nat} {xs : Nat → Int32} (hB : zB E G A cX11_law 12 RX11 room_1) (hX : zX E A b L xs) (hL : L ≤ 260) {σ m : z_S} {nc nh nk d : Nat} {due : Int32} (hI : IV σ m nc nh nk d due) (hend : ∀ lv σ, ZW E G A 12 layX 275 ad 634 lv [.int 1] σ) : ZW E G A 12 layX 275 ad 586 [(5, .int due), (1, .ref (ad 230)), (0, .ref b)] [] σ := by
  obtain ⟨np, ah, pl, X⟩ := hI.X
  obtain ⟨r, hc⟩ := cellK (xs := xs) hL (k := (40 : Int32)) (j := 40) rfl (by omega)
  obtain ⟨x', m', h4, hR4, -⟩ := v_lightest X r
  obtain ⟨x'', h5, hR5⟩ := v_fails hR4
  refine z_aload_n hB 1 dX11_law_586 rfl rfl ?_
  refine z_cI hB (z_rS (ι := fun k => k) hB yY_X11_streets (c_X11_streets _ _ (v_streets X hI.2.1.2.2.2.2.2)) rfl cut_X z_hid rfl rfl rfl (Nat.le_of_ble_eq_true rfl) ml_X11_127 ⟨Nat.le_of_ble_eq_true rfl, Nat.le_of_ble_eq_true rfl⟩ dX11_law_587) cut_X z_hid ?_
  refine z_toA (z_mro cut_X) ?_
  refine z_if_eq hB (tgt := 633) dX11_law_590 (by decide) (fun q => absurd q (show ¬ (1 : Int32) = 0 from by decide)) (fun _ => ?_)
  refine z_aload_n hB 1 dX11_law_593 rfl rfl ?_
  refine z_iload hB 0 dX11_law_594 rfl ?_
  refine z_cI hB (z_rS (ι := fun k => k) hB yY_X11_papers (c_X11_papers _ _ _ (v_papers hI)) rfl cut_X z_hid rfl rfl rfl (Nat.le_of_ble_eq_true rfl) ml_X11_130 ⟨Nat.le_of_ble_eq_true rfl, Nat.le_of_ble_eq_true rfl⟩ dX11_law_596) cut_X z_hid ?_
  refine z_toA (z_mro cut_X) ?_
  refine z_if_eq hB (tgt := 633) dX11_law_599 (by decide) (fun q => absurd q (show ¬ (1 : Int32) = 0 from by decide)) (fun _ => ?_)
  refine z_aload_n hB 1 dX11_law_602 rfl rfl ?_
  refine z_cI hB (z_rS (ι := fun k => k) hB yY_X11_rounds (c_X11_rounds _ _ (v_rounds X)) rfl cut_X z_hid rfl rfl rfl (Nat.le_of_ble_eq_true rfl) ml_X11_134 ⟨Nat.le_of_ble_eq_true rfl, Nat.le_of_ble_eq_true rfl⟩ dX11_law_603) cut_X z_hid ?_
  refine z_toA (z_mro cut_X) ?_
  refine z_if_eq hB (tgt := 633) dX11_law_606 (by decide) (fun q => absurd q (show ¬ (1 : Int32) = 0 from by decide)) (fun _ => ?_)
  refine z_aload_n hB 1 dX11_law_609 rfl rfl ?_
  refine z_aload_n hB 2 dX11_law_610 rfl rfl ?_
  refine z_bipush hB dX11_law_611 zcB_40 ?_
  refine z_callS hB hX yY_X11_cell hc (Nat.le_of_ble_eq_true rfl) ml_X11_112 ⟨Nat.le_of_ble_eq_true rfl, Nat.le_of_ble_eq_true rfl⟩ dX11_law_613 ?_
  refine z_cI hB (z_rS (ι := fun k => k) hB yY_X11_lightest (c_X11_lightest _ _ _ _ h4) rfl cut_X z_hid rfl rfl rfl (Nat.le_of_ble_eq_true rfl) ml_X11_137 ⟨Nat.le_of_ble_eq_true rfl, Nat.le_of_ble_eq_true rfl⟩ dX11_law_616) cut_X z_hid ?_
  refine z_toA z_mid ?_
  refine z_if_eq hB (tgt := 633) dX11_law_619 (by decide) (fun q => absurd q (show ¬ (1 : Int32) = 0 from by decide)) (fun _ => ?_)
  refine z_aload_n hB 1 dX11_law_622 rfl rfl ?_
  refine z_cI hB (z_rS (ι := fun k => k) hB yY_X11_fails (c_X11_fails _ _ _ h5) rfl cut_X z_hid rfl rfl rfl (Nat.le_of_ble_eq_true rfl) ml_X11_108 ⟨Nat.le_of_ble_eq_true rfl, Nat.le_of_ble_eq_true rfl⟩ dX11_law_623) cut_X z_hid ?_
  refine z_toA z_mid ?_
  refine z_if_eq hB (tgt := 633) dX11_law_626 (by decide) (fun q => absurd q (show ¬ (1 : Int32) = 0 from by decide)) (fun _ => ?_)
  refine z_iconst hB dX11_law_629 zcI_1 ?_
  refine z_goto hB (tgt := 634) dX11_law_630 (by decide) ?_
  exact hend _ _
set_option maxRecDepth 100000 in
set_option maxHeartbeats 4000000 in
theorem law_B5 {E : z_En} {G : z_G} {A : Nat → Prop} {ad : Nat → Nat} {b L : Nat} {xs : Nat → Int32} (hB : zB E G A cX11_law 12 RX11 room_1) (hX : zX E A b L xs) (hL : L ≤ 260) {σ : z_S} {K H C : Nat} (next : ZW E G A 12 layX 275 ad 422 [(6, .int (nI 0)), (5, .int 0), (1, .ref (ad 230)), (0, .ref b)] [] σ) : ZW E G A 12 layX 275 ad 416 [(5, .int (nI H)), (4, .int (nI C)), (3, .int (nI H)), (2, .int (nI K)), (1, .ref (ad 230)), (0, .ref b)] [] σ := by
  refine z_iconst hB dX11_law_416 zcI_0 ?_
  refine z_istore hB [(5, .int 0), (4, .int (nI C)), (3, .int (nI H)), (2, .int (nI K)), (1, .ref (ad 230)), (0, .ref b)] dX11_law_417 (Nat.le_of_ble_eq_true rfl) rfl rfl ?_
  refine z_iconst hB dX11_law_419 zcI_0 ?_
  refine z_istore hB [(6, .int (nI 0)), (5, .int 0), (4, .int (nI C)), (3, .int (nI H)), (2, .int (nI K)), (1, .ref (ad 230)), (0, .ref b)] dX11_law_420 (Nat.le_of_ble_eq_true rfl) rfl rfl ?_
  refine z_lv [0, 1, 5, 6] rfl ?_
  exact next
set_option maxRecDepth 100000 in
set_option maxHeartbeats 4000000 in
theorem law_M {E : z_En} {G : z_G} {A : Nat → Prop} {ad : Nat → Nat} {b L : Nat} {xs : Nat → Int32} (hB : zB E G A cX11_law 12 RX11 room_1) (hX : zX E A b L xs) (hL : L ≤ 260) {nc nk : Nat} (hnc : 1 ≤ nc) (hnk : 1 ≤ nk) (next : ∀ σ m nh d due, IV σ m nc nh nk d due → ZW (z_at E 293 4927) G A 12 layX 275 ad 586 [(5, .int due), (1, .ref (ad 230)), (0, .ref b)] [] σ) :
    ∀ (n i : Nat) (σ m : z_S) (nh d : Nat) (due : Int32), n + i = 18 → d ≤ 1 + i → IV σ m nc nh nk d due → ZW (z_at E (275 + i) (4711 + 12 * i)) G A 12 layX 275 ad 422 [(6, .int (nI i)), (5, .int due), (1, .ref (ad 230)), (0, .ref b)] [] σ := by
  intro n
  induction n with
  | zero =>
    intro i σ m nh d due hn hd hI
    obtain rfl : i = 18 := by omega
    have hB' : zB (z_at E (275 + 18) (4711 + 12 * 18)) G A cX11_law 12 RX11 room_1 := z_atB hB (by show 275 + 18 ≤ 600000; omega) (by show 4711 + 12 * 18 ≤ 7302250; omega)
    refine z_iload hB' 0 dX11_law_422 rfl ?_
    refine z_bipush hB' dX11_law_424 zcB_18 ?_
    refine z_icmp_ge hB' (tgt := 586) dX11_law_426 (by decide) (fun _ => ?_) (fun q => absurd (nI_le (a := 18) (by omega) (by omega)) q)
    refine z_lv [1, 2, 3] rfl ?_
    exact next σ m nh d due hI
  | succ n ih =>
    intro i σ m nh d due hn hd hI
    have hB' : zB (z_at E (275 + i) (4711 + 12 * i)) G A cX11_law 12 RX11 room_1 := z_atB hB (by show 275 + i ≤ 600000; omega) (by show 4711 + 12 * i ≤ 7302250; omega)
    have hX' : zX (z_at E (275 + i) (4711 + 12 * i)) A b L xs := hX.at
    refine z_iload hB' 0 dX11_law_422 rfl ?_
    refine z_bipush hB' dX11_law_424 zcB_18 ?_
    refine z_icmp_ge hB' (tgt := 586) dX11_law_426 (by decide) (fun q => absurd q (show ¬ (18 : Int32) ≤ nI i from nI_ge (b := 18) (by omega) (by omega))) (fun _ => ?_)
    obtain ⟨np, ah, pl, X⟩ := hI.X
    obtain ⟨p, hc⟩ := cellK (xs := xs) hL (k := (22 : Int32) + (nI i)) (j := 22 + i) (nI_add 22 i) (by omega)
    obtain ⟨kp, hkp, h0⟩ := hI.1.kp
    have hcnt : f_X9_count 9 σ = some (nI kp) := (v_count_9 hI.1).trans (congrArg some h0)
    have hmk := v_mark hI.1
    obtain ⟨r, x', ha, hA⟩ := v_act hI hnc hnk p
    refine z_aload_n hB' 3 dX11_law_429 rfl rfl ?_
    refine z_bipush hB' dX11_law_430 zcB_22 ?_
    refine z_iload hB' 0 dX11_law_432 rfl ?_
    refine z_iadd hB' dX11_law_434 ?_
    refine z_callS hB' hX' yY_X11_cell hc (Nat.le_of_ble_eq_true rfl) ml_X11_112 ⟨Nat.le_of_ble_eq_true rfl, Nat.le_of_ble_eq_true rfl⟩ dX11_law_435 ?_
    refine z_istore hB' [(7, .int p), (6, .int (nI i)), (5, .int due), (1, .ref (ad 230)), (0, .ref b)] dX11_law_438 (Nat.le_of_ble_eq_true rfl) rfl rfl ?_
    refine z_aload_n hB' 3 dX11_law_440 rfl rfl ?_
    refine z_bipush hB' dX11_law_441 zcB_9 ?_
    refine z_cI hB' (z_rV (ι := fun k => k) hB' yY_X9_count (c_X9_count _ _ _ hcnt) rfl cut_X z_hid kX_230 (Nat.le_of_ble_eq_true rfl) vc_9 rfl rfl rfl (Nat.le_of_ble_eq_true rfl) ml_X11_11 ⟨Nat.le_of_ble_eq_true rfl, Nat.le_of_ble_eq_true rfl⟩ dX11_law_443) cut_X z_hid ?_
    refine z_toA (z_mro cut_X) ?_
    refine z_istore hB' [(8, .int (nI kp)), (7, .int p), (6, .int (nI i)), (5, .int due), (1, .ref (ad 230)), (0, .ref b)] dX11_law_446 (Nat.le_of_ble_eq_true rfl) rfl rfl ?_
    refine z_aload_n hB' 4 dX11_law_448 rfl rfl ?_
    refine z_cL hB' (z_rS (ι := fun k => k) hB' yY_X11_mark (c_X11_mark _ _ hmk) rfl cut_X z_hid rfl rfl rfl (Nat.le_of_ble_eq_true rfl) ml_X11_39 ⟨Nat.le_of_ble_eq_true rfl, Nat.le_of_ble_eq_true rfl⟩ dX11_law_449) cut_X z_hid ?_
    refine z_toA (z_mro cut_X) ?_
    refine z_lstore hB' [(9, .long (MK (m 1))), (8, .int (nI kp)), (7, .int p), (6, .int (nI i)), (5, .int due), (1, .ref (ad 230)), (0, .ref b)] dX11_law_452 (Nat.le_of_ble_eq_true rfl) rfl rfl ?_
    refine z_aload_n hB' 5 dX11_law_454 rfl rfl ?_
    refine z_iload hB' 2 dX11_law_455 rfl ?_
    refine z_cI hB' (z_rS (ι := fun k => k) hB' yY_X11_act (c_X11_act _ _ _ _ ha) rfl cut_X z_hid rfl rfl rfl (Nat.le_of_ble_eq_true rfl) ml_X11_116 ⟨Nat.le_of_ble_eq_true rfl, Nat.le_of_ble_eq_true rfl⟩ dX11_law_457) cut_X z_hid ?_
    refine z_toA z_mid ?_
    refine z_istore hB' [(11, .int r), (9, .long (MK (m 1))), (8, .int (nI kp)), (7, .int p), (6, .int (nI i)), (5, .int due), (1, .ref (ad 230)), (0, .ref b)] dX11_law_460 (Nat.le_of_ble_eq_true rfl) rfl rfl ?_
    have back : ∀ (lv : List (Nat × Value)) (σ2 m2 : z_S) (nh2 d2 : Nat) (due2 : Int32), nh2 ≤ 24 → d2 ≤ 1 + (i + 1) → IV σ2 m2 nc nh2 nk d2 due2 → lv_pick lv [0, 1, 2, 3] = [(6, .int (nI (i + 1))), (5, .int due2), (1, .ref (ad 230)), (0, .ref b)] → ZW (z_at E (275 + (i + 1)) (4711 + 12 * (i + 1))) G A 12 layX 275 ad 422 lv [] σ2 := by
      intro lv σ2 m2 nh2 d2 due2 g1 g2 g3 g4
      exact z_lv [0, 1, 2, 3] g4 (ih (i + 1) σ2 m2 nh2 d2 due2 (by omega) g2 g3)
    rcases hA with ⟨hr, hx⟩ | ⟨hr, hr9, hR⟩ | ⟨hr, m', nh', hI', hP, hnh⟩
    · subst hx
      have hbu := v_bundle X
      obtain ⟨x2, m2, hg, hI2⟩ := v_goes hI (by omega)
      have hB2 : zB (z_at E (275 + (i + 1)) (4711 + 12 * (i + 1))) G A cX11_law 12 RX11 room_1 := z_atB hB (by show 275 + (i + 1) ≤ 600000; omega) (by show 4711 + 12 * (i + 1) ≤ 7302250; omega)
      refine z_iload hB' 0 dX11_law_462 rfl ?_
      refine z_bipush hB' dX11_law_464 zcB_m9 ?_
      refine z_icmp_ne hB' (tgt := 487) dX11_law_466 (by decide) (fun q => absurd (hr) q) (fun _ => ?_)
      refine z_iload hB' 5 dX11_law_469 rfl ?_
      refine z_aload_n hB' 6 dX11_law_471 rfl rfl ?_
      refine z_cI hB' (z_rS (ι := fun k => k) hB' yY_X11_bundle (c_X11_bundle _ _ hbu) rfl cut_X z_hid rfl rfl rfl (Nat.le_of_ble_eq_true rfl) ml_X11_120 ⟨Nat.le_of_ble_eq_true rfl, Nat.le_of_ble_eq_true rfl⟩ dX11_law_472) cut_X z_hid ?_
      refine z_toA (z_mro cut_X) ?_
      refine z_iadd hB' dX11_law_475 ?_
      refine z_istore hB' [(5, .int (due + (sI (fun h => m 1 (90 + 14 * h + 1)) nh))), (11, .int r), (9, .long (MK (m 1))), (8, .int (nI kp)), (7, .int p), (6, .int (nI i)), (1, .ref (ad 230)), (0, .ref b)] dX11_law_476 (Nat.le_of_ble_eq_true rfl) rfl rfl ?_
      refine z_aload_n hB' 6 dX11_law_478 rfl rfl ?_
      refine z_callN hB' yY_X11_goes (c_X11_goes _ _ _ hg) z_at_cs' rfl rfl ⟨by show 275 + i + 1 ≤ 600000; omega, by show 4711 + 12 * i + 12 ≤ 7302250; omega⟩ rfl rfl (Nat.le_of_ble_eq_true rfl) ml_X11_124 ⟨Nat.le_of_ble_eq_true rfl, Nat.le_of_ble_eq_true rfl⟩ dX11_law_479 ?_
      rw [z_at_at]
      refine z_if_ne hB2 (tgt := 580) dX11_law_482 (by decide) (fun _ => ?_) (fun q => absurd q (show ¬ (1 : Int32) = 0 from by decide))
      refine z_iinc hB2 5 [(6, .int (nI (i + 1))), (5, .int (due + (sI (fun h => m 1 (90 + 14 * h + 1)) nh))), (11, .int r), (9, .long (MK (m 1))), (8, .int (nI kp)), (7, .int p), (1, .ref (ad 230)), (0, .ref b)] dX11_law_580 rfl (by rw [zcI_1]; exact (nI_add i 1).symm) (Nat.le_of_ble_eq_true rfl) rfl ?_
      refine z_goto hB2 (tgt := 422) dX11_law_583 (by decide) ?_
      refine z_lv [0, 1, 6, 7] rfl ?_
      exact back _ x2 m2 nh (d + 1) _ hI2.2.2.2.1 (by omega) hI2 rfl
    · have I2 : IV x' m nc nh nk d due := hI.of hR hI.2.1 rfl rfl rfl rfl
      have hc2 : f_X9_count 9 x' = some (nI kp) := (v_count_9 hR).trans (congrArg some h0)
      have hm2 := v_mark hR
      refine z_iload hB' 0 dX11_law_462 rfl ?_
      refine z_bipush hB' dX11_law_464 zcB_m9 ?_
      refine z_icmp_ne hB' (tgt := 487) dX11_law_466 (by decide) (fun _ => ?_) (fun q => absurd q (show ¬ r = -9 from hr9))
      refine z_iload hB' 0 dX11_law_487 rfl ?_
      refine z_if_ge hB' (tgt := 516) dX11_law_489 (by decide) (fun q => absurd q (Int32.not_le.mpr hr)) (fun _ => ?_)
      refine z_aload_n hB' 6 dX11_law_492 rfl rfl ?_
      refine z_cL hB' (z_rS (ι := fun k => k) hB' yY_X11_mark (c_X11_mark _ _ hm2) rfl cut_X z_hid rfl rfl rfl (Nat.le_of_ble_eq_true rfl) ml_X11_39 ⟨Nat.le_of_ble_eq_true rfl, Nat.le_of_ble_eq_true rfl⟩ dX11_law_493) cut_X z_hid ?_
      refine z_toA (z_mro cut_X) ?_
      refine z_lload hB' 1 dX11_law_496 rfl ?_
      refine z_lcmp hB' dX11_law_498 ?_
      refine z_if_ne hB' (tgt := 578) dX11_law_499 (by decide) (fun q => absurd (lg_self _) q) (fun _ => ?_)
      refine z_aload_n hB' 6 dX11_law_502 rfl rfl ?_
      refine z_bipush hB' dX11_law_503 zcB_9 ?_
      refine z_cI hB' (z_rV (ι := fun k => k) hB' yY_X9_count (c_X9_count _ _ _ hc2) rfl cut_X z_hid kX_230 (Nat.le_of_ble_eq_true rfl) vc_9 rfl rfl rfl (Nat.le_of_ble_eq_true rfl) ml_X11_11 ⟨Nat.le_of_ble_eq_true rfl, Nat.le_of_ble_eq_true rfl⟩ dX11_law_505) cut_X z_hid ?_
      refine z_toA (z_mro cut_X) ?_
      refine z_iload hB' 2 dX11_law_508 rfl ?_
      refine z_icmp_eq hB' (tgt := 580) dX11_law_510 (by decide) (fun _ => ?_) (fun q => absurd (rfl) q)
      refine z_iinc hB' 4 [(6, .int (nI (i + 1))), (11, .int r), (9, .long (MK (m 1))), (8, .int (nI kp)), (7, .int p), (5, .int due), (1, .ref (ad 230)), (0, .ref b)] dX11_law_580 rfl (by rw [zcI_1]; exact (nI_add i 1).symm) (Nat.le_of_ble_eq_true rfl) rfl ?_
      refine z_goto hB' (tgt := 422) dX11_law_583 (by decide) ?_
      refine z_lv [0, 5, 6, 7] rfl ?_
      refine z_wid (k' := 275 + (i + 1)) (n' := 4711 + 12 * (i + 1)) (by omega) (by omega) ?_
      exact back _ x' m nh d due hI.2.2.2.1 (by omega) I2 rfl
    · obtain ⟨ru, x2, m2, u1, u2, u3, u4, u5, u6⟩ := o_undo hI'.1 hP
      have hru := u6 kp h0 hkp
      have hcp : f_X9_count 9 x' = some (if kp < 4 then nI (kp + 1) else nI 4) := by
        rw [v_count_9 hI'.1]
        obtain ⟨kp', g0, gk, gp⟩ := hP
        have gq : kp' = kp := (nI_eq (by omega) (by omega)).mp (g0.symm.trans h0)
        subst gq
        rcases gp with ⟨ga, gb, -⟩ | ⟨ga, gb, -⟩
        · rw [if_pos ga, gb]
        · rw [if_neg (by omega), gb]
      have hr9 : ¬ r = -9 := fun w => hr (by rw [w]; decide)
      refine z_iload hB' 0 dX11_law_462 rfl ?_
      refine z_bipush hB' dX11_law_464 zcB_m9 ?_
      refine z_icmp_ne hB' (tgt := 487) dX11_law_466 (by decide) (fun _ => ?_) (fun q => absurd q (hr9))
      refine z_iload hB' 0 dX11_law_487 rfl ?_
      refine z_if_ge hB' (tgt := 516) dX11_law_489 (by decide) (fun _ => ?_) (fun q => absurd (Int32.not_lt.mp hr) q)
      refine z_aload_n hB' 6 dX11_law_516 rfl rfl ?_
      refine z_bipush hB' dX11_law_517 zcB_9 ?_
      refine z_cI hB' (z_rV (ι := fun k => k) hB' yY_X9_count (c_X9_count _ _ _ hcp) rfl cut_X z_hid kX_230 (Nat.le_of_ble_eq_true rfl) vc_9 rfl rfl rfl (Nat.le_of_ble_eq_true rfl) ml_X11_11 ⟨Nat.le_of_ble_eq_true rfl, Nat.le_of_ble_eq_true rfl⟩ dX11_law_519) cut_X z_hid ?_
      refine z_toA (z_mro cut_X) ?_
      refine z_iload hB' 2 dX11_law_522 rfl ?_
      refine z_iconst hB' dX11_law_524 zcI_4 ?_
      have go : ∀ v : Int32, (if kp < 4 then nI (kp + 1) else nI 4) = v → ZW (z_at E (275 + i) (4711 + 12 * i)) G A 12 layX 275 ad 536 [(11, .int r), (9, .long (MK (m 1))), (8, .int (nI kp)), (7, .int p), (6, .int (nI i)), (5, .int due), (1, .ref (ad 230)), (0, .ref b)] (.int v :: [.int (if kp < 4 then nI (kp + 1) else nI 4)]) x' := by
        intro v hv
        refine z_icmp_ne hB' (tgt := 578) dX11_law_536 (by decide) (fun q => absurd (hv) q) (fun _ => ?_)
        refine z_iload hB' 3 dX11_law_539 rfl ?_
        refine z_bipush hB' dX11_law_541 zcB_22 ?_
        refine z_ishr hB' dX11_law_543 ?_
        refine z_iconst hB' dX11_law_544 zcI_3 ?_
        refine z_iand hB' dX11_law_545 ?_
        refine z_if_ne hB' (tgt := 580) dX11_law_546 (by decide) (fun _ => ?_) (fun _ => ?_)
        · refine z_iinc hB' 4 [(6, .int (nI (i + 1))), (11, .int r), (9, .long (MK (m 1))), (8, .int (nI kp)), (7, .int p), (5, .int due), (1, .ref (ad 230)), (0, .ref b)] dX11_law_580 rfl (by rw [zcI_1]; exact (nI_add i 1).symm) (Nat.le_of_ble_eq_true rfl) rfl ?_
          refine z_goto hB' (tgt := 422) dX11_law_583 (by decide) ?_
          refine z_lv [0, 5, 6, 7] rfl ?_
          refine z_wid (k' := 275 + (i + 1)) (n' := 4711 + 12 * (i + 1)) (by omega) (by omega) ?_
          exact back _ x' m' nh' d due hI'.2.2.2.1 (by omega) hI' rfl
        · have I2 : IV x2 m2 nc nh nk d due := hI.of u2 (by rw [u3]; exact hI.2.1) (by rw [u3]) (by rw [u3]) (by rw [u3]) (by rw [u3])
          have hm2 := v_mark u2
          rw [u3] at hm2
          refine z_aload_n hB' 6 dX11_law_549 rfl rfl ?_
          refine z_cI hB' (z_rV (ι := fun k => k) hB' yY_X9_undo (c_X9_undo _ _ _ u1) rfl cut_X z_hid kX_230 (Nat.le_of_ble_eq_true rfl) vc_9 rfl rfl rfl (Nat.le_of_ble_eq_true rfl) ml_X11_101 ⟨Nat.le_of_ble_eq_true rfl, Nat.le_of_ble_eq_true rfl⟩ dX11_law_550) cut_X z_hid ?_
          refine z_toA z_mid ?_
          refine z_iload hB' 2 dX11_law_553 rfl ?_
          refine z_iconst hB' dX11_law_555 zcI_4 ?_
          have go2 : ∀ v : Int32, nI ru = v → ZW (z_at E (275 + i) (4711 + 12 * i)) G A 12 layX 275 ad 565 [(11, .int r), (9, .long (MK (m 1))), (8, .int (nI kp)), (7, .int p), (6, .int (nI i)), (5, .int due), (1, .ref (ad 230)), (0, .ref b)] (.int v :: [.int (nI ru)]) x2 := by
            intro v hv
            refine z_icmp_ne hB' (tgt := 578) dX11_law_565 (by decide) (fun q => absurd (hv) q) (fun _ => ?_)
            refine z_aload_n hB' 6 dX11_law_568 rfl rfl ?_
            refine z_cL hB' (z_rS (ι := fun k => k) hB' yY_X11_mark (c_X11_mark _ _ hm2) rfl cut_X z_hid rfl rfl rfl (Nat.le_of_ble_eq_true rfl) ml_X11_39 ⟨Nat.le_of_ble_eq_true rfl, Nat.le_of_ble_eq_true rfl⟩ dX11_law_569) cut_X z_hid ?_
            refine z_toA (z_mro cut_X) ?_
            refine z_lload hB' 1 dX11_law_572 rfl ?_
            refine z_lcmp hB' dX11_law_574 ?_
            refine z_if_eq hB' (tgt := 580) dX11_law_575 (by decide) (fun _ => ?_) (fun q => absurd (lg_self _) q)
            refine z_iinc hB' 4 [(6, .int (nI (i + 1))), (11, .int r), (9, .long (MK (m 1))), (8, .int (nI kp)), (7, .int p), (5, .int due), (1, .ref (ad 230)), (0, .ref b)] dX11_law_580 rfl (by rw [zcI_1]; exact (nI_add i 1).symm) (Nat.le_of_ble_eq_true rfl) rfl ?_
            refine z_goto hB' (tgt := 422) dX11_law_583 (by decide) ?_
            refine z_lv [0, 5, 6, 7] rfl ?_
            refine z_wid (k' := 275 + (i + 1)) (n' := 4711 + 12 * (i + 1)) (by omega) (by omega) ?_
            exact back _ x2 m2 nh d due hI.2.2.2.1 (by omega) I2 rfl
          refine z_icmp_ge hB' (tgt := 564) dX11_law_556 (by decide) (fun q4 => ?_) (fun q4 => ?_)
          · refine z_iconst hB' dX11_law_564 zcI_3 ?_
            exact go2 3 (by rw [hru, if_neg (fun w => nI_ge (b := 4) w (by omega) q4)]; rfl)
          · refine z_iload hB' 2 dX11_law_559 rfl ?_
            refine z_goto hB' (tgt := 565) dX11_law_561 (by decide) ?_
            exact go2 (nI kp) (by rw [hru, if_pos (Nat.lt_of_not_le (fun w => q4 (nI_le (a := 4) w (by omega))))])
      refine z_icmp_ge hB' (tgt := 535) dX11_law_525 (by decide) (fun q4 => ?_) (fun q4 => ?_)
      · refine z_iconst hB' dX11_law_535 zcI_4 ?_
        exact go 4 (if_neg (fun w => nI_ge (b := 4) w (by omega) q4))
      · refine z_iload hB' 2 dX11_law_528 rfl ?_
        refine z_iconst hB' dX11_law_530 zcI_1 ?_
        refine z_iadd hB' dX11_law_531 ?_
        refine z_goto hB' (tgt := 536) dX11_law_532 (by decide) ?_
        exact go (nI kp + 1) (by rw [if_pos (Nat.lt_of_not_le (fun w => q4 (nI_le (a := 4) w (by omega)))), q_4p.1])
