/-! THE LAW's loop (wip/whole/gen/endgen.py) -/
theorem law_le {L i : Nat} (hL : L ≤ 2560) (hi : i ≤ 2560) (h : ¬ (Int32.ofNat L - 5 < nI i)) : i + 5 ≤ L := by
  have e1 : (Int32.ofNat L).toInt = (L : Int) := nI_toInt (n := L) (by omega)
  have e2 : (nI i).toInt = (i : Int) := nI_toInt (by omega)
  have e3 : (Int32.ofNat L - 5).toInt = (L : Int) - 5 := by
    rw [Int32.toInt_sub, e1, show (5 : Int32).toInt = 5 from rfl]
    exact Int.bmod_eq_of_le (by omega) (by omega)
  rw [Int32.lt_iff_toInt_lt, e2, e3] at h
  omega
set_option maxRecDepth 100000 in
set_option maxHeartbeats 4000000 in
theorem law_loop {E : z_En} {G : z_G} {A : Nat → Prop} {ad : Nat → Nat} {b L : Nat} {xs : Nat → Int32} (hB : zB E G A code 4 RL room_1) (hX : zX E A b L xs) (hL : L ≤ 2560) (hend : ∀ (lv : List (Nat × Value)) (σ : z_S), ZW E G A 4 layL 285 ad 953 lv [] σ) :
    ∀ (n i : Nat) (σ : z_S), L < n + i → i ≤ L → RX σ (fun k => σ (k + 275)) → ZW E G A 4 layL 285 ad 18 (lvL i b ad) [] σ := by
  intro n
  induction n with
  | zero => intro i σ h1 h2; omega
  | succ n ih =>
    intro i σ h1 h2 hR
    refine z_iload_n hB 0 dL_law_18 rfl rfl ?_
    refine z_aload_n hB 3 dL_law_19 rfl rfl ?_
    refine z_slen hB hX dL_law_20 ?_
    refine z_iconst hB dL_law_21 zcI_5 ?_
    refine z_isub hB dL_law_22 ?_
    refine z_icmp_gt hB (tgt := 953) dL_law_23 (by decide) (fun _ => hend _ _) (fun c => ?_)
    have hi : i + 5 ≤ L := law_le hL (by omega) c
    refine z_aload_n hB 3 dL_law_26 rfl rfl ?_
    refine z_iload_n hB 0 dL_law_27 rfl rfl ?_
    refine z_sld hB hX (vp_in_nI (by omega) (by omega)) dL_law_28 ?_
    refine z_bipush hB dL_law_29 zcB_31 ?_
    refine z_iand hB dL_law_31 ?_
    generalize xs (nI i).toNatClampNeg &&& 31 = v
    have next : ∀ σ', RX σ' (fun k => σ' (k + 275)) → ZW E G A 4 layL 285 ad 947 (lvL i b ad) [] σ' := by
      intro σ' hR'
      refine z_iinc hB 0 (lvL (i + 5) b ad) (v := nI (i + 5)) dL_law_947 rfl (by rw [show Int32.ofInt 5 = nI 5 from by decide, nI_add]) (Nat.le_of_ble_eq_true rfl) rfl ?_
      refine z_goto hB (tgt := 18) dL_law_950 (by decide) ?_
      exact ih (i + 5) σ' (by omega) (by omega) hR'
    have q0 : v.toInt < 0 ∨ 0 ≤ v.toInt := by omega
    by_cases c0 : v = 0
    · exact z_tableIn hB (tgt := 156) dL_law_32 c0 (by decide) (by decide) rfl (by decide) (lc_0 hB hX hL hi hR next)
    have q1 := z_ts q0 c0 (by decide)
    by_cases c1 : v = 1
    · exact z_tableIn hB (tgt := 209) dL_law_32 c1 (by decide) (by decide) rfl (by decide) (lc_1 hB hX hL hi hR next)
    have q2 := z_ts q1 c1 (by decide)
    by_cases c2 : v = 2
    · exact z_tableIn hB (tgt := 252) dL_law_32 c2 (by decide) (by decide) rfl (by decide) (lc_2 hB hX hL hi hR next)
    have q3 := z_ts q2 c2 (by decide)
    by_cases c3 : v = 3
    · exact z_tableIn hB (tgt := 295) dL_law_32 c3 (by decide) (by decide) rfl (by decide) (lc_3 hB hX hL hi hR next)
    have q4 := z_ts q3 c3 (by decide)
    by_cases c4 : v = 4
    · exact z_tableIn hB (tgt := 338) dL_law_32 c4 (by decide) (by decide) rfl (by decide) (lc_4 hB hX hL hi hR next)
    have q5 := z_ts q4 c4 (by decide)
    by_cases c5 : v = 5
    · exact z_tableIn hB (tgt := 371) dL_law_32 c5 (by decide) (by decide) rfl (by decide) (lc_5 hB hX hL hi hR next)
    have q6 := z_ts q5 c5 (by decide)
    by_cases c6 : v = 6
    · exact z_tableIn hB (tgt := 404) dL_law_32 c6 (by decide) (by decide) rfl (by decide) (lc_6 hB hX hL hi hR next)
    have q7 := z_ts q6 c6 (by decide)
    by_cases c7 : v = 7
    · exact z_tableIn hB (tgt := 427) dL_law_32 c7 (by decide) (by decide) rfl (by decide) (lc_7 hB hX hL hi hR next)
    have q8 := z_ts q7 c7 (by decide)
    by_cases c8 : v = 8
    · exact z_tableIn hB (tgt := 460) dL_law_32 c8 (by decide) (by decide) rfl (by decide) (lc_8 hB hX hL hi hR next)
    have q9 := z_ts q8 c8 (by decide)
    by_cases c9 : v = 9
    · exact z_tableIn hB (tgt := 493) dL_law_32 c9 (by decide) (by decide) rfl (by decide) (lc_9 hB hX hL hi hR next)
    have q10 := z_ts q9 c9 (by decide)
    by_cases c10 : v = 10
    · exact z_tableIn hB (tgt := 516) dL_law_32 c10 (by decide) (by decide) rfl (by decide) (lc_10 hB hX hL hi hR next)
    have q11 := z_ts q10 c10 (by decide)
    by_cases c11 : v = 11
    · exact z_tableIn hB (tgt := 549) dL_law_32 c11 (by decide) (by decide) rfl (by decide) (lc_11 hB hX hL hi hR next)
    have q12 := z_ts q11 c11 (by decide)
    by_cases c12 : v = 12
    · exact z_tableIn hB (tgt := 582) dL_law_32 c12 (by decide) (by decide) rfl (by decide) (lc_12 hB hX hL hi hR next)
    have q13 := z_ts q12 c12 (by decide)
    by_cases c13 : v = 13
    · exact z_tableIn hB (tgt := 605) dL_law_32 c13 (by decide) (by decide) rfl (by decide) (lc_13 hB hX hL hi hR next)
    have q14 := z_ts q13 c13 (by decide)
    by_cases c14 : v = 14
    · exact z_tableIn hB (tgt := 618) dL_law_32 c14 (by decide) (by decide) rfl (by decide) (lc_14 hB hX hL hi hR next)
    have q15 := z_ts q14 c14 (by decide)
    by_cases c15 : v = 15
    · exact z_tableIn hB (tgt := 651) dL_law_32 c15 (by decide) (by decide) rfl (by decide) (lc_15 hB hX hL hi hR next)
    have q16 := z_ts q15 c15 (by decide)
    by_cases c16 : v = 16
    · exact z_tableIn hB (tgt := 684) dL_law_32 c16 (by decide) (by decide) rfl (by decide) (lc_16 hB hX hL hi hR next)
    have q17 := z_ts q16 c16 (by decide)
    by_cases c17 : v = 17
    · exact z_tableIn hB (tgt := 717) dL_law_32 c17 (by decide) (by decide) rfl (by decide) (lc_17 hB hX hL hi hR next)
    have q18 := z_ts q17 c17 (by decide)
    by_cases c18 : v = 18
    · exact z_tableIn hB (tgt := 760) dL_law_32 c18 (by decide) (by decide) rfl (by decide) (lc_18 hB hX hL hi hR next)
    have q19 := z_ts q18 c18 (by decide)
    by_cases c19 : v = 19
    · exact z_tableIn hB (tgt := 793) dL_law_32 c19 (by decide) (by decide) rfl (by decide) (lc_19 hB hX hL hi hR next)
    have q20 := z_ts q19 c19 (by decide)
    by_cases c20 : v = 20
    · exact z_tableIn hB (tgt := 816) dL_law_32 c20 (by decide) (by decide) rfl (by decide) (lc_20 hB hX hL hi hR next)
    have q21 := z_ts q20 c20 (by decide)
    by_cases c21 : v = 21
    · exact z_tableIn hB (tgt := 839) dL_law_32 c21 (by decide) (by decide) rfl (by decide) (lc_21 hB hX hL hi hR next)
    have q22 := z_ts q21 c21 (by decide)
    by_cases c22 : v = 22
    · exact z_tableIn hB (tgt := 862) dL_law_32 c22 (by decide) (by decide) rfl (by decide) (lc_22 hB hX hL hi hR next)
    have q23 := z_ts q22 c22 (by decide)
    by_cases c23 : v = 23
    · exact z_tableIn hB (tgt := 875) dL_law_32 c23 (by decide) (by decide) rfl (by decide) (lc_23 hB hX hL hi hR next)
    have q24 := z_ts q23 c23 (by decide)
    by_cases c24 : v = 24
    · exact z_tableIn hB (tgt := 898) dL_law_32 c24 (by decide) (by decide) rfl (by decide) (lc_24 hB hX hL hi hR next)
    have q25 := z_ts q24 c24 (by decide)
    by_cases c25 : v = 25
    · exact z_tableIn hB (tgt := 911) dL_law_32 c25 (by decide) (by decide) rfl (by decide) (lc_25 hB hX hL hi hR next)
    have q26 := z_ts q25 c25 (by decide)
    by_cases c26 : v = 26
    · exact z_tableIn hB (tgt := 934) dL_law_32 c26 (by decide) (by decide) rfl (by decide) (lc_26 hB hX hL hi hR next)
    have q27 := z_ts q26 c26 (by decide)
    exact z_tableOut hB (tgt := 947) dL_law_32 (z_tsE q27 (by decide)) (by decide) (next σ hR)
/-- the classes, and the classes of the arrays, as the tables have them -/
theorem law_G {s : State} {args : Array Value} (hts0 : ∀ w ∈ lw_tbl, w.before args s = true) : ∃ G : z_G, z_Kp G s := by
  have hts : ∀ w ∈ wsL_law, w.before args s = true := fun w h => hts0 w (wsL_in w h)
  obtain ⟨c0, i0, k0⟩ := u_known (C := RX0) (T := TX0) (N := 8) (n := 8) hts inlX0 (hts (.instantiable RX0 8) (wsL_c3 _ (List.mem_of_getElem? (i := 5) rfl)))
  obtain ⟨c1, i1, k1⟩ := u_known (C := RX1) (T := TX1) (N := 3) (n := 3) hts inlX1 (hts (.instantiable RX1 3) (wsL_c1 _ (List.mem_of_getElem? (i := 17) rfl)))
  obtain ⟨c2, i2, k2⟩ := u_known (C := RX2) (T := TX2) (N := 15) (n := 15) hts inlX2 (hts (.instantiable RX2 15) (wsL_c2 _ (List.mem_of_getElem? (i := 21) rfl)))
  obtain ⟨c3, i3, k3⟩ := u_known (C := RX3) (T := TX3) (N := 4) (n := 4) hts inlX3 (hts (.instantiable RX3 4) (wsL_c3 _ (List.mem_of_getElem? (i := 1) rfl)))
  obtain ⟨c4, i4, k4⟩ := u_known (C := RX4) (T := TX4) (N := 9) (n := 9) hts inlX4 (hts (.instantiable RX4 9) (wsL_c2 _ (List.mem_of_getElem? (i := 17) rfl)))
  obtain ⟨c5, i5, k5⟩ := u_known (C := RX5) (T := TX5) (N := 5) (n := 5) hts inlX5 (hts (.instantiable RX5 5) (wsL_c2 _ (List.mem_of_getElem? (i := 1) rfl)))
  obtain ⟨c6, i6, k6⟩ := u_known (C := RX6) (T := TX6) (N := 8) (n := 8) hts inlX6 (hts (.instantiable RX6 8) (wsL_c1 _ (List.mem_of_getElem? (i := 13) rfl)))
  obtain ⟨c7, i7, k7⟩ := u_known (C := RX7) (T := TX7) (N := 5) (n := 5) hts inlX7 (hts (.instantiable RX7 5) (wsL_c2 _ (List.mem_of_getElem? (i := 5) rfl)))
  obtain ⟨c8, i8, k8⟩ := u_known (C := RX8) (T := TX8) (N := 6) (n := 6) hts inlX8 (hts (.instantiable RX8 6) (wsL_c1 _ (List.mem_of_getElem? (i := 21) rfl)))
  obtain ⟨c9, i9, k9⟩ := u_known (C := RX9) (T := TX9) (N := 5) (n := 5) hts inlX9 (hts (.instantiable RX9 5) (wsL_c1 _ (List.mem_of_getElem? (i := 1) rfl)))
  obtain ⟨c10, i10, k10⟩ := u_known (C := RX10) (T := TX10) (N := 20) (n := 20) hts inlX10 (hts (.instantiable RX10 20) (wsL_c1 _ (List.mem_of_getElem? (i := 4) rfl)))
  obtain ⟨cI, kI, pI, a1, a2, a3⟩ := Cond.arrayClass_spec (hts (.arrayClass .int) (wsL_c2 _ (List.mem_of_getElem? (i := 14) rfl)))
  obtain ⟨cC, kC, pC, b1, b2, b3⟩ := Cond.arrayClass_spec (hts (.arrayClass .char) (wsL_c6 _ (List.mem_of_getElem? (i := 6) rfl)))
  obtain ⟨pT, cT, kT, d1, d2, d3, d4, d5⟩ := Cond.arrayOver_spec (hts0 _ over_in)
  refine ⟨((fun k => match k with | 0 => c0 | 1 => c1 | 2 => c2 | 3 => c3 | 4 => c4 | 5 => c5 | 6 => c6 | 7 => c7 | 8 => c8 | 9 => c9 | _ => c10, fun k => match k with | 0 => i0 | 1 => i1 | 2 => i2 | 3 => i3 | 4 => i4 | 5 => i5 | 6 => i6 | 7 => i7 | 8 => i8 | 9 => i9 | _ => i10), (cI, (cC, cT))), ⟨fun k q hq => ?_, fun k q hq => ?_⟩, fun q hq => va_Nw.of rfl (hts0 _ (nest_in q hq))⟩
  · match k, hq with
    | 0, hq => cases hq; exact k0
    | 1, hq => cases hq; exact k1
    | 2, hq => cases hq; exact k2
    | 3, hq => cases hq; exact k3
    | 4, hq => cases hq; exact k4
    | 5, hq => cases hq; exact k5
    | 6, hq => cases hq; exact k6
    | 7, hq => cases hq; exact k7
    | 8, hq => cases hq; exact k8
    | 9, hq => cases hq; exact k9
    | 10, hq => cases hq; exact k10
    | k + 11, hq => simp [vwCl] at hq
  · match k, hq with
    | 0, hq => cases hq; exact ⟨fun n z => ⟨fun k h => (by cases h), kI, a2, pI, a3⟩, a1⟩
    | 1, hq => cases hq; exact ⟨fun n z => ⟨fun k h => (by cases h), kC, b2, pC, b3⟩, b1⟩
    | 2, hq => cases hq; exact ⟨fun n z => ⟨fun k h => (by cases h), kT, d3, pT, d4⟩, kT, pT, d3, d4, d1, d5⟩
    | k + 3, hq => simp [z_tys] at hq
set_option maxRecDepth 100000 in
theorem hs_L9 : ∀ i, i < 275 → zSh 0 (layA (0 + i)) (layI9 i) = true := by decide +kernel
set_option maxRecDepth 100000 in
theorem hs_L10 : ∀ i, i < 10 → zSh 275 (layA (275 + i)) (layM i) = true := by decide +kernel
theorem sh_L9 : ∀ i, i < 275 → sgL (0 + i) = sgI9 i := by
  intro i hi
  unfold sgL
  rw [if_pos (by omega), Nat.zero_add]
theorem sh_L10 : ∀ i, i < 10 → sgL (275 + i) = sgI10 i := by
  intro i hi
  unfold sgL
  rw [if_neg (by omega), Nat.add_sub_cancel_left]
