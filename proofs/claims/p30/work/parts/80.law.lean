/-! THE LAW: its world, its script (by program) -/
theorem pm_ba : ∀ i, i < 275 → (fun p => if p = 0 then 230 else if p < 39 then p + 191 else if p < 231 then p - 39 else p) (pmX i) = i := by decide +kernel
theorem pm_lt : ∀ i, i < 275 → pmX i < 275 := by decide +kernel
set_option maxRecDepth 100000 in
theorem pm_K : ∀ i, i < 275 → (i == 1 || z_sameK pmX false (layI9 (pmX i)) (layX i)) = true := by decide +kernel
theorem pm_1 : ∀ j, j < 5 → pmX (2 + 38 * j) = 41 + 38 * j := by decide +kernel
def zNle (E : z_En) (k n : Nat) : Prop :=
  match E with
  | (p, l, e, R, s, m, args, below, meth, c, Q, cz, sz) => k ≤ cz ∧ n ≤ sz
theorem zn_zw {E : z_En} {G : z_G} {a0 nL pc k n : Nat} {lv : List (Nat × Value)} {st : List Value} {w : Nat → va_E} (hw : ∀ i, i < 275 → w i = z_E G (fun j => a0 + j) (sgI9 i) (layI9 i)) (kk : ZW E G (fun q : Nat => a0 ≤ q) nL layX 275 (fun i => a0 + pmX i) pc lv st st0) (hle : zNle E k n) : ZN E G nL a0 w 275 k n pc lv st := by
  obtain ⟨p, l, e, R, s, m, args, below, meth, c, Q, cz, sz⟩ := E
  intro H locs ls hz hP hS hl
  refine W.widen hle.1 hle.2 (kk H locs ls (fun i hi => ?_) ⟨fun i j hi hj he => ?_, fun i hi => Nat.le_add_right _ _⟩ hS hl)
  · have h := hP (pmX i) (pm_lt i hi)
    rw [hw _ (pm_lt i hi)] at h
    by_cases h1 : i = 1
    · subst h1
      refine Eq.trans (show H[a0 + pmX 1]? = some (vp_cell G.2.2.2 (5, .inr (.inr (.inr (.inr (fun j => some (a0 + (41 + 38 * j)))))))) from h) ?_
      show some (vp_cell _ _) = some (arrV G.2.2.2 5 (fun j => va_rf (some (a0 + pmX (2 + 38 * j)))))
      rw [vp_cell_q]
      exact congrArg some (arrV_congr (fun j hj => by rw [pm_1 j hj]))
    · have hk := pm_K i hi
      simp only [Bool.or_eq_true, beq_iff_eq] at hk
      rw [z_sameE (fun q => by cases q) (hk.resolve_left h1)] at h
      exact h
  · have e1 : pmX i = pmX j := Nat.add_left_cancel he
    rw [← pm_ba i hi, ← pm_ba j hj, e1]
set_option maxRecDepth 100000 in
theorem hs_L9 : ∀ i, i < 275 → zSh 0 (layI9 (0 + i)) (layI9 i) = true := by decide +kernel
/-- the classes, and the classes of the arrays, as the tables have them -/
theorem law_G {s : State} {args : Array Value} (hts0 : ∀ w ∈ lw_tbl, w.before args s = true) : ∃ G : z_G, z_Kp G s := by
  have hts : ∀ w ∈ wsL_law, w.before args s = true := fun w h => hts0 w (wsL_in w h)
  obtain ⟨c0, i0, k0⟩ := u_known (C := RX0) (T := TX0) (N := 8) (n := 8) hts inlX0 (hts (.instantiable RX0 8) (wsL_c3 _ (List.mem_of_getElem? (i := 2) rfl)))
  obtain ⟨c1, i1, k1⟩ := u_known (C := RX1) (T := TX1) (N := 3) (n := 3) hts inlX1 (hts (.instantiable RX1 3) (wsL_c1 _ (List.mem_of_getElem? (i := 14) rfl)))
  obtain ⟨c2, i2, k2⟩ := u_known (C := RX2) (T := TX2) (N := 15) (n := 15) hts inlX2 (hts (.instantiable RX2 15) (wsL_c2 _ (List.mem_of_getElem? (i := 18) rfl)))
  obtain ⟨c3, i3, k3⟩ := u_known (C := RX3) (T := TX3) (N := 4) (n := 4) hts inlX3 (hts (.instantiable RX3 4) (wsL_c2 _ (List.mem_of_getElem? (i := 22) rfl)))
  obtain ⟨c4, i4, k4⟩ := u_known (C := RX4) (T := TX4) (N := 9) (n := 9) hts inlX4 (hts (.instantiable RX4 9) (wsL_c2 _ (List.mem_of_getElem? (i := 14) rfl)))
  obtain ⟨c5, i5, k5⟩ := u_known (C := RX5) (T := TX5) (N := 5) (n := 5) hts inlX5 (hts (.instantiable RX5 5) (wsL_c1 _ (List.mem_of_getElem? (i := 22) rfl)))
  obtain ⟨c6, i6, k6⟩ := u_known (C := RX6) (T := TX6) (N := 8) (n := 8) hts inlX6 (hts (.instantiable RX6 8) (wsL_c1 _ (List.mem_of_getElem? (i := 10) rfl)))
  obtain ⟨c7, i7, k7⟩ := u_known (C := RX7) (T := TX7) (N := 5) (n := 5) hts inlX7 (hts (.instantiable RX7 5) (wsL_c2 _ (List.mem_of_getElem? (i := 2) rfl)))
  obtain ⟨c8, i8, k8⟩ := u_known (C := RX8) (T := TX8) (N := 6) (n := 6) hts inlX8 (hts (.instantiable RX8 6) (wsL_c1 _ (List.mem_of_getElem? (i := 18) rfl)))
  obtain ⟨c9, i9, k9⟩ := u_known (C := RX9) (T := TX9) (N := 5) (n := 5) hts inlX9 (hts (.instantiable RX9 5) (wsL_c1 _ (List.mem_of_getElem? (i := 1) rfl)))
  obtain ⟨cI, kI, pI, a1, a2, a3⟩ := Cond.arrayClass_spec (hts (.arrayClass .int) (wsL_c2 _ (List.mem_of_getElem? (i := 11) rfl)))
  obtain ⟨cC, kC, pC, b1, b2, b3⟩ := Cond.arrayClass_spec (hts (.arrayClass .char) (wsL_c6 _ (List.mem_of_getElem? (i := 3) rfl)))
  obtain ⟨pT, cT, kT, d1, d2, d3, d4, d5⟩ := Cond.arrayOver_spec (hts0 _ over_in)
  refine ⟨((fun k => match k with | 0 => c0 | 1 => c1 | 2 => c2 | 3 => c3 | 4 => c4 | 5 => c5 | 6 => c6 | 7 => c7 | 8 => c8 | _ => c9, fun k => match k with | 0 => i0 | 1 => i1 | 2 => i2 | 3 => i3 | 4 => i4 | 5 => i5 | 6 => i6 | 7 => i7 | 8 => i8 | _ => i9), (cI, (cC, cT))), ⟨fun k q hq => ?_, fun k q hq => ?_⟩, fun q hq => va_Nw.of rfl (hts0 _ (nest_in q hq))⟩
  · match k, hq with
    | 0, hq => cases hq; exact k0
    | 1, hq => cases hq; exact k1
    | 2, hq => cases hq; exact k2
    | 3, hq => cases hq; exact k3
    | 4, hq => cases hq; exact k4
    | 5, hq => cases hq; exact k5
    | 6, hq => cases hq; exact k6
    | 7, hq => cases hq; exact k7
    | 8, hq => cases hq; exact k8
    | 9, hq => cases hq; exact k9
    | k + 10, hq => simp [vwCl] at hq
  · match k, hq with
    | 0, hq => cases hq; exact ⟨fun n z => ⟨fun k h => (by cases h), kI, a2, pI, a3⟩, a1⟩
    | 1, hq => cases hq; exact ⟨fun n z => ⟨fun k h => (by cases h), kC, b2, pC, b3⟩, b1⟩
    | 2, hq => cases hq; exact ⟨fun n z => ⟨fun k h => (by cases h), kT, d3, pT, d4⟩, kT, pT, d3, d4, d1, d5⟩
    | k + 3, hq => simp [z_tys] at hq
set_option maxRecDepth 100000 in
theorem c_X11_cell {L : Nat} {xs : Nat → Int32} (hL : L ≤ 260) {j : Nat} (hj : j < 2 ^ 30) : ∃ r : Int32, zMetS yX11_cell cX11_cell 2 0 0 L xs (nI j) r := by
  by_cases c : j < L
  · refine ⟨xs j, z_headS (σ := st0) RX11 (by decide) rfl (fun _ => Nat.le_of_ble_eq_true rfl) (fun E G A b hB hX hret => ?_)⟩
    refine z_iload_n hB 1 dX11_cell_0 rfl rfl ?_
    refine z_aload_n hB 0 dX11_cell_1 rfl rfl ?_
    refine z_slen hB hX dX11_cell_2 ?_
    refine z_icmp_ge hB (tgt := 12) dX11_cell_3 (by decide) (fun q => absurd (show nI L ≤ nI j from q) (nI_ge c (by omega))) (fun q => ?_)
    refine z_aload_n hB 0 dX11_cell_6 rfl rfl ?_
    refine z_iload_n hB 1 dX11_cell_7 rfl rfl ?_
    refine z_sld hB hX (vp_in_nI c (by omega)) dX11_cell_8 ?_
    refine z_goto hB (tgt := 18) dX11_cell_9 (by decide) ?_
    exact hret _ _ _ _ (congrArg xs (p_cl (by omega))) dX11_cell_18
  · refine ⟨763049417 * (nI j + 3), z_headS (σ := st0) RX11 (by decide) rfl (fun _ => Nat.le_of_ble_eq_true rfl) (fun E G A b hB hX hret => ?_)⟩
    refine z_iload_n hB 1 dX11_cell_0 rfl rfl ?_
    refine z_aload_n hB 0 dX11_cell_1 rfl rfl ?_
    refine z_slen hB hX dX11_cell_2 ?_
    refine z_icmp_ge hB (tgt := 12) dX11_cell_3 (by decide) (fun q => ?_) (fun q => absurd (show nI L ≤ nI j from nI_le (by omega) (by omega)) q)
    refine z_ldci hB (wsL_c26 _ (List.mem_of_getElem? (i := 19) rfl)) dX11_cell_12 ?_
    refine z_iload_n hB 1 dX11_cell_14 rfl rfl ?_
    refine z_iconst hB dX11_cell_15 zcI_3 ?_
    refine z_iadd hB dX11_cell_16 ?_
    refine z_imul hB dX11_cell_17 ?_
    exact hret _ _ _ _ rfl dX11_cell_18
