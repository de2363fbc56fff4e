/-! THE PURE PART. 31: days, class and model -/
def wT (T : z_S) : Prop := (∀ k, k < 20 → T 39 k = nI 0) ∧ T 38 4 = nI 0
theorem tpP_congr {Y Y' : Nat → Int32} (h : ∀ j, j < 537 → Y' j = Y j) : ∀ i, i ≤ 24 → ∀ j, j < 537 → tpP Y' i j = tpP Y i j
  | 0, _, j, hj => h j hj
  | i + 1, hi, j, hj => by
    have ih := tpP_congr h i (by omega)
    show tpR (tpP Y' i) i j = tpR (tpP Y i) i j
    unfold tpR tpv
    rw [ih (90 + 14 * i + 13) (by omega), ih (90 + 14 * i + 3) (by omega), ih (90 + 14 * i + 12) (by omega), ih (90 + 14 * i + 2) (by omega)]
    by_cases q : tpP Y i (90 + 14 * i + 13) = 1 ∧ ¬ tpP Y i (90 + 14 * i + 3) = -1
    · rw [cif_t q, cif_t q]
      by_cases e : j = 426 + 7 * (tpP Y i (90 + 14 * i + 3)).toNatClampNeg + 5
      · rw [← e, un_i, un_i, ih j hj]
      · rw [un_j e, un_j e, ih j hj]
    · rw [cif_f q, cif_f q, ih j hj]
section SAMED
variable {np nc nh nk dy : Nat} {ah pl : Nat → Nat}
/-- one day -/
theorem day_same {T m : z_S} (g : Nat) (hT : RT T (m 1) nc nh nk np dy ah pl) (hw : wT T) (hd : dy < 1000) :
    ∃ rr T' m', (∀ k7 : Int32 → z_S → Option (Int32 × z_S), z_lp2 (lb_X6_letDaysGo_46 k7 (nI g)) z_Fu (0 : Int32) T = k7 (nI (g + 1)) T') ∧ f_X10_dayGoes m = some (rr, m') ∧ RT T' (m' 1) nc nh nk np (dy + 1) ah pl ∧ wT T' ∧ rSum (m' 1) nh 6 = rSum (m 1) nh 6 + rr ∧ frM m m' := by
  obtain ⟨T', Yq, h1, h2, h3, h4⟩ := x_day g hT hw hd
  obtain ⟨rr, m', Yq', M0, k1, k2, k3, k4, k5, k6, k7⟩ := m_day hT rfl
  have hC := hT.1
  have hH := hT.2.1
  have h24 := hH.1.2.1
  have hpl : ∀ h, h < nh → pl h < nc := fun h hh => (hH.1.2.2 h hh).2
  have eq : ∀ j, j < 537 → Yq j = Yq' j := PR.uniq k2 h2 (fun k hk => tR_lt hC.1.2.1 hC.1.2.2.2.1 hpl hk) (fun h hh => tR_sur hC.1.2.1 hC.1.2.2.2.1 hpl hh) h24
  refine ⟨rr, T', m', h1, k1, ?_, h4, k5, k6 2 (by omega) (by omega) (by omega) (by omega) (by omega), k6 3 (by omega) (by omega) (by omega) (by omega) (by omega), k6 5 (by omega) (by omega) (by omega) (by omega) (by omega), k7 2 (by omega) (by omega) (by omega) (by omega), k7 6 (by omega) (by omega) (by omega) (by omega), k6 4 (by omega) (by omega) (by omega) (by omega) (by omega), fun j hj => k7 j (by omega) (by omega) (by omega) (by omega)⟩
  have hr := h3 (fun j => if j < 537 then M0 j else tpP Yq nh j) ⟨fun sun => ?_, fun sun j hj => (show (if j < 537 then M0 j else tpP Yq nh j) = Yq j from by rw [if_pos hj, k3.2 sun j hj, eq j hj])⟩
  · refine hr.nn (fun j hj => ?_)
    rw [k4]
    by_cases e : j = 4
    · rw [e, un_i, un_i]
    · rw [un_j e, un_j e, if_pos hj]
  · obtain ⟨a, b⟩ := k3.1 sun
    refine ⟨fun h hh => ?_, fun j hj => ?_⟩
    · show (if 90 + 14 * h + 12 < 537 then M0 (90 + 14 * h + 12) else _) = 0 ∧ (if 90 + 14 * h + 13 < 537 then M0 (90 + 14 * h + 13) else _) = 0
      rw [if_pos (by omega), if_pos (by omega)]
      exact a h hh
    · show (if j < 537 then M0 j else _) = _
      by_cases q : j < 537
      · rw [if_pos q, b j hj]
        exact (tpP_congr eq nh h24 j q).symm
      · rw [if_neg q]
theorem same_days (a : Int32) {T m : z_S} (hT : RTx T (m 1)) (hw : wT T) : ∃ r T' m', f_X6_letDaysGo a T = some (r, T') ∧ f_X10_daysGo a m = some (r, m') ∧ RTx T' (m' 1) ∧ wT T' ∧ frM m m' := by
  obtain ⟨nc, nh, nk, np, dy, ah, pl, hT⟩ := hT
  have hT0 := hT
  have hS := hT.2.2.2.2.2.1
  have hA := hT.2.2.2.2.2.2.1
  unfold f_X6_letDaysGo f_X10_daysGo
  rw [w_tb, m_tb, p_b1, p_b1]
  by_cases ha : 1 ≤ a ∧ a ≤ 31
  · obtain ⟨D, hD, rfl⟩ : ∃ D, D < 2 ^ 31 ∧ a = nI D := nI_of (x := a) (Int32.not_lt.mpr (Int32.le_trans (by decide) ha.1))
    have hD31 : D ≤ 31 := (nI_leI hD (by omega)).mp ha.2
    rw [p_tbT ha, p_tbT ha, k_4, c_4, hS.1.2.2, hS.1.1, nI_add]
    have hdy := hS.1.2.1
    by_cases hb : dy + D ≤ 1000
    · rw [if_pos (show nI (dy + D) ≤ 1000 from nI_le (b := 1000) hb (by omega)), if_pos (show nI (dy + D) ≤ 1000 from nI_le (b := 1000) hb (by omega)), show z_cki (1 : Int32) 6 _ = _ from p_cki (j := 1) (n := 6) (by omega) (by omega), c_1, p_let, hA.2.1]
      have key : ∀ (k g : Nat) (T m : z_S) (acc : Int32) (f f' : Nat), k + g = D → k < f → k < f' → RT T (m 1) nc nh nk np (dy + g) ah pl → wT T → ∀ b : Int32, rSum (m 1) nh 6 = b + acc →
          ∃ r T' m', z_lp2 (lb_X6_letDaysGo_37 (nI D) b) f (nI g) T = some (r, T') ∧ z_lp3 (lb_X10_daysGo_33 (nI D)) f' acc (nI g) m = some (r, m') ∧ RTx T' (m' 1) ∧ wT T' ∧ frM m m' := by
        intro k
        induction k with
        | zero =>
          intro g T m acc f f' hk hf hf' hT hw b hs
          obtain ⟨f, rfl⟩ : ∃ q, f = q + 1 := ⟨f - 1, by omega⟩
          obtain ⟨f', rfl⟩ : ∃ q, f' = q + 1 := ⟨f' - 1, by omega⟩
          refine ⟨acc, T, m, ?_, ?_, ⟨nc, nh, nk, np, _, ah, pl, hT⟩, hw, frM.rf⟩
          · show lb_X6_letDaysGo_37 (nI D) b _ (nI g) T = _
            unfold lb_X6_letDaysGo_37
            rw [if_pos (nI_le (by omega) (by omega)), show z_cki (1 : Int32) 6 _ = _ from p_cki (j := 1) (n := 6) (by omega) (by omega), c_1, hT.2.2.2.2.2.2.1.2.1, hs, Int32.add_comm, Int32.add_sub_cancel]
          · show lb_X10_daysGo_33 (nI D) _ acc (nI g) m = _
            unfold lb_X10_daysGo_33
            rw [if_pos (nI_le (by omega) (by omega))]
        | succ k ih =>
          intro g T m acc f f' hk hf hf' hT hw b hs
          obtain ⟨f, rfl⟩ : ∃ q, f = q + 1 := ⟨f - 1, by omega⟩
          obtain ⟨f', rfl⟩ : ∃ q, f' = q + 1 := ⟨f' - 1, by omega⟩
          obtain ⟨rr, T', m', d1, d2, d3, d4, d5, d6⟩ := day_same g hT hw (by omega)
          obtain ⟨r, T2, m2, e1, e2, e3, e4, e5⟩ := ih (g + 1) T' m' (acc + rr) f f' (by omega) (by omega) (by omega) d3 d4 b (by rw [d5, hs, Int32.add_assoc])
          refine ⟨r, T2, m2, ?_, ?_, e3, e4, d6.trans e5⟩
          · show lb_X6_letDaysGo_37 (nI D) b _ (nI g) T = _
            unfold lb_X6_letDaysGo_37
            rw [if_neg (nI_ge (by omega) (by omega)), d1]
            exact e1
          · show lb_X10_daysGo_33 (nI D) (z_lp3 (lb_X10_daysGo_33 (nI D)) f') acc (nI g) m = _
            unfold lb_X10_daysGo_33
            rw [if_neg (nI_ge (by omega) (by omega)), d2, p_b2, p_let, p_let, zl_1, nI_add]
            exact e2
      exact key D 0 T m 0 z_Fu z_Fu (by omega) (by show D < 4096; omega) (by show D < 4096; omega) hT0 hw _ (Int32.add_zero _).symm
    · rw [if_neg (show ¬ nI (dy + D) ≤ 1000 from nI_ge (a := 1000) (by omega) (by omega)), if_neg (show ¬ nI (dy + D) ≤ 1000 from nI_ge (a := 1000) (by omega) (by omega))]
      exact ⟨-3, T, m, rfl, rfl, ⟨nc, nh, nk, np, dy, ah, pl, hT0⟩, hw, frM.rf⟩
  · rw [p_tbF ha, p_tbF ha]
    exact ⟨-1, T, m, rfl, rfl, ⟨nc, nh, nk, np, dy, ah, pl, hT0⟩, hw, frM.rf⟩
end SAMED
theorem TW_eq {x : z_S} {q : Nat} (h : q < 38) : x (zi_X_TW q) = x (zi_X_T q) := by
  show x (if q < 38 then q + 192 else q + 193) = x (q + 192)
  rw [if_pos h]
/-- a change that walks: as op_RX, over town and walk -/
theorem opw_RX {x m : z_S} (hR : RX x m) {g : z_S → Option (Int32 × z_S)} {r : Int32} {T' : z_S} (hg : g (fun k => x (zi_X_TW k)) = some (r, T')) {m'' : z_S} (hT : RTx T' (m'' 1)) (hw' : wT T') (h06 : m'' 0 6 = m 0 6) (h5 : m'' 5 = m 5)
    (hneg : r < 0 → m'' 2 = m 2 ∧ m'' 0 2 = m 0 2) (hpos : ¬ r < 0 → ∃ m' : z_S, m' 2 = m 2 ∧ ∀ kp, m 0 2 = nI kp → kp ≤ 4 → mPu m' m'' kp (m 1)) :
    ∃ x', (z_b1 (f_X1_prepare (fun k => x (zi_X_H k))) fun s2 => z_let (z_m x (zk_X_H) 230 s2) fun s3 => z_b2 (g (fun k => s3 (zi_X_TW k))) fun r' s5 => z_let (z_m s3 (zk_X_TW) 40 s5) fun s7 => z_b2 (f_X9_settled r' s7) fun a b => some (a, b)) = some (r, x') ∧ RX x' m'' := by
  obtain ⟨⟨nc, nh, nk, np, dy, ah, pl, hT0⟩, ⟨kp, o, hh⟩, hw, L, ht⟩ := hR
  obtain ⟨s2, f1, h1, he⟩ := x_prepare hT0 hh.1 hh.2.1 hh.2.2.1 hh.2.2.2.1
  obtain ⟨x1, ex1⟩ : ∃ s, s = z_m x (zk_X_H) 230 s2 := ⟨_, rfl⟩
  rw [f1, p_b1, p_let]
  rw [← ex1] at h1 he ⊢
  have hr5 : (o + kp) % 5 < 5 := Nat.mod_lt _ (by omega)
  have hx1o : ∀ a, 192 ≤ a → x1 a = x a := fun a ha => h1 a (by omega)
  have hv : (fun k => x1 (zi_X_TW k)) = fun k => x (zi_X_TW k) := by
    funext k
    refine hx1o _ ?_
    show 192 ≤ (if k < 38 then k + 192 else k + 193)
    by_cases q : k < 38
    · rw [if_pos q]; omega
    · rw [if_neg q]; omega
  rw [hv, hg, p_b2, p_let]
  obtain ⟨x2, ex2⟩ : ∃ s, s = z_m x1 (zk_X_TW) 40 T' := ⟨_, rfl⟩
  rw [← ex2]
  have h2 : ∀ a, a < 192 → x2 a = x1 a := by
    intro a ha
    rw [ex2]
    exact z_m_out (by rw [zkTW_lo ha]; exact Nat.le_refl _)
  have h2m : ∀ q, q < 38 → x2 (zi_X_T q) = T' q := by
    intro q hq
    rw [ex2]
    refine z_m_in ?_ (by omega)
    show zk_X_TW (q + 192) = q
    rw [zkTW_T (by omega) (by omega), Nat.add_sub_cancel]
  have e231 : x2 231 = T' 38 := by rw [ex2]; exact z_m_in (k := 38) rfl (by omega)
  have e232 : x2 232 = T' 39 := by rw [ex2]; exact z_m_in (k := 39) rfl (by omega)
  have h2o : ∀ a, 233 ≤ a → x2 a = x1 a := by
    intro a ha
    rw [ex2]
    exact z_m_out (by rw [zkTW_hi ha]; exact Nat.le_refl _)
  have hw2 : wX x2 := ⟨fun k hk => by rw [e232]; exact hw'.1 k hk, by rw [e231]; exact hw'.2⟩
  have ht2 : tX x2 m'' L := ⟨ht.1, by rw [h2o 233 (by omega), hx1o 233 (by omega)]; exact ht.2.1, by rw [h06]; exact ht.2.2.1, fun k hk => by rw [h2o 234 (by omega), hx1o 234 (by omega), h5]; exact ht.2.2.2 k hk⟩
  have hT2 : RTx (fun q => x2 (zi_X_T q)) (m'' 1) := hT.c h2m
  by_cases hr : r < 0
  · rw [x_settled_n hr, p_b2]
    obtain ⟨a, b⟩ := hneg hr
    exact ⟨x2, rfl, hT2, ⟨kp, o, hX_err hh h1 h2 a b⟩, hw2, L, ht2⟩
  · obtain ⟨m', e1, e2⟩ := hpos hr
    have hp := e2 kp hh.2.2.2.2.1 hh.1
    obtain ⟨x3, f3, h3, h4⟩ := x_settled (r := r) (x := x2) hr hh.1 hh.2.1 (by rw [h2 0 (by omega), h1 0 (by omega)]; exact hh.2.2.1) (by rw [h2 0 (by omega), h1 0 (by omega)]; exact hh.2.2.2.1)
    rw [f3, p_b2]
    refine ⟨x3, rfl, hT2.c (fun q hq => h3 _ (by show q + 192 ≠ 0; omega)), hX_step (n := m 1) hh hT0 h1 he h2 h3 h4 e1 hp, ?_, L, ?_⟩
    · exact ⟨fun k hk => by rw [h3 232 (by omega)]; exact hw2.1 k hk, by rw [h3 231 (by omega)]; exact hw2.2⟩
    · exact ⟨ht2.1, by rw [h3 233 (by omega)]; exact ht2.2.1, ht2.2.2.1, fun k hk => by rw [h3 234 (by omega)]; exact ht2.2.2.2 k hk⟩
theorem ff_days {x m : z_S} (hR : RX x m) (a : Int32) : ∃ r x' m', f_X9_days a x = some (r, x') ∧ f_X10_days a m = some (r, m') ∧ RX x' m' := by
  obtain ⟨m1, n1, n2, n3⟩ := m_notes' m
  have hR0 := hR
  obtain ⟨hT, ⟨kp, o, hh⟩, hw, L, ht⟩ := hR
  obtain ⟨r, T', m2, e1, e2, e3, ew, f2, f3, f5, f02, f06, -⟩ := same_days a (T := fun k => x (zi_X_TW k)) (m := m1) (by rw [n2 1 (by omega)]; exact hT.c (fun q hq => TW_eq hq)) hw
  unfold f_X9_days f_X10_days
  rw [n1, p_b1, e2, p_b2]
  by_cases hr : r < 0
  · obtain ⟨x', a, b⟩ := opw_RX (g := f_X6_letDaysGo a) (r := r) hR0 e1 (m'' := m2) e3 ew (by rw [f06, n2 0 (by omega)]) (by rw [f5, n2 5 (by omega)]) (fun _ => ⟨by rw [f2, n2 2 (by omega)], by rw [f02, n2 0 (by omega)]⟩) (fun h => absurd hr h)
    rw [m_ends_n hr, p_b2]
    exact ⟨r, x', m2, a, rfl, b⟩
  · obtain ⟨m3, g1, g2⟩ := m_ends (m := m2) (n := m 1) (r := r) (kp := kp) hr hh.1 (by rw [f02, n2 0 (by omega)]; exact hh.2.2.2.2.1) (fun j hj => by rw [f3]; exact n3 j hj)
    have hp := g2
    obtain ⟨q1, q2, -⟩ := g2
    obtain ⟨x', a, b⟩ := opw_RX (g := f_X6_letDaysGo a) (r := r) hR0 e1 (m'' := m3) (by rw [q1 1 (by omega) (by omega)]; exact e3) ew (by rw [q2 6 (by omega), f06, n2 0 (by omega)]) (by rw [q1 5 (by omega) (by omega), f5, n2 5 (by omega)]) (fun h => absurd h hr) (fun _ => ⟨m2, by rw [f2, n2 2 (by omega)], fun kp' h1 h2 => by
      have h3 : kp' = kp := (nI_eq (by omega) (by have := hh.1; omega)).mp (h1.symm.trans hh.2.2.2.2.1)
      rw [h3]; exact hp⟩)
    rw [g1, p_b2]
    exact ⟨r, x', m3, a, rfl, b⟩
