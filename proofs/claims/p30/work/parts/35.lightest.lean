/-! THE PURE PART. 23: the lightest carrier -/
section MORE
variable {x m : z_S} {nc nh nk np dy : Nat} {ah pl : Nat → Nat}
theorem more_same (hR : RX x m) (hT : RT (fun q => x (zi_X_T q)) (m 1) nc nh nk np dy ah pl) {c k : Nat} (hc : c < nk) (hk : k < nh) (d : Int32) :
    ∃ r σ' m', f_X8_moreEffort (nI c) d (nI k) (fun q => x (zi_X_TW q)) = some (r, σ') ∧ f_X10_moreBy (nI c) (nI k) d m = some (r, m') ∧ (∀ a, a ≠ 38 → a ≠ 39 → σ' a = x (zi_X_TW a)) ∧ (∀ k, k < 20 → σ' 39 k = nI 0) ∧ σ' 38 4 = nI 0 ∧
      m' 1 = m 1 ∧ (∀ a, a ≠ 0 → a ≠ 1 → a ≠ 6 → a ≠ 7 → a ≠ 8 → m' a = m a) ∧ (∀ j, j ≠ 9 → j ≠ 10 → j ≠ 11 → j ≠ 12 → m' 0 j = m 0 j) := by
  have hTW := tw_RT hT
  obtain ⟨hC, hH, hO, hK, hP, hS, hA, z1, z2⟩ := id hTW
  have h20 := hC.1.2.2.1
  have h24 := hH.1.2.1
  have h3 := hK.2.1
  have h30 := hP.2.1
  have hc1 := hC.1.2.1
  have hA' := hC.1.2.2.2.1
  have hpl : ∀ h, h < nh → pl h < nc := fun h hh => (hH.1.2.2 h hh).2
  obtain ⟨⟨t, e, p, dg, o, D⟩, hW⟩ : ∃ s : wS, WK (m 1) nc nh np ah pl c d (fun h => m 1 (90 + 14 * h + 3) = nI c) nh = s := ⟨_, rfl⟩
  have hW' : WK (m 1) nc nh np ah pl c d (fun h => m 1 (90 + 14 * h + 3) = nI c ∨ nI h = -1) nh = (t, e, p, dg, o, D) := by
    rw [← hW]
    refine wk_congr (fun _ => rfl) nh (fun i hi => ⟨?_, rfl, rfl, rfl⟩)
    have hlt := tR_lt (ah := ah) hc1 hA' hpl hi
    exact ⟨fun q => ⟨q.1.elim id (fun e => absurd e (nI_m1 (by omega))), q.2⟩, fun q => ⟨Or.inl q.1, q.2⟩⟩
  obtain ⟨⟨t2, e2, p2, dg2, o2, D2⟩, hW2⟩ : ∃ s : wS, WK (m 1) nc nh np ah pl c d (fun h => m 1 (90 + 14 * h + 3) = nI c ∨ nI h = nI k) nh = s := ⟨_, rfl⟩
  -- the class
  obtain ⟨σ1, f1, g1⟩ := x_goX hR hT hc d (-1) hW'
  have hT1 := hTW.eqT (eqT.c g1.RT)
  obtain ⟨a1, a2, a3, a4, a5, a6, -⟩ := hT1
  obtain ⟨σ2, f2, g2⟩ := x_go a1 a2 a3 a4 a5 a6 hc d (nI k) g1.2.1 g1.2.2.2.2.2.2 hW2
  -- the model
  obtain ⟨m1, k1, k2, k3, k4, k5, k6, k7, k8⟩ := m_goes (m := m) (z := 0) (d := d) (N := fun _ => m 1) (dl := fun _ => 0) hC.1 hH hK hP hS hc (fun _ _ => stA.rf) rfl rfl (fun i hi => hStep0) hW
  obtain ⟨m2, hm2⟩ : ∃ s, s = z_u m1 1 (90 + 14 * k + 3) (nI c) := ⟨_, rfl⟩
  have e3 : m2 1 (90 + 14 * k + 3) = nI c := by rw [hm2, u_i]
  have ej : ∀ i, i ≠ 90 + 14 * k + 3 → m2 1 i = m 1 i := fun i hi => by rw [hm2, u_j hi, k2]
  have hT2 : RT (z_u (fun q => x (zi_X_TW q)) 15 k (nI c)) (m2 1) nc nh nk np dy ah pl := by
    refine hTW.house hk (fun q j h => ?_) (fun i i3 _ _ => ej i i3) ?_ ?_ ?_ ?_
    · by_cases q15 : q = 15
      · subst q15
        rw [u_j (h.elim (fun a => absurd rfl a.1) id)]
      · rw [u_o q15]
    · rw [u_i, e3]
    · rw [u_o (by omega), ej _ (by omega)]; exact (hH.2.2 k hk).1.2.2.2.2.1
    · rw [u_o (by omega), ej _ (by omega)]; exact (hH.2.2 k hk).1.2.2.2.2.2
    · exact Or.inr ⟨c, hc, e3⟩
  obtain ⟨b1, b2, b3, b4, b5, b6, -⟩ := hT2
  have hW2' : WK (m2 1) nc nh np ah pl c d (fun h => m2 1 (90 + 14 * h + 3) = nI c) nh = (t2, e2, p2, dg2, o2, D2) := by
    rw [← hW2]
    unfold WK
    rw [show lmN (m2 1) c = lmN (m 1) c from by unfold lmN; rw [ej _ (by omega)]]
    refine wk_congr (fun D => ?_) nh (fun i hi => ?_)
    · rw [ej _ (by omega)]
      exact eS_congr hA' (fun i h1 h2 => ej i (by omega))
    · have hlt := tR_lt (ah := ah) hc1 hA' hpl hi
      generalize tR ah pl nc nh i = R at hlt ⊢
      have hpz : pz (m2 1) np (nI R) d ↔ pz (m 1) np (nI R) d := by
        constructor
        · rintro ⟨j, hj, u, v, w⟩
          rw [ej _ (by omega)] at u v w
          exact ⟨j, hj, u, v, w⟩
        · rintro ⟨j, hj, u, v, w⟩
          exact ⟨j, hj, by rw [ej _ (by omega)]; exact u, by rw [ej _ (by omega)]; exact v, by rw [ej _ (by omega)]; exact w⟩
      refine ⟨?_, ?_, ej _ (by omega), tb_iff ?_⟩
      · rw [hpz]
        by_cases e : R = k
        · rw [e]
          exact ⟨fun q => ⟨Or.inr rfl, q.2⟩, fun q => ⟨e3, q.2⟩⟩
        · dsimp only
          rw [ej _ (by omega)]
          exact ⟨fun q => ⟨Or.inl q.1, q.2⟩, fun q => ⟨q.1.elim id (fun h => absurd h (nI_ne (by omega) (by omega) e)), q.2⟩⟩
      · show (m2 1 (90 + 14 * R + 1)).toNatClampNeg * (wgI (m2 1) d).toNatClampNeg = (m 1 (90 + 14 * R + 1)).toNatClampNeg * (wgI (m 1) d).toNatClampNeg
        unfold wgI
        rw [ej _ (by omega), ej 6 (by omega), ej 5 (by omega)]
      · show (0 < m2 1 (90 + 14 * R + 4) ∧ d - d / m2 1 (90 + 14 * R + 4) * m2 1 (90 + 14 * R + 4) = m2 1 (90 + 14 * R + 5) - m2 1 (90 + 14 * R + 5) / m2 1 (90 + 14 * R + 4) * m2 1 (90 + 14 * R + 4)) ↔ _
        rw [ej _ (by omega), ej _ (by omega)]
        exact Iff.rfl
  obtain ⟨m3, l1, l2, l3, l4, l5, l6, l7, l8⟩ := m_goes (m := m2) (z := 0) (d := d) (N := fun _ => m2 1) (dl := fun _ => 0) b1.1 b2 b4 b5 b6 hc (fun _ _ => stA.rf) rfl rfl (fun i hi => hStep0) hW2'
  have heff : eS (m2 1) ah nc (m2 1 (426 + 7 * c + 0)) D2 = eS (m 1) ah nc (m 1 (426 + 7 * c + 0)) D2 := by
    rw [ej _ (by omega)]
    exact eS_congr hA' (fun i h1 h2 => ej i (by omega))
  refine ⟨σ2 38 1 - σ1 38 1, σ2, z_u m3 1 (90 + 14 * k + 3) (m 1 (90 + 14 * k + 3)), ?_, ?_, fun a q1 q2 => by rw [g2.1 a q1 q2, g1.1 a q1 q2], g2.2.1, g2.2.2.2.2.2.2, ?_, fun a a0 a1 a6 a7 a8 => by rw [u_o a1, l3 a a0 a1 a6 a7 a8, hm2, u_o a1, k3 a a0 a1 a6 a7 a8], fun j q1 q2 q3 q4 => by rw [u_o (by omega), l4 j q1 q2 q3 q4, hm2, u_o (by omega), k4 j q1 q2 q3 q4]⟩
  · unfold f_X8_moreEffort
    rw [f1, p_b1, p_let, f2, p_b1]
  · unfold f_X10_moreBy
    rw [k1, p_b2, p_let, zl_3, m_of (by omega), p_b1, m_lays (by omega), p_b1, ← hm2, l1, p_b2, m_lays (by omega), p_b1, u_o (by omega), k6, l6, heff, g1.2.2.2.1, g2.2.2.2.1, k2]
  · funext i
    by_cases e : i = 90 + 14 * k + 3
    · rw [e, u_i]
    · rw [u_j e, l2]
      exact ej i e
end MORE
theorem ff_lightest {x m : z_S} (hR : RX x m) (a d : Int32) : ∃ r x' m', f_X9_lightest a d x = some (r, x') ∧ f_X10_lightest a d m = some (r, m') ∧ RX x' m' := by
  have hR0 := hR
  obtain ⟨⟨nc, nh, nk, np, dy, ah, pl, hT⟩, -⟩ := hR
  have hT0 := hT
  obtain ⟨hC, hH, hO, hK, hP, hS, hA, z1, z2⟩ := hT
  have h24 := hH.1.2.1
  have h3 := hK.2.1
  have e192 : x 192 0 = nI dy := hS.1.2.2
  unfold f_X9_lightest f_X10_lightest
  rw [x_hasH hH.2.1 h24, m_isHouse hH.1.1 h24, p_b1, p_b1]
  by_cases ha : iX a nh
  · obtain ⟨k, hk, rfl⟩ := id ha
    rw [p_tbT ha, p_tbT ha, w_tb, p_b1, k_4, c_4, m_tb, p_b1, e192, hS.1.1]
    by_cases hd : nI dy ≤ d ∧ d ≤ 999
    · rw [p_tbT hd, p_tbT hd]
      have key : ∀ (n c : Nat) (best least : Int32) (x m : z_S) (f g : Nat), n + c = nk → n < f → n < g → RX x m → RT (fun q => x (zi_X_T q)) (m 1) nc nh nk np dy ah pl →
          ∃ r x' m', z_lp4 (lb_X9_lightest_42 (nI k) d) f best least (nI c) x = some (r, x') ∧ z_lp4 (lb_X10_lightest_35 (nI k) d) g best least (nI c) m = some (r, m') ∧ RX x' m' := by
        intro n
        induction n with
        | zero =>
          intro c best least x m f g hn hf hg hR hT
          obtain ⟨f, rfl⟩ : ∃ f', f = f' + 1 := ⟨f - 1, by omega⟩
          obtain ⟨g, rfl⟩ : ∃ f', g = f' + 1 := ⟨g - 1, by omega⟩
          have e222 : x 222 0 = nI nk := hT.2.2.2.1.2.2.1
          refine ⟨best, x, m, ?_, ?_, hR⟩
          · show lb_X9_lightest_42 (nI k) d _ best least (nI c) x = _
            unfold lb_X9_lightest_42
            rw [e222, if_pos (nI_le (by omega) (by omega))]
          · show lb_X10_lightest_35 (nI k) d _ best least (nI c) m = _
            unfold lb_X10_lightest_35
            rw [k_2, c_2, hT.2.2.2.1.1, if_pos (nI_le (by omega) (by omega))]
        | succ n ih =>
          intro c best least x m f g hn hf hg hR hT
          obtain ⟨f, rfl⟩ : ∃ f', f = f' + 1 := ⟨f - 1, by omega⟩
          obtain ⟨g, rfl⟩ : ∃ f', g = f' + 1 := ⟨g - 1, by omega⟩
          have e222 : x 222 0 = nI nk := hT.2.2.2.1.2.2.1
          have e207 : x 207 k = m 1 (90 + 14 * k + 3) := (hT.2.1.2.2 k hk).1.2.2.2.1
          obtain ⟨P, c1, c2⟩ := can_same hT (c := c) (k := k) (by omega) hk
          show ∃ r x' m', lb_X9_lightest_42 (nI k) d (z_lp4 (lb_X9_lightest_42 (nI k) d) f) best least (nI c) x = some (r, x') ∧ lb_X10_lightest_35 (nI k) d (z_lp4 (lb_X10_lightest_35 (nI k) d) g) best least (nI c) m = some (r, m') ∧ RX x' m'
          have st1 : ∀ kk, lb_X9_lightest_42 (nI k) d kk best least (nI c) x = if nI c = m 1 (90 + 14 * k + 3) then kk best least (nI (c + 1)) x else if tb P = 0 then kk best least (nI (c + 1)) x else
              z_b2 (f_X8_moreEffort (nI c) d (nI k) (fun k => x (zi_X_TW k))) fun r25 σ24 => z_let (z_m x (zk_X_TW) 40 σ24) fun σ26 => if best = -4 then kk (nI c) r25 (nI (c + 1)) σ26 else if least ≤ r25 then kk best least (nI (c + 1)) σ26 else kk (nI c) r25 (nI (c + 1)) σ26 := by
            intro kk
            unfold lb_X9_lightest_42
            rw [e222, if_neg (nI_ge (b := nk) (a := c) (by omega) (by omega)), p_cki (by omega) (by omega), p_cl (by omega), e207, p_let, c1, p_b1, zl_1]
            simp only [p_let, nI_add]
          have st2 : ∀ kk, lb_X10_lightest_35 (nI k) d kk best least (nI c) m = if m 1 (90 + 14 * k + 3) = nI c then kk best least (nI (c + 1)) m else if tb P = 0 then kk best least (nI (c + 1)) m else
              z_b2 (f_X10_moreBy (nI c) (nI k) d m) fun r28 σ27 => if best = -4 then kk (nI c) r28 (nI (c + 1)) σ27 else if least ≤ r28 then kk best least (nI (c + 1)) σ27 else kk (nI c) r28 (nI (c + 1)) σ27 := by
            intro kk
            unfold lb_X10_lightest_35
            rw [k_2, c_2, hT.2.2.2.1.1, if_neg (nI_ge (b := nk) (a := c) (by omega) (by omega)), show f_X10_of (nI k) 3 m = some (m 1 (90 + 14 * k + 3)) from m_of (b := 3) (by omega), p_b1, p_let, c2, p_b1]
            simp only [p_let]
            rw [show nI c + (1 : Int32) = nI (c + 1) from by rw [zl_1, nI_add]]
            rfl
          rw [st1, st2]
          by_cases q : nI c = m 1 (90 + 14 * k + 3)
          · rw [if_pos q, if_pos q.symm]
            exact ih (c + 1) best least x m f g (by omega) (by omega) (by omega) hR hT
          · rw [if_neg q, if_neg (show ¬ m 1 (90 + 14 * k + 3) = nI c from fun e => q e.symm)]
            by_cases qP : P
            · rw [show (if tb P = (0 : Int32) then _ else _) = _ from p_tbT qP, show (if tb P = (0 : Int32) then _ else _) = _ from p_tbT qP]
              obtain ⟨r, σ', m', u1, u2, u3, u4, u5, u6, u7, u8⟩ := more_same hR hT (c := c) (by omega) hk d
              obtain ⟨v1, v2⟩ := RX_TW hR u3 u4 u5
              have hR' : RX (z_m x zk_X_TW 40 σ') m' := v1.m u6 (u7 2 (by omega) (by omega) (by omega) (by omega) (by omega)) (u7 5 (by omega) (by omega) (by omega) (by omega) (by omega)) (u8 2 (by omega) (by omega) (by omega) (by omega)) (u8 6 (by omega) (by omega) (by omega) (by omega))
              have hT' : RT (fun q => z_m x zk_X_TW 40 σ' (zi_X_T q)) (m' 1) nc nh nk np dy ah pl := by
                rw [u6]
                refine hT.eqT (eqT.c (fun q hq => ?_))
                refine (z_m_in (k := q) ?_ (by omega)).trans ?_
                · show zk_X_TW (q + 192) = q
                  rw [zkTW_T (by omega) (by omega), Nat.add_sub_cancel]
                · rw [u3 q (by omega) (by omega)]
                  show x (if q < 38 then q + 192 else q + 193) = x (q + 192)
                  rw [if_pos hq]
              rw [u1, u2, p_b2, p_b2, p_let]
              by_cases qb : best = -4
              · rw [if_pos qb, if_pos qb]
                exact ih (c + 1) (nI c) r _ m' f g (by omega) (by omega) (by omega) hR' hT'
              · rw [if_neg qb, if_neg qb]
                by_cases ql : least ≤ r
                · rw [if_pos ql, if_pos ql]
                  exact ih (c + 1) best least _ m' f g (by omega) (by omega) (by omega) hR' hT'
                · rw [if_neg ql, if_neg ql]
                  exact ih (c + 1) (nI c) r _ m' f g (by omega) (by omega) (by omega) hR' hT'
            · rw [show (if tb P = (0 : Int32) then _ else _) = _ from p_tbF qP, show (if tb P = (0 : Int32) then _ else _) = _ from p_tbF qP]
              exact ih (c + 1) best least x m f g (by omega) (by omega) (by omega) hR hT
      exact key nk 0 (-4) 0 x m z_Fu z_Fu (by omega) (by show nk < 4096; omega) (by show nk < 4096; omega) hR0 hT0
    · rw [p_tbF hd, p_tbF hd]; exact ⟨-1, x, m, rfl, rfl, hR0⟩
  · rw [p_tbF ha, p_tbF ha]; exact ⟨-1, x, m, rfl, rfl, hR0⟩
