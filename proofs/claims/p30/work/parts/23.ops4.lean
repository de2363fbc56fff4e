/-! THE PURE PART. 11: settings, carriers -/
theorem p_01 {p : Int32} : (0 ≤ p ∧ p ≤ 1) ↔ p = 0 ∨ p = 1 := by
  have h := p_idx (p := p) (nh := 2) (by omega)
  rw [show nI 2 - 1 = 1 by decide] at h
  rw [h]
  constructor
  · rintro ⟨k, hk, rfl⟩
    match k, hk with
    | 0, _ => exact Or.inl rfl
    | 1, _ => exact Or.inr rfl
  · rintro (rfl | rfl)
    · exact ⟨0, by omega, rfl⟩
    · exact ⟨1, by omega, rfl⟩
theorem ff_set {x m : z_S} (hR : RX x m) (a b : Int32) : ∃ r x' m', f_X9_set a b x = some (r, x') ∧ f_X10_set a b m = some (r, m') ∧ RX x' m' := by
  have hR0 := hR
  obtain ⟨⟨nc, nh, nk, np, dy, ah, pl, h⟩, -⟩ := hR
  have hh := h
  obtain ⟨hC, hH, hO, hK, hP, hS, hA, z1, z2⟩ := h
  have h20 := hC.1.2.2.1
  have h24 := hH.1.2.1
  have h3 := hK.2.1
  have h30 := hP.2.1
  obtain ⟨m1, n1, n2, n3⟩ := m_notes' m
  have e1 : m1 1 = m 1 := n2 1 (by omega)
  have bad : (¬ (a = 0 ∧ 1 ≤ b ∧ b ≤ 20)) → (¬ (a = 1 ∧ 1 ≤ b ∧ b ≤ 50)) → ∀ T : z_S, f_X6_changeSetting a b T = some (-1, T) := by
    intro h0 h1 T
    unfold f_X6_changeSetting
    by_cases a0 : a = 0
    · have hb : ¬ (1 ≤ b ∧ b ≤ 20) := fun q => h0 ⟨a0, q⟩
      have a1 : ¬ a = 1 := fun q => by rw [a0] at q; exact absurd q (by decide)
      simp only [p_let, if_pos a0, if_neg a1, w_tb, p_b1, p_tbF hb]
    · by_cases a1 : a = 1
      · have hb : ¬ (1 ≤ b ∧ b ≤ 50) := fun q => h1 ⟨a1, q⟩
        simp only [p_let, if_neg a0, if_pos a1, w_tb, p_b1, p_tbF hb]
      · simp only [p_let, if_neg a0, if_neg a1]
  by_cases g0 : a = 0 ∧ 1 ≤ b ∧ b ≤ 20
  · obtain ⟨a0, hb⟩ := g0
    obtain ⟨w, hw, rfl⟩ := p_rng (p := b) (H := 20) (hi := 20) rfl (by omega) (by exact Int32.le_trans (by decide) hb.1) hb.2
    have hw1 : 1 ≤ w := (nI_leI (a := 1) (by omega) (by omega)).mp hb.1
    have hRT : RT (z_u (fun q => x (zi_X_T q)) 0 1 (nI w)) (z_u m1 1 5 (nI w) 1) nc nh nk np dy ah pl := by
      have hn : ∀ i, i ≠ 5 → z_u m1 1 5 (nI w) 1 i = m 1 i := fun i hi => by rw [u_n hi, e1]
      refine ⟨rC_congr hC (hn 0 (by omega)) (fun i h1 h2 => hn i (by omega)) (by rw [u_o (by omega)]) (fun q x y j hj => by rw [u_o (by omega)]), rH_congr hH (hn 1 (by omega)) (by rw [u_o (by omega)]) (fun i h1 h2 => hn i (by omega)) (fun q x y j hj => by rw [u_o (by omega)]), fun j hj => by rw [u_o (by omega)]; exact hO j hj,
        rK_congr hK (hn 2 (by omega)) (by rw [u_o (by omega)]) (fun q x y j hj => by rw [u_o (by omega)]) (fun i h1 h2 => hn i (by omega)), rP_congr hP (hn 3 (by omega)) (by rw [u_o (by omega)]) (fun q x y j hj => by rw [u_o (by omega)]) (fun i h1 h2 => hn i (by omega)),
        ⟨⟨by rw [hn 4 (by omega)]; exact hS.1.1, hS.1.2.1, by rw [u_j (by omega)]; exact hS.1.2.2⟩, ⟨by rw [u_i, u_i], w, u_i, hw1, hw⟩, ⟨by rw [u_j (by omega), hn 6 (by omega)]; exact hS.2.2.1, by rw [hn 6 (by omega)]; exact hS.2.2.2⟩⟩, rA_congr hA (fun j _ => by rw [u_o (by omega)]) (fun w h1 h2 => sI_congr (fun i hi => hn _ (by omega))), fun i h1 h2 => by rw [hn i (by omega)]; exact z1 i h1 h2, fun i h1 h2 => by rw [hn i (by omega)]; exact z2 i h1 h2⟩
    have hg : f_X6_changeSetting a (nI w) (fun q => x (zi_X_T q)) = some (m 1 5, z_u (fun q => x (zi_X_T q)) 0 1 (nI w)) := by
      unfold f_X6_changeSetting
      have := hS.2.1.1
      rw [p_let, if_pos a0, w_tb, p_b1, p_tbT hb, p_let, p_let, hS.2.1.1]
    obtain ⟨x', m', q1, q2, q3⟩ := op2_RX hR0 (g := f_X6_changeSetting a (nI w)) hg (m1 := m1) (m2 := z_u m1 1 5 (nI w)) n2 n3 frM.u ⟨nc, nh, nk, np, dy, ah, pl, hRT⟩
    refine ⟨_, x', m', q1, ?_, q3⟩
    unfold f_X10_set
    rw [m_tb, p_b1, p_tbT (p_01.mpr (Or.inl a0)), p_let, if_pos a0]
    dsimp only
    rw [m_tb, p_b1, p_tbT hb, n1, p_b1, a0]
    have e5 : ((5 : Int32) + 0) = nI 5 := rfl
    rw [e5, p_cki (by omega) (by omega), p_let, p_cki (by omega) (by omega), p_let, p_cl (by omega), e1]
    exact q2
  · by_cases g1 : a = 1 ∧ 1 ≤ b ∧ b ≤ 50
    · obtain ⟨a1, hb⟩ := g1
      have a0 : ¬ a = 0 := fun q => by rw [a1] at q; exact absurd q (by decide)
      obtain ⟨w, hw, rfl⟩ := p_rng (p := b) (H := 50) (hi := 50) rfl (by omega) (by exact Int32.le_trans (by decide) hb.1) hb.2
      have hw1 : 1 ≤ w := (nI_leI (a := 1) (by omega) (by omega)).mp hb.1
      have hRT : RT (z_u (fun q => x (zi_X_T q)) 0 2 (nI w)) (z_u m1 1 6 (nI w) 1) nc nh nk np dy ah pl := by
        have hn : ∀ i, i ≠ 6 → z_u m1 1 6 (nI w) 1 i = m 1 i := fun i hi => by rw [u_n hi, e1]
        refine ⟨rC_congr hC (hn 0 (by omega)) (fun i h1 h2 => hn i (by omega)) (by rw [u_o (by omega)]) (fun q x y j hj => by rw [u_o (by omega)]), rH_congr hH (hn 1 (by omega)) (by rw [u_o (by omega)]) (fun i h1 h2 => hn i (by omega)) (fun q x y j hj => by rw [u_o (by omega)]), fun j hj => by rw [u_o (by omega)]; exact hO j hj,
          rK_congr hK (hn 2 (by omega)) (by rw [u_o (by omega)]) (fun q x y j hj => by rw [u_o (by omega)]) (fun i h1 h2 => hn i (by omega)), rP_congr hP (hn 3 (by omega)) (by rw [u_o (by omega)]) (fun q x y j hj => by rw [u_o (by omega)]) (fun i h1 h2 => hn i (by omega)),
          ⟨⟨by rw [hn 4 (by omega)]; exact hS.1.1, hS.1.2.1, by rw [u_j (by omega)]; exact hS.1.2.2⟩, ⟨by rw [u_j (by omega), hn 5 (by omega)]; exact hS.2.1.1, by rw [hn 5 (by omega)]; exact hS.2.1.2⟩, ⟨by rw [u_i, u_i], w, u_i, hw1, hw⟩⟩, rA_congr hA (fun j _ => by rw [u_o (by omega)]) (fun w h1 h2 => sI_congr (fun i hi => hn _ (by omega))), fun i h1 h2 => by rw [hn i (by omega)]; exact z1 i h1 h2, fun i h1 h2 => by rw [hn i (by omega)]; exact z2 i h1 h2⟩
      have hg : f_X6_changeSetting a (nI w) (fun q => x (zi_X_T q)) = some (m 1 6, z_u (fun q => x (zi_X_T q)) 0 2 (nI w)) := by
        unfold f_X6_changeSetting
        have := hS.2.2.1
        rw [p_let, if_neg a0, if_pos a1, w_tb, p_b1, p_tbT hb, p_let, p_let, hS.2.2.1]
      obtain ⟨x', m', q1, q2, q3⟩ := op2_RX hR0 (g := f_X6_changeSetting a (nI w)) hg (m1 := m1) (m2 := z_u m1 1 6 (nI w)) n2 n3 frM.u ⟨nc, nh, nk, np, dy, ah, pl, hRT⟩
      refine ⟨_, x', m', q1, ?_, q3⟩
      unfold f_X10_set
      rw [m_tb, p_b1, p_tbT (p_01.mpr (Or.inr a1)), p_let, if_neg a0]
      dsimp only
      rw [m_tb, p_b1, p_tbT hb, n1, p_b1, a1]
      have e5 : ((5 : Int32) + 1) = nI 6 := rfl
      rw [e5, p_cki (by omega) (by omega), p_let, p_cki (by omega) (by omega), p_let, p_cl (by omega), e1]
      exact q2
    · obtain ⟨x', q1, q2⟩ := op0_RX hR0 (r := -1) (g := f_X6_changeSetting a b) (by decide) (bad g0 g1 _)
      refine ⟨-1, x', m, q1, ?_, q2⟩
      unfold f_X10_set
      rw [m_tb, p_b1]
      by_cases h01 : 0 ≤ a ∧ a ≤ 1
      · rw [p_tbT h01, p_let]
        by_cases a0 : a = 0
        · rw [if_pos a0]
          dsimp only
          rw [m_tb, p_b1, p_tbF (fun q => g0 ⟨a0, q⟩)]
        · rw [if_neg a0]
          dsimp only
          rw [m_tb, p_b1, p_tbF (fun q => g1 ⟨(p_01.mp h01).resolve_left a0, q⟩)]
      · rw [p_tbF h01]
theorem ff_carrier {x m : z_S} (hR : RX x m) (a b : Int32) : ∃ r x' m', f_X9_carrier a b x = some (r, x') ∧ f_X10_carrier a b m = some (r, m') ∧ RX x' m' := by
  have hR0 := hR
  obtain ⟨⟨nc, nh, nk, np, dy, ah, pl, h⟩, -⟩ := hR
  obtain ⟨hC, hH, hO, hK, hP, hS, hA, z1, z2⟩ := h
  have h20 := hC.1.2.2.1
  have h24 := hH.1.2.1
  have h3 := hK.2.1
  have h30 := hP.2.1
  obtain ⟨m1, n1, n2, n3⟩ := m_notes' m
  have e1 : m1 1 = m 1 := n2 1 (by omega)
  obtain ⟨T, hTe⟩ : ∃ T, T = fun q => x (zi_X_T q) := ⟨_, rfl⟩
  rw [← hTe] at hC hH hO hK hP hS hA
  unfold f_X10_carrier
  rw [m_tb, p_b1]
  by_cases ha : 0 ≤ a ∧ a ≤ 1
  · rw [p_tbT ha, m_tb, p_b1]
    by_cases hb : 10 ≤ b ∧ b ≤ 500
    · rw [p_tbT hb, k_2, c_2, hK.1]
      by_cases h3' : nk = 3
      · rw [if_pos (by rw [h3']; rfl)]
        obtain ⟨x', q1, q2⟩ := op0_RX hR0 (r := -3) (g := f_X6_addCarrier a b) (by decide) (by
          rw [← hTe]
          unfold f_X6_addCarrier
          rw [w_tb, p_b1, p_tbT ha, w_tb, p_b1, p_tbT hb, hK.2.2.1, if_neg (by rw [h3']; decide)])
        exact ⟨-3, x', m, q1, rfl, q2⟩
      · have hlt : nk < 3 := by omega
        rw [if_neg (show ¬ nI nk = 3 from nI_ne (b := 3) (by omega) (by omega) h3'), n1, p_b1, k_2, e1, hK.1, zl_0, m_addsC (by omega), p_b1, k_2, u_n (by omega), e1, hK.1, zl_1, m_addsC (by omega), p_b1, k_2, k_2, p_let, k_2, u_i, u_n (by omega), u_n (by omega), e1, hK.1, nI_add, p_s1]
        rw [u_n (by omega), e1, z2 (426 + 7 * nk + 0) (by omega) (by omega), z2 (426 + 7 * nk + 1) (by omega) (by omega), nI_0, Int32.zero_add, Int32.zero_add]
        obtain ⟨w, hw, rfl⟩ := p_rng (p := b) (H := 500) (hi := 500) rfl (by omega) (by exact Int32.le_trans (by decide) hb.1) hb.2
        have hg : f_X6_addCarrier a (nI w) T = some (nI nk, z_u (z_u (z_u (z_u (z_u (z_u (z_u (z_u T 31 nk a) 32 nk (nI w)) 33 nk 0) 34 nk 0) 35 nk 0) 36 nk 0) 37 nk 0) 30 0 (nI (nk + 1))) := by
          unfold f_X6_addCarrier
          rw [w_tb, p_b1, p_tbT ha, w_tb, p_b1, p_tbT hb, hK.2.2.1, if_pos (show nI nk < 3 from nI_lt (b := 3) hlt (by omega))]
          unfold f_X0_add
          simp (disch := omega) only [p_let, hK.2.2.1, p_cki, p_cl, p_b2, u_o, zl_1, nI_add]
        obtain ⟨m2, hm2⟩ : ∃ s, s = z_u (z_u (z_u m1 1 (426 + 7 * nk + 0) a) 1 (426 + 7 * nk + 1) (nI w)) 1 2 (nI (nk + 1)) := ⟨_, rfl⟩
        have hn : ∀ i, i ≠ 2 → i ≠ 426 + 7 * nk + 0 → i ≠ 426 + 7 * nk + 1 → m2 1 i = m 1 i := fun i h1 h2 h3 => by rw [hm2, u_n h1, u_n h3, u_n h2, e1]
        obtain ⟨T', hT'⟩ : ∃ s, s = z_u (z_u (z_u (z_u (z_u (z_u (z_u (z_u T 31 nk a) 32 nk (nI w)) 33 nk 0) 34 nk 0) 35 nk 0) 36 nk 0) 37 nk 0) 30 0 (nI (nk + 1)) := ⟨_, rfl⟩
        have hTo : ∀ q j, q < 30 ∨ 37 < q ∨ (30 < q ∧ j ≠ nk) → T' q j = T q j := by
          intro q j hq
          rw [hT']
          by_cases hq1 : q < 30 ∨ 37 < q
          · simp (disch := omega) only [u_o]
          · have hj : j ≠ nk := by omega
            rw [u_o (by omega)]
            have : q = 31 ∨ q = 32 ∨ q = 33 ∨ q = 34 ∨ q = 35 ∨ q = 36 ∨ q = 37 := by omega
            rcases this with rfl | rfl | rfl | rfl | rfl | rfl | rfl <;> simp (disch := omega) only [u_o, u_j]
        have hRT : RT T' (m2 1) nc nh (nk + 1) np dy ah pl := by
          refine ⟨rC_congr hC (hn 0 (by omega) (by omega) (by omega)) (fun i h1 h2 => hn i (by omega) (by omega) (by omega)) (hTo 2 0 (by omega)) (fun q x y j hj => hTo q j (by omega)), ⟨mH_congr hH.1 (hn 1 (by omega) (by omega) (by omega)) (fun j hj => hn _ (by omega) (by omega) (by omega)), by rw [hTo 11 0 (by omega)]; exact hH.2.1, fun j hj => rH1_weak (rH1_congr (hH.2.2 j hj) (fun q a b => hTo q j (by omega)) (fun w hw => hn _ (by omega) (by omega) (by omega))) (by omega) (Nat.le_refl _)⟩, fun j hj => by rw [hTo 25 j (by omega)]; exact hO j hj,
            ⟨by rw [hm2, u_i], by omega, by rw [hT', u_i], fun j hj => ?_⟩, rP_congr hP (hn 3 (by omega) (by omega) (by omega)) (hTo 26 0 (by omega)) (fun q x y j hj => hTo q j (by omega)) (fun i h1 h2 => hn i (by omega) (by omega) (by omega)),
            rS_congr hS (hTo 0 0 (by omega)) (hTo 0 1 (by omega)) (hTo 0 2 (by omega)) (hn 4 (by omega) (by omega) (by omega)) (hn 5 (by omega) (by omega) (by omega)) (hn 6 (by omega) (by omega) (by omega)), rA_congr hA (fun j _ => hTo 1 j (by omega)) (fun w h1 h2 => sI_congr (fun i hi => hn _ (by omega) (by omega) (by omega))), fun i h1 h2 => by rw [hn i (by omega) (by omega) (by omega)]; exact z1 i h1 h2, fun i h1 h2 => by rw [hn i (by omega) (by omega) (by omega)]; exact z2 i (by omega) h2⟩
          by_cases hj2 : j = nk
          · subst hj2
            have g0 : m2 1 (426 + 7 * j + 0) = a := by rw [hm2, u_n (by omega), u_n (by omega), u_i]
            have g1 : m2 1 (426 + 7 * j + 1) = nI w := by rw [hm2, u_n (by omega), u_i]
            have gz : ∀ q, 2 ≤ q → q < 7 → m2 1 (426 + 7 * j + q) = nI 0 := fun q a b => by rw [hn _ (by omega) (by omega) (by omega)]; exact z2 _ (by omega) (by omega)
            refine ⟨?_, ?_, ?_, ?_, ?_, ?_, ?_, w, g1, hw⟩
            · rw [g0, hT']; simp (disch := omega) only [u_o, u_i]
            · rw [g1, hT']; simp (disch := omega) only [u_o, u_i]
            · rw [gz 2 (by omega) (by omega), hT']; simp (disch := omega) only [u_o, u_i]; rfl
            · rw [gz 3 (by omega) (by omega), hT']; simp (disch := omega) only [u_o, u_i]; rfl
            · rw [gz 4 (by omega) (by omega), hT']; simp (disch := omega) only [u_o, u_i]; rfl
            · rw [gz 5 (by omega) (by omega), hT']; simp (disch := omega) only [u_o, u_i]; rfl
            · rw [gz 6 (by omega) (by omega), hT']; simp (disch := omega) only [u_o, u_i]; rfl
          · exact rK1_congr (hK.2.2.2 j (by omega)) (fun q a b => hTo q j (by omega)) (fun q hq => hn _ (by omega) (by omega) (by omega))
        rw [hTe] at hg
        obtain ⟨x', m', q1, q2, q3⟩ := op2_RX hR0 (g := f_X6_addCarrier a (nI w)) hg (m1 := m1) (m2 := m2) n2 n3 (by rw [hm2]; exact (frM.u.trans frM.u).trans frM.u) ⟨nc, nh, nk + 1, np, dy, ah, pl, by rw [← hTe, ← hT']; exact hRT⟩
        rw [← hm2]
        exact ⟨_, x', m', q1, q2, q3⟩
    · rw [p_tbF hb]
      obtain ⟨x', q1, q2⟩ := op0_RX hR0 (r := -1) (g := f_X6_addCarrier a b) (by decide) (by
        rw [← hTe]
        unfold f_X6_addCarrier
        rw [w_tb, p_b1, p_tbT ha, w_tb, p_b1, p_tbF hb])
      exact ⟨-1, x', m, q1, rfl, q2⟩
  · rw [p_tbF ha]
    obtain ⟨x', q1, q2⟩ := op0_RX hR0 (r := -1) (g := f_X6_addCarrier a b) (by decide) (by
      rw [← hTe]
      unfold f_X6_addCarrier
      rw [w_tb, p_b1, p_tbF ha])
    exact ⟨-1, x', m, q1, rfl, q2⟩
