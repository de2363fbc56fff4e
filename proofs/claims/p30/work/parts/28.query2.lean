/-! THE PURE PART. 16: corners, houses, carriers, pauses, rounds asked -/
theorem p_in2 {p : Int32} {hi : Nat} {H : Int32} (hH : H = nI hi) (hb : hi < 1000) : (0 ≤ p ∧ p ≤ H) ↔ iX p (hi + 1) := by
  have h := p_idx (p := p) (nh := hi + 1) (by omega)
  rw [show nI (hi + 1) - 1 = nI hi from nI_pred hi] at h
  rw [hH, h]
  rfl
theorem ff_pauseOf {x m : z_S} (hR : RX x m) (a b : Int32) : ∃ r, f_X9_pauseOf a b x = some r ∧ f_X10_pauseOf a b m = some r := by
  obtain ⟨⟨nc, nh, nk, np, dy, ah, pl, hC, hH, hO, hK, hP, hS, hA, z1, z2⟩, -⟩ := hR
  obtain ⟨p0, p1, p2, p3⟩ := hP
  have p2' : x 218 0 = nI np := p2
  unfold f_X9_pauseOf f_X10_pauseOf
  rw [k_3, c_3, p0, p2', w_tb, m_tb, p_b1, p_b1, tb_iff (p_idx (by omega))]
  by_cases ha : ∃ k, k < np ∧ a = nI k
  · rw [p_tbT ha, p_tbT ha, w_tb, m_tb, p_b1, p_b1, tb_iff (p_in2 (H := 2) (hi := 2) rfl (by omega))]
    obtain ⟨k, hk, rfl⟩ := ha
    by_cases hb : iX b 3
    · rw [p_tbT hb, p_tbT hb]
      obtain ⟨j, hj, rfl⟩ := hb
      obtain ⟨q1, q2, q3⟩ := p3 k hk
      rw [zl_447, zl_3, pk_mul, nI_add, nI_add, p_cki (by omega) (by omega), p_cl (by omega)]
      have hj3 : j = 0 ∨ j = 1 ∨ j = 2 := by omega
      rcases hj3 with rfl | rfl | rfl
      · rw [if_pos (by decide), p_cki (by omega) (by omega), p_cl (by omega)]
        exact ⟨_, congrArg some q1, rfl⟩
      · rw [if_neg (by decide), if_pos (by decide), p_cki (by omega) (by omega), p_cl (by omega)]
        exact ⟨_, congrArg some q2, by rw [p_cki (by omega) (by omega)]⟩
      · rw [if_neg (by decide), if_neg (by decide), p_cki (by omega) (by omega), p_cl (by omega)]
        exact ⟨_, congrArg some q3, by rw [p_cki (by omega) (by omega)]⟩
    · rw [p_tbF hb, p_tbF hb]; exact ⟨_, rfl, rfl⟩
  · rw [p_tbF ha, p_tbF ha]; exact ⟨_, rfl, rfl⟩
theorem ff_carrierOf {x m : z_S} (hR : RX x m) (a b : Int32) : ∃ r, f_X9_carrierOf a b x = some r ∧ f_X10_carrierOf a b m = some r := by
  obtain ⟨⟨nc, nh, nk, np, dy, ah, pl, hC, hH, hO, hK, hP, hS, hA, z1, z2⟩, -⟩ := hR
  have h24 := hH.1.2.1
  have h3 := hK.2.1
  unfold f_X9_carrierOf f_X10_carrierOf
  rw [x_hasK hK.2.2.1 h3, m_isCarrier hK.1 h3, p_b1, p_b1]
  by_cases ha : iX a nk
  · rw [p_tbT ha, p_tbT ha, w_tb, m_tb, p_b1, p_b1, tb_iff (p_in2 (H := 7) (hi := 7) rfl (by omega))]
    obtain ⟨c, hc, rfl⟩ := ha
    obtain ⟨q0, q1, q2, q3, q4, q5, q6, -⟩ := hK.2.2.2 c hc
    by_cases hb : iX b 8
    · rw [p_tbT hb, p_tbT hb]
      obtain ⟨j, hj, rfl⟩ := hb
      have hj8 : j = 0 ∨ j = 1 ∨ j = 2 ∨ j = 3 ∨ j = 4 ∨ j = 5 ∨ j = 6 ∨ j = 7 := by omega
      rcases hj8 with rfl | rfl | rfl | rfl | rfl | rfl | rfl | rfl
      · rw [if_pos (by decide), p_cki (by omega) (by omega), p_cl (by omega), if_neg (by decide), p_let, if_neg (by decide)]
        dsimp only
        rw [m_ofCarrier (by omega)]
        exact ⟨_, congrArg some q0, rfl⟩
      · rw [if_neg (by decide), if_pos (by decide), p_cki (by omega) (by omega), p_cl (by omega), if_neg (by decide), p_let, if_neg (by decide)]
        dsimp only
        rw [m_ofCarrier (by omega)]
        exact ⟨_, congrArg some q1, rfl⟩
      · rw [if_neg (by decide), if_neg (by decide), if_pos (by decide), p_cki (by omega) (by omega), p_cl (by omega), if_neg (by decide), p_let, if_neg (by decide)]
        dsimp only
        rw [m_ofCarrier (by omega)]
        exact ⟨_, congrArg some q2, rfl⟩
      · rw [if_neg (by decide), if_neg (by decide), if_neg (by decide), if_pos (by decide), x_manyOf (n := m 1) hH.2.1 h24 (fun j hj => (hH.2.2 j hj).1.2.2.2.1), if_pos (by decide), m_housesOf hH.1.1 h24]
        exact ⟨_, rfl, rfl⟩
      · rw [if_neg (by decide), if_neg (by decide), if_neg (by decide), if_neg (by decide), if_pos (by decide), p_cki (by omega) (by omega), p_cl (by omega), if_neg (by decide), p_let, if_pos (by decide)]
        dsimp only
        rw [show nI 4 - 1 = nI 3 from by decide, m_ofCarrier (by omega)]
        exact ⟨_, congrArg some q3, rfl⟩
      · rw [if_neg (by decide), if_neg (by decide), if_neg (by decide), if_neg (by decide), if_neg (by decide), if_pos (by decide), p_cki (by omega) (by omega), p_cl (by omega), if_neg (by decide), p_let, if_pos (by decide)]
        dsimp only
        rw [show nI 5 - 1 = nI 4 from by decide, m_ofCarrier (by omega)]
        exact ⟨_, congrArg some q4, rfl⟩
      · rw [if_neg (by decide), if_neg (by decide), if_neg (by decide), if_neg (by decide), if_neg (by decide), if_neg (by decide), if_pos (by decide), p_cki (by omega) (by omega), p_cl (by omega), if_neg (by decide), p_let, if_pos (by decide)]
        dsimp only
        rw [show nI 6 - 1 = nI 5 from by decide, m_ofCarrier (by omega)]
        exact ⟨_, congrArg some q5, rfl⟩
      · rw [if_neg (by decide), if_neg (by decide), if_neg (by decide), if_neg (by decide), if_neg (by decide), if_neg (by decide), if_neg (by decide), p_cki (by omega) (by omega), p_cl (by omega), if_neg (by decide), p_let, if_pos (by decide)]
        dsimp only
        rw [show nI 7 - 1 = nI 6 from by decide, m_ofCarrier (by omega)]
        exact ⟨_, congrArg some q6, rfl⟩
    · rw [p_tbF hb, p_tbF hb]; exact ⟨_, rfl, rfl⟩
  · rw [p_tbF ha, p_tbF ha]; exact ⟨_, rfl, rfl⟩
theorem ff_houseOf {x m : z_S} (hR : RX x m) (a b : Int32) : ∃ r, f_X9_houseOf a b x = some r ∧ f_X10_houseOf a b m = some r := by
  obtain ⟨⟨nc, nh, nk, np, dy, ah, pl, hC, hH, hO, hK, hP, hS, hA, z1, z2⟩, -⟩ := hR
  have h24 := hH.1.2.1
  unfold f_X9_houseOf f_X10_houseOf
  rw [x_hasH hH.2.1 h24, m_isHouse hH.1.1 h24, p_b1, p_b1]
  by_cases ha : iX a nh
  · rw [p_tbT ha, p_tbT ha, w_tb, m_tb, p_b1, p_b1, tb_iff (p_in2 (H := 11) (hi := 11) rfl (by omega))]
    obtain ⟨k, hk, rfl⟩ := ha
    obtain ⟨⟨q0, q1, q2, q3, q4, q5⟩, ⟨q6, q7, q8, q9, q10, q11⟩, -⟩ := hH.2.2 k hk
    by_cases hb : iX b 12
    · rw [p_tbT hb, p_tbT hb]
      obtain ⟨j, hj, rfl⟩ := hb
      have hj12 : j = 0 ∨ j = 1 ∨ j = 2 ∨ j = 3 ∨ j = 4 ∨ j = 5 ∨ j = 6 ∨ j = 7 ∨ j = 8 ∨ j = 9 ∨ j = 10 ∨ j = 11 := by omega
      repeat rw [p_cki (j := k) (by omega) (by omega)]
      repeat rw [p_cl (n := k) (by omega)]
      rcases hj12 with rfl | rfl | rfl | rfl | rfl | rfl | rfl | rfl | rfl | rfl | rfl | rfl
      · exact ⟨_, congrArg some q0, by rw [m_of (by omega)]; rfl⟩
      · exact ⟨_, congrArg some q1, by rw [m_of (by omega)]; rfl⟩
      · exact ⟨_, congrArg some q2, by rw [m_of (by omega)]; rfl⟩
      · have e : x 207 k = m 1 (90 + 14 * k + 3) := q3
        rw [zl_3, m_of (by omega), e]
        by_cases h1 : m 1 (90 + 14 * k + 3) = -1
        · refine ⟨-4, ?_, ?_⟩
          · rw [if_neg (by decide), if_neg (by decide), if_neg (by decide), if_pos rfl, if_pos h1]
          · rw [if_pos rfl, p_b1, if_pos h1]
        · refine ⟨m 1 (90 + 14 * k + 3), ?_, ?_⟩
          · rw [if_neg (by decide), if_neg (by decide), if_neg (by decide), if_pos rfl, if_neg h1]
          · rw [if_pos rfl, p_b1, if_neg h1, p_b1]
      · have e : x 208 k = m 1 (90 + 14 * k + 4) := q4
        rw [zl_4, m_of (by omega), e]
        by_cases h1 : m 1 (90 + 14 * k + 4) = 0
        · refine ⟨-4, ?_, ?_⟩
          · rw [if_neg (by decide), if_neg (by decide), if_neg (by decide), if_neg (by decide), if_pos rfl, if_pos h1]; rfl
          · rw [if_neg (by decide), if_pos rfl, p_b1, if_pos h1]; rfl
        · refine ⟨m 1 (90 + 14 * k + 4), ?_, ?_⟩
          · rw [if_neg (by decide), if_neg (by decide), if_neg (by decide), if_neg (by decide), if_pos rfl, if_neg h1]
          · rw [if_neg (by decide), if_pos rfl, p_b1, if_neg h1, p_b1]
      · have e : x 192 0 = nI dy := hS.1.2.2
        have c1 : f_X3_cover (nI k) (nI dy) (fun q => x (zi_X_T q)) = some (tb (pz (m 1) np (nI k) (nI dy))) := x_cover hP
        have c2 : f_X10_isPaused (nI k) (nI dy) m = some (tb (pz (m 1) np (nI k) (nI dy))) := m_isPaused hP
        rw [e, c1, k_4, c_4, hS.1.1, c2]
        by_cases h1 : pz (m 1) np (nI k) (nI dy)
        · refine ⟨1, ?_, ?_⟩
          · rw [if_neg (by decide), if_neg (by decide), if_neg (by decide), if_neg (by decide), if_neg (by decide), if_pos (by decide), p_b1, p_tbT h1]
          · rw [if_neg (by decide), if_neg (by decide), if_pos (by decide), p_b1, p_tbT h1]
        · refine ⟨0, ?_, ?_⟩
          · rw [if_neg (by decide), if_neg (by decide), if_neg (by decide), if_neg (by decide), if_neg (by decide), if_pos (by decide), p_b1, p_tbF h1]
          · rw [if_neg (by decide), if_neg (by decide), if_pos (by decide), p_b1, p_tbF h1]
      · exact ⟨_, congrArg some q6, by rw [m_of (by omega)]; rfl⟩
      · exact ⟨_, congrArg some q7, by rw [m_of (by omega)]; rfl⟩
      · exact ⟨_, congrArg some q8, by rw [zl_8, zl_9, m_of (by omega), m_of (by omega)]; rfl⟩
      · exact ⟨_, congrArg some q9, by rw [show nI 9 + 1 = nI 10 from by decide, m_of (b := 10) (by omega)]; rfl⟩
      · exact ⟨_, congrArg some q10, by rw [show nI 10 + 1 = nI 11 from by decide, m_of (b := 11) (by omega)]; rfl⟩
      · exact ⟨_, congrArg some q11, by rw [show nI 11 + 1 = nI 12 from by decide, m_of (b := 12) (by omega)]; rfl⟩
    · rw [p_tbF hb, p_tbF hb]; exact ⟨_, rfl, rfl⟩
  · rw [p_tbF ha, p_tbF ha]; exact ⟨_, rfl, rfl⟩
theorem x_isAtOrBeyond {T m : z_S} {nc : Nat} {ah : Nat → Nat} (h : rC T (m 1) nc ah) {x a : Nat} (hx : x < nc) (ha : a < 2 ^ 31) : f_X4_isAtOrBeyond (nI x) (nI a) T = some (tb (tB ah x a)) := by
  obtain ⟨⟨h0, h1, h20, hA, hn⟩, -, hc, -⟩ := h
  unfold f_X4_isAtOrBeyond
  refine p_run2 (fun i y z => ∃ c, y = nI c ∧ z = nI i ∧ c + i ≤ x ∧ (tB ah x a ↔ tB ah c a)) x (by omega) ⟨x, rfl, rfl, Nat.le_refl _, Iff.rfl⟩ ?_ ?_
  · rintro i y z hi ⟨c, rfl, rfl, hcx, hb⟩
    by_cases hca : c ≤ a
    · right
      intro k
      unfold lb_X4_isAtOrBeyond_5
      rw [p_let, if_neg (show ¬ (20 : Int32) ≤ nI i from nI_ge (b := 20) (a := i) (by omega) (by omega)), if_pos (nI_le hca ha)]
      by_cases e : c = a
      · subst e
        rw [if_pos rfl, tb_t (hb.mpr (tB_self hA (by omega)))]; rfl
      · rw [if_neg (nI_ne (by omega) ha e), tb_f (fun q => by have := tB_le hA (by omega) (hb.mp q); omega)]; rfl
    · left
      have hac := hA c (by omega) (by omega)
      refine ⟨nI (ah c), nI (i + 1), ⟨ah c, rfl, rfl, by omega, ?_⟩, fun k => ?_⟩
      · rw [hb, tB_s hA (by omega) (by omega)]
        exact ⟨fun q => q.elim (fun e => by omega) id, Or.inr⟩
      · unfold lb_X4_isAtOrBeyond_5
        rw [p_let, if_neg (show ¬ (20 : Int32) ≤ nI i from nI_ge (b := 20) (a := i) (by omega) (by omega)), if_neg (nI_ge (by omega) (by omega)), p_cki (by omega) (by omega), p_let, p_let, p_cl (by omega), (hc c (by omega)).1 (by omega), hn c (by omega) (by omega), nI_1]
  · rintro y z ⟨c, rfl, rfl, hcx, hb⟩ k
    have hc0 : c = 0 := by omega
    subst hc0
    unfold lb_X4_isAtOrBeyond_5
    have fin : ((fun x => if nI 0 = nI a then some (1 : Int32) else some (0 : Int32)) () : Option Int32) = some (tb (tB ah x a)) := by
      dsimp only
      by_cases e : 0 = a
      · subst e
        rw [if_pos rfl, tb_t (hb.mpr (tB_0.mpr rfl))]; rfl
      · rw [if_neg (nI_ne (by omega) ha e), tb_f (fun q => e (tB_0.mp (hb.mp q)).symm)]; rfl
    rw [p_let, if_neg (show ¬ (20 : Int32) ≤ nI x from nI_ge (b := 20) (a := x) (by omega) (by omega)), if_pos (nI_le (Nat.zero_le _) ha)]
    exact fin
noncomputable def sBy (ah pl : Nat → Nat) (a nh : Nat) : Int32 := sI (fun h => tb (tB ah (pl h) a)) nh
theorem x_housesFrom {T m : z_S} {nc nh nk dy : Nat} {ah pl : Nat → Nat} (h : rC T (m 1) nc ah) (hH : rH T (m 1) nc nh nk dy pl) {a : Nat} (ha : a < 2 ^ 31) : f_X6_housesFrom (nI a) T = some (sBy ah pl a nh) := by
  have h24 := hH.1.2.1
  have h20 := h.1.2.2.1
  unfold f_X6_housesFrom
  refine p_run2 (fun i acc x => acc = sBy ah pl a i ∧ x = nI i) nh (by omega) ⟨rfl, rfl⟩ ?_ ?_
  · rintro i acc x hi ⟨rfl, rfl⟩
    refine Or.inl ⟨_, _, ⟨rfl, rfl⟩, fun k => ?_⟩
    have hp := (hH.1.2.2 i hi)
    unfold lb_X6_housesFrom_4
    rw [hH.2.1, if_neg (nI_ge hi (by omega)), p_cki (by omega) (by omega), p_cl (by omega), (hH.2.2 i hi).1.1, hp.1, x_isAtOrBeyond h hp.2 ha, p_b1, p_let]
    simp only [sBy, sI]
    by_cases hb : tB ah (pl i) a
    · rw [p_tbT hb, tb_t hb, p_let, p_let, zl_1, nI_add]
    · rw [p_tbF hb, tb_f hb, p_let, zl_1, nI_add, nI_0, Int32.add_zero]
  · rintro acc x ⟨rfl, rfl⟩ k
    unfold lb_X6_housesFrom_4
    rw [hH.2.1, if_pos (nI_le (Nat.le_refl _) (by omega))]
theorem m_housesBeyond {T m : z_S} {nc nh nk dy : Nat} {ah pl : Nat → Nat} (h : rC T (m 1) nc ah) (hH : rH T (m 1) nc nh nk dy pl) {a : Nat} (ha : a < 2 ^ 31) : f_X10_housesBeyond (nI a) m = some (sBy ah pl a nh) := by
  have h24 := hH.1.2.1
  unfold f_X10_housesBeyond
  refine p_run2 (fun i acc x => acc = sBy ah pl a i ∧ x = nI i) nh (by omega) ⟨rfl, rfl⟩ ?_ ?_
  · rintro i acc x hi ⟨rfl, rfl⟩
    refine Or.inl ⟨_, _, ⟨rfl, rfl⟩, fun k => ?_⟩
    have hp := (hH.1.2.2 i hi)
    unfold lb_X10_housesBeyond_4
    rw [k_1, c_1, hH.1.1, if_neg (nI_ge hi (by omega)), zl_0, m_of (by omega), p_b1, hp.1, m_isBeyond h.1 hp.2 ha, p_b1, p_let]
    simp only [sBy, sI]
    by_cases hb : tB ah (pl i) a
    · rw [tb_t hb, if_neg (by decide), p_let, p_let, zl_1, nI_add]
    · rw [tb_f hb, if_pos rfl, p_let, p_let, zl_1, nI_add]
  · rintro acc x ⟨rfl, rfl⟩ k
    unfold lb_X10_housesBeyond_4
    rw [k_1, c_1, hH.1.1, if_pos (nI_le (Nat.le_refl _) (by omega))]
theorem m_farOf {T m : z_S} {nc : Nat} {ah : Nat → Nat} (h : rC T (m 1) nc ah) {x : Nat} (hx : x < nc) : f_X10_farOf (nI x) m = some (rDis (m 1) ah x) := by
  obtain ⟨⟨h0, h1, h20, hA, hn⟩, -, hc, -⟩ := h
  unfold f_X10_farOf
  refine p_run2 (fun i s y => ∃ c, y = nI c ∧ c + i ≤ x ∧ rDis (m 1) ah x = rDis (m 1) ah c + s) x (by omega) ⟨x, rfl, by omega, by rw [Int32.add_zero]⟩ ?_ ?_
  · rintro i s y hi ⟨c, rfl, hcx, hs⟩
    by_cases hc0 : c = 0
    · subst hc0
      right
      intro k
      unfold lb_X10_farOf_4
      rw [if_pos (by decide), hs, show rDis (m 1) ah 0 = 0 from rfl, Int32.zero_add]
    · left
      have hac := hA c (by omega) (by omega)
      refine ⟨s + m 1 (10 + 4 * c + 1), nI (ah c), ⟨ah c, rfl, by omega, ?_⟩, fun k => ?_⟩
      · rw [hs, tf_dis hA (by omega) (by omega), Int32.add_assoc, Int32.add_comm (m 1 (10 + 4 * c + 1)) s]
      · unfold lb_X10_farOf_4
        rw [if_neg (nI_nle (by omega) (by omega)), zl_1, m_ofCorner (by omega), p_b1, p_let, zl_0, m_ofCorner (by omega), p_b1, hn c (by omega) (by omega)]
  · rintro s y ⟨c, rfl, hcx, hs⟩ k
    have hc0 : c = 0 := by omega
    subst hc0
    unfold lb_X10_farOf_4
    rw [if_pos (by decide), hs, show rDis (m 1) ah 0 = 0 from rfl, Int32.zero_add]
theorem ff_cornerOf {x m : z_S} (hR : RX x m) (a b : Int32) : ∃ r, f_X9_cornerOf a b x = some r ∧ f_X10_cornerOf a b m = some r := by
  obtain ⟨⟨nc, nh, nk, np, dy, ah, pl, hC, hH, hO, hK, hP, hS, hA, z1, z2⟩, -⟩ := hR
  have h20 := hC.1.2.2.1
  unfold f_X9_cornerOf f_X10_cornerOf
  rw [x_hasC hC.2.1 h20, m_isCorner hC.1.1 h20, p_b1, p_b1]
  by_cases ha : iX a nc
  · rw [p_tbT ha, p_tbT ha, w_tb, m_tb, p_b1, p_b1, tb_iff (p_in2 (H := 6) (hi := 6) rfl (by omega))]
    obtain ⟨k, hk, rfl⟩ := ha
    obtain ⟨q0, q1, q2, q3, q4, q5, q6, -⟩ := hC.2.2.1 k hk
    by_cases hb : iX b 7
    · rw [p_tbT hb, p_tbT hb, p_let, p_let]
      obtain ⟨j, hj, rfl⟩ := hb
      have hj7 : j = 0 ∨ j = 1 ∨ j = 2 ∨ j = 3 ∨ j = 4 ∨ j = 5 ∨ j = 6 := by omega
      repeat rw [p_cki (j := k) (by omega) (by omega)]
      repeat rw [p_cl (n := k) (by omega)]
      rw [m_farOf hC hk, m_housesBeyond hC hH (by omega), m_cartsCome hC hk, x_housesFrom (m := m) hC hH (by omega), m_ofCorner (by omega)]
      by_cases hk0 : k = 0
      · subst hk0
        rcases hj7 with rfl | rfl | rfl | rfl | rfl | rfl | rfl
        · exact ⟨-4, rfl, rfl⟩
        · exact ⟨-4, rfl, rfl⟩
        · exact ⟨_, congrArg some q2, rfl⟩
        · exact ⟨-4, rfl, rfl⟩
        · exact ⟨_, congrArg some q5, rfl⟩
        · exact ⟨_, rfl, rfl⟩
        · exact ⟨_, congrArg some q6, rfl⟩
      · have hk1 : ¬ nI k = 0 := nI_ne0 (by omega) (by omega)
        rw [if_neg hk1, if_neg hk1]
        rcases hj7 with rfl | rfl | rfl | rfl | rfl | rfl | rfl
        · exact ⟨_, congrArg some (q0 (by omega)), rfl⟩
        · exact ⟨_, congrArg some q1, rfl⟩
        · exact ⟨_, congrArg some q2, rfl⟩
        · exact ⟨_, congrArg some q3, rfl⟩
        · exact ⟨_, congrArg some q5, rfl⟩
        · exact ⟨_, rfl, rfl⟩
        · refine ⟨rCrt (m 1) ah k, congrArg some q6, ?_⟩
          rcases rCrt_01 (n := m 1) hC.1.2.2.2.1 hk with e | e
          · rw [e]; rfl
          · rw [e]; rfl
    · rw [p_tbF hb, p_tbF hb]; exact ⟨_, rfl, rfl⟩
  · rw [p_tbF ha, p_tbF ha]; exact ⟨_, rfl, rfl⟩
