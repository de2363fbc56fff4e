/-! THE PURE PART. 10: biscuits, pauses, dogs, settings, carriers -/
theorem p_rng {p : Int32} {hi : Nat} {H : Int32} (hH : H.toInt = hi) (hb : hi < 2 ^ 30) (h0 : 0 ≤ p) (h1 : p ≤ H) : ∃ j, j ≤ hi ∧ p = nI j := nI_of2 hH (Int32.not_lt.mpr h0) h1
section OPS2
variable {T T' : z_S} {n n' : Nat → Int32} {nc nh nk np dy : Nat} {ah pl : Nat → Nat}
/-- one carrier's numbers change, but what he can carry -/
theorem RT.carr (h : RT T n nc nh nk np dy ah pl) {c : Nat} (hc : c < nk) (hT : ∀ q j, q < 31 ∨ 37 < q ∨ j ≠ c → T' q j = T q j) (hn : ∀ i, i < 426 + 7 * c ∨ 426 + 7 * c + 7 ≤ i → n' i = n i) (he : rK1 T' n' c) : RT T' n' nc nh nk np dy ah pl := by
  obtain ⟨a, b, c', d, e, f, g, z1, z2⟩ := h
  have h20 := a.1.2.2.1
  have h24 := b.1.2.1
  have h3 := d.2.1
  refine ⟨rC_congr a (hn 0 (by omega)) (fun i h1 h2 => hn i (by omega)) (hT 2 0 (by omega)) (fun q x y j hj => hT q j (by omega)), rH_congr b (hn 1 (by omega)) (hT 11 0 (by omega)) (fun i h1 h2 => hn i (by omega)) (fun q x y j hj => hT q j (by omega)), fun j hj => by rw [hT 25 j (by omega)]; exact c' j hj,
    ⟨by rw [hn 2 (by omega)]; exact d.1, h3, by rw [hT 30 0 (by omega)]; exact d.2.2.1, fun j hj => ?_⟩, rP_congr e (hn 3 (by omega)) (hT 26 0 (by omega)) (fun q x y j hj => hT q j (by omega)) (fun i h1 h2 => hn i (by omega)),
    rS_congr f (hT 0 0 (by omega)) (hT 0 1 (by omega)) (hT 0 2 (by omega)) (hn 4 (by omega)) (hn 5 (by omega)) (hn 6 (by omega)), rA_congr g (fun j _ => hT 1 j (by omega)) (fun w h1 h2 => sI_congr (fun i hi => hn _ (by omega))), fun i h1 h2 => by rw [hn i (by omega)]; exact z1 i h1 h2, fun i h1 h2 => by rw [hn i (by omega)]; exact z2 i h1 h2⟩
  by_cases hj2 : j = c
  · subst hj2; exact he
  · exact rK1_congr (d.2.2.2 j hj) (fun q _ _ => hT q j (by omega)) (fun w hw => hn _ (by omega))
end OPS2
theorem same_biscuits (a b : Int32) : sameT (f_X6_addBiscuits a b) (f_X10_addsBiscuits a b) := by
  rintro T m ⟨nc, nh, nk, np, dy, ah, pl, h⟩
  have hK := h.2.2.2.1
  have h3 := hK.2.1
  have same : ∀ z : Int32, ∃ r T' m', some (z, T) = some (r, T') ∧ some (z, m) = some (r, m') ∧ RTx T' (m' 1) ∧ frM m m' := fun z => ⟨_, _, _, rfl, rfl, ⟨nc, nh, nk, np, dy, ah, pl, h⟩, frM.rf⟩
  unfold f_X6_addBiscuits f_X10_addsBiscuits
  rw [x_hasK hK.2.2.1 hK.2.1, m_isCarrier hK.1 hK.2.1, p_b1, p_b1]
  by_cases hp : iX a nk
  · rw [p_tbT hp, p_tbT hp, w_tb, m_tb, p_b1, p_b1]
    by_cases hq : 1 ≤ b ∧ b ≤ 99
    · rw [p_tbT hq, p_tbT hq]
      obtain ⟨c, hc, rfl⟩ := hp
      obtain ⟨k0, k1, k2, k3, k4, k5, k6, k7⟩ := hK.2.2.2 c hc
      rw [p_cki (by omega) (by omega), p_cl (by omega), zl_2, m_ofCarrier (by omega), p_b1, k2]
      by_cases hn : m 1 (426 + 7 * c + 2) + b ≤ 500
      · rw [if_pos hn, if_pos hn, p_cki (by omega) (by omega), p_cki (by omega) (by omega), p_let, p_cki (by omega) (by omega), m_addsC (by omega), p_b1, m_ofCarrier (by omega), p_b1]
        refine ⟨_, _, z_u m 1 (426 + 7 * c + 2) (m 1 (426 + 7 * c + 2) + b), rfl, ?_, ⟨nc, nh, nk, np, dy, ah, pl, h.carr (c := c) hc (fun q j hq => ?_) (fun i hi => u_n (by omega)) ?_⟩, frM.u⟩
        · rw [u_i, u_i]
        · by_cases e : q = 33
          · subst e; rw [u_j (by omega)]
          · rw [u_o e]
        · refine ⟨?_, ?_, ?_, ?_, ?_, ?_, ?_, ?_⟩
          · rw [u_o (by omega), u_n (by omega)]; exact k0
          · rw [u_o (by omega), u_n (by omega)]; exact k1
          · rw [u_i, u_i]
          · rw [u_o (by omega), u_n (by omega)]; exact k3
          · rw [u_o (by omega), u_n (by omega)]; exact k4
          · rw [u_o (by omega), u_n (by omega)]; exact k5
          · rw [u_o (by omega), u_n (by omega)]; exact k6
          · rw [u_n (by omega)]; exact k7
      · rw [if_neg hn, if_neg hn]; exact same _
    · rw [p_tbF hq, p_tbF hq]; exact same _
  · rw [p_tbF hp, p_tbF hp]; exact same _
theorem same_pause (a b c : Int32) : sameT (f_X6_addPause a b c) (f_X10_pauses a b c) := by
  rintro T m ⟨nc, nh, nk, np, dy, ah, pl, h⟩
  have same : ∀ z : Int32, ∃ r T' m', some (z, T) = some (r, T') ∧ some (z, m) = some (r, m') ∧ RTx T' (m' 1) ∧ frM m m' := fun z => ⟨_, _, _, rfl, rfl, ⟨nc, nh, nk, np, dy, ah, pl, h⟩, frM.rf⟩
  obtain ⟨hC, hH, hO, hK, hP, hS, hA, z1, z2⟩ := h
  have h20 := hC.1.2.2.1
  have h24 := hH.1.2.1
  have h3 := hK.2.1
  have h30 := hP.2.1
  unfold f_X6_addPause f_X10_pauses
  rw [x_hasH hH.2.1 hH.1.2.1, m_isHouse hH.1.1 hH.1.2.1, p_b1, p_b1]
  by_cases hp : iX a nh
  · rw [p_tbT hp, p_tbT hp, k_4, c_4, hS.1.1, hS.1.2.2, w_tb, m_tb, p_b1, p_b1]
    by_cases hq : nI dy ≤ b ∧ b ≤ 999
    · rw [p_tbT hq, p_tbT hq, w_tb, m_tb, p_b1, p_b1]
      by_cases hr : b ≤ c ∧ c ≤ 999
      · rw [p_tbT hr, p_tbT hr, k_3, c_3, hP.1, hP.2.2.1]
        by_cases h30' : np = 30
        · subst h30'
          rw [if_neg (by decide), if_pos (by decide)]; exact same _
        · have hlt : np < 30 := by omega
          rw [if_pos (show nI np < 30 from nI_lt (b := 30) hlt (by omega)), if_neg (show ¬ nI np = 30 from nI_ne (b := 30) (by omega) (by omega) h30')]
          unfold f_X3_add
          rw [p_let, hP.2.2.1]
          simp (disch := omega) only [p_cki, p_cl, p_let, p_b2, k_3, zl_447, zl_3, pk_mul, nI_add, zl_1, zl_2]
          simp only [u_n (show 3 ≠ 447 + 3 * np by omega), u_n (show 3 ≠ 447 + 3 * np + 1 by omega), u_n (show 3 ≠ 447 + 3 * np + 2 by omega), hP.1, u_o (show 26 ≠ 27 by omega), u_o (show 26 ≠ 28 by omega), u_o (show 26 ≠ 29 by omega), hP.2.2.1, nI_add]
          refine ⟨_, _, z_u (z_u (z_u (z_u m 1 (447 + 3 * np) a) 1 (447 + 3 * np + 1) b) 1 (447 + 3 * np + 2) c) 1 3 (nI (np + 1)), rfl, ?_, ⟨nc, nh, nk, np + 1, dy, ah, pl, ?_⟩, (frM.u.trans frM.u).trans (frM.u.trans frM.u)⟩
          · rw [u_i, p_s1]
          · have hT : ∀ q j, q < 26 ∨ 29 < q → z_u (z_u (z_u (z_u T 27 np a) 28 np b) 29 np c) 26 0 (nI (np + 1)) q j = T q j := by
              intro q j hq
              rw [u_o (by omega), u_o (by omega), u_o (by omega), u_o (by omega)]
            have hn : ∀ i, i ≠ 3 → i < 447 → z_u (z_u (z_u (z_u m 1 (447 + 3 * np) a) 1 (447 + 3 * np + 1) b) 1 (447 + 3 * np + 2) c) 1 3 (nI (np + 1)) 1 i = m 1 i := by
              intro i hi h4
              rw [u_n hi, u_n (by omega), u_n (by omega), u_n (by omega)]
            refine ⟨rC_congr hC (hn 0 (by omega) (by omega)) (fun i h1 h2 => hn i (by omega) (by omega)) (hT 2 0 (by omega)) (fun q x y j hj => hT q j (by omega)), rH_congr hH (hn 1 (by omega) (by omega)) (hT 11 0 (by omega)) (fun i h1 h2 => hn i (by omega) (by omega)) (fun q x y j hj => hT q j (by omega)), fun j hj => by rw [hT 25 j (by omega)]; exact hO j hj,
              rK_congr hK (hn 2 (by omega) (by omega)) (hT 30 0 (by omega)) (fun q x y j hj => hT q j (by omega)) (fun i h1 h2 => hn i (by omega) (by omega)), ⟨u_i, by omega, u_i, fun j hj => ?_⟩,
              rS_congr hS (hT 0 0 (by omega)) (hT 0 1 (by omega)) (hT 0 2 (by omega)) (hn 4 (by omega) (by omega)) (hn 5 (by omega) (by omega)) (hn 6 (by omega) (by omega)), rA_congr hA (fun j _ => hT 1 j (by omega)) (fun w h1 h2 => sI_congr (fun i hi => hn _ (by omega) (by omega))), fun i h1 h2 => by rw [hn i (by omega) (by omega)]; exact z1 i h1 h2, fun i h1 h2 => by rw [hn i (by omega) (by omega)]; exact z2 i h1 h2⟩
            by_cases hj2 : j = np
            · subst hj2
              refine ⟨?_, ?_, ?_⟩
              · rw [u_o (by omega), u_o (by omega), u_o (by omega), u_i, u_n (by omega), u_n (by omega), u_n (by omega), u_i]
              · rw [u_o (by omega), u_o (by omega), u_i, u_n (by omega), u_n (by omega), u_i]
              · rw [u_o (by omega), u_i, u_n (by omega), u_i]
            · obtain ⟨q1, q2, q3⟩ := hP.2.2.2 j (by omega)
              refine ⟨?_, ?_, ?_⟩
              · rw [u_o (by omega), u_o (by omega), u_o (by omega), u_j hj2, u_n (by omega), u_n (by omega), u_n (by omega), u_n (by omega)]; exact q1
              · rw [u_o (by omega), u_o (by omega), u_j hj2, u_o (by omega), u_n (by omega), u_n (by omega), u_n (by omega), u_n (by omega)]; exact q2
              · rw [u_o (by omega), u_j hj2, u_o (by omega), u_o (by omega), u_n (by omega), u_n (by omega), u_n (by omega), u_n (by omega)]; exact q3
      · rw [p_tbF hr, p_tbF hr]; exact same _
    · rw [p_tbF hq, p_tbF hq]; exact same _
  · rw [p_tbF hp, p_tbF hp]; exact same _
/-! the face's calls -/
theorem ff_pause {x m : z_S} (hR : RX x m) (a b c : Int32) : ∃ r x' m', f_X9_pause a b c x = some (r, x') ∧ f_X10_pause a b c m = some (r, m') ∧ RX x' m' := op1_RX hR (same_pause a b c)
theorem ff_give {x m : z_S} (hR : RX x m) (a b : Int32) : ∃ r x' m', f_X9_give a b x = some (r, x') ∧ f_X10_give a b m = some (r, m') ∧ RX x' m' := op1_RX hR (same_give a b)
theorem ff_giveNone {x m : z_S} (hR : RX x m) (a : Int32) : ∃ r x' m', f_X9_giveNone a x = some (r, x') ∧ f_X10_giveNone a m = some (r, m') ∧ RX x' m' := op1_RX hR (same_giveNone a)
theorem ff_biscuits {x m : z_S} (hR : RX x m) (a b : Int32) : ∃ r x' m', f_X9_biscuits a b x = some (r, x') ∧ f_X10_biscuits a b m = some (r, m') ∧ RX x' m' := op1_RX hR (same_biscuits a b)
theorem x_dog_y {T : z_S} {n : Nat → Int32} {nc nh nk np dy : Nat} {ah pl : Nat → Nat} (h : RT T n nc nh nk np dy ah pl) {k : Nat} {b c : Int32} (hk : k < nh) (hb : b = 0 ∨ (2 ≤ b ∧ b ≤ 9)) (hc : 0 ≤ c ∧ c ≤ 8) : f_X6_changeDog (nI k) b c T = some (n (90 + 14 * k + 4), z_u (z_u T 16 k b) 17 k c) := by
  have hH := h.2.1
  have h24 := hH.1.2.1
  have hp : iX (nI k) nh := ⟨k, hk, rfl⟩
  unfold f_X6_changeDog
  by_cases hb0 : b = 0
  · simp (disch := omega) only [p_let, if_pos hb0, x_hasH hH.2.1 hH.1.2.1, p_b1, p_tbT hp, w_tb, p_tbT hc, p_cki, p_cl]
    rw [if_neg (by decide), (hH.2.2 k hk).1.2.2.2.2.1]
  · have hb2 := hb.resolve_left hb0
    simp (disch := omega) only [p_let, if_neg hb0, p_tbT hb2, x_hasH hH.2.1 hH.1.2.1, p_b1, p_tbT hp, w_tb, p_tbT hc, p_cki, p_cl]
    rw [if_neg (by decide), (hH.2.2 k hk).1.2.2.2.2.1]
theorem x_dog_n {T : z_S} {n : Nat → Int32} {nc nh nk np dy : Nat} {ah pl : Nat → Nat} (h : RT T n nc nh nk np dy ah pl) {a b c : Int32} (hn : ¬ (iX a nh ∧ (b = 0 ∨ (2 ≤ b ∧ b ≤ 9)) ∧ (0 ≤ c ∧ c ≤ 8))) : f_X6_changeDog a b c T = some (-1, T) := by
  have hH := h.2.1
  unfold f_X6_changeDog
  by_cases hp : iX a nh
  · by_cases hb0 : b = 0
    · have hc : ¬ (0 ≤ c ∧ c ≤ 8) := fun q => hn ⟨hp, Or.inl hb0, q⟩
      simp only [p_let, if_pos hb0, x_hasH hH.2.1 hH.1.2.1, p_b1, p_tbT hp, w_tb, p_tbF hc]
      rw [if_neg (by decide)]
    · by_cases hb2 : 2 ≤ b ∧ b ≤ 9
      · have hc : ¬ (0 ≤ c ∧ c ≤ 8) := fun q => hn ⟨hp, Or.inr hb2, q⟩
        simp only [p_let, if_neg hb0, p_tbT hb2, x_hasH hH.2.1 hH.1.2.1, p_b1, p_tbT hp, w_tb, p_tbF hc]
        rw [if_neg (by decide)]
      · simp only [p_let, if_neg hb0, p_tbF hb2, x_hasH hH.2.1 hH.1.2.1, p_b1, p_tbT hp, w_tb]
        rw [if_pos trivial]
  · by_cases hb0 : b = 0
    · simp only [p_let, if_pos hb0, x_hasH hH.2.1 hH.1.2.1, p_b1, p_tbF hp, w_tb]
    · by_cases hb2 : 2 ≤ b ∧ b ≤ 9
      · simp only [p_let, if_neg hb0, p_tbT hb2, x_hasH hH.2.1 hH.1.2.1, p_b1, p_tbF hp, w_tb]
      · simp only [p_let, if_neg hb0, p_tbF hb2, x_hasH hH.2.1 hH.1.2.1, p_b1, p_tbF hp, w_tb]
theorem ff_dog {x m : z_S} (hR : RX x m) (a b c : Int32) : ∃ r x' m', f_X9_dog a b c x = some (r, x') ∧ f_X10_dog a b c m = some (r, m') ∧ RX x' m' := by
  have hR0 := hR
  obtain ⟨⟨nc, nh, nk, np, dy, ah, pl, h⟩, -⟩ := hR
  have hb := h.2.1
  have h24 := hb.1.2.1
  by_cases hg : iX a nh ∧ (b = 0 ∨ (2 ≤ b ∧ b ≤ 9)) ∧ (0 ≤ c ∧ c ≤ 8)
  · obtain ⟨hp, hbb, hc⟩ := hg
    obtain ⟨m1, n1, n2, n3⟩ := m_notes' m
    have e1 : m1 1 = m 1 := n2 1 (by omega)
    have hp0 := hp
    obtain ⟨k, hk, rfl⟩ := hp
    have hRT : RT (z_u (z_u (fun q => x (zi_X_T q)) 16 k b) 17 k c) (z_u (z_u m1 1 (90 + 14 * k + 4) b) 1 (90 + 14 * k + 5) c 1) nc nh nk np dy ah pl := by
      refine h.house (k := k) hk (fun q j hq => ?_) (fun i h1 h2 h3 => by rw [u_n h3, u_n h2, e1]) ?_ ?_ ?_ ?_
      · by_cases e7 : q = 17
        · subst e7
          rw [u_j (by omega), u_o (by omega)]
        · rw [u_o e7]
          by_cases e6 : q = 16
          · subst e6
            rw [u_j (by omega)]
          · rw [u_o e6]
      · rw [u_o (by omega), u_o (by omega), u_n (by omega), u_n (by omega), e1]; exact (hb.2.2 k hk).1.2.2.2.1
      · rw [u_o (by omega), u_i, u_n (by omega), u_i]
      · rw [u_i, u_i]
      · rw [u_n (by omega), u_n (by omega), e1]; exact (hb.2.2 k hk).2.2.2.1
    obtain ⟨x', m', q1, q2, q3⟩ := op2_RX hR0 (g := f_X6_changeDog (nI k) b c) (x_dog_y h hk hbb hc) (m1 := m1) (m2 := z_u (z_u m1 1 (90 + 14 * k + 4) b) 1 (90 + 14 * k + 5) c) n2 n3 (frM.u.trans frM.u) ⟨nc, nh, nk, np, dy, ah, pl, hRT⟩
    refine ⟨_, x', m', q1, ?_, q3⟩
    unfold f_X10_dog
    by_cases hb0 : b = 0
    · simp (disch := omega) only [m_isHouse hb.1.1 hb.1.2.1, p_b1, p_tbT hp0, p_let, if_pos hb0, m_tb, p_tbT hc, n1, zl_4, zl_5, m_of, m_lays, e1]
      exact q2
    · have hb2 := hbb.resolve_left hb0
      simp (disch := omega) only [m_isHouse hb.1.1 hb.1.2.1, p_b1, p_tbT hp0, p_let, if_neg hb0, m_tb, p_tbT hb2, p_tbT hc, n1, zl_4, zl_5, m_of, m_lays, e1]
      exact q2
  · obtain ⟨x', q1, q2⟩ := op0_RX hR0 (r := -1) (by decide) (x_dog_n h hg)
    refine ⟨-1, x', m, q1, ?_, q2⟩
    unfold f_X10_dog
    by_cases hp : iX a nh
    · by_cases hb0 : b = 0
      · have hc : ¬ (0 ≤ c ∧ c ≤ 8) := fun q => hg ⟨hp, Or.inl hb0, q⟩
        simp only [m_isHouse hb.1.1 hb.1.2.1, p_b1, p_tbT hp, p_let, if_pos hb0, m_tb, p_tbF hc]
      · by_cases hb2 : 2 ≤ b ∧ b ≤ 9
        · have hc : ¬ (0 ≤ c ∧ c ≤ 8) := fun q => hg ⟨hp, Or.inr hb2, q⟩
          simp only [m_isHouse hb.1.1 hb.1.2.1, p_b1, p_tbT hp, p_let, if_neg hb0, m_tb, p_tbT hb2, p_tbF hc]
        · simp only [m_isHouse hb.1.1 hb.1.2.1, p_b1, p_tbT hp, p_let, if_neg hb0, m_tb, p_tbF hb2]
    · simp only [m_isHouse hb.1.1 hb.1.2.1, p_b1, p_tbF hp]
