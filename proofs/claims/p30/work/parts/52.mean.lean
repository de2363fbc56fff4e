/-! THE PURE PART. 40: shares and means of both -/
section SHARE
variable {x m T : z_S} {n : Nat → Int32} {nk dy : Nat}
theorem due_of {h : Nat} (hr : rH1 T n nk dy h) (hdy : dy ≤ 1000) : ∃ a b, a ≤ b ∧ b ≤ 5000 ∧ n (90 + 14 * h + 6) = nI a ∧ T 18 h = nI a ∧ (T 18 h + T 20 h) + T 21 h = nI b ∧ ((n (90 + 14 * h + 6) + n (90 + 14 * h + 8)) + n (90 + 14 * h + 9)) + n (90 + 14 * h + 10) = nI b := by
  obtain ⟨-, ⟨e18, e19, e20, e21, -⟩, -, -, ⟨a, b, c, d, f6, f8, f9, f10, hs⟩, -⟩ := hr
  refine ⟨a, a + b + c + d, by omega, by omega, f6, e18.trans f6, ?_, ?_⟩
  · rw [e18, e20, e21, f6, f8, f9, f10, nI_add, nI_add, nI_add, Nat.add_assoc a b c]
  · rw [f6, f8, f9, f10, nI_add, nI_add, nI_add]
theorem x_due {h b : Nat} (hh : h < 24) (e : (T 18 h + T 20 h) + T 21 h = nI b) : f_X2_papersDue (nI h) T = some (nI b) := by
  unfold f_X2_papersDue
  rw [p_cki hh (by omega), p_cki hh (by omega), p_cki hh (by omega), p_cl (by omega), e]
theorem m_due {h b : Nat} (hh : h < 24) (e : ((m 1 (90 + 14 * h + 6) + m 1 (90 + 14 * h + 8)) + m 1 (90 + 14 * h + 9)) + m 1 (90 + 14 * h + 10) = nI b) : f_X10_dueOf (nI h) m = some (nI b) := by
  unfold f_X10_dueOf
  rw [zl_6, m_of (by omega), p_b1, zl_8, m_of (by omega), p_b1, zl_9, m_of (by omega), p_b1, zl_10, m_of (by omega), p_b1, e]
theorem x_share {h a b : Nat} (hh : h < 24) (e18 : T 18 h = nI a) (e : (T 18 h + T 20 h) + T 21 h = nI b) (hab : a ≤ b) (hb : 1 ≤ b) (hb2 : b ≤ 5000) : f_X2_share (nI h) T = some (FP.fdiv (FP.i2f (nI a)) (FP.i2f (nI b))) := by
  obtain ⟨-, c, q, hf⟩ := share_of hab hb hb2
  unfold f_X2_share
  rw [x_due hh e, p_b1, if_neg (fun w => by have := (nI_z (by omega)).mp w; omega), p_cki hh (by omega), p_cl (by omega), e18, p_f32 hf]
theorem m_share {h a b : Nat} (hh : h < 24) (e6 : m 1 (90 + 14 * h + 6) = nI a) (e : ((m 1 (90 + 14 * h + 6) + m 1 (90 + 14 * h + 8)) + m 1 (90 + 14 * h + 9)) + m 1 (90 + 14 * h + 10) = nI b) (hab : a ≤ b) (hb : 1 ≤ b) (hb2 : b ≤ 5000) : f_X10_shareOf (nI h) m = some (FP.fdiv (FP.i2f (nI a)) (FP.i2f (nI b))) := by
  obtain ⟨-, c, q, hf⟩ := share_of hab hb hb2
  unfold f_X10_shareOf
  rw [zl_6, m_of (by omega), p_b1, e6, m_due hh e, p_b1, p_f32 hf]
end SHARE
set_option maxHeartbeats 4000000 in
theorem ff_shareBits {x m : z_S} (hR : RX x m) (a : Int32) : ∃ r, f_X9_shareBits a x = some r ∧ f_X10_shareBits a m = some r := by
  obtain ⟨⟨nc, nh, nk, np, dy, ah, pl, hC, hH, hO, hK, hP, hS, hA, z1, z2⟩, -⟩ := hR
  have h24 := hH.1.2.1
  have hdy := hS.1.2.1
  unfold f_X9_shareBits f_X10_shareBits
  rw [x_hasH hH.2.1 h24, m_isHouse hH.1.1 h24, p_b1, p_b1]
  by_cases ha : iX a nh
  · rw [p_tbT ha, p_tbT ha]
    obtain ⟨h, hh, rfl⟩ := ha
    obtain ⟨u, b, hub, hb, e6, e18, ex, em⟩ := due_of (hH.2.2 h hh) hdy
    rw [x_due (T := fun k => x (zi_X_T k)) (by omega) ex, m_due (by omega) em, p_b1, p_b1]
    by_cases hz : b = 0
    · rw [if_pos (by rw [hz]; rfl), if_pos (by rw [hz]; rfl)]
      exact ⟨_, rfl, rfl⟩
    · rw [if_neg (nI_ne0 (by omega) (by omega)), if_neg (nI_ne0 (by omega) (by omega)), x_share (T := fun k => x (zi_X_T k)) (by omega) e18 ex hub (by omega) hb, m_share (by omega) e6 em hub (by omega) hb, p_b1, p_b1]
      obtain ⟨v, v1, v2⟩ := bits_same (fSh.share (share_of hub (by omega) hb).1) x m
      rw [v1, v2, p_b1]
      exact ⟨_, rfl, rfl⟩
  · rw [p_tbF ha, p_tbF ha]
    exact ⟨_, rfl, rfl⟩
set_option maxHeartbeats 4000000 in
theorem ff_meanBits {x m : z_S} (hR : RX x m) : ∃ r, f_X9_meanBits x = some r ∧ f_X10_meanBits m = some r := by
  obtain ⟨⟨nc, nh, nk, np, dy, ah, pl, hC, hH, hO, hK, hP, hS, hA, z1, z2⟩, -⟩ := hR
  have h24 := hH.1.2.1
  have hdy := hS.1.2.1
  have h203 : x 203 0 = nI nh := hH.2.1
  unfold f_X9_meanBits f_X10_meanBits
  rw [p_let, p_let]
  have key : ∀ (r i k M : Nat) (d : UInt64) (f f' : Nat), i + r = nh → k ≤ i → M ≤ k * 2 ^ 36 → v64 d M → r < f → r < f' → ∃ v, z_lp3 (lb_X9_meanBits_7 x) f d (nI k) (nI i) = some v ∧ z_lp3 (lb_X10_meanBits_7 m) f' d (nI k) (nI i) = some v := by
    intro r
    induction r with
    | zero =>
      intro i k M d f f' hi hk hM hd hf hf'
      obtain ⟨f, rfl⟩ : ∃ w, f = w + 1 := ⟨f - 1, by omega⟩
      obtain ⟨f', rfl⟩ : ∃ w, f' = w + 1 := ⟨f' - 1, by omega⟩
      obtain rfl : i = nh := by omega
      show ∃ v, lb_X9_meanBits_7 x _ d (nI k) (nI i) = some v ∧ lb_X10_meanBits_7 m _ d (nI k) (nI i) = some v
      unfold lb_X9_meanBits_7 lb_X10_meanBits_7
      rw [h203, if_pos (Int32.le_refl _), k_1, c_1, hH.1.1, if_pos (Int32.le_refl _)]
      by_cases hz : k = 0
      · rw [if_pos (by rw [hz]; rfl), if_pos (by rw [hz]; rfl)]
        exact ⟨_, rfl, rfl⟩
      · obtain ⟨⟨c1, q1, g1⟩, ⟨c2, q2, g2⟩, g3⟩ := mean_of hd (n := k) (by omega) (by omega) hM
        obtain ⟨v, v1, v2⟩ := bits_same g3 x m
        rw [if_neg (nI_ne0 (by omega) (by omega)), if_neg (nI_ne0 (by omega) (by omega)), p_f64 g1, p_f32 g2, p_f64 g1, p_f32 g2, v1, v2, p_b1]
        exact ⟨_, rfl, rfl⟩
    | succ r ih =>
      intro i k M d f f' hi hk hM hd hf hf'
      obtain ⟨f, rfl⟩ : ∃ w, f = w + 1 := ⟨f - 1, by omega⟩
      obtain ⟨f', rfl⟩ : ∃ w, f' = w + 1 := ⟨f' - 1, by omega⟩
      obtain ⟨u, b, hub, hb, e6, e18, ex, em⟩ := due_of (hH.2.2 i (by omega)) hdy
      show ∃ v, lb_X9_meanBits_7 x (z_lp3 (lb_X9_meanBits_7 x) f) d (nI k) (nI i) = some v ∧ lb_X10_meanBits_7 m (z_lp3 (lb_X10_meanBits_7 m) f') d (nI k) (nI i) = some v
      by_cases hz : b = 0
      · have s1 : ∀ kk, lb_X9_meanBits_7 x kk d (nI k) (nI i) = kk d (nI k) (nI (i + 1)) := by
          intro kk
          unfold lb_X9_meanBits_7
          rw [h203, if_neg (nI_ge (b := nh) (a := i) (by omega) (by omega)), x_due (T := fun k => x (zi_X_T k)) (by omega) ex, p_b1, p_let, if_pos ((nI_z (by omega)).mpr hz)]
          dsimp only
          rw [p_let, zl_1, nI_add]
        have s2 : ∀ kk, lb_X10_meanBits_7 m kk d (nI k) (nI i) = kk d (nI k) (nI (i + 1)) := by
          intro kk
          unfold lb_X10_meanBits_7
          rw [k_1, c_1, hH.1.1, if_neg (nI_ge (b := nh) (a := i) (by omega) (by omega)), m_due (by omega) em, p_b1, p_let, if_pos ((nI_z (by omega)).mpr hz)]
          dsimp only
          rw [p_let, zl_1, nI_add]
        rw [s1, s2]
        exact ih (i + 1) k M d f f' (by omega) (by omega) hM hd (by omega) (by omega)
      · obtain ⟨g1, -⟩ := share_of (a := u) (b := b) hub (by omega) hb
        obtain ⟨S, hS36, hS⟩ := v64_share g1
        have hadd := v64_add hd hS (by omega)
        obtain ⟨c1, q1, g2⟩ := v64_f hS
        obtain ⟨c2, q2, g3⟩ := v64_f hadd
        have s1 : ∀ kk, lb_X9_meanBits_7 x kk d (nI k) (nI i) = kk (FP.dadd d (FP.f2d (FP.fdiv (FP.i2f (nI u)) (FP.i2f (nI b))))) (nI (k + 1)) (nI (i + 1)) := by
          intro kk
          unfold lb_X9_meanBits_7
          rw [h203, if_neg (nI_ge (b := nh) (a := i) (by omega) (by omega)), x_due (T := fun k => x (zi_X_T k)) (by omega) ex, p_b1, p_let, if_neg (fun w => hz ((nI_z (by omega)).mp w)), x_share (T := fun k => x (zi_X_T k)) (by omega) e18 ex hub (by omega) hb, p_b1, p_f64 g2, p_f64 g3, p_let, p_let]
          dsimp only
          rw [p_let, zl_1, nI_add, nI_add]
        have s2 : ∀ kk, lb_X10_meanBits_7 m kk d (nI k) (nI i) = kk (FP.dadd d (FP.f2d (FP.fdiv (FP.i2f (nI u)) (FP.i2f (nI b))))) (nI (k + 1)) (nI (i + 1)) := by
          intro kk
          unfold lb_X10_meanBits_7
          rw [k_1, c_1, hH.1.1, if_neg (nI_ge (b := nh) (a := i) (by omega) (by omega)), m_due (by omega) em, p_b1, p_let, if_neg (fun w => hz ((nI_z (by omega)).mp w)), m_share (by omega) e6 em hub (by omega) hb, p_b1, p_f64 g2, p_f64 g3, p_let, p_let]
          dsimp only
          rw [p_let, zl_1, nI_add, nI_add]
        rw [s1, s2]
        exact ih (i + 1) (k + 1) (M + S) _ f f' (by omega) (by omega) (by omega) hadd (by omega) (by omega)
  exact key nh 0 0 0 _ z_Fu z_Fu (by omega) (by omega) (by omega) (Or.inl ⟨rfl, f64_0⟩) (by show nh < 4096; omega) (by show nh < 4096; omega)
