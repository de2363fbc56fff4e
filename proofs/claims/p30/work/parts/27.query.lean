/-! THE PURE PART. 15: what is asked -/
/-- a house's subscription is paused on a day -/
def pz (n : Nat → Int32) (np : Nat) (h d : Int32) : Prop := ∃ k, k < np ∧ n (447 + 3 * k) = h ∧ n (447 + 3 * k + 1) ≤ d ∧ d ≤ n (447 + 3 * k + 2)
theorem pz_s {n : Nat → Int32} {k : Nat} {h d : Int32} : pz n (k + 1) h d ↔ pz n k h d ∨ (n (447 + 3 * k) = h ∧ n (447 + 3 * k + 1) ≤ d ∧ d ≤ n (447 + 3 * k + 2)) := by
  constructor
  · rintro ⟨j, hj, q⟩
    by_cases e : j = k
    · subst e; exact Or.inr q
    · exact Or.inl ⟨j, by omega, q⟩
  · rintro (⟨j, hj, q⟩ | q)
    · exact ⟨j, by omega, q⟩
    · exact ⟨k, by omega, q⟩
theorem pz_0 {n : Nat → Int32} {h d : Int32} : ¬ pz n 0 h d := fun ⟨j, hj, _⟩ => by omega
theorem x_cover {T : z_S} {n : Nat → Int32} {np : Nat} {h d : Int32} (hP : rP T n np) : f_X3_cover h d T = some (tb (pz n np h d)) := by
  obtain ⟨p0, p1, p2, p3⟩ := hP
  unfold f_X3_cover
  refine p_run1 (fun i y => y = nI i ∧ ¬ pz n i h d) np (by omega) ⟨rfl, pz_0⟩ ?_ ?_
  · rintro i y hi ⟨rfl, hn⟩
    obtain ⟨q1, q2, q3⟩ := p3 i hi
    by_cases hm : n (447 + 3 * i) = h ∧ n (447 + 3 * i + 1) ≤ d ∧ d ≤ n (447 + 3 * i + 2)
    · right
      intro k
      have hp : pz n np h d := ⟨i, hi, hm⟩
      unfold lb_X3_cover_2
      rw [p2, if_neg (nI_ge hi (by omega)), p_cki (by omega) (by omega), p_let, p_cl (by omega), q1, if_pos hm.1, p_cki (by omega) (by omega), q2, if_neg (Int32.not_lt.mpr hm.2.1), p_cki (by omega) (by omega), q3, if_neg (Int32.not_lt.mpr hm.2.2), tb_t hp]
      rfl
    · left
      refine ⟨nI (i + 1), ⟨rfl, fun q => (pz_s.mp q).elim hn hm⟩, fun k => ?_⟩
      unfold lb_X3_cover_2
      rw [p2, if_neg (nI_ge hi (by omega)), p_cki (by omega) (by omega), p_let, p_cl (by omega), q1, q2, q3, p_cki (by omega) (by omega), p_cki (by omega) (by omega)]
      by_cases h1 : n (447 + 3 * i) = h
      · rw [if_pos h1]
        by_cases h2 : d < n (447 + 3 * i + 1)
        · rw [if_pos h2, p_let, zl_1, nI_add]
        · rw [if_neg h2]
          by_cases h3 : n (447 + 3 * i + 2) < d
          · rw [if_pos h3, p_let, zl_1, nI_add]
          · exact absurd ⟨h1, Int32.not_lt.mp h2, Int32.not_lt.mp h3⟩ hm
      · rw [if_neg h1, p_let, zl_1, nI_add]
  · rintro y ⟨rfl, hn⟩ k
    unfold lb_X3_cover_2
    rw [p2, if_pos (nI_le (Nat.le_refl _) (by omega)), tb_f hn]
    rfl
theorem m_isPaused {T m : z_S} {np : Nat} {h d : Int32} (hP : rP T (m 1) np) : f_X10_isPaused h d m = some (tb (pz (m 1) np h d)) := by
  obtain ⟨p0, p1, p2, p3⟩ := hP
  unfold f_X10_isPaused
  refine p_run2 (fun i y z => y = tb (pz (m 1) i h d) ∧ z = nI i) np (by omega) ⟨(tb_f pz_0).symm, rfl⟩ ?_ ?_
  · rintro i y z hi ⟨rfl, rfl⟩
    left
    refine ⟨_, _, ⟨rfl, rfl⟩, fun k => ?_⟩
    unfold lb_X10_isPaused_5
    rw [k_3, c_3, p0, if_neg (nI_ge hi (by omega)), zl_447, zl_3, pk_mul, nI_add, p_let, p_let, p_let]
    by_cases h0 : pz (m 1) i h d
    · rw [tb_t h0, if_neg (by decide), tb_t (pz_s.mpr (Or.inl h0))]
      dsimp only
      rw [p_let, zl_1, nI_add]
    · rw [tb_f h0, if_pos (by decide), p_cki (by omega) (by omega), p_let, p_cl (by omega)]
      by_cases h1 : m 1 (447 + 3 * i) = h
      · rw [if_pos h1, zl_1, zl_2, nI_add, nI_add, p_cki (by omega) (by omega), p_cki (by omega) (by omega), p_cl (by omega), p_cl (by omega), m_tb, p_b1]
        by_cases h2 : m 1 (447 + 3 * i + 1) ≤ d ∧ d ≤ m 1 (447 + 3 * i + 2)
        · rw [p_tbT h2, tb_t (pz_s.mpr (Or.inr ⟨h1, h2⟩))]
          dsimp only
          rw [p_let, nI_add]
        · rw [p_tbF h2, tb_f (fun q => (pz_s.mp q).elim h0 (fun w => h2 w.2))]
          dsimp only
          rw [p_let, nI_add]
          rfl
      · rw [if_neg h1, tb_f (fun q => (pz_s.mp q).elim h0 (fun w => h1 w.1))]
        dsimp only
        rw [p_let, zl_1, nI_add]
        rfl
  · rintro y z ⟨rfl, rfl⟩ k
    unfold lb_X10_isPaused_5
    rw [k_3, c_3, p0, if_pos (nI_le (Nat.le_refl _) (by omega)), tb_z]
/-- a house's dog is out on a day -/
def oX (n : Nat → Int32) (h : Nat) (d : Int32) : Prop := 0 < n (90 + 14 * h + 4) ∧ d - d / n (90 + 14 * h + 4) * n (90 + 14 * h + 4) = n (90 + 14 * h + 5) - n (90 + 14 * h + 5) / n (90 + 14 * h + 4) * n (90 + 14 * h + 4)
theorem ne0_of {v : Int32} (h : ¬ v ≤ 0) : ¬ v = 0 := fun e => h (by rw [e]; exact Int32.le_refl _)
theorem x_out {T : z_S} {n : Nat → Int32} {h : Nat} {d : Int32} (hh : h < 24) (e4 : T 16 h = n (90 + 14 * h + 4)) (e5 : T 17 h = n (90 + 14 * h + 5)) : f_X2_dogIsOut (nI h) d T = some (tb (oX n h d)) := by
  unfold f_X2_dogIsOut
  rw [p_cki (by omega) (by omega), p_let, p_cl (by omega), e4, e5]
  by_cases h0 : n (90 + 14 * h + 4) ≤ 0
  · rw [if_pos h0, tb_f (fun q => absurd q.1 (Int32.not_lt.mpr h0))]; rfl
  · rw [if_neg h0, p_ck (ne0_of h0), p_cki (by omega) (by omega), p_ck (ne0_of h0)]
    by_cases h1 : d - d / n (90 + 14 * h + 4) * n (90 + 14 * h + 4) = n (90 + 14 * h + 5) - n (90 + 14 * h + 5) / n (90 + 14 * h + 4) * n (90 + 14 * h + 4)
    · rw [if_pos h1, tb_t ⟨Int32.not_le.mp h0, h1⟩]; rfl
    · rw [if_neg h1, tb_f (fun q => h1 q.2)]; rfl
theorem m_out {m : z_S} {h : Nat} {d : Int32} (hh : h < 24) : f_X10_isOut (nI h) d m = some (tb (oX (m 1) h d)) := by
  unfold f_X10_isOut
  rw [zl_4, m_of (by omega), p_b1, zl_5, m_of (by omega)]
  by_cases h0 : m 1 (90 + 14 * h + 4) ≤ 0
  · rw [if_pos h0, tb_f (fun q => absurd q.1 (Int32.not_lt.mpr h0))]; rfl
  · rw [if_neg h0, p_ck (ne0_of h0), p_b1, p_ck (ne0_of h0)]
    by_cases h1 : d - d / m 1 (90 + 14 * h + 4) * m 1 (90 + 14 * h + 4) = m 1 (90 + 14 * h + 5) - m 1 (90 + 14 * h + 5) / m 1 (90 + 14 * h + 4) * m 1 (90 + 14 * h + 4)
    · rw [if_pos h1, tb_t ⟨Int32.not_le.mp h0, h1⟩]; rfl
    · rw [if_neg h1, tb_f (fun q => h1 q.2)]; rfl
/-! sums of the face -/
theorem x_allComplaints {T : z_S} {n : Nat → Int32} {nh : Nat} (h11 : T 11 0 = nI nh) (h24 : nh ≤ 24) (hT : ∀ h, h < nh → T 22 h = n (90 + 14 * h + 11)) : f_X2_allComplaints T = some (rSum n nh 11) := by
  unfold f_X2_allComplaints
  refine p_run2 (fun i acc x => acc = rSum n i 11 ∧ x = nI i) nh (by omega) ⟨rfl, rfl⟩ ?_ ?_
  · rintro i acc x hi ⟨rfl, rfl⟩
    refine Or.inl ⟨_, _, ⟨rfl, rfl⟩, fun k => ?_⟩
    unfold lb_X2_allComplaints_4
    rw [h11, if_neg (nI_ge hi (by omega)), p_cki (by omega) (by omega), p_let, p_let, p_cl (by omega), hT i hi, zl_1, nI_add]
    rfl
  · rintro acc x ⟨rfl, rfl⟩ k
    unfold lb_X2_allComplaints_4
    rw [h11, if_pos (nI_le (Nat.le_refl _) (by omega))]
theorem x_allTips {T : z_S} {n : Nat → Int32} {nk : Nat} (hK : rK T n nk) : f_X0_allTips T = some (sI (fun c => n (426 + 7 * c + 5)) nk) := by
  obtain ⟨k0, k1, k2, k3⟩ := hK
  unfold f_X0_allTips
  refine p_run2 (fun i acc x => acc = sI (fun c => n (426 + 7 * c + 5)) i ∧ x = nI i) nk (by omega) ⟨rfl, rfl⟩ ?_ ?_
  · rintro i acc x hi ⟨rfl, rfl⟩
    refine Or.inl ⟨_, _, ⟨rfl, rfl⟩, fun k => ?_⟩
    unfold lb_X0_allTips_4
    rw [k2, if_neg (nI_ge hi (by omega)), p_cki (by omega) (by omega), p_let, p_let, p_cl (by omega), (k3 i hi).2.2.2.2.2.1, zl_1, nI_add]
    rfl
  · rintro acc x ⟨rfl, rfl⟩ k
    unfold lb_X0_allTips_4
    rw [k2, if_pos (nI_le (Nat.le_refl _) (by omega))]
theorem m_tipsAll {T m : z_S} {nk : Nat} (hK : rK T (m 1) nk) : f_X10_tipsAll m = some (sI (fun c => m 1 (426 + 7 * c + 5)) nk) := by
  obtain ⟨k0, k1, k2', k3⟩ := hK
  unfold f_X10_tipsAll
  refine p_run2 (fun i acc x => acc = sI (fun c => m 1 (426 + 7 * c + 5)) i ∧ x = nI i) nk (by omega) ⟨rfl, rfl⟩ ?_ ?_
  · rintro i acc x hi ⟨rfl, rfl⟩
    refine Or.inl ⟨_, _, ⟨rfl, rfl⟩, fun k => ?_⟩
    unfold lb_X10_tipsAll_4
    rw [k_2, c_2, k0, if_neg (nI_ge hi (by omega)), zl_5, m_ofCarrier (by omega), p_b1, p_let, p_let, zl_1, nI_add]
    rfl
  · rintro acc x ⟨rfl, rfl⟩ k
    unfold lb_X10_tipsAll_4
    rw [k_2, c_2, k0, if_pos (nI_le (Nat.le_refl _) (by omega))]
noncomputable def sPz (n : Nat → Int32) (np : Nat) (d : Int32) (nh : Nat) : Int32 := sI (fun h => tb (pz n np (nI h) d)) nh
theorem x_housesPaused {T : z_S} {n : Nat → Int32} {nh np dy : Nat} (h11 : T 11 0 = nI nh) (h24 : nh ≤ 24) (hP : rP T n np) (hd : T 0 0 = nI dy) : f_X6_housesPaused T = some (sPz n np (nI dy) nh) := by
  unfold f_X6_housesPaused
  refine p_run2 (fun i acc x => acc = sPz n np (nI dy) i ∧ x = nI i) nh (by omega) ⟨rfl, rfl⟩ ?_ ?_
  · rintro i acc x hi ⟨rfl, rfl⟩
    refine Or.inl ⟨_, _, ⟨rfl, rfl⟩, fun k => ?_⟩
    unfold lb_X6_housesPaused_4
    rw [h11, if_neg (nI_ge hi (by omega)), hd, x_cover hP, p_b1, p_let]
    simp only [sPz, sI]
    by_cases h : pz n np (nI i) (nI dy)
    · rw [p_tbT h, tb_t h, p_let, p_let, zl_1, nI_add]
    · rw [p_tbF h, tb_f h, p_let, zl_1, nI_add, nI_0, Int32.add_zero]
  · rintro acc x ⟨rfl, rfl⟩ k
    unfold lb_X6_housesPaused_4
    rw [h11, if_pos (nI_le (Nat.le_refl _) (by omega))]
theorem m_pausedNow {T m : z_S} {nh np dy : Nat} (h1 : m 1 1 = nI nh) (h24 : nh ≤ 24) (hP : rP T (m 1) np) (hd : m 1 4 = nI dy) : f_X10_pausedNow m = some (sPz (m 1) np (nI dy) nh) := by
  unfold f_X10_pausedNow
  refine p_run2 (fun i acc x => acc = sPz (m 1) np (nI dy) i ∧ x = nI i) nh (by omega) ⟨rfl, rfl⟩ ?_ ?_
  · rintro i acc x hi ⟨rfl, rfl⟩
    refine Or.inl ⟨_, _, ⟨rfl, rfl⟩, fun k => ?_⟩
    unfold lb_X10_pausedNow_4
    rw [k_1, c_1, h1, if_neg (nI_ge hi (by omega)), k_4, c_4, hd, m_isPaused hP, p_b1, p_let]
    simp only [sPz, sI]
    by_cases h : pz (m 1) np (nI i) (nI dy)
    · rw [p_tbT h, tb_t h, p_let, p_let, zl_1, nI_add]
    · rw [p_tbF h, tb_f h, p_let, p_let, zl_1, nI_add]; rfl
  · rintro acc x ⟨rfl, rfl⟩ k
    unfold lb_X10_pausedNow_4
    rw [k_1, c_1, h1, if_pos (nI_le (Nat.le_refl _) (by omega))]
theorem ff_count {x m : z_S} (hR : RX x m) (a : Int32) : ∃ r, f_X9_count a x = some r ∧ f_X10_count a m = some r := by
  obtain ⟨⟨nc, nh, nk, np, dy, ah, pl, hC, hH, hO, hK, hP, hS, hA, z1, z2⟩, ⟨kp, o, hh⟩, hw, L, ht⟩ := hR
  have h20 := hC.1.2.2.1
  have h24 := hH.1.2.1
  unfold f_X9_count f_X10_count
  by_cases a0 : a = 0
  · rw [if_pos a0, if_pos a0, a0, k_0, c_0, hC.1.1]; exact ⟨_, congrArg some hC.2.1, rfl⟩
  rw [if_neg a0, if_neg a0]
  by_cases a1 : a = 1
  · rw [if_pos a1, if_pos a1, a1, k_1, c_1, hH.1.1]; exact ⟨_, congrArg some hH.2.1, rfl⟩
  rw [if_neg a1, if_neg a1]
  by_cases a2 : a = 2
  · rw [if_pos a2, if_pos a2, a2, k_2, c_2, hK.1]; exact ⟨_, congrArg some hK.2.2.1, rfl⟩
  rw [if_neg a2, if_neg a2]
  by_cases a3 : a = 3
  · rw [if_pos a3, if_pos a3, a3, k_3, c_3, hP.1]; exact ⟨_, congrArg some hP.2.2.1, rfl⟩
  rw [if_neg a3, if_neg a3]
  by_cases a4 : a = 4
  · rw [if_pos a4, if_pos a4, a4, k_4, c_4, hS.1.1]; exact ⟨_, congrArg some hS.1.2.2, rfl⟩
  rw [if_neg a4, if_neg a4]
  by_cases a5 : a = 5
  · rw [if_pos a5, if_pos a5, x_manyOf (n := m 1) hH.2.1 h24 (fun j hj => (hH.2.2 j hj).1.2.2.2.1), m_housesOf hH.1.1 h24, p_b1]; exact ⟨_, rfl, rfl⟩
  rw [if_neg a5, if_neg a5]
  by_cases a6 : a = 6
  · rw [if_pos a6, if_pos a6, x_housesPaused hH.2.1 h24 hP hS.1.2.2, m_pausedNow hH.1.1 h24 hP hS.1.1, p_b1]; exact ⟨_, rfl, rfl⟩
  rw [if_neg a6, if_neg a6]
  by_cases a7 : a = 7
  · rw [if_pos a7, if_pos a7, x_allComplaints (n := m 1) hH.2.1 h24 (fun j hj => (hH.2.2 j hj).2.1.2.2.2.2.1), zl_11, m_overHouses (by omega) hH.1.1 h24, p_b1, p_b1]; exact ⟨_, rfl, rfl⟩
  rw [if_neg a7, if_neg a7]
  by_cases a8 : a = 8
  · rw [if_pos a8, if_pos a8, x_allTips hK, m_tipsAll hK, p_b1]; exact ⟨_, rfl, rfl⟩
  rw [if_neg a8, if_neg a8]
  by_cases a9 : a = 9
  · rw [if_pos a9, if_pos a9, hh.2.2.1, hh.2.2.2.2.1]; exact ⟨_, rfl, rfl⟩
  rw [if_neg a9, if_neg a9]
  by_cases a10 : a = 10
  · rw [if_pos a10, if_pos a10, ht.2.1, ht.2.2.1]; exact ⟨_, rfl, rfl⟩
  rw [if_neg a10, if_neg a10, m_tb, p_b1]
  by_cases a20 : a = 20
  · rw [if_pos a20, p_tbT (by rw [a20]; decide), a20]; exact ⟨_, rfl, congrArg some hS.2.1.1.symm⟩
  · rw [if_neg a20]
    by_cases a21 : a = 21
    · rw [if_pos a21, p_tbT (by rw [a21]; decide), a21]; exact ⟨_, rfl, congrArg some hS.2.2.1.symm⟩
    · rw [if_neg a21, p_tbF (fun q => ?_)]
      · exact ⟨_, rfl, rfl⟩
      · obtain ⟨w, hw, rfl⟩ := p_rng (p := a) (H := 21) (hi := 21) rfl (by omega) (by exact Int32.le_trans (by decide) q.1) q.2
        have h1 : 20 ≤ w := (nI_leI (a := 20) (by omega) (by omega)).mp q.1
        have h2 : w = 20 ∨ w = 21 := by omega
        rcases h2 with rfl | rfl
        · exact a20 rfl
        · exact a21 rfl
theorem ff_account {x m : z_S} (hR : RX x m) (a : Int32) : ∃ r, f_X9_account a x = some r ∧ f_X10_account a m = some r := by
  obtain ⟨⟨nc, nh, nk, np, dy, ah, pl, hC, hH, hO, hK, hP, hS, hA, z1, z2⟩, -⟩ := hR
  have h24 := hH.1.2.1
  have ov : ∀ w, w < 14 → f_X10_overHouses (nI w) m = some (rSum (m 1) nh w) := fun w hw => m_overHouses hw hH.1.1 h24
  unfold f_X9_account f_X10_account
  rw [w_tb, p_b1]
  by_cases a0 : a = 0
  · rw [a0, p_tbT (by decide), if_pos rfl, zl_6, ov 6 (by omega), p_b1, zl_7, ov 7 (by omega), p_b1, zl_8, ov 8 (by omega), p_b1, zl_9, ov 9 (by omega), p_b1, zl_10, ov 10 (by omega), p_b1]
    exact ⟨_, congrArg some hA.1, rfl⟩
  rw [if_neg a0]
  by_cases a1 : a = 1
  · rw [a1, p_tbT (by decide), if_pos rfl, show ((6 : Int32) + 1) - 1 = nI 6 from rfl, ov 6 (by omega), p_b1]
    exact ⟨_, congrArg some hA.2.1, rfl⟩
  rw [if_neg a1]
  by_cases a2 : a = 2
  · rw [a2, p_tbT (by decide), if_pos rfl, show ((6 : Int32) + 2) - 1 = nI 7 from rfl, ov 7 (by omega), p_b1]
    exact ⟨_, congrArg some hA.2.2.1, rfl⟩
  rw [if_neg a2]
  by_cases a3 : a = 3
  · rw [a3, p_tbT (by decide), if_pos rfl, show ((6 : Int32) + 3) - 1 = nI 8 from rfl, ov 8 (by omega), p_b1]
    exact ⟨_, congrArg some hA.2.2.2.1, rfl⟩
  rw [if_neg a3]
  by_cases a4 : a = 4
  · rw [a4, p_tbT (by decide), if_pos rfl, show ((6 : Int32) + 4) - 1 = nI 9 from rfl, ov 9 (by omega), p_b1]
    exact ⟨_, congrArg some hA.2.2.2.2.1, rfl⟩
  rw [if_neg a4]
  by_cases a5 : a = 5
  · rw [a5, p_tbT (by decide), if_pos rfl, show ((6 : Int32) + 5) - 1 = nI 10 from rfl, ov 10 (by omega), p_b1]
    exact ⟨_, congrArg some hA.2.2.2.2.2, rfl⟩
  rw [if_neg a5, p_tbF (fun q => ?_)]
  · exact ⟨_, rfl, rfl⟩
  · obtain ⟨w, hw, rfl⟩ := p_rng (p := a) (H := 5) (hi := 5) rfl (by omega) q.1 q.2
    have h2 : w = 0 ∨ w = 1 ∨ w = 2 ∨ w = 3 ∨ w = 4 ∨ w = 5 := by omega
    rcases h2 with rfl | rfl | rfl | rfl | rfl | rfl
    · exact a0 rfl
    · exact a1 rfl
    · exact a2 rfl
    · exact a3 rfl
    · exact a4 rfl
    · exact a5 rfl
theorem ff_nextDog {x m : z_S} (hR : RX x m) (a : Int32) : ∃ r, f_X9_nextDog a x = some r ∧ f_X10_nextDog a m = some r := by
  obtain ⟨⟨nc, nh, nk, np, dy, ah, pl, hC, hH, hO, hK, hP, hS, hA, z1, z2⟩, -⟩ := hR
  have h24 := hH.1.2.1
  have hdy := hS.1.2.1
  unfold f_X9_nextDog f_X10_nextDog
  rw [x_hasH hH.2.1 h24, m_isHouse hH.1.1 h24, p_b1, p_b1]
  by_cases hp : iX a nh
  · rw [p_tbT hp, p_tbT hp, k_4, c_4, hS.1.1, p_let, p_let]
    obtain ⟨k, hk, rfl⟩ := hp
    have h192 : x 192 0 = nI dy := hS.1.2.2
    rw [h192]
    -- what both find
    have main : ∀ g i, i + g = 1000 → ∃ r, (∀ f, g < f → z_lp1 (lb_X9_nextDog_24 (nI k) x) f (nI i) = some r) ∧ ∀ f, g < f → z_lp1 (lb_X10_nextDog_17 (nI k) m) f (nI i) = some r := by
      intro g
      induction g with
      | zero =>
        intro i hi
        refine ⟨-4, fun f hf => ?_, fun f hf => ?_⟩
        · obtain ⟨f', rfl⟩ : ∃ f', f = f' + 1 := ⟨f - 1, by omega⟩
          show lb_X9_nextDog_24 (nI k) x (z_lp1 (lb_X9_nextDog_24 (nI k) x) f') (nI i) = _
          unfold lb_X9_nextDog_24
          rw [if_pos (show (999 : Int32) < nI i from nI_lt (a := 999) (by omega) (by omega))]
        · obtain ⟨f', rfl⟩ : ∃ f', f = f' + 1 := ⟨f - 1, by omega⟩
          show lb_X10_nextDog_17 (nI k) m (z_lp1 (lb_X10_nextDog_17 (nI k) m) f') (nI i) = _
          unfold lb_X10_nextDog_17
          rw [if_pos (show (1000 : Int32) ≤ nI i from nI_le (a := 1000) (by omega) (by omega))]
      | succ g ih =>
        intro i hi
        obtain ⟨r, r1, r2⟩ := ih (i + 1) (by omega)
        have o1 : f_X2_dogIsOut (nI k) (nI i) (fun q => x (zi_X_T q)) = some (tb (oX (m 1) k (nI i))) := x_out (by omega) (hH.2.2 k hk).1.2.2.2.2.1 (hH.2.2 k hk).1.2.2.2.2.2
        have o2 := m_out (m := m) (h := k) (d := nI i) (by omega)
        have c1 : f_X3_cover (nI k) (nI i) (fun q => x (zi_X_T q)) = some (tb (pz (m 1) np (nI k) (nI i))) := x_cover hP
        have c2 : f_X10_isPaused (nI k) (nI i) m = some (tb (pz (m 1) np (nI k) (nI i))) := m_isPaused hP
        have n1 : ¬ (999 : Int32) < nI i := nI_nlt (b := i) (a := 999) (by omega) (by omega)
        have n2 : ¬ (1000 : Int32) ≤ nI i := nI_ge (b := 1000) (a := i) (by omega) (by omega)
        by_cases hg : oX (m 1) k (nI i) ∧ ¬ pz (m 1) np (nI k) (nI i)
        · refine ⟨nI i, fun f hf => ?_, fun f hf => ?_⟩
          · obtain ⟨f', rfl⟩ : ∃ f', f = f' + 1 := ⟨f - 1, by omega⟩
            show lb_X9_nextDog_24 (nI k) x (z_lp1 (lb_X9_nextDog_24 (nI k) x) f') (nI i) = _
            unfold lb_X9_nextDog_24
            rw [if_neg n1, o1, p_b1, p_let, p_tbT hg.1, c1, p_b1, p_tbF hg.2]
          · obtain ⟨f', rfl⟩ : ∃ f', f = f' + 1 := ⟨f - 1, by omega⟩
            show lb_X10_nextDog_17 (nI k) m (z_lp1 (lb_X10_nextDog_17 (nI k) m) f') (nI i) = _
            unfold lb_X10_nextDog_17
            rw [if_neg n2, o2, p_b1, p_let, p_tbT hg.1, c2, p_b1, p_tbF hg.2]
        · refine ⟨r, fun f hf => ?_, fun f hf => ?_⟩
          · obtain ⟨f', rfl⟩ : ∃ f', f = f' + 1 := ⟨f - 1, by omega⟩
            show lb_X9_nextDog_24 (nI k) x (z_lp1 (lb_X9_nextDog_24 (nI k) x) f') (nI i) = _
            have e := r1 f' (by omega)
            unfold lb_X9_nextDog_24 at e ⊢
            rw [if_neg n1, o1, p_b1, p_let, p_let, nI_1]
            by_cases h1 : oX (m 1) k (nI i)
            · rw [p_tbT h1, c1, p_b1, p_tbT (Classical.byContradiction (fun q => hg ⟨h1, q⟩))]; exact e
            · rw [p_tbF h1]; exact e
          · obtain ⟨f', rfl⟩ : ∃ f', f = f' + 1 := ⟨f - 1, by omega⟩
            show lb_X10_nextDog_17 (nI k) m (z_lp1 (lb_X10_nextDog_17 (nI k) m) f') (nI i) = _
            have e := r2 f' (by omega)
            unfold lb_X10_nextDog_17 at e ⊢
            rw [if_neg n2, o2, p_b1, p_let, p_let, nI_1]
            by_cases h1 : oX (m 1) k (nI i)
            · rw [p_tbT h1, c2, p_b1, p_tbT (Classical.byContradiction (fun q => hg ⟨h1, q⟩))]; exact e
            · rw [p_tbF h1]; exact e
    obtain ⟨r, r1, r2⟩ := main (1000 - dy) dy (by omega)
    exact ⟨r, r1 z_Fu (by show 1000 - dy < 4096; omega), r2 z_Fu (by show 1000 - dy < 4096; omega)⟩
  · rw [p_tbF hp, p_tbF hp]; exact ⟨_, rfl, rfl⟩
