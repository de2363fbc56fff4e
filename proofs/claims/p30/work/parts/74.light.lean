/-! p30, THE PURE PART. 15: the carrier to whom a house is least effort -/
noncomputable def BL (n : Nat → Int32) (nc nh np : Nat) (ah pl : Nat → Nat) (h : Nat) (d : Int32) : Nat → Int32 × Int32
  | 0 => (-4, 0)
  | c + 1 => cif (¬ n (90 + 14 * h + 3) = nI c ∧ cR n ah pl c h) (if (BL n nc nh np ah pl h d c).1 = -4 then (nI c, mE n nc nh np ah pl h d c) else if (BL n nc nh np ah pl h d c).2 ≤ mE n nc nh np ah pl h d c then BL n nc nh np ah pl h d c else (nI c, mE n nc nh np ah pl h d c)) (BL n nc nh np ah pl h d c)
section LIGHT
variable {x m : z_S} {nc nh nk np dy : Nat} {ah pl : Nat → Nat}
theorem v_light (X : XT x m nc nh nk np dy ah pl) {h : Nat} (hh : h < nh) {d : Int32} (hd : nI dy ≤ d ∧ d ≤ 999) : ∃ x', f_X9_lightest (nI h) d x = some ((BL (m 1) nc nh np ah pl h d nk).1, x') ∧ RX x' m := by
  obtain ⟨b0, b1, b2, b3, b4, b5⟩ := X.b
  have e192 : x 192 0 = nI dy := X.2.2.2.2.2.2.1.1.2.2
  unfold f_X9_lightest
  rw [x_hasH X.2.2.1.2.1 b2, p_b1, p_tbT ⟨h, hh, rfl⟩, w_tb, p_b1, e192, p_tbT hd]
  obtain ⟨_, _, _, y, ⟨rfl, rfl, rfl, Y⟩, k', e⟩ := r_run4 (body := lb_X9_lightest_42 (nI h) d) (x1 := (-4 : Int32)) (x2 := (0 : Int32)) (x3 := (0 : Int32)) (x4 := x) (fun c a b i y => a = (BL (m 1) nc nh np ah pl h d c).1 ∧ b = (BL (m 1) nc nh np ah pl h d c).2 ∧ i = nI c ∧ XT y m nc nh nk np dy ah pl) nk (by omega) ⟨rfl, rfl, rfl, X⟩ (by
    rintro c a b i y hc ⟨rfl, rfl, rfl, Y⟩
    have e222 : y 222 0 = nI nk := Y.2.2.2.2.1.2.2.1
    have e207 : y 207 h = m 1 (90 + 14 * h + 3) := (Y.2.2.1.2.2 h hh).1.2.2.2.1
    have st1 : ∀ kk, lb_X9_lightest_42 (nI h) d kk (BL (m 1) nc nh np ah pl h d c).1 (BL (m 1) nc nh np ah pl h d c).2 (nI c) y = if nI c = m 1 (90 + 14 * h + 3) then kk (BL (m 1) nc nh np ah pl h d c).1 (BL (m 1) nc nh np ah pl h d c).2 (nI (c + 1)) y else if tb (cR (m 1) ah pl c h) = 0 then kk (BL (m 1) nc nh np ah pl h d c).1 (BL (m 1) nc nh np ah pl h d c).2 (nI (c + 1)) y else
        z_b2 (f_X8_moreEffort (nI c) d (nI h) (fun k => y (zi_X_TW k))) fun r25 σ24 => z_let (z_m y (zk_X_TW) 40 σ24) fun σ26 => if (BL (m 1) nc nh np ah pl h d c).1 = -4 then kk (nI c) r25 (nI (c + 1)) σ26 else if (BL (m 1) nc nh np ah pl h d c).2 ≤ r25 then kk (BL (m 1) nc nh np ah pl h d c).1 (BL (m 1) nc nh np ah pl h d c).2 (nI (c + 1)) σ26 else kk (nI c) r25 (nI (c + 1)) σ26 := by
      intro kk
      unfold lb_X9_lightest_42
      rw [e222, if_neg (nI_ge (b := nk) (a := c) (by omega) (by omega)), p_cki (by omega) (by omega), p_cl (by omega), e207, p_let, x_can Y.2 hc hh, p_b1, zl_1]
      simp only [p_let, nI_add]
    by_cases q : nI c = m 1 (90 + 14 * h + 3)
    · have hB : BL (m 1) nc nh np ah pl h d (c + 1) = BL (m 1) nc nh np ah pl h d c := cif_f (fun w => w.1 q.symm)
      refine ⟨_, _, _, y, ⟨by rw [hB], by rw [hB], rfl, Y⟩, fun kk => ?_⟩
      rw [st1, if_pos q]
    · by_cases qP : cR (m 1) ah pl c h
      · obtain ⟨σ', f1, R1⟩ := v_more Y hc hh d
        have Y' := Y.same R1 rfl
        have hB : BL (m 1) nc nh np ah pl h d (c + 1) = (if (BL (m 1) nc nh np ah pl h d c).1 = -4 then (nI c, mE (m 1) nc nh np ah pl h d c) else if (BL (m 1) nc nh np ah pl h d c).2 ≤ mE (m 1) nc nh np ah pl h d c then BL (m 1) nc nh np ah pl h d c else (nI c, mE (m 1) nc nh np ah pl h d c)) := cif_t ⟨fun w => q w.symm, qP⟩
        refine ⟨(BL (m 1) nc nh np ah pl h d (c + 1)).1, (BL (m 1) nc nh np ah pl h d (c + 1)).2, nI (c + 1), z_m y zk_X_TW 40 σ', ⟨rfl, rfl, rfl, Y'⟩, fun kk => ?_⟩
        rw [st1, if_neg q, show (if tb (cR (m 1) ah pl c h) = (0 : Int32) then _ else _) = _ from p_tbT qP, f1, p_b2, p_let, hB]
        by_cases qb : (BL (m 1) nc nh np ah pl h d c).1 = -4
        · rw [if_pos qb, if_pos qb]
        · rw [if_neg qb, if_neg qb]
          by_cases ql : (BL (m 1) nc nh np ah pl h d c).2 ≤ mE (m 1) nc nh np ah pl h d c
          · rw [if_pos ql, if_pos ql]
          · rw [if_neg ql, if_neg ql]
      · have hB : BL (m 1) nc nh np ah pl h d (c + 1) = BL (m 1) nc nh np ah pl h d c := cif_f (fun w => qP w.2)
        refine ⟨_, _, _, y, ⟨by rw [hB], by rw [hB], rfl, Y⟩, fun kk => ?_⟩
        rw [st1, if_neg q, show (if tb (cR (m 1) ah pl c h) = (0 : Int32) then _ else _) = _ from p_tbF qP])
  rw [e]
  unfold lb_X9_lightest_42
  rw [show y 222 0 = nI nk from Y.2.2.2.2.1.2.2.1, if_pos (nI_le (Nat.le_refl _) (by omega))]
  exact ⟨y, rfl, Y.1⟩
theorem v_lightest_step {y my : z_S} (Y : XT y my nc nh nk np dy ah pl) (h1 : my 1 = m 1) {h : Nat} (hh : h < nh) {d : Int32} (hd : nI dy ≤ d ∧ d ≤ 999) {c : Nat} (hc : c < nk) : ∃ y' my', XT y' my' nc nh nk np dy ah pl ∧ my' 1 = m 1 ∧
    ∀ k, lb_X11_lightest_55 (nI h) d k (BL (m 1) nc nh np ah pl h d c).1 (BL (m 1) nc nh np ah pl h d c).2 (nI c) y = k (BL (m 1) nc nh np ah pl h d (c + 1)).1 (BL (m 1) nc nh np ah pl h d (c + 1)).2 (nI (c + 1)) y' := by
  obtain ⟨b0, b1, b2, b3, b4, b5⟩ := Y.b
  obtain ⟨y1, R1, -, f1, -, -⟩ := v_round Y hc hd
  have Y1 := Y.same R1 rfl
  obtain ⟨g1, g2, g3⟩ := k_give_h Y1 hh hc
  rw [h1] at f1 g1 g2 g3
  have fail : ∀ y2 : z_S, f_X9_give (nI h) (nI c) y1 = some (-2, y2) → RX y2 my → BL (m 1) nc nh np ah pl h d (c + 1) = BL (m 1) nc nh np ah pl h d c → ∃ y' my', XT y' my' nc nh nk np dy ah pl ∧ my' 1 = m 1 ∧ ∀ k, lb_X11_lightest_55 (nI h) d k (BL (m 1) nc nh np ah pl h d c).1 (BL (m 1) nc nh np ah pl h d c).2 (nI c) y = k (BL (m 1) nc nh np ah pl h d (c + 1)).1 (BL (m 1) nc nh np ah pl h d (c + 1)).2 (nI (c + 1)) y' := by
    intro y2 q1 q2 hB
    refine ⟨y2, my, Y.same q2 rfl, h1, fun k => ?_⟩
    unfold lb_X11_lightest_55
    rw [v_count_2 Y, p_b1, if_neg (nI_ge (b := nk) hc (by omega)), f1, p_b2, q1, p_b2]
    refine z_letX (fun j33 e33 => ?_)
    rw [if_pos (by decide), e33, hB]
    dsimp only
    rw [p_let, nI_1]
  by_cases c1 : m 1 (90 + 14 * h + 3) = nI c
  · obtain ⟨y2, q1, q2⟩ := g1 c1
    exact fail y2 q1 q2 (cif_f (fun w => w.1 c1))
  · by_cases c2 : cR (m 1) ah pl c h
    · obtain ⟨r, y2, m2, q1, q2, q3, q4, q5⟩ := g3 c1 c2
      have Y2 : XT y2 m2 nc nh nk np dy ah pl := Y1.to q3 (fun i _ _ _ => by rw [q5, un_j (by omega), h1]) (fun i hi => by rw [q5, un_j (by omega), h1])
      obtain ⟨y3, R3, -, f3, -, -⟩ := v_round Y2 hc hd
      rw [q5] at f3
      obtain ⟨ru, y4, m4, u1, u2, u3, u4, u5, -⟩ := o_undo R3 q4
      have hmE : rE (un (m 1) (90 + 14 * h + 3) (nI c)) nc nh np ah pl c d - rE (m 1) nc nh np ah pl c d = mE (m 1) nc nh np ah pl h d c := rfl
      have hB : BL (m 1) nc nh np ah pl h d (c + 1) = (if (BL (m 1) nc nh np ah pl h d c).1 = -4 then (nI c, mE (m 1) nc nh np ah pl h d c) else if (BL (m 1) nc nh np ah pl h d c).2 ≤ mE (m 1) nc nh np ah pl h d c then BL (m 1) nc nh np ah pl h d c else (nI c, mE (m 1) nc nh np ah pl h d c)) := cif_t ⟨c1, c2⟩
      refine ⟨y4, m4, Y.same u2 u3, u3.trans h1, fun k => ?_⟩
      unfold lb_X11_lightest_55
      rw [v_count_2 Y, p_b1, if_neg (nI_ge (b := nk) hc (by omega)), f1, p_b2, q1, p_b2]
      refine z_letX (fun j33 e33 => ?_)
      rw [if_neg q2, f3, p_b2, hmE, p_let]
      have fin : ∀ v w : Int32, j33 v w y4 = k v w (nI (c + 1)) y4 := fun v w => by
        rw [e33]
        dsimp only
        rw [p_let, nI_1]
      refine z_letX (fun j41 e41 => ?_)
      have e1 : j41 1 = k (nI c) (mE (m 1) nc nh np ah pl h d c) (nI (c + 1)) y4 := by
        rw [e41]
        dsimp only
        rw [p_let, if_neg (by decide)]
        dsimp only
        rw [p_let, if_neg (by decide)]
        dsimp only
        rw [u1, p_b2, if_pos (nI_pos' (by omega))]
        exact fin _ _
      have e0 : j41 0 = k (BL (m 1) nc nh np ah pl h d c).1 (BL (m 1) nc nh np ah pl h d c).2 (nI (c + 1)) y4 := by
        rw [e41]
        dsimp only
        rw [p_let, if_pos rfl]
        dsimp only
        rw [p_let, if_pos rfl]
        dsimp only
        rw [u1, p_b2, if_pos (nI_pos' (by omega))]
        exact fin _ _
      rw [p_let, hB, e1, e0]
      by_cases qb : (BL (m 1) nc nh np ah pl h d c).1 = -4
      · rw [if_pos qb, if_pos qb]
      · rw [if_neg qb, if_neg qb]
        by_cases ql : (BL (m 1) nc nh np ah pl h d c).2 ≤ mE (m 1) nc nh np ah pl h d c
        · rw [if_pos ql, if_pos ql]
        · rw [if_neg ql, if_neg ql]
    · obtain ⟨y2, q1, q2⟩ := g2 c1 c2
      exact fail y2 q1 q2 (cif_f (fun w => c2 w.2))
theorem v_lightest (X : XT x m nc nh nk np dy ah pl) (p : Int32) : ∃ x' m', f_X11_lightest p x = some (1, x') ∧ RX x' m' ∧ m' 1 = m 1 := by
  obtain ⟨b0, b1, b2, b3, b4, b5⟩ := X.b
  unfold f_X11_lightest
  rw [v_count_1 X, p_b1, v_count_4 X, p_b1]
  by_cases hz : nh = 0
  · rw [if_pos (by rw [hz]; rfl)]
    exact ⟨x, m, rfl, X.1, rfl⟩
  rw [if_neg (nI_ne0 (by omega) (by omega))]
  by_cases hd : dy ≤ 990
  · obtain ⟨h, hh, e1⟩ := u_up p (N := nh) (by omega) (by omega) x
    obtain ⟨j, hj, e2⟩ := u_up (p >>> ((6 : Int32) &&& 31)) (N := 8) (by omega) (by omega) x
    rw [if_pos (show nI dy ≤ (990 : Int32) from nI_le (b := 990) hd (by omega)), e1, p_b1, show f_X11_up (p >>> ((6 : Int32) &&& 31)) 8 x = some (nI j) from e2, p_b1, p_let, nI_add]
    have hdd : nI dy ≤ nI (dy + j) ∧ nI (dy + j) ≤ 999 := ⟨nI_le (by omega) (by omega), nI_le (b := 999) (by omega) (by omega)⟩
    obtain ⟨_, _, _, y, ⟨rfl, rfl, rfl, my, Y, h1⟩, k', e⟩ := r_run4 (body := lb_X11_lightest_55 (nI h) (nI (dy + j))) (x1 := (-4 : Int32)) (x2 := (0 : Int32)) (x3 := (0 : Int32)) (x4 := x) (fun c a b i y => a = (BL (m 1) nc nh np ah pl h (nI (dy + j)) c).1 ∧ b = (BL (m 1) nc nh np ah pl h (nI (dy + j)) c).2 ∧ i = nI c ∧ ∃ my, XT y my nc nh nk np dy ah pl ∧ my 1 = m 1) nk (by omega) ⟨rfl, rfl, rfl, m, X, rfl⟩ (by
      rintro c a b i y hc ⟨rfl, rfl, rfl, my, Y, h1⟩
      obtain ⟨y', my', Y', h1', q⟩ := v_lightest_step Y h1 hh hdd hc
      exact ⟨_, _, _, y', ⟨rfl, rfl, rfl, my', Y', h1'⟩, q⟩)
    obtain ⟨y', q1, q2⟩ := v_light Y hh hdd
    rw [h1] at q1
    rw [e]
    unfold lb_X11_lightest_55
    rw [v_count_2 Y, p_b1, if_pos (nI_le (Nat.le_refl _) (by omega)), q1, p_b2, if_pos rfl]
    exact ⟨y', my, rfl, q2, h1⟩
  · rw [if_neg (show ¬ nI dy ≤ (990 : Int32) from nI_ge (b := dy) (a := 990) (by omega) (by omega))]
    exact ⟨x, m, rfl, X.1, rfl⟩
end LIGHT
