/-! p30, THE PURE PART. 12: papers, to the end -/
section PAPERS2
variable {x m : z_S} {nc nh nk np d : Nat} {ah pl : Nat → Nat} {due : Int32}
set_option maxHeartbeats 4000000 in
theorem v_papers (I : IV x m nc nh nk d due) : f_X11_papers due x = some 1 := by
  obtain ⟨np, ah, pl, X⟩ := I.X
  obtain ⟨b0, b1, b2, b3, b4, b5⟩ := X.b
  have J := I.2.1
  have hd : d ≤ 900 := I.2.2.2.2.2.1
  unfold f_X11_papers
  obtain ⟨y1, y2, y3, y4, y5, y6, y7, y8, hp, k', e⟩ := r_run8 (body := lb_X11_papers_22 due x) (x1 := (0 : Int32)) (x2 := (0 : Int32)) (x3 := (0 : Int32)) (x4 := (0 : Int32)) (x5 := (0 : Int32)) (x6 := (0 : Int32)) (x7 := (0 : Int32)) (x8 := (0 : Int32)) (pS (m 1)) nh (by omega) ⟨rfl, rfl, rfl, rfl, rfl, rfl, ⟨0, Nat.le_refl _, rfl, fun _ h hh => absurd hh (by omega), fun _ => rfl⟩, rfl⟩ (fun i a1 a2 a3 a4 a5 a6 a7 a8 hi hp => v_papers_step X J hd hi hp)
  rw [e]
  obtain ⟨rfl, rfl, rfl, rfl, rfl, rfl, ⟨q, hq, rfl, hqz⟩, rfl⟩ := hp
  unfold lb_X11_papers_22
  rw [v_count_1 X, p_b1, if_pos (nI_le (Nat.le_refl _) (by omega))]
  obtain ⟨_, _, _, _, ⟨rfl, rfl, rfl, rfl⟩, k'', e2⟩ := r_run4 (body := lb_X11_papers_402 due x (rSum (m 1) nh 6) (rSum (m 1) nh 7) (sI (fun h => m 1 (90 + 14 * h + 8) + m 1 (90 + 14 * h + 9)) nh) (rSum (m 1) nh 10) (rSum (m 1) nh 11) (sCnt (m 1) (-1) nh) (nI q)) (x1 := (0 : Int32)) (x2 := (0 : Int32)) (x3 := (0 : Int32)) (x4 := (0 : Int32)) (fun i a b c e => a = sI (fun c => m 1 (426 + 7 * c + 6)) i ∧ b = sI (fun c => m 1 (426 + 7 * c + 5)) i ∧ c = sI (fun c => sCnt (m 1) (nI c) nh) i ∧ e = nI i) nk (by omega) ⟨rfl, rfl, rfl, rfl⟩ (by
    rintro i a b c e hi ⟨rfl, rfl, rfl, rfl⟩
    refine ⟨_, _, _, _, ⟨rfl, rfl, rfl, rfl⟩, fun k => ?_⟩
    unfold lb_X11_papers_402
    rw [v_count_2 X, p_b1, if_neg (nI_ge (b := nk) hi (by omega)), v_carrier_7 X hi, p_b1, p_let, v_carrier_6 X hi, p_b1, p_let, v_carrier_3 X hi, p_b1, p_let, p_let, nI_1]
    rfl)
  rw [e2]
  clear e2 e
  have s89 : rSum (m 1) nh 8 + rSum (m 1) nh 9 = sI (fun h => m 1 (90 + 14 * h + 8) + m 1 (90 + 14 * h + 9)) nh := sI_add.symm
  have sdue : ((rSum (m 1) nh 6 + rSum (m 1) nh 7) + sI (fun h => m 1 (90 + 14 * h + 8) + m 1 (90 + 14 * h + 9)) nh) + rSum (m 1) nh 10 = due := by
    rw [← s89, ← J.2.2.2.1, Int32.add_assoc (rSum (m 1) nh 6 + rSum (m 1) nh 7) (rSum (m 1) nh 8) (rSum (m 1) nh 9)]
  obtain ⟨v, v1, v2⟩ := v_mean X
  unfold lb_X11_papers_402
  rw [v_count_2 X, p_b1, if_pos (nI_le (Nat.le_refl _) (by omega)), if_pos J.2.2.2.2.1, v_count_8 X, p_b1, if_pos rfl, v_count_1 X, p_b1, if_pos (given_all b3 (fun h hh => (X.2.2.1.2.2 h hh).2.2.2.1)), v_count_5 X, p_b1, if_pos rfl, v_acc_1 X, p_b1, if_pos rfl, v_acc_2 X, p_b1, if_pos rfl, v_acc_3 X, p_b1, v_acc_4 X, p_b1, if_pos s89, v_acc_5 X, p_b1, if_pos rfl, v_acc_0 X, p_b1, if_pos J.2.2.2.1, if_pos sdue, v_count_7 X, p_b1, if_pos rfl, v1, p_b1]
  refine z_letX (fun j55 e55 => ?_)
  by_cases c : ∀ h, h < nh → alI (m 1) h = 0
  · rw [if_pos (v2.mpr c), e55]
    dsimp only
    refine z_letX (fun j57 e57 => ?_)
    rw [if_pos (by rw [hqz.mpr c]; rfl), e57]
    rfl
  · rw [if_neg (fun w => c (v2.mp w)), e55]
    dsimp only
    refine z_letX (fun j57 e57 => ?_)
    rw [if_neg (nI_ne0 (Nat.pos_of_ne_zero (fun w => c (hqz.mp w))) (by omega)), e57]
    rfl
end PAPERS2
