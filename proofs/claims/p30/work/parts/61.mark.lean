/-! p30, THE PURE PART. 2: all that is told, as one number, is a function of the row -/
def fL (g : Nat → Int32) (h : Int64) : Nat → Int64
  | 0 => h
  | i + 1 => 31 * fL g h i + Int32.toInt64 (g i)
def fO (b : Nat → Int64 → Int64) (h : Int64) : Nat → Int64
  | 0 => h
  | i + 1 => b i (fO b h i)
theorem fL_s {g : Nat → Int32} {h : Int64} {i : Nat} : fL g h (i + 1) = 31 * fL g h i + Int32.toInt64 (g i) := rfl
theorem fO_0 {b : Nat → Int64 → Int64} {h : Int64} : fO b h 0 = h := rfl
theorem fL_0 {g : Nat → Int32} {h : Int64} : fL g h 0 = h := rfl
theorem fO_s {b : Nat → Int64 → Int64} {h : Int64} {i : Nat} : fO b h (i + 1) = b i (fO b h i) := rfl
noncomputable def gvK (n : Nat → Int32) (i : Nat) : Int32 := if i < 5 then n i else if i = 5 then sCnt n (-1) (n 1).toNatClampNeg else if i = 6 then sPz n (n 3).toNatClampNeg (n 4) (n 1).toNatClampNeg else if i = 7 then rSum n (n 1).toNatClampNeg 11 else sI (fun c => n (426 + 7 * c + 5)) (n 2).toNatClampNeg
noncomputable def mk0 (n : Nat → Int32) : Int64 := 31 * Int32.toInt64 (n 5) + Int32.toInt64 (n 6)
noncomputable def mk1 (n : Nat → Int32) : Int64 := fL (gvK n) (mk0 n) 9
noncomputable def mk2 (n : Nat → Int32) : Int64 := fL (fun i => gvA (nI i) n) (mk1 n) 6
noncomputable def mb3 (n : Nat → Int32) (c : Nat) (h : Int64) : Int64 := fL (fun k => gvC (nI c) (nI k) n) h 7
noncomputable def mk3 (n : Nat → Int32) : Int64 := fO (mb3 n) (mk2 n) (n 0).toNatClampNeg
noncomputable def mb4 (n : Nat → Int32) (c : Nat) (h : Int64) : Int64 := 31 * (31 * fL (fun k => gvH (nI c) (nI k) n) h 12 + Int32.toInt64 (gvS (nI c) n)) + Int32.toInt64 (gvD (nI c) n)
noncomputable def mk4 (n : Nat → Int32) : Int64 := fO (mb4 n) (mk3 n) (n 1).toNatClampNeg
noncomputable def mb5 (n : Nat → Int32) (c : Nat) (h : Int64) : Int64 := fL (fun k => gvR (nI c) (nI k) n) h 8
noncomputable def mk5 (n : Nat → Int32) : Int64 := fO (mb5 n) (mk4 n) (n 2).toNatClampNeg
noncomputable def mb6 (n : Nat → Int32) (c : Nat) (h : Int64) : Int64 := 31 * (31 * (31 * h + Int32.toInt64 (gvP (nI c) 0 n)) + Int32.toInt64 (gvP (nI c) 1 n)) + Int32.toInt64 (gvP (nI c) 2 n)
noncomputable def MK (n : Nat → Int32) : Int64 := fO (mb6 n) (mk5 n) (n 3).toNatClampNeg
section MARK
variable {x m : z_S} {nc nh nk np dy : Nat} {ah pl : Nat → Nat}
theorem XT.cl (X : XT x m nc nh nk np dy ah pl) : (m 1 0).toNatClampNeg = nc ∧ (m 1 1).toNatClampNeg = nh ∧ (m 1 2).toNatClampNeg = nk ∧ (m 1 3).toNatClampNeg = np := by
  obtain ⟨n0, n1, n2, n3, n4⟩ := X.n
  obtain ⟨b0, b1, b2, b3, b4, b5⟩ := X.b
  rw [n0, n1, n2, n3]
  exact ⟨p_cl (by omega), p_cl (by omega), p_cl (by omega), p_cl (by omega)⟩
theorem w_count (X : XT x m nc nh nk np dy ah pl) {i : Nat} (hi : i < 9) : f_X9_count (nI i) x = some (gvK (m 1) i) := by
  obtain ⟨n0, n1, n2, n3, n4⟩ := X.n
  obtain ⟨c0, c1, c2, c3⟩ := X.cl
  have h : i = 0 ∨ i = 1 ∨ i = 2 ∨ i = 3 ∨ i = 4 ∨ i = 5 ∨ i = 6 ∨ i = 7 ∨ i = 8 := by omega
  rcases h with rfl | rfl | rfl | rfl | rfl | rfl | rfl | rfl | rfl
  · exact (v_count_0 X).trans (congrArg some n0.symm)
  · exact (v_count_1 X).trans (congrArg some n1.symm)
  · exact (v_count_2 X).trans (congrArg some n2.symm)
  · exact (v_count_3 X).trans (congrArg some n3.symm)
  · exact (v_count_4 X).trans (congrArg some n4.symm)
  · refine (v_count_5 X).trans (congrArg some ?_)
    show _ = sCnt (m 1) (-1) (m 1 1).toNatClampNeg
    rw [c1]
  · refine (v_count_6 X).trans (congrArg some ?_)
    show _ = sPz (m 1) (m 1 3).toNatClampNeg (m 1 4) (m 1 1).toNatClampNeg
    rw [c1, c3, n4]
  · refine (v_count_7 X).trans (congrArg some ?_)
    show _ = rSum (m 1) (m 1 1).toNatClampNeg 11
    rw [c1]
  · refine (v_count_8 X).trans (congrArg some ?_)
    show _ = sI (fun c => m 1 (426 + 7 * c + 5)) (m 1 2).toNatClampNeg
    rw [c2]
theorem mk_6 (X : XT x m nc nh nk np dy ah pl) : z_lp2 (lb_X11_mark_244 x) z_Fu (mk5 (m 1)) 0 = some (MK (m 1)) := by
  obtain ⟨b0, b1, b2, b3, b4, b5⟩ := X.b
  obtain ⟨c0, c1, c2, c3⟩ := X.cl
  have hR := X.1
  obtain ⟨_, _, ⟨rfl, rfl⟩, k', e1⟩ := r_run2 (body := lb_X11_mark_244 x) (x1 := mk5 (m 1)) (x2 := (0 : Int32)) (fun i a b => a = fO (mb6 (m 1)) (mk5 (m 1)) i ∧ b = nI i) np (by omega) ⟨fO_0.symm, rfl⟩ (by
    rintro c a b hi ⟨rfl, rfl⟩
    refine ⟨_, _, ⟨rfl, rfl⟩, fun k => ?_⟩
    unfold lb_X11_mark_244
    rw [v_count_3 X, p_b1, if_neg (nI_ge (b := np) hi (by omega))]
    rw [w_pauseOf hR, p_b1, w_pauseOf hR, p_b1, w_pauseOf hR, p_b1, p_let, p_let, nI_1, fO_s, mb6])
  rw [e1]
  unfold lb_X11_mark_244
  rw [v_count_3 X, p_b1, if_pos (nI_le (Nat.le_refl _) (by omega))]
  rw [MK, c3]
theorem mk_5 (X : XT x m nc nh nk np dy ah pl) : z_lp2 (lb_X11_mark_196 x) z_Fu (mk4 (m 1)) 0 = some (MK (m 1)) := by
  obtain ⟨b0, b1, b2, b3, b4, b5⟩ := X.b
  obtain ⟨c0, c1, c2, c3⟩ := X.cl
  have hR := X.1
  obtain ⟨_, _, ⟨rfl, rfl⟩, k', e1⟩ := r_run2 (body := lb_X11_mark_196 x) (x1 := mk4 (m 1)) (x2 := (0 : Int32)) (fun i a b => a = fO (mb5 (m 1)) (mk4 (m 1)) i ∧ b = nI i) nk (by omega) ⟨fO_0.symm, rfl⟩ (by
    rintro c a b hi ⟨rfl, rfl⟩
    refine ⟨_, _, ⟨rfl, rfl⟩, fun k => ?_⟩
    unfold lb_X11_mark_196
    rw [v_count_2 X, p_b1, if_neg (nI_ge (b := nk) hi (by omega))]
    obtain ⟨_, _, ⟨rfl, rfl⟩, k', e⟩ := r_run2 (body := lb_X11_mark_208 x k (nI c)) (x1 := fO (mb5 (m 1)) (mk4 (m 1)) c) (x2 := (0 : Int32)) (fun i a b => a = fL (fun k => gvR (nI c) (nI k) (m 1)) (fO (mb5 (m 1)) (mk4 (m 1)) c) i ∧ b = nI i) 8 (by omega) ⟨fL_0.symm, rfl⟩ (by
      rintro i a b hi ⟨rfl, rfl⟩
      refine ⟨_, _, ⟨rfl, rfl⟩, fun k => ?_⟩
      unfold lb_X11_mark_208
      rw [if_neg (show ¬ (8 : Int32) ≤ nI i from nI_ge (b := 8) hi (by omega)), w_carrierOf hR, p_b1, p_let, p_let, nI_1, fL_s])
    rw [e]
    unfold lb_X11_mark_208
    rw [if_pos (show (8 : Int32) ≤ nI 8 from nI_le (Nat.le_refl _) (by omega))]
    rw [p_let, nI_1, fO_s, mb5])
  rw [e1]
  unfold lb_X11_mark_196
  rw [v_count_2 X, p_b1, if_pos (nI_le (Nat.le_refl _) (by omega))]
  rw [show fO (mb5 (m 1)) (mk4 (m 1)) nk = mk5 (m 1) by rw [mk5, c2]]
  exact mk_6 X
theorem mk_4 (X : XT x m nc nh nk np dy ah pl) : z_lp2 (lb_X11_mark_124 x) z_Fu (mk3 (m 1)) 0 = some (MK (m 1)) := by
  obtain ⟨b0, b1, b2, b3, b4, b5⟩ := X.b
  obtain ⟨c0, c1, c2, c3⟩ := X.cl
  have hR := X.1
  obtain ⟨_, _, ⟨rfl, rfl⟩, k', e1⟩ := r_run2 (body := lb_X11_mark_124 x) (x1 := mk3 (m 1)) (x2 := (0 : Int32)) (fun i a b => a = fO (mb4 (m 1)) (mk3 (m 1)) i ∧ b = nI i) nh (by omega) ⟨fO_0.symm, rfl⟩ (by
    rintro c a b hi ⟨rfl, rfl⟩
    refine ⟨_, _, ⟨rfl, rfl⟩, fun k => ?_⟩
    unfold lb_X11_mark_124
    rw [v_count_1 X, p_b1, if_neg (nI_ge (b := nh) hi (by omega))]
    obtain ⟨_, _, ⟨rfl, rfl⟩, k', e⟩ := r_run2 (body := lb_X11_mark_136 x k (nI c)) (x1 := fO (mb4 (m 1)) (mk3 (m 1)) c) (x2 := (0 : Int32)) (fun i a b => a = fL (fun k => gvH (nI c) (nI k) (m 1)) (fO (mb4 (m 1)) (mk3 (m 1)) c) i ∧ b = nI i) 12 (by omega) ⟨fL_0.symm, rfl⟩ (by
      rintro i a b hi ⟨rfl, rfl⟩
      refine ⟨_, _, ⟨rfl, rfl⟩, fun k => ?_⟩
      unfold lb_X11_mark_136
      rw [if_neg (show ¬ (12 : Int32) ≤ nI i from nI_ge (b := 12) hi (by omega)), w_houseOf hR, p_b1, p_let, p_let, nI_1, fL_s])
    rw [e]
    unfold lb_X11_mark_136
    rw [if_pos (show (12 : Int32) ≤ nI 12 from nI_le (Nat.le_refl _) (by omega))]
    rw [w_shareBits hR, p_b1, w_nextDog hR, p_b1, p_let, p_let, nI_1, fO_s, mb4])
  rw [e1]
  unfold lb_X11_mark_124
  rw [v_count_1 X, p_b1, if_pos (nI_le (Nat.le_refl _) (by omega))]
  rw [show fO (mb4 (m 1)) (mk3 (m 1)) nh = mk4 (m 1) by rw [mk4, c1]]
  exact mk_5 X
theorem mk_3 (X : XT x m nc nh nk np dy ah pl) : z_lp2 (lb_X11_mark_76 x) z_Fu (mk2 (m 1)) 0 = some (MK (m 1)) := by
  obtain ⟨b0, b1, b2, b3, b4, b5⟩ := X.b
  obtain ⟨c0, c1, c2, c3⟩ := X.cl
  have hR := X.1
  obtain ⟨_, _, ⟨rfl, rfl⟩, k', e1⟩ := r_run2 (body := lb_X11_mark_76 x) (x1 := mk2 (m 1)) (x2 := (0 : Int32)) (fun i a b => a = fO (mb3 (m 1)) (mk2 (m 1)) i ∧ b = nI i) nc (by omega) ⟨fO_0.symm, rfl⟩ (by
    rintro c a b hi ⟨rfl, rfl⟩
    refine ⟨_, _, ⟨rfl, rfl⟩, fun k => ?_⟩
    unfold lb_X11_mark_76
    rw [v_count_0 X, p_b1, if_neg (nI_ge (b := nc) hi (by omega))]
    obtain ⟨_, _, ⟨rfl, rfl⟩, k', e⟩ := r_run2 (body := lb_X11_mark_88 x k (nI c)) (x1 := fO (mb3 (m 1)) (mk2 (m 1)) c) (x2 := (0 : Int32)) (fun i a b => a = fL (fun k => gvC (nI c) (nI k) (m 1)) (fO (mb3 (m 1)) (mk2 (m 1)) c) i ∧ b = nI i) 7 (by omega) ⟨fL_0.symm, rfl⟩ (by
      rintro i a b hi ⟨rfl, rfl⟩
      refine ⟨_, _, ⟨rfl, rfl⟩, fun k => ?_⟩
      unfold lb_X11_mark_88
      rw [if_neg (show ¬ (7 : Int32) ≤ nI i from nI_ge (b := 7) hi (by omega)), w_cornerOf hR, p_b1, p_let, p_let, nI_1, fL_s])
    rw [e]
    unfold lb_X11_mark_88
    rw [if_pos (show (7 : Int32) ≤ nI 7 from nI_le (Nat.le_refl _) (by omega))]
    rw [p_let, nI_1, fO_s, mb3])
  rw [e1]
  unfold lb_X11_mark_76
  rw [v_count_0 X, p_b1, if_pos (nI_le (Nat.le_refl _) (by omega))]
  rw [show fO (mb3 (m 1)) (mk2 (m 1)) nc = mk3 (m 1) by rw [mk3, c0]]
  exact mk_4 X
theorem mk_2 (X : XT x m nc nh nk np dy ah pl) : z_lp2 (lb_X11_mark_49 x) z_Fu (mk1 (m 1)) 0 = some (MK (m 1)) := by
  obtain ⟨b0, b1, b2, b3, b4, b5⟩ := X.b
  obtain ⟨c0, c1, c2, c3⟩ := X.cl
  have hR := X.1
  obtain ⟨_, _, ⟨rfl, rfl⟩, k', e2⟩ := r_run2 (body := lb_X11_mark_49 x) (x1 := mk1 (m 1)) (x2 := (0 : Int32)) (fun i a b => a = fL (fun i => gvA (nI i) (m 1)) (mk1 (m 1)) i ∧ b = nI i) 6 (by omega) ⟨fL_0.symm, rfl⟩ (by
    rintro i a b hi ⟨rfl, rfl⟩
    refine ⟨_, _, ⟨rfl, rfl⟩, fun k => ?_⟩
    unfold lb_X11_mark_49
    rw [if_neg (show ¬ (6 : Int32) ≤ nI i from nI_ge (b := 6) hi (by omega)), w_account hR, p_b1, p_let, p_let, nI_1, fL_s])
  rw [e2]
  unfold lb_X11_mark_49
  rw [if_pos (show (6 : Int32) ≤ nI 6 from nI_le (Nat.le_refl _) (by omega))]
  rw [show fL (fun i => gvA (nI i) (m 1)) (mk1 (m 1)) 6 = mk2 (m 1) by rw [mk2]]
  exact mk_3 X
theorem mk_1 (X : XT x m nc nh nk np dy ah pl) : z_lp2 (lb_X11_mark_22 x) z_Fu (mk0 (m 1)) 0 = some (MK (m 1)) := by
  obtain ⟨b0, b1, b2, b3, b4, b5⟩ := X.b
  obtain ⟨c0, c1, c2, c3⟩ := X.cl
  have hR := X.1
  obtain ⟨_, _, ⟨rfl, rfl⟩, k', e1⟩ := r_run2 (body := lb_X11_mark_22 x) (x1 := mk0 (m 1)) (x2 := (0 : Int32)) (fun i a b => a = fL (gvK (m 1)) (mk0 (m 1)) i ∧ b = nI i) 9 (by omega) ⟨fL_0.symm, rfl⟩ (by
    rintro i a b hi ⟨rfl, rfl⟩
    refine ⟨_, _, ⟨rfl, rfl⟩, fun k => ?_⟩
    unfold lb_X11_mark_22
    rw [if_neg (show ¬ (9 : Int32) ≤ nI i from nI_ge (b := 9) hi (by omega)), w_count X hi, p_b1, p_let, p_let, nI_1, fL_s])
  rw [e1]
  unfold lb_X11_mark_22
  rw [if_pos (show (9 : Int32) ≤ nI 9 from nI_le (Nat.le_refl _) (by omega))]
  rw [show fL (gvK (m 1)) (mk0 (m 1)) 9 = mk1 (m 1) by rw [mk1]]
  exact mk_2 X
theorem v_mark (hR : RX x m) : f_X11_mark x = some (MK (m 1)) := by
  obtain ⟨nc, nh, nk, np, dy, ah, pl, X⟩ := hR.ex
  unfold f_X11_mark
  rw [v_count_20 X, p_b1, v_count_21 X, p_b1, p_let]
  have h := mk_1 X
  rw [mk0] at h
  exact h
end MARK
