/-! p30, THE PURE PART. 1: loops to their exits, the law's up, the answers of the class's questions -/
theorem r_lp1 {S1 O : Type} {body : (S1 → Option O) → S1 → Option O} (P : Nat → S1 → Prop) (N : Nat) (hs : ∀ (i : Nat) (x1 : S1), i < N → P i x1 → ∃ (y1 : S1), P (i + 1) y1 ∧ ∀ k, body k x1 = k y1) : ∀ (f i : Nat) (x1 : S1), N < i + f → i ≤ N → P i x1 → ∃ (y1 : S1), P N y1 ∧ ∃ k, z_lp1 body f x1 = body k y1
  | 0, i, x1, h, hi, _ => by omega
  | f + 1, i, x1, h, hi, hP => by
    rcases Nat.lt_or_ge i N with hl | hl
    · obtain ⟨y1, h1, h2⟩ := hs i x1 hl hP
      obtain ⟨w1, h3, k, h4⟩ := r_lp1 P N hs f (i + 1) y1 (by omega) (by omega) h1
      exact ⟨w1, h3, k, (h2 _).trans h4⟩
    · have e : i = N := by omega
      subst e
      exact ⟨x1, hP, z_lp1 body f, rfl⟩
theorem r_run1 {S1 O : Type} {body : (S1 → Option O) → S1 → Option O} {x1 : S1} (P : Nat → S1 → Prop) (N : Nat) (hN : N < 4096) (h0 : P 0 x1) (hs : ∀ (i : Nat) (x1 : S1), i < N → P i x1 → ∃ (y1 : S1), P (i + 1) y1 ∧ ∀ k, body k x1 = k y1) : ∃ (y1 : S1), P N y1 ∧ ∃ k, z_lp1 body z_Fu x1 = body k y1 :=
  r_lp1 P N hs z_Fu 0 x1 (by show N < 0 + 4096; omega) (Nat.zero_le _) h0
theorem r_lp2 {S1 S2 O : Type} {body : (S1 → S2 → Option O) → S1 → S2 → Option O} (P : Nat → S1 → S2 → Prop) (N : Nat) (hs : ∀ (i : Nat) (x1 : S1) (x2 : S2), i < N → P i x1 x2 → ∃ (y1 : S1) (y2 : S2), P (i + 1) y1 y2 ∧ ∀ k, body k x1 x2 = k y1 y2) : ∀ (f i : Nat) (x1 : S1) (x2 : S2), N < i + f → i ≤ N → P i x1 x2 → ∃ (y1 : S1) (y2 : S2), P N y1 y2 ∧ ∃ k, z_lp2 body f x1 x2 = body k y1 y2
  | 0, i, x1, x2, h, hi, _ => by omega
  | f + 1, i, x1, x2, h, hi, hP => by
    rcases Nat.lt_or_ge i N with hl | hl
    · obtain ⟨y1, y2, h1, h2⟩ := hs i x1 x2 hl hP
      obtain ⟨w1, w2, h3, k, h4⟩ := r_lp2 P N hs f (i + 1) y1 y2 (by omega) (by omega) h1
      exact ⟨w1, w2, h3, k, (h2 _).trans h4⟩
    · have e : i = N := by omega
      subst e
      exact ⟨x1, x2, hP, z_lp2 body f, rfl⟩
theorem r_run2 {S1 S2 O : Type} {body : (S1 → S2 → Option O) → S1 → S2 → Option O} {x1 : S1} {x2 : S2} (P : Nat → S1 → S2 → Prop) (N : Nat) (hN : N < 4096) (h0 : P 0 x1 x2) (hs : ∀ (i : Nat) (x1 : S1) (x2 : S2), i < N → P i x1 x2 → ∃ (y1 : S1) (y2 : S2), P (i + 1) y1 y2 ∧ ∀ k, body k x1 x2 = k y1 y2) : ∃ (y1 : S1) (y2 : S2), P N y1 y2 ∧ ∃ k, z_lp2 body z_Fu x1 x2 = body k y1 y2 :=
  r_lp2 P N hs z_Fu 0 x1 x2 (by show N < 0 + 4096; omega) (Nat.zero_le _) h0
theorem r_lp3 {S1 S2 S3 O : Type} {body : (S1 → S2 → S3 → Option O) → S1 → S2 → S3 → Option O} (P : Nat → S1 → S2 → S3 → Prop) (N : Nat) (hs : ∀ (i : Nat) (x1 : S1) (x2 : S2) (x3 : S3), i < N → P i x1 x2 x3 → ∃ (y1 : S1) (y2 : S2) (y3 : S3), P (i + 1) y1 y2 y3 ∧ ∀ k, body k x1 x2 x3 = k y1 y2 y3) : ∀ (f i : Nat) (x1 : S1) (x2 : S2) (x3 : S3), N < i + f → i ≤ N → P i x1 x2 x3 → ∃ (y1 : S1) (y2 : S2) (y3 : S3), P N y1 y2 y3 ∧ ∃ k, z_lp3 body f x1 x2 x3 = body k y1 y2 y3
  | 0, i, x1, x2, x3, h, hi, _ => by omega
  | f + 1, i, x1, x2, x3, h, hi, hP => by
    rcases Nat.lt_or_ge i N with hl | hl
    · obtain ⟨y1, y2, y3, h1, h2⟩ := hs i x1 x2 x3 hl hP
      obtain ⟨w1, w2, w3, h3, k, h4⟩ := r_lp3 P N hs f (i + 1) y1 y2 y3 (by omega) (by omega) h1
      exact ⟨w1, w2, w3, h3, k, (h2 _).trans h4⟩
    · have e : i = N := by omega
      subst e
      exact ⟨x1, x2, x3, hP, z_lp3 body f, rfl⟩
theorem r_run3 {S1 S2 S3 O : Type} {body : (S1 → S2 → S3 → Option O) → S1 → S2 → S3 → Option O} {x1 : S1} {x2 : S2} {x3 : S3} (P : Nat → S1 → S2 → S3 → Prop) (N : Nat) (hN : N < 4096) (h0 : P 0 x1 x2 x3) (hs : ∀ (i : Nat) (x1 : S1) (x2 : S2) (x3 : S3), i < N → P i x1 x2 x3 → ∃ (y1 : S1) (y2 : S2) (y3 : S3), P (i + 1) y1 y2 y3 ∧ ∀ k, body k x1 x2 x3 = k y1 y2 y3) : ∃ (y1 : S1) (y2 : S2) (y3 : S3), P N y1 y2 y3 ∧ ∃ k, z_lp3 body z_Fu x1 x2 x3 = body k y1 y2 y3 :=
  r_lp3 P N hs z_Fu 0 x1 x2 x3 (by show N < 0 + 4096; omega) (Nat.zero_le _) h0
theorem r_lp4 {S1 S2 S3 S4 O : Type} {body : (S1 → S2 → S3 → S4 → Option O) → S1 → S2 → S3 → S4 → Option O} (P : Nat → S1 → S2 → S3 → S4 → Prop) (N : Nat) (hs : ∀ (i : Nat) (x1 : S1) (x2 : S2) (x3 : S3) (x4 : S4), i < N → P i x1 x2 x3 x4 → ∃ (y1 : S1) (y2 : S2) (y3 : S3) (y4 : S4), P (i + 1) y1 y2 y3 y4 ∧ ∀ k, body k x1 x2 x3 x4 = k y1 y2 y3 y4) : ∀ (f i : Nat) (x1 : S1) (x2 : S2) (x3 : S3) (x4 : S4), N < i + f → i ≤ N → P i x1 x2 x3 x4 → ∃ (y1 : S1) (y2 : S2) (y3 : S3) (y4 : S4), P N y1 y2 y3 y4 ∧ ∃ k, z_lp4 body f x1 x2 x3 x4 = body k y1 y2 y3 y4
  | 0, i, x1, x2, x3, x4, h, hi, _ => by omega
  | f + 1, i, x1, x2, x3, x4, h, hi, hP => by
    rcases Nat.lt_or_ge i N with hl | hl
    · obtain ⟨y1, y2, y3, y4, h1, h2⟩ := hs i x1 x2 x3 x4 hl hP
      obtain ⟨w1, w2, w3, w4, h3, k, h4⟩ := r_lp4 P N hs f (i + 1) y1 y2 y3 y4 (by omega) (by omega) h1
      exact ⟨w1, w2, w3, w4, h3, k, (h2 _).trans h4⟩
    · have e : i = N := by omega
      subst e
      exact ⟨x1, x2, x3, x4, hP, z_lp4 body f, rfl⟩
theorem r_run4 {S1 S2 S3 S4 O : Type} {body : (S1 → S2 → S3 → S4 → Option O) → S1 → S2 → S3 → S4 → Option O} {x1 : S1} {x2 : S2} {x3 : S3} {x4 : S4} (P : Nat → S1 → S2 → S3 → S4 → Prop) (N : Nat) (hN : N < 4096) (h0 : P 0 x1 x2 x3 x4) (hs : ∀ (i : Nat) (x1 : S1) (x2 : S2) (x3 : S3) (x4 : S4), i < N → P i x1 x2 x3 x4 → ∃ (y1 : S1) (y2 : S2) (y3 : S3) (y4 : S4), P (i + 1) y1 y2 y3 y4 ∧ ∀ k, body k x1 x2 x3 x4 = k y1 y2 y3 y4) : ∃ (y1 : S1) (y2 : S2) (y3 : S3) (y4 : S4), P N y1 y2 y3 y4 ∧ ∃ k, z_lp4 body z_Fu x1 x2 x3 x4 = body k y1 y2 y3 y4 :=
  r_lp4 P N hs z_Fu 0 x1 x2 x3 x4 (by show N < 0 + 4096; omega) (Nat.zero_le _) h0
theorem r_lp8 {S1 S2 S3 S4 S5 S6 S7 S8 O : Type} {body : (S1 → S2 → S3 → S4 → S5 → S6 → S7 → S8 → Option O) → S1 → S2 → S3 → S4 → S5 → S6 → S7 → S8 → Option O} (P : Nat → S1 → S2 → S3 → S4 → S5 → S6 → S7 → S8 → Prop) (N : Nat) (hs : ∀ (i : Nat) (x1 : S1) (x2 : S2) (x3 : S3) (x4 : S4) (x5 : S5) (x6 : S6) (x7 : S7) (x8 : S8), i < N → P i x1 x2 x3 x4 x5 x6 x7 x8 → ∃ (y1 : S1) (y2 : S2) (y3 : S3) (y4 : S4) (y5 : S5) (y6 : S6) (y7 : S7) (y8 : S8), P (i + 1) y1 y2 y3 y4 y5 y6 y7 y8 ∧ ∀ k, body k x1 x2 x3 x4 x5 x6 x7 x8 = k y1 y2 y3 y4 y5 y6 y7 y8) : ∀ (f i : Nat) (x1 : S1) (x2 : S2) (x3 : S3) (x4 : S4) (x5 : S5) (x6 : S6) (x7 : S7) (x8 : S8), N < i + f → i ≤ N → P i x1 x2 x3 x4 x5 x6 x7 x8 → ∃ (y1 : S1) (y2 : S2) (y3 : S3) (y4 : S4) (y5 : S5) (y6 : S6) (y7 : S7) (y8 : S8), P N y1 y2 y3 y4 y5 y6 y7 y8 ∧ ∃ k, z_lp8 body f x1 x2 x3 x4 x5 x6 x7 x8 = body k y1 y2 y3 y4 y5 y6 y7 y8
  | 0, i, x1, x2, x3, x4, x5, x6, x7, x8, h, hi, _ => by omega
  | f + 1, i, x1, x2, x3, x4, x5, x6, x7, x8, h, hi, hP => by
    rcases Nat.lt_or_ge i N with hl | hl
    · obtain ⟨y1, y2, y3, y4, y5, y6, y7, y8, h1, h2⟩ := hs i x1 x2 x3 x4 x5 x6 x7 x8 hl hP
      obtain ⟨w1, w2, w3, w4, w5, w6, w7, w8, h3, k, h4⟩ := r_lp8 P N hs f (i + 1) y1 y2 y3 y4 y5 y6 y7 y8 (by omega) (by omega) h1
      exact ⟨w1, w2, w3, w4, w5, w6, w7, w8, h3, k, (h2 _).trans h4⟩
    · have e : i = N := by omega
      subst e
      exact ⟨x1, x2, x3, x4, x5, x6, x7, x8, hP, z_lp8 body f, rfl⟩
theorem r_run8 {S1 S2 S3 S4 S5 S6 S7 S8 O : Type} {body : (S1 → S2 → S3 → S4 → S5 → S6 → S7 → S8 → Option O) → S1 → S2 → S3 → S4 → S5 → S6 → S7 → S8 → Option O} {x1 : S1} {x2 : S2} {x3 : S3} {x4 : S4} {x5 : S5} {x6 : S6} {x7 : S7} {x8 : S8} (P : Nat → S1 → S2 → S3 → S4 → S5 → S6 → S7 → S8 → Prop) (N : Nat) (hN : N < 4096) (h0 : P 0 x1 x2 x3 x4 x5 x6 x7 x8) (hs : ∀ (i : Nat) (x1 : S1) (x2 : S2) (x3 : S3) (x4 : S4) (x5 : S5) (x6 : S6) (x7 : S7) (x8 : S8), i < N → P i x1 x2 x3 x4 x5 x6 x7 x8 → ∃ (y1 : S1) (y2 : S2) (y3 : S3) (y4 : S4) (y5 : S5) (y6 : S6) (y7 : S7) (y8 : S8), P (i + 1) y1 y2 y3 y4 y5 y6 y7 y8 ∧ ∀ k, body k x1 x2 x3 x4 x5 x6 x7 x8 = k y1 y2 y3 y4 y5 y6 y7 y8) : ∃ (y1 : S1) (y2 : S2) (y3 : S3) (y4 : S4) (y5 : S5) (y6 : S6) (y7 : S7) (y8 : S8), P N y1 y2 y3 y4 y5 y6 y7 y8 ∧ ∃ k, z_lp8 body z_Fu x1 x2 x3 x4 x5 x6 x7 x8 = body k y1 y2 y3 y4 y5 y6 y7 y8 :=
  r_lp8 P N hs z_Fu 0 x1 x2 x3 x4 x5 x6 x7 x8 (by show N < 0 + 4096; omega) (Nat.zero_le _) h0
theorem u_up (p : Int32) {N : Nat} (h : 1 ≤ N) (hN : N < 2 ^ 31) (σ : z_S) : ∃ j, j < N ∧ f_X11_up p (nI N) σ = some (nI j) := by
  unfold f_X11_up
  obtain ⟨j, hj, e⟩ := pk_andE p (m := 2147483647) 31 (by decide)
  rw [p_ck (nI_ne0 (by omega) hN), e, pk_rem hj (by omega) hN]
  exact ⟨j % N, Nat.mod_lt _ (by omega), rfl⟩
def XT (x m : z_S) (nc nh nk np dy : Nat) (ah pl : Nat → Nat) : Prop := RX x m ∧ RT (fun q => x (zi_X_T q)) (m 1) nc nh nk np dy ah pl
theorem RX.ex {x m : z_S} (h : RX x m) : ∃ nc nh nk np dy ah pl, XT x m nc nh nk np dy ah pl := by
  obtain ⟨⟨nc, nh, nk, np, dy, ah, pl, hT⟩, -⟩ := id h
  exact ⟨nc, nh, nk, np, dy, ah, pl, h, hT⟩
section VAL
variable {x m : z_S} {nc nh nk np dy : Nat} {ah pl : Nat → Nat}
theorem XT.b (X : XT x m nc nh nk np dy ah pl) : 1 ≤ nc ∧ nc ≤ 20 ∧ nh ≤ 24 ∧ nk ≤ 3 ∧ np ≤ 30 ∧ dy ≤ 1000 := by
  obtain ⟨-, hC, hH, hO, hK, hP, hS, hA, -⟩ := X
  exact ⟨hC.1.2.1, hC.1.2.2.1, hH.1.2.1, hK.2.1, hP.2.1, hS.1.2.1⟩
theorem XT.n (X : XT x m nc nh nk np dy ah pl) : m 1 0 = nI nc ∧ m 1 1 = nI nh ∧ m 1 2 = nI nk ∧ m 1 3 = nI np ∧ m 1 4 = nI dy := by
  obtain ⟨-, hC, hH, hO, hK, hP, hS, hA, -⟩ := X
  exact ⟨hC.1.1, hH.1.1, hK.1, hP.1, hS.1.1⟩
theorem v_count_0 (X : XT x m nc nh nk np dy ah pl) : f_X9_count 0 x = some (nI nc) := by
  obtain ⟨hR, hC, hH, hO, hK, hP, hS, hA, z1, z2⟩ := X
  unfold f_X9_count
  rw [if_pos rfl]
  exact congrArg some hC.2.1
theorem v_count_1 (X : XT x m nc nh nk np dy ah pl) : f_X9_count 1 x = some (nI nh) := by
  obtain ⟨hR, hC, hH, hO, hK, hP, hS, hA, z1, z2⟩ := X
  unfold f_X9_count
  rw [if_neg (by decide), if_pos rfl]
  exact congrArg some hH.2.1
theorem v_count_2 (X : XT x m nc nh nk np dy ah pl) : f_X9_count 2 x = some (nI nk) := by
  obtain ⟨hR, hC, hH, hO, hK, hP, hS, hA, z1, z2⟩ := X
  unfold f_X9_count
  rw [if_neg (by decide), if_neg (by decide), if_pos rfl]
  exact congrArg some hK.2.2.1
theorem v_count_3 (X : XT x m nc nh nk np dy ah pl) : f_X9_count 3 x = some (nI np) := by
  obtain ⟨hR, hC, hH, hO, hK, hP, hS, hA, z1, z2⟩ := X
  unfold f_X9_count
  rw [if_neg (by decide), if_neg (by decide), if_neg (by decide), if_pos rfl]
  exact congrArg some hP.2.2.1
theorem v_count_4 (X : XT x m nc nh nk np dy ah pl) : f_X9_count 4 x = some (nI dy) := by
  obtain ⟨hR, hC, hH, hO, hK, hP, hS, hA, z1, z2⟩ := X
  unfold f_X9_count
  rw [if_neg (by decide), if_neg (by decide), if_neg (by decide), if_neg (by decide), if_pos rfl]
  exact congrArg some hS.1.2.2
theorem v_count_5 (X : XT x m nc nh nk np dy ah pl) : f_X9_count 5 x = some (sCnt (m 1) (-1) nh) := by
  obtain ⟨hR, hC, hH, hO, hK, hP, hS, hA, z1, z2⟩ := X
  unfold f_X9_count
  rw [if_neg (by decide), if_neg (by decide), if_neg (by decide), if_neg (by decide), if_neg (by decide), if_pos rfl]
  rw [x_manyOf (n := m 1) hH.2.1 hH.1.2.1 (fun j hj => (hH.2.2 j hj).1.2.2.2.1), p_b1]
theorem v_count_6 (X : XT x m nc nh nk np dy ah pl) : f_X9_count 6 x = some (sPz (m 1) np (nI dy) nh) := by
  obtain ⟨hR, hC, hH, hO, hK, hP, hS, hA, z1, z2⟩ := X
  unfold f_X9_count
  rw [if_neg (by decide), if_neg (by decide), if_neg (by decide), if_neg (by decide), if_neg (by decide), if_neg (by decide), if_pos rfl]
  rw [x_housesPaused hH.2.1 hH.1.2.1 hP hS.1.2.2, p_b1]
theorem v_count_7 (X : XT x m nc nh nk np dy ah pl) : f_X9_count 7 x = some (rSum (m 1) nh 11) := by
  obtain ⟨hR, hC, hH, hO, hK, hP, hS, hA, z1, z2⟩ := X
  unfold f_X9_count
  rw [if_neg (by decide), if_neg (by decide), if_neg (by decide), if_neg (by decide), if_neg (by decide), if_neg (by decide), if_neg (by decide), if_pos rfl]
  rw [x_allComplaints (n := m 1) hH.2.1 hH.1.2.1 (fun j hj => (hH.2.2 j hj).2.1.2.2.2.2.1), p_b1]
theorem v_count_8 (X : XT x m nc nh nk np dy ah pl) : f_X9_count 8 x = some (sI (fun c => m 1 (426 + 7 * c + 5)) nk) := by
  obtain ⟨hR, hC, hH, hO, hK, hP, hS, hA, z1, z2⟩ := X
  unfold f_X9_count
  rw [if_neg (by decide), if_neg (by decide), if_neg (by decide), if_neg (by decide), if_neg (by decide), if_neg (by decide), if_neg (by decide), if_neg (by decide), if_pos rfl]
  rw [x_allTips hK, p_b1]
theorem v_count_9 (X : RX x m) : f_X9_count 9 x = some (m 0 2) := by
  obtain ⟨-, ⟨kp, o, hh⟩, -⟩ := X
  unfold f_X9_count
  rw [if_neg (by decide), if_neg (by decide), if_neg (by decide), if_neg (by decide), if_neg (by decide), if_neg (by decide), if_neg (by decide), if_neg (by decide), if_neg (by decide), if_pos rfl]
  exact congrArg some (hh.2.2.1.trans hh.2.2.2.2.1.symm)
theorem v_count_20 (X : XT x m nc nh nk np dy ah pl) : f_X9_count 20 x = some (m 1 5) := by
  obtain ⟨hR, hC, hH, hO, hK, hP, hS, hA, z1, z2⟩ := X
  unfold f_X9_count
  rw [if_neg (by decide), if_neg (by decide), if_neg (by decide), if_neg (by decide), if_neg (by decide), if_neg (by decide), if_neg (by decide), if_neg (by decide), if_neg (by decide), if_neg (by decide), if_neg (by decide), if_pos rfl]
  exact congrArg some hS.2.1.1
theorem v_count_21 (X : XT x m nc nh nk np dy ah pl) : f_X9_count 21 x = some (m 1 6) := by
  obtain ⟨hR, hC, hH, hO, hK, hP, hS, hA, z1, z2⟩ := X
  unfold f_X9_count
  rw [if_neg (by decide), if_neg (by decide), if_neg (by decide), if_neg (by decide), if_neg (by decide), if_neg (by decide), if_neg (by decide), if_neg (by decide), if_neg (by decide), if_neg (by decide), if_neg (by decide), if_neg (by decide), if_pos rfl]
  exact congrArg some hS.2.2.1
theorem v_count_11 (x : z_S) : f_X9_count 11 x = some (-1) := by
  unfold f_X9_count
  rw [if_neg (by decide), if_neg (by decide), if_neg (by decide), if_neg (by decide), if_neg (by decide), if_neg (by decide), if_neg (by decide), if_neg (by decide), if_neg (by decide), if_neg (by decide), if_neg (by decide), if_neg (by decide), if_neg (by decide)]
theorem v_count_22 (x : z_S) : f_X9_count 22 x = some (-1) := by
  unfold f_X9_count
  rw [if_neg (by decide), if_neg (by decide), if_neg (by decide), if_neg (by decide), if_neg (by decide), if_neg (by decide), if_neg (by decide), if_neg (by decide), if_neg (by decide), if_neg (by decide), if_neg (by decide), if_neg (by decide), if_neg (by decide)]
theorem v_house_0 (X : XT x m nc nh nk np dy ah pl) {h : Nat} (hh : h < nh) : f_X9_houseOf (nI h) 0 x = some (m 1 (90 + 14 * h + 0)) := by
  obtain ⟨hR, hC, hH, hO, hK, hP, hS, hA, z1, z2⟩ := X
  have h24 := hH.1.2.1
  obtain ⟨⟨q0, q1, q2, q3, q4, q5⟩, ⟨q6, q7, q8, q9, q10, q11⟩, -⟩ := hH.2.2 h hh
  unfold f_X9_houseOf
  rw [x_hasH hH.2.1 hH.1.2.1, p_b1, p_tbT ⟨h, hh, rfl⟩, w_tb, p_b1, p_tbT (by decide), if_pos rfl]
  rw [p_cki (by omega) (by omega), p_cl (by omega)]
  exact congrArg some q0
theorem v_house_1 (X : XT x m nc nh nk np dy ah pl) {h : Nat} (hh : h < nh) : f_X9_houseOf (nI h) 1 x = some (m 1 (90 + 14 * h + 1)) := by
  obtain ⟨hR, hC, hH, hO, hK, hP, hS, hA, z1, z2⟩ := X
  have h24 := hH.1.2.1
  obtain ⟨⟨q0, q1, q2, q3, q4, q5⟩, ⟨q6, q7, q8, q9, q10, q11⟩, -⟩ := hH.2.2 h hh
  unfold f_X9_houseOf
  rw [x_hasH hH.2.1 hH.1.2.1, p_b1, p_tbT ⟨h, hh, rfl⟩, w_tb, p_b1, p_tbT (by decide), if_neg (by decide), if_pos rfl]
  rw [p_cki (by omega) (by omega), p_cl (by omega)]
  exact congrArg some q1
theorem v_house_2 (X : XT x m nc nh nk np dy ah pl) {h : Nat} (hh : h < nh) : f_X9_houseOf (nI h) 2 x = some (m 1 (90 + 14 * h + 2)) := by
  obtain ⟨hR, hC, hH, hO, hK, hP, hS, hA, z1, z2⟩ := X
  have h24 := hH.1.2.1
  obtain ⟨⟨q0, q1, q2, q3, q4, q5⟩, ⟨q6, q7, q8, q9, q10, q11⟩, -⟩ := hH.2.2 h hh
  unfold f_X9_houseOf
  rw [x_hasH hH.2.1 hH.1.2.1, p_b1, p_tbT ⟨h, hh, rfl⟩, w_tb, p_b1, p_tbT (by decide), if_neg (by decide), if_neg (by decide), if_pos rfl]
  rw [p_cki (by omega) (by omega), p_cl (by omega)]
  exact congrArg some q2
theorem v_house_3 (X : XT x m nc nh nk np dy ah pl) {h : Nat} (hh : h < nh) : f_X9_houseOf (nI h) 3 x = some (if m 1 (90 + 14 * h + 3) = -1 then -4 else m 1 (90 + 14 * h + 3)) := by
  obtain ⟨hR, hC, hH, hO, hK, hP, hS, hA, z1, z2⟩ := X
  have h24 := hH.1.2.1
  obtain ⟨⟨q0, q1, q2, q3, q4, q5⟩, ⟨q6, q7, q8, q9, q10, q11⟩, -⟩ := hH.2.2 h hh
  unfold f_X9_houseOf
  rw [x_hasH hH.2.1 hH.1.2.1, p_b1, p_tbT ⟨h, hh, rfl⟩, w_tb, p_b1, p_tbT (by decide), if_neg (by decide), if_neg (by decide), if_neg (by decide), if_pos rfl]
  have e : x 207 h = m 1 (90 + 14 * h + 3) := q3
  rw [p_cki (by omega) (by omega), p_cl (by omega), e]
  by_cases c : m 1 (90 + 14 * h + 3) = -1
  · rw [if_pos c, if_pos c]
  · rw [if_neg c, if_neg c, p_cki (by omega) (by omega)]
theorem v_house_6 (X : XT x m nc nh nk np dy ah pl) {h : Nat} (hh : h < nh) : f_X9_houseOf (nI h) 6 x = some (m 1 (90 + 14 * h + 6)) := by
  obtain ⟨hR, hC, hH, hO, hK, hP, hS, hA, z1, z2⟩ := X
  have h24 := hH.1.2.1
  obtain ⟨⟨q0, q1, q2, q3, q4, q5⟩, ⟨q6, q7, q8, q9, q10, q11⟩, -⟩ := hH.2.2 h hh
  unfold f_X9_houseOf
  rw [x_hasH hH.2.1 hH.1.2.1, p_b1, p_tbT ⟨h, hh, rfl⟩, w_tb, p_b1, p_tbT (by decide), if_neg (by decide), if_neg (by decide), if_neg (by decide), if_neg (by decide), if_neg (by decide), if_neg (by decide), if_pos rfl]
  rw [p_cki (by omega) (by omega), p_cl (by omega)]
  exact congrArg some q6
theorem v_house_7 (X : XT x m nc nh nk np dy ah pl) {h : Nat} (hh : h < nh) : f_X9_houseOf (nI h) 7 x = some (m 1 (90 + 14 * h + 7)) := by
  obtain ⟨hR, hC, hH, hO, hK, hP, hS, hA, z1, z2⟩ := X
  have h24 := hH.1.2.1
  obtain ⟨⟨q0, q1, q2, q3, q4, q5⟩, ⟨q6, q7, q8, q9, q10, q11⟩, -⟩ := hH.2.2 h hh
  unfold f_X9_houseOf
  rw [x_hasH hH.2.1 hH.1.2.1, p_b1, p_tbT ⟨h, hh, rfl⟩, w_tb, p_b1, p_tbT (by decide), if_neg (by decide), if_neg (by decide), if_neg (by decide), if_neg (by decide), if_neg (by decide), if_neg (by decide), if_neg (by decide), if_pos rfl]
  rw [p_cki (by omega) (by omega), p_cl (by omega)]
  exact congrArg some q7
theorem v_house_8 (X : XT x m nc nh nk np dy ah pl) {h : Nat} (hh : h < nh) : f_X9_houseOf (nI h) 8 x = some (m 1 (90 + 14 * h + 8) + m 1 (90 + 14 * h + 9)) := by
  obtain ⟨hR, hC, hH, hO, hK, hP, hS, hA, z1, z2⟩ := X
  have h24 := hH.1.2.1
  obtain ⟨⟨q0, q1, q2, q3, q4, q5⟩, ⟨q6, q7, q8, q9, q10, q11⟩, -⟩ := hH.2.2 h hh
  unfold f_X9_houseOf
  rw [x_hasH hH.2.1 hH.1.2.1, p_b1, p_tbT ⟨h, hh, rfl⟩, w_tb, p_b1, p_tbT (by decide), if_neg (by decide), if_neg (by decide), if_neg (by decide), if_neg (by decide), if_neg (by decide), if_neg (by decide), if_neg (by decide), if_neg (by decide), if_pos rfl]
  rw [p_cki (by omega) (by omega), p_cl (by omega)]
  exact congrArg some q8
theorem v_house_9 (X : XT x m nc nh nk np dy ah pl) {h : Nat} (hh : h < nh) : f_X9_houseOf (nI h) 9 x = some (m 1 (90 + 14 * h + 10)) := by
  obtain ⟨hR, hC, hH, hO, hK, hP, hS, hA, z1, z2⟩ := X
  have h24 := hH.1.2.1
  obtain ⟨⟨q0, q1, q2, q3, q4, q5⟩, ⟨q6, q7, q8, q9, q10, q11⟩, -⟩ := hH.2.2 h hh
  unfold f_X9_houseOf
  rw [x_hasH hH.2.1 hH.1.2.1, p_b1, p_tbT ⟨h, hh, rfl⟩, w_tb, p_b1, p_tbT (by decide), if_neg (by decide), if_neg (by decide), if_neg (by decide), if_neg (by decide), if_neg (by decide), if_neg (by decide), if_neg (by decide), if_neg (by decide), if_neg (by decide), if_pos rfl]
  rw [p_cki (by omega) (by omega), p_cl (by omega)]
  exact congrArg some q9
theorem v_house_10 (X : XT x m nc nh nk np dy ah pl) {h : Nat} (hh : h < nh) : f_X9_houseOf (nI h) 10 x = some (m 1 (90 + 14 * h + 11)) := by
  obtain ⟨hR, hC, hH, hO, hK, hP, hS, hA, z1, z2⟩ := X
  have h24 := hH.1.2.1
  obtain ⟨⟨q0, q1, q2, q3, q4, q5⟩, ⟨q6, q7, q8, q9, q10, q11⟩, -⟩ := hH.2.2 h hh
  unfold f_X9_houseOf
  rw [x_hasH hH.2.1 hH.1.2.1, p_b1, p_tbT ⟨h, hh, rfl⟩, w_tb, p_b1, p_tbT (by decide), if_neg (by decide), if_neg (by decide), if_neg (by decide), if_neg (by decide), if_neg (by decide), if_neg (by decide), if_neg (by decide), if_neg (by decide), if_neg (by decide), if_neg (by decide), if_pos rfl]
  rw [p_cki (by omega) (by omega), p_cl (by omega)]
  exact congrArg some q10
theorem v_house_11 (X : XT x m nc nh nk np dy ah pl) {h : Nat} (hh : h < nh) : f_X9_houseOf (nI h) 11 x = some (m 1 (90 + 14 * h + 12)) := by
  obtain ⟨hR, hC, hH, hO, hK, hP, hS, hA, z1, z2⟩ := X
  have h24 := hH.1.2.1
  obtain ⟨⟨q0, q1, q2, q3, q4, q5⟩, ⟨q6, q7, q8, q9, q10, q11⟩, -⟩ := hH.2.2 h hh
  unfold f_X9_houseOf
  rw [x_hasH hH.2.1 hH.1.2.1, p_b1, p_tbT ⟨h, hh, rfl⟩, w_tb, p_b1, p_tbT (by decide), if_neg (by decide), if_neg (by decide), if_neg (by decide), if_neg (by decide), if_neg (by decide), if_neg (by decide), if_neg (by decide), if_neg (by decide), if_neg (by decide), if_neg (by decide), if_neg (by decide)]
  rw [p_cki (by omega) (by omega), p_cl (by omega)]
  exact congrArg some q11
theorem v_corner_0 (X : XT x m nc nh nk np dy ah pl) {k : Nat} (h1 : 1 ≤ k) (hk : k < nc) : f_X9_cornerOf (nI k) 0 x = some (nI (ah k)) := by
  obtain ⟨hR, hC, hH, hO, hK, hP, hS, hA, z1, z2⟩ := X
  have h20 := hC.1.2.2.1
  obtain ⟨q0, q1, q2, q3, q4, q5, q6, q7⟩ := hC.2.2.1 k hk
  unfold f_X9_cornerOf
  rw [x_hasC hC.2.1 hC.1.2.2.1, p_b1, p_tbT ⟨k, hk, rfl⟩, w_tb, p_b1, p_tbT (by decide), p_let]
  rw [if_neg (nI_ne0 (by omega) (by omega))]
  rw [if_pos rfl]
  rw [p_cki (by omega) (by omega), p_cl (by omega)]
  exact congrArg some ((q0 h1).trans (hC.1.2.2.2.2 k h1 hk))
theorem v_corner_1 (X : XT x m nc nh nk np dy ah pl) {k : Nat} (h1 : 1 ≤ k) (hk : k < nc) : f_X9_cornerOf (nI k) 1 x = some (m 1 (10 + 4 * k + 1)) := by
  obtain ⟨hR, hC, hH, hO, hK, hP, hS, hA, z1, z2⟩ := X
  have h20 := hC.1.2.2.1
  obtain ⟨q0, q1, q2, q3, q4, q5, q6, q7⟩ := hC.2.2.1 k hk
  unfold f_X9_cornerOf
  rw [x_hasC hC.2.1 hC.1.2.2.1, p_b1, p_tbT ⟨k, hk, rfl⟩, w_tb, p_b1, p_tbT (by decide), p_let]
  rw [if_neg (nI_ne0 (by omega) (by omega))]
  rw [if_neg (by decide), if_pos rfl]
  rw [p_cki (by omega) (by omega), p_cl (by omega)]
  exact congrArg some q1
theorem v_corner_2 (X : XT x m nc nh nk np dy ah pl) {k : Nat} (hk : k < nc) : f_X9_cornerOf (nI k) 2 x = some (m 1 (10 + 4 * k + 2)) := by
  obtain ⟨hR, hC, hH, hO, hK, hP, hS, hA, z1, z2⟩ := X
  have h20 := hC.1.2.2.1
  obtain ⟨q0, q1, q2, q3, q4, q5, q6, q7⟩ := hC.2.2.1 k hk
  unfold f_X9_cornerOf
  rw [x_hasC hC.2.1 hC.1.2.2.1, p_b1, p_tbT ⟨k, hk, rfl⟩, w_tb, p_b1, p_tbT (by decide), p_let]
  have hj : ∀ A : Option Int32, (if nI k = (0 : Int32) then (if (2 : Int32) = (0 : Int32) then (some ((-4 : Int32))) else (if (2 : Int32) = (1 : Int32) then (some ((-4 : Int32))) else (if (2 : Int32) = (3 : Int32) then (some ((-4 : Int32))) else A))) else A) = A := by
    intro A
    rw [if_neg (show ¬ (2 : Int32) = 0 by decide), if_neg (show ¬ (2 : Int32) = 1 by decide), if_neg (show ¬ (2 : Int32) = 3 by decide)]
    exact ite_self _
  rw [hj]
  rw [if_neg (by decide), if_neg (by decide), if_pos rfl]
  rw [p_cki (by omega) (by omega), p_cl (by omega)]
  exact congrArg some q2
theorem v_corner_3 (X : XT x m nc nh nk np dy ah pl) {k : Nat} (h1 : 1 ≤ k) (hk : k < nc) : f_X9_cornerOf (nI k) 3 x = some (m 1 (10 + 4 * k + 3)) := by
  obtain ⟨hR, hC, hH, hO, hK, hP, hS, hA, z1, z2⟩ := X
  have h20 := hC.1.2.2.1
  obtain ⟨q0, q1, q2, q3, q4, q5, q6, q7⟩ := hC.2.2.1 k hk
  unfold f_X9_cornerOf
  rw [x_hasC hC.2.1 hC.1.2.2.1, p_b1, p_tbT ⟨k, hk, rfl⟩, w_tb, p_b1, p_tbT (by decide), p_let]
  rw [if_neg (nI_ne0 (by omega) (by omega))]
  rw [if_neg (by decide), if_neg (by decide), if_neg (by decide), if_pos rfl]
  rw [p_cki (by omega) (by omega), p_cl (by omega)]
  exact congrArg some q3
theorem v_corner_4 (X : XT x m nc nh nk np dy ah pl) {k : Nat} (hk : k < nc) : f_X9_cornerOf (nI k) 4 x = some (rDis (m 1) ah k) := by
  obtain ⟨hR, hC, hH, hO, hK, hP, hS, hA, z1, z2⟩ := X
  have h20 := hC.1.2.2.1
  obtain ⟨q0, q1, q2, q3, q4, q5, q6, q7⟩ := hC.2.2.1 k hk
  unfold f_X9_cornerOf
  rw [x_hasC hC.2.1 hC.1.2.2.1, p_b1, p_tbT ⟨k, hk, rfl⟩, w_tb, p_b1, p_tbT (by decide), p_let]
  have hj : ∀ A : Option Int32, (if nI k = (0 : Int32) then (if (4 : Int32) = (0 : Int32) then (some ((-4 : Int32))) else (if (4 : Int32) = (1 : Int32) then (some ((-4 : Int32))) else (if (4 : Int32) = (3 : Int32) then (some ((-4 : Int32))) else A))) else A) = A := by
    intro A
    rw [if_neg (show ¬ (4 : Int32) = 0 by decide), if_neg (show ¬ (4 : Int32) = 1 by decide), if_neg (show ¬ (4 : Int32) = 3 by decide)]
    exact ite_self _
  rw [hj]
  rw [if_neg (by decide), if_neg (by decide), if_neg (by decide), if_neg (by decide), if_pos rfl]
  rw [p_cki (by omega) (by omega), p_cl (by omega)]
  exact congrArg some q5
theorem v_corner_5 (X : XT x m nc nh nk np dy ah pl) {k : Nat} (hk : k < nc) : f_X9_cornerOf (nI k) 5 x = some (sBy ah pl k nh) := by
  obtain ⟨hR, hC, hH, hO, hK, hP, hS, hA, z1, z2⟩ := X
  have h20 := hC.1.2.2.1
  obtain ⟨q0, q1, q2, q3, q4, q5, q6, q7⟩ := hC.2.2.1 k hk
  unfold f_X9_cornerOf
  rw [x_hasC hC.2.1 hC.1.2.2.1, p_b1, p_tbT ⟨k, hk, rfl⟩, w_tb, p_b1, p_tbT (by decide), p_let]
  have hj : ∀ A : Option Int32, (if nI k = (0 : Int32) then (if (5 : Int32) = (0 : Int32) then (some ((-4 : Int32))) else (if (5 : Int32) = (1 : Int32) then (some ((-4 : Int32))) else (if (5 : Int32) = (3 : Int32) then (some ((-4 : Int32))) else A))) else A) = A := by
    intro A
    rw [if_neg (show ¬ (5 : Int32) = 0 by decide), if_neg (show ¬ (5 : Int32) = 1 by decide), if_neg (show ¬ (5 : Int32) = 3 by decide)]
    exact ite_self _
  rw [hj]
  rw [if_neg (by decide), if_neg (by decide), if_neg (by decide), if_neg (by decide), if_neg (by decide), if_pos rfl]
  rw [x_housesFrom hC hH (by omega), p_b1]
theorem v_corner_6 (X : XT x m nc nh nk np dy ah pl) {k : Nat} (hk : k < nc) : f_X9_cornerOf (nI k) 6 x = some (rCrt (m 1) ah k) := by
  obtain ⟨hR, hC, hH, hO, hK, hP, hS, hA, z1, z2⟩ := X
  have h20 := hC.1.2.2.1
  obtain ⟨q0, q1, q2, q3, q4, q5, q6, q7⟩ := hC.2.2.1 k hk
  unfold f_X9_cornerOf
  rw [x_hasC hC.2.1 hC.1.2.2.1, p_b1, p_tbT ⟨k, hk, rfl⟩, w_tb, p_b1, p_tbT (by decide), p_let]
  have hj : ∀ A : Option Int32, (if nI k = (0 : Int32) then (if (6 : Int32) = (0 : Int32) then (some ((-4 : Int32))) else (if (6 : Int32) = (1 : Int32) then (some ((-4 : Int32))) else (if (6 : Int32) = (3 : Int32) then (some ((-4 : Int32))) else A))) else A) = A := by
    intro A
    rw [if_neg (show ¬ (6 : Int32) = 0 by decide), if_neg (show ¬ (6 : Int32) = 1 by decide), if_neg (show ¬ (6 : Int32) = 3 by decide)]
    exact ite_self _
  rw [hj]
  rw [if_neg (by decide), if_neg (by decide), if_neg (by decide), if_neg (by decide), if_neg (by decide), if_neg (by decide)]
  rw [p_cki (by omega) (by omega), p_cl (by omega)]
  exact congrArg some q6
theorem v_corner0_0 (X : XT x m nc nh nk np dy ah pl) : f_X9_cornerOf 0 0 x = some (-4) := by
  obtain ⟨hR, hC, hH, hO, hK, hP, hS, hA, z1, z2⟩ := X
  unfold f_X9_cornerOf
  rw [x_hasC hC.2.1 hC.1.2.2.1, p_b1, p_tbT ⟨0, hC.1.2.1, rfl⟩, w_tb, p_b1, p_tbT (by decide), p_let, if_pos rfl]
  rw [if_pos rfl]
theorem v_corner0_1 (X : XT x m nc nh nk np dy ah pl) : f_X9_cornerOf 0 1 x = some (-4) := by
  obtain ⟨hR, hC, hH, hO, hK, hP, hS, hA, z1, z2⟩ := X
  unfold f_X9_cornerOf
  rw [x_hasC hC.2.1 hC.1.2.2.1, p_b1, p_tbT ⟨0, hC.1.2.1, rfl⟩, w_tb, p_b1, p_tbT (by decide), p_let, if_pos rfl]
  rw [if_neg (by decide), if_pos rfl]
theorem v_corner0_3 (X : XT x m nc nh nk np dy ah pl) : f_X9_cornerOf 0 3 x = some (-4) := by
  obtain ⟨hR, hC, hH, hO, hK, hP, hS, hA, z1, z2⟩ := X
  unfold f_X9_cornerOf
  rw [x_hasC hC.2.1 hC.1.2.2.1, p_b1, p_tbT ⟨0, hC.1.2.1, rfl⟩, w_tb, p_b1, p_tbT (by decide), p_let, if_pos rfl]
  rw [if_neg (by decide), if_neg (by decide), if_pos rfl]
theorem v_carrier_0 (X : XT x m nc nh nk np dy ah pl) {c : Nat} (hc : c < nk) : f_X9_carrierOf (nI c) 0 x = some (m 1 (426 + 7 * c + 0)) := by
  obtain ⟨hR, hC, hH, hO, hK, hP, hS, hA, z1, z2⟩ := X
  have h3 := hK.2.1
  obtain ⟨q0, q1, q2, q3, q4, q5, q6, -⟩ := hK.2.2.2 c hc
  unfold f_X9_carrierOf
  rw [x_hasK hK.2.2.1 hK.2.1, p_b1, p_tbT ⟨c, hc, rfl⟩, w_tb, p_b1, p_tbT (by decide), if_pos rfl]
  rw [p_cki (by omega) (by omega), p_cl (by omega)]
  exact congrArg some q0
theorem v_carrier_2 (X : XT x m nc nh nk np dy ah pl) {c : Nat} (hc : c < nk) : f_X9_carrierOf (nI c) 2 x = some (m 1 (426 + 7 * c + 2)) := by
  obtain ⟨hR, hC, hH, hO, hK, hP, hS, hA, z1, z2⟩ := X
  have h3 := hK.2.1
  obtain ⟨q0, q1, q2, q3, q4, q5, q6, -⟩ := hK.2.2.2 c hc
  unfold f_X9_carrierOf
  rw [x_hasK hK.2.2.1 hK.2.1, p_b1, p_tbT ⟨c, hc, rfl⟩, w_tb, p_b1, p_tbT (by decide), if_neg (by decide), if_neg (by decide), if_pos rfl]
  rw [p_cki (by omega) (by omega), p_cl (by omega)]
  exact congrArg some q2
theorem v_carrier_3 (X : XT x m nc nh nk np dy ah pl) {c : Nat} (hc : c < nk) : f_X9_carrierOf (nI c) 3 x = some (sCnt (m 1) (nI c) nh) := by
  obtain ⟨hR, hC, hH, hO, hK, hP, hS, hA, z1, z2⟩ := X
  unfold f_X9_carrierOf
  rw [x_hasK hK.2.2.1 hK.2.1, p_b1, p_tbT ⟨c, hc, rfl⟩, w_tb, p_b1, p_tbT (by decide), if_neg (by decide), if_neg (by decide), if_neg (by decide), if_pos rfl]
  rw [x_manyOf (n := m 1) hH.2.1 hH.1.2.1 (fun j hj => (hH.2.2 j hj).1.2.2.2.1), p_b1]
theorem v_carrier_4 (X : XT x m nc nh nk np dy ah pl) {c : Nat} (hc : c < nk) : f_X9_carrierOf (nI c) 4 x = some (m 1 (426 + 7 * c + 3)) := by
  obtain ⟨hR, hC, hH, hO, hK, hP, hS, hA, z1, z2⟩ := X
  have h3 := hK.2.1
  obtain ⟨q0, q1, q2, q3, q4, q5, q6, -⟩ := hK.2.2.2 c hc
  unfold f_X9_carrierOf
  rw [x_hasK hK.2.2.1 hK.2.1, p_b1, p_tbT ⟨c, hc, rfl⟩, w_tb, p_b1, p_tbT (by decide), if_neg (by decide), if_neg (by decide), if_neg (by decide), if_neg (by decide), if_pos rfl]
  rw [p_cki (by omega) (by omega), p_cl (by omega)]
  exact congrArg some q3
theorem v_carrier_5 (X : XT x m nc nh nk np dy ah pl) {c : Nat} (hc : c < nk) : f_X9_carrierOf (nI c) 5 x = some (m 1 (426 + 7 * c + 4)) := by
  obtain ⟨hR, hC, hH, hO, hK, hP, hS, hA, z1, z2⟩ := X
  have h3 := hK.2.1
  obtain ⟨q0, q1, q2, q3, q4, q5, q6, -⟩ := hK.2.2.2 c hc
  unfold f_X9_carrierOf
  rw [x_hasK hK.2.2.1 hK.2.1, p_b1, p_tbT ⟨c, hc, rfl⟩, w_tb, p_b1, p_tbT (by decide), if_neg (by decide), if_neg (by decide), if_neg (by decide), if_neg (by decide), if_neg (by decide), if_pos rfl]
  rw [p_cki (by omega) (by omega), p_cl (by omega)]
  exact congrArg some q4
theorem v_carrier_6 (X : XT x m nc nh nk np dy ah pl) {c : Nat} (hc : c < nk) : f_X9_carrierOf (nI c) 6 x = some (m 1 (426 + 7 * c + 5)) := by
  obtain ⟨hR, hC, hH, hO, hK, hP, hS, hA, z1, z2⟩ := X
  have h3 := hK.2.1
  obtain ⟨q0, q1, q2, q3, q4, q5, q6, -⟩ := hK.2.2.2 c hc
  unfold f_X9_carrierOf
  rw [x_hasK hK.2.2.1 hK.2.1, p_b1, p_tbT ⟨c, hc, rfl⟩, w_tb, p_b1, p_tbT (by decide), if_neg (by decide), if_neg (by decide), if_neg (by decide), if_neg (by decide), if_neg (by decide), if_neg (by decide), if_pos rfl]
  rw [p_cki (by omega) (by omega), p_cl (by omega)]
  exact congrArg some q5
theorem v_carrier_7 (X : XT x m nc nh nk np dy ah pl) {c : Nat} (hc : c < nk) : f_X9_carrierOf (nI c) 7 x = some (m 1 (426 + 7 * c + 6)) := by
  obtain ⟨hR, hC, hH, hO, hK, hP, hS, hA, z1, z2⟩ := X
  have h3 := hK.2.1
  obtain ⟨q0, q1, q2, q3, q4, q5, q6, -⟩ := hK.2.2.2 c hc
  unfold f_X9_carrierOf
  rw [x_hasK hK.2.2.1 hK.2.1, p_b1, p_tbT ⟨c, hc, rfl⟩, w_tb, p_b1, p_tbT (by decide), if_neg (by decide), if_neg (by decide), if_neg (by decide), if_neg (by decide), if_neg (by decide), if_neg (by decide), if_neg (by decide)]
  rw [p_cki (by omega) (by omega), p_cl (by omega)]
  exact congrArg some q6
theorem v_acc_0 (X : XT x m nc nh nk np dy ah pl) : f_X9_account 0 x = some (rSum (m 1) nh 6 + rSum (m 1) nh 7 + rSum (m 1) nh 8 + rSum (m 1) nh 9 + rSum (m 1) nh 10) := by
  obtain ⟨hR, hC, hH, hO, hK, hP, hS, hA, z1, z2⟩ := X
  unfold f_X9_account
  rw [w_tb, p_b1, p_tbT (by decide)]
  exact congrArg some hA.1
theorem v_acc_1 (X : XT x m nc nh nk np dy ah pl) : f_X9_account 1 x = some (rSum (m 1) nh 6) := by
  obtain ⟨hR, hC, hH, hO, hK, hP, hS, hA, z1, z2⟩ := X
  unfold f_X9_account
  rw [w_tb, p_b1, p_tbT (by decide)]
  exact congrArg some hA.2.1
theorem v_acc_2 (X : XT x m nc nh nk np dy ah pl) : f_X9_account 2 x = some (rSum (m 1) nh 7) := by
  obtain ⟨hR, hC, hH, hO, hK, hP, hS, hA, z1, z2⟩ := X
  unfold f_X9_account
  rw [w_tb, p_b1, p_tbT (by decide)]
  exact congrArg some hA.2.2.1
theorem v_acc_3 (X : XT x m nc nh nk np dy ah pl) : f_X9_account 3 x = some (rSum (m 1) nh 8) := by
  obtain ⟨hR, hC, hH, hO, hK, hP, hS, hA, z1, z2⟩ := X
  unfold f_X9_account
  rw [w_tb, p_b1, p_tbT (by decide)]
  exact congrArg some hA.2.2.2.1
theorem v_acc_4 (X : XT x m nc nh nk np dy ah pl) : f_X9_account 4 x = some (rSum (m 1) nh 9) := by
  obtain ⟨hR, hC, hH, hO, hK, hP, hS, hA, z1, z2⟩ := X
  unfold f_X9_account
  rw [w_tb, p_b1, p_tbT (by decide)]
  exact congrArg some hA.2.2.2.2.1
theorem v_acc_5 (X : XT x m nc nh nk np dy ah pl) : f_X9_account 5 x = some (rSum (m 1) nh 10) := by
  obtain ⟨hR, hC, hH, hO, hK, hP, hS, hA, z1, z2⟩ := X
  unfold f_X9_account
  rw [w_tb, p_b1, p_tbT (by decide)]
  exact congrArg some hA.2.2.2.2.2
end VAL
/-! the answers as functions of the row of numbers alone -/
noncomputable def gvC (a b : Int32) (n : Nat → Int32) : Int32 := (f_X10_cornerOf a b (fun _ => n)).getD 0
noncomputable def gvH (a b : Int32) (n : Nat → Int32) : Int32 := (f_X10_houseOf a b (fun _ => n)).getD 0
noncomputable def gvR (a b : Int32) (n : Nat → Int32) : Int32 := (f_X10_carrierOf a b (fun _ => n)).getD 0
noncomputable def gvP (a b : Int32) (n : Nat → Int32) : Int32 := (f_X10_pauseOf a b (fun _ => n)).getD 0
noncomputable def gvS (a : Int32) (n : Nat → Int32) : Int32 := (f_X10_shareBits a (fun _ => n)).getD 0
noncomputable def gvD (a : Int32) (n : Nat → Int32) : Int32 := (f_X10_nextDog a (fun _ => n)).getD 0
noncomputable def gvA (a : Int32) (n : Nat → Int32) : Int32 := (f_X10_account a (fun _ => n)).getD 0
theorem w_cornerOf {x m : z_S} (hR : RX x m) (a b : Int32) : f_X9_cornerOf a b x = some (gvC a b (m 1)) := by
  obtain ⟨r, h1, h2⟩ := ff_cornerOf hR a b
  have h3 : f_X10_cornerOf a b (fun _ => m 1) = some r := h2
  rw [h1]
  unfold gvC
  rw [h3]
  rfl
theorem w_houseOf {x m : z_S} (hR : RX x m) (a b : Int32) : f_X9_houseOf a b x = some (gvH a b (m 1)) := by
  obtain ⟨r, h1, h2⟩ := ff_houseOf hR a b
  have h3 : f_X10_houseOf a b (fun _ => m 1) = some r := h2
  rw [h1]
  unfold gvH
  rw [h3]
  rfl
theorem w_carrierOf {x m : z_S} (hR : RX x m) (a b : Int32) : f_X9_carrierOf a b x = some (gvR a b (m 1)) := by
  obtain ⟨r, h1, h2⟩ := ff_carrierOf hR a b
  have h3 : f_X10_carrierOf a b (fun _ => m 1) = some r := h2
  rw [h1]
  unfold gvR
  rw [h3]
  rfl
theorem w_pauseOf {x m : z_S} (hR : RX x m) (a b : Int32) : f_X9_pauseOf a b x = some (gvP a b (m 1)) := by
  obtain ⟨r, h1, h2⟩ := ff_pauseOf hR a b
  have h3 : f_X10_pauseOf a b (fun _ => m 1) = some r := h2
  rw [h1]
  unfold gvP
  rw [h3]
  rfl
theorem w_shareBits {x m : z_S} (hR : RX x m) (a : Int32) : f_X9_shareBits a x = some (gvS a (m 1)) := by
  obtain ⟨r, h1, h2⟩ := ff_shareBits hR a
  have h3 : f_X10_shareBits a (fun _ => m 1) = some r := h2
  rw [h1]
  unfold gvS
  rw [h3]
  rfl
theorem w_nextDog {x m : z_S} (hR : RX x m) (a : Int32) : f_X9_nextDog a x = some (gvD a (m 1)) := by
  obtain ⟨r, h1, h2⟩ := ff_nextDog hR a
  have h3 : f_X10_nextDog a (fun _ => m 1) = some r := h2
  rw [h1]
  unfold gvD
  rw [h3]
  rfl
theorem w_account {x m : z_S} (hR : RX x m) (a : Int32) : f_X9_account a x = some (gvA a (m 1)) := by
  obtain ⟨r, h1, h2⟩ := ff_account hR a
  have h3 : f_X10_account a (fun _ => m 1) = some r := h2
  rw [h1]
  unfold gvA
  rw [h3]
  rfl
