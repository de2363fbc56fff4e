/-! p30, THE PURE PART. 19: a day that the law lets pass -/
theorem RX.cx {x x' m : z_S} (hR : RX x m) (h : ∀ a, a < 275 → x' a = x a) : RX x' m := by
  obtain ⟨hT, ⟨kp, o, h1, h2, h3, h4, h5, h6⟩, hw, L, t1, t2, t3, t4⟩ := hR
  have hr : ∀ i, (o + i) % 5 < 5 := fun i => Nat.mod_lt _ (by omega)
  refine ⟨hT.c (fun q hq => h _ (by show q + 192 < 275; omega)), ⟨kp, o, h1, h2, by rw [h 0 (by omega)]; exact h3, by rw [h 0 (by omega)]; exact h4, h5, fun i hi => (h6 i hi).c (fun q hq => h _ (by have := hr i; omega))⟩, ⟨fun k hk => by rw [h 232 (by omega)]; exact hw.1 k hk, by rw [h 231 (by omega)]; exact hw.2⟩, L, t1, by rw [h 233 (by omega)]; exact t2, t3, fun k hk => by rw [h 234 (by omega)]; exact t4 k hk⟩
theorem zG_lo {σ τ : z_S} {a : Nat} (ha : a < 275) : z_m σ zk_XG_X 275 τ a = τ a := z_m_in (k := a) (if_pos ha) ha
theorem zG_hi {σ τ : z_S} : z_m σ zk_XG_X 275 τ 275 = σ 275 := z_m_out (Nat.le_of_eq (if_neg (Nat.lt_irrefl 275) : zk_XG_X 275 = 275).symm)
section GOES
variable {x m : z_S} {nc nh nk np dy : Nat} {ah pl : Nat → Nat}
theorem XT.toD (X : XT x m nc nh nk np dy ah pl) {x' m' : z_S} (hR : RX x' m') (hn : ∀ i, i < 90 → i ≠ 4 → m' 1 i = m 1 i) (h4 : m' 1 4 = nI (dy + 1)) (hd : dy < 1000) (hp : ∀ h, h < nh → m' 1 (90 + 14 * h + 0) = m 1 (90 + 14 * h + 0)) : XT x' m' nc nh nk np (dy + 1) ah pl := by
  obtain ⟨nc', nh', nk', np', dy', ah', pl', X'⟩ := hR.ex
  obtain ⟨n0, n1, n2, n3, n4⟩ := X.n
  obtain ⟨c0, c1, c2, c3, c4, c5⟩ := X.b
  obtain ⟨n0', n1', n2', n3', n4'⟩ := X'.n
  obtain ⟨c0', c1', c2', c3', c4', c5'⟩ := X'.b
  have q0 : nc' = nc := (nI_eq (by omega) (by omega)).mp (n0'.symm.trans ((hn 0 (by omega) (by omega)).trans n0))
  have q1 : nh' = nh := (nI_eq (by omega) (by omega)).mp (n1'.symm.trans ((hn 1 (by omega) (by omega)).trans n1))
  have q2 : nk' = nk := (nI_eq (by omega) (by omega)).mp (n2'.symm.trans ((hn 2 (by omega) (by omega)).trans n2))
  have q3 : np' = np := (nI_eq (by omega) (by omega)).mp (n3'.symm.trans ((hn 3 (by omega) (by omega)).trans n3))
  have q4 : dy' = dy + 1 := (nI_eq (by omega) (by omega)).mp (n4'.symm.trans h4)
  subst q0; subst q1; subst q2; subst q3; subst q4
  refine ⟨hR, X'.2.ap (fun k h1 h2 => ?_) (fun h hh => ?_)⟩
  · have e := X.2.1.1.2.2.2.2 k h1 h2
    have e' := X'.2.1.1.2.2.2.2 k h1 h2
    have l := X.2.1.1.2.2.2.1 k h1 h2
    have l' := X'.2.1.1.2.2.2.1 k h1 h2
    rw [hn _ (by omega) (by omega), e] at e'
    exact (nI_eq (by omega) (by omega)).mp e'
  · obtain ⟨e, l⟩ := X.2.2.1.1.2.2 h hh
    obtain ⟨e', l'⟩ := X'.2.2.1.1.2.2 h hh
    rw [hp h hh, e] at e'
    exact (nI_eq (by omega) (by omega)).mp e'
theorem XT.cx (X : XT x m nc nh nk np dy ah pl) {x' : z_S} (h : ∀ a, a < 275 → x' a = x a) : XT x' m nc nh nk np dy ah pl := X.same (X.1.cx h) rfl
/-- what is told ahead of the day -/
def TO (n : Nat → Int32) (nc nh np : Nat) (ah pl : Nat → Nat) (dy : Nat) (t : Nat → Int32) (i : Nat) : Prop := ∀ e, e < i → t (4 * e) = nI (rW n nc nh np ah pl e (nI dy)).1 + n (426 + 7 * e + 3) ∧ t (4 * e + 1) = rE n nc nh np ah pl e (nI dy) + n (426 + 7 * e + 4) ∧ t (4 * e + 2) = (rW n nc nh np ah pl e (nI dy)).2.2.2.1 ∧ t (4 * e + 3) = n (426 + 7 * e + 2)
theorem q_4 {c : Nat} : (4 : Int32) * nI c = nI (4 * c) := (pk_mul 4 c : nI 4 * nI c = nI (4 * c))
theorem q_4p {c : Nat} : nI c + (1 : Int32) = nI (c + 1) ∧ nI c + (2 : Int32) = nI (c + 2) ∧ nI c + (3 : Int32) = nI (c + 3) := ⟨nI_add c 1, nI_add c 2, nI_add c 3⟩
set_option maxHeartbeats 1000000 in
theorem g_step {σ : z_S} (S : XT σ m nc nh nk np dy ah pl) {i : Nat} (hi : i < nk) (hd : dy ≤ 999) (hT : TO (m 1) nc nh np ah pl dy (σ 275) i) (a : Int32) : ∃ σ', XT σ' m nc nh nk np dy ah pl ∧ TO (m 1) nc nh np ah pl dy (σ' 275) (i + 1) ∧
    ∀ k, lb_X11_goes_46 (nI dy) (nI nk) k a (nI i) σ = k (a + (rW (m 1) nc nh np ah pl i (nI dy)).2.2.1) (nI (i + 1)) σ' := by
  obtain ⟨b0, b1, b2, b3, b4, b5⟩ := S.b
  have hdd : nI dy ≤ nI dy ∧ nI dy ≤ 999 := ⟨nI_le (Nat.le_refl _) (by omega), nI_le (b := 999) hd (by omega)⟩
  obtain ⟨y1, r1, f1, -, -, -⟩ := v_round S hi hdd
  obtain ⟨s1, hs1⟩ : ∃ s, s = z_m σ zk_XG_X 275 y1 := ⟨_, rfl⟩
  have S1 : XT s1 m nc nh nk np dy ah pl := (S.same r1 rfl).cx (fun a ha => by rw [hs1, zG_lo ha])
  have t1 : s1 275 = σ 275 := by rw [hs1, zG_hi]
  obtain ⟨u1, hu1⟩ : ∃ s, s = z_u s1 275 (4 * i) (nI (rW (m 1) nc nh np ah pl i (nI dy)).1 + m 1 (426 + 7 * i + 3)) := ⟨_, rfl⟩
  have U1 : XT u1 m nc nh nk np dy ah pl := S1.cx (fun a ha => by rw [hu1, u_o (by omega)])
  obtain ⟨y2, r2, -, f2, -, -⟩ := v_round U1 hi hdd
  obtain ⟨s2, hs2⟩ : ∃ s, s = z_m u1 zk_XG_X 275 y2 := ⟨_, rfl⟩
  have S2 : XT s2 m nc nh nk np dy ah pl := (U1.same r2 rfl).cx (fun a ha => by rw [hs2, zG_lo ha])
  have t2 : s2 275 = u1 275 := by rw [hs2, zG_hi]
  obtain ⟨u2, hu2⟩ : ∃ s, s = z_u s2 275 (4 * i + 1) (rE (m 1) nc nh np ah pl i (nI dy) + m 1 (426 + 7 * i + 4)) := ⟨_, rfl⟩
  have U2 : XT u2 m nc nh nk np dy ah pl := S2.cx (fun a ha => by rw [hu2, u_o (by omega)])
  obtain ⟨y3, r3, -, -, -, f3⟩ := v_round U2 hi hdd
  obtain ⟨s3, hs3⟩ : ∃ s, s = z_m u2 zk_XG_X 275 y3 := ⟨_, rfl⟩
  have S3 : XT s3 m nc nh nk np dy ah pl := (U2.same r3 rfl).cx (fun a ha => by rw [hs3, zG_lo ha])
  have t3 : s3 275 = u2 275 := by rw [hs3, zG_hi]
  obtain ⟨u3, hu3⟩ : ∃ s, s = z_u s3 275 (4 * i + 2) (rW (m 1) nc nh np ah pl i (nI dy)).2.2.2.1 := ⟨_, rfl⟩
  have U3 : XT u3 m nc nh nk np dy ah pl := S3.cx (fun a ha => by rw [hu3, u_o (by omega)])
  obtain ⟨u4, hu4⟩ : ∃ s, s = z_u u3 275 (4 * i + 3) (m 1 (426 + 7 * i + 2)) := ⟨_, rfl⟩
  have U4 : XT u4 m nc nh nk np dy ah pl := U3.cx (fun a ha => by rw [hu4, u_o (by omega)])
  obtain ⟨y5, r5, -, -, f5, -⟩ := v_round U4 hi hdd
  obtain ⟨s5, hs5⟩ : ∃ s, s = z_m u4 zk_XG_X 275 y5 := ⟨_, rfl⟩
  have S5 : XT s5 m nc nh nk np dy ah pl := (U4.same r5 rfl).cx (fun a ha => by rw [hs5, zG_lo ha])
  have t5 : s5 275 = u4 275 := by rw [hs5, zG_hi]
  have old : ∀ j, j ≠ 4 * i → j ≠ 4 * i + 1 → j ≠ 4 * i + 2 → j ≠ 4 * i + 3 → s5 275 j = σ 275 j := fun j h0 h1 h2 h3 => by
    rw [t5, hu4, u_j h3, hu3, u_j h2, t3, hu2, u_j h1, t2, hu1, u_j h0, t1]
  refine ⟨s5, S5, fun e he => ?_, fun k => ?_⟩
  · by_cases q : e = i
    · subst q
      refine ⟨?_, ?_, ?_, ?_⟩
      · rw [t5, hu4, u_j (by omega), hu3, u_j (by omega), t3, hu2, u_j (by omega), t2, hu1, u_i]
      · rw [t5, hu4, u_j (by omega), hu3, u_j (by omega), t3, hu2, u_i]
      · rw [t5, hu4, u_j (by omega), hu3, u_i]
      · rw [t5, hu4, u_i]
    · rw [old _ (by omega) (by omega) (by omega) (by omega), old _ (by omega) (by omega) (by omega) (by omega), old _ (by omega) (by omega) (by omega) (by omega), old _ (by omega) (by omega) (by omega) (by omega)]
      exact hT e (by omega)
  · unfold lb_X11_goes_46
    rw [if_neg (nI_ge (b := nk) hi (by omega)), show f_X9_round (nI i) (nI dy) 0 (fun k => σ (zi_XG_X k)) = _ from f1, p_b2, p_let, ← hs1, show f_X9_carrierOf (nI i) 4 (fun k => s1 (zi_XG_X k)) = _ from v_carrier_4 S1 hi, p_b1, q_4, q_4p.1, q_4p.2.1, q_4p.2.2, p_cki (by omega) (by omega), p_let, p_cl (by omega), ← hu1,
      show f_X9_round (nI i) (nI dy) 1 (fun k => u1 (zi_XG_X k)) = _ from f2, p_b2, p_let, ← hs2, show f_X9_carrierOf (nI i) 5 (fun k => s2 (zi_XG_X k)) = _ from v_carrier_5 S2 hi, p_b1, p_cki (by omega) (by omega), p_let, p_cl (by omega), ← hu2,
      show f_X9_round (nI i) (nI dy) 3 (fun k => u2 (zi_XG_X k)) = _ from f3, p_b2, p_let, ← hs3, p_cki (by omega) (by omega), p_let, p_cl (by omega), ← hu3, show f_X9_carrierOf (nI i) 2 (fun k => u3 (zi_XG_X k)) = _ from v_carrier_2 U3 hi, p_b1, p_cki (by omega) (by omega), p_let, p_cl (by omega), ← hu4,
      show f_X9_round (nI i) (nI dy) 2 (fun k => u4 (zi_XG_X k)) = _ from f5, p_b2, p_let, ← hs5, p_let, p_let, q_4p.1]
set_option maxHeartbeats 1000000 in
theorem g_last {σ m' : z_S} {n : Nat → Int32} (S : XT σ m' nc nh nk np (dy + 1) ah pl) {i : Nat} (hi : i < nk) (hT : TO n nc nh np ah pl dy (σ 275) nk) (D : DF n (m' 1) nc nh nk np dy ah pl)
    (hb : ∃ b e, b ≤ 500 ∧ e ≤ 24 ∧ n (426 + 7 * i + 2) = nI b ∧ (rW n nc nh np ah pl i (nI dy)).2.2.2.1 = nI e ∧ m' 1 (426 + 7 * i + 2) = nI (b - e)) (k : Int32 → Option (Int32 × z_S)) : lb_X11_goes_214 (nI nk) σ k (nI i) = k (nI (i + 1)) := by
  obtain ⟨b0, b1, b2, b3, b4, b5⟩ := S.b
  obtain ⟨b, e, hb1, he1, eb, ee, en⟩ := hb
  obtain ⟨t0, t1, t2, t3⟩ := hT i hi
  obtain ⟨-, -, -, d3, d4⟩ := D.2.2.2.2 i (by omega)
  have w1 : (dW n nc nh nk np ah pl (nI dy) i).1 = nI (rW n nc nh np ah pl i (nI dy)).1 := by unfold dW; rw [if_pos hi]; rfl
  have w2 : (dW n nc nh nk np ah pl (nI dy) i).2 = rE n nc nh np ah pl i (nI dy) := by unfold dW; rw [if_pos hi]; rfl
  unfold lb_X11_goes_214
  rw [if_neg (nI_ge (b := nk) hi (by omega)), q_4, q_4p.1, q_4p.2.1, q_4p.2.2, p_cki (by omega) (by omega), p_cki (by omega) (by omega)]
  refine z_letX (fun j35 e35 => ?_)
  have fin : ∀ v : Int32, v = nI (b - e) → j35 v = k (nI (i + 1)) := by
    intro v hv
    rw [e35]
    dsimp only
    rw [show f_X9_carrierOf (nI i) 4 (fun k => σ (zi_XG_X k)) = _ from v_carrier_4 S hi, p_b1, p_cki (by omega) (by omega), p_cl (by omega), t0, d3, w1, if_pos (Int32.add_comm _ _),
      show f_X9_carrierOf (nI i) 5 (fun k => σ (zi_XG_X k)) = _ from v_carrier_5 S hi, p_b1, p_cki (by omega) (by omega), p_cl (by omega), t1, d4, w2, if_pos (Int32.add_comm _ _),
      show f_X9_carrierOf (nI i) 2 (fun k => σ (zi_XG_X k)) = _ from v_carrier_2 S hi, p_b1, en, if_pos hv.symm, p_let, q_4p.1]
  rw [p_cl (by omega), p_cl (by omega), t3, t2, ee, eb]
  by_cases q : b ≤ e
  · rw [if_pos (nI_le q (by omega))]
    exact fin 0 (by rw [show b - e = 0 by omega]; rfl)
  · rw [if_neg (nI_ge (by omega) (by omega)), p_cki (by omega) (by omega), p_cki (by omega) (by omega)]
    refine fin _ ?_
    obtain ⟨w, rfl⟩ : ∃ w, b = w + e := ⟨b - e, by omega⟩
    rw [← nI_add, Int32.add_sub_cancel, Nat.add_sub_cancel]
theorem v_goes {due : Int32} {d : Nat} (I : IV x m nc nh nk d due) (hd : d < 900) : ∃ x' m', f_X11_goes x = some (1, x') ∧ IV x' m' nc nh nk (d + 1) (due + sI (fun h => m 1 (90 + 14 * h + 1)) nh) := by
  obtain ⟨np, ah, pl, X⟩ := I.X
  obtain ⟨b0, b1, b2, b3, b4, b5⟩ := X.b
  have J := I.2.1
  unfold f_X11_goes
  rw [v_count_4 X, p_b1, if_pos (show nI d ≤ (999 : Int32) from nI_le (b := 999) (by omega) (by omega)), v_count_2 X, p_b1, p_let]
  obtain ⟨_, _, σ, ⟨rfl, rfl, S, hT⟩, k', e⟩ := r_run3 (body := lb_X11_goes_46 (nI d) (nI nk)) (x1 := (0 : Int32)) (x2 := (0 : Int32)) (x3 := z_n x 275) (fun i a b σ => a = sI (fun c => (rW (m 1) nc nh np ah pl c (nI d)).2.2.1) i ∧ b = nI i ∧ XT σ m nc nh nk np d ah pl ∧ TO (m 1) nc nh np ah pl d (σ 275) i) nk (by omega) ⟨rfl, rfl, X.cx (fun a ha => if_neg (by omega)), fun e he => absurd he (by omega)⟩ (by
    rintro i a b σ hi ⟨rfl, rfl, S, hT⟩
    obtain ⟨σ', S', T', h⟩ := g_step S hi (by omega) hT (sI (fun c => (rW (m 1) nc nh np ah pl c (nI d)).2.2.1) i)
    exact ⟨_, _, σ', ⟨rfl, rfl, S', T'⟩, h⟩)
  obtain ⟨r, y, m', g1, g2, D, g4⟩ := k_day S (fun h hh => by
    obtain ⟨p, kk, u, s, a1, a2, a3, -⟩ := J.1 h hh
    exact ⟨p, a3, a1⟩) (by omega)
  obtain ⟨τ, hτ⟩ : ∃ s, s = z_m σ zk_XG_X 275 y := ⟨_, rfl⟩
  have Y : XT y m' nc nh nk np (d + 1) ah pl := X.toD g2 D.1 D.2.1 (by omega) (fun h hh => D.2.2.1 h 0 (by omega) (by omega))
  have T : XT τ m' nc nh nk np (d + 1) ah pl := Y.cx (fun a ha => by rw [hτ, zG_lo ha])
  have t275 : τ 275 = σ 275 := by rw [hτ, zG_hi]
  have hr : r = rSum (m' 1) nh 6 - rSum (m 1) nh 6 := by rw [g4, Int32.add_comm, Int32.add_sub_cancel]
  refine ⟨τ, m', ?_, T.1, j_day X D J, by omega, by omega, by omega, by omega, T.n.1, T.n.2.1, T.n.2.2.1, T.n.2.2.2.2⟩
  rw [e]
  unfold lb_X11_goes_46
  rw [if_pos (nI_le (Nat.le_refl _) (by omega)), show f_X9_account 1 (fun k => σ (zi_XG_X k)) = _ from v_acc_1 S, p_b1, show f_X9_account 3 (fun k => σ (zi_XG_X k)) = _ from v_acc_3 S, p_b1, show f_X9_days 1 (fun k => σ (zi_XG_X k)) = _ from g1, p_b2, p_let, ← hτ,
    show f_X9_account 1 (fun k => τ (zi_XG_X k)) = _ from v_acc_1 T, p_b1, if_pos hr, show f_X9_account 3 (fun k => τ (zi_XG_X k)) = _ from v_acc_3 T, p_b1, if_pos (d_load X D J.1 g4), show f_X9_count 4 (fun k => τ (zi_XG_X k)) = _ from v_count_4 T, p_b1, if_pos q_4p.1.symm]
  obtain ⟨_, rfl, k'', e2⟩ := r_run1 (body := lb_X11_goes_214 (nI nk) τ) (x1 := (0 : Int32)) (fun i a => a = nI i) nk (by omega) rfl (by
    rintro i a hi rfl
    exact ⟨_, rfl, g_last T hi (by rw [t275]; exact hT) D (d_bis X D J.2.1 hi)⟩)
  rw [e2]
  unfold lb_X11_goes_214
  rw [if_pos (nI_le (Nat.le_refl _) (by omega))]
end GOES
