/-! THE PURE PART. 22: rounds told ahead -/
section GOES2
variable {T : z_S} {n : Nat → Int32} {nc nh nk np dy ds : Nat} {ah pl : Nat → Nat}
theorem stA.mH {N : Nat → Int32} (h : stA n N) (hH : mH n nc nh pl) : mH N nc nh pl := by
  have h24 := hH.2.1
  exact mH_congr hH (h.1 1 (by omega)) (fun q hq => h.2.1 q 0 (by omega) (by omega))
theorem m_goes {m : z_S} {z d : Int32} {N : Nat → Nat → Int32} {dl : Nat → Int32} (hC : mC n nc ah) (hH : rH T n nc nh nk dy pl) (hK : rK T n nk) (hP : rP T n np) (hS : rS T n ds) {c : Nat} (hc : c < nk) (hst : ∀ i, i ≤ nh → stA n (N i)) (h1 : m 1 = N 0) (hdl : dl 0 = 0)
    (hs : ∀ i, i < nh → hStep n nc nh np ah pl c d z N dl i (tR ah pl nc nh i)) {t o : Nat} {e p dg : Int32} {D : Nat → Nat} (hW : WK n nc nh np ah pl c d (fun h => n (90 + 14 * h + 3) = nI c) nh = (t, e, p, dg, o, D)) :
    ∃ m', f_X10_goes (nI c) d z m = some (dl nh, m') ∧ m' 1 = N nh ∧ (∀ a, a ≠ 0 → a ≠ 1 → a ≠ 6 → a ≠ 7 → a ≠ 8 → m' a = m a) ∧ (∀ j, j ≠ 9 → j ≠ 10 → j ≠ 11 → j ≠ 12 → m' 0 j = m 0 j) ∧
      m' 0 9 = nI t ∧ m' 0 10 = e + eS n ah nc (n (426 + 7 * c + 0)) D ∧ m' 0 11 = p ∧ m' 0 12 = dg := by
  have h3 := hK.2.1
  have hN := hst 0 (Nat.zero_le _)
  obtain ⟨hlm, hlm5⟩ := lm_of hK hc
  unfold f_X10_goes
  rw [zl_1, m_ofCarrier (by omega), p_b1, h1, hN.2.2.1 c 1 (by omega) (by omega), hlm]
  simp only [p_let]
  obtain ⟨s1, hs1⟩ : ∃ s, s = z_u (z_u (z_u (z_u m 0 9 0) 0 10 0) 0 11 0) 0 12 0 := ⟨_, rfl⟩
  have o1 : ∀ a, a ≠ 0 → s1 a = m a := fun a ha => by rw [hs1, u_o ha, u_o ha, u_o ha, u_o ha]
  have j1 : ∀ j, j ≠ 9 → j ≠ 10 → j ≠ 11 → j ≠ 12 → s1 0 j = m 0 j := fun j a b c d => by rw [hs1, u_j d, u_j c, u_j b, u_j a]
  have e1 : s1 1 = N 0 := by rw [o1 1 (by omega), h1]
  rw [← hs1]
  obtain ⟨s2, f1, f2, f3⟩ := m_row (σ := s1) (nc := nc) (nh := nh) (ah := ah) (pl := pl) (by rw [e1]; exact hN.mC hC) (by rw [e1]; exact hN.mH hH.1)
  rw [f1, p_b1]
  refine p_ex2 (fun r => ∃ m' : z_S, r = some (dl nh, m') ∧ m' 1 = N nh ∧ (∀ a, a ≠ 0 → a ≠ 1 → a ≠ 6 → a ≠ 7 → a ≠ 8 → m' a = m a) ∧ (∀ j, j ≠ 9 → j ≠ 10 → j ≠ 11 → j ≠ 12 → m' 0 j = m 0 j) ∧
      m' 0 9 = nI t ∧ m' 0 10 = e + eS n ah nc (n (426 + 7 * c + 0)) D ∧ m' 0 11 = p ∧ m' 0 12 = dg)
    (fun i (x : Int32) (σ : z_S) => x = nI i ∧ (∀ a, a ≠ 8 → σ a = s2 a) ∧ ∀ k, k < i → σ 8 k = nI 0) 20 (by omega) ⟨rfl, fun _ _ => rfl, fun _ h => absurd h (Nat.not_lt_zero _)⟩ ?_ ?_
  · rintro i x σ hi ⟨rfl, w, w8⟩
    refine Or.inl ⟨nI (i + 1), z_u σ 8 i 0, ⟨rfl, fun a ha => by rw [u_o ha, w a ha], fun k hk => ?_⟩, fun kk => ?_⟩
    · by_cases e : k = i
      · rw [e, u_i]; rfl
      · rw [u_j e, w8 k (by omega)]
    · unfold lb_X10_goes_41
      rw [if_neg (show ¬ (20 : Int32) ≤ nI i from nI_ge (b := 20) (a := i) (by omega) (by omega)), p_cki (by omega) (by omega), p_cl (by omega), p_let, p_let, zl_1, nI_add]
  · rintro x σ ⟨rfl, w, w8⟩
    obtain ⟨m', g1, g2, g3, g4, g5⟩ := m_round (s0 := σ) (z := z) (d := d) (N := N) (dl := dl) hC hH hK hP hS hc hst (by rw [w 1 (by omega), f2 1 (by omega) (by omega), e1]) hdl (fun k hk => by rw [w 7 (by omega)]; exact f3 k hk)
      (by rw [w 0 (by omega), f2 0 (by omega) (by omega), hs1, u_j (by omega), u_j (by omega), u_j (by omega), u_i]) (by rw [w 0 (by omega), f2 0 (by omega) (by omega), hs1, u_j (by omega), u_j (by omega), u_i]) (by rw [w 0 (by omega), f2 0 (by omega) (by omega), hs1, u_j (by omega), u_i]) (by rw [w 0 (by omega), f2 0 (by omega) (by omega), hs1, u_i]) w8 hs hW
    refine ⟨some (dl nh, m'), ⟨m', rfl, g2, fun a a0 a1 a6 a7 a8 => by rw [g3 a a0 a1 a8, w a a8, f2 a a6 a7, o1 a a0], fun j a b c d => by rw [g4 j a b c d, w 0 (by omega), f2 0 (by omega) (by omega), j1 j a b c d], g5⟩, fun kk => ?_⟩
    unfold lb_X10_goes_41
    rw [if_pos (show (20 : Int32) ≤ nI 20 from by decide)]
    exact g1
theorem hStep0 {c i R : Nat} {d : Int32} : hStep n nc nh np ah pl c d 0 (fun _ => n) (fun _ => 0) i R :=
  ⟨fun _ => ⟨rfl, rfl⟩, fun _ _ => ⟨rfl, fun _ => rfl, fun h => absurd rfl h⟩, fun _ _ => ⟨fun _ => ⟨rfl, rfl⟩, fun h => absurd rfl h⟩⟩
end GOES2
theorem wk_congr {f f' : (Nat → Nat) → Int32} {Q Q' : Nat → Prop} {wt wt' : Nat → Nat} {pp pp' dg dg' : Nat → Int32} {pl : Nat → Nat} {lim : Nat} {R : Nat → Nat} (hf : ∀ D, f' D = f D) : ∀ (k : Nat), (∀ i, i < k → (Q' (R i) ↔ Q (R i)) ∧ wt' (R i) = wt (R i) ∧ pp' (R i) = pp (R i) ∧ dg' (R i) = dg (R i)) →
    wk f' Q' wt' pp' dg' pl lim R k = wk f Q wt pp dg pl lim R k
  | 0, _ => rfl
  | k + 1, h => by
    have ih := wk_congr (pl := pl) (lim := lim) hf k (fun i hi => h i (by omega))
    obtain ⟨a, b, c, d⟩ := h k (by omega)
    show wk1 f' Q' wt' pp' dg' pl lim (R k) (wk f' Q' wt' pp' dg' pl lim R k) = wk1 f Q wt pp dg pl lim (R k) (wk f Q wt pp dg pl lim R k)
    rw [ih]
    generalize wk f Q wt pp dg pl lim R k = s
    obtain ⟨t, e, p, g, o, D⟩ := s
    by_cases q : Q (R k) ∧ wt (R k) ≤ lim
    · have q' : Q' (R k) ∧ wt' (R k) ≤ lim := ⟨a.mpr q.1, by rw [b]; exact q.2⟩
      by_cases q2 : t = 0 ∨ lim < o + wt (R k)
      · rw [wk1_new q.1 q.2 q2, wk1_new q'.1 q'.2 (by rw [b]; exact q2), hf, b, c, d]
      · rw [wk1_old q.1 q.2 q2, wk1_old q'.1 q'.2 (by rw [b]; exact q2), b, c, d]
    · have q' : ¬ (Q' (R k) ∧ wt' (R k) ≤ lim) := fun w => q ⟨a.mp w.1, by rw [← b]; exact w.2⟩
      rw [wk1_no q, wk1_no q']
theorem zkTW_lo {i : Nat} (h : i < 192) : zk_X_TW i = 40 := by
  show (if i < 192 then 40 else _) = 40
  rw [if_pos h]
theorem zkTW_T {i : Nat} (h : 192 ≤ i) (h2 : i < 230) : zk_X_TW i = i - 192 := by
  show (if i < 192 then 40 else if i < 230 then i - 192 else _) = _
  rw [if_neg (by omega), if_pos h2]
theorem zkTW_hi {i : Nat} (h : 233 ≤ i) : zk_X_TW i = 40 := by
  show (if i < 192 then 40 else if i < 230 then i - 192 else if i = 231 then 38 else if i = 232 then 39 else 40) = _
  rw [if_neg (by omega), if_neg (by omega), if_neg (by omega), if_neg (by omega)]
theorem RX_TW {x m : z_S} (hR : RX x m) {σ : z_S} (h1 : ∀ a, a ≠ 38 → a ≠ 39 → σ a = x (zi_X_TW a)) (h39 : ∀ k, k < 20 → σ 39 k = nI 0) (h4 : σ 38 4 = nI 0) : RX (z_m x zk_X_TW 40 σ) m ∧ (z_m x zk_X_TW 40 σ) 231 = σ 38 := by
  obtain ⟨hT, ⟨kp, o, a, b, c, d, e, f⟩, hw, L, t1, t2, t3, t4⟩ := hR
  have e231 : (z_m x zk_X_TW 40 σ) 231 = σ 38 := z_m_in (k := 38) rfl (by omega)
  have e232 : (z_m x zk_X_TW 40 σ) 232 = σ 39 := z_m_in (k := 39) rfl (by omega)
  have lo : ∀ i, i < 192 → (z_m x zk_X_TW 40 σ) i = x i := fun i hi => z_m_out (by rw [zkTW_lo hi]; exact Nat.le_refl _)
  have hi : ∀ i, 233 ≤ i → (z_m x zk_X_TW 40 σ) i = x i := fun i h => z_m_out (by rw [zkTW_hi h]; exact Nat.le_refl _)
  have tt : ∀ q, q < 38 → (z_m x zk_X_TW 40 σ) (zi_X_T q) = x (zi_X_T q) := by
    intro q hq
    refine (z_m_in (k := q) ?_ (by omega)).trans ?_
    · show zk_X_TW (q + 192) = q
      rw [zkTW_T (by omega) (by omega), Nat.add_sub_cancel]
    · rw [h1 q (by omega) (by omega)]
      show x (if q < 38 then q + 192 else q + 193) = x (q + 192)
      rw [if_pos hq]
  refine ⟨⟨hT.c (fun q hq => tt q hq), ⟨kp, o, a, b, by rw [lo 0 (by omega)]; exact c, by rw [lo 0 (by omega)]; exact d, e, fun i hi => RTx.c (f i hi) (fun q hq => ?_)⟩, ⟨fun k hk => by rw [e232]; exact h39 k hk, by rw [e231]; exact h4⟩, L, t1, by rw [hi 233 (by omega)]; exact t2, t3, fun k hk => by rw [hi 234 (by omega)]; exact t4 k hk⟩, e231⟩
  show (z_m x zk_X_TW 40 σ) _ = x _
  rw [lo _ (by omega)]
theorem nI_m1 {a : Nat} (h : a < 2 ^ 31) : ¬ nI a = -1 := by
  intro e
  have h2 := nI_toInt (n := a) h
  rw [e] at h2
  have h3 : (-1 : Int32).toInt = -1 := by decide
  omega
section FFR
variable {x m : z_S} {nc nh nk np dy : Nat} {ah pl : Nat → Nat}
theorem tw_RT (hT : RT (fun q => x (zi_X_T q)) (m 1) nc nh nk np dy ah pl) : RT (fun k => x (zi_X_TW k)) (m 1) nc nh nk np dy ah pl := by
  refine hT.eqT (eqT.c (fun q hq => ?_))
  show x (if q < 38 then q + 192 else q + 193) = x (q + 192)
  rw [if_pos hq]
/-- the walk of the class with a guest, and the numbers of the model's round: one round -/
theorem x_goX (hR : RX x m) (hT : RT (fun q => x (zi_X_T q)) (m 1) nc nh nk np dy ah pl) {c : Nat} (hc : c < nk) (d g : Int32) {t o : Nat} {e p dg : Int32} {D : Nat → Nat}
    (hW : WK (m 1) nc nh np ah pl c d (fun h => m 1 (90 + 14 * h + 3) = nI c ∨ nI h = g) nh = (t, e, p, dg, o, D)) :
    ∃ σ', f_X8_go (nI c) d g (fun k => x (zi_X_TW k)) = some σ' ∧ gS σ' (fun k => x (zi_X_TW k)) t (e + eS (m 1) ah nc (m 1 (426 + 7 * c + 0)) D) p dg 0 (fun _ => 0) := by
  obtain ⟨hC, hH, hO, hK, hP, hS, -⟩ := tw_RT hT
  obtain ⟨-, -, ⟨hw1, hw2⟩, -⟩ := hR
  exact x_go hC hH hO hK hP hS hc d g hw1 hw2 hW
end FFR
theorem ff_round {x m : z_S} (hR : RX x m) (a d w : Int32) : ∃ r x' m', f_X9_round a d w x = some (r, x') ∧ f_X10_round a d w m = some (r, m') ∧ RX x' m' := by
  have hR0 := hR
  obtain ⟨⟨nc, nh, nk, np, dy, ah, pl, hT⟩, -⟩ := hR
  have hT0 := hT
  obtain ⟨hC, hH, hO, hK, hP, hS, hA, z1, z2⟩ := hT
  have h24 := hH.1.2.1
  have h3 := hK.2.1
  have hc1 := hC.1.2.1
  have hA' := hC.1.2.2.2.1
  have hpl : ∀ h, h < nh → pl h < nc := fun h hh => (hH.1.2.2 h hh).2
  have e192 : x 192 0 = nI dy := hS.1.2.2
  unfold f_X9_round f_X10_round
  rw [x_hasK hK.2.2.1 h3, m_isCarrier hK.1 h3, p_b1, p_b1]
  by_cases ha : iX a nk
  · obtain ⟨c, hc, rfl⟩ := id ha
    rw [p_tbT ha, p_tbT ha, w_tb, p_b1, k_4, c_4, m_tb, p_b1, e192, hS.1.1]
    by_cases hd : nI dy ≤ d ∧ d ≤ 999
    · rw [p_tbT hd, p_tbT hd, w_tb, m_tb, p_b1, p_b1]
      by_cases hw : 0 ≤ w ∧ w ≤ 3
      · rw [p_tbT hw, p_tbT hw]
        obtain ⟨⟨t, e, p, dg, o, D⟩, hW⟩ : ∃ s : wS, WK (m 1) nc nh np ah pl c d (fun h => m 1 (90 + 14 * h + 3) = nI c) nh = s := ⟨_, rfl⟩
        have hW' : WK (m 1) nc nh np ah pl c d (fun h => m 1 (90 + 14 * h + 3) = nI c ∨ nI h = -1) nh = (t, e, p, dg, o, D) := by
          rw [← hW]
          refine wk_congr (fun _ => rfl) nh (fun i hi => ⟨?_, rfl, rfl, rfl⟩)
          have hlt := tR_lt (ah := ah) hc1 hA' hpl hi
          exact ⟨fun q => ⟨q.1.elim id (fun e => absurd e (nI_m1 (by omega))), q.2⟩, fun q => ⟨Or.inl q.1, q.2⟩⟩
        obtain ⟨σ', f1, g⟩ := x_goX hR0 hT0 hc d (-1) hW'
        obtain ⟨m', k1, k2, k3, k4, k5, k6, k7, k8⟩ := m_goes (m := m) (z := 0) (d := d) (N := fun _ => m 1) (dl := fun _ => 0) hC.1 hH hK hP hS hc (fun _ _ => stA.rf) rfl rfl (fun i hi => hStep0) hW
        rw [f1, p_b1, p_let, k1, p_b2]
        obtain ⟨g1, g2, g3, g4, g5, g6, g7⟩ := g
        obtain ⟨r1, r2⟩ := RX_TW hR0 g1 g2 g7
        have hRm : RX (z_m x zk_X_TW 40 σ') m' := r1.m k2 (k3 2 (by omega) (by omega) (by omega) (by omega) (by omega)) (k3 5 (by omega) (by omega) (by omega) (by omega) (by omega)) (k4 2 (by omega) (by omega) (by omega) (by omega)) (k4 6 (by omega) (by omega) (by omega) (by omega))
        rw [r2, g3, g4, g5, g6, k5, k6, k7, k8]
        by_cases w0 : w = 0
        · rw [if_pos w0, if_pos w0]; exact ⟨_, _, _, rfl, rfl, hRm⟩
        · rw [if_neg w0, if_neg w0]
          by_cases w1 : w = 1
          · rw [if_pos w1, if_pos w1]; exact ⟨_, _, _, rfl, rfl, hRm⟩
          · rw [if_neg w1, if_neg w1]
            by_cases w2 : w = 2
            · rw [if_pos w2, if_pos w2]; exact ⟨_, _, _, rfl, rfl, hRm⟩
            · rw [if_neg w2, if_neg w2]; exact ⟨_, _, _, rfl, rfl, hRm⟩
      · rw [p_tbF hw, p_tbF hw]; exact ⟨-1, x, m, rfl, rfl, hR0⟩
    · rw [p_tbF hd, p_tbF hd]; exact ⟨-1, x, m, rfl, rfl, hR0⟩
  · rw [p_tbF ha, p_tbF ha]; exact ⟨-1, x, m, rfl, rfl, hR0⟩
