/-! THE PURE PART. 36: faults and plays -/
theorem zkXR_T {q : Nat} (h : 192 ≤ q) (h2 : q < 230) : zk_X_R q = q - 153 := by
  show (if q < 192 then 82 else if q < 230 then q - 153 else _) = _
  rw [if_neg (by omega), if_pos h2]
theorem zkXR_lo {q : Nat} (h : q < 192) : zk_X_R q = 82 := by
  show (if q < 192 then 82 else _) = _
  rw [if_pos h]
section RXR
variable {x m : z_S}
theorem RX_R (hR : RX x m) {σ : z_S} (h1 : ∀ q, 39 ≤ q → q < 77 → σ q = x (zi_X_R q)) (hw : wT (fun q => σ (zi_R_TW q))) (h77 : σ 77 0 = x 233 0) (h78 : σ 78 = x 234) : RX (z_m x zk_X_R 82 σ) m ∧ (z_m x zk_X_R 82 σ) 236 = σ 0 ∧ (∀ q, q < 192 → z_m x zk_X_R 82 σ q = x q) ∧ (∀ q, q < 38 → z_m x zk_X_R 82 σ (237 + q) = σ (zi_R_T q)) ∧ ∀ q, q < 38 → z_m x zk_X_R 82 σ (zi_X_T q) = x (zi_X_T q) := by
  obtain ⟨hT, ⟨kp, o, a, b, c, d, e, f⟩, -, L, t1, t2, t3, t4⟩ := hR
  have lo : ∀ q, q < 192 → z_m x zk_X_R 82 σ q = x q := fun q hq => z_m_out (by rw [zkXR_lo hq]; exact Nat.le_refl _)
  have tt : ∀ q, q < 38 → z_m x zk_X_R 82 σ (zi_X_T q) = x (zi_X_T q) := by
    intro q hq
    refine (z_m_in (k := q + 39) ?_ (by omega)).trans ?_
    · show zk_X_R (q + 192) = q + 39
      rw [zkXR_T (by omega) (by omega)]
      omega
    · rw [h1 _ (by omega) (by omega)]
      show x (if q + 39 < 39 then q + 39 + 236 else if q + 39 < 77 then q + 39 + 153 else _) = x (q + 192)
      rw [if_neg (by omega), if_pos (by omega)]
  have e231 : z_m x zk_X_R 82 σ 231 = σ 80 := z_m_in (k := 80) rfl (by omega)
  have e232 : z_m x zk_X_R 82 σ 232 = σ 81 := z_m_in (k := 81) rfl (by omega)
  have e233 : z_m x zk_X_R 82 σ 233 = σ 77 := z_m_in (k := 77) rfl (by omega)
  have e234 : z_m x zk_X_R 82 σ 234 = σ 78 := z_m_in (k := 78) rfl (by omega)
  have e236 : z_m x zk_X_R 82 σ 236 = σ 0 := z_m_in (k := 0) rfl (by omega)
  refine ⟨⟨hT.c (fun q hq => tt q hq), ⟨kp, o, a, b, by rw [lo 0 (by omega)]; exact c, by rw [lo 0 (by omega)]; exact d, e, fun i hi => RTx.c (f i hi) (fun q hq => ?_)⟩, ⟨fun k hk => by rw [e232]; exact hw.1 k hk, by rw [e231]; exact hw.2⟩, L, t1, by rw [e233, h77]; exact t2, t3, fun k hk => by rw [e234, h78]; exact t4 k hk⟩, e236, lo, fun q hq => ?_, tt⟩
  · show z_m x zk_X_R 82 σ _ = x _
    rw [lo _ (by omega)]
  · refine z_m_in (k := q + 1) ?_ (by omega)
    show (if 237 + q < 192 then 82 else if 237 + q < 230 then 237 + q - 153 else if 237 + q = 230 then 82 else if 237 + q < 233 then 237 + q - 151 else if 237 + q < 236 then 237 + q - 156 else 237 + q - 236) = q + 1
    rw [if_neg (by omega), if_neg (by omega), if_neg (by omega), if_neg (by omega), if_neg (by omega)]
    omega
theorem RX_tx (hR : RX x m) : ∃ c L, ∀ m' : z_S, m' 5 = m 5 → m' 0 6 = m 0 6 → tx (fun k => (fun q => x (zi_X_R q)) (zi_R_X0 k)) m' c L := by
  obtain ⟨-, -, -, L, t1, t2, t3, t4⟩ := hR
  refine ⟨fun k => (m 5 k).toNatClampNeg, L, fun m' h5 h6 => ⟨?_, by rw [h6]; exact t3, t1, fun k hk => ?_⟩⟩
  · exact t2
  · obtain ⟨c, c1, c2, c3, c4⟩ := t4 k hk
    have e : (m 5 k).toNatClampNeg = c := by rw [c4, p_cl (by omega)]
    rw [h5]
    show x 234 k = nI (m 5 k).toNatClampNeg ∧ m 5 k = nI (m 5 k).toNatClampNeg ∧ 32 ≤ (m 5 k).toNatClampNeg ∧ (m 5 k).toNatClampNeg ≤ 126
    rw [e]
    exact ⟨c3, c4, c1, c2⟩
theorem RX_run (hR : RX x m) {m1 : z_S} (h1 : ∀ j, j < 537 → m1 1 j = m 1 j) (h5 : m1 5 = m 5) (h6 : m1 0 6 = m 0 6) : ∃ σ' m' re, f_X7_run (fun q => x (zi_X_R q)) = some σ' ∧ f_X10_doesAll m1 = some (nI re, m') ∧ runR (fun q => x (zi_X_R q)) m1 σ' m' re := by
  obtain ⟨c, L, ht⟩ := RX_tx hR
  refine run_same (c := c) (L := L) (σ := fun q => x (zi_X_R q)) ?_ (ht m1 h5 h6) ?_
  · refine (hR.1.c (fun q hq => ?_)).nn h1
    show x (if q + 39 < 39 then q + 39 + 236 else if q + 39 < 77 then q + 39 + 153 else _) = x (q + 192)
    rw [if_neg (by omega), if_pos (by omega)]
  · exact hR.2.2.1
theorem m_looks (hR : RX x m) : ∃ σ' re mt m', f_X7_run (fun q => x (zi_X_R q)) = some σ' ∧ f_X10_looks m = some (nI re, m') ∧ (∃ m1, runR (fun q => x (zi_X_R q)) m1 σ' mt re) ∧ (∀ j, j < 537 → m' 1 j = m 1 j) ∧ m' 2 = m 2 ∧ m' 3 = m 3 ∧ m' 5 = m 5 ∧ m' 0 = mt 0 ∧ m' 0 2 = m 0 2 ∧ m' 0 6 = m 0 6 := by
  obtain ⟨m1, hm1⟩ : ∃ s : z_S, s = fun i => if i = 4 then va_cpy (m 1) (m 4) 0 0 537 else m i := ⟨_, rfl⟩
  have o1 : ∀ a, a ≠ 4 → m1 a = m a := fun a ha => by rw [hm1]; exact if_neg ha
  have e4 : ∀ j, j < 537 → m1 4 j = m 1 j := by
    intro j hj
    have : m1 4 = va_cpy (m 1) (m 4) 0 0 537 := by rw [hm1]; exact if_pos rfl
    rw [this, va_cpy_in (Nat.zero_le _) (by omega)]
    congr 1
    omega
  obtain ⟨σ', m5, re, f1, f2, f3⟩ := RX_run hR (m1 := m1) (fun j _ => by rw [o1 1 (by omega)]) (o1 5 (by omega)) (by rw [o1 0 (by omega)])
  obtain ⟨q1, q2, q3, q4, q5, q6, q7, q8, q9, q10, q11, p2, p3, p4, p5, p02, p06⟩ := id f3
  refine ⟨σ', re, m5, fun i => if i = 1 then va_cpy (m5 4) (m5 1) 0 0 537 else m5 i, f1, ?_, ?_, fun j hj => ?_, ?_, ?_, ?_, ?_, ?_, ?_⟩
  · unfold f_X10_looks
    rw [m_copies2 (x := 0) (y := 0) (p := 0) (q := 0) rfl rfl (by omega) (by omega) (by omega) (by omega) (by omega), ← hm1, f2, p_b2, m_copies2 (x := 0) (y := 0) (p := 0) (q := 0) rfl rfl (by omega) (by omega) (by omega) (by omega) (by omega)]
  · exact ⟨m1, f3⟩
  · simp only [if_true]
    rw [va_cpy_in (Nat.zero_le _) (by omega), p4]
    exact (congrArg (m1 4) (by omega)).trans (e4 j hj)
  · simp only [show (2 : Nat) ≠ 1 from by omega, if_false]
    rw [p2, o1 2 (by omega)]
  · simp only [show (3 : Nat) ≠ 1 from by omega, if_false]
    rw [p3, o1 3 (by omega)]
  · simp only [show (5 : Nat) ≠ 1 from by omega, if_false]
    rw [p5, o1 5 (by omega)]
  · simp only [show (0 : Nat) ≠ 1 from by omega, if_false]
  · simp only [show (0 : Nat) ≠ 1 from by omega, if_false]
    rw [p02, o1 0 (by omega)]
  · simp only [show (0 : Nat) ≠ 1 from by omega, if_false]
    rw [p06, o1 0 (by omega)]
theorem RX.m5 (hR : RX x m) {m' : z_S} (h1 : ∀ j, j < 537 → m' 1 j = m 1 j) (h2 : m' 2 = m 2) (h5 : m' 5 = m 5) (h02 : m' 0 2 = m 0 2) (h06 : m' 0 6 = m 0 6) : RX x m' := by
  obtain ⟨hT, ⟨kp, o, a, b, c, d, e, f⟩, hw, L, t1, t2, t3, t4⟩ := hR
  refine ⟨hT.nn h1, ⟨kp, o, a, b, c, d, by rw [h02]; exact e, fun i hi => by rw [h2]; exact f i hi⟩, hw, L, t1, t2, by rw [h06]; exact t3, fun k hk => by rw [h5]; exact t4 k hk⟩
end RXR
theorem ff_fault {x m : z_S} (hR : RX x m) (a : Int32) : ∃ r x' m', f_X9_fault a x = some (r, x') ∧ f_X10_fault a m = some (r, m') ∧ RX x' m' := by
  unfold f_X9_fault f_X10_fault
  rw [w_tb, m_tb, p_b1, p_b1]
  by_cases ha : 0 ≤ a ∧ a ≤ 2
  · rw [p_tbT ha, p_tbT ha]
    obtain ⟨σ', re, mt, m', f1, f2, f3, g1, g2, g3, g5, g0, g02, g06⟩ := m_looks hR
    obtain ⟨mz, q1, q2, -, q4, q5, q6, q7, q8, q9, q10, q11, -⟩ := f3
    obtain ⟨r1, r2, -⟩ := RX_R hR (σ := σ') (fun q w1 w2 => q9 q w1 w2) q8 q10 q11
    have hRm : RX (z_m x zk_X_R 82 σ') m' := r1.m5 g1 g2 g5 g02 g06
    rw [f1, p_b1, p_let, f2, p_b2, r2, q2, g0]
    by_cases re0 : re = 0
    · rw [if_pos (by rw [re0]; rfl), if_pos (by rw [re0]; rfl)]
      exact ⟨_, _, _, rfl, rfl, hRm⟩
    · have hre : ¬ nI re = 0 := nI_ne0 (by omega) (by omega)
      rw [if_neg hre, if_neg hre, p_let, q4 re0]
      by_cases a0 : a = 0
      · rw [if_neg (show ¬ a = 2 from by rw [a0]; decide), if_pos a0, if_pos a0]
        exact ⟨_, _, _, rfl, rfl, hRm⟩
      · by_cases a1 : a = 1
        · rw [if_neg (show ¬ a = 2 from by rw [a1]; decide), if_neg a0, if_neg a0, if_pos a1, if_pos a1]
          exact ⟨_, _, _, rfl, rfl, hRm⟩
        · have a2 : a = 2 := by
            obtain ⟨j, hj, rfl⟩ := nI_of (x := a) (Int32.not_lt.mpr ha.1)
            have h2 : j ≤ 2 := (nI_leI hj (by omega)).mp ha.2
            have h0 : j ≠ 0 := fun e => a0 (by rw [e]; rfl)
            have h1 : j ≠ 1 := fun e => a1 (by rw [e]; rfl)
            have : j = 2 := by omega
            rw [this]; rfl
          rw [if_pos a2, if_neg a0, if_neg a0, if_neg a1, if_neg a1]
          by_cases re1 : re = 1
          · rw [if_pos (by rw [re1]; rfl), q5 re1]
            exact ⟨_, _, _, rfl, rfl, hRm⟩
          · rw [if_neg (show ¬ nI re = 1 from nI_ne (b := 1) (by omega) (by omega) re1), q6 (by omega)]
            exact ⟨_, _, _, rfl, rfl, hRm⟩
  · rw [p_tbF ha, p_tbF ha]
    exact ⟨-1, x, m, rfl, rfl, hR⟩
/-- the end of a change: the histories -/
theorem op_tail {x m x1 x2 m'' : z_S} {nc nh nk np dy kp o L : Nat} {ah pl : Nat → Nat} {r : Int32} (hT0 : RT (fun q => x (zi_X_T q)) (m 1) nc nh nk np dy ah pl) (hh : hX x m kp o)
    (h1 : ∀ a, ¬ (2 + 38 * ((o + kp) % 5) ≤ a ∧ a < 40 + 38 * ((o + kp) % 5)) → x1 a = x a) (he : eqT (fun q => x (zi_X_T q)) (fun q => x1 (2 + 38 * ((o + kp) % 5) + q)) nc nh nk np) (h2 : ∀ a, a < 192 → x2 a = x1 a)
    (hT2 : RTx (fun q => x2 (zi_X_T q)) (m'' 1)) (hw2 : wX x2) (ht2 : tX x2 m'' L)
    (hneg : r < 0 → m'' 2 = m 2 ∧ m'' 0 2 = m 0 2) (hpos : ¬ r < 0 → ∃ m' : z_S, m' 2 = m 2 ∧ ∀ kp, m 0 2 = nI kp → kp ≤ 4 → mPu m' m'' kp (m 1)) : ∃ x', f_X9_settled r x2 = some (r, x') ∧ RX x' m'' := by
  by_cases hr : r < 0
  · rw [x_settled_n hr]
    obtain ⟨a, b⟩ := hneg hr
    exact ⟨x2, rfl, hT2, ⟨kp, o, hX_err hh h1 h2 a b⟩, hw2, L, ht2⟩
  · obtain ⟨m', e1, e2⟩ := hpos hr
    have hp := e2 kp hh.2.2.2.2.1 hh.1
    obtain ⟨x3, f3, h3, h4⟩ := x_settled (r := r) (x := x2) hr hh.1 hh.2.1 (by rw [h2 0 (by omega), h1 0 (by omega)]; exact hh.2.2.1) (by rw [h2 0 (by omega), h1 0 (by omega)]; exact hh.2.2.2.1)
    refine ⟨x3, f3, hT2.c (fun q hq => h3 _ (by show q + 192 ≠ 0; omega)), hX_step (n := m 1) hh hT0 h1 he h2 h3 h4 e1 hp, ?_, L, ?_⟩
    · exact ⟨fun k hk => by rw [h3 232 (by omega)]; exact hw2.1 k hk, by rw [h3 231 (by omega)]; exact hw2.2⟩
    · exact ⟨ht2.1, by rw [h3 233 (by omega)]; exact ht2.2.1, ht2.2.2.1, fun k hk => by rw [h3 234 (by omega)]; exact ht2.2.2.2 k hk⟩
theorem ff_play {x m : z_S} (hR : RX x m) : ∃ r x' m', f_X9_play x = some (r, x') ∧ f_X10_play m = some (r, m') ∧ RX x' m' := by
  unfold f_X9_play f_X10_play
  obtain ⟨σ', re, mt, m2, f1, f2, f3, g1, g2, g3, g5, g0, g02, g06⟩ := m_looks hR
  obtain ⟨mz, q1, q2, -, q4, q5, q6, q7, q8, q9, q10, q11, -⟩ := f3
  obtain ⟨r1, r2, r3, r4, r5⟩ := RX_R hR (σ := σ') (fun q w1 w2 => q9 q w1 w2) q8 q10 q11
  obtain ⟨x3, hx3⟩ : ∃ s, s = z_m x zk_X_R 82 σ' := ⟨_, rfl⟩
  rw [← hx3] at r1 r2 r3 r4 r5
  have hRm : RX x3 m2 := r1.m5 g1 g2 g5 g02 g06
  rw [f1, p_b1, p_let, f2, p_b2, ← hx3, r2, q2]
  by_cases re0 : re = 0
  · rw [if_pos (by rw [re0]; rfl), if_pos (by rw [re0]; rfl)]
    -- the model again
    obtain ⟨m6, n1, n2, n3⟩ := m_notes' m2
    obtain ⟨σ2, m8, re2, k1, k2, k3⟩ := RX_run hR (m1 := m6) (fun j hj => by rw [n2 1 (by omega), g1 j hj]) (by rw [n2 5 (by omega), g5]) (by rw [n2 0 (by omega), g06])
    rw [f1] at k1
    obtain rfl : σ' = σ2 := Option.some.inj k1
    obtain ⟨w1, w2, ⟨ord, wo, ws, wm⟩, -, -, -, w7, w8, w9, w10, w11, p2, p3, p4, p5, p02, p06⟩ := k3
    have ere : re2 = re := (nI_eq (by omega) (by omega)).mp (w2.symm.trans q2)
    rw [n1, p_b1, k2, p_b2, ere, p_let, if_pos (by rw [re0]; rfl), wm]
    dsimp only
    -- the class
    obtain ⟨⟨nc, nh, nk, np, dy, ah, pl, hT0⟩, ⟨kp, o, hh⟩, hw, L, ht⟩ := id hRm
    obtain ⟨s6, c1, h1, he⟩ := x_prepare hT0 hh.1 hh.2.1 hh.2.2.1 hh.2.2.2.1
    obtain ⟨x7, hx7⟩ : ∃ s, s = z_m x3 zk_X_H 230 s6 := ⟨_, rfl⟩
    rw [← hx7] at h1 he
    have hr5 : (o + kp) % 5 < 5 := Nat.mod_lt _ (by omega)
    have hi7 : ∀ q, 192 ≤ q → x7 q = x3 q := fun q hq => h1 q (by omega)
    have w7' : RTx (fun q => x7 (zi_X_TT (q + 38))) (m8 1) := by
      refine w7.c (fun q hq => ?_)
      show x7 (if q + 38 < 38 then q + 38 + 192 else q + 38 + 199) = σ' (zi_R_T q)
      rw [if_neg (by omega), hi7 _ (by omega), ← r4 q hq]
      exact congrArg x3 (by omega)
    obtain ⟨nc', nh', nk', np', dy', ah', pl', hT8⟩ := w7'
    obtain ⟨a, b, -, d, e, -⟩ := id hT8
    obtain ⟨s9, c2, hs9, he9⟩ := x_copyFrom (σ := fun k => x7 (zi_X_TT k)) a.1.2.2.1 b.1.2.1 d.2.1 e.2.1 a.2.1 b.2.1 e.2.2.1 d.2.2.1
    obtain ⟨x10, hx10⟩ : ∃ s, s = z_m x7 zk_X_TT 76 s9 := ⟨_, rfl⟩
    have t10 : ∀ q, q < 38 → x10 (zi_X_T q) = s9 q := by
      intro q hq
      rw [hx10]
      refine z_m_in ?_ (by omega)
      show (if q + 192 < 192 then 76 else if q + 192 < 230 then q + 192 - 192 else _) = q
      rw [if_neg (by omega), if_pos (by omega), Nat.add_sub_cancel]
    have o10 : ∀ q, q < 192 ∨ (230 ≤ q ∧ q < 237) → x10 q = x7 q := by
      intro q hq
      rw [hx10]
      refine z_m_out ?_
      show 76 ≤ (if q < 192 then 76 else if q < 230 then q - 192 else if q < 237 then 76 else q - 199)
      rcases hq with w | ⟨w, v⟩
      · rw [if_pos w]; omega
      · rw [if_neg (by omega), if_neg (by omega), if_pos v]; omega
    have e236 : x10 236 1 = nI ord := by rw [o10 236 (by omega), hi7 236 (by omega), r2]; exact ws
    rw [c1, p_b1, p_let, ← hx7, c2, p_b1, p_let, ← hx10, e236]
    have hnr : ¬ nI ord < 0 := Int32.not_lt.mpr (nI_pos' (by omega))
    obtain ⟨m14, e1, e2⟩ := m_ends (m := m8) (n := m2 1) (r := nI ord) (kp := kp) hnr hh.1 (by rw [p02, n2 0 (by omega)]; exact hh.2.2.2.2.1) (fun j hj => by rw [p3]; exact n3 j hj)
    have hp := e2
    obtain ⟨u1, u2, -⟩ := e2
    obtain ⟨x', v1, v2⟩ := op_tail (x := x3) (m := m2) (x1 := x7) (x2 := x10) (m'' := m14) (r := nI ord) (L := L) hT0 hh h1 he (fun q hq => o10 q (by omega))
      (by
        rw [u1 1 (by omega) (by omega)]
        exact ⟨nc', nh', nk', np', dy', ah', pl', (hT8.eqT he9).eqT (eqT.c t10)⟩)
      ⟨fun k hk => by rw [o10 232 (by omega), hi7 232 (by omega)]; exact hw.1 k hk, by rw [o10 231 (by omega), hi7 231 (by omega)]; exact hw.2⟩
      ⟨ht.1, by rw [o10 233 (by omega), hi7 233 (by omega)]; exact ht.2.1, by rw [u2 6 (by omega), p06, n2 0 (by omega)]; exact ht.2.2.1, fun k hk => by rw [o10 234 (by omega), hi7 234 (by omega), u1 5 (by omega) (by omega), p5, n2 5 (by omega)]; exact ht.2.2.2 k hk⟩
      (fun h => absurd h hnr) (fun _ => ⟨m8, by rw [p2, n2 2 (by omega)], fun kp' w1 w2 => by
        have h3 : kp' = kp := (nI_eq (by omega) (by have := hh.1; omega)).mp (w1.symm.trans hh.2.2.2.2.1)
        rw [h3]; exact hp⟩)
    rw [v1, p_b2, e1, p_b2]
    exact ⟨_, _, _, rfl, rfl, v2⟩
  · have hre : ¬ nI re = 0 := nI_ne0 (by omega) (by omega)
    rw [if_neg hre, if_neg hre]
    exact ⟨_, _, _, rfl, rfl, hRm⟩
