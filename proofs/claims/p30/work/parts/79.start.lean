/-! p30, THE PURE PART. 20: a new object, and what the law asks of it first -/
/-- where a cell of the class's world lies, counted from the first one that is made -/
def pmX : Nat → Nat := fun i => if i < 192 then 39 + i else if i < 230 then i - 191 else if i = 230 then 0 else i
def st0 : z_S := fun i => sgI9 (pmX i)
def m0 : z_S := fun a j => if a = 1 then (if j = 6 then 8 else if j = 5 then 3 else if j = 0 then 1 else 0) else 0
theorem m0_n (j : Nat) : m0 1 j = if j = 6 then 8 else if j = 5 then 3 else if j = 0 then 1 else 0 := rfl
theorem m0_z {j : Nat} (h6 : j ≠ 6) (h5 : j ≠ 5) (h0 : j ≠ 0) : m0 1 j = nI 0 := by
  rw [m0_n, if_neg h6, if_neg h5, if_neg h0]
  rfl
theorem rel_0 : RX st0 m0 := by
  refine ⟨⟨1, 0, 0, 0, 0, fun _ => 0, fun _ => 0, ?_⟩, ⟨0, 0, by omega, by omega, rfl, rfl, rfl, fun i hi => absurd hi (by omega)⟩, ⟨fun k hk => rfl, rfl⟩, 0, by omega, rfl, rfl, fun k hk => absurd hk (by omega)⟩
  refine ⟨⟨⟨rfl, by omega, by omega, fun k h1 h2 => by omega, fun k h1 h2 => by omega⟩, rfl, fun k hk => ?_, fun k hk => ?_⟩, ⟨⟨rfl, by omega, fun h hh => absurd hh (by omega)⟩, rfl, fun h hh => absurd hh (by omega)⟩, fun k hk => absurd hk (by omega), ⟨rfl, by omega, rfl, fun c hc => absurd hc (by omega)⟩, ⟨rfl, by omega, rfl, fun c hc => absurd hc (by omega)⟩, ⟨⟨rfl, by omega, rfl⟩, ⟨rfl, 3, rfl, by omega, by omega⟩, ⟨rfl, 8, rfl, by omega, by omega⟩⟩, ⟨rfl, rfl, rfl, rfl, rfl, rfl⟩, fun i h1 h2 => m0_z (by omega) (by omega) (by omega), fun i h1 h2 => m0_z (by omega) (by omega) (by omega)⟩
  · obtain rfl : k = 0 := by omega
    exact ⟨fun h => absurd h (by omega), rfl, rfl, rfl, rfl, rfl, rfl, Or.inl rfl⟩
  · obtain rfl : k = 0 := by omega
    rfl
theorem all_0 {m : z_S} (h : m 0 6 = 0) : f_X10_doesAll m = some (0, z_u (z_u m 0 17 0) 0 19 (-4)) := by
  unfold f_X10_doesAll
  rw [p_let, p_let]
  show lb_X10_doesAll_13 (z_lp2 lb_X10_doesAll_13 4095) 0 (z_u (z_u m 0 17 0) 0 19 (-4)) = _
  unfold lb_X10_doesAll_13
  have e : z_u (z_u m 0 17 0) 0 19 (-4) 0 6 = 0 := by rw [u_j (by omega), u_j (by omega), h]
  rw [e, if_pos (by decide)]
theorem looks_0 {m : z_S} (h : m 0 6 = 0) : ∃ m', f_X10_looks m = some (0, m') ∧ (∀ j, j < 537 → m' 1 j = m 1 j) ∧ m' 2 = m 2 ∧ m' 5 = m 5 ∧ m' 0 2 = m 0 2 ∧ m' 0 6 = 0 := by
  unfold f_X10_looks
  obtain ⟨s3, h3⟩ : ∃ s : z_S, s = fun i => if i = 4 then va_cpy (m 1) (m 4) 0 0 537 else m i := ⟨_, rfl⟩
  have o3 : ∀ i, i ≠ 4 → s3 i = m i := fun i hi => by rw [h3]; exact if_neg hi
  have i3 : s3 4 = va_cpy (m 1) (m 4) 0 0 537 := by rw [h3]; exact if_pos rfl
  rw [m_copies2 (x := 0) (y := 0) (p := 0) (q := 0) rfl rfl (by omega) (by omega) (by omega) (by omega) (by omega), ← h3, all_0 (m := s3) (by rw [o3 0 (by omega)]; exact h), p_b2, m_copies2 (x := 0) (y := 0) (p := 0) (q := 0) rfl rfl (by omega) (by omega) (by omega) (by omega) (by omega)]
  refine ⟨_, rfl, fun j hj => ?_, ?_, ?_, ?_, ?_⟩
  · rw [if_pos rfl, va_cpy_in (by omega) (by omega), u_o (by omega), u_o (by omega), i3, va_cpy_in (by omega) (by omega)]
    exact congrArg (m 1) (by omega)
  · rw [if_neg (by omega), u_o (by omega), u_o (by omega), o3 2 (by omega)]
  · rw [if_neg (by omega), u_o (by omega), u_o (by omega), o3 5 (by omega)]
  · rw [if_neg (by omega), u_j (by omega), u_j (by omega), o3 0 (by omega)]
  · rw [if_neg (by omega), u_j (by omega), u_j (by omega), o3 0 (by omega)]
    exact h
theorem o_undo6 {m x' m' : z_S} (hR : RX x' m') (hp : PU m m') : ∃ r x'' m'', f_X9_undo x' = some (nI r, x'') ∧ RX x'' m'' ∧ m'' 1 = m 1 ∧ m'' 0 6 = m' 0 6 ∧ ∀ kp, m 0 2 = nI kp → kp ≤ 4 → r = if kp < 4 then kp else 3 := by
  obtain ⟨r, x'', m'', e1, e2, hR''⟩ := ff_undo hR
  obtain ⟨kp, h0, hk, hp⟩ := hp
  obtain ⟨j, hj, hm2, hrow, hjk⟩ : ∃ j, j < 4 ∧ m' 0 2 = nI (j + 1) ∧ (∀ i, i < 537 → m' 2 (537 * j + i) = m 1 i) ∧ j = if kp < 4 then kp else 3 := by
    rcases hp with ⟨a, b, c⟩ | ⟨a, b, c⟩
    · exact ⟨kp, a, b, c, by rw [if_pos a]⟩
    · exact ⟨3, by omega, b, c, by rw [if_neg (by omega)]⟩
  unfold f_X10_undo at e2
  rw [hm2, if_neg (nI_ne0 (by omega) (by omega)), p_let, zl_1, p_s1, m_copies2 (x := z_u m' 0 2 (nI j) 0 2 * 537) (y := 0) (n0 := 2148) (n1 := 537) (a := 2) (b := 1) (p := 537 * j) (q := 0) (by rw [u_i, zl_537, pk_mul, Nat.mul_comm]) rfl (by omega) (by omega) (by omega) (by omega) (by omega)] at e2
  obtain ⟨h1, h2⟩ := z_prE e2
  have hr : r = nI j := by
    rw [← h1]
    simp only [if_neg (show ¬ (0 : Nat) = 1 by omega), u_i]
  have h1j : ∀ i, i < 537 → m'' 1 i = m 1 i := by
    intro i hi
    rw [← h2]
    simp only [if_true]
    rw [va_cpy_in (by omega) (by omega), u_o (by omega), Nat.sub_zero]
    exact hrow i hi
  obtain ⟨m3, em3⟩ : ∃ s : z_S, s = fun a => if a = 1 then m 1 else m'' a := ⟨_, rfl⟩
  have o3 : ∀ a, a ≠ 1 → m3 a = m'' a := fun a ha => by rw [em3]; exact if_neg ha
  have i3 : m3 1 = m 1 := by rw [em3]; exact if_pos rfl
  refine ⟨j, x'', m3, by rw [e1, hr], hR''.m5 (fun i hi => by rw [i3]; exact (h1j i hi).symm) (o3 2 (by omega)) (o3 5 (by omega)) (by rw [o3 0 (by omega)]) (by rw [o3 0 (by omega)]), i3, ?_, fun kp' h5 h6 => ?_⟩
  · rw [o3 0 (by omega), ← h2]
    simp only [if_neg (show ¬ (0 : Nat) = 1 by omega)]
    rw [u_j (by omega)]
  · have : kp' = kp := (nI_eq (by omega) (by omega)).mp (h5.symm.trans h0)
    rw [this]
    exact hjk
theorem play_0 {x m : z_S} (hR : RX x m) (h6 : m 0 6 = 0) : ∃ x' m', f_X9_play x = some (0, x') ∧ RX x' m' ∧ PU m m' ∧ m' 0 6 = 0 := by
  obtain ⟨r, x', m', e1, e2, hR'⟩ := ff_play hR
  obtain ⟨kp, hk, h0⟩ := hR.kp
  obtain ⟨m2, f1, g1, g2, g5, g02, g06⟩ := looks_0 h6
  obtain ⟨m3, n1, n2, n3⟩ := m_notes' m2
  have h63 : m3 0 6 = 0 := by rw [n2 0 (by omega), g06]
  obtain ⟨m4, hm4⟩ : ∃ s, s = z_u (z_u m3 0 17 0) 0 19 (-4) := ⟨_, rfl⟩
  obtain ⟨m5, k1, k2⟩ := m_ends (m := m4) (n := m 1) (r := 0) (kp := kp) (by decide) hk (by rw [hm4, u_j (by omega), u_j (by omega), n2 0 (by omega), g02, h0]) (fun j hj => by rw [hm4, u_o (by omega), u_o (by omega), n3 j hj, g1 j hj])
  unfold f_X10_play at e2
  rw [f1, p_b2, if_pos rfl, n1, p_b1, all_0 h63, p_b2, p_let, if_pos rfl, ← hm4] at e2
  rw [show m4 0 17 = 0 by rw [hm4, u_j (by omega), u_i]] at e2
  dsimp only at e2
  rw [k1, p_b2] at e2
  obtain ⟨rfl, rfl⟩ := z_prE e2
  refine ⟨x', m5, e1, hR', PU.of h0 hk k2, ?_⟩
  rw [k2.2.1 6 (by omega), hm4, u_j (by omega), u_j (by omega), h63]
theorem fault_0 {x m : z_S} (hR : RX x m) (h6 : m 0 6 = 0) : ∃ x' m', f_X9_fault 0 x = some (-4, x') ∧ RX x' m' ∧ ∀ j, j < 537 → m' 1 j = m 1 j := by
  obtain ⟨r, x', m', e1, e2, hR'⟩ := ff_fault hR 0
  obtain ⟨m2, f1, g1, g2, g5, g02, g06⟩ := looks_0 h6
  unfold f_X10_fault at e2
  rw [m_tb, p_b1, p_tbT (by decide), f1, p_b2, if_pos rfl] at e2
  obtain ⟨rfl, rfl⟩ := z_prE e2
  exact ⟨x', m2, e1, hR', g1⟩
theorem v_start : ∃ x1 x2 x3 x4 x5 x6 m6, f_X9_undo st0 = some (-2, x1) ∧ f_X9_count 0 x1 = some 1 ∧ f_X9_count 20 x1 = some 3 ∧ f_X9_count 21 x1 = some 8 ∧ f_X9_play x1 = some (0, x2) ∧ f_X9_undo x2 = some (0, x3) ∧ f_X9_fault 0 x3 = some (-4, x4) ∧ f_X9_meanBits x4 = some (-4) ∧ f_X9_days 1 x4 = some (0, x5) ∧ f_X11_fails x5 = some (1, x6) ∧ IV x6 m6 1 0 0 1 0 := by
  obtain ⟨r, x1, m1, e1, e2, R1⟩ := ff_undo rel_0
  unfold f_X10_undo at e2
  rw [if_pos (show m0 0 2 = 0 from rfl)] at e2
  obtain ⟨rfl, rfl⟩ := z_prE e2
  obtain ⟨nc, nh, nk, np, dy, ah, pl, X1⟩ := R1.ex
  have c0 : nI nc = 1 := X1.n.1.symm
  have v0 := v_count_0 X1
  rw [c0] at v0
  obtain ⟨x2, m2, p1, R2, P2, h62⟩ := play_0 R1 rfl
  obtain ⟨r3, x3, m3, u1, R3, u2, u3, u4⟩ := o_undo6 R2 P2
  have hr3 : r3 = 0 := u4 0 rfl (by omega)
  subst hr3
  obtain ⟨x4, m4, f1, R4, f2⟩ := fault_0 R3 (u3.trans h62)
  have row : ∀ j, j < 537 → m4 1 j = m0 1 j := fun j hj => by rw [f2 j hj, u2]
  have I4 : IV x4 m4 1 0 0 0 0 := by
    refine ⟨R4, ⟨fun h hh => absurd hh (Nat.not_lt_zero _), fun h hh => absurd hh (Nat.not_lt_zero _), fun h hh => absurd hh (Nat.not_lt_zero _), rfl, rfl, ?_⟩, by omega, by omega, by omega, by omega, ?_, ?_, ?_, ?_⟩
    · rw [row 12 (by omega)]; rfl
    · rw [row 0 (by omega)]; rfl
    · rw [row 1 (by omega)]; rfl
    · rw [row 2 (by omega)]; rfl
    · rw [row 4 (by omega)]; rfl
  obtain ⟨np4, ah4, pl4, X4⟩ := I4.X
  obtain ⟨v, w1, w2⟩ := v_mean X4
  have hv : v = -4 := w2.mpr (fun h hh => absurd hh (Nat.not_lt_zero _))
  rw [hv] at w1
  obtain ⟨r5, x5, m5, d1, R5, D5, d2⟩ := k_day X4 (fun h hh => absurd hh (Nat.not_lt_zero _)) (by omega)
  have hr5 : r5 = 0 := by
    have h : (0 : Int32) = 0 + r5 := d2
    rw [Int32.zero_add] at h
    exact h.symm
  subst hr5
  obtain ⟨x6, g1, R6⟩ := v_fails R5
  have J5 := j_day X4 D5 I4.2.1
  have Y := X4.toD R5 D5.1 D5.2.1 (by omega) (fun h hh => absurd hh (Nat.not_lt_zero _))
  refine ⟨x1, x2, x3, x4, x5, x6, m5, e1, v0, (v_count_20 X1).trans rfl, (v_count_21 X1).trans rfl, p1, u1, f1, w1, d1, g1, R6, ?_, by omega, by omega, by omega, by omega, Y.n.1, Y.n.2.1, Y.n.2.2.1, Y.n.2.2.2.2⟩
  exact J5
