/-! p30, THE PURE PART. 4: the other changes -/
section OPS2
variable {x m : z_S} {nc nh nk np dy : Nat} {ah pl : Nat → Nat}
theorem k_giveNone (X : XT x m nc nh nk np dy ah pl) (a : Int32) : ∃ r x', f_X9_giveNone a x = some (r, x') ∧ RES m r x' (fun _ n' => ∃ k, k < nh ∧ n' = un (m 1) (90 + 14 * k + 3) (-1)) := by
  have X0 := X
  obtain ⟨hR, hC, hH, hO, hK, hP, hS, hA, z1, z2⟩ := X
  have h24 := hH.1.2.1
  have h3 := hK.2.1
  by_cases ha : iX a nh
  · obtain ⟨k, hk, rfl⟩ := id ha
    have e3 : x 207 k = m 1 (90 + 14 * k + 3) := (hH.2.2 k hk).1.2.2.2.1
    rcases (hH.2.2 k hk).2.2.2.1 with hn | ⟨c, hc, hn⟩
    · refine r_err hR (g := f_X6_takeBack (nI k)) (z := -2) (by decide) (by decide) ?_
      unfold f_X6_takeBack
      rw [x_hasH hH.2.1 h24, p_b1, p_tbT ha, p_cki (by omega) (by omega), p_let, p_cl (by omega)]
      exact if_pos (e3.trans hn)
    · obtain ⟨r, x', m', e1, e2, hR'⟩ := ff_giveNone hR (nI k)
      obtain ⟨q1, q2, q3⟩ := o_pos (g2 := f_X10_givesNone (nI k)) (v := nI c) (N := un (m 1) (90 + 14 * k + 3) (-1)) hR e2 (nI_pos (by omega)) (fun m1 h1 => by
        refine ⟨z_u m1 1 (90 + 14 * k + 3) (-1), ?_, frM.u, by rw [un_u, h1]⟩
        unfold f_X10_givesNone
        rw [m_isHouse (by rw [h1]; exact hH.1.1) h24, p_b1, p_tbT ha, zl_3, m_of (by omega), p_b1, h1, hn, if_neg (nI_m1 (by omega)), m_lays (by omega), p_b1])
      exact ⟨r, x', e1, Or.inr ⟨by rw [q1]; exact nI_pos (by omega), m', hR', q3, k, hk, q2⟩⟩
  · exact r_err hR (g := f_X6_takeBack a) (z := -1) (by decide) (by decide) (tq_giveNone X0 ha)
theorem k_pause (X : XT x m nc nh nk np dy ah pl) (a b c : Int32) : ∃ r x', f_X9_pause a b c x = some (r, x') ∧ RES m r x' (fun _ n' => ∀ i, i ≠ 3 → i < 447 → n' i = m 1 i) := by
  have X0 := X
  obtain ⟨hR, hC, hH, hO, hK, hP, hS, hA, z1, z2⟩ := X
  have h24 := hH.1.2.1
  have h30 := hP.2.1
  by_cases hg : iX a nh ∧ (nI dy ≤ b ∧ b ≤ 999) ∧ (b ≤ c ∧ c ≤ 999)
  · obtain ⟨hp, hq, hr⟩ := hg
    by_cases h30' : np = 30
    · refine r_err hR (g := f_X6_addPause a b c) (z := -3) (by decide) (by decide) ?_
      unfold f_X6_addPause
      rw [x_hasH hH.2.1 h24, p_b1, p_tbT hp, hS.1.2.2, w_tb, p_b1, p_tbT hq, w_tb, p_b1, p_tbT hr, hP.2.2.1]
      exact if_neg (by rw [h30']; decide)
    · obtain ⟨r, x', m', e1, e2, hR'⟩ := ff_pause hR a b c
      obtain ⟨q1, q2, q3⟩ := o_pos (g2 := f_X10_pauses a b c) (v := nI np) (N := un (un (un (un (m 1) (447 + 3 * np) a) (447 + 3 * np + 1) b) (447 + 3 * np + 2) c) 3 (nI (np + 1))) hR e2 (nI_pos (by omega)) (fun m1 h1 => by
        refine ⟨z_u (z_u (z_u (z_u m1 1 (447 + 3 * np) a) 1 (447 + 3 * np + 1) b) 1 (447 + 3 * np + 2) c) 1 3 (nI (np + 1)), ?_, (frM.u.trans frM.u).trans (frM.u.trans frM.u), by rw [un_u, un_u, un_u, un_u, h1]⟩
        have h13 : m1 1 3 = nI np := by rw [h1]; exact hP.1
        unfold f_X10_pauses
        rw [m_isHouse (by rw [h1]; exact hH.1.1) h24, p_b1, p_tbT hp, k_4, c_4, h1, hS.1.1, m_tb, p_b1, p_tbT hq, m_tb, p_b1, p_tbT hr, k_3, c_3, hP.1, if_neg (show ¬ nI np = 30 from nI_ne (b := 30) (by omega) (by omega) h30')]
        simp (disch := omega) only [p_cki, p_cl, p_let, p_b2, k_3, zl_447, zl_3, pk_mul, nI_add, zl_1, zl_2]
        simp only [u_n (show 3 ≠ 447 + 3 * np by omega), u_n (show 3 ≠ 447 + 3 * np + 1 by omega), u_n (show 3 ≠ 447 + 3 * np + 2 by omega), h13, nI_add, u_i, p_s1])
      refine ⟨r, x', e1, Or.inr ⟨by rw [q1]; exact nI_pos (by omega), m', hR', q3, fun i h3 h4 => ?_⟩⟩
      rw [q2, un_j h3, un_j (by omega), un_j (by omega), un_j (by omega)]
  · exact r_err hR (g := f_X6_addPause a b c) (z := -1) (by decide) (by decide) (tq_pause X0 hg)
theorem k_biscuits (X : XT x m nc nh nk np dy ah pl) (hbis : ∀ c, c < nk → ∃ b, b ≤ 500 ∧ m 1 (426 + 7 * c + 2) = nI b) (a b : Int32) : ∃ r x', f_X9_biscuits a b x = some (r, x') ∧ RES m r x' (fun _ n' => ∃ c v, c < nk ∧ v ≤ 500 ∧ n' = un (m 1) (426 + 7 * c + 2) (nI v)) := by
  have X0 := X
  obtain ⟨hR, hC, hH, hO, hK, hP, hS, hA, z1, z2⟩ := X
  have h3 := hK.2.1
  by_cases hg : iX a nk ∧ (1 ≤ b ∧ b ≤ 99)
  · obtain ⟨hp, hq⟩ := hg
    obtain ⟨c, hc, rfl⟩ := id hp
    obtain ⟨w, hw, rfl⟩ := p_rng (p := b) (H := 99) (hi := 99) rfl (by omega) (by exact Int32.le_trans (by decide) hq.1) hq.2
    obtain ⟨v, hv, ev⟩ := hbis c hc
    have e2' : x 225 c = m 1 (426 + 7 * c + 2) := (hK.2.2.2 c hc).2.2.1
    by_cases hl : v + w ≤ 500
    · obtain ⟨r, x', m', e1, e2, hR'⟩ := ff_biscuits hR (nI c) (nI w)
      obtain ⟨q1, q2, q3⟩ := o_pos (g2 := f_X10_addsBiscuits (nI c) (nI w)) (v := nI (v + w)) (N := un (m 1) (426 + 7 * c + 2) (nI (v + w))) hR e2 (nI_pos (by omega)) (fun m1 h1 => by
        refine ⟨z_u m1 1 (426 + 7 * c + 2) (nI (v + w)), ?_, frM.u, by rw [un_u, h1]⟩
        unfold f_X10_addsBiscuits
        rw [m_isCarrier (by rw [h1]; exact hK.1) h3, p_b1, p_tbT hp, m_tb, p_b1, p_tbT hq, zl_2, m_ofCarrier (by omega), p_b1, h1, ev, nI_add, if_pos (show nI (v + w) ≤ 500 from nI_le (b := 500) hl (by omega)), m_addsC (by omega), p_b1, h1, ev, nI_add, m_ofCarrier (by omega), p_b1, u_i])
      exact ⟨r, x', e1, Or.inr ⟨by rw [q1]; exact nI_pos (by omega), m', hR', q3, c, v + w, hc, hl, q2⟩⟩
    · refine r_err hR (g := f_X6_addBiscuits (nI c) (nI w)) (z := -3) (by decide) (by decide) ?_
      unfold f_X6_addBiscuits
      have e5 : (fun k => x (zi_X_T k)) 33 c = nI v := e2'.trans ev
      rw [x_hasK hK.2.2.1 h3, p_b1, p_tbT hp, w_tb, p_b1, p_tbT hq, p_cki (by omega) (by omega), p_cl (by omega), e5, nI_add]
      exact if_neg (nI_ge (b := v + w) (a := 500) (by omega) (by omega))
  · exact r_err hR (g := f_X6_addBiscuits a b) (z := -1) (by decide) (by decide) (tq_biscuits X0 hg)
theorem k_dog (X : XT x m nc nh nk np dy ah pl) (a b c : Int32) (hper : ∀ h, h < nh → ¬ m 1 (90 + 14 * h + 4) < 0) : ∃ r x', f_X9_dog a b c x = some (r, x') ∧ RES m r x' (fun _ n' => ∃ k, k < nh ∧ (∀ i, i ≠ 90 + 14 * k + 4 → i ≠ 90 + 14 * k + 5 → n' i = m 1 i) ∧ ¬ n' (90 + 14 * k + 4) < 0) := by
  have X0 := X
  obtain ⟨hR, hT⟩ := id X
  have hb := hT.2.1
  have h24 := hb.1.2.1
  by_cases hg : iX a nh ∧ (b = 0 ∨ (2 ≤ b ∧ b ≤ 9)) ∧ (0 ≤ c ∧ c ≤ 8)
  · obtain ⟨hp, hbb, hc⟩ := hg
    obtain ⟨k, hk, rfl⟩ := id hp
    obtain ⟨r, x', m', e1, e2, hR'⟩ := ff_dog hR (nI k) b c
    obtain ⟨m1, n1, n2, n3⟩ := m_notes' m
    have h1 : m1 1 = m 1 := n2 1 (by omega)
    have e3 : (z_b2 (f_X10_ends (m 1 (90 + 14 * k + 4)) (z_u (z_u m1 1 (90 + 14 * k + 4) b) 1 (90 + 14 * k + 5) c)) fun r8 s7 => some (r8, s7)) = some (r, m') := by
      rw [← e2]
      unfold f_X10_dog
      by_cases hb0 : b = 0
      · simp (disch := omega) only [m_isHouse hb.1.1 hb.1.2.1, p_b1, p_tbT hp, p_let, if_pos hb0, m_tb, p_tbT hc, n1, zl_4, zl_5, m_of, m_lays, h1]
      · have hb2 := hbb.resolve_left hb0
        simp (disch := omega) only [m_isHouse hb.1.1 hb.1.2.1, p_b1, p_tbT hp, p_let, if_neg hb0, m_tb, p_tbT hb2, p_tbT hc, n1, zl_4, zl_5, m_of, m_lays, h1]
    obtain ⟨q1, q2, q3⟩ := o_end hR (hper k hk) n2 n3 (frM.u.trans frM.u) e3
    refine ⟨r, x', e1, Or.inr ⟨by rw [q1]; exact hper k hk, m', hR', q3, k, hk, fun i h4 h5 => ?_, ?_⟩⟩
    · rw [q2, u_n h5, u_n h4, h1]
    · rw [q2, u_n (by omega), u_i]
      rcases hbb with rfl | ⟨hb2, -⟩
      · decide
      · exact Int32.not_lt.mpr (Int32.le_trans (by decide) hb2)
  · exact r_err hR (g := f_X6_changeDog a b c) (z := -1) (by decide) (by decide) (x_dog_n hT hg)
theorem k_set (X : XT x m nc nh nk np dy ah pl) (a b : Int32) : ∃ r x', f_X9_set a b x = some (r, x') ∧ RES m r x' (fun _ n' => ∀ i, i ≠ 5 → i ≠ 6 → n' i = m 1 i) := by
  obtain ⟨hR, hC, hH, hO, hK, hP, hS, hA, z1, z2⟩ := X
  obtain ⟨m1, n1, n2, n3⟩ := m_notes' m
  have h1 : m1 1 = m 1 := n2 1 (by omega)
  by_cases g0 : a = 0 ∧ 1 ≤ b ∧ b ≤ 20
  · obtain ⟨a0, hb⟩ := g0
    obtain ⟨r, x', m', e1, e2, hR'⟩ := ff_set hR a b
    obtain ⟨w, hw, hw1, hw2⟩ := hS.2.1.2
    have e3 : (z_b2 (f_X10_ends (nI w) (z_u m1 1 5 b)) fun r8 s7 => some (r8, s7)) = some (r, m') := by
      rw [← e2]
      unfold f_X10_set
      rw [m_tb, p_b1, p_tbT (p_01.mpr (Or.inl a0)), p_let, if_pos a0]
      dsimp only
      rw [m_tb, p_b1, p_tbT hb, n1, p_b1, a0]
      have e5 : ((5 : Int32) + 0) = nI 5 := rfl
      rw [e5, p_cki (by omega) (by omega), p_let, p_cki (by omega) (by omega), p_let, p_cl (by omega), h1, hw]
    obtain ⟨q1, q2, q3⟩ := o_end hR (nI_pos (by omega)) n2 n3 frM.u e3
    exact ⟨r, x', e1, Or.inr ⟨by rw [q1]; exact nI_pos (by omega), m', hR', q3, fun i h5 h6 => by rw [q2, u_n h5, h1]⟩⟩
  · by_cases g1 : a = 1 ∧ 1 ≤ b ∧ b ≤ 50
    · obtain ⟨a1, hb⟩ := g1
      have a0 : ¬ a = 0 := fun q => by rw [a1] at q; exact absurd q (by decide)
      obtain ⟨r, x', m', e1, e2, hR'⟩ := ff_set hR a b
      obtain ⟨w, hw, hw1, hw2⟩ := hS.2.2.2
      have e3 : (z_b2 (f_X10_ends (nI w) (z_u m1 1 6 b)) fun r8 s7 => some (r8, s7)) = some (r, m') := by
        rw [← e2]
        unfold f_X10_set
        rw [m_tb, p_b1, p_tbT (p_01.mpr (Or.inr a1)), p_let, if_neg a0]
        dsimp only
        rw [m_tb, p_b1, p_tbT hb, n1, p_b1, a1]
        have e5 : ((5 : Int32) + 1) = nI 6 := rfl
        rw [e5, p_cki (by omega) (by omega), p_let, p_cki (by omega) (by omega), p_let, p_cl (by omega), h1, hw]
      obtain ⟨q1, q2, q3⟩ := o_end hR (nI_pos (by omega)) n2 n3 frM.u e3
      exact ⟨r, x', e1, Or.inr ⟨by rw [q1]; exact nI_pos (by omega), m', hR', q3, fun i h5 h6 => by rw [q2, u_n h6, h1]⟩⟩
    · exact r_err hR (g := f_X6_changeSetting a b) (z := -1) (by decide) (by decide) (tq_set _ g0 g1)
/-- what a new house is -/
def nHo (n n' : Nat → Int32) (nc nh ka w : Nat) : Prop := n' 1 = nI (nh + 1) ∧ n' (90 + 14 * nh + 0) = nI ka ∧ ka < nc ∧ n' (90 + 14 * nh + 1) = nI w ∧ 1 ≤ w ∧ w ≤ 5 ∧ n' (90 + 14 * nh + 3) = -1 ∧ (∀ q, 4 ≤ q → q < 14 → n' (90 + 14 * nh + q) = nI 0) ∧ ∀ i, i ≠ 1 → (i < 90 + 14 * nh ∨ 90 + 14 * nh + 4 ≤ i) → n' i = n i
theorem k_house_ok (X : XT x m nc nh nk np dy ah pl) {ka w : Nat} {c : Int32} (hka : ka < nc) (hw1 : 1 ≤ w) (hw5 : w ≤ 5) (hc : 0 ≤ c ∧ c ≤ 500) (hlt : nh < 24) : ∃ x' m', f_X9_house (nI ka) (nI w) c x = some (nI nh, x') ∧ RX x' m' ∧ PU m m' ∧ nHo (m 1) (m' 1) nc nh ka w := by
  obtain ⟨hR, hC, hH, hO, hK, hP, hS, hA, z1, z2⟩ := X
  have h20 := hC.1.2.2.1
  obtain ⟨m1, n1, n2, n3⟩ := m_notes' m
  have e1 : m1 1 = m 1 := n2 1 (by omega)
  have hb : (1 : Int32) ≤ nI w ∧ nI w ≤ 5 := ⟨nI_le (a := 1) hw1 (by omega), nI_le (b := 5) hw5 (by omega)⟩
  obtain ⟨r, x', m', f1, f2, hR'⟩ := ff_house hR (nI ka) (nI w) c
  obtain ⟨m2, hm2⟩ : ∃ s, s = z_u (z_u (z_u (z_u (z_u m1 1 (90 + 14 * nh + 0) (nI ka)) 1 (90 + 14 * nh + 1) (nI w)) 1 (90 + 14 * nh + 2) c) 1 (90 + 14 * nh + 3) (-1)) 1 1 (nI (nh + 1)) := ⟨_, rfl⟩
  have e3 : (z_b2 (f_X10_ends (nI nh) m2) fun r8 s7 => some (r8, s7)) = some (r, m') := by
    rw [← f2]
    unfold f_X10_house
    rw [m_isCorner hC.1.1 h20, p_b1, p_tbT ⟨ka, hka, rfl⟩, m_tb, p_b1, p_tbT hb, m_tb, p_b1, p_tbT hc, k_1, c_1, hH.1.1, if_neg (show ¬ nI nh = 24 from nI_ne (b := 24) (by omega) (by omega) (by omega)), n1, p_b1, k_1, p_let, e1, hH.1.1, zl_0, m_lays (by omega), p_b1, zl_1, m_lays (by omega), p_b1, zl_2, m_lays (by omega), p_b1, zl_3, m_lays (by omega), p_b1]
    rw [show z_cki (nI 1) 537 = z_cki (1 : Int32) 537 from rfl, k_1, k_1, p_let]
    try simp only [c_1, show (nI 1).toNatClampNeg = 1 from rfl]
    rw [u_n (show 1 ≠ 90 + 14 * nh + 3 by omega), u_n (show 1 ≠ 90 + 14 * nh + 2 by omega), u_n (show 1 ≠ 90 + 14 * nh + 1 by omega), u_n (show 1 ≠ 90 + 14 * nh + 0 by omega), e1, hH.1.1, nI_add]
    rw [show -nI 1 = (-1 : Int32) from rfl, ← hm2]
  obtain ⟨q1, q2, q3⟩ := o_end hR (nI_pos (by omega)) n2 n3 (by rw [hm2]; exact ((frM.u.trans frM.u).trans (frM.u.trans frM.u)).trans frM.u) e3
  have hn : ∀ i, i ≠ 1 → (i < 90 + 14 * nh ∨ 90 + 14 * nh + 4 ≤ i) → m2 1 i = m 1 i := fun i h1 h2 => by rw [hm2, u_n h1, u_n (by omega), u_n (by omega), u_n (by omega), u_n (by omega), e1]
  refine ⟨x', m', by rw [f1, q1], hR', q3, ?_⟩
  rw [q2]
  refine ⟨by rw [hm2, u_i], by rw [hm2, u_n (by omega), u_n (by omega), u_n (by omega), u_n (by omega), u_i], hka, by rw [hm2, u_n (by omega), u_n (by omega), u_n (by omega), u_i], hw1, hw5, by rw [hm2, u_n (by omega), u_i], fun q a b => ?_, hn⟩
  rw [hn _ (by omega) (by omega)]
  exact z1 _ (by omega) (by omega)
theorem k_house (X : XT x m nc nh nk np dy ah pl) (a b c : Int32) : ∃ r x', f_X9_house a b c x = some (r, x') ∧ RES m r x' (fun _ n' => ∃ ka w, nHo (m 1) n' nc nh ka w ∧ nh < 24) := by
  have X0 := X
  obtain ⟨hR, hC, hH, hO, hK, hP, hS, hA, z1, z2⟩ := X
  have h20 := hC.1.2.2.1
  have h24 := hH.1.2.1
  by_cases hg : iX a nc ∧ (1 ≤ b ∧ b ≤ 5) ∧ (0 ≤ c ∧ c ≤ 500)
  · obtain ⟨ha, hb, hc⟩ := hg
    by_cases h24' : nh = 24
    · refine r_err hR (g := f_X6_addHouse a b c) (z := -3) (by decide) (by decide) ?_
      unfold f_X6_addHouse
      rw [x_hasC hC.2.1 h20, p_b1, p_tbT ha, w_tb, p_b1, p_tbT hb, w_tb, p_b1, p_tbT hc, hH.2.1]
      exact if_neg (by rw [h24']; decide)
    · obtain ⟨ka, hka, rfl⟩ := ha
      obtain ⟨w, hw, rfl⟩ := p_rng (p := b) (H := 5) (hi := 5) rfl (by omega) (by exact Int32.le_trans (by decide) hb.1) hb.2
      have hw1 : 1 ≤ w := (nI_leI (a := 1) (by omega) (by omega)).mp hb.1
      obtain ⟨x', m', f1, hR', q3, q4⟩ := k_house_ok X0 hka hw1 hw hc (by omega)
      exact ⟨nI nh, x', f1, Or.inr ⟨nI_pos (by omega), m', hR', q3, ka, w, q4, by omega⟩⟩
  · exact r_err hR (g := f_X6_addHouse a b c) (z := -1) (by decide) (by decide) (tq_house X0 hg)
theorem k_carrier_ok (X : XT x m nc nh nk np dy ah pl) {a b : Int32} (ha : 0 ≤ a ∧ a ≤ 1) (hb : 10 ≤ b ∧ b ≤ 500) (hlt : nk < 3) : ∃ x' m', f_X9_carrier a b x = some (nI nk, x') ∧ RX x' m' ∧ PU m m' ∧ m' 1 2 = nI (nk + 1) ∧ m' 1 (426 + 7 * nk + 0) = a ∧ (∀ q, 2 ≤ q → q < 7 → m' 1 (426 + 7 * nk + q) = nI 0) ∧ ∀ i, i ≠ 2 → i ≠ 426 + 7 * nk + 0 → i ≠ 426 + 7 * nk + 1 → m' 1 i = m 1 i := by
  obtain ⟨hR, hC, hH, hO, hK, hP, hS, hA, z1, z2⟩ := X
  obtain ⟨m1, n1, n2, n3⟩ := m_notes' m
  have e1 : m1 1 = m 1 := n2 1 (by omega)
  obtain ⟨r, x', m', f1, f2, hR'⟩ := ff_carrier hR a b
  obtain ⟨m2, hm2⟩ : ∃ s, s = z_u (z_u (z_u m1 1 (426 + 7 * nk + 0) a) 1 (426 + 7 * nk + 1) b) 1 2 (nI (nk + 1)) := ⟨_, rfl⟩
  have e3 : (z_b2 (f_X10_ends (nI nk) m2) fun r8 s7 => some (r8, s7)) = some (r, m') := by
    rw [← f2]
    unfold f_X10_carrier
    rw [m_tb, p_b1, p_tbT ha, m_tb, p_b1, p_tbT hb, k_2, c_2, hK.1, if_neg (show ¬ nI nk = 3 from nI_ne (b := 3) (by omega) (by omega) (by omega)), n1, p_b1, k_2, e1, hK.1, zl_0, m_addsC (by omega), p_b1, k_2, u_n (by omega), e1, hK.1, zl_1, m_addsC (by omega), p_b1, k_2, k_2, p_let, k_2, u_i, u_n (by omega), u_n (by omega), e1, hK.1, nI_add, p_s1]
    rw [u_n (by omega), e1, z2 (426 + 7 * nk + 0) (by omega) (by omega), z2 (426 + 7 * nk + 1) (by omega) (by omega), nI_0, Int32.zero_add, Int32.zero_add, ← hm2]
  obtain ⟨q1, q2, q3⟩ := o_end hR (nI_pos (by omega)) n2 n3 (by rw [hm2]; exact (frM.u.trans frM.u).trans frM.u) e3
  have hn : ∀ i, i ≠ 2 → i ≠ 426 + 7 * nk + 0 → i ≠ 426 + 7 * nk + 1 → m2 1 i = m 1 i := fun i h1 h2 h3 => by rw [hm2, u_n h1, u_n h3, u_n h2, e1]
  refine ⟨x', m', by rw [f1, q1], hR', q3, ?_⟩
  rw [q2]
  refine ⟨by rw [hm2, u_i], by rw [hm2, u_n (by omega), u_n (by omega), u_i], fun q a b => ?_, hn⟩
  rw [hn _ (by omega) (by omega) (by omega)]
  exact z2 _ (by omega) (by omega)
theorem k_corner_ok (X : XT x m nc nh nk np dy ah pl) {f : Nat} {b c d : Int32} (hf : f < nc) (hb : 1 ≤ b ∧ b ≤ 50) (hc : 0 ≤ c ∧ c ≤ 100) (hd : 0 ≤ d ∧ d ≤ 1) (hlt : nc < 20) : ∃ x' m', f_X9_corner (nI f) b c d x = some (nI nc, x') ∧ RX x' m' ∧ PU m m' ∧ m' 1 0 = nI (nc + 1) ∧ ∀ i, i ≠ 0 → (i < 10 + 4 * nc ∨ 10 + 4 * nc + 4 ≤ i) → m' 1 i = m 1 i := by
  obtain ⟨hR, hC, hH, hO, hK, hP, hS, hA, z1, z2⟩ := X
  obtain ⟨m1, n1, n2, n3⟩ := m_notes' m
  have e1 : m1 1 = m 1 := n2 1 (by omega)
  obtain ⟨r, x', m', f1, f2, hR'⟩ := ff_corner hR (nI f) b c d
  obtain ⟨m2, hm2⟩ : ∃ s, s = z_u (z_u (z_u (z_u (z_u m1 1 (10 + 4 * nc + 0) (nI f)) 1 (10 + 4 * nc + 1) b) 1 (10 + 4 * nc + 2) c) 1 (10 + 4 * nc + 3) d) 1 0 (nI (nc + 1)) := ⟨_, rfl⟩
  have e3 : (z_b2 (f_X10_ends (nI nc) m2) fun r8 s7 => some (r8, s7)) = some (r, m') := by
    rw [← f2]
    unfold f_X10_corner
    rw [m_isCorner hC.1.1 hC.1.2.2.1, p_b1, p_tbT ⟨f, hf, rfl⟩, m_tb, p_b1, p_tbT hb, m_tb, p_b1, p_tbT hc, m_tb, p_b1, p_tbT hd, k_0, c_0, hC.1.1]
    rw [if_neg (show ¬ nI nc = 20 from nI_ne (b := 20) (by omega) (by omega) (by omega)), n1, p_b1, k_0, p_let, e1, hC.1.1]
    have e2 : (10 : Int32) + 4 * nI nc = nI (10 + 4 * nc) := by rw [zl_10, zl_4, pk_mul, nI_add]
    have e3 : nI (10 + 4 * nc) + (0 : Int32) = nI (10 + 4 * nc + 0) := by rw [Int32.add_zero]; rfl
    have e4 : nI (10 + 4 * nc) + (1 : Int32) = nI (10 + 4 * nc + 1) := nI_1 _
    have e5 : nI (10 + 4 * nc) + (2 : Int32) = nI (10 + 4 * nc + 2) := by rw [zl_2, nI_add]
    have e6 : nI (10 + 4 * nc) + (3 : Int32) = nI (10 + 4 * nc + 3) := by rw [zl_3, nI_add]
    rw [e2, e3, e4, e5, e6, p_cki (by omega) (by omega), p_let, p_cki (by omega) (by omega), p_let, p_cki (by omega) (by omega), p_let, p_cki (by omega) (by omega), p_let, k_0, k_0, p_let, k_0, p_cl (by omega), p_cl (by omega), p_cl (by omega), p_cl (by omega)]
    rw [u_n (show 0 ≠ 10 + 4 * nc + 3 by omega), u_n (show 0 ≠ 10 + 4 * nc + 2 by omega), u_n (show 0 ≠ 10 + 4 * nc + 1 by omega), u_n (show 0 ≠ 10 + 4 * nc + 0 by omega), e1, hC.1.1, nI_1, u_i, nI_pred, ← hm2]
  obtain ⟨q1, q2, q3⟩ := o_end hR (nI_pos (by omega)) n2 n3 (by rw [hm2]; exact ((frM.u.trans frM.u).trans (frM.u.trans frM.u)).trans frM.u) e3
  refine ⟨x', m', by rw [f1, q1], hR', q3, ?_⟩
  rw [q2]
  exact ⟨by rw [hm2, u_i], fun i h1 h2 => by rw [hm2, u_n h1, u_n (by omega), u_n (by omega), u_n (by omega), u_n (by omega), e1]⟩
end OPS2
