/-! p30, THE PURE PART. 6: an act, and a bundle -/
def ACT (x m : z_S) (nc nh nk d : Nat) (due r : Int32) (x' : z_S) : Prop := (r = -9 ∧ x' = x) ∨ (r < 0 ∧ r ≠ -9 ∧ RX x' m) ∨ (¬ r < 0 ∧ ∃ m' nh', IV x' m' nc nh' nk d due ∧ PU m m' ∧ nh ≤ nh')
section ACTS
variable {x m : z_S} {nc nh nk d : Nat} {due : Int32}
theorem act_fin (I : IV x m nc nh nk d due) {r : Int32} {x' : z_S} {N : Int32 → (Nat → Int32) → Prop} (h : RES m r x' N) (hN : ∀ n', N r n' → ∃ nh', nh ≤ nh' ∧ nh' ≤ 24 ∧ JJ n' nh' nk d due ∧ n' 0 = m 1 0 ∧ n' 1 = nI nh' ∧ n' 2 = m 1 2 ∧ n' 4 = m 1 4) : ACT x m nc nh nk d due r x' := by
  obtain ⟨-, -, b0, b1, b2, b3, f0, f1, f2, f4⟩ := I
  rcases h with h | ⟨h, m', a, b, c⟩
  · exact Or.inr (Or.inl h)
  · obtain ⟨nh', g0, g1, g2, g3, g4, g5, g6⟩ := hN _ c
    exact Or.inr (Or.inr ⟨h, m', nh', ⟨a, g2, b0, g1, b2, b3, g3.trans f0, g4, g5.trans f2, g6.trans f4⟩, b, g0⟩)
theorem act_give (I : IV x m nc nh nk d due) (a c : Int32) : ∃ r x', f_X9_give a c x = some (r, x') ∧ ACT x m nc nh nk d due r x' := by
  obtain ⟨np, ah, pl, X⟩ := I.X
  have I0 := I
  obtain ⟨hR, J, b0, b1, b2, b3, f0, f1, f2, f4⟩ := I
  by_cases hg : iX a nh ∧ iX c nk
  · obtain ⟨⟨k, hk, rfl⟩, ⟨e, he, rfl⟩⟩ := hg
    obtain ⟨g1, g2, g3⟩ := k_give_h X hk he
    by_cases c1 : m 1 (90 + 14 * k + 3) = nI e
    · obtain ⟨x', q1, q2⟩ := g1 c1
      exact ⟨-2, x', q1, Or.inr (Or.inl ⟨by decide, by decide, q2⟩)⟩
    · by_cases c2 : cR (m 1) ah pl e k
      · obtain ⟨r, x', m', q1, q2, q3, q4, q5⟩ := g3 c1 c2
        refine ⟨r, x', q1, act_fin I0 (show RES m r x' (fun _ n' => n' = m' 1) from Or.inr ⟨q2, m', q3, q4, rfl⟩) ?_⟩
        rintro n' rfl
        refine ⟨nh, Nat.le_refl _, b1, ?_, ?_, ?_, ?_, ?_⟩
        · rw [q5]; exact j_give X J hk he c2
        · rw [q5, un_j (by omega)]
        · rw [q5, un_j (by omega)]; exact f1
        · rw [q5, un_j (by omega)]
        · rw [q5, un_j (by omega)]
      · obtain ⟨x', q1, q2⟩ := g2 c1 c2
        exact ⟨-2, x', q1, Or.inr (Or.inl ⟨by decide, by decide, q2⟩)⟩
  · obtain ⟨r, x', q1, q2⟩ := r_err hR (N := fun _ _ => False) (g := f_X6_handOver a c) (z := -1) (by decide) (by decide) (tq_give X hg)
    exact ⟨r, x', q1, act_fin I0 q2 (fun _ h => h.elim)⟩
theorem act_giveNone (I : IV x m nc nh nk d due) (a : Int32) : ∃ r x', f_X9_giveNone a x = some (r, x') ∧ ACT x m nc nh nk d due r x' := by
  obtain ⟨np, ah, pl, X⟩ := I.X
  obtain ⟨r, x', q1, q2⟩ := k_giveNone X a
  refine ⟨r, x', q1, act_fin I q2 ?_⟩
  rintro n' ⟨k, hk, rfl⟩
  obtain ⟨hR, J, b0, b1, b2, b3, f0, f1, f2, f4⟩ := I
  exact ⟨nh, Nat.le_refl _, b1, j_giveNone X J hk, un_j (by omega), (un_j (by omega)).trans f1, un_j (by omega), un_j (by omega)⟩
theorem act_pause (I : IV x m nc nh nk d due) (a b c : Int32) : ∃ r x', f_X9_pause a b c x = some (r, x') ∧ ACT x m nc nh nk d due r x' := by
  obtain ⟨np, ah, pl, X⟩ := I.X
  obtain ⟨r, x', q1, q2⟩ := k_pause X a b c
  refine ⟨r, x', q1, act_fin I q2 (fun n' hn => ?_)⟩
  obtain ⟨hR, J, b0, b1, b2, b3, f0, f1, f2, f4⟩ := I
  exact ⟨nh, Nat.le_refl _, b1, j_pause X J hn, hn 0 (by omega) (by omega), (hn 1 (by omega) (by omega)).trans f1, hn 2 (by omega) (by omega), hn 4 (by omega) (by omega)⟩
theorem act_dog (I : IV x m nc nh nk d due) (a b c : Int32) : ∃ r x', f_X9_dog a b c x = some (r, x') ∧ ACT x m nc nh nk d due r x' := by
  obtain ⟨np, ah, pl, X⟩ := I.X
  obtain ⟨r, x', q1, q2⟩ := k_dog X a b c I.2.1.per
  refine ⟨r, x', q1, act_fin I q2 ?_⟩
  rintro n' ⟨k, hk, hn, h4⟩
  obtain ⟨hR, J, b0, b1, b2, b3, f0, f1, f2, f4⟩ := I
  exact ⟨nh, Nat.le_refl _, b1, j_dog X J hk hn h4, hn 0 (by omega) (by omega), (hn 1 (by omega) (by omega)).trans f1, hn 2 (by omega) (by omega), hn 4 (by omega) (by omega)⟩
theorem act_biscuits (I : IV x m nc nh nk d due) (a b : Int32) : ∃ r x', f_X9_biscuits a b x = some (r, x') ∧ ACT x m nc nh nk d due r x' := by
  obtain ⟨np, ah, pl, X⟩ := I.X
  obtain ⟨r, x', q1, q2⟩ := k_biscuits X I.2.1.2.1 a b
  refine ⟨r, x', q1, act_fin I q2 ?_⟩
  rintro n' ⟨c, v, hc, hv, rfl⟩
  obtain ⟨hR, J, b0, b1, b2, b3, f0, f1, f2, f4⟩ := I
  exact ⟨nh, Nat.le_refl _, b1, j_biscuits X J hc hv, un_j (by omega), (un_j (by omega)).trans f1, un_j (by omega), un_j (by omega)⟩
theorem act_set (I : IV x m nc nh nk d due) (a b : Int32) : ∃ r x', f_X9_set a b x = some (r, x') ∧ ACT x m nc nh nk d due r x' := by
  obtain ⟨np, ah, pl, X⟩ := I.X
  obtain ⟨r, x', q1, q2⟩ := k_set X a b
  refine ⟨r, x', q1, act_fin I q2 (fun n' hn => ?_)⟩
  obtain ⟨hR, J, b0, b1, b2, b3, f0, f1, f2, f4⟩ := I
  exact ⟨nh, Nat.le_refl _, b1, j_set X J hn, hn 0 (by omega) (by omega), (hn 1 (by omega) (by omega)).trans f1, hn 2 (by omega) (by omega), hn 4 (by omega) (by omega)⟩
theorem act_house (I : IV x m nc nh nk d due) (a b c : Int32) : ∃ r x', f_X9_house a b c x = some (r, x') ∧ ACT x m nc nh nk d due r x' := by
  obtain ⟨np, ah, pl, X⟩ := I.X
  obtain ⟨r, x', q1, q2⟩ := k_house X a b c
  refine ⟨r, x', q1, act_fin I q2 ?_⟩
  rintro n' ⟨ka, w, hn, hlt⟩
  obtain ⟨hR, J, b0, b1, b2, b3, f0, f1, f2, f4⟩ := I
  have h9 := hn.2.2.2.2.2.2.2.2
  exact ⟨nh + 1, Nat.le_succ _, hlt, j_house X J hlt hn, h9 0 (by omega) (by omega), hn.1, h9 2 (by omega) (by omega), h9 4 (by omega) (by omega)⟩
theorem v_act (I : IV x m nc nh nk d due) (h1 : 1 ≤ nc) (hk : 1 ≤ nk) (p : Int32) : ∃ r x', f_X11_act p x = some (r, x') ∧ ACT x m nc nh nk d due r x' := by
  obtain ⟨np, ah, pl, X⟩ := I.X
  obtain ⟨b0, b1, b2, b3, b4, b5⟩ := X.b
  obtain ⟨j1, hj1, e1⟩ := u_up (p >>> ((4 : Int32) &&& 31)) (N := nh + 1) (by omega) (by omega) x
  obtain ⟨j2, hj2, e2⟩ := u_up (p >>> ((9 : Int32) &&& 31)) (N := nk) hk (by omega) x
  obtain ⟨j3, hj3, e3⟩ := u_up p (N := 12) (by omega) (by omega) x
  unfold f_X11_act
  rw [v_count_1 X, p_b1, nI_1, e1, p_b1, v_count_2 X, p_b1, e2, p_b1, v_count_4 X, p_b1, show f_X11_up p 12 x = some (nI j3) from e3, p_b1]
  generalize nI j3 = q
  generalize nI j1 = hh
  generalize nI j2 = cc
  by_cases c0 : q = 0
  · rw [if_pos c0, p_let]
    obtain ⟨j4, hj4, e4⟩ := u_up (p >>> ((17 : Int32) &&& 31)) (N := 9) (by omega) (by omega) x
    have e4' : f_X11_up (p >>> ((17 : Int32) &&& 31)) 9 x = some (nI j4) := e4
    obtain ⟨j5, hj5, e5⟩ := u_up (p >>> ((13 : Int32) &&& 31)) (N := 8) (by omega) (by omega) x
    have e5' : f_X11_up (p >>> ((13 : Int32) &&& 31)) 8 x = some (nI j5) := e5
    by_cases c : (p >>> ((11 : Int32) &&& 31)) &&& (3 : Int32) = 0
    · rw [if_pos c]
      dsimp only
      rw [e4', p_b1]
      obtain ⟨r, x', q1, q2⟩ := act_dog I hh 0 (nI j4)
      rw [q1, p_b2]
      exact ⟨r, x', rfl, q2⟩
    · rw [if_neg c, e5', p_b1]
      dsimp only
      rw [e4', p_b1]
      obtain ⟨r, x', q1, q2⟩ := act_dog I hh (2 + nI j5) (nI j4)
      rw [q1, p_b2]
      exact ⟨r, x', rfl, q2⟩
  rw [if_neg c0]
  obtain ⟨j4, hj4, e4⟩ := u_up (p >>> ((12 : Int32) &&& 31)) (N := 6) (by omega) (by omega) x
  have e4' : f_X11_up (p >>> ((12 : Int32) &&& 31)) 6 x = some (nI j4) := e4
  obtain ⟨j5, hj5, e5⟩ := u_up (p >>> ((15 : Int32) &&& 31)) (N := 12) (by omega) (by omega) x
  have e5' : f_X11_up (p >>> ((15 : Int32) &&& 31)) 12 x = some (nI j5) := e5
  by_cases c1 : q = 1
  · rw [if_pos c1, e4', p_b1, e5', p_b1]
    obtain ⟨r, x', q1, q2⟩ := act_pause I hh (nI d + nI j4) (nI d + nI j5)
    rw [q1, p_b2]
    exact ⟨r, x', rfl, q2⟩
  rw [if_neg c1]
  by_cases c2 : q = 2
  · rw [if_pos c2, e4', p_b1, e5', p_b1]
    obtain ⟨r, x', q1, q2⟩ := act_pause I hh (nI d + nI j4) (nI d + nI j5)
    rw [q1, p_b2]
    exact ⟨r, x', rfl, q2⟩
  rw [if_neg c2]
  obtain ⟨rg, xg, g1, g2⟩ := act_give I hh cc
  by_cases c3 : q = 3
  · rw [if_pos c3, g1, p_b2]
    exact ⟨rg, xg, rfl, g2⟩
  rw [if_neg c3]
  by_cases c4 : q = 4
  · rw [if_pos c4, g1, p_b2]
    exact ⟨rg, xg, rfl, g2⟩
  rw [if_neg c4]
  by_cases c5 : q = 5
  · rw [if_pos c5, g1, p_b2]
    exact ⟨rg, xg, rfl, g2⟩
  rw [if_neg c5]
  by_cases c6 : q = 6
  · rw [if_pos c6]
    obtain ⟨r, x', q1, q2⟩ := act_giveNone I hh
    rw [q1, p_b2]
    exact ⟨r, x', rfl, q2⟩
  rw [if_neg c6]
  by_cases c7 : q = 7
  · rw [if_pos c7, e4', p_b1]
    obtain ⟨r, x', q1, q2⟩ := act_biscuits I cc (1 + nI j4)
    rw [q1, p_b2]
    exact ⟨r, x', rfl, q2⟩
  rw [if_neg c7]
  by_cases c8 : q = 8
  · rw [if_pos c8]
    obtain ⟨j6, hj6, e6⟩ := u_up (p >>> ((13 : Int32) &&& 31)) (N := 20) (by omega) (by omega) x
    rw [show f_X11_up (p >>> ((13 : Int32) &&& 31)) 20 x = some (nI j6) from e6, p_b1]
    obtain ⟨r, x', q1, q2⟩ := act_set I ((p >>> ((12 : Int32) &&& 31)) &&& (1 : Int32)) (1 + nI j6)
    rw [q1, p_b2]
    exact ⟨r, x', rfl, q2⟩
  rw [if_neg c8]
  by_cases c9 : q = 9
  · rw [if_pos c9, v_count_0 X, p_b1]
    obtain ⟨j6, hj6, e6⟩ := u_up (p >>> ((12 : Int32) &&& 31)) (N := nc) h1 (by omega) x
    obtain ⟨j7, hj7, e7⟩ := u_up (p >>> ((17 : Int32) &&& 31)) (N := 5) (by omega) (by omega) x
    obtain ⟨j8, hj8, e8⟩ := u_up (p >>> ((20 : Int32) &&& 31)) (N := 501) (by omega) (by omega) x
    rw [e6, p_b1, show f_X11_up (p >>> ((17 : Int32) &&& 31)) 5 x = some (nI j7) from e7, p_b1, show f_X11_up (p >>> ((20 : Int32) &&& 31)) 501 x = some (nI j8) from e8, p_b1]
    obtain ⟨r, x', q1, q2⟩ := act_house I (nI j6) (1 + nI j7) (nI j8)
    rw [q1, p_b2]
    exact ⟨r, x', rfl, q2⟩
  rw [if_neg c9]
  exact ⟨-9, x, rfl, Or.inl ⟨rfl, rfl⟩⟩
theorem v_bundle {np : Nat} {ah pl : Nat → Nat} (X : XT x m nc nh nk np d ah pl) : f_X11_bundle x = some (sI (fun h => m 1 (90 + 14 * h + 1)) nh) := by
  obtain ⟨b0, b1, b2, b3, b4, b5⟩ := X.b
  unfold f_X11_bundle
  obtain ⟨_, _, ⟨rfl, rfl⟩, k', e⟩ := r_run2 (body := lb_X11_bundle_4 x) (x1 := (0 : Int32)) (x2 := (0 : Int32)) (fun i a b => a = sI (fun h => m 1 (90 + 14 * h + 1)) i ∧ b = nI i) nh (by omega) ⟨rfl, rfl⟩ (by
    rintro i a b hi ⟨rfl, rfl⟩
    refine ⟨_, _, ⟨rfl, rfl⟩, fun k => ?_⟩
    unfold lb_X11_bundle_4
    rw [v_count_1 X, p_b1, if_neg (nI_ge (b := nh) hi (by omega)), v_house_1 X hi, p_b1, p_let, p_let, nI_1]
    rfl)
  rw [e]
  unfold lb_X11_bundle_4
  rw [v_count_1 X, p_b1, if_pos (nI_le (Nat.le_refl _) (by omega))]
end ACTS
