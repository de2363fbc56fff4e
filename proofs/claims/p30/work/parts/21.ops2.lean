/-! THE PURE PART. 9: houses are given, dogs come, carriers, pauses, settings -/
section OPS
variable {T T' : z_S} {n n' : Nat → Int32} {nc nh nk np dy : Nat} {ah pl : Nat → Nat}
/-- one house changes its carrier, its dog -/
theorem RT.house (h : RT T n nc nh nk np dy ah pl) {k : Nat} (hk : k < nh) (hT : ∀ q j, (q ≠ 15 ∧ q ≠ 16 ∧ q ≠ 17) ∨ j ≠ k → T' q j = T q j) (hn : ∀ i, i ≠ 90 + 14 * k + 3 → i ≠ 90 + 14 * k + 4 → i ≠ 90 + 14 * k + 5 → n' i = n i)
    (e3 : T' 15 k = n' (90 + 14 * k + 3)) (e4 : T' 16 k = n' (90 + 14 * k + 4)) (e5 : T' 17 k = n' (90 + 14 * k + 5)) (hb : n' (90 + 14 * k + 3) = -1 ∨ ∃ c, c < nk ∧ n' (90 + 14 * k + 3) = nI c) : RT T' n' nc nh nk np dy ah pl := by
  obtain ⟨a, b, c, d, e, f, g, z1, z2⟩ := h
  have h20 := a.1.2.2.1
  have h24 := b.1.2.1
  have hT' : ∀ q j, q ≠ 15 → q ≠ 16 → q ≠ 17 → T' q j = T q j := fun q j x y z => hT q j (Or.inl ⟨x, y, z⟩)
  refine ⟨rC_congr a (hn 0 (by omega) (by omega) (by omega)) (fun i h1 h2 => hn i (by omega) (by omega) (by omega)) (hT' 2 0 (by omega) (by omega) (by omega)) (fun q x y j hj => hT' q j (by omega) (by omega) (by omega)), ⟨mH_congr b.1 (hn 1 (by omega) (by omega) (by omega)) (fun j hj => hn _ (by omega) (by omega) (by omega)), by rw [hT' 11 0 (by omega) (by omega) (by omega)]; exact b.2.1, fun j hj => ?_⟩, fun j hj => by rw [hT' 25 j (by omega) (by omega) (by omega)]; exact c j hj,
    rK_congr d (hn 2 (by omega) (by omega) (by omega)) (hT' 30 0 (by omega) (by omega) (by omega)) (fun q x y j hj => hT' q j (by omega) (by omega) (by omega)) (fun i h1 h2 => hn i (by omega) (by omega) (by omega)), rP_congr e (hn 3 (by omega) (by omega) (by omega)) (hT' 26 0 (by omega) (by omega) (by omega)) (fun q x y j hj => hT' q j (by omega) (by omega) (by omega)) (fun i h1 h2 => hn i (by omega) (by omega) (by omega)),
    rS_congr f (hT' 0 0 (by omega) (by omega) (by omega)) (hT' 0 1 (by omega) (by omega) (by omega)) (hT' 0 2 (by omega) (by omega) (by omega)) (hn 4 (by omega) (by omega) (by omega)) (hn 5 (by omega) (by omega) (by omega)) (hn 6 (by omega) (by omega) (by omega)),
    rA_congr g (fun j _ => hT' 1 j (by omega) (by omega) (by omega)) (fun w h1 h2 => sI_congr (fun i hi => hn _ (by omega) (by omega) (by omega))), fun i h1 h2 => by rw [hn i (by omega) (by omega) (by omega)]; exact z1 i h1 h2, fun i h1 h2 => by rw [hn i (by omega) (by omega) (by omega)]; exact z2 i h1 h2⟩
  by_cases hjk : j = k
  · subst hjk
    obtain ⟨⟨a0, a1, a2, a3, a4, a5⟩, b', c', d', e', f', g'⟩ := b.2.2 j hj
    unfold rH1
    rw [hT' 12 j (by omega) (by omega) (by omega), hT' 13 j (by omega) (by omega) (by omega), hT' 14 j (by omega) (by omega) (by omega), hT' 18 j (by omega) (by omega) (by omega), hT' 19 j (by omega) (by omega) (by omega), hT' 20 j (by omega) (by omega) (by omega), hT' 21 j (by omega) (by omega) (by omega), hT' 22 j (by omega) (by omega) (by omega), hT' 23 j (by omega) (by omega) (by omega), hT' 24 j (by omega) (by omega) (by omega),
      hn (90 + 14 * j + 0) (by omega) (by omega) (by omega), hn (90 + 14 * j + 1) (by omega) (by omega) (by omega), hn (90 + 14 * j + 2) (by omega) (by omega) (by omega), hn (90 + 14 * j + 6) (by omega) (by omega) (by omega), hn (90 + 14 * j + 7) (by omega) (by omega) (by omega), hn (90 + 14 * j + 8) (by omega) (by omega) (by omega), hn (90 + 14 * j + 9) (by omega) (by omega) (by omega), hn (90 + 14 * j + 10) (by omega) (by omega) (by omega), hn (90 + 14 * j + 11) (by omega) (by omega) (by omega), hn (90 + 14 * j + 12) (by omega) (by omega) (by omega), hn (90 + 14 * j + 13) (by omega) (by omega) (by omega)]
    exact ⟨⟨a0, a1, a2, e3, e4, e5⟩, b', c', hb, e', f', g'⟩
  · exact rH1_congr (b.2.2 j hj) (fun q _ _ => hT q j (Or.inr hjk)) (fun w hw => hn _ (by omega) (by omega) (by omega))
end OPS
theorem u_n {m : z_S} {i j : Nat} {v : Int32} (h : j ≠ i) : z_u m 1 i v 1 j = m 1 j := u_j h
theorem same_giveNone (a : Int32) : sameT (f_X6_takeBack a) (f_X10_givesNone a) := by
  rintro T m ⟨nc, nh, nk, np, dy, ah, pl, h⟩
  have hb := h.2.1
  unfold f_X6_takeBack f_X10_givesNone
  rw [x_hasH hb.2.1 hb.1.2.1, m_isHouse hb.1.1 hb.1.2.1, p_b1, p_b1]
  by_cases hp : iX a nh
  · rw [p_tbT hp, p_tbT hp]
    obtain ⟨k, hk, rfl⟩ := hp
    have h24 := hb.1.2.1
    have e3 : T 15 k = m 1 (90 + 14 * k + 3) := (hb.2.2 k hk).1.2.2.2.1
    rw [p_cki (by omega) (by omega), p_cl (by omega), p_let, zl_3, m_of (by omega), p_b1, e3]
    by_cases hn : m 1 (90 + 14 * k + 3) = -1
    · rw [if_pos hn, if_pos hn]
      exact ⟨_, _, _, rfl, rfl, ⟨nc, nh, nk, np, dy, ah, pl, h⟩, frM.rf⟩
    · rw [if_neg hn, if_neg hn, p_cki (by omega) (by omega), p_let, m_lays (by omega), p_b1]
      refine ⟨_, _, _, rfl, rfl, ⟨nc, nh, nk, np, dy, ah, pl, h.house (k := k) hk (fun q j hq => ?_) (fun i h1 h2 h3 => u_n h1) ?_ ?_ ?_ ?_⟩, frM.u⟩
      · rcases hq with hq | hq
        · rw [u_o hq.1]
        · by_cases e : q = 15
          · subst e; rw [u_j hq]
          · rw [u_o e]
      · rw [u_i, u_i]
      · rw [u_o (by omega), u_n (by omega)]; exact (hb.2.2 k hk).1.2.2.2.2.1
      · rw [u_o (by omega), u_n (by omega)]; exact (hb.2.2 k hk).1.2.2.2.2.2
      · exact Or.inl u_i
  · rw [p_tbF hp, p_tbF hp]
    exact ⟨_, _, _, rfl, rfl, ⟨nc, nh, nk, np, dy, ah, pl, h⟩, frM.rf⟩
/-- whether carts come to a corner -/
theorem tf_crt {n : Nat → Int32} {nc : Nat} {ah : Nat → Nat} (hA : tA ah nc) {x : Nat} (h1 : 1 ≤ x) (hx : x < nc) : rCrt n ah x = if n (10 + 4 * x + 3) = nI 1 then nI 0 else rCrt n ah (ah x) := tf_s (fun k a b => hA k a (by omega)) h1
theorem rCrt_01 {n : Nat → Int32} {nc : Nat} {ah : Nat → Nat} (hA : tA ah nc) : ∀ {x : Nat}, x < nc → rCrt n ah x = nI 0 ∨ rCrt n ah x = nI 1 := by
  intro x
  induction x using Nat.strongRecOn with
  | _ x ih =>
    intro hx
    by_cases h0 : x = 0
    · subst h0; exact Or.inr rfl
    · rw [tf_crt hA (by omega) hx]
      by_cases h : n (10 + 4 * x + 3) = nI 1
      · rw [if_pos h]; exact Or.inl rfl
      · rw [if_neg h]
        have := hA x (by omega) hx
        exact ih (ah x) this (by omega)
theorem m_cartsCome {T m : z_S} {nc : Nat} {ah : Nat → Nat} (h : rC T (m 1) nc ah) {x : Nat} (hx : x < nc) : f_X10_cartsCome (nI x) m = some (rCrt (m 1) ah x) := by
  obtain ⟨⟨h0, h1, h20, hA, hn⟩, -, hc, -⟩ := h
  unfold f_X10_cartsCome
  refine p_run2 (fun i come y => ∃ c, y = nI c ∧ c + i ≤ x ∧ ((come = nI 1 ∧ rCrt (m 1) ah x = rCrt (m 1) ah c) ∨ (come = nI 0 ∧ rCrt (m 1) ah x = nI 0))) x (by omega) ⟨x, rfl, by omega, Or.inl ⟨rfl, rfl⟩⟩ ?_ ?_
  · rintro i come y hi ⟨c, rfl, hcx, hcome⟩
    by_cases hc0 : c = 0
    · subst hc0
      right
      intro k
      unfold lb_X10_cartsCome_4
      rw [if_pos (by decide)]
      rcases hcome with ⟨rfl, e⟩ | ⟨rfl, e⟩
      · rw [e]; rfl
      · rw [e]; rfl
    · left
      have hac := hA c (by omega) (by omega)
      have hne : ¬ nI c ≤ 0 := nI_nle (by omega) (by omega)
      rcases hcome with ⟨rfl, e⟩ | ⟨rfl, e⟩
      · rcases (hc c (by omega)).2.2.2.2.2.2.2 with hs | hs
        · refine ⟨nI 1, nI (ah c), ⟨ah c, rfl, by omega, Or.inl ⟨rfl, ?_⟩⟩, fun k => ?_⟩
          · rw [e, tf_crt hA (by omega) (by omega), hs, if_neg (by decide)]
          · unfold lb_X10_cartsCome_4
            rw [if_neg hne, p_let, p_let, if_neg (by decide), zl_3, m_ofCorner (by omega), p_b1, hs, if_pos (by decide)]
            rw [zl_0, m_ofCorner (by omega), hn c (by omega) (by omega)]
            rfl
        · refine ⟨nI 0, nI (ah c), ⟨ah c, rfl, by omega, Or.inr ⟨rfl, ?_⟩⟩, fun k => ?_⟩
          · rw [e, tf_crt hA (by omega) (by omega), hs, if_pos rfl]
          · unfold lb_X10_cartsCome_4
            rw [if_neg hne, p_let, p_let, if_neg (by decide), zl_3, m_ofCorner (by omega), p_b1, hs, if_neg (by decide)]
            rw [zl_0, m_ofCorner (by omega), hn c (by omega) (by omega)]
            rfl
      · refine ⟨nI 0, nI (ah c), ⟨ah c, rfl, by omega, Or.inr ⟨rfl, e⟩⟩, fun k => ?_⟩
        unfold lb_X10_cartsCome_4
        rw [if_neg hne, p_let, p_let, if_pos (by decide)]
        rw [zl_0, m_ofCorner (by omega), hn c (by omega) (by omega)]
        rfl
  · rintro come y ⟨c, rfl, hcx, hcome⟩ k
    have hc0 : c = 0 := by omega
    subst hc0
    unfold lb_X10_cartsCome_4
    rw [if_pos (by decide)]
    rcases hcome with ⟨rfl, e⟩ | ⟨rfl, e⟩
    · rw [e]; rfl
    · rw [e]; rfl
/-- whether a carrier can reach a house: class and model say the same -/
theorem can_same {T m : z_S} {nc nh nk np dy : Nat} {ah pl : Nat → Nat} (h : RT T (m 1) nc nh nk np dy ah pl) {c k : Nat} (hc : c < nk) (hk : k < nh) : ∃ P : Prop, f_X6_canReach (nI c) (nI k) T = some (tb P) ∧ f_X10_canReach (nI c) (nI k) m = some (tb P) := by
  obtain ⟨hC, hH, -, hK, -⟩ := h
  have h3 := hK.2.1
  have h24 := hH.1.2.1
  have hcart := (hK.2.2.2 c hc).1
  have hpl := (hH.1.2.2 k hk)
  have hplace := (hH.2.2 k hk).1.1
  have h20 := hC.1.2.2.1
  unfold f_X6_canReach f_X10_canReach
  rw [p_cki (by omega) (by omega), p_cl (by omega), zl_0, m_ofCarrier (by omega), p_b1, hcart]
  by_cases h0 : m 1 (426 + 7 * c + 0) = nI 0
  · exact ⟨True, by rw [if_pos h0, tb_t trivial]; rfl, by rw [if_pos h0, tb_t trivial]; rfl⟩
  · rw [if_neg h0, if_neg h0, p_cki (by omega) (by omega), p_cl (by omega), hplace, m_of (by omega), p_b1, hpl.1, p_cki (by omega) (by omega), p_cl (by omega), m_cartsCome hC hpl.2, p_b1, (hC.2.2.1 _ hpl.2).2.2.2.2.2.2.1]
    rcases rCrt_01 (n := m 1) hC.1.2.2.2.1 hpl.2 with e | e
    · exact ⟨False, by rw [e, if_neg (by decide), tb_f id], by rw [e, if_pos rfl, tb_f id]⟩
    · exact ⟨True, by rw [e, if_pos (by decide), tb_t trivial]; rfl, by rw [e, if_neg (by decide), tb_t trivial]; rfl⟩
/-- how many houses a carrier has -/
noncomputable def sCnt (n : Nat → Int32) (p : Int32) (nh : Nat) : Int32 := sI (fun h => if n (90 + 14 * h + 3) = p then nI 1 else nI 0) nh
theorem x_manyOf {T : z_S} {n : Nat → Int32} {nh : Nat} {p : Int32} (h11 : T 11 0 = nI nh) (h24 : nh ≤ 24) (hT : ∀ h, h < nh → T 15 h = n (90 + 14 * h + 3)) : f_X2_manyOf p T = some (sCnt n p nh) := by
  unfold f_X2_manyOf
  refine p_run2 (fun i acc x => acc = sCnt n p i ∧ x = nI i) nh (by omega) ⟨rfl, rfl⟩ ?_ ?_
  · rintro i acc x hi ⟨rfl, rfl⟩
    refine Or.inl ⟨_, _, ⟨rfl, rfl⟩, fun k => ?_⟩
    unfold lb_X2_manyOf_4
    rw [h11, if_neg (nI_ge hi (by omega)), p_cki (by omega) (by omega), p_cl (by omega), p_let, hT i hi]
    simp only [sCnt, sI]
    by_cases e : n (90 + 14 * i + 3) = p
    · rw [if_pos e, if_pos e, p_let, p_let, zl_1, nI_add]
    · rw [if_neg e, if_neg e, p_let, zl_1, nI_add, nI_0, Int32.add_zero]
  · rintro acc x ⟨rfl, rfl⟩ k
    unfold lb_X2_manyOf_4
    rw [h11, if_pos (nI_le (Nat.le_refl _) (by omega))]
theorem m_housesOf {m : z_S} {nh : Nat} {p : Int32} (h1 : m 1 1 = nI nh) (h24 : nh ≤ 24) : f_X10_housesOf p m = some (sCnt (m 1) p nh) := by
  unfold f_X10_housesOf
  refine p_run2 (fun i acc x => acc = sCnt (m 1) p i ∧ x = nI i) nh (by omega) ⟨rfl, rfl⟩ ?_ ?_
  · rintro i acc x hi ⟨rfl, rfl⟩
    refine Or.inl ⟨_, _, ⟨rfl, rfl⟩, fun k => ?_⟩
    unfold lb_X10_housesOf_4
    rw [k_1, c_1, h1, if_neg (nI_ge hi (by omega)), zl_3, m_of (by omega), p_b1, p_let]
    simp only [sCnt, sI]
    by_cases e : m 1 (90 + 14 * i + 3) = p
    · rw [if_pos e, if_pos e, p_let, p_let, zl_1, nI_add]
    · rw [if_neg e, if_neg e, p_let, p_let, zl_1, nI_add, zl_0]
  · rintro acc x ⟨rfl, rfl⟩ k
    unfold lb_X10_housesOf_4
    rw [k_1, c_1, h1, if_pos (nI_le (Nat.le_refl _) (by omega))]
theorem same_give (a b : Int32) : sameT (f_X6_handOver a b) (f_X10_gives a b) := by
  rintro T m ⟨nc, nh, nk, np, dy, ah, pl, h⟩
  have hb := h.2.1
  have hK := h.2.2.2.1
  have h3 := hK.2.1
  have same : ∃ r T' m', some ((-1 : Int32), T) = some (r, T') ∧ some ((-1 : Int32), m) = some (r, m') ∧ RTx T' (m' 1) ∧ frM m m' := ⟨_, _, _, rfl, rfl, ⟨nc, nh, nk, np, dy, ah, pl, h⟩, frM.rf⟩
  have same2 : ∃ r T' m', some ((-2 : Int32), T) = some (r, T') ∧ some ((-2 : Int32), m) = some (r, m') ∧ RTx T' (m' 1) ∧ frM m m' := ⟨_, _, _, rfl, rfl, ⟨nc, nh, nk, np, dy, ah, pl, h⟩, frM.rf⟩
  unfold f_X6_handOver f_X10_gives
  rw [x_hasH hb.2.1 hb.1.2.1, m_isHouse hb.1.1 hb.1.2.1, p_b1, p_b1]
  by_cases hp : iX a nh
  · rw [p_tbT hp, p_tbT hp, x_hasK hK.2.2.1 hK.2.1, m_isCarrier hK.1 hK.2.1, p_b1, p_b1]
    by_cases hq : iX b nk
    · rw [p_tbT hq, p_tbT hq]
      obtain ⟨k, hk, rfl⟩ := hp
      obtain ⟨c, hc, rfl⟩ := hq
      have h24 := hb.1.2.1
      have e3 : T 15 k = m 1 (90 + 14 * k + 3) := (hb.2.2 k hk).1.2.2.2.1
      rw [p_cki (by omega) (by omega), p_cl (by omega), zl_3, m_of (by omega), p_b1, e3]
      by_cases hn : m 1 (90 + 14 * k + 3) = nI c
      · rw [if_pos hn, if_pos hn]; exact same2
      · rw [if_neg hn, if_neg hn]
        obtain ⟨P, q1, q2⟩ := can_same h hc hk
        rw [q1, q2, p_b1, p_b1]
        by_cases hP : P
        · rw [p_tbT hP, p_tbT hP, p_cki (by omega) (by omega), p_let, m_lays (by omega), p_b1]
          have hRT : RT (z_u T 15 k (nI c)) (z_u m 1 (90 + 14 * k + 3) (nI c) 1) nc nh nk np dy ah pl := by
            refine h.house (k := k) hk (fun q j hq => ?_) (fun i h1 h2 h3 => u_n h1) ?_ ?_ ?_ ?_
            · rcases hq with hq | hq
              · rw [u_o hq.1]
              · by_cases e : q = 15
                · subst e; rw [u_j hq]
                · rw [u_o e]
            · rw [u_i, u_i]
            · rw [u_o (by omega), u_n (by omega)]; exact (hb.2.2 k hk).1.2.2.2.2.1
            · rw [u_o (by omega), u_n (by omega)]; exact (hb.2.2 k hk).1.2.2.2.2.2
            · exact Or.inr ⟨c, hc, u_i⟩
          have hb' := hRT.2.1
          rw [x_manyOf (n := z_u m 1 (90 + 14 * k + 3) (nI c) 1) hb'.2.1 hb'.1.2.1 (fun j hj => (hb'.2.2 j hj).1.2.2.2.1), m_housesOf hb'.1.1 hb'.1.2.1, p_b1, p_b1]
          exact ⟨_, _, _, rfl, rfl, ⟨nc, nh, nk, np, dy, ah, pl, hRT⟩, frM.u⟩
        · rw [p_tbF hP, p_tbF hP]; exact same2
    · rw [p_tbF hq, p_tbF hq]; exact same
  · rw [p_tbF hp, p_tbF hp]; exact same
