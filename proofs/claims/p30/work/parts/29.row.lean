/-! THE PURE PART. 17: the row of the houses, and rounds asked -/
section ROW
variable {nc nh : Nat} {ah pl : Nat → Nat}
theorem tO_inj (hc1 : 1 ≤ nc) (hA : tA ah nc) : ∀ p q, p < nc → q < nc → tO ah nc p = tO ah nc q → p = q := (tO_J hc1 hA).2.2.1
theorem tO_sur (hc1 : 1 ≤ nc) (hA : tA ah nc) : ∀ x, x < nc → ∃ j, j < nc ∧ tO ah nc j = x := (tO_J hc1 hA).2.1
theorem tR_len (hc1 : 1 ≤ nc) (hA : tA ah nc) (hp : ∀ h, h < nh → pl h < nc) : (hL (tO ah nc) pl nh nc).length = nh :=
  hL_len (tO_inj hc1 hA) (fun h hh => tO_sur hc1 hA _ (hp h hh))
theorem l_getD_mem {l : List Nat} {k : Nat} (h : k < l.length) : l.getD k 0 ∈ l := by
  rw [List.getD_eq_getElem?_getD, List.getElem?_eq_getElem h]
  exact List.getElem_mem h
theorem tR_lt (hc1 : 1 ≤ nc) (hA : tA ah nc) (hp : ∀ h, h < nh → pl h < nc) {k : Nat} (hk : k < nh) : tR ah pl nc nh k < nh := by
  have h := l_getD_mem (l := hL (tO ah nc) pl nh nc) (k := k) (by rw [tR_len hc1 hA hp]; exact hk)
  exact (hL_mem.mp h).1
theorem l_nodup_inj : ∀ {l : List Nat}, l.Nodup → ∀ p q, p < l.length → q < l.length → l.getD p 0 = l.getD q 0 → p = q
  | [], _, p, _, hp, _, _ => by cases hp
  | a :: l, h, p, q, hp, hq, e => by
    rw [List.nodup_cons] at h
    cases p with
    | zero =>
      cases q with
      | zero => rfl
      | succ q =>
        have hq' : q < l.length := Nat.lt_of_succ_lt_succ hq
        have e' : a = l.getD q 0 := e
        exact absurd (e' ▸ l_getD_mem hq') h.1
    | succ p =>
      cases q with
      | zero =>
        have hp' : p < l.length := Nat.lt_of_succ_lt_succ hp
        have e' : l.getD p 0 = a := e
        exact absurd (e' ▸ l_getD_mem hp') h.1
      | succ q => rw [l_nodup_inj h.2 p q (Nat.lt_of_succ_lt_succ hp) (Nat.lt_of_succ_lt_succ hq) e]
theorem tR_inj (hc1 : 1 ≤ nc) (hA : tA ah nc) (hp : ∀ h, h < nh → pl h < nc) {j k : Nat} (hj : j < nh) (hk : k < nh) (e : tR ah pl nc nh j = tR ah pl nc nh k) : j = k :=
  l_nodup_inj (hL_nodup (tO_inj hc1 hA)) j k (by rw [tR_len hc1 hA hp]; exact hj) (by rw [tR_len hc1 hA hp]; exact hk) e
theorem tR_sur (hc1 : 1 ≤ nc) (hA : tA ah nc) (hp : ∀ h, h < nh → pl h < nc) {h : Nat} (hh : h < nh) : ∃ k, k < nh ∧ tR ah pl nc nh k = h := by
  obtain ⟨j, hj, e⟩ := tO_sur hc1 hA _ (hp h hh)
  have hm : h ∈ hL (tO ah nc) pl nh nc := hL_mem.mpr ⟨hh, j, hj, e⟩
  obtain ⟨k, hk, e2⟩ := List.getElem_of_mem hm
  refine ⟨k, by rw [tR_len hc1 hA hp] at hk; exact hk, ?_⟩
  show (hL (tO ah nc) pl nh nc).getD k 0 = h
  rw [List.getD_eq_getElem?_getD, List.getElem?_eq_getElem hk]
  exact e2
theorem m_row {σ : z_S} (hC : mC (σ 1) nc ah) (hH : mH (σ 1) nc nh pl) : ∃ σ' : z_S, f_X10_laysRow σ = some σ' ∧ (∀ a, a ≠ 6 → a ≠ 7 → σ' a = σ a) ∧ ∀ k, k < nh → σ' 7 k = nI (tR ah pl nc nh k) := by
  obtain ⟨σ', h1, h2, h3⟩ := m_laysRow hC hH
  exact ⟨σ', h1, h2, fun k hk => h3 k (by rw [tR_len hC.2.1 hC.2.2.2.1 (fun h hh => (hH.2.2 h hh).2)]; exact hk)⟩
end ROW
theorem RX.m {x m m' : z_S} (hR : RX x m) (h1 : m' 1 = m 1) (h2 : m' 2 = m 2) (h5 : m' 5 = m 5) (h02 : m' 0 2 = m 0 2) (h06 : m' 0 6 = m 0 6) : RX x m' := by
  obtain ⟨hT, ⟨kp, o, a, b, c, d, e, f⟩, hw, L, t1, t2, t3, t4⟩ := hR
  refine ⟨by rw [h1]; exact hT, ⟨kp, o, a, b, c, d, by rw [h02]; exact e, fun i hi => by rw [h2]; exact f i hi⟩, hw, L, t1, t2, by rw [h06]; exact t3, fun k hk => by rw [h5]; exact t4 k hk⟩
theorem ff_roundAt {x m : z_S} (hR : RX x m) (a b : Int32) : ∃ r m', f_X9_roundAt a b x = some r ∧ f_X10_roundAt a b m = some (r, m') ∧ RX x m' := by
  have hR0 := hR
  obtain ⟨⟨nc, nh, nk, np, dy, ah, pl, hC, hH, hO, hK, hP, hS, hA, z1, z2⟩, -⟩ := hR
  have h24 := hH.1.2.1
  have h3 := hK.2.1
  have hc1 := hC.1.2.1
  have hA' := hC.1.2.2.2.1
  have hpl : ∀ h, h < nh → pl h < nc := fun h hh => (hH.1.2.2 h hh).2
  unfold f_X9_roundAt f_X10_roundAt
  rw [x_hasK hK.2.2.1 h3, m_isCarrier hK.1 h3, p_b1, p_b1]
  by_cases ha : iX a nk
  · rw [p_tbT ha, p_tbT ha]
    by_cases hb : (0 : Int32) ≤ b
    · rw [if_pos hb, if_pos hb]
      obtain ⟨m1, e1, e2, e3⟩ := m_row hC.1 hH.1
      rw [e1, p_b1]
      obtain ⟨j, hj, rfl⟩ := nI_of (x := b) (Int32.not_lt.mpr hb)
      have e21 : m1 1 = m 1 := e2 1 (by omega) (by omega)
      have hx : ∀ k, k < nh → x 217 k = nI (tR ah pl nc nh k) := hO
      have h15 : ∀ h, h < nh → x 207 h = m 1 (90 + 14 * h + 3) := fun h hh => (hH.2.2 h hh).1.2.2.2.1
      have h203 : x 203 0 = nI nh := hH.2.1
      -- the two loops together
      obtain ⟨r, f1, f2⟩ : ∃ r, z_lp2 (lb_X9_roundAt_34 a (nI j) x) z_Fu (0 : Int32) (0 : Int32) = some r ∧ z_lp2 (lb_X10_roundAt_23 a m1) z_Fu (nI j) (0 : Int32) = some (r, m1) := by
        have key : ∀ (n i c : Nat), n + i = nh → c ≤ j → c ≤ i → ∀ f g : Nat, n < f → n < g → ∃ r, z_lp2 (lb_X9_roundAt_34 a (nI j) x) f (nI c) (nI i) = some r ∧ z_lp2 (lb_X10_roundAt_23 a m1) g (nI (j - c)) (nI i) = some (r, m1) := by
          intro n
          induction n with
          | zero =>
            intro i c hi hcj hci f g hf hg
            obtain ⟨f, rfl⟩ : ∃ f', f = f' + 1 := ⟨f - 1, by omega⟩
            obtain ⟨g, rfl⟩ : ∃ f', g = f' + 1 := ⟨g - 1, by omega⟩
            refine ⟨-4, ?_, ?_⟩
            · show lb_X9_roundAt_34 a (nI j) x _ _ _ = _
              unfold lb_X9_roundAt_34
              rw [h203, if_pos (nI_le (by omega) (by omega))]
            · show lb_X10_roundAt_23 a m1 _ _ _ = _
              unfold lb_X10_roundAt_23
              rw [k_1, c_1, e21, hH.1.1, if_pos (nI_le (by omega) (by omega))]
          | succ n ih =>
            intro i c hi hcj hci f g hf hg
            obtain ⟨f, rfl⟩ : ∃ f', f = f' + 1 := ⟨f - 1, by omega⟩
            obtain ⟨g, rfl⟩ : ∃ f', g = f' + 1 := ⟨g - 1, by omega⟩
            have hR := tR_lt (ah := ah) (pl := pl) hc1 hA' hpl (k := i) (by omega)
            have st1 : ∀ k, lb_X9_roundAt_34 a (nI j) x k (nI c) (nI i) = if m 1 (90 + 14 * tR ah pl nc nh i + 3) = a then (if c = j then some (nI (tR ah pl nc nh i)) else k (nI (c + 1)) (nI (i + 1))) else k (nI c) (nI (i + 1)) := by
              intro k
              unfold lb_X9_roundAt_34
              rw [h203, if_neg (nI_ge (b := nh) (a := i) (by omega) (by omega)), p_cki (by omega) (by omega), p_cl (by omega), hx i (by omega), p_let, p_cki (by omega) (by omega), p_cl (by omega), p_let, h15 _ hR]
              by_cases q : m 1 (90 + 14 * tR ah pl nc nh i + 3) = a
              · rw [if_pos q, if_pos q]
                by_cases q2 : c = j
                · rw [if_pos q2, if_pos (by rw [q2])]
                · rw [if_neg q2, if_neg (nI_ne (by omega) (by omega) q2), p_let]
                  dsimp only
                  rw [p_let, zl_1, nI_add, nI_add]
              · rw [if_neg q, if_neg q]
                dsimp only
                rw [p_let, zl_1, nI_add]
            have st2 : ∀ k, lb_X10_roundAt_23 a m1 k (nI (j - c)) (nI i) = if m 1 (90 + 14 * tR ah pl nc nh i + 3) = a then (if c = j then some (nI (tR ah pl nc nh i), m1) else k (nI (j - (c + 1))) (nI (i + 1))) else k (nI (j - c)) (nI (i + 1)) := by
              intro k
              unfold lb_X10_roundAt_23
              rw [k_1, c_1, e21, hH.1.1, if_neg (nI_ge (b := nh) (a := i) (by omega) (by omega)), p_cki (by omega) (by omega), p_cl (by omega), e3 i (by omega), zl_3, m_of (by omega), e21, p_b1, p_let]
              by_cases q : m 1 (90 + 14 * tR ah pl nc nh i + 3) = a
              · rw [if_pos q, if_pos q]
                by_cases q2 : c = j
                · rw [if_pos q2, if_pos (by rw [q2, Nat.sub_self]; rfl), p_cki (by omega) (by omega)]
                · rw [if_neg q2, if_neg (nI_ne0 (by omega) (by omega)), p_let]
                  dsimp only
                  rw [p_let, show nI (j - c) + -1 = nI (j - (c + 1)) from by rw [show j - c = j - (c + 1) + 1 from by omega]; exact p_m1 _, zl_1, nI_add]
              · rw [if_neg q, if_neg q]
                dsimp only
                rw [p_let, zl_1, nI_add]
            show ∃ r, lb_X9_roundAt_34 a (nI j) x (z_lp2 (lb_X9_roundAt_34 a (nI j) x) f) _ _ = some r ∧ lb_X10_roundAt_23 a m1 (z_lp2 (lb_X10_roundAt_23 a m1) g) _ _ = some (r, m1)
            rw [st1, st2]
            by_cases q : m 1 (90 + 14 * tR ah pl nc nh i + 3) = a
            · rw [if_pos q, if_pos q]
              by_cases q2 : c = j
              · rw [if_pos q2, if_pos q2]
                exact ⟨_, rfl, rfl⟩
              · rw [if_neg q2, if_neg q2]
                exact ih (i + 1) (c + 1) (by omega) (by omega) (by omega) f g (by omega) (by omega)
            · rw [if_neg q, if_neg q]
              exact ih (i + 1) c (by omega) (by omega) (by omega) f g (by omega) (by omega)
        exact key nh 0 0 (by omega) (by omega) (by omega) z_Fu z_Fu (by show nh < 4096; omega) (by show nh < 4096; omega)
      refine ⟨r, m1, f1, f2, hR0.m e21 (e2 2 (by omega) (by omega)) (e2 5 (by omega) (by omega)) (by rw [e2 0 (by omega) (by omega)]) (by rw [e2 0 (by omega) (by omega)])⟩
    · rw [if_neg hb, if_neg hb]
      exact ⟨-1, m, rfl, rfl, hR0⟩
  · rw [p_tbF ha, p_tbF ha]
    exact ⟨-1, m, rfl, rfl, hR0⟩
