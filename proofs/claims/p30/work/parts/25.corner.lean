/-! THE PURE PART. 13: a corner comes -/
theorem tf_dis {n : Nat → Int32} {nc : Nat} {ah : Nat → Nat} (hA : tA ah nc) {x : Nat} (h1 : 1 ≤ x) (hx : x < nc) : rDis n ah x = rDis n ah (ah x) + n (10 + 4 * x + 1) := tf_s (fun k a b => hA k a (by omega)) h1
theorem ff_corner {x m : z_S} (hR : RX x m) (a b c d : Int32) : ∃ r x' m', f_X9_corner a b c d x = some (r, x') ∧ f_X10_corner a b c d m = some (r, m') ∧ RX x' m' := by
  have hR0 := hR
  obtain ⟨⟨nc, nh, nk, np, dy, ah, pl, h⟩, -⟩ := hR
  obtain ⟨hC, hH, hO, hK, hP, hS, hA, z1, z2⟩ := h
  have h1c := hC.1.2.1
  have h20 := hC.1.2.2.1
  have hAh := hC.1.2.2.2.1
  have h24 := hH.1.2.1
  have h3 := hK.2.1
  have h30 := hP.2.1
  obtain ⟨m1, n1, n2, n3⟩ := m_notes' m
  have e1 : m1 1 = m 1 := n2 1 (by omega)
  obtain ⟨T, hTe⟩ : ∃ T, T = fun q => x (zi_X_T q) := ⟨_, rfl⟩
  rw [← hTe] at hC hH hO hK hP hS hA
  have err : ∀ z : Int32, z < 0 → f_X6_addCorner a b c d T = some (z, T) → ∃ r x' m', f_X9_corner a b c d x = some (r, x') ∧ some (z, m) = some (r, m') ∧ RX x' m' := by
    intro z hz hg
    obtain ⟨x', q1, q2⟩ := op0_RX hR0 (r := z) (g := f_X6_addCorner a b c d) hz (by rw [← hTe]; exact hg)
    exact ⟨z, x', m, q1, rfl, q2⟩
  unfold f_X10_corner
  rw [m_isCorner hC.1.1 h20, p_b1]
  by_cases ha : iX a nc
  · rw [p_tbT ha, m_tb, p_b1]
    by_cases hb : 1 ≤ b ∧ b ≤ 50
    · rw [p_tbT hb, m_tb, p_b1]
      by_cases hc : 0 ≤ c ∧ c ≤ 100
      · rw [p_tbT hc, m_tb, p_b1]
        by_cases hd : 0 ≤ d ∧ d ≤ 1
        · rw [p_tbT hd, k_0, c_0, hC.1.1]
          by_cases h20' : nc = 20
          · rw [if_pos (by rw [h20']; rfl)]
            refine err (-3) (by decide) ?_
            unfold f_X6_addCorner
            rw [x_hasC hC.2.1 h20, p_b1, p_tbT ha, w_tb, p_b1, p_tbT hb, w_tb, p_b1, p_tbT hc, w_tb, p_b1, p_tbT hd, hC.2.1, if_neg (by rw [h20']; decide)]
          · have hlt : nc < 20 := by omega
            have ha0 := ha
            obtain ⟨f, hf, rfl⟩ := ha
            obtain ⟨m2, hm2⟩ : ∃ s, s = z_u (z_u (z_u (z_u (z_u m1 1 (10 + 4 * nc + 0) (nI f)) 1 (10 + 4 * nc + 1) b) 1 (10 + 4 * nc + 2) c) 1 (10 + 4 * nc + 3) d) 1 0 (nI (nc + 1)) := ⟨_, rfl⟩
            have hmod : (if (nI nc : Int32) = 20 then some ((-3 : Int32), m) else (z_b1 (f_X10_notes m) fun σ16 => z_cki (0 : Int32) 537 <| z_let ((10 : Int32) + ((4 : Int32) * (σ16 1 0))) fun x18 => z_cki (x18 + (0 : Int32)) 537 <| z_let (z_u σ16 1 (x18 + (0 : Int32)).toNatClampNeg (nI f)) fun σ20 => z_cki (x18 + (1 : Int32)) 537 <| z_let (z_u σ20 1 (x18 + (1 : Int32)).toNatClampNeg b) fun σ22 => z_cki (x18 + (2 : Int32)) 537 <| z_let (z_u σ22 1 (x18 + (2 : Int32)).toNatClampNeg c) fun σ24 => z_cki (x18 + (3 : Int32)) 537 <| z_let (z_u σ24 1 (x18 + (3 : Int32)).toNatClampNeg d) fun σ26 => z_cki (0 : Int32) 537 <| z_cki (0 : Int32) 537 <| z_let (z_u σ26 1 0 ((σ26 1 0) + (1 : Int32))) fun σ29 => z_cki (0 : Int32) 537 <| z_b2 (f_X10_ends ((σ29 1 0) - (1 : Int32)) σ29) fun r33 σ32 => some (r33, σ32))) = (z_b2 (f_X10_ends (nI nc) m2) fun r33 σ32 => some (r33, σ32)) := by
              rw [if_neg (show ¬ nI nc = 20 from nI_ne (b := 20) (by omega) (by omega) h20'), n1, p_b1, k_0, p_let, e1, hC.1.1]
              have e2 : (10 : Int32) + 4 * nI nc = nI (10 + 4 * nc) := by rw [zl_10, zl_4, pk_mul, nI_add]
              have e3 : nI (10 + 4 * nc) + (0 : Int32) = nI (10 + 4 * nc + 0) := by rw [Int32.add_zero]; rfl
              have e4 : nI (10 + 4 * nc) + (1 : Int32) = nI (10 + 4 * nc + 1) := nI_1 _
              have e5 : nI (10 + 4 * nc) + (2 : Int32) = nI (10 + 4 * nc + 2) := by rw [zl_2, nI_add]
              have e6 : nI (10 + 4 * nc) + (3 : Int32) = nI (10 + 4 * nc + 3) := by rw [zl_3, nI_add]
              rw [e2, e3, e4, e5, e6, p_cki (by omega) (by omega), p_let, p_cki (by omega) (by omega), p_let, p_cki (by omega) (by omega), p_let, p_cki (by omega) (by omega), p_let, k_0, k_0, p_let, k_0, p_cl (by omega), p_cl (by omega), p_cl (by omega), p_cl (by omega)]
              rw [u_n (show 0 ≠ 10 + 4 * nc + 3 by omega), u_n (show 0 ≠ 10 + 4 * nc + 2 by omega), u_n (show 0 ≠ 10 + 4 * nc + 1 by omega), u_n (show 0 ≠ 10 + 4 * nc + 0 by omega), e1, hC.1.1, nI_1, u_i, nI_pred, ← hm2]
            have hn : ∀ i, i ≠ 0 → (i < 10 + 4 * nc ∨ 10 + 4 * nc + 4 ≤ i) → m2 1 i = m 1 i := fun i h1 h2 => by rw [hm2, u_n h1, u_n (by omega), u_n (by omega), u_n (by omega), u_n (by omega), e1]
            have g0 : m2 1 (10 + 4 * nc + 0) = nI f := by rw [hm2, u_n (by omega), u_n (by omega), u_n (by omega), u_n (by omega), u_i]
            have g1 : m2 1 (10 + 4 * nc + 1) = b := by rw [hm2, u_n (by omega), u_n (by omega), u_n (by omega), u_i]
            have g2 : m2 1 (10 + 4 * nc + 2) = c := by rw [hm2, u_n (by omega), u_n (by omega), u_i]
            have g3 : m2 1 (10 + 4 * nc + 3) = d := by rw [hm2, u_n (by omega), u_i]
            obtain ⟨ah', hah'⟩ : ∃ g : Nat → Nat, g = fun j => if j = nc then f else ah j := ⟨_, rfl⟩
            have aho : ∀ j, j ≠ nc → ah' j = ah j := fun j hj => by rw [hah']; exact if_neg hj
            have ahn : ah' nc = f := by rw [hah']; exact if_pos rfl
            have hA' : tA ah' (nc + 1) := by
              intro k a b
              by_cases hk : k = nc
              · subst hk; rw [ahn]; exact hf
              · rw [aho k hk]; exact hAh k a (by omega)
            have hA0' : tA ah' nc := fun k a b => hA' k a (by omega)
            have hO' : tO ah' nc = tO ah nc := tO_congr hAh (fun k a b => aho k (by omega))
            have tDo : ∀ k, k < nc → tD ah' k = tD ah k := fun k hk => tf_congr k (fun j a b => ⟨hAh j a (by omega), aho j (by omega), rfl⟩)
            have hd01 := p_01.mp hd
            obtain ⟨y9, hy9⟩ : ∃ y : Int32, y = if d = nI 1 then nI 0 else T 9 f := ⟨_, rfl⟩
            obtain ⟨T1, hT1⟩ : ∃ s, s = z_u (z_u (z_u (z_u (z_u (z_u (z_u T 3 nc (nI f)) 4 nc b) 5 nc c) 6 nc d) 7 nc (T 7 f + 1)) 8 nc (T 8 f + b)) 9 nc y9 := ⟨_, rfl⟩
            have hTo : ∀ q j, q < 3 ∨ 9 < q ∨ j ≠ nc → T1 q j = T q j := by
              intro q j hq
              rw [hT1]
              by_cases hq1 : q < 3 ∨ 9 < q
              · simp (disch := omega) only [u_o]
              · have hj : j ≠ nc := by omega
                have : q = 3 ∨ q = 4 ∨ q = 5 ∨ q = 6 ∨ q = 7 ∨ q = 8 ∨ q = 9 := by omega
                rcases this with rfl | rfl | rfl | rfl | rfl | rfl | rfl <;> simp (disch := omega) only [u_o, u_j]
            have v3 : T1 3 nc = nI f := by rw [hT1]; simp (disch := omega) only [u_o, u_i]
            have v4 : T1 4 nc = b := by rw [hT1]; simp (disch := omega) only [u_o, u_i]
            have v5 : T1 5 nc = c := by rw [hT1]; simp (disch := omega) only [u_o, u_i]
            have v6 : T1 6 nc = d := by rw [hT1]; simp (disch := omega) only [u_o, u_i]
            have v7 : T1 7 nc = T 7 f + 1 := by rw [hT1]; simp (disch := omega) only [u_o, u_i]
            have v8 : T1 8 nc = T 8 f + b := by rw [hT1]; simp (disch := omega) only [u_o, u_i]
            have v9 : T1 9 nc = y9 := by rw [hT1]; simp (disch := omega) only [u_o, u_i]
            obtain ⟨T2, q1, q2, q3⟩ := x_putInOrder (T := T1) (c := nc) (ah := ah') hA' h1c hlt (by rw [hTo 2 0 (by omega)]; exact hC.2.1) (by rw [v3, ahn]) (fun k hk => by rw [hTo 7 k (by omega), tDo k hk]; exact (hC.2.2.1 k hk).2.2.2.2.1) (fun k hk => by rw [hTo 10 k (by omega), hO']; exact hC.2.2.2 k hk)
            obtain ⟨T3, hT3⟩ : ∃ s, s = z_u T2 2 0 (nI (nc + 1)) := ⟨_, rfl⟩
            have hg : f_X6_addCorner (nI f) b c d T = some (nI nc, T3) := by
              unfold f_X6_addCorner
              rw [x_hasC hC.2.1 h20, p_b1, p_tbT ha0, w_tb, p_b1, p_tbT hb, w_tb, p_b1, p_tbT hc, w_tb, p_b1, p_tbT hd, hC.2.1, if_pos (show nI nc < 20 from nI_lt (b := 20) hlt (by omega))]
              have hadd : f_X4_add (nI f) b c d T = some (nI nc, T3) := by
                unfold f_X4_add
                simp (disch := omega) only [p_let, hC.2.1, p_cki, p_cl, u_o, u_j]
                have fin : ∀ y : Int32, y = y9 → (z_b1 (f_X4_putInOrder (nI nc) (z_u (z_u (z_u (z_u (z_u (z_u (z_u T 3 nc (nI f)) 4 nc b) 5 nc c) 6 nc d) 7 nc (T 7 f + 1)) 8 nc (T 8 f + b)) 9 nc y)) fun σ21 => some (nI nc, z_u σ21 2 0 (σ21 2 0 + 1))) = some (nI nc, T3) := by
                  rintro y rfl
                  rw [← hT1, q1, p_b1, q2 2 (by omega), hTo 2 0 (by omega), hC.2.1, nI_1, ← hT3]
                by_cases hd1 : d = 1
                · rw [if_pos hd1]
                  exact fin _ (by rw [hy9, if_pos (show d = nI 1 from hd1)]; rfl)
                · rw [if_neg hd1]
                  exact fin _ (by rw [hy9, if_neg (show ¬ d = nI 1 from hd1)])
              rw [hadd, p_b2]
            have hTq : ∀ q j, (q < 2 ∨ 10 < q ∨ (2 < q ∧ q < 10 ∧ j ≠ nc)) → T3 q j = T q j := fun q j hq => by rw [hT3, u_o (by omega), q2 q (by omega), hTo q j (by omega)]
            have hTv : ∀ q j, 3 ≤ q → q ≤ 9 → T3 q j = T1 q j := fun q j a b => by rw [hT3, u_o (by omega), q2 q (by omega)]
            have disN : ∀ k, k < nc → rDis (m2 1) ah' k = rDis (m 1) ah k := by
              intro k hk
              refine tf_congr k (fun j a b => ⟨hAh j a (by omega), aho j (by omega), ?_⟩)
              funext e
              rw [hn _ (by omega) (by omega)]
            have crtN : ∀ k, k < nc → rCrt (m2 1) ah' k = rCrt (m 1) ah k := by
              intro k hk
              refine tf_congr k (fun j a b => ⟨hAh j a (by omega), aho j (by omega), ?_⟩)
              funext e
              rw [hn _ (by omega) (by omega)]
            have hRT : RT T3 (m2 1) (nc + 1) nh nk np dy ah' pl := by
              refine ⟨⟨⟨by rw [hm2, u_i], by omega, by omega, hA', fun k a b => ?_⟩, by rw [hT3, u_i], fun k hk => ?_, fun k hk => by rw [hT3, u_o (by omega)]; exact q3 k hk⟩, ⟨⟨by rw [hn 1 (by omega) (by omega)]; exact hH.1.1, h24, fun j hj => ⟨by rw [hn _ (by omega) (by omega)]; exact (hH.1.2.2 j hj).1, by have := (hH.1.2.2 j hj).2; omega⟩⟩, by rw [hTq 11 0 (by omega)]; exact hH.2.1, fun j hj => rH1_congr (hH.2.2 j hj) (fun q a b => hTq q j (by omega)) (fun w hw => hn _ (by omega) (by omega))⟩, fun k hk => ?_,
                rK_congr hK (hn 2 (by omega) (by omega)) (hTq 30 0 (by omega)) (fun q x y j hj => hTq q j (by omega)) (fun i h1 h2 => hn i (by omega) (by omega)), rP_congr hP (hn 3 (by omega) (by omega)) (hTq 26 0 (by omega)) (fun q x y j hj => hTq q j (by omega)) (fun i h1 h2 => hn i (by omega) (by omega)),
                rS_congr hS (hTq 0 0 (by omega)) (hTq 0 1 (by omega)) (hTq 0 2 (by omega)) (hn 4 (by omega) (by omega)) (hn 5 (by omega) (by omega)) (hn 6 (by omega) (by omega)), rA_congr hA (fun j _ => hTq 1 j (by omega)) (fun w h1 h2 => sI_congr (fun i hi => hn _ (by omega) (by omega))), fun i h1 h2 => by rw [hn i (by omega) (by omega)]; exact z1 i h1 h2, fun i h1 h2 => by rw [hn i (by omega) (by omega)]; exact z2 i h1 h2⟩
              · by_cases hk : k = nc
                · subst hk; rw [ahn]; exact g0
                · rw [aho k hk, hn _ (by omega) (by omega)]; exact hC.1.2.2.2.2 k a (by omega)
              · by_cases hkn : k = nc
                · subst hkn
                  have hfC := hC.2.2.1 f hf
                  refine ⟨fun _ => ?_, ?_, ?_, ?_, ?_, ?_, ?_, ?_⟩
                  · rw [hTv 3 k (by omega) (by omega), v3, g0]
                  · rw [hTv 4 k (by omega) (by omega), v4, g1]
                  · rw [hTv 5 k (by omega) (by omega), v5, g2]
                  · rw [hTv 6 k (by omega) (by omega), v6, g3]
                  · rw [hTv 7 k (by omega) (by omega), v7, hfC.2.2.2.2.1, tD_s hA' (by omega) (by omega), ahn, tDo f hf, nI_1]
                  · rw [hTv 8 k (by omega) (by omega), v8, hfC.2.2.2.2.2.1, tf_dis hA' (by omega) (by omega), ahn, disN f hf, g1]
                  · rw [hTv 9 k (by omega) (by omega), v9, hy9, tf_crt hA' (by omega) (by omega), ahn, crtN f hf, g3, hfC.2.2.2.2.2.2.1]
                  · rw [g3]
                    rcases hd01 with rfl | rfl
                    · exact Or.inl rfl
                    · exact Or.inr rfl
                · have hkl : k < nc := by omega
                  have h4 := rC1_congr (T' := T3) (hC.2.2.1 k hkl) (fun q a b => hTq q k (by omega))
                  unfold rC1 at h4 ⊢
                  rw [hn _ (by omega) (by omega), hn _ (by omega) (by omega), hn _ (by omega) (by omega), hn _ (by omega) (by omega), disN k hkl, crtN k hkl, tDo k hkl]
                  exact h4
              · rw [hT3, u_o (by omega), q2 25 (by omega), hTo 25 k (by omega), hO k hk]
                have e9 : hL (tO ah' (nc + 1)) pl nh (nc + 1) = hL (tO ah nc) pl nh nc := by
                  rw [tO_s h1c, hO']
                  exact hL_ins tE_le (fun h hh => by have := (hH.1.2.2 h hh).2; omega)
                unfold tR
                rw [e9]
            obtain ⟨x', m', p1, p2, p3⟩ := op2_RX hR0 (g := f_X6_addCorner (nI f) b c d) (by rw [← hTe]; exact hg) (m1 := m1) (m2 := m2) n2 n3 (by rw [hm2]; exact ((frM.u.trans frM.u).trans (frM.u.trans frM.u)).trans frM.u) ⟨nc + 1, nh, nk, np, dy, ah', pl, hRT⟩
            exact ⟨_, x', m', p1, hmod.trans p2, p3⟩
        · rw [p_tbF hd]
          refine err (-1) (by decide) ?_
          unfold f_X6_addCorner
          rw [x_hasC hC.2.1 h20, p_b1, p_tbT ha, w_tb, p_b1, p_tbT hb, w_tb, p_b1, p_tbT hc, w_tb, p_b1, p_tbF hd]
      · rw [p_tbF hc]
        refine err (-1) (by decide) ?_
        unfold f_X6_addCorner
        rw [x_hasC hC.2.1 h20, p_b1, p_tbT ha, w_tb, p_b1, p_tbT hb, w_tb, p_b1, p_tbF hc]
    · rw [p_tbF hb]
      refine err (-1) (by decide) ?_
      unfold f_X6_addCorner
      rw [x_hasC hC.2.1 h20, p_b1, p_tbT ha, w_tb, p_b1, p_tbF hb]
  · rw [p_tbF ha]
    refine err (-1) (by decide) ?_
    unfold f_X6_addCorner
    rw [x_hasC hC.2.1 h20, p_b1, p_tbF ha]
