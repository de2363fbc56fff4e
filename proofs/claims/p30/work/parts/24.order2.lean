/-! THE PURE PART. 12: the class puts a corner into its order, and its houses in order -/
theorem x_putInOrder {T : z_S} {c : Nat} {ah : Nat → Nat} (hA : tA ah (c + 1)) (hc1 : 1 ≤ c) (hc : c < 20) (h2 : T 2 0 = nI c) (h3 : T 3 c = nI (ah c)) (h7 : ∀ k, k < c → T 7 k = nI (tD ah k)) (h10 : ∀ k, k < c → T 10 k = nI (tO ah c k)) :
    ∃ T' : z_S, f_X4_putInOrder (nI c) T = some T' ∧ (∀ a, a ≠ 10 → T' a = T a) ∧ ∀ k, k < c + 1 → T' 10 k = nI (tO ah (c + 1) k) := by
  have hAc : tA ah c := fun k a b => hA k a (by omega)
  have hJ := tO_J hc1 hAc
  have hfc : ah c < c := hA c hc1 (by omega)
  obtain ⟨p, e, hf, hp, he, hd1, hd2, hE⟩ := tJ_ex hAc hJ (f := ah c) hfc
  have hov : ∀ q, q < c → tO ah c q < c := hJ.1
  have hDb : ∀ q, q < c → tD ah q < 2 ^ 31 := by
    intro q hq
    have h0 : tB ah q 0 := by
      have : ∀ x, x < c → tB ah x 0 := by
        intro x
        induction x using Nat.strongRecOn with
        | _ x ih =>
          intro hx
          by_cases x0 : x = 0
          · subst x0; exact tB_0.mpr rfl
          · exact (tB_s hAc (by omega) hx).mpr (Or.inr (ih (ah x) (hAc x (by omega) hx) (by have := hAc x (by omega) hx; omega)))
      exact this q hq
    have : ∀ x, x < c → tD ah x ≤ x := by
      intro x
      induction x using Nat.strongRecOn with
      | _ x ih =>
        intro hx
        by_cases x0 : x = 0
        · subst x0; exact Nat.le_refl _
        · rw [tD_s hAc (by omega) hx]
          have a1 := hAc x (by omega) hx
          have := ih (ah x) a1 (by omega)
          omega
    have := this q hq
    omega
  -- the shifting
  have shift : ∃ T' : z_S, z_lp2 (lb_X4_putInOrder_76 (nI c) (nI e)) z_Fu (nI c) T = some T' ∧ (∀ a, a ≠ 10 → T' a = T a) ∧ ∀ k, k < c + 1 → T' 10 k = nI (tO ah (c + 1) k) := by
    refine p_ex2 (fun o => ∃ T' : z_S, o = some T' ∧ (∀ a, a ≠ 10 → T' a = T a) ∧ ∀ k, k < c + 1 → T' 10 k = nI (tO ah (c + 1) k)) (fun i y s => y = nI (c - i) ∧ (∀ a, a ≠ 10 → s a = T a) ∧ ∀ k, k < c + 1 → k ≠ c - i → s 10 k = if k < c - i then nI (tO ah c k) else nI (tO ah c (k - 1))) (c - e) (by omega)
      ⟨rfl, fun _ _ => rfl, fun k a b => by rw [if_pos (by omega)]; exact h10 k (by omega)⟩ ?_ ?_
    · rintro i y s hi ⟨rfl, ho, hs⟩
      left
      obtain ⟨d, hd⟩ : ∃ d, c - i = d + 1 := ⟨c - i - 1, by omega⟩
      have hcur := hs d (by omega) (by omega)
      rw [if_pos (by omega)] at hcur
      refine ⟨nI d, z_u s 10 (d + 1) (s 10 d), ⟨by rw [show c - (i + 1) = d by omega], fun a ha => by rw [u_o ha]; exact ho a ha, fun k a b => ?_⟩, fun kk => ?_⟩
      · by_cases hk : k = d + 1
        · subst hk
          rw [u_i, hcur, if_neg (by omega), Nat.add_sub_cancel]
        · rw [u_j hk, hs k a (by omega)]
          by_cases hk3 : k < d + 1
          · rw [if_pos (by omega), if_pos (by omega)]
          · rw [if_neg (by omega), if_neg (by omega)]
      · unfold lb_X4_putInOrder_76
        rw [hd, if_neg (nI_ge (by omega) (by omega)), zl_1, p_s1, p_cki (by omega) (by omega), p_cki (by omega) (by omega), p_let, p_let, p_m1, p_cl (by omega), p_cl (by omega)]
    · rintro y s ⟨rfl, ho, hs⟩
      rw [show c - (c - e) = e by omega] at hs ⊢
      refine ⟨some (z_u s 10 e (nI c)), ⟨_, rfl, fun a ha => by rw [u_o ha]; exact ho a ha, fun k a => ?_⟩, fun kk => ?_⟩
      · rw [tO_s hc1, hE]
        by_cases hke : k = e
        · subst hke
          rw [u_i, tI_eq]
        · rw [u_j hke, hs k a hke]
          by_cases hk3 : k < e
          · rw [if_pos hk3, tI_lt hk3]
          · rw [if_neg hk3, tI_gt (by omega)]
      · unfold lb_X4_putInOrder_76
        rw [if_pos (nI_le (Nat.le_refl _) (by omega)), ho 2 (by omega), h2, if_neg (nI_nlt he (by omega)), p_cki (by omega) (by omega), p_let, p_cl (by omega)]
  obtain ⟨T', s1, s2, s3⟩ := shift
  refine ⟨T', ?_, s2, s3⟩
  -- going on behind the corner ahead
  have walk2 : z_lp1 (lb_X4_putInOrder_36 (nI c) T (nI (ah c))) z_Fu (nI (p + 1)) = some T' := by
    have exit : ∀ kk, lb_X4_putInOrder_36 (nI c) T (nI (ah c)) kk (nI e) = some T' := by
      intro kk
      unfold lb_X4_putInOrder_36
      rw [p_let, p_let, h2]
      by_cases hec : e = c
      · rw [if_pos (nI_le (by omega) (by omega))]; exact s1
      · rw [if_neg (nI_ge (by omega) (by omega)), p_cki (by omega) (by omega), p_cl (by omega), h10 e (by omega)]
        have q1 := hov e (by omega)
        rw [p_cki (by omega) (by omega), p_cki (by omega) (by omega), p_cl (by omega), p_cl (by omega), h7 _ q1, h7 _ hfc]
        have q2 := hd2 (by omega)
        rw [hf] at q2
        rw [if_pos (nI_le q2 (hDb _ hfc))]
        exact s1
    refine p_run1 (fun i y => y = nI (p + 1 + i)) (e - (p + 1)) (by omega) rfl ?_ ?_
    · rintro i y hi rfl
      left
      refine ⟨_, rfl, fun kk => ?_⟩
      unfold lb_X4_putInOrder_36
      have q1 := hov (p + 1 + i) (by omega)
      have q2 := hd1 (p + 1 + i) (by omega) (by omega)
      rw [hf] at q2
      rw [p_let, h2, if_neg (nI_ge (by omega) (by omega)), p_cki (by omega) (by omega), p_cl (by omega), h10 _ (by omega), p_cki (by omega) (by omega), p_cki (by omega) (by omega), p_cl (by omega), p_cl (by omega), h7 _ q1, h7 _ hfc, if_neg (nI_ge q2 (hDb _ q1)), p_let, zl_1, nI_add]
      rfl
    · rintro y rfl kk
      rw [show p + 1 + (e - (p + 1)) = e by omega]
      exact exit kk
  unfold f_X4_putInOrder
  rw [p_cki (by omega) (by omega), p_let, p_cl (by omega), h3, zl_0]
  refine p_run1 (fun i y => y = nI i) p (by omega) rfl ?_ ?_
  · rintro i y hi rfl
    left
    refine ⟨_, rfl, fun kk => ?_⟩
    unfold lb_X4_putInOrder_9
    have q1 : tO ah c i ≠ ah c := fun q => by
      have := hJ.2.2.1 i p (by omega) (by omega) (q.trans hf.symm)
      omega
    have q2 := hov i (by omega)
    rw [p_let, h2, if_neg (nI_ge (by omega) (by omega)), p_cki (by omega) (by omega), p_cl (by omega), h10 i (by omega), if_neg (nI_ne (by omega) (by omega) q1), p_let, zl_1, nI_add]
  · rintro y rfl kk
    unfold lb_X4_putInOrder_9
    rw [p_let, h2, if_neg (nI_ge (by omega) (by omega)), p_cki (by omega) (by omega), p_cl (by omega), h10 p (by omega), hf, if_pos rfl]
    dsimp only
    rw [p_let, zl_1, nI_add]
    exact walk2
/-- all houses at one corner come to the class's row -/
theorem x_rowAt {T : z_S} {nh : Nat} {pl o : Nat → Nat} (h11 : T 11 0 = nI nh) (h24 : nh ≤ 24) (hp : ∀ h, h < nh → T 12 h = nI (pl h)) {k : Nat} (hk : k < 20) (ho : T 10 k = nI (o k)) (hob : o k < 2 ^ 31) (hpl : ∀ h, h < nh → pl h < 2 ^ 31) {l : List Nat} (hl : lH T 25 l) (hlen : ∀ m, m ≤ nh → (l ++ hF pl (o k) m).length ≤ nh) :
    ∃ T' : z_S, ((∀ a, a ≠ 25 → T' a = T a) ∧ lH T' 25 (l ++ hF pl (o k) nh)) ∧ ∀ k8 : Int32 → Int32 → z_S → Option z_S, z_lp3 (lb_X2_makeOrder_15 k8 (nI k)) z_Fu (nI l.length) (nI 0) T = k8 (nI (l ++ hF pl (o k) nh).length) (nI (k + 1)) T' := by
  have r := p_gen3 (K := Int32 → Int32 → z_S → Option z_S) (body := fun k8 => lb_X2_makeOrder_15 k8 (nI k)) (x1 := nI l.length) (x2 := nI 0) (x3 := T)
    (fun r => ∃ T' : z_S, ((∀ a, a ≠ 25 → T' a = T a) ∧ lH T' 25 (l ++ hF pl (o k) nh)) ∧ r = fun k8 => k8 (nI (l ++ hF pl (o k) nh).length) (nI (k + 1)) T')
    (fun i x y s => x = nI (l ++ hF pl (o k) i).length ∧ y = nI i ∧ (∀ a, a ≠ 25 → s a = T a) ∧ lH s 25 (l ++ hF pl (o k) i)) nh (by omega)
    ⟨by simp [hF], rfl, fun _ _ => rfl, by simpa [hF] using hl⟩
    (by
      rintro i x y s hi ⟨rfl, rfl, hk7, hs⟩
      left
      have hpi := hp i hi
      have hpb := hpl i hi
      have hlen2 := hlen i (by omega)
      have hlen3 := hlen (i + 1) (by omega)
      by_cases e : pl i = o k
      · have hF1 : hF pl (o k) (i + 1) = hF pl (o k) i ++ [i] := by simp [hF, e]
        refine ⟨_, _, z_u s 25 (l ++ hF pl (o k) i).length (nI i), ⟨rfl, rfl, fun a ha => by rw [u_o ha]; exact hk7 a ha, ?_⟩, fun k8 kk => ?_⟩
        · rw [hF1, ← List.append_assoc]
          exact lH_put hs
        · rw [hF1, ← List.append_assoc, List.length_append] at hlen3
          simp only [List.length_singleton] at hlen3
          unfold lb_X2_makeOrder_15
          rw [hk7 11 (by omega), h11, if_neg (nI_ge hi (by omega)), p_cki (by omega) (by omega), p_cl (by omega), hk7 12 (by omega), hpi, p_cki (by omega) (by omega), p_let, p_cl (by omega), hk7 10 (by omega), ho, if_pos (by rw [e]), if_neg (nI_ge (by omega) (by omega)), p_cki (by omega) (by omega), p_let, p_let]
          dsimp only
          rw [p_let, p_cl (by omega), zl_1, nI_add, nI_add, hF1, ← List.append_assoc]
          simp only [List.length_append, List.length_singleton]
      · have hF1 : hF pl (o k) (i + 1) = hF pl (o k) i := by simp [hF, e]
        refine ⟨_, _, s, ⟨rfl, rfl, hk7, by rw [hF1]; exact hs⟩, fun k8 kk => ?_⟩
        unfold lb_X2_makeOrder_15
        rw [hk7 11 (by omega), h11, if_neg (nI_ge hi (by omega)), p_cki (by omega) (by omega), p_cl (by omega), hk7 12 (by omega), hpi, p_cki (by omega) (by omega), p_let, p_cl (by omega), hk7 10 (by omega), ho, if_neg (nI_ne (by omega) (by omega) e)]
        dsimp only
        rw [p_let, zl_1, nI_add, hF1])
    (by
      rintro x y s ⟨rfl, rfl, hk7, hs⟩
      refine ⟨_, ⟨s, ⟨hk7, hs⟩, rfl⟩, fun k8 kk => ?_⟩
      unfold lb_X2_makeOrder_15
      rw [hk7 11 (by omega), h11, if_pos (nI_le (Nat.le_refl _) (by omega)), p_let, zl_1, nI_add])
  obtain ⟨r, ⟨T', a, rfl⟩, hr⟩ := r
  exact ⟨T', a, hr⟩
theorem x_makeOrder {T : z_S} {nc nh : Nat} {ah pl : Nat → Nat} (hA : tA ah nc) (hc1 : 1 ≤ nc) (h20 : nc ≤ 20) (h2 : T 2 0 = nI nc) (h10 : ∀ k, k < nc → T 10 k = nI (tO ah nc k)) (h11 : T 11 0 = nI nh) (h24 : nh ≤ 24) (hp : ∀ h, h < nh → T 12 h = nI (pl h) ∧ pl h < nc) :
    ∃ T' : z_S, f_X2_makeOrder T = some T' ∧ (∀ a, a ≠ 25 → T' a = T a) ∧ lH T' 25 (hL (tO ah nc) pl nh nc) := by
  have hJ := tO_J hc1 hA
  have hlen : ∀ k m, k < nc → m ≤ nh → (hL (tO ah nc) pl nh k ++ hF pl (tO ah nc k) m).length ≤ nh := by
    intro k m hk hm
    have e1 : (hF pl (tO ah nc k) m).length ≤ (hF pl (tO ah nc k) nh).length := by
      refine l_pigeon hF_nodup (fun a ha => ?_)
      obtain ⟨q1, q2⟩ := hF_mem.mp ha
      exact hF_mem.mpr ⟨by omega, q2⟩
    have e2 : (hL (tO ah nc) pl nh (k + 1)).length ≤ nh := hL_len_le (fun p q a b e => hJ.2.2.1 p q (by omega) (by omega) e)
    simp only [hL, List.length_append] at e2 ⊢
    omega
  unfold f_X2_makeOrder
  rw [zl_0]
  refine p_ex3 (fun r => ∃ T' : z_S, r = some T' ∧ (∀ a, a ≠ 25 → T' a = T a) ∧ lH T' 25 (hL (tO ah nc) pl nh nc)) (fun i x y t => x = nI (hL (tO ah nc) pl nh i).length ∧ y = nI i ∧ (∀ a, a ≠ 25 → t a = T a) ∧ lH t 25 (hL (tO ah nc) pl nh i)) nc (by omega)
    ⟨rfl, rfl, fun _ _ => rfl, fun j hj => by simp [hL] at hj⟩ ?_ ?_
  · rintro i x y t hi ⟨rfl, rfl, ht, hl⟩
    left
    have hob := hJ.1 i hi
    obtain ⟨T', ⟨a, b⟩, e⟩ := x_rowAt (T := t) (nh := nh) (pl := pl) (o := tO ah nc) (by rw [ht 11 (by omega)]; exact h11) h24 (fun h hh => by rw [ht 12 (by omega)]; exact (hp h hh).1) (k := i) (by omega) (by rw [ht 10 (by omega)]; exact h10 i hi) (by omega) (fun h hh2 => by have := (hp h hh2).2; omega) hl (fun m hm => hlen i m hi hm)
    refine ⟨_, _, T', ⟨rfl, rfl, fun q hq => (a q hq).trans (ht q hq), b⟩, fun kk => ?_⟩
    unfold lb_X2_makeOrder_4
    rw [ht 2 (by omega), h2, if_neg (nI_ge hi (by omega)), zl_0]
    exact e kk
  · rintro x y t ⟨rfl, rfl, ht, hl⟩
    refine ⟨some t, ⟨t, rfl, ht, hl⟩, fun kk => ?_⟩
    unfold lb_X2_makeOrder_4
    rw [ht 2 (by omega), h2, if_pos (nI_le (Nat.le_refl _) (by omega))]

/-! a house, a corner -/
theorem sI_ext {f g : Nat → Int32} {n : Nat} (h : ∀ i, i < n → f i = g i) (h0 : f n = 0) : sI f (n + 1) = sI g n := by
  simp only [sI]
  rw [h0, Int32.add_zero, sI_congr h]
theorem rA_congr' {T T' : z_S} {n n' : Nat → Int32} {nh nh' : Nat} (h : rA T n nh) (hT : ∀ j, j < 6 → T' 1 j = T 1 j) (hn : ∀ w, 6 ≤ w → w ≤ 10 → rSum n' nh' w = rSum n nh w) : rA T' n' nh' := by
  unfold rA at h ⊢
  rw [hT 0 (by omega), hT 1 (by omega), hT 2 (by omega), hT 3 (by omega), hT 4 (by omega), hT 5 (by omega), hn 6 (by omega) (by omega), hn 7 (by omega) (by omega), hn 8 (by omega) (by omega), hn 9 (by omega) (by omega), hn 10 (by omega) (by omega)]
  exact h
theorem ff_house {x m : z_S} (hR : RX x m) (a b c : Int32) : ∃ r x' m', f_X9_house a b c x = some (r, x') ∧ f_X10_house a b c m = some (r, m') ∧ RX x' m' := by
  have hR0 := hR
  obtain ⟨⟨nc, nh, nk, np, dy, ah, pl, h⟩, -⟩ := hR
  obtain ⟨hC, hH, hO, hK, hP, hS, hA, z1, z2⟩ := h
  have h20 := hC.1.2.2.1
  have h24 := hH.1.2.1
  have h3 := hK.2.1
  have h30 := hP.2.1
  obtain ⟨m1, n1, n2, n3⟩ := m_notes' m
  have e1 : m1 1 = m 1 := n2 1 (by omega)
  obtain ⟨T, hTe⟩ : ∃ T, T = fun q => x (zi_X_T q) := ⟨_, rfl⟩
  rw [← hTe] at hC hH hO hK hP hS hA
  have err : ∀ z : Int32, z < 0 → f_X6_addHouse a b c T = some (z, T) → ∃ r x' m', f_X9_house a b c x = some (r, x') ∧ some (z, m) = some (r, m') ∧ RX x' m' := by
    intro z hz hg
    obtain ⟨x', q1, q2⟩ := op0_RX hR0 (r := z) (g := f_X6_addHouse a b c) hz (by rw [← hTe]; exact hg)
    exact ⟨z, x', m, q1, rfl, q2⟩
  unfold f_X10_house
  rw [m_isCorner hC.1.1 h20, p_b1]
  by_cases ha : iX a nc
  · rw [p_tbT ha, m_tb, p_b1]
    by_cases hb : 1 ≤ b ∧ b ≤ 5
    · rw [p_tbT hb, m_tb, p_b1]
      by_cases hc : 0 ≤ c ∧ c ≤ 500
      · rw [p_tbT hc, k_1, c_1, hH.1.1]
        by_cases h24' : nh = 24
        · rw [if_pos (by rw [h24']; rfl)]
          refine err (-3) (by decide) ?_
          unfold f_X6_addHouse
          rw [x_hasC hC.2.1 h20, p_b1, p_tbT ha, w_tb, p_b1, p_tbT hb, w_tb, p_b1, p_tbT hc, hH.2.1, if_neg (by rw [h24']; decide)]
        · have hlt : nh < 24 := by omega
          rw [if_neg (show ¬ nI nh = 24 from nI_ne (b := 24) (by omega) (by omega) h24'), n1, p_b1, k_1, p_let, e1, hH.1.1, zl_0, m_lays (by omega), p_b1, zl_1, m_lays (by omega), p_b1, zl_2, m_lays (by omega), p_b1, zl_3, m_lays (by omega), p_b1]
          rw [show z_cki (nI 1) 537 = z_cki (1 : Int32) 537 from rfl, k_1, k_1, p_let]
          try simp only [c_1, show (nI 1).toNatClampNeg = 1 from rfl]
          rw [u_n (show 1 ≠ 90 + 14 * nh + 3 by omega), u_n (show 1 ≠ 90 + 14 * nh + 2 by omega), u_n (show 1 ≠ 90 + 14 * nh + 1 by omega), u_n (show 1 ≠ 90 + 14 * nh + 0 by omega), e1, hH.1.1, nI_add]
          have ha0 := ha
          obtain ⟨ka, hka, rfl⟩ := ha
          obtain ⟨w, hw, rfl⟩ := p_rng (p := b) (H := 5) (hi := 5) rfl (by omega) (by exact Int32.le_trans (by decide) hb.1) hb.2
          have hw1 : 1 ≤ w := (nI_leI (a := 1) (by omega) (by omega)).mp hb.1
          obtain ⟨m2, hm2⟩ : ∃ s, s = z_u (z_u (z_u (z_u (z_u m1 1 (90 + 14 * nh + 0) (nI ka)) 1 (90 + 14 * nh + 1) (nI w)) 1 (90 + 14 * nh + 2) c) 1 (90 + 14 * nh + 3) (-1)) 1 1 (nI (nh + 1)) := ⟨_, rfl⟩
          rw [show -nI 1 = (-1 : Int32) from rfl, ← hm2]
          have hn : ∀ i, i ≠ 1 → (i < 90 + 14 * nh ∨ 90 + 14 * nh + 4 ≤ i) → m2 1 i = m 1 i := fun i h1 h2 => by rw [hm2, u_n h1, u_n (by omega), u_n (by omega), u_n (by omega), u_n (by omega), e1]
          have g0 : m2 1 (90 + 14 * nh + 0) = nI ka := by rw [hm2, u_n (by omega), u_n (by omega), u_n (by omega), u_n (by omega), u_i]
          have g1 : m2 1 (90 + 14 * nh + 1) = nI w := by rw [hm2, u_n (by omega), u_n (by omega), u_n (by omega), u_i]
          have g2 : m2 1 (90 + 14 * nh + 2) = c := by rw [hm2, u_n (by omega), u_n (by omega), u_i]
          have g3 : m2 1 (90 + 14 * nh + 3) = -1 := by rw [hm2, u_n (by omega), u_i]
          have gz : ∀ q, 4 ≤ q → q < 14 → m2 1 (90 + 14 * nh + q) = nI 0 := fun q a b => by rw [hn _ (by omega) (by omega)]; exact z1 _ (by omega) (by omega)
          obtain ⟨T1, hT1⟩ : ∃ s, s = z_u (z_u (z_u (z_u (z_u (z_u (z_u (z_u (z_u (z_u (z_u (z_u (z_u (z_u T 12 nh (nI ka)) 13 nh (nI w)) 14 nh c) 15 nh (-1)) 16 nh 0) 17 nh 0) 18 nh 0) 19 nh 0) 20 nh 0) 21 nh 0) 22 nh 0) 23 nh 0) 24 nh 0) 11 0 (nI (nh + 1)) := ⟨_, rfl⟩
          have hTo : ∀ q j, q < 11 ∨ 24 < q ∨ (11 < q ∧ j ≠ nh) → T1 q j = T q j := by
            intro q j hq
            rw [hT1]
            by_cases hq1 : q < 11 ∨ 24 < q
            · simp (disch := omega) only [u_o]
            · have hj : j ≠ nh := by omega
              rw [u_o (by omega)]
              have : q = 12 ∨ q = 13 ∨ q = 14 ∨ q = 15 ∨ q = 16 ∨ q = 17 ∨ q = 18 ∨ q = 19 ∨ q = 20 ∨ q = 21 ∨ q = 22 ∨ q = 23 ∨ q = 24 := by omega
              rcases this with rfl | rfl | rfl | rfl | rfl | rfl | rfl | rfl | rfl | rfl | rfl | rfl | rfl <;> simp (disch := omega) only [u_o, u_j]
          obtain ⟨pl', hpl'⟩ : ∃ f : Nat → Nat, f = fun j => if j = nh then ka else pl j := ⟨_, rfl⟩
          have hplo : ∀ j, j < nh → pl' j = pl j := fun j hj => by rw [hpl']; exact if_neg (by omega)
          have hpln : pl' nh = ka := by rw [hpl']; exact if_pos rfl
          have hmH : mH (m2 1) nc (nh + 1) pl' := by
            refine ⟨by rw [hm2, u_i], by omega, fun j hj => ?_⟩
            by_cases hjn : j = nh
            · subst hjn
              rw [hpln]; exact ⟨g0, hka⟩
            · rw [hplo j (by omega), hn _ (by omega) (by omega)]
              exact hH.1.2.2 j (by omega)
          have T12 : ∀ j, j < nh + 1 → T1 12 j = nI (pl' j) ∧ pl' j < nc := by
            intro j hj
            by_cases hjn : j = nh
            · subst hjn
              refine ⟨?_, by rw [hpln]; exact hka⟩
              rw [hpln, hT1]
              simp (disch := omega) only [u_o, u_i]
            · rw [hTo 12 j (by omega), hplo j (by omega)]
              exact ⟨(hH.2.2 j (by omega)).1.1.trans (hH.1.2.2 j (by omega)).1, (hH.1.2.2 j (by omega)).2⟩
          obtain ⟨T2, q1, q2, q3⟩ := x_makeOrder (T := T1) (nc := nc) (nh := nh + 1) (ah := ah) (pl := pl') hC.1.2.2.2.1 hC.1.2.1 h20 (by rw [hTo 2 0 (by omega)]; exact hC.2.1) (fun k hk => by rw [hTo 10 k (by omega)]; exact hC.2.2.2 k hk) (by rw [hT1, u_i]) (by omega) T12
          have hg : f_X6_addHouse (nI ka) (nI w) c T = some (nI nh, T2) := by
            unfold f_X6_addHouse
            rw [x_hasC hC.2.1 h20, p_b1, p_tbT ha0, w_tb, p_b1, p_tbT hb, w_tb, p_b1, p_tbT hc, hH.2.1, if_pos (show nI nh < 24 from nI_lt (b := 24) hlt (by omega))]
            unfold f_X2_add
            simp (disch := omega) only [p_let, hH.2.1, p_cki, p_cl, u_o, zl_1, nI_add]
            rw [← zl_1, ← hT1, q1, p_b1, p_b2]
          have hTq : ∀ q j, q < 11 ∨ 25 < q ∨ (11 < q ∧ q < 25 ∧ j ≠ nh) → T2 q j = T q j := fun q j hq => by rw [q2 q (by omega), hTo q j (by omega)]
          have hlen : (hL (tO ah nc) pl' (nh + 1) nc).length = nh + 1 := hL_len (fun p q a b e => (tO_J hC.1.2.1 hC.1.2.2.2.1).2.2.1 p q a b e) (fun j hj => by
            obtain ⟨p, hp1, hp2⟩ := (tO_J hC.1.2.1 hC.1.2.2.2.1).2.1 (pl' j) (T12 j hj).2
            exact ⟨p, hp1, hp2⟩)
          have hRT : RT T2 (m2 1) nc (nh + 1) nk np dy ah pl' := by
            refine ⟨rC_congr hC (hn 0 (by omega) (by omega)) (fun i h1 h2 => hn i (by omega) (by omega)) (hTq 2 0 (by omega)) (fun q x y j hj => hTq q j (by omega)), ⟨hmH, by rw [q2 11 (by omega), hT1, u_i], fun j hj => ?_⟩, fun j hj => q3 j (by rw [hlen]; exact hj),
              rK_congr hK (hn 2 (by omega) (by omega)) (hTq 30 0 (by omega)) (fun q x y j hj => hTq q j (by omega)) (fun i h1 h2 => hn i (by omega) (by omega)), rP_congr hP (hn 3 (by omega) (by omega)) (hTq 26 0 (by omega)) (fun q x y j hj => hTq q j (by omega)) (fun i h1 h2 => hn i (by omega) (by omega)),
              rS_congr hS (hTq 0 0 (by omega)) (hTq 0 1 (by omega)) (hTq 0 2 (by omega)) (hn 4 (by omega) (by omega)) (hn 5 (by omega) (by omega)) (hn 6 (by omega) (by omega)), ?_, fun i h1 h2 => by rw [hn i (by omega) (by omega)]; exact z1 i (by omega) h2, fun i h1 h2 => by rw [hn i (by omega) (by omega)]; exact z2 i h1 h2⟩
            · by_cases hjn : j = nh
              · subst hjn
                have f1 : ∀ q, q ≠ 25 → T2 q = T1 q := q2
                have v : ∀ q, 16 ≤ q → q ≤ 24 → T2 q j = nI 0 := by
                  intro q h1 h2
                  rw [f1 q (by omega), hT1]
                  have : q = 16 ∨ q = 17 ∨ q = 18 ∨ q = 19 ∨ q = 20 ∨ q = 21 ∨ q = 22 ∨ q = 23 ∨ q = 24 := by omega
                  rcases this with rfl | rfl | rfl | rfl | rfl | rfl | rfl | rfl | rfl <;> (simp (disch := omega) only [u_o, u_i]; rfl)
                refine ⟨⟨?_, ?_, ?_, ?_, ?_, ?_⟩, ⟨?_, ?_, ?_, ?_, ?_, ?_⟩, ⟨w, g1, hw1, hw⟩, Or.inl g3, ⟨0, 0, 0, 0, gz 6 (by omega) (by omega), gz 8 (by omega) (by omega), gz 9 (by omega) (by omega), gz 10 (by omega) (by omega), by omega⟩, ⟨0, gz 12 (by omega) (by omega), by omega⟩, ⟨0, v 24 (by omega) (by omega), by omega, Or.inl ⟨rfl, gz 13 (by omega) (by omega)⟩⟩⟩
                · rw [g0, f1 12 (by omega), hT1]; simp (disch := omega) only [u_o, u_i]
                · rw [g1, f1 13 (by omega), hT1]; simp (disch := omega) only [u_o, u_i]
                · rw [g2, f1 14 (by omega), hT1]; simp (disch := omega) only [u_o, u_i]
                · rw [g3, f1 15 (by omega), hT1]; simp (disch := omega) only [u_o, u_i]
                · rw [v 16 (by omega) (by omega), gz 4 (by omega) (by omega)]
                · rw [v 17 (by omega) (by omega), gz 5 (by omega) (by omega)]
                · rw [v 18 (by omega) (by omega), gz 6 (by omega) (by omega)]
                · rw [v 19 (by omega) (by omega), gz 7 (by omega) (by omega)]
                · rw [v 20 (by omega) (by omega), gz 8 (by omega) (by omega), gz 9 (by omega) (by omega)]; rfl
                · rw [v 21 (by omega) (by omega), gz 10 (by omega) (by omega)]
                · rw [v 22 (by omega) (by omega), gz 11 (by omega) (by omega)]
                · rw [v 23 (by omega) (by omega), gz 12 (by omega) (by omega)]
              · exact rH1_congr (hH.2.2 j (by omega)) (fun q a b => hTq q j (by omega)) (fun w hw => hn _ (by omega) (by omega))
            · exact rA_congr' hA (fun j _ => hTq 1 j (by omega)) (fun w h1 h2 => sI_ext (fun i hi => hn _ (by omega) (by omega)) ((gz w (by omega) (by omega)).trans nI_0))
          obtain ⟨x', m', p1, p2, p3⟩ := op2_RX hR0 (g := f_X6_addHouse (nI ka) (nI w) c) (by rw [← hTe]; exact hg) (m1 := m1) (m2 := m2) n2 n3 (by rw [hm2]; exact ((frM.u.trans frM.u).trans (frM.u.trans frM.u)).trans frM.u) ⟨nc, nh + 1, nk, np, dy, ah, pl', hRT⟩
          exact ⟨_, x', m', p1, p2, p3⟩
      · rw [p_tbF hc]
        refine err (-1) (by decide) ?_
        unfold f_X6_addHouse
        rw [x_hasC hC.2.1 h20, p_b1, p_tbT ha, w_tb, p_b1, p_tbT hb, w_tb, p_b1, p_tbF hc]
    · rw [p_tbF hb]
      refine err (-1) (by decide) ?_
      unfold f_X6_addHouse
      rw [x_hasC hC.2.1 h20, p_b1, p_tbT ha, w_tb, p_b1, p_tbF hb]
  · rw [p_tbF ha]
    refine err (-1) (by decide) ?_
    unfold f_X6_addHouse
    rw [x_hasC hC.2.1 h20, p_b1, p_tbF ha]
