/-! THE PURE PART. 27: tips, and a whole day of the class -/
def tpv (Y : Nat → Int32) (h : Nat) : Int32 := if Y (90 + 14 * h + 12) = 0 then Y (90 + 14 * h + 2) else if Y (90 + 14 * h + 12) = 1 then Y (90 + 14 * h + 2) / 2 else 0
noncomputable def tpR (Y : Nat → Int32) (h : Nat) : Nat → Int32 := cif (Y (90 + 14 * h + 13) = 1 ∧ ¬ Y (90 + 14 * h + 3) = -1) (un Y (426 + 7 * (Y (90 + 14 * h + 3)).toNatClampNeg + 5) (Y (426 + 7 * (Y (90 + 14 * h + 3)).toNatClampNeg + 5) + tpv Y h)) Y
noncomputable def tpP (Y : Nat → Int32) : Nat → Nat → Int32
  | 0 => Y
  | i + 1 => tpR (tpP Y i) i
/-- M is P, but that the first i houses begin a new week -/
def rsW (i : Nat) (P M : Nat → Int32) : Prop := (∀ h, h < i → M (90 + 14 * h + 12) = 0 ∧ M (90 + 14 * h + 13) = 0) ∧ ∀ j, (∀ h, h < i → j ≠ 90 + 14 * h + 12 ∧ j ≠ 90 + 14 * h + 13) → M j = P j
section TIPS
variable {T T' : z_S} {Y Y' : Nat → Int32} {np nc nh nk dy : Nat} {ah pl : Nat → Nat}
theorem RQ.tip {c : Nat} (h : RQ T Y nc nh nk np dy ah pl) (hc : c < nk) (hT : ∀ q, q < 38 → ∀ j, ¬ (q = 36 ∧ j = c) → T' q j = T q j) (hn : ∀ i, i ≠ 426 + 7 * c + 5 → Y' i = Y i) (h5 : T' 36 c = Y' (426 + 7 * c + 5)) : RQ T' Y' nc nh nk np dy ah pl := by
  obtain ⟨a, b, o, k, p, s, g, z1, z2⟩ := h
  have h20 := a.1.2.2.1
  have h24 := b.1.2.1
  have hk3 := k.2.1
  have h30 := p.2.1
  refine ⟨rC_congr a (hn 0 (by omega)) (fun i h1 h2 => hn i (by omega)) (hT 2 (by omega) 0 (by omega)) (fun q h1 h2 j hj => hT q (by omega) j (by omega)), rH_congr b (hn 1 (by omega)) (hT 11 (by omega) 0 (by omega)) (fun i h1 h2 => hn i (by omega)) (fun q h1 h2 j hj => hT q (by omega) j (by omega)), fun j hj => by rw [hT 25 (by omega) j (by omega)]; exact o j hj,
    ⟨by rw [hn 2 (by omega)]; exact k.1, hk3, by rw [hT 30 (by omega) 0 (by omega)]; exact k.2.2.1, fun e he => ?_⟩, rP_congr p (hn 3 (by omega)) (hT 26 (by omega) 0 (by omega)) (fun q h1 h2 j hj => hT q (by omega) j (by omega)) (fun i h1 h2 => hn i (by omega)),
    rS_congr s (hT 0 (by omega) 0 (by omega)) (hT 0 (by omega) 1 (by omega)) (hT 0 (by omega) 2 (by omega)) (hn 4 (by omega)) (hn 5 (by omega)) (hn 6 (by omega)), rA_congr g (fun j hj => hT 1 (by omega) j (by omega)) (fun w h1 h2 => sI_congr (fun i hi => hn _ (by omega))),
    fun i h1 h2 => by rw [hn i (by omega)]; exact z1 i h1 h2, fun i h1 h2 => by rw [hn i (by omega)]; exact z2 i h1 h2⟩
  by_cases q : e = c
  · subst q
    obtain ⟨b0, b1, b2, b3, b4, b5, b6, b7⟩ := k.2.2.2 e he
    refine ⟨?_, ?_, ?_, ?_, ?_, h5, ?_, ?_⟩
    · rw [hT 31 (by omega) e (by omega), hn _ (by omega)]; exact b0
    · rw [hT 32 (by omega) e (by omega), hn _ (by omega)]; exact b1
    · rw [hT 33 (by omega) e (by omega), hn _ (by omega)]; exact b2
    · rw [hT 34 (by omega) e (by omega), hn _ (by omega)]; exact b3
    · rw [hT 35 (by omega) e (by omega), hn _ (by omega)]; exact b4
    · rw [hT 37 (by omega) e (by omega), hn _ (by omega)]; exact b6
    · rw [hn _ (by omega)]; exact b7
  · exact rK1_congr (k.2.2.2 e he) (fun w h1 h2 => hT w (by omega) e (by omega)) (fun w hw => hn _ (by omega))
theorem x_payTips (h : RQ T Y nc nh nk np dy ah pl) : ∃ T', f_X6_payTips T = some T' ∧ RQ T' (tpP Y nh) nc nh nk np dy ah pl := by
  have h24 := h.2.1.1.2.1
  unfold f_X6_payTips
  refine p_ex2 (fun r => ∃ T', r = some T' ∧ RQ T' (tpP Y nh) nc nh nk np dy ah pl) (fun i (x : Int32) (σ : z_S) => x = nI i ∧ RQ σ (tpP Y i) nc nh nk np dy ah pl) nh (by omega) ⟨rfl, h⟩ ?_ ?_
  · rintro i x σ hi ⟨rfl, hq⟩
    left
    obtain ⟨P, hPd⟩ : ∃ P, P = tpP Y i := ⟨_, rfl⟩
    have hs : tpP Y (i + 1) = tpR P i := by rw [hPd]; rfl
    rw [← hPd] at hq
    rw [hs]
    have hK := hq.2.2.2.1
    have h3 := hK.2.1
    obtain ⟨⟨e12, e13, e14, e15, e16, e17⟩, ⟨e18, e19, e20, e21, e22, e23⟩, -, hby, -, ⟨s, hs12, hsd⟩, ⟨f, hf, hfd, hff⟩⟩ := hq.2.1.2.2 i hi
    by_cases hb : P (90 + 14 * i + 3) = -1
    · refine ⟨nI (i + 1), σ, ⟨rfl, ?_⟩, fun kk => ?_⟩
      · unfold tpR
        rw [cif_f (fun q => q.2 hb)]
        exact hq
      · unfold lb_X6_payTips_2
        rw [hq.2.1.2.1, if_neg (nI_ge hi (by omega)), p_cki (by omega) (by omega), p_cl (by omega), e15, p_let, p_let, if_pos hb]
        dsimp only
        rw [p_let, zl_1, nI_add]
    · obtain ⟨c, hc, hcc⟩ := hby.elim (fun e => absurd e hb) id
      have body : ∀ kk : Int32 → z_S → Option z_S, lb_X6_payTips_2 kk (nI i) σ = kk (nI (i + 1)) (z_u σ 36 c (σ 36 c + (if f = 0 then 0 else tpv P i))) := by
        intro kk
        have htip : f_X2_tipNow (nI i) σ = some (if f = 0 then 0 else tpv P i) := by
          unfold f_X2_tipNow
          rw [p_cki (by omega) (by omega), p_cl (by omega), hf]
          by_cases f0 : f = 0
          · rw [if_pos (by rw [f0]; rfl), if_pos f0]
          · rw [if_neg (nI_ne0 (by omega) (by have := hq.2.2.2.2.2.1.1.2.1; omega)), if_neg f0, p_cki (by omega) (by omega), e23, hs12, p_cki (by omega) (by omega), p_cki (by omega) (by omega), p_cki (by omega) (by omega), p_ck (by decide), e14]
            have hdy := hq.2.2.2.2.2.1.1.2.1
            unfold tpv
            rw [hs12]
            by_cases s0 : s = 0
            · rw [if_pos (show nI s ≤ 1 from nI_le (b := 1) (by omega) (by omega)), if_pos (by rw [s0]; rfl), if_pos (by rw [s0]; rfl)]
            · rw [if_neg (nI_ne0 (by omega) (by omega)), if_neg (nI_ne0 (by omega) (by omega))]
              by_cases s1 : s = 1
              · rw [if_pos (show nI s ≤ 1 from nI_le (b := 1) (by omega) (by omega)), if_pos (by rw [s1]; rfl)]
              · rw [if_neg (show ¬ nI s ≤ 1 from nI_ge (a := 1) (by omega) (by omega)), if_neg (show ¬ nI s = 1 from nI_ne (b := 1) (by omega) (by omega) s1)]
        unfold lb_X6_payTips_2
        rw [hq.2.1.2.1, if_neg (nI_ge hi (by omega)), p_cki (by omega) (by omega), p_cl (by omega), e15, hcc, p_let, p_let, if_neg (nI_m1 (by omega)), p_cki (by omega) (by omega), htip, p_b1, p_cki (by omega) (by omega), p_cl (by omega), p_let]
        dsimp only
        rw [p_let, zl_1, nI_add]
      have e36 : σ 36 c = P (426 + 7 * c + 5) := (hK.2.2.2 c hc).2.2.2.2.2.1
      by_cases f0 : f = 0
      · have h13 : ¬ P (90 + 14 * i + 13) = 1 := by
          rcases hff with ⟨-, e⟩ | ⟨e, -⟩
          · rw [e]; decide
          · exact absurd f0 e
        refine ⟨nI (i + 1), _, ⟨rfl, ?_⟩, body⟩
        unfold tpR
        rw [cif_f (fun q => h13 q.1), if_pos f0]
        refine hq.eqT (fun q hq => ?_)
        by_cases q36 : q = 36
        · subst q36
          funext j
          by_cases e : j = c
          · rw [e, u_i, Int32.add_zero]
          · rw [u_j e]
        · rw [u_o q36]
      · have h13 : P (90 + 14 * i + 13) = 1 := by
          rcases hff with ⟨e, -⟩ | ⟨-, e⟩
          · exact absurd e f0
          · rw [e]; rfl
        refine ⟨nI (i + 1), _, ⟨rfl, ?_⟩, body⟩
        unfold tpR
        rw [cif_t ⟨h13, hb⟩, if_neg f0, hcc, p_cl (by omega)]
        refine hq.tip hc (fun q hq j hj => zu_n hj) (fun j hj => un_j hj) ?_
        rw [u_i, un_i, e36]
  · rintro x σ ⟨rfl, hq⟩
    refine ⟨some σ, ⟨σ, rfl, hq⟩, fun kk => ?_⟩
    unfold lb_X6_payTips_2
    rw [hq.2.1.2.1, if_pos (nI_le (Nat.le_refl _) (by omega))]
theorem x_beginWeek {P M : Nat → Int32} (h : RQ T P nc nh nk np dy ah pl) (hM : rsW nh P M) : ∃ T', f_X2_beginWeek T = some T' ∧ RQ T' M nc nh nk np dy ah pl := by
  obtain ⟨a, b, o, k, p, s, g, z1, z2⟩ := h
  have h20 := a.1.2.2.1
  have h24 := b.1.2.1
  have hk3 := k.2.1
  have h30 := p.2.1
  obtain ⟨hM1, hM2⟩ := hM
  have hlo : ∀ j, j < 90 → M j = P j := fun j hj => hM2 j (fun h hh => by omega)
  have hhi : ∀ j, 90 + 14 * nh ≤ j → M j = P j := fun j hj => hM2 j (fun h hh => by omega)
  have hbl : ∀ h, h < nh → ∀ w, w < 12 → M (90 + 14 * h + w) = P (90 + 14 * h + w) := fun h hh w hw => hM2 _ (fun h' hh' => by omega)
  obtain ⟨r, ⟨T', h1, h2, h3⟩, h4⟩ : ∃ r, (∃ T' : z_S, r = some T' ∧ (∀ a, a ≠ 23 → a ≠ 24 → T' a = T a) ∧ ∀ k, k < nh → T' 23 k = 0 ∧ T' 24 k = 0) ∧ f_X2_beginWeek T = r := by
    refine ⟨_, ?_, rfl⟩
    unfold f_X2_beginWeek
    refine p_ex2 (fun r => ∃ T' : z_S, r = some T' ∧ (∀ a, a ≠ 23 → a ≠ 24 → T' a = T a) ∧ ∀ k, k < nh → T' 23 k = 0 ∧ T' 24 k = 0) (fun i (x : Int32) (σ : z_S) => x = nI i ∧ (∀ a, a ≠ 23 → a ≠ 24 → σ a = T a) ∧ ∀ k, k < i → σ 23 k = 0 ∧ σ 24 k = 0) nh (by omega) ⟨rfl, fun _ _ _ => rfl, fun k hk => absurd hk (Nat.not_lt_zero _)⟩ ?_ ?_
    · rintro i x σ hi ⟨rfl, w1, w2⟩
      refine Or.inl ⟨nI (i + 1), z_u (z_u σ 23 i 0) 24 i 0, ⟨rfl, fun a q1 q2 => by rw [u_o q2, u_o q1, w1 a q1 q2], fun k hk => ?_⟩, fun kk => ?_⟩
      · by_cases e : k = i
        · rw [e, u_i, u_o (by omega), u_i]; exact ⟨rfl, rfl⟩
        · rw [zu_n (by omega), zu_n (by omega), zu_n (by omega), zu_n (by omega)]
          exact w2 k (by omega)
      · unfold lb_X2_beginWeek_2
        rw [w1 11 (by omega) (by omega), b.2.1, if_neg (nI_ge hi (by omega)), p_cki (by omega) (by omega), p_cl (by omega), p_let, p_cki (by omega) (by omega), p_let, p_let, zl_1, nI_add]
    · rintro x σ ⟨rfl, w1, w2⟩
      refine ⟨some σ, ⟨σ, rfl, w1, w2⟩, fun kk => ?_⟩
      unfold lb_X2_beginWeek_2
      rw [w1 11 (by omega) (by omega), b.2.1, if_pos (nI_le (Nat.le_refl _) (by omega))]
  refine ⟨T', by rw [h4, h1], rC_congr a (hlo 0 (by omega)) (fun i h1 h2 => hlo i (by omega)) (by rw [h2 2 (by omega) (by omega)]) (fun q q1 q2 j hj => by rw [h2 q (by omega) (by omega)]), ⟨mH_congr b.1 (hlo 1 (by omega)) (fun j hj => hbl j hj 0 (by omega)), by rw [h2 11 (by omega) (by omega)]; exact b.2.1, fun h hh => ?_⟩, fun j hj => by rw [h2 25 (by omega) (by omega)]; exact o j hj,
    rK_congr k (hlo 2 (by omega)) (by rw [h2 30 (by omega) (by omega)]) (fun q q1 q2 j hj => by rw [h2 q (by omega) (by omega)]) (fun i h1 h2 => hhi i (by omega)), rP_congr p (hlo 3 (by omega)) (by rw [h2 26 (by omega) (by omega)]) (fun q q1 q2 j hj => by rw [h2 q (by omega) (by omega)]) (fun i h1 h2 => hhi i (by omega)),
    rS_congr s (by rw [h2 0 (by omega) (by omega)]) (by rw [h2 0 (by omega) (by omega)]) (by rw [h2 0 (by omega) (by omega)]) (hlo 4 (by omega)) (hlo 5 (by omega)) (hlo 6 (by omega)), rA_congr g (fun j hj => by rw [h2 1 (by omega) (by omega)]) (fun w w1 w2 => sI_congr (fun i hi => hbl i hi w (by omega))),
    fun i h1 h2 => by rw [hhi i (by omega)]; exact z1 i h1 h2, fun i h1 h2 => by rw [hhi i (by omega)]; exact z2 i h1 h2⟩
  obtain ⟨⟨e12, e13, e14, e15, e16, e17⟩, ⟨e18, e19, e20, e21, e22, e23⟩, hp, hby, hs, -, -⟩ := b.2.2 h hh
  obtain ⟨m12, m13⟩ := hM1 h hh
  obtain ⟨t23, t24⟩ := h3 h hh
  have hb := hbl h hh
  refine ⟨?_, ?_, ?_, ?_, ?_, ⟨0, m12, Nat.zero_le _⟩, ⟨0, t24, Nat.zero_le _, Or.inl ⟨rfl, m13⟩⟩⟩
  · rw [hb 0 (by omega), hb 1 (by omega), hb 2 (by omega), hb 3 (by omega), hb 4 (by omega), hb 5 (by omega), h2 12 (by omega) (by omega), h2 13 (by omega) (by omega), h2 14 (by omega) (by omega), h2 15 (by omega) (by omega), h2 16 (by omega) (by omega), h2 17 (by omega) (by omega)]
    exact ⟨e12, e13, e14, e15, e16, e17⟩
  · rw [hb 6 (by omega), hb 7 (by omega), hb 8 (by omega), hb 9 (by omega), hb 10 (by omega), hb 11 (by omega), h2 18 (by omega) (by omega), h2 19 (by omega) (by omega), h2 20 (by omega) (by omega), h2 21 (by omega) (by omega), h2 22 (by omega) (by omega), m12, t23]
    exact ⟨e18, e19, e20, e21, e22, rfl⟩
  · rw [hb 1 (by omega)]; exact hp
  · rw [hb 3 (by omega)]; exact hby
  · rw [hb 6 (by omega), hb 8 (by omega), hb 9 (by omega), hb 10 (by omega)]; exact hs
theorem RQ.over (h : RQ T Y nc nh nk np dy ah pl) (hd : dy < 1000) : RT (z_u T 0 0 (T 0 0 + 1)) (un Y 4 (nI (dy + 1))) nc nh nk np (dy + 1) ah pl := by
  obtain ⟨a, b, o, k, p, s, g, z1, z2⟩ := h
  have h20 := a.1.2.2.1
  have h24 := b.1.2.1
  have hk3 := k.2.1
  have h30 := p.2.1
  refine ⟨rC_congr a (un_j (by omega)) (fun i h1 h2 => un_j (by omega)) (by rw [u_o (by omega)]) (fun q q1 q2 j hj => by rw [u_o (by omega)]), rH_congr b (un_j (by omega)) (by rw [u_o (by omega)]) (fun i h1 h2 => un_j (by omega)) (fun q q1 q2 j hj => by rw [u_o (by omega)]), fun j hj => by rw [u_o (by omega)]; exact o j hj,
    rK_congr k (un_j (by omega)) (by rw [u_o (by omega)]) (fun q q1 q2 j hj => by rw [u_o (by omega)]) (fun i h1 h2 => un_j (by omega)), rP_congr p (un_j (by omega)) (by rw [u_o (by omega)]) (fun q q1 q2 j hj => by rw [u_o (by omega)]) (fun i h1 h2 => un_j (by omega)), ?_, rA_congr g (fun j hj => by rw [u_o (by omega)]) (fun w w1 w2 => sI_congr (fun i hi => un_j (by omega))),
    fun i h1 h2 => by rw [un_j (by omega)]; exact z1 i h1 h2, fun i h1 h2 => by rw [un_j (by omega)]; exact z2 i h1 h2⟩
  obtain ⟨⟨s1, s2, s3⟩, s4, s5⟩ := s
  refine ⟨⟨un_i, by omega, ?_⟩, ?_, ?_⟩
  · rw [u_i, s3, zl_1, nI_add]
  · rw [u_j (by omega), un_j (by omega)]; exact s4
  · rw [u_j (by omega), un_j (by omega)]; exact s5
end TIPS
/-- what the row is behind a day, Yq the row before the tips -/
def dEnd (d : Int32) (nh : Nat) (Yq M0 : Nat → Int32) : Prop := (d - d / 7 * 7 = 6 → rsW nh (tpP Yq nh) M0) ∧ (¬ d - d / 7 * 7 = 6 → ∀ j, j < 537 → M0 j = Yq j)
theorem kTW {σ τ : z_S} : (∀ q, q < 38 → z_m σ zk_TW_T 38 τ q = τ q) ∧ ∀ q, 38 ≤ q → z_m σ zk_TW_T 38 τ q = σ q := ⟨fun q hq => z_m_in rfl hq, fun q hq => z_m_out hq⟩
section XDAY
variable {np nc nh nk dy : Nat} {ah pl : Nat → Nat}
theorem x_day {T : z_S} {n : Nat → Int32} (g : Nat) (hT : RT T n nc nh nk np dy ah pl) (hw : (∀ k, k < 20 → T 39 k = nI 0) ∧ T 38 4 = nI 0) (hd : dy < 1000) :
    ∃ T' Yq, (∀ k7 : Int32 → z_S → Option (Int32 × z_S), z_lp2 (lb_X6_letDaysGo_46 k7 (nI g)) z_Fu (0 : Int32) T = k7 (nI (g + 1)) T') ∧
      PR n np (nI dy) (tR ah pl nc nh) nh (dW n nc nh nk np ah pl (nI dy)) Yq (fun k => k < nh) (fun _ => nh) (fun _ => True) ∧
      (∀ M0, dEnd (nI dy) nh Yq M0 → RT T' (un M0 4 (nI (dy + 1))) nc nh nk np (dy + 1) ah pl) ∧ (∀ k, k < 20 → T' 39 k = nI 0) ∧ T' 38 4 = nI 0 := by
  have h3 := hT.2.2.2.1.2.1
  have key : ∃ r : (Int32 → z_S → Option (Int32 × z_S)) → Option (Int32 × z_S), (fun r => ∃ T' Yq, (∀ k7, r k7 = k7 (nI (g + 1)) T') ∧ PR n np (nI dy) (tR ah pl nc nh) nh (dW n nc nh nk np ah pl (nI dy)) Yq (fun k => k < nh) (fun _ => nh) (fun _ => True) ∧
      (∀ M0, dEnd (nI dy) nh Yq M0 → RT T' (un M0 4 (nI (dy + 1))) nc nh nk np (dy + 1) ah pl) ∧ (∀ k, k < 20 → T' 39 k = nI 0) ∧ T' 38 4 = nI 0) r ∧ ∀ k7, z_lp2 (lb_X6_letDaysGo_46 k7 (nI g)) z_Fu (0 : Int32) T = r k7 := by
    refine p_gen2 (K := Int32 → z_S → Option (Int32 × z_S)) (body := fun k7 => lb_X6_letDaysGo_46 k7 (nI g)) (x1 := (0 : Int32)) (x2 := T)
      (fun r => ∃ T' Yq, (∀ k7, r k7 = k7 (nI (g + 1)) T') ∧ PR n np (nI dy) (tR ah pl nc nh) nh (dW n nc nh nk np ah pl (nI dy)) Yq (fun k => k < nh) (fun _ => nh) (fun _ => True) ∧
      (∀ M0, dEnd (nI dy) nh Yq M0 → RT T' (un M0 4 (nI (dy + 1))) nc nh nk np (dy + 1) ah pl) ∧ (∀ k, k < 20 → T' 39 k = nI 0) ∧ T' 38 4 = nI 0)
      (fun c x σ => x = nI c ∧ ∃ Y, RT σ Y nc nh nk np dy ah pl ∧ ((∀ k, k < 20 → σ 39 k = nI 0) ∧ σ 38 4 = nI 0) ∧ PR n np (nI dy) (tR ah pl nc nh) nh (dW n nc nh nk np ah pl (nI dy)) Y (fun k => k < 0) (fun _ => 0) (fun e => e < c)) nk (by omega)
      ⟨rfl, n, hT, hw, PR.rf (fun k _ => Nat.not_lt_zero k) (fun _ _ => rfl) (fun c _ => Nat.not_lt_zero c)⟩ ?_ ?_
    · rintro c x σ hc ⟨rfl, Y, g1, g2, g3⟩
      left
      obtain ⟨T', Y', f0, f1, f2, f3⟩ := x_walk1 (X := Int32 × z_S) g1 g2 g3 hc
      refine ⟨nI (c + 1), T', ⟨rfl, Y', f1, f2, f3⟩, fun k kk => ?_⟩
      unfold lb_X6_letDaysGo_46
      rw [g1.2.2.2.1.2.2.1, if_neg (nI_ge (b := nk) (a := c) (by omega) (by omega))]
      refine (f0 _).trans ?_
      rw [p_let, zl_1, nI_add]
    · rintro x σ ⟨rfl, Y, g1, g2, g3⟩
      have hW0 : ∀ c, nk ≤ c → dW n nc nh nk np ah pl (nI dy) c = (0, 0) := fun c hc => if_neg (by omega)
      obtain ⟨T1, Yq, f1, f2, f3⟩ := x_bringPapers (T := σ) g1.RB0 (g3.trT hW0)
      obtain ⟨σ2, hσ2⟩ : ∃ s, s = z_m σ zk_TW_T 38 T1 := ⟨_, rfl⟩
      have lo2 : ∀ q, q < 38 → σ2 q = T1 q := fun q hq => by rw [hσ2]; exact kTW.1 q hq
      have hi2 : ∀ q, 38 ≤ q → σ2 q = σ q := fun q hq => by rw [hσ2]; exact kTW.2 q hq
      have q2 : RQ σ2 Yq nc nh nk np dy ah pl := f2.RQ.eqT lo2
      by_cases sun : nI dy - nI dy / 7 * 7 = 6
      · obtain ⟨T3, p1, p2⟩ := x_payTips (T := σ2) q2
        obtain ⟨σ4, hσ4⟩ : ∃ s, s = z_m σ2 zk_TW_T 38 T3 := ⟨_, rfl⟩
        have lo4 : ∀ q, q < 38 → σ4 q = T3 q := fun q hq => by rw [hσ4]; exact kTW.1 q hq
        have hi4 : ∀ q, 38 ≤ q → σ4 q = σ2 q := fun q hq => by rw [hσ4]; exact kTW.2 q hq
        have q4 : RQ σ4 (tpP Yq nh) nc nh nk np dy ah pl := p2.eqT lo4
        -- some row for a week begun
        obtain ⟨T5, b1⟩ : ∃ T5, f_X2_beginWeek σ4 = some T5 := by
          obtain ⟨T5, b1, -⟩ := x_beginWeek (M := fun j => if ∃ h, h < nh ∧ (j = 90 + 14 * h + 12 ∨ j = 90 + 14 * h + 13) then 0 else tpP Yq nh j) q4 ⟨fun h hh => ⟨if_pos ⟨h, hh, Or.inl rfl⟩, if_pos ⟨h, hh, Or.inr rfl⟩⟩, fun j hj => if_neg (fun ⟨h, hh, e⟩ => e.elim (hj h hh).1 (hj h hh).2)⟩
          exact ⟨T5, b1⟩
        obtain ⟨σ6, hσ6⟩ : ∃ s, s = z_m σ4 zk_TW_T 38 T5 := ⟨_, rfl⟩
        have lo6 : ∀ q, q < 38 → σ6 q = T5 q := fun q hq => by rw [hσ6]; exact kTW.1 q hq
        have hi6 : ∀ q, 38 ≤ q → σ6 q = σ4 q := fun q hq => by rw [hσ6]; exact kTW.2 q hq
        refine ⟨fun k7 => k7 (nI (g + 1)) (z_u σ6 0 0 (σ6 0 0 + 1)), ⟨z_u σ6 0 0 (σ6 0 0 + 1), Yq, fun _ => rfl, f3, fun M0 hM => ?_, fun k hk => ?_, ?_⟩, fun k7 kk => ?_⟩
        · obtain ⟨T5', b1', b2⟩ := x_beginWeek q4 (hM.1 sun)
          rw [b1] at b1'
          have e5 : T5' = T5 := (Option.some.inj b1').symm
          subst e5
          exact (b2.eqT lo6).over hd
        · rw [u_o (by omega), hi6 39 (by omega), hi4 39 (by omega), hi2 39 (by omega)]; exact g2.1 k hk
        · rw [u_o (by omega), hi6 38 (by omega), hi4 38 (by omega), hi2 38 (by omega)]; exact g2.2
        · unfold lb_X6_letDaysGo_46
          rw [g1.2.2.2.1.2.2.1, if_pos (nI_le (Nat.le_refl _) (by omega))]
          show (z_b1 (f_X6_bringPapers σ) _) = _
          rw [f1, p_b1, p_let, ← hσ2]
          unfold f_X6_isSunday
          rw [p_ck (by decide), q2.2.2.2.2.2.1.1.2.2, if_pos sun, p_b1, p_let, if_neg (by decide)]
          show (z_b1 (f_X6_payTips σ2) _) = _
          rw [p1, p_b1, p_let, ← hσ4]
          show (z_b1 (f_X2_beginWeek σ4) _) = _
          rw [b1, p_b1, p_let, ← hσ6]
          dsimp only
          rw [p_let, p_let, zl_1, nI_add]
      · refine ⟨fun k7 => k7 (nI (g + 1)) (z_u σ2 0 0 (σ2 0 0 + 1)), ⟨z_u σ2 0 0 (σ2 0 0 + 1), Yq, fun _ => rfl, f3, fun M0 hM => ?_, fun k hk => ?_, ?_⟩, fun k7 kk => ?_⟩
        · exact (q2.nn (hM.2 sun)).over hd
        · rw [u_o (by omega), hi2 39 (by omega)]; exact g2.1 k hk
        · rw [u_o (by omega), hi2 38 (by omega)]; exact g2.2
        · unfold lb_X6_letDaysGo_46
          rw [g1.2.2.2.1.2.2.1, if_pos (nI_le (Nat.le_refl _) (by omega))]
          show (z_b1 (f_X6_bringPapers σ) _) = _
          rw [f1, p_b1, p_let, ← hσ2]
          unfold f_X6_isSunday
          rw [p_ck (by decide), q2.2.2.2.2.2.1.1.2.2, if_neg sun, p_b1, p_let, if_pos rfl]
          dsimp only
          rw [p_let, p_let, zl_1, nI_add, q2.2.2.2.2.2.1.1.2.2]
  obtain ⟨r, ⟨T', Yq, h1, h2, h3', h4⟩, h5⟩ := key
  exact ⟨T', Yq, fun k7 => by rw [h5 k7, h1 k7], h2, h3', h4⟩
end XDAY
