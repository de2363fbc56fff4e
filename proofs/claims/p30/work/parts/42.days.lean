/-! THE PURE PART. 30: days -/
section MD3
variable {T : z_S} {n : Nat → Int32} {np nc nh nk dy : Nat} {ah pl : Nat → Nat}
theorem k_none {d : Int32} {R : Nat → Nat} {c : Nat} : ∀ {i : Nat}, (∀ k, k < i → ¬ hAct n np d c (R k)) → k2 n np d R c i = k2 n np d R c 0 ∧ k6 n np d R c i = k6 n np d R c 0
  | 0, _ => ⟨rfl, rfl⟩
  | i + 1, h => by
    obtain ⟨a, b⟩ := k_none (i := i) (fun k hk => h k (by omega))
    have h0 := h i (Nat.lt_succ_self i)
    rw [← a, ← b]
    exact ⟨cif_f (fun q => h0 q.1), cif_f (fun q => h0 q.1)⟩
theorem m_day {m : z_S} (hT : RT T n nc nh nk np dy ah pl) (h1 : m 1 = n) :
    ∃ (rr : Int32) (m' : z_S) (Yq M0 : Nat → Int32), f_X10_dayGoes m = some (rr, m') ∧ PR n np (nI dy) (tR ah pl nc nh) nh (dW n nc nh nk np ah pl (nI dy)) Yq (fun k => k < nh) (fun _ => nh) (fun _ => True) ∧ dEnd (nI dy) nh Yq M0 ∧ m' 1 = un M0 4 (nI (dy + 1)) ∧ rSum (m' 1) nh 6 = rSum n nh 6 + rr ∧
      (∀ a, a ≠ 0 → a ≠ 1 → a ≠ 6 → a ≠ 7 → a ≠ 8 → m' a = m a) ∧ (∀ j, j ≠ 9 → j ≠ 10 → j ≠ 11 → j ≠ 12 → m' 0 j = m 0 j) := by
  have hT0 := hT
  obtain ⟨hC, hH, hO, hK, hPs, hS, -⟩ := hT
  have h24 := hH.1.2.1
  have h3 := hK.2.1
  have h30 := hPs.2.1
  have hpl : ∀ h, h < nh → pl h < nc := fun h hh => (hH.1.2.2 h hh).2
  obtain ⟨R, hR⟩ : ∃ R, R = tR ah pl nc nh := ⟨_, rfl⟩
  obtain ⟨W, hW⟩ : ∃ W, W = dW n nc nh nk np ah pl (nI dy) := ⟨_, rfl⟩
  have hRlt : ∀ k, k < nh → R k < nh := fun k hk => by rw [hR]; exact tR_lt hC.1.2.1 hC.1.2.2.2.1 hpl hk
  have hinj : ∀ i j, i < nh → j < nh → R j = R i → j = i := fun i j hi hj e => by rw [hR] at e; exact tR_inj hC.1.2.1 hC.1.2.2.2.1 hpl hj hi e
  have hsur : ∀ h, h < nh → ∃ k, k < nh ∧ R k = h := fun h hh => by rw [hR]; exact tR_sur hC.1.2.1 hC.1.2.2.2.1 hpl hh
  have hby : ∀ h, h < nh → n (90 + 14 * h + 3) = -1 ∨ ∃ c, c < nk ∧ n (90 + 14 * h + 3) = nI c := fun h hh => (hH.2.2 h hh).2.2.2.1
  have hd : m 1 4 = nI dy := by rw [h1]; exact hS.1.1
  rw [← hR, ← hW]
  unfold f_X10_dayGoes
  rw [k_4, c_4, hd, p_let]
  let F : Option (Int32 × z_S) → Prop := fun r => ∃ (rr : Int32) (m' : z_S) (Yq M0 : Nat → Int32), r = some (rr, m') ∧ PR n np (nI dy) R nh W Yq (fun k => k < nh) (fun _ => nh) (fun _ => True) ∧ dEnd (nI dy) nh Yq M0 ∧ m' 1 = un M0 4 (nI (dy + 1)) ∧ rSum (m' 1) nh 6 = rSum n nh 6 + rr ∧
      (∀ a, a ≠ 0 → a ≠ 1 → a ≠ 6 → a ≠ 7 → a ≠ 8 → m' a = m a) ∧ (∀ j, j ≠ 9 → j ≠ 10 → j ≠ 11 → j ≠ 12 → m' 0 j = m 0 j)
  -- the carriers' loop
  have loop2 : ∀ σ : z_S, PR n np (nI dy) R nh W (σ 1) (Sm n np (nI dy) R 0 0) (Km nh 0 0) (fun e => e < 0) → rSum (σ 1) nh 6 = rSum n nh 6 → (∀ a, a ≠ 1 → σ a = m a) → F (z_lp3 (lb_X10_dayGoes_70 (nI dy)) z_Fu (0 : Int32) (0 : Int32) σ) := by
    intro σ hP0 hs0 ho0
    refine p_ex3 F (fun c (acc x : Int32) (σ : z_S) => x = nI c ∧ PR n np (nI dy) R nh W (σ 1) (Sm n np (nI dy) R c 0) (Km nh c 0) (fun e => e < c) ∧ rSum (σ 1) nh 6 = rSum n nh 6 + acc ∧ (∀ a, a ≠ 0 → a ≠ 1 → a ≠ 6 → a ≠ 7 → a ≠ 8 → σ a = m a) ∧ (∀ j, j ≠ 9 → j ≠ 10 → j ≠ 11 → j ≠ 12 → σ 0 j = m 0 j)) nk (by omega)
      ⟨rfl, hP0, by rw [hs0, Int32.add_zero], fun a _ a1 _ _ _ => ho0 a a1, fun j _ _ _ _ => by rw [ho0 0 (by omega)]⟩ ?_ ?_
    · rintro c acc x σ hc ⟨rfl, hP, hs, ho, hj⟩
      left
      obtain ⟨r, m', f1, f2, f3, f4, f5, f6⟩ := m_goes1 (m := σ) (tr := fun e => e < c) hT0 hc (by rw [← hR, ← hW]; exact hP)
      rw [← hR, ← hW] at f2
      rw [← hW] at f6
      have f61 : m' 0 9 = (W c).1 := by rw [← f6]
      have f62 : m' 0 10 = (W c).2 := by rw [← f6]
      obtain ⟨s1, hs1⟩ : ∃ s, s = z_u m' 1 (426 + 7 * c + 3) (m' 1 (426 + 7 * c + 3) + m' 0 9) := ⟨_, rfl⟩
      obtain ⟨s2, hs2⟩ : ∃ s, s = z_u s1 1 (426 + 7 * c + 4) (s1 1 (426 + 7 * c + 4) + s1 0 10) := ⟨_, rfl⟩
      have e1 : s1 1 = un (m' 1) (426 + 7 * c + 3) (m' 1 (426 + 7 * c + 3) + m' 0 9) := by rw [hs1, un_u]
      have e2 : s2 1 = un (s1 1) (426 + 7 * c + 4) (s1 1 (426 + 7 * c + 4) + s1 0 10) := by rw [hs2, un_u]
      have s10 : s1 0 = m' 0 := by rw [hs1, u_o (by omega)]
      refine ⟨acc + r, nI (c + 1), s2, ⟨rfl, ?_, ?_, fun a a0 a1 a6 a7 a8 => by rw [hs2, u_o a1, hs1, u_o a1, f4 a a0 a1 a6 a7 a8, ho a a0 a1 a6 a7 a8], fun j q1 q2 q3 q4 => by rw [hs2, u_o (by omega), hs1, u_o (by omega), f5 j q1 q2 q3 q4, hj j q1 q2 q3 q4]⟩, fun kk => ?_⟩
      · have g1 : PR n np (nI dy) R nh W (s2 1) (Sm n np (nI dy) R c nh) (Km nh c nh) (fun e => e < c + 1) := f2.trips (c := c) (by omega) (fun i i3 i4 => by rw [e2, un_j i4, e1, un_j i3]) (by rw [e2, un_j (by omega), e1, un_i, f61]) (by rw [e2, un_i, e1, un_j (by omega), s10, f62]) h24 hRlt (by omega) (by omega) (fun e he hne => by omega)
        refine g1.imp (fun j hj => ?_) (fun e he => ?_) (fun _ _ => Iff.rfl)
        · unfold Sm
          constructor
          · rintro (q | q | ⟨e, he, q⟩ | ⟨q, q2⟩)
            · exact Or.inl q
            · exact Or.inr (Or.inl q)
            · by_cases e2 : e = c
              · exact Or.inr (Or.inr (Or.inr ⟨by rw [← e2]; exact q, hj⟩))
              · exact Or.inr (Or.inr (Or.inl ⟨e, by omega, q⟩))
            · omega
          · rintro (q | q | ⟨e, he, q⟩ | ⟨q, q2⟩)
            · exact Or.inl q
            · exact Or.inr (Or.inl q)
            · exact Or.inr (Or.inr (Or.inl ⟨e, by omega, q⟩))
            · exact Or.inr (Or.inr (Or.inl ⟨c, by omega, q⟩))
        · have ek : Km nh (c + 1) 0 e = Km nh c nh e := by
            unfold Km
            by_cases q : e < c
            · rw [if_pos q, if_pos (by omega)]
            · rw [if_neg q]
              by_cases q2 : e = c
              · rw [if_pos q2, if_pos (by omega)]
              · rw [if_neg q2, if_neg (by omega), ite_self]
          rw [ek]
          exact ⟨rfl, rfl⟩
      · have z1 : rSum (s2 1) nh 6 = rSum (m' 1) nh 6 := sI_congr (fun i hi => by rw [e2, un_j (by omega), e1, un_j (by omega)])
        rw [z1, f3, hs, Int32.add_assoc]
      · unfold lb_X10_dayGoes_70
        have e2k : σ 1 2 = nI nk := by rw [hP.1.1 2 (by omega)]; exact hK.1
        rw [k_2, c_2, e2k, if_neg (nI_ge (b := nk) (a := c) (by omega) (by omega)), f1, p_b2, p_let, show f_X10_addsCarrier (nI c) 3 (m' 0 9) m' = some s1 from by rw [hs1]; exact m_addsC (b := 3) (by omega), p_b1, show f_X10_addsCarrier (nI c) 4 (s1 0 10) s1 = some s2 from by rw [hs2]; exact m_addsC (b := 4) (by omega), p_b1, p_let, zl_1, nI_add]
    · rintro acc x σ ⟨rfl, hP, hs, ho, hj⟩
      have hst := hP.1
      have hPq : PR n np (nI dy) R nh W (σ 1) (fun k => k < nh) (fun _ => nh) (fun _ => True) := by
        refine PR.trT (nk := nk) (hP.imp (fun j hj => ?_) (fun e he => ?_) (fun _ _ => Iff.rfl)) (fun c hc => by rw [hW]; exact if_neg (by omega))
        · refine ⟨fun _ => ?_, fun _ => hj⟩
          rcases hby (R j) (hRlt j hj) with e | ⟨e, he, q⟩
          · exact Or.inr (Or.inl e)
          · exact Or.inr (Or.inr (Or.inl ⟨e, he, q⟩))
        · unfold Km
          by_cases q : e < nk
          · rw [if_pos q]; exact ⟨rfl, rfl⟩
          · rw [if_neg q, ite_self]
            refine k_none (fun k hk w => ?_)
            rcases hby (R k) (hRlt k hk) with b | ⟨b, hb, q2⟩
            · exact nI_m1 (a := e) (by omega) (by rw [← w.1]; exact b)
            · have := (nI_eq (a := b) (b := e) (by omega) (by omega)).mp (q2.symm.trans w.1)
              omega
      obtain ⟨m', M0, g1, g2, g3, g4, g5⟩ := m_dayEnd (m := σ) (nh := nh) (dy := dy) acc (by rw [hst.1 1 (by omega)]; exact hH.1.1) h24 (by rw [hst.1 4 (by omega)]; exact hS.1.1) (fun h hh => by
        rw [hst.2.1 h 3 (by omega) (by omega)]
        exact (hby h hh).imp id (fun ⟨c, hc, q⟩ => ⟨c, by omega, q⟩))
      refine ⟨some (acc, m'), ⟨acc, m', σ 1, M0, rfl, hPq, g2, g3, ?_, fun a a0 a1 a6 a7 a8 => by rw [g4 a a1, ho a a0 a1 a6 a7 a8], fun j q1 q2 q3 q4 => by rw [g4 0 (by omega), hj j q1 q2 q3 q4]⟩, fun kk => ?_⟩
      · rw [g3, ← hs, ← g5]
        exact sI_congr (fun i hi => un_j (by omega))
      · unfold lb_X10_dayGoes_70
        have e2k : σ 1 2 = nI nk := by rw [hP.1.1 2 (by omega)]; exact hK.1
        rw [k_2, c_2, e2k, if_pos (nI_le (Nat.le_refl _) (by omega))]
        exact g1
  -- the houses' loop
  refine p_ex2 F (fun h (x : Int32) (σ : z_S) => x = nI h ∧ PR n np (nI dy) R nh W (σ 1) (fun k => R k < h ∧ (pz n np (nI (R k)) (nI dy) ∨ n (90 + 14 * R k + 3) = -1)) (fun _ => 0) (fun _ => False) ∧ rSum (σ 1) nh 6 = rSum n nh 6 ∧ ∀ a, a ≠ 1 → σ a = m a) nh (by omega)
    ⟨rfl, by rw [h1]; exact PR.rf (fun k hk q => absurd q.1 (Nat.not_lt_zero _)) (fun _ _ => rfl) (fun _ _ q => q), by rw [h1], fun _ _ => rfl⟩ ?_ ?_
  · rintro h x σ hh ⟨rfl, hP, hs, ho⟩
    left
    have hst := hP.1
    obtain ⟨k, hk, hkh⟩ := hsur h hh
    have e1 : σ 1 1 = nI nh := by rw [hst.1 1 (by omega)]; exact hH.1.1
    have hps : f_X10_isPaused (nI h) (nI dy) σ = some (tb (pz n np (nI h) (nI dy))) := by
      rw [m_isPaused (T := T) (np := np) (hst.rP hPs), tb_iff (hst.pz h30)]
    have e3 : σ 1 (90 + 14 * h + 3) = n (90 + 14 * h + 3) := hst.2.1 h 3 (by omega) (by omega)
    have y1 : σ 1 (90 + 14 * h + 1) = n (90 + 14 * h + 1) := hst.2.1 h 1 (by omega) (by omega)
    have hbl : ∀ w, 6 ≤ w → w < 14 → σ 1 (90 + 14 * h + w) = n (90 + 14 * h + w) := by
      intro w w1 w2
      have := (hP.2.1 k hk w w1 w2).2 (fun q => by have q1 := q.1; rw [hkh] at q1; exact absurd q1 (Nat.lt_irrefl h))
      rw [hkh] at this
      exact this
    have hSj : ∀ j, j < nh → j ≠ k → ((R j < h + 1 ∧ (pz n np (nI (R j)) (nI dy) ∨ n (90 + 14 * R j + 3) = -1)) ↔ (R j < h ∧ (pz n np (nI (R j)) (nI dy) ∨ n (90 + 14 * R j + 3) = -1))) := by
      intro j hj hne
      have : R j ≠ h := fun e => hne (hinj k j hk hj (e.trans hkh.symm))
      exact ⟨fun q => ⟨by omega, q.2⟩, fun q => ⟨by omega, q.2⟩⟩
    have hpa : ∀ {P : Prop}, (3 : Nat) < 3 → P := fun q => absurd q (Nat.lt_irrefl 3)
    by_cases hz : pz n np (nI h) (nI dy)
    · refine ⟨nI (h + 1), z_u σ 1 (90 + 14 * h + 7) (σ 1 (90 + 14 * h + 7) + σ 1 (90 + 14 * h + 1)), ⟨rfl, ?_, ?_, fun a ha => by rw [u_o ha, ho a ha]⟩, fun kk => ?_⟩
      · rw [un_u]
        refine hP.step (k := k) (c := 3) h24 hk hRlt (hinj k · hk) (fun j q1 q2 => ?_) (fun w w1 w2 => ?_) hSj ⟨by omega, Or.inl (by rw [hkh]; exact hz)⟩ (fun q => hpa q) (fun _ _ _ => ⟨rfl, rfl⟩)
        · rw [hkh] at q1
          rw [un_j (by omega)]
        · unfold bF
          rw [hkh, cif_t hz]
          by_cases e : w = 7
          · rw [if_pos e, e, un_i, hbl 7 (by omega) (by omega), y1]
          · rw [if_neg e, un_j (by omega), hbl w w1 w2]
      · rw [un_u, ← hs]
        exact sI_congr (fun i hi => un_j (by omega))
      · unfold lb_X10_dayGoes_9
        rw [k_1, c_1, e1, if_neg (nI_ge hh (by omega)), hps, p_b1, p_let, show (if tb (pz n np (nI h) (nI dy)) = (0 : Int32) then _ else _) = _ from p_tbT hz, zl_7, m_become (by omega) (by omega), p_b1]
        dsimp only
        rw [p_let, zl_1, nI_add]
    · by_cases hl : n (90 + 14 * h + 3) = -1
      · obtain ⟨σ1, σ2, g1, g2, g3, g4⟩ := m_rowC (σ := σ) (h := h) (by omega) (w := 10) (by omega)
        refine ⟨nI (h + 1), σ2, ⟨rfl, ?_, by rw [g3, rowC_sum (by omega) (by omega), hs], fun a ha => by rw [g4 a ha, ho a ha]⟩, fun kk => ?_⟩
        · rw [g3]
          refine hP.step (k := k) (c := 3) h24 hk hRlt (hinj k · hk) (fun j q1 q2 => ?_) (fun w w1 w2 => ?_) hSj ⟨by omega, Or.inr (by rw [hkh]; exact hl)⟩ (fun q => hpa q) (fun _ _ _ => ⟨rfl, rfl⟩)
          · rw [hkh] at q1
            unfold rowC
            rw [un_j (by omega), un_j (by omega), un_j (by omega)]
          · unfold bF rowC
            rw [hkh, cif_f hz, cif_t hl]
            have w8 : w = 6 ∨ w = 7 ∨ w = 8 ∨ w = 9 ∨ w = 10 ∨ w = 11 ∨ w = 12 ∨ w = 13 := by omega
            rcases w8 with rfl | rfl | rfl | rfl | rfl | rfl | rfl | rfl
            · simp (disch := omega) only [un_i, un_j, hbl]; rfl
            · simp (disch := omega) only [un_i, un_j, hbl]; rfl
            · simp (disch := omega) only [un_i, un_j, hbl]; rfl
            · simp (disch := omega) only [un_i, un_j, hbl]; rfl
            · simp (disch := omega) only [un_i, un_j, hbl, y1]; rfl
            · simp (disch := omega) only [un_i, un_j, hbl]; rfl
            · simp (disch := omega) only [un_i, un_j, hbl]; rfl
            · simp (disch := omega) only [un_i, un_j, hbl]; rfl
        · unfold lb_X10_dayGoes_9
          rw [k_1, c_1, e1, if_neg (nI_ge hh (by omega)), hps, p_b1, p_let, show (if tb (pz n np (nI h) (nI dy)) = (0 : Int32) then _ else _) = _ from p_tbF hz, show f_X10_of (nI h) 3 σ = some (σ 1 (90 + 14 * h + 3)) from m_of (b := 3) (by omega), p_b1, e3, if_pos hl, zl_10, g1, p_b1, g2, p_b1]
          dsimp only
          rw [p_let, zl_1, nI_add]
      · refine ⟨nI (h + 1), σ, ⟨rfl, hP.imp (fun j hj => ?_) (fun _ _ => ⟨rfl, rfl⟩) (fun _ _ => Iff.rfl), hs, ho⟩, fun kk => ?_⟩
        · by_cases e : j = k
          · rw [e, hkh]
            exact ⟨fun q => absurd q.2 (fun w => w.elim hz hl), fun q => absurd q.2 (fun w => w.elim hz hl)⟩
          · exact hSj j hj e
        · unfold lb_X10_dayGoes_9
          rw [k_1, c_1, e1, if_neg (nI_ge hh (by omega)), hps, p_b1, p_let, show (if tb (pz n np (nI h) (nI dy)) = (0 : Int32) then _ else _) = _ from p_tbF hz, show f_X10_of (nI h) 3 σ = some (σ 1 (90 + 14 * h + 3)) from m_of (b := 3) (by omega), p_b1, e3, if_neg hl]
          dsimp only
          rw [p_let, zl_1, nI_add]
  · rintro x σ ⟨rfl, hP, hs, ho⟩
    refine ⟨_, loop2 σ (hP.imp (fun j hj => ?_) (fun e he => ?_) (fun c hc => ?_)) hs ho, fun kk => ?_⟩
    · have hj' := hRlt j hj
      unfold Sm
      constructor
      · rintro (q | q | ⟨e, he, q⟩ | ⟨q, q2⟩)
        · exact ⟨hj', Or.inl q⟩
        · exact ⟨hj', Or.inr q⟩
        · omega
        · omega
      · rintro ⟨-, q | q⟩
        · exact Or.inl q
        · exact Or.inr (Or.inl q)
    · have : Km nh 0 0 e = 0 := by
        unfold Km
        rw [if_neg (Nat.not_lt_zero _), ite_self]
      rw [this]
      exact ⟨rfl, rfl⟩
    · exact ⟨fun q => absurd q (Nat.not_lt_zero _), fun q => q.elim⟩
    · unfold lb_X10_dayGoes_9
      rw [k_1, c_1, hP.1.1 1 (by omega), hH.1.1, if_pos (nI_le (Nat.le_refl _) (by omega))]
end MD3
