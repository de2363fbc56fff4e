/-! THE PURE PART. 29: a whole day of the model -/
section MDAY2
variable {T : z_S} {n : Nat → Int32} {np nc nh nk dy : Nat} {ah pl : Nat → Nat}
theorem m_goes1 {m : z_S} {c : Nat} {tr : Nat → Prop} (hT : RT T n nc nh nk np dy ah pl) (hc : c < nk) (hP : PR n np (nI dy) (tR ah pl nc nh) nh (dW n nc nh nk np ah pl (nI dy)) (m 1) (Sm n np (nI dy) (tR ah pl nc nh) c 0) (Km nh c 0) tr) :
    ∃ r m', f_X10_goes (nI c) (nI dy) 1 m = some (r, m') ∧ PR n np (nI dy) (tR ah pl nc nh) nh (dW n nc nh nk np ah pl (nI dy)) (m' 1) (Sm n np (nI dy) (tR ah pl nc nh) c nh) (Km nh c nh) tr ∧ rSum (m' 1) nh 6 = rSum (m 1) nh 6 + r ∧
      (∀ a, a ≠ 0 → a ≠ 1 → a ≠ 6 → a ≠ 7 → a ≠ 8 → m' a = m a) ∧ (∀ j, j ≠ 9 → j ≠ 10 → j ≠ 11 → j ≠ 12 → m' 0 j = m 0 j) ∧ (m' 0 9, m' 0 10) = dW n nc nh nk np ah pl (nI dy) c := by
  obtain ⟨hC, hH, hO, hK, hPs, hS, -⟩ := hT
  have h24 := hH.1.2.1
  have h3 := hK.2.1
  have h30 := hPs.2.1
  have hpl : ∀ h, h < nh → pl h < nc := fun h hh => (hH.1.2.2 h hh).2
  obtain ⟨R, hR⟩ : ∃ R, R = tR ah pl nc nh := ⟨_, rfl⟩
  have hRlt : ∀ k, k < nh → R k < nh := fun k hk => by rw [hR]; exact tR_lt hC.1.2.1 hC.1.2.2.2.1 hpl hk
  have hinj : ∀ i j, i < nh → j < nh → R j = R i → j = i := fun i j hi hj e => by rw [hR] at e; exact tR_inj hC.1.2.1 hC.1.2.2.2.1 hpl hj hi e
  rw [← hR] at hP ⊢
  have all : ∀ i, i ≤ nh → PR n np (nI dy) R nh (dW n nc nh nk np ah pl (nI dy)) (vN n np (nI dy) R c (m 1) i) (Sm n np (nI dy) R c i) (Km nh c i) tr ∧ rSum (vN n np (nI dy) R c (m 1) i) nh 6 = rSum (m 1) nh 6 + vD n np (nI dy) R c i := by
    intro i
    induction i with
    | zero => exact fun _ => ⟨hP, (Int32.add_zero _).symm⟩
    | succ i ih =>
      intro hi
      obtain ⟨a, b⟩ := ih (by omega)
      obtain ⟨a', b'⟩ := m_vstep a h24 (by omega) (by omega) hRlt (hinj i · (by omega))
      refine ⟨a', ?_⟩
      show rSum (vS n np (nI dy) c (vN n np (nI dy) R c (m 1) i) (R i)) nh 6 = rSum (m 1) nh 6 + cif (hDlv n np (nI dy) R c i) (vD n np (nI dy) R c i + n (90 + 14 * R i + 1)) (vD n np (nI dy) R c i)
      rw [b' _ b]
      by_cases q : hDlv n np (nI dy) R c i
      · rw [cif_t q, cif_t q, Int32.add_assoc]
      · rw [cif_f q, cif_f q]
  obtain ⟨⟨t, e, p, dg, o, D⟩, hW⟩ : ∃ s : wS, WK n nc nh np ah pl c (nI dy) (fun h => n (90 + 14 * h + 3) = nI c) nh = s := ⟨_, rfl⟩
  have hsteps : ∀ i, i < nh → hStep n nc nh np ah pl c (nI dy) 1 (vN n np (nI dy) R c (m 1)) (vD n np (nI dy) R c) i (tR ah pl nc nh i) := by
    intro i hi
    rw [← hR]
    have hRi := hRlt i hi
    obtain ⟨a, b⟩ := all i (by omega)
    have hst := a.1
    have p2 : vN n np (nI dy) R c (m 1) i (426 + 7 * c + 2) = k2 n np (nI dy) R c i := by
      have q := (a.2.2.2 c (by omega)).1
      unfold Km at q
      rw [if_neg (Nat.lt_irrefl c), if_pos rfl] at q
      exact q
    have hN1 : vN n np (nI dy) R c (m 1) (i + 1) = vS n np (nI dy) c (vN n np (nI dy) R c (m 1) i) (R i) := rfl
    have hd1 : vD n np (nI dy) R c (i + 1) = cif (hDlv n np (nI dy) R c i) (vD n np (nI dy) R c i + n (90 + 14 * R i + 1)) (vD n np (nI dy) R c i) := rfl
    unfold hStep
    generalize vN n np (nI dy) R c (m 1) i = Y at a b hst p2 hN1 ⊢
    refine ⟨fun hq => ?_, fun hq hw => ?_, fun hq hw => ?_⟩
    · rw [hN1, hd1]
      unfold vS
      rw [cif_f hq, cif_f (fun q => hq ⟨q.1.1, q.1.2.1⟩)]
      exact ⟨rfl, rfl⟩
    · rw [hN1, hd1]
      unfold vS
      rw [cif_t hq, cif_t hw, cif_f (fun q => by have := q.1.2.2; omega)]
      refine ⟨rfl, fun h => absurd h (by decide), fun _ σ hσ => ?_⟩
      obtain ⟨σ1, σ2, g1, g2, g3, g4⟩ := m_rowC (σ := σ) (h := R i) (by omega) (w := 9) (by omega)
      exact ⟨σ1, σ2, g1, g2, by rw [g3, hσ], g4⟩
    · rw [hN1, hd1]
      refine ⟨fun h => absurd h (by decide), fun _ σ hσ => ?_⟩
      unfold vS
      rw [cif_t hq, cif_f (by omega)]
      by_cases hob : oX n (R i) (nI dy) ∧ Y (426 + 7 * c + 2) = 0
      · obtain ⟨σ2, g1, g2, g3⟩ := m_delivers_B (σ := σ) (h := R i) (c := c) (d := nI dy) (by omega) (by omega) (by rw [hσ]; exact (hst.oX (by omega)).mpr hob.1) (by rw [hσ]; exact hob.2)
        rw [cif_t hob, cif_f (fun q => q.2 ⟨hob.1, by rw [← p2]; exact hob.2⟩)]
        exact ⟨0, σ2, g1, by rw [g2, hσ], g3, Or.inl ⟨rfl, rfl⟩⟩
      · obtain ⟨σ2, g1, g2, g3⟩ := m_delivers_D (σ := σ) (h := R i) (c := c) (d := nI dy) (by omega) (by omega) (by rw [hσ]; exact fun q => hob ⟨(hst.oX (by omega)).mp q.1, q.2⟩)
        rw [cif_f hob, cif_t (show hDlv n np (nI dy) R c i from ⟨⟨hq.1, hq.2, hw⟩, fun q => hob ⟨q.1, by rw [p2]; exact q.2⟩⟩)]
        refine ⟨1, σ2, g1, ?_, g3, Or.inr ⟨by decide, rfl⟩⟩
        rw [g2, hσ, show cif (oX Y (R i) (nI dy)) (-1 : Int32) 0 = cif (oX n (R i) (nI dy)) (-1) 0 from ?_]
        by_cases q : oX n (R i) (nI dy)
        · rw [cif_t q, cif_t ((hst.oX (by omega)).mpr q)]
        · rw [cif_f q, cif_f (fun w => q ((hst.oX (by omega)).mp w))]
  obtain ⟨m', f1, f2, f3, f4, f5, f6, f7, f8⟩ := m_goes (m := m) (z := 1) (d := nI dy) (N := vN n np (nI dy) R c (m 1)) (dl := vD n np (nI dy) R c) hC.1 hH hK hPs hS hc (fun i hi => (all i hi).1.1) rfl rfl hsteps hW
  refine ⟨_, m', f1, by rw [f2]; exact (all nh (Nat.le_refl _)).1, by rw [f2]; exact (all nh (Nat.le_refl _)).2, f3, f4, ?_⟩
  rw [f5, f6]
  unfold dW
  rw [if_pos hc, hW]
/-- tips of one house -/
theorem m_tips {m : z_S} {h : Nat} (hh : h < 24) (hb : m 1 (90 + 14 * h + 3) = -1 ∨ ∃ c, c < 3 ∧ m 1 (90 + 14 * h + 3) = nI c) :
    ∃ m', f_X10_tips (nI h) m = some m' ∧ m' 1 = un (un (tpR (m 1) h) (90 + 14 * h + 13) 0) (90 + 14 * h + 12) 0 ∧ ∀ a, a ≠ 1 → m' a = m a := by
  obtain ⟨Y, hY⟩ : ∃ Y, Y = m 1 := ⟨_, rfl⟩
  have rest : ∀ y : Int32, y = tpv Y h → ∃ m', (z_let (fun (σ7 : z_S) => z_b1 (f_X10_lays (nI h) (13 : Int32) (0 : Int32) σ7) fun σ10 => z_b1 (f_X10_lays (nI h) (12 : Int32) (0 : Int32) σ10) fun σ12 => (some σ12 : Option z_S)) fun j8 =>
      if Y (90 + 14 * h + 3) = (-1 : Int32) then (j8 m) else (z_b1 (f_X10_of (nI h) (13 : Int32) m) fun r15 => if r15 = (1 : Int32) then (z_b1 (f_X10_addsCarrier (Y (90 + 14 * h + 3)) (5 : Int32) y m) fun σ18 => j8 σ18) else (j8 m))) = some m' ∧
      m' 1 = un (un (tpR Y h) (90 + 14 * h + 13) 0) (90 + 14 * h + 12) 0 ∧ ∀ a, a ≠ 1 → m' a = m a := by
    intro y hy
    have j8 : ∀ s : z_S, s 1 = tpR Y h → (∀ a, a ≠ 1 → s a = m a) → ∃ m', (z_b1 (f_X10_lays (nI h) (13 : Int32) (0 : Int32) s) fun σ10 => z_b1 (f_X10_lays (nI h) (12 : Int32) (0 : Int32) σ10) fun σ12 => (some σ12 : Option z_S)) = some m' ∧ m' 1 = un (un (tpR Y h) (90 + 14 * h + 13) 0) (90 + 14 * h + 12) 0 ∧ ∀ a, a ≠ 1 → m' a = m a := by
      intro s h1 h2
      refine ⟨z_u (z_u s 1 (90 + 14 * h + 13) 0) 1 (90 + 14 * h + 12) 0, ?_, by rw [un_u, un_u, h1], fun a ha => by rw [u_o ha, u_o ha, h2 a ha]⟩
      rw [zl_13, m_lays (by omega), p_b1, zl_12, m_lays (by omega), p_b1]
    rw [p_let]
    by_cases q : Y (90 + 14 * h + 3) = -1
    · rw [if_pos q]
      exact j8 m (by unfold tpR; rw [cif_f (fun w => w.2 q)]; exact hY.symm) (fun _ _ => rfl)
    · rw [if_neg q, zl_13, m_of (by omega), p_b1, ← hY]
      by_cases q2 : Y (90 + 14 * h + 13) = 1
      · obtain ⟨c, hc, hcc⟩ := hb.elim (fun e => absurd (hY ▸ e) q) id
        rw [← hY] at hcc
        rw [if_pos q2, hcc, zl_5, m_addsC (by omega), p_b1]
        refine j8 _ ?_ (fun a ha => u_o ha)
        rw [un_u, ← hY, hy]
        unfold tpR
        rw [cif_t ⟨q2, q⟩, hcc, p_cl (by omega)]
      · rw [if_neg q2]
        exact j8 m (by unfold tpR; rw [cif_f (fun w => q2 w.1)]; exact hY.symm) (fun _ _ => rfl)
  unfold f_X10_tips
  rw [show f_X10_of (nI h) (3 : Int32) m = some (m 1 (90 + 14 * h + 3)) from m_of (b := 3) (by omega), show f_X10_of (nI h) (12 : Int32) m = some (m 1 (90 + 14 * h + 12)) from m_of (b := 12) (by omega), p_b1, p_b1, ← hY, p_let]
  have e2 : f_X10_of (nI h) (2 : Int32) m = some (Y (90 + 14 * h + 2)) := by rw [hY]; exact m_of (b := 2) (by omega)
  by_cases q0 : Y (90 + 14 * h + 12) = 0
  · rw [if_pos q0, e2, p_b1]
    exact rest _ (by unfold tpv; rw [if_pos q0])
  · rw [if_neg q0]
    by_cases q1 : Y (90 + 14 * h + 12) = 1
    · rw [if_pos q1, e2, p_b1, p_ck (by decide)]
      exact rest _ (by unfold tpv; rw [if_neg q0, if_pos q1])
    · rw [if_neg q1]
      exact rest _ (by unfold tpv; rw [if_neg q0, if_neg q1])
theorem rsW_step {i : Nat} {P M : Nat → Int32} (h : rsW i P M) (hi : i < 24) (hb : P (90 + 14 * i + 3) = -1 ∨ ∃ c, c < 3 ∧ P (90 + 14 * i + 3) = nI c) : rsW (i + 1) (tpR P i) (un (un (tpR M i) (90 + 14 * i + 13) 0) (90 + 14 * i + 12) 0) := by
  obtain ⟨h1, h2⟩ := h
  have hbl : ∀ w, w < 14 → M (90 + 14 * i + w) = P (90 + 14 * i + w) := fun w hw => h2 _ (fun h hh => by omega)
  have htv : tpv M i = tpv P i := by
    unfold tpv
    rw [hbl 12 (by omega), hbl 2 (by omega)]
  have eqR : ∀ j, (∀ h, h < i → j ≠ 90 + 14 * h + 12 ∧ j ≠ 90 + 14 * h + 13) → tpR M i j = tpR P i j := by
    intro j hj
    unfold tpR
    rw [hbl 13 (by omega), hbl 3 (by omega)]
    by_cases q : P (90 + 14 * i + 13) = 1 ∧ ¬ P (90 + 14 * i + 3) = -1
    · obtain ⟨c, hc, hcc⟩ := hb.elim (fun e => absurd e q.2) id
      rw [cif_t q, cif_t q, hcc, p_cl (by omega), htv]
      by_cases e : j = 426 + 7 * c + 5
      · rw [e, un_i, un_i, h2 _ (fun h hh => by omega)]
      · rw [un_j e, un_j e, h2 j hj]
    · rw [cif_f q, cif_f q, h2 j hj]
  refine ⟨fun h hh => ?_, fun j hj => ?_⟩
  · by_cases e : h = i
    · rw [e, un_i, un_j (by omega), un_i]
      exact ⟨rfl, rfl⟩
    · rw [un_j (by omega), un_j (by omega), un_j (by omega), un_j (by omega)]
      have z : ∀ j, j < 426 → tpR M i j = M j := by
        intro j hj
        unfold tpR
        rw [hbl 13 (by omega), hbl 3 (by omega)]
        by_cases q : P (90 + 14 * i + 13) = 1 ∧ ¬ P (90 + 14 * i + 3) = -1
        · obtain ⟨c, hc, hcc⟩ := hb.elim (fun e => absurd e q.2) id
          rw [cif_t q, hcc, p_cl (by omega), un_j (by omega)]
        · rw [cif_f q]
      rw [z _ (by omega), z _ (by omega)]
      exact h1 h (by omega)
  · rw [un_j (hj i (Nat.lt_succ_self i)).1, un_j (hj i (Nat.lt_succ_self i)).2]
    exact eqR j (fun h hh => hj h (by omega))
theorem tpP_lo {Y : Nat → Int32} (hb : ∀ h, h < nh → Y (90 + 14 * h + 3) = -1 ∨ ∃ c, c < 3 ∧ Y (90 + 14 * h + 3) = nI c) (h24 : nh ≤ 24) : ∀ i, i ≤ nh → ∀ j, j < 426 → tpP Y i j = Y j
  | 0, _, _, _ => rfl
  | i + 1, hi, j, hj => by
    have ih := tpP_lo hb h24 i (by omega)
    show tpR (tpP Y i) i j = Y j
    unfold tpR
    by_cases q : tpP Y i (90 + 14 * i + 13) = 1 ∧ ¬ tpP Y i (90 + 14 * i + 3) = -1
    · rw [cif_t q, ih (90 + 14 * i + 3) (by omega)]
      obtain ⟨c, hc, hcc⟩ := (hb i (by omega)).elim (fun e => absurd ((ih _ (by omega)).trans e) q.2) id
      rw [hcc, p_cl (by omega), un_j (by omega), ih j hj]
    · rw [cif_f q, ih j hj]
theorem m_dayEnd {m : z_S} (x9 : Int32) (h1 : m 1 1 = nI nh) (h24 : nh ≤ 24) (h4 : m 1 4 = nI dy) (hb : ∀ h, h < nh → m 1 (90 + 14 * h + 3) = -1 ∨ ∃ c, c < 3 ∧ m 1 (90 + 14 * h + 3) = nI c) :
    ∃ (m' : z_S) (M0 : Nat → Int32), z_lp2 (lb_X10_dayGoes_118 (nI dy) x9) z_Fu (0 : Int32) m = some (x9, m') ∧ dEnd (nI dy) nh (m 1) M0 ∧ m' 1 = un M0 4 (nI (dy + 1)) ∧ (∀ a, a ≠ 1 → m' a = m a) ∧ rSum M0 nh 6 = rSum (m 1) nh 6 := by
  have fin : ∀ (σ : z_S) (M0 : Nat → Int32), σ 1 = M0 → M0 4 = nI dy → (z_cki (4 : Int32) 537 <| z_cki (4 : Int32) 537 <| z_let (z_u σ 1 (4 : Int32).toNatClampNeg ((σ 1 (4 : Int32).toNatClampNeg) + (1 : Int32))) fun σ21 => some (x9, σ21)) = some (x9, z_u σ 1 4 (nI (dy + 1))) := by
    intro σ M0 e1 e4
    rw [k_4, k_4, c_4, p_let, e1, e4, zl_1, nI_add]
  by_cases sun : nI dy - nI dy / 7 * 7 = 6
  · refine p_ex2 (fun r => ∃ (m' : z_S) (M0 : Nat → Int32), r = some (x9, m') ∧ dEnd (nI dy) nh (m 1) M0 ∧ m' 1 = un M0 4 (nI (dy + 1)) ∧ (∀ a, a ≠ 1 → m' a = m a) ∧ rSum M0 nh 6 = rSum (m 1) nh 6)
      (fun i (x : Int32) (σ : z_S) => x = nI i ∧ rsW i (tpP (m 1) i) (σ 1) ∧ ∀ a, a ≠ 1 → σ a = m a) nh (by omega) ⟨rfl, ⟨fun h hh => absurd hh (Nat.not_lt_zero _), fun _ _ => rfl⟩, fun _ _ => rfl⟩ ?_ ?_
    · rintro i x σ hi ⟨rfl, hr, ho⟩
      left
      have hlo := tpP_lo hb h24 i (by omega)
      have hP3 : tpP (m 1) i (90 + 14 * i + 3) = -1 ∨ ∃ c, c < 3 ∧ tpP (m 1) i (90 + 14 * i + 3) = nI c := by
        rw [hlo _ (by omega)]; exact hb i hi
      have hσ3 : σ 1 (90 + 14 * i + 3) = tpP (m 1) i (90 + 14 * i + 3) := hr.2 _ (fun h hh => by omega)
      have hσ1 : σ 1 1 = nI nh := by rw [hr.2 1 (fun h hh => by omega), hlo 1 (by omega)]; exact h1
      obtain ⟨m', f1, f2, f3⟩ := m_tips (m := σ) (h := i) (by omega) (by rw [hσ3]; exact hP3)
      refine ⟨nI (i + 1), m', ⟨rfl, ?_, fun a ha => by rw [f3 a ha, ho a ha]⟩, fun kk => ?_⟩
      · rw [f2]
        exact rsW_step hr (by omega) hP3
      · unfold lb_X10_dayGoes_118
        rw [k_1, c_1, hσ1, p_let, if_neg (nI_ge hi (by omega)), p_ck (by decide), if_pos sun, f1, p_b1, p_let, zl_1, nI_add]
    · rintro x σ ⟨rfl, hr, ho⟩
      have hlo := tpP_lo hb h24 nh (Nat.le_refl _)
      refine ⟨some (x9, z_u σ 1 4 (nI (dy + 1))), ⟨_, σ 1, rfl, ⟨fun _ => hr, fun q => absurd sun q⟩, un_u, fun a ha => by rw [u_o ha, ho a ha], sI_congr (fun i hi => ?_)⟩, fun kk => ?_⟩
      · rw [hr.2 _ (fun h hh => by omega), hlo _ (by omega)]
      · unfold lb_X10_dayGoes_118
        rw [k_1, c_1, hr.2 1 (fun h hh => by omega), hlo 1 (by omega), h1, p_let, if_pos (nI_le (Nat.le_refl _) (by omega))]
        exact fin σ (σ 1) rfl (by rw [hr.2 4 (fun h hh => by omega), hlo 4 (by omega)]; exact h4)
  · refine p_ex2 (fun r => ∃ (m' : z_S) (M0 : Nat → Int32), r = some (x9, m') ∧ dEnd (nI dy) nh (m 1) M0 ∧ m' 1 = un M0 4 (nI (dy + 1)) ∧ (∀ a, a ≠ 1 → m' a = m a) ∧ rSum M0 nh 6 = rSum (m 1) nh 6)
      (fun i (x : Int32) (σ : z_S) => i = 0 ∧ x = nI 0 ∧ σ = m) 0 (by omega) ⟨rfl, rfl, rfl⟩ (fun i _ _ hi => absurd hi (Nat.not_lt_zero _)) ?_
    rintro x σ ⟨-, rfl, rfl⟩
    refine ⟨some (x9, z_u σ 1 4 (nI (dy + 1))), ⟨_, σ 1, rfl, ⟨fun q => absurd q sun, fun _ _ _ => rfl⟩, un_u, fun a ha => u_o ha, rfl⟩, fun kk => ?_⟩
    unfold lb_X10_dayGoes_118
    rw [k_1, c_1, h1, p_let, p_ck (by decide), if_neg sun]
    have e := fin σ (σ 1) rfl h4
    by_cases q : nI nh ≤ nI 0
    · rw [if_pos q]; exact e
    · rw [if_neg q]; exact e
end MDAY2
