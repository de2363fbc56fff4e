/-! THE PURE PART. 28: a day of the model -/
def rowC (Y : Nat → Int32) (h w : Nat) : Nat → Int32 := un (un (un Y (90 + 14 * h + w) (Y (90 + 14 * h + w) + Y (90 + 14 * h + 1))) (90 + 14 * h + 11) (Y (90 + 14 * h + 11) + 1)) (90 + 14 * h + 12) (Y (90 + 14 * h + 12) + 1)
def rowD (Y : Nat → Int32) (c h : Nat) (v : Int32) : Nat → Int32 := un (un (un (un Y (426 + 7 * c + 2) (Y (426 + 7 * c + 2) + v)) (90 + 14 * h + 6) (Y (90 + 14 * h + 6) + Y (90 + 14 * h + 1))) (90 + 14 * h + 13) 1) (426 + 7 * c + 6) (Y (426 + 7 * c + 6) + Y (90 + 14 * h + 1))
section MROW
theorem m_become {σ : z_S} {h w : Nat} (hh : h < 24) (hw : w < 14) : f_X10_become (nI h) (nI w) σ = some (z_u σ 1 (90 + 14 * h + w) (σ 1 (90 + 14 * h + w) + σ 1 (90 + 14 * h + 1))) := by
  unfold f_X10_become
  rw [m_of (by omega), p_b1, zl_1, m_of (by omega), p_b1, m_lays (by omega), p_b1]
theorem m_complains {σ : z_S} {h : Nat} (hh : h < 24) : f_X10_complains (nI h) σ = some (z_u (z_u σ 1 (90 + 14 * h + 11) (σ 1 (90 + 14 * h + 11) + 1)) 1 (90 + 14 * h + 12) (σ 1 (90 + 14 * h + 12) + 1)) := by
  unfold f_X10_complains
  rw [zl_11, zl_12, m_of (by omega), p_b1, m_lays (by omega), p_b1, m_of (by omega), p_b1, m_lays (by omega), p_b1, u_j (by omega)]
theorem m_rowC {σ : z_S} {h w : Nat} (hh : h < 24) (hw : w < 11) : ∃ σ1 σ2, f_X10_become (nI h) (nI w) σ = some σ1 ∧ f_X10_complains (nI h) σ1 = some σ2 ∧ σ2 1 = rowC (σ 1) h w ∧ ∀ a, a ≠ 1 → σ2 a = σ a := by
  refine ⟨_, _, m_become hh (by omega), m_complains hh, ?_, fun a ha => by rw [u_o ha, u_o ha, u_o ha]⟩
  rw [un_u, un_u, un_u, un_j (by omega), un_j (by omega)]
  rfl
theorem m_delivers_B {σ : z_S} {h c : Nat} {d : Int32} (hh : h < 24) (hc : c < 3) (ho : oX (σ 1) h d) (hb : σ 1 (426 + 7 * c + 2) = 0) : ∃ σ2, f_X10_delivers (nI c) (nI h) d σ = some (0, σ2) ∧ σ2 1 = rowC (σ 1) h 8 ∧ ∀ a, a ≠ 1 → σ2 a = σ a := by
  obtain ⟨σ1, σ2, f1, f2, f3, f4⟩ := m_rowC (σ := σ) hh (w := 8) (by omega)
  refine ⟨σ2, ?_, f3, f4⟩
  unfold f_X10_delivers
  rw [m_out hh, p_b1, p_let, p_let, show (if tb (oX (σ 1) h d) = (0 : Int32) then _ else _) = _ from p_tbT ho, zl_2, m_ofCarrier (by omega), p_b1, if_pos hb]
  show (z_b1 (f_X10_become (nI h) (nI 8) σ) fun σ22 => z_b1 (f_X10_complains (nI h) σ22) fun σ24 => some ((0 : Int32), σ24)) = _
  rw [f1, p_b1, f2, p_b1]
theorem m_delivers_D {σ : z_S} {h c : Nat} {d : Int32} (hh : h < 24) (hc : c < 3) (hb : ¬ (oX (σ 1) h d ∧ σ 1 (426 + 7 * c + 2) = 0)) : ∃ σ2, f_X10_delivers (nI c) (nI h) d σ = some (1, σ2) ∧ σ2 1 = rowD (σ 1) c h (cif (oX (σ 1) h d) (-1) 0) ∧ ∀ a, a ≠ 1 → σ2 a = σ a := by
  have fin : ∀ y4 : Int32, ∃ σ2, (z_b1 (f_X10_addsCarrier (nI c) (2 : Int32) y4 σ) fun σ7 => z_b1 (f_X10_become (nI h) (6 : Int32) σ7) fun σ9 => z_b1 (f_X10_lays (nI h) (13 : Int32) (1 : Int32) σ9) fun σ11 =>
      z_b1 (f_X10_of (nI h) (1 : Int32) σ11) fun r13 => z_b1 (f_X10_addsCarrier (nI c) (6 : Int32) r13 σ11) fun σ15 => some ((1 : Int32), σ15)) = some (1, σ2) ∧ σ2 1 = rowD (σ 1) c h y4 ∧ ∀ a, a ≠ 1 → σ2 a = σ a := by
    intro y4
    obtain ⟨s1, hs1⟩ : ∃ s, s = z_u σ 1 (426 + 7 * c + 2) (σ 1 (426 + 7 * c + 2) + y4) := ⟨_, rfl⟩
    obtain ⟨s2, hs2⟩ : ∃ s, s = z_u s1 1 (90 + 14 * h + 6) (s1 1 (90 + 14 * h + 6) + s1 1 (90 + 14 * h + 1)) := ⟨_, rfl⟩
    obtain ⟨s3, hs3⟩ : ∃ s, s = z_u s2 1 (90 + 14 * h + 13) 1 := ⟨_, rfl⟩
    have e1 : s1 1 = un (σ 1) (426 + 7 * c + 2) (σ 1 (426 + 7 * c + 2) + y4) := by rw [hs1, un_u]
    have e2 : s2 1 = un (s1 1) (90 + 14 * h + 6) (s1 1 (90 + 14 * h + 6) + s1 1 (90 + 14 * h + 1)) := by rw [hs2, un_u]
    have e3 : s3 1 = un (s2 1) (90 + 14 * h + 13) 1 := by rw [hs3, un_u]
    refine ⟨z_u s3 1 (426 + 7 * c + 6) (s3 1 (426 + 7 * c + 6) + s3 1 (90 + 14 * h + 1)), ?_, ?_, fun a ha => by rw [u_o ha, hs3, u_o ha, hs2, u_o ha, hs1, u_o ha]⟩
    · rw [zl_2, m_addsC (by omega), p_b1, ← hs1, zl_6, m_become hh (by omega), p_b1, ← hs2, zl_13, m_lays (by omega), p_b1, ← hs3, show f_X10_of (nI h) 1 s3 = some (s3 1 (90 + 14 * h + 1)) from m_of (b := 1) (by omega), p_b1, m_addsC (by omega), p_b1]
    · rw [un_u, e3, e2, e1]
      simp (disch := omega) only [un_j]
      rfl
  unfold f_X10_delivers
  rw [m_out hh, p_b1, p_let, p_let]
  by_cases ho : oX (σ 1) h d
  · rw [show (if tb (oX (σ 1) h d) = (0 : Int32) then _ else _) = _ from p_tbT ho, show f_X10_ofCarrier (nI c) (2 : Int32) σ = some (σ 1 (426 + 7 * c + 2)) from m_ofCarrier (b := 2) (by omega), p_b1, if_neg (fun q => hb ⟨ho, q⟩)]
    dsimp only
    rw [show (if tb (oX (σ 1) h d) = (0 : Int32) then _ else _) = _ from p_tbT ho, cif_t ho]
    exact fin _
  · rw [show (if tb (oX (σ 1) h d) = (0 : Int32) then _ else _) = _ from p_tbF ho]
    dsimp only
    rw [show (if tb (oX (σ 1) h d) = (0 : Int32) then _ else _) = _ from p_tbF ho, cif_f ho]
    exact fin _
end MROW
section MDAY
variable {n : Nat → Int32} {np nc nh nk dy : Nat} {ah pl : Nat → Nat} {W : Nat → Int32 × Int32} {d : Int32} {R : Nat → Nat}
theorem rowC_sum {Y : Nat → Int32} {h w : Nat} (hw : w ≠ 6) (hw2 : w < 14) : rSum (rowC Y h w) nh 6 = rSum Y nh 6 := by
  refine sI_congr (fun i hi => ?_)
  show rowC Y h w (90 + 14 * i + 6) = Y (90 + 14 * i + 6)
  unfold rowC
  rw [un_j (by omega), un_j (by omega), un_j (by omega)]
theorem rowD_sum {Y : Nat → Int32} {c h : Nat} {v : Int32} (h24 : nh ≤ 24) (hh : h < nh) : rSum (rowD Y c h v) nh 6 = rSum Y nh 6 + Y (90 + 14 * h + 1) := by
  refine rSum_ptb hh ?_ (fun i hi hne => ?_)
  · unfold rowD
    rw [un_j (by omega), un_j (by omega), un_i]
  · unfold rowD
    rw [un_j (by omega), un_j (by omega), un_j (by omega), un_j (by omega)]
/-- which houses are done when carrier c is at the i-th house -/
def Sm (n : Nat → Int32) (np : Nat) (d : Int32) (R : Nat → Nat) (c i k : Nat) : Prop := pz n np (nI (R k)) d ∨ n (90 + 14 * R k + 3) = -1 ∨ (∃ e, e < c ∧ n (90 + 14 * R k + 3) = nI e) ∨ (n (90 + 14 * R k + 3) = nI c ∧ k < i)
def Km (nh c i e : Nat) : Nat := if e < c then nh else if e = c then i else 0
noncomputable def vS (n : Nat → Int32) (np : Nat) (d : Int32) (c : Nat) (Y : Nat → Int32) (h : Nat) : Nat → Int32 :=
  cif (n (90 + 14 * h + 3) = nI c ∧ ¬ pz n np (nI h) d) (cif (lmN n c < wtN n d h) (rowC Y h 9) (cif (oX n h d ∧ Y (426 + 7 * c + 2) = 0) (rowC Y h 8) (rowD Y c h (cif (oX n h d) (-1) 0)))) Y
noncomputable def vN (n : Nat → Int32) (np : Nat) (d : Int32) (R : Nat → Nat) (c : Nat) (Y0 : Nat → Int32) : Nat → Nat → Int32
  | 0 => Y0
  | i + 1 => vS n np d c (vN n np d R c Y0 i) (R i)
noncomputable def vD (n : Nat → Int32) (np : Nat) (d : Int32) (R : Nat → Nat) (c : Nat) : Nat → Int32
  | 0 => 0
  | i + 1 => cif (hDlv n np d R c i) (vD n np d R c i + n (90 + 14 * R i + 1)) (vD n np d R c i)
theorem m_vstep {Y : Nat → Int32} {tr : Nat → Prop} {c i : Nat} (hP : PR n np d R nh W Y (Sm n np d R c i) (Km nh c i) tr) (h24 : nh ≤ 24) (hi : i < nh) (hc : c < 3) (hR : ∀ k, k < nh → R k < nh) (hinj : ∀ j, j < nh → R j = R i → j = i) :
    PR n np d R nh W (vS n np d c Y (R i)) (Sm n np d R c (i + 1)) (Km nh c (i + 1)) tr ∧ (∀ dl : Int32, rSum Y nh 6 = dl → rSum (vS n np d c Y (R i)) nh 6 = cif (hDlv n np d R c i) (dl + n (90 + 14 * R i + 1)) dl) := by
  have hRi := hR i hi
  have hst := hP.1
  have hkk : ∀ j, j < nh → j ≠ i → (Sm n np d R c (i + 1) j ↔ Sm n np d R c i j) := by
    intro j hj hne
    unfold Sm
    constructor
    · rintro (q | q | q | ⟨q, q2⟩)
      · exact Or.inl q
      · exact Or.inr (Or.inl q)
      · exact Or.inr (Or.inr (Or.inl q))
      · exact Or.inr (Or.inr (Or.inr ⟨q, by omega⟩))
    · rintro (q | q | q | ⟨q, q2⟩)
      · exact Or.inl q
      · exact Or.inr (Or.inl q)
      · exact Or.inr (Or.inr (Or.inl q))
      · exact Or.inr (Or.inr (Or.inr ⟨q, by omega⟩))
  have hK0 : Km nh c i c = i := by unfold Km; rw [if_neg (by omega), if_pos rfl]
  have hK1 : Km nh c (i + 1) c = i + 1 := by unfold Km; rw [if_neg (by omega), if_pos rfl]
  have hKe : ∀ e, e ≠ c → Km nh c (i + 1) e = Km nh c i e := by
    intro e he
    unfold Km
    by_cases q : e < c
    · rw [if_pos q, if_pos q]
    · rw [if_neg q, if_neg q, if_neg he, if_neg he]
  obtain ⟨p2, p6, -⟩ := hP.2.2.2 c hc
  rw [hK0] at p2 p6
  by_cases hq : n (90 + 14 * R i + 3) = nI c ∧ ¬ pz n np (nI (R i)) d
  · have hSi : ¬ Sm n np d R c i i := by
      rintro (q | q | ⟨e, e1, e2⟩ | ⟨q, q2⟩)
      · exact hq.2 q
      · exact nI_m1 (a := c) (by omega) (by rw [← hq.1]; exact q)
      · exact nI_ne (a := e) (b := c) (by omega) (by omega) (by omega) (e2.symm.trans hq.1)
      · omega
    have hSi1 : Sm n np d R c (i + 1) i := Or.inr (Or.inr (Or.inr ⟨hq.1, Nat.lt_succ_self i⟩))
    have hbl : ∀ w, 6 ≤ w → w < 14 → Y (90 + 14 * R i + w) = n (90 + 14 * R i + w) := fun w w1 w2 => (hP.2.1 i hi w w1 w2).2 hSi
    have y1 : Y (90 + 14 * R i + 1) = n (90 + 14 * R i + 1) := hst.2.1 (R i) 1 (by omega) (by omega)
    have hl : ¬ n (90 + 14 * R i + 3) = -1 := by rw [hq.1]; exact nI_m1 (by omega)
    unfold vS
    rw [cif_t hq]
    by_cases hw : lmN n c < wtN n d (R i)
    · have nact : ¬ hAct n np d c (R i) := fun q => by have := q.2.2; omega
      rw [cif_t hw]
      refine ⟨hP.step h24 hi hR hinj (c := c) (fun j h1 h2 => ?_) (fun w w1 w2 => ?_) hkk hSi1 (fun _ => ?_) (fun e he hne => by rw [hKe e hne]; exact ⟨rfl, rfl⟩), fun dl hdl => ?_⟩
      · unfold rowC
        rw [un_j (by omega), un_j (by omega), un_j (by omega)]
      · unfold bF rowC
        rw [cif_f hq.2, cif_f hl, hq.1, p_cl (by omega), cif_t hw]
        have w8 : w = 6 ∨ w = 7 ∨ w = 8 ∨ w = 9 ∨ w = 10 ∨ w = 11 ∨ w = 12 ∨ w = 13 := by omega
        rcases w8 with rfl | rfl | rfl | rfl | rfl | rfl | rfl | rfl
        · simp (disch := omega) only [un_i, un_j, hbl]; rfl
        · simp (disch := omega) only [un_i, un_j, hbl]; rfl
        · simp (disch := omega) only [un_i, un_j, hbl]; rfl
        · simp (disch := omega) only [un_i, un_j, hbl, y1]; rfl
        · simp (disch := omega) only [un_i, un_j, hbl]; rfl
        · simp (disch := omega) only [un_i, un_j, hbl]; rfl
        · simp (disch := omega) only [un_i, un_j, hbl]; rfl
        · simp (disch := omega) only [un_i, un_j, hbl]; rfl
      · unfold rowC
        rw [hK1, un_j (by omega), un_j (by omega), un_j (by omega), un_j (by omega), un_j (by omega), un_j (by omega), p2, p6]
        exact ⟨(cif_f (fun q => nact q.1)).symm, (cif_f (fun q => nact q.1)).symm⟩
      · rw [rowC_sum (by omega) (by omega), cif_f (fun q => nact q.1), hdl]
    · have hact : hAct n np d c (R i) := ⟨hq.1, hq.2, by omega⟩
      rw [cif_f hw]
      by_cases hob : oX n (R i) d ∧ Y (426 + 7 * c + 2) = 0
      · rw [cif_t hob]
        have ndl : ¬ hDlv n np d R c i := fun q => q.2 ⟨hob.1, by rw [← p2]; exact hob.2⟩
        refine ⟨hP.step h24 hi hR hinj (c := c) (fun j h1 h2 => ?_) (fun w w1 w2 => ?_) hkk hSi1 (fun _ => ?_) (fun e he hne => by rw [hKe e hne]; exact ⟨rfl, rfl⟩), fun dl hdl => ?_⟩
        · unfold rowC
          rw [un_j (by omega), un_j (by omega), un_j (by omega)]
        · unfold bF rowC
          rw [cif_f hq.2, cif_f hl, hq.1, p_cl (by omega), cif_f hw, cif_t ⟨hob.1, by rw [← p2]; exact hob.2⟩]
          have w8 : w = 6 ∨ w = 7 ∨ w = 8 ∨ w = 9 ∨ w = 10 ∨ w = 11 ∨ w = 12 ∨ w = 13 := by omega
          rcases w8 with rfl | rfl | rfl | rfl | rfl | rfl | rfl | rfl
          · simp (disch := omega) only [un_i, un_j, hbl]; rfl
          · simp (disch := omega) only [un_i, un_j, hbl]; rfl
          · simp (disch := omega) only [un_i, un_j, hbl, y1]; rfl
          · simp (disch := omega) only [un_i, un_j, hbl]; rfl
          · simp (disch := omega) only [un_i, un_j, hbl]; rfl
          · simp (disch := omega) only [un_i, un_j, hbl]; rfl
          · simp (disch := omega) only [un_i, un_j, hbl]; rfl
          · simp (disch := omega) only [un_i, un_j, hbl]; rfl
        · unfold rowC
          rw [hK1, un_j (by omega), un_j (by omega), un_j (by omega), un_j (by omega), un_j (by omega), un_j (by omega), p2, p6]
          refine ⟨(cif_f (fun q => q.2.2 (by rw [← p2]; exact hob.2))).symm, (cif_f ndl).symm⟩
        · rw [rowC_sum (by omega) (by omega), cif_f ndl, hdl]
      · rw [cif_f hob]
        have hdlv : hDlv n np d R c i := ⟨hact, fun q => hob ⟨q.1, by rw [p2]; exact q.2⟩⟩
        refine ⟨hP.step h24 hi hR hinj (c := c) (fun j h1 h2 => ?_) (fun w w1 w2 => ?_) hkk hSi1 (fun _ => ?_) (fun e he hne => by rw [hKe e hne]; exact ⟨rfl, rfl⟩), fun dl hdl => ?_⟩
        · have := h2 hc
          unfold rowD
          rw [un_j (by omega), un_j (by omega), un_j (by omega), un_j (by omega)]
        · unfold bF rowD
          rw [cif_f hq.2, cif_f hl, hq.1, p_cl (by omega), cif_f hw, cif_f (show ¬ (oX n (R i) d ∧ k2 n np d R c i = 0) from by rw [← p2]; exact hob)]
          have w8 : w = 6 ∨ w = 7 ∨ w = 8 ∨ w = 9 ∨ w = 10 ∨ w = 11 ∨ w = 12 ∨ w = 13 := by omega
          rcases w8 with rfl | rfl | rfl | rfl | rfl | rfl | rfl | rfl
          · simp (disch := omega) only [un_i, un_j, hbl, y1]; rfl
          · simp (disch := omega) only [un_i, un_j, hbl]; rfl
          · simp (disch := omega) only [un_i, un_j, hbl]; rfl
          · simp (disch := omega) only [un_i, un_j, hbl]; rfl
          · simp (disch := omega) only [un_i, un_j, hbl]; rfl
          · simp (disch := omega) only [un_i, un_j, hbl]; rfl
          · simp (disch := omega) only [un_i, un_j, hbl]; rfl
          · simp (disch := omega) only [un_i, un_j, hbl]; rfl
        · unfold rowD
          rw [hK1, un_j (by omega), un_j (by omega), un_j (by omega), un_i, un_i, p2, p6, y1]
          refine ⟨?_, (cif_t hdlv).symm⟩
          by_cases ho : oX n (R i) d
          · rw [cif_t ho]
            exact (cif_t ⟨hact, ho, fun q => hob ⟨ho, by rw [p2]; exact q⟩⟩).symm
          · rw [cif_f ho, Int32.add_zero]
            exact (cif_f (fun q => ho q.2.1)).symm
        · rw [rowD_sum h24 hRi, cif_t hdlv, hdl, y1]
  · have hq' : ¬ hAct n np d c (R i) := fun q => hq ⟨q.1, q.2.1⟩
    unfold vS
    rw [cif_f hq]
    refine ⟨hP.imp (fun j hj => ?_) (fun e he => ?_) (fun _ _ => Iff.rfl), fun dl hdl => by rw [cif_f (fun q => hq' q.1), hdl]⟩
    · by_cases e : j = i
      · subst e
        unfold Sm
        constructor
        · rintro (q | q | q | ⟨q, q2⟩)
          · exact Or.inl q
          · exact Or.inr (Or.inl q)
          · exact Or.inr (Or.inr (Or.inl q))
          · by_cases hz : pz n np (nI (R j)) d
            · exact Or.inl hz
            · exact absurd ⟨q, hz⟩ hq
        · rintro (q | q | q | ⟨q, q2⟩)
          · exact Or.inl q
          · exact Or.inr (Or.inl q)
          · exact Or.inr (Or.inr (Or.inl q))
          · omega
      · exact hkk j hj e
    · by_cases q : e = c
      · rw [q, hK1, hK0]
        exact ⟨cif_f (fun q => hq' q.1), cif_f (fun q => hq' q.1)⟩
      · rw [hKe e q]; exact ⟨rfl, rfl⟩
end MDAY
