/-! p30, THE PURE PART. 14: rounds told ahead, and what a house would add to them -/
section AP
variable {T : z_S} {n : Nat → Int32} {nc nh nk np dy : Nat} {ah pl ah' pl' : Nat → Nat}
theorem RT.ap (h : RT T n nc nh nk np dy ah' pl') (ha : ∀ k, 1 ≤ k → k < nc → ah k = ah' k) (hp : ∀ h, h < nh → pl h = pl' h) : RT T n nc nh nk np dy ah pl := by
  obtain ⟨⟨⟨a0, a1, a2, hA, a4⟩, h2, h1, h10⟩, ⟨⟨p0, p1, p2⟩, h11, hh⟩, hO, rest⟩ := h
  have et : tO ah nc = tO ah' nc := tO_congr hA ha
  refine ⟨⟨⟨a0, a1, a2, fun k q1 q2 => by rw [ha k q1 q2]; exact hA k q1 q2, fun k q1 q2 => by rw [ha k q1 q2]; exact a4 k q1 q2⟩, h2, fun k hk => ?_, fun k hk => by rw [et]; exact h10 k hk⟩, ⟨⟨p0, p1, fun h q => by rw [hp h q]; exact p2 h q⟩, h11, hh⟩, fun k hk => ?_, rest⟩
  · obtain ⟨c1, c2, c3, c4, c5, c6, c7, c8⟩ := h1 k hk
    refine ⟨c1, c2, c3, c4, ?_, ?_, ?_, c8⟩
    · rw [c5]
      unfold tD
      rw [tf_congr (ah := ah') (ah' := ah) k (fun j q1 q2 => ⟨hA j q1 (by omega), ha j q1 (by omega), rfl⟩)]
    · rw [c6]
      unfold rDis
      rw [tf_congr (ah := ah') (ah' := ah) k (fun j q1 q2 => ⟨hA j q1 (by omega), ha j q1 (by omega), rfl⟩)]
    · rw [c7]
      unfold rCrt
      rw [tf_congr (ah := ah') (ah' := ah) k (fun j q1 q2 => ⟨hA j q1 (by omega), ha j q1 (by omega), rfl⟩)]
  · rw [hO k hk]
    unfold tR
    rw [et, hL_congr (o := tO ah' nc) (pl := pl') (o' := tO ah' nc) (pl' := pl) (fun _ _ => rfl) hp]
end AP
section RND
variable {x m : z_S} {nc nh nk np dy : Nat} {ah pl : Nat → Nat}
theorem XT.to (X : XT x m nc nh nk np dy ah pl) {x' m' : z_S} (hR : RX x' m') (hn : ∀ i, i < 90 → i ≠ 5 → i ≠ 6 → m' 1 i = m 1 i) (hp : ∀ h, h < nh → m' 1 (90 + 14 * h + 0) = m 1 (90 + 14 * h + 0)) : XT x' m' nc nh nk np dy ah pl := by
  obtain ⟨nc', nh', nk', np', dy', ah', pl', X'⟩ := hR.ex
  obtain ⟨n0, n1, n2, n3, n4⟩ := X.n
  obtain ⟨c0, c1, c2, c3, c4, c5⟩ := X.b
  obtain ⟨n0', n1', n2', n3', n4'⟩ := X'.n
  obtain ⟨c0', c1', c2', c3', c4', c5'⟩ := X'.b
  have q0 : nc' = nc := (nI_eq (by omega) (by omega)).mp (n0'.symm.trans ((hn 0 (by omega) (by omega) (by omega)).trans n0))
  have q1 : nh' = nh := (nI_eq (by omega) (by omega)).mp (n1'.symm.trans ((hn 1 (by omega) (by omega) (by omega)).trans n1))
  have q2 : nk' = nk := (nI_eq (by omega) (by omega)).mp (n2'.symm.trans ((hn 2 (by omega) (by omega) (by omega)).trans n2))
  have q3 : np' = np := (nI_eq (by omega) (by omega)).mp (n3'.symm.trans ((hn 3 (by omega) (by omega) (by omega)).trans n3))
  have q4 : dy' = dy := (nI_eq (by omega) (by omega)).mp (n4'.symm.trans ((hn 4 (by omega) (by omega) (by omega)).trans n4))
  subst q0; subst q1; subst q2; subst q3; subst q4
  refine ⟨hR, X'.2.ap (fun k h1 h2 => ?_) (fun h hh => ?_)⟩
  · have e := X.2.1.1.2.2.2.2 k h1 h2
    have e' := X'.2.1.1.2.2.2.2 k h1 h2
    have l := X.2.1.1.2.2.2.1 k h1 h2
    have l' := X'.2.1.1.2.2.2.1 k h1 h2
    rw [hn _ (by omega) (by omega) (by omega), e] at e'
    exact (nI_eq (by omega) (by omega)).mp e'
  · obtain ⟨e, l⟩ := X.2.2.1.1.2.2 h hh
    obtain ⟨e', l'⟩ := X'.2.2.1.1.2.2 h hh
    rw [hp h hh, e] at e'
    exact (nI_eq (by omega) (by omega)).mp e'
theorem XT.same (X : XT x m nc nh nk np dy ah pl) {x' m' : z_S} (hR : RX x' m') (h1 : m' 1 = m 1) : XT x' m' nc nh nk np dy ah pl := X.to hR (fun i _ _ _ => by rw [h1]) (fun h _ => by rw [h1])
noncomputable def rW (n : Nat → Int32) (nc nh np : Nat) (ah pl : Nat → Nat) (c : Nat) (d : Int32) : wS := WK n nc nh np ah pl c d (fun h => n (90 + 14 * h + 3) = nI c) nh
noncomputable def rE (n : Nat → Int32) (nc nh np : Nat) (ah pl : Nat → Nat) (c : Nat) (d : Int32) : Int32 := (rW n nc nh np ah pl c d).2.1 + eS n ah nc (n (426 + 7 * c + 0)) (rW n nc nh np ah pl c d).2.2.2.2.2
theorem v_round (X : XT x m nc nh nk np dy ah pl) {c : Nat} (hc : c < nk) {d : Int32} (hd : nI dy ≤ d ∧ d ≤ 999) : ∃ x', RX x' m ∧ f_X9_round (nI c) d 0 x = some (nI (rW (m 1) nc nh np ah pl c d).1, x') ∧ f_X9_round (nI c) d 1 x = some (rE (m 1) nc nh np ah pl c d, x') ∧ f_X9_round (nI c) d 2 x = some ((rW (m 1) nc nh np ah pl c d).2.2.1, x') ∧ f_X9_round (nI c) d 3 x = some ((rW (m 1) nc nh np ah pl c d).2.2.2.1, x') := by
  have X0 := X
  obtain ⟨hR0, hC, hH, hO, hK, hP, hS, hA, z1, z2⟩ := X
  have h24 := hH.1.2.1
  have h3 := hK.2.1
  have e192 : x 192 0 = nI dy := hS.1.2.2
  obtain ⟨⟨t, e, p, dg, o, D⟩, hW⟩ : ∃ s : wS, rW (m 1) nc nh np ah pl c d = s := ⟨_, rfl⟩
  have hW' : WK (m 1) nc nh np ah pl c d (fun h => m 1 (90 + 14 * h + 3) = nI c ∨ nI h = -1) nh = (t, e, p, dg, o, D) := by
    rw [← hW]
    refine wk_congr (fun _ => rfl) nh (fun i hi => ⟨?_, rfl, rfl, rfl⟩)
    have hlt := tR_lt (ah := ah) hC.1.2.1 hC.1.2.2.2.1 (fun h hh => (hH.1.2.2 h hh).2) hi
    exact ⟨fun q => ⟨q.1.elim id (fun e => absurd e (nI_m1 (by omega))), q.2⟩, fun q => ⟨Or.inl q.1, q.2⟩⟩
  obtain ⟨σ', f1, g⟩ := x_goX hR0 X0.2 hc d (-1) hW'
  obtain ⟨g1, g2, g3, g4, g5, g6, g7⟩ := g
  obtain ⟨r1, r2⟩ := RX_TW hR0 g1 g2 g7
  have hrE : rE (m 1) nc nh np ah pl c d = e + eS (m 1) ah nc (m 1 (426 + 7 * c + 0)) D := by
    unfold rE
    rw [hW]
  rw [hrE, hW]
  refine ⟨z_m x zk_X_TW 40 σ', r1, ?_, ?_, ?_, ?_⟩
  · unfold f_X9_round
    rw [x_hasK hK.2.2.1 h3, p_b1, p_tbT ⟨c, hc, rfl⟩, w_tb, p_b1, e192, p_tbT hd, w_tb, p_b1, p_tbT (by decide), f1, p_b1, p_let, if_pos rfl, r2, g3]
  · unfold f_X9_round
    rw [x_hasK hK.2.2.1 h3, p_b1, p_tbT ⟨c, hc, rfl⟩, w_tb, p_b1, e192, p_tbT hd, w_tb, p_b1, p_tbT (by decide), f1, p_b1, p_let, if_neg (by decide), if_pos rfl, r2, g4]
  · unfold f_X9_round
    rw [x_hasK hK.2.2.1 h3, p_b1, p_tbT ⟨c, hc, rfl⟩, w_tb, p_b1, e192, p_tbT hd, w_tb, p_b1, p_tbT (by decide), f1, p_b1, p_let, if_neg (by decide), if_neg (by decide), if_pos rfl, r2, g5]
  · unfold f_X9_round
    rw [x_hasK hK.2.2.1 h3, p_b1, p_tbT ⟨c, hc, rfl⟩, w_tb, p_b1, e192, p_tbT hd, w_tb, p_b1, p_tbT (by decide), f1, p_b1, p_let, if_neg (by decide), if_neg (by decide), if_neg (by decide), r2, g6]
/-- the round with a house more is the round of the town in which it is given -/
theorem WK_guest (X : XT x m nc nh nk np dy ah pl) {c k : Nat} (hc : c < nk) (hk : k < nh) (d : Int32) :
    WK (un (m 1) (90 + 14 * k + 3) (nI c)) nc nh np ah pl c d (fun h => un (m 1) (90 + 14 * k + 3) (nI c) (90 + 14 * h + 3) = nI c) nh = WK (m 1) nc nh np ah pl c d (fun h => m 1 (90 + 14 * h + 3) = nI c ∨ nI h = nI k) nh ∧ ∀ D, eS (un (m 1) (90 + 14 * k + 3) (nI c)) ah nc (un (m 1) (90 + 14 * k + 3) (nI c) (426 + 7 * c + 0)) D = eS (m 1) ah nc (m 1 (426 + 7 * c + 0)) D := by
  obtain ⟨hR0, hC, hH, hO, hK, hP, hS, hA, z1, z2⟩ := X
  have h20 := hC.1.2.2.1
  have h24 := hH.1.2.1
  have h3 := hK.2.1
  have h30 := hP.2.1
  have hc1 := hC.1.2.1
  have hA' := hC.1.2.2.2.1
  have hpl : ∀ h, h < nh → pl h < nc := fun h hh => (hH.1.2.2 h hh).2
  obtain ⟨n', hn'⟩ : ∃ n', n' = un (m 1) (90 + 14 * k + 3) (nI c) := ⟨_, rfl⟩
  rw [← hn']
  have e3 : n' (90 + 14 * k + 3) = nI c := by rw [hn', un_i]
  have ej : ∀ i, i ≠ 90 + 14 * k + 3 → n' i = m 1 i := fun i hi => by rw [hn', un_j hi]
  have hes : ∀ D, eS n' ah nc (n' (426 + 7 * c + 0)) D = eS (m 1) ah nc (m 1 (426 + 7 * c + 0)) D := fun D => by
    rw [ej _ (by omega)]
    exact eS_congr hA' (fun i h1 h2 => ej i (by omega))
  refine ⟨?_, hes⟩
  unfold WK
  rw [show lmN n' c = lmN (m 1) c from by unfold lmN; rw [ej _ (by omega)]]
  refine wk_congr hes nh (fun i hi => ?_)
  have hlt := tR_lt (ah := ah) hc1 hA' hpl hi
  generalize tR ah pl nc nh i = R at hlt ⊢
  have hpz : pz n' np (nI R) d ↔ pz (m 1) np (nI R) d := by
    constructor
    · rintro ⟨j, hj, u, v, w⟩
      rw [ej _ (by omega)] at u v w
      exact ⟨j, hj, u, v, w⟩
    · rintro ⟨j, hj, u, v, w⟩
      exact ⟨j, hj, by rw [ej _ (by omega)]; exact u, by rw [ej _ (by omega)]; exact v, by rw [ej _ (by omega)]; exact w⟩
  refine ⟨?_, ?_, ej _ (by omega), tb_iff ?_⟩
  · rw [hpz]
    by_cases e : R = k
    · rw [e]
      exact ⟨fun q => ⟨Or.inr rfl, q.2⟩, fun q => ⟨e3, q.2⟩⟩
    · dsimp only
      rw [ej _ (by omega)]
      exact ⟨fun q => ⟨Or.inl q.1, q.2⟩, fun q => ⟨q.1.elim id (fun h => absurd h (nI_ne (by omega) (by omega) e)), q.2⟩⟩
  · show (n' (90 + 14 * R + 1)).toNatClampNeg * (wgI n' d).toNatClampNeg = (m 1 (90 + 14 * R + 1)).toNatClampNeg * (wgI (m 1) d).toNatClampNeg
    unfold wgI
    rw [ej _ (by omega), ej 6 (by omega), ej 5 (by omega)]
  · show (0 < n' (90 + 14 * R + 4) ∧ d - d / n' (90 + 14 * R + 4) * n' (90 + 14 * R + 4) = n' (90 + 14 * R + 5) - n' (90 + 14 * R + 5) / n' (90 + 14 * R + 4) * n' (90 + 14 * R + 4)) ↔ _
    rw [ej _ (by omega), ej _ (by omega)]
    exact Iff.rfl
noncomputable def mE (n : Nat → Int32) (nc nh np : Nat) (ah pl : Nat → Nat) (h : Nat) (d : Int32) (c : Nat) : Int32 := rE (un n (90 + 14 * h + 3) (nI c)) nc nh np ah pl c d - rE n nc nh np ah pl c d
theorem v_more (X : XT x m nc nh nk np dy ah pl) {c k : Nat} (hc : c < nk) (hk : k < nh) (d : Int32) : ∃ σ', f_X8_moreEffort (nI c) d (nI k) (fun q => x (zi_X_TW q)) = some (mE (m 1) nc nh np ah pl k d c, σ') ∧ RX (z_m x zk_X_TW 40 σ') m := by
  have X0 := X
  obtain ⟨hR, hT⟩ := id X
  have hTW := tw_RT hT
  obtain ⟨hC, hH, hO, hK, hP, hS, hA, z1, z2⟩ := id hTW
  have h24 := hH.1.2.1
  obtain ⟨⟨t, e, p, dg, o, D⟩, hW⟩ : ∃ s : wS, rW (m 1) nc nh np ah pl c d = s := ⟨_, rfl⟩
  have hW' : WK (m 1) nc nh np ah pl c d (fun h => m 1 (90 + 14 * h + 3) = nI c ∨ nI h = -1) nh = (t, e, p, dg, o, D) := by
    rw [← hW]
    refine wk_congr (fun _ => rfl) nh (fun i hi => ⟨?_, rfl, rfl, rfl⟩)
    have hlt := tR_lt (ah := ah) hC.1.2.1 hC.1.2.2.2.1 (fun h hh => (hH.1.2.2 h hh).2) hi
    exact ⟨fun q => ⟨q.1.elim id (fun e => absurd e (nI_m1 (by omega))), q.2⟩, fun q => ⟨Or.inl q.1, q.2⟩⟩
  obtain ⟨w1, w2⟩ := WK_guest X0 hc hk d
  obtain ⟨⟨t2, e2, p2, dg2, o2, D2⟩, hW2⟩ : ∃ s : wS, WK (m 1) nc nh np ah pl c d (fun h => m 1 (90 + 14 * h + 3) = nI c ∨ nI h = nI k) nh = s := ⟨_, rfl⟩
  obtain ⟨σ1, f1, g1⟩ := x_goX hR hT hc d (-1) hW'
  have hT1 := hTW.eqT (eqT.c g1.RT)
  obtain ⟨a1, a2, a3, a4, a5, a6, -⟩ := hT1
  obtain ⟨σ2, f2, g2⟩ := x_go a1 a2 a3 a4 a5 a6 hc d (nI k) g1.2.1 g1.2.2.2.2.2.2 hW2
  refine ⟨σ2, ?_, (RX_TW hR (fun a q1 q2 => by rw [g2.1 a q1 q2, g1.1 a q1 q2]) g2.2.1 g2.2.2.2.2.2.2).1⟩
  unfold f_X8_moreEffort
  rw [f1, p_b1, p_let, f2, p_b1, g1.2.2.2.1, g2.2.2.2.1]
  unfold mE rE
  rw [hW, show rW (un (m 1) (90 + 14 * k + 3) (nI c)) nc nh np ah pl c d = (t2, e2, p2, dg2, o2, D2) from w1.trans hW2, w2]
end RND
