/-! THE PURE PART. 26: a day of the class -/
section DAYX
variable {n : Nat → Int32} {np nc nh nk dy : Nat} {ah pl : Nat → Nat} {W : Nat → Int32 × Int32}
theorem x_bringPapers {T : z_S} {Y : Nat → Int32} (hB : RB T Y nc nh nk np dy ah pl 0) (hP : PR n np (nI dy) (tR ah pl nc nh) nh W Y (fun k => k < 0) (fun _ => 0) (fun _ => True)) :
    ∃ T' Y', f_X6_bringPapers T = some T' ∧ RB T' Y' nc nh nk np dy ah pl nh ∧ PR n np (nI dy) (tR ah pl nc nh) nh W Y' (fun k => k < nh) (fun _ => nh) (fun _ => True) := by
  have h24 := hB.2.1.2.1
  obtain ⟨r, ⟨T', Y', h1, h2, h3⟩, h4⟩ : ∃ r, (∃ T' Y', r = some T' ∧ RB T' Y' nc nh nk np dy ah pl nh ∧ PR n np (nI dy) (tR ah pl nc nh) nh W Y' (fun k => k < nh) (fun _ => nh) (fun _ => True)) ∧ f_X6_bringPapers T = r := by
    refine ⟨_, ?_, rfl⟩
    unfold f_X6_bringPapers
    refine p_ex2 (fun r => ∃ T' Y', r = some T' ∧ RB T' Y' nc nh nk np dy ah pl nh ∧ PR n np (nI dy) (tR ah pl nc nh) nh W Y' (fun k => k < nh) (fun _ => nh) (fun _ => True))
      (fun i (x : Int32) (σ : z_S) => x = nI i ∧ ∃ Y, RB σ Y nc nh nk np dy ah pl i ∧ PR n np (nI dy) (tR ah pl nc nh) nh W Y (fun k => k < i) (fun _ => i) (fun _ => True)) nh (by omega) ⟨rfl, Y, hB, hP⟩ ?_ ?_
    · rintro i x σ hi ⟨rfl, Y, h1, h2⟩
      obtain ⟨T', Y', g1, g2, g3⟩ := x_bring_step h1 h2 hi
      exact Or.inl ⟨nI (i + 1), T', ⟨rfl, Y', g2, g3⟩, g1⟩
    · rintro x σ ⟨rfl, Y, h1, h2⟩
      refine ⟨some σ, ⟨σ, Y, rfl, h1, h2⟩, fun kk => ?_⟩
      unfold lb_X6_bringPapers_2
      rw [h1.2.2.1, if_pos (nI_le (Nat.le_refl _) (by omega))]
  exact ⟨T', Y', by rw [h4, h1], h2, h3⟩
/-- town and row when the papers of a day are brought, but the day isn't over -/
def RQ (T : z_S) (Y : Nat → Int32) (nc nh nk np dy : Nat) (ah pl : Nat → Nat) : Prop :=
  rC T Y nc ah ∧ rH T Y nc nh nk (dy + 1) pl ∧ rO T ah pl nc nh ∧ rK T Y nk ∧ rP T Y np ∧ rS T Y dy ∧ rA T Y nh ∧ rZ Y nh nk
theorem RT.RB0 {T : z_S} {Y : Nat → Int32} (h : RT T Y nc nh nk np dy ah pl) : RB T Y nc nh nk np dy ah pl 0 := by
  obtain ⟨a, b, c, d, e, f, g, z⟩ := h
  have hpl : ∀ h, h < nh → pl h < nc := fun h hh => (b.1.2.2 h hh).2
  exact ⟨a, b.1, b.2.1, fun k hk => ⟨fun q => absurd q (Nat.not_lt_zero _), fun _ => b.2.2 _ (tR_lt a.1.2.1 a.1.2.2.2.1 hpl hk)⟩, c, d, e, f, g, z⟩
theorem RB.RQ {T : z_S} {Y : Nat → Int32} (h : RB T Y nc nh nk np dy ah pl nh) : RQ T Y nc nh nk np dy ah pl := by
  obtain ⟨a, b, b11, b1, c, d, e, f, g, z⟩ := h
  have hpl : ∀ h, h < nh → pl h < nc := fun h hh => (b.2.2 h hh).2
  refine ⟨a, ⟨b, b11, fun h hh => ?_⟩, c, d, e, f, g, z⟩
  obtain ⟨k, hk, rfl⟩ := tR_sur a.1.2.1 a.1.2.2.2.1 hpl hh
  exact (b1 k hk).1 hk
theorem RQ.nn {T : z_S} {Y Y' : Nat → Int32} (h : RQ T Y nc nh nk np dy ah pl) (hn : ∀ j, j < 537 → Y' j = Y j) : RQ T Y' nc nh nk np dy ah pl := by
  obtain ⟨a, b, c, d, e, f, g, z1, z2⟩ := h
  have h20 := a.1.2.2.1
  have h24 := b.1.2.1
  have h3 := d.2.1
  have h30 := e.2.1
  exact ⟨rC_congr a (hn 0 (by omega)) (fun i h1 h2 => hn i (by omega)) rfl (fun _ _ _ _ _ => rfl), rH_congr b (hn 1 (by omega)) rfl (fun i h1 h2 => hn i (by omega)) (fun _ _ _ _ _ => rfl), c,
    rK_congr d (hn 2 (by omega)) rfl (fun _ _ _ _ _ => rfl) (fun i h1 h2 => hn i (by omega)), rP_congr e (hn 3 (by omega)) rfl (fun _ _ _ _ _ => rfl) (fun i h1 h2 => hn i (by omega)),
    rS_congr f rfl rfl rfl (hn 4 (by omega)) (hn 5 (by omega)) (hn 6 (by omega)), rA_congr g (fun _ _ => rfl) (fun w h1 h2 => rSum_congr (by omega) (fun i h3 h4 => hn i (by omega))), fun i h1 h2 => by rw [hn i (by omega)]; exact z1 i h1 h2, fun i h1 h2 => by rw [hn i (by omega)]; exact z2 i h1 h2⟩
theorem RQ.eqT {T T' : z_S} {Y : Nat → Int32} (h : RQ T Y nc nh nk np dy ah pl) (he : ∀ q, q < 38 → T' q = T q) : RQ T' Y nc nh nk np dy ah pl := by
  obtain ⟨a, b, c, d, e, f, g, z⟩ := h
  exact ⟨rC_congr a rfl (fun _ _ _ => rfl) (by rw [he 2 (by omega)]) (fun q h1 h2 k hk => by rw [he q (by omega)]), rH_congr b rfl (by rw [he 11 (by omega)]) (fun _ _ _ => rfl) (fun q h1 h2 k hk => by rw [he q (by omega)]), fun k hk => by rw [he 25 (by omega)]; exact c k hk,
    rK_congr d rfl (by rw [he 30 (by omega)]) (fun q h1 h2 k hk => by rw [he q (by omega)]) (fun _ _ _ => rfl), rP_congr e rfl (by rw [he 26 (by omega)]) (fun q h1 h2 k hk => by rw [he q (by omega)]) (fun _ _ _ => rfl),
    rS_congr f (by rw [he 0 (by omega)]) (by rw [he 0 (by omega)]) (by rw [he 0 (by omega)]) rfl rfl rfl, rA_congr g (fun j _ => by rw [he 1 (by omega)]) (fun _ _ _ => rfl), z⟩
/-- the trips and the effort of each carrier on a day -/
noncomputable def dW (n : Nat → Int32) (nc nh nk np : Nat) (ah pl : Nat → Nat) (d : Int32) (c : Nat) : Int32 × Int32 :=
  if c < nk then (nI (WK n nc nh np ah pl c d (fun h => n (90 + 14 * h + 3) = nI c) nh).1, (WK n nc nh np ah pl c d (fun h => n (90 + 14 * h + 3) = nI c) nh).2.1 + eS n ah nc (n (426 + 7 * c + 0)) (WK n nc nh np ah pl c d (fun h => n (90 + 14 * h + 3) = nI c) nh).2.2.2.2.2) else (0, 0)
theorem WK_stA {Y : Nat → Int32} (h : stA n Y) (hA : tA ah nc) (hc1 : 1 ≤ nc) (h20 : nc ≤ 20) (h24 : nh ≤ 24) (h30 : np ≤ 30) (hpl : ∀ h, h < nh → pl h < nc) {c : Nat} (hc : c < 3) {d : Int32} {Q Q' : Nat → Prop} (hQ : ∀ h, h < nh → (Q' h ↔ Q h)) : WK Y nc nh np ah pl c d Q' nh = WK n nc nh np ah pl c d Q nh := by
  unfold WK
  rw [h.lmN hc, h.2.2.1 c 0 hc (by omega)]
  refine wk_congr (fun D => eS_congr hA (fun i h1 h2 => h.1 i (by omega))) nh (fun i hi => ?_)
  have hlt := tR_lt (ah := ah) hc1 hA hpl hi
  exact ⟨by rw [h.pz h30, hQ _ hlt], h.wtN (by omega), h.2.1 _ 1 (by omega) (by omega), tb_iff (h.oX (by omega))⟩
/-- all walks of a day -/
theorem RT.trips {T T' : z_S} {Y Y' : Nat → Int32} {c : Nat} (h : RT T Y nc nh nk np dy ah pl) (hc : c < nk) (hT : ∀ q, q < 38 → ∀ j, ¬ ((q = 34 ∨ q = 35) ∧ j = c) → T' q j = T q j) (hn : ∀ i, i ≠ 426 + 7 * c + 3 → i ≠ 426 + 7 * c + 4 → Y' i = Y i) (h3 : T' 34 c = Y' (426 + 7 * c + 3)) (h4 : T' 35 c = Y' (426 + 7 * c + 4)) : RT T' Y' nc nh nk np dy ah pl := by
  obtain ⟨a, b, o, k, p, s, g, z1, z2⟩ := h
  have h20 := a.1.2.2.1
  have h24 := b.1.2.1
  have hk3 := k.2.1
  have h30 := p.2.1
  refine ⟨rC_congr a (hn 0 (by omega) (by omega)) (fun i h1 h2 => hn i (by omega) (by omega)) (hT 2 (by omega) 0 (by omega)) (fun q h1 h2 j hj => hT q (by omega) j (by omega)), rH_congr b (hn 1 (by omega) (by omega)) (hT 11 (by omega) 0 (by omega)) (fun i h1 h2 => hn i (by omega) (by omega)) (fun q h1 h2 j hj => hT q (by omega) j (by omega)), fun j hj => by rw [hT 25 (by omega) j (by omega)]; exact o j hj,
    ⟨by rw [hn 2 (by omega) (by omega)]; exact k.1, hk3, by rw [hT 30 (by omega) 0 (by omega)]; exact k.2.2.1, fun e he => ?_⟩, rP_congr p (hn 3 (by omega) (by omega)) (hT 26 (by omega) 0 (by omega)) (fun q h1 h2 j hj => hT q (by omega) j (by omega)) (fun i h1 h2 => hn i (by omega) (by omega)),
    rS_congr s (hT 0 (by omega) 0 (by omega)) (hT 0 (by omega) 1 (by omega)) (hT 0 (by omega) 2 (by omega)) (hn 4 (by omega) (by omega)) (hn 5 (by omega) (by omega)) (hn 6 (by omega) (by omega)), rA_congr g (fun j hj => hT 1 (by omega) j (by omega)) (fun w h1 h2 => sI_congr (fun i hi => hn _ (by omega) (by omega))),
    fun i h1 h2 => by rw [hn i (by omega) (by omega)]; exact z1 i h1 h2, fun i h1 h2 => by rw [hn i (by omega) (by omega)]; exact z2 i h1 h2⟩
  by_cases q : e = c
  · subst q
    obtain ⟨b0, b1, b2, b3, b4, b5, b6, b7⟩ := k.2.2.2 e he
    refine ⟨?_, ?_, ?_, h3, h4, ?_, ?_, ?_⟩
    · rw [hT 31 (by omega) e (by omega), hn _ (by omega) (by omega)]; exact b0
    · rw [hT 32 (by omega) e (by omega), hn _ (by omega) (by omega)]; exact b1
    · rw [hT 33 (by omega) e (by omega), hn _ (by omega) (by omega)]; exact b2
    · rw [hT 36 (by omega) e (by omega), hn _ (by omega) (by omega)]; exact b5
    · rw [hT 37 (by omega) e (by omega), hn _ (by omega) (by omega)]; exact b6
    · rw [hn _ (by omega) (by omega)]; exact b7
  · exact rK1_congr (k.2.2.2 e he) (fun w h1 h2 => hT w (by omega) e (by omega)) (fun w hw => hn _ (by omega) (by omega))
theorem PR.trT {Y : Nat → Int32} {S : Nat → Prop} {K : Nat → Nat} {d : Int32} {R : Nat → Nat} (h : PR n np d R nh W Y S K (fun c => c < nk)) (hW : ∀ c, nk ≤ c → W c = (0, 0)) : PR n np d R nh W Y S K (fun _ => True) := by
  obtain ⟨a, b, z, e⟩ := h
  refine ⟨a, b, z, fun c hc => ?_⟩
  obtain ⟨u2, u6, u5, ut, uf⟩ := e c hc
  refine ⟨u2, u6, u5, fun _ => ?_, fun q => absurd trivial q⟩
  by_cases q : c < nk
  · exact ut q
  · rw [hW c (by omega), (uf q).1, (uf q).2]
    exact ⟨(Int32.add_zero _).symm, (Int32.add_zero _).symm⟩
/-- one walk of a day -/
theorem x_walk1 {T : z_S} {Y : Nat → Int32} {c : Nat} {X : Type} (hT : RT T Y nc nh nk np dy ah pl) (hw : (∀ k, k < 20 → T 39 k = nI 0) ∧ T 38 4 = nI 0) (hP : PR n np (nI dy) (tR ah pl nc nh) nh (dW n nc nh nk np ah pl (nI dy)) Y (fun k => k < 0) (fun _ => 0) (fun e => e < c)) (hc : c < nk) :
    ∃ T' Y', (∀ KK : z_S → Option X, (z_b1 (f_X8_go (nI c) (T 0 0) (-1 : Int32) T) fun σ33 =>
  z_cki (nI c) 3 <|
  z_cki (nI c) 3 <|
  z_let (z_u σ33 34 (nI c).toNatClampNeg ((σ33 34 (nI c).toNatClampNeg) + (σ33 38 0))) fun σ36 =>
  z_cki (nI c) 3 <|
  z_cki (nI c) 3 <|
  z_let (z_u σ36 35 (nI c).toNatClampNeg ((σ36 35 (nI c).toNatClampNeg) + (σ36 38 1))) fun σ39 => KK σ39) = KK T') ∧ RT T' Y' nc nh nk np dy ah pl ∧ ((∀ k, k < 20 → T' 39 k = nI 0) ∧ T' 38 4 = nI 0) ∧ PR n np (nI dy) (tR ah pl nc nh) nh (dW n nc nh nk np ah pl (nI dy)) Y' (fun k => k < 0) (fun _ => 0) (fun e => e < c + 1) := by
  have hT0 := hT
  obtain ⟨hC, hH, hO, hK, hPs, hS, hA, z1, z2⟩ := hT
  have h20 := hC.1.2.2.1
  have h24 := hH.1.2.1
  have h3 := hK.2.1
  have h30 := hPs.2.1
  have hpl : ∀ h, h < nh → pl h < nc := fun h hh => (hH.1.2.2 h hh).2
  obtain ⟨⟨t, e, p, dg, o, D⟩, hW⟩ : ∃ s : wS, WK n nc nh np ah pl c (nI dy) (fun h => n (90 + 14 * h + 3) = nI c) nh = s := ⟨_, rfl⟩
  have hW' : WK Y nc nh np ah pl c (nI dy) (fun h => Y (90 + 14 * h + 3) = nI c ∨ nI h = -1) nh = (t, e, p, dg, o, D) := by
    rw [← hW]
    refine WK_stA hP.1 hC.1.2.2.2.1 hC.1.2.1 h20 h24 h30 hpl (by omega) (fun h hh => ?_)
    rw [hP.1.2.1 h 3 (by omega) (by omega)]
    exact ⟨fun q => q.elim id (fun e => absurd e (nI_m1 (by omega))), Or.inl⟩
  have hdW : dW n nc nh nk np ah pl (nI dy) c = (nI t, e + eS n ah nc (n (426 + 7 * c + 0)) D) := by
    unfold dW
    rw [if_pos hc, hW]
  have heS : eS Y ah nc (Y (426 + 7 * c + 0)) D = eS n ah nc (n (426 + 7 * c + 0)) D := by
    rw [hP.1.2.2.1 c 0 (by omega) (by omega)]
    exact eS_congr hC.1.2.2.2.1 (fun i h1 h2 => hP.1.1 i (by omega))
  obtain ⟨σ, f1, g1, g2, g3, g4, g5, g6, g7⟩ := x_go hC hH hO hK hPs hS hc (nI dy) (-1) hw.1 hw.2 hW'
  obtain ⟨k0, k1, k2, k3, k4, k5, k6, k7⟩ := hK.2.2.2 c hc
  have e34 : σ 34 c = Y (426 + 7 * c + 3) := by rw [g1 34 (by omega) (by omega)]; exact k3
  have e35 : σ 35 c = Y (426 + 7 * c + 4) := by rw [g1 35 (by omega) (by omega)]; exact k4
  refine ⟨z_u (z_u σ 34 c (σ 34 c + σ 38 0)) 35 c (σ 35 c + σ 38 1), un (un Y (426 + 7 * c + 3) (Y (426 + 7 * c + 3) + nI t)) (426 + 7 * c + 4) (Y (426 + 7 * c + 4) + (e + eS n ah nc (n (426 + 7 * c + 0)) D)), ?_, hT0.trips hc (fun q hq j hj => ?_) (fun i h1 h2 => by rw [un_j h2, un_j h1]) ?_ ?_, ⟨fun k hk => by rw [u_o (by omega), u_o (by omega)]; exact g2 k hk, by rw [u_o (by omega), u_o (by omega)]; exact g7⟩, ?_⟩
  · intro KK
    rw [hS.1.2.2, f1, p_b1, p_cki (by omega) (by omega), p_cki (by omega) (by omega), p_cl (by omega), p_let, p_cki (by omega) (by omega), p_cki (by omega) (by omega), p_let, u_o (by omega), u_o (by omega)]
  · rw [zu_n (by omega), zu_n (by omega), g1 q (by omega) (by omega)]
  · rw [zu_n (by omega), u_i, un_j (by omega), un_i, g3, e34]
  · rw [u_i, un_i, g4, e35, heS]
  · refine hP.trips (c := c) (by omega) (fun i h1 h2 => by rw [un_j h2, un_j h1]) (by rw [un_j (by omega), un_i, hdW]) (by rw [un_i, hdW]) h24 (fun k hk => tR_lt hC.1.2.1 hC.1.2.2.2.1 hpl hk) (by omega) (by omega) (fun e he hne => by omega)
end DAYX
