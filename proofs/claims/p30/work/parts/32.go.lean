/-! THE PURE PART. 20: a round of the class -/
def wgI (n : Nat → Int32) (d : Int32) : Int32 := if d - d / 7 * 7 = 6 then n 6 else n 5
def wtN (n : Nat → Int32) (d : Int32) (h : Nat) : Nat := (n (90 + 14 * h + 1)).toNatClampNeg * (wgI n d).toNatClampNeg
def lmN (n : Nat → Int32) (c : Nat) : Nat := (n (426 + 7 * c + 1)).toNatClampNeg
noncomputable def WK (n : Nat → Int32) (nc nh np : Nat) (ah pl : Nat → Nat) (c : Nat) (d : Int32) (Q : Nat → Prop) : Nat → wS :=
  wk (eS n ah nc (n (426 + 7 * c + 0))) (fun h => Q h ∧ ¬ pz n np (nI h) d) (wtN n d) (fun h => n (90 + 14 * h + 1)) (fun h => tb (oX n h d)) pl (lmN n c) (tR ah pl nc nh)
theorem p_orQ {O : Type} {J : Int32 → Option O} {A B : Prop} [Decidable A] [Decidable B] : (z_let J fun j => z_let (fun (_ : Unit) => j (1 : Int32)) fun k => if A then k () else if B then k () else j (0 : Int32)) = J (tb (A ∨ B)) := by
  rw [p_let, p_let]
  by_cases a : A
  · rw [if_pos a, tb_t (Or.inl a)]; rfl
  · rw [if_neg a]
    by_cases b : B
    · rw [if_pos b, tb_t (Or.inr b)]; rfl
    · rw [if_neg b, tb_f (fun e => e.elim a b)]; rfl
section GO
variable {T : z_S} {n : Nat → Int32} {nc nh nk np dy ds : Nat} {ah pl : Nat → Nat}
theorem wg_of (hS : rS T n ds) (d : Int32) : ∃ w, wgI n d = nI w ∧ w ≤ 50 := by
  obtain ⟨-, ⟨-, w, h1, h2, h3⟩, ⟨-, v, g1, g2, g3⟩⟩ := hS
  unfold wgI
  by_cases q : d - d / 7 * 7 = 6
  · rw [if_pos q]; exact ⟨v, g1, g3⟩
  · rw [if_neg q]; exact ⟨w, h1, by omega⟩
theorem wt_of (hS : rS T n ds) (d : Int32) {h : Nat} (hp : ∃ p, n (90 + 14 * h + 1) = nI p ∧ 1 ≤ p ∧ p ≤ 5) : n (90 + 14 * h + 1) * wgI n d = nI (wtN n d h) ∧ wtN n d h ≤ 250 := by
  obtain ⟨w, h1, h2⟩ := wg_of hS d
  obtain ⟨p, g1, g2, g3⟩ := hp
  unfold wtN
  rw [h1, g1, p_cl (by omega), p_cl (by omega), pk_mul]
  refine ⟨rfl, ?_⟩
  calc p * w ≤ 5 * 50 := Nat.mul_le_mul g3 h2
    _ = 250 := rfl
theorem lm_of (hK : rK T n nk) {c : Nat} (hc : c < nk) : n (426 + 7 * c + 1) = nI (lmN n c) ∧ lmN n c ≤ 500 := by
  obtain ⟨-, -, -, -, -, -, -, l, h1, h2⟩ := hK.2.2.2 c hc
  unfold lmN
  rw [h1, p_cl (by omega)]
  exact ⟨rfl, h2⟩
theorem x_wgt {σ : z_S} (hS : rS σ n ds) (d : Int32) : f_X6_weightOn d σ = some (wgI n d) := by
  unfold f_X6_weightOn f_X6_isSunday wgI
  rw [p_ck (by decide)]
  by_cases q : d - d / 7 * 7 = 6
  · rw [if_pos q, if_pos q, p_b1, if_neg (by decide), hS.2.2.1]
  · rw [if_neg q, if_neg q, p_b1, if_pos rfl, hS.2.1.1]
def gS (σ T : z_S) (t : Nat) (e p d : Int32) (o : Nat) (D : Nat → Nat) : Prop :=
  (∀ a, a ≠ 38 → a ≠ 39 → σ a = T a) ∧ (∀ k, k < 20 → σ 39 k = nI (D k)) ∧ σ 38 0 = nI t ∧ σ 38 1 = e ∧ σ 38 2 = p ∧ σ 38 3 = d ∧ σ 38 4 = nI o
theorem gS.RT {σ : z_S} {t o : Nat} {e p d : Int32} {D : Nat → Nat} (h : gS σ T t e p d o D) : ∀ q, q < 38 → σ q = T q := fun q hq => h.1 q (by omega) (by omega)
theorem x_tail {σ : z_S} {t o w R : Nat} {e p dg d : Int32} {D : Nat → Nat} (hg : gS σ T t e p dg o D) (hH : rH T n nc nh nk dy pl) (h20 : nc ≤ 20) (hR : R < nh) (i : Nat) :
    ∃ σ', gS σ' T t e (p + n (90 + 14 * R + 1)) (dg + tb (oX n R d)) (o + w) (dA D (pl R) w) ∧ ∀ kk : Int32 → z_S → Option z_S,
      (z_let (z_u σ 38 4 ((σ 38 4) + nI w)) fun σ31 =>
  z_cki (nI R) 24 <|
  z_cki (σ31 12 (nI R).toNatClampNeg) 20 <|
  z_cki (σ31 12 (nI R).toNatClampNeg) 20 <|
  z_let (z_u σ31 39 (σ31 12 (nI R).toNatClampNeg).toNatClampNeg ((σ31 39 (σ31 12 (nI R).toNatClampNeg).toNatClampNeg) + nI w)) fun σ35 =>
  z_cki (nI R) 24 <|
  z_let (z_u σ35 38 2 ((σ35 38 2) + (σ35 13 (nI R).toNatClampNeg))) fun σ37 =>
  z_b1 (f_X2_dogIsOut (nI R) d (fun k => σ37 (zi_TW_T k))) fun r39 =>
  z_let (fun (y40 : Int32) => z_let (z_u σ37 38 3 ((σ37 38 3) + y40)) fun σ42 =>
  z_let (nI i + (1 : Int32)) fun x23 => kk x23 σ42) fun j41 =>
  if r39 = (0 : Int32) then
  (j41 (0 : Int32))
  else
  (j41 (1 : Int32))) = kk (nI (i + 1)) σ' := by
  have h24 := hH.1.2.1
  obtain ⟨w1, h39, h0, h1, h2, h3, h4⟩ := hg
  obtain ⟨hpl, hpl2⟩ := hH.1.2.2 R hR
  obtain ⟨⟨e12, e13, -, -, e16, e17⟩, -⟩ := hH.2.2 R hR
  obtain ⟨s1, hs1⟩ : ∃ s, s = z_u σ 38 4 ((σ 38 4) + nI w) := ⟨_, rfl⟩
  have o1 : ∀ a, a ≠ 38 → s1 a = σ a := fun a ha => by rw [hs1]; exact u_o ha
  obtain ⟨s2, hs2⟩ : ∃ s, s = z_u s1 39 (pl R) ((s1 39 (pl R)) + nI w) := ⟨_, rfl⟩
  have o2 : ∀ a, a ≠ 39 → s2 a = s1 a := fun a ha => by rw [hs2]; exact u_o ha
  obtain ⟨s3, hs3⟩ : ∃ s, s = z_u s2 38 2 ((s2 38 2) + n (90 + 14 * R + 1)) := ⟨_, rfl⟩
  have o3 : ∀ a, a ≠ 38 → s3 a = s2 a := fun a ha => by rw [hs3]; exact u_o ha
  have T3 : ∀ a, a ≠ 38 → a ≠ 39 → s3 a = T a := fun a q1 q2 => by rw [o3 a q1, o2 a q2, o1 a q1, w1 a q1 q2]
  have s112 : s1 12 R = nI (pl R) := by rw [o1 12 (by omega), w1 12 (by omega) (by omega), e12, hpl]
  have s213 : s2 13 R = n (90 + 14 * R + 1) := by rw [o2 13 (by omega), o1 13 (by omega), w1 13 (by omega) (by omega), e13]
  refine ⟨z_u s3 38 3 (s3 38 3 + tb (oX n R d)), ⟨fun a q1 q2 => by rw [u_o q1, T3 a q1 q2], fun k hk => ?_, ?_, ?_, ?_, ?_, ?_⟩, fun kk => ?_⟩
  · rw [u_o (by omega), o3 39 (by omega), hs2]
    by_cases e : k = pl R
    · rw [e, u_i, o1 39 (by omega), h39 _ (by omega), nI_add, dA_eq]
    · rw [u_j e, o1 39 (by omega), h39 k hk, dA_ne e]
  · rw [u_j (by omega), hs3, u_j (by omega), o2 38 (by omega), hs1, u_j (by omega), h0]
  · rw [u_j (by omega), hs3, u_j (by omega), o2 38 (by omega), hs1, u_j (by omega), h1]
  · rw [u_j (by omega), hs3, u_i, o2 38 (by omega), hs1, u_j (by omega), h2]
  · rw [u_i, hs3, u_j (by omega), o2 38 (by omega), hs1, u_j (by omega), h3]
  · rw [u_j (by omega), hs3, u_j (by omega), o2 38 (by omega), hs1, u_i, h4, nI_add]
  · rw [p_let, ← hs1, p_cl (by omega), p_cki (by omega) (by omega), s112, p_cki (by omega) (by omega), p_cki (by omega) (by omega), p_cl (by omega), p_let, ← hs2, p_cki (by omega) (by omega), s213, p_let, ← hs3,
      show f_X2_dogIsOut (nI R) d (fun k => s3 (zi_TW_T k)) = some (tb (oX n R d)) from x_out (by omega) (by show s3 16 R = _; rw [T3 16 (by omega) (by omega)]; exact e16) (by show s3 17 R = _; rw [T3 17 (by omega) (by omega)]; exact e17), p_b1, p_let]
    by_cases q : oX n R d
    · rw [p_tbT q, tb_t q]
      dsimp only
      rw [p_let, p_let, zl_1, nI_add]
    · rw [p_tbF q, tb_f q]
      dsimp only
      rw [p_let, p_let, zl_1, nI_add]
      rfl
theorem x_go (hC : rC T n nc ah) (hH : rH T n nc nh nk dy pl) (hO : rO T ah pl nc nh) (hK : rK T n nk) (hP : rP T n np) (hS : rS T n ds) {c : Nat} (hc : c < nk) (d g : Int32) (h39 : ∀ k, k < 20 → T 39 k = nI 0) (h384 : T 38 4 = nI 0) {t o : Nat} {e p dg : Int32} {D : Nat → Nat}
    (hW : WK n nc nh np ah pl c d (fun h => n (90 + 14 * h + 3) = nI c ∨ nI h = g) nh = (t, e, p, dg, o, D)) :
    ∃ σ', f_X8_go (nI c) d g T = some σ' ∧ gS σ' T t (e + eS n ah nc (n (426 + 7 * c + 0)) D) p dg 0 (fun _ => 0) := by
  have h20 := hC.1.2.2.1
  have h24 := hH.1.2.1
  have h3 := hK.2.1
  have hc1 := hC.1.2.1
  have hA := hC.1.2.2.2.1
  have hpl : ∀ h, h < nh → pl h < nc := fun h hh => (hH.1.2.2 h hh).2
  obtain ⟨hlm, hlm5⟩ := lm_of hK hc
  obtain ⟨q0, q1, -⟩ := hK.2.2.2 c hc
  unfold f_X8_go f_X8_clear
  simp only [p_let, p_b1]
  obtain ⟨T0, hT0⟩ : ∃ s, s = z_u (z_u (z_u (z_u T 38 0 0) 38 1 0) 38 2 0) 38 3 0 := ⟨_, rfl⟩
  have o0 : ∀ a, a ≠ 38 → T0 a = T a := fun a ha => by rw [hT0, u_o ha, u_o ha, u_o ha, u_o ha]
  rw [← hT0, show f_X6_weightOn d (fun k => T0 (zi_TW_T k)) = some (wgI n d) from x_wgt (rS_congr hS (by show T0 0 0 = _; rw [o0 0 (by omega)]) (by show T0 0 1 = _; rw [o0 0 (by omega)]) (by show T0 0 2 = _; rw [o0 0 (by omega)]) rfl rfl rfl) d, p_b1, p_cki (by omega) (by omega), p_cl (by omega), o0 32 (by omega), q1, hlm]
  refine p_ex2 (fun r => ∃ σ' : z_S, r = some σ' ∧ gS σ' T t (e + eS n ah nc (n (426 + 7 * c + 0)) D) p dg 0 (fun _ => 0))
    (fun i (x : Int32) (σ : z_S) => x = nI i ∧ ∃ t e p dg o D, WK n nc nh np ah pl c d (fun h => n (90 + 14 * h + 3) = nI c ∨ nI h = g) i = (t, e, p, dg, o, D) ∧ gS σ T t e p dg o D)
    nh (by omega) ⟨rfl, 0, 0, 0, 0, 0, fun _ => 0, rfl, fun a q _ => o0 a q, fun k hk => by rw [o0 39 (by omega)]; exact h39 k hk, ?_, ?_, ?_, ?_, ?_⟩ ?_ ?_
  · rw [hT0, u_j (by omega), u_j (by omega), u_j (by omega), u_i]; rfl
  · rw [hT0, u_j (by omega), u_j (by omega), u_i]
  · rw [hT0, u_j (by omega), u_i]
  · rw [hT0, u_i]
  · rw [hT0, u_j (by omega), u_j (by omega), u_j (by omega), u_j (by omega)]; exact h384
  · rintro i x σ hi ⟨rfl, t, e, p, dg, o, D, hw, hg⟩
    left
    obtain ⟨R, hR⟩ : ∃ R, R = tR ah pl nc nh i := ⟨_, rfl⟩
    have hRn : R < nh := by rw [hR]; exact tR_lt hc1 hA hpl hi
    have hinv := wk_inv (f := eS n ah nc (n (426 + 7 * c + 0))) (Q := fun h => (n (90 + 14 * h + 3) = nI c ∨ nI h = g) ∧ ¬ pz n np (nI h) d) (wt := wtN n d) (pp := fun h => n (90 + 14 * h + 1)) (dg := fun h => tb (oX n h d)) (pl := pl) (lim := lmN n c) (R := tR ah pl nc nh) (nc := nc) (nh := nh) (fun i hi => hpl _ (tR_lt hc1 hA hpl hi)) i (by omega)
    have hinv' : wI nc (lmN n c) i (t, e, p, dg, o, D) := by rw [← hw]; exact hinv
    obtain ⟨i1, i2, i3, i4, i5⟩ := hinv'
    have i1' : t ≤ i := i1
    have i4' : o ≤ lmN n c := i4
    have i3' : sN D nc = o := i3
    have hsucc : WK n nc nh np ah pl c d (fun h => n (90 + 14 * h + 3) = nI c ∨ nI h = g) (i + 1) = wk1 (eS n ah nc (n (426 + 7 * c + 0))) (fun h => (n (90 + 14 * h + 3) = nI c ∨ nI h = g) ∧ ¬ pz n np (nI h) d) (wtN n d) (fun h => n (90 + 14 * h + 1)) (fun h => tb (oX n h d)) pl (lmN n c) R (t, e, p, dg, o, D) := by
      rw [← hw, hR]; rfl
    have sub := hg.RT
    obtain ⟨-, -, h0, -, -, -, h4⟩ := id hg
    have hT : ∀ q, q < 38 → σ q = T q := sub
    obtain ⟨⟨-, e13, -, e15, -, -⟩, -, hpp, -⟩ := hH.2.2 R hRn
    obtain ⟨hwt, hwt2⟩ := wt_of hS d hpp
    have hb : ∀ kk, lb_X8_go_31 (nI c) d g (wgI n d) (nI (lmN n c)) kk (nI i) σ = (if tb (n (90 + 14 * R + 3) = nI c ∨ nI R = g) = 0 then kk (nI (i + 1)) σ else if nI (lmN n c) < nI (wtN n d R) then kk (nI (i + 1)) σ else z_b1 (f_X3_cover (nI R) d (fun k => σ (zi_TW_T k))) fun r27 =>
        if r27 = (0 : Int32) then
  (z_let (fun (σ29 : z_S) => z_let (z_u σ29 38 4 ((σ29 38 4) + nI (wtN n d R))) fun σ31 =>
  z_cki (nI R) 24 <|
  z_cki (σ31 12 (nI R).toNatClampNeg) 20 <|
  z_cki (σ31 12 (nI R).toNatClampNeg) 20 <|
  z_let (z_u σ31 39 (σ31 12 (nI R).toNatClampNeg).toNatClampNeg ((σ31 39 (σ31 12 (nI R).toNatClampNeg).toNatClampNeg) + nI (wtN n d R))) fun σ35 =>
  z_cki (nI R) 24 <|
  z_let (z_u σ35 38 2 ((σ35 38 2) + (σ35 13 (nI R).toNatClampNeg))) fun σ37 =>
  z_b1 (f_X2_dogIsOut (nI R) d (fun k => σ37 (zi_TW_T k))) fun r39 =>
  z_let (fun (y40 : Int32) => z_let (z_u σ37 38 3 ((σ37 38 3) + y40)) fun σ42 =>
  z_let (nI i + (1 : Int32)) fun x23 => kk x23 σ42) fun j41 =>
  if r39 = (0 : Int32) then
  (j41 (0 : Int32))
  else
  (j41 (1 : Int32))) fun j30 =>
  z_let (fun (_ : Unit) => z_cki (nI c) 3 <|
  z_b1 (f_X8_endTrip (σ 31 (nI c).toNatClampNeg) σ) fun σ47 =>
  z_let (z_u σ47 38 0 ((σ47 38 0) + (1 : Int32))) fun σ48 =>
  j30 σ48) fun j44 =>
  if (σ 38 0) = (0 : Int32) then
  (j44 ())
  else
  (if ((σ 38 4) + nI (wtN n d R)) ≤ nI (lmN n c) then
  (j30 σ)
  else
  (j44 ())))
  else
  kk (nI (i + 1)) σ) := by
      intro kk
      unfold lb_X8_go_31
      rw [hT 11 (by omega), hH.2.1, if_neg (nI_ge hi (by omega)), p_cki (by omega) (by omega), p_cl (by omega), hT 25 (by omega), hO i hi, ← hR, p_let, p_cki (by omega) (by omega), p_cl (by omega), hT 13 (by omega), e13, hwt, p_let, p_cki (by omega) (by omega), hT 15 (by omega), e15, p_orQ, zl_1, nI_add]
      rfl
    by_cases qQ : n (90 + 14 * R + 3) = nI c ∨ nI R = g
    · by_cases qw : wtN n d R ≤ lmN n c
      · have hcov : f_X3_cover (nI R) d (fun k => σ (zi_TW_T k)) = some (tb (pz n np (nI R) d)) := x_cover (rP_congr hP rfl (by show σ 26 0 = _; rw [hT 26 (by omega)]) (fun q a b k hk => by show σ q k = _; rw [hT q (by omega)]) (fun _ _ _ => rfl))
        by_cases qp : pz n np (nI R) d
        · refine ⟨nI (i + 1), σ, ⟨rfl, t, e, p, dg, o, D, ?_, hg⟩, fun kk => ?_⟩
          · rw [hsucc, wk1_no (fun q => q.1.2 qp)]
          · rw [hb kk, p_tbT qQ, if_neg (Int32.not_lt.mpr (nI_le qw (by omega))), hcov, p_b1, p_tbT qp]
        · by_cases qn : t = 0 ∨ lmN n c < o + wtN n d R
          · have hCσ : rC σ n nc ah := rC_congr hC rfl (fun _ _ _ => rfl) (by rw [hT 2 (by omega)]) (fun q a b k hk => by rw [hT q (by omega)])
            obtain ⟨σ1, f1, f2, f3, f4, f5, f6, f7, f8⟩ := x_endTrip hCσ (D := D) i5 (by rw [i3']; omega) hg.2.1 (σ 31 c)
            have hc31 : σ 31 c = n (426 + 7 * c + 0) := by rw [hT 31 (by omega)]; exact q0
            have g1 : gS (z_u σ1 38 0 (σ1 38 0 + 1)) T (t + 1) (e + eS n ah nc (n (426 + 7 * c + 0)) D) p dg 0 (fun _ => 0) := by
              obtain ⟨w1, w2, w3, w4, w5, w6, w7⟩ := hg
              refine ⟨fun a q1 q2 => by rw [u_o q1, f2 a q1 q2, w1 a q1 q2], fun k hk => by rw [u_o (by omega)]; exact f3 k hk, ?_, ?_, ?_, ?_, ?_⟩
              · rw [u_i, f4, w3, zl_1, nI_add]
              · rw [u_j (by omega), f5, w4, hc31]
              · rw [u_j (by omega), f6, w5]
              · rw [u_j (by omega), f7, w6]
              · rw [u_j (by omega), f8]
            obtain ⟨σ2, k1, k2⟩ := x_tail (w := wtN n d R) (d := d) g1 hH h20 hRn i
            rw [Nat.zero_add] at k1
            refine ⟨nI (i + 1), σ2, ⟨rfl, t + 1, _, _, _, wtN n d R, _, ?_, k1⟩, fun kk => ?_⟩
            · rw [hsucc, wk1_new ⟨qQ, qp⟩ qw qn]
            · rw [hb kk, p_tbT qQ, if_neg (Int32.not_lt.mpr (nI_le qw (by omega))), hcov, p_b1, p_tbF qp, p_let, p_let, ← k2 kk]
              by_cases qt : t = 0
              · rw [if_pos (by rw [h0, qt]; rfl), p_cki (by omega) (by omega), p_cl (by omega), f1, p_b1, p_let]
              · rw [if_neg (by rw [h0]; exact nI_ne0 (by omega) (by omega)), if_neg (by rw [h4, nI_add, nI_leI (by omega) (by omega)]; omega), p_cki (by omega) (by omega), p_cl (by omega), f1, p_b1, p_let]
          · obtain ⟨σ2, k1, k2⟩ := x_tail (w := wtN n d R) (d := d) hg hH h20 hRn i
            refine ⟨nI (i + 1), σ2, ⟨rfl, t, _, _, _, _, _, ?_, k1⟩, fun kk => ?_⟩
            · rw [hsucc, wk1_old ⟨qQ, qp⟩ qw qn]
            · rw [hb kk, p_tbT qQ, if_neg (Int32.not_lt.mpr (nI_le qw (by omega))), hcov, p_b1, p_tbF qp, p_let, p_let, ← k2 kk]
              rw [if_neg (by rw [h0]; exact nI_ne0 (by omega) (by omega)), if_pos (by rw [h4, nI_add, nI_leI (by omega) (by omega)]; omega)]
      · refine ⟨nI (i + 1), σ, ⟨rfl, t, e, p, dg, o, D, ?_, hg⟩, fun kk => ?_⟩
        · rw [hsucc, wk1_no (fun q => qw q.2)]
        · rw [hb kk, p_tbT qQ, if_pos (nI_lt (by omega) (by omega))]
    · refine ⟨nI (i + 1), σ, ⟨rfl, t, e, p, dg, o, D, ?_, hg⟩, fun kk => ?_⟩
      · rw [hsucc, wk1_no (fun q => qQ q.1.1)]
      · rw [hb kk, p_tbF qQ]
  · rintro x σ ⟨rfl, t', e', p', dg', o', D', hw, hg⟩
    rw [hW] at hw
    obtain ⟨rfl, rfl, rfl, rfl, rfl, rfl⟩ : t = t' ∧ e = e' ∧ p = p' ∧ dg = dg' ∧ o = o' ∧ D = D' := by
      simpa using hw
    have hinv := wk_inv (f := eS n ah nc (n (426 + 7 * c + 0))) (Q := fun h => (n (90 + 14 * h + 3) = nI c ∨ nI h = g) ∧ ¬ pz n np (nI h) d) (wt := wtN n d) (pp := fun h => n (90 + 14 * h + 1)) (dg := fun h => tb (oX n h d)) (pl := pl) (lim := lmN n c) (R := tR ah pl nc nh) (nc := nc) (nh := nh) (fun i hi => hpl _ (tR_lt hc1 hA hpl hi)) nh (Nat.le_refl _)
    have hinv' : wI nc (lmN n c) nh (t, e, p, dg, o, D) := by rw [← hW]; exact hinv
    obtain ⟨i1, i2, i3, i4, i5⟩ := hinv'
    have i4' : o ≤ lmN n c := i4
    have i3' : sN D nc = o := i3
    have hT : ∀ q, q < 38 → σ q = T q := hg.RT
    have hCσ : rC σ n nc ah := rC_congr hC rfl (fun _ _ _ => rfl) (by rw [hT 2 (by omega)]) (fun q a b k hk => by rw [hT q (by omega)])
    obtain ⟨σ1, f1, f2, f3, f4, f5, f6, f7, f8⟩ := x_endTrip hCσ (D := D) i5 (by rw [i3']; omega) hg.2.1 (σ 31 c)
    have hc31 : σ 31 c = n (426 + 7 * c + 0) := by rw [hT 31 (by omega)]; exact q0
    obtain ⟨w1, w2, w3, w4, w5, w6, w7⟩ := hg
    refine ⟨some σ1, ⟨σ1, rfl, fun a q1 q2 => by rw [f2 a q1 q2, w1 a q1 q2], f3, by rw [f4, w3], by rw [f5, w4, hc31], by rw [f6, w5], by rw [f7, w6], f8⟩, fun kk => ?_⟩
    unfold lb_X8_go_31
    rw [hT 11 (by omega), hH.2.1, if_pos (nI_le (Nat.le_refl _) (by omega)), p_cki (by omega) (by omega), p_cl (by omega), f1, p_b1]
end GO
