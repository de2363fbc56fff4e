/-! THE PURE PART. 25: the class brings the papers -/
abbrev gWG := wgI
theorem stA.wtN {n N : Nat → Int32} (h : stA n N) {x : Nat} (hx : x < 24) {d : Int32} : wtN N d x = wtN n d x := by
  show (N (90 + 14 * x + 1)).toNatClampNeg * (gWG N d).toNatClampNeg = (n (90 + 14 * x + 1)).toNatClampNeg * (gWG n d).toNatClampNeg
  rw [h.2.1 x 1 hx (by omega), show gWG N d = gWG n d from h.wgI d]
theorem stA.lmN {n N : Nat → Int32} (h : stA n N) {c : Nat} (hc : c < 3) : lmN N c = lmN n c := by
  show (N (426 + 7 * c + 1)).toNatClampNeg = (n (426 + 7 * c + 1)).toNatClampNeg
  rw [h.2.2.1 c 1 hc (by omega)]
theorem zu_n {σ : z_S} {i j a b : Nat} {v : Int32} (h : ¬ (a = i ∧ b = j)) : z_u σ i j v a b = σ a b := by
  by_cases e : a = i
  · subst e; exact u_j (fun q => h ⟨rfl, q⟩)
  · rw [u_o e]
theorem rSum_ptb {n n' : Nat → Int32} {nh h w : Nat} {v : Int32} (hh : h < nh) (h0 : n' (90 + 14 * h + w) = n (90 + 14 * h + w) + v) (hn : ∀ i, i < nh → i ≠ h → n' (90 + 14 * i + w) = n (90 + 14 * i + w)) : rSum n' nh w = rSum n nh w + v := by
  have e : rSum n' nh w = sI (fun i => if i = h then n (90 + 14 * h + w) + v else n (90 + 14 * i + w)) nh := by
    refine sI_congr (fun i hi => ?_)
    by_cases q : i = h
    · rw [if_pos q, q]; exact h0
    · rw [if_neg q]; exact hn i hi q
  rw [e, sI_pt (f := fun h => n (90 + 14 * h + w)) (p := h) (v := v) (if_pos rfl) (fun i hi => if_neg hi), if_pos hh]
  rfl
def A2 (T : z_S) (f : Nat) (p : Int32) : z_S := z_u (z_u T 1 0 (T 1 0 + p)) 1 f (z_u T 1 0 (T 1 0 + p) 1 f + p)
section A2
variable {T : z_S} {f : Nat} {p : Int32}
theorem A2_o {a : Nat} (h : a ≠ 1) : A2 T f p a = T a := by unfold A2; rw [u_o h, u_o h]
theorem A2_0 (h : 1 ≤ f) : A2 T f p 1 0 = T 1 0 + p := by unfold A2; rw [u_j (by omega), u_i]
theorem A2_f (h : 1 ≤ f) : A2 T f p 1 f = T 1 f + p := by unfold A2; rw [u_i, u_j (by omega)]
theorem A2_j {j : Nat} (h : 1 ≤ j) (h2 : j ≠ f) : A2 T f p 1 j = T 1 j := by unfold A2; rw [u_j h2, u_j (by omega)]
end A2
section BRING
variable {n : Nat → Int32} {np nc nh nk dy : Nat} {ah pl : Nat → Nat} {W : Nat → Int32 × Int32}
theorem x_bring_body {T T1 T' : z_S} {i R f : Nat} {p : Int32} (h11 : T 11 0 = nI nh) (hi : i < nh) (h24 : nh ≤ 24) (hR : T 25 i = nI R) (hRn : R < 24) (hp : T 13 R = p) (hf : f_X6_fateOfPapers (nI R) T = some (nI f, T1)) (f5 : f < 6) (hb : f_X6_book (nI R) p (nI f) (A2 T1 f p) = some T') (kk : Int32 → z_S → Option z_S) :
    lb_X6_bringPapers_2 kk (nI i) T = kk (nI (i + 1)) T' := by
  unfold lb_X6_bringPapers_2
  rw [h11, if_neg (nI_ge hi (by omega)), p_cki (by omega) (by omega), p_cl (by omega), hR, p_let, p_cki (by omega) (by omega), p_cl (by omega), hp, p_let, hf, p_b2, show z_cki (0 : Int32) 6 _ = _ from p_cki (j := 0) (n := 6) (by omega) (by omega), show z_cki (0 : Int32) 6 _ = _ from p_cki (j := 0) (n := 6) (by omega) (by omega), c_0, p_let, p_cki (by omega) (by omega), p_cki (by omega) (by omega), p_cl (by omega), p_let]
  show (z_b1 (f_X6_book (nI R) p (nI f) (A2 T1 f p)) fun σ19 => z_let (nI i + 1) fun x20 => kk x20 σ19) = _
  rw [hb, p_b1, p_let, zl_1, nI_add]
theorem x_complain {T : z_S} {R : Nat} (h : R < 24) : f_X2_complain (nI R) T = some (z_u (z_u T 22 R (T 22 R + 1)) 23 R (T 23 R + 1)) := by
  unfold f_X2_complain
  rw [p_cki (by omega) (by omega), p_cki (by omega) (by omega), p_cl (by omega), p_let, p_cki (by omega) (by omega), p_cki (by omega) (by omega), p_let, u_o (by omega)]
theorem rH1_mk {T T' : z_S} {Y Y' : Nat → Int32} {h : Nat} (hr : rH1 T Y nk dy h) (hT : ∀ q, 12 ≤ q → q ≤ 17 → T' q h = T q h) (hn : ∀ w, w < 6 → Y' (90 + 14 * h + w) = Y (90 + 14 * h + w))
    (h6 : T' 18 h = Y' (90 + 14 * h + 6) ∧ T' 19 h = Y' (90 + 14 * h + 7) ∧ T' 20 h = Y' (90 + 14 * h + 8) + Y' (90 + 14 * h + 9) ∧ T' 21 h = Y' (90 + 14 * h + 10) ∧ T' 22 h = Y' (90 + 14 * h + 11) ∧ T' 23 h = Y' (90 + 14 * h + 12))
    (hs : ∃ a b c d, Y' (90 + 14 * h + 6) = nI a ∧ Y' (90 + 14 * h + 8) = nI b ∧ Y' (90 + 14 * h + 9) = nI c ∧ Y' (90 + 14 * h + 10) = nI d ∧ a + b + c + d ≤ 5 * (dy + 1))
    (h12 : ∃ s, Y' (90 + 14 * h + 12) = nI s ∧ s ≤ dy + 1) (hf : ∃ f, T' 24 h = nI f ∧ f ≤ 5 * (dy + 1) ∧ ((f = 0 ∧ Y' (90 + 14 * h + 13) = nI 0) ∨ (f ≠ 0 ∧ Y' (90 + 14 * h + 13) = nI 1))) : rH1 T' Y' nk (dy + 1) h := by
  obtain ⟨a, -, b, c, -⟩ := hr
  refine ⟨?_, h6, ?_, ?_, hs, h12, hf⟩
  · rw [hT 12 (by omega) (by omega), hT 13 (by omega) (by omega), hT 14 (by omega) (by omega), hT 15 (by omega) (by omega), hT 16 (by omega) (by omega), hT 17 (by omega) (by omega), hn 0 (by omega), hn 1 (by omega), hn 2 (by omega), hn 3 (by omega), hn 4 (by omega), hn 5 (by omega)]
    exact a
  · rw [hn 1 (by omega)]; exact b
  · rw [hn 3 (by omega)]; exact c
theorem x_bring_step {T : z_S} {Y : Nat → Int32} {i : Nat} (hB : RB T Y nc nh nk np dy ah pl i) (hP : PR n np (nI dy) (tR ah pl nc nh) nh W Y (fun k => k < i) (fun _ => i) (fun _ => True)) (hi : i < nh) :
    ∃ T' Y', (∀ kk, lb_X6_bringPapers_2 kk (nI i) T = kk (nI (i + 1)) T') ∧ RB T' Y' nc nh nk np dy ah pl (i + 1) ∧ PR n np (nI dy) (tR ah pl nc nh) nh W Y' (fun k => k < i + 1) (fun _ => i + 1) (fun _ => True) := by
  have hB0 := hB
  have hP0 := hP
  obtain ⟨hC, hH, h11, h1, hO, hK, hPs, hS, hA, z1, z2⟩ := hB
  obtain ⟨hst, hPb, hPz, hPc⟩ := hP
  have h24 := hH.2.1
  have h3 := hK.2.1
  have h30 := hPs.2.1
  have hpl : ∀ h, h < nh → pl h < nc := fun h hh => (hH.2.2 h hh).2
  have hRlt : ∀ k, k < nh → tR ah pl nc nh k < nh := fun k hk => tR_lt hC.1.2.1 hC.1.2.2.2.1 hpl hk
  have hinj : ∀ j, j < nh → tR ah pl nc nh j = tR ah pl nc nh i → j = i := fun j hj e => tR_inj hC.1.2.1 hC.1.2.2.2.1 hpl hj hi e
  obtain ⟨R, hR⟩ : ∃ R, R = tR ah pl nc nh i := ⟨_, rfl⟩
  have hRn : R < nh := by rw [hR]; exact hRlt i hi
  have hr : rH1 T Y nk dy R := by rw [hR]; exact (h1 i hi).2 (Nat.lt_irrefl i)
  have hr0 := hr
  obtain ⟨⟨e12, e13, e14, e15, e16, e17⟩, ⟨e18, e19, e20, e21, e22, e23⟩, ⟨p, hp, hp1, hp5⟩, hby, ⟨fa, fb, fc, fd, ha, hb, hc, hd, hle⟩, ⟨s, hs, hsd⟩, ⟨f, hf, hfd, hff⟩⟩ := hr
  have hbl : ∀ w, 6 ≤ w → w < 14 → Y (90 + 14 * R + w) = n (90 + 14 * R + w) := by
    intro w w1 w2
    rw [hR]; exact (hPb i hi w w1 w2).2 (Nat.lt_irrefl i)
  have n1 : n (90 + 14 * R + 1) = nI p := by rw [← hst.2.1 R 1 (by omega) (by omega)]; exact hp
  have n3 : Y (90 + 14 * R + 3) = n (90 + 14 * R + 3) := hst.2.1 R 3 (by omega) (by omega)
  have hO' : T 25 i = nI R := by rw [hR]; exact hO i hi
  have e13' : T 13 R = nI p := e13.trans hp
  have hcov : f_X3_cover (nI R) (T 0 0) T = some (tb (pz n np (nI R) (nI dy))) := by
    rw [hS.1.2.2, x_cover hPs, tb_iff (hst.pz h30)]
  -- the parts that all cases share
  have fin : ∀ (ft c : Nat) (T1 T' : z_S) (Y' : Nat → Int32), ft < 6 → f_X6_fateOfPapers (nI R) T = some (nI ft, T1) → f_X6_book (nI R) (nI p) (nI ft) (A2 T1 ft (nI p)) = some T' →
      (∀ q j, q ≠ 1 → ¬ (18 ≤ q ∧ q ≤ 24 ∧ j = R) → (c < nk → ¬ ((q = 33 ∨ q = 37) ∧ j = c)) → T' q j = T q j) →
      (∀ j, ¬ (90 + 14 * R + 6 ≤ j ∧ j < 90 + 14 * R + 14) → (c < nk → j ≠ 426 + 7 * c + 2 ∧ j ≠ 426 + 7 * c + 6) → Y' j = Y j) →
      (c < nk → rK1 T' Y' c) → rH1 T' Y' nk (dy + 1) R → rA T' Y' nh → (nk ≤ c → 3 ≤ c) →
      (∀ w, 6 ≤ w → w < 14 → Y' (90 + 14 * R + w) = bF n np (nI dy) (tR ah pl nc nh) i w) →
      (c < 3 → Y' (426 + 7 * c + 2) = k2 n np (nI dy) (tR ah pl nc nh) c (i + 1) ∧ Y' (426 + 7 * c + 6) = k6 n np (nI dy) (tR ah pl nc nh) c (i + 1)) →
      (∀ e, e < 3 → e ≠ c → ¬ hAct n np (nI dy) e R) →
      ∃ T' Y', (∀ kk, lb_X6_bringPapers_2 kk (nI i) T = kk (nI (i + 1)) T') ∧ RB T' Y' nc nh nk np dy ah pl (i + 1) ∧ PR n np (nI dy) (tR ah pl nc nh) nh W Y' (fun k => k < i + 1) (fun _ => i + 1) (fun _ => True) := by
    intro ft c T1 T' Y' g0 g1 g2 g3 g4 g5 g6 g7 g8 g9 g10 g11
    refine ⟨T', Y', x_bring_body h11 hi h24 hO' (by omega) e13' g1 g0 g2, RB.upd hB0 hi (by rw [← hR]; exact g3) (by rw [← hR]; exact g4) g5 (by rw [← hR]; exact g6) g7, PR.step hP0 h24 hi hRlt hinj (c := c) (by rw [← hR]; exact fun j q1 q2 => g4 j q1 (fun w => q2 (by omega))) (by rw [← hR]; exact g9) (fun j hj hne => by omega) (by omega) g10 (fun e he hne => ?_)⟩
    have ne := g11 e he hne
    rw [hR] at ne
    refine ⟨cif_f (fun q => ne q.1), cif_f (fun q => ne q.1)⟩
  have accs : ∀ (ft : Nat) (T1 T' : z_S) (Y' : Nat → Int32) (w : Nat), w = 5 + ft → 1 ≤ ft → ft ≤ 5 → T1 1 = T 1 → (∀ j, T' 1 j = A2 T1 ft (nI p) 1 j) → Y' (90 + 14 * R + w) = Y (90 + 14 * R + w) + nI p → (∀ j, 90 ≤ j → j < 90 + 14 * 24 → j ≠ 90 + 14 * R + w → j ≠ 90 + 14 * R + 11 → j ≠ 90 + 14 * R + 12 → j ≠ 90 + 14 * R + 13 → Y' j = Y j) → rA T' Y' nh := by
    intro ft T1 T' Y' w hw f1 f5 t1 ht hv ho
    refine rA_step (f := ft) (p := nI p) hA (by rw [ht, A2_0 f1, t1]) f1 f5 (by rw [ht, A2_f f1, t1]) (fun j j1 j2 => by rw [ht, A2_j j1 j2, t1]) ?_ (fun w' w1 w2 w3 => ?_)
    · subst hw
      exact rSum_ptb hRn hv (fun j hj hne => ho _ (by omega) (by omega) (by omega) (by omega) (by omega) (by omega))
    · exact sI_congr (fun j hj => ho _ (by omega) (by omega) (by omega) (by omega) (by omega) (by omega))
  have c3 : ∀ {P : Prop}, (3 : Nat) < nk → P := fun h => absurd h (by omega)
  by_cases hz : pz n np (nI R) (nI dy)
  · -- paused
    refine fin 2 3 T (z_u (A2 T 2 (nI p)) 19 R (T 19 R + nI p)) (un Y (90 + 14 * R + 7) (Y (90 + 14 * R + 7) + nI p)) (by omega) ?_ ?_ (fun q j h1 h2 h3 => by rw [zu_n (by omega), A2_o h1]) (fun j h1 h2 => by rw [un_j (by omega)]) (fun h => c3 h) ?_ (accs 2 T _ _ 7 rfl (by omega) (by omega) rfl (fun j => by rw [zu_n (by omega)]) un_i (fun j h1 h2 h3 h4 h5 h6 => un_j h3)) (fun _ => Nat.le_refl 3) ?_ (fun h => absurd h (by omega)) (fun e he hne q => q.2.1 hz)
    · unfold f_X6_fateOfPapers
      rw [p_cki (by omega) (by omega), p_cl (by omega), p_let, hcov, p_b1, show (if tb (pz n np (nI R) (nI dy)) = (0 : Int32) then _ else _) = _ from p_tbT hz]
      rfl
    · unfold f_X6_book
      rw [if_pos (by decide), p_cki (by omega) (by omega), p_cki (by omega) (by omega), p_cl (by omega), p_let, A2_o (by omega)]
    · refine rH1_mk hr0 (fun q h1 h2 => by rw [zu_n (by omega), A2_o (by omega)]) (fun w hw => un_j (by omega)) ?_ ⟨fa, fb, fc, fd, ?_, ?_, ?_, ?_, by omega⟩ ⟨s, ?_, by omega⟩ ⟨f, ?_, by omega, ?_⟩
      · simp (disch := omega) only [zu_n, u_i, un_i, un_j, A2_o]
        exact ⟨e18, by rw [e19], e20, e21, e22, e23⟩
      · rw [un_j (by omega)]; exact ha
      · rw [un_j (by omega)]; exact hb
      · rw [un_j (by omega)]; exact hc
      · rw [un_j (by omega)]; exact hd
      · rw [un_j (by omega)]; exact hs
      · rw [zu_n (by omega), A2_o (by omega)]; exact hf
      · rw [un_j (by omega)]; exact hff
    · intro w w1 w2
      unfold bF
      rw [← hR, cif_t hz]
      by_cases e : w = 7
      · rw [if_pos e, e, un_i, hbl 7 (by omega) (by omega), n1]
      · rw [if_neg e, un_j (by omega), hbl w w1 w2]
  · have hfate : ∀ X, f_X6_fateOfPapers (nI R) T = X ↔ (if n (90 + 14 * R + 3) = (-1 : Int32) then (some ((5 : Int32), T)) else
        (z_b1 (f_X6_weightOn (nI dy) T) fun r9 => z_cki (n (90 + 14 * R + 3)) 3 <| if (nI p * r9) ≤ (T 32 (n (90 + 14 * R + 3)).toNatClampNeg) then
          (z_b1 (f_X2_dogIsOut (nI R) (nI dy) T) fun r13 => if r13 = (0 : Int32) then (some ((1 : Int32), T)) else
            (z_cki (n (90 + 14 * R + 3)) 3 <| if (T 33 (n (90 + 14 * R + 3)).toNatClampNeg) = (0 : Int32) then (some ((3 : Int32), T)) else
              (z_cki (n (90 + 14 * R + 3)) 3 <| z_cki (n (90 + 14 * R + 3)) 3 <| z_let (z_u T 33 (n (90 + 14 * R + 3)).toNatClampNeg ((T 33 (n (90 + 14 * R + 3)).toNatClampNeg) - (1 : Int32))) fun σ19 => some ((1 : Int32), σ19))))
          else (some ((4 : Int32), T)))) = X := by
      intro X
      unfold f_X6_fateOfPapers
      rw [p_cki (by omega) (by omega), p_cl (by omega), p_let, hcov, p_b1, show (if tb (pz n np (nI R) (nI dy)) = (0 : Int32) then _ else _) = _ from p_tbF hz, e15, n3, p_cki (by omega) (by omega), e13', hS.1.2.2]
    by_cases hl : n (90 + 14 * R + 3) = -1
    · -- lost
      refine fin 5 3 T (z_u (z_u (z_u (A2 T 5 (nI p)) 21 R (T 21 R + nI p)) 22 R (T 22 R + 1)) 23 R (T 23 R + 1)) (un (un (un Y (90 + 14 * R + 10) (Y (90 + 14 * R + 10) + nI p)) (90 + 14 * R + 11) (Y (90 + 14 * R + 11) + 1)) (90 + 14 * R + 12) (Y (90 + 14 * R + 12) + 1)) (by omega) ?_ ?_ (fun q j h1 h2 h3 => by rw [zu_n (by omega), zu_n (by omega), zu_n (by omega), A2_o h1]) (fun j h1 h2 => by rw [un_j (by omega), un_j (by omega), un_j (by omega)]) (fun h => c3 h) ?_
        (accs 5 T _ _ 10 rfl (by omega) (by omega) rfl (fun j => by rw [zu_n (by omega), zu_n (by omega), zu_n (by omega)]) (by rw [un_j (by omega), un_j (by omega), un_i]) (fun j h1 h2 h3 h4 h5 h6 => by rw [un_j h5, un_j h4, un_j h3])) (fun _ => Nat.le_refl 3) ?_ (fun h => absurd h (by omega)) (fun e he hne q => nI_m1 (a := e) (by omega) (by rw [← q.1]; exact hl))
      · rw [hfate, if_pos hl]; rfl
      · unfold f_X6_book
        rw [if_neg (by decide), if_neg (by decide), if_pos (by decide), p_cki (by omega) (by omega), p_cki (by omega) (by omega), p_cl (by omega), p_let, A2_o (by omega), x_complain (by omega), p_b1]
        simp (disch := omega) only [zu_n, A2_o]
      · refine rH1_mk hr0 (fun q h1 h2 => by rw [zu_n (by omega), zu_n (by omega), zu_n (by omega), A2_o (by omega)]) (fun w hw => by rw [un_j (by omega), un_j (by omega), un_j (by omega)]) ?_ ⟨fa, fb, fc, fd + p, ?_, ?_, ?_, ?_, by omega⟩ ⟨s + 1, ?_, by omega⟩ ⟨f, ?_, by omega, ?_⟩
        · simp (disch := omega) only [zu_n, u_i, un_i, un_j, A2_o]
          exact ⟨e18, e19, e20, by rw [e21], by rw [e22], by rw [e23]⟩
        · simp (disch := omega) only [un_i, un_j]; exact ha
        · simp (disch := omega) only [un_i, un_j]; exact hb
        · simp (disch := omega) only [un_i, un_j]; exact hc
        · simp (disch := omega) only [un_i, un_j]; rw [hd, nI_add]
        · simp (disch := omega) only [un_i, un_j]; rw [hs, zl_1, nI_add]
        · simp (disch := omega) only [zu_n, A2_o]; exact hf
        · simp (disch := omega) only [un_i, un_j]; exact hff
      · intro w w1 w2
        unfold bF
        rw [← hR, cif_f hz, cif_t hl]
        have w8 : w = 6 ∨ w = 7 ∨ w = 8 ∨ w = 9 ∨ w = 10 ∨ w = 11 ∨ w = 12 ∨ w = 13 := by omega
        rcases w8 with rfl | rfl | rfl | rfl | rfl | rfl | rfl | rfl
        · simp (disch := omega) only [un_i, un_j, hbl]; rfl
        · simp (disch := omega) only [un_i, un_j, hbl]; rfl
        · simp (disch := omega) only [un_i, un_j, hbl]; rfl
        · simp (disch := omega) only [un_i, un_j, hbl]; rfl
        · simp (disch := omega) only [un_i, un_j, hbl]; rw [← n1]; rfl
        · simp (disch := omega) only [un_i, un_j, hbl]; rfl
        · simp (disch := omega) only [un_i, un_j, hbl]; rfl
        · simp (disch := omega) only [un_i, un_j, hbl]; rfl
    · -- a carrier has it
      obtain ⟨c, hcn, hcY⟩ : ∃ c, c < nk ∧ Y (90 + 14 * R + 3) = nI c := hby.elim (fun e => absurd (n3 ▸ e) hl) id
      have hcc : n (90 + 14 * R + 3) = nI c := by rw [← n3]; exact hcY
      obtain ⟨q31, q32, q33, q34, q35, q36, q37, q38⟩ := hK.2.2.2 c hcn
      obtain ⟨hlm, hlm5⟩ := lm_of hK hcn
      obtain ⟨hwt, hwt2⟩ := wt_of hS (nI dy) (h := R) ⟨p, hp, hp1, hp5⟩
      rw [hst.lmN (by omega)] at hlm hlm5
      rw [hst.wtN (by omega)] at hwt hwt2
      rw [hp] at hwt
      have hk2 : Y (426 + 7 * c + 2) = k2 n np (nI dy) (tR ah pl nc nh) c i := (hPc c (by omega)).1
      have hk6 : Y (426 + 7 * c + 6) = k6 n np (nI dy) (tR ah pl nc nh) c i := (hPc c (by omega)).2.1
      have hout : f_X2_dogIsOut (nI R) (nI dy) T = some (tb (oX n R (nI dy))) := by rw [x_out (by omega) e16 e17, tb_iff (hst.oX (by omega))]
      have other : ∀ e, e < 3 → e ≠ c → ¬ hAct n np (nI dy) e R := fun e he hne q => hne ((nI_eq (by omega) (by omega)).mp (q.1.symm.trans hcc))
      have hfate2 : ∀ X, f_X6_fateOfPapers (nI R) T = X ↔ (if nI (wtN n (nI dy) R) ≤ nI (lmN n c) then (if tb (oX n R (nI dy)) = (0 : Int32) then (some ((1 : Int32), T)) else (if (T 33 c) = (0 : Int32) then (some ((3 : Int32), T)) else (some ((1 : Int32), z_u T 33 c (T 33 c - (1 : Int32)))))) else (some ((4 : Int32), T))) = X := by
        intro X
        rw [hfate, if_neg hl, x_wgt hS, p_b1, hcc, p_cki (by omega) (by omega), hwt, p_cl (by omega), q32, hlm, hout, p_b1, p_cki (by omega) (by omega), p_cki (by omega) (by omega), p_cki (by omega) (by omega), p_let]
      by_cases hw : wtN n (nI dy) R ≤ lmN n c
      · by_cases hob : oX n R (nI dy) ∧ Y (426 + 7 * c + 2) = 0
        · -- the dog
          have nact : ¬ (oX n R (nI dy) ∧ k2 n np (nI dy) (tR ah pl nc nh) c i ≠ 0) := fun q => q.2 (by rw [← hk2]; exact hob.2)
          refine fin 3 c T (z_u (z_u (z_u (A2 T 3 (nI p)) 20 R (T 20 R + nI p)) 22 R (T 22 R + 1)) 23 R (T 23 R + 1)) (un (un (un Y (90 + 14 * R + 8) (Y (90 + 14 * R + 8) + nI p)) (90 + 14 * R + 11) (Y (90 + 14 * R + 11) + 1)) (90 + 14 * R + 12) (Y (90 + 14 * R + 12) + 1)) (by omega) ?_ ?_ (fun q j h1 h2 h3 => by rw [zu_n (by omega), zu_n (by omega), zu_n (by omega), A2_o h1]) (fun j h1 h2 => by rw [un_j (by omega), un_j (by omega), un_j (by omega)]) (fun _ => rK1_congr (hK.2.2.2 c hcn) (fun q h1 h2 => by rw [u_o (by omega), u_o (by omega), u_o (by omega), A2_o (by omega)]) (fun w hw => by rw [un_j (by omega), un_j (by omega), un_j (by omega)])) ?_
            (accs 3 T _ _ 8 rfl (by omega) (by omega) rfl (fun j => by rw [zu_n (by omega), zu_n (by omega), zu_n (by omega)]) (by rw [un_j (by omega), un_j (by omega), un_i]) (fun j h1 h2 h3 h4 h5 h6 => by rw [un_j h5, un_j h4, un_j h3])) (fun h => absurd hcn (by omega)) ?_ (fun _ => ?_) other
          · rw [hfate2, if_pos (nI_le hw (by omega)), show (if tb (oX n R (nI dy)) = (0 : Int32) then _ else _) = _ from p_tbT hob.1, if_pos (by rw [q33]; exact hob.2)]; rfl
          · unfold f_X6_book
            rw [if_neg (by decide), if_neg (by decide), if_neg (by decide), p_cki (by omega) (by omega), p_cki (by omega) (by omega), p_cl (by omega), p_let, A2_o (by omega), x_complain (by omega), p_b1]
            simp (disch := omega) only [zu_n, A2_o]
          · refine rH1_mk hr0 (fun q h1 h2 => by rw [zu_n (by omega), zu_n (by omega), zu_n (by omega), A2_o (by omega)]) (fun w hw => by rw [un_j (by omega), un_j (by omega), un_j (by omega)]) ?_ ⟨fa, fb + p, fc, fd, ?_, ?_, ?_, ?_, by omega⟩ ⟨s + 1, ?_, by omega⟩ ⟨f, ?_, by omega, ?_⟩
            · simp (disch := omega) only [zu_n, u_i, un_i, un_j, A2_o]
              exact ⟨e18, e19, by rw [e20, Int32.add_assoc, Int32.add_comm (Y (90 + 14 * R + 9)), Int32.add_assoc], e21, by rw [e22], by rw [e23]⟩
            · simp (disch := omega) only [un_i, un_j]; exact ha
            · simp (disch := omega) only [un_i, un_j]; rw [hb, nI_add]
            · simp (disch := omega) only [un_i, un_j]; exact hc
            · simp (disch := omega) only [un_i, un_j]; exact hd
            · simp (disch := omega) only [un_i, un_j]; rw [hs, zl_1, nI_add]
            · simp (disch := omega) only [zu_n, A2_o]; exact hf
            · simp (disch := omega) only [un_i, un_j]; exact hff
          · intro w w1 w2
            unfold bF
            rw [← hR, cif_f hz, cif_f hl, hcc, p_cl (by omega), cif_f (by omega), cif_t ⟨hob.1, by rw [← hk2]; exact hob.2⟩]
            have w8 : w = 6 ∨ w = 7 ∨ w = 8 ∨ w = 9 ∨ w = 10 ∨ w = 11 ∨ w = 12 ∨ w = 13 := by omega
            rcases w8 with rfl | rfl | rfl | rfl | rfl | rfl | rfl | rfl
            · simp (disch := omega) only [un_i, un_j, hbl]; rfl
            · simp (disch := omega) only [un_i, un_j, hbl]; rfl
            · simp (disch := omega) only [un_i, un_j, hbl]; rw [← n1]; rfl
            · simp (disch := omega) only [un_i, un_j, hbl]; rfl
            · simp (disch := omega) only [un_i, un_j, hbl]; rfl
            · simp (disch := omega) only [un_i, un_j, hbl]; rfl
            · simp (disch := omega) only [un_i, un_j, hbl]; rfl
            · simp (disch := omega) only [un_i, un_j, hbl]; rfl
          · rw [un_j (by omega), un_j (by omega), un_j (by omega), un_j (by omega), un_j (by omega), un_j (by omega), hk2, hk6]
            refine ⟨(cif_f (fun q => ?_)).symm, (cif_f (fun q => ?_)).symm⟩
            · exact nact (by rw [hR]; exact q.2)
            · exact q.2 (by rw [← hR]; exact ⟨hob.1, by rw [← hk2]; exact hob.2⟩)
        · -- delivered
          have hact : hAct n np (nI dy) c R := ⟨hcc, hz, hw⟩
          have hdl : hDlv n np (nI dy) (tR ah pl nc nh) c i := by
            refine ⟨by rw [← hR]; exact hact, fun q => hob ?_⟩
            rw [hk2]
            exact ⟨by rw [hR]; exact q.1, q.2⟩
          obtain ⟨T1, ft1, t1o, t133, t133j⟩ : ∃ T1, f_X6_fateOfPapers (nI R) T = some (nI 1, T1) ∧ (∀ a, a ≠ 33 → T1 a = T a) ∧ T1 33 c = k2 n np (nI dy) (tR ah pl nc nh) c (i + 1) ∧ ∀ j, j ≠ c → T1 33 j = T 33 j := by
            by_cases ho : oX n R (nI dy)
            · have h2 : ¬ Y (426 + 7 * c + 2) = 0 := fun q => hob ⟨ho, q⟩
              refine ⟨z_u T 33 c (T 33 c - 1), ?_, fun a ha => u_o ha, ?_, fun j hj => u_j hj⟩
              · rw [hfate2, if_pos (nI_le hw (by omega)), show (if tb (oX n R (nI dy)) = (0 : Int32) then _ else _) = _ from p_tbT ho, if_neg (by rw [q33]; exact h2)]; rfl
              · rw [u_i, q33, hk2]
                show _ = cif (hAct n np (nI dy) c (tR ah pl nc nh i) ∧ oX n (tR ah pl nc nh i) (nI dy) ∧ k2 n np (nI dy) (tR ah pl nc nh) c i ≠ 0) _ _
                rw [← hR, cif_t ⟨hact, ho, by rw [← hk2]; exact h2⟩, Int32.sub_eq_add_neg]
            · refine ⟨T, ?_, fun _ _ => rfl, ?_, fun _ _ => rfl⟩
              · rw [hfate2, if_pos (nI_le hw (by omega)), show (if tb (oX n R (nI dy)) = (0 : Int32) then _ else _) = _ from p_tbF ho]; rfl
              · rw [q33, hk2]
                show _ = cif (hAct n np (nI dy) c (tR ah pl nc nh i) ∧ oX n (tR ah pl nc nh i) (nI dy) ∧ k2 n np (nI dy) (tR ah pl nc nh) c i ≠ 0) _ _
                rw [← hR, cif_f (fun q => ho q.2.1)]
          refine fin 1 c T1 (z_u (z_u (z_u (A2 T1 1 (nI p)) 18 R (T 18 R + nI p)) 24 R (T 24 R + nI p)) 37 c (T 37 c + nI p)) (un (un (un (un Y (90 + 14 * R + 6) (Y (90 + 14 * R + 6) + nI p)) (90 + 14 * R + 13) 1) (426 + 7 * c + 6) (Y (426 + 7 * c + 6) + nI p)) (426 + 7 * c + 2) (T1 33 c)) (by omega) ft1 ?_ (fun q j h1 h2 h3 => ?_) (fun j h1 h2 => by rw [un_j (by omega), un_j (by omega), un_j (by omega), un_j (by omega)]) (fun _ => ?_) ?_
            (accs 1 T1 _ _ 6 rfl (by omega) (by omega) (t1o 1 (by omega)) (fun j => by rw [zu_n (by omega), zu_n (by omega), zu_n (by omega)]) (by rw [un_j (by omega), un_j (by omega), un_j (by omega), un_i]) (fun j h1 h2 h3 h4 h5 h6 => by rw [un_j (by omega), un_j (by omega), un_j h6, un_j h3])) (fun h => absurd hcn (by omega)) ?_ (fun _ => ?_) other
          · unfold f_X6_book
            rw [if_neg (by decide), if_pos (by decide), p_cki (by omega) (by omega), p_cki (by omega) (by omega), p_cl (by omega), p_let, p_cki (by omega) (by omega), p_cki (by omega) (by omega), p_let, p_cki (by omega) (by omega)]
            have e15' : T 15 R = nI c := e15.trans hcY
            simp (disch := omega) only [zu_n, A2_o, t1o, e15', p_cki, p_cl, p_let]
          · rw [zu_n (by omega), zu_n (by omega), zu_n (by omega), A2_o h1]
            by_cases q3 : q = 33
            · rw [q3, t133j j (by omega)]
            · rw [t1o q q3]
          · obtain ⟨l, l1, l2⟩ := q38
            unfold rK1
            simp (disch := omega) only [zu_n, u_i, un_i, un_j, A2_o, t1o]
            exact ⟨q31, q32, trivial, q34, q35, q36, by rw [q37], l, l1, l2⟩
          · refine rH1_mk hr0 (fun q h1 h2 => by rw [zu_n (by omega), zu_n (by omega), zu_n (by omega), A2_o (by omega), t1o q (by omega)]) (fun w hw => by rw [un_j (by omega), un_j (by omega), un_j (by omega), un_j (by omega)]) ?_ ⟨fa + p, fb, fc, fd, ?_, ?_, ?_, ?_, by omega⟩ ⟨s, ?_, by omega⟩ ⟨f + p, ?_, by omega, Or.inr ⟨by omega, ?_⟩⟩
            · simp (disch := omega) only [zu_n, u_i, un_i, un_j, A2_o, t1o]
              exact ⟨by rw [e18], e19, e20, e21, e22, e23⟩
            · simp (disch := omega) only [un_i, un_j]; rw [ha, nI_add]
            · simp (disch := omega) only [un_i, un_j]; exact hb
            · simp (disch := omega) only [un_i, un_j]; exact hc
            · simp (disch := omega) only [un_i, un_j]; exact hd
            · simp (disch := omega) only [un_i, un_j]; exact hs
            · simp (disch := omega) only [zu_n, u_i, A2_o]; rw [hf, nI_add]
            · simp (disch := omega) only [un_i, un_j]; rfl
          · intro w w1 w2
            unfold bF
            rw [← hR, cif_f hz, cif_f hl, hcc, p_cl (by omega), cif_f (by omega), cif_f (by rw [← hk2]; exact hob)]
            have w8 : w = 6 ∨ w = 7 ∨ w = 8 ∨ w = 9 ∨ w = 10 ∨ w = 11 ∨ w = 12 ∨ w = 13 := by omega
            rcases w8 with rfl | rfl | rfl | rfl | rfl | rfl | rfl | rfl
            · simp (disch := omega) only [un_i, un_j, hbl]; rw [← n1]; rfl
            · simp (disch := omega) only [un_i, un_j, hbl]; rfl
            · simp (disch := omega) only [un_i, un_j, hbl]; rfl
            · simp (disch := omega) only [un_i, un_j, hbl]; rfl
            · simp (disch := omega) only [un_i, un_j, hbl]; rfl
            · simp (disch := omega) only [un_i, un_j, hbl]; rfl
            · simp (disch := omega) only [un_i, un_j, hbl]; rfl
            · simp (disch := omega) only [un_i, un_j, hbl]; rfl
          · refine ⟨by rw [un_i]; exact t133, ?_⟩
            rw [un_j (by omega), un_i, hk6]
            show _ = cif (hDlv n np (nI dy) (tR ah pl nc nh) c i) _ _
            rw [cif_t hdl, ← hR, n1]
      · -- too heavy
        have nact : ¬ hAct n np (nI dy) c R := fun q => hw q.2.2
        refine fin 4 c T (z_u (z_u (z_u (A2 T 4 (nI p)) 20 R (T 20 R + nI p)) 22 R (T 22 R + 1)) 23 R (T 23 R + 1)) (un (un (un Y (90 + 14 * R + 9) (Y (90 + 14 * R + 9) + nI p)) (90 + 14 * R + 11) (Y (90 + 14 * R + 11) + 1)) (90 + 14 * R + 12) (Y (90 + 14 * R + 12) + 1)) (by omega) ?_ ?_ (fun q j h1 h2 h3 => by rw [zu_n (by omega), zu_n (by omega), zu_n (by omega), A2_o h1]) (fun j h1 h2 => by rw [un_j (by omega), un_j (by omega), un_j (by omega)]) (fun _ => rK1_congr (hK.2.2.2 c hcn) (fun q h1 h2 => by rw [u_o (by omega), u_o (by omega), u_o (by omega), A2_o (by omega)]) (fun w hw => by rw [un_j (by omega), un_j (by omega), un_j (by omega)])) ?_
          (accs 4 T _ _ 9 rfl (by omega) (by omega) rfl (fun j => by rw [zu_n (by omega), zu_n (by omega), zu_n (by omega)]) (by rw [un_j (by omega), un_j (by omega), un_i]) (fun j h1 h2 h3 h4 h5 h6 => by rw [un_j h5, un_j h4, un_j h3])) (fun h => absurd hcn (by omega)) ?_ (fun _ => ?_) other
        · rw [hfate2, if_neg (nI_ge (by omega) (by omega))]; rfl
        · unfold f_X6_book
          rw [if_neg (by decide), if_neg (by decide), if_neg (by decide), p_cki (by omega) (by omega), p_cki (by omega) (by omega), p_cl (by omega), p_let, A2_o (by omega), x_complain (by omega), p_b1]
          simp (disch := omega) only [zu_n, A2_o]
        · refine rH1_mk hr0 (fun q h1 h2 => by rw [zu_n (by omega), zu_n (by omega), zu_n (by omega), A2_o (by omega)]) (fun w hw => by rw [un_j (by omega), un_j (by omega), un_j (by omega)]) ?_ ⟨fa, fb, fc + p, fd, ?_, ?_, ?_, ?_, by omega⟩ ⟨s + 1, ?_, by omega⟩ ⟨f, ?_, by omega, ?_⟩
          · simp (disch := omega) only [zu_n, u_i, un_i, un_j, A2_o]
            exact ⟨e18, e19, by rw [e20, Int32.add_assoc], e21, by rw [e22], by rw [e23]⟩
          · simp (disch := omega) only [un_i, un_j]; exact ha
          · simp (disch := omega) only [un_i, un_j]; exact hb
          · simp (disch := omega) only [un_i, un_j]; rw [hc, nI_add]
          · simp (disch := omega) only [un_i, un_j]; exact hd
          · simp (disch := omega) only [un_i, un_j]; rw [hs, zl_1, nI_add]
          · simp (disch := omega) only [zu_n, A2_o]; exact hf
          · simp (disch := omega) only [un_i, un_j]; exact hff
        · intro w w1 w2
          unfold bF
          rw [← hR, cif_f hz, cif_f hl, hcc, p_cl (by omega), cif_t (by omega)]
          have w8 : w = 6 ∨ w = 7 ∨ w = 8 ∨ w = 9 ∨ w = 10 ∨ w = 11 ∨ w = 12 ∨ w = 13 := by omega
          rcases w8 with rfl | rfl | rfl | rfl | rfl | rfl | rfl | rfl
          · simp (disch := omega) only [un_i, un_j, hbl]; rfl
          · simp (disch := omega) only [un_i, un_j, hbl]; rfl
          · simp (disch := omega) only [un_i, un_j, hbl]; rfl
          · simp (disch := omega) only [un_i, un_j, hbl]; rw [← n1]; rfl
          · simp (disch := omega) only [un_i, un_j, hbl]; rfl
          · simp (disch := omega) only [un_i, un_j, hbl]; rfl
          · simp (disch := omega) only [un_i, un_j, hbl]; rfl
          · simp (disch := omega) only [un_i, un_j, hbl]; rfl
        · rw [un_j (by omega), un_j (by omega), un_j (by omega), un_j (by omega), un_j (by omega), un_j (by omega), hk2, hk6]
          refine ⟨(cif_f (fun q => ?_)).symm, (cif_f (fun q => ?_)).symm⟩
          · exact nact (by rw [hR]; exact q.1)
          · exact nact (by rw [hR]; exact q.1)
end BRING
