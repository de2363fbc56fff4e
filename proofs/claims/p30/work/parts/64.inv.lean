/-! p30, THE PURE PART. 5: what holds of every town that the law makes -/
def aH (n : Nat → Int32) (k : Nat) : Nat := (n (10 + 4 * k + 0)).toNatClampNeg
def crt (n : Nat → Int32) (h : Nat) : Int32 := rCrt n (aH n) (n (90 + 14 * h + 0)).toNatClampNeg
/-- one house -/
def JH (n : Nat → Int32) (dy h : Nat) : Prop := ∃ p k u s, n (90 + 14 * h + 1) = nI p ∧ 1 ≤ p ∧ p ≤ 5 ∧ n (90 + 14 * h + 6) = nI (p * k) ∧ n (90 + 14 * h + 8) + n (90 + 14 * h + 9) + n (90 + 14 * h + 10) = nI (p * u) ∧ n (90 + 14 * h + 11) = nI u ∧ n (90 + 14 * h + 12) = nI s ∧ s ≤ u ∧ k + u ≤ dy ∧ ¬ n (90 + 14 * h + 4) < 0
def JC (n : Nat → Int32) (nh nk : Nat) : Prop := ∀ h, h < nh → ∀ c, c < nk → n (90 + 14 * h + 3) = nI c → n (426 + 7 * c + 0) = nI 0 ∨ crt n h = nI 1
def JB (n : Nat → Int32) (nk : Nat) : Prop := ∀ c, c < nk → ∃ b, b ≤ 500 ∧ n (426 + 7 * c + 2) = nI b
def JJ (n : Nat → Int32) (nh nk dy : Nat) (due : Int32) : Prop := (∀ h, h < nh → JH n dy h) ∧ JB n nk ∧ JC n nh nk ∧
  rSum n nh 6 + rSum n nh 7 + rSum n nh 8 + rSum n nh 9 + rSum n nh 10 = due ∧ sI (fun c => n (426 + 7 * c + 6)) nk = rSum n nh 6 ∧ n 12 = 0
def IV (x m : z_S) (nc nh nk d : Nat) (due : Int32) : Prop := RX x m ∧ JJ (m 1) nh nk d due ∧ nc ≤ 20 ∧ nh ≤ 24 ∧ nk ≤ 3 ∧ d ≤ 900 ∧ m 1 0 = nI nc ∧ m 1 1 = nI nh ∧ m 1 2 = nI nk ∧ m 1 4 = nI d
section INV
variable {x m : z_S} {nc nh nk np dy : Nat} {ah pl : Nat → Nat}
theorem IV.X {d : Nat} {due : Int32} (h : IV x m nc nh nk d due) : ∃ np ah pl, XT x m nc nh nk np d ah pl := by
  obtain ⟨hR, -, b0, b1, b2, b3, e0, e1, e2, e4⟩ := h
  obtain ⟨nc', nh', nk', np, dy', ah, pl, X⟩ := hR.ex
  obtain ⟨n0, n1, n2, n3, n4⟩ := X.n
  obtain ⟨c0, c1, c2, c3, c4, c5⟩ := X.b
  have q0 : nc' = nc := (nI_eq (by omega) (by omega)).mp (n0.symm.trans e0)
  have q1 : nh' = nh := (nI_eq (by omega) (by omega)).mp (n1.symm.trans e1)
  have q2 : nk' = nk := (nI_eq (by omega) (by omega)).mp (n2.symm.trans e2)
  have q4 : dy' = d := (nI_eq (by omega) (by omega)).mp (n4.symm.trans e4)
  subst q0; subst q1; subst q2; subst q4
  exact ⟨np, ah, pl, X⟩
theorem IV.of {x' m' : z_S} {d : Nat} {due due' : Int32} (h : IV x m nc nh nk d due) (hR : RX x' m') (hJ : JJ (m' 1) nh nk d due') (e0 : m' 1 0 = m 1 0) (e1 : m' 1 1 = m 1 1) (e2 : m' 1 2 = m 1 2) (e4 : m' 1 4 = m 1 4) : IV x' m' nc nh nk d due' := by
  obtain ⟨-, -, b0, b1, b2, b3, f0, f1, f2, f4⟩ := h
  exact ⟨hR, hJ, b0, b1, b2, b3, e0.trans f0, e1.trans f1, e2.trans f2, e4.trans f4⟩
theorem crt_eq (X : XT x m nc nh nk np dy ah pl) {h : Nat} (hh : h < nh) : crt (m 1) h = rCrt (m 1) ah (pl h) := by
  obtain ⟨hR, hC, hH, -⟩ := X
  obtain ⟨e, hp⟩ := hH.1.2.2 h hh
  have h20 := hC.1.2.2.1
  have hA := hC.1.2.2.2.1
  unfold crt
  rw [e, p_cl (by omega)]
  refine tf_congr (pl h) (fun k a b => ⟨hA k a (by omega), ?_, rfl⟩)
  have := hA k a (by omega)
  unfold aH
  rw [hC.1.2.2.2.2 k a (by omega), p_cl (by omega)]
theorem crt_congr (X : XT x m nc nh nk np dy ah pl) {n' : Nat → Int32} {h : Nat} (hh : h < nh) (hn : ∀ i, 10 ≤ i → i < 10 + 4 * nc → n' i = m 1 i) (hp : n' (90 + 14 * h + 0) = m 1 (90 + 14 * h + 0)) : crt n' h = crt (m 1) h := by
  obtain ⟨hR, hC, hH, -⟩ := X
  obtain ⟨e, hpl⟩ := hH.1.2.2 h hh
  have h20 := hC.1.2.2.1
  have hA := hC.1.2.2.2.1
  unfold crt
  rw [hp, e, p_cl (by omega)]
  have ea : ∀ k, 1 ≤ k → k ≤ pl h → aH (m 1) k = ah k := by
    intro k a b
    have := hA k a (by omega)
    unfold aH
    rw [hC.1.2.2.2.2 k a (by omega), p_cl (by omega)]
  refine tf_congr (pl h) (fun k a b => ⟨?_, ?_, ?_⟩)
  · rw [ea k a b]; exact hA k a (by omega)
  · unfold aH
    rw [hn _ (by omega) (by omega)]
  · funext d
    rw [hn _ (by omega) (by omega)]
theorem JH.congr {n n' : Nat → Int32} {dy dy' h : Nat} (H : JH n dy h) (hd : dy ≤ dy') (hn : ∀ w, w < 14 → w ≠ 3 → w ≠ 4 → w ≠ 5 → n' (90 + 14 * h + w) = n (90 + 14 * h + w)) (h4 : ¬ n' (90 + 14 * h + 4) < 0) : JH n' dy' h := by
  obtain ⟨p, k, u, s, a1, a2, a3, a4, a5, a6, a7, a8, a9, a10⟩ := H
  refine ⟨p, k, u, s, ?_, a2, a3, ?_, ?_, ?_, ?_, a8, by omega, h4⟩
  · rw [hn 1 (by omega) (by omega) (by omega) (by omega)]; exact a1
  · rw [hn 6 (by omega) (by omega) (by omega) (by omega)]; exact a4
  · rw [hn 8 (by omega) (by omega) (by omega) (by omega), hn 9 (by omega) (by omega) (by omega) (by omega), hn 10 (by omega) (by omega) (by omega) (by omega)]; exact a5
  · rw [hn 11 (by omega) (by omega) (by omega) (by omega)]; exact a6
  · rw [hn 12 (by omega) (by omega) (by omega) (by omega)]; exact a7
/-- a change that leaves papers and counts as they were -/
theorem JJ.upd (X : XT x m nc nh nk np dy ah pl) {due : Int32} (J : JJ (m 1) nh nk dy due) {n' : Nat → Int32} (hc : ∀ i, 10 ≤ i → i < 10 + 4 * nc → n' i = m 1 i) (hh : ∀ h, h < nh → ∀ w, w < 14 → w ≠ 3 → w ≠ 4 → w ≠ 5 → n' (90 + 14 * h + w) = m 1 (90 + 14 * h + w))
    (h4 : ∀ h, h < nh → ¬ n' (90 + 14 * h + 4) < 0) (hk : ∀ c, c < nk → n' (426 + 7 * c + 0) = m 1 (426 + 7 * c + 0) ∧ n' (426 + 7 * c + 6) = m 1 (426 + 7 * c + 6)) (hb : JB n' nk)
    (h3 : ∀ h, h < nh → ∀ c, c < nk → n' (90 + 14 * h + 3) = nI c → m 1 (90 + 14 * h + 3) = nI c ∨ m 1 (426 + 7 * c + 0) = nI 0 ∨ crt (m 1) h = nI 1) : JJ n' nh nk dy due := by
  obtain ⟨j1, j2, j3, j4, j5, j6⟩ := J
  have hnc := X.b.1
  have sm : ∀ w, 6 ≤ w → w ≤ 10 → rSum n' nh w = rSum (m 1) nh w := fun w a b => sI_congr (fun i hi => hh i hi w (by omega) (by omega) (by omega) (by omega))
  refine ⟨fun h q => (j1 h q).congr (Nat.le_refl _) (hh h q) (h4 h q), hb, fun h q c hc' e => ?_, ?_, ?_, by rw [hc 12 (by omega) (by omega)]; exact j6⟩
  · rw [(hk c hc').1, crt_congr X q hc (hh h q 0 (by omega) (by omega) (by omega) (by omega))]
    rcases h3 h q c hc' e with r | r
    · exact j3 h q c hc' r
    · exact r
  · rw [sm 6 (by omega) (by omega), sm 7 (by omega) (by omega), sm 8 (by omega) (by omega), sm 9 (by omega) (by omega), sm 10 (by omega) (by omega)]; exact j4
  · rw [sm 6 (by omega) (by omega), ← j5]
    exact sI_congr (fun c hc' => (hk c hc').2)
theorem JJ.B {n n' : Nat → Int32} (h : JB n nk) (hn : ∀ c, c < nk → n' (426 + 7 * c + 2) = n (426 + 7 * c + 2)) : JB n' nk := fun c hc => by rw [hn c hc]; exact h c hc
theorem JJ.per {n : Nat → Int32} {nh nk dy : Nat} {due : Int32} (J : JJ n nh nk dy due) : ∀ h, h < nh → ¬ n (90 + 14 * h + 4) < 0 := fun h hh => by
  obtain ⟨p, k, u, s, a1, a2, a3, a4, a5, a6, a7, a8, a9, a10⟩ := J.1 h hh
  exact a10
theorem j_un3 (X : XT x m nc nh nk np dy ah pl) {due : Int32} (J : JJ (m 1) nh nk dy due) {k : Nat} {v : Int32} (hk : k < nh) (hv : ∀ c, c < nk → v = nI c → m 1 (426 + 7 * c + 0) = nI 0 ∨ crt (m 1) k = nI 1) : JJ (un (m 1) (90 + 14 * k + 3) v) nh nk dy due := by
  obtain ⟨b0, b1, b2, b3, b4, b5⟩ := X.b
  refine J.upd X (fun i a b => un_j (by omega)) (fun h hh w a b c d => un_j (by omega)) (fun h hh => by rw [un_j (by omega)]; exact J.per h hh) (fun c hc => ⟨un_j (by omega), un_j (by omega)⟩) (JJ.B J.2.1 (fun c hc => un_j (by omega))) (fun h hh c hc e => ?_)
  by_cases q : h = k
  · subst q
    rw [un_i] at e
    exact Or.inr (hv c hc e)
  · rw [un_j (by omega)] at e
    exact Or.inl e
theorem j_give (X : XT x m nc nh nk np dy ah pl) {due : Int32} (J : JJ (m 1) nh nk dy due) {k c : Nat} (hk : k < nh) (hc : c < nk) (hr : cR (m 1) ah pl c k) : JJ (un (m 1) (90 + 14 * k + 3) (nI c)) nh nk dy due := by
  obtain ⟨b0, b1, b2, b3, b4, b5⟩ := X.b
  refine j_un3 X J hk (fun e he q => ?_)
  have : c = e := (nI_eq (by omega) (by omega)).mp q
  subst this
  rw [crt_eq X hk]
  exact hr
theorem j_giveNone (X : XT x m nc nh nk np dy ah pl) {due : Int32} (J : JJ (m 1) nh nk dy due) {k : Nat} (hk : k < nh) : JJ (un (m 1) (90 + 14 * k + 3) (-1)) nh nk dy due := by
  obtain ⟨b0, b1, b2, b3, b4, b5⟩ := X.b
  exact j_un3 X J hk (fun e he q => absurd q.symm (nI_m1 (by omega)))
theorem j_pause (X : XT x m nc nh nk np dy ah pl) {due : Int32} (J : JJ (m 1) nh nk dy due) {n' : Nat → Int32} (hn : ∀ i, i ≠ 3 → i < 447 → n' i = m 1 i) : JJ n' nh nk dy due := by
  obtain ⟨b0, b1, b2, b3, b4, b5⟩ := X.b
  exact J.upd X (fun i a b => hn _ (by omega) (by omega)) (fun h hh w a b c d => hn _ (by omega) (by omega)) (fun h hh => by rw [hn _ (by omega) (by omega)]; exact J.per h hh) (fun c hc => ⟨hn _ (by omega) (by omega), hn _ (by omega) (by omega)⟩) (JJ.B J.2.1 (fun c hc => hn _ (by omega) (by omega))) (fun h hh c hc e => Or.inl (by rw [← hn _ (by omega) (by omega)]; exact e))
theorem j_dog (X : XT x m nc nh nk np dy ah pl) {due : Int32} (J : JJ (m 1) nh nk dy due) {n' : Nat → Int32} {k : Nat} (hk : k < nh) (hn : ∀ i, i ≠ 90 + 14 * k + 4 → i ≠ 90 + 14 * k + 5 → n' i = m 1 i) (h4 : ¬ n' (90 + 14 * k + 4) < 0) : JJ n' nh nk dy due := by
  obtain ⟨b0, b1, b2, b3, b4, b5⟩ := X.b
  refine J.upd X (fun i a b => hn _ (by omega) (by omega)) (fun h hh w a b c d => hn _ (by omega) (by omega)) (fun h hh => ?_) (fun c hc => ⟨hn _ (by omega) (by omega), hn _ (by omega) (by omega)⟩) (JJ.B J.2.1 (fun c hc => hn _ (by omega) (by omega))) (fun h hh c hc e => Or.inl (by rw [← hn _ (by omega) (by omega)]; exact e))
  by_cases q : h = k
  · subst q; exact h4
  · rw [hn _ (by omega) (by omega)]; exact J.per h hh
theorem j_biscuits (X : XT x m nc nh nk np dy ah pl) {due : Int32} (J : JJ (m 1) nh nk dy due) {c v : Nat} (hc : c < nk) (hv : v ≤ 500) : JJ (un (m 1) (426 + 7 * c + 2) (nI v)) nh nk dy due := by
  obtain ⟨b0, b1, b2, b3, b4, b5⟩ := X.b
  refine J.upd X (fun i a b => un_j (by omega)) (fun h hh w a b c d => un_j (by omega)) (fun h hh => by rw [un_j (by omega)]; exact J.per h hh) (fun e he => ⟨un_j (by omega), un_j (by omega)⟩) (fun e he => ?_) (fun h hh e he q => Or.inl (by rw [un_j (by omega)] at q; exact q))
  by_cases q : e = c
  · subst q; exact ⟨v, hv, un_i⟩
  · rw [un_j (by omega)]; exact J.2.1 e he
theorem j_set (X : XT x m nc nh nk np dy ah pl) {due : Int32} (J : JJ (m 1) nh nk dy due) {n' : Nat → Int32} (hn : ∀ i, i ≠ 5 → i ≠ 6 → n' i = m 1 i) : JJ n' nh nk dy due := by
  obtain ⟨b0, b1, b2, b3, b4, b5⟩ := X.b
  exact J.upd X (fun i a b => hn _ (by omega) (by omega)) (fun h hh w a b c d => hn _ (by omega) (by omega)) (fun h hh => by rw [hn _ (by omega) (by omega)]; exact J.per h hh) (fun c hc => ⟨hn _ (by omega) (by omega), hn _ (by omega) (by omega)⟩) (JJ.B J.2.1 (fun c hc => hn _ (by omega) (by omega))) (fun h hh c hc e => Or.inl (by rw [← hn _ (by omega) (by omega)]; exact e))
theorem j_house (X : XT x m nc nh nk np dy ah pl) {due : Int32} (J : JJ (m 1) nh nk dy due) {n' : Nat → Int32} {ka w : Nat} (hlt : nh < 24) (H : nHo (m 1) n' nc nh ka w) : JJ n' (nh + 1) nk dy due := by
  obtain ⟨b0, b1, b2, b3, b4, b5⟩ := X.b
  obtain ⟨q1, q2, q3, q4, q5, q6, q7, q8, q9⟩ := H
  obtain ⟨j1, j2, j3, j4, j5, j6⟩ := J
  have sm : ∀ w, 6 ≤ w → w ≤ 10 → rSum n' (nh + 1) w = rSum (m 1) nh w := fun w a b => sI_ext (fun i hi => q9 _ (by omega) (by omega)) ((q8 w (by omega) (by omega)).trans nI_0)
  refine ⟨fun h hh => ?_, fun c hc => by rw [q9 _ (by omega) (by omega)]; exact j2 c hc, fun h hh c hc e => ?_, ?_, ?_, by rw [q9 12 (by omega) (by omega)]; exact j6⟩
  · by_cases q : h = nh
    · subst q
      exact ⟨w, 0, 0, 0, q4, q5, q6, q8 6 (by omega) (by omega), by rw [q8 8 (by omega) (by omega), q8 9 (by omega) (by omega), q8 10 (by omega) (by omega)]; rfl, q8 11 (by omega) (by omega), q8 12 (by omega) (by omega), Nat.le_refl _, by omega, by rw [q8 4 (by omega) (by omega)]; decide⟩
    · refine (j1 h (by omega)).congr (Nat.le_refl _) (fun w a b c d => q9 _ (by omega) (by omega)) ?_
      rw [q9 _ (by omega) (by omega)]
      obtain ⟨p, k, u, s, a1, a2, a3, a4, a5, a6, a7, a8, a9, a10⟩ := j1 h (by omega)
      exact a10
  · by_cases q : h = nh
    · subst q
      rw [q7] at e
      exact absurd e.symm (nI_m1 (by omega))
    · rw [q9 _ (by omega) (by omega)] at e ⊢
      rw [crt_congr X (h := h) (by omega) (fun i a b => q9 _ (by omega) (by omega)) (q9 _ (by omega) (by omega))]
      exact j3 h (by omega) c hc e
  · rw [sm 6 (by omega) (by omega), sm 7 (by omega) (by omega), sm 8 (by omega) (by omega), sm 9 (by omega) (by omega), sm 10 (by omega) (by omega)]; exact j4
  · rw [sm 6 (by omega) (by omega), ← j5]
    exact sI_congr (fun c hc => q9 _ (by omega) (by omega))
end INV
