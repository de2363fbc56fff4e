/-! p30, THE PURE PART. 18: what holds behind a day -/
theorem cif_iff {α : Type} {P Q : Prop} {a b : α} (h : P ↔ Q) : cif P a b = cif Q a b := by rw [propext h]
section DAY3
variable {x m : z_S} {nc nh nk np dy : Nat} {ah pl : Nat → Nat} {n' : Nat → Int32}
theorem XT.by' (X : XT x m nc nh nk np dy ah pl) {k : Nat} (hk : k < nh) : m 1 (90 + 14 * tR ah pl nc nh k + 3) = -1 ∨ ∃ c, c < nk ∧ m 1 (90 + 14 * tR ah pl nc nh k + 3) = nI c := (X.2.2.1.2.2 _ (X.R.1 k hk)).2.2.2.1
/-- over all carriers, one house -/
theorem s_act {n : Nat → Int32} {d : Int32} {h : Nat} {v : Int32} (hnk : nk ≤ 3) (hby : n (90 + 14 * h + 3) = -1 ∨ ∃ c, c < nk ∧ n (90 + 14 * h + 3) = nI c) :
    sI (fun c => cif (hAct n np d c h) v 0) nk = cif (¬ n (90 + 14 * h + 3) = -1 ∧ hAct n np d (n (90 + 14 * h + 3)).toNatClampNeg h) v 0 := by
  rcases hby with e | ⟨c, hc, e⟩
  · rw [cif_f (fun w => w.1 e)]
    exact sI_non (fun c hc w => nI_m1 (a := c) (by omega) (by rw [← w.1]; exact e))
  · have e1 : ¬ n (90 + 14 * h + 3) = -1 := fun w => nI_m1 (a := c) (by omega) (by rw [← e]; exact w)
    have e2 : (n (90 + 14 * h + 3)).toNatClampNeg = c := by rw [e, p_cl (by omega)]
    rw [sI_car hc (fun c' hc' hne w => hne ((nI_eq (by omega) (by omega)).mp (w.1.symm.trans e))), e2]
    exact cif_iff ⟨fun w => ⟨e1, w⟩, fun w => w.2⟩
theorem s_dlv {n : Nat → Int32} {d : Int32} {R : Nat → Nat} {k : Nat} (hnk : nk ≤ 3) (hby : n (90 + 14 * R k + 3) = -1 ∨ ∃ c, c < nk ∧ n (90 + 14 * R k + 3) = nI c) :
    sI (fun c => cif (hDlv n np d R c k) (n (90 + 14 * R k + 1)) 0) nk = dl6 n np d R k := by
  unfold dl6
  rcases hby with e | ⟨c, hc, e⟩
  · rw [cif_f (fun ⟨c, hc, w⟩ => nI_m1 (a := c) (by omega) (by rw [← w.1.1]; exact e))]
    exact sI_non (fun c hc w => nI_m1 (a := c) (by omega) (by rw [← w.1.1]; exact e))
  · rw [sI_car hc (fun c' hc' hne w => hne ((nI_eq (by omega) (by omega)).mp (w.1.1.symm.trans e)))]
    refine cif_iff ⟨fun w => ⟨c, by omega, w⟩, fun ⟨c', hc', w⟩ => ?_⟩
    have : c' = c := (nI_eq (by omega) (by omega)).mp (w.1.1.symm.trans e)
    rw [← this]; exact w
/-- one house -/
theorem h_day (X : XT x m nc nh nk np dy ah pl) (D : DF (m 1) n' nc nh nk np dy ah pl) {h : Nat} (hh : h < nh) (J : JH (m 1) dy h) : JH n' (dy + 1) h ∧
    (((n' (90 + 14 * h + 6) + n' (90 + 14 * h + 7)) + n' (90 + 14 * h + 8)) + n' (90 + 14 * h + 9)) + n' (90 + 14 * h + 10) = ((((m 1 (90 + 14 * h + 6) + m 1 (90 + 14 * h + 7)) + m 1 (90 + 14 * h + 8)) + m 1 (90 + 14 * h + 9)) + m 1 (90 + 14 * h + 10)) + m 1 (90 + 14 * h + 1) ∧
    n' (90 + 14 * h + 6) + n' (90 + 14 * h + 8) = (m 1 (90 + 14 * h + 6) + m 1 (90 + 14 * h + 8)) + sI (fun c => cif (hAct (m 1) np (nI dy) c h) (m 1 (90 + 14 * h + 1)) 0) nk := by
  obtain ⟨b0, b1, b2, b3, b4, b5⟩ := X.b
  obtain ⟨R1, R2, R3⟩ := X.R
  obtain ⟨k, hk, rfl⟩ := R3 h hh
  have hby := X.by' hk
  obtain ⟨d0, d4, ds, dk, dc⟩ := D
  obtain ⟨dw, d12⟩ := dk k hk
  have e6 := dw 6 (by omega) (by omega)
  have e7 := dw 7 (by omega) (by omega)
  have e8 := dw 8 (by omega) (by omega)
  have e9 := dw 9 (by omega) (by omega)
  have e10 := dw 10 (by omega) (by omega)
  have e11 := dw 11 (by omega) (by omega)
  have e1 := ds (tR ah pl nc nh k) 1 (by omega) (by omega)
  have e4 := ds (tR ah pl nc nh k) 4 (by omega) (by omega)
  obtain ⟨p, kk, u, s, a1, a2, a3, a4, a5, a6, a7, a8, a9, a10⟩ := J
  have mk : ∀ k' u' s' : Nat, n' (90 + 14 * tR ah pl nc nh k + 6) = nI (p * k') → n' (90 + 14 * tR ah pl nc nh k + 8) + n' (90 + 14 * tR ah pl nc nh k + 9) + n' (90 + 14 * tR ah pl nc nh k + 10) = nI (p * u') → n' (90 + 14 * tR ah pl nc nh k + 11) = nI u' → bF (m 1) np (nI dy) (tR ah pl nc nh) k 12 = nI s' → s' ≤ u' → k' + u' ≤ dy + 1 → JH n' (dy + 1) (tR ah pl nc nh k) := by
    intro k' u' s' q1 q2 q3 q4 q5 q6
    rcases d12 with w | w
    · exact ⟨p, k', u', s', by rw [e1]; exact a1, a2, a3, q1, q2, q3, by rw [w]; exact q4, q5, q6, by rw [e4]; exact a10⟩
    · exact ⟨p, k', u', 0, by rw [e1]; exact a1, a2, a3, q1, q2, q3, by rw [w]; rfl, Nat.zero_le _, q6, by rw [e4]; exact a10⟩
  have pk : nI (p * kk) + nI p = nI (p * (kk + 1)) := by rw [nI_add, Nat.mul_succ]
  have pu : nI (p * u) + nI p = nI (p * (u + 1)) := by rw [nI_add, Nat.mul_succ]
  rw [s_act b3 hby]
  rcases bF_cases (m 1) np (nI dy) (tR ah pl nc nh) k with ⟨c, f6, f7, f8, f9, f10, f11, f12⟩ | ⟨⟨c1, c2⟩, f6, f7, f8, f9, f10, f11, f12⟩ | ⟨⟨c1, c2, c3⟩, f6, f7, f8, f9, f10, f11, f12⟩ | ⟨⟨c1, c2, c3, c4⟩, f6, f7, f8, f9, f10, f11, f12⟩ | ⟨⟨c1, c2, c3, c4⟩, f6, f7, f8, f9, f10, f11, f12⟩
  · rw [cif_f (fun w => w.2.2.1 c)]
    refine ⟨mk kk u s (by rw [e6, f6]; exact a4) (by rw [e8, f8, e9, f9, e10, f10]; exact a5) (by rw [e11, f11]; exact a6) (by rw [f12]; exact a7) a8 (by omega), ?_, ?_⟩
    · rw [e6, f6, e7, f7, e8, f8, e9, f9, e10, f10]
      simp only [Int32.add_assoc, Int32.add_comm, i_lc]
    · rw [e6, f6, e8, f8, Int32.add_zero]
  · rw [cif_f (fun w => w.1 c2)]
    refine ⟨mk kk (u + 1) (s + 1) (by rw [e6, f6]; exact a4) (by rw [e8, f8, e9, f9, e10, f10, ← Int32.add_assoc, a5, a1, pu]) (by rw [e11, f11, a6]; exact nI_add u 1) (by rw [f12, a7]; exact nI_add s 1) (by omega) (by omega), ?_, ?_⟩
    · rw [e6, f6, e7, f7, e8, f8, e9, f9, e10, f10]
      simp only [Int32.add_assoc, Int32.add_comm, i_lc]
    · rw [e6, f6, e8, f8, Int32.add_zero]
  · rw [cif_f (fun w => absurd w.2.2.2 (by omega))]
    refine ⟨mk kk (u + 1) (s + 1) (by rw [e6, f6]; exact a4) (by rw [e8, f8, e9, f9, e10, f10, ← pu, ← a5, a1]; simp only [Int32.add_assoc, Int32.add_comm, i_lc]) (by rw [e11, f11, a6]; exact nI_add u 1) (by rw [f12, a7]; exact nI_add s 1) (by omega) (by omega), ?_, ?_⟩
    · rw [e6, f6, e7, f7, e8, f8, e9, f9, e10, f10]
      simp only [Int32.add_assoc, Int32.add_comm, i_lc]
    · rw [e6, f6, e8, f8, Int32.add_zero]
  · have hA : hAct (m 1) np (nI dy) (m 1 (90 + 14 * tR ah pl nc nh k + 3)).toNatClampNeg (tR ah pl nc nh k) := by
      obtain ⟨c, hc, e⟩ := hby.resolve_left c2
      refine ⟨?_, c1, by omega⟩
      rw [e, p_cl (by omega)]
    rw [cif_t ⟨c2, hA⟩]
    refine ⟨mk kk (u + 1) (s + 1) (by rw [e6, f6]; exact a4) (by rw [e8, f8, e9, f9, e10, f10, ← pu, ← a5, a1]; simp only [Int32.add_assoc, Int32.add_comm, i_lc]) (by rw [e11, f11, a6]; exact nI_add u 1) (by rw [f12, a7]; exact nI_add s 1) (by omega) (by omega), ?_, ?_⟩
    · rw [e6, f6, e7, f7, e8, f8, e9, f9, e10, f10]
      simp only [Int32.add_assoc, Int32.add_comm, i_lc]
    · rw [e6, f6, e8, f8]
      simp only [Int32.add_assoc, Int32.add_comm, i_lc]
  · have hA : hAct (m 1) np (nI dy) (m 1 (90 + 14 * tR ah pl nc nh k + 3)).toNatClampNeg (tR ah pl nc nh k) := by
      obtain ⟨c, hc, e⟩ := hby.resolve_left c2
      refine ⟨?_, c1, by omega⟩
      rw [e, p_cl (by omega)]
    rw [cif_t ⟨c2, hA⟩]
    refine ⟨mk (kk + 1) u s (by rw [e6, f6, a4, a1, pk]) (by rw [e8, f8, e9, f9, e10, f10]; exact a5) (by rw [e11, f11]; exact a6) (by rw [f12]; exact a7) a8 (by omega), ?_, ?_⟩
    · rw [e6, f6, e7, f7, e8, f8, e9, f9, e10, f10]
      simp only [Int32.add_assoc, Int32.add_comm, i_lc]
    · rw [e6, f6, e8, f8]
      simp only [Int32.add_assoc, Int32.add_comm, i_lc]
theorem rW_p {n : Nat → Int32} {d : Int32} {c : Nat} : (rW n nc nh np ah pl c d).2.2.1 = sI (fun k => cif (hAct n np d c (tR ah pl nc nh k)) (n (90 + 14 * tR ah pl nc nh k + 1)) 0) nh ∧ (rW n nc nh np ah pl c d).2.2.2.1 = sI (fun k => cif (hAct n np d c (tR ah pl nc nh k)) (tb (oX n (tR ah pl nc nh k) d)) 0) nh := by
  unfold rW WK
  rw [(wk_p nh).1, (wk_p nh).2]
  exact ⟨sI_congr (fun k _ => cif_iff ⟨fun w => ⟨w.1.1, w.1.2, w.2⟩, fun w => ⟨⟨w.1, w.2.1⟩, w.2.2⟩⟩), sI_congr (fun k _ => cif_iff ⟨fun w => ⟨w.1.1, w.1.2, w.2⟩, fun w => ⟨⟨w.1, w.2.1⟩, w.2.2⟩⟩)⟩
/-- what was loaded came, or dogs were out -/
theorem d_load (X : XT x m nc nh nk np dy ah pl) (D : DF (m 1) n' nc nh nk np dy ah pl) (J : ∀ h, h < nh → JH (m 1) dy h) {r : Int32} (hr : rSum n' nh 6 = rSum (m 1) nh 6 + r) : (r + rSum n' nh 8) - rSum (m 1) nh 8 = sI (fun c => (rW (m 1) nc nh np ah pl c (nI dy)).2.2.1) nk := by
  obtain ⟨R1, R2, R3⟩ := X.R
  have h1 : rSum n' nh 6 + rSum n' nh 8 = (rSum (m 1) nh 6 + rSum (m 1) nh 8) + sI (fun c => (rW (m 1) nc nh np ah pl c (nI dy)).2.2.1) nk := by
    unfold rSum
    rw [← sI_add, ← sI_add, sI_congr (fun h hh => (h_day X D hh (J h hh)).2.2), sI_add]
    congr 1
    rw [sI_swap]
    refine sI_congr (fun c _ => ?_)
    rw [rW_p.1]
    exact (sI_perm (f := fun h => cif (hAct (m 1) np (nI dy) c h) (m 1 (90 + 14 * h + 1)) 0) R1 R2 R3).symm
  rw [hr, Int32.add_assoc, Int32.add_assoc] at h1
  rw [i_cancel h1, Int32.add_comm, Int32.add_sub_cancel]
theorem j_day (X : XT x m nc nh nk np dy ah pl) {due : Int32} (D : DF (m 1) n' nc nh nk np dy ah pl) (J : JJ (m 1) nh nk dy due) : JJ n' nh nk (dy + 1) (due + sI (fun h => m 1 (90 + 14 * h + 1)) nh) := by
  obtain ⟨b0, b1, b2, b3, b4, b5⟩ := X.b
  obtain ⟨R1, R2, R3⟩ := X.R
  obtain ⟨j1, j2, j3, j4, j5, j6⟩ := J
  have D0 := D
  obtain ⟨d0, d4, ds, dk, dc⟩ := D
  refine ⟨fun h hh => (h_day X D0 hh (j1 h hh)).1, fun c hc => ?_, fun h hh c hc e => ?_, ?_, ?_, by rw [d0 12 (by omega) (by omega)]; exact j6⟩
  · obtain ⟨b, hb, eb⟩ := j2 c hc
    obtain ⟨e, q1, q2, q3⟩ := k2_dogs (np := np) (d := nI dy) (R := tR ah pl nc nh) eb hb nh (by omega)
    exact ⟨b - e, by omega, by rw [(dc c (by omega)).2.1, q3]⟩
  · rw [(dc c (by omega)).1 0 (by omega), crt_congr X hh (fun i a b => d0 i (by omega) (by omega)) (ds h 0 (by omega) (by omega))]
    rw [ds h 3 (by omega) (by omega)] at e
    exact j3 h hh c hc e
  · rw [← j4]
    unfold rSum
    rw [← sI_add, ← sI_add, ← sI_add, ← sI_add, ← sI_add, ← sI_add, ← sI_add, ← sI_add, ← sI_add]
    exact sI_congr (fun h hh => (h_day X D0 hh (j1 h hh)).2.1)
  · have e1 : sI (fun c => n' (426 + 7 * c + 6)) nk = sI (fun c => m 1 (426 + 7 * c + 6) + sI (fun k => cif (hDlv (m 1) np (nI dy) (tR ah pl nc nh) c k) (m 1 (90 + 14 * tR ah pl nc nh k + 1)) 0) nh) nk := sI_congr (fun c hc => by rw [(dc c (by omega)).2.2.1, k6_sum])
    rw [e1, sI_add, j5, sI_swap]
    have e2 : sI (fun k => sI (fun c => cif (hDlv (m 1) np (nI dy) (tR ah pl nc nh) c k) (m 1 (90 + 14 * tR ah pl nc nh k + 1)) 0) nk) nh = sI (dl6 (m 1) np (nI dy) (tR ah pl nc nh)) nh := sI_congr (fun k hk => s_dlv b3 (X.by' hk))
    rw [e2]
    unfold rSum
    rw [← sI_perm (f := fun h => n' (90 + 14 * h + 6)) R1 R2 R3, ← sI_perm (f := fun h => m 1 (90 + 14 * h + 6)) R1 R2 R3, ← sI_add]
    exact sI_congr (fun k hk => by rw [(dk k hk).1 6 (by omega) (by omega), bF6 ((X.by' hk).imp id (fun ⟨c, hc, q⟩ => ⟨c, by omega, q⟩))])
/-- the biscuits behind a day, by the dogs told ahead -/
theorem d_bis (X : XT x m nc nh nk np dy ah pl) (D : DF (m 1) n' nc nh nk np dy ah pl) (J : JB (m 1) nk) {c : Nat} (hc : c < nk) : ∃ b e, b ≤ 500 ∧ e ≤ 24 ∧ m 1 (426 + 7 * c + 2) = nI b ∧ (rW (m 1) nc nh np ah pl c (nI dy)).2.2.2.1 = nI e ∧ n' (426 + 7 * c + 2) = nI (b - e) := by
  obtain ⟨b0, b1, b2, b3, b4, b5⟩ := X.b
  obtain ⟨b, hb, eb⟩ := J c hc
  obtain ⟨e, q1, q2, q3⟩ := k2_dogs (np := np) (d := nI dy) (R := tR ah pl nc nh) eb hb nh (by omega)
  exact ⟨b, e, hb, by omega, eb, by rw [rW_p.2, q2], by rw [(D.2.2.2.2 c (by omega)).2.1, q3]⟩
end DAY3
