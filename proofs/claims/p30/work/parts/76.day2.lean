/-! p30, THE PURE PART. 17: a day of the class, as a change of the row -/
def DF (n n' : Nat → Int32) (nc nh nk np dy : Nat) (ah pl : Nat → Nat) : Prop :=
  (∀ i, i < 90 → i ≠ 4 → n' i = n i) ∧ n' 4 = nI (dy + 1) ∧ (∀ h w, h < 24 → w < 6 → n' (90 + 14 * h + w) = n (90 + 14 * h + w)) ∧
  (∀ k, k < nh → (∀ w, 6 ≤ w → w < 12 → n' (90 + 14 * tR ah pl nc nh k + w) = bF n np (nI dy) (tR ah pl nc nh) k w) ∧ (n' (90 + 14 * tR ah pl nc nh k + 12) = bF n np (nI dy) (tR ah pl nc nh) k 12 ∨ n' (90 + 14 * tR ah pl nc nh k + 12) = 0)) ∧
  ∀ c, c < 3 → (∀ w, w < 2 → n' (426 + 7 * c + w) = n (426 + 7 * c + w)) ∧ n' (426 + 7 * c + 2) = k2 n np (nI dy) (tR ah pl nc nh) c nh ∧ n' (426 + 7 * c + 6) = k6 n np (nI dy) (tR ah pl nc nh) c nh ∧ n' (426 + 7 * c + 3) = n (426 + 7 * c + 3) + (dW n nc nh nk np ah pl (nI dy) c).1 ∧ n' (426 + 7 * c + 4) = n (426 + 7 * c + 4) + (dW n nc nh nk np ah pl (nI dy) c).2
theorem DF.of {n Y M0 n' : Nat → Int32} {nc nh nk np dy : Nat} {ah pl : Nat → Nat} (h24 : nh ≤ 24) (hR : ∀ k, k < nh → tR ah pl nc nh k < nh)
    (hP : PR n np (nI dy) (tR ah pl nc nh) nh (dW n nc nh nk np ah pl (nI dy)) Y (fun k => k < nh) (fun _ => nh) (fun _ => True)) (hE : dEnd (nI dy) nh Y M0) (hn : n' = un M0 4 (nI (dy + 1))) : DF n n' nc nh nk np dy ah pl := by
  obtain ⟨⟨s1, s2, s3, s4⟩, b, z, e⟩ := hP
  obtain ⟨e1, e2⟩ := hE
  have key : ∀ j, j < 537 → (∀ h, h < nh → j ≠ 90 + 14 * h + 12 ∧ j ≠ 90 + 14 * h + 13) → (∀ c, j ≠ 426 + 7 * c + 5) → M0 j = Y j := by
    intro j hj h1 h2
    by_cases sun : nI dy - nI dy / 7 * 7 = 6
    · rw [(e1 sun).2 j h1, tpP_o h2]
    · exact e2 sun j hj
  have hj : ∀ j, j ≠ 4 → n' j = M0 j := fun j hj => by rw [hn, un_j hj]
  refine ⟨fun i hi h4 => ?_, by rw [hn, un_i], fun h w hh hw => ?_, fun k hk => ⟨fun w w1 w2 => ?_, ?_⟩, fun c hc => ?_⟩
  · rw [hj i h4, key i (by omega) (fun h _ => by omega) (fun c => by omega), s1 i hi]
  · rw [hj _ (by omega), key _ (by omega) (fun h _ => by omega) (fun c => by omega), s2 h w hh hw]
  · have := hR k hk
    rw [hj _ (by omega), key _ (by omega) (fun h _ => by omega) (fun c => by omega), (b k hk w w1 (by omega)).1 hk]
  · have := hR k hk
    rw [hj _ (by omega)]
    by_cases sun : nI dy - nI dy / 7 * 7 = 6
    · exact Or.inr ((e1 sun).1 _ this).1
    · exact Or.inl (by rw [e2 sun _ (by omega), (b k hk 12 (by omega) (by omega)).1 hk])
  · obtain ⟨u2, u6, u5, ut, uf⟩ := e c hc
    refine ⟨fun w hw => ?_, ?_, ?_, ?_, ?_⟩
    · rw [hj _ (by omega), key _ (by omega) (fun h _ => by omega) (fun c => by omega), s3 c w hc hw]
    · rw [hj _ (by omega), key _ (by omega) (fun h _ => by omega) (fun c => by omega), u2]
    · rw [hj _ (by omega), key _ (by omega) (fun h _ => by omega) (fun c => by omega), u6]
    · rw [hj _ (by omega), key _ (by omega) (fun h _ => by omega) (fun c => by omega), (ut trivial).1]
    · rw [hj _ (by omega), key _ (by omega) (fun h _ => by omega) (fun c => by omega), (ut trivial).2]
theorem sI_le {f : Nat → Int32} {b : Nat} : ∀ {n : Nat}, (∀ i, i < n → ∃ q, q ≤ b ∧ f i = nI q) → ∃ q, q ≤ n * b ∧ sI f n = nI q := by
  intro n
  induction n with
  | zero => intro _; exact ⟨0, Nat.zero_le _, rfl⟩
  | succ k ih =>
    intro h
    obtain ⟨q, q1, q2⟩ := ih (fun i hi => h i (by omega))
    obtain ⟨r, r1, r2⟩ := h k (by omega)
    refine ⟨q + r, ?_, ?_⟩
    · rw [Nat.succ_mul]; omega
    · rw [sI_s, q2, r2, nI_add]
section DAY2
variable {x m : z_S} {nc nh nk np dy : Nat} {ah pl : Nat → Nat}
theorem XT.R (X : XT x m nc nh nk np dy ah pl) : (∀ k, k < nh → tR ah pl nc nh k < nh) ∧ (∀ j k, j < nh → k < nh → tR ah pl nc nh j = tR ah pl nc nh k → j = k) ∧ ∀ h, h < nh → ∃ k, k < nh ∧ tR ah pl nc nh k = h := by
  obtain ⟨hR, hC, hH, -⟩ := X
  have hpl : ∀ h, h < nh → pl h < nc := fun h hh => (hH.1.2.2 h hh).2
  exact ⟨fun k hk => tR_lt hC.1.2.1 hC.1.2.2.2.1 hpl hk, fun j k hj hk e => tR_inj hC.1.2.1 hC.1.2.2.2.1 hpl hj hk e, fun h hh => tR_sur hC.1.2.1 hC.1.2.2.2.1 hpl hh⟩
/-- what a day brings to one house -/
noncomputable def dl6 (n : Nat → Int32) (np : Nat) (d : Int32) (R : Nat → Nat) (k : Nat) : Int32 := cif (∃ c, c < 3 ∧ hDlv n np d R c k) (n (90 + 14 * R k + 1)) 0
theorem bF6 {n : Nat → Int32} {np : Nat} {d : Int32} {R : Nat → Nat} {k : Nat} (hby : n (90 + 14 * R k + 3) = -1 ∨ ∃ c, c < 3 ∧ n (90 + 14 * R k + 3) = nI c) : bF n np d R k 6 = n (90 + 14 * R k + 6) + dl6 n np d R k := by
  unfold dl6
  have no : (∀ c, c < 3 → ¬ hDlv n np d R c k) → bF n np d R k 6 = n (90 + 14 * R k + 6) → bF n np d R k 6 = n (90 + 14 * R k + 6) + cif (∃ c, c < 3 ∧ hDlv n np d R c k) (n (90 + 14 * R k + 1)) 0 := fun h e => by
    rw [cif_f (fun ⟨c, hc, q⟩ => h c hc q), Int32.add_zero, e]
  rcases bF_cases n np d R k with ⟨c, e, -⟩ | ⟨⟨c1, c⟩, e, -⟩ | ⟨⟨c1, c2, c⟩, e, -⟩ | ⟨⟨c1, c2, c3, c⟩, e, -⟩ | ⟨⟨c1, c2, c3, c⟩, e, -⟩
  · exact no (fun q hq w => w.1.2.1 c) e
  · exact no (fun q hq w => nI_m1 (a := q) (by omega) (by rw [← w.1.1]; exact c)) e
  · refine no (fun q hq w => ?_) e
    have := w.1.2.2
    rw [w.1.1, p_cl (by omega)] at c
    omega
  · refine no (fun q hq w => ?_) e
    rw [w.1.1, p_cl (by omega)] at c
    exact w.2 c
  · rw [e]
    obtain ⟨q, hq, eq⟩ := hby.resolve_left c2
    rw [eq, p_cl (by omega)] at c c3
    rw [cif_t ⟨q, hq, ⟨eq, c1, by omega⟩, c⟩]
theorem k_day (X : XT x m nc nh nk np dy ah pl) (hp : ∀ h, h < nh → ∃ p, p ≤ 5 ∧ m 1 (90 + 14 * h + 1) = nI p) (hd : dy < 1000) :
    ∃ r x' m', f_X9_days 1 x = some (r, x') ∧ RX x' m' ∧ DF (m 1) (m' 1) nc nh nk np dy ah pl ∧ rSum (m' 1) nh 6 = rSum (m 1) nh 6 + r := by
  obtain ⟨b0, b1, b2, b3, b4, b5⟩ := X.b
  obtain ⟨R1, R2, R3⟩ := X.R
  obtain ⟨r, x', m', e1, e2, hR'⟩ := ff_days X.1 1
  obtain ⟨m1, n1, n2, n3⟩ := m_notes' m
  have h1 : m1 1 = m 1 := n2 1 (by omega)
  obtain ⟨rr, m2, Y, M0, g1, g2, g3, g4, g5, g6, g7⟩ := m_day (m := m1) X.2 h1
  have D := DF.of b2 R1 g2 g3 g4
  have hby : ∀ k, k < nh → m 1 (90 + 14 * tR ah pl nc nh k + 3) = -1 ∨ ∃ c, c < 3 ∧ m 1 (90 + 14 * tR ah pl nc nh k + 3) = nI c := fun k hk => ((X.2.2.1.2.2 _ (R1 k hk)).2.2.2.1).imp id (fun ⟨c, hc, q⟩ => ⟨c, by omega, q⟩)
  have hs : rSum (m2 1) nh 6 = rSum (m 1) nh 6 + sI (dl6 (m 1) np (nI dy) (tR ah pl nc nh)) nh := by
    unfold rSum
    rw [← sI_perm (f := fun h => m2 1 (90 + 14 * h + 6)) R1 R2 R3, ← sI_perm (f := fun h => m 1 (90 + 14 * h + 6)) R1 R2 R3, ← sI_add]
    exact sI_congr (fun k hk => by rw [(D.2.2.2.1 k hk).1 6 (by omega) (by omega), bF6 (hby k hk)])
  obtain ⟨q, q1, q2⟩ := sI_le (b := 5) (f := dl6 (m 1) np (nI dy) (tR ah pl nc nh)) (n := nh) (fun k hk => by
    obtain ⟨p, p1, p2⟩ := hp _ (R1 k hk)
    unfold dl6
    by_cases c : ∃ c, c < 3 ∧ hDlv (m 1) np (nI dy) (tR ah pl nc nh) c k
    · rw [cif_t c]; exact ⟨p, p1, p2⟩
    · rw [cif_f c]; exact ⟨0, by omega, rfl⟩)
  have hrr : rr = nI q := by
    rw [← q2]
    exact i_cancel (g5.symm.trans hs)
  have hv : ¬ rr < 0 := by rw [hrr]; exact nI_pos (by omega)
  have lp : ∀ (body : (Int32 → Int32 → z_S → Option (Int32 × z_S)) → Int32 → Int32 → z_S → Option (Int32 × z_S)) a b c, z_lp3 body z_Fu a b c = body (body (z_lp3 body 4094)) a b c := fun _ _ _ _ => rfl
  have e3 : (z_b2 (f_X10_ends rr m2) fun r8 s7 => some (r8, s7)) = some (r, m') := by
    rw [← e2]
    unfold f_X10_days
    rw [n1, p_b1]
    unfold f_X10_daysGo
    rw [m_tb, p_b1, p_tbT (by decide), k_4, c_4, h1, X.n.2.2.2.2, show (1 : Int32) = nI 1 from rfl, nI_add, if_pos (show nI (dy + 1) ≤ (1000 : Int32) from nI_le (b := 1000) (by omega) (by omega)), lp]
    unfold lb_X10_daysGo_33
    rw [if_neg (by decide), g1, p_b2, p_let, p_let, if_pos (by decide), p_b2, Int32.zero_add]
  obtain ⟨a1, a2, -⟩ := o_end X.1 hv n2 n3 ⟨g6 2 (by omega) (by omega) (by omega) (by omega) (by omega), g6 3 (by omega) (by omega) (by omega) (by omega) (by omega), g6 5 (by omega) (by omega) (by omega) (by omega) (by omega), g7 2 (by omega) (by omega) (by omega) (by omega), g7 6 (by omega) (by omega) (by omega) (by omega), g6 4 (by omega) (by omega) (by omega) (by omega) (by omega), fun j hj => g7 j (by omega) (by omega) (by omega) (by omega)⟩ e3
  refine ⟨r, x', m', e1, hR', by rw [a2]; exact D, ?_⟩
  rw [a2, a1]
  exact g5
end DAY2
