/-! THE PURE PART. 19: trips of the model; the words of a walk -/
section TRIPM
variable {n : Nat → Int32} {nc : Nat} {ah : Nat → Nat}
theorem m_loads {m : z_S} (hC : mC (m 1) nc ah) {p : Nat} (hp : p < nc) (w : Int32) :
    ∃ m', f_X10_loads (nI p) w m = some m' ∧ (∀ a, a ≠ 8 → m' a = m a) ∧ ∀ k, 1 ≤ k → k < nc → m' 8 k = m 8 k + (if tU ah p k = k then w else 0) := by
  have h20 := hC.2.2.1
  have hA := hC.2.2.2.1
  have hn := hC.2.2.2.2
  unfold f_X10_loads
  refine p_ex2 (fun r => ∃ m' : z_S, r = some m' ∧ (∀ a, a ≠ 8 → m' a = m a) ∧ ∀ k, 1 ≤ k → k < nc → m' 8 k = m 8 k + (if tU ah p k = k then w else 0))
    (fun i (x : Int32) (σ : z_S) => ∃ c, x = nI c ∧ c + i ≤ p ∧ (∀ a, a ≠ 8 → σ a = m a) ∧ ∀ k, 1 ≤ k → k < nc → σ 8 k + (if tU ah c k = k then w else 0) = m 8 k + (if tU ah p k = k then w else 0)) p (by omega) ⟨p, rfl, Nat.le_refl _, fun _ _ => rfl, fun _ _ _ => rfl⟩ ?_ ?_
  · rintro i x σ hi ⟨c, rfl, hcp, ho, h8⟩
    by_cases hc0 : c = 0
    · right
      refine ⟨some σ, ⟨σ, rfl, ho, fun k h1 h2 => ?_⟩, fun kk => ?_⟩
      · rw [← h8 k h1 h2, hc0, tU_0, if_neg (by omega), Int32.add_zero]
      · unfold lb_X10_loads_2
        rw [hc0, if_pos (by decide)]
    · left
      have hac := hA c (by omega) (by omega)
      refine ⟨nI (ah c), z_u σ 8 c (σ 8 c + w), ⟨ah c, rfl, by omega, fun a ha => by rw [u_o ha, ho a ha], fun k h1 h2 => ?_⟩, fun kk => ?_⟩
      · rw [← h8 k h1 h2]
        by_cases e : k = c
        · subst e
          rw [u_i, tU_self hA (x := ah k) (by omega) (by omega), tU_self hA (x := k) h2 (Nat.le_refl _), if_neg (by omega), if_pos rfl, Int32.add_zero]
        · rw [u_j e, tU_s hA (x := c) (by omega) (by omega)]
          by_cases q : c ≤ k
          · rw [if_pos q, tU_self hA (x := ah c) (by omega) (by omega), if_neg (by omega), if_neg (by omega)]
          · rw [if_neg q]
      · unfold lb_X10_loads_2
        rw [if_neg (nI_nle (by omega) (by omega)), p_cki (by omega) (by omega), p_cki (by omega) (by omega), p_cl (by omega), p_let, zl_0, m_ofCorner (by omega), p_b1, u_o (by omega), ho 1 (by omega), hn c (by omega) (by omega)]
  · rintro x σ ⟨c, rfl, hcp, ho, h8⟩
    have hc0 : c = 0 := by omega
    refine ⟨some σ, ⟨σ, rfl, ho, fun k h1 h2 => ?_⟩, fun kk => ?_⟩
    · rw [← h8 k h1 h2, hc0, tU_0, if_neg (by omega), Int32.add_zero]
    · unfold lb_X10_loads_2
      rw [hc0, if_pos (by decide)]
theorem m_endsTrip {m : z_S} (hC : mC (m 1) nc ah) {c : Nat} (hc : c < 3) {D : Nat → Nat} (hs : sN D nc < 1000000) (hl : ∀ k, 1 ≤ k → k < nc → m 8 k = nI (tL ah nc D k k)) :
    ∃ m', f_X10_endsTrip (nI c) m = some m' ∧ (∀ a, a ≠ 0 → a ≠ 8 → m' a = m a) ∧ (∀ k, 1 ≤ k → k < nc → m' 8 k = nI 0) ∧ (∀ j, j ≠ 10 → m' 0 j = m 0 j) ∧ m' 0 10 = m 0 10 + eS (m 1) ah nc (m 1 (426 + 7 * c + 0)) D := by
  have h20 := hC.2.2.1
  have hA := hC.2.2.2.1
  have hn := hC.2.2.2.2
  have tl : ∀ c k, tL ah nc D c k < 1000000 := fun c k => Nat.lt_of_le_of_lt tL_le hs
  obtain ⟨cart, hcart⟩ : ∃ v, v = m 1 (426 + 7 * c + 0) := ⟨_, rfl⟩
  rw [← hcart]
  have key : ∃ m', z_lp2 (lb_X10_endsTrip_20 (eaI cart)) z_Fu (1 : Int32) m = some m' ∧ (∀ a, a ≠ 0 → a ≠ 8 → m' a = m a) ∧ (∀ k, 1 ≤ k → k < nc → m' 8 k = nI 0) ∧ (∀ j, j ≠ 10 → m' 0 j = m 0 j) ∧ m' 0 10 = m 0 10 + eS (m 1) ah nc cart D := by
    refine p_ex2 (fun r => ∃ m' : z_S, r = some m' ∧ (∀ a, a ≠ 0 → a ≠ 8 → m' a = m a) ∧ (∀ k, 1 ≤ k → k < nc → m' 8 k = nI 0) ∧ (∀ j, j ≠ 10 → m' 0 j = m 0 j) ∧ m' 0 10 = m 0 10 + eS (m 1) ah nc cart D)
      (fun i (x : Int32) (σ : z_S) => x = nI (i + 1) ∧ (∀ a, a ≠ 0 → a ≠ 8 → σ a = m a) ∧ (∀ k, 1 ≤ k → k < nc → σ 8 k = if k ≤ i then nI 0 else m 8 k) ∧ (∀ j, j ≠ 10 → σ 0 j = m 0 j) ∧ σ 0 10 = m 0 10 + sI (eT (m 1) ah nc cart D) i)
      (nc - 1) (by omega) ⟨rfl, fun _ _ _ => rfl, fun k h1 h2 => by rw [if_neg (by omega)], fun _ _ => rfl, (Int32.add_zero _).symm⟩ ?_ ?_
    · rintro i x σ hi ⟨rfl, ho, h8, hj, h10⟩
      left
      have hin : i + 1 < nc := by omega
      have hac := hA (i + 1) (by omega) hin
      have e1 : σ 1 = m 1 := ho 1 (by omega) (by omega)
      have hl8 : σ 8 (i + 1) = nI (tL ah nc D (i + 1) (i + 1)) := by rw [h8 _ (by omega) hin, if_neg (by omega), hl _ (by omega) hin]
      obtain ⟨σ1, hσ1⟩ : ∃ s, s = if tL ah nc D (i + 1) (i + 1) = 0 then σ else z_u σ 0 10 (σ 0 10 + eF (m 1) ah (eaI cart) (i + 1) (nI (tL ah nc D (i + 1) (i + 1)))) := ⟨_, rfl⟩
      have s1o : ∀ a, a ≠ 0 → σ1 a = σ a := by
        intro a ha
        rw [hσ1]
        by_cases q : tL ah nc D (i + 1) (i + 1) = 0
        · rw [if_pos q]
        · rw [if_neg q, u_o ha]
      have s1j : ∀ j, j ≠ 10 → σ1 0 j = σ 0 j := by
        intro j h
        rw [hσ1]
        by_cases q : tL ah nc D (i + 1) (i + 1) = 0
        · rw [if_pos q]
        · rw [if_neg q, u_j h]
      have s110 : σ1 0 10 = σ 0 10 + eT (m 1) ah nc cart D i := by
        rw [hσ1]
        unfold eT
        by_cases q : tL ah nc D (i + 1) (i + 1) = 0
        · rw [if_pos q, if_pos q, Int32.add_zero]
        · rw [if_neg q, if_neg q, u_i]
      refine ⟨nI (i + 1 + 1), z_u σ1 8 (i + 1) 0, ⟨rfl, fun a h1 h2 => by rw [u_o h2, s1o a h1, ho a h1 h2], fun k h1 h2 => ?_, fun j h => by rw [u_o (by omega), s1j j h, hj j h], ?_⟩, fun kk => ?_⟩
      · by_cases e : k = i + 1
        · rw [e, u_i, if_pos (Nat.le_refl _)]; rfl
        · rw [u_j e, s1o 8 (by omega), h8 k h1 h2]
          by_cases q : k ≤ i
          · rw [if_pos q, if_pos (by omega)]
          · rw [if_neg q, if_neg (by omega)]
      · rw [u_o (by omega), s110, h10]
        simp only [sI]
        rw [Int32.add_assoc]
      · unfold lb_X10_endsTrip_20
        rw [show z_cki (0 : Int32) 537 _ = _ from p_cki (j := 0) (n := 537) (by omega) (by omega), c_0, e1, hC.1, if_neg (nI_ge (b := nc) (a := i + 1) (by omega) (by omega)), zl_2, zl_0, m_ofCorner (by omega), m_ofCorner (by omega), p_b1, p_b1, e1, hn (i + 1) (by omega) hin, m_ofCorner (by omega), p_b1, e1, p_let, p_cki (by omega) (by omega), p_cl (by omega), hl8, p_let]
        by_cases q : tL ah nc D (i + 1) (i + 1) = 0
        · rw [if_pos q] at hσ1
          rw [if_pos (by rw [q]; decide), hσ1]
          dsimp only
          rw [p_cki (by omega) (by omega), p_let, p_let, zl_1, nI_add]
        · rw [if_neg q] at hσ1
          rw [if_neg (show ¬ nI (tL ah nc D (i + 1) (i + 1)) ≤ nI 0 from fun e => q ((nI_z (by have := tl (i + 1) (i + 1); omega)).mp e)), zl_1, m_ofCorner (by omega), p_b1, p_let, e1]
          have fin : ∀ y : Int32, 2 * m 1 (10 + 4 * (i + 1) + 1) + y = eF (m 1) ah (eaI cart) (i + 1) (nI (tL ah nc D (i + 1) (i + 1))) → (z_let (z_u σ 0 10 (σ 0 10 + (nI 2 * m 1 (10 + 4 * (i + 1) + 1) + y))) fun σ28 => z_cki (nI (i + 1)) 20 (z_let (z_u σ28 8 (i + 1) (nI 0)) fun σ21 => z_let (nI (i + 1) + nI 1) fun x22 => kk x22 σ21)) = kk (nI (i + 1 + 1)) (z_u σ1 8 (i + 1) 0) := by
            intro y hy
            rw [show nI 2 = (2 : Int32) from rfl, hy, p_let, ← hσ1, p_cki (by omega) (by omega), p_let, p_let, nI_add]
            rfl
          by_cases q2 : m 1 (10 + 4 * (i + 1) + 2) - m 1 (10 + 4 * ah (i + 1) + 2) ≤ 0
          · rw [if_pos (show _ ≤ nI 0 from q2)]
            exact fin _ (by unfold eF; rw [if_pos q2])
          · rw [if_neg (show ¬ _ ≤ nI 0 from q2), p_cki (by omega) (by omega), p_ck (show ¬ eaI cart = nI 0 from eaI_ne)]
            exact fin _ (by unfold eF; rw [if_neg q2])
    · rintro x σ ⟨rfl, ho, h8, hj, h10⟩
      refine ⟨some σ, ⟨σ, rfl, ho, fun k h1 h2 => by rw [h8 k h1 h2, if_pos (by omega)], hj, h10⟩, fun kk => ?_⟩
      unfold lb_X10_endsTrip_20
      rw [show z_cki (0 : Int32) 537 _ = _ from p_cki (j := 0) (n := 537) (by omega) (by omega), c_0, ho 1 (by omega) (by omega), hC.1, if_pos (nI_le (by omega) (by omega))]
  unfold f_X10_endsTrip
  rw [zl_0, m_ofCarrier (by omega), p_b1, ← hcart, p_let]
  unfold eaI at key
  by_cases q : cart = 1
  · rw [if_pos q] at key ⊢
    exact key
  · rw [if_neg q] at key ⊢
    exact key
end TRIPM
/-- a walk: trips, effort of those that are over, papers, dogs, weight on the present trip, weights at the corners -/
abbrev wS : Type := Nat × Int32 × Int32 × Int32 × Nat × (Nat → Nat)
section WK
variable (f : (Nat → Nat) → Int32) (Q : Nat → Prop) (wt : Nat → Nat) (pp dg : Nat → Int32) (pl : Nat → Nat) (lim : Nat) (R : Nat → Nat)
noncomputable def wk1 (h : Nat) (s : wS) : wS :=
  @ite _ (Q h ∧ wt h ≤ lim) (Classical.propDecidable _)
    (if s.1 = 0 ∨ lim < s.2.2.2.2.1 + wt h then (s.1 + 1, s.2.1 + f s.2.2.2.2.2, s.2.2.1 + pp h, s.2.2.2.1 + dg h, wt h, dA (fun _ => 0) (pl h) (wt h))
     else (s.1, s.2.1, s.2.2.1 + pp h, s.2.2.2.1 + dg h, s.2.2.2.2.1 + wt h, dA s.2.2.2.2.2 (pl h) (wt h))) s
noncomputable def wk : Nat → wS
  | 0 => (0, 0, 0, 0, 0, fun _ => 0)
  | i + 1 => wk1 f Q wt pp dg pl lim (R i) (wk i)
end WK
section WK2
variable {f : (Nat → Nat) → Int32} {Q : Nat → Prop} {wt : Nat → Nat} {pp dg : Nat → Int32} {pl : Nat → Nat} {lim : Nat} {R : Nat → Nat}
theorem wk1_no {h : Nat} {s : wS} (q : ¬ (Q h ∧ wt h ≤ lim)) : wk1 f Q wt pp dg pl lim h s = s := if_neg q
theorem wk1_new {h t o : Nat} {e p d : Int32} {D : Nat → Nat} (q : Q h) (q1 : wt h ≤ lim) (q2 : t = 0 ∨ lim < o + wt h) : wk1 f Q wt pp dg pl lim h (t, e, p, d, o, D) = (t + 1, e + f D, p + pp h, d + dg h, wt h, dA (fun _ => 0) (pl h) (wt h)) := by
  unfold wk1
  rw [if_pos ⟨q, q1⟩, if_pos q2]
theorem wk1_old {h t o : Nat} {e p d : Int32} {D : Nat → Nat} (q : Q h) (q1 : wt h ≤ lim) (q2 : ¬ (t = 0 ∨ lim < o + wt h)) : wk1 f Q wt pp dg pl lim h (t, e, p, d, o, D) = (t, e, p + pp h, d + dg h, o + wt h, dA D (pl h) (wt h)) := by
  unfold wk1
  rw [if_pos ⟨q, q1⟩, if_neg q2]
def wI (nc lim i : Nat) (s : wS) : Prop := s.1 ≤ i ∧ (s.1 = 0 → s.2.2.2.2.1 = 0 ∧ s.2.2.2.2.2 = fun _ => 0) ∧ sN s.2.2.2.2.2 nc = s.2.2.2.2.1 ∧ s.2.2.2.2.1 ≤ lim ∧ ∀ k, nc ≤ k → s.2.2.2.2.2 k = 0
theorem wk_inv {nc nh : Nat} (hp : ∀ i, i < nh → pl (R i) < nc) : ∀ i, i ≤ nh → wI nc lim i (wk f Q wt pp dg pl lim R i)
  | 0, _ => ⟨Nat.le_refl _, fun _ => ⟨rfl, rfl⟩, sN_0, Nat.zero_le _, fun _ _ => rfl⟩
  | i + 1, hi => by
    have ih := wk_inv hp i (by omega)
    have hpi := hp i (by omega)
    show wI nc lim (i + 1) (wk1 f Q wt pp dg pl lim (R i) (wk f Q wt pp dg pl lim R i))
    generalize wk f Q wt pp dg pl lim R i = s at ih ⊢
    obtain ⟨t, e, p, d, o, D⟩ := s
    obtain ⟨a1, a2, a3, a4, a5⟩ := ih
    have a1' : t ≤ i := a1
    by_cases q : Q (R i) ∧ wt (R i) ≤ lim
    · by_cases q2 : t = 0 ∨ lim < o + wt (R i)
      · rw [wk1_new q.1 q.2 q2]
        refine ⟨Nat.succ_le_succ a1', fun e => absurd e (Nat.succ_ne_zero t), ?_, q.2, fun k hk => show dA (fun _ => 0) (pl (R i)) (wt (R i)) k = 0 from dA_ne (by omega)⟩
        show sN (dA (fun _ => 0) (pl (R i)) (wt (R i))) nc = wt (R i)
        rw [dA_sum hpi, sN_0, Nat.zero_add]
      · rw [wk1_old q.1 q.2 q2]
        refine ⟨Nat.le_succ_of_le a1', fun e => absurd (Or.inl e) q2, ?_, ?_, fun k hk => (show dA D (pl (R i)) (wt (R i)) k = D k from dA_ne (by omega)).trans (a5 k hk)⟩
        · show sN (dA D (pl (R i)) (wt (R i))) nc = o + wt (R i)
          rw [dA_sum hpi]
          exact congrArg (· + wt (R i)) a3
        · show o + wt (R i) ≤ lim
          omega
    · rw [wk1_no q]
      exact ⟨Nat.le_succ_of_le a1', a2, a3, a4, a5⟩
end WK2
