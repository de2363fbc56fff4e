/-! THE PURE PART. 35: all orders of the text -/
/-- what the doing of all orders leaves -/
def runR (σ m σ' m' : z_S) (re : Nat) : Prop :=
  re ≤ 2 ∧ σ' 0 3 = nI re ∧ (∃ o, o ≤ 60 ∧ σ' 0 1 = nI o ∧ m' 0 17 = nI o) ∧ (re ≠ 0 → σ' 0 2 = m' 0 18) ∧ (re = 1 → m' 0 19 = -4) ∧ (re = 2 → σ' 0 4 = m' 0 19) ∧ RTx (fun q => σ' (zi_R_T q)) (m' 1) ∧ wT (fun q => σ' (zi_R_TW q)) ∧
  (∀ q, 39 ≤ q → q < 77 → σ' q = σ q) ∧ σ' 77 0 = σ 77 0 ∧ σ' 78 = σ 78 ∧ m' 2 = m 2 ∧ m' 3 = m 3 ∧ m' 4 = m 4 ∧ m' 5 = m 5 ∧ m' 0 2 = m 0 2 ∧ m' 0 6 = m 0 6
theorem runR.trans {σ m σ1 m1 σ' m' : z_S} {re : Nat} (h : runR σ1 m1 σ' m' re) (h1 : ∀ q, 39 ≤ q → q < 77 → σ1 q = σ q) (h2 : σ1 77 0 = σ 77 0) (h3 : σ1 78 = σ 78) (g2 : m1 2 = m 2) (g3 : m1 3 = m 3) (g4 : m1 4 = m 4) (g5 : m1 5 = m 5) (g02 : m1 0 2 = m 0 2) (g06 : m1 0 6 = m 0 6) : runR σ m σ' m' re := by
  obtain ⟨a, b, c, d, e, f, g, i, j, k, l, p2, p3, p4, p5, p02, p06⟩ := h
  exact ⟨a, b, c, d, e, f, g, i, fun q x y => (j q x y).trans (h1 q x y), k.trans h2, l.trans h3, p2.trans g2, p3.trans g3, p4.trans g4, p5.trans g5, p02.trans g02, p06.trans g06⟩
theorem zkR0_in {q : Nat} (h : 77 ≤ q) : zk_R_X0 q = q - 77 := by
  show (if q < 77 then 3 else q - 77) = _
  rw [if_neg (by omega)]
theorem zkR0_out {q : Nat} (h : q < 77 ∨ 80 ≤ q) : 3 ≤ zk_R_X0 q := by
  show 3 ≤ (if q < 77 then 3 else q - 77)
  by_cases e : q < 77
  · rw [if_pos e]; omega
  · rw [if_neg e]; omega
section RUN
variable {c : Nat → Nat} {L : Nat}
theorem run_loop : ∀ (N pos ord f f' : Nat) (σ m : z_S), L ≤ N + pos → pos ≤ L → ord ≤ pos → N + 1 < f → N < f' → tx (fun k => σ (zi_R_X0 k)) m c L → σ 0 3 = 0 → σ 0 1 = nI ord → σ 0 2 = nI pos → m 0 17 = nI ord → m 0 19 = -4 →
    RTx (fun q => σ (zi_R_T q)) (m 1) → wT (fun q => σ (zi_R_TW q)) →
    ∃ σ' m' re, z_lp1 lb_X7_run_28 f σ = some σ' ∧ z_lp2 lb_X10_doesAll_13 f' (nI pos) m = some (nI re, m') ∧ runR σ m σ' m' re := by
  intro N
  induction N with
  | zero =>
    intro pos ord f f' σ m hN hp ho hf hf' h s3 s1 s2 m17 m19 hT hw
    have h60 := h.2.2.1
    obtain ⟨f, rfl⟩ : ∃ q, f = q + 1 := ⟨f - 1, by omega⟩
    obtain ⟨f', rfl⟩ : ∃ q, f' = q + 1 := ⟨f' - 1, by omega⟩
    have e77 : σ 77 0 = nI L := h.1
    refine ⟨σ, m, 0, ?_, ?_, by omega, s3, ⟨ord, by omega, s1, m17⟩, fun q => absurd rfl q, fun q => absurd q (by omega), fun q => absurd q (by omega), hT, hw, fun _ _ _ => rfl, rfl, rfl, rfl, rfl, rfl, rfl, rfl, rfl⟩
    · show lb_X7_run_28 _ σ = _
      unfold lb_X7_run_28
      rw [if_pos s3, e77, s2, if_pos (nI_le (by omega) (by omega))]
    · show lb_X10_doesAll_13 _ (nI pos) m = _
      unfold lb_X10_doesAll_13
      rw [h.2.1, if_pos (nI_le (by omega) (by omega))]
      rfl
  | succ N ih =>
    intro pos ord f f' σ m hN hp ho hf hf' h s3 s1 s2 m17 m19 hT hw
    have h60 := h.2.2.1
    obtain ⟨f, rfl⟩ : ∃ q, f = q + 1 := ⟨f - 1, by omega⟩
    obtain ⟨f', rfl⟩ : ∃ q, f' = q + 1 := ⟨f' - 1, by omega⟩
    have e77 : σ 77 0 = nI L := h.1
    by_cases hpL : pos < L
    · obtain ⟨m7, hm7⟩ : ∃ s, s = z_u m 0 18 (nI pos) := ⟨_, rfl⟩
      have o7 : ∀ q, q ≠ 0 → m7 q = m q := fun q hq => by rw [hm7, u_o hq]
      have j7 : ∀ j, j ≠ 18 → m7 0 j = m 0 j := fun j hj => by rw [hm7, u_j hj]
      have h7 : tx (fun k => σ (zi_R_X0 k)) m7 c L := h.upd rfl rfl (j7 6 (by omega)) (o7 5 (by omega))
      obtain ⟨b, T', m9, k1, k2, r1, r2, r3, r4, r5⟩ := order_same h7 hpL
      obtain ⟨σ16, hσ⟩ : ∃ s, s = z_m σ zk_R_X0 3 T' := ⟨_, rfl⟩
      have out : ∀ q, q < 77 ∨ 80 ≤ q → σ16 q = σ q := fun q hq => by rw [hσ]; exact z_m_out (zkR0_out hq)
      have i77 : σ16 77 = T' 0 := by rw [hσ]; exact z_m_in (k := 0) (zkR0_in (by omega)) (by omega)
      have i78 : σ16 78 = T' 1 := by rw [hσ]; exact z_m_in (k := 1) (zkR0_in (by omega)) (by omega)
      have i79 : σ16 79 = T' 2 := by rw [hσ]; exact z_m_in (k := 2) (zkR0_in (by omega)) (by omega)
      have e770 : σ16 77 0 = σ 77 0 := by rw [i77, r2 0 (by omega) (by omega)]; rfl
      have e78 : σ16 78 = σ 78 := by rw [i78, r1 1 (by omega) (by omega)]; rfl
      have hT16 : RTx (fun q => σ16 (zi_R_T q)) (m9 1) := by
        rw [r3 1 (by omega) (by omega), o7 1 (by omega)]
        exact hT.c (fun q hq => out _ (by show q + 1 < 77 ∨ _; omega))
      have hw16 : wT (fun q => σ16 (zi_R_TW q)) := by
        refine ⟨fun k hk => ?_, ?_⟩
        · show σ16 81 k = _
          rw [out 81 (by omega)]; exact hw.1 k hk
        · show σ16 80 4 = _
          rw [out 80 (by omega)]; exact hw.2
      have mfr : m9 2 = m 2 ∧ m9 3 = m 3 ∧ m9 4 = m 4 ∧ m9 5 = m 5 ∧ m9 0 2 = m 0 2 ∧ m9 0 6 = m 0 6 := ⟨by rw [r3 2 (by omega) (by omega), o7 2 (by omega)], by rw [r3 3 (by omega) (by omega), o7 3 (by omega)], by rw [r3 4 (by omega) (by omega), o7 4 (by omega)], by rw [r3 5 (by omega) (by omega), o7 5 (by omega)], by rw [r4 2 (by omega) (by omega), j7 2 (by omega)], by rw [r4 6 (by omega) (by omega), j7 6 (by omega)]⟩
      have hx : ∀ k, lb_X7_run_28 k σ = if b = 0 then k (z_u σ16 0 3 1) else (z_b2 (f_X7_answerOf (σ16 77 2) σ16) fun r20 σ19 => if (0 : Int32) ≤ r20 then k (z_u (z_u σ19 0 1 ((σ19 0 1) + (1 : Int32))) 0 2 (z_u σ19 0 1 ((σ19 0 1) + (1 : Int32)) 77 3)) else k (z_u (z_u σ19 0 3 2) 0 4 r20)) := by
        intro k
        unfold lb_X7_run_28
        rw [if_pos s3, e77, s2, if_neg (nI_ge hpL (by omega)), s1, if_neg (show ¬ (60 : Int32) ≤ nI ord from nI_ge (b := 60) (by omega) (by omega)), k1, p_b2, p_let, ← hσ]
        rfl
      have hm : ∀ k, lb_X10_doesAll_13 k (nI pos) m = if b = 0 then some (1, m9) else (z_b2 (f_X10_does m9) fun r14 σ13 => if (0 : Int32) ≤ r14 then k (z_u σ13 0 17 ((σ13 0 17) + (1 : Int32)) 0 14) (z_u σ13 0 17 ((σ13 0 17) + (1 : Int32))) else some (2, z_u σ13 0 19 r14)) := by
        intro k
        unfold lb_X10_doesAll_13
        rw [h.2.1, if_neg (nI_ge hpL (by omega)), p_let, ← hm7, k2, p_b2]
        rfl
      show ∃ σ' m' re, lb_X7_run_28 (z_lp1 lb_X7_run_28 f) σ = some σ' ∧ lb_X10_doesAll_13 (z_lp2 lb_X10_doesAll_13 f') (nI pos) m = some (nI re, m') ∧ runR σ m σ' m' re
      have stop : ∀ (τ : z_S) (re : Nat), re < 1000 → re ≠ 0 → τ 0 3 = nI re → z_lp1 lb_X7_run_28 f τ = some τ := by
        intro τ re hr0 hr hτ
        obtain ⟨f, rfl⟩ : ∃ q, f = q + 1 := ⟨f - 1, by omega⟩
        show lb_X7_run_28 _ τ = _
        unfold lb_X7_run_28
        rw [hτ, if_neg (nI_ne0 (by omega) (by omega))]
      rcases r5 with q | ⟨q, q2, q15, qW, ⟨a', a1, a2, a3, a4⟩, qn⟩
      · -- not of the form
        rw [hx, hm, if_pos q, if_pos q]
        refine ⟨z_u σ16 0 3 1, m9, 1, stop _ 1 (by omega) (by omega) (by rw [u_i]; rfl), rfl, by omega, by rw [u_i]; rfl, ⟨ord, by omega, ?_, ?_⟩, fun _ => ?_, fun _ => ?_, fun w => absurd w (by omega), hT16.c (fun w hq => u_o (by show w + 1 ≠ 0; omega)), ?_, fun w w1 w2 => by rw [u_o (by omega), out w (by omega)], by rw [u_o (by omega), e770], by rw [u_o (by omega), e78], mfr⟩
        · rw [u_j (by omega), out 0 (by omega), s1]
        · rw [r4 17 (by omega) (by omega), j7 17 (by omega), m17]
        · rw [u_j (by omega), out 0 (by omega), s2, r4 18 (by omega) (by omega), hm7, u_i]
        · rw [r4 19 (by omega) (by omega), j7 19 (by omega), m19]
        · refine ⟨fun k hk => ?_, ?_⟩
          · show z_u σ16 0 3 1 81 k = _
            rw [u_o (by omega)]; exact hw16.1 k hk
          · show z_u σ16 0 3 1 80 4 = _
            rw [u_o (by omega)]; exact hw16.2
      · obtain ⟨c1, c2⟩ := (h.2.2.2 pos hpL).2.2
        have q0 : ¬ b = 0 := by rw [q]; decide
        obtain ⟨r, σ19, m13, u1, u2, u3, u4, u5, u6⟩ := answer_same (σ := σ16) (m := m9) (v := c pos) (by omega) qW hT16 hw16 q15 (fun i hi => by rw [i79]; exact qn i hi)
        obtain ⟨f2, f3, f5, f02, f06, f4, fj⟩ := u5
        rw [hx, hm, if_neg q0, if_neg q0, i77, q2, u1, u2, p_b2, p_b2]
        have s19 : σ19 0 = σ16 0 := u6 0 (Or.inl rfl)
        by_cases hr : (0 : Int32) ≤ r
        · rw [if_pos hr, if_pos hr]
          obtain ⟨σn, hσn⟩ : ∃ s, s = z_u (z_u σ19 0 1 ((σ19 0 1) + (1 : Int32))) 0 2 (z_u σ19 0 1 ((σ19 0 1) + (1 : Int32)) 77 3) := ⟨_, rfl⟩
          obtain ⟨mn, hmn⟩ : ∃ s, s = z_u m13 0 17 ((m13 0 17) + (1 : Int32)) := ⟨_, rfl⟩
          have on : ∀ w, w ≠ 0 → σn w = σ19 w := fun w hw => by rw [hσn, u_o hw, u_o hw]
          have omn : ∀ w, w ≠ 0 → mn w = m13 w := fun w hw => by rw [hmn, u_o hw]
          have jmn : ∀ j, j ≠ 17 → mn 0 j = m13 0 j := fun j hj => by rw [hmn, u_j hj]
          have e14 : mn 0 14 = nI a' := by rw [jmn 14 (by omega), fj 14 (by omega), a4]
          have n77 : σn 77 = T' 0 := by rw [on 77 (by omega), u6 77 (by omega), i77]
          have n78 : σn 78 = σ 78 := by rw [on 78 (by omega), u6 78 (by omega), e78]
          rw [← hσn, ← hmn, e14]
          have eord : mn 0 17 = nI (ord + 1) := by rw [hmn, u_i, fj 17 (by omega), r4 17 (by omega) (by omega), j7 17 (by omega), m17, zl_1, nI_add]
          obtain ⟨σ', m', re, v1, v2, v3⟩ := ih a' (ord + 1) f f' σn mn (by omega) a2 (by omega) (by omega) (by omega)
            (h.upd (by show σn 77 0 = σ 77 0; rw [n77, r2 0 (by omega) (by omega)]; rfl) (by show σn 78 = σ 78; exact n78) (by rw [jmn 6 (by omega), f06]; exact mfr.2.2.2.2.2) (by rw [omn 5 (by omega), f5]; exact mfr.2.2.2.1))
            (by rw [hσn, u_j (by omega), u_j (by omega), s19, out 0 (by omega), s3]) (by rw [hσn, u_j (by omega), u_i, s19, out 0 (by omega), s1, zl_1, nI_add]) (by rw [hσn, u_i, u_o (by omega), u6 77 (by omega), i77, a3]) eord (by rw [jmn 19 (by omega), fj 19 (by omega), r4 19 (by omega) (by omega), j7 19 (by omega), m19])
            (by rw [omn 1 (by omega)]; exact u3.c (fun w hq => on _ (by show w + 1 ≠ 0; omega))) ⟨fun k hk => by show σn 81 k = _; rw [on 81 (by omega)]; exact u4.1 k hk, by show σn 80 4 = _; rw [on 80 (by omega)]; exact u4.2⟩
          refine ⟨σ', m', re, v1, v2, v3.trans (fun w w1 w2 => by rw [on w (by omega), u6 w (by omega), out w (by omega)]) (by rw [n77, r2 0 (by omega) (by omega)]; rfl) n78 (by rw [omn 2 (by omega), f2]; exact mfr.1) (by rw [omn 3 (by omega), f3]; exact mfr.2.1) (by rw [omn 4 (by omega), f4]; exact mfr.2.2.1) (by rw [omn 5 (by omega), f5]; exact mfr.2.2.2.1) (by rw [jmn 2 (by omega), f02]; exact mfr.2.2.2.2.1) (by rw [jmn 6 (by omega), f06]; exact mfr.2.2.2.2.2)⟩
        · rw [if_neg hr, if_neg hr]
          refine ⟨_, z_u m13 0 19 r, 2, stop _ 2 (by omega) (by omega) (by rw [u_j (by omega), u_i]; rfl), rfl, by omega, by rw [u_j (by omega), u_i]; rfl, ⟨ord, by omega, ?_, ?_⟩, fun _ => ?_, fun w => absurd w (by omega), fun _ => by rw [u_i, u_i], ?_, ?_, fun w w1 w2 => by rw [u_o (by omega), u_o (by omega), u6 w (by omega), out w (by omega)], ?_, ?_, by rw [u_o (by omega), f2]; exact mfr.1, by rw [u_o (by omega), f3]; exact mfr.2.1, by rw [u_o (by omega), f4]; exact mfr.2.2.1, by rw [u_o (by omega), f5]; exact mfr.2.2.2.1, by rw [u_j (by omega), f02]; exact mfr.2.2.2.2.1, by rw [u_j (by omega), f06]; exact mfr.2.2.2.2.2⟩
          · rw [u_j (by omega), u_j (by omega), s19, out 0 (by omega), s1]
          · rw [u_j (by omega), fj 17 (by omega), r4 17 (by omega) (by omega), j7 17 (by omega), m17]
          · rw [u_j (by omega), u_j (by omega), s19, out 0 (by omega), s2, u_j (by omega), fj 18 (by omega), r4 18 (by omega) (by omega), hm7, u_i]
          · rw [u_o (by omega)]
            exact u3.c (fun w hq => by show z_u _ 0 4 r (w + 1) = σ19 (w + 1); rw [u_o (by omega), u_o (by omega)])
          · refine ⟨fun k hk => ?_, ?_⟩
            · show z_u (z_u σ19 0 3 2) 0 4 r 81 k = _
              rw [u_o (by omega), u_o (by omega)]; exact u4.1 k hk
            · show z_u (z_u σ19 0 3 2) 0 4 r 80 4 = _
              rw [u_o (by omega), u_o (by omega)]; exact u4.2
          · rw [u_o (by omega), u_o (by omega), u6 77 (by omega), e770]
          · rw [u_o (by omega), u_o (by omega), u6 78 (by omega), e78]
    · -- at the end
      have e : pos = L := by omega
      refine ⟨σ, m, 0, ?_, ?_, by omega, s3, ⟨ord, by omega, s1, m17⟩, fun q => absurd rfl q, fun q => absurd q (by omega), fun q => absurd q (by omega), hT, hw, fun _ _ _ => rfl, rfl, rfl, rfl, rfl, rfl, rfl, rfl, rfl⟩
      · show lb_X7_run_28 _ σ = _
        unfold lb_X7_run_28
        rw [if_pos s3, e77, s2, if_pos (nI_le (by omega) (by omega))]
      · show lb_X10_doesAll_13 _ (nI pos) m = _
        unfold lb_X10_doesAll_13
        rw [h.2.1, if_pos (nI_le (by omega) (by omega))]
        rfl
theorem zkRTT_in {q : Nat} (h : 1 ≤ q) : zk_R_TT q = q - 1 := by
  show (if q = 0 then 76 else q - 1) = _
  rw [if_neg (by omega)]
theorem zkRTT_out {q : Nat} (h : q = 0 ∨ 77 ≤ q) : 76 ≤ zk_R_TT q := by
  show 76 ≤ (if q = 0 then 76 else q - 1)
  by_cases e : q = 0
  · rw [if_pos e]; omega
  · rw [if_neg e]; omega
theorem run_same {σ m : z_S} (hT : RTx (fun q => σ (q + 39)) (m 1)) (h : tx (fun k => σ (zi_R_X0 k)) m c L) (hw : wT (fun q => σ (zi_R_TW q))) :
    ∃ σ' m' re, f_X7_run σ = some σ' ∧ f_X10_doesAll m = some (nI re, m') ∧ runR σ m σ' m' re := by
  obtain ⟨nc, nh, nk, np, dy, ah, pl, hT⟩ := hT
  have h60 := h.2.2.1
  obtain ⟨a, b, -, d, e, -⟩ := id hT
  obtain ⟨s, f, hs, he⟩ := x_copyFrom (σ := fun k => σ (zi_R_TT k)) a.1.2.2.1 b.1.2.1 d.2.1 e.2.1 a.2.1 b.2.1 e.2.2.1 d.2.2.1
  obtain ⟨σ3, h3⟩ : ∃ t, t = z_m σ zk_R_TT 76 s := ⟨_, rfl⟩
  have in3 : ∀ q, q < 76 → σ3 (q + 1) = s q := fun q hq => by rw [h3]; exact z_m_in (by rw [zkRTT_in (by omega), Nat.add_sub_cancel]) hq
  have out3 : ∀ q, q = 0 ∨ 77 ≤ q → σ3 q = σ q := fun q hq => by rw [h3]; exact z_m_out (zkRTT_out hq)
  have now3 : ∀ q, 39 ≤ q → q < 77 → σ3 q = σ q := by
    intro q q1 q2
    obtain ⟨w, rfl⟩ : ∃ w, q = w + 1 := ⟨q - 1, by omega⟩
    rw [in3 w (by omega), hs w (by omega)]
    rfl
  obtain ⟨σ7, h7⟩ : ∃ t, t = z_u (z_u (z_u (z_u σ3 0 1 0) 0 2 0) 0 3 0) 0 4 0 := ⟨_, rfl⟩
  have o7 : ∀ q, q ≠ 0 → σ7 q = σ3 q := fun q hq => by rw [h7, u_o hq, u_o hq, u_o hq, u_o hq]
  obtain ⟨m2, hm2⟩ : ∃ t, t = z_u (z_u m 0 17 0) 0 19 (-4) := ⟨_, rfl⟩
  have om : ∀ q, q ≠ 0 → m2 q = m q := fun q hq => by rw [hm2, u_o hq, u_o hq]
  have jm : ∀ j, j ≠ 17 → j ≠ 19 → m2 0 j = m 0 j := fun j h1 h2 => by rw [hm2, u_j h2, u_j h1]
  obtain ⟨σ', m', re, v1, v2, v3⟩ := run_loop (c := c) (L := L) L 0 0 z_Fu z_Fu σ7 m2 (by omega) (by omega) (by omega) (by show L + 1 < 4096; omega) (by show L < 4096; omega)
    (h.upd (by show σ7 77 0 = σ 77 0; rw [o7 77 (by omega), out3 77 (by omega)]) (by show σ7 78 = σ 78; rw [o7 78 (by omega), out3 78 (by omega)]) (jm 6 (by omega) (by omega)) (om 5 (by omega)))
    (by rw [h7, u_j (by omega), u_i]) (by rw [h7, u_j (by omega), u_j (by omega), u_j (by omega), u_i]; rfl) (by rw [h7, u_j (by omega), u_j (by omega), u_i]; rfl) (by rw [hm2, u_j (by omega), u_i]; rfl) (by rw [hm2, u_i])
    (by
      rw [om 1 (by omega)]
      refine ⟨nc, nh, nk, np, dy, ah, pl, hT.eqT (eqT.trans (T' := s) ?_ (eqT.c fun q hq => ?_))⟩
      · exact he
      · show σ7 (q + 1) = s q
        rw [o7 _ (by omega), in3 q (by omega)])
    ⟨fun k hk => by show σ7 81 k = _; rw [o7 81 (by omega), out3 81 (by omega)]; exact hw.1 k hk, by show σ7 80 4 = _; rw [o7 80 (by omega), out3 80 (by omega)]; exact hw.2⟩
  refine ⟨σ', m', re, ?_, ?_, v3.trans (fun q q1 q2 => by rw [o7 q (by omega), now3 q q1 q2]) (by rw [o7 77 (by omega), out3 77 (by omega)]) (by rw [o7 78 (by omega), out3 78 (by omega)]) (om 2 (by omega)) (om 3 (by omega)) (om 4 (by omega)) (om 5 (by omega)) (jm 2 (by omega) (by omega)) (jm 6 (by omega) (by omega))⟩
  · unfold f_X7_run
    rw [f, p_b1, p_let, ← h3, p_let, p_let, p_let, p_let, ← h7]
    exact v1
  · unfold f_X10_doesAll
    rw [p_let, p_let, ← hm2]
    exact v2
end RUN
