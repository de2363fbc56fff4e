/-! THE PURE PART. 34: one order read, one order done -/
section PLAY1
variable {c : Nat → Nat} {L : Nat}
theorem nW_x {v : Nat} (hv : v < 1000) (σ : z_S) : f_X5_numbersOf (nI v) σ = some (nI (nW v)) := by
  unfold f_X5_numbersOf nW
  by_cases h1 : v = 98
  · subst h1; rfl
  · rw [if_neg (show ¬ nI v = 98 from nI_ne (b := 98) (by omega) (by omega) h1)]
    by_cases h2 : v = 100
    · subst h2; rfl
    · rw [if_neg (show ¬ nI v = 100 from nI_ne (b := 100) (by omega) (by omega) h2)]
      by_cases h3 : v = 103
      · subst h3; rfl
      · rw [if_neg (show ¬ nI v = 103 from nI_ne (b := 103) (by omega) (by omega) h3)]
        by_cases h4 : v = 110
        · subst h4; rfl
        · rw [if_neg (show ¬ nI v = 110 from nI_ne (b := 110) (by omega) (by omega) h4)]
          by_cases h5 : v = 112
          · subst h5; rfl
          · rw [if_neg (show ¬ nI v = 112 from nI_ne (b := 112) (by omega) (by omega) h5), if_neg h5, if_neg (by omega), if_neg (by omega)]
            rfl
theorem nW_m {v : Nat} (hv : v < 1000) {O : Type} (J : Int32 → Option O) : (if nI v = (112 : Int32) then (J (3 : Int32)) else (z_let (fun (_ : Unit) => J (2 : Int32)) fun j48 => if nI v = (103 : Int32) then (j48 ()) else (if nI v = (98 : Int32) then (j48 ()) else
    (z_let (fun (_ : Unit) => J (1 : Int32)) fun j51 => if nI v = (110 : Int32) then (j51 ()) else (if nI v = (100 : Int32) then (j51 ()) else (J (0 : Int32))))))) = J (nI (nW v)) := by
  unfold nW
  by_cases h5 : v = 112
  · subst h5; rfl
  · rw [if_neg (show ¬ nI v = 112 from nI_ne (b := 112) (by omega) (by omega) h5), if_neg h5, p_let]
    by_cases h3 : v = 103
    · subst h3; rfl
    · rw [if_neg (show ¬ nI v = 103 from nI_ne (b := 103) (by omega) (by omega) h3)]
      by_cases h1 : v = 98
      · subst h1; rfl
      · rw [if_neg (show ¬ nI v = 98 from nI_ne (b := 98) (by omega) (by omega) h1), p_let]
        by_cases h4 : v = 110
        · subst h4; rfl
        · rw [if_neg (show ¬ nI v = 110 from nI_ne (b := 110) (by omega) (by omega) h4)]
          by_cases h2 : v = 100
          · subst h2; rfl
          · rw [if_neg (show ¬ nI v = 100 from nI_ne (b := 100) (by omega) (by omega) h2), if_neg (by omega), if_neg (by omega)]
            rfl
theorem nW_4 {v : Nat} : nW v < 4 := by
  unfold nW
  by_cases h : v = 112
  · rw [if_pos h]; omega
  · rw [if_neg h]
    by_cases h : v = 103 ∨ v = 98
    · rw [if_pos h]; omega
    · rw [if_neg h]
      by_cases h : v = 110 ∨ v = 100
      · rw [if_pos h]; omega
      · rw [if_neg h]; omega
theorem p_ckc0 : ∀ k : Fin 127, narrow .char (.int (nI k.val)) = .int (nI k.val) ∧ fits .char (.int (nI k.val)) = true := by decide +kernel
theorem p_ckc {O : Type} {X : Option O} {v : Nat} (h1 : 32 ≤ v) (h2 : v ≤ 126) : z_ckc (nI v) X = X := if_pos (p_ckc0 ⟨v, by omega⟩)
theorem m_first {m : z_S} {W f : Nat} (hW : W < 4) (h1 : 1 ≤ W) : z_lp3 (lb_X10_reads_88 (nI W)) (f + 1) (1 : Int32) (0 : Int32) m = (z_b2 (f_X10_readsNumber (nI 0) m) fun r37 σ36 => if r37 = (0 : Int32) then z_lp3 (lb_X10_reads_88 (nI W)) f (0 : Int32) (nI (0 + 1)) σ36 else z_lp3 (lb_X10_reads_88 (nI W)) f (1 : Int32) (nI (0 + 1)) σ36) := by
  have st : ∀ k, lb_X10_reads_88 (nI W) k 1 0 m = (z_b2 (f_X10_readsNumber (nI 0) m) fun r37 σ36 => if r37 = (0 : Int32) then k 0 (nI (0 + 1)) σ36 else k 1 (nI (0 + 1)) σ36) := by
    intro k
    unfold lb_X10_reads_88
    rw [p_let, if_neg (show ¬ nI W ≤ 0 from nI_nle (by omega) (by omega)), if_neg (by decide), p_let, if_pos (by decide)]
    simp only [p_let]
    rw [if_neg (by decide)]
    rfl
  exact st _
theorem order_same {T m : z_S} (h : tx T m c L) {a : Nat} (ha : a < L) :
    ∃ b T' m', f_X5_readOrder (nI a) T = some (b, T') ∧ f_X10_reads (nI a) m = some (b, m') ∧ (∀ q, q ≠ 0 → q ≠ 2 → T' q = T q) ∧ (∀ j, j ≠ 2 → j ≠ 3 → T' 0 j = T 0 j) ∧ (∀ q, q ≠ 0 → q ≠ 9 → m' q = m q) ∧ (∀ j, j ≠ 14 → j ≠ 15 → m' 0 j = m 0 j) ∧
      (b = 0 ∨ (b = 1 ∧ T' 0 2 = nI (c a) ∧ m' 0 15 = nI (c a) ∧ 1 ≤ nW (c a) ∧ (∃ a', a < a' ∧ a' ≤ L ∧ T' 0 3 = nI a' ∧ m' 0 14 = nI a') ∧ ∀ i, i < nW (c a) → T' 2 i = m' 9 i)) := by
  have h60 := h.2.2.1
  obtain ⟨e1, e5, c1, c2⟩ := h.2.2.2 a ha
  obtain ⟨T1, hT1⟩ : ∃ s, s = z_u (z_u T 0 2 (nI (c a))) 0 3 (nI (a + 1)) := ⟨_, rfl⟩
  obtain ⟨m1, hm1⟩ : ∃ s, s = z_u (z_u m 0 15 (nI (c a))) 0 14 (nI (a + 1)) := ⟨_, rfl⟩
  have tx1 : tx T1 m1 c L := h.upd (by rw [hT1, u_j (by omega), u_j (by omega)]) (by rw [hT1, u_o (by omega), u_o (by omega)]) (by rw [hm1, u_j (by omega), u_j (by omega)]) (by rw [hm1, u_o (by omega), u_o (by omega)])
  have hx : f_X5_readOrder (nI a) T = z_lp2 (lb_X5_readOrder_43 (nI (nW (c a)))) z_Fu (0 : Int32) T1 := by
    unfold f_X5_readOrder
    rw [w_tb, p_b1, h.1, show (if tb ((0 : Int32) ≤ nI a ∧ nI a ≤ nI L - 1) = (0 : Int32) then _ else _) = _ from p_tbT ((p_idx (by omega)).mpr ⟨a, ha, rfl⟩), p_cki (by omega) (by omega), p_cl (by omega), e1]
    have hck : ∀ X : Option (Int32 × z_S), z_ckc (nI (c a)) X = X := fun X => p_ckc c1 c2
    rw [hck, p_let, zl_1, nI_add, p_let, ← hT1, show T1 0 2 = nI (c a) from by rw [hT1, u_j (by omega), u_i], nW_x (by omega), p_b1]
  have hm : f_X10_reads (nI a) m = (fun y5 => z_let (fun (y7 : Int32) => z_lp3 (lb_X10_reads_88 y5) z_Fu y7 (0 : Int32) m1) fun j8 => if y5 ≤ (0 : Int32) then (j8 (0 : Int32)) else (j8 (1 : Int32))) (nI (nW (c a))) := by
    unfold f_X10_reads
    rw [m_sign h (by omega), p_b1, if_pos ha, p_let, p_let, p_let, show nI a + (1 : Int32) = nI (a + 1) from by rw [zl_1, nI_add], ← hm1, show m1 0 15 = nI (c a) from by rw [hm1, u_j (by omega), u_i]]
    exact nW_m (v := c a) (by omega) (fun y5 => z_let (fun (y7 : Int32) => z_lp3 (lb_X10_reads_88 y5) z_Fu y7 (0 : Int32) m1) fun j8 => if y5 ≤ (0 : Int32) then (j8 (0 : Int32)) else (j8 (1 : Int32)))
  have T13 : T1 0 3 = nI (a + 1) := by rw [hT1, u_i]
  have m114 : m1 0 14 = nI (a + 1) := by rw [hm1, u_i]
  by_cases hW0 : nW (c a) = 0
  · obtain ⟨m', g1, g2, g3⟩ := m_bad (m := m1) (W := 0) (f := 4095) (i := 0)
    refine ⟨0, T1, m', ?_, ?_, fun q q0 q2 => by rw [hT1, u_o q0, u_o q0], fun j j2 j3 => by rw [hT1, u_j j3, u_j j2], fun q q0 q9 => by rw [g2 q q0 q9, hm1, u_o q0, u_o q0], fun j j1 j2 => by rw [g3 j j1, hm1, u_j j1, u_j j2], Or.inl rfl⟩
    · rw [hx, hW0]
      show lb_X5_readOrder_43 (nI 0) _ 0 T1 = _
      unfold lb_X5_readOrder_43
      rw [if_pos (by decide), if_pos (by decide)]
    · rw [hm, hW0]
      dsimp only
      rw [p_let, if_pos (by decide)]
      exact g1
  · obtain ⟨b, T', m', k1, k2, r1, r2, r3, r4, r5⟩ := ord_loop (c := c) (L := L) (W := nW (c a)) nW_4 (T0 := T1) (m0 := m1) (a0 := a) (nW (c a)) 0 (a + 1) z_Fu 4095 T1 m1 (by omega) (by omega) (by have := @nW_4 (c a); show nW (c a) < 4096; omega) (by have := @nW_4 (c a); omega) tx1 T13 m114 (by omega) (by omega) (fun _ _ _ => rfl) (fun _ _ => rfl) (fun _ _ _ => rfl) (fun _ _ => rfl) (fun k hk => absurd hk (Nat.not_lt_zero k))
    refine ⟨b, T', m', ?_, ?_, fun q q0 q2 => by rw [r1 q q0 q2, hT1, u_o q0, u_o q0], fun j j2 j3 => by rw [r2 j j3, hT1, u_j j3, u_j j2], fun q q0 q9 => by rw [r3 q q0 q9, hm1, u_o q0, u_o q0], fun j j1 j2 => by rw [r4 j j1, hm1, u_j j1, u_j j2], ?_⟩
    · rw [hx]; exact k1
    · rw [hm]
      dsimp only
      rw [p_let, if_neg (show ¬ nI (nW (c a)) ≤ 0 from nI_nle (by omega) (by have := @nW_4 (c a); omega))]
      refine (m_first (f := 4095) nW_4 (by omega)).trans k2
    · rcases r5 with q | ⟨q, q1, q2⟩
      · exact Or.inl q
      · refine Or.inr ⟨q, by rw [r2 2 (by omega), hT1, u_j (by omega), u_i], by rw [r4 15 (by omega), hm1, u_j (by omega), u_i], by omega, ?_, q2⟩
        obtain ⟨a', w1, w2⟩ := q1
        exact ⟨a', w1, w2⟩
end PLAY1
theorem zkRT_in {q : Nat} (h : 1 ≤ q) (h2 : q < 39) : zk_R_T q = q - 1 := by
  show (if q = 0 then 38 else q - 1) = _
  rw [if_neg (by omega)]
theorem zkRT_out {q : Nat} (h : q = 0 ∨ 39 ≤ q) : 38 ≤ zk_R_T q := by
  show 38 ≤ (if q = 0 then 38 else q - 1)
  by_cases e : q = 0
  · rw [if_pos e]; omega
  · rw [if_neg e]; omega
theorem zkRW_in {q : Nat} (h : 1 ≤ q) (h2 : q < 39) : zk_R_TW q = q - 1 := by
  show (if q = 0 then 40 else if q < 39 then q - 1 else _) = _
  rw [if_neg (by omega), if_pos h2]
theorem zkRW_out {q : Nat} (h : q = 0 ∨ (39 ≤ q ∧ q < 80)) : 40 ≤ zk_R_TW q := by
  show 40 ≤ (if q = 0 then 40 else if q < 39 then q - 1 else if q < 80 then 40 else q - 42)
  by_cases e : q = 0
  · rw [if_pos e]; omega
  · rw [if_neg e, if_neg (by omega), if_pos (by omega)]; omega
theorem RW_T {x : z_S} {q : Nat} (h : q < 38) : x (zi_R_TW q) = x (zi_R_T q) := by
  show x (if q < 38 then q + 1 else q + 42) = x (q + 1)
  rw [if_pos h]
/-- one order done: on the class's trial town, and on the model's row -/
theorem answer_same {σ m : z_S} {v : Nat} (hv : v < 1000) (hW : 1 ≤ nW v) (hT : RTx (fun q => σ (zi_R_T q)) (m 1)) (hw : wT (fun q => σ (zi_R_TW q))) (h15 : m 0 15 = nI v) (hnum : ∀ i, i < nW v → σ 79 i = m 9 i) :
    ∃ r σ' m', f_X7_answerOf (nI v) σ = some (r, σ') ∧ f_X10_does m = some (r, m') ∧ RTx (fun q => σ' (zi_R_T q)) (m' 1) ∧ wT (fun q => σ' (zi_R_TW q)) ∧ frM m m' ∧ (∀ q, q = 0 ∨ (39 ≤ q ∧ q < 80) → σ' q = σ q) := by
  have fin : ∀ {g g2 : z_S → Option (Int32 × z_S)}, sameT g g2 → ∃ r σ' m', (z_b2 (g (fun k => σ (zi_R_T k))) fun r6 σ5 => z_let (z_m σ (zk_R_T) 38 σ5) fun σ7 => some (r6, σ7)) = some (r, σ') ∧ (z_b2 (g2 m) fun r6 σ5 => some (r6, σ5)) = some (r, m') ∧ RTx (fun q => σ' (zi_R_T q)) (m' 1) ∧ wT (fun q => σ' (zi_R_TW q)) ∧ frM m m' ∧ (∀ q, q = 0 ∨ (39 ≤ q ∧ q < 80) → σ' q = σ q) := by
    intro g g2 hs
    obtain ⟨r, T', m', e1, e2, e3, e4⟩ := hs _ m hT
    refine ⟨r, z_m σ zk_R_T 38 T', m', by rw [e1, p_b2, p_let], by rw [e2, p_b2], e3.c (fun q hq => ?_), ⟨fun k hk => ?_, ?_⟩, e4, fun q hq => z_m_out (zkRT_out (by omega))⟩
    · refine z_m_in (k := q) ?_ hq
      show zk_R_T (q + 1) = q
      rw [zkRT_in (by omega) (by omega), Nat.add_sub_cancel]
    · show z_m σ zk_R_T 38 T' 81 k = nI 0
      rw [z_m_out (zkRT_out (by omega))]
      exact hw.1 k hk
    · show z_m σ zk_R_T 38 T' 80 4 = nI 0
      rw [z_m_out (zkRT_out (by omega))]
      exact hw.2
  have k3 : ∀ {X : Option (Int32 × z_S)}, z_cki (0 : Int32) 3 X = X := fun {X} => rfl
  have k31 : ∀ {X : Option (Int32 × z_S)}, z_cki (1 : Int32) 3 X = X := fun {X} => rfl
  have k32 : ∀ {X : Option (Int32 × z_S)}, z_cki (2 : Int32) 3 X = X := fun {X} => rfl
  unfold f_X7_answerOf f_X10_does
  rw [h15]
  by_cases h1 : v = 98
  · rw [if_pos (by rw [h1]; rfl), if_pos (by rw [h1]; rfl), k3, k3, k31, k31, c_0, c_1, hnum 0 (by rw [h1]; decide), hnum 1 (by rw [h1]; decide)]
    exact fin (same_biscuits _ _)
  · rw [if_neg (show ¬ nI v = 98 from nI_ne (b := 98) (by omega) (by omega) h1), if_neg (show ¬ nI v = 98 from nI_ne (b := 98) (by omega) (by omega) h1)]
    by_cases h3 : v = 103
    · rw [if_pos (by rw [h3]; rfl), if_pos (by rw [h3]; rfl), k3, k3, k31, k31, c_0, c_1, hnum 0 (by rw [h3]; decide), hnum 1 (by rw [h3]; decide)]
      exact fin (same_give _ _)
    · rw [if_neg (show ¬ nI v = 103 from nI_ne (b := 103) (by omega) (by omega) h3), if_neg (show ¬ nI v = 103 from nI_ne (b := 103) (by omega) (by omega) h3)]
      by_cases h4 : v = 110
      · rw [if_pos (by rw [h4]; rfl), if_pos (by rw [h4]; rfl), k3, k3, c_0, hnum 0 (by rw [h4]; decide)]
        exact fin (same_giveNone _)
      · rw [if_neg (show ¬ nI v = 110 from nI_ne (b := 110) (by omega) (by omega) h4), if_neg (show ¬ nI v = 110 from nI_ne (b := 110) (by omega) (by omega) h4)]
        by_cases h5 : v = 112
        · rw [if_pos (by rw [h5]; rfl), if_pos (by rw [h5]; rfl), k3, k3, k31, k31, k32, k32, c_0, c_1, c_2, hnum 0 (by rw [h5]; decide), hnum 1 (by rw [h5]; decide), hnum 2 (by rw [h5]; decide)]
          exact fin (same_pause _ _ _)
        · rw [if_neg (show ¬ nI v = 112 from nI_ne (b := 112) (by omega) (by omega) h5), if_neg (show ¬ nI v = 112 from nI_ne (b := 112) (by omega) (by omega) h5), k3, k3, c_0, hnum 0 (by omega)]
          obtain ⟨r, T', m', e1, e2, e3, ew, e4⟩ := same_days (m 9 0) (T := fun q => σ (zi_R_TW q)) (m := m) (hT.c (fun q hq => RW_T hq)) hw
          have c80 : z_m σ zk_R_TW 40 T' 80 = T' 38 := z_m_in (k := 38) rfl (by omega)
          have c81 : z_m σ zk_R_TW 40 T' 81 = T' 39 := z_m_in (k := 39) rfl (by omega)
          refine ⟨r, z_m σ zk_R_TW 40 T', m', by rw [e1, p_b2, p_let], by rw [e2, p_b2], e3.c (fun q hq => ?_), ⟨fun k hk => ?_, ?_⟩, e4, fun q hq => z_m_out (zkRW_out hq)⟩
          · refine z_m_in (k := q) ?_ (by omega)
            show zk_R_TW (q + 1) = q
            rw [zkRW_in (by omega) (by omega), Nat.add_sub_cancel]
          · show z_m σ zk_R_TW 40 T' 81 k = nI 0
            rw [c81]
            exact ew.1 k hk
          · show z_m σ zk_R_TW 40 T' 80 4 = nI 0
            rw [c80]
            exact ew.2
