/-! THE PURE PART. 33: whole orders -/
section ORDER
variable {c : Nat → Nat} {L : Nat}
/-- the model's loop, when what was read so far is not of the form -/
theorem m_bad {m : z_S} {W : Nat} {f : Nat} {i : Int32} : ∃ m', z_lp3 (lb_X10_reads_88 (nI W)) (f + 1) (0 : Int32) i m = some (0, m') ∧ (∀ q, q ≠ 0 → q ≠ 9 → m' q = m q) ∧ (∀ j, j ≠ 14 → m' 0 j = m 0 j) := by
  refine ⟨z_u m 0 14 (m 0 14 + 1), ?_, fun q q0 _ => u_o q0, fun j hj => u_j hj⟩
  show lb_X10_reads_88 (nI W) _ 0 i m = _
  unfold lb_X10_reads_88
  rw [p_let, p_let, p_let, p_let, if_pos rfl]
  by_cases q : nI W ≤ i
  · rw [if_pos q]; rfl
  · rw [if_neg q, if_pos rfl]; rfl
/-- the model behind the last number -/
theorem m_end {T m : z_S} (h : tx T m c L) {W a f : Nat} (hW : W < 4) (hm : m 0 14 = nI a) (ha : a ≤ L) : z_lp3 (lb_X10_reads_88 (nI W)) (f + 1) (1 : Int32) (nI W) m = some (if a < L ∧ c a = 59 then 1 else 0, z_u m 0 14 (nI (a + 1))) := by
  have h60 := h.2.2.1
  show lb_X10_reads_88 (nI W) _ 1 (nI W) m = _
  unfold lb_X10_reads_88
  rw [p_let, p_let, p_let, p_let, if_pos (nI_le (Nat.le_refl _) (by omega)), if_neg (by decide), hm, m_sign h (by omega), p_b1, zl_1, nI_add]
  by_cases q : a < L
  · rw [if_pos q]
    obtain ⟨-, -, e2, e3⟩ := h.2.2.2 a q
    by_cases q2 : c a = 59
    · rw [if_pos (by rw [q2]; rfl), if_pos ⟨q, q2⟩]; rfl
    · rw [if_neg (show ¬ nI (c a) = 59 from nI_ne (b := 59) (by omega) (by omega) q2), if_neg (fun w => q2 w.2)]; rfl
  · rw [if_neg q, if_neg (by decide), if_neg (fun w => q w.1)]; rfl
/-- the model ahead of a further number -/
theorem m_comma {T m : z_S} (h : tx T m c L) {W a i f : Nat} (hW : W < 4) (hi : 1 ≤ i) (hiW : i < W) (hm : m 0 14 = nI a) (ha : a ≤ L) :
    (a < L ∧ c a = 44 → z_lp3 (lb_X10_reads_88 (nI W)) (f + 1) (1 : Int32) (nI i) m = (z_b2 (f_X10_readsNumber (nI i) (z_u m 0 14 (nI (a + 1)))) fun r37 σ36 => if r37 = (0 : Int32) then z_lp3 (lb_X10_reads_88 (nI W)) f (0 : Int32) (nI (i + 1)) σ36 else z_lp3 (lb_X10_reads_88 (nI W)) f (1 : Int32) (nI (i + 1)) σ36)) ∧
    (¬ (a < L ∧ c a = 44) → z_lp3 (lb_X10_reads_88 (nI W)) (f + 1) (1 : Int32) (nI i) m = z_lp3 (lb_X10_reads_88 (nI W)) f (0 : Int32) (nI (i + 1)) (z_u m 0 14 (nI (a + 1)))) := by
  have h60 := h.2.2.1
  have st : ∀ k, lb_X10_reads_88 (nI W) k 1 (nI i) m = if (if a < L then nI (c a) else (0 : Int32)) = 44 then (z_b2 (f_X10_readsNumber (nI i) (z_u m 0 14 (nI (a + 1)))) fun r37 σ36 => if r37 = (0 : Int32) then k 0 (nI (i + 1)) σ36 else k 1 (nI (i + 1)) σ36) else k 0 (nI (i + 1)) (z_u m 0 14 (nI (a + 1))) := by
    intro k
    unfold lb_X10_reads_88
    rw [p_let, if_neg (nI_ge hiW (by omega)), if_neg (by decide), p_let, if_neg (nI_nle (by omega) (by omega)), hm, m_sign h (by omega), p_b1, p_let, zl_1, nI_add]
    by_cases q : (if a < L then nI (c a) else (0 : Int32)) = 44
    · rw [if_pos q, if_pos q]
      simp only [p_let, nI_add]
      rw [if_neg (show ¬ nI 1 = 0 from by decide)]
    · rw [if_neg q, if_neg q]
      simp only [p_let, nI_add]
      rw [if_pos trivial]
  constructor
  · rintro ⟨q, q2⟩
    show lb_X10_reads_88 (nI W) _ 1 (nI i) m = _
    rw [st, if_pos (by rw [if_pos q, q2]; rfl)]
  · intro q
    show lb_X10_reads_88 (nI W) _ 1 (nI i) m = _
    rw [st, if_neg ?_]
    by_cases qL : a < L
    · obtain ⟨-, -, e2, e3⟩ := h.2.2.2 a qL
      rw [if_pos qL]
      exact nI_ne (b := 44) (by omega) (by omega) (fun w => q ⟨qL, w⟩)
    · rw [if_neg qL]; decide
/-- from the i-th number on -/
theorem ord_loop {W : Nat} (hW : W < 4) {T0 m0 : z_S} {a0 : Nat} : ∀ (n i a f f' : Nat) (T m : z_S), n + i = W → 1 ≤ n → n < f → n < f' → tx T m c L → T 0 3 = nI a → m 0 14 = nI a → a ≤ L → a0 < a →
    (∀ q, q ≠ 0 → q ≠ 2 → T q = T0 q) → (∀ j, j ≠ 3 → T 0 j = T0 0 j) → (∀ q, q ≠ 0 → q ≠ 9 → m q = m0 q) → (∀ j, j ≠ 14 → m 0 j = m0 0 j) → (∀ k, k < i → T 2 k = m 9 k) →
    ∃ b T' m', z_lp2 (lb_X5_readOrder_43 (nI W)) f (nI i) T = some (b, T') ∧ (z_b2 (f_X10_readsNumber (nI i) m) fun r37 σ36 => if r37 = (0 : Int32) then z_lp3 (lb_X10_reads_88 (nI W)) f' (0 : Int32) (nI (i + 1)) σ36 else z_lp3 (lb_X10_reads_88 (nI W)) f' (1 : Int32) (nI (i + 1)) σ36) = some (b, m') ∧ rdR T0 m0 T' m' b W a0 L := by
  intro n
  induction n with
  | zero => intro i a f f' T m _ h1; omega
  | succ n ih =>
    intro i a f f' T m hn _ hf hf' h hT hm haL ha0 t1 t2 m1 m2 hnum
    have h60 := h.2.2.1
    obtain ⟨f, rfl⟩ : ∃ q, f = q + 1 := ⟨f - 1, by omega⟩
    obtain ⟨f', rfl⟩ : ∃ q, f' = q + 1 := ⟨f' - 1, by omega⟩
    obtain ⟨a', v', n1, n2, n3, n4, n5⟩ := num_same (w := i) (by omega) 3 0 0 a z_Fu z_Fu T m rfl (by show 3 < 4096; omega) (by show 3 < 4096; omega) h hT hm haL
    have n1' : f_X5_readNumber T = some (if 0 + (a' - a) = 0 then -1 else nI v', z_u T 0 3 (nI a')) := n1
    have n2' : f_X10_readsNumber (nI i) m = some (if 0 + (a' - a) = 0 then 0 else 1, z_u (z_u m 0 14 (nI a')) 9 i (nI v')) := n2
    obtain ⟨T1, hT1⟩ : ∃ s, s = z_u T 0 3 (nI a') := ⟨_, rfl⟩
    obtain ⟨m3, hm3⟩ : ∃ s, s = z_u (z_u m 0 14 (nI a')) 9 i (nI v') := ⟨_, rfl⟩
    rw [← hT1] at n1'
    rw [← hm3] at n2'
    have tx1 : tx T1 m3 c L := h.upd (by rw [hT1, u_j (by omega)]) (by rw [hT1, u_o (by omega)]) (by rw [hm3, u_o (by omega), u_j (by omega)]) (by rw [hm3, u_o (by omega), u_o (by omega)])
    have T13 : T1 0 3 = nI a' := by rw [hT1, u_i]
    have m314 : m3 0 14 = nI a' := by rw [hm3, u_o (by omega), u_i]
    have t1' : ∀ q, q ≠ 0 → q ≠ 2 → T1 q = T0 q := fun q q0 q2 => by rw [hT1, u_o q0]; exact t1 q q0 q2
    have t2' : ∀ j, j ≠ 3 → T1 0 j = T0 0 j := fun j hj => by rw [hT1, u_j hj]; exact t2 j hj
    have m1' : ∀ q, q ≠ 0 → q ≠ 9 → m3 q = m0 q := fun q q0 q9 => by rw [hm3, u_o q9, u_o q0]; exact m1 q q0 q9
    have m2' : ∀ j, j ≠ 14 → m3 0 j = m0 0 j := fun j hj => by rw [hm3, u_o (by omega), u_j hj]; exact m2 j hj
    have hstep : ∀ k, lb_X5_readOrder_43 (nI W) k (nI i) T = (z_b2 (f_X5_readNumber T) fun r17 σ16 => if r17 = (-1 : Int32) then (some ((0 : Int32), σ16)) else (z_b2 (f_X5_readSign (nI (if i + 1 = W then 59 else 44)) σ16) fun r23 σ22 => if r23 = (0 : Int32) then (some ((0 : Int32), σ22)) else k (nI (i + 1)) (z_u σ22 2 i r17))) := by
      intro k
      unfold lb_X5_readOrder_43
      rw [if_neg (nI_ge (by omega) (by omega)), show nI W - (1 : Int32) = nI (W - 1) from pk_sub (b := 1) (by omega)]
      have e : ∀ (r17 : Int32) (σ16 : z_S), (z_let (fun (y19 : Int32) => z_b2 (f_X5_readSign y19 σ16) fun r23 σ22 => if r23 = (0 : Int32) then (some ((0 : Int32), σ22)) else (z_cki (nI i) 3 <| z_let (z_u σ22 2 (nI i).toNatClampNeg (r17)) fun σ26 => z_let (nI i + (1 : Int32)) fun x27 => k x27 σ26)) fun j20 => if nI i = nI (W - 1) then (j20 (59 : Int32)) else (j20 (44 : Int32))) =
          (z_b2 (f_X5_readSign (nI (if i + 1 = W then 59 else 44)) σ16) fun r23 σ22 => if r23 = (0 : Int32) then (some ((0 : Int32), σ22)) else k (nI (i + 1)) (z_u σ22 2 i r17)) := by
        intro r17 σ16
        rw [p_let, p_cl (by omega), zl_1, nI_add]
        by_cases q : i + 1 = W
        · rw [if_pos (by rw [show i = W - 1 from by omega]), if_pos q]
          refine congrArg _ ?_
          funext r23 σ22
          rw [p_cki (by omega) (by omega)]
          rfl
        · rw [if_neg (nI_ne (by omega) (by omega) (by omega)), if_neg q]
          refine congrArg _ ?_
          funext r23 σ22
          rw [p_cki (by omega) (by omega)]
          rfl
      refine congrArg _ ?_
      funext r17 σ16
      rw [e]
    by_cases hz : a' = a
    · -- no digits
      have hz0 : 0 + (a' - a) = 0 := by omega
      rw [if_pos hz0] at n1' n2'
      obtain ⟨m', g1, g2, g3⟩ := m_bad (m := m3) (W := W) (f := f') (i := nI (i + 1))
      refine ⟨0, T1, m', ?_, ?_, t1', t2', fun q q0 q9 => by rw [g2 q q0 q9, m1' q q0 q9], fun j hj => by rw [g3 j hj, m2' j hj], Or.inl rfl⟩
      · refine (hstep _).trans ?_
        rw [n1', p_b2, if_pos rfl]
      · rw [n2', p_b2, if_pos rfl]
        exact g1
    · have hz0 : ¬ 0 + (a' - a) = 0 := by omega
      rw [if_neg hz0] at n1' n2'
      have hv : ¬ nI v' = -1 := nI_m1 (by have : v' < 1 * 10 ^ 3 := n5; omega)
      have cl : ∀ b T2, f_X5_readSign (nI (if i + 1 = W then 59 else 44)) T1 = some (b, T2) → z_lp2 (lb_X5_readOrder_43 (nI W)) (f + 1) (nI i) T = if b = 0 then some (0, T2) else z_lp2 (lb_X5_readOrder_43 (nI W)) f (nI (i + 1)) (z_u T2 2 i (nI v')) := by
        intro b T2 hb
        refine (hstep _).trans ?_
        rw [n1', p_b2, if_neg hv, hb, p_b2]
      rw [n2', p_b2, if_neg (by decide)]
      by_cases hlast : i + 1 = W
      · -- the last number
        rw [if_pos hlast] at cl
        have hme := m_end (f := f') tx1 hW m314 n4
        rw [hlast]
        by_cases q : a' < L ∧ c a' = 59
        · rw [if_pos q] at hme
          refine ⟨1, z_u (z_u T1 0 3 (nI (a' + 1))) 2 i (nI v'), _, ?_, hme, fun k k0 k2 => ?_, fun j hj => ?_, fun k k0 k9 => by rw [u_o k0]; exact m1' k k0 k9, fun j hj => by rw [u_j hj]; exact m2' j hj, Or.inr ⟨rfl, ⟨a' + 1, by omega, by omega, ?_, u_i⟩, fun k hk => ?_⟩⟩
          · rw [cl 1 (z_u T1 0 3 (nI (a' + 1))) (by rw [x_sign tx1 T13 n4 59 (by omega), if_pos q]), if_neg (by decide), hlast]
            obtain ⟨f, rfl⟩ : ∃ q, f = q + 1 := ⟨f - 1, by omega⟩
            show lb_X5_readOrder_43 (nI W) _ (nI W) _ = _
            unfold lb_X5_readOrder_43
            rw [if_pos (nI_le (Nat.le_refl _) (by omega)), if_neg (nI_nle (by omega) (by omega))]
          · rw [u_o k2, u_o k0]; exact t1' k k0 k2
          · rw [u_o (by omega), u_j hj]; exact t2' j hj
          · rw [u_o (by omega), u_i]
          · by_cases e : k = i
            · rw [e, u_i, u_o (by omega), hm3, u_i]
            · rw [u_j e, u_o (by omega), hT1, u_o (by omega), u_o (by omega), hm3, u_j e, u_o (by omega)]
              exact hnum k (by omega)
        · rw [if_neg q] at hme
          refine ⟨0, T1, _, ?_, hme, t1', t2', fun k k0 k9 => by rw [u_o k0]; exact m1' k k0 k9, fun j hj => by rw [u_j hj]; exact m2' j hj, Or.inl rfl⟩
          rw [cl 0 T1 (by rw [x_sign tx1 T13 n4 59 (by omega), if_neg q]), if_pos rfl]
      · rw [if_neg hlast] at cl
        obtain ⟨c1, c2⟩ := m_comma (f := f') tx1 hW (i := i + 1) (by omega) (by omega) m314 n4
        by_cases q : a' < L ∧ c a' = 44
        · rw [c1 q, cl 1 (z_u T1 0 3 (nI (a' + 1))) (by rw [x_sign tx1 T13 n4 44 (by omega), if_pos q]), if_neg (by decide)]
          obtain ⟨T2, hT2⟩ : ∃ s, s = z_u (z_u T1 0 3 (nI (a' + 1))) 2 i (nI v') := ⟨_, rfl⟩
          obtain ⟨m4, hm4⟩ : ∃ s, s = z_u m3 0 14 (nI (a' + 1)) := ⟨_, rfl⟩
          rw [← hT2, ← hm4]
          refine ih (i + 1) (a' + 1) f f' T2 m4 (by omega) (by omega) (by omega) (by omega) (tx1.upd (by rw [hT2, u_o (by omega), u_j (by omega)]) (by rw [hT2, u_o (by omega), u_o (by omega)]) (by rw [hm4, u_j (by omega)]) (by rw [hm4, u_o (by omega)])) (by rw [hT2, u_o (by omega), u_i]) (by rw [hm4, u_i]) (by omega) (by omega)
            (fun k k0 k2 => by rw [hT2, u_o k2, u_o k0]; exact t1' k k0 k2) (fun j hj => by rw [hT2, u_o (by omega), u_j hj]; exact t2' j hj) (fun k k0 k9 => by rw [hm4, u_o k0]; exact m1' k k0 k9) (fun j hj => by rw [hm4, u_j hj]; exact m2' j hj) (fun k hk => ?_)
          by_cases e : k = i
          · rw [e, hT2, u_i, hm4, u_o (by omega), hm3, u_i]
          · rw [hT2, u_j e, u_o (by omega), hT1, u_o (by omega), hm4, u_o (by omega), hm3, u_j e, u_o (by omega)]
            exact hnum k (by omega)
        · obtain ⟨f', rfl⟩ : ∃ q, f' = q + 1 := ⟨f' - 1, by omega⟩
          obtain ⟨m', g1, g2, g3⟩ := m_bad (m := z_u m3 0 14 (nI (a' + 1))) (W := W) (f := f') (i := nI (i + 1 + 1))
          rw [c2 q, cl 0 T1 (by rw [x_sign tx1 T13 n4 44 (by omega), if_neg q]), if_pos rfl]
          exact ⟨0, T1, m', rfl, g1, t1', t2', fun k k0 k9 => by rw [g2 k k0 k9, u_o k0]; exact m1' k k0 k9, fun j hj => by rw [g3 j hj, u_j hj]; exact m2' j hj, Or.inl rfl⟩
end ORDER
