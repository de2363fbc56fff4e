/-! THE PURE PART. 14: undo; characters -/
theorem zkG_row {r i : Nat} (h : 2 + 38 * r ≤ i ∧ i < 40 + 38 * r) : zkG r i = i - (2 + 38 * r) + 38 := if_pos h
theorem zkG_main {r i : Nat} (h : ¬ (2 + 38 * r ≤ i ∧ i < 40 + 38 * r)) (h2 : 192 ≤ i ∧ i < 230) : zkG r i = i - 192 := by
  unfold zkG
  rw [if_neg h, if_pos h2]
theorem zkG_out {r i : Nat} (h : ¬ (2 + 38 * r ≤ i ∧ i < 40 + 38 * r)) (h2 : ¬ (192 ≤ i ∧ i < 230)) : zkG r i = 76 := by
  unfold zkG
  rw [if_neg h, if_neg h2]
theorem x_restore {x : z_S} {n : Nat → Int32} {nc nh nk np dy j o : Nat} {ah pl : Nat → Nat} (hj : j < 4) (ho : o < 5) (hT : RT (fun q => x (2 + 38 * ((o + j) % 5) + q)) n nc nh nk np dy ah pl) (h0 : x 0 0 = nI (j + 1)) (h1 : x 0 1 = nI o) :
    ∃ s : z_S, f_X1_restoreInto (fun k => x (zi_X_H k)) = some s ∧ (∀ a, a ≠ 0 → ¬ (192 ≤ a ∧ a < 230) → z_m x zk_X_H 230 s a = x a) ∧ z_m x zk_X_H 230 s 0 0 = nI j ∧ z_m x zk_X_H 230 s 0 1 = nI o ∧ eqT (fun q => x (2 + 38 * ((o + j) % 5) + q)) (fun q => z_m x zk_X_H 230 s (zi_X_T q)) nc nh nk np := by
  obtain ⟨a, b, -, d, e, -⟩ := hT
  obtain ⟨r, hr⟩ : ∃ r, r = (o + j) % 5 := ⟨_, rfl⟩
  have hr5 : r < 5 := by omega
  rw [← hr] at a b d e ⊢
  obtain ⟨s1, hs1⟩ : ∃ s, s = z_u x 0 0 (nI j) := ⟨_, rfl⟩
  have o1 : ∀ q, q ≠ 0 → s1 q = x q := fun q hq => by rw [hs1, u_o hq]
  have zr : ∀ q, ziG r (q + 38) = 2 + 38 * r + q := fun q => by
    unfold ziG
    rw [if_neg (by omega), Nat.add_sub_cancel]
  have zm : ∀ q, q < 38 → ziG r q = q + 192 := fun q hq => by
    unfold ziG
    rw [if_pos hq]
  have sr : ∀ q, s1 (ziG r (q + 38)) = x (2 + 38 * r + q) := fun q => by rw [zr, o1 _ (by omega)]
  obtain ⟨t, f, ht, he⟩ := x_copyFrom (σ := fun k => s1 (ziG r k)) a.1.2.2.1 b.1.2.1 d.2.1 e.2.1 (by show s1 (ziG r (2 + 38)) 0 = _; rw [sr]; exact a.2.1) (by show s1 (ziG r (11 + 38)) 0 = _; rw [sr]; exact b.2.1) (by show s1 (ziG r (26 + 38)) 0 = _; rw [sr]; exact e.2.2.1) (by show s1 (ziG r (30 + 38)) 0 = _; rw [sr]; exact d.2.2.1)
  have hv : (fun k => x (zi_X_H k)) = x := rfl
  have v0 : s1 0 0 = nI j := by rw [hs1, u_i]
  have v1 : s1 0 1 = nI o := by rw [hs1, u_j (by omega), h1]
  have in0 : z_m x zk_X_H 230 (z_m s1 (zkG r) 76 t) 0 = s1 0 := by
    rw [z_m_in (κ := zk_X_H) (i := 0) (k := 0) rfl (by omega)]
    exact z_m_out (by rw [zkG_out (by omega) (by omega)]; exact Nat.le_refl _)
  refine ⟨z_m s1 (zkG r) 76 t, ?_, fun q hq hq2 => ?_, by rw [in0]; exact v0, by rw [in0]; exact v1, ?_⟩
  · rw [hv]
    unfold f_X1_restoreInto
    rw [h0, if_neg (nI_nle (by omega) (by omega)), p_let, zl_1, p_s1, ← hs1, p_let, p_let, v0, v1, nI_add, p_rem5 (by omega), ← hr, p_cki (by omega) (by omega), p_cl (by omega), f, p_b1]
  · by_cases h230 : q < 230
    · rw [z_m_in (κ := zk_X_H) (i := q) (k := q) rfl h230]
      by_cases hrow : 2 + 38 * r ≤ q ∧ q < 40 + 38 * r
      · rw [z_m_in (κ := zkG r) (zkG_row hrow) (by omega), ht _ (by omega)]
        show s1 (ziG r (q - (2 + 38 * r) + 38)) = x q
        rw [sr]
        congr 1
        omega
      · rw [z_m_out (by rw [zkG_out hrow hq2]; exact Nat.le_refl _), o1 q hq]
    · exact z_m_out (by show 230 ≤ q; omega)
  · refine eqT.trans (T' := t) ?_ (eqT.c fun q hq => ?_)
    · have e1 : (fun q => (fun k => s1 (ziG r k)) (q + 38)) = fun q => x (2 + 38 * r + q) := by
        funext q
        exact sr q
      rw [← e1]
      exact he
    · show z_m x zk_X_H 230 _ (q + 192) = t q
      rw [z_m_in (κ := zk_X_H) (i := q + 192) (k := q + 192) rfl (by omega), z_m_in (κ := zkG r) (zkG_main (by omega) (by omega)) (by omega), Nat.add_sub_cancel]
theorem ff_undo {x m : z_S} (hR : RX x m) : ∃ r x' m', f_X9_undo x = some (r, x') ∧ f_X10_undo m = some (r, m') ∧ RX x' m' := by
  have hR0 := hR
  obtain ⟨hT, ⟨kp, o, hkp, ho, h0, h1, hm, hrows⟩, hw, L, ht⟩ := hR
  unfold f_X9_undo f_X10_undo
  by_cases hz : kp = 0
  · rw [h0, hm, hz, if_pos (by decide), if_pos (by decide)]
    exact ⟨_, _, _, rfl, rfl, hR0⟩
  · obtain ⟨j, rfl⟩ : ∃ j, kp = j + 1 := ⟨kp - 1, by omega⟩
    obtain ⟨nc, nh, nk, np, dy, ah, pl, hj⟩ := hrows j (by omega)
    obtain ⟨s, f, o1, v0, v1, he⟩ := x_restore (j := j) (o := o) (by omega) ho hj h0 h1
    rw [h0, hm, if_neg (nI_ne0 (by omega) (by omega)), if_neg (nI_ne0 (by omega) (by omega)), f, p_b1, p_let, p_let, zl_1, p_s1]
    rw [m_copies2 (x := z_u m 0 2 (nI j) 0 2 * 537) (y := 0) (n0 := 2148) (n1 := 537) (a := 2) (b := 1) (p := 537 * j) (q := 0) (by rw [u_i, zl_537, pk_mul, Nat.mul_comm]) rfl (by omega) (by omega) (by omega) (by omega) (by omega)]
    rw [v0]
    simp only [if_neg (show ¬ (0 : Nat) = 1 by omega), u_i]
    refine ⟨_, _, _, rfl, rfl, ?_, ⟨j, o, by omega, ho, v0, v1, ?_, fun i hi => ?_⟩, ?_, L, ?_⟩
    · refine RTx.nn (n := fun i => m 2 (537 * j + i)) ⟨nc, nh, nk, np, dy, ah, pl, hj.eqT he⟩ (fun i hi => ?_)
      simp only [if_true]
      rw [va_cpy_in (by omega) (by omega), u_o (by omega), Nat.sub_zero]
    · simp only [if_neg (show ¬ (0 : Nat) = 1 by omega), u_i]
    · refine (RTx.c (hrows i (by omega)) (fun q hq => ?_)).nn (fun q hq => ?_)
      · show z_m x zk_X_H 230 s (2 + 38 * ((o + i) % 5) + q) = x (2 + 38 * ((o + i) % 5) + q)
        exact o1 _ (by omega) (by omega)
      · simp only [if_neg (show ¬ (2 : Nat) = 1 by omega)]
        rw [u_o (by omega)]
    · exact ⟨fun k hk => by rw [o1 232 (by omega) (by omega)]; exact hw.1 k hk, by rw [o1 231 (by omega) (by omega)]; exact hw.2⟩
    · refine ⟨ht.1, by rw [o1 233 (by omega) (by omega)]; exact ht.2.1, ?_, fun k hk => ?_⟩
      · simp only [if_neg (show ¬ (0 : Nat) = 1 by omega)]
        rw [u_j (by omega)]; exact ht.2.2.1
      · rw [o1 234 (by omega) (by omega)]
        simp only [if_neg (show ¬ (5 : Nat) = 1 by omega)]
        rw [u_o (by omega)]; exact ht.2.2.2 k hk
theorem p_char {c : Nat} (h : c < 65536) : ((nI c).toUInt32 % 65536).toInt32 = nI c := by
  rw [pk_char, pk_tn (by omega), Nat.mod_eq_of_lt h]
theorem p_nar {c : Nat} (h : c < 65536) : vp_nar .char (nI c) = nI c := by
  unfold vp_nar
  rw [(pk_charN h).1]
theorem ff_type {x m : z_S} (hR : RX x m) (a : Int32) : ∃ r x' m', f_X9_type a x = some (r, x') ∧ f_X10_type a m = some (r, m') ∧ RX x' m' := by
  have hR0 := hR
  obtain ⟨hT, ⟨kp, o, hh⟩, hw, L, hL, l1, l2, l3⟩ := hR
  unfold f_X9_type f_X10_type
  rw [w_tb, m_tb, p_b1, p_b1]
  by_cases ha : 32 ≤ a ∧ a ≤ 126
  · rw [p_tbT ha, p_tbT ha, l2]
    obtain ⟨c, hc, rfl⟩ := p_rng (p := a) (H := 126) (hi := 126) rfl (by omega) (by exact Int32.le_trans (by decide) ha.1) ha.2
    have hc1 : 32 ≤ c := (nI_leI (a := 32) (by omega) (by omega)).mp ha.1
    obtain ⟨W, hW⟩ : ∃ W, W = fun k => x (zi_X_X0 k) := ⟨_, rfl⟩
    have l1' : W 0 0 = nI L := by rw [hW]; exact l1
    rw [p_char (by omega), ← hW]
    unfold f_X5_append
    by_cases h60 : L = 60
    · rw [l1', h60, if_neg (by decide), if_pos (by decide), p_b2, p_let]
      refine ⟨_, _, _, rfl, rfl, ?_⟩
      have e : z_m x zk_X_X0 3 W = x := by
        rw [hW]
        funext i
        by_cases hi : zk_X_X0 i < 3
        · rw [z_m_in rfl hi]
          show x (zk_X_X0 i + 233) = x i
          have h2 : ¬ i < 233 := fun q => by
            have : zk_X_X0 i = 3 := if_pos q
            omega
          have h3 : zk_X_X0 i = i - 233 := if_neg h2
          rw [h3, show i - 233 + 233 = i by omega]
        · exact z_m_out (by omega)
      rw [e]; exact hR0
    · have hlt : L < 60 := by omega
      rw [l1', if_pos (show nI L < 60 from nI_lt (b := 60) hlt (by omega)), if_neg (show ¬ nI L = 60 from nI_ne (b := 60) (by omega) (by omega) h60), p_cki hlt (by omega), p_cki hlt (by omega), p_let, p_let, p_let, p_let, p_cl (by omega), p_nar (by omega)]
      rw [u_o (show 0 ≠ 1 by omega), l1', u_o (show 0 ≠ 5 by omega), l2, nI_1, p_b2, p_let, u_i, u_i]
      obtain ⟨s, hs⟩ : ∃ s, s = z_u (z_u W 1 L (nI c)) 0 0 (nI (L + 1)) := ⟨_, rfl⟩
      rw [← hs]
      have zlo : ∀ i, i < 233 → z_m x zk_X_X0 3 s i = x i := fun i hi => z_m_out (by
        have : zk_X_X0 i = 3 := if_pos hi
        omega)
      have zin : ∀ i, i < 3 → z_m x zk_X_X0 3 s (i + 233) = s i := fun i hi => z_m_in (by
        have : zk_X_X0 (i + 233) = i + 233 - 233 := if_neg (by omega)
        omega) hi
      have z233 : z_m x zk_X_X0 3 s 233 = s 0 := zin 0 (by omega)
      have z234 : z_m x zk_X_X0 3 s 234 = s 1 := zin 1 (by omega)
      refine ⟨_, _, _, rfl, rfl, hT.c (fun q hq => zlo _ (by show q + 192 < 233; omega)) |>.nn (fun j hj => by rw [u_o (by omega), u_o (by omega)]), ⟨kp, o, ?_⟩, ⟨fun k hk => by rw [zlo 232 (by omega)]; exact hw.1 k hk, by rw [zlo 231 (by omega)]; exact hw.2⟩, L + 1, by omega, ?_, u_i, fun k hk => ?_⟩
      · obtain ⟨a1, a2, a3, a4, a5, a6⟩ := hh
        refine ⟨a1, a2, by rw [zlo 0 (by omega)]; exact a3, by rw [zlo 0 (by omega)]; exact a4, by rw [u_j (by omega), u_o (by omega)]; exact a5, fun i hi => (RTx.c (a6 i hi) (fun q hq => zlo _ (by omega))).nn (fun j hj => by rw [u_o (by omega), u_o (by omega)])⟩
      · rw [z233, hs, u_i]
      · rw [z234, hs]
        by_cases hkL : k = L
        · subst hkL
          exact ⟨c, hc1, hc, by rw [u_o (by omega), u_i], by rw [u_o (by omega), u_i]⟩
        · obtain ⟨c', b1, b2, b3, b4⟩ := l3 k (by omega)
          exact ⟨c', b1, b2, by rw [u_o (by omega), u_j hkL, hW]; exact b3, by rw [u_o (by omega), u_j hkL]; exact b4⟩
  · rw [p_tbF ha, p_tbF ha]
    exact ⟨_, _, _, rfl, rfl, hR0⟩
