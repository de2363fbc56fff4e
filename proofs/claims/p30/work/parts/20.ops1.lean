/-! THE PURE PART. 8: changes of the town, one by one -/
theorem p_tbT {P : Prop} {O : Type} {A B : Option O} (h : P) : (if tb P = (0 : Int32) then A else B) = B := by rw [tb_t h]; exact if_neg (by decide)
theorem p_tbF {P : Prop} {O : Type} {A B : Option O} (h : ¬ P) : (if tb P = (0 : Int32) then A else B) = A := by rw [tb_f h]; exact if_pos (by decide)
theorem p_idx {p : Int32} {nh : Nat} (h : nh ≤ 1000) : (0 ≤ p ∧ p ≤ nI nh - 1) ↔ ∃ k, k < nh ∧ p = nI k := by
  constructor
  · rintro ⟨h1, h2⟩
    obtain ⟨j, hj, rfl⟩ := nI_of (x := p) (Int32.not_lt.mpr h1)
    refine ⟨j, ?_, rfl⟩
    cases nh with
    | zero =>
      have h3 : nI 0 - 1 = -1 := by decide
      rw [h3] at h2
      have := Int32.le_iff_toInt_le.mp h2
      rw [nI_toInt hj] at this
      have h4 : (-1 : Int32).toInt = -1 := by decide
      omega
    | succ nh =>
      rw [show nI (nh + 1) - 1 = nI nh from nI_pred nh, nI_leI hj (by omega)] at h2
      omega
  · rintro ⟨k, hk, rfl⟩
    refine ⟨nI_pos' (by omega), ?_⟩
    obtain ⟨d, rfl⟩ : ∃ d, nh = d + 1 := ⟨nh - 1, by omega⟩
    rw [show nI (d + 1) - 1 = nI d from nI_pred d, nI_leI (by omega) (by omega)]
    omega
theorem w_tb (v lo hi : Int32) (σ : z_S) : f_X9_within v lo hi σ = some (tb (lo ≤ v ∧ v ≤ hi)) := by
  rw [x_within]
  by_cases h : lo ≤ v ∧ v ≤ hi
  · rw [if_pos h, tb_t h]; rfl
  · rw [if_neg h, tb_f h]; rfl
theorem m_tb (v lo hi : Int32) (σ : z_S) : f_X10_in v lo hi σ = some (tb (lo ≤ v ∧ v ≤ hi)) := w_tb v lo hi σ
/-- a number of a list of N -/
def iX (p : Int32) (N : Nat) : Prop := ∃ k, k < N ∧ p = nI k
theorem x_hasH {p : Int32} {T : z_S} {nh : Nat} (h : T 11 0 = nI nh) (hb : nh ≤ 24) : f_X2_has p T = some (tb (iX p nh)) := by
  unfold f_X2_has
  rw [h, w_tb, p_b1, tb_z, tb_iff (p_idx (by omega))]; rfl
theorem x_hasC {p : Int32} {T : z_S} {nc : Nat} (h : T 2 0 = nI nc) (hb : nc ≤ 20) : f_X4_has p T = some (tb (iX p nc)) := by
  unfold f_X4_has
  rw [h, w_tb, p_b1, tb_z, tb_iff (p_idx (by omega))]; rfl
theorem x_hasK {p : Int32} {T : z_S} {nk : Nat} (h : T 30 0 = nI nk) (hb : nk ≤ 3) : f_X0_has p T = some (tb (iX p nk)) := by
  unfold f_X0_has
  rw [h, w_tb, p_b1, tb_z, tb_iff (p_idx (by omega))]; rfl
theorem c_0 : (0 : Int32).toNatClampNeg = 0 := rfl
theorem c_1 : (1 : Int32).toNatClampNeg = 1 := rfl
theorem c_2 : (2 : Int32).toNatClampNeg = 2 := rfl
theorem c_3 : (3 : Int32).toNatClampNeg = 3 := rfl
theorem c_4 : (4 : Int32).toNatClampNeg = 4 := rfl
theorem k_0 {O : Type} {X : Option O} : z_cki (0 : Int32) 537 X = X := rfl
theorem k_1 {O : Type} {X : Option O} : z_cki (1 : Int32) 537 X = X := rfl
theorem k_2 {O : Type} {X : Option O} : z_cki (2 : Int32) 537 X = X := rfl
theorem k_3 {O : Type} {X : Option O} : z_cki (3 : Int32) 537 X = X := rfl
theorem k_4 {O : Type} {X : Option O} : z_cki (4 : Int32) 537 X = X := rfl
theorem m_isHouse {p : Int32} {m : z_S} {nh : Nat} (h : m 1 1 = nI nh) (hb : nh ≤ 24) : f_X10_isHouse p m = some (tb (iX p nh)) := by
  unfold f_X10_isHouse
  rw [k_1, c_1, h, m_tb, p_b1, tb_z, tb_iff (p_idx (by omega))]; rfl
theorem m_isCorner {p : Int32} {m : z_S} {nc : Nat} (h : m 1 0 = nI nc) (hb : nc ≤ 20) : f_X10_isCorner p m = some (tb (iX p nc)) := by
  unfold f_X10_isCorner
  rw [k_0, c_0, h, m_tb, p_b1, tb_z, tb_iff (p_idx (by omega))]; rfl
theorem m_isCarrier {p : Int32} {m : z_S} {nk : Nat} (h : m 1 2 = nI nk) (hb : nk ≤ 3) : f_X10_isCarrier p m = some (tb (iX p nk)) := by
  unfold f_X10_isCarrier
  rw [k_2, c_2, h, m_tb, p_b1, tb_z, tb_iff (p_idx (by omega))]; rfl
theorem m_lays {a b : Nat} {v : Int32} {σ : z_S} (h : 90 + 14 * a + b < 537) : f_X10_lays (nI a) (nI b) v σ = some (z_u σ 1 (90 + 14 * a + b) v) := by
  unfold f_X10_lays
  simp (disch := omega) only [zl_90, zl_14, pk_mul, nI_add, p_cki, p_cl, p_let]
theorem m_addsC {a b : Nat} {v : Int32} {σ : z_S} (h : 426 + 7 * a + b < 537) : f_X10_addsCarrier (nI a) (nI b) v σ = some (z_u σ 1 (426 + 7 * a + b) (σ 1 (426 + 7 * a + b) + v)) := by
  unfold f_X10_addsCarrier
  simp (disch := omega) only [zl_426, zl_7, pk_mul, nI_add, p_cki, p_cl, p_let]
/-- what a call on the model's town leaves as it was -/
def frM (m m' : z_S) : Prop := m' 2 = m 2 ∧ m' 3 = m 3 ∧ m' 5 = m 5 ∧ m' 0 2 = m 0 2 ∧ m' 0 6 = m 0 6 ∧ m' 4 = m 4 ∧ ∀ j, 13 ≤ j → m' 0 j = m 0 j
theorem frM.rf {m : z_S} : frM m m := ⟨rfl, rfl, rfl, rfl, rfl, rfl, fun _ _ => rfl⟩
theorem frM.u {m : z_S} {i : Nat} {v : Int32} : frM m (z_u m 1 i v) := ⟨u_o (by omega), u_o (by omega), u_o (by omega), by rw [u_o (by omega)], by rw [u_o (by omega)], u_o (by omega), fun _ _ => by rw [u_o (by omega)]⟩
theorem frM.trans {m m' m'' : z_S} (h : frM m m') (h2 : frM m' m'') : frM m m'' := ⟨h2.1.trans h.1, h2.2.1.trans h.2.1, h2.2.2.1.trans h.2.2.1, h2.2.2.2.1.trans h.2.2.2.1, h2.2.2.2.2.1.trans h.2.2.2.2.1, h2.2.2.2.2.2.1.trans h.2.2.2.2.2.1, fun j hj => (h2.2.2.2.2.2.2 j hj).trans (h.2.2.2.2.2.2 j hj)⟩
/-- class and model do the same to their towns -/
def sameT (g g2 : z_S → Option (Int32 × z_S)) : Prop := ∀ T m : z_S, RTx T (m 1) → ∃ r T' m', g T = some (r, T') ∧ g2 m = some (r, m') ∧ RTx T' (m' 1) ∧ frM m m'
theorem op1_RX {x m : z_S} (hR : RX x m) {g g2 : z_S → Option (Int32 × z_S)} (hs : sameT g g2) :
    ∃ r x' m', (z_b1 (f_X1_prepare (fun k => x (zi_X_H k))) fun s2 => z_let (z_m x (zk_X_H) 230 s2) fun s3 => z_b2 (g (fun k => s3 (zi_X_T k))) fun r' s5 => z_let (z_m s3 (zk_X_T) 38 s5) fun s7 => z_b2 (f_X9_settled r' s7) fun a b => some (a, b)) = some (r, x') ∧
      (z_b1 (f_X10_notes m) fun s2 => z_b2 (g2 s2) fun r5 s4 => z_b2 (f_X10_ends r5 s4) fun r8 s7 => some (r8, s7)) = some (r, m') ∧ RX x' m' := by
  obtain ⟨m1, n1, n2, n3⟩ := m_notes' m
  have hR0 := hR
  obtain ⟨hT, ⟨kp, o, hh⟩, hw, L, ht⟩ := hR
  obtain ⟨r, T', m2, e1, e2, e3, f2, f3, f5, f02, f06, -⟩ := hs (fun k => x (zi_X_T k)) m1 (by rw [n2 1 (by omega)]; exact hT)
  rw [n1, p_b1, e2, p_b2]
  by_cases hr : r < 0
  · obtain ⟨x', a, b⟩ := op_RX (r := r) hR0 e1 (m'' := m2) e3 (by rw [f06, n2 0 (by omega)]) (by rw [f5, n2 5 (by omega)]) (fun _ => ⟨by rw [f2, n2 2 (by omega)], by rw [f02, n2 0 (by omega)]⟩) (fun h => absurd hr h)
    rw [m_ends_n hr, p_b2]
    exact ⟨r, x', m2, a, rfl, b⟩
  · obtain ⟨m3, g1, g2⟩ := m_ends (m := m2) (n := m 1) (r := r) (kp := kp) hr hh.1 (by rw [f02, n2 0 (by omega)]; exact hh.2.2.2.2.1) (fun j hj => by rw [f3]; exact n3 j hj)
    have hp := g2
    obtain ⟨q1, q2, -⟩ := g2
    obtain ⟨x', a, b⟩ := op_RX (r := r) hR0 e1 (m'' := m3) (by rw [q1 1 (by omega) (by omega)]; exact e3) (by rw [q2 6 (by omega), f06, n2 0 (by omega)]) (by rw [q1 5 (by omega) (by omega), f5, n2 5 (by omega)]) (fun h => absurd h hr) (fun _ => ⟨m2, by rw [f2, n2 2 (by omega)], fun kp' h1 h2 => by
      have h3 : kp' = kp := (nI_eq (by omega) (by have := hh.1; omega)).mp (h1.symm.trans hh.2.2.2.2.1)
      rw [h3]; exact hp⟩)
    rw [g1, p_b2]
    exact ⟨r, x', m3, a, rfl, b⟩
/-- an error that comes before anything is noted -/
theorem op0_RX {x m : z_S} (hR : RX x m) {g : z_S → Option (Int32 × z_S)} {r : Int32} (hr : r < 0) (hg : g (fun k => x (zi_X_T k)) = some (r, fun k => x (zi_X_T k))) :
    ∃ x', (z_b1 (f_X1_prepare (fun k => x (zi_X_H k))) fun s2 => z_let (z_m x (zk_X_H) 230 s2) fun s3 => z_b2 (g (fun k => s3 (zi_X_T k))) fun r' s5 => z_let (z_m s3 (zk_X_T) 38 s5) fun s7 => z_b2 (f_X9_settled r' s7) fun a b => some (a, b)) = some (r, x') ∧ RX x' m :=
  op_RX hR hg hR.1 rfl rfl (fun _ => ⟨rfl, rfl⟩) (fun h => absurd hr h)
/-- a change that the model notes behind its own checks: m1 as noted, m2 changed -/
theorem op2_RX {x m m1 m2 : z_S} (hR : RX x m) {g : z_S → Option (Int32 × z_S)} {r : Int32} {T' : z_S} (hg : g (fun k => x (zi_X_T k)) = some (r, T')) (h1 : ∀ a, a ≠ 3 → m1 a = m a) (hn : mNo m1 (m 1)) (hf : frM m1 m2) (hT : RTx T' (m2 1)) :
    ∃ x' m', (z_b1 (f_X1_prepare (fun k => x (zi_X_H k))) fun s2 => z_let (z_m x (zk_X_H) 230 s2) fun s3 => z_b2 (g (fun k => s3 (zi_X_T k))) fun r' s5 => z_let (z_m s3 (zk_X_T) 38 s5) fun s7 => z_b2 (f_X9_settled r' s7) fun a b => some (a, b)) = some (r, x') ∧
      (z_b2 (f_X10_ends r m2) fun r8 s7 => some (r8, s7)) = some (r, m') ∧ RX x' m' := by
  obtain ⟨f2, f3, f5, f02, f06, -⟩ := hf
  obtain ⟨kp, o, hh⟩ := hR.2.1
  by_cases hr : r < 0
  · obtain ⟨x', a, b⟩ := op_RX (r := r) hR hg (m'' := m2) hT (by rw [f06, h1 0 (by omega)]) (by rw [f5, h1 5 (by omega)]) (fun _ => ⟨by rw [f2, h1 2 (by omega)], by rw [f02, h1 0 (by omega)]⟩) (fun h => absurd hr h)
    rw [m_ends_n hr, p_b2]
    exact ⟨x', m2, a, rfl, b⟩
  · obtain ⟨m3, g1, g2⟩ := m_ends (m := m2) (n := m 1) (r := r) (kp := kp) hr hh.1 (by rw [f02, h1 0 (by omega)]; exact hh.2.2.2.2.1) (fun j hj => by rw [f3]; exact hn j hj)
    have hp := g2
    obtain ⟨q1, q2, -⟩ := g2
    obtain ⟨x', a, b⟩ := op_RX (r := r) hR hg (m'' := m3) (by rw [q1 1 (by omega) (by omega)]; exact hT) (by rw [q2 6 (by omega), f06, h1 0 (by omega)]) (by rw [q1 5 (by omega) (by omega), f5, h1 5 (by omega)]) (fun h => absurd h hr) (fun _ => ⟨m2, by rw [f2, h1 2 (by omega)], fun kp' w1 w2 => by
      have h3 : kp' = kp := (nI_eq (by omega) (by have := hh.1; omega)).mp (w1.symm.trans hh.2.2.2.2.1)
      rw [h3]; exact hp⟩)
    rw [g1, p_b2]
    exact ⟨x', m3, a, rfl, b⟩
