/-! p30, THE PURE PART. 3: changes, errors, and what undo gives back -/
/-- a change came to the history -/
def PU (m m' : z_S) : Prop := ∃ kp, m 0 2 = nI kp ∧ kp ≤ 4 ∧ ((kp < 4 ∧ m' 0 2 = nI (kp + 1) ∧ ∀ j, j < 537 → m' 2 (537 * kp + j) = m 1 j) ∨ (kp = 4 ∧ m' 0 2 = nI 4 ∧ ∀ j, j < 537 → m' 2 (537 * 3 + j) = m 1 j))
def RES (m : z_S) (r : Int32) (x' : z_S) (N : Int32 → (Nat → Int32) → Prop) : Prop := (r < 0 ∧ r ≠ -9 ∧ RX x' m) ∨ (¬ r < 0 ∧ ∃ m', RX x' m' ∧ PU m m' ∧ N r (m' 1))
theorem PU.of {m m2 m3 : z_S} {kp : Nat} (h0 : m 0 2 = nI kp) (hk : kp ≤ 4) (hp : mPu m2 m3 kp (m 1)) : PU m m3 := by
  obtain ⟨-, -, hp⟩ := hp
  refine ⟨kp, h0, hk, ?_⟩
  rcases hp with ⟨a, b, -, d⟩ | ⟨a, b, -, d⟩
  · exact Or.inl ⟨a, b, d⟩
  · exact Or.inr ⟨a, b, d⟩
theorem RX.kp {x m : z_S} (hR : RX x m) : ∃ kp, kp ≤ 4 ∧ m 0 2 = nI kp := by
  obtain ⟨-, ⟨kp, o, h⟩, -⟩ := hR
  exact ⟨kp, h.1, h.2.2.2.2.1⟩
theorem RES.imp {m x' : z_S} {r : Int32} {N N' : Int32 → (Nat → Int32) → Prop} (h : RES m r x' N) (hi : ∀ n, N r n → N' r n) : RES m r x' N' := by
  rcases h with h | ⟨h, m', a, b, c⟩
  · exact Or.inl h
  · exact Or.inr ⟨h, m', a, b, hi _ c⟩
theorem o_undo {m x' m' : z_S} (hR : RX x' m') (hp : PU m m') : ∃ r x'' m'', f_X9_undo x' = some (nI r, x'') ∧ RX x'' m'' ∧ m'' 1 = m 1 ∧ m'' 0 2 = nI r ∧ r < 4 ∧ ∀ kp, m 0 2 = nI kp → kp ≤ 4 → r = if kp < 4 then kp else 3 := by
  obtain ⟨r, x'', m'', e1, e2, hR''⟩ := ff_undo hR
  obtain ⟨kp, h0, hk, hp⟩ := hp
  obtain ⟨j, hj, hm2, hrow, hjk⟩ : ∃ j, j < 4 ∧ m' 0 2 = nI (j + 1) ∧ (∀ i, i < 537 → m' 2 (537 * j + i) = m 1 i) ∧ j = if kp < 4 then kp else 3 := by
    rcases hp with ⟨a, b, c⟩ | ⟨a, b, c⟩
    · exact ⟨kp, a, b, c, by rw [if_pos a]⟩
    · exact ⟨3, by omega, b, c, by rw [if_neg (by omega)]⟩
  unfold f_X10_undo at e2
  rw [hm2, if_neg (nI_ne0 (by omega) (by omega)), p_let, zl_1, p_s1, m_copies2 (x := z_u m' 0 2 (nI j) 0 2 * 537) (y := 0) (n0 := 2148) (n1 := 537) (a := 2) (b := 1) (p := 537 * j) (q := 0) (by rw [u_i, zl_537, pk_mul, Nat.mul_comm]) rfl (by omega) (by omega) (by omega) (by omega) (by omega)] at e2
  obtain ⟨h1, h2⟩ := z_prE e2
  have hr : r = nI j := by
    rw [← h1]
    simp only [if_neg (show ¬ (0 : Nat) = 1 by omega), u_i]
  have h1j : ∀ i, i < 537 → m'' 1 i = m 1 i := by
    intro i hi
    rw [← h2]
    simp only [if_true]
    rw [va_cpy_in (by omega) (by omega), u_o (by omega), Nat.sub_zero]
    exact hrow i hi
  obtain ⟨m3, em3⟩ : ∃ s : z_S, s = fun a => if a = 1 then m 1 else m'' a := ⟨_, rfl⟩
  have o3 : ∀ a, a ≠ 1 → m3 a = m'' a := fun a ha => by rw [em3]; exact if_neg ha
  have i3 : m3 1 = m 1 := by rw [em3]; exact if_pos rfl
  refine ⟨j, x'', m3, by rw [e1, hr], hR''.m5 (fun i hi => by rw [i3]; exact (h1j i hi).symm) (o3 2 (by omega)) (o3 5 (by omega)) (by rw [o3 0 (by omega)]) (by rw [o3 0 (by omega)]), i3, ?_, hj, fun kp' h5 h6 => ?_⟩
  · rw [o3 0 (by omega), ← h2]
    simp only [if_neg (show ¬ (0 : Nat) = 1 by omega), u_i]
  · have : kp' = kp := (nI_eq (by omega) (by omega)).mp (h5.symm.trans h0)
    rw [this]
    exact hjk
theorem o_end {x m m1 m2 m' : z_S} {v r : Int32} (hR : RX x m) (hv : ¬ v < 0) (h1 : ∀ a, a ≠ 3 → m1 a = m a) (hn : mNo m1 (m 1)) (hf : frM m1 m2) (e : (z_b2 (f_X10_ends v m2) fun r8 s7 => some (r8, s7)) = some (r, m')) : r = v ∧ m' 1 = m2 1 ∧ PU m m' := by
  obtain ⟨f2, f3, f5, f02, f06, -⟩ := hf
  obtain ⟨kp, hk, h0⟩ := hR.kp
  obtain ⟨m3, g1, g2⟩ := m_ends (m := m2) (n := m 1) (r := v) (kp := kp) hv hk (by rw [f02, h1 0 (by omega)]; exact h0) (fun j hj => by rw [f3]; exact hn j hj)
  rw [g1, p_b2] at e
  obtain ⟨rfl, rfl⟩ := z_prE e
  exact ⟨rfl, g2.1 1 (by omega) (by omega), PU.of h0 hk g2⟩
theorem o_pos {x m m' : z_S} {g2 : z_S → Option (Int32 × z_S)} {r v : Int32} {N : Nat → Int32} (hR : RX x m) (e : (z_b1 (f_X10_notes m) fun s2 => z_b2 (g2 s2) fun r5 s4 => z_b2 (f_X10_ends r5 s4) fun r8 s7 => some (r8, s7)) = some (r, m')) (hv : ¬ v < 0) (hg : ∀ m1 : z_S, m1 1 = m 1 → ∃ m2, g2 m1 = some (v, m2) ∧ frM m1 m2 ∧ m2 1 = N) : r = v ∧ m' 1 = N ∧ PU m m' := by
  obtain ⟨m1, n1, n2, n3⟩ := m_notes' m
  obtain ⟨m2, g, hf, hN⟩ := hg m1 (n2 1 (by omega))
  rw [n1, p_b1, g, p_b2] at e
  obtain ⟨a, b, c⟩ := o_end hR hv n2 n3 hf e
  exact ⟨a, b.trans hN, c⟩
theorem r_err {x m : z_S} (hR : RX x m) {N : Int32 → (Nat → Int32) → Prop} {g : z_S → Option (Int32 × z_S)} {z : Int32} (hz : z < 0) (h9 : z ≠ -9) (hg : g (fun k => x (zi_X_T k)) = some (z, fun k => x (zi_X_T k))) :
    ∃ r x', (z_b1 (f_X1_prepare (fun k => x (zi_X_H k))) fun s2 => z_let (z_m x (zk_X_H) 230 s2) fun s3 => z_b2 (g (fun k => s3 (zi_X_T k))) fun r' s5 => z_let (z_m s3 (zk_X_T) 38 s5) fun s7 => z_b2 (f_X9_settled r' s7) fun a b => some (a, b)) = some (r, x') ∧ RES m r x' N := by
  obtain ⟨x', a, b⟩ := op0_RX hR hz hg
  exact ⟨z, x', a, Or.inl ⟨hz, h9, b⟩⟩
section OPS
variable {x m : z_S} {nc nh nk np dy : Nat} {ah pl : Nat → Nat}
/-! errors -/
theorem tq_corner (X : XT x m nc nh nk np dy ah pl) {a b c d : Int32} (hn : ¬ (iX a nc ∧ (1 ≤ b ∧ b ≤ 50) ∧ (0 ≤ c ∧ c ≤ 100) ∧ (0 ≤ d ∧ d ≤ 1))) : f_X6_addCorner a b c d (fun k => x (zi_X_T k)) = some (-1, fun k => x (zi_X_T k)) := by
  obtain ⟨hR, hC, hH, hO, hK, hP, hS, hA, z1, z2⟩ := X
  unfold f_X6_addCorner
  rw [x_hasC hC.2.1 hC.1.2.2.1, p_b1]
  by_cases c1 : iX a nc
  · rw [p_tbT c1, w_tb, p_b1]
    by_cases c2 : 1 ≤ b ∧ b ≤ 50
    · rw [p_tbT c2, w_tb, p_b1]
      by_cases c3 : 0 ≤ c ∧ c ≤ 100
      · rw [p_tbT c3, w_tb, p_b1, p_tbF (fun q => hn ⟨c1, c2, c3, q⟩)]
      · rw [p_tbF c3]
    · rw [p_tbF c2]
  · rw [p_tbF c1]
theorem tq_house (X : XT x m nc nh nk np dy ah pl) {a b c : Int32} (hn : ¬ (iX a nc ∧ (1 ≤ b ∧ b ≤ 5) ∧ (0 ≤ c ∧ c ≤ 500))) : f_X6_addHouse a b c (fun k => x (zi_X_T k)) = some (-1, fun k => x (zi_X_T k)) := by
  obtain ⟨hR, hC, hH, hO, hK, hP, hS, hA, z1, z2⟩ := X
  unfold f_X6_addHouse
  rw [x_hasC hC.2.1 hC.1.2.2.1, p_b1]
  by_cases c1 : iX a nc
  · rw [p_tbT c1, w_tb, p_b1]
    by_cases c2 : 1 ≤ b ∧ b ≤ 5
    · rw [p_tbT c2, w_tb, p_b1, p_tbF (fun q => hn ⟨c1, c2, q⟩)]
    · rw [p_tbF c2]
  · rw [p_tbF c1]
theorem tq_pause (X : XT x m nc nh nk np dy ah pl) {a b c : Int32} (hn : ¬ (iX a nh ∧ (nI dy ≤ b ∧ b ≤ 999) ∧ (b ≤ c ∧ c ≤ 999))) : f_X6_addPause a b c (fun k => x (zi_X_T k)) = some (-1, fun k => x (zi_X_T k)) := by
  obtain ⟨hR, hC, hH, hO, hK, hP, hS, hA, z1, z2⟩ := X
  unfold f_X6_addPause
  rw [x_hasH hH.2.1 hH.1.2.1, p_b1]
  by_cases c1 : iX a nh
  · rw [p_tbT c1, hS.1.2.2, w_tb, p_b1]
    by_cases c2 : nI dy ≤ b ∧ b ≤ 999
    · rw [p_tbT c2, w_tb, p_b1, p_tbF (fun q => hn ⟨c1, c2, q⟩)]
    · rw [p_tbF c2]
  · rw [p_tbF c1]
theorem tq_carrier (x : z_S) {a b : Int32} (hn : ¬ ((0 ≤ a ∧ a ≤ 1) ∧ (10 ≤ b ∧ b ≤ 500))) : f_X6_addCarrier a b x = some (-1, x) := by
  unfold f_X6_addCarrier
  rw [w_tb, p_b1]
  by_cases c1 : 0 ≤ a ∧ a ≤ 1
  · rw [p_tbT c1, w_tb, p_b1, p_tbF (fun q => hn ⟨c1, q⟩)]
  · rw [p_tbF c1]
theorem tq_give (X : XT x m nc nh nk np dy ah pl) {a b : Int32} (hn : ¬ (iX a nh ∧ iX b nk)) : f_X6_handOver a b (fun k => x (zi_X_T k)) = some (-1, fun k => x (zi_X_T k)) := by
  obtain ⟨hR, hC, hH, hO, hK, hP, hS, hA, z1, z2⟩ := X
  unfold f_X6_handOver
  rw [x_hasH hH.2.1 hH.1.2.1, p_b1]
  by_cases c1 : iX a nh
  · rw [p_tbT c1, x_hasK hK.2.2.1 hK.2.1, p_b1, p_tbF (fun q => hn ⟨c1, q⟩)]
  · rw [p_tbF c1]
theorem tq_giveNone (X : XT x m nc nh nk np dy ah pl) {a : Int32} (hn : ¬ iX a nh) : f_X6_takeBack a (fun k => x (zi_X_T k)) = some (-1, fun k => x (zi_X_T k)) := by
  obtain ⟨hR, hC, hH, hO, hK, hP, hS, hA, z1, z2⟩ := X
  unfold f_X6_takeBack
  rw [x_hasH hH.2.1 hH.1.2.1, p_b1, p_tbF hn]
theorem tq_biscuits (X : XT x m nc nh nk np dy ah pl) {a b : Int32} (hn : ¬ (iX a nk ∧ (1 ≤ b ∧ b ≤ 99))) : f_X6_addBiscuits a b (fun k => x (zi_X_T k)) = some (-1, fun k => x (zi_X_T k)) := by
  obtain ⟨hR, hC, hH, hO, hK, hP, hS, hA, z1, z2⟩ := X
  unfold f_X6_addBiscuits
  rw [x_hasK hK.2.2.1 hK.2.1, p_b1]
  by_cases c1 : iX a nk
  · rw [p_tbT c1, w_tb, p_b1, p_tbF (fun q => hn ⟨c1, q⟩)]
  · rw [p_tbF c1]
theorem tq_set (x : z_S) {a b : Int32} (h0 : ¬ (a = 0 ∧ 1 ≤ b ∧ b ≤ 20)) (h1 : ¬ (a = 1 ∧ 1 ≤ b ∧ b ≤ 50)) : f_X6_changeSetting a b x = some (-1, x) := by
  unfold f_X6_changeSetting
  by_cases a0 : a = 0
  · have hb : ¬ (1 ≤ b ∧ b ≤ 20) := fun q => h0 ⟨a0, q⟩
    have a1 : ¬ a = 1 := fun q => by rw [a0] at q; exact absurd q (by decide)
    simp only [p_let, if_pos a0, if_neg a1, w_tb, p_b1, p_tbF hb]
  · by_cases a1 : a = 1
    · have hb : ¬ (1 ≤ b ∧ b ≤ 50) := fun q => h1 ⟨a1, q⟩
      simp only [p_let, if_neg a0, if_pos a1, w_tb, p_b1, p_tbF hb]
    · simp only [p_let, if_neg a0, if_neg a1]
/-! changes -/
theorem sCnt_nI {n : Nat → Int32} {p : Int32} : ∀ {nh : Nat}, ∃ q, q ≤ nh ∧ sCnt n p nh = nI q := by
  intro nh
  induction nh with
  | zero => exact ⟨0, Nat.le_refl _, rfl⟩
  | succ k ih =>
    obtain ⟨q, hq, e⟩ := ih
    have h : sCnt n p (k + 1) = sCnt n p k + (if n (90 + 14 * k + 3) = p then nI 1 else nI 0) := rfl
    rw [h, e]
    by_cases c : n (90 + 14 * k + 3) = p
    · rw [if_pos c, nI_add]; exact ⟨q + 1, by omega, rfl⟩
    · rw [if_neg c, nI_add]; exact ⟨q, by omega, rfl⟩
def cR (n : Nat → Int32) (ah pl : Nat → Nat) (c k : Nat) : Prop := n (426 + 7 * c + 0) = nI 0 ∨ rCrt n ah (pl k) = nI 1
theorem x_can {T : z_S} {n : Nat → Int32} (h : RT T n nc nh nk np dy ah pl) {c k : Nat} (hc : c < nk) (hk : k < nh) : f_X6_canReach (nI c) (nI k) T = some (tb (cR n ah pl c k)) := by
  obtain ⟨hC, hH, -, hK, -⟩ := h
  have h3 := hK.2.1
  have h24 := hH.1.2.1
  have hcart := (hK.2.2.2 c hc).1
  have hpl := (hH.1.2.2 k hk)
  have hplace := (hH.2.2 k hk).1.1
  have h20 := hC.1.2.2.1
  unfold f_X6_canReach
  rw [p_cki (by omega) (by omega), p_cl (by omega), hcart]
  by_cases h0 : n (426 + 7 * c + 0) = nI 0
  · rw [if_pos (show n (426 + 7 * c + 0) = (0 : Int32) from h0), tb_t (show cR n ah pl c k from Or.inl h0)]; rfl
  · rw [if_neg (show ¬ n (426 + 7 * c + 0) = (0 : Int32) from h0), p_cki (by omega) (by omega), p_cl (by omega), hplace, hpl.1, p_cki (by omega) (by omega), p_cl (by omega), (hC.2.2.1 _ hpl.2).2.2.2.2.2.2.1]
    rcases rCrt_01 (n := n) hC.1.2.2.2.1 hpl.2 with e | e
    · have hn : ¬ cR n ah pl c k := fun q => q.elim h0 (fun q => by rw [e] at q; exact absurd q (by decide))
      rw [e, if_neg (by decide), tb_f hn]
      rfl
    · rw [e, if_pos (by decide), tb_t (show cR n ah pl c k from Or.inr e)]
      rfl
theorem m_can (X : XT x m nc nh nk np dy ah pl) {m1 : z_S} (h1 : m1 1 = m 1) {c k : Nat} (hc : c < nk) (hk : k < nh) : f_X10_canReach (nI c) (nI k) m1 = some (tb (cR (m 1) ah pl c k)) := by
  obtain ⟨P, q1, q2⟩ := can_same (m := m1) (T := fun q => x (zi_X_T q)) (by rw [h1]; exact X.2) hc hk
  have h := x_can X.2 hc hk
  rw [h] at q1
  rw [q2]
  exact q1.symm
theorem nI_n9 {a : Nat} : ¬ ((-1 : Int32) = -9) ∧ ¬ ((-2 : Int32) = -9) ∧ ¬ ((-3 : Int32) = -9) := by decide
/-- a house to a carrier: both there -/
theorem k_give_h (X : XT x m nc nh nk np dy ah pl) {k c : Nat} (hk : k < nh) (hc : c < nk) :
    (m 1 (90 + 14 * k + 3) = nI c → ∃ x', f_X9_give (nI k) (nI c) x = some (-2, x') ∧ RX x' m) ∧ (¬ m 1 (90 + 14 * k + 3) = nI c → ¬ cR (m 1) ah pl c k → ∃ x', f_X9_give (nI k) (nI c) x = some (-2, x') ∧ RX x' m) ∧
    (¬ m 1 (90 + 14 * k + 3) = nI c → cR (m 1) ah pl c k → ∃ r x' m', f_X9_give (nI k) (nI c) x = some (r, x') ∧ ¬ r < 0 ∧ RX x' m' ∧ PU m m' ∧ m' 1 = un (m 1) (90 + 14 * k + 3) (nI c)) := by
  have X0 := X
  obtain ⟨hR, hC, hH, hO, hK, hP, hS, hA, z1, z2⟩ := X
  have h24 := hH.1.2.1
  have h3 := hK.2.1
  have e3 : x 207 k = m 1 (90 + 14 * k + 3) := (hH.2.2 k hk).1.2.2.2.1
  have base : ∀ v : Option (Int32 × z_S), (if m 1 (90 + 14 * k + 3) = nI c then some ((-2 : Int32), fun k => x (zi_X_T k)) else (if tb (cR (m 1) ah pl c k) = 0 then some ((-2 : Int32), fun k => x (zi_X_T k)) else f_X6_handOver (nI k) (nI c) (fun k => x (zi_X_T k)))) = v → f_X6_handOver (nI k) (nI c) (fun k => x (zi_X_T k)) = v := by
    intro v hv
    rw [← hv]
    by_cases c1 : m 1 (90 + 14 * k + 3) = nI c
    · rw [if_pos c1]
      unfold f_X6_handOver
      rw [x_hasH hH.2.1 h24, p_b1, p_tbT ⟨k, hk, rfl⟩, x_hasK hK.2.2.1 h3, p_b1, p_tbT ⟨c, hc, rfl⟩, p_cki (by omega) (by omega), p_cl (by omega)]
      exact if_pos (e3.trans c1)
    · rw [if_neg c1]
      by_cases c2 : cR (m 1) ah pl c k
      · rw [show (if tb (cR (m 1) ah pl c k) = (0 : Int32) then _ else _) = _ from p_tbT c2]
      · rw [show (if tb (cR (m 1) ah pl c k) = (0 : Int32) then _ else _) = _ from p_tbF c2]
        unfold f_X6_handOver
        rw [x_hasH hH.2.1 h24, p_b1, p_tbT ⟨k, hk, rfl⟩, x_hasK hK.2.2.1 h3, p_b1, p_tbT ⟨c, hc, rfl⟩, p_cki (by omega) (by omega), p_cl (by omega), if_neg (show ¬ x (zi_X_T 15) k = nI c from fun q => c1 (e3.symm.trans q)), x_can X0.2 hc hk, p_b1]
        exact p_tbF c2
  refine ⟨fun c1 => ?_, fun c1 c2 => ?_, fun c1 c2 => ?_⟩
  · exact op0_RX hR (g := f_X6_handOver (nI k) (nI c)) (by decide) (base _ (if_pos c1))
  · exact op0_RX hR (g := f_X6_handOver (nI k) (nI c)) (by decide) (base _ ((if_neg c1).trans (p_tbF c2)))
  · obtain ⟨r, x', m', e1, e2, hR'⟩ := ff_give hR (nI k) (nI c)
    obtain ⟨q, hq, hcnt⟩ := sCnt_nI (n := un (m 1) (90 + 14 * k + 3) (nI c)) (p := nI c) (nh := nh)
    obtain ⟨a, b, d⟩ := o_pos (g2 := f_X10_gives (nI k) (nI c)) (v := nI q) (N := un (m 1) (90 + 14 * k + 3) (nI c)) hR e2 (nI_pos (by omega)) (fun m1 h1 => by
      refine ⟨z_u m1 1 (90 + 14 * k + 3) (nI c), ?_, frM.u, by rw [un_u, h1]⟩
      have hm1 : m1 1 1 = nI nh := by rw [h1]; exact hH.1.1
      have hu : z_u m1 1 (90 + 14 * k + 3) (nI c) 1 = un (m 1) (90 + 14 * k + 3) (nI c) := by rw [un_u, h1]
      unfold f_X10_gives
      rw [m_isHouse hm1 h24, p_b1, p_tbT ⟨k, hk, rfl⟩, m_isCarrier (by rw [h1]; exact hK.1) h3, p_b1, p_tbT ⟨c, hc, rfl⟩, zl_3, m_of (by omega), p_b1, h1, if_neg c1, m_can X0 h1 hc hk, p_b1, p_tbT c2, m_lays (by omega), p_b1, m_housesOf (nh := nh) (by rw [hu, un_j (by omega)]; exact hH.1.1) h24, p_b1, hu, hcnt])
    exact ⟨r, x', m', e1, by rw [a]; exact nI_pos (by omega), hR', d, b⟩
end OPS
