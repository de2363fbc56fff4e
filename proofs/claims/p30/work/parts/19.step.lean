/-! THE PURE PART. 7: the states of class and model belong together; a change comes to both histories -/
section REL2
variable {T T' : z_S} {n n' : Nat → Int32} {nc nh nk np dy : Nat} {ah pl : Nat → Nat}
theorem RT.nn (h : RT T n nc nh nk np dy ah pl) (hn : ∀ j, j < 537 → n' j = n j) : RT T n' nc nh nk np dy ah pl := by
  obtain ⟨a, b, c, d, e, f, g, z1, z2⟩ := h
  have h20 := a.1.2.2.1
  have h24 := b.1.2.1
  have h3 := d.2.1
  have h30 := e.2.1
  exact ⟨rC_congr a (hn 0 (by omega)) (fun i h1 h2 => hn i (by omega)) rfl (fun _ _ _ _ _ => rfl), rH_congr b (hn 1 (by omega)) rfl (fun i h1 h2 => hn i (by omega)) (fun _ _ _ _ _ => rfl), c,
    rK_congr d (hn 2 (by omega)) rfl (fun _ _ _ _ _ => rfl) (fun i h1 h2 => hn i (by omega)), rP_congr e (hn 3 (by omega)) rfl (fun _ _ _ _ _ => rfl) (fun i h1 h2 => hn i (by omega)),
    rS_congr f rfl rfl rfl (hn 4 (by omega)) (hn 5 (by omega)) (hn 6 (by omega)), rA_congr g (fun _ _ => rfl) (fun w h1 h2 => rSum_congr (by omega) (fun i h3 h4 => hn i (by omega))), fun i h1 h2 => by rw [hn i (by omega)]; exact z1 i h1 h2, fun i h1 h2 => by rw [hn i (by omega)]; exact z2 i h1 h2⟩
theorem RTx.nn (h : RTx T n) (hn : ∀ j, j < 537 → n' j = n j) : RTx T n' := by
  obtain ⟨nc, nh, nk, np, dy, ah, pl, h⟩ := h
  exact ⟨nc, nh, nk, np, dy, ah, pl, h.nn hn⟩
theorem eqT.c (h : ∀ q, q < 38 → T' q = T q) : eqT T T' nc nh nk np := by
  refine ⟨⟨by rw [h 0 (by omega)], by rw [h 0 (by omega)], by rw [h 0 (by omega)]⟩, fun j hj => by rw [h 1 (by omega)], ⟨by rw [h 2 (by omega)], fun q a b k hk => by rw [h q (by omega)]⟩, ⟨by rw [h 11 (by omega)], fun q a b k hk => by rw [h q (by omega)]⟩, ⟨by rw [h 26 (by omega)], fun q a b k hk => by rw [h q (by omega)]⟩, ⟨by rw [h 30 (by omega)], fun q a b k hk => by rw [h q (by omega)]⟩⟩
theorem eqT.trans {T'' : z_S} (h : eqT T T' nc nh nk np) (h2 : eqT T' T'' nc nh nk np) : eqT T T'' nc nh nk np := by
  obtain ⟨⟨a0, a1, a2⟩, b, ⟨c0, c⟩, ⟨d0, d⟩, ⟨e0, e⟩, ⟨f0, f⟩⟩ := h
  obtain ⟨⟨a0', a1', a2'⟩, b', ⟨c0', c'⟩, ⟨d0', d'⟩, ⟨e0', e'⟩, ⟨f0', f'⟩⟩ := h2
  exact ⟨⟨a0'.trans a0, a1'.trans a1, a2'.trans a2⟩, fun j hj => (b' j hj).trans (b j hj), ⟨c0'.trans c0, fun q x y k hk => (c' q x y k hk).trans (c q x y k hk)⟩, ⟨d0'.trans d0, fun q x y k hk => (d' q x y k hk).trans (d q x y k hk)⟩, ⟨e0'.trans e0, fun q x y k hk => (e' q x y k hk).trans (e q x y k hk)⟩, ⟨f0'.trans f0, fun q x y k hk => (f' q x y k hk).trans (f q x y k hk)⟩⟩
theorem RTx.c (h : RTx T n) (hT : ∀ q, q < 38 → T' q = T q) : RTx T' n := by
  obtain ⟨nc, nh, nk, np, dy, ah, pl, h⟩ := h
  exact ⟨nc, nh, nk, np, dy, ah, pl, h.eqT (eqT.c hT)⟩
end REL2
def hX (x m : z_S) (kp o : Nat) : Prop := kp ≤ 4 ∧ o < 5 ∧ x 0 0 = nI kp ∧ x 0 1 = nI o ∧ m 0 2 = nI kp ∧ ∀ i, i < kp → RTx (fun q => x (2 + 38 * ((o + i) % 5) + q)) (fun j => m 2 (537 * i + j))
def wX (x : z_S) : Prop := (∀ k, k < 20 → x 232 k = nI 0) ∧ x 231 4 = nI 0
def tX (x m : z_S) (L : Nat) : Prop := L ≤ 60 ∧ x 233 0 = nI L ∧ m 0 6 = nI L ∧ ∀ k, k < L → ∃ c, 32 ≤ c ∧ c ≤ 126 ∧ x 234 k = nI c ∧ m 5 k = nI c
def RX (x m : z_S) : Prop := RTx (fun q => x (zi_X_T q)) (m 1) ∧ (∃ kp o, hX x m kp o) ∧ wX x ∧ ∃ L, tX x m L
theorem z_m_in {σ τ : z_S} {κ : Nat → Nat} {N' i k : Nat} (h : κ i = k) (hk : k < N') : z_m σ κ N' τ i = τ k := by
  show (if κ i < N' then τ (κ i) else σ i) = τ k
  subst h
  rw [if_pos hk]
theorem z_m_out {σ τ : z_S} {κ : Nat → Nat} {N' i : Nat} (h : N' ≤ κ i) : z_m σ κ N' τ i = σ i := by
  show (if κ i < N' then τ (κ i) else σ i) = σ i
  rw [if_neg (by omega)]
theorem zkXT_lo {i : Nat} (h : i < 192) : zk_X_T i = 38 := by
  show (if i < 192 then 38 else i - 192) = 38
  rw [if_pos h]
theorem zkXT_hi {i : Nat} (h : 192 ≤ i) : zk_X_T i = i - 192 := by
  show (if i < 192 then 38 else i - 192) = i - 192
  rw [if_neg (by omega)]
theorem zkH_in {r i : Nat} (h : 2 + 38 * r ≤ i ∧ i < 40 + 38 * r) : zkH r i = i - (2 + 38 * r) := if_pos h
theorem zkH_main {r i : Nat} (h : ¬ (2 + 38 * r ≤ i ∧ i < 40 + 38 * r)) (h2 : 192 ≤ i ∧ i < 230) : zkH r i = i - 154 := by
  unfold zkH
  rw [if_neg h, if_pos h2]
theorem zkH_out {r i : Nat} (h : ¬ (2 + 38 * r ≤ i ∧ i < 40 + 38 * r)) (h2 : ¬ (192 ≤ i ∧ i < 230)) : zkH r i = 76 := by
  unfold zkH
  rw [if_neg h, if_neg h2]
theorem p_rem5 {a : Nat} (h : a < 100) : nI a - nI a / 5 * 5 = nI (a % 5) := pk_rem (d := 5) (by omega) (by omega) (by omega)
theorem x_prepare {x : z_S} {n : Nat → Int32} {nc nh nk np dy kp o : Nat} {ah pl : Nat → Nat} (hT : RT (fun q => x (zi_X_T q)) n nc nh nk np dy ah pl) (hkp : kp ≤ 4) (ho : o < 5) (h0 : x 0 0 = nI kp) (h1 : x 0 1 = nI o) :
    ∃ s2 : z_S, f_X1_prepare (fun k => x (zi_X_H k)) = some s2 ∧ (∀ a, ¬ (2 + 38 * ((o + kp) % 5) ≤ a ∧ a < 40 + 38 * ((o + kp) % 5)) → z_m x zk_X_H 230 s2 a = x a) ∧ eqT (fun q => x (zi_X_T q)) (fun q => z_m x zk_X_H 230 s2 (2 + 38 * ((o + kp) % 5) + q)) nc nh nk np := by
  obtain ⟨a, b, -, d, e, -⟩ := hT
  obtain ⟨r, hr⟩ : ∃ r, r = (o + kp) % 5 := ⟨_, rfl⟩
  have hr5 : r < 5 := by omega
  rw [← hr]
  obtain ⟨s, f, hs, he⟩ := x_copyFrom (σ := fun k => x (ziH r k)) a.1.2.2.1 b.1.2.1 d.2.1 e.2.1 a.2.1 b.2.1 e.2.2.1 d.2.2.1
  refine ⟨z_m (fun k => x (zi_X_H k)) (zkH r) 76 s, ?_, fun q hq => ?_, ?_⟩
  · unfold f_X1_prepare
    simp only [zi_X_H, p_let]
    rw [h0, h1, nI_add, p_rem5 (by omega), ← hr, p_cki (by omega) (by omega), p_cl (by omega), f, p_b1]
  · by_cases h230 : q < 230
    · rw [z_m_in (k := q) rfl h230]
      by_cases h192 : 192 ≤ q
      · rw [z_m_in (zkH_main hq ⟨h192, h230⟩) (by omega), hs _ (by omega)]
        show x (ziH r (q - 154)) = x q
        unfold ziH
        rw [if_neg (by omega), show q - 154 + 154 = q by omega]
      · rw [z_m_out (by rw [zkH_out hq (by omega)]; exact Nat.le_refl _)]
        rfl
    · exact z_m_out (by show 230 ≤ q; omega)
  · refine eqT.trans (T' := s) ?_ (eqT.c fun q hq => ?_)
    · have e1 : (fun q => (fun k => x (ziH r k)) (q + 38)) = fun q => x (zi_X_T q) := by
        funext q
        show x (ziH r (q + 38)) = x (q + 192)
        unfold ziH
        rw [if_neg (by omega)]
      rw [← e1]
      exact he
    · show z_m x zk_X_H 230 _ (2 + 38 * r + q) = s q
      rw [z_m_in (κ := zk_X_H) (i := 2 + 38 * r + q) (k := 2 + 38 * r + q) rfl (by omega), z_m_in (κ := zkH r) (zkH_in (by omega)) (by omega)]
      rw [show 2 + 38 * r + q - (2 + 38 * r) = q by omega]
theorem x_settled_n {r : Int32} {x : z_S} (h : r < 0) : f_X9_settled r x = some (r, x) := by
  unfold f_X9_settled
  rw [if_pos h]
theorem x_settled {r : Int32} {x : z_S} {kp o : Nat} (h : ¬ r < 0) (hkp : kp ≤ 4) (ho : o < 5) (h0 : x 0 0 = nI kp) (h1 : x 0 1 = nI o) : ∃ x' : z_S, f_X9_settled r x = some (r, x') ∧ (∀ a, a ≠ 0 → x' a = x a) ∧ ((kp < 4 ∧ x' 0 0 = nI (kp + 1) ∧ x' 0 1 = nI o) ∨ (kp = 4 ∧ x' 0 0 = nI 4 ∧ x' 0 1 = nI ((o + 1) % 5))) := by
  have hv : (fun k => x (zi_X_H k)) = x := rfl
  unfold f_X9_settled
  rw [if_neg h, hv]
  have key : ∀ s : z_S, ∀ a, a ≠ 0 → (∀ b, b ≠ 0 → s b = x b) → z_m x zk_X_H 230 s a = x a := by
    intro s a ha hs
    by_cases h230 : a < 230
    · rw [z_m_in (k := a) rfl h230]; exact hs a ha
    · exact z_m_out (by show 230 ≤ a; omega)
  by_cases h4 : kp = 4
  · subst h4
    refine ⟨z_m x zk_X_H 230 (z_u x 0 1 (nI ((o + 1) % 5))), ?_, fun a ha => key _ a ha (fun b hb => u_o hb), Or.inr ⟨rfl, ?_, ?_⟩⟩
    · unfold f_X1_keepPrepared
      rw [if_pos (by rw [h0]; exact (by decide : (4 : Int32) ≤ nI 4)), p_let, p_ck (by decide), h1, zl_1, nI_add, p_rem5 (by omega), p_b1, p_let]
    · rw [z_m_in (k := 0) rfl (by omega), u_j (by omega), h0]
    · rw [z_m_in (k := 0) rfl (by omega), u_i]
  · refine ⟨z_m x zk_X_H 230 (z_u x 0 0 (nI (kp + 1))), ?_, fun a ha => key _ a ha (fun b hb => u_o hb), Or.inl ⟨by omega, ?_, ?_⟩⟩
    · unfold f_X1_keepPrepared
      rw [if_neg (by rw [h0, zl_4, nI_leI (by omega) (by omega)]; omega), h0, zl_1, nI_add, p_let, p_b1, p_let]
    · rw [z_m_in (k := 0) rfl (by omega), u_i]
    · rw [z_m_in (k := 0) rfl (by omega), u_j (by omega), h1]
/-- the histories behind a change: x1 is the class's state with the noted row, x2 with the change, x3 with the history's numbers -/
theorem hX_step {x x1 x2 x3 m m' m'' : z_S} {n : Nat → Int32} {nc nh nk np dy kp o : Nat} {ah pl : Nat → Nat} (hh : hX x m kp o) (hT : RT (fun q => x (zi_X_T q)) (m 1) nc nh nk np dy ah pl)
    (h1 : ∀ a, ¬ (2 + 38 * ((o + kp) % 5) ≤ a ∧ a < 40 + 38 * ((o + kp) % 5)) → x1 a = x a) (he : eqT (fun q => x (zi_X_T q)) (fun q => x1 (2 + 38 * ((o + kp) % 5) + q)) nc nh nk np) (h2 : ∀ a, a < 192 → x2 a = x1 a)
    (h3 : ∀ a, a ≠ 0 → x3 a = x2 a) (h4 : (kp < 4 ∧ x3 0 0 = nI (kp + 1) ∧ x3 0 1 = nI o) ∨ (kp = 4 ∧ x3 0 0 = nI 4 ∧ x3 0 1 = nI ((o + 1) % 5))) (hm : m' 2 = m 2) (hp : mPu m' m'' kp (m 1)) : ∃ kp' o', hX x3 m'' kp' o' := by
  obtain ⟨hkp, ho, hx0, hx1, hm2, hrows⟩ := hh
  obtain ⟨-, -, hp⟩ := hp
  have row : ∀ r, r < 5 → r ≠ (o + kp) % 5 → ∀ q, q < 38 → x3 (2 + 38 * r + q) = x (2 + 38 * r + q) := by
    intro r hr hne q hq
    rw [h3 _ (by omega), h2 _ (by omega), h1 _ (by omega)]
  have new : RTx (fun q => x3 (2 + 38 * ((o + kp) % 5) + q)) (m 1) := by
    have h5 : (o + kp) % 5 < 5 := by omega
    refine RTx.c (T := fun q => x1 (2 + 38 * ((o + kp) % 5) + q)) ⟨nc, nh, nk, np, dy, ah, pl, hT.eqT he⟩ (fun q hq => ?_)
    show x3 _ = x1 _
    rw [h3 _ (by omega), h2 _ (by omega)]
  rcases h4 with ⟨k4, a, b⟩ | ⟨k4, a, b⟩
  · rcases hp with ⟨-, p2, p3, p4⟩ | ⟨e, -⟩
    · refine ⟨kp + 1, o, by omega, ho, a, b, p2, fun i hi => ?_⟩
      by_cases hik : i = kp
      · subst hik
        exact new.nn (fun j hj => p4 j hj)
      · refine (RTx.c (hrows i (by omega)) (fun q hq => row _ (by omega) (by omega) q hq)).nn (fun j hj => ?_)
        rw [p3 i (by omega) j hj, hm]
    · omega
  · rcases hp with ⟨e, -⟩ | ⟨-, p2, p3, p4⟩
    · omega
    · subst k4
      refine ⟨4, (o + 1) % 5, by omega, by omega, a, b, p2, fun i hi => ?_⟩
      have e1 : ((o + 1) % 5 + i) % 5 = (o + (i + 1)) % 5 := by omega
      rw [e1]
      by_cases hik : i = 3
      · subst hik
        exact new.nn (fun j hj => p4 j hj)
      · refine (RTx.c (hrows (i + 1) (by omega)) (fun q hq => row _ (by omega) (by omega) q hq)).nn (fun j hj => ?_)
        rw [p3 i (by omega) j hj, hm]
/-- the histories behind an error -/
theorem hX_err {x x1 x2 m m' : z_S} {kp o : Nat} (hh : hX x m kp o) (h1 : ∀ a, ¬ (2 + 38 * ((o + kp) % 5) ≤ a ∧ a < 40 + 38 * ((o + kp) % 5)) → x1 a = x a) (h2 : ∀ a, a < 192 → x2 a = x1 a) (hm : m' 2 = m 2) (hm0 : m' 0 2 = m 0 2) : hX x2 m' kp o := by
  obtain ⟨hkp, ho, hx0, hx1, hm2, hrows⟩ := hh
  refine ⟨hkp, ho, by rw [h2 0 (by omega), h1 0 (by omega)]; exact hx0, by rw [h2 0 (by omega), h1 0 (by omega)]; exact hx1, by rw [hm0]; exact hm2, fun i hi => ?_⟩
  refine (RTx.c (hrows i hi) (fun q hq => ?_)).nn (fun j hj => by rw [hm])
  show x2 _ = x _
  have h5 : (o + i) % 5 ≠ (o + kp) % 5 := by omega
  rw [h2 _ (by omega), h1 _ (by omega)]
/-- a change of the town that is no more than a call on it -/
theorem op_RX {x m : z_S} (hR : RX x m) {g : z_S → Option (Int32 × z_S)} {r : Int32} {T' : z_S} (hg : g (fun k => x (zi_X_T k)) = some (r, T')) {m'' : z_S} (hT : RTx T' (m'' 1)) (h06 : m'' 0 6 = m 0 6) (h5 : m'' 5 = m 5)
    (hneg : r < 0 → m'' 2 = m 2 ∧ m'' 0 2 = m 0 2) (hpos : ¬ r < 0 → ∃ m' : z_S, m' 2 = m 2 ∧ ∀ kp, m 0 2 = nI kp → kp ≤ 4 → mPu m' m'' kp (m 1)) :
    ∃ x', (z_b1 (f_X1_prepare (fun k => x (zi_X_H k))) fun s2 => z_let (z_m x (zk_X_H) 230 s2) fun s3 => z_b2 (g (fun k => s3 (zi_X_T k))) fun r' s5 => z_let (z_m s3 (zk_X_T) 38 s5) fun s7 => z_b2 (f_X9_settled r' s7) fun a b => some (a, b)) = some (r, x') ∧ RX x' m'' := by
  obtain ⟨⟨nc, nh, nk, np, dy, ah, pl, hT0⟩, ⟨kp, o, hh⟩, hw, L, ht⟩ := hR
  obtain ⟨s2, f1, h1, he⟩ := x_prepare hT0 hh.1 hh.2.1 hh.2.2.1 hh.2.2.2.1
  obtain ⟨x1, ex1⟩ : ∃ s, s = z_m x (zk_X_H) 230 s2 := ⟨_, rfl⟩
  rw [f1, p_b1, p_let]
  rw [← ex1] at h1 he ⊢
  have hv : (fun k => x1 (zi_X_T k)) = fun k => x (zi_X_T k) := by
    funext k
    exact h1 _ (by show ¬ (_ ≤ k + 192 ∧ k + 192 < _); omega)
  rw [hv, hg, p_b2, p_let]
  obtain ⟨x2, ex2⟩ : ∃ s, s = z_m x1 (zk_X_T) 38 T' := ⟨_, rfl⟩
  rw [← ex2]
  have h2 : ∀ a, a < 192 → x2 a = x1 a := by
    intro a ha
    rw [ex2]
    exact z_m_out (by rw [zkXT_lo ha]; exact Nat.le_refl _)
  have h2m : ∀ q, q < 38 → x2 (zi_X_T q) = T' q := by
    intro q hq
    rw [ex2]
    refine z_m_in ?_ hq
    show zk_X_T (q + 192) = q
    rw [zkXT_hi (by omega), Nat.add_sub_cancel]
  have h2o : ∀ a, 230 ≤ a → x2 a = x1 a := by
    intro a ha
    rw [ex2]
    exact z_m_out (by rw [zkXT_hi (by omega)]; omega)
  have hx1o : ∀ a, 192 ≤ a → x1 a = x a := fun a ha => h1 a (by omega)
  have hw2 : wX x2 := ⟨fun k hk => by rw [h2o 232 (by omega), hx1o 232 (by omega)]; exact hw.1 k hk, by rw [h2o 231 (by omega), hx1o 231 (by omega)]; exact hw.2⟩
  have ht2 : tX x2 m'' L := ⟨ht.1, by rw [h2o 233 (by omega), hx1o 233 (by omega)]; exact ht.2.1, by rw [h06]; exact ht.2.2.1, fun k hk => by rw [h2o 234 (by omega), hx1o 234 (by omega), h5]; exact ht.2.2.2 k hk⟩
  have hT2 : RTx (fun q => x2 (zi_X_T q)) (m'' 1) := hT.c h2m
  by_cases hr : r < 0
  · rw [x_settled_n hr, p_b2]
    obtain ⟨a, b⟩ := hneg hr
    exact ⟨x2, rfl, hT2, ⟨kp, o, hX_err hh h1 h2 a b⟩, hw2, L, ht2⟩
  · obtain ⟨m', e1, e2⟩ := hpos hr
    have hp := e2 kp hh.2.2.2.2.1 hh.1
    obtain ⟨x3, f3, h3, h4⟩ := x_settled (r := r) (x := x2) hr hh.1 hh.2.1 (by rw [h2 0 (by omega), h1 0 (by omega)]; exact hh.2.2.1) (by rw [h2 0 (by omega), h1 0 (by omega)]; exact hh.2.2.2.1)
    rw [f3, p_b2]
    refine ⟨x3, rfl, hT2.c (fun q hq => h3 _ (by show q + 192 ≠ 0; omega)), hX_step (n := m 1) hh hT0 h1 he h2 h3 h4 e1 hp, ?_, L, ?_⟩
    · exact ⟨fun k hk => by rw [h3 232 (by omega)]; exact hw2.1 k hk, by rw [h3 231 (by omega)]; exact hw2.2⟩
    · exact ⟨ht2.1, by rw [h3 233 (by omega)]; exact ht2.2.1, ht2.2.2.1, fun k hk => by rw [h3 234 (by omega)]; exact ht2.2.2.2 k hk⟩
