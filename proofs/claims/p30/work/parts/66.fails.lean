/-! p30, THE PURE PART. 7: calls that fail change nothing -/
def XE (x m : z_S) (nc nh nk np dy : Nat) : Prop := ∃ ah pl, XT x m nc nh nk np dy ah pl
theorem iX_self {N : Nat} (h : N < 2 ^ 31) : ¬ iX (nI N) N := by
  rintro ⟨k, hk, e⟩
  have := (nI_eq h (by omega)).mp e
  omega
theorem nI_sub1 {d : Nat} (h : d < 2 ^ 31) : ¬ nI d ≤ nI d - 1 := by
  cases d with
  | zero => decide
  | succ d =>
    rw [nI_pred]
    exact nI_ge (by omega) h
theorem nI_add1 {d : Nat} (h : d < 2000) : ¬ nI d + 1 ≤ nI d := by
  rw [nI_1]
  exact nI_ge (by omega) (by omega)
theorem lg_self (a : Int64) : lg_cmp a a = 0 := by
  unfold lg_cmp
  rw [if_neg (Int64.lt_irrefl), if_pos rfl]
theorem z_letG {α O : Type} {G : Option O → Prop} {v : α} {k : α → Option O} (h : ∀ x, x = v → G (k x)) : G (z_let v k) := h v rfl
section FE
variable {x m : z_S} {nc nh nk np dy : Nat}
theorem XE.b (X : XE x m nc nh nk np dy) : 1 ≤ nc ∧ nc ≤ 20 ∧ nh ≤ 24 ∧ nk ≤ 3 ∧ np ≤ 30 ∧ dy ≤ 1000 := by
  obtain ⟨ah, pl, X⟩ := X
  exact X.b
theorem XE.re (X : XE x m nc nh nk np dy) {x' : z_S} (hR : RX x' m) : XE x' m nc nh nk np dy := by
  obtain ⟨ah, pl, X⟩ := X
  obtain ⟨nc', nh', nk', np', dy', ah', pl', X'⟩ := hR.ex
  obtain ⟨n0, n1, n2, n3, n4⟩ := X.n
  obtain ⟨c0, c1, c2, c3, c4, c5⟩ := X.b
  obtain ⟨n0', n1', n2', n3', n4'⟩ := X'.n
  obtain ⟨c0', c1', c2', c3', c4', c5'⟩ := X'.b
  have q0 : nc' = nc := (nI_eq (by omega) (by omega)).mp (n0'.symm.trans n0)
  have q1 : nh' = nh := (nI_eq (by omega) (by omega)).mp (n1'.symm.trans n1)
  have q2 : nk' = nk := (nI_eq (by omega) (by omega)).mp (n2'.symm.trans n2)
  have q3 : np' = np := (nI_eq (by omega) (by omega)).mp (n3'.symm.trans n3)
  have q4 : dy' = dy := (nI_eq (by omega) (by omega)).mp (n4'.symm.trans n4)
  subst q0; subst q1; subst q2; subst q3; subst q4
  exact ⟨ah', pl', X'⟩
theorem o_neg {x' m' : z_S} {g2 : z_S → Option (Int32 × z_S)} {r v : Int32} (hR' : RX x' m') (e : (z_b1 (f_X10_notes m) fun s2 => z_b2 (g2 s2) fun r5 s4 => z_b2 (f_X10_ends r5 s4) fun r8 s7 => some (r8, s7)) = some (r, m')) (hv : v < 0) (hg : ∀ m1 : z_S, m1 1 = m 1 → g2 m1 = some (v, m1)) : r = v ∧ RX x' m := by
  obtain ⟨m1, n1, n2, n3⟩ := m_notes' m
  rw [n1, p_b1, hg m1 (n2 1 (by omega)), p_b2, m_ends_n hv, p_b2] at e
  obtain ⟨rfl, rfl⟩ := z_prE e
  exact ⟨rfl, hR'.m5 (fun j _ => by rw [n2 1 (by omega)]) (n2 2 (by omega)).symm (n2 5 (by omega)).symm (by rw [n2 0 (by omega)]) (by rw [n2 0 (by omega)])⟩
theorem fe_corner (X : XE x m nc nh nk np dy) {a b c d : Int32} (hn : ¬ (iX a nc ∧ (1 ≤ b ∧ b ≤ 50) ∧ (0 ≤ c ∧ c ≤ 100) ∧ (0 ≤ d ∧ d ≤ 1))) : ∃ x', f_X9_corner a b c d x = some (-1, x') ∧ XE x' m nc nh nk np dy := by
  have X0 := X
  obtain ⟨ah, pl, X⟩ := X
  obtain ⟨x', q1, q2⟩ := op0_RX X.1 (r := -1) (g := f_X6_addCorner a b c d) (by decide) (tq_corner X hn)
  exact ⟨x', q1, X0.re q2⟩
theorem fe_house (X : XE x m nc nh nk np dy) {a b c : Int32} (hn : ¬ (iX a nc ∧ (1 ≤ b ∧ b ≤ 5) ∧ (0 ≤ c ∧ c ≤ 500))) : ∃ x', f_X9_house a b c x = some (-1, x') ∧ XE x' m nc nh nk np dy := by
  have X0 := X
  obtain ⟨ah, pl, X⟩ := X
  obtain ⟨x', q1, q2⟩ := op0_RX X.1 (r := -1) (g := f_X6_addHouse a b c) (by decide) (tq_house X hn)
  exact ⟨x', q1, X0.re q2⟩
theorem fe_dog (X : XE x m nc nh nk np dy) {a b c : Int32} (hn : ¬ (iX a nh ∧ (b = 0 ∨ (2 ≤ b ∧ b ≤ 9)) ∧ (0 ≤ c ∧ c ≤ 8))) : ∃ x', f_X9_dog a b c x = some (-1, x') ∧ XE x' m nc nh nk np dy := by
  have X0 := X
  obtain ⟨ah, pl, X⟩ := X
  obtain ⟨x', q1, q2⟩ := op0_RX X.1 (r := -1) (g := f_X6_changeDog a b c) (by decide) (x_dog_n X.2 hn)
  exact ⟨x', q1, X0.re q2⟩
theorem fe_pause (X : XE x m nc nh nk np dy) {a b c : Int32} (hn : ¬ (iX a nh ∧ (nI dy ≤ b ∧ b ≤ 999) ∧ (b ≤ c ∧ c ≤ 999))) : ∃ x', f_X9_pause a b c x = some (-1, x') ∧ XE x' m nc nh nk np dy := by
  have X0 := X
  obtain ⟨ah, pl, X⟩ := X
  obtain ⟨x', q1, q2⟩ := op0_RX X.1 (r := -1) (g := f_X6_addPause a b c) (by decide) (tq_pause X hn)
  exact ⟨x', q1, X0.re q2⟩
theorem fe_carrier (X : XE x m nc nh nk np dy) {a b : Int32} (hn : ¬ ((0 ≤ a ∧ a ≤ 1) ∧ (10 ≤ b ∧ b ≤ 500))) : ∃ x', f_X9_carrier a b x = some (-1, x') ∧ XE x' m nc nh nk np dy := by
  have X0 := X
  obtain ⟨ah, pl, X⟩ := X
  obtain ⟨x', q1, q2⟩ := op0_RX X.1 (r := -1) (g := f_X6_addCarrier a b) (by decide) (tq_carrier _ hn)
  exact ⟨x', q1, X0.re q2⟩
theorem fe_give (X : XE x m nc nh nk np dy) {a b : Int32} (hn : ¬ (iX a nh ∧ iX b nk)) : ∃ x', f_X9_give a b x = some (-1, x') ∧ XE x' m nc nh nk np dy := by
  have X0 := X
  obtain ⟨ah, pl, X⟩ := X
  obtain ⟨x', q1, q2⟩ := op0_RX X.1 (r := -1) (g := f_X6_handOver a b) (by decide) (tq_give X hn)
  exact ⟨x', q1, X0.re q2⟩
theorem fe_giveNone (X : XE x m nc nh nk np dy) {a : Int32} (hn : ¬ iX a nh) : ∃ x', f_X9_giveNone a x = some (-1, x') ∧ XE x' m nc nh nk np dy := by
  have X0 := X
  obtain ⟨ah, pl, X⟩ := X
  obtain ⟨x', q1, q2⟩ := op0_RX X.1 (r := -1) (g := f_X6_takeBack a) (by decide) (tq_giveNone X hn)
  exact ⟨x', q1, X0.re q2⟩
theorem fe_biscuits (X : XE x m nc nh nk np dy) {a b : Int32} (hn : ¬ (iX a nk ∧ (1 ≤ b ∧ b ≤ 99))) : ∃ x', f_X9_biscuits a b x = some (-1, x') ∧ XE x' m nc nh nk np dy := by
  have X0 := X
  obtain ⟨ah, pl, X⟩ := X
  obtain ⟨x', q1, q2⟩ := op0_RX X.1 (r := -1) (g := f_X6_addBiscuits a b) (by decide) (tq_biscuits X hn)
  exact ⟨x', q1, X0.re q2⟩
theorem fe_set (X : XE x m nc nh nk np dy) {a b : Int32} (h0 : ¬ (a = 0 ∧ 1 ≤ b ∧ b ≤ 20)) (h1 : ¬ (a = 1 ∧ 1 ≤ b ∧ b ≤ 50)) : ∃ x', f_X9_set a b x = some (-1, x') ∧ XE x' m nc nh nk np dy := by
  have X0 := X
  obtain ⟨ah, pl, X⟩ := X
  obtain ⟨x', q1, q2⟩ := op0_RX X.1 (r := -1) (g := f_X6_changeSetting a b) (by decide) (tq_set _ h0 h1)
  exact ⟨x', q1, X0.re q2⟩
theorem fe_days (X : XE x m nc nh nk np dy) {a : Int32} (hn : ¬ (1 ≤ a ∧ a ≤ 31)) : ∃ x', f_X9_days a x = some (-1, x') ∧ XE x' m nc nh nk np dy := by
  obtain ⟨ah, pl, X'⟩ := id X
  obtain ⟨r, x', m', e1, e2, hR'⟩ := ff_days X'.1 a
  obtain ⟨q1, q2⟩ := o_neg (g2 := f_X10_daysGo a) (v := -1) hR' e2 (by decide) (fun m1 _ => by
    unfold f_X10_daysGo
    rw [m_tb, p_b1, p_tbF hn])
  exact ⟨x', by rw [e1, q1], X.re q2⟩
theorem fq_cornerOf (X : XE x m nc nh nk np dy) {a b : Int32} (hn : ¬ (iX a nc ∧ (0 ≤ b ∧ b ≤ 6))) : f_X9_cornerOf a b x = some (-1) := by
  obtain ⟨ah, pl, hR, hC, hH, hO, hK, hP, hS, hA, z1, z2⟩ := X
  unfold f_X9_cornerOf
  rw [x_hasC hC.2.1 hC.1.2.2.1, p_b1]
  by_cases c1 : iX a nc
  · rw [p_tbT c1, w_tb, p_b1, p_tbF (fun q => hn ⟨c1, q⟩)]
  · rw [p_tbF c1]
theorem fq_houseOf (X : XE x m nc nh nk np dy) {a b : Int32} (hn : ¬ (iX a nh ∧ (0 ≤ b ∧ b ≤ 11))) : f_X9_houseOf a b x = some (-1) := by
  obtain ⟨ah, pl, hR, hC, hH, hO, hK, hP, hS, hA, z1, z2⟩ := X
  unfold f_X9_houseOf
  rw [x_hasH hH.2.1 hH.1.2.1, p_b1]
  by_cases c1 : iX a nh
  · rw [p_tbT c1, w_tb, p_b1, p_tbF (fun q => hn ⟨c1, q⟩)]
  · rw [p_tbF c1]
theorem fq_carrierOf (X : XE x m nc nh nk np dy) {a b : Int32} (hn : ¬ (iX a nk ∧ (0 ≤ b ∧ b ≤ 7))) : f_X9_carrierOf a b x = some (-1) := by
  obtain ⟨ah, pl, hR, hC, hH, hO, hK, hP, hS, hA, z1, z2⟩ := X
  unfold f_X9_carrierOf
  rw [x_hasK hK.2.2.1 hK.2.1, p_b1]
  by_cases c1 : iX a nk
  · rw [p_tbT c1, w_tb, p_b1, p_tbF (fun q => hn ⟨c1, q⟩)]
  · rw [p_tbF c1]
theorem fq_lightest (X : XE x m nc nh nk np dy) {a b : Int32} (hn : ¬ (iX a nh ∧ (nI dy ≤ b ∧ b ≤ 999))) : f_X9_lightest a b x = some (-1, x) := by
  obtain ⟨ah, pl, hR, hC, hH, hO, hK, hP, hS, hA, z1, z2⟩ := X
  unfold f_X9_lightest
  rw [x_hasH hH.2.1 hH.1.2.1, p_b1]
  by_cases c1 : iX a nh
  · rw [p_tbT c1, show x 192 0 = nI dy from hS.1.2.2, w_tb, p_b1, p_tbF (fun q => hn ⟨c1, q⟩)]
  · rw [p_tbF c1]
theorem fq_shareBits (X : XE x m nc nh nk np dy) {a : Int32} (hn : ¬ iX a nh) : f_X9_shareBits a x = some (-1) := by
  obtain ⟨ah, pl, hR, hC, hH, hO, hK, hP, hS, hA, z1, z2⟩ := X
  unfold f_X9_shareBits
  rw [x_hasH hH.2.1 hH.1.2.1, p_b1, p_tbF hn]
theorem fq_nextDog (X : XE x m nc nh nk np dy) {a : Int32} (hn : ¬ iX a nh) : f_X9_nextDog a x = some (-1) := by
  obtain ⟨ah, pl, hR, hC, hH, hO, hK, hP, hS, hA, z1, z2⟩ := X
  unfold f_X9_nextDog
  rw [x_hasH hH.2.1 hH.1.2.1, p_b1, p_tbF hn]
theorem fq_pauseOf (X : XE x m nc nh nk np dy) {a b : Int32} (hn : ¬ (iX a np ∧ (0 ≤ b ∧ b ≤ 2))) : f_X9_pauseOf a b x = some (-1) := by
  obtain ⟨ah, pl, hR, hC, hH, hO, hK, hP, hS, hA, z1, z2⟩ := X
  have h30 := hP.2.1
  unfold f_X9_pauseOf
  rw [show x 218 0 = nI np from hP.2.2.1, w_tb, p_b1, tb_iff (p_idx (by omega))]
  by_cases c1 : ∃ k, k < np ∧ a = nI k
  · rw [p_tbT c1, w_tb, p_b1, p_tbF (fun q => hn ⟨c1, q⟩)]
  · rw [p_tbF c1]
theorem fq_roundAt (X : XE x m nc nh nk np dy) {a b : Int32} (hn : ¬ (iX a nk ∧ 0 ≤ b)) : f_X9_roundAt a b x = some (-1) := by
  obtain ⟨ah, pl, hR, hC, hH, hO, hK, hP, hS, hA, z1, z2⟩ := X
  unfold f_X9_roundAt
  rw [x_hasK hK.2.2.1 hK.2.1, p_b1]
  by_cases c1 : iX a nk
  · rw [p_tbT c1, if_neg (fun q => hn ⟨c1, q⟩)]
  · rw [p_tbF c1]
theorem fq_round (X : XE x m nc nh nk np dy) {a b c : Int32} (hn : ¬ (iX a nk ∧ (nI dy ≤ b ∧ b ≤ 999) ∧ (0 ≤ c ∧ c ≤ 3))) : f_X9_round a b c x = some (-1, x) := by
  obtain ⟨ah, pl, hR, hC, hH, hO, hK, hP, hS, hA, z1, z2⟩ := X
  unfold f_X9_round
  rw [x_hasK hK.2.2.1 hK.2.1, p_b1]
  by_cases c1 : iX a nk
  · rw [p_tbT c1, show x 192 0 = nI dy from hS.1.2.2, w_tb, p_b1]
    by_cases c2 : nI dy ≤ b ∧ b ≤ 999
    · rw [p_tbT c2, w_tb, p_b1, p_tbF (fun q => hn ⟨c1, c2, q⟩)]
    · rw [p_tbF c2]
  · rw [p_tbF c1]
theorem fq_account (x : z_S) {a : Int32} (hn : ¬ (0 ≤ a ∧ a ≤ 5)) : f_X9_account a x = some (-1) := by
  unfold f_X9_account
  rw [w_tb, p_b1, p_tbF hn]
theorem fq_type (x : z_S) {a : Int32} (hn : ¬ (32 ≤ a ∧ a ≤ 126)) : f_X9_type a x = some (-1, x) := by
  unfold f_X9_type
  rw [w_tb, p_b1, p_tbF hn]
theorem fq_fault (x : z_S) {a : Int32} (hn : ¬ (0 ≤ a ∧ a ≤ 2)) : f_X9_fault a x = some (-1, x) := by
  unfold f_X9_fault
  rw [w_tb, p_b1, p_tbF hn]
def GF (m : z_S) (nc nh nk np dy : Nat) (o : Option (Int32 × z_S)) : Prop := ∃ x', o = some (1, x') ∧ XE x' m nc nh nk np dy
set_option maxRecDepth 20000 in
set_option maxHeartbeats 4000000 in
theorem v_fails0 {x0 : z_S} (X0 : XE x0 m nc nh nk np dy) : GF m nc nh nk np dy (f_X11_fails x0) := by
  obtain ⟨b0, b1, b2, b3, b4, b5⟩ := X0.b
  obtain ⟨ah, pl, Y⟩ := id X0
  unfold f_X11_fails
  rw [v_mark Y.1, p_b1, v_count_9 Y.1, p_b1, v_count_0 Y, p_b1, v_count_1 Y, p_b1, v_count_2 Y, p_b1, v_count_4 Y, p_b1]
  obtain ⟨x1, f1, X1⟩ := fe_corner X0 (a := nI nc) (b := (5 : Int32)) (c := (5 : Int32)) (d := (0 : Int32)) (fun q => iX_self (by omega) q.1)
  rw [f1, p_b2]
  refine z_letG (fun j18 e18 => ?_)
  refine z_letG (fun j187 e187 => ?_)
  rw [if_pos rfl]
  obtain ⟨x2, f2, X2⟩ := fe_corner X1 (a := (0 : Int32)) (b := (0 : Int32)) (c := (5 : Int32)) (d := (0 : Int32)) (fun q => absurd q.2.1.1 (by decide))
  rw [f2, p_b2, if_pos rfl]
  obtain ⟨x3, f3, X3⟩ := fe_corner X2 (a := (0 : Int32)) (b := (51 : Int32)) (c := (5 : Int32)) (d := (0 : Int32)) (fun q => absurd q.2.1.2 (by decide))
  rw [f3, p_b2, if_pos rfl]
  obtain ⟨x4, f4, X4⟩ := fe_corner X3 (a := (0 : Int32)) (b := (5 : Int32)) (c := (101 : Int32)) (d := (0 : Int32)) (fun q => absurd q.2.2.1.2 (by decide))
  rw [f4, p_b2, if_pos rfl]
  obtain ⟨x5, f5, X5⟩ := fe_corner X4 (a := (0 : Int32)) (b := (5 : Int32)) (c := (5 : Int32)) (d := (2 : Int32)) (fun q => absurd q.2.2.2.2 (by decide))
  rw [f5, p_b2, if_pos rfl]
  obtain ⟨x6, f6, X6⟩ := fe_house X5 (a := nI nc) (b := (1 : Int32)) (c := (0 : Int32)) (fun q => iX_self (by omega) q.1)
  rw [f6, p_b2, if_pos rfl]
  obtain ⟨x7, f7, X7⟩ := fe_house X6 (a := (0 : Int32)) (b := (0 : Int32)) (c := (0 : Int32)) (fun q => absurd q.2.1.1 (by decide))
  rw [f7, p_b2, if_pos rfl]
  obtain ⟨x8, f8, X8⟩ := fe_house X7 (a := (0 : Int32)) (b := (6 : Int32)) (c := (0 : Int32)) (fun q => absurd q.2.1.2 (by decide))
  rw [f8, p_b2, if_pos rfl]
  obtain ⟨x9, f9, X9⟩ := fe_house X8 (a := (0 : Int32)) (b := (1 : Int32)) (c := (501 : Int32)) (fun q => absurd q.2.2.2 (by decide))
  rw [f9, p_b2, if_pos rfl]
  obtain ⟨x10, f10, X10⟩ := fe_dog X9 (a := nI nh) (b := (2 : Int32)) (c := (0 : Int32)) (fun q => iX_self (by omega) q.1)
  rw [f10, p_b2, if_pos rfl]
  obtain ⟨x11, f11, X11⟩ := fe_dog X10 (a := (0 : Int32)) (b := (1 : Int32)) (c := (0 : Int32)) (fun q => absurd q.2.1 (by decide))
  rw [f11, p_b2, if_pos rfl]
  obtain ⟨x12, f12, X12⟩ := fe_dog X11 (a := (0 : Int32)) (b := (10 : Int32)) (c := (0 : Int32)) (fun q => absurd q.2.1 (by decide))
  rw [f12, p_b2, if_pos rfl]
  obtain ⟨x13, f13, X13⟩ := fe_dog X12 (a := (0 : Int32)) (b := (2 : Int32)) (c := (9 : Int32)) (fun q => absurd q.2.2.2 (by decide))
  rw [f13, p_b2, if_pos rfl]
  obtain ⟨x14, f14, X14⟩ := fe_pause X13 (a := nI nh) (b := nI dy) (c := nI dy) (fun q => iX_self (by omega) q.1)
  rw [f14, p_b2, if_pos rfl]
  obtain ⟨x15, f15, X15⟩ := fe_pause X14 (a := (0 : Int32)) (b := (nI dy - (1 : Int32))) (c := nI dy) (fun q => nI_sub1 (by omega) q.2.1.1)
  rw [f15, p_b2, if_pos rfl]
  obtain ⟨x16, f16, X16⟩ := fe_pause X15 (a := (0 : Int32)) (b := (nI dy + (1 : Int32))) (c := nI dy) (fun q => nI_add1 (by omega) q.2.2.1)
  rw [f16, p_b2, if_pos rfl]
  obtain ⟨x17, f17, X17⟩ := fe_pause X16 (a := (0 : Int32)) (b := nI dy) (c := (1000 : Int32)) (fun q => absurd q.2.2.2 (by decide))
  rw [f17, p_b2, if_pos rfl]
  rw [e18]
  clear e18 e187 j18 j187
  dsimp only
  refine z_letG (fun j21 e21 => ?_)
  refine z_letG (fun j124 e124 => ?_)
  rw [if_neg (by decide)]
  obtain ⟨x18, f18, X18⟩ := fe_carrier X17 (a := (2 : Int32)) (b := (50 : Int32)) (fun q => absurd q.1.2 (by decide))
  rw [f18, p_b2, if_pos rfl]
  obtain ⟨x19, f19, X19⟩ := fe_carrier X18 (a := (0 : Int32)) (b := (9 : Int32)) (fun q => absurd q.2.1 (by decide))
  rw [f19, p_b2, if_pos rfl]
  obtain ⟨x20, f20, X20⟩ := fe_carrier X19 (a := (0 : Int32)) (b := (501 : Int32)) (fun q => absurd q.2.2 (by decide))
  rw [f20, p_b2, if_pos rfl]
  obtain ⟨x21, f21, X21⟩ := fe_give X20 (a := nI nh) (b := (0 : Int32)) (fun q => iX_self (by omega) q.1)
  rw [f21, p_b2, if_pos rfl]
  obtain ⟨x22, f22, X22⟩ := fe_give X21 (a := (0 : Int32)) (b := nI nk) (fun q => iX_self (by omega) q.2)
  rw [f22, p_b2, if_pos rfl]
  obtain ⟨x23, f23, X23⟩ := fe_giveNone X22 (a := nI nh) (iX_self (by omega))
  rw [f23, p_b2, if_pos rfl]
  obtain ⟨x24, f24, X24⟩ := fe_biscuits X23 (a := nI nk) (b := (1 : Int32)) (fun q => iX_self (by omega) q.1)
  rw [f24, p_b2, if_pos rfl]
  obtain ⟨x25, f25, X25⟩ := fe_biscuits X24 (a := (0 : Int32)) (b := (0 : Int32)) (fun q => absurd q.2.1 (by decide))
  rw [f25, p_b2, if_pos rfl]
  obtain ⟨x26, f26, X26⟩ := fe_biscuits X25 (a := (0 : Int32)) (b := (100 : Int32)) (fun q => absurd q.2.2 (by decide))
  rw [f26, p_b2, if_pos rfl]
  obtain ⟨x27, f27, X27⟩ := fe_set X26 (a := (2 : Int32)) (b := (1 : Int32)) (fun q => absurd q.1 (by decide)) (fun q => absurd q.1 (by decide))
  rw [f27, p_b2, if_pos rfl]
  obtain ⟨x28, f28, X28⟩ := fe_set X27 (a := (0 : Int32)) (b := (21 : Int32)) (fun q => absurd q.2.2 (by decide)) (fun q => absurd q.1 (by decide))
  rw [f28, p_b2, if_pos rfl]
  obtain ⟨x29, f29, X29⟩ := fe_set X28 (a := (1 : Int32)) (b := (51 : Int32)) (fun q => absurd q.1 (by decide)) (fun q => absurd q.2.2 (by decide))
  rw [f29, p_b2, if_pos rfl]
  obtain ⟨x30, f30, X30⟩ := fe_set X29 (a := (0 : Int32)) (b := (0 : Int32)) (fun q => absurd q.2.1 (by decide)) (fun q => absurd q.1 (by decide))
  rw [f30, p_b2, if_pos rfl]
  obtain ⟨x31, f31, X31⟩ := fe_days X30 (a := (0 : Int32)) (fun q => absurd q.1 (by decide))
  rw [f31, p_b2, if_pos rfl]
  obtain ⟨x32, f32, X32⟩ := fe_days X31 (a := (32 : Int32)) (fun q => absurd q.2 (by decide))
  rw [f32, p_b2, if_pos rfl]
  rw [e21]
  clear e21 e124 j21 j124
  dsimp only
  refine z_letG (fun j24 e24 => ?_)
  refine z_letG (fun j33 e33 => ?_)
  rw [if_neg (by decide)]
  obtain ⟨ah', pl', Z⟩ := id X32
  rw [fq_cornerOf X32 (a := nI nc) (b := (0 : Int32)) (fun q => iX_self (by omega) q.1), p_b1, if_pos rfl]
  rw [fq_cornerOf X32 (a := (0 : Int32)) (b := (7 : Int32)) (fun q => absurd q.2.2 (by decide)), p_b1, if_pos rfl]
  rw [v_corner0_0 Z, p_b1, if_pos rfl]
  rw [v_corner0_1 Z, p_b1, if_pos rfl]
  rw [v_corner0_3 Z, p_b1, if_pos rfl]
  rw [fq_houseOf X32 (a := nI nh) (b := (0 : Int32)) (fun q => iX_self (by omega) q.1), p_b1, if_pos rfl]
  rw [fq_houseOf X32 (a := (0 : Int32)) (b := (12 : Int32)) (fun q => absurd q.2.2 (by decide)), p_b1, if_pos rfl]
  rw [fq_shareBits X32 (a := nI nh) (iX_self (by omega)), p_b1, if_pos rfl]
  rw [fq_carrierOf X32 (a := nI nk) (b := (0 : Int32)) (fun q => iX_self (by omega) q.1), p_b1, if_pos rfl]
  rw [fq_carrierOf X32 (a := (0 : Int32)) (b := (8 : Int32)) (fun q => absurd q.2.2 (by decide)), p_b1, if_pos rfl]
  rw [v_count_3 Z, p_b1]
  rw [fq_pauseOf X32 (a := nI np) (b := (0 : Int32)) (fun q => iX_self (by omega) q.1), p_b1, if_pos rfl]
  rw [fq_pauseOf X32 (a := (0 : Int32)) (b := (3 : Int32)) (fun q => absurd q.2.2 (by decide)), p_b1, if_pos rfl]
  rw [fq_roundAt X32 (a := nI nk) (b := (0 : Int32)) (fun q => iX_self (by omega) q.1), p_b1, if_pos rfl]
  rw [fq_roundAt X32 (a := (0 : Int32)) (b := (-1 : Int32)) (fun q => absurd q.2 (by decide)), p_b1, if_pos rfl]
  rw [fq_round X32 (a := nI nk) (b := nI dy) (c := (0 : Int32)) (fun q => iX_self (by omega) q.1), p_b2, if_pos rfl]
  rw [fq_round X32 (a := (0 : Int32)) (b := (nI dy - (1 : Int32))) (c := (0 : Int32)) (fun q => nI_sub1 (by omega) q.2.1.1), p_b2, if_pos rfl]
  rw [fq_round X32 (a := (0 : Int32)) (b := (1000 : Int32)) (c := (0 : Int32)) (fun q => absurd q.2.1.2 (by decide)), p_b2, if_pos rfl]
  rw [fq_round X32 (a := (0 : Int32)) (b := nI dy) (c := (4 : Int32)) (fun q => absurd q.2.2.2 (by decide)), p_b2, if_pos rfl]
  rw [fq_lightest X32 (a := nI nh) (b := nI dy) (fun q => iX_self (by omega) q.1), p_b2, if_pos rfl]
  rw [fq_lightest X32 (a := (0 : Int32)) (b := (1000 : Int32)) (fun q => absurd q.2.2 (by decide)), p_b2, if_pos rfl]
  rw [fq_nextDog X32 (a := nI nh) (iX_self (by omega)), p_b1, if_pos rfl]
  rw [fq_account _ (a := (6 : Int32)) (fun q => absurd q.2 (by decide)), p_b1, if_pos rfl]
  rw [v_count_11, p_b1, if_pos rfl]
  rw [v_count_22, p_b1, if_pos rfl]
  rw [fq_type _ (a := (31 : Int32)) (fun q => absurd q.1 (by decide)), p_b2, if_pos rfl]
  rw [fq_fault _ (a := (3 : Int32)) (fun q => absurd q.2 (by decide)), p_b2, if_pos rfl]
  rw [e24]
  clear e24 e33 j24 j33
  dsimp only
  rw [if_neg (by decide), v_mark Z.1, p_b1, lg_self, if_pos rfl, v_count_9 Z.1, p_b1, if_pos rfl]
  exact ⟨_, rfl, X32⟩
theorem v_fails (hR : RX x m) : ∃ x', f_X11_fails x = some (1, x') ∧ RX x' m := by
  obtain ⟨nc, nh, nk, np, dy, ah, pl, X⟩ := hR.ex
  obtain ⟨x', e, ⟨ah', pl', X'⟩⟩ := v_fails0 ⟨ah, pl, X⟩
  exact ⟨x', e, X'.1⟩
end FE
