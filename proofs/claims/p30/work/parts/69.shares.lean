/-! p30, THE PURE PART. 10: the bits of shares -/
theorem fl_nearS {n d K : Nat} (hd : 0 < d) (h : 2 * n < (2 * K + 1) * d) : FP.Core.nearest n d ≤ K := by
  have h3 := Nat.div_add_mod n d
  have e2 : (2 * K + 1) * d = 2 * (d * K) + d := by rw [Nat.add_mul, Nat.one_mul, Nat.mul_assoc, Nat.mul_comm K d]
  have h1 : n / d ≤ K := by
    have h4 : n / d < K + 1 := (Nat.div_lt_iff_lt_mul hd).mpr (by rw [Nat.add_mul, Nat.one_mul, Nat.mul_comm K d]; omega)
    omega
  unfold FP.Core.nearest
  by_cases e : n / d = K
  · rw [e] at h3
    rw [if_pos (by omega)]
    omega
  · by_cases q : 2 * (n % d) < d
    · rw [if_pos q]; exact h1
    · rw [if_neg q]
      by_cases q2 : d < 2 * (n % d)
      · rw [if_pos q2]; omega
      · rw [if_neg q2]; omega
theorem fl_quot2 {f : FP.Core.Fmt} {P ca cb : Nat} {e k : Int} (hp : f.p = P + 1) (a1 : 2 ^ P ≤ ca) (a2 : ca < 2 ^ (P + 1)) (b1 : 2 ^ P ≤ cb) (b2 : cb < 2 ^ (P + 1)) (hk : k = if cb ≤ ca then 0 else -1) (hq : f.qmin ≤ k + e - P) (hq2 : k + e - P + 1 ≤ f.qmax) :
    ∃ c, FP.Core.roundRatio f false ca cb e = .fin false c (k + e - P) ∧ 2 ^ P ≤ c ∧ c < 2 ^ (P + 1) ∧ (ca = cb → c = 2 ^ P) := by
  have hP : 0 < 2 ^ P := Nat.two_pow_pos P
  have hPP : 2 ^ (P + 1) = 2 * 2 ^ P := by rw [Nat.pow_succ, Nat.mul_comm]
  have hlead : FP.Core.leading ca cb = k := by
    unfold FP.Core.leading
    rw [fl_log a1 a2, fl_log b1 b2]
    have e1 : ((P : Int) - (P : Int)).toNat = 0 := by omega
    have e2 : (-((P : Int) - (P : Int))).toNat = 0 := by omega
    simp only [e1, e2]
    rw [Nat.pow_zero, Nat.mul_one, Nat.mul_one, hk]
    by_cases q : cb ≤ ca
    · rw [if_pos q, if_pos q]; omega
    · rw [if_neg q, if_neg q]; omega
  have hquan : FP.Core.quantum f ca cb e = k + e - P := by
    unfold FP.Core.quantum
    rw [hlead, hp]
    omega
  have hk2 : (k = 0 ∧ cb ≤ ca) ∨ (k = -1 ∧ ca < cb) := by
    by_cases q : cb ≤ ca
    · rw [if_pos q] at hk; exact Or.inl ⟨hk, q⟩
    · rw [if_neg q] at hk; exact Or.inr ⟨hk, by omega⟩
  obtain ⟨C, hC, g1, g2, g3⟩ : ∃ C, FP.Core.nearest (FP.Core.unitsNum ca e (k + e - P)) (FP.Core.unitsDen cb e (k + e - P)) = C ∧ 2 ^ P ≤ C ∧ C ≤ 2 ^ (P + 1) - 1 ∧ (ca = cb → C = 2 ^ P) := by
    refine ⟨_, rfl, ?_⟩
    unfold FP.Core.unitsNum FP.Core.unitsDen
    rw [show ((k + e - P) - e : Int).toNat = 0 from by omega, Nat.pow_zero, Nat.mul_one]
    rcases hk2 with ⟨k0, h⟩ | ⟨k1, h⟩
    · rw [show (e - (k + e - P) : Int).toNat = P from by omega]
      refine ⟨fl_nearG (by omega) ?_, fl_nearS (by omega) ?_, fun e => ?_⟩
      · rw [Nat.mul_comm ca]; exact Nat.mul_le_mul_left _ h
      · rw [show 2 * (2 ^ (P + 1) - 1) + 1 = 2 * 2 ^ (P + 1) - 1 by omega, Nat.sub_mul, Nat.one_mul, show 2 * (ca * 2 ^ P) = ca * 2 ^ (P + 1) by rw [hPP, Nat.mul_left_comm], Nat.mul_right_comm 2, Nat.mul_comm (2 * cb)]
        have h5 : 2 ^ (P + 1) * (2 * cb) = 2 ^ (P + 1) * ca + 2 ^ (P + 1) * (2 * cb - ca) := by rw [← Nat.mul_add]; congr 1; omega
        have h6 : 2 ^ (P + 1) ≤ 2 ^ (P + 1) * (2 * cb - ca) := Nat.le_mul_of_pos_right _ (by omega)
        rw [Nat.mul_comm ca, h5]
        omega
      · rw [e, Nat.mul_comm]
        exact fl_nearM (by omega)
    · rw [show (e - (k + e - P) : Int).toNat = P + 1 from by omega]
      refine ⟨fl_nearG (by omega) ?_, fl_nearS (by omega) ?_, fun e => by omega⟩
      · rw [hPP, ← Nat.mul_assoc, Nat.mul_comm (ca * 2)]
        exact Nat.mul_le_mul_left _ (by omega)
      · rw [show 2 * (2 ^ (P + 1) - 1) + 1 = 2 * 2 ^ (P + 1) - 1 by omega, Nat.sub_mul, Nat.one_mul, Nat.mul_assoc 2]
        have h5 : 2 ^ (P + 1) * cb = 2 ^ (P + 1) * ca + 2 ^ (P + 1) * (cb - ca) := by rw [← Nat.mul_add]; congr 1; omega
        have h6 : 2 ^ (P + 1) ≤ 2 ^ (P + 1) * (cb - ca) := Nat.le_mul_of_pos_right _ (by omega)
        rw [Nat.mul_comm ca, h5]
        omega
  unfold FP.Core.roundRatio
  rw [if_neg (by omega), hquan]
  unfold FP.Core.roundAt
  rw [hC]
  exact ⟨C, fl_settle hp (by omega) (by omega), g1, by omega, g3⟩
theorem share_q {a b : Nat} (ha : 1 ≤ a) (hab : a ≤ b) (hb2 : b ≤ 5000) : ∃ c q, f32 (FP.fdiv (FP.i2f (nI a)) (FP.i2f (nI b))) c q ∧ 2 ^ 23 ≤ c ∧ c < 2 ^ 24 ∧ -36 ≤ q ∧ q ≤ -23 ∧ (a = b → c = 2 ^ 23 ∧ q = -23) ∧ (a < b → b ≤ 2 * a → q = -24) ∧ (2 * a < b → q ≤ -25) := by
  obtain ⟨Lb, b1, b2⟩ := lg_of (n := b) (by omega)
  have hLb : Lb ≤ 12 := lg_le (K := 12) b1 (Nat.le_refl _) (by omega)
  have fb := i2f_of b1 b2 (by omega)
  have cb1 := sc_lo b1 (P := 23) (by omega)
  have cb2 := sc_hi b2 (P := 23) (by omega)
  obtain ⟨La, a1, a2⟩ := lg_of (n := a) (by omega)
  have hLab : La ≤ Lb := lg_le a1 hab b2
  have fa := i2f_of a1 a2 (by omega)
  have ca1 := sc_lo a1 (P := 23) (by omega)
  have ca2 := sc_hi a2 (P := 23) (by omega)
  obtain ⟨k, hk⟩ : ∃ k : Int, k = if b * 2 ^ (23 - Lb) ≤ a * 2 ^ (23 - La) then 0 else -1 := ⟨_, rfl⟩
  have hk' : (k = 0 ∧ b * 2 ^ (23 - Lb) ≤ a * 2 ^ (23 - La)) ∨ (k = -1 ∧ a * 2 ^ (23 - La) < b * 2 ^ (23 - Lb)) := by
    rw [hk]
    by_cases w : b * 2 ^ (23 - Lb) ≤ a * 2 ^ (23 - La)
    · rw [if_pos w]; exact Or.inl ⟨rfl, w⟩
    · rw [if_neg w]; exact Or.inr ⟨rfl, by omega⟩
  have same : La = Lb → (k = 0 ↔ b ≤ a) := by
    intro e
    rw [e] at hk'
    have hp : 0 < 2 ^ (23 - Lb) := Nat.two_pow_pos _
    rcases hk' with ⟨k0, h⟩ | ⟨k1, h⟩
    · exact ⟨fun _ => Nat.le_of_mul_le_mul_right h hp, fun _ => k0⟩
    · exact ⟨fun z => by omega, fun z => by have := Nat.mul_le_mul_right (2 ^ (23 - Lb)) z; omega⟩
  have half : La + 1 = Lb → (k = 0 ↔ b ≤ 2 * a) := by
    intro e
    have hp : 0 < 2 ^ (23 - Lb) := Nat.two_pow_pos _
    have e2 : a * 2 ^ (23 - La) = 2 * a * 2 ^ (23 - Lb) := by
      rw [show 23 - La = (23 - Lb) + 1 by omega, Nat.pow_succ, Nat.mul_comm (2 ^ (23 - Lb)) 2, ← Nat.mul_assoc, Nat.mul_comm a 2]
    rw [e2] at hk'
    rcases hk' with ⟨k0, h⟩ | ⟨k1, h⟩
    · exact ⟨fun _ => Nat.le_of_mul_le_mul_right h hp, fun _ => k0⟩
    · exact ⟨fun z => by omega, fun z => by have := Nat.mul_le_mul_right (2 ^ (23 - Lb)) z; omega⟩
  have hk01 : k = 0 ∨ k = -1 := by
    rcases hk' with h | h
    · exact Or.inl h.1
    · exact Or.inr h.1
  obtain ⟨c, h1, h2, h3, h5⟩ := fl_quot2 (f := FP.Core.b32) (P := 23) (e := -((23 - La : Nat) : Int) - -((23 - Lb : Nat) : Int)) rfl ca1 ca2 cb1 cb2 hk (by rw [qmin32]; omega) (by rw [qmax32]; omega)
  obtain ⟨q, hq⟩ : ∃ q : Int, q = k + (-((23 - La : Nat) : Int) - -((23 - Lb : Nat) : Int)) - (23 : Nat) := ⟨_, rfl⟩
  rw [← hq] at h1
  have hq2 : q = k + (La : Int) - (Lb : Int) - 23 := by omega
  have hd : FP.fdiv (FP.i2f (nI a)) (FP.i2f (nI b)) = UInt32.ofNat (FP.Core.encode FP.Core.b32 (.fin false c q)) := by
    show UInt32.ofNat (FP.Core.encode FP.Core.b32 (FP.Core.quotient FP.Core.b32 (FP.Core.decode FP.Core.b32 (FP.i2f (nI a)).toNat) (FP.Core.decode FP.Core.b32 (FP.i2f (nI b)).toNat))) = _
    rw [fa.1, fb.1, ← h1]
    unfold FP.Core.quotient
    dsimp only
    rw [if_neg (by omega)]
    rfl
  have hLL : La = Lb ∨ La + 1 = Lb ∨ La + 2 ≤ Lb := by omega
  have hfar : La + 2 ≤ Lb → 2 * a < b := by
    intro z
    have : 2 ^ (La + 1) * 2 ≤ 2 ^ Lb := by
      rw [← Nat.pow_succ]
      exact Nat.pow_le_pow_right (by omega) z
    omega
  have hnear : La = Lb → b < 2 * a + 2 := by
    intro z
    rw [z] at a1
    have : 2 ^ (Lb + 1) = 2 * 2 ^ Lb := by rw [Nat.pow_succ, Nat.mul_comm]
    omega
  have hnear2 : La = Lb → b ≤ 2 * a := by
    intro z
    rw [z] at a1
    have : 2 ^ (Lb + 1) = 2 * 2 ^ Lb := by rw [Nat.pow_succ, Nat.mul_comm]
    omega
  refine ⟨c, q, by rw [hd]; exact enc32 h2 h3 (by omega) (by omega), h2, h3, by omega, ?_, fun e => ?_, fun e1 e2 => ?_, fun e1 => ?_⟩
  · rcases hLL with z | z | z
    · have := same z
      rcases hk01 with w | w <;> omega
    · rcases hk01 with w | w <;> omega
    · rcases hk01 with w | w <;> omega
  · subst e
    have z : La = Lb := Nat.le_antisymm hLab (lg_le b1 (Nat.le_refl _) a2)
    have w := (same z).mpr (Nat.le_refl _)
    refine ⟨h5 (by rw [z]), by omega⟩
  · rcases hLL with z | z | z
    · have := same z
      rcases hk01 with w | w <;> omega
    · have := half z
      rcases hk01 with w | w <;> omega
    · have := hfar z
      omega
  · rcases hLL with z | z | z
    · have := hnear2 z
      omega
    · have := half z
      rcases hk01 with w | w <;> omega
    · rcases hk01 with w | w <;> omega
theorem x_bits_loop : ∀ (n b f : Nat) (r : UInt32) (c : Nat) (q : Int), (-23 - q).toNat = n → q ≤ -23 → -149 ≤ q → n < f → 2 ≤ b → b + n ≤ 127 → f32 r c q → 2 ^ 23 ≤ c → c < 2 ^ 24 →
    z_lp2 lb_X9_bitsOf_13 f r (nI (b + n)) = some (nI (b * 2 ^ 23 + (c - 2 ^ 23))) := by
  intro n
  induction n with
  | zero =>
    intro b f r c q hn hq _ hf hb hb2 h h1 h2
    obtain ⟨f, rfl⟩ : ∃ w, f = w + 1 := ⟨f - 1, by omega⟩
    have q23 : q = -23 := by omega
    subst q23
    have hcmp : (0 : Int32) ≤ Op.cmpValue (FP.fcmp r FP.fconst1) .g := by
      rcases (cmp_1 h h1 h2 (by omega)).1 rfl with e | e
      · rw [e]; decide
      · rw [e]; decide
    have m := f32_mulK h h1 h2 (by omega) (by omega)
    have e1 : FP.f2i (FP.fmul r 1258291200) = nI c := f2i_of m (by rw [show ((-23 : Int) + 23).toNat = 0 from by decide, show (-((-23 : Int) + 23)).toNat = 0 from by decide]; omega) (by omega)
    show lb_X9_bitsOf_13 _ r (nI (b + 0)) = _
    unfold lb_X9_bitsOf_13
    rw [p_let, if_pos hcmp]
    dsimp only
    rw [p_f32 m, e1, p_let, show (8388608 : Int32) = nI (2 ^ 23) from rfl, nI_sub' h1, Nat.add_zero, pk_shlN ((23 : Int32) &&& 31) 23 (by decide) (by omega), nI_add]
  | succ n ih =>
    intro b f r c q hn hq hq1 hf hb hb2 h h1 h2
    obtain ⟨f, rfl⟩ : ∃ w, f = w + 1 := ⟨f - 1, by omega⟩
    have hcmp : ¬ (0 : Int32) ≤ Op.cmpValue (FP.fcmp r FP.fconst1) .g := by
      rw [(cmp_1 h h1 h2 hq).2 (by omega)]; decide
    have m := f32_mul2 h h1 h2 (by omega) (by omega)
    have v1 := ih b f (FP.fmul r FP.fconst2) c (q + 1) (by omega) (by omega) (by omega) (by omega) hb (by omega) m h1 h2
    show lb_X9_bitsOf_13 (z_lp2 lb_X9_bitsOf_13 f) r (nI (b + (n + 1))) = _
    unfold lb_X9_bitsOf_13
    rw [p_let, if_neg hcmp, if_neg (show ¬ nI (b + (n + 1)) ≤ 1 from nI_ge (a := 1) (by omega) (by omega)), p_f32 m, p_let, show nI (b + (n + 1)) + (-1 : Int32) = nI (b + n) from p_m1 _, p_let]
    exact v1
theorem x_bits {r : UInt32} {c : Nat} {q : Int} (h : f32 r c q) (h1 : 2 ^ 23 ≤ c) (h2 : c < 2 ^ 24) (h3 : -100 ≤ q) (h4 : q ≤ -23) (x : z_S) : f_X9_bitsOf r x = some (nI ((127 - (-23 - q).toNat) * 2 ^ 23 + (c - 2 ^ 23))) := by
  unfold f_X9_bitsOf
  rw [cmp_pos h (by omega), if_pos (by decide)]
  have v := x_bits_loop (-23 - q).toNat (127 - (-23 - q).toNat) z_Fu r c q rfl h4 (by omega) (by show _ < 4096; omega) (by omega) (by omega) h h1 h2
  rw [show 127 - (-23 - q).toNat + (-23 - q).toNat = 127 from by omega] at v
  exact v
theorem x_bits0 (x : z_S) : f_X9_bitsOf 0 x = some 0 := by
  unfold f_X9_bitsOf
  rw [if_neg (by decide)]
section SHARES
variable {x m : z_S} {nc nh nk np dy : Nat} {ah pl : Nat → Nat}
/-- all papers that were not paused -/
def alI (n : Nat → Int32) (h : Nat) : Int32 := (n (90 + 14 * h + 6) + (n (90 + 14 * h + 8) + n (90 + 14 * h + 9))) + n (90 + 14 * h + 10)
theorem v_share (X : XT x m nc nh nk np dy ah pl) {h a b : Nat} (hh : h < nh) (h6 : m 1 (90 + 14 * h + 6) = nI a) (hal : alI (m 1) h = nI b) (hab : a ≤ b) (hb : b ≤ 5000) :
    ∃ v : Int32, f_X9_shareBits (nI h) x = some v ∧ (b = 0 → v = -4) ∧ (0 < b → a = 0 → v = 0) ∧ (0 < b → a = b → v = 1065353216) ∧ (1 ≤ a → a < b → b ≤ 2 * a → 1056964608 ≤ v ∧ v < 1065353216) ∧ (1 ≤ a → 2 * a < b → 0 < v ∧ v < 1056964608) := by
  obtain ⟨hR, hC, hH, hO, hK, hP, hS, hA, z1, z2⟩ := X
  have h24 := hH.1.2.1
  have hr := hH.2.2 h hh
  have e18 : (fun k => x (zi_X_T k)) 18 h = nI a := hr.2.1.1.trans h6
  have ex : ((fun k => x (zi_X_T k)) 18 h + (fun k => x (zi_X_T k)) 20 h) + (fun k => x (zi_X_T k)) 21 h = nI b := by
    rw [hr.2.1.1, hr.2.1.2.2.1, hr.2.1.2.2.2.1]
    exact hal
  unfold f_X9_shareBits
  rw [x_hasH hH.2.1 h24, p_b1, p_tbT ⟨h, hh, rfl⟩, x_due (T := fun k => x (zi_X_T k)) (by omega) ex, p_b1]
  by_cases hz : b = 0
  · rw [if_pos (by rw [hz]; rfl)]
    exact ⟨-4, rfl, fun _ => rfl, fun z => by omega, fun z => by omega, fun z => by omega, fun z => by omega⟩
  · rw [if_neg (nI_ne0 (by omega) (by omega)), x_share (T := fun k => x (zi_X_T k)) (by omega) e18 ex hab (by omega) hb, p_b1]
    by_cases ha : a = 0
    · have hzf : FP.fdiv (FP.i2f (nI a)) (FP.i2f (nI b)) = 0 := by
        subst ha
        obtain ⟨g1, c, q, g2⟩ := share_of (a := 0) (b := b) hab (by omega) hb
        obtain ⟨Lb, b1, b2⟩ := lg_of (n := b) (by omega)
        have hLb : Lb ≤ 12 := lg_le (K := 12) b1 (Nat.le_refl _) (by omega)
        have fb := i2f_of b1 b2 (by omega)
        have cb1 := sc_lo b1 (P := 23) (by omega)
        rw [i2f_0]
        show UInt32.ofNat (FP.Core.encode FP.Core.b32 (FP.Core.quotient FP.Core.b32 (FP.Core.decode FP.Core.b32 (0 : UInt32).toNat) (FP.Core.decode FP.Core.b32 (FP.i2f (nI b)).toNat))) = 0
        rw [f32_0.1, fb.1]
        unfold FP.Core.quotient
        dsimp only
        rw [if_neg (by omega), show ((false : Bool) != false) = false from rfl, rr_0, qmin32]
        decide
      rw [hzf, x_bits0, p_b1]
      exact ⟨0, rfl, fun z => absurd z hz, fun _ _ => rfl, fun _ z => by omega, fun z => by omega, fun z => by omega⟩
    · obtain ⟨c, q, g1, g2, g3, g4, g5, g6, g7, g8⟩ := share_q (a := a) (b := b) (by omega) hab hb
      rw [x_bits g1 g2 g3 (by omega) g5, p_b1]
      refine ⟨_, rfl, fun z => absurd z hz, fun _ z => absurd z ha, fun _ z => ?_, fun _ z1 z2 => ?_, fun _ z1 => ?_⟩
      · obtain ⟨w1, w2⟩ := g6 z
        rw [w1, w2]
        rfl
      · have w := g7 z1 z2
        rw [w]
        exact ⟨nI_le (a := 1056964608) (by omega) (by omega), nI_lt (b := 1065353216) (by omega) (by omega)⟩
      · have w := g8 z1
        exact ⟨nI_lt (a := 0) (by omega) (by omega), nI_lt (b := 1056964608) (by omega) (by omega)⟩
set_option maxHeartbeats 4000000 in
theorem v_mean (X : XT x m nc nh nk np dy ah pl) : ∃ v : Int32, f_X9_meanBits x = some v ∧ (v = -4 ↔ ∀ h, h < nh → alI (m 1) h = 0) := by
  obtain ⟨hR, hC, hH, hO, hK, hP, hS, hA, z1, z2⟩ := X
  have h24 := hH.1.2.1
  have hdy := hS.1.2.1
  have h203 : x 203 0 = nI nh := hH.2.1
  unfold f_X9_meanBits
  rw [p_let]
  have key : ∀ (r i k M : Nat) (d : UInt64) (f : Nat), i + r = nh → k ≤ i → M ≤ k * 2 ^ 36 → v64 d M → r < f → (k = 0 ↔ ∀ h, h < i → alI (m 1) h = 0) → ∃ v : Int32, z_lp3 (lb_X9_meanBits_7 x) f d (nI k) (nI i) = some v ∧ (v = -4 ↔ ∀ h, h < nh → alI (m 1) h = 0) := by
    intro r
    induction r with
    | zero =>
      intro i k M d f hi hk hM hd hf hkz
      obtain ⟨f, rfl⟩ : ∃ w, f = w + 1 := ⟨f - 1, by omega⟩
      obtain rfl : i = nh := by omega
      show ∃ v : Int32, lb_X9_meanBits_7 x _ d (nI k) (nI i) = some v ∧ _
      unfold lb_X9_meanBits_7
      rw [h203, if_pos (Int32.le_refl _)]
      by_cases hz : k = 0
      · rw [if_pos (by rw [hz]; rfl)]
        exact ⟨-4, rfl, fun _ => hkz.mp hz, fun _ => rfl⟩
      · obtain ⟨⟨c1, q1, g1⟩, ⟨c2, q2, g2⟩, g3⟩ := mean_of hd (n := k) (by omega) (by omega) hM
        rw [if_neg (nI_ne0 (by omega) (by omega)), p_f64 g1, p_f32 g2]
        rcases g3 with g3 | ⟨c, q, e1, e2, e3, e4, e5⟩
        · rw [g3, x_bits0, p_b1]
          exact ⟨0, rfl, fun z => absurd z (by decide), fun z => absurd (hkz.mpr z) hz⟩
        · rw [x_bits e1 e2 e3 e4 e5, p_b1]
          refine ⟨_, rfl, fun z => ?_, fun z => absurd (hkz.mpr z) hz⟩
          have h0 := nI_pos' (n := (127 - (-23 - q).toNat) * 2 ^ 23 + (c - 2 ^ 23)) (by omega)
          rw [z] at h0
          exact absurd h0 (by decide)
    | succ r ih =>
      intro i k M d f hi hk hM hd hf hkz
      obtain ⟨f, rfl⟩ : ∃ w, f = w + 1 := ⟨f - 1, by omega⟩
      obtain ⟨u, b, hub, hb, e6, e18, ex, em⟩ := due_of (hH.2.2 i (by omega)) hdy
      have hal : alI (m 1) i = nI b := by
        have hr := hH.2.2 i (by omega)
        have q18 : x (zi_X_T 18) i = m 1 (90 + 14 * i + 6) := hr.2.1.1
        have q20 : x (zi_X_T 20) i = m 1 (90 + 14 * i + 8) + m 1 (90 + 14 * i + 9) := hr.2.1.2.2.1
        have q21 : x (zi_X_T 21) i = m 1 (90 + 14 * i + 10) := hr.2.1.2.2.2.1
        rw [← ex, q18, q20, q21]
        rfl
      show ∃ v : Int32, lb_X9_meanBits_7 x (z_lp3 (lb_X9_meanBits_7 x) f) d (nI k) (nI i) = some v ∧ _
      by_cases hz : b = 0
      · have s1 : ∀ kk, lb_X9_meanBits_7 x kk d (nI k) (nI i) = kk d (nI k) (nI (i + 1)) := by
          intro kk
          unfold lb_X9_meanBits_7
          rw [h203, if_neg (nI_ge (b := nh) (a := i) (by omega) (by omega)), x_due (T := fun k => x (zi_X_T k)) (by omega) ex, p_b1, p_let, if_pos ((nI_z (by omega)).mpr hz)]
          dsimp only
          rw [p_let, zl_1, nI_add]
        rw [s1]
        refine ih (i + 1) k M d f (by omega) (by omega) hM hd (by omega) (hkz.trans ⟨fun z h hh => ?_, fun z h hh => z h (by omega)⟩)
        by_cases e : h = i
        · subst e; rw [hal, hz]; rfl
        · exact z h (by omega)
      · obtain ⟨g1, -⟩ := share_of (a := u) (b := b) hub (by omega) hb
        obtain ⟨S, hS36, hS⟩ := v64_share g1
        have hadd := v64_add hd hS (by omega)
        obtain ⟨c1, q1, g2⟩ := v64_f hS
        obtain ⟨c2, q2, g3⟩ := v64_f hadd
        have s1 : ∀ kk, lb_X9_meanBits_7 x kk d (nI k) (nI i) = kk (FP.dadd d (FP.f2d (FP.fdiv (FP.i2f (nI u)) (FP.i2f (nI b))))) (nI (k + 1)) (nI (i + 1)) := by
          intro kk
          unfold lb_X9_meanBits_7
          rw [h203, if_neg (nI_ge (b := nh) (a := i) (by omega) (by omega)), x_due (T := fun k => x (zi_X_T k)) (by omega) ex, p_b1, p_let, if_neg (fun w => hz ((nI_z (by omega)).mp w)), x_share (T := fun k => x (zi_X_T k)) (by omega) e18 ex hub (by omega) hb, p_b1, p_f64 g2, p_f64 g3, p_let, p_let]
          dsimp only
          rw [p_let, zl_1, nI_add, nI_add]
        rw [s1]
        refine ih (i + 1) (k + 1) (M + S) _ f (by omega) (by omega) (by omega) hadd (by omega) ⟨fun z => absurd z (by omega), fun z => ?_⟩
        have := z i (by omega)
        rw [hal] at this
        exact absurd this (nI_ne0 (by omega) (by omega))
  exact key nh 0 0 0 _ z_Fu (by omega) (by omega) (by omega) (Or.inl ⟨rfl, f64_0⟩) (by show nh < 4096; omega) ⟨fun _ h hh => absurd hh (by omega), fun _ => rfl⟩
end SHARES
