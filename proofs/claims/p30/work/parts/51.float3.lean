/-! THE PURE PART. 39: shares and means -/
theorem lg_of {n : Nat} (h : 0 < n) : ∃ L, 2 ^ L ≤ n ∧ n < 2 ^ (L + 1) := ⟨n.log2, Nat.log2_self_le (by omega), Nat.lt_log2_self⟩
theorem lg_le {a b L K : Nat} (h1 : 2 ^ L ≤ a) (h : a ≤ b) (h2 : b < 2 ^ (K + 1)) : L ≤ K := by
  have : L < K + 1 := (Nat.pow_lt_pow_iff_right (by omega : 1 < 2)).mp (Nat.lt_of_le_of_lt (Nat.le_trans h1 h) h2)
  omega
theorem sc_lo {M L P : Nat} (h : 2 ^ L ≤ M) (hL : L ≤ P) : 2 ^ P ≤ M * 2 ^ (P - L) := by
  have : (2 : Nat) ^ P = 2 ^ L * 2 ^ (P - L) := by rw [← Nat.pow_add]; congr 1; omega
  rw [this]
  exact Nat.mul_le_mul_right _ h
theorem sc_hi {M L P : Nat} (h : M < 2 ^ (L + 1)) (hL : L ≤ P) : M * 2 ^ (P - L) < 2 ^ (P + 1) := by
  have : (2 : Nat) ^ (P + 1) = 2 ^ (L + 1) * 2 ^ (P - L) := by rw [← Nat.pow_add]; congr 1; omega
  rw [this]
  exact Nat.mul_lt_mul_of_pos_right h (Nat.two_pow_pos _)
theorem i2f_of {a L : Nat} (h1 : 2 ^ L ≤ a) (h2 : a < 2 ^ (L + 1)) (hL : L ≤ 23) : f32 (FP.i2f (nI a)) (a * 2 ^ (23 - L)) (-(23 - L : Nat)) := by
  have hlt : a < 2 ^ 31 := Nat.lt_of_lt_of_le h2 (Nat.pow_le_pow_right (by omega) (by omega))
  have e := ex32 (M := a) (k := 0) (L := L) (e := 0) h1 h2 hL (by omega) (by omega)
  rw [Nat.pow_zero, Nat.mul_one, show ((0 : Int) - ((0 : Nat) : Int)) = 0 from by omega, show ((0 : Int) - ((23 - L : Nat) : Int)) = -((23 - L : Nat) : Int) from by omega] at e
  show f32 (UInt32.ofNat (FP.Core.encode FP.Core.b32 (FP.Core.round FP.Core.b32 (FP.Core.ofInt (nI a).toInt)))) _ _
  rw [nI_toInt hlt, show FP.Core.ofInt (a : Int) = .fin false a 0 from by
    unfold FP.Core.ofInt
    rw [Int.natAbs_natCast, decide_eq_false (by omega)]]
  exact e
theorem i2d_of {a L : Nat} (h1 : 2 ^ L ≤ a) (h2 : a < 2 ^ (L + 1)) (hL : L ≤ 23) : f64 (FP.i2d (nI a)) (a * 2 ^ (52 - L)) (-(52 - L : Nat)) := by
  have hlt : a < 2 ^ 31 := Nat.lt_of_lt_of_le h2 (Nat.pow_le_pow_right (by omega) (by omega))
  have e := ex64 (M := a) (k := 0) (L := L) (e := 0) h1 h2 (by omega) (by omega) (by omega)
  rw [Nat.pow_zero, Nat.mul_one, show ((0 : Int) - ((0 : Nat) : Int)) = 0 from by omega, show ((0 : Int) - ((52 - L : Nat) : Int)) = -((52 - L : Nat) : Int) from by omega] at e
  show f64 (UInt64.ofNat (FP.Core.encode FP.Core.b64 (FP.Core.round FP.Core.b64 (FP.Core.ofInt (nI a).toInt)))) _ _
  rw [nI_toInt hlt, show FP.Core.ofInt (a : Int) = .fin false a 0 from by
    unfold FP.Core.ofInt
    rw [Int.natAbs_natCast, decide_eq_false (by omega)]]
  exact e
theorem i2f_0 : FP.i2f (nI 0) = 0 := by decide
/-- a share: 0, or from 2^-13 to 1, a multiple of 2^-36 -/
def fSh (r : UInt32) : Prop := r = 0 ∨ ∃ c q, f32 r c q ∧ 2 ^ 23 ≤ c ∧ c < 2 ^ 24 ∧ -36 ≤ q ∧ q ≤ -23 ∧ (q = -23 → c = 2 ^ 23)
theorem fSh.share {r : UInt32} (h : fSh r) : fShare r := by
  rcases h with h | ⟨c, q, h, h1, h2, h3, h4, -⟩
  · exact Or.inl h
  · exact Or.inr ⟨c, q, h, h1, h2, by omega, h4⟩
theorem share_of {a b : Nat} (hab : a ≤ b) (hb : 1 ≤ b) (hb2 : b ≤ 5000) : fSh (FP.fdiv (FP.i2f (nI a)) (FP.i2f (nI b))) ∧ ∃ c q, f32 (FP.fdiv (FP.i2f (nI a)) (FP.i2f (nI b))) c q := by
  obtain ⟨Lb, b1, b2⟩ := lg_of (n := b) (by omega)
  have hLb : Lb ≤ 12 := lg_le (K := 12) b1 (Nat.le_refl _) (by omega)
  have fb := i2f_of b1 b2 (by omega)
  have cb1 := sc_lo b1 (P := 23) (by omega)
  have cb2 := sc_hi b2 (P := 23) (by omega)
  rcases Nat.eq_zero_or_pos a with e | ha
  · subst e
    have hz : FP.fdiv (FP.i2f (nI 0)) (FP.i2f (nI b)) = 0 := by
      rw [i2f_0]
      show UInt32.ofNat (FP.Core.encode FP.Core.b32 (FP.Core.quotient FP.Core.b32 (FP.Core.decode FP.Core.b32 (0 : UInt32).toNat) (FP.Core.decode FP.Core.b32 (FP.i2f (nI b)).toNat))) = 0
      rw [f32_0.1, fb.1]
      unfold FP.Core.quotient
      dsimp only
      rw [if_neg (by omega), show ((false : Bool) != false) = false from rfl, rr_0, qmin32]
      decide
    rw [hz]
    exact ⟨Or.inl rfl, 0, -149, f32_0⟩
  · obtain ⟨La, a1, a2⟩ := lg_of ha
    have hLab : La ≤ Lb := lg_le a1 hab b2
    have fa := i2f_of a1 a2 (by omega)
    have ca1 := sc_lo a1 (P := 23) (by omega)
    have ca2 := sc_hi a2 (P := 23) (by omega)
    obtain ⟨k, hk⟩ : ∃ k : Int, k = if b * 2 ^ (23 - Lb) ≤ a * 2 ^ (23 - La) then 0 else -1 := ⟨_, rfl⟩
    have hk' : k = 0 ∨ k = -1 := by
      rw [hk]
      by_cases w : b * 2 ^ (23 - Lb) ≤ a * 2 ^ (23 - La)
      · rw [if_pos w]; exact Or.inl rfl
      · rw [if_neg w]; exact Or.inr rfl
    obtain ⟨c, q, h1, h2, h3, h4, h5⟩ := fl_quot (f := FP.Core.b32) (P := 23) (e := -((23 - La : Nat) : Int) - -((23 - Lb : Nat) : Int)) rfl ca1 ca2 cb1 cb2 hk (by rw [qmin32]; omega) (by rw [qmax32]; omega)
    have hd : FP.fdiv (FP.i2f (nI a)) (FP.i2f (nI b)) = UInt32.ofNat (FP.Core.encode FP.Core.b32 (.fin false c q)) := by
      show UInt32.ofNat (FP.Core.encode FP.Core.b32 (FP.Core.quotient FP.Core.b32 (FP.Core.decode FP.Core.b32 (FP.i2f (nI a)).toNat) (FP.Core.decode FP.Core.b32 (FP.i2f (nI b)).toNat))) = _
      rw [fa.1, fb.1, ← h1]
      unfold FP.Core.quotient
      dsimp only
      rw [if_neg (by omega)]
      rfl
    have hle : La = Lb → a * 2 ^ (23 - La) ≤ b * 2 ^ (23 - Lb) := by
      intro e
      rw [e]
      exact Nat.mul_le_mul_right _ hab
    have hk0 : k = 0 → b * 2 ^ (23 - Lb) ≤ a * 2 ^ (23 - La) := by
      intro e
      by_cases w : b * 2 ^ (23 - Lb) ≤ a * 2 ^ (23 - La)
      · exact w
      · rw [if_neg w] at hk; omega
    have hfin : f32 (FP.fdiv (FP.i2f (nI a)) (FP.i2f (nI b))) c q := by
      rw [hd]
      exact enc32 h2 h3 (by omega) (by omega)
    refine ⟨Or.inr ⟨c, q, hfin, h2, h3, by omega, ?_, ?_⟩, c, q, hfin⟩
    · rcases hk' with e | e
      · by_cases w : La = Lb
        · have := h5 (Nat.le_antisymm (hle w) (hk0 e))
          omega
        · omega
      · omega
    · intro e23
      rcases hk' with e | e
      · by_cases w : La = Lb
        · exact (h5 (Nat.le_antisymm (hle w) (hk0 e))).1
        · omega
      · omega
/-- a double that is M 2^-36 -/
def v64 (d : UInt64) (M : Nat) : Prop := (M = 0 ∧ f64 d 0 (-1074)) ∨ ∃ L, 2 ^ L ≤ M ∧ M < 2 ^ (L + 1) ∧ L ≤ 52 ∧ f64 d (M * 2 ^ (52 - L)) (-36 - (52 - L : Nat))
theorem v64.num {d : UInt64} {M : Nat} (h : v64 d M) : ∃ c q, f64 d c q ∧ q ≤ -36 ∧ ∀ e : Int, e ≤ q → c * 2 ^ (q - e).toNat = M * 2 ^ (-36 - e).toNat := by
  rcases h with ⟨e, h⟩ | ⟨L, h1, h2, h3, h⟩
  · exact ⟨0, -1074, h, by omega, fun x _ => by rw [e, Nat.zero_mul, Nat.zero_mul]⟩
  · refine ⟨_, _, h, by omega, fun x hx => ?_⟩
    rw [Nat.mul_assoc, ← Nat.pow_add]
    congr 2
    omega
theorem v64_of {M k : Nat} (hM : M < 2 ^ 52) (hk : k < 1100) (hk2 : M = 0 → True) : v64 (UInt64.ofNat (FP.Core.encode FP.Core.b64 (FP.Core.roundRatio FP.Core.b64 false (M * 2 ^ k) 1 (-36 - k)))) M := by
  rcases Nat.eq_zero_or_pos M with e | h
  · subst e
    refine Or.inl ⟨rfl, ?_⟩
    rw [Nat.zero_mul, rr_0, qmin64]
    exact enc64_0
  · obtain ⟨L, h1, h2⟩ := lg_of h
    have hL : L ≤ 52 := lg_le (K := 52) h1 (Nat.le_refl _) (by omega)
    exact Or.inr ⟨L, h1, h2, hL, ex64 h1 h2 hL (by omega) (by omega)⟩
theorem dnan {d : UInt64} {c : Nat} {q : Int} (h : f64 d c q) : FP.d2f d = UInt32.ofNat (FP.Core.encode FP.Core.b32 (FP.Core.roundRatio FP.Core.b32 false c 1 q)) := by
  unfold FP.d2f
  rw [if_neg (by
    show ¬ (FP.Core.isNaN FP.Core.b64 d.toNat = true)
    unfold FP.Core.isNaN
    rw [h.1]
    exact fun w => by simp at w)]
  show UInt32.ofNat (FP.Core.encode FP.Core.b32 (FP.Core.round FP.Core.b32 (FP.Core.decode FP.Core.b64 d.toNat))) = _
  rw [h.1]
  rfl
theorem fnan {d : UInt32} {c : Nat} {q : Int} (h : f32 d c q) : FP.f2d d = UInt64.ofNat (FP.Core.encode FP.Core.b64 (FP.Core.roundRatio FP.Core.b64 false c 1 q)) := by
  unfold FP.f2d
  rw [if_neg (by
    show ¬ (FP.Core.isNaN FP.Core.b32 d.toNat = true)
    unfold FP.Core.isNaN
    rw [h.1]
    exact fun w => by simp at w)]
  show UInt64.ofNat (FP.Core.encode FP.Core.b64 (FP.Core.round FP.Core.b64 (FP.Core.decode FP.Core.b32 d.toNat))) = _
  rw [h.1]
  rfl
theorem v64_share {r : UInt32} (h : fSh r) : ∃ S, S ≤ 2 ^ 36 ∧ v64 (FP.f2d r) S := by
  rcases h with h | ⟨c, q, h, h1, h2, h3, h4, h5⟩
  · refine ⟨0, by omega, Or.inl ⟨rfl, ?_⟩⟩
    rw [h, fnan f32_0, rr_0, qmin64]
    exact enc64_0
  · obtain ⟨k, hk⟩ : ∃ k : Nat, (q + 36 : Int) = k := ⟨(q + 36).toNat, by omega⟩
    have hk13 : k ≤ 13 := by omega
    refine ⟨c * 2 ^ k, ?_, ?_⟩
    · by_cases e : k = 13
      · have := h5 (by omega)
        rw [this, e]
        decide
      · have : 2 ^ k ≤ 2 ^ 12 := Nat.pow_le_pow_right (by omega) (by omega)
        calc c * 2 ^ k ≤ 2 ^ 24 * 2 ^ 12 := Nat.mul_le_mul (by omega) this
          _ = 2 ^ 36 := by decide
    · refine Or.inr ⟨23 + k, ?_, ?_, by omega, ?_⟩
      · rw [Nat.pow_add]; exact Nat.mul_le_mul_right _ h1
      · rw [show 23 + k + 1 = 24 + k from by omega, Nat.pow_add]; exact Nat.mul_lt_mul_of_pos_right h2 (Nat.two_pow_pos _)
      · have e := ex64 (M := c) (k := 0) (L := 23) (e := q) h1 h2 (by omega) (by omega) (by omega)
        rw [Nat.pow_zero, Nat.mul_one, show (q - ((0 : Nat) : Int)) = q from by omega] at e
        rw [fnan h, show c * 2 ^ k * 2 ^ (52 - (23 + k)) = c * 2 ^ (52 - 23) from by rw [Nat.mul_assoc, ← Nat.pow_add]; congr 2; omega, show (-36 - ((52 - (23 + k) : Nat) : Int)) = q - ((52 - 23 : Nat) : Int) from by omega]
        exact e
theorem v64_f {d : UInt64} {M : Nat} (h : v64 d M) : ∃ c q, f64 d c q := by
  obtain ⟨c, q, h, -⟩ := h.num
  exact ⟨c, q, h⟩
theorem v64_q {d : UInt64} {M : Nat} (h : v64 d M) : ∃ c q, f64 d c q ∧ -1074 ≤ q ∧ q ≤ -36 ∧ ∀ e : Int, e ≤ q → c * 2 ^ (q - e).toNat = M * 2 ^ (-36 - e).toNat := by
  rcases h with ⟨e, h⟩ | ⟨L, h1, h2, h3, h⟩
  · exact ⟨0, -1074, h, by omega, by omega, fun x _ => by rw [e, Nat.zero_mul, Nat.zero_mul]⟩
  · refine ⟨_, _, h, by omega, by omega, fun x hx => ?_⟩
    rw [Nat.mul_assoc, ← Nat.pow_add]
    congr 2
    omega
theorem v64_add {x y : UInt64} {M S : Nat} (hx : v64 x M) (hy : v64 y S) (hb : M + S < 2 ^ 52) : v64 (FP.dadd x y) (M + S) := by
  obtain ⟨c, q, h, hq0, hq, hc⟩ := v64_q hx
  obtain ⟨c', q', h', hq0', hq', hc'⟩ := v64_q hy
  obtain ⟨e, he⟩ : ∃ e, e = min q q' := ⟨_, rfl⟩
  obtain ⟨k, hk⟩ : ∃ k : Nat, (-36 - e : Int) = k := ⟨(-36 - e).toNat, by omega⟩
  have hk' : (-36 - e).toNat = k := by omega
  have u : FP.Core.sumUnits false c q false c' q' e = (((M + S) * 2 ^ k : Nat) : Int) := by
    unfold FP.Core.sumUnits FP.Core.signed FP.Core.inUnits
    simp only [Bool.false_eq_true, if_false]
    rw [hc e (by omega), hc' e (by omega), hk', Nat.add_mul]
    omega
  have hs : FP.Core.exactSum (.fin false c q) (.fin false c' q') = .fin false ((M + S) * 2 ^ k) e := by
    unfold FP.Core.exactSum
    simp only [← he, u, Int.natAbs_natCast]
    congr 1
    unfold FP.Core.sumSign
    by_cases w : (((M + S) * 2 ^ k : Nat) : Int) = 0
    · rw [if_pos w]; rfl
    · rw [if_neg w]
      exact decide_eq_false (by omega)
  have hd : FP.dadd x y = UInt64.ofNat (FP.Core.encode FP.Core.b64 (FP.Core.roundRatio FP.Core.b64 false ((M + S) * 2 ^ k) 1 (-36 - k))) := by
    show UInt64.ofNat (FP.Core.encode FP.Core.b64 (FP.Core.round FP.Core.b64 (FP.Core.exactSum (FP.Core.decode FP.Core.b64 x.toNat) (FP.Core.decode FP.Core.b64 y.toNat)))) = _
    rw [h.1, h'.1, hs, show (-36 - (k : Int)) = e from by omega]
    rfl
  rw [hd]
  exact v64_of hb (by omega) (fun _ => trivial)
/-- a mean -/
theorem mean_of {x : UInt64} {M n : Nat} (hx : v64 x M) (hn : 1 ≤ n) (hn2 : n ≤ 24) (hM : M ≤ n * 2 ^ 36) : (∃ c q, f64 (FP.ddiv x (FP.i2d (nI n))) c q) ∧ (∃ c q, f32 (FP.d2f (FP.ddiv x (FP.i2d (nI n)))) c q) ∧ fShare (FP.d2f (FP.ddiv x (FP.i2d (nI n)))) := by
  obtain ⟨Ln, n1, n2⟩ := lg_of (n := n) (by omega)
  have hLn : Ln ≤ 4 := lg_le (K := 4) n1 (Nat.le_refl _) (by omega)
  have fn := i2d_of n1 n2 (by omega)
  have cn1 := sc_lo n1 (P := 52) (by omega)
  have cn2 := sc_hi n2 (P := 52) (by omega)
  rcases hx with ⟨e, h⟩ | ⟨L, h1, h2, h3, h⟩
  · have hz : FP.ddiv x (FP.i2d (nI n)) = UInt64.ofNat (FP.Core.encode FP.Core.b64 (.fin false 0 (-1074))) := by
      show UInt64.ofNat (FP.Core.encode FP.Core.b64 (FP.Core.quotient FP.Core.b64 (FP.Core.decode FP.Core.b64 x.toNat) (FP.Core.decode FP.Core.b64 (FP.i2d (nI n)).toNat))) = _
      rw [h.1, fn.1]
      unfold FP.Core.quotient
      dsimp only
      rw [if_neg (by omega), show ((false : Bool) != false) = false from rfl, rr_0, qmin64]
    have hz2 : FP.d2f (FP.ddiv x (FP.i2d (nI n))) = 0 := by
      rw [hz, dnan enc64_0, rr_0, qmin32]
      decide
    rw [hz2, hz]
    exact ⟨⟨_, _, enc64_0⟩, ⟨_, _, f32_0⟩, Or.inl rfl⟩
  · have hLL : L ≤ Ln + 36 := lg_le h1 hM (by rw [show Ln + 36 + 1 = Ln + 1 + 36 from by omega, Nat.pow_add 2 (Ln + 1)]; exact Nat.mul_lt_mul_of_pos_right n2 (Nat.two_pow_pos _))
    have cx1 := sc_lo h1 h3
    have cx2 := sc_hi h2 h3
    obtain ⟨k, hk⟩ : ∃ k : Int, k = if n * 2 ^ (52 - Ln) ≤ M * 2 ^ (52 - L) then 0 else -1 := ⟨_, rfl⟩
    have hk' : k = 0 ∨ k = -1 := by
      rw [hk]
      by_cases w : n * 2 ^ (52 - Ln) ≤ M * 2 ^ (52 - L)
      · rw [if_pos w]; exact Or.inl rfl
      · rw [if_neg w]; exact Or.inr rfl
    obtain ⟨c, q, g1, g2, g3, g4, g5⟩ := fl_quot (f := FP.Core.b64) (P := 52) (e := (-36 - ((52 - L : Nat) : Int)) - -((52 - Ln : Nat) : Int)) rfl cx1 cx2 cn1 cn2 hk (by rw [qmin64]; omega) (by rw [qmax64]; omega)
    have hd : FP.ddiv x (FP.i2d (nI n)) = UInt64.ofNat (FP.Core.encode FP.Core.b64 (.fin false c q)) := by
      show UInt64.ofNat (FP.Core.encode FP.Core.b64 (FP.Core.quotient FP.Core.b64 (FP.Core.decode FP.Core.b64 x.toNat) (FP.Core.decode FP.Core.b64 (FP.i2d (nI n)).toNat))) = _
      rw [h.1, fn.1, ← g1]
      unfold FP.Core.quotient
      dsimp only
      rw [if_neg (by omega)]
      rfl
    have hk0 : k = 0 → n * 2 ^ (52 - Ln) ≤ M * 2 ^ (52 - L) := by
      intro e
      by_cases w : n * 2 ^ (52 - Ln) ≤ M * 2 ^ (52 - L)
      · exact w
      · rw [if_neg w] at hk; omega
    have hle : L = Ln + 36 → M * 2 ^ (52 - L) ≤ n * 2 ^ (52 - Ln) := by
      intro e
      calc M * 2 ^ (52 - L) ≤ n * 2 ^ 36 * 2 ^ (52 - L) := Nat.mul_le_mul_right _ hM
        _ = n * 2 ^ (52 - Ln) := by rw [Nat.mul_assoc, ← Nat.pow_add]; congr 2; omega
    have hfin : f64 (FP.ddiv x (FP.i2d (nI n))) c q := by
      rw [hd]
      exact enc64 g2 g3 (by omega) (by omega)
    have hq52 : q ≤ -52 ∧ (q = -52 → c = 2 ^ 52) := by
      rcases hk' with e | e
      · by_cases w : L = Ln + 36
        · have := g5 (Nat.le_antisymm (hle w) (hk0 e))
          omega
        · omega
      · omega
    obtain ⟨c2, q2, t1, t2, t3, t4, t5⟩ := fl_narrow (cd := c) (qd := q) g2 g3 (by omega) (by omega)
    have hf : f32 (FP.d2f (FP.ddiv x (FP.i2d (nI n)))) c2 q2 := by
      rw [dnan hfin, t1]
      exact enc32 t2 t3 (by omega) (by omega)
    refine ⟨⟨c, q, hfin⟩, ⟨c2, q2, hf⟩, Or.inr ⟨c2, q2, hf, t2, t3, by omega, ?_⟩⟩
    by_cases w : q = -52
    · have := t5 (hq52.2 w)
      omega
    · omega
