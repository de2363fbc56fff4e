/-! THE PURE PART. 38: the float operations that the two programs use -/
theorem f32_1 : f32 FP.fconst1 (2 ^ 23) (-23) := ⟨by decide, by decide⟩
theorem f32_2 : f32 FP.fconst2 (2 ^ 23) (-22) := ⟨by decide, by decide⟩
theorem f32_K : f32 1258291200 (2 ^ 23) 0 := ⟨by decide, by decide⟩
theorem qmin32 : FP.Core.b32.qmin = -149 := by decide
theorem qmax32 : FP.Core.b32.qmax = 104 := by decide
theorem qmin64 : FP.Core.b64.qmin = -1074 := by decide
theorem qmax64 : FP.Core.b64.qmax = 971 := by decide
theorem rr_0 {f : FP.Core.Fmt} {e : Int} {d : Nat} : FP.Core.roundRatio f false 0 d e = .fin false 0 f.qmin := by
  unfold FP.Core.roundRatio
  rw [if_pos rfl]
theorem enc32_0 : f32 (UInt32.ofNat (FP.Core.encode FP.Core.b32 (.fin false 0 (-149)))) 0 (-149) := by
  rw [show UInt32.ofNat (FP.Core.encode FP.Core.b32 (.fin false 0 (-149))) = 0 from by decide]
  exact f32_0
theorem enc64_0 : f64 (UInt64.ofNat (FP.Core.encode FP.Core.b64 (.fin false 0 (-1074)))) 0 (-1074) := by
  rw [show UInt64.ofNat (FP.Core.encode FP.Core.b64 (.fin false 0 (-1074))) = 0 from by decide]
  exact f64_0
/-- a rounding that is none, in binary32 -/
theorem ex32 {M k L : Nat} {e : Int} (h1 : 2 ^ L ≤ M) (h2 : M < 2 ^ (L + 1)) (hL : L ≤ 23) (hq : -149 ≤ L + e - 23) (hq2 : L + e - 23 ≤ 104) : f32 (UInt32.ofNat (FP.Core.encode FP.Core.b32 (FP.Core.roundRatio FP.Core.b32 false (M * 2 ^ k) 1 (e - k)))) (M * 2 ^ (23 - L)) (e - (23 - L : Nat)) := by
  rw [fl_exact (P := 23) rfl h1 h2 hL (by rw [qmin32]; omega) (by rw [qmax32]; omega)]
  refine enc32 ?_ ?_ (by omega) (by omega)
  · have : (2 : Nat) ^ 23 = 2 ^ L * 2 ^ (23 - L) := by rw [← Nat.pow_add]; congr 1; omega
    rw [this]
    exact Nat.mul_le_mul_right _ h1
  · have : (2 : Nat) ^ 24 = 2 ^ (L + 1) * 2 ^ (23 - L) := by rw [← Nat.pow_add]; congr 1; omega
    rw [this]
    exact Nat.mul_lt_mul_of_pos_right h2 (Nat.two_pow_pos _)
theorem ex64 {M k L : Nat} {e : Int} (h1 : 2 ^ L ≤ M) (h2 : M < 2 ^ (L + 1)) (hL : L ≤ 52) (hq : -1074 ≤ L + e - 52) (hq2 : L + e - 52 ≤ 971) : f64 (UInt64.ofNat (FP.Core.encode FP.Core.b64 (FP.Core.roundRatio FP.Core.b64 false (M * 2 ^ k) 1 (e - k)))) (M * 2 ^ (52 - L)) (e - (52 - L : Nat)) := by
  rw [fl_exact (P := 52) rfl h1 h2 hL (by rw [qmin64]; omega) (by rw [qmax64]; omega)]
  refine enc64 ?_ ?_ (by omega) (by omega)
  · have : (2 : Nat) ^ 52 = 2 ^ L * 2 ^ (52 - L) := by rw [← Nat.pow_add]; congr 1; omega
    rw [this]
    exact Nat.mul_le_mul_right _ h1
  · have : (2 : Nat) ^ 53 = 2 ^ (L + 1) * 2 ^ (52 - L) := by rw [← Nat.pow_add]; congr 1; omega
    rw [this]
    exact Nat.mul_lt_mul_of_pos_right h2 (Nat.two_pow_pos _)
theorem f32_mul2 {r : UInt32} {c : Nat} {q : Int} (h : f32 r c q) (h1 : 2 ^ 23 ≤ c) (h2 : c < 2 ^ 24) (hq : -149 ≤ q) (hq2 : q ≤ 100) : f32 (FP.fmul r FP.fconst2) c (q + 1) := by
  show f32 (UInt32.ofNat (FP.Core.encode FP.Core.b32 (FP.Core.round FP.Core.b32 (FP.Core.exactProduct (FP.Core.decode FP.Core.b32 r.toNat) (FP.Core.decode FP.Core.b32 FP.fconst2.toNat))))) c (q + 1)
  rw [h.1, f32_2.1]
  have e := ex32 (M := c) (k := 23) (L := 23) (e := q + 1) h1 h2 (Nat.le_refl _) (by omega) (by omega)
  rw [Nat.sub_self, Nat.pow_zero, Nat.mul_one, show (q + 1 - ((0 : Nat) : Int)) = q + 1 from by omega, show (q + 1 - ((23 : Nat) : Int)) = q + -22 from by omega] at e
  exact e
theorem f32_mulK {r : UInt32} {c : Nat} {q : Int} (h : f32 r c q) (h1 : 2 ^ 23 ≤ c) (h2 : c < 2 ^ 24) (hq : -149 ≤ q) (hq2 : q ≤ 80) : f32 (FP.fmul r 1258291200) c (q + 23) := by
  show f32 (UInt32.ofNat (FP.Core.encode FP.Core.b32 (FP.Core.round FP.Core.b32 (FP.Core.exactProduct (FP.Core.decode FP.Core.b32 r.toNat) (FP.Core.decode FP.Core.b32 (1258291200 : UInt32).toNat))))) c (q + 23)
  rw [h.1, f32_K.1]
  have e := ex32 (M := c) (k := 23) (L := 23) (e := q + 23) h1 h2 (Nat.le_refl _) (by omega) (by omega)
  rw [Nat.sub_self, Nat.pow_zero, Nat.mul_one, show (q + 23 - ((0 : Nat) : Int)) = q + 23 from by omega, show (q + 23 - ((23 : Nat) : Int)) = q + 0 from by omega] at e
  exact e
theorem f32_mulK0 : f32 (FP.fmul 0 1258291200) 0 (-149) := ⟨by decide, by decide⟩
theorem f2i_of {r : UInt32} {c n : Nat} {q : Int} (h : f32 r c q) (hn : c * 2 ^ q.toNat / 2 ^ (-q).toNat = n) (hb : n < 2 ^ 31) : FP.f2i r = nI n := by
  show FP.Core.toI (FP.Core.decode FP.Core.b32 r.toNat) = nI n
  rw [h.1]
  unfold FP.Core.toI FP.Core.toInt FP.Core.truncate FP.Core.signed
  simp only [hn, Bool.false_eq_true, if_false]
  rw [show max (-2 ^ 31 : Int) (min (2 ^ 31 - 1) (n : Int)) = (n : Int) from by omega]
  rfl
/-- the digits behind the leading one -/
theorem f32_sub1 {r : UInt32} {c : Nat} (h : f32 r c (-23)) (h1 : 2 ^ 23 ≤ c) (h2 : c < 2 ^ 24) : ∃ d s, f32 (FP.fsub r FP.fconst1) d s ∧ f32 (FP.fmul (FP.fsub r FP.fconst1) 1258291200) (if d = 0 then 0 else d) (if d = 0 then -149 else s + 23) ∧ FP.f2i (FP.fmul (FP.fsub r FP.fconst1) 1258291200) = nI (c - 2 ^ 23) := by
  obtain ⟨T, hTe⟩ : ∃ T, T = c - 2 ^ 23 := ⟨_, rfl⟩
  have hsub : FP.fsub r FP.fconst1 = UInt32.ofNat (FP.Core.encode FP.Core.b32 (FP.Core.roundRatio FP.Core.b32 false T 1 (-23))) := by
    show UInt32.ofNat (FP.Core.encode FP.Core.b32 (FP.Core.round FP.Core.b32 (FP.Core.exactSum (FP.Core.decode FP.Core.b32 r.toNat) (FP.Core.negate (FP.Core.decode FP.Core.b32 FP.fconst1.toNat))))) = _
    rw [h.1, f32_1.1]
    have e1 : FP.Core.sumUnits false c (-23) (!false) (2 ^ 23) (-23) (-23) = (T : Int) := by
      unfold FP.Core.sumUnits FP.Core.signed FP.Core.inUnits
      rw [show ((-23 : Int) - -23).toNat = 0 from by decide]
      simp only [Nat.pow_zero, Nat.mul_one, Bool.not_false, if_true, Bool.false_eq_true, if_false]
      omega
    have e2 : FP.Core.exactSum (.fin false c (-23)) (FP.Core.negate (.fin false (2 ^ 23) (-23))) = .fin false T (-23) := by
      unfold FP.Core.negate FP.Core.exactSum
      simp only [show min (-23 : Int) (-23) = -23 from by decide, e1, Int.natAbs_natCast]
      congr 1
      unfold FP.Core.sumSign
      by_cases q : (T : Int) = 0
      · rw [if_pos q]; rfl
      · rw [if_neg q]
        exact decide_eq_false (by omega)
    rw [e2]
    rfl
  rw [← hTe]
  by_cases hT : T = 0
  · have e0 : FP.fsub r FP.fconst1 = 0 := by
      rw [hsub, hT, rr_0, qmin32]
      decide
    rw [e0, hT]
    refine ⟨0, -149, f32_0, ?_, by decide⟩
    rw [if_pos rfl, if_pos rfl]
    exact f32_mulK0
  · have l1 : 2 ^ T.log2 ≤ T := Nat.log2_self_le hT
    have l2 : T < 2 ^ (T.log2 + 1) := Nat.lt_log2_self
    have l3 : T.log2 ≤ 22 := by
      have : T.log2 < 23 := (Nat.log2_lt hT).mpr (by omega)
      omega
    generalize T.log2 = L at l1 l2 l3
    have e := ex32 (M := T) (k := 0) (L := L) (e := -23) l1 l2 (by omega) (by omega) (by omega)
    rw [Nat.pow_zero, Nat.mul_one, show ((-23 : Int) - ((0 : Nat) : Int)) = -23 from by omega, ← hsub] at e
    have d1 : 2 ^ 23 ≤ T * 2 ^ (23 - L) := by
      have : (2 : Nat) ^ 23 = 2 ^ L * 2 ^ (23 - L) := by rw [← Nat.pow_add]; congr 1; omega
      rw [this]
      exact Nat.mul_le_mul_right _ l1
    have d2 : T * 2 ^ (23 - L) < 2 ^ 24 := by
      have : (2 : Nat) ^ 24 = 2 ^ (L + 1) * 2 ^ (23 - L) := by rw [← Nat.pow_add]; congr 1; omega
      rw [this]
      exact Nat.mul_lt_mul_of_pos_right l2 (Nat.two_pow_pos _)
    have m := f32_mulK e d1 d2 (by omega) (by omega)
    refine ⟨_, _, e, ?_, ?_⟩
    · rw [if_neg (by omega), if_neg (by omega)]
      exact m
    · refine f2i_of m ?_ (by omega)
      rw [show ((-23 : Int) - ((23 - L : Nat) : Int) + 23).toNat = 0 from by omega, show (-((-23 : Int) - ((23 - L : Nat) : Int) + 23)).toNat = 23 - L from by omega, Nat.pow_zero, Nat.mul_one]
      exact Nat.mul_div_cancel _ (Nat.two_pow_pos _)
theorem cmp_pos {r : UInt32} {c : Nat} {q : Int} (h : f32 r c q) (hc : 0 < c) : FP.fcmp r FP.fconst0 = some .gt := by
  show FP.Core.order (FP.Core.decode FP.Core.b32 r.toNat) (FP.Core.decode FP.Core.b32 FP.fconst0.toNat) = _
  rw [h.1, show FP.Core.decode FP.Core.b32 FP.fconst0.toNat = .fin false 0 (-149) from f32_0.1]
  unfold FP.Core.order FP.Core.signed FP.Core.inUnits
  simp only [Bool.false_eq_true, if_false, Nat.zero_mul]
  have : 0 < c * 2 ^ (q - min q (-149)).toNat := Nat.mul_pos hc (Nat.two_pow_pos _)
  exact congrArg some (Int.compare_eq_gt.mpr (by omega))
theorem cmp_1 {r : UInt32} {c : Nat} {q : Int} (h : f32 r c q) (h1 : 2 ^ 23 ≤ c) (h2 : c < 2 ^ 24) (hq : q ≤ -23) : (q = -23 → FP.fcmp r FP.fconst1 = some .gt ∨ FP.fcmp r FP.fconst1 = some .eq) ∧ (q ≠ -23 → FP.fcmp r FP.fconst1 = some .lt) := by
  have hd : FP.fcmp r FP.fconst1 = some (compare ((c : Nat) : Int) ((2 ^ 23 * 2 ^ (-23 - q).toNat : Nat) : Int)) := by
    show FP.Core.order (FP.Core.decode FP.Core.b32 r.toNat) (FP.Core.decode FP.Core.b32 FP.fconst1.toNat) = _
    rw [h.1, f32_1.1]
    unfold FP.Core.order FP.Core.signed FP.Core.inUnits
    simp only [Bool.false_eq_true, if_false]
    rw [show min q (-23) = q from by omega, show (q - q).toNat = 0 from by omega, Nat.pow_zero, Nat.mul_one]
  rw [hd]
  constructor
  · intro e
    rw [e, show ((-23 : Int) - -23).toNat = 0 from by decide, Nat.pow_zero, Nat.mul_one]
    by_cases w : c = 2 ^ 23
    · right
      rw [w]
      exact congrArg some (Int.compare_eq_eq.mpr rfl)
    · left
      exact congrArg some (Int.compare_eq_gt.mpr (by omega))
  · intro e
    refine congrArg some (Int.compare_eq_lt.mpr ?_)
    obtain ⟨k, hk⟩ : ∃ k, (-23 - q).toNat = k + 1 := ⟨(-23 - q).toNat - 1, by omega⟩
    rw [hk]
    have w0 : 2 ^ (k + 1) = 2 * 2 ^ k := by rw [Nat.pow_succ, Nat.mul_comm]
    have w1 : 1 ≤ 2 ^ k := Nat.two_pow_pos k
    have w2 : 2 ^ 23 * 2 ≤ 2 ^ 23 * 2 ^ (k + 1) := Nat.mul_le_mul_left _ (by omega)
    omega
/-- both make the same bits -/
theorem bits_loop : ∀ (n b f f' : Nat) (r : UInt32) (c : Nat) (q : Int), (-23 - q).toNat = n → q ≤ -23 → -149 ≤ q → n < f → n < f' → 2 ≤ b → b + n ≤ 127 → f32 r c q → 2 ^ 23 ≤ c → c < 2 ^ 24 →
    ∃ v, z_lp2 lb_X9_bitsOf_13 f r (nI (b + n)) = some v ∧ z_lp2 lb_X10_bitsOf_13 f' r (nI (b + n)) = some v := by
  intro n
  induction n with
  | zero =>
    intro b f f' r c q hn hq _ hf hf' hb hb2 h h1 h2
    obtain ⟨f, rfl⟩ : ∃ w, f = w + 1 := ⟨f - 1, by omega⟩
    obtain ⟨f', rfl⟩ : ∃ w, f' = w + 1 := ⟨f' - 1, by omega⟩
    have q23 : q = -23 := by omega
    subst q23
    have hcmp : (0 : Int32) ≤ Op.cmpValue (FP.fcmp r FP.fconst1) .g := by
      rcases (cmp_1 h h1 h2 (by omega)).1 rfl with e | e
      · rw [e]; decide
      · rw [e]; decide
    obtain ⟨d, s, s1, s2, s3⟩ := f32_sub1 h h1 h2
    have m := f32_mulK h h1 h2 (by omega) (by omega)
    have e1 : FP.f2i (FP.fmul r 1258291200) = nI c := f2i_of m (by rw [show ((-23 : Int) + 23).toNat = 0 from by decide, show (-((-23 : Int) + 23)).toNat = 0 from by decide]; omega) (by omega)
    refine ⟨(nI (b + 0) <<< ((23 : Int32) &&& 31)) + nI (c - 2 ^ 23), ?_, ?_⟩
    · show lb_X9_bitsOf_13 _ r (nI (b + 0)) = _
      unfold lb_X9_bitsOf_13
      rw [p_let, if_pos hcmp]
      dsimp only
      rw [p_f32 m, e1, p_let, show (8388608 : Int32) = nI (2 ^ 23) from rfl, nI_sub' h1]
    · show lb_X10_bitsOf_13 _ r (nI (b + 0)) = _
      unfold lb_X10_bitsOf_13
      rw [if_pos hcmp, p_f32 s1, p_f32 s2, s3]
  | succ n ih =>
    intro b f f' r c q hn hq hq1 hf hf' hb hb2 h h1 h2
    obtain ⟨f, rfl⟩ : ∃ w, f = w + 1 := ⟨f - 1, by omega⟩
    obtain ⟨f', rfl⟩ : ∃ w, f' = w + 1 := ⟨f' - 1, by omega⟩
    have hcmp : ¬ (0 : Int32) ≤ Op.cmpValue (FP.fcmp r FP.fconst1) .g := by
      rw [(cmp_1 h h1 h2 hq).2 (by omega)]; decide
    have m := f32_mul2 h h1 h2 (by omega) (by omega)
    obtain ⟨v, v1, v2⟩ := ih b f f' (FP.fmul r FP.fconst2) c (q + 1) (by omega) (by omega) (by omega) (by omega) (by omega) hb (by omega) m h1 h2
    refine ⟨v, ?_, ?_⟩
    · show lb_X9_bitsOf_13 (z_lp2 lb_X9_bitsOf_13 f) r (nI (b + (n + 1))) = _
      unfold lb_X9_bitsOf_13
      rw [p_let, if_neg hcmp, if_neg (show ¬ nI (b + (n + 1)) ≤ 1 from nI_ge (a := 1) (by omega) (by omega)), p_f32 m, p_let, show nI (b + (n + 1)) + (-1 : Int32) = nI (b + n) from p_m1 _, p_let]
      exact v1
    · show lb_X10_bitsOf_13 (z_lp2 lb_X10_bitsOf_13 f') r (nI (b + (n + 1))) = _
      unfold lb_X10_bitsOf_13
      rw [if_neg hcmp, p_f32 m, p_let, show nI (b + (n + 1)) + (-1 : Int32) = nI (b + n) from p_m1 _, p_let]
      exact v2
/-- a share: 0, or from 2^-100 to 1 -/
def fShare (r : UInt32) : Prop := r = 0 ∨ ∃ c q, f32 r c q ∧ 2 ^ 23 ≤ c ∧ c < 2 ^ 24 ∧ -100 ≤ q ∧ q ≤ -23
theorem bits_same {r : UInt32} (h : fShare r) (x m : z_S) : ∃ v, f_X9_bitsOf r x = some v ∧ f_X10_bitsOf r m = some v := by
  unfold f_X9_bitsOf f_X10_bitsOf
  rcases h with rfl | ⟨c, q, h, h1, h2, h3, h4⟩
  · refine ⟨0, ?_, ?_⟩
    · rw [if_neg (by decide)]
    · rw [if_pos (by decide)]
  · have e := cmp_pos h (by omega)
    rw [e, if_pos (by decide), if_neg (by decide)]
    obtain ⟨v, v1, v2⟩ := bits_loop (-23 - q).toNat (127 - (-23 - q).toNat) z_Fu z_Fu r c q rfl h4 (by omega) (by show _ < 4096; omega) (by show _ < 4096; omega) (by omega) (by omega) h h1 h2
    rw [show 127 - (-23 - q).toNat + (-23 - q).toNat = 127 from by omega] at v1 v2
    exact ⟨v, v1, v2⟩
