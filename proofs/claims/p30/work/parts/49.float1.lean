/-! THE PURE PART. 37: floats -/
theorem fl_log {n L : Nat} (h1 : 2 ^ L ≤ n) (h2 : n < 2 ^ (L + 1)) : n.log2 = L := by
  have h0 : 0 < 2 ^ L := Nat.two_pow_pos L
  exact (Nat.log2_eq_iff (by omega)).mpr ⟨h1, h2⟩
theorem fl_near1 (n : Nat) : FP.Core.nearest n 1 = n := by
  unfold FP.Core.nearest
  rw [if_pos (by rw [Nat.mod_one]; omega), Nat.div_one]
theorem fl_nearM {c d : Nat} (hd : 0 < d) : FP.Core.nearest (c * d) d = c := by
  unfold FP.Core.nearest
  rw [if_pos (by rw [Nat.mul_mod_left]; omega), Nat.mul_div_cancel _ hd]
theorem fl_nearL {n d K : Nat} (hd : 0 < d) (h : n ≤ K * d) : FP.Core.nearest n d ≤ K := by
  have h1 : n / d ≤ K := Nat.div_le_of_le_mul (by rw [Nat.mul_comm]; exact h)
  have h3 := Nat.div_add_mod n d
  unfold FP.Core.nearest
  by_cases e : n / d = K
  · have : n % d = 0 := by
      rw [e] at h3
      have : d * K = K * d := Nat.mul_comm _ _
      omega
    rw [if_pos (by omega)]; omega
  · by_cases q : 2 * (n % d) < d
    · rw [if_pos q]; exact h1
    · rw [if_neg q]
      by_cases q2 : d < 2 * (n % d)
      · rw [if_pos q2]; omega
      · rw [if_neg q2]; omega
theorem fl_nearG {n d K : Nat} (hd : 0 < d) (h : K * d ≤ n) : K ≤ FP.Core.nearest n d := by
  have h1 : K ≤ n / d := (Nat.le_div_iff_mul_le hd).mpr h
  unfold FP.Core.nearest
  by_cases q : 2 * (n % d) < d
  · rw [if_pos q]; exact h1
  · rw [if_neg q]
    by_cases q2 : d < 2 * (n % d)
    · rw [if_pos q2]; omega
    · rw [if_neg q2]; omega
theorem fl_settle {f : FP.Core.Fmt} {P c : Nat} {q : Int} (hp : f.p = P + 1) (hc : c < 2 ^ (P + 1)) (hq : q ≤ f.qmax) : FP.Core.settle f false c q = .fin false c q := by
  unfold FP.Core.settle FP.Core.bound
  rw [hp, if_pos hc, if_pos hq]
theorem fl_settle2 {f : FP.Core.Fmt} {P c : Nat} {q : Int} (hp : f.p = P + 1) (hc : c = 2 ^ (P + 1)) (hq : q + 1 ≤ f.qmax) : FP.Core.settle f false c q = .fin false (2 ^ P) (q + 1) := by
  unfold FP.Core.settle FP.Core.bound FP.Core.Fmt.tails
  rw [hp, if_neg (by omega), if_pos hq]
  rfl
/-- what fits is not rounded -/
theorem fl_exact {f : FP.Core.Fmt} {P M k L : Nat} {e : Int} (hp : f.p = P + 1) (h1 : 2 ^ L ≤ M) (h2 : M < 2 ^ (L + 1)) (hL : L ≤ P) (hq : f.qmin ≤ L + e - P) (hq2 : L + e - P ≤ f.qmax) :
    FP.Core.roundRatio f false (M * 2 ^ k) 1 (e - k) = .fin false (M * 2 ^ (P - L)) (e - (P - L : Nat)) := by
  have hM : 0 < M := Nat.lt_of_lt_of_le (Nat.two_pow_pos L) h1
  have hk : 0 < 2 ^ k := Nat.two_pow_pos k
  have hlog : (M * 2 ^ k).log2 = L + k := fl_log (by rw [Nat.pow_add]; exact Nat.mul_le_mul_right _ h1) (by rw [show L + k + 1 = L + 1 + k from by omega, Nat.pow_add]; exact Nat.mul_lt_mul_of_pos_right h2 hk)
  have hlead : FP.Core.leading (M * 2 ^ k) 1 = ((L + k : Nat) : Int) := by
    unfold FP.Core.leading
    rw [hlog, show Nat.log2 1 = 0 from rfl]
    have e1 : (((L + k : Nat) : Int) - ((0 : Nat) : Int)).toNat = L + k := by omega
    have e2 : (-(((L + k : Nat) : Int) - ((0 : Nat) : Int))).toNat = 0 := by omega
    simp only [e1, e2]
    rw [if_pos (by rw [Nat.one_mul, Nat.pow_zero, Nat.mul_one, Nat.pow_add]; exact Nat.mul_le_mul_right _ h1)]
    omega
  have hquan : FP.Core.quantum f (M * 2 ^ k) 1 (e - k) = L + e - P := by
    unfold FP.Core.quantum
    rw [hlead, hp]
    omega
  have hlt : M * 2 ^ (P - L) < 2 ^ (P + 1) := by
    have : 2 ^ (P + 1) = 2 ^ (L + 1) * 2 ^ (P - L) := by rw [← Nat.pow_add]; congr 1; omega
    rw [this]
    exact Nat.mul_lt_mul_of_pos_right h2 (Nat.two_pow_pos _)
  unfold FP.Core.roundRatio
  rw [if_neg (by have := Nat.mul_pos hM hk; omega), hquan]
  unfold FP.Core.roundAt FP.Core.unitsNum FP.Core.unitsDen
  have hn : FP.Core.nearest (M * 2 ^ k * 2 ^ ((e - k) - (L + e - P)).toNat) (1 * 2 ^ ((L + e - P) - (e - k)).toNat) = M * 2 ^ (P - L) := by
    by_cases hk' : k ≤ P - L
    · rw [show ((L + e - P) - (e - k) : Int).toNat = 0 from by omega, show ((e - k) - (L + e - P) : Int).toNat = P - L - k from by omega, Nat.pow_zero, Nat.mul_one, fl_near1, Nat.mul_assoc, ← Nat.pow_add]
      congr 2
      omega
    · rw [show ((e - k) - (L + e - P) : Int).toNat = 0 from by omega, show ((L + e - P) - (e - k) : Int).toNat = k - (P - L) from by omega, Nat.pow_zero, Nat.mul_one, Nat.one_mul, show M * 2 ^ k = M * 2 ^ (P - L) * 2 ^ (k - (P - L)) from by rw [Nat.mul_assoc, ← Nat.pow_add]; congr 2; omega]
      exact fl_nearM (Nat.two_pow_pos _)
  rw [hn, fl_settle hp hlt hq2, show (L + e - P : Int) = e - ((P - L : Nat) : Int) from by omega]
/-- a quotient of two numbers with full digits -/
theorem fl_quot {f : FP.Core.Fmt} {P ca cb : Nat} {e k : Int} (hp : f.p = P + 1) (a1 : 2 ^ P ≤ ca) (a2 : ca < 2 ^ (P + 1)) (b1 : 2 ^ P ≤ cb) (b2 : cb < 2 ^ (P + 1)) (hk : k = if cb ≤ ca then 0 else -1) (hq : f.qmin ≤ k + e - P) (hq2 : k + e - P + 1 ≤ f.qmax) :
    ∃ c q, FP.Core.roundRatio f false ca cb e = .fin false c q ∧ 2 ^ P ≤ c ∧ c < 2 ^ (P + 1) ∧ (q = k + e - P ∨ (q = k + e - P + 1 ∧ c = 2 ^ P)) ∧ (ca = cb → c = 2 ^ P ∧ q = e - P) := by
  have hP : 0 < 2 ^ P := Nat.two_pow_pos P
  have hPP : 2 ^ (P + 1) = 2 * 2 ^ P := by rw [Nat.pow_succ, Nat.mul_comm]
  have hlead : FP.Core.leading ca cb = k := by
    unfold FP.Core.leading
    rw [fl_log a1 a2, fl_log b1 b2]
    have e1 : ((P : Int) - (P : Int)).toNat = 0 := by omega
    have e2 : (-((P : Int) - (P : Int))).toNat = 0 := by omega
    simp only [e1, e2]
    rw [Nat.pow_zero, Nat.mul_one, Nat.mul_one, hk]
    by_cases q : cb ≤ ca
    · rw [if_pos q, if_pos q]; omega
    · rw [if_neg q, if_neg q]; omega
  have hquan : FP.Core.quantum f ca cb e = k + e - P := by
    unfold FP.Core.quantum
    rw [hlead, hp]
    omega
  have hk2 : (k = 0 ∧ cb ≤ ca) ∨ (k = -1 ∧ ca < cb) := by
    by_cases q : cb ≤ ca
    · rw [if_pos q] at hk; exact Or.inl ⟨hk, q⟩
    · rw [if_neg q] at hk; exact Or.inr ⟨hk, by omega⟩
  obtain ⟨C, hC, g1, g2, g3⟩ : ∃ C, FP.Core.nearest (FP.Core.unitsNum ca e (k + e - P)) (FP.Core.unitsDen cb e (k + e - P)) = C ∧ 2 ^ P ≤ C ∧ C ≤ 2 ^ (P + 1) ∧ (ca = cb → C = 2 ^ P) := by
    refine ⟨_, rfl, ?_⟩
    unfold FP.Core.unitsNum FP.Core.unitsDen
    rw [show ((k + e - P) - e : Int).toNat = 0 from by omega, Nat.pow_zero, Nat.mul_one]
    rcases hk2 with ⟨k0, h⟩ | ⟨k1, h⟩
    · rw [show (e - (k + e - P) : Int).toNat = P from by omega]
      refine ⟨fl_nearG (by omega) ?_, fl_nearL (by omega) ?_, fun e => ?_⟩
      · rw [Nat.mul_comm ca]; exact Nat.mul_le_mul_left _ h
      · rw [hPP, Nat.mul_comm ca, Nat.mul_comm 2, Nat.mul_assoc]
        exact Nat.mul_le_mul_left _ (by omega)
      · rw [e, Nat.mul_comm]
        exact fl_nearM (by omega)
    · rw [show (e - (k + e - P) : Int).toNat = P + 1 from by omega]
      refine ⟨fl_nearG (by omega) ?_, fl_nearL (by omega) ?_, fun e => by omega⟩
      · rw [hPP, ← Nat.mul_assoc, Nat.mul_comm (ca * 2)]
        exact Nat.mul_le_mul_left _ (by omega)
      · rw [Nat.mul_comm ca]; exact Nat.mul_le_mul_left _ (by omega)
  unfold FP.Core.roundRatio
  rw [if_neg (by omega), hquan]
  unfold FP.Core.roundAt
  rw [hC]
  by_cases hlt : C < 2 ^ (P + 1)
  · refine ⟨C, k + e - P, fl_settle hp hlt (by omega), g1, hlt, Or.inl rfl, fun w => ⟨g3 w, ?_⟩⟩
    rcases hk2 with ⟨k0, h⟩ | ⟨k1, h⟩
    · omega
    · omega
  · refine ⟨2 ^ P, k + e - P + 1, fl_settle2 hp (by omega) hq2, Nat.le_refl _, by omega, Or.inr ⟨rfl, rfl⟩, fun w => ?_⟩
    have := g3 w
    omega
/-- fewer digits: from 53 to 24 -/
theorem fl_narrow {cd : Nat} {qd : Int} (h1 : 2 ^ 52 ≤ cd) (h2 : cd < 2 ^ 53) (hq : -178 ≤ qd) (hq2 : qd ≤ 0) :
    ∃ c q, FP.Core.roundRatio FP.Core.b32 false cd 1 qd = .fin false c q ∧ 2 ^ 23 ≤ c ∧ c < 2 ^ 24 ∧ (q = qd + 29 ∨ (q = qd + 30 ∧ c = 2 ^ 23)) ∧ (cd = 2 ^ 52 → c = 2 ^ 23 ∧ q = qd + 29) := by
  have hlead : FP.Core.leading cd 1 = 52 := by
    unfold FP.Core.leading
    rw [fl_log (L := 52) h1 h2, show Nat.log2 1 = 0 from rfl]
    have e1 : (((52 : Nat) : Int) - ((0 : Nat) : Int)).toNat = 52 := by omega
    have e2 : (-(((52 : Nat) : Int) - ((0 : Nat) : Int))).toNat = 0 := by omega
    simp only [e1, e2]
    rw [if_pos (by omega)]
    omega
  have hmin : FP.Core.b32.qmin = -149 := by decide
  have hmax : FP.Core.b32.qmax = 104 := by decide
  have hquan : FP.Core.quantum FP.Core.b32 cd 1 qd = qd + 29 := by
    unfold FP.Core.quantum
    rw [hlead, hmin, show FP.Core.b32.p = 24 from rfl]
    omega
  obtain ⟨C, hC, g1, g2, g3⟩ : ∃ C, FP.Core.nearest (FP.Core.unitsNum cd qd (qd + 29)) (FP.Core.unitsDen 1 qd (qd + 29)) = C ∧ 2 ^ 23 ≤ C ∧ C ≤ 2 ^ 24 ∧ (cd = 2 ^ 52 → C = 2 ^ 23) := by
    refine ⟨_, rfl, ?_⟩
    unfold FP.Core.unitsNum FP.Core.unitsDen
    rw [show (qd - (qd + 29) : Int).toNat = 0 from by omega, show (qd + 29 - qd : Int).toNat = 29 from by omega, Nat.pow_zero, Nat.mul_one, Nat.one_mul]
    refine ⟨fl_nearG (by omega) (by omega), fl_nearL (by omega) (by omega), fun e => ?_⟩
    rw [e, show (2 : Nat) ^ 52 = 2 ^ 23 * 2 ^ 29 from by decide]
    exact fl_nearM (by omega)
  unfold FP.Core.roundRatio
  rw [if_neg (by omega), hquan]
  unfold FP.Core.roundAt
  rw [hC]
  by_cases hlt : C < 2 ^ 24
  · exact ⟨C, qd + 29, fl_settle (P := 23) rfl hlt (by omega), g1, hlt, Or.inl rfl, fun w => ⟨g3 w, rfl⟩⟩
  · refine ⟨2 ^ 23, qd + 29 + 1, fl_settle2 (P := 23) rfl (by omega) (by omega), Nat.le_refl _, by omega, Or.inr ⟨by omega, rfl⟩, fun w => ?_⟩
    have := g3 w
    omega
/-- a float that is the number c 2^q -/
def f32 (r : UInt32) (c : Nat) (q : Int) : Prop := FP.Core.decode FP.Core.b32 r.toNat = .fin false c q ∧ r.toNat ≤ 0x7f800000
def f64 (r : UInt64) (c : Nat) (q : Int) : Prop := FP.Core.decode FP.Core.b64 r.toNat = .fin false c q ∧ r.toNat ≤ 0x7ff0000000000000
theorem dec32 {E t : Nat} (hE : 1 ≤ E) (hE2 : E ≤ 254) (ht : t < 8388608) : FP.Core.decode FP.Core.b32 (E * 8388608 + t) = .fin false (8388608 + t) ((E : Int) - 150) := by
  have ht' : FP.Core.b32.tails = 8388608 := by decide
  have he' : FP.Core.b32.exps = 256 := by decide
  have e1 : FP.Core.fieldT FP.Core.b32 (E * 8388608 + t) = t := by unfold FP.Core.fieldT; rw [ht']; omega
  have e2 : FP.Core.fieldE FP.Core.b32 (E * 8388608 + t) = E := by unfold FP.Core.fieldE; rw [ht', he']; omega
  have e3 : FP.Core.fieldS FP.Core.b32 (E * 8388608 + t) = false := by
    unfold FP.Core.fieldS
    rw [ht', he', show (E * 8388608 + t) / 8388608 / 256 % 2 = 0 from by omega]
    rfl
  unfold FP.Core.decode
  rw [e1, e2, e3, he', if_neg (by omega), if_neg (by omega), ht', show FP.Core.b32.qmin = -149 from by decide]
  congr 1
  omega
theorem enc32 {c : Nat} {q : Int} (h1 : 2 ^ 23 ≤ c) (h2 : c < 2 ^ 24) (hq : -149 ≤ q) (hq2 : q ≤ 104) : f32 (UInt32.ofNat (FP.Core.encode FP.Core.b32 (.fin false c q))) c q := by
  have ht' : FP.Core.b32.tails = 8388608 := by decide
  have he : FP.Core.encode FP.Core.b32 (.fin false c q) = ((q + 149).toNat + 1) * 8388608 + (c - 8388608) := by
    unfold FP.Core.encode FP.Core.assemble
    rw [ht']
    dsimp only
    rw [if_neg (by omega), show FP.Core.b32.qmin = -149 from by decide, show (q - -149 : Int) = q + 149 from by omega]
    simp
  have hn : (UInt32.ofNat (FP.Core.encode FP.Core.b32 (.fin false c q))).toNat = ((q + 149).toNat + 1) * 8388608 + (c - 8388608) := by
    rw [he, UInt32.toNat_ofNat']
    omega
  unfold f32
  rw [hn, dec32 (by omega) (by omega) (by omega), show 8388608 + (c - 8388608) = c from by omega, show ((((q + 149).toNat + 1 : Nat) : Int) - 150) = q from by omega]
  exact ⟨rfl, by omega⟩
theorem dec64 {E t : Nat} (hE : 1 ≤ E) (hE2 : E ≤ 2046) (ht : t < 4503599627370496) : FP.Core.decode FP.Core.b64 (E * 4503599627370496 + t) = .fin false (4503599627370496 + t) ((E : Int) - 1075) := by
  have ht' : FP.Core.b64.tails = 4503599627370496 := by decide
  have he' : FP.Core.b64.exps = 2048 := by decide
  have e1 : FP.Core.fieldT FP.Core.b64 (E * 4503599627370496 + t) = t := by unfold FP.Core.fieldT; rw [ht']; omega
  have e2 : FP.Core.fieldE FP.Core.b64 (E * 4503599627370496 + t) = E := by unfold FP.Core.fieldE; rw [ht', he']; omega
  have e3 : FP.Core.fieldS FP.Core.b64 (E * 4503599627370496 + t) = false := by
    unfold FP.Core.fieldS
    rw [ht', he', show (E * 4503599627370496 + t) / 4503599627370496 / 2048 % 2 = 0 from by omega]
    rfl
  unfold FP.Core.decode
  rw [e1, e2, e3, he', if_neg (by omega), if_neg (by omega), ht', show FP.Core.b64.qmin = -1074 from by decide]
  congr 1
  omega
theorem enc64 {c : Nat} {q : Int} (h1 : 2 ^ 52 ≤ c) (h2 : c < 2 ^ 53) (hq : -1074 ≤ q) (hq2 : q ≤ 971) : f64 (UInt64.ofNat (FP.Core.encode FP.Core.b64 (.fin false c q))) c q := by
  have ht' : FP.Core.b64.tails = 4503599627370496 := by decide
  have he : FP.Core.encode FP.Core.b64 (.fin false c q) = ((q + 1074).toNat + 1) * 4503599627370496 + (c - 4503599627370496) := by
    unfold FP.Core.encode FP.Core.assemble
    rw [ht']
    dsimp only
    rw [if_neg (by omega), show FP.Core.b64.qmin = -1074 from by decide, show (q - -1074 : Int) = q + 1074 from by omega]
    simp
  have hn : (UInt64.ofNat (FP.Core.encode FP.Core.b64 (.fin false c q))).toNat = ((q + 1074).toNat + 1) * 4503599627370496 + (c - 4503599627370496) := by
    rw [he, UInt64.toNat_ofNat']
    omega
  unfold f64
  rw [hn, dec64 (by omega) (by omega) (by omega), show 4503599627370496 + (c - 4503599627370496) = c from by omega, show ((((q + 1074).toNat + 1 : Nat) : Int) - 1075) = q from by omega]
  exact ⟨rfl, by omega⟩
theorem f32_0 : f32 0 0 (-149) := ⟨by decide, by decide⟩
theorem f64_0 : f64 0 0 (-1074) := ⟨by decide, by decide⟩
theorem p_f32 {O : Type} {X : Option O} {r : UInt32} {c : Nat} {q : Int} (h : f32 r c q) : z_f32 r X = X := by
  refine if_pos ?_
  rw [UInt32.le_iff_toNat_le, UInt32.toNat_and]
  exact Nat.le_trans Nat.and_le_left h.2
theorem p_f64 {O : Type} {X : Option O} {r : UInt64} {c : Nat} {q : Int} (h : f64 r c q) : z_f64 r X = X := by
  refine if_pos ?_
  rw [UInt64.le_iff_toNat_le, UInt64.toNat_and]
  exact Nat.le_trans Nat.and_le_left h.2
