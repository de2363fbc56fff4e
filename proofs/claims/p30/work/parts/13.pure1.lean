/-! THE PURE PART. 1: tools -/
/-- a loop of N rounds, seen from outside: P i holds before round i; behind the last, or sooner, the answer X comes -/
theorem p_lp1 {S1 O : Type} {body : (S1 → Option O) → S1 → Option O} {X : Option O} (P : Nat → S1 → Prop) (N : Nat) (hs : ∀ (i : Nat) (x1 : S1), i < N → P i x1 → (∃ (y1 : S1), P (i + 1) y1 ∧ ∀ k, body k x1 = k y1) ∨ (∀ k, body k x1 = X)) (hx : ∀ (x1 : S1), P N x1 → ∀ k, body k x1 = X) : ∀ (f i : Nat) (x1 : S1), N < i + f → i ≤ N → P i x1 → z_lp1 body f x1 = X
  | 0, i, x1, h, hi, _ => by omega
  | f + 1, i, x1, h, hi, hP => by
    show body (z_lp1 body f) x1 = X
    rcases Nat.lt_or_ge i N with hl | hl
    · rcases hs i x1 hl hP with ⟨y1, h1, h2⟩ | h2
      · rw [h2]
        exact p_lp1 P N hs hx f (i + 1) y1 (by omega) (by omega) h1
      · exact h2 _
    · have e : i = N := by omega
      subst e
      exact hx x1 hP _
theorem p_run1 {S1 O : Type} {body : (S1 → Option O) → S1 → Option O} {X : Option O} {x1 : S1} (P : Nat → S1 → Prop) (N : Nat) (hN : N < 4096) (h0 : P 0 x1) (hs : ∀ (i : Nat) (x1 : S1), i < N → P i x1 → (∃ (y1 : S1), P (i + 1) y1 ∧ ∀ k, body k x1 = k y1) ∨ (∀ k, body k x1 = X)) (hx : ∀ (x1 : S1), P N x1 → ∀ k, body k x1 = X) : z_lp1 body z_Fu x1 = X :=
  p_lp1 P N hs hx z_Fu 0 x1 (by show N < 0 + 4096; omega) (Nat.zero_le _) h0
/-- a loop of N rounds, seen from outside: P i holds before round i; behind the last, or sooner, the answer X comes -/
theorem p_lp2 {S1 S2 O : Type} {body : (S1 → S2 → Option O) → S1 → S2 → Option O} {X : Option O} (P : Nat → S1 → S2 → Prop) (N : Nat) (hs : ∀ (i : Nat) (x1 : S1) (x2 : S2), i < N → P i x1 x2 → (∃ (y1 : S1) (y2 : S2), P (i + 1) y1 y2 ∧ ∀ k, body k x1 x2 = k y1 y2) ∨ (∀ k, body k x1 x2 = X)) (hx : ∀ (x1 : S1) (x2 : S2), P N x1 x2 → ∀ k, body k x1 x2 = X) : ∀ (f i : Nat) (x1 : S1) (x2 : S2), N < i + f → i ≤ N → P i x1 x2 → z_lp2 body f x1 x2 = X
  | 0, i, x1, x2, h, hi, _ => by omega
  | f + 1, i, x1, x2, h, hi, hP => by
    show body (z_lp2 body f) x1 x2 = X
    rcases Nat.lt_or_ge i N with hl | hl
    · rcases hs i x1 x2 hl hP with ⟨y1, y2, h1, h2⟩ | h2
      · rw [h2]
        exact p_lp2 P N hs hx f (i + 1) y1 y2 (by omega) (by omega) h1
      · exact h2 _
    · have e : i = N := by omega
      subst e
      exact hx x1 x2 hP _
theorem p_run2 {S1 S2 O : Type} {body : (S1 → S2 → Option O) → S1 → S2 → Option O} {X : Option O} {x1 : S1} {x2 : S2} (P : Nat → S1 → S2 → Prop) (N : Nat) (hN : N < 4096) (h0 : P 0 x1 x2) (hs : ∀ (i : Nat) (x1 : S1) (x2 : S2), i < N → P i x1 x2 → (∃ (y1 : S1) (y2 : S2), P (i + 1) y1 y2 ∧ ∀ k, body k x1 x2 = k y1 y2) ∨ (∀ k, body k x1 x2 = X)) (hx : ∀ (x1 : S1) (x2 : S2), P N x1 x2 → ∀ k, body k x1 x2 = X) : z_lp2 body z_Fu x1 x2 = X :=
  p_lp2 P N hs hx z_Fu 0 x1 x2 (by show N < 0 + 4096; omega) (Nat.zero_le _) h0
/-- a loop of N rounds, seen from outside: P i holds before round i; behind the last, or sooner, the answer X comes -/
theorem p_lp3 {S1 S2 S3 O : Type} {body : (S1 → S2 → S3 → Option O) → S1 → S2 → S3 → Option O} {X : Option O} (P : Nat → S1 → S2 → S3 → Prop) (N : Nat) (hs : ∀ (i : Nat) (x1 : S1) (x2 : S2) (x3 : S3), i < N → P i x1 x2 x3 → (∃ (y1 : S1) (y2 : S2) (y3 : S3), P (i + 1) y1 y2 y3 ∧ ∀ k, body k x1 x2 x3 = k y1 y2 y3) ∨ (∀ k, body k x1 x2 x3 = X)) (hx : ∀ (x1 : S1) (x2 : S2) (x3 : S3), P N x1 x2 x3 → ∀ k, body k x1 x2 x3 = X) : ∀ (f i : Nat) (x1 : S1) (x2 : S2) (x3 : S3), N < i + f → i ≤ N → P i x1 x2 x3 → z_lp3 body f x1 x2 x3 = X
  | 0, i, x1, x2, x3, h, hi, _ => by omega
  | f + 1, i, x1, x2, x3, h, hi, hP => by
    show body (z_lp3 body f) x1 x2 x3 = X
    rcases Nat.lt_or_ge i N with hl | hl
    · rcases hs i x1 x2 x3 hl hP with ⟨y1, y2, y3, h1, h2⟩ | h2
      · rw [h2]
        exact p_lp3 P N hs hx f (i + 1) y1 y2 y3 (by omega) (by omega) h1
      · exact h2 _
    · have e : i = N := by omega
      subst e
      exact hx x1 x2 x3 hP _
theorem p_run3 {S1 S2 S3 O : Type} {body : (S1 → S2 → S3 → Option O) → S1 → S2 → S3 → Option O} {X : Option O} {x1 : S1} {x2 : S2} {x3 : S3} (P : Nat → S1 → S2 → S3 → Prop) (N : Nat) (hN : N < 4096) (h0 : P 0 x1 x2 x3) (hs : ∀ (i : Nat) (x1 : S1) (x2 : S2) (x3 : S3), i < N → P i x1 x2 x3 → (∃ (y1 : S1) (y2 : S2) (y3 : S3), P (i + 1) y1 y2 y3 ∧ ∀ k, body k x1 x2 x3 = k y1 y2 y3) ∨ (∀ k, body k x1 x2 x3 = X)) (hx : ∀ (x1 : S1) (x2 : S2) (x3 : S3), P N x1 x2 x3 → ∀ k, body k x1 x2 x3 = X) : z_lp3 body z_Fu x1 x2 x3 = X :=
  p_lp3 P N hs hx z_Fu 0 x1 x2 x3 (by show N < 0 + 4096; omega) (Nat.zero_le _) h0
/-- a loop of N rounds, seen from outside: P i holds before round i; behind the last, or sooner, the answer X comes -/
theorem p_lp4 {S1 S2 S3 S4 O : Type} {body : (S1 → S2 → S3 → S4 → Option O) → S1 → S2 → S3 → S4 → Option O} {X : Option O} (P : Nat → S1 → S2 → S3 → S4 → Prop) (N : Nat) (hs : ∀ (i : Nat) (x1 : S1) (x2 : S2) (x3 : S3) (x4 : S4), i < N → P i x1 x2 x3 x4 → (∃ (y1 : S1) (y2 : S2) (y3 : S3) (y4 : S4), P (i + 1) y1 y2 y3 y4 ∧ ∀ k, body k x1 x2 x3 x4 = k y1 y2 y3 y4) ∨ (∀ k, body k x1 x2 x3 x4 = X)) (hx : ∀ (x1 : S1) (x2 : S2) (x3 : S3) (x4 : S4), P N x1 x2 x3 x4 → ∀ k, body k x1 x2 x3 x4 = X) : ∀ (f i : Nat) (x1 : S1) (x2 : S2) (x3 : S3) (x4 : S4), N < i + f → i ≤ N → P i x1 x2 x3 x4 → z_lp4 body f x1 x2 x3 x4 = X
  | 0, i, x1, x2, x3, x4, h, hi, _ => by omega
  | f + 1, i, x1, x2, x3, x4, h, hi, hP => by
    show body (z_lp4 body f) x1 x2 x3 x4 = X
    rcases Nat.lt_or_ge i N with hl | hl
    · rcases hs i x1 x2 x3 x4 hl hP with ⟨y1, y2, y3, y4, h1, h2⟩ | h2
      · rw [h2]
        exact p_lp4 P N hs hx f (i + 1) y1 y2 y3 y4 (by omega) (by omega) h1
      · exact h2 _
    · have e : i = N := by omega
      subst e
      exact hx x1 x2 x3 x4 hP _
theorem p_run4 {S1 S2 S3 S4 O : Type} {body : (S1 → S2 → S3 → S4 → Option O) → S1 → S2 → S3 → S4 → Option O} {X : Option O} {x1 : S1} {x2 : S2} {x3 : S3} {x4 : S4} (P : Nat → S1 → S2 → S3 → S4 → Prop) (N : Nat) (hN : N < 4096) (h0 : P 0 x1 x2 x3 x4) (hs : ∀ (i : Nat) (x1 : S1) (x2 : S2) (x3 : S3) (x4 : S4), i < N → P i x1 x2 x3 x4 → (∃ (y1 : S1) (y2 : S2) (y3 : S3) (y4 : S4), P (i + 1) y1 y2 y3 y4 ∧ ∀ k, body k x1 x2 x3 x4 = k y1 y2 y3 y4) ∨ (∀ k, body k x1 x2 x3 x4 = X)) (hx : ∀ (x1 : S1) (x2 : S2) (x3 : S3) (x4 : S4), P N x1 x2 x3 x4 → ∀ k, body k x1 x2 x3 x4 = X) : z_lp4 body z_Fu x1 x2 x3 x4 = X :=
  p_lp4 P N hs hx z_Fu 0 x1 x2 x3 x4 (by show N < 0 + 4096; omega) (Nat.zero_le _) h0
/-- a loop of N rounds, seen from outside: P i holds before round i; behind the last, or sooner, the answer X comes -/
theorem p_lp5 {S1 S2 S3 S4 S5 O : Type} {body : (S1 → S2 → S3 → S4 → S5 → Option O) → S1 → S2 → S3 → S4 → S5 → Option O} {X : Option O} (P : Nat → S1 → S2 → S3 → S4 → S5 → Prop) (N : Nat) (hs : ∀ (i : Nat) (x1 : S1) (x2 : S2) (x3 : S3) (x4 : S4) (x5 : S5), i < N → P i x1 x2 x3 x4 x5 → (∃ (y1 : S1) (y2 : S2) (y3 : S3) (y4 : S4) (y5 : S5), P (i + 1) y1 y2 y3 y4 y5 ∧ ∀ k, body k x1 x2 x3 x4 x5 = k y1 y2 y3 y4 y5) ∨ (∀ k, body k x1 x2 x3 x4 x5 = X)) (hx : ∀ (x1 : S1) (x2 : S2) (x3 : S3) (x4 : S4) (x5 : S5), P N x1 x2 x3 x4 x5 → ∀ k, body k x1 x2 x3 x4 x5 = X) : ∀ (f i : Nat) (x1 : S1) (x2 : S2) (x3 : S3) (x4 : S4) (x5 : S5), N < i + f → i ≤ N → P i x1 x2 x3 x4 x5 → z_lp5 body f x1 x2 x3 x4 x5 = X
  | 0, i, x1, x2, x3, x4, x5, h, hi, _ => by omega
  | f + 1, i, x1, x2, x3, x4, x5, h, hi, hP => by
    show body (z_lp5 body f) x1 x2 x3 x4 x5 = X
    rcases Nat.lt_or_ge i N with hl | hl
    · rcases hs i x1 x2 x3 x4 x5 hl hP with ⟨y1, y2, y3, y4, y5, h1, h2⟩ | h2
      · rw [h2]
        exact p_lp5 P N hs hx f (i + 1) y1 y2 y3 y4 y5 (by omega) (by omega) h1
      · exact h2 _
    · have e : i = N := by omega
      subst e
      exact hx x1 x2 x3 x4 x5 hP _
theorem p_run5 {S1 S2 S3 S4 S5 O : Type} {body : (S1 → S2 → S3 → S4 → S5 → Option O) → S1 → S2 → S3 → S4 → S5 → Option O} {X : Option O} {x1 : S1} {x2 : S2} {x3 : S3} {x4 : S4} {x5 : S5} (P : Nat → S1 → S2 → S3 → S4 → S5 → Prop) (N : Nat) (hN : N < 4096) (h0 : P 0 x1 x2 x3 x4 x5) (hs : ∀ (i : Nat) (x1 : S1) (x2 : S2) (x3 : S3) (x4 : S4) (x5 : S5), i < N → P i x1 x2 x3 x4 x5 → (∃ (y1 : S1) (y2 : S2) (y3 : S3) (y4 : S4) (y5 : S5), P (i + 1) y1 y2 y3 y4 y5 ∧ ∀ k, body k x1 x2 x3 x4 x5 = k y1 y2 y3 y4 y5) ∨ (∀ k, body k x1 x2 x3 x4 x5 = X)) (hx : ∀ (x1 : S1) (x2 : S2) (x3 : S3) (x4 : S4) (x5 : S5), P N x1 x2 x3 x4 x5 → ∀ k, body k x1 x2 x3 x4 x5 = X) : z_lp5 body z_Fu x1 x2 x3 x4 x5 = X :=
  p_lp5 P N hs hx z_Fu 0 x1 x2 x3 x4 x5 (by show N < 0 + 4096; omega) (Nat.zero_le _) h0
theorem p_let {α O : Type} (v : α) (k : α → Option O) : z_let v k = k v := rfl
theorem p_b1 {α O : Type} (a : α) (k : α → Option O) : z_b1 (some a) k = k a := rfl
theorem p_b2 {α β O : Type} (a : α) (b : β) (k : α → β → Option O) : z_b2 (some (a, b)) k = k a b := rfl
theorem p_cki {O : Type} {j n : Nat} {X : Option O} (h : j < n) (hn : n < 2 ^ 31) : z_cki (nI j) n X = X := if_pos (vp_in_nI h hn)
theorem p_ck {O : Type} {c : Prop} [Decidable c] {X : Option O} (h : c) : z_ck c X = X := if_pos h
theorem p_cl {n : Nat} (h : n < 2 ^ 31) : (nI n).toNatClampNeg = n := nI_clamp h
theorem p_m1 (n : Nat) : nI (n + 1) + -nI 1 = nI n := pk_m1 n
theorem p_s1 (n : Nat) : nI (n + 1) - nI 1 = nI n := nI_pred n
theorem zl_0 : (0 : Int32) = nI 0 := rfl
theorem zl_1 : (1 : Int32) = nI 1 := rfl
theorem zl_2 : (2 : Int32) = nI 2 := rfl
theorem zl_3 : (3 : Int32) = nI 3 := rfl
theorem zl_4 : (4 : Int32) = nI 4 := rfl
theorem zl_5 : (5 : Int32) = nI 5 := rfl
theorem zl_6 : (6 : Int32) = nI 6 := rfl
theorem zl_7 : (7 : Int32) = nI 7 := rfl
theorem zl_8 : (8 : Int32) = nI 8 := rfl
theorem zl_9 : (9 : Int32) = nI 9 := rfl
theorem zl_10 : (10 : Int32) = nI 10 := rfl
theorem zl_11 : (11 : Int32) = nI 11 := rfl
theorem zl_12 : (12 : Int32) = nI 12 := rfl
theorem zl_13 : (13 : Int32) = nI 13 := rfl
theorem zl_14 : (14 : Int32) = nI 14 := rfl
theorem zl_20 : (20 : Int32) = nI 20 := rfl
theorem zl_90 : (90 : Int32) = nI 90 := rfl
theorem zl_426 : (426 : Int32) = nI 426 := rfl
theorem zl_447 : (447 : Int32) = nI 447 := rfl
theorem zl_537 : (537 : Int32) = nI 537 := rfl
theorem zl_1611 : (1611 : Int32) = nI 1611 := rfl
/-- sums of int32 -/
def sI (f : Nat → Int32) : Nat → Int32
  | 0 => 0
  | n + 1 => sI f n + f n
theorem sI_congr {f g : Nat → Int32} : ∀ {n : Nat}, (∀ i, i < n → f i = g i) → sI f n = sI g n
  | 0, _ => rfl
  | n + 1, h => by
    simp only [sI]
    rw [sI_congr (n := n) (fun i hi => h i (by omega)), h n (by omega)]
/-! the model's words of its row of numbers -/
theorem m_of {a b : Nat} {σ : z_S} (h : 90 + 14 * a + b < 537) : f_X10_of (nI a) (nI b) σ = some (σ 1 (90 + 14 * a + b)) := by
  unfold f_X10_of
  simp (disch := omega) only [zl_90, zl_14, pk_mul, nI_add, p_cki, p_cl]
theorem m_ofCorner {a b : Nat} {σ : z_S} (h : 10 + 4 * a + b < 537) : f_X10_ofCorner (nI a) (nI b) σ = some (σ 1 (10 + 4 * a + b)) := by
  unfold f_X10_ofCorner
  simp (disch := omega) only [zl_10, zl_4, pk_mul, nI_add, p_cki, p_cl]
theorem m_ofCarrier {a b : Nat} {σ : z_S} (h : 426 + 7 * a + b < 537) : f_X10_ofCarrier (nI a) (nI b) σ = some (σ 1 (426 + 7 * a + b)) := by
  unfold f_X10_ofCarrier
  simp (disch := omega) only [zl_426, zl_7, pk_mul, nI_add, p_cki, p_cl]
theorem m_in (v lo hi : Int32) (σ : z_S) : f_X10_in v lo hi σ = some (if lo ≤ v ∧ v ≤ hi then 1 else 0) := by
  unfold f_X10_in
  by_cases h1 : v < lo
  · rw [if_pos h1, if_neg (fun h => absurd h.1 (Int32.not_le.mpr h1))]
  · rw [if_neg h1]
    by_cases h2 : hi < v
    · rw [if_pos h2, if_neg (fun h => absurd h.2 (Int32.not_le.mpr h2))]
    · rw [if_neg h2, if_pos ⟨Int32.not_lt.mp h1, Int32.not_lt.mp h2⟩]
theorem x_within (v lo hi : Int32) (σ : z_S) : f_X9_within v lo hi σ = some (if lo ≤ v ∧ v ≤ hi then 1 else 0) := m_in v lo hi σ
theorem m_overHouses {w H : Nat} {σ : z_S} (hw : w < 14) (hH : σ 1 1 = nI H) (hb : H ≤ 24) : f_X10_overHouses (nI w) σ = some (sI (fun h => σ 1 (90 + 14 * h + w)) H) := by
  unfold f_X10_overHouses
  refine p_run2 (fun i acc x => acc = sI (fun h => σ 1 (90 + 14 * h + w)) i ∧ x = nI i) H (by omega) ⟨rfl, rfl⟩ ?_ ?_
  · rintro i acc x hi ⟨rfl, rfl⟩
    refine Or.inl ⟨_, _, ⟨rfl, rfl⟩, fun k => ?_⟩
    unfold lb_X10_overHouses_4
    simp (disch := omega) only [zl_1, p_cki, p_cl, hH, nI_leI, m_of, p_b1, p_let, nI_add]
    rw [if_neg (by omega)]
    rfl
  · rintro acc x ⟨rfl, rfl⟩ k
    unfold lb_X10_overHouses_4
    simp (disch := omega) only [zl_1, p_cki, p_cl, hH, nI_leI]
    rw [if_pos (Nat.le_refl _)]
