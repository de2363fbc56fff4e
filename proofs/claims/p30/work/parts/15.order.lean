/-! THE PURE PART. 3: loops in loops; the model's corners and houses in order -/
theorem p_gl1 {K S1 O : Type} {body : K → (S1 → Option O) → S1 → Option O} (F : (K → Option O) → Prop) (P : Nat → S1 → Prop) (N : Nat) (hs : ∀ (i : Nat) (x1 : S1), i < N → P i x1 → (∃ (y1 : S1), P (i + 1) y1 ∧ ∀ (k : K) kk, body k kk x1 = kk y1) ∨ (∃ r : K → Option O, F r ∧ ∀ k kk, body k kk x1 = r k)) (hx : ∀ (x1 : S1), P N x1 → ∃ r : K → Option O, F r ∧ ∀ k kk, body k kk x1 = r k) : ∀ (f i : Nat) (x1 : S1), N < i + f → i ≤ N → P i x1 → ∃ r : K → Option O, F r ∧ ∀ k, z_lp1 (body k) f x1 = r k
  | 0, i, x1, h, hi, _ => by omega
  | f + 1, i, x1, h, hi, hP => by
    rcases Nat.lt_or_ge i N with hl | hl
    · rcases hs i x1 hl hP with ⟨y1, h1, h2⟩ | ⟨r, h1, h2⟩
      · obtain ⟨r, h3, h4⟩ := p_gl1 F P N hs hx f (i + 1) y1 (by omega) (by omega) h1
        exact ⟨r, h3, fun k => (h2 k (z_lp1 (body k) f)).trans (h4 k)⟩
      · exact ⟨r, h1, fun k => h2 k (z_lp1 (body k) f)⟩
    · have e : i = N := by omega
      subst e
      obtain ⟨r, h1, h2⟩ := hx x1 hP
      exact ⟨r, h1, fun k => h2 k (z_lp1 (body k) f)⟩
theorem p_gen1 {K S1 O : Type} {body : K → (S1 → Option O) → S1 → Option O} {x1 : S1} (F : (K → Option O) → Prop) (P : Nat → S1 → Prop) (N : Nat) (hN : N < 4096) (h0 : P 0 x1) (hs : ∀ (i : Nat) (x1 : S1), i < N → P i x1 → (∃ (y1 : S1), P (i + 1) y1 ∧ ∀ (k : K) kk, body k kk x1 = kk y1) ∨ (∃ r : K → Option O, F r ∧ ∀ k kk, body k kk x1 = r k)) (hx : ∀ (x1 : S1), P N x1 → ∃ r : K → Option O, F r ∧ ∀ k kk, body k kk x1 = r k) : ∃ r : K → Option O, F r ∧ ∀ k, z_lp1 (body k) z_Fu x1 = r k :=
  p_gl1 F P N hs hx z_Fu 0 x1 (by show N < 0 + 4096; omega) (Nat.zero_le _) h0
/-- a loop with an end of its own -/
theorem p_ex1 {S1 O : Type} {body : (S1 → Option O) → S1 → Option O} {x1 : S1} (F : Option O → Prop) (P : Nat → S1 → Prop) (N : Nat) (hN : N < 4096) (h0 : P 0 x1) (hs : ∀ (i : Nat) (x1 : S1), i < N → P i x1 → (∃ (y1 : S1), P (i + 1) y1 ∧ ∀ kk, body kk x1 = kk y1) ∨ (∃ r, F r ∧ ∀ kk, body kk x1 = r)) (hx : ∀ (x1 : S1), P N x1 → ∃ r, F r ∧ ∀ kk, body kk x1 = r) : F (z_lp1 body z_Fu x1) := by
  obtain ⟨r, h1, h2⟩ := p_gen1 (K := Unit) (body := fun _ => body) (fun r => F (r ())) P N hN h0 (fun i x1 hi hP => by
    rcases hs i x1 hi hP with ⟨y1, a, b⟩ | ⟨r, a, b⟩
    · exact Or.inl ⟨y1, a, fun _ kk => b kk⟩
    · exact Or.inr ⟨fun _ => r, a, fun _ kk => b kk⟩) (fun x1 hP => by
    obtain ⟨r, a, b⟩ := hx x1 hP
    exact ⟨fun _ => r, a, fun _ kk => b kk⟩)
  rw [h2 ()]
  exact h1
theorem p_gl2 {K S1 S2 O : Type} {body : K → (S1 → S2 → Option O) → S1 → S2 → Option O} (F : (K → Option O) → Prop) (P : Nat → S1 → S2 → Prop) (N : Nat) (hs : ∀ (i : Nat) (x1 : S1) (x2 : S2), i < N → P i x1 x2 → (∃ (y1 : S1) (y2 : S2), P (i + 1) y1 y2 ∧ ∀ (k : K) kk, body k kk x1 x2 = kk y1 y2) ∨ (∃ r : K → Option O, F r ∧ ∀ k kk, body k kk x1 x2 = r k)) (hx : ∀ (x1 : S1) (x2 : S2), P N x1 x2 → ∃ r : K → Option O, F r ∧ ∀ k kk, body k kk x1 x2 = r k) : ∀ (f i : Nat) (x1 : S1) (x2 : S2), N < i + f → i ≤ N → P i x1 x2 → ∃ r : K → Option O, F r ∧ ∀ k, z_lp2 (body k) f x1 x2 = r k
  | 0, i, x1, x2, h, hi, _ => by omega
  | f + 1, i, x1, x2, h, hi, hP => by
    rcases Nat.lt_or_ge i N with hl | hl
    · rcases hs i x1 x2 hl hP with ⟨y1, y2, h1, h2⟩ | ⟨r, h1, h2⟩
      · obtain ⟨r, h3, h4⟩ := p_gl2 F P N hs hx f (i + 1) y1 y2 (by omega) (by omega) h1
        exact ⟨r, h3, fun k => (h2 k (z_lp2 (body k) f)).trans (h4 k)⟩
      · exact ⟨r, h1, fun k => h2 k (z_lp2 (body k) f)⟩
    · have e : i = N := by omega
      subst e
      obtain ⟨r, h1, h2⟩ := hx x1 x2 hP
      exact ⟨r, h1, fun k => h2 k (z_lp2 (body k) f)⟩
theorem p_gen2 {K S1 S2 O : Type} {body : K → (S1 → S2 → Option O) → S1 → S2 → Option O} {x1 : S1} {x2 : S2} (F : (K → Option O) → Prop) (P : Nat → S1 → S2 → Prop) (N : Nat) (hN : N < 4096) (h0 : P 0 x1 x2) (hs : ∀ (i : Nat) (x1 : S1) (x2 : S2), i < N → P i x1 x2 → (∃ (y1 : S1) (y2 : S2), P (i + 1) y1 y2 ∧ ∀ (k : K) kk, body k kk x1 x2 = kk y1 y2) ∨ (∃ r : K → Option O, F r ∧ ∀ k kk, body k kk x1 x2 = r k)) (hx : ∀ (x1 : S1) (x2 : S2), P N x1 x2 → ∃ r : K → Option O, F r ∧ ∀ k kk, body k kk x1 x2 = r k) : ∃ r : K → Option O, F r ∧ ∀ k, z_lp2 (body k) z_Fu x1 x2 = r k :=
  p_gl2 F P N hs hx z_Fu 0 x1 x2 (by show N < 0 + 4096; omega) (Nat.zero_le _) h0
/-- a loop with an end of its own -/
theorem p_ex2 {S1 S2 O : Type} {body : (S1 → S2 → Option O) → S1 → S2 → Option O} {x1 : S1} {x2 : S2} (F : Option O → Prop) (P : Nat → S1 → S2 → Prop) (N : Nat) (hN : N < 4096) (h0 : P 0 x1 x2) (hs : ∀ (i : Nat) (x1 : S1) (x2 : S2), i < N → P i x1 x2 → (∃ (y1 : S1) (y2 : S2), P (i + 1) y1 y2 ∧ ∀ kk, body kk x1 x2 = kk y1 y2) ∨ (∃ r, F r ∧ ∀ kk, body kk x1 x2 = r)) (hx : ∀ (x1 : S1) (x2 : S2), P N x1 x2 → ∃ r, F r ∧ ∀ kk, body kk x1 x2 = r) : F (z_lp2 body z_Fu x1 x2) := by
  obtain ⟨r, h1, h2⟩ := p_gen2 (K := Unit) (body := fun _ => body) (fun r => F (r ())) P N hN h0 (fun i x1 x2 hi hP => by
    rcases hs i x1 x2 hi hP with ⟨y1, y2, a, b⟩ | ⟨r, a, b⟩
    · exact Or.inl ⟨y1, y2, a, fun _ kk => b kk⟩
    · exact Or.inr ⟨fun _ => r, a, fun _ kk => b kk⟩) (fun x1 x2 hP => by
    obtain ⟨r, a, b⟩ := hx x1 x2 hP
    exact ⟨fun _ => r, a, fun _ kk => b kk⟩)
  rw [h2 ()]
  exact h1
theorem p_gl3 {K S1 S2 S3 O : Type} {body : K → (S1 → S2 → S3 → Option O) → S1 → S2 → S3 → Option O} (F : (K → Option O) → Prop) (P : Nat → S1 → S2 → S3 → Prop) (N : Nat) (hs : ∀ (i : Nat) (x1 : S1) (x2 : S2) (x3 : S3), i < N → P i x1 x2 x3 → (∃ (y1 : S1) (y2 : S2) (y3 : S3), P (i + 1) y1 y2 y3 ∧ ∀ (k : K) kk, body k kk x1 x2 x3 = kk y1 y2 y3) ∨ (∃ r : K → Option O, F r ∧ ∀ k kk, body k kk x1 x2 x3 = r k)) (hx : ∀ (x1 : S1) (x2 : S2) (x3 : S3), P N x1 x2 x3 → ∃ r : K → Option O, F r ∧ ∀ k kk, body k kk x1 x2 x3 = r k) : ∀ (f i : Nat) (x1 : S1) (x2 : S2) (x3 : S3), N < i + f → i ≤ N → P i x1 x2 x3 → ∃ r : K → Option O, F r ∧ ∀ k, z_lp3 (body k) f x1 x2 x3 = r k
  | 0, i, x1, x2, x3, h, hi, _ => by omega
  | f + 1, i, x1, x2, x3, h, hi, hP => by
    rcases Nat.lt_or_ge i N with hl | hl
    · rcases hs i x1 x2 x3 hl hP with ⟨y1, y2, y3, h1, h2⟩ | ⟨r, h1, h2⟩
      · obtain ⟨r, h3, h4⟩ := p_gl3 F P N hs hx f (i + 1) y1 y2 y3 (by omega) (by omega) h1
        exact ⟨r, h3, fun k => (h2 k (z_lp3 (body k) f)).trans (h4 k)⟩
      · exact ⟨r, h1, fun k => h2 k (z_lp3 (body k) f)⟩
    · have e : i = N := by omega
      subst e
      obtain ⟨r, h1, h2⟩ := hx x1 x2 x3 hP
      exact ⟨r, h1, fun k => h2 k (z_lp3 (body k) f)⟩
theorem p_gen3 {K S1 S2 S3 O : Type} {body : K → (S1 → S2 → S3 → Option O) → S1 → S2 → S3 → Option O} {x1 : S1} {x2 : S2} {x3 : S3} (F : (K → Option O) → Prop) (P : Nat → S1 → S2 → S3 → Prop) (N : Nat) (hN : N < 4096) (h0 : P 0 x1 x2 x3) (hs : ∀ (i : Nat) (x1 : S1) (x2 : S2) (x3 : S3), i < N → P i x1 x2 x3 → (∃ (y1 : S1) (y2 : S2) (y3 : S3), P (i + 1) y1 y2 y3 ∧ ∀ (k : K) kk, body k kk x1 x2 x3 = kk y1 y2 y3) ∨ (∃ r : K → Option O, F r ∧ ∀ k kk, body k kk x1 x2 x3 = r k)) (hx : ∀ (x1 : S1) (x2 : S2) (x3 : S3), P N x1 x2 x3 → ∃ r : K → Option O, F r ∧ ∀ k kk, body k kk x1 x2 x3 = r k) : ∃ r : K → Option O, F r ∧ ∀ k, z_lp3 (body k) z_Fu x1 x2 x3 = r k :=
  p_gl3 F P N hs hx z_Fu 0 x1 x2 x3 (by show N < 0 + 4096; omega) (Nat.zero_le _) h0
/-- a loop with an end of its own -/
theorem p_ex3 {S1 S2 S3 O : Type} {body : (S1 → S2 → S3 → Option O) → S1 → S2 → S3 → Option O} {x1 : S1} {x2 : S2} {x3 : S3} (F : Option O → Prop) (P : Nat → S1 → S2 → S3 → Prop) (N : Nat) (hN : N < 4096) (h0 : P 0 x1 x2 x3) (hs : ∀ (i : Nat) (x1 : S1) (x2 : S2) (x3 : S3), i < N → P i x1 x2 x3 → (∃ (y1 : S1) (y2 : S2) (y3 : S3), P (i + 1) y1 y2 y3 ∧ ∀ kk, body kk x1 x2 x3 = kk y1 y2 y3) ∨ (∃ r, F r ∧ ∀ kk, body kk x1 x2 x3 = r)) (hx : ∀ (x1 : S1) (x2 : S2) (x3 : S3), P N x1 x2 x3 → ∃ r, F r ∧ ∀ kk, body kk x1 x2 x3 = r) : F (z_lp3 body z_Fu x1 x2 x3) := by
  obtain ⟨r, h1, h2⟩ := p_gen3 (K := Unit) (body := fun _ => body) (fun r => F (r ())) P N hN h0 (fun i x1 x2 x3 hi hP => by
    rcases hs i x1 x2 x3 hi hP with ⟨y1, y2, y3, a, b⟩ | ⟨r, a, b⟩
    · exact Or.inl ⟨y1, y2, y3, a, fun _ kk => b kk⟩
    · exact Or.inr ⟨fun _ => r, a, fun _ kk => b kk⟩) (fun x1 x2 x3 hP => by
    obtain ⟨r, a, b⟩ := hx x1 x2 x3 hP
    exact ⟨fun _ => r, a, fun _ kk => b kk⟩)
  rw [h2 ()]
  exact h1
theorem p_gl4 {K S1 S2 S3 S4 O : Type} {body : K → (S1 → S2 → S3 → S4 → Option O) → S1 → S2 → S3 → S4 → Option O} (F : (K → Option O) → Prop) (P : Nat → S1 → S2 → S3 → S4 → Prop) (N : Nat) (hs : ∀ (i : Nat) (x1 : S1) (x2 : S2) (x3 : S3) (x4 : S4), i < N → P i x1 x2 x3 x4 → (∃ (y1 : S1) (y2 : S2) (y3 : S3) (y4 : S4), P (i + 1) y1 y2 y3 y4 ∧ ∀ (k : K) kk, body k kk x1 x2 x3 x4 = kk y1 y2 y3 y4) ∨ (∃ r : K → Option O, F r ∧ ∀ k kk, body k kk x1 x2 x3 x4 = r k)) (hx : ∀ (x1 : S1) (x2 : S2) (x3 : S3) (x4 : S4), P N x1 x2 x3 x4 → ∃ r : K → Option O, F r ∧ ∀ k kk, body k kk x1 x2 x3 x4 = r k) : ∀ (f i : Nat) (x1 : S1) (x2 : S2) (x3 : S3) (x4 : S4), N < i + f → i ≤ N → P i x1 x2 x3 x4 → ∃ r : K → Option O, F r ∧ ∀ k, z_lp4 (body k) f x1 x2 x3 x4 = r k
  | 0, i, x1, x2, x3, x4, h, hi, _ => by omega
  | f + 1, i, x1, x2, x3, x4, h, hi, hP => by
    rcases Nat.lt_or_ge i N with hl | hl
    · rcases hs i x1 x2 x3 x4 hl hP with ⟨y1, y2, y3, y4, h1, h2⟩ | ⟨r, h1, h2⟩
      · obtain ⟨r, h3, h4⟩ := p_gl4 F P N hs hx f (i + 1) y1 y2 y3 y4 (by omega) (by omega) h1
        exact ⟨r, h3, fun k => (h2 k (z_lp4 (body k) f)).trans (h4 k)⟩
      · exact ⟨r, h1, fun k => h2 k (z_lp4 (body k) f)⟩
    · have e : i = N := by omega
      subst e
      obtain ⟨r, h1, h2⟩ := hx x1 x2 x3 x4 hP
      exact ⟨r, h1, fun k => h2 k (z_lp4 (body k) f)⟩
theorem p_gen4 {K S1 S2 S3 S4 O : Type} {body : K → (S1 → S2 → S3 → S4 → Option O) → S1 → S2 → S3 → S4 → Option O} {x1 : S1} {x2 : S2} {x3 : S3} {x4 : S4} (F : (K → Option O) → Prop) (P : Nat → S1 → S2 → S3 → S4 → Prop) (N : Nat) (hN : N < 4096) (h0 : P 0 x1 x2 x3 x4) (hs : ∀ (i : Nat) (x1 : S1) (x2 : S2) (x3 : S3) (x4 : S4), i < N → P i x1 x2 x3 x4 → (∃ (y1 : S1) (y2 : S2) (y3 : S3) (y4 : S4), P (i + 1) y1 y2 y3 y4 ∧ ∀ (k : K) kk, body k kk x1 x2 x3 x4 = kk y1 y2 y3 y4) ∨ (∃ r : K → Option O, F r ∧ ∀ k kk, body k kk x1 x2 x3 x4 = r k)) (hx : ∀ (x1 : S1) (x2 : S2) (x3 : S3) (x4 : S4), P N x1 x2 x3 x4 → ∃ r : K → Option O, F r ∧ ∀ k kk, body k kk x1 x2 x3 x4 = r k) : ∃ r : K → Option O, F r ∧ ∀ k, z_lp4 (body k) z_Fu x1 x2 x3 x4 = r k :=
  p_gl4 F P N hs hx z_Fu 0 x1 x2 x3 x4 (by show N < 0 + 4096; omega) (Nat.zero_le _) h0
/-- a loop with an end of its own -/
theorem p_ex4 {S1 S2 S3 S4 O : Type} {body : (S1 → S2 → S3 → S4 → Option O) → S1 → S2 → S3 → S4 → Option O} {x1 : S1} {x2 : S2} {x3 : S3} {x4 : S4} (F : Option O → Prop) (P : Nat → S1 → S2 → S3 → S4 → Prop) (N : Nat) (hN : N < 4096) (h0 : P 0 x1 x2 x3 x4) (hs : ∀ (i : Nat) (x1 : S1) (x2 : S2) (x3 : S3) (x4 : S4), i < N → P i x1 x2 x3 x4 → (∃ (y1 : S1) (y2 : S2) (y3 : S3) (y4 : S4), P (i + 1) y1 y2 y3 y4 ∧ ∀ kk, body kk x1 x2 x3 x4 = kk y1 y2 y3 y4) ∨ (∃ r, F r ∧ ∀ kk, body kk x1 x2 x3 x4 = r)) (hx : ∀ (x1 : S1) (x2 : S2) (x3 : S3) (x4 : S4), P N x1 x2 x3 x4 → ∃ r, F r ∧ ∀ kk, body kk x1 x2 x3 x4 = r) : F (z_lp4 body z_Fu x1 x2 x3 x4) := by
  obtain ⟨r, h1, h2⟩ := p_gen4 (K := Unit) (body := fun _ => body) (fun r => F (r ())) P N hN h0 (fun i x1 x2 x3 x4 hi hP => by
    rcases hs i x1 x2 x3 x4 hi hP with ⟨y1, y2, y3, y4, a, b⟩ | ⟨r, a, b⟩
    · exact Or.inl ⟨y1, y2, y3, y4, a, fun _ kk => b kk⟩
    · exact Or.inr ⟨fun _ => r, a, fun _ kk => b kk⟩) (fun x1 x2 x3 x4 hP => by
    obtain ⟨r, a, b⟩ := hx x1 x2 x3 x4 hP
    exact ⟨fun _ => r, a, fun _ kk => b kk⟩)
  rw [h2 ()]
  exact h1
theorem p_gl5 {K S1 S2 S3 S4 S5 O : Type} {body : K → (S1 → S2 → S3 → S4 → S5 → Option O) → S1 → S2 → S3 → S4 → S5 → Option O} (F : (K → Option O) → Prop) (P : Nat → S1 → S2 → S3 → S4 → S5 → Prop) (N : Nat) (hs : ∀ (i : Nat) (x1 : S1) (x2 : S2) (x3 : S3) (x4 : S4) (x5 : S5), i < N → P i x1 x2 x3 x4 x5 → (∃ (y1 : S1) (y2 : S2) (y3 : S3) (y4 : S4) (y5 : S5), P (i + 1) y1 y2 y3 y4 y5 ∧ ∀ (k : K) kk, body k kk x1 x2 x3 x4 x5 = kk y1 y2 y3 y4 y5) ∨ (∃ r : K → Option O, F r ∧ ∀ k kk, body k kk x1 x2 x3 x4 x5 = r k)) (hx : ∀ (x1 : S1) (x2 : S2) (x3 : S3) (x4 : S4) (x5 : S5), P N x1 x2 x3 x4 x5 → ∃ r : K → Option O, F r ∧ ∀ k kk, body k kk x1 x2 x3 x4 x5 = r k) : ∀ (f i : Nat) (x1 : S1) (x2 : S2) (x3 : S3) (x4 : S4) (x5 : S5), N < i + f → i ≤ N → P i x1 x2 x3 x4 x5 → ∃ r : K → Option O, F r ∧ ∀ k, z_lp5 (body k) f x1 x2 x3 x4 x5 = r k
  | 0, i, x1, x2, x3, x4, x5, h, hi, _ => by omega
  | f + 1, i, x1, x2, x3, x4, x5, h, hi, hP => by
    rcases Nat.lt_or_ge i N with hl | hl
    · rcases hs i x1 x2 x3 x4 x5 hl hP with ⟨y1, y2, y3, y4, y5, h1, h2⟩ | ⟨r, h1, h2⟩
      · obtain ⟨r, h3, h4⟩ := p_gl5 F P N hs hx f (i + 1) y1 y2 y3 y4 y5 (by omega) (by omega) h1
        exact ⟨r, h3, fun k => (h2 k (z_lp5 (body k) f)).trans (h4 k)⟩
      · exact ⟨r, h1, fun k => h2 k (z_lp5 (body k) f)⟩
    · have e : i = N := by omega
      subst e
      obtain ⟨r, h1, h2⟩ := hx x1 x2 x3 x4 x5 hP
      exact ⟨r, h1, fun k => h2 k (z_lp5 (body k) f)⟩
theorem p_gen5 {K S1 S2 S3 S4 S5 O : Type} {body : K → (S1 → S2 → S3 → S4 → S5 → Option O) → S1 → S2 → S3 → S4 → S5 → Option O} {x1 : S1} {x2 : S2} {x3 : S3} {x4 : S4} {x5 : S5} (F : (K → Option O) → Prop) (P : Nat → S1 → S2 → S3 → S4 → S5 → Prop) (N : Nat) (hN : N < 4096) (h0 : P 0 x1 x2 x3 x4 x5) (hs : ∀ (i : Nat) (x1 : S1) (x2 : S2) (x3 : S3) (x4 : S4) (x5 : S5), i < N → P i x1 x2 x3 x4 x5 → (∃ (y1 : S1) (y2 : S2) (y3 : S3) (y4 : S4) (y5 : S5), P (i + 1) y1 y2 y3 y4 y5 ∧ ∀ (k : K) kk, body k kk x1 x2 x3 x4 x5 = kk y1 y2 y3 y4 y5) ∨ (∃ r : K → Option O, F r ∧ ∀ k kk, body k kk x1 x2 x3 x4 x5 = r k)) (hx : ∀ (x1 : S1) (x2 : S2) (x3 : S3) (x4 : S4) (x5 : S5), P N x1 x2 x3 x4 x5 → ∃ r : K → Option O, F r ∧ ∀ k kk, body k kk x1 x2 x3 x4 x5 = r k) : ∃ r : K → Option O, F r ∧ ∀ k, z_lp5 (body k) z_Fu x1 x2 x3 x4 x5 = r k :=
  p_gl5 F P N hs hx z_Fu 0 x1 x2 x3 x4 x5 (by show N < 0 + 4096; omega) (Nat.zero_le _) h0
/-- a loop with an end of its own -/
theorem p_ex5 {S1 S2 S3 S4 S5 O : Type} {body : (S1 → S2 → S3 → S4 → S5 → Option O) → S1 → S2 → S3 → S4 → S5 → Option O} {x1 : S1} {x2 : S2} {x3 : S3} {x4 : S4} {x5 : S5} (F : Option O → Prop) (P : Nat → S1 → S2 → S3 → S4 → S5 → Prop) (N : Nat) (hN : N < 4096) (h0 : P 0 x1 x2 x3 x4 x5) (hs : ∀ (i : Nat) (x1 : S1) (x2 : S2) (x3 : S3) (x4 : S4) (x5 : S5), i < N → P i x1 x2 x3 x4 x5 → (∃ (y1 : S1) (y2 : S2) (y3 : S3) (y4 : S4) (y5 : S5), P (i + 1) y1 y2 y3 y4 y5 ∧ ∀ kk, body kk x1 x2 x3 x4 x5 = kk y1 y2 y3 y4 y5) ∨ (∃ r, F r ∧ ∀ kk, body kk x1 x2 x3 x4 x5 = r)) (hx : ∀ (x1 : S1) (x2 : S2) (x3 : S3) (x4 : S4) (x5 : S5), P N x1 x2 x3 x4 x5 → ∃ r, F r ∧ ∀ kk, body kk x1 x2 x3 x4 x5 = r) : F (z_lp5 body z_Fu x1 x2 x3 x4 x5) := by
  obtain ⟨r, h1, h2⟩ := p_gen5 (K := Unit) (body := fun _ => body) (fun r => F (r ())) P N hN h0 (fun i x1 x2 x3 x4 x5 hi hP => by
    rcases hs i x1 x2 x3 x4 x5 hi hP with ⟨y1, y2, y3, y4, y5, a, b⟩ | ⟨r, a, b⟩
    · exact Or.inl ⟨y1, y2, y3, y4, y5, a, fun _ kk => b kk⟩
    · exact Or.inr ⟨fun _ => r, a, fun _ kk => b kk⟩) (fun x1 x2 x3 x4 x5 hP => by
    obtain ⟨r, a, b⟩ := hx x1 x2 x3 x4 x5 hP
    exact ⟨fun _ => r, a, fun _ kk => b kk⟩)
  rw [h2 ()]
  exact h1
noncomputable def tb (P : Prop) : Int32 := @ite _ P (Classical.propDecidable _) 1 0
theorem tb_t {P : Prop} (h : P) : tb P = nI 1 := by simp [tb, h]; rfl
theorem tb_f {P : Prop} (h : ¬ P) : tb P = nI 0 := by simp [tb, h]; rfl
theorem tb_iff {P Q : Prop} (h : P ↔ Q) : tb P = tb Q := by rw [propext h]
theorem tb_z {P : Prop} {O : Type} {X : Option O} : z_ckz (tb P) X = X := by
  by_cases h : P
  · rw [tb_t h]; exact if_pos (Or.inr rfl)
  · rw [tb_f h]; exact if_pos (Or.inl rfl)
theorem nI_ne {a b : Nat} (ha : a < 2 ^ 31) (hb : b < 2 ^ 31) (h : a ≠ b) : ¬ nI a = nI b := fun e => h ((nI_eq ha hb).mp e)
/-- the corners of a row of numbers: the ones ahead by their numbers -/
def mC (n : Nat → Int32) (nc : Nat) (ah : Nat → Nat) : Prop := n 0 = nI nc ∧ 1 ≤ nc ∧ nc ≤ 20 ∧ tA ah nc ∧ ∀ k, 1 ≤ k → k < nc → n (10 + 4 * k + 0) = nI (ah k)
theorem m_isBeyond {σ : z_S} {nc : Nat} {ah : Nat → Nat} (h : mC (σ 1) nc ah) {x a : Nat} (hx : x < nc) (ha : a < 2 ^ 31) : f_X10_isBeyond (nI x) (nI a) σ = some (tb (tB ah x a)) := by
  obtain ⟨h0, h1, h20, hA, hn⟩ := h
  unfold f_X10_isBeyond
  refine p_run1 (fun i y => ∃ c, y = nI c ∧ c + i ≤ x ∧ (tB ah x a ↔ tB ah c a)) x (by omega) ⟨x, rfl, Nat.le_refl _, Iff.rfl⟩ ?_ ?_
  · rintro i y hi ⟨c, rfl, hc, hb⟩
    by_cases hca : c ≤ a
    · right
      intro k
      unfold lb_X10_isBeyond_2
      simp (disch := omega) only [nI_leI, nI_eq]
      rw [if_pos hca]
      by_cases e : c = a
      · subst e
        rw [if_pos rfl, tb_t (hb.mpr (tB_self hA (by omega)))]; rfl
      · rw [if_neg e, tb_f (fun q => by have := tB_le hA (by omega) (hb.mp q); omega)]; rfl
    · left
      have hac := hA c (by omega) (by omega)
      refine ⟨nI (ah c), ⟨ah c, rfl, by omega, ?_⟩, fun k => ?_⟩
      · rw [hb, tB_s hA (by omega) (by omega)]
        exact ⟨fun q => q.elim (fun e => by omega) id, Or.inr⟩
      · unfold lb_X10_isBeyond_2
        simp (disch := omega) only [nI_leI, zl_0, m_ofCorner, p_b1]
        rw [if_neg hca, hn c (by omega) (by omega)]
  · rintro y ⟨c, rfl, hc, hb⟩ k
    have hc0 : c = 0 := by omega
    subst hc0
    unfold lb_X10_isBeyond_2
    simp (disch := omega) only [nI_leI, nI_eq]
    rw [if_pos (Nat.zero_le _)]
    by_cases e : 0 = a
    · subst e
      rw [if_pos rfl, tb_t (hb.mpr (tB_0.mpr rfl))]; rfl
    · rw [if_neg e, tb_f (fun q => e (tB_0.mp (hb.mp q)).symm)]; rfl
theorem u_i {σ : z_S} {i j : Nat} {v : Int32} : z_u σ i j v i j = v := by simp [z_u]
theorem u_j {σ : z_S} {i j b : Nat} {v : Int32} (h : b ≠ j) : z_u σ i j v i b = σ i b := by simp [z_u, h]
theorem u_o {σ : z_S} {i j a : Nat} {v : Int32} (h : a ≠ i) : z_u σ i j v a = σ a := by simp [z_u, h]
/-- all but two cells stay -/
def kp2 (σ σ' : z_S) (p q : Nat) : Prop := ∀ a, a ≠ p → a ≠ q → σ' a = σ a
/-- the model puts a corner into the order -/
theorem m_put {σ : z_S} {nc : Nat} {ah : Nat → Nat} (h : mC (σ 1) nc ah) {c : Nat} (hc1 : 1 ≤ c) (hc : c < nc) (h6 : ∀ k, k < c → σ 6 k = nI (tO ah c k)) :
    ∃ σ' : z_S, (∀ a, a ≠ 6 → σ' a = σ a) ∧ (∀ k, k < c + 1 → σ' 6 k = nI (tO ah (c + 1) k)) ∧ ∀ k3 : Int32 → z_S → Option z_S, z_lp2 (lb_X10_laysRow_21 k3 (nI c)) z_Fu (nI c) σ = k3 (nI (c + 1)) σ' := by
  have hm := h
  obtain ⟨h0, h1, h20, hA, hn⟩ := h
  have hAc : tA ah c := fun k a b => hA k a (by omega)
  have hJ := tO_J hc1 hAc
  obtain ⟨p, e, hf, hp, he, hd1, hd2, hE⟩ := tJ_ex hAc hJ (f := ah c) (hA c hc1 hc)
  obtain ⟨hb1, hb2⟩ := tJ_pos hAc hJ hp he hd1 hd2
  rw [hf] at hb1 hb2
  have hov : ∀ q, q < c → tO ah c q < c := hJ.1
  have r := p_gen2 (K := Int32 → z_S → Option z_S) (body := fun k3 => lb_X10_laysRow_21 k3 (nI c)) (x1 := nI c) (x2 := σ)
    (fun r => ∃ σ' : z_S, ((∀ a, a ≠ 6 → σ' a = σ a) ∧ (∀ k, k < c + 1 → σ' 6 k = nI (tO ah (c + 1) k))) ∧ r = fun k3 => k3 (nI (c + 1)) σ')
    (fun i x s => x = nI (c - i) ∧ (∀ a, a ≠ 6 → s a = σ a) ∧ ∀ k, k < c + 1 → k ≠ c - i → s 6 k = if k < c - i then nI (tO ah c k) else nI (tO ah c (k - 1))) (c - e) (by omega)
    ⟨rfl, fun _ _ => rfl, fun k a b => by rw [if_pos (by omega)]; exact h6 k (by omega)⟩
    (by
      rintro i x s hi ⟨rfl, hk, h6'⟩
      left
      have hcur := h6' (c - i - 1) (by omega) (by omega)
      rw [if_pos (by omega)] at hcur
      have hms : mC (s 1) nc ah := by rw [hk 1 (by omega)]; exact hm
      refine ⟨nI (c - (i + 1)), z_u s 6 (c - i) (s 6 (c - i - 1)), ⟨rfl, fun a ha => by rw [u_o ha]; exact hk a ha, fun k a b => ?_⟩, fun k3 kk => ?_⟩
      · by_cases hk2 : k = c - i
        · subst hk2
          rw [u_i, hcur, if_neg (by omega)]
        · rw [u_j hk2, h6' k a hk2]
          by_cases hk3 : k < c - i
          · rw [if_pos hk3, if_pos (by omega)]
          · rw [if_neg hk3, if_neg (by omega)]
      · unfold lb_X10_laysRow_21
        obtain ⟨d, hd⟩ : ∃ d, c - i = d + 1 := ⟨c - i - 1, by omega⟩
        have hov2 := hov d (by omega)
        rw [hd] at hcur ⊢
        rw [Nat.add_sub_cancel] at hcur
        have hnb := hb2 d (by omega) (by omega)
        simp (disch := omega) only [zl_1, p_s1, p_cki, zl_0, m_ofCorner, p_b1, p_cl, hcur, p_let]
        rw [show s 1 (10 + 4 * c + 0) = nI (ah c) from by rw [hk 1 (by omega)]; exact hn c hc1 hc, m_isBeyond hms (by omega) (by have := hA c hc1 hc; omega), tb_f hnb]
        simp only [p_b1]
        rw [if_pos trivial, show c - (i + 1) = d by omega, p_m1, Nat.add_sub_cancel, hcur])
    (by
      rintro x s ⟨rfl, hk, h6'⟩
      rw [show c - (c - e) = e by omega] at h6'
      have hcur := h6' (e - 1) (by omega) (by omega)
      rw [if_pos (by omega)] at hcur
      have hms : mC (s 1) nc ah := by rw [hk 1 (by omega)]; exact hm
      refine ⟨fun k3 => k3 (nI (c + 1)) (z_u s 6 e (nI c)), ⟨_, ⟨fun a ha => by rw [u_o ha]; exact hk a ha, fun k a => ?_⟩, rfl⟩, fun k3 kk => ?_⟩
      · rw [tO_s hc1, hE]
        by_cases hke : k = e
        · subst hke
          rw [u_i, tI_eq]
        · rw [u_j hke, h6' k a hke]
          by_cases hk3 : k < e
          · rw [if_pos hk3, tI_lt hk3]
          · rw [if_neg hk3, tI_gt (by omega)]
      · unfold lb_X10_laysRow_21
        obtain ⟨d, hd⟩ : ∃ d, e = d + 1 := ⟨e - 1, by omega⟩
        have hov2 := hov d (by omega)
        rw [show c - (c - e) = d + 1 by omega, hd]
        rw [hd, Nat.add_sub_cancel] at hcur hb1
        simp (disch := omega) only [zl_1, p_s1, p_cki, zl_0, m_ofCorner, p_b1, p_cl, hcur, p_let, nI_add]
        rw [show s 1 (10 + 4 * c + 0) = nI (ah c) from by rw [hk 1 (by omega)]; exact hn c hc1 hc, m_isBeyond hms (by omega) (by have := hA c hc1 hc; omega), tb_t hb1]
        simp only [p_b1]
        rw [if_neg (by decide)])
  obtain ⟨r, ⟨σ', ⟨a, b⟩, rfl⟩, hr⟩ := r
  exact ⟨σ', a, b, hr⟩

/-- the houses of a row of numbers -/
def mH (n : Nat → Int32) (nc nh : Nat) (pl : Nat → Nat) : Prop := n 1 = nI nh ∧ nh ≤ 24 ∧ ∀ h, h < nh → n (90 + 14 * h + 0) = nI (pl h) ∧ pl h < nc
/-- the row: a house by its place in a round -/
noncomputable def tR (ah pl : Nat → Nat) (nc nh : Nat) (k : Nat) : Nat := (hL (tO ah nc) pl nh nc).getD k 0
theorem l_getD_app {l : List Nat} {a : Nat} {j : Nat} (h : j < l.length) : (l ++ [a]).getD j 0 = l.getD j 0 := by
  rw [List.getD_eq_getElem?_getD, List.getD_eq_getElem?_getD, List.getElem?_append_left h]
theorem l_getD_last {l : List Nat} {a : Nat} : (l ++ [a]).getD l.length 0 = a := by
  rw [List.getD_eq_getElem?_getD, List.getElem?_append_right (Nat.le_refl _)]
  simp
/-- a list of houses is held by the cell q -/
def lH (σ : z_S) (q : Nat) (l : List Nat) : Prop := ∀ j, j < l.length → σ q j = nI (l.getD j 0)
theorem lH_put {σ : z_S} {q : Nat} {l : List Nat} {a : Nat} (h : lH σ q l) : lH (z_u σ q l.length (nI a)) q (l ++ [a]) := by
  intro j hj
  simp only [List.length_append, List.length_singleton] at hj
  by_cases e : j = l.length
  · subst e
    rw [u_i, l_getD_last]
  · rw [u_j e, l_getD_app (by omega)]
    exact h j (by omega)
theorem lH_keep {σ σ' : z_S} {q : Nat} {l : List Nat} (h : lH σ q l) (e : σ' q = σ q) : lH σ' q l := by
  intro j hj
  rw [e]
  exact h j hj
/-- all houses at one corner come to the row -/
theorem m_rowAt {σ : z_S} {nc nh : Nat} {pl o : Nat → Nat} (h : mH (σ 1) nc nh pl) {k : Nat} (hk : k < 20) (ho : σ 6 k = nI (o k)) (hob : o k < 2 ^ 31) (hpl : ∀ h, h < nh → pl h < 2 ^ 31) {l : List Nat} (hl : lH σ 7 l) (hlen : ∀ m, m ≤ nh → (l ++ hF pl (o k) m).length ≤ 24) :
    ∃ σ' : z_S, ((∀ a, a ≠ 7 → σ' a = σ a) ∧ lH σ' 7 (l ++ hF pl (o k) nh)) ∧ ∀ k8 : Int32 → Int32 → z_S → Option z_S, z_lp3 (lb_X10_laysRow_91 k8 (nI k)) z_Fu (nI l.length) (nI 0) σ = k8 (nI (l ++ hF pl (o k) nh).length) (nI (k + 1)) σ' := by
  obtain ⟨h1, h24, hh⟩ := h
  have r := p_gen3 (K := Int32 → Int32 → z_S → Option z_S) (body := fun k8 => lb_X10_laysRow_91 k8 (nI k)) (x1 := nI l.length) (x2 := nI 0) (x3 := σ)
    (fun r => ∃ σ' : z_S, ((∀ a, a ≠ 7 → σ' a = σ a) ∧ lH σ' 7 (l ++ hF pl (o k) nh)) ∧ r = fun k8 => k8 (nI (l ++ hF pl (o k) nh).length) (nI (k + 1)) σ')
    (fun i x y s => x = nI (l ++ hF pl (o k) i).length ∧ y = nI i ∧ (∀ a, a ≠ 7 → s a = σ a) ∧ lH s 7 (l ++ hF pl (o k) i)) nh (by omega)
    ⟨by simp [hF], rfl, fun _ _ => rfl, by simpa [hF] using hl⟩
    (by
      rintro i x y s hi ⟨rfl, rfl, hk7, hs⟩
      left
      have hp := (hh i hi).1
      have hpb := hpl i hi
      have hlen2 := hlen i (by omega)
      have hlen3 := hlen (i + 1) (by omega)
      by_cases e : pl i = o k
      · have hF1 : hF pl (o k) (i + 1) = hF pl (o k) i ++ [i] := by simp [hF, e]
        refine ⟨_, _, z_u s 7 (l ++ hF pl (o k) i).length (nI i), ⟨rfl, rfl, fun a ha => by rw [u_o ha]; exact hk7 a ha, ?_⟩, fun k8 kk => ?_⟩
        · rw [hF1, ← List.append_assoc]
          exact lH_put hs
        · rw [hF1, ← List.append_assoc, List.length_append] at hlen3
          simp only [List.length_singleton] at hlen3
          unfold lb_X10_laysRow_91
          simp (disch := omega) only [zl_1, p_cki, p_cl, hk7 1 (by omega), h1, nI_leI, zl_0, m_of, hp, p_b1, p_let, hk7 6 (by omega), ho, nI_eq, nI_add]
          rw [if_neg (by omega), if_pos e, hF1, ← List.append_assoc]
          simp only [List.length_append, List.length_singleton]
      · have hF1 : hF pl (o k) (i + 1) = hF pl (o k) i := by simp [hF, e]
        refine ⟨_, _, s, ⟨rfl, rfl, hk7, by rw [hF1]; exact hs⟩, fun k8 kk => ?_⟩
        unfold lb_X10_laysRow_91
        simp (disch := omega) only [zl_1, p_cki, p_cl, hk7 1 (by omega), h1, nI_leI, zl_0, m_of, hp, p_b1, p_let, hk7 6 (by omega), ho, nI_eq, nI_add]
        rw [if_neg (by omega), if_neg e, hF1])
    (by
      rintro x y s ⟨rfl, rfl, hk7, hs⟩
      refine ⟨_, ⟨s, ⟨hk7, hs⟩, rfl⟩, fun k8 kk => ?_⟩
      unfold lb_X10_laysRow_91
      simp (disch := omega) only [zl_1, p_cki, p_cl, hk7 1 (by omega), h1, nI_leI, p_let, nI_add]
      rw [if_pos (Nat.le_refl _)])
  obtain ⟨r, ⟨σ', a, rfl⟩, hr⟩ := r
  refine ⟨σ', a, hr⟩
/-- the model lays its row -/
theorem m_laysRow {σ : z_S} {nc nh : Nat} {ah pl : Nat → Nat} (hC : mC (σ 1) nc ah) (hH : mH (σ 1) nc nh pl) :
    ∃ σ' : z_S, f_X10_laysRow σ = some σ' ∧ kp2 σ σ' 6 7 ∧ lH σ' 7 (hL (tO ah nc) pl nh nc) := by
  have hC0 := hC
  have hH0 := hH
  obtain ⟨h0, hc1, h20, hA, hn⟩ := hC
  obtain ⟨h1, h24, hh⟩ := hH
  have hJ := tO_J hc1 hA
  have hlen : ∀ k m, k < nc → m ≤ nh → (hL (tO ah nc) pl nh k ++ hF pl (tO ah nc k) m).length ≤ 24 := by
    intro k m hk hm
    have e1 : (hF pl (tO ah nc k) m).length ≤ (hF pl (tO ah nc k) nh).length := by
      refine l_pigeon hF_nodup (fun a ha => ?_)
      obtain ⟨q1, q2⟩ := hF_mem.mp ha
      exact hF_mem.mpr ⟨by omega, q2⟩
    have e2 : (hL (tO ah nc) pl nh (k + 1)).length ≤ nh := hL_len_le (fun p q a b e => hJ.2.2.1 p q (by omega) (by omega) e)
    simp only [hL, List.length_append] at e2 ⊢
    omega
  unfold f_X10_laysRow
  simp (disch := omega) only [zl_0, p_cki, p_cl, p_let]
  obtain ⟨σ1, e1⟩ : ∃ s, s = z_u σ 6 0 (nI 0) := ⟨_, rfl⟩
  rw [← e1, zl_1]
  refine p_ex2 (fun r => ∃ σ' : z_S, r = some σ' ∧ kp2 σ σ' 6 7 ∧ lH σ' 7 (hL (tO ah nc) pl nh nc)) (fun i x s => x = nI (i + 1) ∧ (∀ a, a ≠ 6 → s a = σ a) ∧ ∀ k, k < i + 1 → s 6 k = nI (tO ah (i + 1) k)) (nc - 1) (by omega)
    ⟨rfl, fun a ha => by rw [e1, u_o ha], fun k hk => by
      have : k = 0 := by omega
      subst this
      rw [e1, u_i]; rfl⟩ ?_ ?_
  · rintro i x s hi ⟨rfl, hk, h6⟩
    left
    obtain ⟨σ', a, b, e⟩ := m_put (σ := s) (nc := nc) (ah := ah) (by rw [hk 1 (by omega)]; exact hC0) (c := i + 1) (by omega) (by omega) h6
    refine ⟨_, σ', ⟨rfl, fun q hq => (a q hq).trans (hk q hq), b⟩, fun kk => ?_⟩
    unfold lb_X10_laysRow_9
    simp (disch := omega) only [zl_0, p_cki, p_cl, hk 1 (by omega), h0, nI_leI]
    rw [if_neg (by omega)]
    exact e kk
  · rintro x s ⟨rfl, hk, h6⟩
    rw [show nc - 1 + 1 = nc by omega] at h6 ⊢
    have hs1 : s 1 = σ 1 := hk 1 (by omega)
    have key : ∃ σ' : z_S, z_lp3 lb_X10_laysRow_79 z_Fu (nI 0) (nI 0) s = some σ' ∧ kp2 σ σ' 6 7 ∧ lH σ' 7 (hL (tO ah nc) pl nh nc) := by
      refine p_ex3 (fun r => ∃ σ' : z_S, r = some σ' ∧ kp2 σ σ' 6 7 ∧ lH σ' 7 (hL (tO ah nc) pl nh nc)) (fun i x y t => x = nI (hL (tO ah nc) pl nh i).length ∧ y = nI i ∧ (∀ a, a ≠ 7 → t a = s a) ∧ lH t 7 (hL (tO ah nc) pl nh i)) nc (by omega)
        ⟨rfl, rfl, fun _ _ => rfl, fun j hj => by simp [hL] at hj⟩ ?_ ?_
      · rintro i x y t hi ⟨rfl, rfl, ht, hl⟩
        left
        have hob := hJ.1 i hi
        obtain ⟨σ', ⟨a, b⟩, e⟩ := m_rowAt (σ := t) (nc := nc) (nh := nh) (pl := pl) (o := tO ah nc) (by rw [ht 1 (by omega), hs1]; exact hH0) (k := i) (by omega) (by rw [ht 6 (by omega)]; exact h6 i hi) (by omega) (fun h hh2 => by have := (hh h hh2).2; omega) hl (fun m hm => hlen i m hi hm)
        refine ⟨_, _, σ', ⟨rfl, rfl, fun q hq => (a q hq).trans (ht q hq), b⟩, fun kk => ?_⟩
        unfold lb_X10_laysRow_79
        simp (disch := omega) only [zl_0, p_cki, p_cl, ht 1 (by omega), hs1, h0, nI_leI]
        rw [if_neg (by omega)]
        exact e kk
      · rintro x y t ⟨rfl, rfl, ht, hl⟩
        refine ⟨some t, ⟨t, rfl, fun a a6 a7 => (ht a a7).trans (hk a a6), hl⟩, fun kk => ?_⟩
        unfold lb_X10_laysRow_79
        simp (disch := omega) only [zl_0, p_cki, p_cl, ht 1 (by omega), hs1, h0, nI_leI]
        rw [if_pos (Nat.le_refl _)]
    refine ⟨_, key, fun kk => ?_⟩
    unfold lb_X10_laysRow_9
    simp (disch := omega) only [zl_0, p_cki, p_cl, hs1, h0, nI_leI]
    rw [if_pos (Nat.le_refl _)]
