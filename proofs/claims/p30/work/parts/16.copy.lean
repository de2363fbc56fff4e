/-! THE PURE PART. 4: a town is copied -/
def cpc (σ : z_S) (a b m : Nat) : z_S := fun i => if i = b then va_cpy (σ a) (σ b) 0 0 m else σ i
theorem x_copy {n m : Nat} {σ : z_S} (hm : m ≤ n) (hn : n < 2 ^ 31) : f_X9_copy n n (nI m) σ = some (fun a => if a = 1 then va_cpy (σ 0) (σ 1) 0 0 m else σ a) := by
  unfold f_X9_copy
  rw [p_ck ⟨nI_pos (by omega), by rw [p_cl (by omega)]; omega, by rw [p_cl (by omega)]; omega⟩, p_cl (by omega)]
theorem zm_copy {σ : z_S} {a b m : Nat} (h : a ≠ b) : z_m σ (zk2 a b) 2 (fun x => if x = 1 then va_cpy (σ (zi2 a b 0)) (σ (zi2 a b 1)) 0 0 m else σ (zi2 a b x)) = cpc σ a b m := by
  funext i
  by_cases h1 : i = a
  · subst h1
    simp [z_m, zk2, zi2, cpc, h]
  · by_cases h2 : i = b
    · subst h2
      simp [z_m, zk2, zi2, cpc, h1]
    · simp [z_m, zk2, cpc, h1, h2]
theorem p_copy {O : Type} {σ : z_S} {n m a b : Nat} {x : Int32} {k : z_S → Option O} (hx : x = nI m) (hm : m ≤ n) (hn : n < 2 ^ 31) (h : a ≠ b) : (z_b1 (f_X9_copy n n x (fun q => σ (zi2 a b q))) fun s => z_let (z_m σ (zk2 a b) 2 s) k) = k (cpc σ a b m) := by
  rw [hx, x_copy hm hn, p_b1, p_let, zm_copy h]
theorem cpc_o {σ : z_S} {a b m i : Nat} (h : i ≠ b) : cpc σ a b m i = σ i := if_neg h
theorem cpc_b {σ : z_S} {a b m j : Nat} (h : j < m) : cpc σ a b m b j = σ a j := by
  have h1 : (0 : Nat) ≤ j ∧ j < 0 + m := ⟨Nat.zero_le _, by omega⟩
  simp only [cpc, if_true, va_cpy]
  rw [if_pos h1]
  congr 1
  omega
theorem x_copy4 {σ : z_S} {m : Nat} (hm : m ≤ 20) (h : σ 40 0 = nI m) : ∃ σ' : z_S, f_X4_copyFrom σ = some σ' ∧ (∀ a, a < 2 ∨ 10 < a → σ' a = σ a) ∧ σ' 2 0 = nI m ∧ ∀ q, 3 ≤ q → q ≤ 10 → ∀ k, k < m → σ' q k = σ (q + 38) k := by
  refine ⟨cpc (cpc (cpc (cpc (cpc (cpc (cpc (cpc (z_u σ 2 0 (σ 40 0)) 41 3 m) 42 4 m) 43 5 m) 44 6 m) 45 7 m) 46 8 m) 47 9 m) 48 10 m, ?_, ?_, ?_, ?_⟩
  · unfold f_X4_copyFrom
    rw [p_let]
    rw [p_copy (m := m) (by simp [cpc, z_u, h]) hm (by omega) (by omega)]
    rw [p_copy (m := m) (by simp [cpc, z_u, h]) hm (by omega) (by omega)]
    rw [p_copy (m := m) (by simp [cpc, z_u, h]) hm (by omega) (by omega)]
    rw [p_copy (m := m) (by simp [cpc, z_u, h]) hm (by omega) (by omega)]
    rw [p_copy (m := m) (by simp [cpc, z_u, h]) hm (by omega) (by omega)]
    rw [p_copy (m := m) (by simp [cpc, z_u, h]) hm (by omega) (by omega)]
    rw [p_copy (m := m) (by simp [cpc, z_u, h]) hm (by omega) (by omega)]
    rw [p_copy (m := m) (by simp [cpc, z_u, h]) hm (by omega) (by omega)]
  · intro a ha
    simp (disch := omega) only [cpc_o, u_o]
  · simp [cpc, z_u, h]
  · intro q h1 h2 k hk
    have hq : q = 3 ∨ q = 4 ∨ q = 5 ∨ q = 6 ∨ q = 7 ∨ q = 8 ∨ q = 9 ∨ q = 10 := by omega
    have hk2 : (0 : Nat) ≤ k ∧ k < 0 + m := ⟨Nat.zero_le _, by omega⟩
    rcases hq with rfl | rfl | rfl | rfl | rfl | rfl | rfl | rfl <;> simp [cpc, z_u, va_cpy, hk]
theorem x_copy2 {σ : z_S} {m : Nat} (hm : m ≤ 24) (h : σ 49 0 = nI m) : ∃ σ' : z_S, f_X2_copyFrom σ = some σ' ∧ (∀ a, a < 11 ∨ 25 < a → σ' a = σ a) ∧ σ' 11 0 = nI m ∧ ∀ q, 12 ≤ q → q ≤ 25 → ∀ k, k < m → σ' q k = σ (q + 38) k := by
  refine ⟨cpc (cpc (cpc (cpc (cpc (cpc (cpc (cpc (cpc (cpc (cpc (cpc (cpc (cpc (z_u σ 11 0 (σ 49 0)) 50 12 m) 51 13 m) 52 14 m) 53 15 m) 54 16 m) 55 17 m) 56 18 m) 57 19 m) 58 20 m) 59 21 m) 60 22 m) 61 23 m) 62 24 m) 63 25 m, ?_, ?_, ?_, ?_⟩
  · unfold f_X2_copyFrom
    rw [p_let]
    rw [p_copy (m := m) (by simp [cpc, z_u, h]) hm (by omega) (by omega)]
    rw [p_copy (m := m) (by simp [cpc, z_u, h]) hm (by omega) (by omega)]
    rw [p_copy (m := m) (by simp [cpc, z_u, h]) hm (by omega) (by omega)]
    rw [p_copy (m := m) (by simp [cpc, z_u, h]) hm (by omega) (by omega)]
    rw [p_copy (m := m) (by simp [cpc, z_u, h]) hm (by omega) (by omega)]
    rw [p_copy (m := m) (by simp [cpc, z_u, h]) hm (by omega) (by omega)]
    rw [p_copy (m := m) (by simp [cpc, z_u, h]) hm (by omega) (by omega)]
    rw [p_copy (m := m) (by simp [cpc, z_u, h]) hm (by omega) (by omega)]
    rw [p_copy (m := m) (by simp [cpc, z_u, h]) hm (by omega) (by omega)]
    rw [p_copy (m := m) (by simp [cpc, z_u, h]) hm (by omega) (by omega)]
    rw [p_copy (m := m) (by simp [cpc, z_u, h]) hm (by omega) (by omega)]
    rw [p_copy (m := m) (by simp [cpc, z_u, h]) hm (by omega) (by omega)]
    rw [p_copy (m := m) (by simp [cpc, z_u, h]) hm (by omega) (by omega)]
    rw [p_copy (m := m) (by simp [cpc, z_u, h]) hm (by omega) (by omega)]
  · intro a ha
    simp (disch := omega) only [cpc_o, u_o]
  · simp [cpc, z_u, h]
  · intro q h1 h2 k hk
    have hq : q = 12 ∨ q = 13 ∨ q = 14 ∨ q = 15 ∨ q = 16 ∨ q = 17 ∨ q = 18 ∨ q = 19 ∨ q = 20 ∨ q = 21 ∨ q = 22 ∨ q = 23 ∨ q = 24 ∨ q = 25 := by omega
    have hk2 : (0 : Nat) ≤ k ∧ k < 0 + m := ⟨Nat.zero_le _, by omega⟩
    rcases hq with rfl | rfl | rfl | rfl | rfl | rfl | rfl | rfl | rfl | rfl | rfl | rfl | rfl | rfl <;> simp [cpc, z_u, va_cpy, hk]
theorem x_copy3 {σ : z_S} {m : Nat} (hm : m ≤ 30) (h : σ 64 0 = nI m) : ∃ σ' : z_S, f_X3_copyFrom σ = some σ' ∧ (∀ a, a < 26 ∨ 29 < a → σ' a = σ a) ∧ σ' 26 0 = nI m ∧ ∀ q, 27 ≤ q → q ≤ 29 → ∀ k, k < m → σ' q k = σ (q + 38) k := by
  refine ⟨cpc (cpc (cpc (z_u σ 26 0 (σ 64 0)) 65 27 m) 66 28 m) 67 29 m, ?_, ?_, ?_, ?_⟩
  · unfold f_X3_copyFrom
    rw [p_let]
    rw [p_copy (m := m) (by simp [cpc, z_u, h]) hm (by omega) (by omega)]
    rw [p_copy (m := m) (by simp [cpc, z_u, h]) hm (by omega) (by omega)]
    rw [p_copy (m := m) (by simp [cpc, z_u, h]) hm (by omega) (by omega)]
  · intro a ha
    simp (disch := omega) only [cpc_o, u_o]
  · simp [cpc, z_u, h]
  · intro q h1 h2 k hk
    have hq : q = 27 ∨ q = 28 ∨ q = 29 := by omega
    have hk2 : (0 : Nat) ≤ k ∧ k < 0 + m := ⟨Nat.zero_le _, by omega⟩
    rcases hq with rfl | rfl | rfl <;> simp [cpc, z_u, va_cpy, hk]
theorem x_copy0 {σ : z_S} {m : Nat} (hm : m ≤ 3) (h : σ 68 0 = nI m) : ∃ σ' : z_S, f_X0_copyFrom σ = some σ' ∧ (∀ a, a < 30 ∨ 37 < a → σ' a = σ a) ∧ σ' 30 0 = nI m ∧ ∀ q, 31 ≤ q → q ≤ 37 → ∀ k, k < m → σ' q k = σ (q + 38) k := by
  refine ⟨cpc (cpc (cpc (cpc (cpc (cpc (cpc (z_u σ 30 0 (σ 68 0)) 69 31 m) 70 32 m) 71 33 m) 72 34 m) 73 35 m) 74 36 m) 75 37 m, ?_, ?_, ?_, ?_⟩
  · unfold f_X0_copyFrom
    rw [p_let]
    rw [p_copy (m := m) (by simp [cpc, z_u, h]) hm (by omega) (by omega)]
    rw [p_copy (m := m) (by simp [cpc, z_u, h]) hm (by omega) (by omega)]
    rw [p_copy (m := m) (by simp [cpc, z_u, h]) hm (by omega) (by omega)]
    rw [p_copy (m := m) (by simp [cpc, z_u, h]) hm (by omega) (by omega)]
    rw [p_copy (m := m) (by simp [cpc, z_u, h]) hm (by omega) (by omega)]
    rw [p_copy (m := m) (by simp [cpc, z_u, h]) hm (by omega) (by omega)]
    rw [p_copy (m := m) (by simp [cpc, z_u, h]) hm (by omega) (by omega)]
  · intro a ha
    simp (disch := omega) only [cpc_o, u_o]
  · simp [cpc, z_u, h]
  · intro q h1 h2 k hk
    have hq : q = 31 ∨ q = 32 ∨ q = 33 ∨ q = 34 ∨ q = 35 ∨ q = 36 ∨ q = 37 := by omega
    have hk2 : (0 : Nat) ≤ k ∧ k < 0 + m := ⟨Nat.zero_le _, by omega⟩
    rcases hq with rfl | rfl | rfl | rfl | rfl | rfl | rfl <;> simp [cpc, z_u, va_cpy, hk]
/-- two towns hold the same -/
def eqT (T T' : z_S) (nc nh nk np : Nat) : Prop :=
  (T' 0 0 = T 0 0 ∧ T' 0 1 = T 0 1 ∧ T' 0 2 = T 0 2) ∧ (∀ j, j < 6 → T' 1 j = T 1 j) ∧
  (T' 2 0 = T 2 0 ∧ ∀ q, 3 ≤ q → q ≤ 10 → ∀ k, k < nc → T' q k = T q k) ∧ (T' 11 0 = T 11 0 ∧ ∀ q, 12 ≤ q → q ≤ 25 → ∀ k, k < nh → T' q k = T q k) ∧
  (T' 26 0 = T 26 0 ∧ ∀ q, 27 ≤ q → q ≤ 29 → ∀ k, k < np → T' q k = T q k) ∧ (T' 30 0 = T 30 0 ∧ ∀ q, 31 ≤ q → q ≤ 37 → ∀ k, k < nk → T' q k = T q k)
theorem x_copyFrom {σ : z_S} {nc nh nk np : Nat} (hc : nc ≤ 20) (hh : nh ≤ 24) (hk : nk ≤ 3) (hp : np ≤ 30) (h2 : σ 40 0 = nI nc) (h11 : σ 49 0 = nI nh) (h26 : σ 64 0 = nI np) (h30 : σ 68 0 = nI nk) :
    ∃ σ' : z_S, f_X6_copyFrom σ = some σ' ∧ (∀ a, 38 ≤ a → σ' a = σ a) ∧ eqT (fun q => σ (q + 38)) σ' nc nh nk np := by
  obtain ⟨s1, e1⟩ : ∃ s, s = cpc (z_u (z_u (z_u σ 0 0 (σ 38 0)) 0 1 (σ 38 1)) 0 2 (σ 38 2)) 39 1 6 := ⟨_, rfl⟩
  have g0 : s1 0 0 = σ 38 0 ∧ s1 0 1 = σ 38 1 ∧ s1 0 2 = σ 38 2 := by subst e1; simp [cpc, z_u]
  have g1 : ∀ j, j < 6 → s1 1 j = σ 39 j := fun j hj => by
    subst e1
    rw [cpc_b hj]
    simp [z_u]
  have go : ∀ a, 2 ≤ a → s1 a = σ a := fun a ha => by subst e1; rw [cpc_o (by omega), u_o (by omega), u_o (by omega), u_o (by omega)]
  obtain ⟨s2, f2, o2, c2, d2⟩ := x_copy4 (σ := s1) hc (by rw [go 40 (by omega)]; exact h2)
  obtain ⟨s3, f3, o3, c3, d3⟩ := x_copy2 (σ := s2) hh (by rw [o2 49 (by omega), go 49 (by omega)]; exact h11)
  obtain ⟨s4, f4, o4, c4, d4⟩ := x_copy3 (σ := s3) hp (by rw [o3 64 (by omega), o2 64 (by omega), go 64 (by omega)]; exact h26)
  obtain ⟨s5, f5, o5, c5, d5⟩ := x_copy0 (σ := s4) hk (by rw [o4 68 (by omega), o3 68 (by omega), o2 68 (by omega), go 68 (by omega)]; exact h30)
  refine ⟨s5, ?_, fun a ha => ?_, ⟨?_, ?_, ⟨?_, ?_⟩, ⟨?_, ?_⟩, ⟨?_, ?_⟩, ⟨?_, ?_⟩⟩⟩
  · unfold f_X6_copyFrom
    rw [p_let, p_let, p_let, p_copy (x := 6) (n := 6) (m := 6) (a := 39) (b := 1) rfl (Nat.le_refl _) (by omega) (by omega)]
    have e2 : cpc (z_u (z_u (z_u σ 0 0 (σ 38 0)) 0 1 (z_u σ 0 0 (σ 38 0) 38 1)) 0 2 (z_u (z_u σ 0 0 (σ 38 0)) 0 1 (z_u σ 0 0 (σ 38 0) 38 1) 38 2)) 39 1 6 = s1 := by
      rw [e1, u_o (show 38 ≠ 0 by omega), u_o (show 38 ≠ 0 by omega), u_o (show 38 ≠ 0 by omega)]
    rw [e2]
    simp only [f2, f3, f4, f5, p_b1]
  · rw [o5 a (by omega), o4 a (by omega), o3 a (by omega), o2 a (by omega), go a (by omega)]
  · rw [o5 0 (by omega), o4 0 (by omega), o3 0 (by omega), o2 0 (by omega)]; exact g0
  · intro j hj
    rw [o5 1 (by omega), o4 1 (by omega), o3 1 (by omega), o2 1 (by omega)]; exact g1 j hj
  · rw [o5 2 (by omega), o4 2 (by omega), o3 2 (by omega), c2]; exact h2.symm
  · intro q a b k hk
    rw [o5 q (by omega), o4 q (by omega), o3 q (by omega), d2 q a b k hk, go _ (by omega)]
  · rw [o5 11 (by omega), o4 11 (by omega), c3]; exact h11.symm
  · intro q a b k hk
    rw [o5 q (by omega), o4 q (by omega), d3 q a b k hk, o2 _ (by omega), go _ (by omega)]
  · rw [o5 26 (by omega), c4]; exact h26.symm
  · intro q a b k hk
    rw [o5 q (by omega), d4 q a b k hk, o3 _ (by omega), o2 _ (by omega), go _ (by omega)]
  · rw [c5]; exact h30.symm
  · intro q a b k hk
    rw [d5 q a b k hk, o4 _ (by omega), o3 _ (by omega), o2 _ (by omega), go _ (by omega)]
