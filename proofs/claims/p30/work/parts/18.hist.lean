/-! THE PURE PART. 6: the history -/
theorem m_copies {σ : z_S} {n0 n1 p q : Nat} (h0 : p + 537 ≤ n0) (h1 : q + 537 ≤ n1) (hn0 : n0 < 2 ^ 30) (hn1 : n1 < 2 ^ 30) : f_X10_copies n0 n1 (nI p) (nI q) σ = some (fun a => if a = 1 then va_cpy (σ 0) (σ 1) p q 537 else σ a) := by
  unfold f_X10_copies
  refine p_run2 (fun i x s => x = nI i ∧ s = fun a => if a = 1 then va_cpy (σ 0) (σ 1) p q i else σ a) 537 (by omega) ⟨rfl, ?_⟩ ?_ ?_
  · funext a
    by_cases ha : a = 1
    · subst ha
      funext j
      simp only [if_true, va_cpy]
      rw [if_neg (by omega)]
    · simp [ha]
  · rintro i x s hi ⟨rfl, rfl⟩
    refine Or.inl ⟨_, _, ⟨rfl, rfl⟩, fun k => ?_⟩
    unfold lb_X10_copies_3
    simp (disch := omega) only [zl_537, nI_leI, nI_add, p_cki, p_cl, p_let, zl_1]
    rw [if_neg (by omega)]
    congr 1
    funext a
    by_cases ha : a = 1
    · subst ha
      funext j
      by_cases hj : j = q + i
      · subst hj
        rw [u_i]
        simp only [if_true, if_neg (show ¬ (0 : Nat) = 1 by omega)]
        rw [show va_cpy (σ 0) (σ 1) p q (i + 1) (q + i) = σ 0 (p + (q + i - q)) from if_pos (by omega), show p + (q + i - q) = p + i by omega]
      · rw [u_j hj]
        simp only [if_true]
        by_cases h2 : q ≤ j ∧ j < q + i
        · rw [show va_cpy (σ 0) (σ 1) p q (i + 1) j = σ 0 (p + (j - q)) from if_pos (by omega), show va_cpy (σ 0) (σ 1) p q i j = σ 0 (p + (j - q)) from if_pos h2]
        · rw [show va_cpy (σ 0) (σ 1) p q (i + 1) j = σ 1 j from if_neg (by omega), show va_cpy (σ 0) (σ 1) p q i j = σ 1 j from if_neg h2]
    · simp [z_u, ha]
  · rintro x s ⟨rfl, rfl⟩ k
    unfold lb_X10_copies_3
    simp (disch := omega) only [zl_537, nI_leI]
    rw [if_pos (Nat.le_refl _)]
theorem zm_copies {σ : z_S} {a b p q : Nat} (h : a ≠ b) : z_m σ (zk2 a b) 2 (fun x => if x = 1 then va_cpy (σ (zi2 a b 0)) (σ (zi2 a b 1)) p q 537 else σ (zi2 a b x)) = fun i => if i = b then va_cpy (σ a) (σ b) p q 537 else σ i := by
  funext i
  by_cases h1 : i = a
  · subst h1
    simp [z_m, zk2, zi2, h]
  · by_cases h2 : i = b
    · subst h2
      simp [z_m, zk2, zi2, h1]
    · simp [z_m, zk2, h1, h2]
theorem m_copies2 {O : Type} {σ : z_S} {n0 n1 p q a b : Nat} {x y : Int32} {k : z_S → Option O} (hx : x = nI p) (hy : y = nI q) (h0 : p + 537 ≤ n0) (h1 : q + 537 ≤ n1) (hn0 : n0 < 2 ^ 30) (hn1 : n1 < 2 ^ 30) (h : a ≠ b) : (z_b1 (f_X10_copies n0 n1 x y (fun w => σ (zi2 a b w))) fun s => z_let (z_m σ (zk2 a b) 2 s) k) = k (fun i => if i = b then va_cpy (σ a) (σ b) p q 537 else σ i) := by
  rw [hx, hy, m_copies h0 h1 hn0 hn1, p_b1, p_let, zm_copies h]
theorem va_cpy_in {f g : Nat → Int32} {p q m j : Nat} (h1 : q ≤ j) (h2 : j < q + m) : va_cpy f g p q m j = f (p + (j - q)) := if_pos ⟨h1, h2⟩
theorem va_cpy_out {f g : Nat → Int32} {p q m j : Nat} (h : j < q ∨ q + m ≤ j) : va_cpy f g p q m j = g j := if_neg (by omega)
theorem m_notes (σ : z_S) : f_X10_notes σ = some (fun i => if i = 3 then va_cpy (σ 1) (σ 3) 0 0 537 else σ i) := by
  unfold f_X10_notes
  rw [m_copies2 (x := 0) (y := 0) (p := 0) (q := 0) rfl rfl (by omega) (by omega) (by omega) (by omega) (by omega)]
/-- the model's state before an answer that is no error: the numbers before the change are noted -/
def mNo (m : z_S) (n : Nat → Int32) : Prop := ∀ j, j < 537 → m 3 j = n j
theorem m_notes' (σ : z_S) : ∃ σ', f_X10_notes σ = some σ' ∧ (∀ a, a ≠ 3 → σ' a = σ a) ∧ mNo σ' (σ 1) := by
  refine ⟨_, m_notes σ, fun a ha => if_neg ha, fun j hj => ?_⟩
  simp only [if_true]
  rw [va_cpy_in (Nat.zero_le _) (by omega)]
  congr 1
  omega
/-- what the history holds behind one more state -/
def mPu (m m' : z_S) (kp : Nat) (n : Nat → Int32) : Prop :=
  (∀ a, a ≠ 0 → a ≠ 2 → m' a = m a) ∧ (∀ j, j ≠ 2 → m' 0 j = m 0 j) ∧ ((kp < 4 ∧ m' 0 2 = nI (kp + 1) ∧ (∀ i, i < kp → ∀ j, j < 537 → m' 2 (537 * i + j) = m 2 (537 * i + j)) ∧ ∀ j, j < 537 → m' 2 (537 * kp + j) = n j) ∨
    (kp = 4 ∧ m' 0 2 = nI 4 ∧ (∀ i, i < 3 → ∀ j, j < 537 → m' 2 (537 * i + j) = m 2 (537 * (i + 1) + j)) ∧ ∀ j, j < 537 → m' 2 (537 * 3 + j) = n j))
theorem m_ends_n {m : z_S} {r : Int32} (h : r < 0) : f_X10_ends r m = some (r, m) := by
  unfold f_X10_ends
  rw [if_pos h]
theorem m_endsJ {s : z_S} {r : Int32} {d : Nat} (hd : d ≤ 3) (hk : s 0 2 = nI d) : ∃ m' : z_S, (z_b1 (f_X10_copies 537 2148 (0 : Int32) ((s 0 2) * (537 : Int32)) (fun k => s (zi2 3 2 k))) fun σ5 => z_let (z_m s (zk2 3 2) 2 σ5) fun σ6 => z_let (z_u σ6 0 2 ((σ6 0 2) + (1 : Int32))) fun σ7 => some (r, σ7)) = some (r, m') ∧ (∀ a, a ≠ 0 → a ≠ 2 → m' a = s a) ∧ (∀ j, j ≠ 2 → m' 0 j = s 0 j) ∧ m' 0 2 = nI (d + 1) ∧ (∀ j, j < 537 * d ∨ 537 * d + 537 ≤ j → m' 2 j = s 2 j) ∧ ∀ j, j < 537 → m' 2 (537 * d + j) = s 3 j := by
  rw [m_copies2 (x := 0) (p := 0) (q := 537 * d) rfl (by rw [hk, zl_537, pk_mul, Nat.mul_comm]) (by omega) (by omega) (by omega) (by omega) (by omega), p_let]
  refine ⟨_, rfl, fun a a0 a2 => ?_, fun j hj => ?_, ?_, fun j hj => ?_, fun j hj => ?_⟩
  · rw [u_o a0]
    simp only [if_neg a2]
  · rw [u_j hj]
    simp only [if_neg (show ¬ (0 : Nat) = 2 by omega)]
  · rw [u_i]
    simp only [if_neg (show ¬ (0 : Nat) = 2 by omega)]
    rw [hk, zl_1, nI_add]
  · rw [u_o (show 2 ≠ 0 by omega)]
    simp only [if_true]
    rw [va_cpy_out (by omega)]
  · rw [u_o (show 2 ≠ 0 by omega)]
    simp only [if_true]
    rw [va_cpy_in (by omega) (by omega)]
    congr 1
    omega
theorem m_ends {m : z_S} {n : Nat → Int32} {r : Int32} {kp : Nat} (h : ¬ r < 0) (hkp : kp ≤ 4) (hk : m 0 2 = nI kp) (hn : mNo m n) : ∃ m', f_X10_ends r m = some (r, m') ∧ mPu m m' kp n := by
  unfold f_X10_ends
  rw [if_neg h, p_let]
  by_cases h4 : kp = 4
  · subst h4
    rw [if_pos (by rw [hk]; rfl)]
    refine p_ex2 (fun o => ∃ m', o = some (r, m') ∧ mPu m m' 4 n) (fun i x s => x = nI i ∧ (∀ a, a ≠ 2 → s a = m a) ∧ (∀ j, j < i → s 2 j = m 2 (j + 537)) ∧ ∀ j, i ≤ j → s 2 j = m 2 j) 1611 (by omega) ⟨rfl, fun _ _ => rfl, fun j hj => by omega, fun _ _ => rfl⟩ ?_ ?_
    · rintro i x s hi ⟨rfl, h2, h3, h5⟩
      refine Or.inl ⟨_, z_u s 2 i (s 2 (i + 537)), ⟨rfl, fun a ha => by rw [u_o ha]; exact h2 a ha, fun j hj => ?_, fun j hj => by rw [u_j (by omega)]; exact h5 j (by omega)⟩, fun kk => ?_⟩
      · by_cases e : j = i
        · subst e
          rw [u_i, h5 _ (by omega)]
        · rw [u_j e, h3 j (by omega)]
      · unfold lb_X10_ends_14
        simp (disch := omega) only [zl_1611, nI_leI, zl_537, nI_add, p_cki, p_cl, p_let, zl_1]
        rw [if_neg (by omega)]
    · rintro x s ⟨rfl, h2, h3, h5⟩
      obtain ⟨m', e, q1, q2, q3, q4, q5⟩ := m_endsJ (s := z_u s 0 2 3) (r := r) (d := 3) (Nat.le_refl _) (by rw [u_i]; rfl)
      refine ⟨_, ⟨m', e, fun a a0 a2 => ?_, fun j hj => ?_, Or.inr ⟨rfl, q3, fun i hi j hj => ?_, fun j hj => ?_⟩⟩, fun kk => ?_⟩
      · rw [q1 a a0 a2, u_o a0, h2 a a2]
      · rw [q2 j hj, u_j hj, h2 0 (by omega)]
      · rw [q4 _ (by omega), u_o (show 2 ≠ 0 by omega), h3 _ (by omega), show 537 * i + j + 537 = 537 * (i + 1) + j by omega]
      · rw [q5 j hj, u_o (show 3 ≠ 0 by omega), h2 3 (by omega)]
        exact hn j hj
      · unfold lb_X10_ends_14
        simp (disch := omega) only [zl_1611, nI_leI]
        rw [if_pos (Nat.le_refl _), p_let]
  · rw [if_neg (by rw [hk, zl_4]; exact nI_ne (by omega) (by omega) h4)]
    obtain ⟨m', e, q1, q2, q3, q4, q5⟩ := m_endsJ (s := m) (r := r) (d := kp) (by omega) hk
    refine ⟨m', e, q1, q2, Or.inl ⟨by omega, q3, fun i hi j hj => q4 _ (by omega), fun j hj => ?_⟩⟩
    rw [q5 j hj]
    exact hn j hj
