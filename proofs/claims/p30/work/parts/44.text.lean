/-! THE PURE PART. 32: orders read from the text -/
theorem zu_self {σ : z_S} {i j : Nat} {v : Int32} (h : σ i j = v) : z_u σ i j v = σ := by
  funext a b
  by_cases q : a = i ∧ b = j
  · rw [q.1, q.2, u_i, h]
  · rw [zu_n q]
theorem zu_zu {σ : z_S} {i j : Nat} {v w : Int32} : z_u (z_u σ i j v) i j w = z_u σ i j w := by
  funext a b
  by_cases q : a = i ∧ b = j
  · rw [q.1, q.2, u_i, u_i]
  · rw [zu_n q, zu_n q, zu_n q]
theorem nI_sub' {a b : Nat} (h : b ≤ a) : nI a - nI b = nI (a - b) := by
  have e : nI a = nI (a - b) + nI b := by rw [nI_add, Nat.sub_add_cancel h]
  rw [e, Int32.add_sub_cancel]
/-- the text of the class and that of the model -/
def tx (T m : z_S) (c : Nat → Nat) (L : Nat) : Prop := T 0 0 = nI L ∧ m 0 6 = nI L ∧ L ≤ 60 ∧ ∀ k, k < L → T 1 k = nI (c k) ∧ m 5 k = nI (c k) ∧ 32 ≤ c k ∧ c k ≤ 126
section TEXT
variable {T m : z_S} {c : Nat → Nat} {L : Nat}
theorem tx.upd {T' m' : z_S} (h : tx T m c L) (h0 : T' 0 0 = T 0 0) (h1 : T' 1 = T 1) (h6 : m' 0 6 = m 0 6) (h5 : m' 5 = m 5) : tx T' m' c L := by
  unfold tx
  rw [h0, h1, h6, h5]
  exact h
theorem m_sign (h : tx T m c L) {a : Nat} (ha : a < 1000) : f_X10_signAt (nI a) m = some (if a < L then nI (c a) else 0) := by
  obtain ⟨-, h6, h60, hk⟩ := h
  unfold f_X10_signAt
  rw [h6]
  by_cases q : a < L
  · rw [if_neg (nI_ge q (by omega)), if_pos q, p_cki (by omega) (by omega), p_cl (by omega), (hk a q).2.1]
  · rw [if_pos (nI_le (by omega) (by omega)), if_neg q]
def dgt (c : Nat → Nat) (L a : Nat) : Prop := a < L ∧ 48 ≤ c a ∧ c a ≤ 57
theorem dgt_in (h : tx T m c L) {a : Nat} (hd : dgt c L a) : (48 : Int32) ≤ nI (c a) ∧ nI (c a) ≤ 57 := ⟨nI_le (a := 48) hd.2.1 (by have := hd.2.2; omega), nI_le (b := 57) hd.2.2 (by omega)⟩
theorem dgt_out (h : tx T m c L) {a : Nat} (ha : a < L) (hd : ¬ dgt c L a) : ¬ ((48 : Int32) ≤ nI (c a) ∧ nI (c a) ≤ 57) := by
  obtain ⟨-, -, h1, h2⟩ := h.2.2.2 a ha
  intro q
  refine hd ⟨ha, ?_, ?_⟩
  · exact (nI_leI (a := 48) (by omega) (by omega)).mp q.1
  · exact (nI_leI (b := 57) (by omega) (by omega)).mp q.2
theorem x_num_stop (h : tx T m c L) {a j v : Nat} (ha : T 0 3 = nI a) (haL : a ≤ L) (hj : j ≤ 3) (hs : 3 ≤ j ∨ ¬ dgt c L a) (kk : Int32 → Int32 → z_S → Option (Int32 × z_S)) : lb_X5_readNumber_4 kk (nI v) (nI j) T = some (if j = 0 then -1 else nI v, T) := by
  have h60 := h.2.2.1
  have fin : ((if nI j = (0 : Int32) then some ((-1 : Int32), T) else some (nI v, T)) : Option (Int32 × z_S)) = some (if j = 0 then -1 else nI v, T) := by
    by_cases q : j = 0
    · rw [if_pos (by rw [q]; rfl), if_pos q]
    · rw [if_neg (nI_ne0 (by omega) (by omega)), if_neg q]
  unfold lb_X5_readNumber_4
  rw [p_let]
  by_cases q3 : 3 ≤ j
  · rw [if_pos (show (3 : Int32) ≤ nI j from nI_le (a := 3) q3 (by omega))]
    exact fin
  · rw [if_neg (show ¬ (3 : Int32) ≤ nI j from nI_ge (b := 3) (by omega) (by omega)), h.1, ha]
    by_cases qL : a < L
    · rw [if_neg (nI_ge qL (by omega)), p_cki (by omega) (by omega), p_cl (by omega), (h.2.2.2 a qL).1, w_tb, p_b1, show (if tb ((48 : Int32) ≤ nI (c a) ∧ nI (c a) ≤ 57) = (0 : Int32) then _ else _) = _ from p_tbF (dgt_out h qL (hs.resolve_left q3))]
      exact fin
    · rw [if_pos (nI_le (by omega) (by omega))]
      exact fin
theorem x_num_go (h : tx T m c L) {a j v : Nat} (ha : T 0 3 = nI a) (hj : j < 3) (hd : dgt c L a) (kk : Int32 → Int32 → z_S → Option (Int32 × z_S)) : lb_X5_readNumber_4 kk (nI v) (nI j) T = kk (nI (v * 10 + (c a - 48))) (nI (j + 1)) (z_u T 0 3 (nI (a + 1))) := by
  have h60 := h.2.2.1
  have hL := hd.1
  unfold lb_X5_readNumber_4
  rw [p_let, if_neg (show ¬ (3 : Int32) ≤ nI j from nI_ge (b := 3) (by omega) (by omega)), h.1, ha, if_neg (nI_ge hL (by omega)), p_cki (by omega) (by omega), p_cl (by omega), (h.2.2.2 a hL).1, w_tb, p_b1, show (if tb ((48 : Int32) ≤ nI (c a) ∧ nI (c a) ≤ 57) = (0 : Int32) then _ else _) = _ from p_tbT (dgt_in h hd), p_cki (by omega) (by omega), p_let, p_let, p_let,
    show (48 : Int32) = nI 48 from rfl, show (10 : Int32) = nI 10 from rfl, nI_sub' hd.2.1, pk_mul, nI_add, zl_1, nI_add, nI_add]
theorem m_num_stop (h : tx T m c L) {a j v w : Nat} (ha : m 0 14 = nI a) (haL : a ≤ L) (hj : j ≤ 3) (hw : w < 3) (hs : 3 ≤ j ∨ ¬ dgt c L a) (kk : Int32 → Int32 → z_S → Option (Int32 × z_S)) : lb_X10_readsNumber_4 (nI w) kk (nI v) (nI j) m = some (if j = 0 then 0 else 1, z_u m 9 w (nI v)) := by
  have h60 := h.2.2.1
  have fin : (z_cki (nI w) 3 <| z_let (z_u m 9 (nI w).toNatClampNeg (nI v)) fun σ7 => if nI j ≤ (0 : Int32) then (some ((0 : Int32), σ7)) else (some ((1 : Int32), σ7))) = some (if j = 0 then 0 else 1, z_u m 9 w (nI v)) := by
    rw [p_cki (by omega) (by omega), p_cl (by omega), p_let]
    by_cases q : j = 0
    · rw [if_pos (by rw [q]; decide), if_pos q]
    · rw [if_neg (nI_nle (by omega) (by omega)), if_neg q]
  unfold lb_X10_readsNumber_4
  rw [p_let]
  by_cases q3 : 3 ≤ j
  · rw [if_pos (show (3 : Int32) ≤ nI j from nI_le (a := 3) q3 (by omega))]
    exact fin
  · rw [if_neg (show ¬ (3 : Int32) ≤ nI j from nI_ge (b := 3) (by omega) (by omega)), ha, m_sign h (by omega), p_b1, m_tb, p_b1]
    by_cases qL : a < L
    · rw [if_pos qL, show (if tb ((48 : Int32) ≤ nI (c a) ∧ nI (c a) ≤ 57) = (0 : Int32) then _ else _) = _ from p_tbF (dgt_out h qL (hs.resolve_left q3))]
      exact fin
    · rw [if_neg qL, show (if tb ((48 : Int32) ≤ 0 ∧ (0 : Int32) ≤ 57) = (0 : Int32) then _ else _) = _ from p_tbF (fun q => absurd q.1 (by decide))]
      exact fin
theorem m_num_go (h : tx T m c L) {a j v w : Nat} (ha : m 0 14 = nI a) (hj : j < 3) (hd : dgt c L a) (kk : Int32 → Int32 → z_S → Option (Int32 × z_S)) : lb_X10_readsNumber_4 (nI w) kk (nI v) (nI j) m = kk (nI (v * 10 + (c a - 48))) (nI (j + 1)) (z_u m 0 14 (nI (a + 1))) := by
  have h60 := h.2.2.1
  have hL := hd.1
  unfold lb_X10_readsNumber_4
  rw [p_let, if_neg (show ¬ (3 : Int32) ≤ nI j from nI_ge (b := 3) (by omega) (by omega)), ha, m_sign h (by omega), p_b1, m_tb, p_b1, if_pos hL, show (if tb ((48 : Int32) ≤ nI (c a) ∧ nI (c a) ≤ 57) = (0 : Int32) then _ else _) = _ from p_tbT (dgt_in h hd), p_b1, p_let, p_let, p_let,
    show (48 : Int32) = nI 48 from rfl, show (10 : Int32) = nI 10 from rfl, pk_mul, nI_add, nI_sub' (by have := hd.2.1; omega), zl_1, nI_add, nI_add, show 10 * v + c a - 48 = v * 10 + (c a - 48) from by have := hd.2.1; omega]
theorem num_same {w : Nat} (hw : w < 3) : ∀ (n j v a f f' : Nat) (T m : z_S), n + j = 3 → n < f → n < f' → tx T m c L → T 0 3 = nI a → m 0 14 = nI a → a ≤ L →
    ∃ a' v', z_lp3 lb_X5_readNumber_4 f (nI v) (nI j) T = some (if j + (a' - a) = 0 then -1 else nI v', z_u T 0 3 (nI a')) ∧ z_lp3 (lb_X10_readsNumber_4 (nI w)) f' (nI v) (nI j) m = some (if j + (a' - a) = 0 then 0 else 1, z_u (z_u m 0 14 (nI a')) 9 w (nI v')) ∧ a ≤ a' ∧ a' ≤ L ∧ v' < (v + 1) * 10 ^ n := by
  intro n
  induction n with
  | zero =>
    intro j v a f f' T m hn hf hf' h hT hm haL
    obtain ⟨f, rfl⟩ : ∃ q, f = q + 1 := ⟨f - 1, by omega⟩
    obtain ⟨f', rfl⟩ : ∃ q, f' = q + 1 := ⟨f' - 1, by omega⟩
    refine ⟨a, v, ?_, ?_, Nat.le_refl _, haL, by omega⟩
    · rw [zu_self hT, Nat.sub_self, Nat.add_zero]
      exact x_num_stop h hT haL (by omega) (Or.inl (by omega)) _
    · rw [zu_self hm, Nat.sub_self, Nat.add_zero]
      exact m_num_stop h hm haL (by omega) hw (Or.inl (by omega)) _
  | succ n ih =>
    intro j v a f f' T m hn hf hf' h hT hm haL
    obtain ⟨f, rfl⟩ : ∃ q, f = q + 1 := ⟨f - 1, by omega⟩
    obtain ⟨f', rfl⟩ : ∃ q, f' = q + 1 := ⟨f' - 1, by omega⟩
    have hp : 1 ≤ 10 ^ n := Nat.one_le_pow _ _ (by omega)
    have hpp : 10 ^ (n + 1) = 10 ^ n * 10 := Nat.pow_succ ..
    by_cases hd : dgt c L a
    · obtain ⟨a', v', h1, h2, h3, h4, h5⟩ := ih (j + 1) (v * 10 + (c a - 48)) (a + 1) f f' (z_u T 0 3 (nI (a + 1))) (z_u m 0 14 (nI (a + 1))) (by omega) (by omega) (by omega) (h.upd (u_j (by omega)) (u_o (by omega)) (u_j (by omega)) (u_o (by omega))) u_i u_i (by have := hd.1; omega)
      refine ⟨a', v', ?_, ?_, by omega, h4, ?_⟩
      · refine (x_num_go h hT (by omega) hd _).trans ?_
        rw [h1, zu_zu, if_neg (by omega), if_neg (by omega)]
      · refine (m_num_go h hm (by omega) hd _).trans ?_
        rw [h2, zu_zu, if_neg (by omega), if_neg (by omega)]
      · have := hd.2.2
        calc v' < (v * 10 + (c a - 48) + 1) * 10 ^ n := h5
          _ ≤ ((v + 1) * 10) * 10 ^ n := Nat.mul_le_mul_right _ (by omega)
          _ = (v + 1) * 10 ^ (n + 1) := by rw [hpp, Nat.mul_assoc, Nat.mul_comm 10]
    · refine ⟨a, v, ?_, ?_, Nat.le_refl _, haL, ?_⟩
      · rw [zu_self hT, Nat.sub_self, Nat.add_zero]
        exact x_num_stop h hT haL (by omega) (Or.inr hd) _
      · rw [zu_self hm, Nat.sub_self, Nat.add_zero]
        exact m_num_stop h hm haL (by omega) hw (Or.inr hd) _
      · calc v < (v + 1) * 1 := by omega
          _ ≤ (v + 1) * 10 ^ (n + 1) := Nat.mul_le_mul_left _ (Nat.one_le_pow _ _ (by omega))
theorem x_sign (h : tx T m c L) {a : Nat} (ha : T 0 3 = nI a) (haL : a ≤ L) (s : Nat) (hs : s < 1000) : f_X5_readSign (nI s) T = if a < L ∧ c a = s then some (1, z_u T 0 3 (nI (a + 1))) else some (0, T) := by
  have h60 := h.2.2.1
  unfold f_X5_readSign
  rw [h.1, ha]
  by_cases q : a < L
  · obtain ⟨e1, -, e2, e3⟩ := h.2.2.2 a q
    rw [if_neg (nI_ge q (by omega)), p_cki (by omega) (by omega), p_cl (by omega), e1]
    by_cases q2 : c a = s
    · rw [if_pos (by rw [q2]), if_pos ⟨q, q2⟩, p_let, zl_1, nI_add]
    · rw [if_neg (nI_ne (by omega) (by omega) q2), if_neg (fun w => q2 w.2)]
  · rw [if_pos (nI_le (by omega) (by omega)), if_neg (fun w => q w.1)]
/-- how many numbers an order has -/
def nW (v : Nat) : Nat := if v = 112 then 3 else if v = 103 ∨ v = 98 then 2 else if v = 110 ∨ v = 100 then 1 else 0
/-- what an order read leaves -/
def rdR (T m T' m' : z_S) (b : Int32) (W a L : Nat) : Prop :=
  (∀ q, q ≠ 0 → q ≠ 2 → T' q = T q) ∧ (∀ j, j ≠ 3 → T' 0 j = T 0 j) ∧ (∀ q, q ≠ 0 → q ≠ 9 → m' q = m q) ∧ (∀ j, j ≠ 14 → m' 0 j = m 0 j) ∧
  (b = 0 ∨ (b = 1 ∧ (∃ a', a < a' ∧ a' ≤ L ∧ T' 0 3 = nI a' ∧ m' 0 14 = nI a') ∧ ∀ i, i < W → T' 2 i = m' 9 i))
end TEXT
