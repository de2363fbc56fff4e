/-! p30, THE PURE PART. 16: what a day does to the counts -/
theorem tpP_o {Y : Nat → Int32} {j : Nat} (hj : ∀ c, j ≠ 426 + 7 * c + 5) : ∀ i, tpP Y i j = Y j := by
  intro i
  induction i with
  | zero => rfl
  | succ i ih =>
    show tpR (tpP Y i) i j = _
    rw [← ih]
    unfold tpR
    by_cases c : tpP Y i (90 + 14 * i + 13) = 1 ∧ ¬ tpP Y i (90 + 14 * i + 3) = -1
    · rw [cif_t c, un_j (hj _)]
    · rw [cif_f c]
theorem bF_cases (n : Nat → Int32) (np : Nat) (d : Int32) (R : Nat → Nat) (k : Nat) :
    (pz n np (nI (R k)) d ∧ bF n np d R k 6 = n (90 + 14 * R k + 6) ∧ bF n np d R k 7 = n (90 + 14 * R k + 7) + n (90 + 14 * R k + 1) ∧ bF n np d R k 8 = n (90 + 14 * R k + 8) ∧ bF n np d R k 9 = n (90 + 14 * R k + 9) ∧ bF n np d R k 10 = n (90 + 14 * R k + 10) ∧ bF n np d R k 11 = n (90 + 14 * R k + 11) ∧ bF n np d R k 12 = n (90 + 14 * R k + 12)) ∨
    ((¬ pz n np (nI (R k)) d ∧ n (90 + 14 * R k + 3) = -1) ∧ bF n np d R k 6 = n (90 + 14 * R k + 6) ∧ bF n np d R k 7 = n (90 + 14 * R k + 7) ∧ bF n np d R k 8 = n (90 + 14 * R k + 8) ∧ bF n np d R k 9 = n (90 + 14 * R k + 9) ∧ bF n np d R k 10 = n (90 + 14 * R k + 10) + n (90 + 14 * R k + 1) ∧ bF n np d R k 11 = n (90 + 14 * R k + 11) + 1 ∧ bF n np d R k 12 = n (90 + 14 * R k + 12) + 1) ∨
    ((¬ pz n np (nI (R k)) d ∧ ¬ n (90 + 14 * R k + 3) = -1 ∧ lmN n (n (90 + 14 * R k + 3)).toNatClampNeg < wtN n d (R k)) ∧ bF n np d R k 6 = n (90 + 14 * R k + 6) ∧ bF n np d R k 7 = n (90 + 14 * R k + 7) ∧ bF n np d R k 8 = n (90 + 14 * R k + 8) ∧ bF n np d R k 9 = n (90 + 14 * R k + 9) + n (90 + 14 * R k + 1) ∧ bF n np d R k 10 = n (90 + 14 * R k + 10) ∧ bF n np d R k 11 = n (90 + 14 * R k + 11) + 1 ∧ bF n np d R k 12 = n (90 + 14 * R k + 12) + 1) ∨
    ((¬ pz n np (nI (R k)) d ∧ ¬ n (90 + 14 * R k + 3) = -1 ∧ ¬ lmN n (n (90 + 14 * R k + 3)).toNatClampNeg < wtN n d (R k) ∧ (oX n (R k) d ∧ k2 n np d R (n (90 + 14 * R k + 3)).toNatClampNeg k = 0)) ∧ bF n np d R k 6 = n (90 + 14 * R k + 6) ∧ bF n np d R k 7 = n (90 + 14 * R k + 7) ∧ bF n np d R k 8 = n (90 + 14 * R k + 8) + n (90 + 14 * R k + 1) ∧ bF n np d R k 9 = n (90 + 14 * R k + 9) ∧ bF n np d R k 10 = n (90 + 14 * R k + 10) ∧ bF n np d R k 11 = n (90 + 14 * R k + 11) + 1 ∧ bF n np d R k 12 = n (90 + 14 * R k + 12) + 1) ∨
    ((¬ pz n np (nI (R k)) d ∧ ¬ n (90 + 14 * R k + 3) = -1 ∧ ¬ lmN n (n (90 + 14 * R k + 3)).toNatClampNeg < wtN n d (R k) ∧ ¬ (oX n (R k) d ∧ k2 n np d R (n (90 + 14 * R k + 3)).toNatClampNeg k = 0)) ∧ bF n np d R k 6 = n (90 + 14 * R k + 6) + n (90 + 14 * R k + 1) ∧ bF n np d R k 7 = n (90 + 14 * R k + 7) ∧ bF n np d R k 8 = n (90 + 14 * R k + 8) ∧ bF n np d R k 9 = n (90 + 14 * R k + 9) ∧ bF n np d R k 10 = n (90 + 14 * R k + 10) ∧ bF n np d R k 11 = n (90 + 14 * R k + 11) ∧ bF n np d R k 12 = n (90 + 14 * R k + 12)) := by
  by_cases c1 : pz n np (nI (R k)) d
  · have hb : ∀ w, bF n np d R k w = (if w = 7 then n (90 + 14 * R k + 7) + n (90 + 14 * R k + 1) else n (90 + 14 * R k + w)) := fun w => cif_t c1
    refine Or.inl ⟨c1, ?_, ?_, ?_, ?_, ?_, ?_, ?_⟩ <;> rw [hb] <;> rfl
  · refine Or.inr ?_
    by_cases c2 : n (90 + 14 * R k + 3) = -1
    · have hb : ∀ w, bF n np d R k w = (if w = 10 then n (90 + 14 * R k + 10) + n (90 + 14 * R k + 1) else if w = 11 ∨ w = 12 then n (90 + 14 * R k + w) + 1 else n (90 + 14 * R k + w)) := fun w => (cif_f c1).trans (cif_t c2)
      refine Or.inl ⟨⟨c1, c2⟩, ?_, ?_, ?_, ?_, ?_, ?_, ?_⟩ <;> rw [hb] <;> rfl
    · refine Or.inr ?_
      by_cases c3 : lmN n (n (90 + 14 * R k + 3)).toNatClampNeg < wtN n d (R k)
      · have hb : ∀ w, bF n np d R k w = (if w = 9 then n (90 + 14 * R k + 9) + n (90 + 14 * R k + 1) else if w = 11 ∨ w = 12 then n (90 + 14 * R k + w) + 1 else n (90 + 14 * R k + w)) := fun w => (cif_f c1).trans ((cif_f c2).trans (cif_t c3))
        refine Or.inl ⟨⟨c1, c2, c3⟩, ?_, ?_, ?_, ?_, ?_, ?_, ?_⟩ <;> rw [hb] <;> rfl
      · refine Or.inr ?_
        by_cases c4 : oX n (R k) d ∧ k2 n np d R (n (90 + 14 * R k + 3)).toNatClampNeg k = 0
        · have hb : ∀ w, bF n np d R k w = (if w = 8 then n (90 + 14 * R k + 8) + n (90 + 14 * R k + 1) else if w = 11 ∨ w = 12 then n (90 + 14 * R k + w) + 1 else n (90 + 14 * R k + w)) := fun w => (cif_f c1).trans ((cif_f c2).trans ((cif_f c3).trans (cif_t c4)))
          refine Or.inl ⟨⟨c1, c2, c3, c4⟩, ?_, ?_, ?_, ?_, ?_, ?_, ?_⟩ <;> rw [hb] <;> rfl
        · have hb : ∀ w, bF n np d R k w = (if w = 6 then n (90 + 14 * R k + 6) + n (90 + 14 * R k + 1) else if w = 13 then 1 else n (90 + 14 * R k + w)) := fun w => (cif_f c1).trans ((cif_f c2).trans ((cif_f c3).trans (cif_f c4)))
          refine Or.inr ⟨⟨c1, c2, c3, c4⟩, ?_, ?_, ?_, ?_, ?_, ?_, ?_⟩ <;> rw [hb] <;> rfl
/-- what is loaded on a round, and where dogs are out -/
theorem wk_p {f : (Nat → Nat) → Int32} {Q : Nat → Prop} {wt : Nat → Nat} {pp dg : Nat → Int32} {pl : Nat → Nat} {lim : Nat} {R : Nat → Nat} : ∀ i, (wk f Q wt pp dg pl lim R i).2.2.1 = sI (fun k => cif (Q (R k) ∧ wt (R k) ≤ lim) (pp (R k)) 0) i ∧ (wk f Q wt pp dg pl lim R i).2.2.2.1 = sI (fun k => cif (Q (R k) ∧ wt (R k) ≤ lim) (dg (R k)) 0) i := by
  intro i
  induction i with
  | zero => exact ⟨rfl, rfl⟩
  | succ i ih =>
    rw [sI_s, sI_s, ← ih.1, ← ih.2]
    show (wk1 f Q wt pp dg pl lim (R i) (wk f Q wt pp dg pl lim R i)).2.2.1 = _ ∧ (wk1 f Q wt pp dg pl lim (R i) (wk f Q wt pp dg pl lim R i)).2.2.2.1 = _
    generalize wk f Q wt pp dg pl lim R i = s
    obtain ⟨t, e, p, g, o, D⟩ := s
    by_cases q : Q (R i) ∧ wt (R i) ≤ lim
    · rw [cif_t q, cif_t q]
      by_cases q2 : t = 0 ∨ lim < o + wt (R i)
      · rw [wk1_new q.1 q.2 q2]; exact ⟨rfl, rfl⟩
      · rw [wk1_old q.1 q.2 q2]; exact ⟨rfl, rfl⟩
    · rw [wk1_no q, cif_f q, cif_f q, Int32.add_zero, Int32.add_zero]; exact ⟨rfl, rfl⟩
section DAYC
variable {n : Nat → Int32} {np : Nat} {d : Int32} {R : Nat → Nat}
theorem k6_sum {c : Nat} : ∀ i, k6 n np d R c i = n (426 + 7 * c + 6) + sI (fun k => cif (hDlv n np d R c k) (n (90 + 14 * R k + 1)) 0) i := by
  intro i
  induction i with
  | zero => exact (Int32.add_zero _).symm
  | succ i ih =>
    show cif (hDlv n np d R c i) (k6 n np d R c i + n (90 + 14 * R i + 1)) (k6 n np d R c i) = _
    rw [sI_s, ← Int32.add_assoc, ← ih]
    by_cases q : hDlv n np d R c i
    · rw [cif_t q, cif_t q]
    · rw [cif_f q, cif_f q, Int32.add_zero]
/-- the biscuits of a round, by the dogs -/
theorem k2_dogs {c b : Nat} (hb : n (426 + 7 * c + 2) = nI b) (hb5 : b ≤ 500) : ∀ i, i ≤ 1000 → ∃ e, e ≤ i ∧ sI (fun k => cif (hAct n np d c (R k)) (tb (oX n (R k) d)) 0) i = nI e ∧ k2 n np d R c i = nI (b - e) := by
  intro i
  induction i with
  | zero => intro _; exact ⟨0, Nat.le_refl _, rfl, hb⟩
  | succ i ih =>
    intro hi
    obtain ⟨e, e1, e2, e3⟩ := ih (by omega)
    have hk : k2 n np d R c (i + 1) = cif (hAct n np d c (R i) ∧ oX n (R i) d ∧ k2 n np d R c i ≠ 0) (k2 n np d R c i + -1) (k2 n np d R c i) := rfl
    rw [sI_s, e2, hk, e3]
    by_cases q1 : hAct n np d c (R i)
    · rw [cif_t q1]
      by_cases q2 : oX n (R i) d
      · rw [tb_t q2, nI_add]
        refine ⟨e + 1, by omega, rfl, ?_⟩
        by_cases q3 : b - e = 0
        · rw [cif_f (fun w => w.2.2 (by rw [q3]; rfl)), q3, show b - (e + 1) = 0 by omega]
        · rw [cif_t ⟨q1, q2, nI_ne0 (by omega) (by omega)⟩, show b - e = (b - (e + 1)) + 1 by omega, pk_m1]
      · rw [tb_f q2, nI_add]
        exact ⟨e, by omega, rfl, cif_f (fun w => q2 w.2.1)⟩
    · rw [cif_f q1, show (0 : Int32) = nI 0 from rfl, nI_add]
      exact ⟨e, by omega, rfl, cif_f (fun w => q1 w.1)⟩
/-- one carrier has it, or none -/
theorem sI_car {nk c0 : Nat} {v : Int32} {P : Nat → Prop} (hc : c0 < nk) (ho : ∀ c, c < nk → c ≠ c0 → ¬ P c) : sI (fun c => cif (P c) v 0) nk = cif (P c0) v 0 := by
  have h : sI (fun c => cif (P c) v 0) nk = sI (fun c => if c = c0 then cif (P c0) v 0 else 0) nk := sI_congr (fun c hcn => by
    by_cases q : c = c0
    · rw [if_pos q, q]
    · rw [if_neg q, cif_f (ho c hcn q)])
  rw [h, sI_one hc]
theorem sI_non {nk : Nat} {v : Int32} {P : Nat → Prop} (ho : ∀ c, c < nk → ¬ P c) : sI (fun c => cif (P c) v 0) nk = 0 := by
  rw [sI_congr (g := fun _ => (0 : Int32)) (fun c hc => cif_f (ho c hc)), sI_0]
end DAYC
