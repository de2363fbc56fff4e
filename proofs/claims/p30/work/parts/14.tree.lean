/-! THE PURE PART. 2: the tree of the streets, and the order of its corners -/
def t_fold {α : Type} (z : α) (g : Nat → α → α) (ah : Nat → Nat) : Nat → Nat → α
  | 0, _ => z
  | f + 1, x => if x = 0 then z else g x (t_fold z g ah f (ah x))
def tf {α : Type} (z : α) (g : Nat → α → α) (ah : Nat → Nat) (x : Nat) : α := t_fold z g ah x x
theorem t_fold_fuel {α : Type} {z : α} {g : Nat → α → α} {ah : Nat → Nat} : ∀ (f e x : Nat), (∀ k, 1 ≤ k → k ≤ x → ah k < k) → x ≤ f → x ≤ e → t_fold z g ah f x = t_fold z g ah e x := by
  intro f
  induction f with
  | zero =>
    intro e x _ hx _
    have h0 : x = 0 := by omega
    subst h0
    cases e <;> simp [t_fold]
  | succ f ih =>
    intro e x hA hx he
    cases e with
    | zero =>
      have h0 : x = 0 := by omega
      subst h0
      simp [t_fold]
    | succ e =>
      by_cases h0 : x = 0
      · simp [t_fold, h0]
      · have h1 := hA x (by omega) (Nat.le_refl _)
        simp only [t_fold, if_neg h0]
        rw [ih e (ah x) (fun k h2 h3 => hA k h2 (by omega)) (by omega) (by omega)]
theorem tf_0 {α : Type} {z : α} {g : Nat → α → α} {ah : Nat → Nat} : tf z g ah 0 = z := rfl
theorem tf_s {α : Type} {z : α} {g : Nat → α → α} {ah : Nat → Nat} {x : Nat} (hA : ∀ k, 1 ≤ k → k ≤ x → ah k < k) (hx : 1 ≤ x) : tf z g ah x = g x (tf z g ah (ah x)) := by
  have h1 := hA x hx (Nat.le_refl _)
  obtain ⟨y, rfl⟩ : ∃ y, x = y + 1 := ⟨x - 1, by omega⟩
  show t_fold z g ah (y + 1) (y + 1) = g (y + 1) (t_fold z g ah (ah (y + 1)) (ah (y + 1)))
  simp only [t_fold, Nat.add_eq_zero_iff, Nat.one_ne_zero, and_false, if_false]
  rw [t_fold_fuel y (ah (y + 1)) (ah (y + 1)) (fun k h2 h3 => hA k h2 (by omega)) (by omega) (Nat.le_refl _)]
theorem tf_congr {α : Type} {z : α} {g g' : Nat → α → α} {ah ah' : Nat → Nat} : ∀ (x : Nat), (∀ k, 1 ≤ k → k ≤ x → ah k < k ∧ ah' k = ah k ∧ g' k = g k) → tf z g' ah' x = tf z g ah x := by
  intro x
  induction x using Nat.strongRecOn with
  | _ x ih =>
    intro hA
    by_cases h0 : x = 0
    · subst h0; rfl
    · have h1 := hA x (by omega) (Nat.le_refl _)
      rw [tf_s (fun k h2 h3 => (hA k h2 h3).1) (by omega), tf_s (ah := ah') (fun k h2 h3 => by rw [(hA k h2 h3).2.1]; exact (hA k h2 h3).1) (by omega), h1.2.1, h1.2.2, ih (ah x) h1.1 (fun k h2 h3 => hA k h2 (by omega))]
/-- a corner is another one, or beyond it -/
def tB (ah : Nat → Nat) (x a : Nat) : Prop := tf (0 = a) (fun y r => y = a ∨ r) ah x
def tD (ah : Nat → Nat) (x : Nat) : Nat := tf 0 (fun _ d => d + 1) ah x
def tA (ah : Nat → Nat) (c : Nat) : Prop := ∀ k, 1 ≤ k → k < c → ah k < k
section TREE
variable {ah : Nat → Nat} {c : Nat}
theorem tB_0 {a : Nat} : tB ah 0 a ↔ a = 0 := by
  unfold tB
  rw [tf_0]
  exact eq_comm
theorem tB_s (hA : tA ah c) {x a : Nat} (hx : 1 ≤ x) (hc : x < c) : tB ah x a ↔ x = a ∨ tB ah (ah x) a := by
  unfold tB
  rw [tf_s (fun k h1 h2 => hA k h1 (by omega)) hx]
theorem tD_s (hA : tA ah c) {x : Nat} (hx : 1 ≤ x) (hc : x < c) : tD ah x = tD ah (ah x) + 1 := by
  unfold tD
  rw [tf_s (fun k h1 h2 => hA k h1 (by omega)) hx]
theorem tB_self (hA : tA ah c) {x : Nat} (hc : x < c) : tB ah x x := by
  by_cases h0 : x = 0
  · subst h0; exact tB_0.mpr rfl
  · exact (tB_s hA (by omega) hc).mpr (Or.inl rfl)
theorem tB_le (hA : tA ah c) {a : Nat} : ∀ {x : Nat}, x < c → tB ah x a → a ≤ x := by
  intro x
  induction x using Nat.strongRecOn with
  | _ x ih =>
    intro hc h
    by_cases h0 : x = 0
    · subst h0
      rw [tB_0.mp h]
      exact Nat.le_refl _
    · have h1 := hA x (by omega) hc
      rcases (tB_s hA (by omega) hc).mp h with rfl | h
      · exact Nat.le_refl _
      · have := ih (ah x) h1 (by omega) h
        omega
theorem tB_trans (hA : tA ah c) {y z : Nat} : ∀ {x : Nat}, x < c → tB ah x y → tB ah y z → tB ah x z := by
  intro x
  induction x using Nat.strongRecOn with
  | _ x ih =>
    intro hc h h2
    by_cases h0 : x = 0
    · subst h0
      rw [tB_0.mp h] at h2
      exact h2
    · have h1 := hA x (by omega) hc
      rcases (tB_s hA (by omega) hc).mp h with rfl | h
      · exact h2
      · exact (tB_s hA (by omega) hc).mpr (Or.inr (ih (ah x) h1 (by omega) h h2))
theorem tB_D (hA : tA ah c) {a : Nat} : ∀ {x : Nat}, x < c → tB ah x a → x = a ∨ tD ah a < tD ah x := by
  intro x
  induction x using Nat.strongRecOn with
  | _ x ih =>
    intro hc h
    by_cases h0 : x = 0
    · subst h0
      exact Or.inl (tB_0.mp h).symm
    · have h1 := hA x (by omega) hc
      rcases (tB_s hA (by omega) hc).mp h with rfl | h
      · exact Or.inl rfl
      · right
        rw [tD_s hA (by omega) hc]
        rcases ih (ah x) h1 (by omega) h with e | e
        · rw [e]; omega
        · omega
/-- an order of c corners in which all beyond a corner stand right behind it -/
def tJ (ah : Nat → Nat) (c : Nat) (o : Nat → Nat) : Prop :=
  (∀ p, p < c → o p < c) ∧ (∀ x, x < c → ∃ p, p < c ∧ o p = x) ∧ (∀ p q, p < c → q < c → o p = o q → p = q) ∧
  (∀ p q, p < q → q < c → (tB ah (o q) (o p) ↔ ∀ r, p < r → r ≤ q → tD ah (o p) < tD ah (o r))) ∧
  (∀ p q, q < p → p < c → ¬ tB ah (o q) (o p))
def tI (o : Nat → Nat) (e c : Nat) : Nat → Nat := fun k => if k < e then o k else if k = e then c else o (k - 1)
theorem tI_lt {o : Nat → Nat} {e c k : Nat} (h : k < e) : tI o e c k = o k := if_pos h
theorem tI_eq {o : Nat → Nat} {e c : Nat} : tI o e c e = c := by simp [tI]
theorem tI_gt {o : Nat → Nat} {e c k : Nat} (h : e < k) : tI o e c k = o (k - 1) := by
  have h1 : ¬ k < e := by omega
  have h2 : ¬ k = e := by omega
  simp [tI, h1, h2]
/-- where a new corner comes: behind the last that is beyond the one ahead of it; seen from the front, by depths -/
theorem tJ_pos (hA : tA ah c) {o : Nat → Nat} (hJ : tJ ah c o) {p e : Nat} (hp : p < e) (he : e ≤ c) (h1 : ∀ r, p < r → r < e → tD ah (o p) < tD ah (o r)) (h2 : e < c → tD ah (o e) ≤ tD ah (o p)) : tB ah (o (e - 1)) (o p) ∧ ∀ r, e ≤ r → r < c → ¬ tB ah (o r) (o p) := by
  obtain ⟨j1, j2, j3, j4, j5⟩ := hJ
  refine ⟨?_, fun r hr hc hb => ?_⟩
  · by_cases h : e - 1 = p
    · rw [h]
      exact tB_self hA (j1 p (by omega))
    · exact (j4 p (e - 1) (by omega) (by omega)).mpr (fun r h3 h4 => h1 r h3 (by omega))
  · have h3 := (j4 p r (by omega) hc).mp hb e hp hr
    have h4 := h2 (by omega)
    omega
theorem tJ_ins (hA : tA ah (c + 1)) {o : Nat → Nat} (hc1 : 1 ≤ c) (hJ : tJ ah c o) {p e : Nat} (hf : o p = ah c) (hp : p < e) (he : e ≤ c) (h1 : ∀ r, p < r → r < e → tD ah (o p) < tD ah (o r)) (h2 : e < c → tD ah (o e) ≤ tD ah (o p)) : tJ ah (c + 1) (tI o e c) := by
  have hA0 : tA ah c := fun k a b => hA k a (by omega)
  obtain ⟨hb1, hb2⟩ := tJ_pos hA0 hJ hp he h1 h2
  obtain ⟨j1, j2, j3, j4, j5⟩ := hJ
  have hfc : ah c < c := hA c hc1 (by omega)
  have Bc : ∀ a, tB ah c a ↔ c = a ∨ tB ah (o p) a := fun a => by rw [hf]; exact tB_s hA hc1 (by omega)
  have Dc : tD ah c = tD ah (o p) + 1 := by rw [hf]; exact tD_s hA hc1 (by omega)
  have notB : ∀ x, x < c → ¬ tB ah x c := fun x hx h => by
    have := tB_le hA0 hx h
    omega
  refine ⟨fun q hq => ?_, fun x hx => ?_, fun u v hu hv huv => ?_, fun u v huv hv => ?_, fun u v hvu hu => ?_⟩
  · unfold tI
    split
    · have := j1 q (by omega); omega
    · split
      · omega
      · have := j1 (q - 1) (by omega); omega
  · by_cases hxc : x = c
    · exact ⟨e, by omega, by rw [tI_eq, hxc]⟩
    · obtain ⟨q, hq, rfl⟩ := j2 x (by omega)
      by_cases hqe : q < e
      · exact ⟨q, by omega, tI_lt hqe⟩
      · exact ⟨q + 1, by omega, by rw [tI_gt (by omega)]; rfl⟩
  · rcases Nat.lt_trichotomy u e with h | h | h <;> rcases Nat.lt_trichotomy v e with h' | h' | h'
    · rw [tI_lt h, tI_lt h'] at huv; exact j3 u v (by omega) (by omega) huv
    · subst h'; rw [tI_lt h, tI_eq] at huv; have := j1 u (by omega); omega
    · rw [tI_lt h, tI_gt h'] at huv; have := j3 u (v - 1) (by omega) (by omega) huv; omega
    · subst h; rw [tI_lt h', tI_eq] at huv; have := j1 v (by omega); omega
    · omega
    · subst h; rw [tI_gt h', tI_eq] at huv; have := j1 (v - 1) (by omega); omega
    · rw [tI_gt h, tI_lt h'] at huv; have := j3 (u - 1) v (by omega) (by omega) huv; omega
    · subst h'; rw [tI_gt h, tI_eq] at huv; have := j1 (u - 1) (by omega); omega
    · rw [tI_gt h, tI_gt h'] at huv; have := j3 (u - 1) (v - 1) (by omega) (by omega) huv; omega
  · -- J1
    rcases Nat.lt_trichotomy u e with h | h | h
    · rw [tI_lt h]
      rcases Nat.lt_trichotomy v e with h' | h' | h'
      · rw [tI_lt h', j4 u v huv (by omega)]
        exact ⟨fun q r a b => by rw [tI_lt (by omega)]; exact q r a b, fun q r a b => by have := q r a b; rw [tI_lt (by omega)] at this; exact this⟩
      · subst h'
        rw [tI_eq, Bc]
        have hne : ¬ c = o u := fun q => by have := j1 u (by omega); omega
        constructor
        · rintro (q | q)
          · exact absurd q hne
          · intro r a b
            have hup : u ≤ p := by
              rcases Nat.lt_or_ge p u with z | z
              · exact absurd q (j5 u p z (by omega))
              · exact z
            by_cases hrv : r = v
            · subst hrv
              rw [tI_eq, Dc]
              rcases tB_D hA0 (j1 p (by omega)) q with z | z
              · rw [z]; omega
              · omega
            · rw [tI_lt (by omega)]
              by_cases hup2 : u = p
              · subst hup2; exact h1 r a (by omega)
              · have hb3 : tB ah (o (v - 1)) (o u) := tB_trans hA0 (j1 _ (by omega)) hb1 q
                exact (j4 u (v - 1) (by omega) (by omega)).mp hb3 r a (by omega)
        · intro q
          right
          have hve := q v h (Nat.le_refl _)
          rw [tI_eq, Dc] at hve
          have hup : u ≤ p := by
            rcases Nat.lt_or_ge p u with z | z
            · have := h1 u z h; omega
            · exact z
          by_cases hup2 : u = p
          · rw [hup2]; exact tB_self hA0 (j1 p (by omega))
          · exact (j4 u p (by omega) (by omega)).mpr (fun r a b => by have := q r a (by omega); rw [tI_lt (by omega)] at this; exact this)
      · rw [tI_gt h', j4 u (v - 1) (by omega) (by omega)]
        constructor
        · intro q r a b
          rcases Nat.lt_trichotomy r e with z | z | z
          · rw [tI_lt z]; exact q r a (by omega)
          · subst z
            rw [tI_eq, Dc]
            have hup : u < p := by
              rcases Nat.lt_trichotomy u p with z | z | z
              · exact z
              · exfalso
                subst z
                have := q r a (by omega)
                have := h2 (by omega)
                omega
              · exfalso
                have h3 := (j4 u (v - 1) (by omega) (by omega)).mpr q
                have h4 : tB ah (o u) (o p) := (j4 p u z (by omega)).mpr (fun r' a' b' => h1 r' a' (by omega))
                exact hb2 (v - 1) (by omega) (by omega) (tB_trans hA0 (j1 _ (by omega)) h3 h4)
            have := q p hup (by omega)
            omega
          · rw [tI_gt z]; exact q (r - 1) (by omega) (by omega)
        · intro q r a b
          by_cases z : r < e
          · have := q r a (by omega); rw [tI_lt z] at this; exact this
          · have := q (r + 1) (by omega) (by omega); rw [tI_gt (by omega)] at this; exact this
    · subst h
      rw [tI_eq, tI_gt huv]
      refine ⟨fun q => absurd q (notB _ (j1 _ (by omega))), fun q => ?_⟩
      have h3 := q (u + 1) (by omega) (by omega)
      rw [tI_gt (by omega), Dc, Nat.add_sub_cancel] at h3
      have := h2 (by omega)
      omega
    · rw [tI_gt h, tI_gt (by omega), j4 (u - 1) (v - 1) (by omega) (by omega)]
      refine ⟨fun q r a b => by rw [tI_gt (by omega)]; exact q (r - 1) (by omega) (by omega), fun q r a b => ?_⟩
      have := q (r + 1) (by omega) (by omega)
      rw [tI_gt (by omega)] at this
      exact this
  · -- J2
    rcases Nat.lt_trichotomy v e with h | h | h
    · rw [tI_lt h]
      rcases Nat.lt_trichotomy u e with h' | h' | h'
      · rw [tI_lt h']; exact j5 u v hvu (by omega)
      · subst h'; rw [tI_eq]; exact notB _ (j1 _ (by omega))
      · rw [tI_gt h']; exact j5 (u - 1) v (by omega) (by omega)
    · subst h
      rw [tI_eq, tI_gt hvu, Bc]
      rintro (q | q)
      · have := j1 (u - 1) (by omega); omega
      · exact j5 (u - 1) p (by omega) (by omega) q
    · rw [tI_gt h, tI_gt (by omega)]
      exact j5 (u - 1) (v - 1) (by omega) (by omega)
theorem tJ_1 : tJ ah 1 (fun _ => 0) := by
  refine ⟨fun p h => Nat.one_pos, fun x h => ⟨0, by omega, by show 0 = x; omega⟩, fun p q h1 h2 _ => by omega, fun p q h1 h2 => by omega, fun p q h1 h2 => by omega⟩
/-- the order by number of corners: each new one behind the last that is beyond the one ahead of it -/
noncomputable def tE (ah o : Nat → Nat) (f : Nat) : Nat → Nat
  | 0 => 0
  | e + 1 => @ite _ (tB ah (o e) f) (Classical.propDecidable _) (e + 1) (tE ah o f e)
noncomputable def tO (ah : Nat → Nat) : Nat → Nat → Nat
  | 0 => fun _ => 0
  | c + 1 => if c = 0 then fun _ => 0 else tI (tO ah c) (tE ah (tO ah c) (ah c) c) c
theorem tE_t {o : Nat → Nat} {f e : Nat} (h : tB ah (o e) f) : tE ah o f (e + 1) = e + 1 := by simp [tE, h]
theorem tE_f {o : Nat → Nat} {f e : Nat} (h : ¬ tB ah (o e) f) : tE ah o f (e + 1) = tE ah o f e := by simp [tE, h]
theorem tE_eq {o : Nat → Nat} {f e : Nat} (h1 : 1 ≤ e) (h2 : tB ah (o (e - 1)) f) : ∀ {c : Nat}, e ≤ c → (∀ r, e ≤ r → r < c → ¬ tB ah (o r) f) → tE ah o f c = e := by
  intro c
  induction c with
  | zero => intro h _; omega
  | succ c ih =>
    intro h h3
    by_cases hec : e = c + 1
    · subst hec
      exact tE_t h2
    · rw [tE_f (h3 c (by omega) (by omega))]
      exact ih (by omega) (fun r a b => h3 r a (by omega))
theorem tE_le {o : Nat → Nat} {f : Nat} : ∀ {c : Nat}, tE ah o f c ≤ c := by
  intro c
  induction c with
  | zero => exact Nat.le_refl _
  | succ c ih =>
    by_cases h : tB ah (o c) f
    · rw [tE_t h]; exact Nat.le_refl _
    · rw [tE_f h]; omega
theorem tO_s (h : 1 ≤ c) : tO ah (c + 1) = tI (tO ah c) (tE ah (tO ah c) (ah c) c) c := by
  show (if c = 0 then _ else _) = _
  rw [if_neg (by omega)]
theorem tO_1 : tO ah 1 = fun _ => 0 := rfl
/-- the place by depths is the place by what is beyond -/
theorem tO_pos (hA : tA ah c) {o : Nat → Nat} (hJ : tJ ah c o) {f p e : Nat} (hf : o p = f) (hp : p < e) (he : e ≤ c) (h1 : ∀ r, p < r → r < e → tD ah (o p) < tD ah (o r)) (h2 : e < c → tD ah (o e) ≤ tD ah (o p)) : tE ah o f c = e := by
  subst hf
  obtain ⟨a, b⟩ := tJ_pos hA hJ hp he h1 h2
  exact tE_eq (by omega) a he b
theorem tJ_ex (hA : tA ah c) {o : Nat → Nat} (hJ : tJ ah c o) {f : Nat} (hf : f < c) : ∃ p e, o p = f ∧ p < e ∧ e ≤ c ∧ (∀ r, p < r → r < e → tD ah (o p) < tD ah (o r)) ∧ (e < c → tD ah (o e) ≤ tD ah (o p)) ∧ tE ah o f c = e := by
  obtain ⟨p, hp, hpf⟩ := hJ.2.1 f hf
  obtain ⟨e, ⟨h1, h2, h3⟩, h4⟩ := pk_least (fun e => p < e ∧ e ≤ c ∧ (e < c → tD ah (o e) ≤ tD ah (o p))) ⟨c, hp, Nat.le_refl _, fun h => by omega⟩
  have h5 : ∀ r, p < r → r < e → tD ah (o p) < tD ah (o r) := by
    intro r a b
    rcases Nat.lt_or_ge (tD ah (o p)) (tD ah (o r)) with z | z
    · exact z
    · exact absurd ⟨a, by omega, fun _ => z⟩ (h4 r b)
  exact ⟨p, e, hpf, h1, h2, h5, h3, tO_pos hA hJ hpf h1 h2 h5 h3⟩
theorem tO_J : ∀ {c : Nat}, 1 ≤ c → tA ah c → tJ ah c (tO ah c) := by
  intro c
  induction c with
  | zero => intro h; omega
  | succ c ih =>
    intro _ hA
    by_cases h0 : c = 0
    · subst h0; exact tJ_1
    · have hA0 : tA ah c := fun k a b => hA k a (by omega)
      have hJ := ih (by omega) hA0
      obtain ⟨p, e, hf, hp, he, h1, h2, h3⟩ := tJ_ex hA0 hJ (f := ah c) (hA c (by omega) (by omega))
      rw [tO_s (by omega), h3]
      exact tJ_ins hA (by omega) hJ hf hp he h1 h2
theorem tB_congr (hA : tA ah c) {ah' : Nat → Nat} (he : ∀ k, 1 ≤ k → k < c → ah' k = ah k) {x a : Nat} (hx : x < c) : tB ah' x a ↔ tB ah x a := by
  unfold tB
  rw [tf_congr x (fun k h1 h2 => ⟨hA k h1 (by omega), he k h1 (by omega), rfl⟩)]
theorem tE_congr {ah' o : Nat → Nat} {f : Nat} : ∀ {c : Nat}, (∀ r, r < c → (tB ah' (o r) f ↔ tB ah (o r) f)) → tE ah' o f c = tE ah o f c := by
  intro c
  induction c with
  | zero => intro _; rfl
  | succ c ih =>
    intro h
    have h1 := ih (fun r hr => h r (by omega))
    by_cases hb : tB ah (o c) f
    · rw [tE_t hb, tE_t ((h c (by omega)).mpr hb)]
    · rw [tE_f hb, tE_f (fun q => hb ((h c (by omega)).mp q)), h1]
theorem tO_congr {ah' : Nat → Nat} : ∀ {c : Nat}, tA ah c → (∀ k, 1 ≤ k → k < c → ah' k = ah k) → tO ah' c = tO ah c := by
  intro c
  induction c with
  | zero => intro _ _; rfl
  | succ c ih =>
    intro hA he
    by_cases h0 : c = 0
    · subst h0; rfl
    · have hA0 : tA ah c := fun k a b => hA k a (by omega)
      have e0 := ih hA0 (fun k a b => he k a (by omega))
      rw [tO_s (by omega), tO_s (by omega), e0, he c (by omega) (by omega), tE_congr (fun r hr => tB_congr hA0 (fun k a b => he k a (by omega)) ((tO_J (by omega) hA0).1 r hr))]
/-! the row of the houses -/
def hF (pl : Nat → Nat) (x : Nat) : Nat → List Nat
  | 0 => []
  | m + 1 => if pl m = x then hF pl x m ++ [m] else hF pl x m
def hL (o pl : Nat → Nat) (nh : Nat) : Nat → List Nat
  | 0 => []
  | k + 1 => hL o pl nh k ++ hF pl (o k) nh
theorem hF_mem {pl : Nat → Nat} {x h : Nat} : ∀ {m : Nat}, h ∈ hF pl x m ↔ h < m ∧ pl h = x := by
  intro m
  induction m with
  | zero => simp [hF]
  | succ m ih =>
    unfold hF
    split
    · rename_i e
      simp only [List.mem_append, List.mem_singleton, ih]
      constructor
      · rintro (⟨a, b⟩ | rfl)
        · exact ⟨by omega, b⟩
        · exact ⟨by omega, e⟩
      · rintro ⟨a, b⟩
        by_cases hm : h = m
        · exact Or.inr hm
        · exact Or.inl ⟨by omega, b⟩
    · rename_i e
      rw [ih]
      constructor
      · rintro ⟨a, b⟩
        exact ⟨by omega, b⟩
      · rintro ⟨a, b⟩
        refine ⟨?_, b⟩
        rcases Nat.lt_or_ge h m with z | z
        · exact z
        · have : h = m := by omega
          subst this
          exact absurd b e
theorem hF_nodup {pl : Nat → Nat} {x : Nat} : ∀ {m : Nat}, (hF pl x m).Nodup := by
  intro m
  induction m with
  | zero => exact List.nodup_nil
  | succ m ih =>
    unfold hF
    split
    · refine List.nodup_append.mpr ⟨ih, by simp, fun a ha b hb => ?_⟩
      simp only [List.mem_singleton] at hb
      subst hb
      have := (hF_mem.mp ha).1
      omega
    · exact ih
theorem hL_mem {o pl : Nat → Nat} {nh h : Nat} : ∀ {k : Nat}, h ∈ hL o pl nh k ↔ h < nh ∧ ∃ j, j < k ∧ o j = pl h := by
  intro k
  induction k with
  | zero => simp [hL]
  | succ k ih =>
    simp only [hL, List.mem_append, ih, hF_mem]
    constructor
    · rintro (⟨a, j, b, e⟩ | ⟨a, b⟩)
      · exact ⟨a, j, by omega, e⟩
      · exact ⟨a, k, by omega, b.symm⟩
    · rintro ⟨a, j, b, e⟩
      by_cases hj : j = k
      · subst hj; exact Or.inr ⟨a, e.symm⟩
      · exact Or.inl ⟨a, j, by omega, e⟩
theorem hL_nodup {o pl : Nat → Nat} {nh : Nat} : ∀ {k : Nat}, (∀ p q, p < k → q < k → o p = o q → p = q) → (hL o pl nh k).Nodup := by
  intro k
  induction k with
  | zero => intro _; exact List.nodup_nil
  | succ k ih =>
    intro hj
    refine List.nodup_append.mpr ⟨ih (fun p q a b => hj p q (by omega) (by omega)), hF_nodup, fun a ha b hb => ?_⟩
    rintro rfl
    obtain ⟨h1, j, h2, h3⟩ := hL_mem.mp ha
    have h4 := (hF_mem.mp hb).2
    have := hj j k (by omega) (by omega) (h3.trans h4)
    omega
theorem l_pigeon {α : Type} [BEq α] [LawfulBEq α] : ∀ {l1 l2 : List α}, l1.Nodup → (∀ a ∈ l1, a ∈ l2) → l1.length ≤ l2.length
  | [], _, _, _ => Nat.zero_le _
  | a :: t, l2, hn, hs => by
    have h1 : a ∈ l2 := hs a List.mem_cons_self
    have h2 := List.nodup_cons.mp hn
    have h3 : t.length ≤ (l2.erase a).length := l_pigeon h2.2 (fun b hb => (List.mem_erase_of_ne (fun e => h2.1 (by rw [← e]; exact hb) : b ≠ a)).mpr (hs b (List.mem_cons_of_mem _ hb)))
    have h4 := List.length_erase_of_mem h1
    have h5 : 0 < l2.length := List.length_pos_of_mem h1
    simp only [List.length_cons]
    omega
theorem hL_len_le {o pl : Nat → Nat} {nh k : Nat} (hj : ∀ p q, p < k → q < k → o p = o q → p = q) : (hL o pl nh k).length ≤ nh := by
  have h := l_pigeon (l2 := List.range nh) (hL_nodup (pl := pl) (nh := nh) hj) (fun a ha => List.mem_range.mpr (hL_mem.mp ha).1)
  simpa using h
theorem hL_len {o pl : Nat → Nat} {nh k : Nat} (hj : ∀ p q, p < k → q < k → o p = o q → p = q) (hs : ∀ h, h < nh → ∃ j, j < k ∧ o j = pl h) : (hL o pl nh k).length = nh := by
  have h1 := hL_len_le (pl := pl) (nh := nh) hj
  have h := l_pigeon (l1 := List.range nh) (l2 := hL o pl nh k) List.nodup_range (fun a ha => hL_mem.mpr ⟨List.mem_range.mp ha, hs a (List.mem_range.mp ha)⟩)
  simp only [List.length_range] at h
  omega
theorem hL_congr {o pl o' pl' : Nat → Nat} {nh : Nat} : ∀ {k : Nat}, (∀ j, j < k → o' j = o j) → (∀ h, h < nh → pl' h = pl h) → hL o' pl' nh k = hL o pl nh k := by
  intro k
  have hf : ∀ (x m : Nat), (∀ h, h < m → pl' h = pl h) → hF pl' x m = hF pl x m := by
    intro x m
    induction m with
    | zero => intro _; rfl
    | succ m ih =>
      intro h
      simp only [hF, h m (by omega), ih (fun q hq => h q (by omega))]
  induction k with
  | zero => intro _ _; rfl
  | succ k ih =>
    intro h1 h2
    simp only [hL, ih (fun j hj => h1 j (by omega)) h2, h1 k (by omega), hf _ _ h2]
theorem hF_none {pl : Nat → Nat} {x m : Nat} (h : ∀ i, i < m → pl i ≠ x) : hF pl x m = [] := by
  rcases hl : hF pl x m with _ | ⟨a, t⟩
  · rfl
  · have := hF_mem.mp (by rw [hl]; exact List.mem_cons_self : a ∈ hF pl x m)
    exact absurd this.2 (h a this.1)
/-- a corner without houses changes nothing -/
theorem hL_ins {o pl : Nat → Nat} {nh e c : Nat} (he : e ≤ c) (hp : ∀ h, h < nh → pl h ≠ c) : hL (tI o e c) pl nh (c + 1) = hL o pl nh c := by
  have h1 : hL (tI o e c) pl nh e = hL o pl nh e := hL_congr (fun j hj => tI_lt hj) (fun _ _ => rfl)
  have h2 : ∀ d, e + d ≤ c → hL (tI o e c) pl nh (e + d + 1) = hL o pl nh (e + d) := by
    intro d
    induction d with
    | zero =>
      intro _
      show hL (tI o e c) pl nh e ++ hF pl (tI o e c e) nh = hL o pl nh e
      rw [tI_eq, hF_none hp, h1, List.append_nil]
    | succ d ih =>
      intro h
      show hL (tI o e c) pl nh (e + d + 1) ++ hF pl (tI o e c (e + d + 1)) nh = hL o pl nh (e + d) ++ hF pl (o (e + d)) nh
      rw [ih (by omega), tI_gt (by omega), Nat.add_sub_cancel]
  have := h2 (c - e) (by omega)
  rw [show e + (c - e) = c by omega] at this
  exact this
end TREE
