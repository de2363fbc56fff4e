/-! p30, THE PURE PART. 9: sums -/
theorem sI_add {f g : Nat → Int32} : ∀ {n : Nat}, sI (fun i => f i + g i) n = sI f n + sI g n := by
  intro n
  induction n with
  | zero => rfl
  | succ k ih =>
    simp only [sI]
    rw [ih, Int32.add_assoc, Int32.add_assoc, i_lc (f k) (sI g k) (g k)]
theorem sI_nI {f : Nat → Int32} {g : Nat → Nat} : ∀ {n : Nat}, (∀ i, i < n → f i = nI (g i)) → sI f n = nI (sN g n) := by
  intro n
  induction n with
  | zero => intro _; rfl
  | succ k ih =>
    intro h
    simp only [sI, sN]
    rw [ih (fun i hi => h i (by omega)), h k (by omega), nI_add]
theorem sN_add' {f g : Nat → Nat} {n : Nat} : sN (fun i => f i + g i) n = sN f n + sN g n := sN_add
/-- the sums over carriers and over places may be changed -/
theorem sI_swap {f : Nat → Nat → Int32} : ∀ {a b : Nat}, sI (fun i => sI (fun j => f i j) b) a = sI (fun j => sI (fun i => f i j) a) b := by
  intro a
  induction a with
  | zero => intro b; exact sI_0.symm
  | succ k ih =>
    intro b
    have h : sI (fun i => sI (fun j => f i j) b) (k + 1) = sI (fun i => sI (fun j => f i j) b) k + sI (fun j => f k j) b := rfl
    rw [h, ih, ← sI_add]
    exact sI_congr (fun j _ => rfl)
def lS (f : Nat → Int32) : List Nat → Int32
  | [] => 0
  | a :: l => f a + lS f l
theorem lS_app {f : Nat → Int32} : ∀ {l l2 : List Nat}, lS f (l ++ l2) = lS f l + lS f l2
  | [], l2 => (Int32.zero_add _).symm
  | a :: l, l2 => by
    show f a + lS f (l ++ l2) = f a + lS f l + lS f l2
    rw [lS_app, Int32.add_assoc]
theorem lS_perm {f : Nat → Int32} {l l2 : List Nat} (h : l.Perm l2) : lS f l = lS f l2 := by
  induction h with
  | nil => rfl
  | cons a _ ih => simp only [lS]; rw [ih]
  | swap a b l => simp only [lS]; exact i_lc _ _ _
  | trans _ _ h1 h2 => exact h1.trans h2
theorem sI_l {f : Nat → Int32} : ∀ {n : Nat}, sI f n = lS f (List.range n) := by
  intro n
  induction n with
  | zero => rfl
  | succ k ih =>
    rw [List.range_succ, lS_app, ← ih]
    show sI f k + f k = sI f k + (f k + 0)
    rw [Int32.add_zero]
theorem lS_map {f : Nat → Int32} {g : Nat → Nat} : ∀ {l : List Nat}, lS f (l.map g) = lS (fun i => f (g i)) l
  | [] => rfl
  | a :: l => by
    show f (g a) + lS f (l.map g) = f (g a) + lS (fun i => f (g i)) l
    rw [lS_map]
theorem sI_perm {f : Nat → Int32} {R : Nat → Nat} {n : Nat} (hR : ∀ k, k < n → R k < n) (hi : ∀ j k, j < n → k < n → R j = R k → j = k) (hs : ∀ h, h < n → ∃ k, k < n ∧ R k = h) : sI (fun k => f (R k)) n = sI f n := by
  rw [sI_l, sI_l, ← lS_map]
  refine lS_perm ((List.perm_ext_iff_of_nodup ?_ List.nodup_range).mpr (fun a => ?_))
  · refine List.Pairwise.map R (R := fun a b => a ≠ b ∧ a < n ∧ b < n) (fun a b h e => h.1 (hi a b h.2.1 h.2.2 e)) ?_
    refine List.Pairwise.imp_of_mem (fun {a b} ha hb h => ⟨h, List.mem_range.mp ha, List.mem_range.mp hb⟩) List.nodup_range
  · rw [List.mem_map, List.mem_range]
    constructor
    · rintro ⟨k, hk, rfl⟩
      exact hR k (List.mem_range.mp hk)
    · intro h
      obtain ⟨k, hk, e⟩ := hs a h
      exact ⟨k, List.mem_range.mpr hk, e⟩
/-- one of the carriers, or none -/
theorem sI_one {v : Int32} {n : Nat} {c : Nat} (hc : c < n) : sI (fun e => if e = c then v else 0) n = v := by
  have h := sI_pt (f := fun _ => (0 : Int32)) (g := fun e => if e = c then v else 0) (p := c) (v := v) (by rw [if_pos rfl, Int32.zero_add]) (fun i hi => if_neg hi) (m := n)
  rw [if_pos hc, sI_0, Int32.zero_add] at h
  exact h
theorem i_cancel {a b c : Int32} (h : a + b = a + c) : b = c := by
  have h1 : -a + (a + b) = -a + (a + c) := congrArg (fun z => -a + z) h
  rw [← Int32.add_assoc, ← Int32.add_assoc, Int32.add_left_neg, Int32.zero_add, Int32.zero_add] at h1
  exact h1
