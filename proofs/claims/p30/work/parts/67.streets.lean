/-! p30, THE PURE PART. 8: streets come to the depot -/
section STREETS
variable {x m : z_S} {nc nh nk np dy : Nat} {ah pl : Nat → Nat}
theorem sBy_nI {a : Nat} : ∀ {n : Nat}, ∃ q, q ≤ n ∧ sBy ah pl a n = nI q := by
  intro n
  induction n with
  | zero => exact ⟨0, Nat.le_refl _, rfl⟩
  | succ k ih =>
    obtain ⟨q, hq, e⟩ := ih
    have h : sBy ah pl a (k + 1) = sBy ah pl a k + tb (tB ah (pl k) a) := rfl
    rw [h, e]
    by_cases c : tB ah (pl k) a
    · rw [tb_t c, nI_add]; exact ⟨q + 1, by omega, rfl⟩
    · rw [tb_f c, nI_add]; exact ⟨q, by omega, rfl⟩
theorem sBy_le {a b : Nat} : ∀ {n : Nat}, (∀ h, h < n → tB ah (pl h) a → tB ah (pl h) b) → ∃ p q, p ≤ q ∧ q ≤ n ∧ sBy ah pl a n = nI p ∧ sBy ah pl b n = nI q := by
  intro n
  induction n with
  | zero => intro _; exact ⟨0, 0, Nat.le_refl _, Nat.le_refl _, rfl, rfl⟩
  | succ k ih =>
    intro h
    obtain ⟨p, q, h1, h2, e1, e2⟩ := ih (fun j hj => h j (by omega))
    have g1 : sBy ah pl a (k + 1) = sBy ah pl a k + tb (tB ah (pl k) a) := rfl
    have g2 : sBy ah pl b (k + 1) = sBy ah pl b k + tb (tB ah (pl k) b) := rfl
    rw [g1, g2, e1, e2]
    by_cases c : tB ah (pl k) a
    · rw [tb_t c, tb_t (h k (by omega) c), nI_add, nI_add]; exact ⟨p + 1, q + 1, by omega, by omega, rfl, rfl⟩
    · rw [tb_f c]
      by_cases d : tB ah (pl k) b
      · rw [tb_t d, nI_add, nI_add]; exact ⟨p, q + 1, by omega, by omega, rfl, rfl⟩
      · rw [tb_f d, nI_add, nI_add]; exact ⟨p, q, by omega, by omega, rfl, rfl⟩
theorem sBy_0 (hA : tA ah nc) : ∀ {n : Nat}, (∀ h, h < n → pl h < nc) → sBy ah pl 0 n = nI n := by
  have all : ∀ y, y < nc → tB ah y 0 := by
    intro y
    induction y using Nat.strongRecOn with
    | _ y ih =>
      intro hy
      by_cases h0 : y = 0
      · subst h0; exact tB_0.mpr rfl
      · have h1 := hA y (by omega) hy
        exact (tB_s hA (by omega) hy).mpr (Or.inr (ih (ah y) h1 (by omega)))
  intro n
  induction n with
  | zero => intro _; rfl
  | succ k ih =>
    intro h
    have g : sBy ah pl 0 (k + 1) = sBy ah pl 0 k + tb (tB ah (pl k) 0) := rfl
    rw [g, ih (fun j hj => h j (by omega)), tb_t (all _ (h k (by omega))), nI_add]
theorem v_streets (X : XT x m nc nh nk np dy ah pl) (h0 : m 1 12 = 0) : f_X11_streets x = some 1 := by
  obtain ⟨b0, b1, b2, b3, b4, b5⟩ := X.b
  have hC := X.2.1
  have hA := hC.1.2.2.2.1
  have hpl : ∀ h, h < nh → pl h < nc := fun h hh => (X.2.2.1.1.2.2 h hh).2
  unfold f_X11_streets
  obtain ⟨_, rfl, k', e⟩ := r_run1 (body := lb_X11_streets_2 x) (x1 := (1 : Int32)) (fun i a => a = nI (i + 1)) (nc - 1) (by omega) rfl (by
    rintro i a hi rfl
    refine ⟨_, rfl, fun k => ?_⟩
    have hk : i + 1 < nc := by omega
    have ha := hA (i + 1) (by omega) hk
    obtain ⟨p, q, s1, s2, s3, s4⟩ := sBy_le (ah := ah) (pl := pl) (a := i + 1) (b := ah (i + 1)) (n := nh) (fun h hh q => tB_trans hA (hpl h hh) q ((tB_s hA (by omega) hk).mpr (Or.inr (tB_self hA (by omega)))))
    unfold lb_X11_streets_2
    rw [v_count_0 X, p_b1, if_neg (nI_ge (b := nc) hk (by omega)), v_corner_0 X (by omega) hk, p_b1, if_neg (nI_pos (by omega)), if_neg (nI_ge ha (by omega)), v_corner_4 X hk, p_b1, v_corner_4 X (k := ah (i + 1)) (by omega), p_b1, v_corner_1 X (by omega) hk, p_b1, if_pos (tf_dis hA (by omega) hk), v_corner_6 X hk, p_b1, v_corner_6 X (k := ah (i + 1)) (by omega), p_b1, p_let, p_let]
    have fin : ∀ v : Int32, rCrt (m 1) ah (i + 1) = v → (if rCrt (m 1) ah (i + 1) = v then (z_b1 (f_X9_cornerOf (nI (i + 1)) 5 x) fun r39 => z_b1 (f_X9_cornerOf (nI (ah (i + 1))) 5 x) fun r41 => if r39 ≤ r41 then (z_let (nI (i + 1) + (1 : Int32)) fun x43 => k x43) else (some (0 : Int32))) else (some (0 : Int32))) = k (nI (i + 1 + 1)) := by
      intro v hv
      rw [if_pos hv, v_corner_5 X hk, p_b1, v_corner_5 X (k := ah (i + 1)) (by omega), p_b1, s3, s4, if_pos (nI_le s1 (by omega)), p_let, nI_1]
    have hst := (hC.2.2.1 (i + 1) hk).2.2.2.2.2.2.2
    have hcr := tf_crt (n := m 1) hA (x := i + 1) (by omega) hk
    by_cases c1 : rCrt (m 1) ah (ah (i + 1)) = 1
    · rw [if_pos c1, v_corner_3 X (by omega) hk, p_b1]
      rcases hst with c2 | c2
      · rw [if_pos (show m 1 (10 + 4 * (i + 1) + 3) = 0 from c2)]
        refine fin 1 ?_
        rw [hcr, if_neg (by rw [c2]; decide)]
        exact c1
      · rw [if_neg (show ¬ m 1 (10 + 4 * (i + 1) + 3) = 0 by rw [c2]; decide)]
        refine fin 0 ?_
        rw [hcr, if_pos c2]
        rfl
    · rw [if_neg c1]
      refine fin 0 ?_
      rw [hcr]
      rcases hst with c2 | c2
      · rw [if_neg (by rw [c2]; decide)]
        rcases rCrt_01 (n := m 1) hA (x := ah (i + 1)) (by omega) with c3 | c3
        · exact c3
        · exact absurd c3 c1
      · rw [if_pos c2]
        rfl)
  rw [e]
  unfold lb_X11_streets_2
  rw [v_count_0 X, p_b1, if_pos (nI_le (by omega) (by omega)), show f_X9_cornerOf 0 4 x = _ from v_corner_4 X (k := 0) (by omega), p_b1, if_pos (show rDis (m 1) ah 0 = 0 from rfl), show f_X9_cornerOf 0 2 x = _ from v_corner_2 X (k := 0) (by omega), p_b1, if_pos h0, show f_X9_cornerOf 0 6 x = _ from v_corner_6 X (k := 0) (by omega), p_b1, if_pos (show rCrt (m 1) ah 0 = 1 from rfl), show f_X9_cornerOf 0 5 x = _ from v_corner_5 X (k := 0) (by omega), p_b1, v_count_1 X, p_b1, if_pos (sBy_0 hA hpl)]
end STREETS
