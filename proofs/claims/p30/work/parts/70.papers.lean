/-! p30, THE PURE PART. 11: houses, carriers and accounts tell the same -/
theorem z_letX {α O : Type} {R : Option O} {v : α} {k : α → Option O} (h : ∀ x, x = v → k x = R) : z_let v k = R := h v rfl
theorem nI_m4 {a : Nat} (h : a < 2 ^ 31) : ¬ nI a = -4 := by
  intro e
  have h2 := nI_pos h
  rw [e] at h2
  exact h2 (by decide)
theorem sI_s {f : Nat → Int32} {n : Nat} : sI f (n + 1) = sI f n + f n := rfl
/-- given to a carrier, or to none -/
theorem given_all {n : Nat → Int32} {nk nh : Nat} (hk : nk ≤ 3) (hb : ∀ h, h < nh → n (90 + 14 * h + 3) = -1 ∨ ∃ c, c < nk ∧ n (90 + 14 * h + 3) = nI c) : sI (fun c => sCnt n (nI c) nh) nk + sCnt n (-1) nh = nI nh := by
  have h1 : sI (fun c => sCnt n (nI c) nh) nk = sI (fun h => sI (fun c => if n (90 + 14 * h + 3) = nI c then nI 1 else nI 0) nk) nh := sI_swap (f := fun c h => if n (90 + 14 * h + 3) = nI c then nI 1 else nI 0)
  rw [h1, show sCnt n (-1) nh = sI (fun h => if n (90 + 14 * h + 3) = -1 then nI 1 else nI 0) nh from rfl, ← sI_add]
  have h2 : ∀ k, k ≤ nh → sI (fun h => sI (fun c => if n (90 + 14 * h + 3) = nI c then nI 1 else nI 0) nk + (if n (90 + 14 * h + 3) = -1 then nI 1 else nI 0)) k = nI k := by
    intro k
    induction k with
    | zero => intro _; rfl
    | succ k ih =>
      intro hkn
      rw [sI_s, ih (by omega)]
      have h3 : sI (fun c => if n (90 + 14 * k + 3) = nI c then nI 1 else nI 0) nk + (if n (90 + 14 * k + 3) = -1 then nI 1 else nI 0) = nI 1 := by
        rcases hb k (by omega) with e | ⟨c, hc, e⟩
        · have hz : sI (fun c => if n (90 + 14 * k + 3) = nI c then nI 1 else nI 0) nk = sI (fun _ => (0 : Int32)) nk := sI_congr (fun c hc => if_neg (fun q : n (90 + 14 * k + 3) = nI c => absurd (q.symm.trans e) (nI_m1 (by omega))))
          rw [if_pos e, hz, sI_0, Int32.zero_add]
        · have hz : sI (fun c => if n (90 + 14 * k + 3) = nI c then nI 1 else nI 0) nk = sI (fun d => if d = c then nI 1 else 0) nk := sI_congr (fun d hd => by
            by_cases q : d = c
            · rw [if_pos q, if_pos (by rw [q]; exact e)]
            · rw [if_neg q, if_neg (fun w => q ((nI_eq (by omega) (by omega)).mp (w.symm.trans e)))]
              rfl)
          rw [if_neg (fun q : n (90 + 14 * k + 3) = -1 => absurd (e.symm.trans q) (nI_m1 (by omega))), hz, sI_one hc, nI_add]
      rw [h3, nI_add]
  exact h2 nh (Nat.le_refl _)
section PAPERS
variable {x m : z_S} {nc nh nk np d : Nat} {ah pl : Nat → Nat} {due : Int32}
/-- one of the houses that were asked for papers -/
def pS (n : Nat → Int32) (i : Nat) (y1 y2 y3 y4 y5 y6 y7 y8 : Int32) : Prop := y1 = rSum n i 6 ∧ y2 = rSum n i 7 ∧ y3 = sI (fun h => n (90 + 14 * h + 8) + n (90 + 14 * h + 9)) i ∧ y4 = rSum n i 10 ∧ y5 = rSum n i 11 ∧ y6 = sCnt n (-1) i ∧ (∃ q, q ≤ i ∧ y7 = nI q ∧ (q = 0 ↔ ∀ h, h < i → alI n h = 0)) ∧ y8 = nI i
set_option maxHeartbeats 4000000 in
theorem v_papers_step (X : XT x m nc nh nk np d ah pl) (J : JJ (m 1) nh nk d due) (hd : d ≤ 900) {i : Nat} (hi : i < nh) {y1 y2 y3 y4 y5 y6 y7 y8 : Int32} (hp : pS (m 1) i y1 y2 y3 y4 y5 y6 y7 y8) : ∃ w1 w2 w3 w4 w5 w6 w7 w8, pS (m 1) (i + 1) w1 w2 w3 w4 w5 w6 w7 w8 ∧ ∀ k, lb_X11_papers_22 due x k y1 y2 y3 y4 y5 y6 y7 y8 = k w1 w2 w3 w4 w5 w6 w7 w8 := by
  obtain ⟨b0, b1, b2, b3, b4, b5⟩ := X.b
  obtain ⟨rfl, rfl, rfl, rfl, rfl, rfl, ⟨q, hq, rfl, hqz⟩, rfl⟩ := hp
  obtain ⟨p, kk, u, s, a1, a2, a3, a4, a5, a6, a7, a8, a9, a10⟩ := J.1 i hi
  have hby := (X.2.2.1.2.2 i hi).2.2.2.1
  have hpl := (X.2.2.1.1.2.2 i hi)
  have hall : alI (m 1) i = nI (p * (kk + u)) := by
    unfold alI
    rw [Int32.add_assoc, a5, a4, nI_add, Nat.mul_add]
  have hm1 : p * (kk + u) ≤ 5 * d := Nat.mul_le_mul a3 a9
  have hm2 : p * kk ≤ p * (kk + u) := Nat.mul_le_mul_left _ (by omega)
  obtain ⟨v, v1, v2, v3, v4, v5, v6⟩ := v_share X hi a4 hall hm2 (by omega)
  have hal2 : ((m 1 (90 + 14 * i + 6)) + (m 1 (90 + 14 * i + 8) + m 1 (90 + 14 * i + 9))) + m 1 (90 + 14 * i + 10) = nI (p * (kk + u)) := hall
  have h8 : (m 1 (90 + 14 * i + 8) + m 1 (90 + 14 * i + 9)) + m 1 (90 + 14 * i + 10) = m 1 (90 + 14 * i + 1) * m 1 (90 + 14 * i + 11) := by rw [a5, a1, a6, pk_mul]
  have hz : p * (kk + u) = 0 ↔ alI (m 1) i = 0 := by
    rw [hall]
    exact ⟨fun e => by rw [e]; rfl, fun e => Classical.byContradiction (fun w => nI_ne0 (n := p * (kk + u)) (by omega) (by omega) e)⟩
  have hlast : (∀ h, h < i → alI (m 1) h = 0) → alI (m 1) i = 0 → ∀ h, h < i + 1 → alI (m 1) h = 0 := by
    intro z z2 h hh
    rcases Nat.lt_or_ge h i with w | w
    · exact z h w
    · have e : h = i := by omega
      rw [e]
      exact z2
  refine ⟨_, _, _, _, _, _, nI (q + (if p * (kk + u) = 0 then 0 else 1)), _, ⟨rfl, rfl, rfl, rfl, rfl, rfl, ⟨_, by split <;> omega, rfl, ?_⟩, rfl⟩, fun k => ?_⟩
  · by_cases e : p * (kk + u) = 0
    · rw [if_pos e, Nat.add_zero, hqz]
      exact ⟨fun z => hlast z (hz.mp e), fun z h hh => z h (by omega)⟩
    · rw [if_neg e]
      exact ⟨fun z => by omega, fun z => absurd (hz.mpr (z i (by omega))) e⟩
  · unfold lb_X11_papers_22
    rw [v_count_1 X, p_b1, if_neg (nI_ge (b := nh) hi (by omega)), v_house_6 X hi, p_b1, v_house_8 X hi, p_b1, v_house_9 X hi, p_b1, p_let, v1, p_b1, v_house_3 X hi, p_b1, p_let, v_house_7 X hi, p_b1, p_let, p_b1, p_let, p_b1, p_let, v_house_10 X hi, p_b1, p_let]
    rw [hal2]
    refine z_letX (fun j96 e96 => ?_)
    have g1 : (if (if m 1 (90 + 14 * i + 3) = -1 then (-4 : Int32) else m 1 (90 + 14 * i + 3)) = (-4 : Int32) then j96 1 else j96 0) = j96 (if m 1 (90 + 14 * i + 3) = -1 then nI 1 else nI 0) := by
      by_cases e : m 1 (90 + 14 * i + 3) = -1
      · rw [if_pos e, if_pos e, if_pos rfl]; rfl
      · rw [if_neg e, if_neg e]
        rcases hby with w | ⟨c, hc, w⟩
        · exact absurd w e
        · rw [w, if_neg (nI_m4 (by omega))]; rfl
    rw [g1, e96]
    clear g1 e96 j96
    dsimp only
    rw [p_let]
    refine z_letX (fun j99 e99 => ?_)
    have g2 : (if nI (p * (kk + u)) ≤ (0 : Int32) then j99 0 else j99 1) = j99 (nI (if p * (kk + u) = 0 then 0 else 1)) := by
      by_cases e : p * (kk + u) = 0
      · rw [if_pos ((nI_z (by omega)).mpr e), if_pos e]; rfl
      · rw [if_neg (fun w => e ((nI_z (by omega)).mp w)), if_neg e]; rfl
    rw [g2, e99]
    clear g2 e99 j99
    dsimp only
    rw [p_let]
    refine z_letX (fun j102 e102 => ?_)
    have main : j102 1 = k (rSum (m 1) (i + 1) 6) (rSum (m 1) (i + 1) 7) (sI (fun h => m 1 (90 + 14 * h + 8) + m 1 (90 + 14 * h + 9)) (i + 1)) (rSum (m 1) (i + 1) 10) (rSum (m 1) (i + 1) 11) (sCnt (m 1) (-1) (i + 1)) (nI (q + (if p * (kk + u) = 0 then 0 else 1))) (nI (i + 1)) := by
      rw [e102]
      clear e102 j102
      dsimp only
      rw [v_house_1 X hi, p_b1, if_neg (by decide), p_b1, p_b1, p_b1, if_pos h8, v_house_11 X hi, p_b1, p_b1, a6, a7, if_neg (nI_nlt a8 (by omega)), a1, p_ck (nI_ne0 (by omega) (by omega)), pk_rem (by omega) (by omega) (by omega), Nat.mul_mod_right, if_pos (show nI 0 = (0 : Int32) from rfl)]
      refine z_letX (fun j120 e120 => ?_)
      have hK : j120 () = k (rSum (m 1) (i + 1) 6) (rSum (m 1) (i + 1) 7) (sI (fun h => m 1 (90 + 14 * h + 8) + m 1 (90 + 14 * h + 9)) (i + 1)) (rSum (m 1) (i + 1) 10) (rSum (m 1) (i + 1) 11) (sCnt (m 1) (-1) (i + 1)) (nI (q + (if p * (kk + u) = 0 then 0 else 1))) (nI (i + 1)) := by
        rw [e120, p_let, nI_1, nI_add, show rSum (m 1) (i + 1) 11 = rSum (m 1) i 11 + m 1 (90 + 14 * i + 11) from rfl, a6]
        rfl
      rw [hK]
      rcases hby with e | ⟨c, hc, e⟩
      · rw [if_pos e, if_pos (by decide)]
      · rw [if_neg (fun w : m 1 (90 + 14 * i + 3) = -1 => absurd (e.symm.trans w) (nI_m1 (by omega))), e, if_neg (nI_pos (by omega)), v_carrier_0 X hc, p_b1]
        by_cases c1 : m 1 (426 + 7 * c + 0) = 1
        · rw [if_pos c1, v_house_0 X hi, p_b1, hpl.1, v_corner_6 X hpl.2, p_b1]
          rcases J.2.2.1 i hi c hc e with w | w
          · rw [c1] at w
            exact absurd w (by decide)
          · rw [crt_eq X hi] at w
            rw [w, if_neg (by decide)]
        · rw [if_neg c1]
    rw [a4]
    by_cases q1 : p * (kk + u) = 0
    · rw [if_pos (by rw [q1]; rfl), if_pos (v2 q1)]
      exact main
    rw [if_neg (nI_ne0 (by omega) (by omega))]
    by_cases q2 : p * kk = 0
    · rw [if_pos (by rw [q2]; rfl), if_pos (v3 (by omega) q2)]
      exact main
    rw [if_neg (nI_ne0 (by omega) (by omega))]
    by_cases q3 : p * kk = p * (kk + u)
    · rw [if_pos (by rw [q3]), if_pos (v4 (by omega) q3)]
      exact main
    rw [if_neg (nI_ne (by omega) (by omega) q3), zl_2, pk_mul]
    by_cases q4 : 2 * (p * kk) < p * (kk + u)
    · obtain ⟨w1, w2⟩ := v6 (by omega) q4
      rw [if_pos (nI_lt q4 (by omega)), p_let, if_neg (Int32.not_le.mpr w1), if_neg (Int32.not_le.mpr w2)]
      exact main
    · obtain ⟨w1, w2⟩ := v5 (by omega) (by omega) (by omega)
      rw [if_neg (nI_nlt (by omega) (by omega)), p_let, if_neg (Int32.not_lt.mpr w1), if_neg (Int32.not_le.mpr w2)]
      exact main
end PAPERS
