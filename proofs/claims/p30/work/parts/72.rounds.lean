/-! p30, THE PURE PART. 13: the houses of a round, each once, in the order of the streets. The first rows: out of the kit's rows on bits -/
def bt (x : Int32) (i : Nat) : Bool := x.toBitVec.getLsbD i
theorem b_ext {x y : Int32} (h : ∀ i, i < 32 → bt x i = bt y i) : x = y := Int32.toBitVec_inj.mp (BitVec.eq_of_getLsbD_eq (fun i hi => h i hi))
theorem b_or (x y : Int32) (i : Nat) : bt (x ||| y) i = (bt x i || bt y i) := by unfold bt; rw [Int32.toBitVec_or, BitVec.getLsbD_or]
theorem b_and (x y : Int32) (i : Nat) : bt (x &&& y) i = (bt x i && bt y i) := by unfold bt; rw [Int32.toBitVec_and, BitVec.getLsbD_and]
theorem b_0 (i : Nat) : bt 0 i = false := BitVec.getLsbD_zero
theorem s_l : ∀ n, n < 32 → ((nI n &&& 31).toBitVec.smod 32).toNat = n := by decide +kernel
theorem b_shl (n : Nat) (hn : n < 32) (x : Int32) {i : Nat} (hi : i < 32) : bt (x <<< (nI n &&& 31)) i = (decide (n ≤ i) && bt x (i - n)) := by
  unfold bt
  rw [Int32.toBitVec_shiftLeft]
  show (x.toBitVec <<< ((nI n &&& 31).toBitVec.smod 32).toNat).getLsbD i = _
  rw [s_l n hn, BitVec.getLsbD_shiftLeft]
  rcases Nat.lt_or_ge i n with h | h
  · simp [h, Nat.not_le.mpr h]
  · simp [hi, h, Nat.not_lt.mpr h]
theorem b_sshr (n : Nat) (hn : n < 32) (x : Int32) {i : Nat} (hi : i < 32) : bt (x >>> (nI n &&& 31)) i = if n + i < 32 then bt x (n + i) else bt x 31 := by
  unfold bt
  rw [Int32.toBitVec_shiftRight]
  show (x.toBitVec.sshiftRight ((nI n &&& 31).toBitVec.smod 32).toNat).getLsbD i = _
  rw [s_l n hn, BitVec.getLsbD_sshiftRight, BitVec.msb_eq_getLsbD_last]
  simp [hi]
theorem b_one : ∀ i, i < 32 → bt 1 i = decide (i = 0) := by decide +kernel
theorem bit_no {S : Int32} {h : Nat} (hh : h < 32) (hb : bt S h = false) : ¬ ((S >>> (nI h &&& 31)) &&& (1 : Int32)) = 1 := by
  have e : (S >>> (nI h &&& 31)) &&& (1 : Int32) = 0 := b_ext (fun i hi => by
    rw [b_and, b_0, b_one i hi]
    by_cases q : i = 0
    · subst q
      rw [b_sshr h hh S (by omega), if_pos (by omega), Nat.add_zero, hb]
      rfl
    · rw [decide_eq_false q, Bool.and_false])
  rw [e]
  decide
theorem bit_add {S : Int32} {j i : Nat} (hj : j < 32) (hi : i < 32) (hij : i ≠ j) (hb : bt S i = false) : bt (S ||| ((1 : Int32) <<< (nI j &&& 31))) i = false := by
  rw [b_or, hb, b_shl j hj 1 hi]
  by_cases q : j ≤ i
  · rw [b_one (i - j) (by omega), decide_eq_false (show ¬ i - j = 0 by omega), Bool.and_false]
    rfl
  · rw [decide_eq_false q]
    rfl
/-! the order -/
theorem hF_pw {pl : Nat → Nat} {x : Nat} : ∀ {m : Nat}, (hF pl x m).Pairwise (fun a b => a < b) := by
  intro m
  induction m with
  | zero => exact List.Pairwise.nil
  | succ m ih =>
    unfold hF
    split
    · refine List.pairwise_append.mpr ⟨ih, List.pairwise_singleton _ _, fun a ha b hb => ?_⟩
      rw [List.mem_singleton] at hb
      subst hb
      exact (hF_mem.mp ha).1
    · exact ih
def oR (ah pl : Nat → Nat) (a b : Nat) : Prop := (pl a = pl b ∧ a < b) ∨ (pl a ≠ pl b ∧ ¬ tB ah (pl a) (pl b))
theorem hL_pw {ah pl o : Nat → Nat} {c nh : Nat} (hJ : tJ ah c o) : ∀ {k : Nat}, k ≤ c → (hL o pl nh k).Pairwise (oR ah pl) := by
  intro k
  induction k with
  | zero => intro _; exact List.Pairwise.nil
  | succ k ih =>
    intro hk
    refine List.pairwise_append.mpr ⟨ih (by omega), List.Pairwise.imp_of_mem (fun {a b} ha hb h => Or.inl ⟨(hF_mem.mp ha).2.trans (hF_mem.mp hb).2.symm, h⟩) hF_pw, fun a ha b hb => ?_⟩
    obtain ⟨h1, j, h2, h3⟩ := hL_mem.mp ha
    have h4 := (hF_mem.mp hb).2
    refine Or.inr ⟨fun e => ?_, ?_⟩
    · have := hJ.2.2.1 j k (by omega) (by omega) (by rw [h3, e, h4])
      omega
    · rw [← h3, h4]
      exact hJ.2.2.2.2 k j h2 (by omega)
noncomputable def LL (ah pl : Nat → Nat) (nc nh : Nat) : List Nat := hL (tO ah nc) pl nh nc
noncomputable def LC (n : Nat → Int32) (ah pl : Nat → Nat) (nc nh c : Nat) : List Nat := (LL ah pl nc nh).filter (fun h => decide (n (90 + 14 * h + 3) = nI c))
def opI : Option Nat → Int32
  | some h => nI h
  | none => -4
section ROUNDS
variable {x m : z_S} {nc nh nk np dy : Nat} {ah pl : Nat → Nat}
theorem LL_len (X : XT x m nc nh nk np dy ah pl) : (LL ah pl nc nh).length = nh := by
  obtain ⟨-, hC, hH, -⟩ := X
  exact tR_len hC.1.2.1 hC.1.2.2.2.1 (fun h hh => (hH.1.2.2 h hh).2)
theorem LL_mem (X : XT x m nc nh nk np dy ah pl) {h : Nat} : h ∈ LL ah pl nc nh ↔ h < nh := by
  obtain ⟨-, hC, hH, -⟩ := X
  unfold LL
  rw [hL_mem]
  refine ⟨fun z => z.1, fun z => ⟨z, ?_⟩⟩
  exact (tO_J hC.1.2.1 hC.1.2.2.2.1).2.1 (pl h) (hH.1.2.2 h z).2
theorem LL_nodup (X : XT x m nc nh nk np dy ah pl) : (LL ah pl nc nh).Nodup := by
  obtain ⟨-, hC, hH, -⟩ := X
  exact hL_nodup (tO_inj hC.1.2.1 hC.1.2.2.2.1)
theorem LL_pw (X : XT x m nc nh nk np dy ah pl) : (LL ah pl nc nh).Pairwise (oR ah pl) := by
  obtain ⟨-, hC, hH, -⟩ := X
  exact hL_pw (tO_J hC.1.2.1 hC.1.2.2.2.1) (Nat.le_refl _)
theorem LL_perm (X : XT x m nc nh nk np dy ah pl) : (LL ah pl nc nh).Perm (List.range nh) := (List.perm_ext_iff_of_nodup (LL_nodup X) List.nodup_range).mpr (fun a => by rw [LL_mem X, List.mem_range])
theorem lS_cnt {n : Nat → Int32} {p : Int32} : ∀ {l : List Nat}, lS (fun h => if n (90 + 14 * h + 3) = p then nI 1 else nI 0) l = nI (l.filter (fun h => decide (n (90 + 14 * h + 3) = p))).length
  | [] => rfl
  | a :: l => by
    show (if n (90 + 14 * a + 3) = p then nI 1 else nI 0) + lS _ l = _
    rw [lS_cnt]
    by_cases e : n (90 + 14 * a + 3) = p
    · rw [if_pos e, List.filter_cons_of_pos (by rw [decide_eq_true e]), nI_add, List.length_cons, Nat.add_comm]
    · rw [if_neg e, List.filter_cons_of_neg (by rw [decide_eq_false e]; decide), nI_add, Nat.zero_add]
theorem v_cnt (X : XT x m nc nh nk np dy ah pl) {c : Nat} : sCnt (m 1) (nI c) nh = nI (LC (m 1) ah pl nc nh c).length := by
  unfold sCnt
  rw [sI_l, ← lS_perm (LL_perm X), lS_cnt]
  rfl
theorem LC_len (X : XT x m nc nh nk np dy ah pl) {c : Nat} : (LC (m 1) ah pl nc nh c).length ≤ nh := by
  have h := List.length_filter_le (fun h => decide (m 1 (90 + 14 * h + 3) = nI c)) (LL ah pl nc nh)
  rw [LL_len X] at h
  exact h
theorem LC_mem (X : XT x m nc nh nk np dy ah pl) {c h : Nat} (hm : h ∈ LC (m 1) ah pl nc nh c) : h < nh ∧ m 1 (90 + 14 * h + 3) = nI c := by
  obtain ⟨h1, h2⟩ := List.mem_filter.mp hm
  exact ⟨(LL_mem X).mp h1, of_decide_eq_true h2⟩
theorem v_roundAt (X : XT x m nc nh nk np dy ah pl) {c k : Nat} (hc : c < nk) (hk : k ≤ nh) : f_X9_roundAt (nI c) (nI k) x = some (opI (LC (m 1) ah pl nc nh c)[k]?) := by
  obtain ⟨b0, b1, b2, b3, b4, b5⟩ := X.b
  have X0 := X
  obtain ⟨hR, hC, hH, hO, hK, hP, hS, hA, z1, z2⟩ := X
  have h203 : x 203 0 = nI nh := hH.2.1
  have key : ∀ (r i a f : Nat), i + r = nh → a ≤ k → r < f → z_lp2 (lb_X9_roundAt_34 (nI c) (nI k) x) f (nI a) (nI i) = some (opI (((LL ah pl nc nh).drop i).filter (fun h => decide (m 1 (90 + 14 * h + 3) = nI c)))[k - a]?) := by
    intro r
    induction r with
    | zero =>
      intro i a f hi ha hf
      obtain ⟨f, rfl⟩ : ∃ w, f = w + 1 := ⟨f - 1, by omega⟩
      show lb_X9_roundAt_34 (nI c) (nI k) x _ (nI a) (nI i) = _
      unfold lb_X9_roundAt_34
      rw [h203, if_pos (nI_le (by omega) (by omega)), List.drop_eq_nil_of_le (by rw [LL_len X0]; omega)]
      rfl
    | succ r ih =>
      intro i a f hi ha hf
      obtain ⟨f, rfl⟩ : ∃ w, f = w + 1 := ⟨f - 1, by omega⟩
      have hlt : i < (LL ah pl nc nh).length := by rw [LL_len X0]; omega
      have hRi : tR ah pl nc nh i < nh := tR_lt hC.1.2.1 hC.1.2.2.2.1 (fun h hh => (hH.1.2.2 h hh).2) (by omega)
      have hgi : (LL ah pl nc nh)[i] = tR ah pl nc nh i := by
        unfold tR LL
        rw [List.getD_eq_getElem?_getD, List.getElem?_eq_getElem (by exact hlt)]
        rfl
      have h217 : x 217 i = nI (tR ah pl nc nh i) := hO i (by omega)
      have h207 : x 207 (tR ah pl nc nh i) = m 1 (90 + 14 * tR ah pl nc nh i + 3) := (hH.2.2 _ hRi).1.2.2.2.1
      show lb_X9_roundAt_34 (nI c) (nI k) x (z_lp2 (lb_X9_roundAt_34 (nI c) (nI k) x) f) (nI a) (nI i) = _
      have hbody : ∀ kk, lb_X9_roundAt_34 (nI c) (nI k) x kk (nI a) (nI i) = if m 1 (90 + 14 * tR ah pl nc nh i + 3) = nI c then (if nI a = nI k then some (nI (tR ah pl nc nh i)) else kk (nI (a + 1)) (nI (i + 1))) else kk (nI a) (nI (i + 1)) := by
        intro kk
        unfold lb_X9_roundAt_34
        rw [h203, if_neg (nI_ge (b := nh) (a := i) (by omega) (by omega)), p_cki (by omega) (by omega), p_let, p_cl (by omega), h217, p_cki (by omega) (by omega), p_let, p_cl (by omega), h207]
        dsimp only
        simp only [p_let, nI_1]
      rw [hbody, List.drop_eq_getElem_cons hlt, hgi]
      by_cases hp : m 1 (90 + 14 * tR ah pl nc nh i + 3) = nI c
      · rw [if_pos hp, List.filter_cons_of_pos (by rw [decide_eq_true hp])]
        by_cases hak : a = k
        · subst hak
          rw [if_pos rfl, Nat.sub_self]
          rfl
        · rw [if_neg (nI_ne (by omega) (by omega) hak), ih (i + 1) (a + 1) f (by omega) (by omega) (by omega), show k - a = (k - (a + 1)) + 1 by omega, List.getElem?_cons_succ]
      · rw [if_neg hp, List.filter_cons_of_neg (by rw [decide_eq_false hp]; decide)]
        exact ih (i + 1) a f (by omega) ha (by omega)
  unfold f_X9_roundAt
  rw [x_hasK hK.2.2.1 hK.2.1, p_b1, p_tbT ⟨c, hc, rfl⟩, if_pos (nI_pos' (by omega))]
  have h := key nh 0 0 z_Fu (by omega) (by omega) (by show nh < 4096; omega)
  rw [List.drop_zero, Nat.sub_zero] at h
  exact h
/-- two houses' ways to the depot meet -/
theorem v_walk (X : XT x m nc nh nk np dy ah pl) {k8 : Int32 → Int32 → Option Int32} {x10 x23 : Int32} {h nx a0 b0 : Nat} (hh : h < nh) (hn : nx < nh) (ha0 : a0 < nc) (hb0 : b0 < nc) (h1 : a0 = b0 → h < nx) (h2 : a0 ≠ b0 → ¬ tB ah a0 b0) :
    ∀ (s a b : Nat) (last : Int32) (f : Nat), a + b ≤ s → s < f → a < nc → b < nc → ((last = -1 ∧ b = b0 ∧ (tB ah a0 b0 ↔ tB ah a b0)) ∨ 0 ≤ last) → z_lp3 (lb_X11_rounds_134 x k8 x10 (nI h) x23 (nI nx) (nI a0) (nI b0)) f (nI a) (nI b) last = k8 x23 (x10 + 1) := by
  obtain ⟨c0, c1, c2, c3, c4, c5⟩ := X.b
  have hA := X.2.1.1.2.2.2.1
  intro s
  induction s using Nat.strongRecOn with
  | _ s ih =>
    intro a b last f hs hf ha hb hl
    obtain ⟨f, rfl⟩ : ∃ w, f = w + 1 := ⟨f - 1, by omega⟩
    show lb_X11_rounds_134 x k8 x10 (nI h) x23 (nI nx) (nI a0) (nI b0) (z_lp3 (lb_X11_rounds_134 x k8 x10 (nI h) x23 (nI nx) (nI a0) (nI b0)) f) (nI a) (nI b) last = _
    unfold lb_X11_rounds_134
    refine z_letX (fun j34 e34 => ?_)
    rw [if_neg (nI_pos (by omega))]
    by_cases hab : a = b
    · subst hab
      rw [if_pos rfl, e34]
      dsimp only
      refine z_letX (fun j35 e35 => ?_)
      have hj : j35 () = k8 x23 (x10 + 1) := by rw [e35, p_let]
      rw [if_neg (nI_pos (by omega))]
      by_cases q : a0 = b0
      · rw [if_pos (by rw [q]), if_pos (nI_le (by have := h1 q; omega) (by omega))]
        exact hj
      · rw [if_neg (nI_ne (by omega) (by omega) q)]
        rcases hl with ⟨-, z2, z3⟩ | z
        · exfalso
          apply h2 q
          rw [z3, ← z2]
          exact tB_self hA ha
        · rw [if_pos z]
          exact hj
    · rw [if_neg (nI_ne (by omega) (by omega) hab)]
      refine z_letX (fun j44 e44 => ?_)
      by_cases q : b ≤ a
      · rw [if_pos (nI_le q (by omega)), e44]
        dsimp only
        rw [if_pos (nI_le q (by omega)), v_corner_0 X (by omega) ha, p_b1]
        have hlt := hA a (by omega) ha
        refine ih (ah a + b) (by omega) (ah a) b last f (Nat.le_refl _) (by omega) (by omega) hb ?_
        rcases hl with ⟨z1, z2, z3⟩ | z
        · refine Or.inl ⟨z1, z2, z3.trans ?_⟩
          rw [tB_s hA (by omega) ha]
          exact ⟨fun w => w.elim (fun w => absurd (w.trans z2.symm) hab) id, fun w => Or.inr w⟩
        · exact Or.inr z
      · rw [if_neg (nI_ge (by omega) (by omega)), e44]
        dsimp only
        rw [if_neg (nI_ge (by omega) (by omega)), v_corner_0 X (by omega) hb, p_b1]
        have hlt := hA b (by omega) hb
        exact ih (a + ah b) (by omega) a (ah b) (nI b) f (Nat.le_refl _) (by omega) ha (by omega) (Or.inr (nI_pos' (by omega)))
theorem v_walk0 {k8 : Int32 → Int32 → Option Int32} {x10 x23 r17 r27 a last : Int32} : z_lp3 (lb_X11_rounds_134 x k8 x10 r17 x23 (-1) r27 (-1)) z_Fu a (-1) last = k8 x23 (x10 + 1) := by
  show lb_X11_rounds_134 x k8 x10 r17 x23 (-1) r27 (-1) (z_lp3 (lb_X11_rounds_134 x k8 x10 r17 x23 (-1) r27 (-1)) 4095) a (-1) last = _
  unfold lb_X11_rounds_134
  refine z_letX (fun j34 e34 => ?_)
  rw [if_pos (by decide), e34]
  dsimp only
  refine z_letX (fun j35 e35 => ?_)
  rw [if_pos (by decide), e35, p_let]
set_option maxHeartbeats 4000000 in
theorem v_rounds_step (X : XT x m nc nh nk np dy ah pl) {c k : Nat} (hc : c < nk) (hk : k < (LC (m 1) ah pl nc nh c).length) {S : Int32} (hS : ∀ i, k ≤ i → ∀ hi : i < (LC (m 1) ah pl nc nh c).length, bt S (LC (m 1) ah pl nc nh c)[i] = false) {k1 : Int32 → Option Int32} :
    ∃ S' : Int32, (∀ i, k + 1 ≤ i → ∀ hi : i < (LC (m 1) ah pl nc nh c).length, bt S' (LC (m 1) ah pl nc nh c)[i] = false) ∧ ∀ k8, lb_X11_rounds_23 x k1 (nI c) (nI (LC (m 1) ah pl nc nh c).length) k8 S (nI k) = k8 S' (nI (k + 1)) := by
  obtain ⟨c0, c1, c2, c3, c4, c5⟩ := X.b
  have hlen := LC_len X (c := c)
  have hnd : (LC (m 1) ah pl nc nh c).Nodup := List.Pairwise.filter _ (LL_nodup X)
  have hpw : (LC (m 1) ah pl nc nh c).Pairwise (oR ah pl) := List.Pairwise.filter _ (LL_pw X)
  obtain ⟨L, hL⟩ : ∃ L, L = LC (m 1) ah pl nc nh c := ⟨_, rfl⟩
  have hmem : ∀ i (hi : i < L.length), L[i] < nh ∧ m 1 (90 + 14 * L[i] + 3) = nI c := fun i hi => LC_mem X (by rw [← hL]; exact List.getElem_mem hi)
  have hra : ∀ i, i ≤ nh → f_X9_roundAt (nI c) (nI i) x = some (opI L[i]?) := fun i hi => by rw [hL]; exact v_roundAt X hc hi
  rw [← hL] at hk hS hlen hnd hpw ⊢
  obtain ⟨h, hh⟩ : ∃ h, h = L[k] := ⟨_, rfl⟩
  obtain ⟨m1, m2⟩ := hmem k hk
  rw [← hh] at m1 m2
  have hpl := X.2.2.1.1.2.2 h m1
  refine ⟨S ||| ((1 : Int32) <<< (nI h &&& 31)), fun i hi hi2 => bit_add (by omega) (by have := (hmem i hi2).1; omega) (fun e => ?_) (hS i (by omega) hi2), fun k8 => ?_⟩
  · rw [hh] at e
    exact (List.pairwise_iff_getElem.mp hnd) k i hk hi2 (by omega) e.symm
  · unfold lb_X11_rounds_23
    rw [if_neg (nI_ge hk (by omega)), hra k (by omega), List.getElem?_eq_getElem hk, ← hh, p_b1, show opI (some h) = nI h from rfl, if_neg (nI_pos (by omega)), v_house_3 X m1, p_b1, m2, if_neg (nI_m1 (by omega)), if_pos rfl, if_neg (bit_no (by omega) (by rw [hh]; exact hS k (Nat.le_refl _) hk)), p_let]
    refine z_letX (fun j25 e25 => ?_)
    rw [nI_1]
    by_cases hl : k + 1 < L.length
    · obtain ⟨n1, n2⟩ := hmem (k + 1) hl
      have hpl2 := X.2.2.1.1.2.2 L[k + 1] n1
      have ho := (List.pairwise_iff_getElem.mp hpw) k (k + 1) hk hl (by omega)
      rw [← hh] at ho
      rw [if_neg (nI_ge hl (by omega)), hra (k + 1) (by omega), List.getElem?_eq_getElem hl, p_b1, show opI (some L[k + 1]) = nI L[k + 1] from rfl, e25]
      dsimp only
      rw [v_house_0 X m1, p_b1, hpl.1, p_let, if_pos (nI_pos' (by omega)), v_house_0 X n1, p_b1, hpl2.1]
      dsimp only
      have hw := v_walk X (k8 := k8) (x10 := nI k) (x23 := S ||| ((1 : Int32) <<< (nI h &&& 31))) m1 n1 hpl.2 hpl2.2 (fun e => ho.elim (fun w => w.2) (fun w => absurd e w.1)) (fun e => ho.elim (fun w => absurd w.1 e) (fun w => w.2)) (pl h + pl L[k + 1]) (pl h) (pl L[k + 1]) (-1) z_Fu (Nat.le_refl _) (by show _ < 4096; omega) hpl.2 hpl2.2 (Or.inl ⟨rfl, rfl, Iff.rfl⟩)
      rw [hw, nI_1]
    · rw [if_pos (nI_le (by omega) (by omega)), e25]
      dsimp only
      rw [v_house_0 X m1, p_b1, p_let, if_neg (by decide)]
      dsimp only
      rw [v_walk0, nI_1]
theorem v_rounds (X : XT x m nc nh nk np dy ah pl) : f_X11_rounds x = some 1 := by
  obtain ⟨c0, c1, c2, c3, c4, c5⟩ := X.b
  unfold f_X11_rounds
  obtain ⟨_, rfl, k', e⟩ := r_run1 (body := lb_X11_rounds_2 x) (x1 := (0 : Int32)) (fun i a => a = nI i) nk (by omega) rfl (by
    rintro c a hc rfl
    refine ⟨_, rfl, fun k1 => ?_⟩
    unfold lb_X11_rounds_2
    rw [v_count_2 X, p_b1, if_neg (nI_ge (b := nk) hc (by omega)), v_carrier_3 X hc, p_b1, v_cnt X]
    have hlen := LC_len X (c := c)
    obtain ⟨S, _, ⟨hS, rfl⟩, k'', e2⟩ := r_run2 (body := lb_X11_rounds_23 x k1 (nI c) (nI (LC (m 1) ah pl nc nh c).length)) (x1 := (0 : Int32)) (x2 := (0 : Int32)) (fun k S a => (∀ i, k ≤ i → ∀ hi : i < (LC (m 1) ah pl nc nh c).length, bt S (LC (m 1) ah pl nc nh c)[i] = false) ∧ a = nI k) (LC (m 1) ah pl nc nh c).length (by omega) ⟨fun i _ hi => b_0 _, rfl⟩ (by
      rintro k S a hk ⟨hS, rfl⟩
      obtain ⟨S', h1, h2⟩ := v_rounds_step X hc hk hS (k1 := k1)
      exact ⟨S', _, ⟨h1, rfl⟩, h2⟩)
    rw [e2]
    unfold lb_X11_rounds_23
    rw [if_pos (nI_le (Nat.le_refl _) (by omega)), v_roundAt X hc hlen, p_b1, List.getElem?_eq_none (Nat.le_refl _), show opI none = -4 from rfl, if_pos rfl, p_let, nI_1])
  rw [e]
  unfold lb_X11_rounds_2
  rw [v_count_2 X, p_b1, if_pos (nI_le (Nat.le_refl _) (by omega))]
end ROUNDS
