/-! THE PURE PART. 21: a round of the model -/
/-- two rows of numbers with the same streets, houses, pauses and carriers, but for what was counted -/
def stA (n N : Nat → Int32) : Prop := (∀ i, i < 90 → N i = n i) ∧ (∀ h w, h < 24 → w < 6 → N (90 + 14 * h + w) = n (90 + 14 * h + w)) ∧ (∀ c w, c < 3 → w < 2 → N (426 + 7 * c + w) = n (426 + 7 * c + w)) ∧ ∀ i, 447 ≤ i → i < 537 → N i = n i
section STA
variable {n N : Nat → Int32} {nc nh np : Nat} {ah pl : Nat → Nat}
theorem stA.rf : stA n n := ⟨fun _ _ => rfl, fun _ _ _ _ => rfl, fun _ _ _ _ => rfl, fun _ _ _ => rfl⟩
theorem stA.trans {N' : Nat → Int32} (h : stA n N) (h2 : stA N N') : stA n N' := ⟨fun i hi => (h2.1 i hi).trans (h.1 i hi), fun a w h1 h3 => (h2.2.1 a w h1 h3).trans (h.2.1 a w h1 h3), fun a w h1 h3 => (h2.2.2.1 a w h1 h3).trans (h.2.2.1 a w h1 h3), fun i h1 h3 => (h2.2.2.2 i h1 h3).trans (h.2.2.2 i h1 h3)⟩
theorem stA.mC (h : stA n N) (hC : mC n nc ah) : mC N nc ah := by
  have h20 := hC.2.2.1
  exact mC_congr hC (h.1 0 (by omega)) (fun i h1 h2 => h.1 i (by omega))
theorem stA.wgI (h : stA n N) (d : Int32) : wgI N d = wgI n d := by
  show (if _ then N 6 else N 5) = (if _ then n 6 else n 5)
  rw [h.1 6 (by omega), h.1 5 (by omega)]
theorem stA.oX (h : stA n N) {x : Nat} (hx : x < 24) {d : Int32} : oX N x d ↔ oX n x d := by
  show (0 < N (90 + 14 * x + 4) ∧ d - d / N (90 + 14 * x + 4) * N (90 + 14 * x + 4) = N (90 + 14 * x + 5) - N (90 + 14 * x + 5) / N (90 + 14 * x + 4) * N (90 + 14 * x + 4)) ↔ _
  rw [h.2.1 x 4 hx (by omega), h.2.1 x 5 hx (by omega)]
  exact Iff.rfl
theorem stA.rP {T : z_S} (h : stA n N) (hP : rP T n np) : rP T N np := by
  have h30 := hP.2.1
  exact rP_congr hP (h.1 3 (by omega)) rfl (fun _ _ _ _ _ => rfl) (fun i h1 h2 => h.2.2.2 i h1 (by omega))
theorem stA.pz (h : stA n N) (h30 : np ≤ 30) {x d : Int32} : pz N np x d ↔ pz n np x d := by
  constructor
  · rintro ⟨k, hk, a, b, c⟩
    rw [h.2.2.2 _ (by omega) (by omega)] at a b c
    exact ⟨k, hk, a, b, c⟩
  · rintro ⟨k, hk, a, b, c⟩
    refine ⟨k, hk, ?_, ?_, ?_⟩
    · rw [h.2.2.2 _ (by omega) (by omega)]; exact a
    · rw [h.2.2.2 _ (by omega) (by omega)]; exact b
    · rw [h.2.2.2 _ (by omega) (by omega)]; exact c
theorem eS_congr (hA : tA ah nc) (hn : ∀ i, 10 ≤ i → i < 10 + 4 * nc → N i = n i) {cart : Int32} {D : Nat → Nat} : eS N ah nc cart D = eS n ah nc cart D := by
  refine sI_congr (fun i hi => ?_)
  have ha := hA (i + 1) (by omega) (by omega)
  unfold eT eF
  rw [hn (10 + 4 * (i + 1) + 1) (by omega) (by omega), hn (10 + 4 * (i + 1) + 2) (by omega) (by omega), hn (10 + 4 * ah (i + 1) + 2) (by omega) (by omega)]
end STA
theorem m_weightOn {m : z_S} {h : Nat} (hh : h < 24) (d : Int32) : f_X10_weightOn (nI h) d m = some (m 1 (90 + 14 * h + 1) * wgI (m 1) d) := by
  unfold f_X10_weightOn wgI
  rw [zl_1, m_of (by omega), p_b1, p_ck (by decide)]
  by_cases q : d - d / 7 * 7 = 6
  · rw [if_pos q, if_pos q]; rfl
  · rw [if_neg q, if_neg q]; rfl
theorem p_andQ {O : Type} {J : Int32 → Option O} {A P : Prop} [Decidable A] : (z_let J fun j => z_let (fun (_ : Unit) => j (0 : Int32)) fun k => if A then (z_b1 (some (tb P)) fun r => if r = 0 then j (1 : Int32) else k ()) else k ()) = J (tb (A ∧ ¬ P)) := by
  rw [p_let, p_let]
  by_cases a : A
  · rw [if_pos a, p_b1]
    by_cases b : P
    · rw [p_tbT b, tb_f (fun e => e.2 b)]; rfl
    · rw [p_tbF b, tb_t ⟨a, b⟩]; rfl
  · rw [if_neg a, tb_f (fun e => a e.1)]; rfl
def mS (σ s0 : z_S) (N : Nat → Int32) (ah : Nat → Nat) (nc t : Nat) (e p dg : Int32) (D : Nat → Nat) : Prop :=
  σ 1 = N ∧ (∀ a, a ≠ 0 → a ≠ 1 → a ≠ 8 → σ a = s0 a) ∧ (∀ j, j ≠ 9 → j ≠ 10 → j ≠ 11 → j ≠ 12 → σ 0 j = s0 0 j) ∧ σ 0 9 = nI t ∧ σ 0 10 = e ∧ σ 0 11 = p ∧ σ 0 12 = dg ∧ ∀ k, 1 ≤ k → k < nc → σ 8 k = nI (tL ah nc D k k)
/-- what the doing of a round does to the numbers, behind a house that is carried -/
def hDel (n N N' : Nat → Int32) (dl dl' d z : Int32) (c R : Nat) : Prop :=
  (z = 0 → N' = N ∧ dl' = dl) ∧ (z ≠ 0 → ∀ σ : z_S, σ 1 = N → ∃ r σ2, f_X10_delivers (nI c) (nI R) d σ = some (r, σ2) ∧ σ2 1 = N' ∧ (∀ a, a ≠ 1 → σ2 a = σ a) ∧ ((r = 0 ∧ dl' = dl) ∨ (r ≠ 0 ∧ dl' = dl + n (90 + 14 * R + 1))))
def hHea (N N' : Nat → Int32) (z : Int32) (R : Nat) : Prop :=
  (z = 0 → N' = N) ∧ (z ≠ 0 → ∀ σ : z_S, σ 1 = N → ∃ σ1 σ2, f_X10_become (nI R) (9 : Int32) σ = some σ1 ∧ f_X10_complains (nI R) σ1 = some σ2 ∧ σ2 1 = N' ∧ ∀ a, a ≠ 1 → σ2 a = σ a)
section GOES
variable {T : z_S} {n : Nat → Int32} {nc nh nk np dy ds : Nat} {ah pl : Nat → Nat}
theorem m_tail {σ s0 : z_S} {t w R c : Nat} {e p dg d dl dl' z : Int32} {D : Nat → Nat} {N N' : Nat → Int32} (hg : mS σ s0 N ah nc t e p dg D) (hC : mC n nc ah) (hH : mH n nc nh pl) (hR : R < nh) (i : Nat) (hN : stA n N) (hN' : stA n N') (hd : hDel n N N' dl dl' d z c R) :
    ∃ σ', mS σ' s0 N' ah nc t e (p + n (90 + 14 * R + 1)) (dg + tb (oX n R d)) (dA D (pl R) w) ∧ ∀ (kk : Int32 → Int32 → Int32 → z_S → Option (Int32 × z_S)) (y46 : Int32),
      (z_b1 (f_X10_of (nI R) (0 : Int32) σ) fun r49 =>
  z_b1 (f_X10_loads r49 (nI w) σ) fun σ51 =>
  z_b1 (f_X10_of (nI R) (1 : Int32) σ51) fun r53 =>
  z_let (z_u σ51 0 11 ((σ51 0 11) + r53)) fun σ54 =>
  z_b1 (f_X10_isOut (nI R) d σ54) fun r56 =>
  z_let (fun (y57 : Int32) => z_let (z_u σ54 0 12 ((σ54 0 12) + y57)) fun σ59 =>
  z_let (fun (y60 : Int32) (σ61 : z_S) => z_let (dl + y60) fun x63 =>
  z_let (nI i + (1 : Int32)) fun x36 => kk y46 x63 x36 σ61) fun j62 =>
  z_let (fun (σ64 : z_S) => j62 (0 : Int32) σ64) fun j65 =>
  if z = (0 : Int32) then
  (j65 σ59)
  else
  (z_b2 (f_X10_delivers (nI c) (nI R) d σ59) fun r69 σ68 =>
  if r69 = (0 : Int32) then
  (j65 σ68)
  else
  (z_b1 (f_X10_of (nI R) (1 : Int32) σ68) fun r72 =>
  j62 r72 σ68))) fun j58 =>
  if r56 = (0 : Int32) then
  (j58 (0 : Int32))
  else
  (j58 (1 : Int32))) = kk y46 dl' (nI (i + 1)) σ' := by
  have h24 := hH.2.1
  have hA := hC.2.2.2.1
  obtain ⟨w1, wo, wj, w9, w10, w11, w12, w8⟩ := hg
  obtain ⟨hpl, hpl2⟩ := hH.2.2 R hR
  have e0 : σ 1 (90 + 14 * R + 0) = nI (pl R) := by rw [w1, hN.2.1 R 0 (by omega) (by omega), hpl]
  obtain ⟨s1, f1, f2, f3⟩ := m_loads (m := σ) (by rw [w1]; exact hN.mC hC) hpl2 (nI w)
  have e1 : s1 1 = N := by rw [f2 1 (by omega), w1]
  obtain ⟨s2, hs2⟩ : ∃ s, s = z_u s1 0 11 ((s1 0 11) + n (90 + 14 * R + 1)) := ⟨_, rfl⟩
  have o2 : ∀ a, a ≠ 0 → s2 a = s1 a := fun a ha => by rw [hs2]; exact u_o ha
  have e2 : s2 1 = N := by rw [o2 1 (by omega), e1]
  obtain ⟨s3, hs3⟩ : ∃ s, s = z_u s2 0 12 ((s2 0 12) + tb (oX n R d)) := ⟨_, rfl⟩
  have o3 : ∀ a, a ≠ 0 → s3 a = s2 a := fun a ha => by rw [hs3]; exact u_o ha
  have e3 : s3 1 = N := by rw [o3 1 (by omega), e2]
  have g3 : ∀ N'' (s4 : z_S), s4 1 = N'' → (∀ a, a ≠ 1 → s4 a = s3 a) → mS s4 s0 N'' ah nc t e (p + n (90 + 14 * R + 1)) (dg + tb (oX n R d)) (dA D (pl R) w) := by
    intro N'' s4 k1 k2
    refine ⟨k1, fun a a0 a1 a8 => by rw [k2 a a1, o3 a a0, o2 a a0, f2 a a8, wo a a0 a1 a8], fun j j9 j10 j11 j12 => ?_, ?_, ?_, ?_, ?_, fun k k1 k3 => ?_⟩
    · rw [k2 0 (by omega), hs3, u_j j12, hs2, u_j j11, f2 0 (by omega), wj j j9 j10 j11 j12]
    · rw [k2 0 (by omega), hs3, u_j (by omega), hs2, u_j (by omega), f2 0 (by omega), w9]
    · rw [k2 0 (by omega), hs3, u_j (by omega), hs2, u_j (by omega), f2 0 (by omega), w10]
    · rw [k2 0 (by omega), hs3, u_j (by omega), hs2, u_i, f2 0 (by omega), w11]
    · rw [k2 0 (by omega), hs3, u_i, hs2, u_j (by omega), f2 0 (by omega), w12]
    · rw [k2 8 (by omega), o3 8 (by omega), o2 8 (by omega), f3 k k1 k3, w8 k k1 k3, tL_add hpl2]
      by_cases q : tU ah (pl R) k = k
      · rw [if_pos q, if_pos q, nI_add]
      · rw [if_neg q, if_neg q, Nat.add_zero, Int32.add_zero]
  have head : ∀ (X : Int32 → z_S → Option (Int32 × z_S)), (z_b1 (f_X10_of (nI R) (0 : Int32) σ) fun r49 =>
  z_b1 (f_X10_loads r49 (nI w) σ) fun σ51 =>
  z_b1 (f_X10_of (nI R) (1 : Int32) σ51) fun r53 =>
  z_let (z_u σ51 0 11 ((σ51 0 11) + r53)) fun σ54 =>
  z_b1 (f_X10_isOut (nI R) d σ54) fun r56 =>
  z_let (fun (y57 : Int32) => z_let (z_u σ54 0 12 ((σ54 0 12) + y57)) fun σ59 => X dl σ59) fun j58 =>
  if r56 = (0 : Int32) then
  (j58 (0 : Int32))
  else
  (j58 (1 : Int32))) = X dl s3 := by
    intro X
    rw [zl_0, m_of (by omega), p_b1, e0, f1, p_b1, zl_1, m_of (by omega), p_b1, e1, hN.2.1 R 1 (by omega) (by omega), p_let, ← hs2, m_out (by omega), p_b1, e2, tb_iff (hN.oX (by omega)), p_let]
    by_cases q : oX n R d
    · rw [show (if tb (oX n R d) = nI 0 then _ else _) = _ from p_tbT q]
      dsimp only
      rw [p_let, hs3, tb_t q]
    · rw [show (if tb (oX n R d) = nI 0 then _ else _) = _ from p_tbF q]
      dsimp only
      rw [p_let, hs3, tb_f q]
  by_cases hz : z = 0
  · obtain ⟨d1, d2⟩ := hd.1 hz
    refine ⟨s3, g3 N' s3 (by rw [d1]; exact e3) (fun _ _ => rfl), fun kk y46 => ?_⟩
    refine (head (fun dl s => (z_let (fun (y60 : Int32) (σ61 : z_S) => z_let (dl + y60) fun x63 =>
  z_let (nI i + (1 : Int32)) fun x36 => kk y46 x63 x36 σ61) fun j62 =>
  z_let (fun (σ64 : z_S) => j62 (0 : Int32) σ64) fun j65 =>
  if z = (0 : Int32) then
  (j65 s)
  else
  (z_b2 (f_X10_delivers (nI c) (nI R) d s) fun r69 σ68 =>
  if r69 = (0 : Int32) then
  (j65 σ68)
  else
  (z_b1 (f_X10_of (nI R) (1 : Int32) σ68) fun r72 =>
  j62 r72 σ68))))).trans ?_
    rw [p_let, p_let, if_pos hz]
    dsimp only
    rw [p_let, p_let, Int32.add_zero, d2, zl_1, nI_add]
  · obtain ⟨r, s4, k1, k2, k3, k4⟩ := hd.2 hz s3 e3
    refine ⟨s4, g3 N' s4 k2 k3, fun kk y46 => ?_⟩
    refine (head (fun dl s => (z_let (fun (y60 : Int32) (σ61 : z_S) => z_let (dl + y60) fun x63 =>
  z_let (nI i + (1 : Int32)) fun x36 => kk y46 x63 x36 σ61) fun j62 =>
  z_let (fun (σ64 : z_S) => j62 (0 : Int32) σ64) fun j65 =>
  if z = (0 : Int32) then
  (j65 s)
  else
  (z_b2 (f_X10_delivers (nI c) (nI R) d s) fun r69 σ68 =>
  if r69 = (0 : Int32) then
  (j65 σ68)
  else
  (z_b1 (f_X10_of (nI R) (1 : Int32) σ68) fun r72 =>
  j62 r72 σ68))))).trans ?_
    rw [p_let, p_let, if_neg hz, k1, p_b2]
    rcases k4 with ⟨q1, q2⟩ | ⟨q1, q2⟩
    · rw [if_pos q1]
      dsimp only
      rw [p_let, p_let, Int32.add_zero, q2, zl_1, nI_add]
    · rw [if_neg q1, zl_1, m_of (by omega), p_b1, k2, hN'.2.1 R 1 (by omega) (by omega)]
      dsimp only
      rw [p_let, ← q2, p_let, nI_add]

/-- what the numbers are behind each house of a round -/
def hStep (n : Nat → Int32) (nc nh np : Nat) (ah pl : Nat → Nat) (c : Nat) (d z : Int32) (N : Nat → Nat → Int32) (dl : Nat → Int32) (i R : Nat) : Prop :=
  (¬ (n (90 + 14 * R + 3) = nI c ∧ ¬ pz n np (nI R) d) → N (i + 1) = N i ∧ dl (i + 1) = dl i) ∧
  ((n (90 + 14 * R + 3) = nI c ∧ ¬ pz n np (nI R) d) → lmN n c < wtN n d R → dl (i + 1) = dl i ∧ hHea (N i) (N (i + 1)) z R) ∧
  ((n (90 + 14 * R + 3) = nI c ∧ ¬ pz n np (nI R) d) → wtN n d R ≤ lmN n c → hDel n (N i) (N (i + 1)) (dl i) (dl (i + 1)) d z c R)
theorem m_round {s0 : z_S} {z d : Int32} {N : Nat → Nat → Int32} {dl : Nat → Int32} (hC : mC n nc ah) (hH : rH T n nc nh nk dy pl) (hK : rK T n nk) (hP : rP T n np) (hS : rS T n ds) {c : Nat} (hc : c < nk) (hst : ∀ i, i ≤ nh → stA n (N i)) (h1 : s0 1 = N 0) (hdl : dl 0 = 0)
    (h7 : ∀ k, k < nh → s0 7 k = nI (tR ah pl nc nh k)) (h9 : s0 0 9 = 0) (h10 : s0 0 10 = 0) (h11 : s0 0 11 = 0) (h12 : s0 0 12 = 0) (h8 : ∀ k, k < 20 → s0 8 k = nI 0)
    (hs : ∀ i, i < nh → hStep n nc nh np ah pl c d z N dl i (tR ah pl nc nh i)) {t o : Nat} {e p dg : Int32} {D : Nat → Nat} (hW : WK n nc nh np ah pl c d (fun h => n (90 + 14 * h + 3) = nI c) nh = (t, e, p, dg, o, D)) :
    ∃ m', z_lp4 (lb_X10_goes_65 (nI c) d z (nI (lmN n c))) z_Fu (0 : Int32) (0 : Int32) (0 : Int32) s0 = some (dl nh, m') ∧ m' 1 = N nh ∧ (∀ a, a ≠ 0 → a ≠ 1 → a ≠ 8 → m' a = s0 a) ∧ (∀ j, j ≠ 9 → j ≠ 10 → j ≠ 11 → j ≠ 12 → m' 0 j = s0 0 j) ∧
      m' 0 9 = nI t ∧ m' 0 10 = e + eS n ah nc (n (426 + 7 * c + 0)) D ∧ m' 0 11 = p ∧ m' 0 12 = dg := by
  have h20 := hC.2.2.1
  have h24 := hH.1.2.1
  have h3 := hK.2.1
  have h30 := hP.2.1
  have hc1 := hC.2.1
  have hA := hC.2.2.2.1
  have hpl : ∀ h, h < nh → pl h < nc := fun h hh => (hH.1.2.2 h hh).2
  obtain ⟨hlm, hlm5⟩ := lm_of hK hc
  have hcart : ∀ i, i ≤ nh → N i (426 + 7 * c + 0) = n (426 + 7 * c + 0) := fun i hi => (hst i hi).2.2.1 c 0 (by omega) (by omega)
  have heS : ∀ i, i ≤ nh → ∀ D, eS (N i) ah nc (N i (426 + 7 * c + 0)) D = eS n ah nc (n (426 + 7 * c + 0)) D := by
    intro i hi D
    rw [hcart i hi]
    exact eS_congr hA (fun j h1 h2 => (hst i hi).1 j (by omega))
  have hinv0 := wk_inv (f := eS n ah nc (n (426 + 7 * c + 0))) (Q := fun h => n (90 + 14 * h + 3) = nI c ∧ ¬ pz n np (nI h) d) (wt := wtN n d) (pp := fun h => n (90 + 14 * h + 1)) (dg := fun h => tb (oX n h d)) (pl := pl) (lim := lmN n c) (R := tR ah pl nc nh) (nc := nc) (nh := nh) (fun i hi => hpl _ (tR_lt hc1 hA hpl hi))
  refine p_ex4 (fun r => ∃ m' : z_S, r = some (dl nh, m') ∧ m' 1 = N nh ∧ (∀ a, a ≠ 0 → a ≠ 1 → a ≠ 8 → m' a = s0 a) ∧ (∀ j, j ≠ 9 → j ≠ 10 → j ≠ 11 → j ≠ 12 → m' 0 j = s0 0 j) ∧
      m' 0 9 = nI t ∧ m' 0 10 = e + eS n ah nc (n (426 + 7 * c + 0)) D ∧ m' 0 11 = p ∧ m' 0 12 = dg)
    (fun i (x14 x15 x16 : Int32) (σ : z_S) => x16 = nI i ∧ x15 = dl i ∧ ∃ t e p dg o D, WK n nc nh np ah pl c d (fun h => n (90 + 14 * h + 3) = nI c) i = (t, e, p, dg, o, D) ∧ x14 = nI o ∧ mS σ s0 (N i) ah nc t e p dg D)
    nh (by omega) ⟨rfl, hdl.symm, 0, 0, 0, 0, 0, fun _ => 0, rfl, rfl, h1, fun _ _ _ _ => rfl, fun _ _ _ _ _ => rfl, h9, h10, h11, h12, fun k k1 k2 => by rw [h8 k (by omega), tL_zero]⟩ ?_ ?_
  · rintro i x14 x15 x16 σ hi ⟨rfl, rfl, t, e, p, dg, o, D, hw, rfl, hg⟩
    left
    obtain ⟨R, hR⟩ : ∃ R, R = tR ah pl nc nh i := ⟨_, rfl⟩
    have hRn : R < nh := by rw [hR]; exact tR_lt hc1 hA hpl hi
    have hstep := hs i hi
    rw [← hR] at hstep
    have hN := hst i (by omega)
    have hinv' : wI nc (lmN n c) i (t, e, p, dg, o, D) := by rw [← hw]; exact hinv0 i (by omega)
    obtain ⟨i1, i2, i3, i4, i5⟩ := hinv'
    have i1' : t ≤ i := i1
    have i2' : t = 0 → o = 0 ∧ D = fun _ => 0 := i2
    have i4' : o ≤ lmN n c := i4
    have i3' : sN D nc = o := i3
    have hsucc : WK n nc nh np ah pl c d (fun h => n (90 + 14 * h + 3) = nI c) (i + 1) = wk1 (eS n ah nc (n (426 + 7 * c + 0))) (fun h => n (90 + 14 * h + 3) = nI c ∧ ¬ pz n np (nI h) d) (wtN n d) (fun h => n (90 + 14 * h + 1)) (fun h => tb (oX n h d)) pl (lmN n c) R (t, e, p, dg, o, D) := by
      rw [← hw, hR]; rfl
    obtain ⟨g1, go, gj, g9, -⟩ := id hg
    obtain ⟨-, -, hpp, -⟩ := hH.2.2 R hRn
    obtain ⟨hwt, hwt2⟩ := wt_of hS d hpp
    have e1 : ∀ h w, h < 24 → w < 6 → σ 1 (90 + 14 * h + w) = n (90 + 14 * h + w) := fun h w a b => by rw [g1]; exact hN.2.1 h w a b
    have hnh : σ 1 1 = nI nh := by rw [g1, hN.1 1 (by omega)]; exact hH.1.1
    have hps : f_X10_isPaused (nI R) d σ = some (tb (pz n np (nI R) d)) := by
      rw [m_isPaused (T := T) (np := np) (by rw [g1]; exact hN.rP hP), g1, tb_iff (hN.pz h30)]
    have hb : ∀ kk, lb_X10_goes_65 (nI c) d z (nI (lmN n c)) kk (nI o) (dl i) (nI i) σ =
      (fun (y28 : Int32) => z_let (fun (σ30 : z_S) => z_let (fun (y32 : Int32) (y33 : Int32) (σ34 : z_S) => z_let (nI i + (1 : Int32)) fun x36 =>
  kk y32 y33 x36 σ34) fun j35 =>
  if y28 = (0 : Int32) then
  (j35 (nI o) (dl i) σ30)
  else
  (if nI (lmN n c) < nI (wtN n d R) then
  (j35 (nI o) (dl i) σ30)
  else
  (z_let (fun (σ39 : z_S) => z_let (fun (y41 : Int32) => z_let (fun (y43 : Int32) => z_let (z_u σ39 0 9 ((σ39 0 9) + y43)) fun σ45 =>
  z_let (fun (y46 : Int32) => z_b1 (f_X10_of (nI R) (0 : Int32) σ45) fun r49 =>
  z_b1 (f_X10_loads r49 (nI (wtN n d R)) σ45) fun σ51 =>
  z_b1 (f_X10_of (nI R) (1 : Int32) σ51) fun r53 =>
  z_let (z_u σ51 0 11 ((σ51 0 11) + r53)) fun σ54 =>
  z_b1 (f_X10_isOut (nI R) d σ54) fun r56 =>
  z_let (fun (y57 : Int32) => z_let (z_u σ54 0 12 ((σ54 0 12) + y57)) fun σ59 =>
  z_let (fun (y60 : Int32) (σ61 : z_S) => z_let (dl i + y60) fun x63 =>
  j35 y46 x63 σ61) fun j62 =>
  z_let (fun (σ64 : z_S) => j62 (0 : Int32) σ64) fun j65 =>
  if z = (0 : Int32) then
  (j65 σ59)
  else
  (z_b2 (f_X10_delivers (nI c) (nI R) d σ59) fun r69 σ68 =>
  if r69 = (0 : Int32) then
  (j65 σ68)
  else
  (z_b1 (f_X10_of (nI R) (1 : Int32) σ68) fun r72 =>
  j62 r72 σ68))) fun j58 =>
  if r56 = (0 : Int32) then
  (j58 (0 : Int32))
  else
  (j58 (1 : Int32))) fun j47 =>
  if y41 = (0 : Int32) then
  (j47 (nI o + nI (wtN n d R)))
  else
  (j47 (nI (wtN n d R)))) fun j44 =>
  if y41 = (0 : Int32) then
  (j44 (0 : Int32))
  else
  (j44 (1 : Int32))) fun j42 =>
  z_let (fun (_ : Unit) => j42 (1 : Int32)) fun j76 =>
  if (σ39 0 9) = (0 : Int32) then
  (j76 ())
  else
  (if (nI o + nI (wtN n d R)) ≤ nI (lmN n c) then
  (j42 (0 : Int32))
  else
  (j76 ()))) fun j40 =>
  if (σ30 0 9) ≤ (0 : Int32) then
  (j40 σ30)
  else
  (if (nI o + nI (wtN n d R)) ≤ nI (lmN n c) then
  (j40 σ30)
  else
  (z_b1 (f_X10_endsTrip (nI c) σ30) fun σ82 =>
  j40 σ82))))) fun j31 =>
  if y28 = (0 : Int32) then
  (j31 σ)
  else
  (if nI (wtN n d R) ≤ nI (lmN n c) then
  (j31 σ)
  else
  (if z = (0 : Int32) then
  (j31 σ)
  else
  (z_b1 (f_X10_become (nI R) (9 : Int32) σ) fun σ87 =>
  z_b1 (f_X10_complains (nI R) σ87) fun σ89 =>
  j31 σ89)))) (tb (n (90 + 14 * R + 3) = nI c ∧ ¬ pz n np (nI R) d)) := by
      intro kk
      unfold lb_X10_goes_65
      rw [k_1, c_1, hnh, if_neg (nI_ge hi (by omega)), p_cki (by omega) (by omega), p_cl (by omega), go 7 (by omega) (by omega) (by omega), h7 i hi, ← hR, p_let, m_weightOn (by omega), p_b1, e1 R 1 (by omega) (by omega), g1, hN.wgI, hwt,
        show f_X10_of (nI R) 3 σ = some (n (90 + 14 * R + 3)) from (m_of (b := 3) (by omega)).trans (congrArg some (e1 R 3 (by omega) (by omega))), p_b1, hps]
      exact p_andQ
    by_cases qQ : n (90 + 14 * R + 3) = nI c ∧ ¬ pz n np (nI R) d
    · by_cases qw : wtN n d R ≤ lmN n c
      · -- carried
        have hd := hstep.2.2 qQ qw
        have mk : ∀ (σa : z_S) (t e : Nat × Int32) (oo : Nat), True := fun _ _ _ _ => trivial
        -- the trip that is gone on with, or the new one
        obtain ⟨σa, t1, ea, oa, Da, y41, k1, k2, k3, k4⟩ : ∃ (σa : z_S) (t1 : Nat) (ea : Int32) (oa : Nat) (Da : Nat → Nat) (y41 : Int32), wk1 (eS n ah nc (n (426 + 7 * c + 0))) (fun h => n (90 + 14 * h + 3) = nI c ∧ ¬ pz n np (nI h) d) (wtN n d) (fun h => n (90 + 14 * h + 1)) (fun h => tb (oX n h d)) pl (lmN n c) R (t, e, p, dg, o, D) = (t1, ea, p + n (90 + 14 * R + 1), dg + tb (oX n R d), oa, dA Da (pl R) (wtN n d R)) ∧
            mS (z_u σa 0 9 (σa 0 9 + (if y41 = 0 then 0 else 1))) s0 (N i) ah nc t1 ea p dg Da ∧ (if y41 = 0 then nI o + nI (wtN n d R) else nI (wtN n d R)) = nI oa ∧
            ∀ (O : Type) (J : Int32 → z_S → Option O), (z_let (fun (σ39 : z_S) => z_let (fun (y41 : Int32) => J y41 σ39) fun j42 =>
  z_let (fun (_ : Unit) => j42 (1 : Int32)) fun j76 =>
  if (σ39 0 9) = (0 : Int32) then
  (j76 ())
  else
  (if (nI o + nI (wtN n d R)) ≤ nI (lmN n c) then
  (j42 (0 : Int32))
  else
  (j76 ()))) fun j40 =>
  if (σ 0 9) ≤ (0 : Int32) then
  (j40 σ)
  else
  (if (nI o + nI (wtN n d R)) ≤ nI (lmN n c) then
  (j40 σ)
  else
  (z_b1 (f_X10_endsTrip (nI c) σ) fun σ82 =>
  j40 σ82))) = J y41 σa := by
          obtain ⟨w1, wo, wj, w9, w10, w11, w12, w8⟩ := hg
          by_cases qt : t = 0
          · obtain ⟨o0, D0⟩ := i2' qt
            refine ⟨σ, t + 1, e, wtN n d R, fun _ => 0, 1, ?_, ?_, ?_, fun O J => ?_⟩
            · rw [wk1_new qQ qw (Or.inl qt), D0, eS_0, Int32.add_zero]
            · rw [if_neg (by decide)]
              refine ⟨by rw [u_o (by omega)]; exact w1, fun a a0 a1 a8 => by rw [u_o a0]; exact wo a a0 a1 a8, fun j j9 j10 j11 j12 => by rw [u_j j9]; exact wj j j9 j10 j11 j12, ?_, ?_, ?_, ?_, fun k k1 k2 => ?_⟩
              · rw [u_i, w9, zl_1, nI_add]
              · rw [u_j (by omega)]; exact w10
              · rw [u_j (by omega)]; exact w11
              · rw [u_j (by omega)]; exact w12
              · rw [u_o (by omega), w8 k k1 k2, D0]
            · rw [if_neg (by decide)]
            · rw [p_let, if_pos (by rw [w9, qt]; decide)]
              dsimp only
              rw [p_let, p_let, if_pos (by rw [w9, qt]; rfl)]
          · have n9 : ¬ σ 0 9 = 0 := by rw [w9]; exact nI_ne0 (by omega) (by omega)
            have n9' : ¬ σ 0 9 ≤ 0 := by rw [w9]; exact nI_nle (by omega) (by omega)
            by_cases qn : lmN n c < o + wtN n d R
            · have hsum : ¬ (nI o + nI (wtN n d R)) ≤ nI (lmN n c) := by
                rw [nI_add, nI_leI (by omega) (by omega)]; omega
              obtain ⟨σ1, f1, f2, f3, f4, f5⟩ := m_endsTrip (m := σ) (nc := nc) (ah := ah) (by rw [w1]; exact hN.mC hC) (c := c) (by omega) (D := D) (by rw [i3']; omega) w8
              rw [w1, heS i (by omega)] at f5
              refine ⟨σ1, t + 1, e + eS n ah nc (n (426 + 7 * c + 0)) D, wtN n d R, fun _ => 0, 1, ?_, ?_, ?_, fun O J => ?_⟩
              · rw [wk1_new qQ qw (Or.inr qn)]
              · rw [if_neg (by decide)]
                refine ⟨by rw [u_o (by omega), f2 1 (by omega) (by omega)]; exact w1, fun a a0 a1 a8 => by rw [u_o a0, f2 a a0 a8]; exact wo a a0 a1 a8, fun j j9 j10 j11 j12 => by rw [u_j j9, f4 j j10]; exact wj j j9 j10 j11 j12, ?_, ?_, ?_, ?_, fun k k1 k2 => ?_⟩
                · rw [u_i, f4 9 (by omega), w9, zl_1, nI_add]
                · rw [u_j (by omega), f5, w10]
                · rw [u_j (by omega), f4 11 (by omega)]; exact w11
                · rw [u_j (by omega), f4 12 (by omega)]; exact w12
                · rw [u_o (by omega), f3 k k1 k2, tL_zero]
              · rw [if_neg (by decide)]
              · rw [p_let, if_neg n9', if_neg hsum, f1, p_b1]
                dsimp only
                rw [p_let, p_let, f4 9 (by omega), if_neg n9, if_neg hsum]
            · have hsum : (nI o + nI (wtN n d R)) ≤ nI (lmN n c) := by
                rw [nI_add, nI_leI (by omega) (by omega)]; omega
              refine ⟨σ, t, e, o + wtN n d R, D, 0, ?_, ?_, ?_, fun O J => ?_⟩
              · rw [wk1_old qQ qw (fun q => q.elim qt qn)]
              · rw [if_pos rfl, Int32.add_zero]
                refine ⟨by rw [u_o (by omega)]; exact w1, fun a a0 a1 a8 => by rw [u_o a0]; exact wo a a0 a1 a8, fun j j9 j10 j11 j12 => by rw [u_j j9]; exact wj j j9 j10 j11 j12, by rw [u_i]; exact w9, by rw [u_j (by omega)]; exact w10, by rw [u_j (by omega)]; exact w11, by rw [u_j (by omega)]; exact w12, fun k k1 k2 => by rw [u_o (by omega)]; exact w8 k k1 k2⟩
              · rw [if_pos rfl, nI_add]
              · rw [p_let, if_neg n9', if_pos hsum]
                dsimp only
                rw [p_let, p_let, if_neg n9, if_pos hsum]
        obtain ⟨σ2, l1, l2⟩ := m_tail (w := wtN n d R) k2 hC hH.1 hRn i hN (hst (i + 1) (by omega)) hd
        refine ⟨nI oa, dl (i + 1), nI (i + 1), σ2, ⟨rfl, rfl, t1, _, _, _, oa, _, ?_, rfl, l1⟩, fun kk => ?_⟩
        · rw [hsucc]; exact k1
        · rw [hb kk]
          dsimp only
          rw [p_let, show (if tb (n (90 + 14 * R + 3) = nI c ∧ ¬ pz n np (nI R) d) = (0 : Int32) then _ else _) = _ from p_tbT qQ, if_pos (nI_le qw (by omega))]
          dsimp only
          rw [p_let, show (if tb (n (90 + 14 * R + 3) = nI c ∧ ¬ pz n np (nI R) d) = (0 : Int32) then _ else _) = _ from p_tbT qQ, if_neg (Int32.not_lt.mpr (nI_le qw (by omega)))]
          refine (k4 _ _).trans ?_
          rw [p_let]
          by_cases q41 : y41 = 0
          · rw [if_pos q41] at k3 l2
            rw [if_pos q41]
            dsimp only
            rw [p_let, p_let, if_pos q41]
            exact (l2 kk (nI o + nI (wtN n d R))).trans (by rw [k3])
          · rw [if_neg q41] at k3 l2
            rw [if_neg q41]
            dsimp only
            rw [p_let, p_let, if_neg q41]
            exact (l2 kk (nI (wtN n d R))).trans (by rw [k3])
      · -- too heavy
        obtain ⟨d1, hh1, hh2⟩ := hstep.2.1 qQ (by omega)
        have hw' : WK n nc nh np ah pl c d (fun h => n (90 + 14 * h + 3) = nI c) (i + 1) = (t, e, p, dg, o, D) := by rw [hsucc, wk1_no (fun q => qw q.2)]
        have hlt : nI (lmN n c) < nI (wtN n d R) := nI_lt (by omega) (by omega)
        have hnl : ¬ nI (wtN n d R) ≤ nI (lmN n c) := nI_ge (by omega) (by omega)
        by_cases hz : z = 0
        · refine ⟨nI o, dl (i + 1), nI (i + 1), σ, ⟨rfl, rfl, t, e, p, dg, o, D, hw', rfl, by rw [hh1 hz]; exact hg⟩, fun kk => ?_⟩
          rw [hb kk]
          dsimp only
          rw [p_let, show (if tb (n (90 + 14 * R + 3) = nI c ∧ ¬ pz n np (nI R) d) = (0 : Int32) then _ else _) = _ from p_tbT qQ, if_neg hnl, if_pos hz]
          dsimp only
          rw [p_let, show (if tb (n (90 + 14 * R + 3) = nI c ∧ ¬ pz n np (nI R) d) = (0 : Int32) then _ else _) = _ from p_tbT qQ, if_pos hlt]
          dsimp only
          rw [p_let, d1, zl_1, nI_add]
        · obtain ⟨σ1, σ2, f1, f2, f3, f4⟩ := hh2 hz σ g1
          obtain ⟨w1, wo, wj, w9, w10, w11, w12, w8⟩ := hg
          refine ⟨nI o, dl (i + 1), nI (i + 1), σ2, ⟨rfl, rfl, t, e, p, dg, o, D, hw', rfl, f3, fun a a0 a1 a8 => by rw [f4 a a1]; exact wo a a0 a1 a8, fun j j9 j10 j11 j12 => by rw [f4 0 (by omega)]; exact wj j j9 j10 j11 j12, by rw [f4 0 (by omega)]; exact w9, by rw [f4 0 (by omega)]; exact w10, by rw [f4 0 (by omega)]; exact w11, by rw [f4 0 (by omega)]; exact w12, fun k k1 k2 => by rw [f4 8 (by omega)]; exact w8 k k1 k2⟩, fun kk => ?_⟩
          rw [hb kk]
          dsimp only
          rw [p_let, show (if tb (n (90 + 14 * R + 3) = nI c ∧ ¬ pz n np (nI R) d) = (0 : Int32) then _ else _) = _ from p_tbT qQ, if_neg hnl, if_neg hz, f1, p_b1, f2, p_b1]
          dsimp only
          rw [p_let, show (if tb (n (90 + 14 * R + 3) = nI c ∧ ¬ pz n np (nI R) d) = (0 : Int32) then _ else _) = _ from p_tbT qQ, if_pos hlt]
          dsimp only
          rw [p_let, d1, zl_1, nI_add]
    · obtain ⟨d1, d2⟩ := hstep.1 qQ
      refine ⟨nI o, dl (i + 1), nI (i + 1), σ, ⟨rfl, rfl, t, e, p, dg, o, D, by rw [hsucc, wk1_no (fun q => qQ q.1)], rfl, by rw [d1]; exact hg⟩, fun kk => ?_⟩
      rw [hb kk]
      dsimp only
      rw [p_let, show (if tb (n (90 + 14 * R + 3) = nI c ∧ ¬ pz n np (nI R) d) = (0 : Int32) then _ else _) = _ from p_tbF qQ]
      dsimp only
      rw [p_let, show (if tb (n (90 + 14 * R + 3) = nI c ∧ ¬ pz n np (nI R) d) = (0 : Int32) then _ else _) = _ from p_tbF qQ]
      dsimp only
      rw [p_let, d2, zl_1, nI_add]
  · rintro x14 x15 x16 σ ⟨rfl, rfl, t', e', p', dg', o', D', hw, rfl, hg⟩
    rw [hW] at hw
    obtain ⟨rfl, rfl, rfl, rfl, rfl, rfl⟩ : t = t' ∧ e = e' ∧ p = p' ∧ dg = dg' ∧ o = o' ∧ D = D' := by
      simpa using hw
    have hinv' : wI nc (lmN n c) nh (t, e, p, dg, o, D) := by rw [← hW]; exact hinv0 nh (Nat.le_refl _)
    obtain ⟨i1, i2, i3, i4, i5⟩ := hinv'
    have i4' : o ≤ lmN n c := i4
    have i3' : sN D nc = o := i3
    have hN := hst nh (Nat.le_refl _)
    obtain ⟨w1, wo, wj, w9, w10, w11, w12, w8⟩ := hg
    obtain ⟨σ1, f1, f2, f3, f4, f5⟩ := m_endsTrip (m := σ) (nc := nc) (ah := ah) (by rw [w1]; exact hN.mC hC) (c := c) (by omega) (D := D) (by rw [i3']; omega) w8
    rw [w1, heS nh (Nat.le_refl _)] at f5
    refine ⟨some (dl nh, σ1), ⟨σ1, rfl, by rw [f2 1 (by omega) (by omega)]; exact w1, fun a a0 a1 a8 => by rw [f2 a a0 a8]; exact wo a a0 a1 a8, fun j j9 j10 j11 j12 => by rw [f4 j j10]; exact wj j j9 j10 j11 j12, by rw [f4 9 (by omega)]; exact w9, by rw [f5, w10], by rw [f4 11 (by omega)]; exact w11, by rw [f4 12 (by omega)]; exact w12⟩, fun kk => ?_⟩
    unfold lb_X10_goes_65
    rw [k_1, c_1, w1, hN.1 1 (by omega), hH.1.1, if_pos (nI_le (Nat.le_refl _) (by omega)), f1, p_b1]
end GOES
