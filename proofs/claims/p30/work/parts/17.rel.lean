/-! THE PURE PART. 5: how a town of the class and a row of numbers of the model belong together -/
def rDis (n : Nat → Int32) (ah : Nat → Nat) (x : Nat) : Int32 := tf 0 (fun y d => d + n (10 + 4 * y + 1)) ah x
def rCrt (n : Nat → Int32) (ah : Nat → Nat) (x : Nat) : Int32 := tf (nI 1) (fun y d => if n (10 + 4 * y + 3) = nI 1 then nI 0 else d) ah x
def rC1 (T : z_S) (n : Nat → Int32) (ah : Nat → Nat) (k : Nat) : Prop :=
  (1 ≤ k → T 3 k = n (10 + 4 * k + 0)) ∧ T 4 k = n (10 + 4 * k + 1) ∧ T 5 k = n (10 + 4 * k + 2) ∧ T 6 k = n (10 + 4 * k + 3) ∧ T 7 k = nI (tD ah k) ∧ T 8 k = rDis n ah k ∧ T 9 k = rCrt n ah k ∧ (n (10 + 4 * k + 3) = nI 0 ∨ n (10 + 4 * k + 3) = nI 1)
def rC (T : z_S) (n : Nat → Int32) (nc : Nat) (ah : Nat → Nat) : Prop := mC n nc ah ∧ T 2 0 = nI nc ∧ (∀ k, k < nc → rC1 T n ah k) ∧ ∀ k, k < nc → T 10 k = nI (tO ah nc k)
/-- one house -/
def rH1 (T : z_S) (n : Nat → Int32) (nk dy h : Nat) : Prop :=
  (T 12 h = n (90 + 14 * h + 0) ∧ T 13 h = n (90 + 14 * h + 1) ∧ T 14 h = n (90 + 14 * h + 2) ∧ T 15 h = n (90 + 14 * h + 3) ∧ T 16 h = n (90 + 14 * h + 4) ∧ T 17 h = n (90 + 14 * h + 5)) ∧
  (T 18 h = n (90 + 14 * h + 6) ∧ T 19 h = n (90 + 14 * h + 7) ∧ T 20 h = n (90 + 14 * h + 8) + n (90 + 14 * h + 9) ∧ T 21 h = n (90 + 14 * h + 10) ∧ T 22 h = n (90 + 14 * h + 11) ∧ T 23 h = n (90 + 14 * h + 12)) ∧
  (∃ p, n (90 + 14 * h + 1) = nI p ∧ 1 ≤ p ∧ p ≤ 5) ∧ (n (90 + 14 * h + 3) = -1 ∨ ∃ c, c < nk ∧ n (90 + 14 * h + 3) = nI c) ∧
  (∃ a b c d, n (90 + 14 * h + 6) = nI a ∧ n (90 + 14 * h + 8) = nI b ∧ n (90 + 14 * h + 9) = nI c ∧ n (90 + 14 * h + 10) = nI d ∧ a + b + c + d ≤ 5 * dy) ∧
  (∃ s, n (90 + 14 * h + 12) = nI s ∧ s ≤ dy) ∧ (∃ f, T 24 h = nI f ∧ f ≤ 5 * dy ∧ ((f = 0 ∧ n (90 + 14 * h + 13) = nI 0) ∨ (f ≠ 0 ∧ n (90 + 14 * h + 13) = nI 1)))
def rH (T : z_S) (n : Nat → Int32) (nc nh nk dy : Nat) (pl : Nat → Nat) : Prop := mH n nc nh pl ∧ T 11 0 = nI nh ∧ ∀ h, h < nh → rH1 T n nk dy h
def rO (T : z_S) (ah pl : Nat → Nat) (nc nh : Nat) : Prop := ∀ k, k < nh → T 25 k = nI (tR ah pl nc nh k)
def rK1 (T : z_S) (n : Nat → Int32) (c : Nat) : Prop :=
  T 31 c = n (426 + 7 * c + 0) ∧ T 32 c = n (426 + 7 * c + 1) ∧ T 33 c = n (426 + 7 * c + 2) ∧ T 34 c = n (426 + 7 * c + 3) ∧ T 35 c = n (426 + 7 * c + 4) ∧ T 36 c = n (426 + 7 * c + 5) ∧ T 37 c = n (426 + 7 * c + 6) ∧ ∃ l, n (426 + 7 * c + 1) = nI l ∧ l ≤ 500
def rK (T : z_S) (n : Nat → Int32) (nk : Nat) : Prop := n 2 = nI nk ∧ nk ≤ 3 ∧ T 30 0 = nI nk ∧ ∀ c, c < nk → rK1 T n c
def rP (T : z_S) (n : Nat → Int32) (np : Nat) : Prop := n 3 = nI np ∧ np ≤ 30 ∧ T 26 0 = nI np ∧ ∀ k, k < np → T 27 k = n (447 + 3 * k) ∧ T 28 k = n (447 + 3 * k + 1) ∧ T 29 k = n (447 + 3 * k + 2)
def rS (T : z_S) (n : Nat → Int32) (dy : Nat) : Prop := (n 4 = nI dy ∧ dy ≤ 1000 ∧ T 0 0 = nI dy) ∧ (T 0 1 = n 5 ∧ ∃ w, n 5 = nI w ∧ 1 ≤ w ∧ w ≤ 20) ∧ (T 0 2 = n 6 ∧ ∃ w, n 6 = nI w ∧ 1 ≤ w ∧ w ≤ 50)
def rSum (n : Nat → Int32) (nh w : Nat) : Int32 := sI (fun h => n (90 + 14 * h + w)) nh
def rA (T : z_S) (n : Nat → Int32) (nh : Nat) : Prop := T 1 0 = rSum n nh 6 + rSum n nh 7 + rSum n nh 8 + rSum n nh 9 + rSum n nh 10 ∧ T 1 1 = rSum n nh 6 ∧ T 1 2 = rSum n nh 7 ∧ T 1 3 = rSum n nh 8 ∧ T 1 4 = rSum n nh 9 ∧ T 1 5 = rSum n nh 10
def rZ (n : Nat → Int32) (nh nk : Nat) : Prop := (∀ i, 90 + 14 * nh ≤ i → i < 426 → n i = nI 0) ∧ ∀ i, 426 + 7 * nk ≤ i → i < 447 → n i = nI 0
abbrev z_Nu : Type := Nat × Nat × Nat × Nat × Nat × (Nat → Nat) × (Nat → Nat)
def RT (T : z_S) (n : Nat → Int32) (nc nh nk np dy : Nat) (ah pl : Nat → Nat) : Prop :=
  rC T n nc ah ∧ rH T n nc nh nk dy pl ∧ rO T ah pl nc nh ∧ rK T n nk ∧ rP T n np ∧ rS T n dy ∧ rA T n nh ∧ rZ n nh nk
def RTx (T : z_S) (n : Nat → Int32) : Prop := ∃ (nc nh nk np dy : Nat) (ah pl : Nat → Nat), RT T n nc nh nk np dy ah pl
section REL
variable {T T' : z_S} {n n' : Nat → Int32} {nc nh nk np dy : Nat} {ah pl : Nat → Nat}
theorem rC1_congr {k : Nat} (h : rC1 T n ah k) (hT : ∀ q, 3 ≤ q → q ≤ 9 → T' q k = T q k) : rC1 T' n ah k := by
  unfold rC1 at h ⊢
  rw [hT 3 (by omega) (by omega), hT 4 (by omega) (by omega), hT 5 (by omega) (by omega), hT 6 (by omega) (by omega), hT 7 (by omega) (by omega), hT 8 (by omega) (by omega), hT 9 (by omega) (by omega)]
  exact h
theorem rDis_congr (hA : tA ah nc) {x : Nat} (hx : x < nc) (hn : ∀ i, 10 ≤ i → i < 10 + 4 * nc → n' i = n i) : rDis n' ah x = rDis n ah x := by
  unfold rDis
  refine tf_congr x (fun k a b => ⟨hA k a (by omega), rfl, ?_⟩)
  funext d
  rw [hn _ (by omega) (by omega)]
theorem rCrt_congr (hA : tA ah nc) {x : Nat} (hx : x < nc) (hn : ∀ i, 10 ≤ i → i < 10 + 4 * nc → n' i = n i) : rCrt n' ah x = rCrt n ah x := by
  unfold rCrt
  refine tf_congr x (fun k a b => ⟨hA k a (by omega), rfl, ?_⟩)
  funext d
  rw [hn _ (by omega) (by omega)]
theorem mC_congr (h : mC n nc ah) (h0 : n' 0 = n 0) (hn : ∀ i, 10 ≤ i → i < 10 + 4 * nc → n' i = n i) : mC n' nc ah := by
  obtain ⟨a, b, c, d, e⟩ := h
  exact ⟨by rw [h0]; exact a, b, c, d, fun k h1 h2 => by rw [hn _ (by omega) (by omega)]; exact e k h1 h2⟩
theorem rC_congr (h : rC T n nc ah) (h0 : n' 0 = n 0) (hn : ∀ i, 10 ≤ i → i < 10 + 4 * nc → n' i = n i) (h2 : T' 2 0 = T 2 0) (hT : ∀ q, 3 ≤ q → q ≤ 10 → ∀ k, k < nc → T' q k = T q k) : rC T' n' nc ah := by
  obtain ⟨a, b, c, d⟩ := h
  have hA := a.2.2.2.1
  refine ⟨mC_congr a h0 hn, by rw [h2]; exact b, fun k hk => ?_, fun k hk => by rw [hT 10 (by omega) (by omega) k hk]; exact d k hk⟩
  have h3 := rC1_congr (T' := T') (c k hk) (fun q a b => hT q a (by omega) k hk)
  unfold rC1 at h3 ⊢
  rw [hn _ (by omega) (by omega), hn _ (by omega) (by omega), hn _ (by omega) (by omega), hn _ (by omega) (by omega), rDis_congr hA hk hn, rCrt_congr hA hk hn]
  exact h3
theorem rH1_congr {h : Nat} (hr : rH1 T n nk dy h) (hT : ∀ q, 12 ≤ q → q ≤ 24 → T' q h = T q h) (hn : ∀ w, w < 14 → n' (90 + 14 * h + w) = n (90 + 14 * h + w)) : rH1 T' n' nk dy h := by
  unfold rH1 at hr ⊢
  rw [hT 12 (by omega) (by omega), hT 13 (by omega) (by omega), hT 14 (by omega) (by omega), hT 15 (by omega) (by omega), hT 16 (by omega) (by omega), hT 17 (by omega) (by omega), hT 18 (by omega) (by omega), hT 19 (by omega) (by omega), hT 20 (by omega) (by omega), hT 21 (by omega) (by omega), hT 22 (by omega) (by omega), hT 23 (by omega) (by omega), hT 24 (by omega) (by omega),
    hn 0 (by omega), hn 1 (by omega), hn 2 (by omega), hn 3 (by omega), hn 4 (by omega), hn 5 (by omega), hn 6 (by omega), hn 7 (by omega), hn 8 (by omega), hn 9 (by omega), hn 10 (by omega), hn 11 (by omega), hn 12 (by omega), hn 13 (by omega)]
  exact hr
theorem rH1_weak {h nk' dy' : Nat} (hr : rH1 T n nk dy h) (hk : nk ≤ nk') (hd : dy ≤ dy') : rH1 T n nk' dy' h := by
  obtain ⟨a, b, c, d, ⟨e1, e2, e3, e4, e5, e6, e7, e8, e9⟩, ⟨s, f1, f2⟩, ⟨f, g1, g2, g3⟩⟩ := hr
  exact ⟨a, b, c, d.imp id (fun ⟨q, q1, q2⟩ => ⟨q, by omega, q2⟩), ⟨e1, e2, e3, e4, e5, e6, e7, e8, by omega⟩, ⟨s, f1, by omega⟩, ⟨f, g1, by omega, g3⟩⟩
theorem mH_congr (h : mH n nc nh pl) (h1 : n' 1 = n 1) (hn : ∀ h, h < nh → n' (90 + 14 * h + 0) = n (90 + 14 * h + 0)) : mH n' nc nh pl := by
  obtain ⟨a, b, c⟩ := h
  exact ⟨by rw [h1]; exact a, b, fun q hq => by rw [hn q hq]; exact c q hq⟩
theorem rH_congr (h : rH T n nc nh nk dy pl) (h1 : n' 1 = n 1) (h11 : T' 11 0 = T 11 0) (hn : ∀ i, 90 ≤ i → i < 90 + 14 * nh → n' i = n i) (hT : ∀ q, 12 ≤ q → q ≤ 24 → ∀ k, k < nh → T' q k = T q k) : rH T' n' nc nh nk dy pl := by
  obtain ⟨a, b, c⟩ := h
  exact ⟨mH_congr a h1 (fun q hq => hn _ (by omega) (by omega)), by rw [h11]; exact b, fun q hq => rH1_congr (c q hq) (fun w a b => hT w a b q hq) (fun w hw => hn _ (by omega) (by omega))⟩
theorem rK1_congr {c : Nat} (h : rK1 T n c) (hT : ∀ q, 31 ≤ q → q ≤ 37 → T' q c = T q c) (hn : ∀ w, w < 7 → n' (426 + 7 * c + w) = n (426 + 7 * c + w)) : rK1 T' n' c := by
  unfold rK1 at h ⊢
  rw [hT 31 (by omega) (by omega), hT 32 (by omega) (by omega), hT 33 (by omega) (by omega), hT 34 (by omega) (by omega), hT 35 (by omega) (by omega), hT 36 (by omega) (by omega), hT 37 (by omega) (by omega), hn 0 (by omega), hn 1 (by omega), hn 2 (by omega), hn 3 (by omega), hn 4 (by omega), hn 5 (by omega), hn 6 (by omega)]
  exact h
theorem rK_congr (h : rK T n nk) (h2 : n' 2 = n 2) (h30 : T' 30 0 = T 30 0) (hT : ∀ q, 31 ≤ q → q ≤ 37 → ∀ c, c < nk → T' q c = T q c) (hn : ∀ i, 426 ≤ i → i < 426 + 7 * nk → n' i = n i) : rK T' n' nk := by
  obtain ⟨a, b, c, d⟩ := h
  exact ⟨by rw [h2]; exact a, b, by rw [h30]; exact c, fun q hq => rK1_congr (d q hq) (fun w a b => hT w a b q hq) (fun w hw => hn _ (by omega) (by omega))⟩
theorem rP_congr (h : rP T n np) (h3 : n' 3 = n 3) (h26 : T' 26 0 = T 26 0) (hT : ∀ q, 27 ≤ q → q ≤ 29 → ∀ c, c < np → T' q c = T q c) (hn : ∀ i, 447 ≤ i → i < 447 + 3 * np → n' i = n i) : rP T' n' np := by
  obtain ⟨a, b, c, d⟩ := h
  refine ⟨by rw [h3]; exact a, b, by rw [h26]; exact c, fun q hq => ?_⟩
  rw [hT 27 (by omega) (by omega) q hq, hT 28 (by omega) (by omega) q hq, hT 29 (by omega) (by omega) q hq, hn _ (by omega) (by omega), hn _ (by omega) (by omega), hn _ (by omega) (by omega)]
  exact d q hq
theorem rS_congr (h : rS T n dy) (h0 : T' 0 0 = T 0 0) (h1 : T' 0 1 = T 0 1) (h2 : T' 0 2 = T 0 2) (h4 : n' 4 = n 4) (h5 : n' 5 = n 5) (h6 : n' 6 = n 6) : rS T' n' dy := by
  unfold rS at h ⊢
  rw [h0, h1, h2, h4, h5, h6]
  exact h
theorem rSum_congr {w : Nat} (hw : w < 14) (hn : ∀ i, 90 ≤ i → i < 90 + 14 * nh → n' i = n i) : rSum n' nh w = rSum n nh w := sI_congr (fun i hi => hn _ (by omega) (by omega))
theorem rA_congr (h : rA T n nh) (hT : ∀ j, j < 6 → T' 1 j = T 1 j) (hn : ∀ w, 6 ≤ w → w ≤ 10 → rSum n' nh w = rSum n nh w) : rA T' n' nh := by
  unfold rA at h ⊢
  rw [hT 0 (by omega), hT 1 (by omega), hT 2 (by omega), hT 3 (by omega), hT 4 (by omega), hT 5 (by omega), hn 6 (by omega) (by omega), hn 7 (by omega) (by omega), hn 8 (by omega) (by omega), hn 9 (by omega) (by omega), hn 10 (by omega) (by omega)]
  exact h
theorem RT.eqT (h : RT T n nc nh nk np dy ah pl) (he : eqT T T' nc nh nk np) : RT T' n nc nh nk np dy ah pl := by
  obtain ⟨a, b, c, d, e, f, g, z⟩ := h
  obtain ⟨⟨h0, h1, h2⟩, hA, ⟨hc0, hc⟩, ⟨hh0, hh⟩, ⟨hp0, hp⟩, ⟨hk0, hk⟩⟩ := he
  exact ⟨rC_congr a rfl (fun _ _ _ => rfl) hc0 hc, rH_congr b rfl hh0 (fun _ _ _ => rfl) (fun q a b => hh q a (by omega)), fun k hk => by rw [hh 25 (by omega) (by omega) k hk]; exact c k hk, rK_congr d rfl hk0 hk (fun _ _ _ => rfl), rP_congr e rfl hp0 hp (fun _ _ _ => rfl), rS_congr f h0 h1 h2 rfl rfl rfl, rA_congr g hA (fun _ _ _ => rfl), z⟩
end REL
