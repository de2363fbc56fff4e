/-! THE PURE PART. 24: what a day does to the row of numbers -/
noncomputable def cif {α : Type} (P : Prop) (a b : α) : α := @ite α P (Classical.propDecidable P) a b
theorem cif_t {α : Type} {P : Prop} {a b : α} (h : P) : cif P a b = a := if_pos h
theorem cif_f {α : Type} {P : Prop} {a b : α} (h : ¬ P) : cif P a b = b := if_neg h
def un (n : Nat → Int32) (i : Nat) (v : Int32) : Nat → Int32 := fun j => if j = i then v else n j
theorem un_i {n : Nat → Int32} {i : Nat} {v : Int32} : un n i v i = v := if_pos rfl
theorem un_j {n : Nat → Int32} {i j : Nat} {v : Int32} (h : j ≠ i) : un n i v j = n j := if_neg h
theorem un_u {m : z_S} {i : Nat} {v : Int32} : z_u m 1 i v 1 = un (m 1) i v := by
  funext j
  by_cases h : j = i
  · rw [h, u_i, un_i]
  · rw [u_j h, un_j h]
section DAYDEF
variable (n : Nat → Int32) (np : Nat) (d : Int32) (R : Nat → Nat)
/-- house h is carried by c -/
def hAct (c h : Nat) : Prop := n (90 + 14 * h + 3) = nI c ∧ ¬ pz n np (nI h) d ∧ wtN n d h ≤ lmN n c
/-- the biscuits of c ahead of the k-th house -/
noncomputable def k2 (c : Nat) : Nat → Int32
  | 0 => n (426 + 7 * c + 2)
  | k + 1 => cif (hAct n np d c (R k) ∧ oX n (R k) d ∧ k2 c k ≠ 0) (k2 c k + -1) (k2 c k)
def hDlv (c k : Nat) : Prop := hAct n np d c (R k) ∧ ¬ (oX n (R k) d ∧ k2 n np d R c k = 0)
/-- the papers that c brought so far -/
noncomputable def k6 (c : Nat) : Nat → Int32
  | 0 => n (426 + 7 * c + 6)
  | k + 1 => cif (hDlv n np d R c k) (k6 c k + n (90 + 14 * R k + 1)) (k6 c k)
/-- the numbers of the k-th house behind the day -/
noncomputable def bF (k w : Nat) : Int32 :=
  cif (pz n np (nI (R k)) d) (if w = 7 then n (90 + 14 * R k + 7) + n (90 + 14 * R k + 1) else n (90 + 14 * R k + w)) <|
  cif (n (90 + 14 * R k + 3) = -1) (if w = 10 then n (90 + 14 * R k + 10) + n (90 + 14 * R k + 1) else if w = 11 ∨ w = 12 then n (90 + 14 * R k + w) + 1 else n (90 + 14 * R k + w)) <|
  cif (lmN n (n (90 + 14 * R k + 3)).toNatClampNeg < wtN n d (R k)) (if w = 9 then n (90 + 14 * R k + 9) + n (90 + 14 * R k + 1) else if w = 11 ∨ w = 12 then n (90 + 14 * R k + w) + 1 else n (90 + 14 * R k + w)) <|
  cif (oX n (R k) d ∧ k2 n np d R (n (90 + 14 * R k + 3)).toNatClampNeg k = 0) (if w = 8 then n (90 + 14 * R k + 8) + n (90 + 14 * R k + 1) else if w = 11 ∨ w = 12 then n (90 + 14 * R k + w) + 1 else n (90 + 14 * R k + w)) <|
  if w = 6 then n (90 + 14 * R k + 6) + n (90 + 14 * R k + 1) else if w = 13 then 1 else n (90 + 14 * R k + w)
/-- a row of numbers in the midst of a day: S the houses that are done, K how far each carrier is, tr the carriers whose trips are counted -/
def PR (nh : Nat) (W : Nat → Int32 × Int32) (Y : Nat → Int32) (S : Nat → Prop) (K : Nat → Nat) (tr : Nat → Prop) : Prop :=
  stA n Y ∧ (∀ k, k < nh → ∀ w, 6 ≤ w → w < 14 → (S k → Y (90 + 14 * R k + w) = bF n np d R k w) ∧ (¬ S k → Y (90 + 14 * R k + w) = n (90 + 14 * R k + w))) ∧
  (∀ h, nh ≤ h → h < 24 → ∀ w, w < 14 → Y (90 + 14 * h + w) = n (90 + 14 * h + w)) ∧
  ∀ c, c < 3 → Y (426 + 7 * c + 2) = k2 n np d R c (K c) ∧ Y (426 + 7 * c + 6) = k6 n np d R c (K c) ∧ Y (426 + 7 * c + 5) = n (426 + 7 * c + 5) ∧
    (tr c → Y (426 + 7 * c + 3) = n (426 + 7 * c + 3) + (W c).1 ∧ Y (426 + 7 * c + 4) = n (426 + 7 * c + 4) + (W c).2) ∧ (¬ tr c → Y (426 + 7 * c + 3) = n (426 + 7 * c + 3) ∧ Y (426 + 7 * c + 4) = n (426 + 7 * c + 4))
end DAYDEF
section DAY1
variable {n : Nat → Int32} {np : Nat} {d : Int32} {R : Nat → Nat} {nh : Nat} {W : Nat → Int32 × Int32}
theorem PR.rf {S : Nat → Prop} {K : Nat → Nat} {tr : Nat → Prop} (hS : ∀ k, k < nh → ¬ S k) (hK : ∀ c, c < 3 → K c = 0) (ht : ∀ c, c < 3 → ¬ tr c) : PR n np d R nh W n S K tr :=
  ⟨stA.rf, fun k hk w _ _ => ⟨fun h => absurd h (hS k hk), fun _ => rfl⟩, fun _ _ _ _ _ => rfl, fun c hc => ⟨by rw [hK c hc]; rfl, by rw [hK c hc]; rfl, rfl, fun h => absurd h (ht c hc), fun _ => ⟨rfl, rfl⟩⟩⟩
/-- two such rows are one -/
theorem PR.uniq {Y Y' : Nat → Int32} {S : Nat → Prop} {K : Nat → Nat} {tr : Nat → Prop} (h : PR n np d R nh W Y S K tr) (h' : PR n np d R nh W Y' S K tr) (hR : ∀ k, k < nh → R k < nh) (hs : ∀ h, h < nh → ∃ k, k < nh ∧ R k = h) (h24 : nh ≤ 24) : ∀ j, j < 537 → Y' j = Y j := by
  obtain ⟨a, b, c, e⟩ := h
  obtain ⟨a', b', c', e'⟩ := h'
  intro j hj
  by_cases j1 : j < 90
  · rw [a'.1 j j1, a.1 j j1]
  · by_cases j2 : j < 426
    · obtain ⟨h, w, hw, hh, ej⟩ : ∃ h w, w < 14 ∧ h < 24 ∧ j = 90 + 14 * h + w := ⟨(j - 90) / 14, (j - 90) % 14, Nat.mod_lt _ (by omega), by omega, by omega⟩
      rw [ej]
      by_cases q : h < nh
      · by_cases q2 : w < 6
        · rw [a'.2.1 h w hh q2, a.2.1 h w hh q2]
        · obtain ⟨k, hk, ek⟩ := hs h q
          obtain ⟨u1, u2⟩ := b k hk w (by omega) hw
          obtain ⟨v1, v2⟩ := b' k hk w (by omega) hw
          rw [← ek]
          by_cases s : S k
          · rw [v1 s, u1 s]
          · rw [v2 s, u2 s]
      · rw [c' h (by omega) hh w hw, c h (by omega) hh w hw]
    · by_cases j3 : j < 447
      · obtain ⟨k, w, hw, hk, ej⟩ : ∃ k w, w < 7 ∧ k < 3 ∧ j = 426 + 7 * k + w := ⟨(j - 426) / 7, (j - 426) % 7, Nat.mod_lt _ (by omega), by omega, by omega⟩
        obtain ⟨u2, u6, u5, ut, uf⟩ := e k hk
        obtain ⟨v2, v6, v5, vt, vf⟩ := e' k hk
        rw [ej]
        have hw7 : w = 0 ∨ w = 1 ∨ w = 2 ∨ w = 3 ∨ w = 4 ∨ w = 5 ∨ w = 6 := by omega
        rcases hw7 with rfl | rfl | rfl | rfl | rfl | rfl | rfl
        · rw [a'.2.2.1 k 0 hk (by omega), a.2.2.1 k 0 hk (by omega)]
        · rw [a'.2.2.1 k 1 hk (by omega), a.2.2.1 k 1 hk (by omega)]
        · rw [u2, v2]
        · by_cases s : tr k
          · rw [(ut s).1, (vt s).1]
          · rw [(uf s).1, (vf s).1]
        · by_cases s : tr k
          · rw [(ut s).2, (vt s).2]
          · rw [(uf s).2, (vf s).2]
        · rw [u5, v5]
        · rw [u6, v6]
      · rw [a'.2.2.2 j (by omega) hj, a.2.2.2 j (by omega) hj]
/-- one house is done: c the carrier that has to do with it, 3: none -/
theorem PR.step {Y Y' : Nat → Int32} {S S' : Nat → Prop} {K K' : Nat → Nat} {tr : Nat → Prop} {k c : Nat} (h : PR n np d R nh W Y S K tr) (h24 : nh ≤ 24) (hk : k < nh) (hR : ∀ k, k < nh → R k < nh) (hi : ∀ j, j < nh → R j = R k → j = k)
    (hn : ∀ i, ¬ (90 + 14 * R k + 6 ≤ i ∧ i < 90 + 14 * R k + 14) → (c < 3 → i ≠ 426 + 7 * c + 2 ∧ i ≠ 426 + 7 * c + 6) → Y' i = Y i)
    (hb : ∀ w, 6 ≤ w → w < 14 → Y' (90 + 14 * R k + w) = bF n np d R k w) (hS : ∀ j, j < nh → j ≠ k → (S' j ↔ S j)) (hSk : S' k)
    (hc : c < 3 → Y' (426 + 7 * c + 2) = k2 n np d R c (K' c) ∧ Y' (426 + 7 * c + 6) = k6 n np d R c (K' c)) (hK : ∀ e, e < 3 → e ≠ c → k2 n np d R e (K' e) = k2 n np d R e (K e) ∧ k6 n np d R e (K' e) = k6 n np d R e (K e)) : PR n np d R nh W Y' S' K' tr := by
  obtain ⟨a, b, z, e⟩ := h
  have hRk := hR k hk
  refine ⟨⟨fun i hi => by rw [hn i (by omega) (by omega)]; exact a.1 i hi, fun h w hh hw => by rw [hn _ (by omega) (by omega)]; exact a.2.1 h w hh hw, fun q w hq hw => by rw [hn _ (by omega) (by omega)]; exact a.2.2.1 q w hq hw, fun i h1 h2 => by rw [hn i (by omega) (by omega)]; exact a.2.2.2 i h1 h2⟩, fun j hj w h1 h2 => ?_, fun h h1 h2 w hw => by rw [hn _ (by omega) (by omega)]; exact z h h1 h2 w hw, fun q hq => ?_⟩
  · by_cases e : j = k
    · rw [e]
      exact ⟨fun _ => hb w h1 h2, fun q => absurd hSk q⟩
    · have hne : R j ≠ R k := fun q => e (hi j hj q)
      have hRj := hR j hj
      rw [hn _ (by omega) (by omega), hS j hj e]
      exact b j hj w h1 h2
  · obtain ⟨u2, u6, u5, ut, uf⟩ := e q hq
    rw [hn (426 + 7 * q + 5) (by omega) (by omega), hn (426 + 7 * q + 3) (by omega) (by omega), hn (426 + 7 * q + 4) (by omega) (by omega)]
    by_cases e : q = c
    · subst e
      exact ⟨(hc hq).1, (hc hq).2, u5, ut, uf⟩
    · rw [hn (426 + 7 * q + 2) (by omega) (by omega), hn (426 + 7 * q + 6) (by omega) (by omega), (hK q hq e).1, (hK q hq e).2]
      exact ⟨u2, u6, u5, ut, uf⟩
theorem PR.imp {Y : Nat → Int32} {S S' : Nat → Prop} {K K' : Nat → Nat} {tr tr' : Nat → Prop} (h : PR n np d R nh W Y S K tr) (hS : ∀ j, j < nh → (S' j ↔ S j)) (hK : ∀ c, c < 3 → k2 n np d R c (K' c) = k2 n np d R c (K c) ∧ k6 n np d R c (K' c) = k6 n np d R c (K c)) (ht : ∀ c, c < 3 → (tr' c ↔ tr c)) : PR n np d R nh W Y S' K' tr' := by
  obtain ⟨a, b, z, e⟩ := h
  refine ⟨a, fun j hj w h1 h2 => by rw [hS j hj]; exact b j hj w h1 h2, z, fun c hc => ?_⟩
  rw [(hK c hc).1, (hK c hc).2, ht c hc]
  exact e c hc
/-- trips are counted -/
theorem PR.trips {Y Y' : Nat → Int32} {S : Nat → Prop} {K : Nat → Nat} {tr tr' : Nat → Prop} {c : Nat} (h : PR n np d R nh W Y S K tr) (hc : c < 3) (hn : ∀ i, i ≠ 426 + 7 * c + 3 → i ≠ 426 + 7 * c + 4 → Y' i = Y i) (h3 : Y' (426 + 7 * c + 3) = Y (426 + 7 * c + 3) + (W c).1) (h4 : Y' (426 + 7 * c + 4) = Y (426 + 7 * c + 4) + (W c).2)
    (h24 : nh ≤ 24) (hR : ∀ k, k < nh → R k < nh) (h0 : ¬ tr c) (h1 : tr' c) (ht : ∀ e, e < 3 → e ≠ c → (tr' e ↔ tr e)) : PR n np d R nh W Y' S K tr' := by
  obtain ⟨a, b, z, e⟩ := h
  refine ⟨⟨fun i hi => by rw [hn i (by omega) (by omega)]; exact a.1 i hi, fun h w hh hw => by rw [hn _ (by omega) (by omega)]; exact a.2.1 h w hh hw, fun q w hq hw => by rw [hn _ (by omega) (by omega)]; exact a.2.2.1 q w hq hw, fun i h1 h2 => by rw [hn i (by omega) (by omega)]; exact a.2.2.2 i h1 h2⟩, fun j hj w h1 h2 => ?_, fun h h1 h2 w hw => by rw [hn _ (by omega) (by omega)]; exact z h h1 h2 w hw, fun q hq => ?_⟩
  · have hRj := hR j hj
    rw [hn _ (by omega) (by omega)]
    exact b j hj w h1 h2
  · obtain ⟨u2, u6, u5, ut, uf⟩ := e q hq
    rw [hn (426 + 7 * q + 5) (by omega) (by omega), hn (426 + 7 * q + 2) (by omega) (by omega), hn (426 + 7 * q + 6) (by omega) (by omega)]
    refine ⟨u2, u6, u5, ?_⟩
    by_cases e : q = c
    · subst e
      rw [h3, h4, (uf h0).1, (uf h0).2]
      exact ⟨fun _ => ⟨rfl, rfl⟩, fun q => absurd h1 q⟩
    · rw [hn (426 + 7 * q + 3) (by omega) (by omega), hn (426 + 7 * q + 4) (by omega) (by omega), ht q hq e]
      exact ⟨ut, uf⟩
theorem sI_pt {f g : Nat → Int32} {p : Nat} {v : Int32} (h0 : g p = f p + v) (h : ∀ i, i ≠ p → g i = f i) : ∀ {m : Nat}, sI g m = if p < m then sI f m + v else sI f m
  | 0 => rfl
  | m + 1 => by
    simp only [sI]
    rw [sI_pt h0 h (m := m)]
    by_cases e : m = p
    · subst e
      rw [if_neg (Nat.lt_irrefl _), if_pos (by omega), h0, Int32.add_assoc]
    · by_cases q : p < m
      · rw [if_pos q, if_pos (by omega), h m e, Int32.add_assoc, Int32.add_comm v, Int32.add_assoc]
      · rw [if_neg q, if_neg (by omega), h m e]
theorem rSum_pt {n' : Nat → Int32} {h w : Nat} {v : Int32} (hh : h < nh) (h0 : n' (90 + 14 * h + w) = n (90 + 14 * h + w) + v) (hn : ∀ i, i ≠ h → n' (90 + 14 * i + w) = n (90 + 14 * i + w)) : rSum n' nh w = rSum n nh w + v := by
  unfold rSum
  rw [sI_pt (f := fun h => n (90 + 14 * h + w)) (g := fun h => n' (90 + 14 * h + w)) (p := h) h0 hn, if_pos hh]
theorem i_lc (a b c : Int32) : a + (b + c) = b + (a + c) := by rw [← Int32.add_assoc, Int32.add_comm a, Int32.add_assoc]
theorem rA_step {T T' : z_S} {n' : Nat → Int32} {f : Nat} {p : Int32} (hA : rA T n nh) (h0 : T' 1 0 = T 1 0 + p) (f1 : 1 ≤ f) (f5 : f ≤ 5) (hf : T' 1 f = T 1 f + p) (ho : ∀ j, 1 ≤ j → j ≠ f → T' 1 j = T 1 j) (hs : rSum n' nh (5 + f) = rSum n nh (5 + f) + p) (hso : ∀ w, w ≠ 5 + f → 6 ≤ w → w ≤ 10 → rSum n' nh w = rSum n nh w) : rA T' n' nh := by
  obtain ⟨a0, a1, a2, a3, a4, a5⟩ := hA
  unfold rA
  have e5 : f = 1 ∨ f = 2 ∨ f = 3 ∨ f = 4 ∨ f = 5 := by omega
  rcases e5 with rfl | rfl | rfl | rfl | rfl
  · rw [h0, hf, ho 2 (by omega) (by omega), ho 3 (by omega) (by omega), ho 4 (by omega) (by omega), ho 5 (by omega) (by omega), show rSum n' nh 6 = rSum n nh 6 + p from hs, hso 7 (by omega) (by omega) (by omega), hso 8 (by omega) (by omega) (by omega), hso 9 (by omega) (by omega) (by omega), hso 10 (by omega) (by omega) (by omega), a0, a1]
    refine ⟨?_, rfl, a2, a3, a4, a5⟩
    simp only [Int32.add_assoc, Int32.add_comm, i_lc]
  · rw [h0, hf, ho 1 (by omega) (by omega), ho 3 (by omega) (by omega), ho 4 (by omega) (by omega), ho 5 (by omega) (by omega), show rSum n' nh 7 = rSum n nh 7 + p from hs, hso 6 (by omega) (by omega) (by omega), hso 8 (by omega) (by omega) (by omega), hso 9 (by omega) (by omega) (by omega), hso 10 (by omega) (by omega) (by omega), a0, a2]
    refine ⟨?_, a1, rfl, a3, a4, a5⟩
    simp only [Int32.add_assoc, Int32.add_comm, i_lc]
  · rw [h0, hf, ho 1 (by omega) (by omega), ho 2 (by omega) (by omega), ho 4 (by omega) (by omega), ho 5 (by omega) (by omega), show rSum n' nh 8 = rSum n nh 8 + p from hs, hso 6 (by omega) (by omega) (by omega), hso 7 (by omega) (by omega) (by omega), hso 9 (by omega) (by omega) (by omega), hso 10 (by omega) (by omega) (by omega), a0, a3]
    refine ⟨?_, a1, a2, rfl, a4, a5⟩
    simp only [Int32.add_assoc, Int32.add_comm, i_lc]
  · rw [h0, hf, ho 1 (by omega) (by omega), ho 2 (by omega) (by omega), ho 3 (by omega) (by omega), ho 5 (by omega) (by omega), show rSum n' nh 9 = rSum n nh 9 + p from hs, hso 6 (by omega) (by omega) (by omega), hso 7 (by omega) (by omega) (by omega), hso 8 (by omega) (by omega) (by omega), hso 10 (by omega) (by omega) (by omega), a0, a4]
    refine ⟨?_, a1, a2, a3, rfl, a5⟩
    simp only [Int32.add_assoc, Int32.add_comm, i_lc]
  · rw [h0, hf, ho 1 (by omega) (by omega), ho 2 (by omega) (by omega), ho 3 (by omega) (by omega), ho 4 (by omega) (by omega), show rSum n' nh 10 = rSum n nh 10 + p from hs, hso 6 (by omega) (by omega) (by omega), hso 7 (by omega) (by omega) (by omega), hso 8 (by omega) (by omega) (by omega), hso 9 (by omega) (by omega) (by omega), a0, a5]
    refine ⟨?_, a1, a2, a3, a4, rfl⟩
    simp only [Int32.add_assoc, Int32.add_comm, i_lc]
end DAY1
/-- the relation of town and row when the first i houses of the row of houses have had their papers -/
def RB (T : z_S) (Y : Nat → Int32) (nc nh nk np dy : Nat) (ah pl : Nat → Nat) (i : Nat) : Prop :=
  rC T Y nc ah ∧ mH Y nc nh pl ∧ T 11 0 = nI nh ∧ (∀ k, k < nh → (k < i → rH1 T Y nk (dy + 1) (tR ah pl nc nh k)) ∧ (¬ k < i → rH1 T Y nk dy (tR ah pl nc nh k))) ∧ rO T ah pl nc nh ∧ rK T Y nk ∧ rP T Y np ∧ rS T Y dy ∧ rA T Y nh ∧ rZ Y nh nk
section RBS
variable {T T' : z_S} {Y Y' : Nat → Int32} {nc nh nk np dy : Nat} {ah pl : Nat → Nat}
theorem RB.upd {i c : Nat} (h : RB T Y nc nh nk np dy ah pl i) (hi : i < nh)
    (hT : ∀ q j, q ≠ 1 → ¬ (18 ≤ q ∧ q ≤ 24 ∧ j = tR ah pl nc nh i) → (c < nk → ¬ ((q = 33 ∨ q = 37) ∧ j = c)) → T' q j = T q j)
    (hn : ∀ j, ¬ (90 + 14 * tR ah pl nc nh i + 6 ≤ j ∧ j < 90 + 14 * tR ah pl nc nh i + 14) → (c < nk → j ≠ 426 + 7 * c + 2 ∧ j ≠ 426 + 7 * c + 6) → Y' j = Y j)
    (hc : c < nk → rK1 T' Y' c) (hh : rH1 T' Y' nk (dy + 1) (tR ah pl nc nh i)) (hA : rA T' Y' nh) : RB T' Y' nc nh nk np dy ah pl (i + 1) := by
  obtain ⟨a, b, b11, b1, o, k, p, s, -, z1, z2⟩ := h
  have h20 := a.1.2.2.1
  have h24 := b.2.1
  have h3 := k.2.1
  have h30 := p.2.1
  have hpl : ∀ h, h < nh → pl h < nc := fun h hh => (b.2.2 h hh).2
  have hR := tR_lt (ah := ah) a.1.2.1 a.1.2.2.2.1 hpl hi
  have hRj : ∀ j, j < nh → tR ah pl nc nh j < nh := fun j hj => tR_lt a.1.2.1 a.1.2.2.2.1 hpl hj
  have hinj : ∀ j, j < nh → tR ah pl nc nh j = tR ah pl nc nh i → j = i := fun j hj e => tR_inj a.1.2.1 a.1.2.2.2.1 hpl hj hi e
  refine ⟨rC_congr a (hn 0 (by omega) (by omega)) (fun j h1 h2 => hn j (by omega) (by omega)) (hT 2 0 (by omega) (by omega) (by omega)) (fun q x y j hj => hT q j (by omega) (by omega) (by omega)), mH_congr b (hn 1 (by omega) (by omega)) (fun j hj => hn _ (by omega) (by omega)), by rw [hT 11 0 (by omega) (by omega) (by omega)]; exact b11, fun j hj => ?_,
    fun j hj => by rw [hT 25 j (by omega) (by omega) (by omega)]; exact o j hj, ⟨by rw [hn 2 (by omega) (by omega)]; exact k.1, h3, by rw [hT 30 0 (by omega) (by omega) (by omega)]; exact k.2.2.1, fun e he => ?_⟩,
    rP_congr p (hn 3 (by omega) (by omega)) (hT 26 0 (by omega) (by omega) (by omega)) (fun q x y j hj => hT q j (by omega) (by omega) (by omega)) (fun j h1 h2 => hn j (by omega) (by omega)),
    rS_congr s (hT 0 0 (by omega) (by omega) (by omega)) (hT 0 1 (by omega) (by omega) (by omega)) (hT 0 2 (by omega) (by omega) (by omega)) (hn 4 (by omega) (by omega)) (hn 5 (by omega) (by omega)) (hn 6 (by omega) (by omega)), hA,
    fun j h1 h2 => by rw [hn j (by omega) (by omega)]; exact z1 j h1 h2, fun j h1 h2 => by rw [hn j (by omega) (by omega)]; exact z2 j h1 h2⟩
  · by_cases e : j = i
    · rw [e]
      exact ⟨fun _ => hh, fun q => absurd (Nat.lt_succ_self i) q⟩
    · have hne : tR ah pl nc nh j ≠ tR ah pl nc nh i := fun q => e (hinj j hj q)
      have hRj' := hRj j hj
      obtain ⟨u, v⟩ := b1 j hj
      refine ⟨fun q => rH1_congr (u (by omega)) (fun q x y => hT q _ (by omega) (by omega) (by omega)) (fun w hw => hn _ (by omega) (by omega)), fun q => rH1_congr (v (by omega)) (fun q x y => hT q _ (by omega) (by omega) (by omega)) (fun w hw => hn _ (by omega) (by omega))⟩
  · by_cases q : e = c
    · subst q
      exact hc he
    · exact rK1_congr (k.2.2.2 e he) (fun w x y => hT w e (by omega) (by omega) (by omega)) (fun w hw => hn _ (by omega) (by omega))
end RBS
