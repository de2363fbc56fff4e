/-! longs; a method that makes an array of ints; the method that reads the script -/
section ZL
variable {E : z_En} {G : z_G} {A : Nat → Prop} {cc : ByteArray} {nL : Nat} {own : String} {R0 : Room} {lay lay' : Nat → z_K} {N : Nat} {ad : Nat → Nat} {pc : Nat} {lv : List (Nat × Value)} {st : List Value} {σ : z_S}
theorem z_lload_n (B : zB E G A cc nL own R0) (q : Nat) {k : Fin 4} {i : Nat} {x : Int64} (hd : decode cc pc = .ok (.lload_n k, 1)) (hi : (k : Nat) = i) (hl : lv[q]? = some (i, .long x)) (kk : ZW E G A nL lay N ad (pc + 1) lv (.long x :: st) σ) : ZW E G A nL lay N ad pc lv st σ := by
  obtain ⟨p, l, e, R, s, m, args, below, meth, c, Q, cz, sz⟩ := E
  obtain ⟨hx, hb, hml, hown, hts, hK, hA, hR, hcz, hsz⟩ := B
  intro H locs ls hP hD hS hl'
  exact lv_lload_n hx hb hd hi (lv_at hl' q hl) (kk H locs ls hP hD hS hl')
theorem z_lload (B : zB E G A cc nL own R0) (q : Nat) {i : Nat} {x : Int64} (hd : decode cc pc = .ok (.lload i, 2)) (hl : lv[q]? = some (i, .long x)) (kk : ZW E G A nL lay N ad (pc + 2) lv (.long x :: st) σ) : ZW E G A nL lay N ad pc lv st σ := by
  obtain ⟨p, l, e, R, s, m, args, below, meth, c, Q, cz, sz⟩ := E
  obtain ⟨hx, hb, hml, hown, hts, hK, hA, hR, hcz, hsz⟩ := B
  intro H locs ls hP hD hS hl'
  exact lv_lload hx hb hd (lv_at hl' q hl) (kk H locs ls hP hD hS hl')
theorem z_lstore_n (B : zB E G A cc nL own R0) (lv' : List (Nat × Value)) {k : Fin 4} {i : Nat} {x y : Int64} (hd : decode cc pc = .ok (.lstore_n k, 1)) (hi : (k : Nat) = i) (hn : i + 1 < nL) (he : y = x) (hl : (i, Value.long y) :: lv.filter (fun q => !(q.1 == i) && (!(q.1 == i + 1) && !(q.1 + 1 == i && q.2.category == 2))) = lv') (kk : ZW E G A nL lay N ad (pc + 1) lv' st σ) : ZW E G A nL lay N ad pc lv (.long x :: st) σ := by
  obtain ⟨p, l, e, R, s, m, args, below, meth, c, Q, cz, sz⟩ := E
  obtain ⟨hx, hb, hml, hown, hts, hK, hA, hR, hcz, hsz⟩ := B
  intro H locs ls hP hD hS hl'
  subst he; exact lv_lstore_n hx hb hd hi hl' hn hl (fun ls hl2 => kk H locs ls hP hD hS hl2)
theorem z_lstore (B : zB E G A cc nL own R0) (lv' : List (Nat × Value)) {i : Nat} {x y : Int64} (hd : decode cc pc = .ok (.lstore i, 2)) (hn : i + 1 < nL) (he : y = x) (hl : (i, Value.long y) :: lv.filter (fun q => !(q.1 == i) && (!(q.1 == i + 1) && !(q.1 + 1 == i && q.2.category == 2))) = lv') (kk : ZW E G A nL lay N ad (pc + 2) lv' st σ) : ZW E G A nL lay N ad pc lv (.long x :: st) σ := by
  obtain ⟨p, l, e, R, s, m, args, below, meth, c, Q, cz, sz⟩ := E
  obtain ⟨hx, hb, hml, hown, hts, hK, hA, hR, hcz, hsz⟩ := B
  intro H locs ls hP hD hS hl'
  subst he; exact lv_lstore hx hb hd hl' hn hl (fun ls hl2 => kk H locs ls hP hD hS hl2)
theorem z_ladd (B : zB E G A cc nL own R0) {x y : Int64} (hd : decode cc pc = .ok (.ladd, 1)) (kk : ZW E G A nL lay N ad (pc + 1) lv (.long (x + y) :: st) σ) : ZW E G A nL lay N ad pc lv (.long y :: .long x :: st) σ := by
  obtain ⟨p, l, e, R, s, m, args, below, meth, c, Q, cz, sz⟩ := E
  obtain ⟨hx, hb, hml, hown, hts, hK, hA, hR, hcz, hsz⟩ := B
  intro H locs ls hP hD hS hl'
  exact lv_ladd hx hb hd (kk H locs ls hP hD hS hl')
theorem z_lmul (B : zB E G A cc nL own R0) {x y : Int64} (hd : decode cc pc = .ok (.lmul, 1)) (kk : ZW E G A nL lay N ad (pc + 1) lv (.long (x * y) :: st) σ) : ZW E G A nL lay N ad pc lv (.long y :: .long x :: st) σ := by
  obtain ⟨p, l, e, R, s, m, args, below, meth, c, Q, cz, sz⟩ := E
  obtain ⟨hx, hb, hml, hown, hts, hK, hA, hR, hcz, hsz⟩ := B
  intro H locs ls hP hD hS hl'
  exact lv_lmul hx hb hd (kk H locs ls hP hD hS hl')
theorem z_lcmp (B : zB E G A cc nL own R0) {x y : Int64} (hd : decode cc pc = .ok (.lcmp, 1)) (kk : ZW E G A nL lay N ad (pc + 1) lv (.int (lg_cmp x y) :: st) σ) : ZW E G A nL lay N ad pc lv (.long y :: .long x :: st) σ := by
  obtain ⟨p, l, e, R, s, m, args, below, meth, c, Q, cz, sz⟩ := E
  obtain ⟨hx, hb, hml, hown, hts, hK, hA, hR, hcz, hsz⟩ := B
  intro H locs ls hP hD hS hl'
  exact W.lcmp hx hb hd (kk H locs ls hP hD hS hl')
theorem z_i2l (B : zB E G A cc nL own R0) {x : Int32} (hd : decode cc pc = .ok (.i2l, 1)) (kk : ZW E G A nL lay N ad (pc + 1) lv (.long (Int32.toInt64 x) :: st) σ) : ZW E G A nL lay N ad pc lv (.int x :: st) σ := by
  obtain ⟨p, l, e, R, s, m, args, below, meth, c, Q, cz, sz⟩ := E
  obtain ⟨hx, hb, hml, hown, hts, hK, hA, hR, hcz, hsz⟩ := B
  intro H locs ls hP hD hS hl'
  exact lv_i2l hx hb hd rfl (kk H locs ls hP hD hS hl')
theorem z_ishr (B : zB E G A cc nL own R0) {x y : Int32} (hd : decode cc pc = .ok (.ishr, 1)) (kk : ZW E G A nL lay N ad (pc + 1) lv (.int (x >>> (y &&& 31)) :: st) σ) : ZW E G A nL lay N ad pc lv (.int y :: .int x :: st) σ := by
  obtain ⟨p, l, e, R, s, m, args, below, meth, c, Q, cz, sz⟩ := E
  obtain ⟨hx, hb, hml, hown, hts, hK, hA, hR, hcz, hsz⟩ := B
  intro H locs ls hP hD hS hl'
  exact lv_ishr hx hb hd (kk H locs ls hP hD hS hl')
theorem z_ior (B : zB E G A cc nL own R0) {x y : Int32} (hd : decode cc pc = .ok (.ior, 1)) (kk : ZW E G A nL lay N ad (pc + 1) lv (.int (x ||| y) :: st) σ) : ZW E G A nL lay N ad pc lv (.int y :: .int x :: st) σ := by
  obtain ⟨p, l, e, R, s, m, args, below, meth, c, Q, cz, sz⟩ := E
  obtain ⟨hx, hb, hml, hown, hts, hK, hA, hR, hcz, hsz⟩ := B
  intro H locs ls hP hD hS hl'
  exact lv_ior hx hb hd (kk H locs ls hP hD hS hl')
theorem z_ldc2 (B : zB E G A cc nL own R0) {index : Nat} {v : Int64} (hc : (Jvm.Cond.constantLong own index v) ∈ wsL_law) (hd : decode cc pc = .ok (.ldc2_w index, 3)) (kk : ZW E G A nL lay N ad (pc + 3) lv (.long v :: st) σ) : ZW E G A nL lay N ad pc lv st σ := by
  obtain ⟨p, l, e, R, s, m, args, below, meth, c, Q, cz, sz⟩ := E
  obtain ⟨hx, hb, hml, hown, hts, hK, hA, hR, hcz, hsz⟩ := B
  intro H locs ls hP hD hS hl'
  exact lv_ldc2 hx hb hown (hts _ hc) hd (kk H locs ls hP hD hS hl')
theorem z_ldci (B : zB E G A cc nL own R0) {index : Nat} {v : Int32} (hc : (Jvm.Cond.constant own index v) ∈ wsL_law) (hd : decode cc pc = .ok (.ldc index, 2)) (kk : ZW E G A nL lay N ad (pc + 2) lv (.int v :: st) σ) : ZW E G A nL lay N ad pc lv st σ := by
  obtain ⟨p, l, e, R, s, m, args, below, meth, c, Q, cz, sz⟩ := E
  obtain ⟨hx, hb, hml, hown, hts, hK, hA, hR, hcz, hsz⟩ := B
  intro H locs ls hP hD hS hl'
  exact lv_ldc hx hb hown (hts _ hc) hd (kk H locs ls hP hD hS hl')
end ZL
def z_QL (lay : Nat → z_K) (N : Nat) (r : Int64) (σ' : z_S) : z_Qk := fun G ad A => va_Ql (fun (r' : Int64) (u : z_S) => r' = r ∧ u = σ') (fun u t => z_P G lay N ad u t.heap) A
theorem z_headL {y : MethodName} {c : ByteArray} {nL : Nat} {fr lo : Nat} {lay : Nat → z_K} {N : Nat} {As : (Nat → Nat) → List Value} {σ σ' : z_S} {r : Int64} (own : String) (hpl : plainName y.cls = true) (hcls : y.cls = own) (hlen : ∀ ad, (lg_sl (As ad)).length ≤ nL)
    (body : ∀ (E : z_En) (G : z_G) (A : Nat → Prop) (ad : Nat → Nat), zB E G A c nL own (z_rm fr lo) → (∀ (pc : Nat) (lv : List (Nat × Value)) (v : Int64) (s : z_S), v = r → s = σ' → decode c pc = .ok (.lreturn, 1) → ZW E G A nL lay N ad pc lv [.long v] s) → ZW E G A nL lay N ad 0 (lv_args 0 (As ad)) [] σ) :
    zMet y c nL (some .long) fr lo lay N As σ (z_QL lay N r σ') := by
  refine z_head0 hpl hcls hlen (fun E G A ad B hE => body E G A ad B ?_)
  rintro pc lv v s0 rfl rfl hd
  obtain ⟨p, l, e, R, s, m, args, below, meth, cd, Q, cz, sz⟩ := E
  obtain ⟨hr, hlk, hQ⟩ := hE _ _ _ _ _ _ _ _ _ _ _ _ _ rfl
  obtain ⟨hx, hb, hml, hown, hts, hK, hA, hR, hcz, hsz⟩ := B
  subst hQ
  intro H locs ls hP hD hS hl
  exact W.lret hx hb hr (fun t ht hW => ⟨⟨v, s0, rfl, ⟨rfl, rfl⟩, by show z_P G lay N ad _ t.heap; rw [ht]; exact hP⟩, hS.F ht⟩) hS.2.2 hd hlk
theorem z_cL {E : z_En} {G : z_G} {A : Nat → Prop} {cc : ByteArray} {nL : Nat} {own : String} {R0 : Room} {lay lay' : Nat → z_K} {N N' : Nat} {ad : Nat → Nat} {ι κ : Nat → Nat} {b : Bool} {pc : Nat} {lv : List (Nat × Value)} {st0 st : List Value} {σ τ' : z_S} {r : Int64} (B : zB E G A cc nL own R0) (hr : zRun E G A nL lay N ad pc lv st0 σ st N' (fun k => ad (ι k)) (z_QL lay' N' r τ')) (hc : z_cut lay N lay' N' ι κ b = true) (hb : b = true → ∀ k, ι k = k) (kk : ZW E G A nL lay N ad (pc + 3) lv (.long r :: st) (z_m σ κ N' τ')) : ZW E G A nL lay N ad pc lv st0 σ := by
  obtain ⟨p, l, e, R, s, m, args, below, meth, c, Q, cz, sz⟩ := E
  obtain ⟨hx, hb0, hml, hown, hts, hK, hA, hR, hcz, hsz⟩ := B
  intro H locs ls hP hD hS hl
  have hAq : ∀ q, H.size ≤ q → A q := fun q h => hA q (Nat.le_trans hS.1 h)
  have hF := z_cutA (A := A) hc hD hAq
  obtain ⟨a, hrun⟩ := hr H locs ls hP hD hS hl
  exact va_calll hrun hS (fun q _ h => hF q h) hF (fun r' u t H1 locs1 ht hvm hw hB hz hk hS1 => by
    obtain ⟨rfl, rfl⟩ := hw
    rw [ht] at hB
    exact kk H1 locs1 ls (z_cutM hc hb hD hP hB hk) hD hS1 hl)
/-! a method that makes one array of ints -/
def z_at (E : z_En) (k n : Nat) : z_En :=
  match E with
  | (p, l, e, R, s, m, args, below, meth, c, Q, cz, sz) => (p, l, e, R, s, m, args, below, meth, c, Q, k, n)
def z_cs (E : z_En) (k n : Nat) : Prop :=
  match E with
  | (p, l, e, R, s, m, args, below, meth, c, Q, cz, sz) => cz = k ∧ sz = n
theorem z_at_cs {E : z_En} {k n : Nat} (h : z_cs E k n) : z_at E k n = E := by
  obtain ⟨p, l, e, R, s, m, args, below, meth, c, Q, cz, sz⟩ := E
  obtain ⟨rfl, rfl⟩ := h
  rfl
theorem z_atB {E : z_En} {G : z_G} {A : Nat → Prop} {cc : ByteArray} {nL : Nat} {own : String} {R0 : Room} {k n : Nat} (B : zB E G A cc nL own R0) (hk : k ≤ R0.cells) (hn : n ≤ R0.slots) : zB (z_at E k n) G A cc nL own R0 := by
  obtain ⟨p, l, e, R, s, m, args, below, meth, c, Q, cz, sz⟩ := E
  obtain ⟨hx, hb, hml, hown, hts, hK, hA, hR, hcz, hsz⟩ := B
  exact ⟨hx, hb, hml, hown, hts, hK, hA, hR, hk, hn⟩
theorem z_wid {E : z_En} {G : z_G} {A : Nat → Prop} {nL : Nat} {lay : Nat → z_K} {N : Nat} {ad : Nat → Nat} {pc : Nat} {lv : List (Nat × Value)} {st : List Value} {σ : z_S} {k n k' n' : Nat} (h1 : k ≤ k') (h2 : n ≤ n') (kk : ZW (z_at E k' n') G A nL lay N ad pc lv st σ) : ZW (z_at E k n) G A nL lay N ad pc lv st σ := by
  obtain ⟨p, l, e, R, s, m, args, below, meth, c, Q, cz, sz⟩ := E
  intro H locs ls hP hD hS hl
  exact W.widen h1 h2 (kk H locs ls hP hD hS hl)
abbrev z_rmN (fr lo mc ms : Nat) : Room := { frames := fr, cells := mc, slots := ms, locals := lo }
def zMetN (mc ms : Nat) (y : MethodName) (c : ByteArray) (nL : Nat) (ret : Option FieldType) (fr lo : Nat) (lay : Nat → z_K) (N : Nat) (As : (Nat → Nat) → List Value) (σ : z_S) (Qk : z_Qk) : Prop :=
  ∀ (l : Launch) (G : z_G) (ad : Nat → Nat) (sz : Nat), Met l y (z_ws y c nL ret) (z_rmN fr lo mc ms) (va_Pc (As ad) (z_Pre G lay N ad σ sz)) (Qk G ad (z_A N ad sz)) mc ms (z_A N ad sz)
theorem z_headIN {y : MethodName} {c : ByteArray} {nL : Nat} {ty : FieldType} {fr lo mc ms : Nat} {lay : Nat → z_K} {N : Nat} {As : (Nat → Nat) → List Value} {σ σ' : z_S} {r : Int32} (own : String) (hpl : plainName y.cls = true) (hcls : y.cls = own) (hlen : ∀ ad, (lg_sl (As ad)).length ≤ nL)
    (body : ∀ (E : z_En) (G : z_G) (A : Nat → Prop) (ad : Nat → Nat), zB E G A c nL own (z_rmN fr lo mc ms) → z_cs E 0 0 → (∀ (pc : Nat) (lv : List (Nat × Value)) (v : Int32) (s : z_S), v = r → s = σ' → narrow ty (.int v) = .int v → decode c pc = .ok (.ireturn, 1) → ZW E G A nL lay N ad pc lv [.int v] s) →
      (∀ (pc : Nat) (lv : List (Nat × Value)) (v : Int32) (s : z_S), v = r → s = σ' → narrow ty (.int v) = .int v → decode c pc = .ok (.ireturn, 1) → ZW (z_at E mc ms) G A nL lay N ad pc lv [.int v] s) → ZW E G A nL lay N ad 0 (lv_args 0 (As ad)) [] σ) :
    zMetN mc ms y c nL (some ty) fr lo lay N As σ (z_QI lay N r σ') := by
  intro l G ad sz
  refine Met.ofW (cc := c) (maxL := nL) (ret := some ty) hpl rfl ?_
  intro p e s m args below meth cd s₁ B hml hv
  obtain ⟨rfl, hsz, hP, hK, hD0⟩ := hv
  subst hsz
  have hown : s.vm.findClass own = some m.cls := hcls ▸ findClass_of_methodNamed B.named
  have hts := atoms_spec (ws := z_ws y c nL (some ty)) B.pre
  have hl := lv_entry (As ad) (n := nL) (hlen ad)
  have hend : ∀ (k n : Nat), k ≤ mc → n ≤ ms → ∀ (pc : Nat) (lv : List (Nat × Value)) (v : Int32) (s0 : z_S), v = r → s0 = σ' → narrow ty (.int v) = .int v → decode c pc = .ok (.ireturn, 1) → ZW (p, l, e, (headSpec (z_ws y c nL (some ty)) (z_rmN fr lo mc ms)).room, s, m, (As ad).toArray, below, meth, cd, MQ below (z_QI lay N r σ' G ad (z_A N ad s.heap.size)) (As ad).toArray s mc ms (z_A N ad s.heap.size), k, n) G (z_A N ad s.heap.size) nL lay N ad pc lv [.int v] s0 := by
    rintro k n hk hn pc lv v s0 rfl rfl hnar hd
    intro H locs ls hP hD hS hl
    refine W.widen hk hn ?_
    exact W.zret B.exec B.bytes B.returns hnar (fun t ht hW => ⟨⟨v, s0, rfl, ⟨rfl, rfl⟩, by show z_P G lay N ad _ t.heap; rw [ht]; exact hP⟩, hS.F ht⟩) hS.2.2 hd B.notSynchronized
  have key := body (p, l, e, (headSpec (z_ws y c nL (some ty)) (z_rmN fr lo mc ms)).room, s, m, (As ad).toArray, below, meth, cd, MQ below (z_QI lay N r σ' G ad (z_A N ad s.heap.size)) (As ad).toArray s mc ms (z_A N ad s.heap.size), 0, 0) G (z_A N ad s.heap.size) ad
    ⟨B.exec, B.bytes, hml, hown, fun w hw => hts w (List.mem_cons_of_mem _ hw), hK, fun q hq => Or.inr hq, rfl, Nat.zero_le _, Nat.zero_le _⟩ ⟨rfl, rfl⟩ (hend 0 0 (Nat.zero_le _) (Nat.zero_le _)) (hend mc ms (Nat.le_refl _) (Nat.le_refl _))
  rw [lg_entry_eq]
  exact key s.heap [] _ hP hD0.self va_S.rf hl
def z_n (σ : z_S) (N : Nat) : z_S := fun i => if i = N then (fun _ => 0) else σ i
def z_rf (lay : Nat → z_K) (N : Nat) : Bool := (List.range N).all fun i => match lay i with
  | .inl (t, n) => t < 2 || (t - 2) % 38 != N % 38
  | .inr (_, fs) => fs.all fun f => f.all fun r => r != N
theorem z_rf_fs {ad ad2 : Nat → Nat} {x : Nat → Int32} {N : Nat} (he : ∀ i, i ≠ N → ad2 i = ad i) : ∀ (fs : List (Option Nat)) (b : Nat), (fs.all fun f => f.all fun r => r != N) = true → z_fs ad2 x b fs = z_fs ad x b fs
  | [], _, _ => rfl
  | none :: fs, b, h => by
    simp only [List.all_cons, Bool.and_eq_true] at h
    simp only [z_fs]; rw [z_rf_fs he fs (b + 1) h.2]
  | some r :: fs, b, h => by
    simp only [List.all_cons, Bool.and_eq_true, Option.all_some, bne_iff_ne] at h
    simp only [z_fs, z_nr]; rw [z_rf_fs he fs (b + 1) h.2, he r h.1]
theorem z_rf_E {G : z_G} {ad ad2 : Nat → Nat} {x : Nat → Int32} {N : Nat} (he : ∀ i, i ≠ N → ad2 i = ad i) {lay : Nat → z_K} (hr : z_rf lay N = true) {i : Nat} (hi : i < N) : z_E G ad2 x (lay i) = z_E G ad x (lay i) := by
  have h := List.all_eq_true.mp hr i (List.mem_range.mpr hi)
  revert h
  match lay i with
  | .inl (0, n) => intro _; rfl
  | .inl (1, n) => intro _; rfl
  | .inl (t + 2, n) =>
    intro h
    have e : (fun j => some (ad2 (t + 38 * j))) = fun j => some (ad (t + 38 * j)) := by
      funext j
      rw [he]
      rintro q
      simp only [Bool.or_eq_true, decide_eq_true_eq, bne_iff_ne] at h
      rcases h with h | h
      · omega
      · apply h
        omega
    show (Sum.inl (G.2.2.2, n, .inr (.inr (.inr (.inr (fun j => some (ad2 (t + 38 * j))))))) : va_E) = .inl (G.2.2.2, n, .inr (.inr (.inr (.inr (fun j => some (ad (t + 38 * j)))))))
    rw [e]
  | .inr (c, fs) =>
    intro h
    show (Sum.inr (c, z_fs ad2 x 0 fs) : va_E) = .inr (c, z_fs ad x 0 fs)
    rw [z_rf_fs he fs 0 h]
theorem zn_S0 {A : Nat → Prop} {H0 H H1 : Heap} {locs : List Loc} (hS : va_S A H0 H locs) (hz : H.size ≤ H1.size) (ho : ∀ q, q < H.size → H1[q]? = H[q]?) : va_S A H0 H1 locs := ⟨Nat.le_trans hS.1 hz, fun x h1 h2 => (ho x (Nat.lt_of_lt_of_le h1 hS.1)).trans (hS.2.1 x h1 h2), hS.2.2⟩
section ZNA
variable {E : z_En} {G : z_G} {A : Nat → Prop} {cc : ByteArray} {nL : Nat} {own : String} {R0 : Room} {lay lay' : Nat → z_K} {ad : Nat → Nat} {pc : Nat} {lv : List (Nat × Value)} {st : List Value} {σ : z_S}
theorem z_down {N : Nat} {ad2 : Nat → Nat} (hl : ∀ i, i < N → lay' i = lay i) (hr : z_rf lay N = true) (he : ∀ i, i ≠ N → ad2 i = ad i) (kk : ZW E G A nL lay N ad pc lv st σ) : ZW E G A nL lay' (N + 1) ad2 pc lv st σ := by
  obtain ⟨p, l, e, R, s, m, args, below, meth, c, Q, cz, sz⟩ := E
  intro H locs ls hP hD hS hl'
  refine kk H locs ls (fun i hi => ?_) ⟨fun i j hi hj h => hD.1 i j (by omega) (by omega) (by rw [he i (by omega), he j (by omega)]; exact h), fun i hi => by rw [← he i (by omega)]; exact hD.2 i (by omega)⟩ hS hl'
  have h := hP i (by omega)
  rw [hl i hi, z_rf_E he hr hi, he i (by omega)] at h
  exact h
theorem z_newi (B : zB E G A cc nL own R0) (N M : Nat) {n' : Int32} (hl : ∀ i, i < N → lay' i = lay i) (hlN : lay' N = .inl (0, M)) (hd : decode cc pc = .ok (.newarray .int, 2)) (harr : Cond.arrayClass .int ∈ wsL_law) (hn0 : ¬ n' < 0) (hM : n'.toNatClampNeg = M) (hby : M * componentBytes .int ≤ 536870912) (hcs : z_cs E 0 0) (hr : z_rf lay N = true) (hcap : 1 ≤ R0.cells ∧ M ≤ R0.slots) (lvf : (Nat → Nat) → List (Nat × Value)) (stf : (Nat → Nat) → List Value) (hlv : lvf ad = lv) (hst : stf ad = st)
    (hf : ∀ ad2 : Nat → Nat, (∀ i, i ≠ N → ad2 i = ad i) → lvf ad2 = lvf ad ∧ stf ad2 = stf ad)
    (kk : ∀ (E2 : z_En) (ad2 : Nat → Nat), E2 = z_at E 1 M → (∀ i, i ≠ N → ad2 i = ad i) → zB E2 G A cc nL own R0 → ZW E2 G A nL lay' (N + 1) ad2 (pc + 2) (lvf ad2) (.ref (ad2 N) :: stf ad2) (z_n σ N)) : ZW E G A nL lay N ad pc lv (.int n' :: st) σ := by
  have B2 := z_atB (k := 1) (n := M) B hcap.1 hcap.2
  obtain ⟨p, l, e, R, s, m, args, below, meth, c, Q, cz, sz⟩ := E
  obtain ⟨rfl, rfl⟩ := hcs
  obtain ⟨hx, hb, hml, hown, hts, hK, hA, hR, hcz, hsz⟩ := B
  intro H locs ls hP hD hS hl'
  subst hR
  refine va_newaK (atype := .int) hx hb (hts _ harr) rfl hd rfl hn0 hM hby hcap.1 (by show 0 + M ≤ _; rw [Nat.zero_add]; exact hcap.2) rfl fun H1 cA e1 z1 o1 hAr hNm => ?_
  have hc : cA = G.2.1 := by
    have h := (hK.1.2 0 (G.2.1, .int) rfl).2
    exact Option.some.inj (hNm.symm.trans h)
  subst hc
  obtain ⟨ad2, had⟩ : ∃ ad2 : Nat → Nat, ad2 = fun i => if i = N then H.size else ad i := ⟨_, rfl⟩
  have hE : ∀ i, i ≠ N → ad2 i = ad i := fun i hi => by rw [had]; exact if_neg hi
  have hEN : ad2 N = H.size := by rw [had]; exact if_pos rfl
  have key := kk _ ad2 rfl hE B2
  rw [(hf ad2 hE).1, (hf ad2 hE).2, hlv, hst, hEN] at key
  rw [Nat.zero_add, Nat.zero_add]
  have hlt : ∀ i, i < N → ad i < H.size := fun i hi => (hP i hi).lt
  refine key H1 locs ls (fun i hi => ?_) ⟨fun i j hi hj h => ?_, fun i hi => ?_⟩ (zn_S0 hS (by rw [z1]; exact Nat.le_succ _) o1) hl'
  · by_cases h : i = N
    · subst h
      rw [hlN, hEN]
      show H1[H.size]? = some (vp_cell _ _)
      rw [e1]
      simp [z_n, vp_cell, z_E]
      rfl
    · have h2 := (hP i (by omega)).kept (o1 _ (hlt i (by omega)))
      rw [hl i (by omega), z_rf_E hE hr (by omega), hE i h]
      simp only [z_n, if_neg h]
      exact h2
  · by_cases h1 : i = N
    · by_cases h2 : j = N
      · omega
      · subst h1
        rw [hEN, hE j h2] at h
        have := hlt j (by omega)
        omega
    · by_cases h2 : j = N
      · subst h2
        rw [hEN, hE i h1] at h
        have := hlt i (by omega)
        omega
      · rw [hE i h1, hE j h2] at h
        exact hD.1 i j (by omega) (by omega) h
  · by_cases h1 : i = N
    · subst h1
      rw [hEN]
      exact hA _ hS.1
    · rw [hE i h1]
      exact hD.2 i (by omega)
end ZNA
/-- the call of it -/
def zRunN (mc ms : Nat) (E : z_En) (G : z_G) (A : Nat → Prop) (nL : Nat) (lay : Nat → z_K) (N : Nat) (ad : Nat → Nat) (pc : Nat) (lv : List (Nat × Value)) (st0 : List Value) (σ : z_S) (rest : List Value) (N' : Nat) (ad' : Nat → Nat) (Qk : z_Qk) : Prop :=
  match E with
  | (p, l, e, R, s, m, args, below, meth, c, Q, cz, sz) => ∀ (H : Heap) (locs : List Loc) (ls : Array Slot), z_P G lay N ad σ H → z_D A N ad → va_S A s.heap H locs → lv_has ls nL lv → ∃ a, va_Run p l e R s m args below meth c H locs cz sz mc ms (F0 m pc ls st0) rest (Qk G ad' (z_A N' ad' H.size) a) (z_A N' ad' H.size)
section ZCN
variable {E : z_En} {G : z_G} {A : Nat → Prop} {cc : ByteArray} {nL : Nat} {own : String} {R0 : Room} {lay : Nat → z_K} {N : Nat} {ad : Nat → Nat} {pc : Nat} {lv : List (Nat × Value)} {st0 st : List Value} {σ τ' : z_S}
theorem z_callN (B : zB E G A cc nL own R0) {k n k' n' mc ms : Nat} {y : MethodName} {c' : ByteArray} {nL' : Nat} {fr lo ar index : Nat} {As : (Nat → Nat) → List Value} {r : Int32} {ty : FieldType} (hY : z_YS y c' nL' (some ty) ar) (hM : zMetN mc ms y c' nL' (some ty) fr lo lay N As σ (z_QI lay N r τ')) (hcs : z_cs E k n) (hk' : k + mc = k') (hn' : n + ms = n') (hcap : k' ≤ R0.cells ∧ n' ≤ R0.slots)
    (hn : (As ad).length = ar) (hst : st0 = (As ad).reverse ++ st) (hcat : (st.map fun v => v.category).sum ≤ 8)
    (hlink : Cond.methodLink own index y ∈ wsL_law) (hR : fr + 1 ≤ R0.frames ∧ 8 + (nL' + 11) + lo ≤ R0.locals) (hd : decode cc pc = .ok (.invokestatic index, 3))
    (kk : ZW (z_at E k' n') G A nL lay N ad (pc + 3) lv (.int r :: st) τ') : ZW E G A nL lay N ad pc lv st0 σ := by
  obtain ⟨p, l, e, R, s, m, args, below, meth, c, Q, cz, sz⟩ := E
  obtain ⟨rfl, rfl⟩ := hcs
  obtain ⟨hx, hb0, hml, hown, hts, hK, hA, hR0, hcz, hsz⟩ := B
  subst hR0; subst hk'; subst hn'
  intro H locs ls hP hD hS hl
  have hG : GoodIn wsL_law (z_ws y c' nL' (some ty)) := z_goodIn hY.1
  have hcw : CallB R s args own index y c' nL' (some ty) (z_ws y c' nL' (some ty)) (z_rmN fr lo mc ms) mc ms ar ∧ (Cond.static y).before args s = true :=
    ⟨callB_of ar hts hG rfl rfl rfl (hts _ hY.1.1) (hts _ hlink) hY.1.2.2 hR, hts _ hY.2⟩
  have hpre : PreS s H (va_Pc (As ad) (z_Pre G lay N ad σ H.size)) (As ad) := by
    refine ⟨fun a U g mk q => ⟨q.1, q.2.1, q.2.2.1, q.2.2.2.1.calling, q.2.2.2.2⟩, fun U hU hW => ⟨rfl, by rw [hU], by rw [hU]; exact hP, hK.warm hW, hD.1, fun _ _ => trivial⟩⟩
  have hrun : va_Run p l e R s m args below meth c H locs cz sz mc ms (F0 m pc ls st0) st (z_QI lay N r τ' G ad (z_A N ad H.size) (As ad).toArray) (z_A N ad H.size) := va_runS (As := As ad) (rest := st) ⟨hx, hb0, hml, hown, hts⟩ (hM l G ad H.size) hcw hpre rfl hn hl.1 hst (lv_room (m := m) (pc := pc) (ls := ls) (rest := st0) hcat) hd hcap
  have hAq : ∀ q, H.size ≤ q → A q := fun q h => hA q (Nat.le_trans hS.1 h)
  have hF : ∀ q, z_A N ad H.size q → A q := by
    rintro q (⟨i, hi, rfl⟩ | h)
    · exact hD.2 i hi
    · exact hAq q h
  exact va_calli hrun hS (fun q _ h => hF q h) hF (fun r' u t H1 locs1 ht hvm hw hB hz hk hS1 => by
    obtain ⟨rfl, rfl⟩ := hw
    rw [ht] at hB
    exact kk H1 locs1 ls hB hD hS1 hl)
end ZCN
/-! the script, read by a method of its own -/
def zX (E : z_En) (A : Nat → Prop) (b L : Nat) (xs : Nat → Int32) : Prop :=
  match E with
  | (p, l, e, R, s, m, args, below, meth, c, Q, cz, sz) => va_X b L xs s s.heap ∧ b < s.heap.size ∧ ¬ A b
theorem zX.at {E : z_En} {A : Nat → Prop} {b L : Nat} {xs : Nat → Int32} {k n : Nat} (h : zX E A b L xs) : zX (z_at E k n) A b L xs := h
section ZX
variable {E : z_En} {G : z_G} {A : Nat → Prop} {cc : ByteArray} {nL : Nat} {own : String} {R0 : Room} {lay : Nat → z_K} {N : Nat} {ad : Nat → Nat} {pc b L : Nat} {xs : Nat → Int32} {lv : List (Nat × Value)} {st0 st : List Value} {σ : z_S}
theorem z_sld (B : zB E G A cc nL own R0) (X : zX E A b L xs) {x : Int32} (hin : vp_in x L) (hd : decode cc pc = .ok (.iaload, 1)) (kk : ZW E G A nL lay N ad (pc + 1) lv (.int (xs x.toNatClampNeg) :: st) σ) : ZW E G A nL lay N ad pc lv (.int x :: .ref b :: st) σ := by
  obtain ⟨p, l, e, R, s, m, args, below, meth, c, Q, cz, sz⟩ := E
  obtain ⟨hx, hb, hml, hown, hts, hK, hA, hR, hcz, hsz⟩ := B
  obtain ⟨h1, h2, h3⟩ := X
  intro H locs ls hP hD hS hl'
  exact va_sld hx hb h1 h2 h3 hS hin hd (kk H locs ls hP hD hS hl')
theorem z_slen (B : zB E G A cc nL own R0) (X : zX E A b L xs) (hd : decode cc pc = .ok (.arraylength, 1)) (kk : ZW E G A nL lay N ad (pc + 1) lv (.int (Int32.ofNat L) :: st) σ) : ZW E G A nL lay N ad pc lv (.ref b :: st) σ := by
  obtain ⟨p, l, e, R, s, m, args, below, meth, c, Q, cz, sz⟩ := E
  obtain ⟨hx, hb, hml, hown, hts, hK, hA, hR, hcz, hsz⟩ := B
  obtain ⟨h1, h2, h3⟩ := X
  intro H locs ls hP hD hS hl'
  exact va_slen hx hb h1 h2 h3 hS hd (kk H locs ls hP hD hS hl')
/-- the contract of a method that reads the script -/
def zMetS (y : MethodName) (c : ByteArray) (nL fr lo L : Nat) (xs : Nat → Int32) (k r : Int32) : Prop :=
  ∀ (l : Launch) (b sz : Nat) (G : z_G), Met l y (z_ws y c nL (some .int)) (z_rm fr lo) (va_Pc [.ref b, .int k] (fun U => U.heap.size = sz ∧ b < sz ∧ va_X b L xs U U.heap ∧ z_Kp G U)) (va_Qi (fun (r' : Int32) (_ : Unit) => r' = r) (fun _ _ => True) (fun q => sz ≤ q)) 0 0 (fun q => sz ≤ q)
theorem z_headS {y : MethodName} {c : ByteArray} {nL fr lo : Nat} {k r : Int32} (own : String) (hpl : plainName y.cls = true) (hcls : y.cls = own) (hlen : ∀ b : Nat, (lg_sl [Value.ref b, Value.int k]).length ≤ nL)
    (body : ∀ (E : z_En) (G : z_G) (A : Nat → Prop) (b : Nat), zB E G A c nL own (z_rm fr lo) → zX E A b L xs → (∀ (pc : Nat) (lv : List (Nat × Value)) (v : Int32) (s : z_S), v = r → decode c pc = .ok (.ireturn, 1) → ZW E G A nL z_lay0 0 (fun _ => 0) pc lv [.int v] s) → ZW E G A nL z_lay0 0 (fun _ => 0) 0 [(0, .ref b), (1, .int k)] [] σ) :
    zMetS y c nL fr lo L xs k r := by
  intro l b sz G
  refine Met.ofW (cc := c) (maxL := nL) (ret := some .int) hpl rfl ?_
  intro p e s m args below meth cd s₁ B hml hv
  obtain ⟨rfl, hsz, hbs, hXs, hK⟩ := hv
  subst hsz
  have hown : s.vm.findClass own = some m.cls := hcls ▸ findClass_of_methodNamed B.named
  have hts := atoms_spec (ws := z_ws y c nL (some .int)) B.pre
  have hl := lv_entry [Value.ref b, Value.int k] (n := nL) (hlen b)
  have key := body (p, l, e, (headSpec (z_ws y c nL (some .int)) (z_rm fr lo)).room, s, m, ([Value.ref b, Value.int k] : List Value).toArray, below, meth, cd, MQ below (va_Qi (fun (r' : Int32) (_ : Unit) => r' = r) (fun _ _ => True) (fun q => s.heap.size ≤ q)) ([Value.ref b, Value.int k] : List Value).toArray s 0 0 (fun q => s.heap.size ≤ q), 0, 0) G (fun q => s.heap.size ≤ q) b
    ⟨B.exec, B.bytes, hml, hown, fun w hw => hts w (List.mem_cons_of_mem _ hw), hK, fun q hq => hq, rfl, Nat.zero_le _, Nat.zero_le _⟩ ⟨hXs, hbs, Nat.not_le.mpr hbs⟩
    (by
      rintro pc lv v s0 rfl hd
      intro H locs ls hP hD hS hl
      exact W.iret B.exec B.bytes B.returns (fun t ht hW => ⟨⟨v, (), rfl, rfl, trivial⟩, hS.F ht⟩) hS.2.2 hd B.notSynchronized)
  rw [lg_entry_eq]
  exact key s.heap [] _ (fun i hi => absurd hi (Nat.not_lt_zero i)) ⟨fun i j hi => absurd hi (Nat.not_lt_zero i), fun i hi => absurd hi (Nat.not_lt_zero i)⟩ va_S.rf hl
theorem z_callS (B : zB E G A cc nL own R0) (X : zX E A b L xs) {y : MethodName} {c' : ByteArray} {nL' fr lo index : Nat} {k r : Int32} (hY : z_YS y c' nL' (some .int) 2) (hM : zMetS y c' nL' fr lo L xs k r) (hcat : (st.map fun v => v.category).sum ≤ 8)
    (hlink : Cond.methodLink own index y ∈ wsL_law) (hR : fr + 1 ≤ R0.frames ∧ 8 + (nL' + 11) + lo ≤ R0.locals) (hd : decode cc pc = .ok (.invokestatic index, 3))
    (kk : ZW E G A nL lay N ad (pc + 3) lv (.int r :: st) σ) : ZW E G A nL lay N ad pc lv (.int k :: .ref b :: st) σ := by
  obtain ⟨p, l, e, R, s, m, args, below, meth, c, Q, cz, sz⟩ := E
  obtain ⟨hx, hb0, hml, hown, hts, hK, hA, hR0, hcz, hsz⟩ := B
  obtain ⟨hX1, hX2, hX3⟩ := X
  subst hR0
  intro H locs ls hP hD hS hl
  have hcw : CallB R s args own index y c' nL' (some .int) (z_ws y c' nL' (some .int)) (z_rm fr lo) 0 0 2 ∧ (Cond.static y).before args s = true :=
    ⟨callB_of 2 hts (z_goodIn hY.1) rfl rfl rfl (hts _ hY.1.1) (hts _ hlink) hY.1.2.2 hR, hts _ hY.2⟩
  have hXH : va_X b L xs s H := hX1.kept (hS.2.1 b hX2 hX3)
  have hpre : PreS s H (va_Pc [.ref b, .int k] (fun U => U.heap.size = H.size ∧ b < H.size ∧ va_X b L xs U U.heap ∧ z_Kp G U)) [.ref b, .int k] := by
    refine ⟨fun a U g mk q => ⟨q.1, q.2.1, q.2.2.1, va_X.moved (u := U) (U := U.calling g mk a) (Vm.Alike.refl U.vm) q.2.2.2.1, q.2.2.2.2.calling⟩, fun U hU hW => ⟨rfl, by rw [hU], Nat.lt_of_lt_of_le hX2 hS.1, by rw [hU]; exact hXH.moved hW.alike, hK.warm hW⟩⟩
  have hrun : va_Run p l e R s m args below meth c H locs cz sz 0 0 (F0 m pc ls (.int k :: .ref b :: st)) st ((va_Qi (fun (r' : Int32) (_ : Unit) => r' = r) (fun _ _ => True) (fun q => H.size ≤ q)) ([.ref b, .int k] : List Value).toArray) (fun q => H.size ≤ q) := va_runS (As := [.ref b, .int k]) (rest := st) ⟨hx, hb0, hml, hown, hts⟩ (hM l b H.size G) hcw hpre rfl rfl hl.1 rfl (lv_room (m := m) (pc := pc) (ls := ls) (rest := .int k :: .ref b :: st) hcat) hd ⟨hcz, hsz⟩
  have hAq : ∀ q, H.size ≤ q → A q := fun q h => hA q (Nat.le_trans hS.1 h)
  exact va_calli hrun hS (fun q _ h => hAq q h) hAq (fun r' u t H1 locs1 ht hvm hw hB hz hk hS1 => by
    have hw2 : r' = r := hw
    subst hw2
    exact kk H1 locs1 ls (fun i hi => (hP i hi).kept (hk _ ((hP i hi).lt) (Nat.not_le.mpr ((hP i hi).lt)))) hD hS1 hl)
end ZX
