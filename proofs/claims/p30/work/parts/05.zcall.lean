/-! contracts -/
abbrev z_ws (y : MethodName) (c : ByteArray) (nL : Nat) (ret : Option FieldType) : List Cond := .code y c nL ret :: wsL_law
abbrev z_rm (fr lo : Nat) : Room := { frames := fr, cells := 0, slots := 0, locals := lo }
def z_Pre (G : z_G) (lay : Nat → z_K) (N : Nat) (ad : Nat → Nat) (σ : z_S) (sz : Nat) (U : State) : Prop := U.heap.size = sz ∧ z_P G lay N ad σ U.heap ∧ z_Kp G U ∧ z_D (fun _ => True) N ad
abbrev z_Qk : Type := z_G → (Nat → Nat) → (Nat → Prop) → Array Value → State → Outcome → State → Prop
def z_QI (lay : Nat → z_K) (N : Nat) (r : Int32) (σ' : z_S) : z_Qk := fun G ad A => va_Qi (fun (r' : Int32) (u : z_S) => r' = r ∧ u = σ') (fun u t => z_P G lay N ad u t.heap) A
def z_QF (lay : Nat → z_K) (N : Nat) (r : UInt32) (σ' : z_S) : z_Qk := fun G ad A => va_Qf (fun (r' : UInt32) (u : z_S) => r' = r ∧ u = σ') (fun u t => z_P G lay N ad u t.heap) A
def z_QV (lay : Nat → z_K) (N : Nat) (σ' : z_S) : z_Qk := fun G ad A => va_Qv (fun (u : z_S) => u = σ') (fun u t => z_P G lay N ad u t.heap) A
def zMet (y : MethodName) (c : ByteArray) (nL : Nat) (ret : Option FieldType) (fr lo : Nat) (lay : Nat → z_K) (N : Nat) (As : (Nat → Nat) → List Value) (σ : z_S) (Qk : z_Qk) : Prop :=
  ∀ (l : Launch) (G : z_G) (ad : Nat → Nat) (sz : Nat), Met l y (z_ws y c nL ret) (z_rm fr lo) (va_Pc (As ad) (z_Pre G lay N ad σ sz)) (Qk G ad (z_A N ad sz)) 0 0 (z_A N ad sz)
theorem z_D.self {N : Nat} {ad : Nat → Nat} {sz : Nat} {A : Nat → Prop} (h : z_D A N ad) : z_D (z_A N ad sz) N ad := ⟨h.1, fun i hi => Or.inl ⟨i, hi, rfl⟩⟩
theorem z_head0 {y : MethodName} {c : ByteArray} {nL : Nat} {ret : Option FieldType} {fr lo : Nat} {lay : Nat → z_K} {N : Nat} {As : (Nat → Nat) → List Value} {σ : z_S} {Qk : z_Qk} {own : String} (hpl : plainName y.cls = true) (hcls : y.cls = own) (hlen : ∀ ad, (lg_sl (As ad)).length ≤ nL)
    (body : ∀ (E : z_En) (G : z_G) (A : Nat → Prop) (ad : Nat → Nat), zB E G A c nL own (z_rm fr lo) → (∀ (p : Program) (l : Launch) (e : Env) (R : Room) (s : State) (m : MethodId) (args : Array Value) (below : List Frame) (meth : Method) (cd : Code) (Q : State → Prop) (cz sz : Nat), E = (p, l, e, R, s, m, args, below, meth, cd, Q, cz, sz) → meth.sig.returnType = ret ∧ meth.locks = false ∧ Q = MQ below (Qk G ad A) args s cz sz A) → ZW E G A nL lay N ad 0 (lv_args 0 (As ad)) [] σ) :
    zMet y c nL ret fr lo lay N As σ Qk := by
  intro l G ad sz
  refine Met.ofW (cc := c) (maxL := nL) (ret := ret) hpl rfl ?_
  intro p e s m args below meth cd s₁ B hml hv
  obtain ⟨rfl, hsz, hP, hK, hD0⟩ := hv
  subst hsz
  have hown : s.vm.findClass own = some m.cls := hcls ▸ findClass_of_methodNamed B.named
  have hts := atoms_spec (ws := z_ws y c nL ret) B.pre
  have hl := lv_entry (As ad) (n := nL) (hlen ad)
  have key := body (p, l, e, (headSpec (z_ws y c nL ret) (z_rm fr lo)).room, s, m, (As ad).toArray, below, meth, cd, MQ below (Qk G ad (z_A N ad s.heap.size)) (As ad).toArray s 0 0 (z_A N ad s.heap.size), 0, 0) G (z_A N ad s.heap.size) ad
    ⟨B.exec, B.bytes, hml, hown, fun w hw => hts w (List.mem_cons_of_mem _ hw), hK, fun q hq => Or.inr hq, rfl, Nat.zero_le _, Nat.zero_le _⟩
    (fun p' l' e' R' s' m' args' below' meth' cd' Q' cz' sz' he => by
      injection he with h1 he; injection he with h2 he; injection he with h3 he; injection he with h4 he; injection he with h5 he; injection he with h6 he; injection he with h7 he; injection he with h8 he; injection he with h9 he; injection he with h10 he; injection he with h11 he; injection he with h12 h13
      subst h5; subst h7; subst h8; subst h9; subst h11; subst h12; subst h13
      exact ⟨B.returns, B.notSynchronized, rfl⟩)
  rw [lg_entry_eq]
  exact key s.heap [] _ hP hD0.self va_S.rf hl
theorem z_headI {y : MethodName} {c : ByteArray} {nL : Nat} {ty : FieldType} {fr lo : Nat} {lay : Nat → z_K} {N : Nat} {As : (Nat → Nat) → List Value} {σ σ' : z_S} {r : Int32} (own : String) (hpl : plainName y.cls = true) (hcls : y.cls = own) (hlen : ∀ ad, (lg_sl (As ad)).length ≤ nL)
    (body : ∀ (E : z_En) (G : z_G) (A : Nat → Prop) (ad : Nat → Nat), zB E G A c nL own (z_rm fr lo) → (∀ (pc : Nat) (lv : List (Nat × Value)) (v : Int32) (s : z_S), v = r → s = σ' → narrow ty (.int v) = .int v → decode c pc = .ok (.ireturn, 1) → ZW E G A nL lay N ad pc lv [.int v] s) → ZW E G A nL lay N ad 0 (lv_args 0 (As ad)) [] σ) :
    zMet y c nL (some ty) fr lo lay N As σ (z_QI lay N r σ') := by
  refine z_head0 hpl hcls hlen (fun E G A ad B hE => body E G A ad B ?_)
  rintro pc lv v s0 rfl rfl hn hd
  obtain ⟨p, l, e, R, s, m, args, below, meth, cd, Q, cz, sz⟩ := E
  obtain ⟨hr, hlk, hQ⟩ := hE _ _ _ _ _ _ _ _ _ _ _ _ _ rfl
  obtain ⟨hx, hb, hml, hown, hts, hK, hA, hR, hcz, hsz⟩ := B
  subst hQ
  intro H locs ls hP hD hS hl
  exact W.zret hx hb hr hn (fun t ht hW => ⟨⟨v, s0, rfl, ⟨rfl, rfl⟩, by show z_P G lay N ad _ t.heap; rw [ht]; exact hP⟩, hS.F ht⟩) hS.2.2 hd hlk
theorem z_headF {y : MethodName} {c : ByteArray} {nL : Nat} {fr lo : Nat} {lay : Nat → z_K} {N : Nat} {As : (Nat → Nat) → List Value} {σ σ' : z_S} {r : UInt32} (own : String) (hpl : plainName y.cls = true) (hcls : y.cls = own) (hlen : ∀ ad, (lg_sl (As ad)).length ≤ nL)
    (body : ∀ (E : z_En) (G : z_G) (A : Nat → Prop) (ad : Nat → Nat), zB E G A c nL own (z_rm fr lo) → (∀ (pc : Nat) (lv : List (Nat × Value)) (v : UInt32) (s : z_S), v = r → s = σ' → decode c pc = .ok (.freturn, 1) → ZW E G A nL lay N ad pc lv [.float v] s) → ZW E G A nL lay N ad 0 (lv_args 0 (As ad)) [] σ) :
    zMet y c nL (some .float) fr lo lay N As σ (z_QF lay N r σ') := by
  refine z_head0 hpl hcls hlen (fun E G A ad B hE => body E G A ad B ?_)
  rintro pc lv v s0 rfl rfl hd
  obtain ⟨p, l, e, R, s, m, args, below, meth, cd, Q, cz, sz⟩ := E
  obtain ⟨hr, hlk, hQ⟩ := hE _ _ _ _ _ _ _ _ _ _ _ _ _ rfl
  obtain ⟨hx, hb, hml, hown, hts, hK, hA, hR, hcz, hsz⟩ := B
  subst hQ
  intro H locs ls hP hD hS hl
  exact W.fret hx hb hr (fun t ht hW => ⟨⟨v, s0, rfl, ⟨rfl, rfl⟩, by show z_P G lay N ad _ t.heap; rw [ht]; exact hP⟩, hS.F ht⟩) hS.2.2 hd hlk
theorem z_headV {y : MethodName} {c : ByteArray} {nL : Nat} {fr lo : Nat} {lay : Nat → z_K} {N : Nat} {As : (Nat → Nat) → List Value} {σ σ' : z_S} (own : String) (hpl : plainName y.cls = true) (hcls : y.cls = own) (hlen : ∀ ad, (lg_sl (As ad)).length ≤ nL)
    (body : ∀ (E : z_En) (G : z_G) (A : Nat → Prop) (ad : Nat → Nat), zB E G A c nL own (z_rm fr lo) → (∀ (pc : Nat) (lv : List (Nat × Value)) (s : z_S), s = σ' → decode c pc = .ok (.return_, 1) → ZW E G A nL lay N ad pc lv [] s) → ZW E G A nL lay N ad 0 (lv_args 0 (As ad)) [] σ) :
    zMet y c nL none fr lo lay N As σ (z_QV lay N σ') := by
  refine z_head0 hpl hcls hlen (fun E G A ad B hE => body E G A ad B ?_)
  rintro pc lv s0 rfl hd
  obtain ⟨p, l, e, R, s, m, args, below, meth, cd, Q, cz, sz⟩ := E
  obtain ⟨hr, hlk, hQ⟩ := hE _ _ _ _ _ _ _ _ _ _ _ _ _ rfl
  obtain ⟨hx, hb, hml, hown, hts, hK, hA, hR, hcz, hsz⟩ := B
  subst hQ
  intro H locs ls hP hD hS hl
  exact W.vret hx hb hr (fun t ht hW => ⟨⟨s0, rfl, rfl, by show z_P G lay N ad _ t.heap; rw [ht]; exact hP⟩, hS.F ht⟩) hS.2.2 hd hlk
/-! calls -/
def zRun (E : z_En) (G : z_G) (A : Nat → Prop) (nL : Nat) (lay : Nat → z_K) (N : Nat) (ad : Nat → Nat) (pc : Nat) (lv : List (Nat × Value)) (st0 : List Value) (σ : z_S) (rest : List Value) (N' : Nat) (ad' : Nat → Nat) (Qk : z_Qk) : Prop :=
  match E with
  | (p, l, e, R, s, m, args, below, meth, c, Q, cz, sz) => ∀ (H : Heap) (locs : List Loc) (ls : Array Slot), z_P G lay N ad σ H → z_D A N ad → va_S A s.heap H locs → lv_has ls nL lv → ∃ a, va_Run p l e R s m args below meth c H locs cz sz 0 0 (F0 m pc ls st0) rest (Qk G ad' (z_A N' ad' H.size) a) (z_A N' ad' H.size)
/-- how a callee's world lies in the caller's -/
def z_sameK (ι : Nat → Nat) (b : Bool) : z_K → z_K → Bool
  | .inl (t, n), .inl (t', n') => t == t' && n == n' && (b || t < 2)
  | .inr (c, fs), .inr (c', fs') => c == c' && fs == fs'.map (Option.map ι) && (fs'.all fun f => f.all fun r => decide (r < 1000) && decide (ι r < 1000))
  | _, _ => false
def z_cut (lay : Nat → z_K) (N : Nat) (lay' : Nat → z_K) (N' : Nat) (ι κ : Nat → Nat) (b : Bool) : Bool :=
  (List.range N').all (fun k => decide (ι k < N) && κ (ι k) == k && z_sameK ι b (lay (ι k)) (lay' k)) && (List.range N).all (fun i => !decide (κ i < N') || ι (κ i) == i)
theorem z_fs_map {ad : Nat → Nat} {x : Nat → Int32} {ι : Nat → Nat} : ∀ (fs : List (Option Nat)) (b : Nat), (fs.all fun f => f.all fun r => decide (r < 1000) && decide (ι r < 1000)) = true → z_fs ad x b (fs.map (Option.map ι)) = z_fs (fun k => ad (ι k)) x b fs
  | [], b, _ => rfl
  | none :: fs, b, h => by
    simp only [List.all_cons, Bool.and_eq_true] at h
    simp only [List.map_cons, Option.map_none, z_fs]; rw [z_fs_map fs (b + 1) h.2]
  | some r :: fs, b, h => by
    simp only [List.all_cons, Bool.and_eq_true, Option.all_some, decide_eq_true_eq] at h
    simp only [List.map_cons, Option.map_some, z_fs]; rw [z_fs_map fs (b + 1) h.2, z_nr, z_nr, if_pos h.1.1, if_pos h.1.2]
theorem z_sameE {G : z_G} {ad : Nat → Nat} {x : Nat → Int32} {ι : Nat → Nat} {b : Bool} (hb : b = true → ∀ k, ι k = k) : ∀ {k k' : z_K}, z_sameK ι b k k' = true → z_E G ad x k = z_E G (fun q => ad (ι q)) x k'
  | .inl (t, n), .inl (t', n'), h => by
    simp only [z_sameK, Bool.and_eq_true, beq_iff_eq, Bool.or_eq_true, decide_eq_true_eq] at h
    obtain ⟨⟨rfl, rfl⟩, h2⟩ := h
    match t with
    | 0 => rfl
    | 1 => rfl
    | t + 2 =>
      rcases h2 with h2 | h2
      · have h3 := hb h2
        simp [z_E, h3]
      · omega
  | .inr (c, fs), .inr (c', fs'), h => by
    simp only [z_sameK, Bool.and_eq_true, beq_iff_eq] at h
    obtain ⟨⟨rfl, rfl⟩, h3⟩ := h
    simp only [z_E, z_fs_map _ _ h3]
  | .inl _, .inr _, h => by simp [z_sameK] at h
  | .inr _, .inl _, h => by simp [z_sameK] at h
def z_m (σ : z_S) (κ : Nat → Nat) (N' : Nat) (τ : z_S) : z_S := fun i => if κ i < N' then τ (κ i) else σ i
section ZC
variable {E : z_En} {G : z_G} {A : Nat → Prop} {cc : ByteArray} {nL : Nat} {own : String} {R0 : Room} {lay lay' : Nat → z_K} {N N' : Nat} {ad : Nat → Nat} {ι κ : Nat → Nat} {b : Bool} {pc : Nat} {lv : List (Nat × Value)} {st0 st : List Value} {σ τ τ' : z_S}
theorem z_cutP (hc : z_cut lay N lay' N' ι κ b = true) (hb : b = true → ∀ k, ι k = k) {H : Heap} (hP : z_P G lay N ad σ H) : z_P G lay' N' (fun k => ad (ι k)) (fun k => σ (ι k)) H := by
  unfold z_cut at hc
  simp only [Bool.and_eq_true, List.all_eq_true, List.mem_range, decide_eq_true_eq, beq_iff_eq] at hc
  intro k hk
  obtain ⟨⟨h1, h2⟩, h3⟩ := hc.1 k hk
  have h := hP (ι k) h1
  rw [z_sameE hb h3] at h
  exact h
theorem z_cutD (hc : z_cut lay N lay' N' ι κ b = true) (hD : z_D A N ad) : z_D A N' (fun k => ad (ι k)) := by
  unfold z_cut at hc
  simp only [Bool.and_eq_true, List.all_eq_true, List.mem_range, decide_eq_true_eq, beq_iff_eq] at hc
  refine ⟨fun i j hi hj e => ?_, fun i hi => hD.2 _ (hc.1 i hi).1.1⟩
  have h := hD.1 _ _ (hc.1 i hi).1.1 (hc.1 j hj).1.1 e
  rw [← (hc.1 i hi).1.2, h, (hc.1 j hj).1.2]
theorem z_cutA (hc : z_cut lay N lay' N' ι κ b = true) (hD : z_D A N ad) {sz : Nat} (hA : ∀ q, sz ≤ q → A q) : ∀ q, z_A N' (fun k => ad (ι k)) sz q → A q := by
  unfold z_cut at hc
  simp only [Bool.and_eq_true, List.all_eq_true, List.mem_range, decide_eq_true_eq, beq_iff_eq] at hc
  rintro q (⟨i, hi, rfl⟩ | h)
  · exact hD.2 _ (hc.1 i hi).1.1
  · exact hA q h
theorem z_cutM (hc : z_cut lay N lay' N' ι κ b = true) (hb : b = true → ∀ k, ι k = k) (hD : z_D A N ad) {H H1 : Heap} (hP : z_P G lay N ad σ H) (hP1 : z_P G lay' N' (fun k => ad (ι k)) τ' H1) (hk : ∀ q : Nat, q < H.size → ¬ z_A N' (fun k => ad (ι k)) H.size q → H1[q]? = H[q]?) : z_P G lay N ad (z_m σ κ N' τ') H1 := by
  have hc0 := hc
  unfold z_cut at hc
  simp only [Bool.and_eq_true, List.all_eq_true, List.mem_range, decide_eq_true_eq, beq_iff_eq, Bool.or_eq_true, Bool.not_eq_true', decide_eq_false_iff_not] at hc
  intro i hi
  by_cases hκ : κ i < N'
  · have hι : ι (κ i) = i := by
      rcases hc.2 i hi with h | h
      · exact absurd hκ h
      · exact h
    have h := hP1 (κ i) hκ
    rw [← z_sameE hb (hc.1 (κ i) hκ).2] at h
    simp only [hι] at h
    simp only [z_m, if_pos hκ]
    exact h
  · simp only [z_m, if_neg hκ]
    have h := hP i hi
    refine h.kept (hk (ad i) h.lt ?_)
    rintro (⟨j, hj, e⟩ | h2)
    · have h3 := hD.1 i (ι j) hi (hc.1 j hj).1.1 e
      rw [h3, (hc.1 j hj).1.2] at hκ
      exact hκ hj
    · have := h.lt
      simp only at this
      omega
/-- the goals behind a call -/
theorem z_cI {r : Int32} (B : zB E G A cc nL own R0) (hr : zRun E G A nL lay N ad pc lv st0 σ st N' (fun k => ad (ι k)) (z_QI lay' N' r τ')) (hc : z_cut lay N lay' N' ι κ b = true) (hb : b = true → ∀ k, ι k = k) (kk : ZW E G A nL lay N ad (pc + 3) lv (.int r :: st) (z_m σ κ N' τ')) : ZW E G A nL lay N ad pc lv st0 σ := by
  obtain ⟨p, l, e, R, s, m, args, below, meth, c, Q, cz, sz⟩ := E
  obtain ⟨hx, hb0, hml, hown, hts, hK, hA, hR, hcz, hsz⟩ := B
  intro H locs ls hP hD hS hl
  have hAq : ∀ q, H.size ≤ q → A q := fun q h => hA q (Nat.le_trans hS.1 h)
  have hF := z_cutA (A := A) hc hD hAq
  obtain ⟨a, hrun⟩ := hr H locs ls hP hD hS hl
  exact va_calli hrun hS (fun q _ h => hF q h) hF (fun r' u t H1 locs1 ht hvm hw hB hz hk hS1 => by
    obtain ⟨rfl, rfl⟩ := hw
    rw [ht] at hB
    exact kk H1 locs1 ls (z_cutM hc hb hD hP hB hk) hD hS1 hl)
theorem z_cF {r : UInt32} (B : zB E G A cc nL own R0) (hr : zRun E G A nL lay N ad pc lv st0 σ st N' (fun k => ad (ι k)) (z_QF lay' N' r τ')) (hc : z_cut lay N lay' N' ι κ b = true) (hb : b = true → ∀ k, ι k = k) (kk : ZW E G A nL lay N ad (pc + 3) lv (.float r :: st) (z_m σ κ N' τ')) : ZW E G A nL lay N ad pc lv st0 σ := by
  obtain ⟨p, l, e, R, s, m, args, below, meth, c, Q, cz, sz⟩ := E
  obtain ⟨hx, hb0, hml, hown, hts, hK, hA, hR, hcz, hsz⟩ := B
  intro H locs ls hP hD hS hl
  have hAq : ∀ q, H.size ≤ q → A q := fun q h => hA q (Nat.le_trans hS.1 h)
  have hF := z_cutA (A := A) hc hD hAq
  obtain ⟨a, hrun⟩ := hr H locs ls hP hD hS hl
  exact va_callf hrun hS (fun q _ h => hF q h) hF (fun r' u t H1 locs1 ht hvm hw hB hz hk hS1 => by
    obtain ⟨rfl, rfl⟩ := hw
    rw [ht] at hB
    exact kk H1 locs1 ls (z_cutM hc hb hD hP hB hk) hD hS1 hl)
theorem z_cV (B : zB E G A cc nL own R0) (hr : zRun E G A nL lay N ad pc lv st0 σ st N' (fun k => ad (ι k)) (z_QV lay' N' τ')) (hc : z_cut lay N lay' N' ι κ b = true) (hb : b = true → ∀ k, ι k = k) (kk : ZW E G A nL lay N ad (pc + 3) lv st (z_m σ κ N' τ')) : ZW E G A nL lay N ad pc lv st0 σ := by
  obtain ⟨p, l, e, R, s, m, args, below, meth, c, Q, cz, sz⟩ := E
  obtain ⟨hx, hb0, hml, hown, hts, hK, hA, hR, hcz, hsz⟩ := B
  intro H locs ls hP hD hS hl
  have hAq : ∀ q, H.size ≤ q → A q := fun q h => hA q (Nat.le_trans hS.1 h)
  have hF := z_cutA (A := A) hc hD hAq
  obtain ⟨a, hrun⟩ := hr H locs ls hP hD hS hl
  exact va_callv hrun hS (fun q _ h => hF q h) hF (fun u t H1 locs1 ht hvm hw hB hz hk hS1 => by
    subst hw
    rw [ht] at hB
    exact kk H1 locs1 ls (z_cutM hc hb hD hP hB hk) hD hS1 hl)
/-- what the tables say of a method -/
def z_Y (y : MethodName) (c : ByteArray) (nL : Nat) (ret : Option FieldType) (n : Nat) : Prop := Cond.initialized y.cls ∈ wsL_law ∧ Cond.code y c nL ret ∈ wsL_law ∧ (y.cls ≠ "java/lang/invoke/MethodHandle" ∧ y.cls ≠ "java/lang/invoke/VarHandle" ∧ (parseMethodDescriptor y.desc).map (fun d => d.parameters.length) = some n)
def z_YV (y : MethodName) (c : ByteArray) (nL : Nat) (ret : Option FieldType) (n : Nat) : Prop := z_Y y c nL ret n ∧ Cond.instanceMethod y ∈ wsL_law ∧ Cond.selects y.cls y y ∈ wsL_law
def z_YS (y : MethodName) (c : ByteArray) (nL : Nat) (ret : Option FieldType) (n : Nat) : Prop := z_Y y c nL ret n ∧ Cond.static y ∈ wsL_law
theorem z_good {w : Cond} (h : w ∈ wsL_law) : (w.onTables && w.keeps) = true ∨ ∃ ty, w = .arrayClass ty := good_of_word (List.all_eq_true.mp wsL_good w h)
theorem z_goodIn {y : MethodName} {c : ByteArray} {nL : Nat} {ret : Option FieldType} {n : Nat} (h : z_Y y c nL ret n) : GoodIn wsL_law (z_ws y c nL ret) := by
  intro w hw
  rcases List.mem_cons.mp hw with rfl | hw
  · exact ⟨h.2.1, z_good h.2.1⟩
  · exact ⟨hw, z_good hw⟩
theorem z_pre {y : MethodName} {c : ByteArray} {nL : Nat} {ret : Option FieldType} {fr lo : Nat} {As : (Nat → Nat) → List Value} {Qk : z_Qk} (hM : zMet y c nL ret fr lo lay' N' As τ Qk) {s : State} {H : Heap} (hK : z_Kp G s) (hP' : z_P G lay' N' (fun k => ad (ι k)) τ H) (hD' : z_D A N' (fun k => ad (ι k))) : FrameBlind (va_Pc (As fun k => ad (ι k)) (z_Pre G lay' N' (fun k => ad (ι k)) τ H.size)) ∧ ∀ U : State, U.heap = H → s.WarmedH U.vm → va_Pc (As fun k => ad (ι k)) (z_Pre G lay' N' (fun k => ad (ι k)) τ H.size) (As fun k => ad (ι k)).toArray U := by
  refine ⟨fun a U g mk q => ⟨q.1, q.2.1, q.2.2.1, q.2.2.2.1.calling, q.2.2.2.2⟩, fun U hU hW => ⟨rfl, by rw [hU], by rw [hU]; exact hP', hK.warm hW, hD'.1, fun _ _ => trivial⟩⟩
theorem z_rV (B : zB E G A cc nL own R0) {y : MethodName} {c' : ByteArray} {nL' : Nat} {ret : Option FieldType} {fr lo n index q ci : Nat} {fs : List (Option Nat)} {T : u_T} {nf : Nat} {As : (Nat → Nat) → List Value} {vs : List Value} {Qk : z_Qk} (hY : z_YV y c' nL' ret n) (hM : zMet y c' nL' ret fr lo lay' N' As τ Qk) (hτ : τ = fun k => σ (ι k)) (hc : z_cut lay N lay' N' ι κ b = true) (hb : b = true → ∀ k, ι k = k)
    (hk : lay' q = .inr (ci, fs)) (hq : q < N') (hci : vwCl[ci]? = some (y.cls, T, nf)) (hAs : (As fun k => ad (ι k)) = .ref (ad (ι q)) :: vs) (hn : vs.length = n) (hst : st0 = vs.reverse ++ .ref (ad (ι q)) :: st) (hcat : (st.map fun v => v.category).sum ≤ 8)
    (hlink : Cond.methodLink own index y ∈ wsL_law) (hR : fr + 1 ≤ R0.frames ∧ 8 + (nL' + 11) + lo ≤ R0.locals) (hd : decode cc pc = .ok (.invokevirtual index, 3)) : zRun E G A nL lay N ad pc lv st0 σ st N' (fun k => ad (ι k)) Qk := by
  obtain ⟨p, l, e, R, s, m, args, below, meth, c, Q, cz, sz⟩ := E
  obtain ⟨hx, hb0, hml, hown, hts, hK, hA, hR0, hcz, hsz⟩ := B
  subst hR0; subst hτ
  intro H locs ls hP hD hS hl
  have hP' := z_cutP (G := G) (σ := σ) hc hb hP
  have hD' := z_cutD hc hD
  have hpre := z_pre hM hK hP' hD'
  have hcw : CallW R s args own y.cls index y c' nL' ret (z_ws y c' nL' ret) (z_rm fr lo) 0 0 n :=
    ⟨callB_of n hts (z_goodIn hY.1) rfl rfl rfl (hts _ hY.1.1) (hts _ hlink) hY.1.2.2 hR, hts _ hY.2.1, hts _ hY.2.2⟩
  have hrecv := va_recv (ci := ci) (q := (y.cls, T, nf)) hK.1 hP'.w hci (by
    have := z_Wat (G := G) (lay := lay') (ad := fun k => ad (ι k)) (σ := fun k => σ (ι k)) hq
    rw [hk] at this
    exact this)
  rw [hAs] at hpre
  have hpre2 : PreV s H y.cls (ad (ι q)) (va_Pc (.ref (ad (ι q)) :: vs) (z_Pre G lay' N' (fun k => ad (ι k)) (fun k => σ (ι k)) H.size)) vs := ⟨hpre.1, hrecv, hpre.2⟩
  have hM' := hM l G (fun k => ad (ι k)) H.size
  rw [hAs] at hM'
  exact ⟨_, va_runV (As := vs) (rest := st) ⟨hx, hb0, hml, hown, hts⟩ hM' hcw hpre2 rfl hn hl.1 hst (lv_room (m := m) (pc := pc) (ls := ls) (rest := st0) hcat) hd ⟨hcz, hsz⟩⟩
theorem z_rS (B : zB E G A cc nL own R0) {y : MethodName} {c' : ByteArray} {nL' : Nat} {ret : Option FieldType} {fr lo n index : Nat} {As : (Nat → Nat) → List Value} {vs : List Value} {Qk : z_Qk} (hY : z_YS y c' nL' ret n) (hM : zMet y c' nL' ret fr lo lay' N' As τ Qk) (hτ : τ = fun k => σ (ι k)) (hc : z_cut lay N lay' N' ι κ b = true) (hb : b = true → ∀ k, ι k = k)
    (hAs : (As fun k => ad (ι k)) = vs) (hn : vs.length = n) (hst : st0 = vs.reverse ++ st) (hcat : (st.map fun v => v.category).sum ≤ 8)
    (hlink : Cond.methodLink own index y ∈ wsL_law) (hR : fr + 1 ≤ R0.frames ∧ 8 + (nL' + 11) + lo ≤ R0.locals) (hd : decode cc pc = .ok (.invokestatic index, 3)) : zRun E G A nL lay N ad pc lv st0 σ st N' (fun k => ad (ι k)) Qk := by
  obtain ⟨p, l, e, R, s, m, args, below, meth, c, Q, cz, sz⟩ := E
  obtain ⟨hx, hb0, hml, hown, hts, hK, hA, hR0, hcz, hsz⟩ := B
  subst hR0; subst hτ
  intro H locs ls hP hD hS hl
  have hP' := z_cutP (G := G) (σ := σ) hc hb hP
  have hD' := z_cutD hc hD
  have hpre := z_pre hM hK hP' hD'
  have hcw : CallB R s args own index y c' nL' ret (z_ws y c' nL' ret) (z_rm fr lo) 0 0 n ∧ (Cond.static y).before args s = true :=
    ⟨callB_of n hts (z_goodIn hY.1) rfl rfl rfl (hts _ hY.1.1) (hts _ hlink) hY.1.2.2 hR, hts _ hY.2⟩
  have hM' := hM l G (fun k => ad (ι k)) H.size
  subst hAs
  exact ⟨_, va_runS (As := As fun k => ad (ι k)) (rest := st) ⟨hx, hb0, hml, hown, hts⟩ hM' hcw hpre rfl hn hl.1 hst (lv_room (m := m) (pc := pc) (ls := ls) (rest := st0) hcat) hd ⟨hcz, hsz⟩⟩
theorem z_rN (B : zB E G A cc nL own R0) {y : MethodName} {c' : ByteArray} {nL' : Nat} {ret : Option FieldType} {fr lo n index : Nat} {host : String} {As : (Nat → Nat) → List Value} {vs : List Value} {Qk : z_Qk} (hY : z_YS y c' nL' ret n) (hM : zMet y c' nL' ret fr lo lay' N' As τ Qk) (hτ : τ = fun k => σ (ι k)) (hc : z_cut lay N lay' N' ι κ b = true) (hb : b = true → ∀ k, ι k = k)
    (hAs : (As fun k => ad (ι k)) = vs) (hn : vs.length = n) (hst : st0 = vs.reverse ++ st) (hcat : (st.map fun v => v.category).sum ≤ 8)
    (hlink : (own, index, y, host) ∈ z_nest) (hR : fr + 1 ≤ R0.frames ∧ 8 + (nL' + 11) + lo ≤ R0.locals) (hd : decode cc pc = .ok (.invokestatic index, 3)) : zRun E G A nL lay N ad pc lv st0 σ st N' (fun k => ad (ι k)) Qk := by
  obtain ⟨p, l, e, R, s, m, args, below, meth, c, Q, cz, sz⟩ := E
  obtain ⟨hx, hb0, hml, hown, hts, hK, hA, hR0, hcz, hsz⟩ := B
  subst hR0; subst hτ
  intro H locs ls hP hD hS hl
  have hP' := z_cutP (G := G) (σ := σ) hc hb hP
  have hD' := z_cutD hc hD
  have hpre := z_pre hM hK hP' hD'
  have hcw : va_CN R s args own index y host c' nL' ret (z_ws y c' nL' ret) (z_rm fr lo) 0 0 n ∧ (Cond.static y).before args s = true ∧ True :=
    ⟨va_cnB n hts (z_goodIn hY.1) rfl rfl rfl (hK.2 _ hlink) (hts _ hY.1.1) hY.1.2.2 hR, hts _ hY.2, trivial⟩
  have hM' := hM l G (fun k => ad (ι k)) H.size
  subst hAs
  exact ⟨_, va_runSN (As := As fun k => ad (ι k)) (rest := st) ⟨hx, hb0, hml, hown, hts⟩ hM' hcw hpre rfl hn hl.1 hst (lv_room (m := m) (pc := pc) (ls := ls) (rest := st0) hcat) hd ⟨hcz, hsz⟩⟩
theorem z_to {σ' : z_S} (he : σ' = σ) (kk : ZW E G A nL lay N ad pc lv st σ') : ZW E G A nL lay N ad pc lv st σ := he ▸ kk
theorem z_toA {σ' : z_S} (he : ∀ i, i < N → σ' i = σ i) (kk : ZW E G A nL lay N ad pc lv st σ') : ZW E G A nL lay N ad pc lv st σ := by
  obtain ⟨p, l, e, R, s, m, args, below, meth, c, Q, cz, sz⟩ := E
  intro H locs ls hP hD hS hl
  exact kk H locs ls (fun i hi => by rw [he i hi]; exact hP i hi) hD hS hl
theorem z_mid : ∀ i, i < N → τ' i = z_m σ (fun k => k) N τ' i := fun i hi => (if_pos hi).symm
theorem z_mro (hc : z_cut lay N lay' N' ι κ b = true) : ∀ i, i < N → σ i = z_m σ κ N' (fun k => σ (ι k)) i := by
  unfold z_cut at hc
  simp only [Bool.and_eq_true, List.all_eq_true, List.mem_range, decide_eq_true_eq, beq_iff_eq, Bool.or_eq_true, Bool.not_eq_true', decide_eq_false_iff_not] at hc
  intro i hi
  by_cases hκ : κ i < N'
  · rcases hc.2 i hi with h | h
    · exact absurd hκ h
    · simp only [z_m, if_pos hκ, h]
  · simp only [z_m, if_neg hκ]
theorem z_cut0 : z_cut lay N lay' 0 (fun k => k) (fun k => k) b = true := by simp [z_cut]
end ZC
def z_lay0 : Nat → z_K := fun _ => .inl (0, 0)
def z_hid : (true : Bool) = true → ∀ k : Nat, (fun k => k) k = k := fun _ _ => rfl
def z_hno {ι : Nat → Nat} : (false : Bool) = true → ∀ k : Nat, ι k = k := fun h => by cases h
theorem z_ifT {O : Type} {c : Prop} [Decidable c] {a b : Option O} {o : O} (hc : c) (h : (if c then a else b) = some o) : a = some o := by rw [if_pos hc] at h; exact h
theorem z_ifF {O : Type} {c : Prop} [Decidable c] {a b : Option O} {o : O} (hc : ¬ c) (h : (if c then a else b) = some o) : b = some o := by rw [if_neg hc] at h; exact h
/-- checks -/
def z_cki {O : Type} (x : Int32) (n : Nat) (X : Option O) : Option O := if ¬ (x < 0 ∨ n ≤ x.toNatClampNeg) then X else none
theorem z_ckiE {O : Type} {x : Int32} {n : Nat} {X : Option O} {o : O} (h : z_cki x n X = some o) : vp_in x n ∧ X = some o := z_ckE (c := ¬ (x < 0 ∨ n ≤ x.toNatClampNeg)) h
def z_f32 {O : Type} (r : UInt32) (X : Option O) : Option O := if r &&& 0x7fffffff ≤ 0x7f800000 then X else none
theorem z_f32E {O : Type} {r : UInt32} {X : Option O} {o : O} (h : z_f32 r X = some o) : vf_n32 r ∧ X = some o := z_ckE (c := r &&& 0x7fffffff ≤ 0x7f800000) h
def z_f64 {O : Type} (r : UInt64) (X : Option O) : Option O := if r &&& 0x7fffffffffffffff ≤ 0x7ff0000000000000 then X else none
theorem z_f64E {O : Type} {r : UInt64} {X : Option O} {o : O} (h : z_f64 r X = some o) : vf_n64 r ∧ X = some o := z_ckE (c := r &&& 0x7fffffffffffffff ≤ 0x7ff0000000000000) h
/-- a char is written to a field -/
def z_ckc {O : Type} (x : Int32) (X : Option O) : Option O := if narrow .char (.int x) = .int x ∧ fits .char (.int x) = true then X else none
theorem z_ckcE {O : Type} {x : Int32} {X : Option O} {o : O} (h : z_ckc x X = some o) : (narrow .char (.int x) = .int x ∧ fits .char (.int x) = true) ∧ X = some o := z_ckE h
/-- a boolean is returned -/
def z_ckz {O : Type} (x : Int32) (X : Option O) : Option O := if x = 0 ∨ x = 1 then X else none
theorem z_ckzE {O : Type} {x : Int32} {X : Option O} {o : O} (h : z_ckz x X = some o) : narrow .boolean (.int x) = .int x ∧ X = some o := by
  obtain ⟨h1, h2⟩ := z_ckE h
  refine ⟨?_, h2⟩
  rcases h1 with rfl | rfl <;> rfl
/-- calls in the pure text -/
def z_b1 {α O : Type} (v : Option α) (k : α → Option O) : Option O := match v with
  | none => none
  | some a => k a
def z_b2 {α β O : Type} (v : Option (α × β)) (k : α → β → Option O) : Option O := match v with
  | none => none
  | some (a, b) => k a b
theorem z_b1E {α O : Type} {v : Option α} {k : α → Option O} {o : O} (h : z_b1 v k = some o) : ∃ a, v = some a ∧ k a = some o := by
  cases v with
  | none => cases h
  | some a => exact ⟨a, rfl, h⟩
theorem z_b2E {α β O : Type} {v : Option (α × β)} {k : α → β → Option O} {o : O} (h : z_b2 v k = some o) : ∃ a b, v = some (a, b) ∧ k a b = some o := by
  cases v with
  | none => cases h
  | some a => exact ⟨a.1, a.2, rfl, h⟩
theorem z_prE {α β : Type} {a a' : α} {b b' : β} (h : some (a, b) = some (a', b')) : a = a' ∧ b = b' := by
  injection h with h
  injection h with h1 h2
  exact ⟨h1, h2⟩
