/-! THE LAYER z_: a world is cells by their numbers; a walk speaks of numbers alone -/
abbrev z_K : Type := (Nat × Nat) ⊕ (Nat × List (Option Nat))
abbrev z_G : Type := va_G × (ClassId × (ClassId × ClassId))
abbrev z_S : Type := Nat → Nat → Int32
abbrev z_En : Type := Program × Launch × Env × Room × State × MethodId × Array Value × List Frame × Method × Code × (State → Prop) × Nat × Nat
def z_nr (ad : Nat → Nat) (r : Nat) : Value := if r < 1000 then .ref (ad r) else .null
def z_fs (ad : Nat → Nat) (x : Nat → Int32) : Nat → List (Option Nat) → List Value
  | _, [] => []
  | j, none :: fs => .int (x j) :: z_fs ad x (j + 1) fs
  | j, some r :: fs => z_nr ad r :: z_fs ad x (j + 1) fs
def z_E (G : z_G) (ad : Nat → Nat) (x : Nat → Int32) (k : z_K) : va_E := match k with
  | .inl (0, n) => .inl (G.2.1, n, .inl x)
  | .inl (1, n) => .inl (G.2.2.1, n, .inl x)
  | .inl (t + 2, n) => .inl (G.2.2.2, n, .inr (.inr (.inr (.inr (fun j => some (ad (t + 38 * j)))))))
  | .inr (c, fs) => .inr (c, z_fs ad x 0 fs)
def z_tys (G : z_G) : List (ClassId × FieldType) := [(G.2.1, .int), (G.2.2.1, .char), (G.2.2.2, .object "PaperRounds$Town")]
def z_nest : List (String × Nat × MethodName × String) := [
  ("PaperRounds", 9, ⟨"PaperRounds$Town", "<init>", "()V"⟩, "PaperRounds"),
  ("PaperRounds$Town", 34, ⟨"PaperRounds$Houses", "<init>", "()V"⟩, "PaperRounds"),
  ("PaperRounds$Town", 41, ⟨"PaperRounds$Pauses", "<init>", "()V"⟩, "PaperRounds"),
  ("PaperRounds$Town", 48, ⟨"PaperRounds$Carriers", "<init>", "()V"⟩, "PaperRounds"),
  ("PaperRounds$History", 24, ⟨"PaperRounds$Town", "<init>", "()V"⟩, "PaperRounds"),
  ("PaperRounds", 25, ⟨"PaperRounds$Walk", "<init>", "()V"⟩, "PaperRounds"),
  ("PaperRounds", 32, ⟨"PaperRounds$Text", "<init>", "()V"⟩, "PaperRounds"),
  ("PaperRounds", 39, ⟨"PaperRounds$Trial", "<init>", "()V"⟩, "PaperRounds"),
  ("PaperRounds$Trial", 11, ⟨"PaperRounds$Town", "<init>", "()V"⟩, "PaperRounds"),
  ("PaperRounds$Town", 53, ⟨"PaperRounds", "copy", "([I[II)V"⟩, "PaperRounds"),
  ("PaperRounds$Streets", 40, ⟨"PaperRounds", "copy", "([I[II)V"⟩, "PaperRounds"),
  ("PaperRounds$Houses", 58, ⟨"PaperRounds", "copy", "([I[II)V"⟩, "PaperRounds"),
  ("PaperRounds$Pauses", 25, ⟨"PaperRounds", "copy", "([I[II)V"⟩, "PaperRounds"),
  ("PaperRounds$Carriers", 37, ⟨"PaperRounds", "copy", "([I[II)V"⟩, "PaperRounds"),
  ("PaperRounds$Streets", 44, ⟨"PaperRounds", "within", "(III)Z"⟩, "PaperRounds"),
  ("PaperRounds$Town", 74, ⟨"PaperRounds", "within", "(III)Z"⟩, "PaperRounds"),
  ("PaperRounds$Houses", 62, ⟨"PaperRounds", "within", "(III)Z"⟩, "PaperRounds"),
  ("PaperRounds$Carriers", 41, ⟨"PaperRounds", "within", "(III)Z"⟩, "PaperRounds"),
  ("PaperRounds$Text", 30, ⟨"PaperRounds", "within", "(III)Z"⟩, "PaperRounds")]
def z_Kp (G : z_G) (U : State) : Prop := va_K G.1 vwCl (z_tys G) U ∧ ∀ q ∈ z_nest, va_Nw (.methodLinkNest q.1 q.2.1 q.2.2.1 q.2.2.2) U
theorem z_Kp.warm {G : z_G} {s U : State} (hW : s.WarmedH U.vm) (h : z_Kp G s) : z_Kp G U := ⟨va_K.moved hW.alike h.1, fun q hq => va_Nw.warmM hW (h.2 q hq)⟩
theorem z_Kp.calling {G : z_G} {U : State} {g : JFrame} {mk : MethodId} {a : Array Value} (h : z_Kp G U) : z_Kp G (U.calling g mk a) := ⟨va_K.moved (u := U) (U := U.calling g mk a) (Vm.Alike.refl U.vm) h.1, fun q hq => va_Nw.same rfl rfl (h.2 q hq)⟩
/-- the world as a list -/
def z_W (G : z_G) (lay : Nat → z_K) (N : Nat) (ad : Nat → Nat) (σ : z_S) : va_W := (List.range N).map (fun i => (ad i, z_E G ad (σ i) (lay i)))
def z_P (G : z_G) (lay : Nat → z_K) (N : Nat) (ad : Nat → Nat) (σ : z_S) (H : Heap) : Prop := ∀ i, i < N → va_at G.1 vwCl (ad i, z_E G ad (σ i) (lay i)) H
def z_D (A : Nat → Prop) (N : Nat) (ad : Nat → Nat) : Prop := (∀ i j, i < N → j < N → ad i = ad j → i = j) ∧ ∀ i, i < N → A (ad i)
def z_A (N : Nat) (ad : Nat → Nat) (sz : Nat) : Nat → Prop := fun q => (∃ i, i < N ∧ q = ad i) ∨ sz ≤ q
theorem z_Wat {G : z_G} {lay : Nat → z_K} {N : Nat} {ad : Nat → Nat} {σ : z_S} {i : Nat} (h : i < N) : (z_W G lay N ad σ)[i]? = some (ad i, z_E G ad (σ i) (lay i)) := by
  simp [z_W, h]
theorem z_Wof {G : z_G} {lay : Nat → z_K} {N : Nat} {ad : Nat → Nat} {σ : z_S} {i : Nat} {q : Nat × va_E} (h : (z_W G lay N ad σ)[i]? = some q) : i < N ∧ q = (ad i, z_E G ad (σ i) (lay i)) := by
  have hl := (List.getElem?_eq_some_iff.mp h).1
  have hN : i < N := by simpa [z_W] using hl
  rw [z_Wat hN] at h
  exact ⟨hN, (Option.some.inj h).symm⟩
theorem z_P.w {G : z_G} {lay : Nat → z_K} {N : Nat} {ad : Nat → Nat} {σ : z_S} {H : Heap} (h : z_P G lay N ad σ H) : va_P G.1 vwCl (z_W G lay N ad σ) H := by
  intro k q hk
  obtain ⟨hN, rfl⟩ := z_Wof hk
  exact h k hN
theorem z_P.of {G : z_G} {lay : Nat → z_K} {N : Nat} {ad : Nat → Nat} {σ : z_S} {H : Heap} (h : va_P G.1 vwCl (z_W G lay N ad σ) H) : z_P G lay N ad σ H := fun i hi => h i _ (z_Wat hi)
theorem z_D.w {G : z_G} {lay : Nat → z_K} {N : Nat} {ad : Nat → Nat} {σ : z_S} {A : Nat → Prop} (h : z_D A N ad) : va_D A (z_W G lay N ad σ) := by
  refine ⟨fun i j p q hi hj e => ?_, fun k q hk => ?_⟩
  · obtain ⟨h1, rfl⟩ := z_Wof hi
    obtain ⟨h2, rfl⟩ := z_Wof hj
    exact h.1 i j h1 h2 e
  · obtain ⟨h1, rfl⟩ := z_Wof hk
    exact h.2 k h1
theorem z_Wset {G : z_G} {lay : Nat → z_K} {N : Nat} {ad : Nat → Nat} {σ σ' : z_S} {i : Nat} {e : va_E} (hi : i < N) (he : e = z_E G ad (σ' i) (lay i)) (ho : ∀ a, a ≠ i → σ' a = σ a) : (z_W G lay N ad σ).set i (ad i, e) = z_W G lay N ad σ' := by
  apply List.ext_getElem?
  intro k
  by_cases hk : k < N
  · by_cases hki : k = i
    · subst hki
      rw [List.getElem?_set_self (by simpa [z_W] using hk), z_Wat hk, he]
    · rw [List.getElem?_set_ne (Ne.symm hki), z_Wat hk, z_Wat hk, ho k hki]
  · rw [List.getElem?_eq_none (by simpa [z_W] using hk), List.getElem?_eq_none (by simpa [z_W] using hk)]
/-- one number of one cell -/
def z_u (σ : z_S) (i j : Nat) (v : Int32) : z_S := fun a => if a = i then (fun b => if b = j then v else σ a b) else σ a
theorem z_u_i (σ : z_S) (i j : Nat) (v : Int32) : z_u σ i j v i = upd (σ i) j v := by
  funext b
  simp [z_u, upd]
theorem z_u_o {σ : z_S} {i j : Nat} {v : Int32} {a : Nat} (h : a ≠ i) : z_u σ i j v a = σ a := by simp [z_u, h]
theorem z_fs_get {ad : Nat → Nat} {x : Nat → Int32} : ∀ (fs : List (Option Nat)) (b j : Nat), fs[j]? = some none → (z_fs ad x b fs)[j]? = some (.int (x (b + j)))
  | none :: fs, b, 0, _ => by simp [z_fs]
  | some r :: fs, b, 0, h => by simp at h
  | none :: fs, b, j + 1, h => by
    simp only [z_fs, List.getElem?_cons_succ] at h ⊢
    rw [z_fs_get fs (b + 1) j h, show b + 1 + j = b + (j + 1) from by omega]
  | some r :: fs, b, j + 1, h => by
    simp only [z_fs, List.getElem?_cons_succ] at h ⊢
    rw [z_fs_get fs (b + 1) j h, show b + 1 + j = b + (j + 1) from by omega]
theorem z_fs_getr {ad : Nat → Nat} {x : Nat → Int32} : ∀ (fs : List (Option Nat)) (b j r : Nat), fs[j]? = some (some r) → (z_fs ad x b fs)[j]? = some (z_nr ad r)
  | some r :: fs, b, 0, r', h => by
    simp at h
    simp [z_fs, h]
  | none :: fs, b, 0, r', h => by simp at h
  | none :: fs, b, j + 1, r', h => by
    simp only [z_fs, List.getElem?_cons_succ] at h ⊢
    exact z_fs_getr fs (b + 1) j r' h
  | some r :: fs, b, j + 1, r', h => by
    simp only [z_fs, List.getElem?_cons_succ] at h ⊢
    exact z_fs_getr fs (b + 1) j r' h
theorem z_fs_keep {ad : Nat → Nat} {x : Nat → Int32} {v : Int32} : ∀ (fs : List (Option Nat)) (b j : Nat), j < b → z_fs ad (upd x j v) b fs = z_fs ad x b fs
  | [], b, j, _ => rfl
  | none :: fs, b, j, h => by
    simp only [z_fs]
    rw [z_fs_keep fs (b + 1) j (by omega)]
    have hb : b ≠ j := by omega
    simp [upd, hb]
  | some r :: fs, b, j, h => by
    simp only [z_fs]
    rw [z_fs_keep fs (b + 1) j (by omega)]
theorem z_fs_set {ad : Nat → Nat} {x : Nat → Int32} {v : Int32} : ∀ (fs : List (Option Nat)) (b j : Nat), fs[j]? = some none → (z_fs ad x b fs).set j (.int v) = z_fs ad (upd x (b + j) v) b fs
  | none :: fs, b, 0, _ => by
    simp only [z_fs, List.set_cons_zero, Nat.add_zero]
    rw [z_fs_keep fs (b + 1) b (by omega)]
    simp [upd]
  | some r :: fs, b, 0, h => by simp at h
  | none :: fs, b, j + 1, h => by
    simp only [z_fs, List.set_cons_succ, List.getElem?_cons_succ] at h ⊢
    rw [z_fs_set fs (b + 1) j h, show b + 1 + j = b + (j + 1) from by omega]
    have hb : b ≠ b + (j + 1) := by omega
    simp [upd, hb]
  | some r :: fs, b, j + 1, h => by
    simp only [z_fs, List.set_cons_succ, List.getElem?_cons_succ] at h ⊢
    rw [z_fs_set fs (b + 1) j h, show b + 1 + j = b + (j + 1) from by omega]
theorem z_fs_len {ad : Nat → Nat} {x : Nat → Int32} : ∀ (fs : List (Option Nat)) (b : Nat), (z_fs ad x b fs).length = fs.length
  | [], b => rfl
  | none :: fs, b => by simp [z_fs, z_fs_len fs]
  | some r :: fs, b => by simp [z_fs, z_fs_len fs]
/-- the machine at a frame, over any heap that holds the world -/
def ZW (E : z_En) (G : z_G) (A : Nat → Prop) (nL : Nat) (lay : Nat → z_K) (N : Nat) (ad : Nat → Nat) (pc : Nat) (lv : List (Nat × Value)) (st : List Value) (σ : z_S) : Prop :=
  match E with
  | (p, l, e, R, s, m, args, below, meth, c, Q, cz, sz) => ∀ (H : Heap) (locs : List Loc) (ls : Array Slot), z_P G lay N ad σ H → z_D A N ad → va_S A s.heap H locs → lv_has ls nL lv → W p l e R s m args below meth c H locs cz sz Q (F0 m pc ls st)
def zB (E : z_En) (G : z_G) (A : Nat → Prop) (cc : ByteArray) (nL : Nat) (own : String) (R0 : Room) : Prop :=
  match E with
  | (p, l, e, R, s, m, args, below, meth, c, Q, cz, sz) => p.tables.exec = Jvm.exec ∧ c.code = cc ∧ c.maxLocals = nL ∧ s.vm.findClass own = some m.cls ∧ (∀ w ∈ wsL_law, w.before args s = true) ∧ z_Kp G s ∧ (∀ q, s.heap.size ≤ q → A q) ∧ R = R0 ∧ cz ≤ R0.cells ∧ sz ≤ R0.slots
def z_ck {O : Type} (c : Prop) [Decidable c] (X : Option O) : Option O := if c then X else none
theorem z_ckE {O : Type} {c : Prop} [Decidable c] {X : Option O} {o : O} (h : z_ck c X = some o) : c ∧ X = some o := by
  unfold z_ck at h
  by_cases hc : c
  · rw [if_pos hc] at h
    exact ⟨hc, h⟩
  · rw [if_neg hc] at h
    cases h
theorem z_ckT {O : Type} {c : Prop} [Decidable c] {X : Option O} (h : c) : z_ck c X = X := if_pos h
def z_let {α O : Type} (v : α) (k : α → Option O) : Option O := k v
theorem z_letE {α O : Type} {v : α} {k : α → Option O} {o : O} (h : z_let v k = some o) : ∃ x, x = v ∧ k x = some o := ⟨v, rfl, h⟩
theorem z_bindE {α O : Type} {v : Option α} {k : α → Option O} {o : O} (h : v.bind k = some o) : ∃ x, v = some x ∧ k x = some o := by
  cases v with
  | none => cases h
  | some x => exact ⟨x, rfl, h⟩
def z_Fu : Nat := 4096
def z_lp1 {S1 O : Type} (body : (S1 → Option O) → S1 → Option O) : Nat → S1 → Option O
  | 0 => fun _ => none
  | n + 1 => fun x1 => body (z_lp1 body n) x1
theorem z_lpr1 {S1 O : Type} {body : (S1 → Option O) → S1 → Option O} {g : S1 → Prop} {o : O} (hs : ∀ (k : S1 → Option O) (x1 : S1), (∀ (y1 : S1), k y1 = some o → g y1) → body k x1 = some o → g x1) : ∀ (n : Nat) (x1 : S1), z_lp1 body n x1 = some o → g x1
  | 0, x1, h => by cases h
  | n + 1, x1, h => hs (z_lp1 body n) x1 (fun y1 hk => z_lpr1 hs n y1 hk) h
def z_lp2 {S1 S2 O : Type} (body : (S1 → S2 → Option O) → S1 → S2 → Option O) : Nat → S1 → S2 → Option O
  | 0 => fun _ _ => none
  | n + 1 => fun x1 x2 => body (z_lp2 body n) x1 x2
theorem z_lpr2 {S1 S2 O : Type} {body : (S1 → S2 → Option O) → S1 → S2 → Option O} {g : S1 → S2 → Prop} {o : O} (hs : ∀ (k : S1 → S2 → Option O) (x1 : S1) (x2 : S2), (∀ (y1 : S1) (y2 : S2), k y1 y2 = some o → g y1 y2) → body k x1 x2 = some o → g x1 x2) : ∀ (n : Nat) (x1 : S1) (x2 : S2), z_lp2 body n x1 x2 = some o → g x1 x2
  | 0, x1, x2, h => by cases h
  | n + 1, x1, x2, h => hs (z_lp2 body n) x1 x2 (fun y1 y2 hk => z_lpr2 hs n y1 y2 hk) h
def z_lp3 {S1 S2 S3 O : Type} (body : (S1 → S2 → S3 → Option O) → S1 → S2 → S3 → Option O) : Nat → S1 → S2 → S3 → Option O
  | 0 => fun _ _ _ => none
  | n + 1 => fun x1 x2 x3 => body (z_lp3 body n) x1 x2 x3
theorem z_lpr3 {S1 S2 S3 O : Type} {body : (S1 → S2 → S3 → Option O) → S1 → S2 → S3 → Option O} {g : S1 → S2 → S3 → Prop} {o : O} (hs : ∀ (k : S1 → S2 → S3 → Option O) (x1 : S1) (x2 : S2) (x3 : S3), (∀ (y1 : S1) (y2 : S2) (y3 : S3), k y1 y2 y3 = some o → g y1 y2 y3) → body k x1 x2 x3 = some o → g x1 x2 x3) : ∀ (n : Nat) (x1 : S1) (x2 : S2) (x3 : S3), z_lp3 body n x1 x2 x3 = some o → g x1 x2 x3
  | 0, x1, x2, x3, h => by cases h
  | n + 1, x1, x2, x3, h => hs (z_lp3 body n) x1 x2 x3 (fun y1 y2 y3 hk => z_lpr3 hs n y1 y2 y3 hk) h
def z_lp4 {S1 S2 S3 S4 O : Type} (body : (S1 → S2 → S3 → S4 → Option O) → S1 → S2 → S3 → S4 → Option O) : Nat → S1 → S2 → S3 → S4 → Option O
  | 0 => fun _ _ _ _ => none
  | n + 1 => fun x1 x2 x3 x4 => body (z_lp4 body n) x1 x2 x3 x4
theorem z_lpr4 {S1 S2 S3 S4 O : Type} {body : (S1 → S2 → S3 → S4 → Option O) → S1 → S2 → S3 → S4 → Option O} {g : S1 → S2 → S3 → S4 → Prop} {o : O} (hs : ∀ (k : S1 → S2 → S3 → S4 → Option O) (x1 : S1) (x2 : S2) (x3 : S3) (x4 : S4), (∀ (y1 : S1) (y2 : S2) (y3 : S3) (y4 : S4), k y1 y2 y3 y4 = some o → g y1 y2 y3 y4) → body k x1 x2 x3 x4 = some o → g x1 x2 x3 x4) : ∀ (n : Nat) (x1 : S1) (x2 : S2) (x3 : S3) (x4 : S4), z_lp4 body n x1 x2 x3 x4 = some o → g x1 x2 x3 x4
  | 0, x1, x2, x3, x4, h => by cases h
  | n + 1, x1, x2, x3, x4, h => hs (z_lp4 body n) x1 x2 x3 x4 (fun y1 y2 y3 y4 hk => z_lpr4 hs n y1 y2 y3 y4 hk) h
def z_lp5 {S1 S2 S3 S4 S5 O : Type} (body : (S1 → S2 → S3 → S4 → S5 → Option O) → S1 → S2 → S3 → S4 → S5 → Option O) : Nat → S1 → S2 → S3 → S4 → S5 → Option O
  | 0 => fun _ _ _ _ _ => none
  | n + 1 => fun x1 x2 x3 x4 x5 => body (z_lp5 body n) x1 x2 x3 x4 x5
theorem z_lpr5 {S1 S2 S3 S4 S5 O : Type} {body : (S1 → S2 → S3 → S4 → S5 → Option O) → S1 → S2 → S3 → S4 → S5 → Option O} {g : S1 → S2 → S3 → S4 → S5 → Prop} {o : O} (hs : ∀ (k : S1 → S2 → S3 → S4 → S5 → Option O) (x1 : S1) (x2 : S2) (x3 : S3) (x4 : S4) (x5 : S5), (∀ (y1 : S1) (y2 : S2) (y3 : S3) (y4 : S4) (y5 : S5), k y1 y2 y3 y4 y5 = some o → g y1 y2 y3 y4 y5) → body k x1 x2 x3 x4 x5 = some o → g x1 x2 x3 x4 x5) : ∀ (n : Nat) (x1 : S1) (x2 : S2) (x3 : S3) (x4 : S4) (x5 : S5), z_lp5 body n x1 x2 x3 x4 x5 = some o → g x1 x2 x3 x4 x5
  | 0, x1, x2, x3, x4, x5, h => by cases h
  | n + 1, x1, x2, x3, x4, x5, h => hs (z_lp5 body n) x1 x2 x3 x4 x5 (fun y1 y2 y3 y4 y5 hk => z_lpr5 hs n y1 y2 y3 y4 y5 hk) h
def z_lp6 {S1 S2 S3 S4 S5 S6 O : Type} (body : (S1 → S2 → S3 → S4 → S5 → S6 → Option O) → S1 → S2 → S3 → S4 → S5 → S6 → Option O) : Nat → S1 → S2 → S3 → S4 → S5 → S6 → Option O
  | 0 => fun _ _ _ _ _ _ => none
  | n + 1 => fun x1 x2 x3 x4 x5 x6 => body (z_lp6 body n) x1 x2 x3 x4 x5 x6
theorem z_lpr6 {S1 S2 S3 S4 S5 S6 O : Type} {body : (S1 → S2 → S3 → S4 → S5 → S6 → Option O) → S1 → S2 → S3 → S4 → S5 → S6 → Option O} {g : S1 → S2 → S3 → S4 → S5 → S6 → Prop} {o : O} (hs : ∀ (k : S1 → S2 → S3 → S4 → S5 → S6 → Option O) (x1 : S1) (x2 : S2) (x3 : S3) (x4 : S4) (x5 : S5) (x6 : S6), (∀ (y1 : S1) (y2 : S2) (y3 : S3) (y4 : S4) (y5 : S5) (y6 : S6), k y1 y2 y3 y4 y5 y6 = some o → g y1 y2 y3 y4 y5 y6) → body k x1 x2 x3 x4 x5 x6 = some o → g x1 x2 x3 x4 x5 x6) : ∀ (n : Nat) (x1 : S1) (x2 : S2) (x3 : S3) (x4 : S4) (x5 : S5) (x6 : S6), z_lp6 body n x1 x2 x3 x4 x5 x6 = some o → g x1 x2 x3 x4 x5 x6
  | 0, x1, x2, x3, x4, x5, x6, h => by cases h
  | n + 1, x1, x2, x3, x4, x5, x6, h => hs (z_lp6 body n) x1 x2 x3 x4 x5 x6 (fun y1 y2 y3 y4 y5 y6 hk => z_lpr6 hs n y1 y2 y3 y4 y5 y6 hk) h
def z_lp7 {S1 S2 S3 S4 S5 S6 S7 O : Type} (body : (S1 → S2 → S3 → S4 → S5 → S6 → S7 → Option O) → S1 → S2 → S3 → S4 → S5 → S6 → S7 → Option O) : Nat → S1 → S2 → S3 → S4 → S5 → S6 → S7 → Option O
  | 0 => fun _ _ _ _ _ _ _ => none
  | n + 1 => fun x1 x2 x3 x4 x5 x6 x7 => body (z_lp7 body n) x1 x2 x3 x4 x5 x6 x7
theorem z_lpr7 {S1 S2 S3 S4 S5 S6 S7 O : Type} {body : (S1 → S2 → S3 → S4 → S5 → S6 → S7 → Option O) → S1 → S2 → S3 → S4 → S5 → S6 → S7 → Option O} {g : S1 → S2 → S3 → S4 → S5 → S6 → S7 → Prop} {o : O} (hs : ∀ (k : S1 → S2 → S3 → S4 → S5 → S6 → S7 → Option O) (x1 : S1) (x2 : S2) (x3 : S3) (x4 : S4) (x5 : S5) (x6 : S6) (x7 : S7), (∀ (y1 : S1) (y2 : S2) (y3 : S3) (y4 : S4) (y5 : S5) (y6 : S6) (y7 : S7), k y1 y2 y3 y4 y5 y6 y7 = some o → g y1 y2 y3 y4 y5 y6 y7) → body k x1 x2 x3 x4 x5 x6 x7 = some o → g x1 x2 x3 x4 x5 x6 x7) : ∀ (n : Nat) (x1 : S1) (x2 : S2) (x3 : S3) (x4 : S4) (x5 : S5) (x6 : S6) (x7 : S7), z_lp7 body n x1 x2 x3 x4 x5 x6 x7 = some o → g x1 x2 x3 x4 x5 x6 x7
  | 0, x1, x2, x3, x4, x5, x6, x7, h => by cases h
  | n + 1, x1, x2, x3, x4, x5, x6, x7, h => hs (z_lp7 body n) x1 x2 x3 x4 x5 x6 x7 (fun y1 y2 y3 y4 y5 y6 y7 hk => z_lpr7 hs n y1 y2 y3 y4 y5 y6 y7 hk) h
def z_lp8 {S1 S2 S3 S4 S5 S6 S7 S8 O : Type} (body : (S1 → S2 → S3 → S4 → S5 → S6 → S7 → S8 → Option O) → S1 → S2 → S3 → S4 → S5 → S6 → S7 → S8 → Option O) : Nat → S1 → S2 → S3 → S4 → S5 → S6 → S7 → S8 → Option O
  | 0 => fun _ _ _ _ _ _ _ _ => none
  | n + 1 => fun x1 x2 x3 x4 x5 x6 x7 x8 => body (z_lp8 body n) x1 x2 x3 x4 x5 x6 x7 x8
theorem z_lpr8 {S1 S2 S3 S4 S5 S6 S7 S8 O : Type} {body : (S1 → S2 → S3 → S4 → S5 → S6 → S7 → S8 → Option O) → S1 → S2 → S3 → S4 → S5 → S6 → S7 → S8 → Option O} {g : S1 → S2 → S3 → S4 → S5 → S6 → S7 → S8 → Prop} {o : O} (hs : ∀ (k : S1 → S2 → S3 → S4 → S5 → S6 → S7 → S8 → Option O) (x1 : S1) (x2 : S2) (x3 : S3) (x4 : S4) (x5 : S5) (x6 : S6) (x7 : S7) (x8 : S8), (∀ (y1 : S1) (y2 : S2) (y3 : S3) (y4 : S4) (y5 : S5) (y6 : S6) (y7 : S7) (y8 : S8), k y1 y2 y3 y4 y5 y6 y7 y8 = some o → g y1 y2 y3 y4 y5 y6 y7 y8) → body k x1 x2 x3 x4 x5 x6 x7 x8 = some o → g x1 x2 x3 x4 x5 x6 x7 x8) : ∀ (n : Nat) (x1 : S1) (x2 : S2) (x3 : S3) (x4 : S4) (x5 : S5) (x6 : S6) (x7 : S7) (x8 : S8), z_lp8 body n x1 x2 x3 x4 x5 x6 x7 x8 = some o → g x1 x2 x3 x4 x5 x6 x7 x8
  | 0, x1, x2, x3, x4, x5, x6, x7, x8, h => by cases h
  | n + 1, x1, x2, x3, x4, x5, x6, x7, x8, h => hs (z_lp8 body n) x1 x2 x3 x4 x5 x6 x7 x8 (fun y1 y2 y3 y4 y5 y6 y7 y8 hk => z_lpr8 hs n y1 y2 y3 y4 y5 y6 y7 y8 hk) h
def z_lp9 {S1 S2 S3 S4 S5 S6 S7 S8 S9 O : Type} (body : (S1 → S2 → S3 → S4 → S5 → S6 → S7 → S8 → S9 → Option O) → S1 → S2 → S3 → S4 → S5 → S6 → S7 → S8 → S9 → Option O) : Nat → S1 → S2 → S3 → S4 → S5 → S6 → S7 → S8 → S9 → Option O
  | 0 => fun _ _ _ _ _ _ _ _ _ => none
  | n + 1 => fun x1 x2 x3 x4 x5 x6 x7 x8 x9 => body (z_lp9 body n) x1 x2 x3 x4 x5 x6 x7 x8 x9
theorem z_lpr9 {S1 S2 S3 S4 S5 S6 S7 S8 S9 O : Type} {body : (S1 → S2 → S3 → S4 → S5 → S6 → S7 → S8 → S9 → Option O) → S1 → S2 → S3 → S4 → S5 → S6 → S7 → S8 → S9 → Option O} {g : S1 → S2 → S3 → S4 → S5 → S6 → S7 → S8 → S9 → Prop} {o : O} (hs : ∀ (k : S1 → S2 → S3 → S4 → S5 → S6 → S7 → S8 → S9 → Option O) (x1 : S1) (x2 : S2) (x3 : S3) (x4 : S4) (x5 : S5) (x6 : S6) (x7 : S7) (x8 : S8) (x9 : S9), (∀ (y1 : S1) (y2 : S2) (y3 : S3) (y4 : S4) (y5 : S5) (y6 : S6) (y7 : S7) (y8 : S8) (y9 : S9), k y1 y2 y3 y4 y5 y6 y7 y8 y9 = some o → g y1 y2 y3 y4 y5 y6 y7 y8 y9) → body k x1 x2 x3 x4 x5 x6 x7 x8 x9 = some o → g x1 x2 x3 x4 x5 x6 x7 x8 x9) : ∀ (n : Nat) (x1 : S1) (x2 : S2) (x3 : S3) (x4 : S4) (x5 : S5) (x6 : S6) (x7 : S7) (x8 : S8) (x9 : S9), z_lp9 body n x1 x2 x3 x4 x5 x6 x7 x8 x9 = some o → g x1 x2 x3 x4 x5 x6 x7 x8 x9
  | 0, x1, x2, x3, x4, x5, x6, x7, x8, x9, h => by cases h
  | n + 1, x1, x2, x3, x4, x5, x6, x7, x8, x9, h => hs (z_lp9 body n) x1 x2 x3 x4 x5 x6 x7 x8 x9 (fun y1 y2 y3 y4 y5 y6 y7 y8 y9 hk => z_lpr9 hs n y1 y2 y3 y4 y5 y6 y7 y8 y9 hk) h
section ZR
variable {E : z_En} {G : z_G} {A : Nat → Prop} {cc : ByteArray} {nL : Nat} {own : String} {R0 : Room} {lay : Nat → z_K} {N : Nat} {ad : Nat → Nat} {pc : Nat} {lv : List (Nat × Value)} {st : List Value} {σ : z_S}
theorem z_iconst (B : zB E G A cc nL own R0) {n : Int} {v : Int32} (hd : decode cc pc = .ok (.iconst n, 1)) (hv : Int32.ofInt n = v) (kk : ZW E G A nL lay N ad (pc + 1) lv (.int v :: st) σ) : ZW E G A nL lay N ad (pc) lv (st) σ := by
  obtain ⟨p, l, e, R, s, m, args, below, meth, c, Q, cz, sz⟩ := E
  obtain ⟨hx, hb, hml, hown, hts, hK, hA, hR, hcz, hsz⟩ := B
  intro H locs ls hP hD hS hl'
  exact lv_iconst hx hb hd hv (kk H locs ls hP hD hS hl')
theorem z_bipush (B : zB E G A cc nL own R0) {n : Int} {v : Int32} (hd : decode cc pc = .ok (.bipush n, 2)) (hv : (Int8.ofInt n).toInt32 = v) (kk : ZW E G A nL lay N ad (pc + 2) lv (.int v :: st) σ) : ZW E G A nL lay N ad (pc) lv (st) σ := by
  obtain ⟨p, l, e, R, s, m, args, below, meth, c, Q, cz, sz⟩ := E
  obtain ⟨hx, hb, hml, hown, hts, hK, hA, hR, hcz, hsz⟩ := B
  intro H locs ls hP hD hS hl'
  exact lv_bipush hx hb hd hv (kk H locs ls hP hD hS hl')
theorem z_sipush (B : zB E G A cc nL own R0) {n : Int} {v : Int32} (hd : decode cc pc = .ok (.sipush n, 3)) (hv : (Int16.ofInt n).toInt32 = v) (kk : ZW E G A nL lay N ad (pc + 3) lv (.int v :: st) σ) : ZW E G A nL lay N ad (pc) lv (st) σ := by
  obtain ⟨p, l, e, R, s, m, args, below, meth, c, Q, cz, sz⟩ := E
  obtain ⟨hx, hb, hml, hown, hts, hK, hA, hR, hcz, hsz⟩ := B
  intro H locs ls hP hD hS hl'
  exact lv_sipush hx hb hd hv (kk H locs ls hP hD hS hl')
theorem z_iload_n (B : zB E G A cc nL own R0) (q : Nat) {k : Fin 4} {i : Nat} {x : Int32} (hd : decode cc pc = .ok (.iload_n k, 1)) (hi : (k : Nat) = i) (hl : lv[q]? = some (i, .int x)) (kk : ZW E G A nL lay N ad (pc + 1) lv (.int x :: st) σ) : ZW E G A nL lay N ad (pc) lv (st) σ := by
  obtain ⟨p, l, e, R, s, m, args, below, meth, c, Q, cz, sz⟩ := E
  obtain ⟨hx, hb, hml, hown, hts, hK, hA, hR, hcz, hsz⟩ := B
  intro H locs ls hP hD hS hl'
  exact lv_iload_n hx hb hd hi (lv_at hl' q hl) (kk H locs ls hP hD hS hl')
theorem z_iload (B : zB E G A cc nL own R0) (q : Nat) {i : Nat} {x : Int32} (hd : decode cc pc = .ok (.iload i, 2)) (hl : lv[q]? = some (i, .int x)) (kk : ZW E G A nL lay N ad (pc + 2) lv (.int x :: st) σ) : ZW E G A nL lay N ad (pc) lv (st) σ := by
  obtain ⟨p, l, e, R, s, m, args, below, meth, c, Q, cz, sz⟩ := E
  obtain ⟨hx, hb, hml, hown, hts, hK, hA, hR, hcz, hsz⟩ := B
  intro H locs ls hP hD hS hl'
  exact lv_iload hx hb hd (lv_at hl' q hl) (kk H locs ls hP hD hS hl')
theorem z_istore_n (B : zB E G A cc nL own R0) (lv' : List (Nat × Value)) {k : Fin 4} {i : Nat} {x y : Int32} (hd : decode cc pc = .ok (.istore_n k, 1)) (hi : (k : Nat) = i) (hn : i < nL) (he : y = x) (hl : (i, Value.int y) :: lv.filter (fun q => !(q.1 == i) && !(q.1 + 1 == i && q.2.category == 2)) = lv') (kk : ZW E G A nL lay N ad (pc + 1) lv' (st) σ) : ZW E G A nL lay N ad (pc) lv (.int x :: st) σ := by
  obtain ⟨p, l, e, R, s, m, args, below, meth, c, Q, cz, sz⟩ := E
  obtain ⟨hx, hb, hml, hown, hts, hK, hA, hR, hcz, hsz⟩ := B
  intro H locs ls hP hD hS hl'
  subst he; exact lv_istore_n hx hb hd hi hl' hn hl (fun ls hl2 => kk H locs ls hP hD hS hl2)
theorem z_istore (B : zB E G A cc nL own R0) (lv' : List (Nat × Value)) {i : Nat} {x y : Int32} (hd : decode cc pc = .ok (.istore i, 2)) (hn : i < nL) (he : y = x) (hl : (i, Value.int y) :: lv.filter (fun q => !(q.1 == i) && !(q.1 + 1 == i && q.2.category == 2)) = lv') (kk : ZW E G A nL lay N ad (pc + 2) lv' (st) σ) : ZW E G A nL lay N ad (pc) lv (.int x :: st) σ := by
  obtain ⟨p, l, e, R, s, m, args, below, meth, c, Q, cz, sz⟩ := E
  obtain ⟨hx, hb, hml, hown, hts, hK, hA, hR, hcz, hsz⟩ := B
  intro H locs ls hP hD hS hl'
  subst he; exact lv_istore hx hb hd hl' hn hl (fun ls hl2 => kk H locs ls hP hD hS hl2)
theorem z_aload_n (B : zB E G A cc nL own R0) (q : Nat) {k : Fin 4} {i : Nat} {x : Nat} (hd : decode cc pc = .ok (.aload_n k, 1)) (hi : (k : Nat) = i) (hl : lv[q]? = some (i, .ref x)) (kk : ZW E G A nL lay N ad (pc + 1) lv (.ref x :: st) σ) : ZW E G A nL lay N ad (pc) lv (st) σ := by
  obtain ⟨p, l, e, R, s, m, args, below, meth, c, Q, cz, sz⟩ := E
  obtain ⟨hx, hb, hml, hown, hts, hK, hA, hR, hcz, hsz⟩ := B
  intro H locs ls hP hD hS hl'
  exact lv_aload_n hx hb hd hi (lv_at hl' q hl) (kk H locs ls hP hD hS hl')
theorem z_aload (B : zB E G A cc nL own R0) (q : Nat) {i : Nat} {x : Nat} (hd : decode cc pc = .ok (.aload i, 2)) (hl : lv[q]? = some (i, .ref x)) (kk : ZW E G A nL lay N ad (pc + 2) lv (.ref x :: st) σ) : ZW E G A nL lay N ad (pc) lv (st) σ := by
  obtain ⟨p, l, e, R, s, m, args, below, meth, c, Q, cz, sz⟩ := E
  obtain ⟨hx, hb, hml, hown, hts, hK, hA, hR, hcz, hsz⟩ := B
  intro H locs ls hP hD hS hl'
  exact lv_aload hx hb hd (lv_at hl' q hl) (kk H locs ls hP hD hS hl')
theorem z_astore_n (B : zB E G A cc nL own R0) (lv' : List (Nat × Value)) {k : Fin 4} {i : Nat} {x y : Nat} (hd : decode cc pc = .ok (.astore_n k, 1)) (hi : (k : Nat) = i) (hn : i < nL) (he : y = x) (hl : (i, Value.ref y) :: lv.filter (fun q => !(q.1 == i) && !(q.1 + 1 == i && q.2.category == 2)) = lv') (kk : ZW E G A nL lay N ad (pc + 1) lv' (st) σ) : ZW E G A nL lay N ad (pc) lv (.ref x :: st) σ := by
  obtain ⟨p, l, e, R, s, m, args, below, meth, c, Q, cz, sz⟩ := E
  obtain ⟨hx, hb, hml, hown, hts, hK, hA, hR, hcz, hsz⟩ := B
  intro H locs ls hP hD hS hl'
  subst he; exact lv_astore_n hx hb hd hi hl' hn hl (fun ls hl2 => kk H locs ls hP hD hS hl2)
theorem z_astore (B : zB E G A cc nL own R0) (lv' : List (Nat × Value)) {i : Nat} {x y : Nat} (hd : decode cc pc = .ok (.astore i, 2)) (hn : i < nL) (he : y = x) (hl : (i, Value.ref y) :: lv.filter (fun q => !(q.1 == i) && !(q.1 + 1 == i && q.2.category == 2)) = lv') (kk : ZW E G A nL lay N ad (pc + 2) lv' (st) σ) : ZW E G A nL lay N ad (pc) lv (.ref x :: st) σ := by
  obtain ⟨p, l, e, R, s, m, args, below, meth, c, Q, cz, sz⟩ := E
  obtain ⟨hx, hb, hml, hown, hts, hK, hA, hR, hcz, hsz⟩ := B
  intro H locs ls hP hD hS hl'
  subst he; exact lv_astore hx hb hd hl' hn hl (fun ls hl2 => kk H locs ls hP hD hS hl2)
theorem z_fload_n (B : zB E G A cc nL own R0) (q : Nat) {k : Fin 4} {i : Nat} {x : UInt32} (hd : decode cc pc = .ok (.fload_n k, 1)) (hi : (k : Nat) = i) (hl : lv[q]? = some (i, .float x)) (kk : ZW E G A nL lay N ad (pc + 1) lv (.float x :: st) σ) : ZW E G A nL lay N ad (pc) lv (st) σ := by
  obtain ⟨p, l, e, R, s, m, args, below, meth, c, Q, cz, sz⟩ := E
  obtain ⟨hx, hb, hml, hown, hts, hK, hA, hR, hcz, hsz⟩ := B
  intro H locs ls hP hD hS hl'
  exact lv_fload_n hx hb hd hi (lv_at hl' q hl) (kk H locs ls hP hD hS hl')
theorem z_fload (B : zB E G A cc nL own R0) (q : Nat) {i : Nat} {x : UInt32} (hd : decode cc pc = .ok (.fload i, 2)) (hl : lv[q]? = some (i, .float x)) (kk : ZW E G A nL lay N ad (pc + 2) lv (.float x :: st) σ) : ZW E G A nL lay N ad (pc) lv (st) σ := by
  obtain ⟨p, l, e, R, s, m, args, below, meth, c, Q, cz, sz⟩ := E
  obtain ⟨hx, hb, hml, hown, hts, hK, hA, hR, hcz, hsz⟩ := B
  intro H locs ls hP hD hS hl'
  exact lv_fload hx hb hd (lv_at hl' q hl) (kk H locs ls hP hD hS hl')
theorem z_fstore_n (B : zB E G A cc nL own R0) (lv' : List (Nat × Value)) {k : Fin 4} {i : Nat} {x y : UInt32} (hd : decode cc pc = .ok (.fstore_n k, 1)) (hi : (k : Nat) = i) (hn : i < nL) (he : y = x) (hl : (i, Value.float y) :: lv.filter (fun q => !(q.1 == i) && !(q.1 + 1 == i && q.2.category == 2)) = lv') (kk : ZW E G A nL lay N ad (pc + 1) lv' (st) σ) : ZW E G A nL lay N ad (pc) lv (.float x :: st) σ := by
  obtain ⟨p, l, e, R, s, m, args, below, meth, c, Q, cz, sz⟩ := E
  obtain ⟨hx, hb, hml, hown, hts, hK, hA, hR, hcz, hsz⟩ := B
  intro H locs ls hP hD hS hl'
  subst he; exact lv_fstore_n hx hb hd hi hl' hn hl (fun ls hl2 => kk H locs ls hP hD hS hl2)
theorem z_fstore (B : zB E G A cc nL own R0) (lv' : List (Nat × Value)) {i : Nat} {x y : UInt32} (hd : decode cc pc = .ok (.fstore i, 2)) (hn : i < nL) (he : y = x) (hl : (i, Value.float y) :: lv.filter (fun q => !(q.1 == i) && !(q.1 + 1 == i && q.2.category == 2)) = lv') (kk : ZW E G A nL lay N ad (pc + 2) lv' (st) σ) : ZW E G A nL lay N ad (pc) lv (.float x :: st) σ := by
  obtain ⟨p, l, e, R, s, m, args, below, meth, c, Q, cz, sz⟩ := E
  obtain ⟨hx, hb, hml, hown, hts, hK, hA, hR, hcz, hsz⟩ := B
  intro H locs ls hP hD hS hl'
  subst he; exact lv_fstore hx hb hd hl' hn hl (fun ls hl2 => kk H locs ls hP hD hS hl2)
theorem z_dload_n (B : zB E G A cc nL own R0) (q : Nat) {k : Fin 4} {i : Nat} {x : UInt64} (hd : decode cc pc = .ok (.dload_n k, 1)) (hi : (k : Nat) = i) (hl : lv[q]? = some (i, .double x)) (kk : ZW E G A nL lay N ad (pc + 1) lv (.double x :: st) σ) : ZW E G A nL lay N ad (pc) lv (st) σ := by
  obtain ⟨p, l, e, R, s, m, args, below, meth, c, Q, cz, sz⟩ := E
  obtain ⟨hx, hb, hml, hown, hts, hK, hA, hR, hcz, hsz⟩ := B
  intro H locs ls hP hD hS hl'
  exact lv_dload_n hx hb hd hi (lv_at hl' q hl) (kk H locs ls hP hD hS hl')
theorem z_dload (B : zB E G A cc nL own R0) (q : Nat) {i : Nat} {x : UInt64} (hd : decode cc pc = .ok (.dload i, 2)) (hl : lv[q]? = some (i, .double x)) (kk : ZW E G A nL lay N ad (pc + 2) lv (.double x :: st) σ) : ZW E G A nL lay N ad (pc) lv (st) σ := by
  obtain ⟨p, l, e, R, s, m, args, below, meth, c, Q, cz, sz⟩ := E
  obtain ⟨hx, hb, hml, hown, hts, hK, hA, hR, hcz, hsz⟩ := B
  intro H locs ls hP hD hS hl'
  exact lv_dload hx hb hd (lv_at hl' q hl) (kk H locs ls hP hD hS hl')
theorem z_dstore_n (B : zB E G A cc nL own R0) (lv' : List (Nat × Value)) {k : Fin 4} {i : Nat} {x y : UInt64} (hd : decode cc pc = .ok (.dstore_n k, 1)) (hi : (k : Nat) = i) (hn : i + 1 < nL) (he : y = x) (hl : (i, Value.double y) :: lv.filter (fun q => !(q.1 == i) && (!(q.1 == i + 1) && !(q.1 + 1 == i && q.2.category == 2))) = lv') (kk : ZW E G A nL lay N ad (pc + 1) lv' (st) σ) : ZW E G A nL lay N ad (pc) lv (.double x :: st) σ := by
  obtain ⟨p, l, e, R, s, m, args, below, meth, c, Q, cz, sz⟩ := E
  obtain ⟨hx, hb, hml, hown, hts, hK, hA, hR, hcz, hsz⟩ := B
  intro H locs ls hP hD hS hl'
  subst he; exact lv_dstore_n hx hb hd hi hl' hn hl (fun ls hl2 => kk H locs ls hP hD hS hl2)
theorem z_dstore (B : zB E G A cc nL own R0) (lv' : List (Nat × Value)) {i : Nat} {x y : UInt64} (hd : decode cc pc = .ok (.dstore i, 2)) (hn : i + 1 < nL) (he : y = x) (hl : (i, Value.double y) :: lv.filter (fun q => !(q.1 == i) && (!(q.1 == i + 1) && !(q.1 + 1 == i && q.2.category == 2))) = lv') (kk : ZW E G A nL lay N ad (pc + 2) lv' (st) σ) : ZW E G A nL lay N ad (pc) lv (.double x :: st) σ := by
  obtain ⟨p, l, e, R, s, m, args, below, meth, c, Q, cz, sz⟩ := E
  obtain ⟨hx, hb, hml, hown, hts, hK, hA, hR, hcz, hsz⟩ := B
  intro H locs ls hP hD hS hl'
  subst he; exact lv_dstore hx hb hd hl' hn hl (fun ls hl2 => kk H locs ls hP hD hS hl2)
theorem z_iinc (B : zB E G A cc nL own R0) (q : Nat) (lv' : List (Nat × Value)) {i : Nat} {n : Int} {x v : Int32} (hd : decode cc pc = .ok (.iinc i n, 3)) (hk : lv[q]? = some (i, .int x)) (hv : v = x + Int32.ofInt n) (hn : i < nL) (hl : (i, Value.int v) :: lv.filter (fun q => !(q.1 == i) && !(q.1 + 1 == i && q.2.category == 2)) = lv') (kk : ZW E G A nL lay N ad (pc + 3) lv' (st) σ) : ZW E G A nL lay N ad (pc) lv (st) σ := by
  obtain ⟨p, l, e, R, s, m, args, below, meth, c, Q, cz, sz⟩ := E
  obtain ⟨hx, hb, hml, hown, hts, hK, hA, hR, hcz, hsz⟩ := B
  intro H locs ls hP hD hS hl'
  exact lv_iinc hx hb hd hl' hk hv.symm hn hl (fun ls hl2 => kk H locs ls hP hD hS hl2)
theorem z_iadd (B : zB E G A cc nL own R0) {x y : Int32} (hd : decode cc pc = .ok (.iadd, 1)) (kk : ZW E G A nL lay N ad (pc + 1) lv (.int (x + y) :: st) σ) : ZW E G A nL lay N ad (pc) lv (.int y :: .int x :: st) σ := by
  obtain ⟨p, l, e, R, s, m, args, below, meth, c, Q, cz, sz⟩ := E
  obtain ⟨hx, hb, hml, hown, hts, hK, hA, hR, hcz, hsz⟩ := B
  intro H locs ls hP hD hS hl'
  exact lv_iadd hx hb hd (kk H locs ls hP hD hS hl')
theorem z_isub (B : zB E G A cc nL own R0) {x y : Int32} (hd : decode cc pc = .ok (.isub, 1)) (kk : ZW E G A nL lay N ad (pc + 1) lv (.int (x - y) :: st) σ) : ZW E G A nL lay N ad (pc) lv (.int y :: .int x :: st) σ := by
  obtain ⟨p, l, e, R, s, m, args, below, meth, c, Q, cz, sz⟩ := E
  obtain ⟨hx, hb, hml, hown, hts, hK, hA, hR, hcz, hsz⟩ := B
  intro H locs ls hP hD hS hl'
  exact lv_isub hx hb hd (kk H locs ls hP hD hS hl')
theorem z_imul (B : zB E G A cc nL own R0) {x y : Int32} (hd : decode cc pc = .ok (.imul, 1)) (kk : ZW E G A nL lay N ad (pc + 1) lv (.int (x * y) :: st) σ) : ZW E G A nL lay N ad (pc) lv (.int y :: .int x :: st) σ := by
  obtain ⟨p, l, e, R, s, m, args, below, meth, c, Q, cz, sz⟩ := E
  obtain ⟨hx, hb, hml, hown, hts, hK, hA, hR, hcz, hsz⟩ := B
  intro H locs ls hP hD hS hl'
  exact lv_imul hx hb hd (kk H locs ls hP hD hS hl')
theorem z_iand (B : zB E G A cc nL own R0) {x y : Int32} (hd : decode cc pc = .ok (.iand, 1)) (kk : ZW E G A nL lay N ad (pc + 1) lv (.int (x &&& y) :: st) σ) : ZW E G A nL lay N ad (pc) lv (.int y :: .int x :: st) σ := by
  obtain ⟨p, l, e, R, s, m, args, below, meth, c, Q, cz, sz⟩ := E
  obtain ⟨hx, hb, hml, hown, hts, hK, hA, hR, hcz, hsz⟩ := B
  intro H locs ls hP hD hS hl'
  exact lv_iand hx hb hd (kk H locs ls hP hD hS hl')
theorem z_idiv (B : zB E G A cc nL own R0) {x y : Int32} (hd : decode cc pc = .ok (.idiv, 1)) (hne : ¬ y = 0) (kk : ZW E G A nL lay N ad (pc + 1) lv (.int (x / y) :: st) σ) : ZW E G A nL lay N ad (pc) lv (.int y :: .int x :: st) σ := by
  obtain ⟨p, l, e, R, s, m, args, below, meth, c, Q, cz, sz⟩ := E
  obtain ⟨hx, hb, hml, hown, hts, hK, hA, hR, hcz, hsz⟩ := B
  intro H locs ls hP hD hS hl'
  exact lv_idiv hx hb hd hne (kk H locs ls hP hD hS hl')
theorem z_irem (B : zB E G A cc nL own R0) {x y : Int32} (hd : decode cc pc = .ok (.irem, 1)) (hne : ¬ y = 0) (kk : ZW E G A nL lay N ad (pc + 1) lv (.int (x - x / y * y) :: st) σ) : ZW E G A nL lay N ad (pc) lv (.int y :: .int x :: st) σ := by
  obtain ⟨p, l, e, R, s, m, args, below, meth, c, Q, cz, sz⟩ := E
  obtain ⟨hx, hb, hml, hown, hts, hK, hA, hR, hcz, hsz⟩ := B
  intro H locs ls hP hD hS hl'
  exact lv_irem hx hb hd hne (kk H locs ls hP hD hS hl')
theorem z_ineg (B : zB E G A cc nL own R0) {x : Int32} (hd : decode cc pc = .ok (.ineg, 1)) (kk : ZW E G A nL lay N ad (pc + 1) lv (.int (-x) :: st) σ) : ZW E G A nL lay N ad (pc) lv (.int x :: st) σ := by
  obtain ⟨p, l, e, R, s, m, args, below, meth, c, Q, cz, sz⟩ := E
  obtain ⟨hx, hb, hml, hown, hts, hK, hA, hR, hcz, hsz⟩ := B
  intro H locs ls hP hD hS hl'
  exact lv_ineg hx hb hd (kk H locs ls hP hD hS hl')
theorem z_ishl (B : zB E G A cc nL own R0) {x y : Int32} (hd : decode cc pc = .ok (.ishl, 1)) (kk : ZW E G A nL lay N ad (pc + 1) lv (.int (x <<< (y &&& 31)) :: st) σ) : ZW E G A nL lay N ad (pc) lv (.int y :: .int x :: st) σ := by
  obtain ⟨p, l, e, R, s, m, args, below, meth, c, Q, cz, sz⟩ := E
  obtain ⟨hx, hb, hml, hown, hts, hK, hA, hR, hcz, hsz⟩ := B
  intro H locs ls hP hD hS hl'
  exact lv_ishl hx hb hd (kk H locs ls hP hD hS hl')
theorem z_i2c (B : zB E G A cc nL own R0) {x : Int32} (hd : decode cc pc = .ok (.i2c, 1)) (kk : ZW E G A nL lay N ad (pc + 1) lv (.int ((x.toUInt32 % 65536).toInt32) :: st) σ) : ZW E G A nL lay N ad (pc) lv (.int x :: st) σ := by
  obtain ⟨p, l, e, R, s, m, args, below, meth, c, Q, cz, sz⟩ := E
  obtain ⟨hx, hb, hml, hown, hts, hK, hA, hR, hcz, hsz⟩ := B
  intro H locs ls hP hD hS hl'
  exact lv_i2c hx hb hd rfl (kk H locs ls hP hD hS hl')
theorem z_dup (B : zB E G A cc nL own R0) {v : Value} (hd : decode cc pc = .ok (.dup, 1)) (hv : v.category = 1) (kk : ZW E G A nL lay N ad (pc + 1) lv (v :: v :: st) σ) : ZW E G A nL lay N ad (pc) lv (v :: st) σ := by
  obtain ⟨p, l, e, R, s, m, args, below, meth, c, Q, cz, sz⟩ := E
  obtain ⟨hx, hb, hml, hown, hts, hK, hA, hR, hcz, hsz⟩ := B
  intro H locs ls hP hD hS hl'
  exact lv_dup hx hb hd hv (kk H locs ls hP hD hS hl')
theorem z_pop (B : zB E G A cc nL own R0) {v : Value} (hd : decode cc pc = .ok (.pop, 1)) (hv : v.category = 1) (kk : ZW E G A nL lay N ad (pc + 1) lv (st) σ) : ZW E G A nL lay N ad (pc) lv (v :: st) σ := by
  obtain ⟨p, l, e, R, s, m, args, below, meth, c, Q, cz, sz⟩ := E
  obtain ⟨hx, hb, hml, hown, hts, hK, hA, hR, hcz, hsz⟩ := B
  intro H locs ls hP hD hS hl'
  exact lv_pop hx hb hd hv (kk H locs ls hP hD hS hl')
theorem z_dup2 (B : zB E G A cc nL own R0) {v w : Value} (hd : decode cc pc = .ok (.dup2, 1)) (hv : v.category = 1) (hw : w.category = 1) (kk : ZW E G A nL lay N ad (pc + 1) lv (v :: w :: v :: w :: st) σ) : ZW E G A nL lay N ad (pc) lv (v :: w :: st) σ := by
  obtain ⟨p, l, e, R, s, m, args, below, meth, c, Q, cz, sz⟩ := E
  obtain ⟨hx, hb, hml, hown, hts, hK, hA, hR, hcz, hsz⟩ := B
  intro H locs ls hP hD hS hl'
  exact lv_dup2_11 hx hb hd hv hw (kk H locs ls hP hD hS hl')
theorem z_dup_x1 (B : zB E G A cc nL own R0) {v w : Value} (hd : decode cc pc = .ok (.dup_x1, 1)) (hv : v.category = 1) (hw : w.category = 1) (kk : ZW E G A nL lay N ad (pc + 1) lv (v :: w :: v :: st) σ) : ZW E G A nL lay N ad (pc) lv (v :: w :: st) σ := by
  obtain ⟨p, l, e, R, s, m, args, below, meth, c, Q, cz, sz⟩ := E
  obtain ⟨hx, hb, hml, hown, hts, hK, hA, hR, hcz, hsz⟩ := B
  intro H locs ls hP hD hS hl'
  exact lv_dup_x1 hx hb hd hv hw (kk H locs ls hP hD hS hl')
theorem z_goto (B : zB E G A cc nL own R0) {off : Int} {tgt : Nat} (hd : decode cc pc = .ok (.goto off, 3)) (ht : (pc : Int) + off = (tgt : Int)) (kk : ZW E G A nL lay N ad (tgt) lv (st) σ) : ZW E G A nL lay N ad (pc) lv (st) σ := by
  obtain ⟨p, l, e, R, s, m, args, below, meth, c, Q, cz, sz⟩ := E
  obtain ⟨hx, hb, hml, hown, hts, hK, hA, hR, hcz, hsz⟩ := B
  intro H locs ls hP hD hS hl'
  exact lv_goto hx hb hd ht (kk H locs ls hP hD hS hl')
theorem z_if_eq (B : zB E G A cc nL own R0) {x : Int32} {off : Int} {tgt : Nat} (hd : decode cc pc = .ok (.ifCond .eq off, 3)) (ht : (pc : Int) + off = (tgt : Int)) (kt : x = 0 → ZW E G A nL lay N ad (tgt) lv (st) σ) (kf : ¬ x = 0 → ZW E G A nL lay N ad (pc + 3) lv (st) σ) : ZW E G A nL lay N ad (pc) lv (.int x :: st) σ := by
  obtain ⟨p, l, e, R, s, m, args, below, meth, c, Q, cz, sz⟩ := E
  obtain ⟨hx, hb, hml, hown, hts, hK, hA, hR, hcz, hsz⟩ := B
  intro H locs ls hP hD hS hl'
  exact lv_if_eq hx hb hd ht (fun h => kt h H locs ls hP hD hS hl') (fun h => kf h H locs ls hP hD hS hl')
theorem z_icmp_eq (B : zB E G A cc nL own R0) {x y : Int32} {off : Int} {tgt : Nat} (hd : decode cc pc = .ok (.if_icmp .eq off, 3)) (ht : (pc : Int) + off = (tgt : Int)) (kt : x = y → ZW E G A nL lay N ad (tgt) lv (st) σ) (kf : ¬ x = y → ZW E G A nL lay N ad (pc + 3) lv (st) σ) : ZW E G A nL lay N ad (pc) lv (.int y :: .int x :: st) σ := by
  obtain ⟨p, l, e, R, s, m, args, below, meth, c, Q, cz, sz⟩ := E
  obtain ⟨hx, hb, hml, hown, hts, hK, hA, hR, hcz, hsz⟩ := B
  intro H locs ls hP hD hS hl'
  exact lv_icmp_eq hx hb hd ht (fun h => kt h H locs ls hP hD hS hl') (fun h => kf h H locs ls hP hD hS hl')
theorem z_if_ne (B : zB E G A cc nL own R0) {x : Int32} {off : Int} {tgt : Nat} (hd : decode cc pc = .ok (.ifCond .ne off, 3)) (ht : (pc : Int) + off = (tgt : Int)) (kt : ¬ x = 0 → ZW E G A nL lay N ad (tgt) lv (st) σ) (kf : x = 0 → ZW E G A nL lay N ad (pc + 3) lv (st) σ) : ZW E G A nL lay N ad (pc) lv (.int x :: st) σ := by
  obtain ⟨p, l, e, R, s, m, args, below, meth, c, Q, cz, sz⟩ := E
  obtain ⟨hx, hb, hml, hown, hts, hK, hA, hR, hcz, hsz⟩ := B
  intro H locs ls hP hD hS hl'
  exact lv_if_ne hx hb hd ht (fun h => kt h H locs ls hP hD hS hl') (fun h => kf h H locs ls hP hD hS hl')
theorem z_icmp_ne (B : zB E G A cc nL own R0) {x y : Int32} {off : Int} {tgt : Nat} (hd : decode cc pc = .ok (.if_icmp .ne off, 3)) (ht : (pc : Int) + off = (tgt : Int)) (kt : ¬ x = y → ZW E G A nL lay N ad (tgt) lv (st) σ) (kf : x = y → ZW E G A nL lay N ad (pc + 3) lv (st) σ) : ZW E G A nL lay N ad (pc) lv (.int y :: .int x :: st) σ := by
  obtain ⟨p, l, e, R, s, m, args, below, meth, c, Q, cz, sz⟩ := E
  obtain ⟨hx, hb, hml, hown, hts, hK, hA, hR, hcz, hsz⟩ := B
  intro H locs ls hP hD hS hl'
  exact lv_icmp_ne hx hb hd ht (fun h => kt h H locs ls hP hD hS hl') (fun h => kf h H locs ls hP hD hS hl')
theorem z_if_lt (B : zB E G A cc nL own R0) {x : Int32} {off : Int} {tgt : Nat} (hd : decode cc pc = .ok (.ifCond .lt off, 3)) (ht : (pc : Int) + off = (tgt : Int)) (kt : x < 0 → ZW E G A nL lay N ad (tgt) lv (st) σ) (kf : ¬ x < 0 → ZW E G A nL lay N ad (pc + 3) lv (st) σ) : ZW E G A nL lay N ad (pc) lv (.int x :: st) σ := by
  obtain ⟨p, l, e, R, s, m, args, below, meth, c, Q, cz, sz⟩ := E
  obtain ⟨hx, hb, hml, hown, hts, hK, hA, hR, hcz, hsz⟩ := B
  intro H locs ls hP hD hS hl'
  exact lv_if_lt hx hb hd ht (fun h => kt h H locs ls hP hD hS hl') (fun h => kf h H locs ls hP hD hS hl')
theorem z_icmp_lt (B : zB E G A cc nL own R0) {x y : Int32} {off : Int} {tgt : Nat} (hd : decode cc pc = .ok (.if_icmp .lt off, 3)) (ht : (pc : Int) + off = (tgt : Int)) (kt : x < y → ZW E G A nL lay N ad (tgt) lv (st) σ) (kf : ¬ x < y → ZW E G A nL lay N ad (pc + 3) lv (st) σ) : ZW E G A nL lay N ad (pc) lv (.int y :: .int x :: st) σ := by
  obtain ⟨p, l, e, R, s, m, args, below, meth, c, Q, cz, sz⟩ := E
  obtain ⟨hx, hb, hml, hown, hts, hK, hA, hR, hcz, hsz⟩ := B
  intro H locs ls hP hD hS hl'
  exact lv_icmp_lt hx hb hd ht (fun h => kt h H locs ls hP hD hS hl') (fun h => kf h H locs ls hP hD hS hl')
theorem z_if_ge (B : zB E G A cc nL own R0) {x : Int32} {off : Int} {tgt : Nat} (hd : decode cc pc = .ok (.ifCond .ge off, 3)) (ht : (pc : Int) + off = (tgt : Int)) (kt : 0 ≤ x → ZW E G A nL lay N ad (tgt) lv (st) σ) (kf : ¬ 0 ≤ x → ZW E G A nL lay N ad (pc + 3) lv (st) σ) : ZW E G A nL lay N ad (pc) lv (.int x :: st) σ := by
  obtain ⟨p, l, e, R, s, m, args, below, meth, c, Q, cz, sz⟩ := E
  obtain ⟨hx, hb, hml, hown, hts, hK, hA, hR, hcz, hsz⟩ := B
  intro H locs ls hP hD hS hl'
  exact lv_if_ge hx hb hd ht (fun h => kt h H locs ls hP hD hS hl') (fun h => kf h H locs ls hP hD hS hl')
theorem z_icmp_ge (B : zB E G A cc nL own R0) {x y : Int32} {off : Int} {tgt : Nat} (hd : decode cc pc = .ok (.if_icmp .ge off, 3)) (ht : (pc : Int) + off = (tgt : Int)) (kt : y ≤ x → ZW E G A nL lay N ad (tgt) lv (st) σ) (kf : ¬ y ≤ x → ZW E G A nL lay N ad (pc + 3) lv (st) σ) : ZW E G A nL lay N ad (pc) lv (.int y :: .int x :: st) σ := by
  obtain ⟨p, l, e, R, s, m, args, below, meth, c, Q, cz, sz⟩ := E
  obtain ⟨hx, hb, hml, hown, hts, hK, hA, hR, hcz, hsz⟩ := B
  intro H locs ls hP hD hS hl'
  exact lv_icmp_ge hx hb hd ht (fun h => kt h H locs ls hP hD hS hl') (fun h => kf h H locs ls hP hD hS hl')
theorem z_if_gt (B : zB E G A cc nL own R0) {x : Int32} {off : Int} {tgt : Nat} (hd : decode cc pc = .ok (.ifCond .gt off, 3)) (ht : (pc : Int) + off = (tgt : Int)) (kt : 0 < x → ZW E G A nL lay N ad (tgt) lv (st) σ) (kf : ¬ 0 < x → ZW E G A nL lay N ad (pc + 3) lv (st) σ) : ZW E G A nL lay N ad (pc) lv (.int x :: st) σ := by
  obtain ⟨p, l, e, R, s, m, args, below, meth, c, Q, cz, sz⟩ := E
  obtain ⟨hx, hb, hml, hown, hts, hK, hA, hR, hcz, hsz⟩ := B
  intro H locs ls hP hD hS hl'
  exact lv_if_gt hx hb hd ht (fun h => kt h H locs ls hP hD hS hl') (fun h => kf h H locs ls hP hD hS hl')
theorem z_icmp_gt (B : zB E G A cc nL own R0) {x y : Int32} {off : Int} {tgt : Nat} (hd : decode cc pc = .ok (.if_icmp .gt off, 3)) (ht : (pc : Int) + off = (tgt : Int)) (kt : y < x → ZW E G A nL lay N ad (tgt) lv (st) σ) (kf : ¬ y < x → ZW E G A nL lay N ad (pc + 3) lv (st) σ) : ZW E G A nL lay N ad (pc) lv (.int y :: .int x :: st) σ := by
  obtain ⟨p, l, e, R, s, m, args, below, meth, c, Q, cz, sz⟩ := E
  obtain ⟨hx, hb, hml, hown, hts, hK, hA, hR, hcz, hsz⟩ := B
  intro H locs ls hP hD hS hl'
  exact lv_icmp_gt hx hb hd ht (fun h => kt h H locs ls hP hD hS hl') (fun h => kf h H locs ls hP hD hS hl')
theorem z_if_le (B : zB E G A cc nL own R0) {x : Int32} {off : Int} {tgt : Nat} (hd : decode cc pc = .ok (.ifCond .le off, 3)) (ht : (pc : Int) + off = (tgt : Int)) (kt : x ≤ 0 → ZW E G A nL lay N ad (tgt) lv (st) σ) (kf : ¬ x ≤ 0 → ZW E G A nL lay N ad (pc + 3) lv (st) σ) : ZW E G A nL lay N ad (pc) lv (.int x :: st) σ := by
  obtain ⟨p, l, e, R, s, m, args, below, meth, c, Q, cz, sz⟩ := E
  obtain ⟨hx, hb, hml, hown, hts, hK, hA, hR, hcz, hsz⟩ := B
  intro H locs ls hP hD hS hl'
  exact lv_if_le hx hb hd ht (fun h => kt h H locs ls hP hD hS hl') (fun h => kf h H locs ls hP hD hS hl')
theorem z_icmp_le (B : zB E G A cc nL own R0) {x y : Int32} {off : Int} {tgt : Nat} (hd : decode cc pc = .ok (.if_icmp .le off, 3)) (ht : (pc : Int) + off = (tgt : Int)) (kt : x ≤ y → ZW E G A nL lay N ad (tgt) lv (st) σ) (kf : ¬ x ≤ y → ZW E G A nL lay N ad (pc + 3) lv (st) σ) : ZW E G A nL lay N ad (pc) lv (.int y :: .int x :: st) σ := by
  obtain ⟨p, l, e, R, s, m, args, below, meth, c, Q, cz, sz⟩ := E
  obtain ⟨hx, hb, hml, hown, hts, hK, hA, hR, hcz, hsz⟩ := B
  intro H locs ls hP hD hS hl'
  exact lv_icmp_le hx hb hd ht (fun h => kt h H locs ls hP hD hS hl') (fun h => kf h H locs ls hP hD hS hl')
theorem z_fconst0 (B : zB E G A cc nL own R0) (hd : decode cc pc = .ok (.fconst 0, 1)) (kk : ZW E G A nL lay N ad (pc + 1) lv (.float FP.fconst0 :: st) σ) : ZW E G A nL lay N ad (pc) lv (st) σ := by
  obtain ⟨p, l, e, R, s, m, args, below, meth, c, Q, cz, sz⟩ := E
  obtain ⟨hx, hb, hml, hown, hts, hK, hA, hR, hcz, hsz⟩ := B
  intro H locs ls hP hD hS hl'
  exact lv_fconst0 hx hb hd (kk H locs ls hP hD hS hl')
theorem z_fconst1 (B : zB E G A cc nL own R0) (hd : decode cc pc = .ok (.fconst 1, 1)) (kk : ZW E G A nL lay N ad (pc + 1) lv (.float FP.fconst1 :: st) σ) : ZW E G A nL lay N ad (pc) lv (st) σ := by
  obtain ⟨p, l, e, R, s, m, args, below, meth, c, Q, cz, sz⟩ := E
  obtain ⟨hx, hb, hml, hown, hts, hK, hA, hR, hcz, hsz⟩ := B
  intro H locs ls hP hD hS hl'
  exact lv_fconst1 hx hb hd (kk H locs ls hP hD hS hl')
theorem z_fconst2 (B : zB E G A cc nL own R0) (hd : decode cc pc = .ok (.fconst 2, 1)) (kk : ZW E G A nL lay N ad (pc + 1) lv (.float FP.fconst2 :: st) σ) : ZW E G A nL lay N ad (pc) lv (st) σ := by
  obtain ⟨p, l, e, R, s, m, args, below, meth, c, Q, cz, sz⟩ := E
  obtain ⟨hx, hb, hml, hown, hts, hK, hA, hR, hcz, hsz⟩ := B
  intro H locs ls hP hD hS hl'
  exact lv_fconst2 hx hb hd (kk H locs ls hP hD hS hl')
theorem z_dconst0 (B : zB E G A cc nL own R0) (hd : decode cc pc = .ok (.dconst 0, 1)) (kk : ZW E G A nL lay N ad (pc + 1) lv (.double FP.dconst0 :: st) σ) : ZW E G A nL lay N ad (pc) lv (st) σ := by
  obtain ⟨p, l, e, R, s, m, args, below, meth, c, Q, cz, sz⟩ := E
  obtain ⟨hx, hb, hml, hown, hts, hK, hA, hR, hcz, hsz⟩ := B
  intro H locs ls hP hD hS hl'
  exact lv_dconst0 hx hb hd (kk H locs ls hP hD hS hl')
theorem z_ldcf (B : zB E G A cc nL own R0) {index : Nat} {v : UInt32} (hc : (Jvm.Cond.constantFloat own index v) ∈ wsL_law) (hd : decode cc pc = .ok (.ldc index, 2)) (kk : ZW E G A nL lay N ad (pc + 2) lv (.float v :: st) σ) : ZW E G A nL lay N ad (pc) lv (st) σ := by
  obtain ⟨p, l, e, R, s, m, args, below, meth, c, Q, cz, sz⟩ := E
  obtain ⟨hx, hb, hml, hown, hts, hK, hA, hR, hcz, hsz⟩ := B
  intro H locs ls hP hD hS hl'
  exact lv_ldcf hx hb hown (hts _ hc) hd (kk H locs ls hP hD hS hl')
theorem z_fmul (B : zB E G A cc nL own R0) {x y : UInt32} (hd : decode cc pc = .ok (.fmul, 1)) (hne : vf_n32 (FP.fmul x y)) (kk : ZW E G A nL lay N ad (pc + 1) lv (.float (FP.fmul x y) :: st) σ) : ZW E G A nL lay N ad (pc) lv (.float y :: .float x :: st) σ := by
  obtain ⟨p, l, e, R, s, m, args, below, meth, c, Q, cz, sz⟩ := E
  obtain ⟨hx, hb, hml, hown, hts, hK, hA, hR, hcz, hsz⟩ := B
  intro H locs ls hP hD hS hl'
  exact lv_fmul hx hb hd hne (kk H locs ls hP hD hS hl')
theorem z_fsub (B : zB E G A cc nL own R0) {x y : UInt32} (hd : decode cc pc = .ok (.fsub, 1)) (hne : vf_n32 (FP.fsub x y)) (kk : ZW E G A nL lay N ad (pc + 1) lv (.float (FP.fsub x y) :: st) σ) : ZW E G A nL lay N ad (pc) lv (.float y :: .float x :: st) σ := by
  obtain ⟨p, l, e, R, s, m, args, below, meth, c, Q, cz, sz⟩ := E
  obtain ⟨hx, hb, hml, hown, hts, hK, hA, hR, hcz, hsz⟩ := B
  intro H locs ls hP hD hS hl'
  exact lv_fsub hx hb hd hne (kk H locs ls hP hD hS hl')
theorem z_fdiv (B : zB E G A cc nL own R0) {x y : UInt32} (hd : decode cc pc = .ok (.fdiv, 1)) (hne : vf_n32 (FP.fdiv x y)) (kk : ZW E G A nL lay N ad (pc + 1) lv (.float (FP.fdiv x y) :: st) σ) : ZW E G A nL lay N ad (pc) lv (.float y :: .float x :: st) σ := by
  obtain ⟨p, l, e, R, s, m, args, below, meth, c, Q, cz, sz⟩ := E
  obtain ⟨hx, hb, hml, hown, hts, hK, hA, hR, hcz, hsz⟩ := B
  intro H locs ls hP hD hS hl'
  exact lv_fdiv hx hb hd hne (kk H locs ls hP hD hS hl')
theorem z_dadd (B : zB E G A cc nL own R0) {x y : UInt64} (hd : decode cc pc = .ok (.dadd, 1)) (hne : vf_n64 (FP.dadd x y)) (kk : ZW E G A nL lay N ad (pc + 1) lv (.double (FP.dadd x y) :: st) σ) : ZW E G A nL lay N ad (pc) lv (.double y :: .double x :: st) σ := by
  obtain ⟨p, l, e, R, s, m, args, below, meth, c, Q, cz, sz⟩ := E
  obtain ⟨hx, hb, hml, hown, hts, hK, hA, hR, hcz, hsz⟩ := B
  intro H locs ls hP hD hS hl'
  exact lv_dadd hx hb hd hne (kk H locs ls hP hD hS hl')
theorem z_ddiv (B : zB E G A cc nL own R0) {x y : UInt64} (hd : decode cc pc = .ok (.ddiv, 1)) (hne : vf_n64 (FP.ddiv x y)) (kk : ZW E G A nL lay N ad (pc + 1) lv (.double (FP.ddiv x y) :: st) σ) : ZW E G A nL lay N ad (pc) lv (.double y :: .double x :: st) σ := by
  obtain ⟨p, l, e, R, s, m, args, below, meth, c, Q, cz, sz⟩ := E
  obtain ⟨hx, hb, hml, hown, hts, hK, hA, hR, hcz, hsz⟩ := B
  intro H locs ls hP hD hS hl'
  exact lv_ddiv hx hb hd hne (kk H locs ls hP hD hS hl')
theorem z_f2d (B : zB E G A cc nL own R0) {x : UInt32} (hd : decode cc pc = .ok (.f2d, 1)) (hne : vf_n64 (FP.f2d x)) (kk : ZW E G A nL lay N ad (pc + 1) lv (.double (FP.f2d x) :: st) σ) : ZW E G A nL lay N ad (pc) lv (.float x :: st) σ := by
  obtain ⟨p, l, e, R, s, m, args, below, meth, c, Q, cz, sz⟩ := E
  obtain ⟨hx, hb, hml, hown, hts, hK, hA, hR, hcz, hsz⟩ := B
  intro H locs ls hP hD hS hl'
  exact lv_f2d hx hb hd hne (kk H locs ls hP hD hS hl')
theorem z_d2f (B : zB E G A cc nL own R0) {x : UInt64} (hd : decode cc pc = .ok (.d2f, 1)) (hne : vf_n32 (FP.d2f x)) (kk : ZW E G A nL lay N ad (pc + 1) lv (.float (FP.d2f x) :: st) σ) : ZW E G A nL lay N ad (pc) lv (.double x :: st) σ := by
  obtain ⟨p, l, e, R, s, m, args, below, meth, c, Q, cz, sz⟩ := E
  obtain ⟨hx, hb, hml, hown, hts, hK, hA, hR, hcz, hsz⟩ := B
  intro H locs ls hP hD hS hl'
  exact lv_d2f hx hb hd hne (kk H locs ls hP hD hS hl')
theorem z_fcmp (B : zB E G A cc nL own R0) {x y : UInt32} {op : CmpOp} (hd : decode cc pc = .ok (.fcmp op, 1)) (kk : ZW E G A nL lay N ad (pc + 1) lv (.int (Op.cmpValue (FP.fcmp x y) op) :: st) σ) : ZW E G A nL lay N ad (pc) lv (.float y :: .float x :: st) σ := by
  obtain ⟨p, l, e, R, s, m, args, below, meth, c, Q, cz, sz⟩ := E
  obtain ⟨hx, hb, hml, hown, hts, hK, hA, hR, hcz, hsz⟩ := B
  intro H locs ls hP hD hS hl'
  exact lv_fcmp hx hb hd (kk H locs ls hP hD hS hl')
theorem z_i2f (B : zB E G A cc nL own R0) {x : Int32} (hd : decode cc pc = .ok (.i2f, 1)) (kk : ZW E G A nL lay N ad (pc + 1) lv (.float (FP.i2f x) :: st) σ) : ZW E G A nL lay N ad (pc) lv (.int x :: st) σ := by
  obtain ⟨p, l, e, R, s, m, args, below, meth, c, Q, cz, sz⟩ := E
  obtain ⟨hx, hb, hml, hown, hts, hK, hA, hR, hcz, hsz⟩ := B
  intro H locs ls hP hD hS hl'
  exact lv_i2f hx hb hd (kk H locs ls hP hD hS hl')
theorem z_i2d (B : zB E G A cc nL own R0) {x : Int32} (hd : decode cc pc = .ok (.i2d, 1)) (kk : ZW E G A nL lay N ad (pc + 1) lv (.double (FP.i2d x) :: st) σ) : ZW E G A nL lay N ad (pc) lv (.int x :: st) σ := by
  obtain ⟨p, l, e, R, s, m, args, below, meth, c, Q, cz, sz⟩ := E
  obtain ⟨hx, hb, hml, hown, hts, hK, hA, hR, hcz, hsz⟩ := B
  intro H locs ls hP hD hS hl'
  exact lv_i2d hx hb hd (kk H locs ls hP hD hS hl')
theorem z_f2i (B : zB E G A cc nL own R0) {x : UInt32} (hd : decode cc pc = .ok (.f2i, 1)) (kk : ZW E G A nL lay N ad (pc + 1) lv (.int (FP.f2i x) :: st) σ) : ZW E G A nL lay N ad (pc) lv (.float x :: st) σ := by
  obtain ⟨p, l, e, R, s, m, args, below, meth, c, Q, cz, sz⟩ := E
  obtain ⟨hx, hb, hml, hown, hts, hK, hA, hR, hcz, hsz⟩ := B
  intro H locs ls hP hD hS hl'
  exact lv_f2i hx hb hd (kk H locs ls hP hD hS hl')
/-- other order or fewer locals -/
theorem z_lv (ks : List Nat) {lv' : List (Nat × Value)} (hl : lv_pick lv ks = lv') (kk : ZW E G A nL lay N ad pc lv' st σ) : ZW E G A nL lay N ad pc lv st σ := by
  obtain ⟨p, l, e, R, s, m, args, below, meth, c, Q, cz, sz⟩ := E
  intro H locs ls hP hD hS hl'
  exact kk H locs ls hP hD hS (lv_sub hl' ks hl)
theorem z_tableOut (B : zB E G A cc nL own R0) {dflt lo hi : Int} {offs : Array Int} {len : Nat} {x : Int32} {tgt : Nat} (hd : decode cc pc = .ok (.tableswitch dflt lo hi offs, len)) (h : x.toInt < lo ∨ hi < x.toInt) (ht : (pc : Int) + dflt = (tgt : Int)) (kk : ZW E G A nL lay N ad tgt lv st σ) : ZW E G A nL lay N ad pc lv (.int x :: st) σ := by
  obtain ⟨p, l, e, R, s, m, args, below, meth, c, Q, cz, sz⟩ := E
  obtain ⟨hx, hb, hml, hown, hts, hK, hA, hR, hcz, hsz⟩ := B
  intro H locs ls hP hD hS hl'
  exact lv_tableOut hx hb hd h ht (kk H locs ls hP hD hS hl')
theorem z_tableIn (B : zB E G A cc nL own R0) {dflt lo hi : Int} {offs : Array Int} {len : Nat} {x v : Int32} {off : Int} {tgt : Nat} (hd : decode cc pc = .ok (.tableswitch dflt lo hi offs, len)) (hxv : x = v) (h1 : ¬ v.toInt < lo) (h2 : ¬ hi < v.toInt) (ho : offs[(v.toInt - lo).toNat]? = some off) (ht : (pc : Int) + off = (tgt : Int)) (kk : ZW E G A nL lay N ad tgt lv st σ) : ZW E G A nL lay N ad pc lv (.int x :: st) σ := by
  obtain ⟨p, l, e, R, s, m, args, below, meth, c, Q, cz, sz⟩ := E
  obtain ⟨hx, hb, hml, hown, hts, hK, hA, hR, hcz, hsz⟩ := B
  intro H locs ls hP hD hS hl'
  subst hxv
  exact lv_tableIn hx hb hd h1 h2 ho ht (kk H locs ls hP hD hS hl')
theorem z_lookup (B : zB E G A cc nL own R0) {dflt : Int} {ps : Array (Int × Int)} {len : Nat} {x : Int32} {off : Int} {tgt : Nat} (hd : decode cc pc = .ok (.lookupswitch dflt ps, len)) (hp : (ps.toList.zip (ps.toList.drop 1)).all (fun (a, next) => a.1 < next.1) = true) (ho : Op.lookupswitch.offset ps.toList dflt x.toInt = off) (ht : (pc : Int) + off = (tgt : Int)) (kk : ZW E G A nL lay N ad tgt lv st σ) : ZW E G A nL lay N ad pc lv (.int x :: st) σ := by
  obtain ⟨p, l, e, R, s, m, args, below, meth, c, Q, cz, sz⟩ := E
  obtain ⟨hx, hb, hml, hown, hts, hK, hA, hR, hcz, hsz⟩ := B
  intro H locs ls hP hD hS hl'
  exact lv_lookup hx hb hd hp ho ht (kk H locs ls hP hD hS hl')
/-- a field that is a number -/
theorem z_get (B : zB E G A cc nL own R0) (i j : Nat) {ci n index : Nat} {fs : List (Option Nat)} {C : String} {T : u_T} (hk : lay i = .inr (ci, fs)) (hi : i < N) (hc : vwCl[ci]? = some (C, T, n)) (hin : ∀ w ∈ u_ws C T n, w ∈ wsL_law) (hj : j < n) (hf : fs[j]? = some none) (hlink : Cond.fieldLink own index (T j).1 (T j).2.1 (T j).2.2.1 ∈ wsL_law) (hd : decode cc pc = .ok (.getfield index, 3)) (kk : ZW E G A nL lay N ad (pc + 3) lv (.int (σ i j) :: st) σ) : ZW E G A nL lay N ad pc lv (.ref (ad i) :: st) σ := by
  obtain ⟨p, l, e, R, s, m, args, below, meth, c, Q, cz, sz⟩ := E
  obtain ⟨hx, hb, hml, hown, hts, hK, hA, hR, hcz, hsz⟩ := B
  intro H locs ls hP hD hS hl'
  have he := z_Wat (G := G) (lay := lay) (ad := ad) (σ := σ) hi
  rw [hk] at he
  have hg := z_fs_get (ad := ad) (x := σ i) fs 0 j hf
  rw [Nat.zero_add] at hg
  exact va_get hx hb hts hin hown hK.1 hP.w i he hc j hj (hts _ hlink) (fun _ h9 => h9) hg hd (kk H locs ls hP hD hS hl')
/-- a field that leads to a cell -/
theorem z_getr (B : zB E G A cc nL own R0) (i j r : Nat) {ci n index : Nat} {fs : List (Option Nat)} {C : String} {T : u_T} (hk : lay i = .inr (ci, fs)) (hi : i < N) (hc : vwCl[ci]? = some (C, T, n)) (hin : ∀ w ∈ u_ws C T n, w ∈ wsL_law) (hj : j < n) (hf : fs[j]? = some (some r)) (hr : r < 1000) (hlink : Cond.fieldLink own index (T j).1 (T j).2.1 (T j).2.2.1 ∈ wsL_law) (hd : decode cc pc = .ok (.getfield index, 3)) (kk : ZW E G A nL lay N ad (pc + 3) lv (.ref (ad r) :: st) σ) : ZW E G A nL lay N ad pc lv (.ref (ad i) :: st) σ := by
  obtain ⟨p, l, e, R, s, m, args, below, meth, c, Q, cz, sz⟩ := E
  obtain ⟨hx, hb, hml, hown, hts, hK, hA, hR, hcz, hsz⟩ := B
  intro H locs ls hP hD hS hl'
  have he := z_Wat (G := G) (lay := lay) (ad := ad) (σ := σ) hi
  rw [hk] at he
  have hg := z_fs_getr (ad := ad) (x := σ i) fs 0 j r hf
  rw [show z_nr ad r = .ref (ad r) from if_pos hr] at hg
  exact va_get hx hb hts hin hown hK.1 hP.w i he hc j hj (hts _ hlink) (fun _ h9 => h9) hg hd (kk H locs ls hP hD hS hl')
theorem z_putX (B : zB E G A cc nL own R0) (i j : Nat) {ci n index : Nat} {fs : List (Option Nat)} {C : String} {T : u_T} {ty : FieldType} {x : Int32} (hk : lay i = .inr (ci, fs)) (hi : i < N) (hc : vwCl[ci]? = some (C, T, n)) (hin : ∀ w ∈ u_ws C T n, w ∈ wsL_law) (ty0 : Nat → FieldType) (hty : ∀ k, k < n → parseFieldDescriptor (T k).2.2.1 = some (ty0 k)) (hnm : ∀ a, a < n → ∀ b, b < n → a ≠ b → (T a).2.1 ≠ (T b).2.1) (hj : j < n) (hf : fs[j]? = some none) (hfin : (T j).2.2.2 = false) (hpd : parseFieldDescriptor (T j).2.2.1 = some ty) (hn : narrow ty (.int x) = .int x) (hfit : fits ty (.int x) = true) (hlink : Cond.fieldLink own index (T j).1 (T j).2.1 (T j).2.2.1 ∈ wsL_law) (hd : decode cc pc = .ok (.putfield index, 3)) (kk : ZW E G A nL lay N ad (pc + 3) lv st (z_u σ i j x)) : ZW E G A nL lay N ad pc lv (.int x :: .ref (ad i) :: st) σ := by
  obtain ⟨p, l, e, R, s, m, args, below, meth, c, Q, cz, sz⟩ := E
  obtain ⟨hx, hb, hml, hown, hts, hK, hA, hR, hcz, hsz⟩ := B
  intro H locs ls hP hD hS hl'
  have he := z_Wat (G := G) (lay := lay) (ad := ad) (σ := σ) hi
  rw [hk] at he
  have hlen : j < (z_fs ad (σ i) 0 fs).length := by rw [z_fs_len]; exact (List.getElem?_eq_some_iff.mp hf).1
  refine va_put hx hb hts hin ty0 hty hnm hown hK.1 hP.w hD.w hS i he hc j hj (hts _ hlink) (fun _ h9 => h9) hfin hpd hn hfit hlen hd (fun H1 locs1 hP1 hD1 hS1 => kk H1 locs1 ls (z_P.of ?_) hD hS1 hl')
  rw [z_Wset (σ' := z_u σ i j x) hi ?_ (fun a ha => z_u_o ha)] at hP1
  · exact hP1
  · have hs := z_fs_set (ad := ad) (x := σ i) (v := x) fs 0 j hf
    rw [Nat.zero_add] at hs
    rw [hk, z_u_i, hs]
    rfl
/-- a field of type int is written -/
theorem z_put (B : zB E G A cc nL own R0) (i j : Nat) {ci n index : Nat} {fs : List (Option Nat)} {C : String} {T : u_T} {x : Int32} (hk : lay i = .inr (ci, fs)) (hi : i < N) (hc : vwCl[ci]? = some (C, T, n)) (hin : ∀ w ∈ u_ws C T n, w ∈ wsL_law) (ty0 : Nat → FieldType) (hty : ∀ k, k < n → parseFieldDescriptor (T k).2.2.1 = some (ty0 k)) (hnm : ∀ a, a < n → ∀ b, b < n → a ≠ b → (T a).2.1 ≠ (T b).2.1) (hj : j < n) (hf : fs[j]? = some none) (hfin : (T j).2.2.2 = false) (hpd : parseFieldDescriptor (T j).2.2.1 = some .int) (hlink : Cond.fieldLink own index (T j).1 (T j).2.1 (T j).2.2.1 ∈ wsL_law) (hd : decode cc pc = .ok (.putfield index, 3)) (kk : ZW E G A nL lay N ad (pc + 3) lv st (z_u σ i j x)) : ZW E G A nL lay N ad pc lv (.int x :: .ref (ad i) :: st) σ :=
  z_putX B i j hk hi hc hin ty0 hty hnm hj hf hfin hpd rfl rfl hlink hd kk
/-- an int array is read -/
theorem z_iald (B : zB E G A cc nL own R0) (i n : Nat) {x : Int32} (hk : lay i = .inl (0, n)) (hi : i < N) (hd : decode cc pc = .ok (.iaload, 1)) (hin : vp_in x n) (kk : ZW E G A nL lay N ad (pc + 1) lv (.int (σ i x.toNatClampNeg) :: st) σ) : ZW E G A nL lay N ad pc lv (.int x :: .ref (ad i) :: st) σ := by
  obtain ⟨p, l, e, R, s, m, args, below, meth, c, Q, cz, sz⟩ := E
  obtain ⟨hx, hb, hml, hown, hts, hK, hA, hR, hcz, hsz⟩ := B
  intro H locs ls hP hD hS hl'
  have he := z_Wat (G := G) (lay := lay) (ad := ad) (σ := σ) hi
  rw [hk] at he
  exact va_iald hx hb hK.1 hP.w i 0 he rfl hin hd (kk H locs ls hP hD hS hl')
theorem z_cald (B : zB E G A cc nL own R0) (i n : Nat) {x : Int32} (hk : lay i = .inl (1, n)) (hi : i < N) (hd : decode cc pc = .ok (.caload, 1)) (hin : vp_in x n) (kk : ZW E G A nL lay N ad (pc + 1) lv (.int (σ i x.toNatClampNeg) :: st) σ) : ZW E G A nL lay N ad pc lv (.int x :: .ref (ad i) :: st) σ := by
  obtain ⟨p, l, e, R, s, m, args, below, meth, c, Q, cz, sz⟩ := E
  obtain ⟨hx, hb, hml, hown, hts, hK, hA, hR, hcz, hsz⟩ := B
  intro H locs ls hP hD hS hl'
  have he := z_Wat (G := G) (lay := lay) (ad := ad) (σ := σ) hi
  rw [hk] at he
  exact va_cald hx hb hK.1 hP.w i 1 he rfl hin hd (kk H locs ls hP hD hS hl')
/-- .. and written -/
theorem z_iast (B : zB E G A cc nL own R0) (i n : Nat) {x v : Int32} (hk : lay i = .inl (0, n)) (hi : i < N) (hd : decode cc pc = .ok (.iastore, 1)) (hin : vp_in x n) (kk : ZW E G A nL lay N ad (pc + 1) lv st (z_u σ i x.toNatClampNeg v)) : ZW E G A nL lay N ad pc lv (.int v :: .int x :: .ref (ad i) :: st) σ := by
  obtain ⟨p, l, e, R, s, m, args, below, meth, c, Q, cz, sz⟩ := E
  obtain ⟨hx, hb, hml, hown, hts, hK, hA, hR, hcz, hsz⟩ := B
  intro H locs ls hP hD hS hl'
  have he := z_Wat (G := G) (lay := lay) (ad := ad) (σ := σ) hi
  rw [hk] at he
  refine va_iast hx hb hK.1 hP.w hD.w hS i 0 he rfl hin hd (fun H1 locs1 hP1 hD1 hS1 => kk H1 locs1 ls (z_P.of ?_) hD hS1 hl')
  rw [z_Wset (σ' := z_u σ i x.toNatClampNeg v) hi ?_ (fun a ha => z_u_o ha)] at hP1
  · exact hP1
  · rw [hk, z_u_i]; rfl
theorem z_cast (B : zB E G A cc nL own R0) (i n : Nat) {x v : Int32} (hk : lay i = .inl (1, n)) (hi : i < N) (hd : decode cc pc = .ok (.castore, 1)) (hin : vp_in x n) (kk : ZW E G A nL lay N ad (pc + 1) lv st (z_u σ i x.toNatClampNeg (vp_nar .char v))) : ZW E G A nL lay N ad pc lv (.int v :: .int x :: .ref (ad i) :: st) σ := by
  obtain ⟨p, l, e, R, s, m, args, below, meth, c, Q, cz, sz⟩ := E
  obtain ⟨hx, hb, hml, hown, hts, hK, hA, hR, hcz, hsz⟩ := B
  intro H locs ls hP hD hS hl'
  have he := z_Wat (G := G) (lay := lay) (ad := ad) (σ := σ) hi
  rw [hk] at he
  refine va_cast hx hb hK.1 hP.w hD.w hS i 1 he rfl hin hd (fun H1 locs1 hP1 hD1 hS1 => kk H1 locs1 ls (z_P.of ?_) hD hS1 hl')
  rw [z_Wset (σ' := z_u σ i x.toNatClampNeg (vp_nar .char v)) hi ?_ (fun a ha => z_u_o ha)] at hP1
  · exact hP1
  · rw [hk, z_u_i]; rfl
/-- an array of towns is read -/
theorem z_aald (B : zB E G A cc nL own R0) (i t n : Nat) {x : Int32} (hk : lay i = .inl (t + 2, n)) (hi : i < N) (hd : decode cc pc = .ok (.aaload, 1)) (hin : vp_in x n) (kk : ZW E G A nL lay N ad (pc + 1) lv (.ref (ad (t + 38 * x.toNatClampNeg)) :: st) σ) : ZW E G A nL lay N ad pc lv (.int x :: .ref (ad i) :: st) σ := by
  obtain ⟨p, l, e, R, s, m, args, below, meth, c, Q, cz, sz⟩ := E
  obtain ⟨hx, hb, hml, hown, hts, hK, hA, hR, hcz, hsz⟩ := B
  intro H locs ls hP hD hS hl'
  have he := z_Wat (G := G) (lay := lay) (ad := ad) (σ := σ) hi
  rw [hk] at he
  exact va_aldq hx hb hK.1 hP.w i 2 he rfl hin hd (kk H locs ls hP hD hS hl')
/-- copying an int array onto another -/
theorem z_copyi (B : zB E G A cc nL own R0) (i j n0 n1 : Nat) {x : Int32} {index : Nat} (hk0 : lay i = .inl (0, n0)) (hi : i < N) (hk1 : lay j = .inl (0, n1)) (hj : j < N) (hlink : Cond.methodLink own index arraycopyName ∈ wsL_law) (hnat : Cond.native arraycopyName ∈ wsL_law) (hstat : Cond.static arraycopyName ∈ wsL_law) (hini : Cond.initialized "java/lang/System" ∈ wsL_law) (hfr : 1 ≤ R0.frames) (hlo : (st.map fun v => v.category).sum + (nativeFrameWords "java/lang/System" "arraycopy" 5 + 11) ≤ R0.locals) (hd : decode cc pc = .ok (.invokestatic index, 3)) (h3 : ¬ x < 0) (h4 : x.toNatClampNeg ≤ n0) (h5 : x.toNatClampNeg ≤ n1) (kk : ZW E G A nL lay N ad (pc + 3) lv st (fun a => if a = j then va_cpy (σ i) (σ j) 0 0 x.toNatClampNeg else σ a)) : ZW E G A nL lay N ad pc lv (.int x :: .int 0 :: .ref (ad j) :: .int 0 :: .ref (ad i) :: st) σ := by
  obtain ⟨p, l, e, R, s, m, args, below, meth, c, Q, cz, sz⟩ := E
  obtain ⟨hx, hb, hml, hown, hts, hK, hA, hR, hcz, hsz⟩ := B
  intro H locs ls hP hD hS hl'
  have he0 := z_Wat (G := G) (lay := lay) (ad := ad) (σ := σ) hi
  rw [hk0] at he0
  have he1 := z_Wat (G := G) (lay := lay) (ad := ad) (σ := σ) hj
  rw [hk1] at he1
  subst hR
  have z0 : (0 : Int32).toNatClampNeg = 0 := rfl
  refine va_copyi hx hb (hml.trans hl'.1.symm) hown (hts _ hlink) (hts _ hnat) (hts _ hstat) (hts _ hini) hK.1 hP.w hD.w hS i j 0 0 he0 he1 rfl rfl rfl (by decide) (by decide) h3 (by rw [z0]; omega) (by rw [z0]; omega) (fun _ _ => rfl) hfr hlo hd (fun H1 locs1 hP1 hD1 hS1 => kk H1 locs1 ls (z_P.of ?_) hD hS1 hl')
  rw [z_Wset (σ' := fun a => if a = j then va_cpy (σ i) (σ j) 0 0 x.toNatClampNeg else σ a) hj ?_ (fun a ha => if_neg ha)] at hP1
  · exact hP1
  · show _ = z_E G ad (if j = j then _ else _) (lay j)
    rw [if_pos rfl, hk1]; rfl
end ZR
