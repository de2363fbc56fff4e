/-! OBJECTS ARE MADE: the cells of what is being made lie one behind another, from a0 on; w says what they are -/
def wu (w : Nat → va_E) (i : Nat) (e : va_E) : Nat → va_E := fun j => if j = i then e else w j
theorem wu_i {w : Nat → va_E} {i : Nat} {e : va_E} : wu w i e i = e := if_pos rfl
theorem wu_o {w : Nat → va_E} {i j : Nat} {e : va_E} (h : j ≠ i) : wu w i e j = w j := if_neg h
def zcW (a0 : Nat) (w : Nat → va_E) (N : Nat) : va_W := (List.range N).map (fun i => (a0 + i, w i))
theorem zc_at {a0 : Nat} {w : Nat → va_E} {N i : Nat} (h : i < N) : (zcW a0 w N)[i]? = some (a0 + i, w i) := by
  simp [zcW, h]
theorem zc_of {a0 : Nat} {w : Nat → va_E} {N i : Nat} {q : Nat × va_E} (h : (zcW a0 w N)[i]? = some q) : i < N ∧ q = (a0 + i, w i) := by
  have hN : i < N := by simpa [zcW] using (List.getElem?_eq_some_iff.mp h).1
  rw [zc_at hN] at h
  exact ⟨hN, (Option.some.inj h).symm⟩
theorem zc_P {D : va_G} {cl : List vw_C} {a0 : Nat} {w : Nat → va_E} {N : Nat} {H : Heap} (h : ∀ i, i < N → va_at D cl (a0 + i, w i) H) : va_P D cl (zcW a0 w N) H := by
  intro k q hk
  obtain ⟨h1, rfl⟩ := zc_of hk
  exact h k h1
theorem zc_D {a0 : Nat} {w : Nat → va_E} {N : Nat} : va_D (fun q : Nat => a0 ≤ q) (zcW a0 w N) := by
  refine ⟨fun i j p q hi hj e => ?_, fun k q hk => ?_⟩
  · obtain ⟨h1, rfl⟩ := zc_of hi
    obtain ⟨h2, rfl⟩ := zc_of hj
    exact Nat.add_left_cancel e
  · obtain ⟨h1, rfl⟩ := zc_of hk
    exact Nat.le_add_right _ _
theorem zc_set {a0 : Nat} {w : Nat → va_E} {N i : Nat} {e : va_E} : (zcW a0 w N).set i (a0 + i, e) = zcW a0 (wu w i e) N := by
  apply List.ext_getElem?
  intro k
  by_cases hk : k < N
  · by_cases hki : k = i
    · subst hki
      rw [List.getElem?_set_self (by simpa [zcW] using hk), zc_at hk, wu_i]
    · rw [List.getElem?_set_ne (Ne.symm hki), zc_at hk, zc_at hk, wu_o hki]
  · rw [List.getElem?_eq_none (by simpa [zcW] using hk), List.getElem?_eq_none (by simpa [zcW] using hk)]
def ZN (E : z_En) (G : z_G) (nL a0 : Nat) (w : Nat → va_E) (N k n : Nat) (pc : Nat) (lv : List (Nat × Value)) (st : List Value) : Prop :=
  match E with
  | (p, l, e, R, s, m, args, below, meth, c, Q, cz, sz) => ∀ (H : Heap) (locs : List Loc) (ls : Array Slot), H.size = a0 + N → (∀ i, i < N → va_at G.1 vwCl (a0 + i, w i) H) → va_S (fun q : Nat => a0 ≤ q) s.heap H locs → lv_has ls nL lv → W p l e R s m args below meth c H locs k n Q (F0 m pc ls st)
def zNi (E : z_En) : Prop :=
  match E with
  | (p, l, e, R, s, m, args, below, meth, c, Q, cz, sz) => meth.name = "<init>"
def zNo (E : z_En) : Prop :=
  match E with
  | (p, l, e, R, s, m, args, below, meth, c, Q, cz, sz) => va_AO RX6 s
def zInit (y : MethodName) (c : ByteArray) (nL fr lo mc ms ci : Nat) (fs0 : List Value) (lay : Nat → z_K) (N : Nat) (σ : z_S) : Prop :=
  ∀ (l : Launch) (G : z_G) (a0 : Nat), Met l y (z_ws y c nL none) { frames := fr, cells := mc, slots := ms, locals := lo } (va_Pc [.ref a0] (fun U => U.heap.size = a0 + 1 ∧ va_at G.1 vwCl (a0, .inr (ci, fs0)) U.heap ∧ z_Kp G U ∧ va_AO RX6 U))
    (va_Qv (fun _ : Unit => True) (fun _ t => t.heap.size = a0 + N ∧ z_P G lay N (fun i => a0 + i) σ t.heap) (fun q : Nat => a0 ≤ q)) mc ms (fun q : Nat => a0 ≤ q)
section ZNR
variable {E : z_En} {G : z_G} {cc : ByteArray} {nL a0 : Nat} {own : String} {R0 : Room} {w : Nat → va_E} {N k n : Nat} {pc : Nat} {lv : List (Nat × Value)} {st : List Value}
theorem zn_head {y : MethodName} {c : ByteArray} {fr lo mc ms ci : Nat} {fs0 : List Value} {lay : Nat → z_K} {σ : z_S} (own : String) (w0 : z_G → Nat → Nat → va_E) (hw0 : ∀ G a0, w0 G a0 0 = .inr (ci, fs0)) (hpl : plainName y.cls = true) (hcls : y.cls = own) (hy : y.name = "<init>") (hlen : ∀ a0 : Nat, (lg_sl [Value.ref a0]).length ≤ nL)
    (body : ∀ (E : z_En) (G : z_G) (a0 : Nat), zB E G (fun q : Nat => a0 ≤ q) c nL own { frames := fr, cells := mc, slots := ms, locals := lo } → zNi E → zNo E →
      (∀ (pc : Nat) (lv : List (Nat × Value)) (w : Nat → va_E) (k n : Nat), (∀ (i : Nat) (H : Heap), i < N → va_at G.1 vwCl (a0 + i, w i) H → va_at G.1 vwCl (a0 + i, z_E G (fun j => a0 + j) (σ i) (lay i)) H) → k ≤ mc → n ≤ ms → decode c pc = .ok (.return_, 1) → ZN E G nL a0 w N k n pc lv []) →
      ZN E G nL a0 (w0 G a0) 1 0 0 0 [(0, .ref a0)] []) :
    zInit y c nL fr lo mc ms ci fs0 lay N σ := by
  intro l G a0
  refine Met.ofW (cc := c) (maxL := nL) (ret := none) hpl rfl ?_
  intro p e s m args below meth cd s₁ B hml hv
  obtain ⟨rfl, hsz, hP, hK, hO⟩ := hv
  have hown : s.vm.findClass own = some m.cls := hcls ▸ findClass_of_methodNamed B.named
  have hts := atoms_spec (ws := z_ws y c nL none) B.pre
  have hl := lv_entry [Value.ref a0] (n := nL) (hlen a0)
  have hin : meth.name = "<init>" := (name_of_methodNamed B.named B.method).1.trans hy
  have key := body (p, l, e, (headSpec (z_ws y c nL none) { frames := fr, cells := mc, slots := ms, locals := lo }).room, s, m, ([Value.ref a0] : List Value).toArray, below, meth, cd, MQ below (va_Qv (fun _ : Unit => True) (fun _ t => t.heap.size = a0 + N ∧ z_P G lay N (fun i => a0 + i) σ t.heap) (fun q : Nat => a0 ≤ q)) ([Value.ref a0] : List Value).toArray s mc ms (fun q : Nat => a0 ≤ q), 0, 0) G a0
    ⟨B.exec, B.bytes, hml, hown, fun w hw => hts w (List.mem_cons_of_mem _ hw), hK, fun q hq => by rw [hsz] at hq; exact Nat.le_of_succ_le hq, rfl, Nat.zero_le _, Nat.zero_le _⟩ hin hO
    (fun pc lv w k n hw hk hn hd H locs ls hz hP1 hS hl1 => by
      refine W.widen hk hn ?_
      exact W.vret B.exec B.bytes B.returns (fun t ht hW => ⟨⟨(), rfl, trivial, by rw [ht]; exact hz, fun i hi => by rw [ht]; exact hw i H hi (hP1 i hi)⟩, hS.F ht⟩) hS.2.2 hd B.notSynchronized)

  rw [lg_entry_eq]
  refine key s.heap [] _ hsz (fun i hi => ?_) va_S.rf hl
  obtain rfl : i = 0 := by omega
  rw [hw0]
  exact hP
theorem zn_iconst (B : zB E G (fun q : Nat => a0 ≤ q) cc nL own R0) {n' : Int} {v : Int32} (hd : decode cc pc = .ok (.iconst n', 1)) (hv : Int32.ofInt n' = v) (kk : ZN E G nL a0 w N k n (pc + 1) lv (.int v :: st)) : ZN E G nL a0 w N k n pc lv (st) := by
  obtain ⟨p, l, e, R, s, m, args, below, meth, c, Q, cz, sz⟩ := E
  obtain ⟨hx, hb, hml, hown, hts, hK, hA, hR, hcz, hsz⟩ := B
  intro H locs ls hz hP hS hl
  exact lv_iconst hx hb hd hv (kk H locs ls hz hP hS hl)
theorem zn_bipush (B : zB E G (fun q : Nat => a0 ≤ q) cc nL own R0) {n' : Int} {v : Int32} (hd : decode cc pc = .ok (.bipush n', 2)) (hv : (Int8.ofInt n').toInt32 = v) (kk : ZN E G nL a0 w N k n (pc + 2) lv (.int v :: st)) : ZN E G nL a0 w N k n pc lv (st) := by
  obtain ⟨p, l, e, R, s, m, args, below, meth, c, Q, cz, sz⟩ := E
  obtain ⟨hx, hb, hml, hown, hts, hK, hA, hR, hcz, hsz⟩ := B
  intro H locs ls hz hP hS hl
  exact lv_bipush hx hb hd hv (kk H locs ls hz hP hS hl)
theorem zn_sipush (B : zB E G (fun q : Nat => a0 ≤ q) cc nL own R0) {n' : Int} {v : Int32} (hd : decode cc pc = .ok (.sipush n', 3)) (hv : (Int16.ofInt n').toInt32 = v) (kk : ZN E G nL a0 w N k n (pc + 3) lv (.int v :: st)) : ZN E G nL a0 w N k n pc lv (st) := by
  obtain ⟨p, l, e, R, s, m, args, below, meth, c, Q, cz, sz⟩ := E
  obtain ⟨hx, hb, hml, hown, hts, hK, hA, hR, hcz, hsz⟩ := B
  intro H locs ls hz hP hS hl
  exact lv_sipush hx hb hd hv (kk H locs ls hz hP hS hl)
theorem zn_iload_n (B : zB E G (fun q : Nat => a0 ≤ q) cc nL own R0) (q : Nat) {k' : Fin 4} {i : Nat} {x : Int32} (hd : decode cc pc = .ok (.iload_n k', 1)) (hi : (k' : Nat) = i) (hl' : lv[q]? = some (i, .int x)) (kk : ZN E G nL a0 w N k n (pc + 1) lv (.int x :: st)) : ZN E G nL a0 w N k n pc lv (st) := by
  obtain ⟨p, l, e, R, s, m, args, below, meth, c, Q, cz, sz⟩ := E
  obtain ⟨hx, hb, hml, hown, hts, hK, hA, hR, hcz, hsz⟩ := B
  intro H locs ls hz hP hS hl
  exact lv_iload_n hx hb hd hi (lv_at hl q hl') (kk H locs ls hz hP hS hl)
theorem zn_istore_n (B : zB E G (fun q : Nat => a0 ≤ q) cc nL own R0) (lv' : List (Nat × Value)) {k' : Fin 4} {i : Nat} {x : Int32} (hd : decode cc pc = .ok (.istore_n k', 1)) (hi : (k' : Nat) = i) (hn : i < nL) (hl' : (i, Value.int x) :: lv.filter (fun q => !(q.1 == i) && !(q.1 + 1 == i && q.2.category == 2)) = lv') (kk : ZN E G nL a0 w N k n (pc + 1) lv' (st)) : ZN E G nL a0 w N k n pc lv (.int x :: st) := by
  obtain ⟨p, l, e, R, s, m, args, below, meth, c, Q, cz, sz⟩ := E
  obtain ⟨hx, hb, hml, hown, hts, hK, hA, hR, hcz, hsz⟩ := B
  intro H locs ls hz hP hS hl
  exact lv_istore_n hx hb hd hi hl hn hl' (fun ls hl2 => kk H locs ls hz hP hS hl2)
theorem zn_aload_n (B : zB E G (fun q : Nat => a0 ≤ q) cc nL own R0) (q : Nat) {k' : Fin 4} {i : Nat} {x : Nat} (hd : decode cc pc = .ok (.aload_n k', 1)) (hi : (k' : Nat) = i) (hl' : lv[q]? = some (i, .ref x)) (kk : ZN E G nL a0 w N k n (pc + 1) lv (.ref x :: st)) : ZN E G nL a0 w N k n pc lv (st) := by
  obtain ⟨p, l, e, R, s, m, args, below, meth, c, Q, cz, sz⟩ := E
  obtain ⟨hx, hb, hml, hown, hts, hK, hA, hR, hcz, hsz⟩ := B
  intro H locs ls hz hP hS hl
  exact lv_aload_n hx hb hd hi (lv_at hl q hl') (kk H locs ls hz hP hS hl)
theorem zn_astore_n (B : zB E G (fun q : Nat => a0 ≤ q) cc nL own R0) (lv' : List (Nat × Value)) {k' : Fin 4} {i : Nat} {x : Nat} (hd : decode cc pc = .ok (.astore_n k', 1)) (hi : (k' : Nat) = i) (hn : i < nL) (hl' : (i, Value.ref x) :: lv.filter (fun q => !(q.1 == i) && !(q.1 + 1 == i && q.2.category == 2)) = lv') (kk : ZN E G nL a0 w N k n (pc + 1) lv' (st)) : ZN E G nL a0 w N k n pc lv (.ref x :: st) := by
  obtain ⟨p, l, e, R, s, m, args, below, meth, c, Q, cz, sz⟩ := E
  obtain ⟨hx, hb, hml, hown, hts, hK, hA, hR, hcz, hsz⟩ := B
  intro H locs ls hz hP hS hl
  exact lv_astore_n hx hb hd hi hl hn hl' (fun ls hl2 => kk H locs ls hz hP hS hl2)
theorem zn_iinc (B : zB E G (fun q : Nat => a0 ≤ q) cc nL own R0) (q : Nat) (lv' : List (Nat × Value)) {i : Nat} {n' : Int} {x v : Int32} (hd : decode cc pc = .ok (.iinc i n', 3)) (hk : lv[q]? = some (i, .int x)) (hv : v = x + Int32.ofInt n') (hn : i < nL) (hl' : (i, Value.int v) :: lv.filter (fun q => !(q.1 == i) && !(q.1 + 1 == i && q.2.category == 2)) = lv') (kk : ZN E G nL a0 w N k n (pc + 3) lv' (st)) : ZN E G nL a0 w N k n pc lv (st) := by
  obtain ⟨p, l, e, R, s, m, args, below, meth, c, Q, cz, sz⟩ := E
  obtain ⟨hx, hb, hml, hown, hts, hK, hA, hR, hcz, hsz⟩ := B
  intro H locs ls hz hP hS hl
  exact lv_iinc hx hb hd hl hk hv.symm hn hl' (fun ls hl2 => kk H locs ls hz hP hS hl2)
theorem zn_goto (B : zB E G (fun q : Nat => a0 ≤ q) cc nL own R0) {off : Int} {tgt : Nat} (hd : decode cc pc = .ok (.goto off, 3)) (ht : (pc : Int) + off = (tgt : Int)) (kk : ZN E G nL a0 w N k n (tgt) lv (st)) : ZN E G nL a0 w N k n pc lv (st) := by
  obtain ⟨p, l, e, R, s, m, args, below, meth, c, Q, cz, sz⟩ := E
  obtain ⟨hx, hb, hml, hown, hts, hK, hA, hR, hcz, hsz⟩ := B
  intro H locs ls hz hP hS hl
  exact lv_goto hx hb hd ht (kk H locs ls hz hP hS hl)
theorem zn_geF (B : zB E G (fun q : Nat => a0 ≤ q) cc nL own R0) {x y : Int32} {off : Int} {tgt : Nat} (hd : decode cc pc = .ok (.if_icmp .ge off, 3)) (ht : (pc : Int) + off = (tgt : Int)) (hf : ¬ y ≤ x) (kk : ZN E G nL a0 w N k n (pc + 3) lv st) : ZN E G nL a0 w N k n pc lv (.int y :: .int x :: st) := by
  obtain ⟨p, l, e, R, s, m, args, below, meth, c, Q, cz, sz⟩ := E
  obtain ⟨hx, hb, hml, hown, hts, hK, hA, hR, hcz, hsz⟩ := B
  intro H locs ls hz hP hS hl
  exact lv_icmp_ge hx hb hd ht (fun h => absurd h hf) (fun _ => (kk H locs ls hz hP hS hl))
theorem zn_geT (B : zB E G (fun q : Nat => a0 ≤ q) cc nL own R0) {x y : Int32} {off : Int} {tgt : Nat} (hd : decode cc pc = .ok (.if_icmp .ge off, 3)) (ht : (pc : Int) + off = (tgt : Int)) (hf : y ≤ x) (kk : ZN E G nL a0 w N k n tgt lv st) : ZN E G nL a0 w N k n pc lv (.int y :: .int x :: st) := by
  obtain ⟨p, l, e, R, s, m, args, below, meth, c, Q, cz, sz⟩ := E
  obtain ⟨hx, hb, hml, hown, hts, hK, hA, hR, hcz, hsz⟩ := B
  intro H locs ls hz hP hS hl
  exact lv_icmp_ge hx hb hd ht (fun _ => (kk H locs ls hz hP hS hl)) (fun h => absurd hf h)
/-- Object() -/
theorem zn_obj (B : zB E G (fun q : Nat => a0 ≤ q) cc nL own R0) {index x : Nat} (hlink : Cond.methodLink own index objectInit ∈ wsL_law) (hin : Cond.instanceMethod objectInit ∈ wsL_law) (hco : Cond.code objectInit ⟨#[0xb1]⟩ 1 none ∈ wsL_law) (hd : decode cc pc = .ok (.invokespecial index, 3)) (hfr : 1 ≤ R0.frames) (hlo : (st.map fun v => v.category).sum + 12 ≤ R0.locals) (kk : ZN E G nL a0 w N k n (pc + 3) lv st) : ZN E G nL a0 w N k n pc lv (.ref x :: st) := by
  obtain ⟨p, l, e, R, s, m, args, below, meth, c, Q, cz, sz⟩ := E
  obtain ⟨hx, hb, hml, hown, hts, hK, hA, hR, hcz, hsz⟩ := B
  intro H locs ls hz hP hS hl
  subst hR
  refine W.objInit hx hb hown (hts _ hlink) (hts _ hin) (hts _ hco) rfl (by rw [hml]; exact hl.1) rfl hd hfr ?_ ?_
  · show 2 * 0 + _ + 12 ≤ _
    omega
  · exact kk H locs ls hz hP hS hl
theorem zn_app {H H1 : Heap} {D : va_G} {cl : List vw_C} (hz : H.size = a0 + N) (hP : ∀ i, i < N → va_at D cl (a0 + i, w i) H) (ho : ∀ q, q < a0 + N → H1[q]? = H[q]?) (hn : va_at D cl (a0 + N, w N) H1) : ∀ i, i < N + 1 → va_at D cl (a0 + i, w i) H1 := by
  intro i hi
  by_cases h : i = N
  · subst h
    exact hn
  · exact (hP i (by omega)).kept (ho _ (by show a0 + i < a0 + N; omega))
theorem zn_S {A : Nat → Prop} {H0 H H1 : Heap} {locs : List Loc} (hS : va_S A H0 H locs) (hz : H.size ≤ H1.size) (ho : ∀ q, q < H.size → H1[q]? = H[q]?) : va_S A H0 H1 locs := ⟨Nat.le_trans hS.1 hz, fun x h1 h2 => (ho x (Nat.lt_of_lt_of_le h1 hS.1)).trans (hS.2.1 x h1 h2), hS.2.2⟩
theorem zn_newi (B : zB E G (fun q : Nat => a0 ≤ q) cc nL own R0) {n' : Int32} {M : Nat} (hd : decode cc pc = .ok (.newarray .int, 2)) (harr : Cond.arrayClass .int ∈ wsL_law) (hn0 : ¬ n' < 0) (hM : n'.toNatClampNeg = M) (hby : M * componentBytes .int ≤ 536870912) (hw : w N = .inl (G.2.1, M, .inl (fun _ => 0))) (hkc : k + 1 ≤ R0.cells) (hns : n + M ≤ R0.slots) (kk : ZN E G nL a0 w (N + 1) (k + 1) (n + M) (pc + 2) lv (.ref (a0 + N) :: st)) : ZN E G nL a0 w N k n pc lv (.int n' :: st) := by
  obtain ⟨p, l, e, R, s, m, args, below, meth, c, Q, cz, sz⟩ := E
  obtain ⟨hx, hb, hml, hown, hts, hK, hA, hR, hcz, hsz⟩ := B
  intro H locs ls hz hP hS hl
  subst hR
  refine va_newaK (atype := .int) hx hb (hts _ harr) rfl hd rfl hn0 hM hby hkc hns hz fun H1 cA e1 z1 o1 hAr hNm => ?_
  have hc : cA = G.2.1 := by
    have h := (hK.1.2 0 (G.2.1, .int) rfl).2
    exact Option.some.inj (hNm.symm.trans h)
  subst hc
  refine kk H1 locs ls (z1.trans (Nat.add_assoc _ _ _)) (zn_app hz hP o1 ?_) (zn_S hS (by rw [z1, hz]; exact Nat.le_succ _) (by rw [hz]; exact o1)) hl
  rw [hw]
  exact e1
theorem zn_newc (B : zB E G (fun q : Nat => a0 ≤ q) cc nL own R0) {n' : Int32} {M : Nat} (hd : decode cc pc = .ok (.newarray .char, 2)) (harr : Cond.arrayClass .char ∈ wsL_law) (hn0 : ¬ n' < 0) (hM : n'.toNatClampNeg = M) (hby : M * componentBytes .char ≤ 536870912) (hw : w N = .inl (G.2.2.1, M, .inl (fun _ => 0))) (hkc : k + 1 ≤ R0.cells) (hns : n + M ≤ R0.slots) (kk : ZN E G nL a0 w (N + 1) (k + 1) (n + M) (pc + 2) lv (.ref (a0 + N) :: st)) : ZN E G nL a0 w N k n pc lv (.int n' :: st) := by
  obtain ⟨p, l, e, R, s, m, args, below, meth, c, Q, cz, sz⟩ := E
  obtain ⟨hx, hb, hml, hown, hts, hK, hA, hR, hcz, hsz⟩ := B
  intro H locs ls hz hP hS hl
  subst hR
  refine va_newaK (atype := .char) hx hb (hts _ harr) rfl hd rfl hn0 hM hby hkc hns hz fun H1 cA e1 z1 o1 hAr hNm => ?_
  have hc : cA = G.2.2.1 := by
    have h := (hK.1.2 1 (G.2.2.1, .char) rfl).2
    exact Option.some.inj (hNm.symm.trans h)
  subst hc
  refine kk H1 locs ls (z1.trans (Nat.add_assoc _ _ _)) (zn_app hz hP o1 ?_) (zn_S hS (by rw [z1, hz]; exact Nat.le_succ _) (by rw [hz]; exact o1)) hl
  rw [hw]
  exact e1
theorem zn_newq (B : zB E G (fun q : Nat => a0 ≤ q) cc nL own R0) (hO : zNo E) {index : Nat} {n' : Int32} {M : Nat} (hd : decode cc pc = .ok (.anewarray index, 3)) (hcl : Cond.classLink own index RX6 ∈ wsL_law) (hn0 : ¬ n' < 0) (hM : n'.toNatClampNeg = M) (hby : M * 4 ≤ 536870912) (hw : w N = .inl (G.2.2.2, M, .inr (.inr (.inr (.inr (fun _ => none)))))) (hkc : k + 1 ≤ R0.cells) (hns : n + M ≤ R0.slots) (kk : ZN E G nL a0 w (N + 1) (k + 1) (n + M) (pc + 3) lv (.ref (a0 + N) :: st)) : ZN E G nL a0 w N k n pc lv (.int n' :: st) := by
  obtain ⟨p, l, e, R, s, m, args, below, meth, c, Q, cz, sz⟩ := E
  obtain ⟨hx, hb, hml, hown, hts, hK, hA, hR, hcz, hsz⟩ := B
  intro H locs ls hz hP hS hl
  subst hR
  subst hM
  refine W.anew hx hb hown (hts _ hcl) (va_AO.use hO) rfl hd rfl hn0 hby hkc hns fun cA kA comp f1 f2 f3 f4 => ?_
  have hc : cA = G.2.2.2 := by
    obtain ⟨kA', comp', g1, g2, g3, g4⟩ := (hK.1.2 2 (G.2.2.2, .object "PaperRounds$Town") rfl).2
    exact Option.some.inj (f1.symm.trans g4)
  subst hc
  generalize hH1 : H.push ({ cls := G.2.2.2, slots := Array.replicate n'.toNatClampNeg .null, vm := .none } : Cell) = H1
  have z1 : H1.size = a0 + N + 1 := by rw [← hH1, Array.size_push, hz]
  have e1 : H1[a0 + N]? = some (arrV G.2.2.2 n'.toNatClampNeg (fun _ => .null)) := by rw [← hH1, ← hz, Array.getElem?_push_size, ← arrV_new]
  have o1 : ∀ q : Nat, q < a0 + N → H1[q]? = H[q]? := fun q hq => by rw [← hH1, Array.getElem?_push, if_neg (by omega)]
  rw [hz]
  refine kk H1 locs ls (z1.trans (Nat.add_assoc _ _ _)) (zn_app hz hP o1 ?_) (zn_S hS (by rw [z1, hz]; exact Nat.le_succ _) (by rw [hz]; exact o1)) hl
  rw [hw]
  exact e1
theorem zn_chg {H H1 : Heap} {D : va_G} {cl : List vw_C} {i : Nat} {e : va_E} (hP : ∀ j, j < N → va_at D cl (a0 + j, w j) H) (ho : ∀ q, q ≠ a0 + i → H1[q]? = H[q]?) (hn : va_at D cl (a0 + i, e) H1) : ∀ j, j < N → va_at D cl (a0 + j, wu w i e j) H1 := by
  intro j hj
  by_cases h : j = i
  · subst h
    rw [wu_i]
    exact hn
  · rw [wu_o h]
    exact (hP j hj).kept (ho _ (by show a0 + j ≠ a0 + i; omega))
/-- a field of the object that is being made, final or not -/
theorem zn_put (B : zB E G (fun q : Nat => a0 ≤ q) cc nL own R0) (hI : zNi E) (j : Nat) {ci index nf : Nat} {C : String} {T : u_T} {fs : List Value} {v : Value} {ty : FieldType} (hw : w 0 = .inr (ci, fs)) (h0 : 0 < N) (hc : vwCl[ci]? = some (C, T, nf)) (hin : ∀ x ∈ u_ws C T nf, x ∈ wsL_law) (ty0 : Nat → FieldType) (hty : ∀ k, k < nf → parseFieldDescriptor (T k).2.2.1 = some (ty0 k)) (hnm : ∀ a, a < nf → ∀ b, b < nf → a ≠ b → (T a).2.1 ≠ (T b).2.1) (hj : j < nf) (hlink : Cond.fieldLink own index (T j).1 (T j).2.1 (T j).2.2.1 ∈ wsL_law) (hdecl : (T j).1 = own) (hpd : parseFieldDescriptor (T j).2.2.1 = some ty) (hnr : narrow ty v = v) (hfit : fits ty v = true) (hlen : j < fs.length) (hd : decode cc pc = .ok (.putfield index, 3)) (kk : ZN E G nL a0 (wu w 0 (.inr (ci, fs.set j v))) N k n (pc + 3) lv st) : ZN E G nL a0 w N k n pc lv (v :: .ref a0 :: st) := by
  obtain ⟨p, l, e, R, s, m, args, below, meth, c, Q, cz, sz⟩ := E
  obtain ⟨hx, hb, hml, hown, hts, hK, hA, hR, hcz, hsz⟩ := B
  intro H locs ls hz hP hS hl
  have he : va_at G.1 vwCl (a0, .inr (ci, fs)) H := by
    have h := hP 0 h0
    rw [hw] at h
    exact h
  obtain ⟨r, hr, cell, q1, q2, q3, q4⟩ := he
  obtain rfl : r = (C, T, nf) := Option.some.inj (hr.symm.trans hc)
  have hap := va_apart (own := own) hts hin ty0 hty hnm hK.1 hc
  obtain ⟨hsl, hfc, kC, hkC, hkind⟩ := hK.1.1 ci _ hc
  obtain ⟨cf, kf, fi, f, hi, hse⟩ := hsl j hj
  have hboth := u_lays (args := args) hts hin hj
  have hst := (u_facts hfc hkC hboth hi).1
  have hlay := hts _ (hin _ (u_in_lay hj))
  unfold u_lay at hlay
  have hend : ∀ H1 : Heap, H1[a0]? = some (cell.setSlot f.slot v) → H1.size = H.size → (∀ q, q ≠ a0 → H1[q]? = H[q]?) → W p l e R s m args below meth c H1 (locs ++ [⟨a0, f.slot⟩]) k n Q (F0 m (pc + 3) ls st) := by
    intro H1 e1 e2 e3
    rw [hse] at e1
    refine kk H1 _ ls (e2.trans hz) (zn_chg hP e3 ?_) (hS.put e2 e3 (Nat.le_refl a0)) hl
    exact ⟨_, hc, t_OB.to (V := updV (vp_V fs) j v) ⟨_, e1, q2, q3, t_set q4 hap hj v⟩ (fun i _ => vp_updV_set hlen v i)⟩
  by_cases hf : (T j).2.2.2 = true
  · rw [if_pos hf] at hlay
    have hcf : m.cls = cf := by
      obtain ⟨_, _, c', _, _, _, -, -, hf', -, -, -, hown2, -⟩ := Cond.laysFinal_spec hlay
      have e1 : c' = cf := by
        have := hi.symm.trans hf'
        simp at this
        exact this.1.symm
      rw [hdecl] at hown2
      rw [← e1]
      exact Option.some.inj (hown.symm.trans hown2)
    refine W.putFinK hx hb hown (hts _ hlink) hi hst hcf hI (by rw [q2]; exact u_fits hfc hkC hkind hboth hi hpd hnr hfit) q1 q3 (by rw [hse]; exact k2_hasslot (q4 j hj)) rfl rfl hd hend
  · rw [if_neg hf] at hlay
    refine W.putK hx hb (f := f) ⟨hown, hts _ hlink, ⟨_, _, _, hi⟩, hst⟩ (by rw [q2]; exact u_store hfc hkC hkind hlay hi hpd hnr hfit) q1 q3 (by rw [hse]; exact k2_hasslot (q4 j hj)) rfl rfl hd hend
/-- a field of it is read -/
theorem zn_get (B : zB E G (fun q : Nat => a0 ≤ q) cc nL own R0) (j : Nat) {ci index nf : Nat} {C : String} {T : u_T} {fs : List Value} {v : Value} (hw : w 0 = .inr (ci, fs)) (h0 : 0 < N) (hc : vwCl[ci]? = some (C, T, nf)) (hin : ∀ x ∈ u_ws C T nf, x ∈ wsL_law) (hj : j < nf) (hlink : Cond.fieldLink own index (T j).1 (T j).2.1 (T j).2.2.1 ∈ wsL_law) (hv : fs[j]? = some v) (hd : decode cc pc = .ok (.getfield index, 3)) (kk : ZN E G nL a0 w N k n (pc + 3) lv (v :: st)) : ZN E G nL a0 w N k n pc lv (.ref a0 :: st) := by
  obtain ⟨p, l, e, R, s, m, args, below, meth, c, Q, cz, sz⟩ := E
  obtain ⟨hx, hb, hml, hown, hts, hK, hA, hR, hcz, hsz⟩ := B
  intro H locs ls hz hP hS hl
  have he := zc_at (a0 := a0) (w := w) h0
  rw [hw] at he
  exact va_get hx hb hts hin hown hK.1 (zc_P hP) 0 he hc j hj (hts _ hlink) (fun _ h9 => h9) hv hd (kk H locs ls hz hP hS hl)
/-- a number of an array -/
theorem zn_iast (B : zB E G (fun q : Nat => a0 ≤ q) cc nL own R0) (i M : Nat) {f : Nat → Int32} {x v : Int32} (hw : w i = .inl (G.2.1, M, .inl f)) (hi : i < N) (hin : vp_in x M) (hd : decode cc pc = .ok (.iastore, 1)) (kk : ZN E G nL a0 (wu w i (.inl (G.2.1, M, .inl (upd f x.toNatClampNeg v)))) N k n (pc + 1) lv st) : ZN E G nL a0 w N k n pc lv (.int v :: .int x :: .ref (a0 + i) :: st) := by
  obtain ⟨p, l, e, R, s, m, args, below, meth, c, Q, cz, sz⟩ := E
  obtain ⟨hx, hb, hml, hown, hts, hK, hA, hR, hcz, hsz⟩ := B
  intro H locs ls hz hP hS hl
  have he : H[a0 + i]? = some (arrV G.2.1 M (fun j => .int (f j))) := by
    have h := hP i hi
    rw [hw] at h
    exact h
  refine W.iast hx hb he ((hK.1.2 0 (G.2.1, .int) rfl).1 M (fun j => .int (f j))) (fun q => by cases q) (by show ¬ (x < 0 ∨ (arrV _ _ _).slots.size ≤ _); rw [arrV_size]; exact hin) rfl rfl hd fun H1 e1 e2 e3 => ?_
  refine kk H1 _ ls (e2.trans hz) (zn_chg hP e3 ?_) (hS.put e2 e3 (Nat.le_add_right a0 i)) hl
  show H1[a0 + i]? = some (vp_cell _ _)
  rw [e1, arrV_store, vp_cell_i]
  congr 2
  funext q
  by_cases hq : q = x.toNatClampNeg
  · subst hq
    simp [updV, upd]
  · simp [updV, upd, hq]
/-- a town of an array -/
theorem zn_aast (B : zB E G (fun q : Nat => a0 ≤ q) cc nL own R0) (i M t : Nat) {f : Nat → Option Nat} {x : Int32} {vs : List Value} (hw : w i = .inl (G.2.2.2, M, .inr (.inr (.inr (.inr f))))) (hi : i < N) (hwt : w t = .inr (6, vs)) (ht : t < N) (hin : vp_in x M) (hd : decode cc pc = .ok (.aastore, 1)) (kk : ZN E G nL a0 (wu w i (.inl (G.2.2.2, M, .inr (.inr (.inr (.inr (va_up f x.toNatClampNeg (some (a0 + t))))))))) N k n (pc + 1) lv st) : ZN E G nL a0 w N k n pc lv (.ref (a0 + t) :: .int x :: .ref (a0 + i) :: st) := by
  obtain ⟨p, l, e, R, s, m, args, below, meth, c, Q, cz, sz⟩ := E
  obtain ⟨hx, hb, hml, hown, hts, hK, hA, hR, hcz, hsz⟩ := B
  intro H locs ls hz hP hS hl
  have he : H[a0 + i]? = some (arrV G.2.2.2 M (fun j => va_rf (f j))) := by
    have h := hP i hi
    rw [hw] at h
    exact h
  have hlt : x.toNatClampNeg < M := Nat.not_le.mp fun q => hin (Or.inr q)
  have hx0 : ¬ x < 0 := fun q => hin (Or.inl q)
  have ht0 := hP t ht
  rw [hwt] at ht0
  obtain ⟨r, hr, cv, g1, g2, g3, -⟩ := ht0
  obtain ⟨kA, comp, k1, k2, k3, -⟩ := (hK.1.2 2 (G.2.2.2, .object "PaperRounds$Town") rfl).2
  have hcls := (hK.1.1 6 (RX6, TX6, 8) vc_6).2
  obtain rfl : comp = G.1.1 6 := Option.some.inj (k3.symm.trans hcls.1)
  obtain ⟨kC, hkC, -⟩ := id hcls.2
  refine W.aast hx hb he (fun q h => by cases h) (fun h => by cases h) k1 k2 rfl hkC ⟨hx0, by show _ < (arrV _ _ _).slots.size; rw [arrV_size]; exact hlt⟩ g1 (fun q h => by rw [g3] at h; cases h) (by rw [g2]; exact hkC) (by rw [g2]; exact va_assign hcls) rfl rfl hd fun H1 e1 e2 e3 => ?_
  refine kk H1 _ ls (e2.trans hz) (zn_chg hP e3 ?_) (hS.put e2 e3 (Nat.le_add_right a0 i)) hl
  show H1[a0 + i]? = some (vp_cell _ _)
  rw [e1, arrV_store, vp_cell_q]
  congr 2
  funext q
  by_cases hq : q = x.toNatClampNeg
  · subst hq
    simp [updV, va_up, va_rf]
  · simp [updV, va_up, hq]
/-- new, dup, and the call of the constructor -/
theorem zn_make (B : zB E G (fun q : Nat => a0 ≤ q) cc nL own R0) (hO : zNo E) {i1 i2 : Nat} {y : MethodName} {c' : ByteArray} {nL' fr lo mc ms ci nf N' : Nat} {T : u_T} {fs0 : List Value} {lay' : Nat → z_K} {σ' : z_S} (hM : zInit y c' nL' fr lo mc ms ci fs0 lay' N' σ') (hc : vwCl[ci]? = some (y.cls, T, nf)) (hin : ∀ x ∈ u_ws y.cls T nf, x ∈ wsL_law) (ty : Nat → FieldType) (hty : ∀ k, k < nf → parseFieldDescriptor (T k).2.2.1 = some (ty k)) (hfs : ∀ j, j < nf → defaultValue (ty j) = vp_V fs0 j)
    (hcl : Cond.classLink own i1 y.cls ∈ wsL_law) (hins : Cond.instantiable y.cls nf ∈ wsL_law) (hY : z_Y y c' nL' none 0) (hyi : y.name = "<init>") (hinm : Cond.instanceMethod y ∈ wsL_law) (hlink : Cond.methodLink own i2 y ∈ wsL_law ∨ ∃ host, (own, i2, y, host) ∈ z_nest)
    (hw : ∀ i, i < N' → w (N + i) = z_E G (fun j => a0 + N + j) (σ' i) (lay' i)) (hR' : fr + 1 ≤ R0.frames ∧ 8 + (nL' + 11) + lo ≤ R0.locals) (hkc : k + 1 + mc ≤ R0.cells) (hns : n + nf + ms ≤ R0.slots) (hcat : ((Value.ref (a0 + N) :: st).map fun v => v.category).sum ≤ 8)
    (hd1 : decode cc pc = .ok (.new i1, 3)) (hd2 : decode cc (pc + 3) = .ok (.dup, 1)) (hd3 : decode cc (pc + 4) = .ok (.invokespecial i2, 3)) (kk : ZN E G nL a0 w (N + N') (k + 1 + mc) (n + nf + ms) (pc + 7) lv (.ref (a0 + N) :: st)) : ZN E G nL a0 w N k n pc lv st := by
  obtain ⟨p, l, e, R, s, m, args, below, meth, c, Q, cz, sz⟩ := E
  obtain ⟨hx, hb, hml, hown, hts, hK, hA, hR, hcz, hsz⟩ := B
  intro H locs ls hz hP hS hl
  subst hR
  have hKn := hK.1.1 ci _ hc
  refine W.newcK hx hb hown (hts _ hcl) (hts _ hins) (hts _ hY.1) rfl hd1 (Nat.le_trans (Nat.le_add_right _ _) hkc) (Nat.le_trans (Nat.le_add_right _ _) hns) hKn.2.1 hz fun H1 kC hkC e1 z1 o1 => ?_
  refine W.eq (g2 := F0 m (pc + 3) ls (.ref (a0 + N) :: st)) rfl ?_
  refine lv_dup hx hb hd2 rfl ?_
  have hS1 : va_S (fun q : Nat => a0 ≤ q) s.heap H1 locs := zn_S hS (by rw [z1, hz]; exact Nat.le_succ _) (by rw [hz]; exact o1)
  have hnew : va_at G.1 vwCl (a0 + N, .inr (ci, fs0)) H1 := ⟨_, hc, (u_born ty hts hin hKn hkC e1 hty).to hfs⟩
  have hpre : PreS s H1 (va_Pc [.ref (a0 + N)] (fun U => U.heap.size = a0 + N + 1 ∧ va_at G.1 vwCl (a0 + N, .inr (ci, fs0)) U.heap ∧ z_Kp G U ∧ va_AO RX6 U)) [.ref (a0 + N)] :=
    ⟨fun a U g mk q => ⟨q.1, q.2.1, q.2.2.1, q.2.2.2.1.calling, va_AO.moved (u := U) (U := U.calling g mk a) (Vm.Alike.refl U.vm) q.2.2.2.2⟩, fun U hU hW => ⟨rfl, by rw [hU]; exact z1, by rw [hU]; exact hnew, hK.warm hW, va_AO.moved hW.alike hO⟩⟩
  have hrun : va_Run p l e R s m args below meth c H1 locs (k + 1) (n + nf) mc ms (F0 m (pc + 4) ls (.ref (a0 + N) :: .ref (a0 + N) :: st)) (.ref (a0 + N) :: st) ((va_Qv (fun _ : Unit => True) (fun _ t => t.heap.size = a0 + N + N' ∧ z_P G lay' N' (fun i => a0 + N + i) σ' t.heap) (fun q : Nat => a0 + N ≤ q)) (Value.ref (a0 + N) :: []).toArray) (fun q : Nat => a0 + N ≤ q) := by
    rcases hlink with h | ⟨host, h⟩
    · exact va_runI (As := []) (rest := .ref (a0 + N) :: st) ⟨hx, hb, hml, hown, hts⟩ (hM l G (a0 + N)) (cwI 0 hts (z_goodIn hY) rfl rfl rfl (hts _ hY.1) (hts _ h) (hts _ hinm) hyi hY.2.2 hR') hpre rfl rfl hl.1 rfl (lv_room (m := m) (pc := pc) (ls := ls) (rest := st) hcat) hd3 ⟨hkc, hns⟩
    · exact va_runIN (As := []) (rest := .ref (a0 + N) :: st) ⟨hx, hb, hml, hown, hts⟩ (hM l G (a0 + N)) ⟨va_cnB 0 hts (z_goodIn hY) rfl rfl rfl (hK.2 _ h) (hts _ hY.1) hY.2.2 hR', hyi, hts _ hinm⟩ hpre rfl rfl hl.1 rfl (lv_room (m := m) (pc := pc) (ls := ls) (rest := st) hcat) hd3 ⟨hkc, hns⟩
  refine va_callv hrun hS1 (fun q _ h => Nat.le_trans (Nat.le_add_right a0 N) h) (fun q h => Nat.le_trans (Nat.le_add_right a0 N) h) (fun u t H2 locs2 ht hvm hw' hB hz2 hk2 hS2 => ?_)
  obtain ⟨hzt, hPt⟩ := hB
  rw [ht] at hzt hPt
  refine kk H2 locs2 ls (hzt.trans (Nat.add_assoc _ _ _)) (fun i hi => ?_) hS2 hl
  by_cases hiN : i < N
  · refine ((hP i hiN).kept (o1 _ (by show a0 + i < a0 + N; omega))).kept (hk2 _ (by rw [z1]; show a0 + i < a0 + N + 1; omega) (by show ¬ a0 + N ≤ a0 + i; omega))
  · have h := hPt (i - N) (by omega)
    rw [← hw (i - N) (by omega)] at h
    have e2 : a0 + N + (i - N) = a0 + i := by omega
    have e3 : N + (i - N) = i := by omega
    simp only [e2, e3] at h
    exact h
end ZNR
