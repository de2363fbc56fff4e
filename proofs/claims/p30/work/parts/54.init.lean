/-! THE CONSTRUCTORS: laid by program (wip/whole/gen/initgen.py) -/
def z_0 : z_S := fun _ _ => 0
def wB (c : Nat) (fs : List Value) (G : z_G) (σ : z_S) (lay : Nat → z_K) (a0 : Nat) : Nat → va_E := fun i => if i = 0 then .inr (c, fs) else z_E G (fun j => a0 + j) (σ i) (lay i)
theorem wB_o {c : Nat} {fs : List Value} {G : z_G} {σ : z_S} {lay : Nat → z_K} {a0 i : Nat} (h : i ≠ 0) : wB c fs G σ lay a0 i = z_E G (fun j => a0 + j) (σ i) (lay i) := if_neg h
def zSh (N : Nat) : z_K → z_K → Bool
  | .inl (t, n), .inl (t', n') => n == n' && (if t' < 2 then t == t' else t == t' + N)
  | .inr (c, fs), .inr (c', fs') => c == c' && fs == fs'.map (Option.map (fun r => r + N)) && (fs'.all fun f => f.all fun r => decide (r + N < 1000))
  | _, _ => false
theorem zSh_fs {a0 N : Nat} {x : Nat → Int32} : ∀ (fs : List (Option Nat)) (b : Nat), (fs.all fun f => f.all fun r => decide (r + N < 1000)) = true → z_fs (fun j => a0 + j) x b (fs.map (Option.map (fun r => r + N))) = z_fs (fun j => a0 + N + j) x b fs
  | [], b, _ => rfl
  | none :: fs, b, h => by
    simp only [List.all_cons, Bool.and_eq_true] at h
    simp only [List.map_cons, Option.map_none, z_fs]
    rw [zSh_fs fs (b + 1) h.2]
  | some r :: fs, b, h => by
    simp only [List.all_cons, Bool.and_eq_true, Option.all_some, decide_eq_true_eq] at h
    simp only [List.map_cons, Option.map_some, z_fs]
    rw [zSh_fs fs (b + 1) h.2, z_nr, z_nr, if_pos h.1, if_pos (by omega), Nat.add_assoc a0 N r, Nat.add_comm N r]
theorem z_shE {G : z_G} {a0 N : Nat} {x : Nat → Int32} : ∀ {k k' : z_K}, zSh N k k' = true → z_E G (fun j => a0 + j) x k = z_E G (fun j => a0 + N + j) x k'
  | .inl (t, n), .inl (t', n'), h => by
    simp only [zSh, Bool.and_eq_true, beq_iff_eq] at h
    obtain ⟨rfl, h2⟩ := h
    match t' with
    | 0 =>
      have : t = 0 := by simpa using h2
      subst this
      rfl
    | 1 =>
      have : t = 1 := by simpa using h2
      subst this
      rfl
    | t' + 2 =>
      have : t = t' + N + 2 := by
        have h3 : t = t' + 2 + N := by rw [if_neg (by omega)] at h2; simpa using h2
        omega
      subst this
      have e : (fun j => some (a0 + (t' + N + 38 * j))) = fun j => some (a0 + N + (t' + 38 * j)) := by
        funext j
        rw [Nat.add_comm t' N, Nat.add_assoc N, Nat.add_assoc a0 N]
      show (Sum.inl (G.2.2.2, n, .inr (.inr (.inr (.inr (fun j => some (a0 + (t' + N + 38 * j))))))) : va_E) = .inl (G.2.2.2, n, .inr (.inr (.inr (.inr (fun j => some (a0 + N + (t' + 38 * j)))))))
      rw [e]
  | .inr (c, fs), .inr (c', fs'), h => by
    simp only [zSh, Bool.and_eq_true, beq_iff_eq] at h
    obtain ⟨⟨rfl, rfl⟩, h3⟩ := h
    simp only [z_E, zSh_fs _ _ h3]
  | .inl _, .inr _, h => by simp [zSh] at h
  | .inr _, .inl _, h => by simp [zSh] at h
theorem zn_to {E : z_En} {G : z_G} {nL a0 : Nat} {w : Nat → va_E} {N k n : Nat} {pc : Nat} {lv : List (Nat × Value)} {st : List Value} {N' k' n' : Nat} (hN : N = N') (hk : k = k') (hn : n = n') (kk : ZN E G nL a0 w N' k' n' pc lv st) : ZN E G nL a0 w N k n pc lv st := by
  subst hN; subst hk; subst hn; exact kk
theorem arrV_congr {c : ClassId} {n : Nat} {f g : Nat → Value} (h : ∀ j, j < n → f j = g j) : arrV c n f = arrV c n g := by
  unfold arrV
  have e : (fun j : Fin n => f j.val) = fun j : Fin n => g j.val := by
    funext j
    exact h j.val j.isLt
  rw [e]
def layI0 : Nat → z_K := fun i => ([.inr (0, [none, some 1, some 2, some 3, some 4, some 5, some 6, some 7]), .inl (0, 3), .inl (0, 3), .inl (0, 3), .inl (0, 3), .inl (0, 3), .inl (0, 3), .inl (0, 3)] : List z_K).getD i (.inl (0, 0))
def layI2 : Nat → z_K := fun i => ([.inr (2, [none, some 1, some 2, some 3, some 4, some 5, some 6, some 7, some 8, some 9, some 10, some 11, some 12, some 13, some 14]), .inl (0, 24), .inl (0, 24), .inl (0, 24), .inl (0, 24), .inl (0, 24), .inl (0, 24), .inl (0, 24), .inl (0, 24), .inl (0, 24), .inl (0, 24), .inl (0, 24), .inl (0, 24), .inl (0, 24), .inl (0, 24)] : List z_K).getD i (.inl (0, 0))
def layI3 : Nat → z_K := fun i => ([.inr (3, [none, some 1, some 2, some 3]), .inl (0, 30), .inl (0, 30), .inl (0, 30)] : List z_K).getD i (.inl (0, 0))
def layI4 : Nat → z_K := fun i => ([.inr (4, [none, some 1, some 2, some 3, some 4, some 5, some 6, some 7, some 8]), .inl (0, 20), .inl (0, 20), .inl (0, 20), .inl (0, 20), .inl (0, 20), .inl (0, 20), .inl (0, 20), .inl (0, 20)] : List z_K).getD i (.inl (0, 0))
def layI8 : Nat → z_K := fun i => ([.inr (8, [none, none, none, none, none, some 1]), .inl (0, 20)] : List z_K).getD i (.inl (0, 0))
def layI9 : Nat → z_K := fun i => ([.inr (9, [some 1, some 39, some 231, some 233, some 236]), .inr (6, [none, none, none, some 2, some 3, some 12, some 27, some 31]), .inl (0, 6), .inr (4, [none, some 4, some 5, some 6, some 7, some 8, some 9, some 10, some 11]), .inl (0, 20), .inl (0, 20), .inl (0, 20), .inl (0, 20), .inl (0, 20), .inl (0, 20), .inl (0, 20), .inl (0, 20), .inr (2, [none, some 13, some 14, some 15, some 16, some 17, some 18, some 19, some 20, some 21, some 22, some 23, some 24, some 25, some 26]), .inl (0, 24), .inl (0, 24), .inl (0, 24), .inl (0, 24), .inl (0, 24), .inl (0, 24), .inl (0, 24), .inl (0, 24), .inl (0, 24), .inl (0, 24), .inl (0, 24), .inl (0, 24), .inl (0, 24), .inl (0, 24), .inr (3, [none, some 28, some 29, some 30]), .inl (0, 30), .inl (0, 30), .inl (0, 30), .inr (0, [none, some 32, some 33, some 34, some 35, some 36, some 37, some 38]), .inl (0, 3), .inl (0, 3), .inl (0, 3), .inl (0, 3), .inl (0, 3), .inl (0, 3), .inl (0, 3), .inr (1, [none, none, some 40]), .inl (43, 5), .inr (6, [none, none, none, some 42, some 43, some 52, some 67, some 71]), .inl (0, 6), .inr (4, [none, some 44, some 45, some 46, some 47, some 48, some 49, some 50, some 51]), .inl (0, 20), .inl (0, 20), .inl (0, 20), .inl (0, 20), .inl (0, 20), .inl (0, 20), .inl (0, 20), .inl (0, 20), .inr (2, [none, some 53, some 54, some 55, some 56, some 57, some 58, some 59, some 60, some 61, some 62, some 63, some 64, some 65, some 66]), .inl (0, 24), .inl (0, 24), .inl (0, 24), .inl (0, 24), .inl (0, 24), .inl (0, 24), .inl (0, 24), .inl (0, 24), .inl (0, 24), .inl (0, 24), .inl (0, 24), .inl (0, 24), .inl (0, 24), .inl (0, 24), .inr (3, [none, some 68, some 69, some 70]), .inl (0, 30), .inl (0, 30), .inl (0, 30), .inr (0, [none, some 72, some 73, some 74, some 75, some 76, some 77, some 78]), .inl (0, 3), .inl (0, 3), .inl (0, 3), .inl (0, 3), .inl (0, 3), .inl (0, 3), .inl (0, 3), .inr (6, [none, none, none, some 80, some 81, some 90, some 105, some 109]), .inl (0, 6), .inr (4, [none, some 82, some 83, some 84, some 85, some 86, some 87, some 88, some 89]), .inl (0, 20), .inl (0, 20), .inl (0, 20), .inl (0, 20), .inl (0, 20), .inl (0, 20), .inl (0, 20), .inl (0, 20), .inr (2, [none, some 91, some 92, some 93, some 94, some 95, some 96, some 97, some 98, some 99, some 100, some 101, some 102, some 103, some 104]), .inl (0, 24), .inl (0, 24), .inl (0, 24), .inl (0, 24), .inl (0, 24), .inl (0, 24), .inl (0, 24), .inl (0, 24), .inl (0, 24), .inl (0, 24), .inl (0, 24), .inl (0, 24), .inl (0, 24), .inl (0, 24), .inr (3, [none, some 106, some 107, some 108]), .inl (0, 30), .inl (0, 30), .inl (0, 30), .inr (0, [none, some 110, some 111, some 112, some 113, some 114, some 115, some 116]), .inl (0, 3), .inl (0, 3), .inl (0, 3), .inl (0, 3), .inl (0, 3), .inl (0, 3), .inl (0, 3), .inr (6, [none, none, none, some 118, some 119, some 128, some 143, some 147]), .inl (0, 6), .inr (4, [none, some 120, some 121, some 122, some 123, some 124, some 125, some 126, some 127]), .inl (0, 20), .inl (0, 20), .inl (0, 20), .inl (0, 20), .inl (0, 20), .inl (0, 20), .inl (0, 20), .inl (0, 20), .inr (2, [none, some 129, some 130, some 131, some 132, some 133, some 134, some 135, some 136, some 137, some 138, some 139, some 140, some 141, some 142]), .inl (0, 24), .inl (0, 24), .inl (0, 24), .inl (0, 24), .inl (0, 24), .inl (0, 24), .inl (0, 24), .inl (0, 24), .inl (0, 24), .inl (0, 24), .inl (0, 24), .inl (0, 24), .inl (0, 24), .inl (0, 24), .inr (3, [none, some 144, some 145, some 146]), .inl (0, 30), .inl (0, 30), .inl (0, 30), .inr (0, [none, some 148, some 149, some 150, some 151, some 152, some 153, some 154]), .inl (0, 3), .inl (0, 3), .inl (0, 3), .inl (0, 3), .inl (0, 3), .inl (0, 3), .inl (0, 3), .inr (6, [none, none, none, some 156, some 157, some 166, some 181, some 185]), .inl (0, 6), .inr (4, [none, some 158, some 159, some 160, some 161, some 162, some 163, some 164, some 165]), .inl (0, 20), .inl (0, 20), .inl (0, 20), .inl (0, 20), .inl (0, 20), .inl (0, 20), .inl (0, 20), .inl (0, 20), .inr (2, [none, some 167, some 168, some 169, some 170, some 171, some 172, some 173, some 174, some 175, some 176, some 177, some 178, some 179, some 180]), .inl (0, 24), .inl (0, 24), .inl (0, 24), .inl (0, 24), .inl (0, 24), .inl (0, 24), .inl (0, 24), .inl (0, 24), .inl (0, 24), .inl (0, 24), .inl (0, 24), .inl (0, 24), .inl (0, 24), .inl (0, 24), .inr (3, [none, some 182, some 183, some 184]), .inl (0, 30), .inl (0, 30), .inl (0, 30), .inr (0, [none, some 186, some 187, some 188, some 189, some 190, some 191, some 192]), .inl (0, 3), .inl (0, 3), .inl (0, 3), .inl (0, 3), .inl (0, 3), .inl (0, 3), .inl (0, 3), .inr (6, [none, none, none, some 194, some 195, some 204, some 219, some 223]), .inl (0, 6), .inr (4, [none, some 196, some 197, some 198, some 199, some 200, some 201, some 202, some 203]), .inl (0, 20), .inl (0, 20), .inl (0, 20), .inl (0, 20), .inl (0, 20), .inl (0, 20), .inl (0, 20), .inl (0, 20), .inr (2, [none, some 205, some 206, some 207, some 208, some 209, some 210, some 211, some 212, some 213, some 214, some 215, some 216, some 217, some 218]), .inl (0, 24), .inl (0, 24), .inl (0, 24), .inl (0, 24), .inl (0, 24), .inl (0, 24), .inl (0, 24), .inl (0, 24), .inl (0, 24), .inl (0, 24), .inl (0, 24), .inl (0, 24), .inl (0, 24), .inl (0, 24), .inr (3, [none, some 220, some 221, some 222]), .inl (0, 30), .inl (0, 30), .inl (0, 30), .inr (0, [none, some 224, some 225, some 226, some 227, some 228, some 229, some 230]), .inl (0, 3), .inl (0, 3), .inl (0, 3), .inl (0, 3), .inl (0, 3), .inl (0, 3), .inl (0, 3), .inr (8, [none, none, none, none, none, some 232]), .inl (0, 20), .inr (5, [none, some 234, none, none, some 235]), .inl (1, 60), .inl (0, 3), .inr (7, [some 237, none, none, none, none]), .inr (6, [none, none, none, some 238, some 239, some 248, some 263, some 267]), .inl (0, 6), .inr (4, [none, some 240, some 241, some 242, some 243, some 244, some 245, some 246, some 247]), .inl (0, 20), .inl (0, 20), .inl (0, 20), .inl (0, 20), .inl (0, 20), .inl (0, 20), .inl (0, 20), .inl (0, 20), .inr (2, [none, some 249, some 250, some 251, some 252, some 253, some 254, some 255, some 256, some 257, some 258, some 259, some 260, some 261, some 262]), .inl (0, 24), .inl (0, 24), .inl (0, 24), .inl (0, 24), .inl (0, 24), .inl (0, 24), .inl (0, 24), .inl (0, 24), .inl (0, 24), .inl (0, 24), .inl (0, 24), .inl (0, 24), .inl (0, 24), .inl (0, 24), .inr (3, [none, some 264, some 265, some 266]), .inl (0, 30), .inl (0, 30), .inl (0, 30), .inr (0, [none, some 268, some 269, some 270, some 271, some 272, some 273, some 274]), .inl (0, 3), .inl (0, 3), .inl (0, 3), .inl (0, 3), .inl (0, 3), .inl (0, 3), .inl (0, 3)] : List z_K).getD i (.inl (0, 0))
def sgI4 : z_S := z_u (z_u (z_u z_0 0 0 1) 1 0 (-1)) 7 0 1
def sgI6 : z_S := fun i => if i = 0 then (fun j => if j = 1 then 3 else if j = 2 then 8 else 0) else if i < 2 then z_0 i else if i < 11 then sgI4 (i - 2) else if i < 26 then z_0 (i - 11) else if i < 30 then z_0 (i - 26) else z_0 (i - 30)
def sgI1 : z_S := fun i => if i < 2 then z_0 i else sgI6 ((i - 2) % 38)
def sgI5 : z_S := z_u z_0 0 2 32
def sgI7 : z_S := fun i => if i = 0 then z_0 i else sgI6 (i - 1)
def sgI9 : z_S := fun i => if i = 0 then z_0 i else if i < 39 then sgI6 (i - 1) else if i < 231 then sgI1 (i - 39) else if i < 233 then z_0 (i - 231) else if i < 236 then sgI5 (i - 233) else sgI7 (i - 236)
theorem zY_0 : z_Y yX0_init cX0_init 1 none 0 := ⟨(wsL_c3 _ (List.mem_of_getElem? (i := 3) rfl)), (wsL_c4 _ (List.mem_of_getElem? (i := 20) rfl)), by decide +kernel, by decide +kernel, by decide +kernel⟩
set_option maxRecDepth 100000 in
set_option maxHeartbeats 4000000 in
theorem ci_X0 : zInit yX0_init cX0_init 1 1 12 7 21 0 [.int 0, .null, .null, .null, .null, .null, .null, .null] layI0 8 z_0 := by
  refine zn_head RX0 (fun G a0 => wB 0 [.int 0, .null, .null, .null, .null, .null, .null, .null] G z_0 layI0 a0) (fun _ _ => rfl) (by decide) rfl rfl (fun _ => (Nat.le_of_ble_eq_true rfl)) (fun E G a0 hB hI hO hret => ?_)
  refine zn_aload_n hB 0 dX0_init_0 rfl rfl ?_
  refine zn_obj hB (wsL_c4 _ (List.mem_of_getElem? (i := 21) rfl)) (wsL_c1 _ (List.mem_of_getElem? (i := 7) rfl)) (wsL_c1 _ (List.mem_of_getElem? (i := 8) rfl)) dX0_init_1 (Nat.le_of_ble_eq_true rfl) (Nat.le_of_ble_eq_true rfl) ?_
  refine zn_aload_n hB 0 dX0_init_4 rfl rfl ?_
  refine zn_iconst hB dX0_init_5 zcI_0 ?_
  refine zn_put hB hI 0 (fs := [.int 0, .null, .null, .null, .null, .null, .null, .null]) rfl (Nat.le_of_ble_eq_true rfl) vc_0 inlX0 tyX0 tyX0_ok nmX0 (Nat.le_of_ble_eq_true rfl) (wsL_c4 _ (List.mem_of_getElem? (i := 22) rfl)) rfl (tyX0_ok 0 (Nat.le_of_ble_eq_true rfl)) rfl rfl (Nat.le_of_ble_eq_true rfl) dX0_init_6 ?_
  refine zn_aload_n hB 0 dX0_init_9 rfl rfl ?_
  refine zn_iconst hB dX0_init_10 zcI_3 ?_
  refine zn_newi hB (M := 3) dX0_init_11 (wsL_c2 _ (List.mem_of_getElem? (i := 11) rfl)) (by decide) (by decide) (by decide) rfl (Nat.le_of_ble_eq_true rfl) (Nat.le_of_ble_eq_true rfl) ?_
  refine zn_to (N' := 2) (k' := 1) (n' := 3) rfl rfl rfl ?_
  refine zn_put hB hI 1 (fs := [.int 0, .null, .null, .null, .null, .null, .null, .null]) rfl (Nat.le_of_ble_eq_true rfl) vc_0 inlX0 tyX0 tyX0_ok nmX0 (Nat.le_of_ble_eq_true rfl) (wsL_c4 _ (List.mem_of_getElem? (i := 23) rfl)) rfl (tyX0_ok 1 (Nat.le_of_ble_eq_true rfl)) rfl rfl (Nat.le_of_ble_eq_true rfl) dX0_init_13 ?_
  refine zn_aload_n hB 0 dX0_init_16 rfl rfl ?_
  refine zn_iconst hB dX0_init_17 zcI_3 ?_
  refine zn_newi hB (M := 3) dX0_init_18 (wsL_c2 _ (List.mem_of_getElem? (i := 11) rfl)) (by decide) (by decide) (by decide) rfl (Nat.le_of_ble_eq_true rfl) (Nat.le_of_ble_eq_true rfl) ?_
  refine zn_to (N' := 3) (k' := 2) (n' := 6) rfl rfl rfl ?_
  refine zn_put hB hI 2 (fs := [.int 0, .ref (a0 + 1), .null, .null, .null, .null, .null, .null]) rfl (Nat.le_of_ble_eq_true rfl) vc_0 inlX0 tyX0 tyX0_ok nmX0 (Nat.le_of_ble_eq_true rfl) (wsL_c5 _ (List.mem_of_getElem? (i := 0) rfl)) rfl (tyX0_ok 2 (Nat.le_of_ble_eq_true rfl)) rfl rfl (Nat.le_of_ble_eq_true rfl) dX0_init_20 ?_
  refine zn_aload_n hB 0 dX0_init_23 rfl rfl ?_
  refine zn_iconst hB dX0_init_24 zcI_3 ?_
  refine zn_newi hB (M := 3) dX0_init_25 (wsL_c2 _ (List.mem_of_getElem? (i := 11) rfl)) (by decide) (by decide) (by decide) rfl (Nat.le_of_ble_eq_true rfl) (Nat.le_of_ble_eq_true rfl) ?_
  refine zn_to (N' := 4) (k' := 3) (n' := 9) rfl rfl rfl ?_
  refine zn_put hB hI 3 (fs := [.int 0, .ref (a0 + 1), .ref (a0 + 2), .null, .null, .null, .null, .null]) rfl (Nat.le_of_ble_eq_true rfl) vc_0 inlX0 tyX0 tyX0_ok nmX0 (Nat.le_of_ble_eq_true rfl) (wsL_c5 _ (List.mem_of_getElem? (i := 1) rfl)) rfl (tyX0_ok 3 (Nat.le_of_ble_eq_true rfl)) rfl rfl (Nat.le_of_ble_eq_true rfl) dX0_init_27 ?_
  refine zn_aload_n hB 0 dX0_init_30 rfl rfl ?_
  refine zn_iconst hB dX0_init_31 zcI_3 ?_
  refine zn_newi hB (M := 3) dX0_init_32 (wsL_c2 _ (List.mem_of_getElem? (i := 11) rfl)) (by decide) (by decide) (by decide) rfl (Nat.le_of_ble_eq_true rfl) (Nat.le_of_ble_eq_true rfl) ?_
  refine zn_to (N' := 5) (k' := 4) (n' := 12) rfl rfl rfl ?_
  refine zn_put hB hI 4 (fs := [.int 0, .ref (a0 + 1), .ref (a0 + 2), .ref (a0 + 3), .null, .null, .null, .null]) rfl (Nat.le_of_ble_eq_true rfl) vc_0 inlX0 tyX0 tyX0_ok nmX0 (Nat.le_of_ble_eq_true rfl) (wsL_c5 _ (List.mem_of_getElem? (i := 2) rfl)) rfl (tyX0_ok 4 (Nat.le_of_ble_eq_true rfl)) rfl rfl (Nat.le_of_ble_eq_true rfl) dX0_init_34 ?_
  refine zn_aload_n hB 0 dX0_init_37 rfl rfl ?_
  refine zn_iconst hB dX0_init_38 zcI_3 ?_
  refine zn_newi hB (M := 3) dX0_init_39 (wsL_c2 _ (List.mem_of_getElem? (i := 11) rfl)) (by decide) (by decide) (by decide) rfl (Nat.le_of_ble_eq_true rfl) (Nat.le_of_ble_eq_true rfl) ?_
  refine zn_to (N' := 6) (k' := 5) (n' := 15) rfl rfl rfl ?_
  refine zn_put hB hI 5 (fs := [.int 0, .ref (a0 + 1), .ref (a0 + 2), .ref (a0 + 3), .ref (a0 + 4), .null, .null, .null]) rfl (Nat.le_of_ble_eq_true rfl) vc_0 inlX0 tyX0 tyX0_ok nmX0 (Nat.le_of_ble_eq_true rfl) (wsL_c5 _ (List.mem_of_getElem? (i := 3) rfl)) rfl (tyX0_ok 5 (Nat.le_of_ble_eq_true rfl)) rfl rfl (Nat.le_of_ble_eq_true rfl) dX0_init_41 ?_
  refine zn_aload_n hB 0 dX0_init_44 rfl rfl ?_
  refine zn_iconst hB dX0_init_45 zcI_3 ?_
  refine zn_newi hB (M := 3) dX0_init_46 (wsL_c2 _ (List.mem_of_getElem? (i := 11) rfl)) (by decide) (by decide) (by decide) rfl (Nat.le_of_ble_eq_true rfl) (Nat.le_of_ble_eq_true rfl) ?_
  refine zn_to (N' := 7) (k' := 6) (n' := 18) rfl rfl rfl ?_
  refine zn_put hB hI 6 (fs := [.int 0, .ref (a0 + 1), .ref (a0 + 2), .ref (a0 + 3), .ref (a0 + 4), .ref (a0 + 5), .null, .null]) rfl (Nat.le_of_ble_eq_true rfl) vc_0 inlX0 tyX0 tyX0_ok nmX0 (Nat.le_of_ble_eq_true rfl) (wsL_c5 _ (List.mem_of_getElem? (i := 4) rfl)) rfl (tyX0_ok 6 (Nat.le_of_ble_eq_true rfl)) rfl rfl (Nat.le_of_ble_eq_true rfl) dX0_init_48 ?_
  refine zn_aload_n hB 0 dX0_init_51 rfl rfl ?_
  refine zn_iconst hB dX0_init_52 zcI_3 ?_
  refine zn_newi hB (M := 3) dX0_init_53 (wsL_c2 _ (List.mem_of_getElem? (i := 11) rfl)) (by decide) (by decide) (by decide) rfl (Nat.le_of_ble_eq_true rfl) (Nat.le_of_ble_eq_true rfl) ?_
  refine zn_to (N' := 8) (k' := 7) (n' := 21) rfl rfl rfl ?_
  refine zn_put hB hI 7 (fs := [.int 0, .ref (a0 + 1), .ref (a0 + 2), .ref (a0 + 3), .ref (a0 + 4), .ref (a0 + 5), .ref (a0 + 6), .null]) rfl (Nat.le_of_ble_eq_true rfl) vc_0 inlX0 tyX0 tyX0_ok nmX0 (Nat.le_of_ble_eq_true rfl) (wsL_c5 _ (List.mem_of_getElem? (i := 5) rfl)) rfl (tyX0_ok 7 (Nat.le_of_ble_eq_true rfl)) rfl rfl (Nat.le_of_ble_eq_true rfl) dX0_init_55 ?_
  refine hret _ _ _ _ _ (fun i H hi h => ?_) (Nat.le_of_ble_eq_true rfl) (Nat.le_of_ble_eq_true rfl) dX0_init_58
  by_cases h0 : i = 0
  · subst h0
    exact h
  simp only [wu_o h0] at h
  rw [wB_o h0] at h
  exact h
theorem zY_2 : z_Y yX2_init cX2_init 1 none 0 := ⟨(wsL_c2 _ (List.mem_of_getElem? (i := 19) rfl)), (wsL_c3 _ (List.mem_of_getElem? (i := 19) rfl)), by decide +kernel, by decide +kernel, by decide +kernel⟩
set_option maxRecDepth 100000 in
set_option maxHeartbeats 4000000 in
theorem ci_X2 : zInit yX2_init cX2_init 1 1 12 14 336 2 [.int 0, .null, .null, .null, .null, .null, .null, .null, .null, .null, .null, .null, .null, .null, .null] layI2 15 z_0 := by
  refine zn_head RX2 (fun G a0 => wB 2 [.int 0, .null, .null, .null, .null, .null, .null, .null, .null, .null, .null, .null, .null, .null, .null] G z_0 layI2 a0) (fun _ _ => rfl) (by decide) rfl rfl (fun _ => (Nat.le_of_ble_eq_true rfl)) (fun E G a0 hB hI hO hret => ?_)
  refine zn_aload_n hB 0 dX2_init_0 rfl rfl ?_
  refine zn_obj hB (wsL_c3 _ (List.mem_of_getElem? (i := 20) rfl)) (wsL_c1 _ (List.mem_of_getElem? (i := 7) rfl)) (wsL_c1 _ (List.mem_of_getElem? (i := 8) rfl)) dX2_init_1 (Nat.le_of_ble_eq_true rfl) (Nat.le_of_ble_eq_true rfl) ?_
  refine zn_aload_n hB 0 dX2_init_4 rfl rfl ?_
  refine zn_iconst hB dX2_init_5 zcI_0 ?_
  refine zn_put hB hI 0 (fs := [.int 0, .null, .null, .null, .null, .null, .null, .null, .null, .null, .null, .null, .null, .null, .null]) rfl (Nat.le_of_ble_eq_true rfl) vc_2 inlX2 tyX2 tyX2_ok nmX2 (Nat.le_of_ble_eq_true rfl) (wsL_c3 _ (List.mem_of_getElem? (i := 21) rfl)) rfl (tyX2_ok 0 (Nat.le_of_ble_eq_true rfl)) rfl rfl (Nat.le_of_ble_eq_true rfl) dX2_init_6 ?_
  refine zn_aload_n hB 0 dX2_init_9 rfl rfl ?_
  refine zn_bipush hB dX2_init_10 zcB_24 ?_
  refine zn_newi hB (M := 24) dX2_init_12 (wsL_c2 _ (List.mem_of_getElem? (i := 11) rfl)) (by decide) (by decide) (by decide) rfl (Nat.le_of_ble_eq_true rfl) (Nat.le_of_ble_eq_true rfl) ?_
  refine zn_to (N' := 2) (k' := 1) (n' := 24) rfl rfl rfl ?_
  refine zn_put hB hI 1 (fs := [.int 0, .null, .null, .null, .null, .null, .null, .null, .null, .null, .null, .null, .null, .null, .null]) rfl (Nat.le_of_ble_eq_true rfl) vc_2 inlX2 tyX2 tyX2_ok nmX2 (Nat.le_of_ble_eq_true rfl) (wsL_c3 _ (List.mem_of_getElem? (i := 22) rfl)) rfl (tyX2_ok 1 (Nat.le_of_ble_eq_true rfl)) rfl rfl (Nat.le_of_ble_eq_true rfl) dX2_init_14 ?_
  refine zn_aload_n hB 0 dX2_init_17 rfl rfl ?_
  refine zn_bipush hB dX2_init_18 zcB_24 ?_
  refine zn_newi hB (M := 24) dX2_init_20 (wsL_c2 _ (List.mem_of_getElem? (i := 11) rfl)) (by decide) (by decide) (by decide) rfl (Nat.le_of_ble_eq_true rfl) (Nat.le_of_ble_eq_true rfl) ?_
  refine zn_to (N' := 3) (k' := 2) (n' := 48) rfl rfl rfl ?_
  refine zn_put hB hI 2 (fs := [.int 0, .ref (a0 + 1), .null, .null, .null, .null, .null, .null, .null, .null, .null, .null, .null, .null, .null]) rfl (Nat.le_of_ble_eq_true rfl) vc_2 inlX2 tyX2 tyX2_ok nmX2 (Nat.le_of_ble_eq_true rfl) (wsL_c3 _ (List.mem_of_getElem? (i := 23) rfl)) rfl (tyX2_ok 2 (Nat.le_of_ble_eq_true rfl)) rfl rfl (Nat.le_of_ble_eq_true rfl) dX2_init_22 ?_
  refine zn_aload_n hB 0 dX2_init_25 rfl rfl ?_
  refine zn_bipush hB dX2_init_26 zcB_24 ?_
  refine zn_newi hB (M := 24) dX2_init_28 (wsL_c2 _ (List.mem_of_getElem? (i := 11) rfl)) (by decide) (by decide) (by decide) rfl (Nat.le_of_ble_eq_true rfl) (Nat.le_of_ble_eq_true rfl) ?_
  refine zn_to (N' := 4) (k' := 3) (n' := 72) rfl rfl rfl ?_
  refine zn_put hB hI 3 (fs := [.int 0, .ref (a0 + 1), .ref (a0 + 2), .null, .null, .null, .null, .null, .null, .null, .null, .null, .null, .null, .null]) rfl (Nat.le_of_ble_eq_true rfl) vc_2 inlX2 tyX2 tyX2_ok nmX2 (Nat.le_of_ble_eq_true rfl) (wsL_c4 _ (List.mem_of_getElem? (i := 0) rfl)) rfl (tyX2_ok 3 (Nat.le_of_ble_eq_true rfl)) rfl rfl (Nat.le_of_ble_eq_true rfl) dX2_init_30 ?_
  refine zn_aload_n hB 0 dX2_init_33 rfl rfl ?_
  refine zn_bipush hB dX2_init_34 zcB_24 ?_
  refine zn_newi hB (M := 24) dX2_init_36 (wsL_c2 _ (List.mem_of_getElem? (i := 11) rfl)) (by decide) (by decide) (by decide) rfl (Nat.le_of_ble_eq_true rfl) (Nat.le_of_ble_eq_true rfl) ?_
  refine zn_to (N' := 5) (k' := 4) (n' := 96) rfl rfl rfl ?_
  refine zn_put hB hI 4 (fs := [.int 0, .ref (a0 + 1), .ref (a0 + 2), .ref (a0 + 3), .null, .null, .null, .null, .null, .null, .null, .null, .null, .null, .null]) rfl (Nat.le_of_ble_eq_true rfl) vc_2 inlX2 tyX2 tyX2_ok nmX2 (Nat.le_of_ble_eq_true rfl) (wsL_c4 _ (List.mem_of_getElem? (i := 1) rfl)) rfl (tyX2_ok 4 (Nat.le_of_ble_eq_true rfl)) rfl rfl (Nat.le_of_ble_eq_true rfl) dX2_init_38 ?_
  refine zn_aload_n hB 0 dX2_init_41 rfl rfl ?_
  refine zn_bipush hB dX2_init_42 zcB_24 ?_
  refine zn_newi hB (M := 24) dX2_init_44 (wsL_c2 _ (List.mem_of_getElem? (i := 11) rfl)) (by decide) (by decide) (by decide) rfl (Nat.le_of_ble_eq_true rfl) (Nat.le_of_ble_eq_true rfl) ?_
  refine zn_to (N' := 6) (k' := 5) (n' := 120) rfl rfl rfl ?_
  refine zn_put hB hI 5 (fs := [.int 0, .ref (a0 + 1), .ref (a0 + 2), .ref (a0 + 3), .ref (a0 + 4), .null, .null, .null, .null, .null, .null, .null, .null, .null, .null]) rfl (Nat.le_of_ble_eq_true rfl) vc_2 inlX2 tyX2 tyX2_ok nmX2 (Nat.le_of_ble_eq_true rfl) (wsL_c4 _ (List.mem_of_getElem? (i := 2) rfl)) rfl (tyX2_ok 5 (Nat.le_of_ble_eq_true rfl)) rfl rfl (Nat.le_of_ble_eq_true rfl) dX2_init_46 ?_
  refine zn_aload_n hB 0 dX2_init_49 rfl rfl ?_
  refine zn_bipush hB dX2_init_50 zcB_24 ?_
  refine zn_newi hB (M := 24) dX2_init_52 (wsL_c2 _ (List.mem_of_getElem? (i := 11) rfl)) (by decide) (by decide) (by decide) rfl (Nat.le_of_ble_eq_true rfl) (Nat.le_of_ble_eq_true rfl) ?_
  refine zn_to (N' := 7) (k' := 6) (n' := 144) rfl rfl rfl ?_
  refine zn_put hB hI 6 (fs := [.int 0, .ref (a0 + 1), .ref (a0 + 2), .ref (a0 + 3), .ref (a0 + 4), .ref (a0 + 5), .null, .null, .null, .null, .null, .null, .null, .null, .null]) rfl (Nat.le_of_ble_eq_true rfl) vc_2 inlX2 tyX2 tyX2_ok nmX2 (Nat.le_of_ble_eq_true rfl) (wsL_c4 _ (List.mem_of_getElem? (i := 3) rfl)) rfl (tyX2_ok 6 (Nat.le_of_ble_eq_true rfl)) rfl rfl (Nat.le_of_ble_eq_true rfl) dX2_init_54 ?_
  refine zn_aload_n hB 0 dX2_init_57 rfl rfl ?_
  refine zn_bipush hB dX2_init_58 zcB_24 ?_
  refine zn_newi hB (M := 24) dX2_init_60 (wsL_c2 _ (List.mem_of_getElem? (i := 11) rfl)) (by decide) (by decide) (by decide) rfl (Nat.le_of_ble_eq_true rfl) (Nat.le_of_ble_eq_true rfl) ?_
  refine zn_to (N' := 8) (k' := 7) (n' := 168) rfl rfl rfl ?_
  refine zn_put hB hI 7 (fs := [.int 0, .ref (a0 + 1), .ref (a0 + 2), .ref (a0 + 3), .ref (a0 + 4), .ref (a0 + 5), .ref (a0 + 6), .null, .null, .null, .null, .null, .null, .null, .null]) rfl (Nat.le_of_ble_eq_true rfl) vc_2 inlX2 tyX2 tyX2_ok nmX2 (Nat.le_of_ble_eq_true rfl) (wsL_c4 _ (List.mem_of_getElem? (i := 4) rfl)) rfl (tyX2_ok 7 (Nat.le_of_ble_eq_true rfl)) rfl rfl (Nat.le_of_ble_eq_true rfl) dX2_init_62 ?_
  refine zn_aload_n hB 0 dX2_init_65 rfl rfl ?_
  refine zn_bipush hB dX2_init_66 zcB_24 ?_
  refine zn_newi hB (M := 24) dX2_init_68 (wsL_c2 _ (List.mem_of_getElem? (i := 11) rfl)) (by decide) (by decide) (by decide) rfl (Nat.le_of_ble_eq_true rfl) (Nat.le_of_ble_eq_true rfl) ?_
  refine zn_to (N' := 9) (k' := 8) (n' := 192) rfl rfl rfl ?_
  refine zn_put hB hI 8 (fs := [.int 0, .ref (a0 + 1), .ref (a0 + 2), .ref (a0 + 3), .ref (a0 + 4), .ref (a0 + 5), .ref (a0 + 6), .ref (a0 + 7), .null, .null, .null, .null, .null, .null, .null]) rfl (Nat.le_of_ble_eq_true rfl) vc_2 inlX2 tyX2 tyX2_ok nmX2 (Nat.le_of_ble_eq_true rfl) (wsL_c4 _ (List.mem_of_getElem? (i := 5) rfl)) rfl (tyX2_ok 8 (Nat.le_of_ble_eq_true rfl)) rfl rfl (Nat.le_of_ble_eq_true rfl) dX2_init_70 ?_
  refine zn_aload_n hB 0 dX2_init_73 rfl rfl ?_
  refine zn_bipush hB dX2_init_74 zcB_24 ?_
  refine zn_newi hB (M := 24) dX2_init_76 (wsL_c2 _ (List.mem_of_getElem? (i := 11) rfl)) (by decide) (by decide) (by decide) rfl (Nat.le_of_ble_eq_true rfl) (Nat.le_of_ble_eq_true rfl) ?_
  refine zn_to (N' := 10) (k' := 9) (n' := 216) rfl rfl rfl ?_
  refine zn_put hB hI 9 (fs := [.int 0, .ref (a0 + 1), .ref (a0 + 2), .ref (a0 + 3), .ref (a0 + 4), .ref (a0 + 5), .ref (a0 + 6), .ref (a0 + 7), .ref (a0 + 8), .null, .null, .null, .null, .null, .null]) rfl (Nat.le_of_ble_eq_true rfl) vc_2 inlX2 tyX2 tyX2_ok nmX2 (Nat.le_of_ble_eq_true rfl) (wsL_c4 _ (List.mem_of_getElem? (i := 6) rfl)) rfl (tyX2_ok 9 (Nat.le_of_ble_eq_true rfl)) rfl rfl (Nat.le_of_ble_eq_true rfl) dX2_init_78 ?_
  refine zn_aload_n hB 0 dX2_init_81 rfl rfl ?_
  refine zn_bipush hB dX2_init_82 zcB_24 ?_
  refine zn_newi hB (M := 24) dX2_init_84 (wsL_c2 _ (List.mem_of_getElem? (i := 11) rfl)) (by decide) (by decide) (by decide) rfl (Nat.le_of_ble_eq_true rfl) (Nat.le_of_ble_eq_true rfl) ?_
  refine zn_to (N' := 11) (k' := 10) (n' := 240) rfl rfl rfl ?_
  refine zn_put hB hI 10 (fs := [.int 0, .ref (a0 + 1), .ref (a0 + 2), .ref (a0 + 3), .ref (a0 + 4), .ref (a0 + 5), .ref (a0 + 6), .ref (a0 + 7), .ref (a0 + 8), .ref (a0 + 9), .null, .null, .null, .null, .null]) rfl (Nat.le_of_ble_eq_true rfl) vc_2 inlX2 tyX2 tyX2_ok nmX2 (Nat.le_of_ble_eq_true rfl) (wsL_c4 _ (List.mem_of_getElem? (i := 7) rfl)) rfl (tyX2_ok 10 (Nat.le_of_ble_eq_true rfl)) rfl rfl (Nat.le_of_ble_eq_true rfl) dX2_init_86 ?_
  refine zn_aload_n hB 0 dX2_init_89 rfl rfl ?_
  refine zn_bipush hB dX2_init_90 zcB_24 ?_
  refine zn_newi hB (M := 24) dX2_init_92 (wsL_c2 _ (List.mem_of_getElem? (i := 11) rfl)) (by decide) (by decide) (by decide) rfl (Nat.le_of_ble_eq_true rfl) (Nat.le_of_ble_eq_true rfl) ?_
  refine zn_to (N' := 12) (k' := 11) (n' := 264) rfl rfl rfl ?_
  refine zn_put hB hI 11 (fs := [.int 0, .ref (a0 + 1), .ref (a0 + 2), .ref (a0 + 3), .ref (a0 + 4), .ref (a0 + 5), .ref (a0 + 6), .ref (a0 + 7), .ref (a0 + 8), .ref (a0 + 9), .ref (a0 + 10), .null, .null, .null, .null]) rfl (Nat.le_of_ble_eq_true rfl) vc_2 inlX2 tyX2 tyX2_ok nmX2 (Nat.le_of_ble_eq_true rfl) (wsL_c4 _ (List.mem_of_getElem? (i := 8) rfl)) rfl (tyX2_ok 11 (Nat.le_of_ble_eq_true rfl)) rfl rfl (Nat.le_of_ble_eq_true rfl) dX2_init_94 ?_
  refine zn_aload_n hB 0 dX2_init_97 rfl rfl ?_
  refine zn_bipush hB dX2_init_98 zcB_24 ?_
  refine zn_newi hB (M := 24) dX2_init_100 (wsL_c2 _ (List.mem_of_getElem? (i := 11) rfl)) (by decide) (by decide) (by decide) rfl (Nat.le_of_ble_eq_true rfl) (Nat.le_of_ble_eq_true rfl) ?_
  refine zn_to (N' := 13) (k' := 12) (n' := 288) rfl rfl rfl ?_
  refine zn_put hB hI 12 (fs := [.int 0, .ref (a0 + 1), .ref (a0 + 2), .ref (a0 + 3), .ref (a0 + 4), .ref (a0 + 5), .ref (a0 + 6), .ref (a0 + 7), .ref (a0 + 8), .ref (a0 + 9), .ref (a0 + 10), .ref (a0 + 11), .null, .null, .null]) rfl (Nat.le_of_ble_eq_true rfl) vc_2 inlX2 tyX2 tyX2_ok nmX2 (Nat.le_of_ble_eq_true rfl) (wsL_c4 _ (List.mem_of_getElem? (i := 9) rfl)) rfl (tyX2_ok 12 (Nat.le_of_ble_eq_true rfl)) rfl rfl (Nat.le_of_ble_eq_true rfl) dX2_init_102 ?_
  refine zn_aload_n hB 0 dX2_init_105 rfl rfl ?_
  refine zn_bipush hB dX2_init_106 zcB_24 ?_
  refine zn_newi hB (M := 24) dX2_init_108 (wsL_c2 _ (List.mem_of_getElem? (i := 11) rfl)) (by decide) (by decide) (by decide) rfl (Nat.le_of_ble_eq_true rfl) (Nat.le_of_ble_eq_true rfl) ?_
  refine zn_to (N' := 14) (k' := 13) (n' := 312) rfl rfl rfl ?_
  refine zn_put hB hI 13 (fs := [.int 0, .ref (a0 + 1), .ref (a0 + 2), .ref (a0 + 3), .ref (a0 + 4), .ref (a0 + 5), .ref (a0 + 6), .ref (a0 + 7), .ref (a0 + 8), .ref (a0 + 9), .ref (a0 + 10), .ref (a0 + 11), .ref (a0 + 12), .null, .null]) rfl (Nat.le_of_ble_eq_true rfl) vc_2 inlX2 tyX2 tyX2_ok nmX2 (Nat.le_of_ble_eq_true rfl) (wsL_c4 _ (List.mem_of_getElem? (i := 10) rfl)) rfl (tyX2_ok 13 (Nat.le_of_ble_eq_true rfl)) rfl rfl (Nat.le_of_ble_eq_true rfl) dX2_init_110 ?_
  refine zn_aload_n hB 0 dX2_init_113 rfl rfl ?_
  refine zn_bipush hB dX2_init_114 zcB_24 ?_
  refine zn_newi hB (M := 24) dX2_init_116 (wsL_c2 _ (List.mem_of_getElem? (i := 11) rfl)) (by decide) (by decide) (by decide) rfl (Nat.le_of_ble_eq_true rfl) (Nat.le_of_ble_eq_true rfl) ?_
  refine zn_to (N' := 15) (k' := 14) (n' := 336) rfl rfl rfl ?_
  refine zn_put hB hI 14 (fs := [.int 0, .ref (a0 + 1), .ref (a0 + 2), .ref (a0 + 3), .ref (a0 + 4), .ref (a0 + 5), .ref (a0 + 6), .ref (a0 + 7), .ref (a0 + 8), .ref (a0 + 9), .ref (a0 + 10), .ref (a0 + 11), .ref (a0 + 12), .ref (a0 + 13), .null]) rfl (Nat.le_of_ble_eq_true rfl) vc_2 inlX2 tyX2 tyX2_ok nmX2 (Nat.le_of_ble_eq_true rfl) (wsL_c4 _ (List.mem_of_getElem? (i := 11) rfl)) rfl (tyX2_ok 14 (Nat.le_of_ble_eq_true rfl)) rfl rfl (Nat.le_of_ble_eq_true rfl) dX2_init_118 ?_
  refine hret _ _ _ _ _ (fun i H hi h => ?_) (Nat.le_of_ble_eq_true rfl) (Nat.le_of_ble_eq_true rfl) dX2_init_121
  by_cases h0 : i = 0
  · subst h0
    exact h
  simp only [wu_o h0] at h
  rw [wB_o h0] at h
  exact h
theorem zY_3 : z_Y yX3_init cX3_init 1 none 0 := ⟨(wsL_c2 _ (List.mem_of_getElem? (i := 23) rfl)), (wsL_c4 _ (List.mem_of_getElem? (i := 13) rfl)), by decide +kernel, by decide +kernel, by decide +kernel⟩
set_option maxRecDepth 100000 in
set_option maxHeartbeats 4000000 in
theorem ci_X3 : zInit yX3_init cX3_init 1 1 12 3 90 3 [.int 0, .null, .null, .null] layI3 4 z_0 := by
  refine zn_head RX3 (fun G a0 => wB 3 [.int 0, .null, .null, .null] G z_0 layI3 a0) (fun _ _ => rfl) (by decide) rfl rfl (fun _ => (Nat.le_of_ble_eq_true rfl)) (fun E G a0 hB hI hO hret => ?_)
  refine zn_aload_n hB 0 dX3_init_0 rfl rfl ?_
  refine zn_obj hB (wsL_c4 _ (List.mem_of_getElem? (i := 14) rfl)) (wsL_c1 _ (List.mem_of_getElem? (i := 7) rfl)) (wsL_c1 _ (List.mem_of_getElem? (i := 8) rfl)) dX3_init_1 (Nat.le_of_ble_eq_true rfl) (Nat.le_of_ble_eq_true rfl) ?_
  refine zn_aload_n hB 0 dX3_init_4 rfl rfl ?_
  refine zn_iconst hB dX3_init_5 zcI_0 ?_
  refine zn_put hB hI 0 (fs := [.int 0, .null, .null, .null]) rfl (Nat.le_of_ble_eq_true rfl) vc_3 inlX3 tyX3 tyX3_ok nmX3 (Nat.le_of_ble_eq_true rfl) (wsL_c4 _ (List.mem_of_getElem? (i := 15) rfl)) rfl (tyX3_ok 0 (Nat.le_of_ble_eq_true rfl)) rfl rfl (Nat.le_of_ble_eq_true rfl) dX3_init_6 ?_
  refine zn_aload_n hB 0 dX3_init_9 rfl rfl ?_
  refine zn_bipush hB dX3_init_10 zcB_30 ?_
  refine zn_newi hB (M := 30) dX3_init_12 (wsL_c2 _ (List.mem_of_getElem? (i := 11) rfl)) (by decide) (by decide) (by decide) rfl (Nat.le_of_ble_eq_true rfl) (Nat.le_of_ble_eq_true rfl) ?_
  refine zn_to (N' := 2) (k' := 1) (n' := 30) rfl rfl rfl ?_
  refine zn_put hB hI 1 (fs := [.int 0, .null, .null, .null]) rfl (Nat.le_of_ble_eq_true rfl) vc_3 inlX3 tyX3 tyX3_ok nmX3 (Nat.le_of_ble_eq_true rfl) (wsL_c4 _ (List.mem_of_getElem? (i := 16) rfl)) rfl (tyX3_ok 1 (Nat.le_of_ble_eq_true rfl)) rfl rfl (Nat.le_of_ble_eq_true rfl) dX3_init_14 ?_
  refine zn_aload_n hB 0 dX3_init_17 rfl rfl ?_
  refine zn_bipush hB dX3_init_18 zcB_30 ?_
  refine zn_newi hB (M := 30) dX3_init_20 (wsL_c2 _ (List.mem_of_getElem? (i := 11) rfl)) (by decide) (by decide) (by decide) rfl (Nat.le_of_ble_eq_true rfl) (Nat.le_of_ble_eq_true rfl) ?_
  refine zn_to (N' := 3) (k' := 2) (n' := 60) rfl rfl rfl ?_
  refine zn_put hB hI 2 (fs := [.int 0, .ref (a0 + 1), .null, .null]) rfl (Nat.le_of_ble_eq_true rfl) vc_3 inlX3 tyX3 tyX3_ok nmX3 (Nat.le_of_ble_eq_true rfl) (wsL_c4 _ (List.mem_of_getElem? (i := 17) rfl)) rfl (tyX3_ok 2 (Nat.le_of_ble_eq_true rfl)) rfl rfl (Nat.le_of_ble_eq_true rfl) dX3_init_22 ?_
  refine zn_aload_n hB 0 dX3_init_25 rfl rfl ?_
  refine zn_bipush hB dX3_init_26 zcB_30 ?_
  refine zn_newi hB (M := 30) dX3_init_28 (wsL_c2 _ (List.mem_of_getElem? (i := 11) rfl)) (by decide) (by decide) (by decide) rfl (Nat.le_of_ble_eq_true rfl) (Nat.le_of_ble_eq_true rfl) ?_
  refine zn_to (N' := 4) (k' := 3) (n' := 90) rfl rfl rfl ?_
  refine zn_put hB hI 3 (fs := [.int 0, .ref (a0 + 1), .ref (a0 + 2), .null]) rfl (Nat.le_of_ble_eq_true rfl) vc_3 inlX3 tyX3 tyX3_ok nmX3 (Nat.le_of_ble_eq_true rfl) (wsL_c4 _ (List.mem_of_getElem? (i := 18) rfl)) rfl (tyX3_ok 3 (Nat.le_of_ble_eq_true rfl)) rfl rfl (Nat.le_of_ble_eq_true rfl) dX3_init_30 ?_
  refine hret _ _ _ _ _ (fun i H hi h => ?_) (Nat.le_of_ble_eq_true rfl) (Nat.le_of_ble_eq_true rfl) dX3_init_33
  by_cases h0 : i = 0
  · subst h0
    exact h
  simp only [wu_o h0] at h
  rw [wB_o h0] at h
  exact h
theorem zY_4 : z_Y yX4_init cX4_init 1 none 0 := ⟨(wsL_c2 _ (List.mem_of_getElem? (i := 15) rfl)), (wsL_c3 _ (List.mem_of_getElem? (i := 7) rfl)), by decide +kernel, by decide +kernel, by decide +kernel⟩
set_option maxRecDepth 100000 in
set_option maxHeartbeats 4000000 in
theorem ci_X4 : zInit yX4_init cX4_init 1 1 12 8 160 4 [.int 0, .null, .null, .null, .null, .null, .null, .null, .null] layI4 9 sgI4 := by
  refine zn_head RX4 (fun G a0 => wB 4 [.int 0, .null, .null, .null, .null, .null, .null, .null, .null] G z_0 layI4 a0) (fun _ _ => rfl) (by decide) rfl rfl (fun _ => (Nat.le_of_ble_eq_true rfl)) (fun E G a0 hB hI hO hret => ?_)
  refine zn_aload_n hB 0 dX4_init_0 rfl rfl ?_
  refine zn_obj hB (wsL_c3 _ (List.mem_of_getElem? (i := 8) rfl)) (wsL_c1 _ (List.mem_of_getElem? (i := 7) rfl)) (wsL_c1 _ (List.mem_of_getElem? (i := 8) rfl)) dX4_init_1 (Nat.le_of_ble_eq_true rfl) (Nat.le_of_ble_eq_true rfl) ?_
  refine zn_aload_n hB 0 dX4_init_4 rfl rfl ?_
  refine zn_iconst hB dX4_init_5 zcI_1 ?_
  refine zn_put hB hI 0 (fs := [.int 0, .null, .null, .null, .null, .null, .null, .null, .null]) rfl (Nat.le_of_ble_eq_true rfl) vc_4 inlX4 tyX4 tyX4_ok nmX4 (Nat.le_of_ble_eq_true rfl) (wsL_c3 _ (List.mem_of_getElem? (i := 9) rfl)) rfl (tyX4_ok 0 (Nat.le_of_ble_eq_true rfl)) rfl rfl (Nat.le_of_ble_eq_true rfl) dX4_init_6 ?_
  refine zn_aload_n hB 0 dX4_init_9 rfl rfl ?_
  refine zn_bipush hB dX4_init_10 zcB_20 ?_
  refine zn_newi hB (M := 20) dX4_init_12 (wsL_c2 _ (List.mem_of_getElem? (i := 11) rfl)) (by decide) (by decide) (by decide) rfl (Nat.le_of_ble_eq_true rfl) (Nat.le_of_ble_eq_true rfl) ?_
  refine zn_to (N' := 2) (k' := 1) (n' := 20) rfl rfl rfl ?_
  refine zn_put hB hI 1 (fs := [.int 1, .null, .null, .null, .null, .null, .null, .null, .null]) rfl (Nat.le_of_ble_eq_true rfl) vc_4 inlX4 tyX4 tyX4_ok nmX4 (Nat.le_of_ble_eq_true rfl) (wsL_c3 _ (List.mem_of_getElem? (i := 10) rfl)) rfl (tyX4_ok 1 (Nat.le_of_ble_eq_true rfl)) rfl rfl (Nat.le_of_ble_eq_true rfl) dX4_init_14 ?_
  refine zn_aload_n hB 0 dX4_init_17 rfl rfl ?_
  refine zn_bipush hB dX4_init_18 zcB_20 ?_
  refine zn_newi hB (M := 20) dX4_init_20 (wsL_c2 _ (List.mem_of_getElem? (i := 11) rfl)) (by decide) (by decide) (by decide) rfl (Nat.le_of_ble_eq_true rfl) (Nat.le_of_ble_eq_true rfl) ?_
  refine zn_to (N' := 3) (k' := 2) (n' := 40) rfl rfl rfl ?_
  refine zn_put hB hI 2 (fs := [.int 1, .ref (a0 + 1), .null, .null, .null, .null, .null, .null, .null]) rfl (Nat.le_of_ble_eq_true rfl) vc_4 inlX4 tyX4 tyX4_ok nmX4 (Nat.le_of_ble_eq_true rfl) (wsL_c3 _ (List.mem_of_getElem? (i := 11) rfl)) rfl (tyX4_ok 2 (Nat.le_of_ble_eq_true rfl)) rfl rfl (Nat.le_of_ble_eq_true rfl) dX4_init_22 ?_
  refine zn_aload_n hB 0 dX4_init_25 rfl rfl ?_
  refine zn_bipush hB dX4_init_26 zcB_20 ?_
  refine zn_newi hB (M := 20) dX4_init_28 (wsL_c2 _ (List.mem_of_getElem? (i := 11) rfl)) (by decide) (by decide) (by decide) rfl (Nat.le_of_ble_eq_true rfl) (Nat.le_of_ble_eq_true rfl) ?_
  refine zn_to (N' := 4) (k' := 3) (n' := 60) rfl rfl rfl ?_
  refine zn_put hB hI 3 (fs := [.int 1, .ref (a0 + 1), .ref (a0 + 2), .null, .null, .null, .null, .null, .null]) rfl (Nat.le_of_ble_eq_true rfl) vc_4 inlX4 tyX4 tyX4_ok nmX4 (Nat.le_of_ble_eq_true rfl) (wsL_c3 _ (List.mem_of_getElem? (i := 12) rfl)) rfl (tyX4_ok 3 (Nat.le_of_ble_eq_true rfl)) rfl rfl (Nat.le_of_ble_eq_true rfl) dX4_init_30 ?_
  refine zn_aload_n hB 0 dX4_init_33 rfl rfl ?_
  refine zn_bipush hB dX4_init_34 zcB_20 ?_
  refine zn_newi hB (M := 20) dX4_init_36 (wsL_c2 _ (List.mem_of_getElem? (i := 11) rfl)) (by decide) (by decide) (by decide) rfl (Nat.le_of_ble_eq_true rfl) (Nat.le_of_ble_eq_true rfl) ?_
  refine zn_to (N' := 5) (k' := 4) (n' := 80) rfl rfl rfl ?_
  refine zn_put hB hI 4 (fs := [.int 1, .ref (a0 + 1), .ref (a0 + 2), .ref (a0 + 3), .null, .null, .null, .null, .null]) rfl (Nat.le_of_ble_eq_true rfl) vc_4 inlX4 tyX4 tyX4_ok nmX4 (Nat.le_of_ble_eq_true rfl) (wsL_c3 _ (List.mem_of_getElem? (i := 13) rfl)) rfl (tyX4_ok 4 (Nat.le_of_ble_eq_true rfl)) rfl rfl (Nat.le_of_ble_eq_true rfl) dX4_init_38 ?_
  refine zn_aload_n hB 0 dX4_init_41 rfl rfl ?_
  refine zn_bipush hB dX4_init_42 zcB_20 ?_
  refine zn_newi hB (M := 20) dX4_init_44 (wsL_c2 _ (List.mem_of_getElem? (i := 11) rfl)) (by decide) (by decide) (by decide) rfl (Nat.le_of_ble_eq_true rfl) (Nat.le_of_ble_eq_true rfl) ?_
  refine zn_to (N' := 6) (k' := 5) (n' := 100) rfl rfl rfl ?_
  refine zn_put hB hI 5 (fs := [.int 1, .ref (a0 + 1), .ref (a0 + 2), .ref (a0 + 3), .ref (a0 + 4), .null, .null, .null, .null]) rfl (Nat.le_of_ble_eq_true rfl) vc_4 inlX4 tyX4 tyX4_ok nmX4 (Nat.le_of_ble_eq_true rfl) (wsL_c3 _ (List.mem_of_getElem? (i := 14) rfl)) rfl (tyX4_ok 5 (Nat.le_of_ble_eq_true rfl)) rfl rfl (Nat.le_of_ble_eq_true rfl) dX4_init_46 ?_
  refine zn_aload_n hB 0 dX4_init_49 rfl rfl ?_
  refine zn_bipush hB dX4_init_50 zcB_20 ?_
  refine zn_newi hB (M := 20) dX4_init_52 (wsL_c2 _ (List.mem_of_getElem? (i := 11) rfl)) (by decide) (by decide) (by decide) rfl (Nat.le_of_ble_eq_true rfl) (Nat.le_of_ble_eq_true rfl) ?_
  refine zn_to (N' := 7) (k' := 6) (n' := 120) rfl rfl rfl ?_
  refine zn_put hB hI 6 (fs := [.int 1, .ref (a0 + 1), .ref (a0 + 2), .ref (a0 + 3), .ref (a0 + 4), .ref (a0 + 5), .null, .null, .null]) rfl (Nat.le_of_ble_eq_true rfl) vc_4 inlX4 tyX4 tyX4_ok nmX4 (Nat.le_of_ble_eq_true rfl) (wsL_c3 _ (List.mem_of_getElem? (i := 15) rfl)) rfl (tyX4_ok 6 (Nat.le_of_ble_eq_true rfl)) rfl rfl (Nat.le_of_ble_eq_true rfl) dX4_init_54 ?_
  refine zn_aload_n hB 0 dX4_init_57 rfl rfl ?_
  refine zn_bipush hB dX4_init_58 zcB_20 ?_
  refine zn_newi hB (M := 20) dX4_init_60 (wsL_c2 _ (List.mem_of_getElem? (i := 11) rfl)) (by decide) (by decide) (by decide) rfl (Nat.le_of_ble_eq_true rfl) (Nat.le_of_ble_eq_true rfl) ?_
  refine zn_to (N' := 8) (k' := 7) (n' := 140) rfl rfl rfl ?_
  refine zn_put hB hI 7 (fs := [.int 1, .ref (a0 + 1), .ref (a0 + 2), .ref (a0 + 3), .ref (a0 + 4), .ref (a0 + 5), .ref (a0 + 6), .null, .null]) rfl (Nat.le_of_ble_eq_true rfl) vc_4 inlX4 tyX4 tyX4_ok nmX4 (Nat.le_of_ble_eq_true rfl) (wsL_c3 _ (List.mem_of_getElem? (i := 16) rfl)) rfl (tyX4_ok 7 (Nat.le_of_ble_eq_true rfl)) rfl rfl (Nat.le_of_ble_eq_true rfl) dX4_init_62 ?_
  refine zn_aload_n hB 0 dX4_init_65 rfl rfl ?_
  refine zn_bipush hB dX4_init_66 zcB_20 ?_
  refine zn_newi hB (M := 20) dX4_init_68 (wsL_c2 _ (List.mem_of_getElem? (i := 11) rfl)) (by decide) (by decide) (by decide) rfl (Nat.le_of_ble_eq_true rfl) (Nat.le_of_ble_eq_true rfl) ?_
  refine zn_to (N' := 9) (k' := 8) (n' := 160) rfl rfl rfl ?_
  refine zn_put hB hI 8 (fs := [.int 1, .ref (a0 + 1), .ref (a0 + 2), .ref (a0 + 3), .ref (a0 + 4), .ref (a0 + 5), .ref (a0 + 6), .ref (a0 + 7), .null]) rfl (Nat.le_of_ble_eq_true rfl) vc_4 inlX4 tyX4 tyX4_ok nmX4 (Nat.le_of_ble_eq_true rfl) (wsL_c3 _ (List.mem_of_getElem? (i := 17) rfl)) rfl (tyX4_ok 8 (Nat.le_of_ble_eq_true rfl)) rfl rfl (Nat.le_of_ble_eq_true rfl) dX4_init_70 ?_
  refine zn_aload_n hB 0 dX4_init_73 rfl rfl ?_
  refine zn_get hB 1 (fs := [.int 1, .ref (a0 + 1), .ref (a0 + 2), .ref (a0 + 3), .ref (a0 + 4), .ref (a0 + 5), .ref (a0 + 6), .ref (a0 + 7), .ref (a0 + 8)]) (v := .ref (a0 + 1)) rfl (Nat.le_of_ble_eq_true rfl) vc_4 inlX4 (Nat.le_of_ble_eq_true rfl) (wsL_c3 _ (List.mem_of_getElem? (i := 10) rfl)) rfl dX4_init_74 ?_
  refine zn_iconst hB dX4_init_77 zcI_0 ?_
  refine zn_iconst hB dX4_init_78 zcI_m1 ?_
  refine zn_iast hB 1 20 (f := (fun _ => 0)) rfl (Nat.le_of_ble_eq_true rfl) (by unfold vp_in; decide) dX4_init_79 ?_
  refine zn_aload_n hB 0 dX4_init_80 rfl rfl ?_
  refine zn_get hB 7 (fs := [.int 1, .ref (a0 + 1), .ref (a0 + 2), .ref (a0 + 3), .ref (a0 + 4), .ref (a0 + 5), .ref (a0 + 6), .ref (a0 + 7), .ref (a0 + 8)]) (v := .ref (a0 + 7)) rfl (Nat.le_of_ble_eq_true rfl) vc_4 inlX4 (Nat.le_of_ble_eq_true rfl) (wsL_c3 _ (List.mem_of_getElem? (i := 16) rfl)) rfl dX4_init_81 ?_
  refine zn_iconst hB dX4_init_84 zcI_0 ?_
  refine zn_iconst hB dX4_init_85 zcI_1 ?_
  refine zn_iast hB 7 20 (f := (fun _ => 0)) rfl (Nat.le_of_ble_eq_true rfl) (by unfold vp_in; decide) dX4_init_86 ?_
  refine hret _ _ _ _ _ (fun i H hi h => ?_) (Nat.le_of_ble_eq_true rfl) (Nat.le_of_ble_eq_true rfl) dX4_init_87
  by_cases h0 : i = 0
  · subst h0
    exact h
  by_cases h1 : i = 1
  · subst h1
    exact h
  by_cases h7 : i = 7
  · subst h7
    exact h
  simp only [wu_o h0, wu_o h1, wu_o h7] at h
  rw [wB_o h0] at h
  rw [show sgI4 i = z_0 i from by unfold sgI4; simp only [u_o h0, u_o h1, u_o h7]]
  exact h
theorem zY_5 : z_Y yX5_init cX5_init 1 none 0 := ⟨(wsL_c1 _ (List.mem_of_getElem? (i := 23) rfl)), (wsL_c6 _ (List.mem_of_getElem? (i := 0) rfl)), by decide +kernel, by decide +kernel, by decide +kernel⟩
set_option maxRecDepth 100000 in
set_option maxHeartbeats 4000000 in
theorem ci_X5 : zInit yX5_init cX5_init 1 1 12 2 63 5 [.int 0, .null, .int 0, .int 0, .null] layX0 3 sgI5 := by
  refine zn_head RX5 (fun G a0 => wB 5 [.int 0, .null, .int 0, .int 0, .null] G z_0 layX0 a0) (fun _ _ => rfl) (by decide) rfl rfl (fun _ => (Nat.le_of_ble_eq_true rfl)) (fun E G a0 hB hI hO hret => ?_)
  refine zn_aload_n hB 0 dX5_init_0 rfl rfl ?_
  refine zn_obj hB (wsL_c6 _ (List.mem_of_getElem? (i := 1) rfl)) (wsL_c1 _ (List.mem_of_getElem? (i := 7) rfl)) (wsL_c1 _ (List.mem_of_getElem? (i := 8) rfl)) dX5_init_1 (Nat.le_of_ble_eq_true rfl) (Nat.le_of_ble_eq_true rfl) ?_
  refine zn_aload_n hB 0 dX5_init_4 rfl rfl ?_
  refine zn_iconst hB dX5_init_5 zcI_0 ?_
  refine zn_put hB hI 0 (fs := [.int 0, .null, .int 0, .int 0, .null]) rfl (Nat.le_of_ble_eq_true rfl) vc_5 inlX5 tyX5 tyX5_ok nmX5 (Nat.le_of_ble_eq_true rfl) (wsL_c6 _ (List.mem_of_getElem? (i := 2) rfl)) rfl (tyX5_ok 0 (Nat.le_of_ble_eq_true rfl)) rfl rfl (Nat.le_of_ble_eq_true rfl) dX5_init_6 ?_
  refine zn_aload_n hB 0 dX5_init_9 rfl rfl ?_
  refine zn_bipush hB dX5_init_10 zcB_60 ?_
  refine zn_newc hB (M := 60) dX5_init_12 (wsL_c6 _ (List.mem_of_getElem? (i := 3) rfl)) (by decide) (by decide) (by decide) rfl (Nat.le_of_ble_eq_true rfl) (Nat.le_of_ble_eq_true rfl) ?_
  refine zn_to (N' := 2) (k' := 1) (n' := 60) rfl rfl rfl ?_
  refine zn_put hB hI 1 (fs := [.int 0, .null, .int 0, .int 0, .null]) rfl (Nat.le_of_ble_eq_true rfl) vc_5 inlX5 tyX5 tyX5_ok nmX5 (Nat.le_of_ble_eq_true rfl) (wsL_c6 _ (List.mem_of_getElem? (i := 4) rfl)) rfl (tyX5_ok 1 (Nat.le_of_ble_eq_true rfl)) rfl rfl (Nat.le_of_ble_eq_true rfl) dX5_init_14 ?_
  refine zn_aload_n hB 0 dX5_init_17 rfl rfl ?_
  refine zn_bipush hB dX5_init_18 zcB_32 ?_
  refine zn_put hB hI 2 (fs := [.int 0, .ref (a0 + 1), .int 0, .int 0, .null]) rfl (Nat.le_of_ble_eq_true rfl) vc_5 inlX5 tyX5 tyX5_ok nmX5 (Nat.le_of_ble_eq_true rfl) (wsL_c6 _ (List.mem_of_getElem? (i := 5) rfl)) rfl (tyX5_ok 2 (Nat.le_of_ble_eq_true rfl)) rfl rfl (Nat.le_of_ble_eq_true rfl) dX5_init_20 ?_
  refine zn_aload_n hB 0 dX5_init_23 rfl rfl ?_
  refine zn_iconst hB dX5_init_24 zcI_0 ?_
  refine zn_put hB hI 3 (fs := [.int 0, .ref (a0 + 1), .int 32, .int 0, .null]) rfl (Nat.le_of_ble_eq_true rfl) vc_5 inlX5 tyX5 tyX5_ok nmX5 (Nat.le_of_ble_eq_true rfl) (wsL_c6 _ (List.mem_of_getElem? (i := 6) rfl)) rfl (tyX5_ok 3 (Nat.le_of_ble_eq_true rfl)) rfl rfl (Nat.le_of_ble_eq_true rfl) dX5_init_25 ?_
  refine zn_aload_n hB 0 dX5_init_28 rfl rfl ?_
  refine zn_iconst hB dX5_init_29 zcI_3 ?_
  refine zn_newi hB (M := 3) dX5_init_30 (wsL_c2 _ (List.mem_of_getElem? (i := 11) rfl)) (by decide) (by decide) (by decide) rfl (Nat.le_of_ble_eq_true rfl) (Nat.le_of_ble_eq_true rfl) ?_
  refine zn_to (N' := 3) (k' := 2) (n' := 63) rfl rfl rfl ?_
  refine zn_put hB hI 4 (fs := [.int 0, .ref (a0 + 1), .int 32, .int 0, .null]) rfl (Nat.le_of_ble_eq_true rfl) vc_5 inlX5 tyX5 tyX5_ok nmX5 (Nat.le_of_ble_eq_true rfl) (wsL_c6 _ (List.mem_of_getElem? (i := 7) rfl)) rfl (tyX5_ok 4 (Nat.le_of_ble_eq_true rfl)) rfl rfl (Nat.le_of_ble_eq_true rfl) dX5_init_32 ?_
  refine hret _ _ _ _ _ (fun i H hi h => ?_) (Nat.le_of_ble_eq_true rfl) (Nat.le_of_ble_eq_true rfl) dX5_init_35
  by_cases h0 : i = 0
  · subst h0
    exact h
  simp only [wu_o h0] at h
  rw [wB_o h0] at h
  rw [show sgI5 i = z_0 i from u_o h0]
  exact h
theorem zY_8 : z_Y yX8_init cX8_init 1 none 0 := ⟨(wsL_c1 _ (List.mem_of_getElem? (i := 19) rfl)), (wsL_c5 _ (List.mem_of_getElem? (i := 15) rfl)), by decide +kernel, by decide +kernel, by decide +kernel⟩
set_option maxRecDepth 100000 in
set_option maxHeartbeats 4000000 in
theorem ci_X8 : zInit yX8_init cX8_init 1 1 12 1 20 8 [.int 0, .int 0, .int 0, .int 0, .int 0, .null] layI8 2 z_0 := by
  refine zn_head RX8 (fun G a0 => wB 8 [.int 0, .int 0, .int 0, .int 0, .int 0, .null] G z_0 layI8 a0) (fun _ _ => rfl) (by decide) rfl rfl (fun _ => (Nat.le_of_ble_eq_true rfl)) (fun E G a0 hB hI hO hret => ?_)
  refine zn_aload_n hB 0 dX8_init_0 rfl rfl ?_
  refine zn_obj hB (wsL_c5 _ (List.mem_of_getElem? (i := 16) rfl)) (wsL_c1 _ (List.mem_of_getElem? (i := 7) rfl)) (wsL_c1 _ (List.mem_of_getElem? (i := 8) rfl)) dX8_init_1 (Nat.le_of_ble_eq_true rfl) (Nat.le_of_ble_eq_true rfl) ?_
  refine zn_aload_n hB 0 dX8_init_4 rfl rfl ?_
  refine zn_iconst hB dX8_init_5 zcI_0 ?_
  refine zn_put hB hI 0 (fs := [.int 0, .int 0, .int 0, .int 0, .int 0, .null]) rfl (Nat.le_of_ble_eq_true rfl) vc_8 inlX8 tyX8 tyX8_ok nmX8 (Nat.le_of_ble_eq_true rfl) (wsL_c5 _ (List.mem_of_getElem? (i := 17) rfl)) rfl (tyX8_ok 0 (Nat.le_of_ble_eq_true rfl)) rfl rfl (Nat.le_of_ble_eq_true rfl) dX8_init_6 ?_
  refine zn_aload_n hB 0 dX8_init_9 rfl rfl ?_
  refine zn_iconst hB dX8_init_10 zcI_0 ?_
  refine zn_put hB hI 1 (fs := [.int 0, .int 0, .int 0, .int 0, .int 0, .null]) rfl (Nat.le_of_ble_eq_true rfl) vc_8 inlX8 tyX8 tyX8_ok nmX8 (Nat.le_of_ble_eq_true rfl) (wsL_c5 _ (List.mem_of_getElem? (i := 18) rfl)) rfl (tyX8_ok 1 (Nat.le_of_ble_eq_true rfl)) rfl rfl (Nat.le_of_ble_eq_true rfl) dX8_init_11 ?_
  refine zn_aload_n hB 0 dX8_init_14 rfl rfl ?_
  refine zn_iconst hB dX8_init_15 zcI_0 ?_
  refine zn_put hB hI 2 (fs := [.int 0, .int 0, .int 0, .int 0, .int 0, .null]) rfl (Nat.le_of_ble_eq_true rfl) vc_8 inlX8 tyX8 tyX8_ok nmX8 (Nat.le_of_ble_eq_true rfl) (wsL_c5 _ (List.mem_of_getElem? (i := 19) rfl)) rfl (tyX8_ok 2 (Nat.le_of_ble_eq_true rfl)) rfl rfl (Nat.le_of_ble_eq_true rfl) dX8_init_16 ?_
  refine zn_aload_n hB 0 dX8_init_19 rfl rfl ?_
  refine zn_iconst hB dX8_init_20 zcI_0 ?_
  refine zn_put hB hI 3 (fs := [.int 0, .int 0, .int 0, .int 0, .int 0, .null]) rfl (Nat.le_of_ble_eq_true rfl) vc_8 inlX8 tyX8 tyX8_ok nmX8 (Nat.le_of_ble_eq_true rfl) (wsL_c5 _ (List.mem_of_getElem? (i := 20) rfl)) rfl (tyX8_ok 3 (Nat.le_of_ble_eq_true rfl)) rfl rfl (Nat.le_of_ble_eq_true rfl) dX8_init_21 ?_
  refine zn_aload_n hB 0 dX8_init_24 rfl rfl ?_
  refine zn_iconst hB dX8_init_25 zcI_0 ?_
  refine zn_put hB hI 4 (fs := [.int 0, .int 0, .int 0, .int 0, .int 0, .null]) rfl (Nat.le_of_ble_eq_true rfl) vc_8 inlX8 tyX8 tyX8_ok nmX8 (Nat.le_of_ble_eq_true rfl) (wsL_c5 _ (List.mem_of_getElem? (i := 21) rfl)) rfl (tyX8_ok 4 (Nat.le_of_ble_eq_true rfl)) rfl rfl (Nat.le_of_ble_eq_true rfl) dX8_init_26 ?_
  refine zn_aload_n hB 0 dX8_init_29 rfl rfl ?_
  refine zn_bipush hB dX8_init_30 zcB_20 ?_
  refine zn_newi hB (M := 20) dX8_init_32 (wsL_c2 _ (List.mem_of_getElem? (i := 11) rfl)) (by decide) (by decide) (by decide) rfl (Nat.le_of_ble_eq_true rfl) (Nat.le_of_ble_eq_true rfl) ?_
  refine zn_to (N' := 2) (k' := 1) (n' := 20) rfl rfl rfl ?_
  refine zn_put hB hI 5 (fs := [.int 0, .int 0, .int 0, .int 0, .int 0, .null]) rfl (Nat.le_of_ble_eq_true rfl) vc_8 inlX8 tyX8 tyX8_ok nmX8 (Nat.le_of_ble_eq_true rfl) (wsL_c5 _ (List.mem_of_getElem? (i := 22) rfl)) rfl (tyX8_ok 5 (Nat.le_of_ble_eq_true rfl)) rfl rfl (Nat.le_of_ble_eq_true rfl) dX8_init_34 ?_
  refine hret _ _ _ _ _ (fun i H hi h => ?_) (Nat.le_of_ble_eq_true rfl) (Nat.le_of_ble_eq_true rfl) dX8_init_37
  by_cases h0 : i = 0
  · subst h0
    exact h
  simp only [wu_o h0] at h
  rw [wB_o h0] at h
  exact h
theorem hs_X6_4_2 : ∀ i, i < 9 → zSh 2 (layT (2 + i)) (layI4 i) = true := by decide +kernel
theorem sh_X6_4_2 : ∀ i, i < 9 → sgI6 (2 + i) = sgI4 i := by
  intro i hi
  unfold sgI6
  rw [if_neg (by omega), if_neg (by omega), if_pos (by omega), Nat.add_sub_cancel_left]
theorem hs_X6_2_11 : ∀ i, i < 15 → zSh 11 (layT (11 + i)) (layI2 i) = true := by decide +kernel
theorem sh_X6_2_11 : ∀ i, i < 15 → sgI6 (11 + i) = z_0 i := by
  intro i hi
  unfold sgI6
  rw [if_neg (by omega), if_neg (by omega), if_neg (by omega), if_pos (by omega), Nat.add_sub_cancel_left]
theorem hs_X6_3_26 : ∀ i, i < 4 → zSh 26 (layT (26 + i)) (layI3 i) = true := by decide +kernel
theorem sh_X6_3_26 : ∀ i, i < 4 → sgI6 (26 + i) = z_0 i := by
  intro i hi
  unfold sgI6
  rw [if_neg (by omega), if_neg (by omega), if_neg (by omega), if_neg (by omega), if_pos (by omega), Nat.add_sub_cancel_left]
theorem hs_X6_0_30 : ∀ i, i < 8 → zSh 30 (layT (30 + i)) (layI0 i) = true := by decide +kernel
theorem sh_X6_0_30 : ∀ i, i < 8 → sgI6 (30 + i) = z_0 i := by
  intro i hi
  unfold sgI6
  rw [if_neg (by omega), if_neg (by omega), if_neg (by omega), if_neg (by omega), if_neg (by omega), Nat.add_sub_cancel_left]
theorem zY_6 : z_Y yX6_init cX6_init 1 none 0 := ⟨(wsL_c1 _ (List.mem_of_getElem? (i := 11) rfl)), (wsL_c2 _ (List.mem_of_getElem? (i := 6) rfl)), by decide +kernel, by decide +kernel, by decide +kernel⟩
set_option maxRecDepth 100000 in
set_option maxHeartbeats 4000000 in
theorem ci_X6 : zInit yX6_init cX6_init 1 2 32 37 649 6 [.int 0, .int 0, .int 0, .null, .null, .null, .null, .null] layT 38 sgI6 := by
  refine zn_head RX6 (fun G a0 => wB 6 [.int 0, .int 0, .int 0, .null, .null, .null, .null, .null] G sgI6 layT a0) (fun _ _ => rfl) (by decide) rfl rfl (fun _ => (Nat.le_of_ble_eq_true rfl)) (fun E G a0 hB hI hO hret => ?_)
  refine zn_aload_n hB 0 dX6_init_0 rfl rfl ?_
  refine zn_obj hB (wsL_c2 _ (List.mem_of_getElem? (i := 7) rfl)) (wsL_c1 _ (List.mem_of_getElem? (i := 7) rfl)) (wsL_c1 _ (List.mem_of_getElem? (i := 8) rfl)) dX6_init_1 (Nat.le_of_ble_eq_true rfl) (Nat.le_of_ble_eq_true rfl) ?_
  refine zn_aload_n hB 0 dX6_init_4 rfl rfl ?_
  refine zn_iconst hB dX6_init_5 zcI_0 ?_
  refine zn_put hB hI 0 (fs := [.int 0, .int 0, .int 0, .null, .null, .null, .null, .null]) rfl (Nat.le_of_ble_eq_true rfl) vc_6 inlX6 tyX6 tyX6_ok nmX6 (Nat.le_of_ble_eq_true rfl) (wsL_c2 _ (List.mem_of_getElem? (i := 8) rfl)) rfl (tyX6_ok 0 (Nat.le_of_ble_eq_true rfl)) rfl rfl (Nat.le_of_ble_eq_true rfl) dX6_init_6 ?_
  refine zn_aload_n hB 0 dX6_init_9 rfl rfl ?_
  refine zn_iconst hB dX6_init_10 zcI_3 ?_
  refine zn_put hB hI 1 (fs := [.int 0, .int 0, .int 0, .null, .null, .null, .null, .null]) rfl (Nat.le_of_ble_eq_true rfl) vc_6 inlX6 tyX6 tyX6_ok nmX6 (Nat.le_of_ble_eq_true rfl) (wsL_c2 _ (List.mem_of_getElem? (i := 9) rfl)) rfl (tyX6_ok 1 (Nat.le_of_ble_eq_true rfl)) rfl rfl (Nat.le_of_ble_eq_true rfl) dX6_init_11 ?_
  refine zn_aload_n hB 0 dX6_init_14 rfl rfl ?_
  refine zn_bipush hB dX6_init_15 zcB_8 ?_
  refine zn_put hB hI 2 (fs := [.int 0, .int 3, .int 0, .null, .null, .null, .null, .null]) rfl (Nat.le_of_ble_eq_true rfl) vc_6 inlX6 tyX6 tyX6_ok nmX6 (Nat.le_of_ble_eq_true rfl) (wsL_c2 _ (List.mem_of_getElem? (i := 10) rfl)) rfl (tyX6_ok 2 (Nat.le_of_ble_eq_true rfl)) rfl rfl (Nat.le_of_ble_eq_true rfl) dX6_init_17 ?_
  refine zn_aload_n hB 0 dX6_init_20 rfl rfl ?_
  refine zn_bipush hB dX6_init_21 zcB_6 ?_
  refine zn_newi hB (M := 6) dX6_init_23 (wsL_c2 _ (List.mem_of_getElem? (i := 11) rfl)) (by decide) (by decide) (by decide) rfl (Nat.le_of_ble_eq_true rfl) (Nat.le_of_ble_eq_true rfl) ?_
  refine zn_to (N' := 2) (k' := 1) (n' := 6) rfl rfl rfl ?_
  refine zn_put hB hI 3 (fs := [.int 0, .int 3, .int 8, .null, .null, .null, .null, .null]) rfl (Nat.le_of_ble_eq_true rfl) vc_6 inlX6 tyX6 tyX6_ok nmX6 (Nat.le_of_ble_eq_true rfl) (wsL_c2 _ (List.mem_of_getElem? (i := 12) rfl)) rfl (tyX6_ok 3 (Nat.le_of_ble_eq_true rfl)) rfl rfl (Nat.le_of_ble_eq_true rfl) dX6_init_25 ?_
  refine zn_aload_n hB 0 dX6_init_28 rfl rfl ?_
  refine zn_make (σ' := sgI4) hB hO ci_X4 vc_4 inlX4 tyX4 tyX4_ok (by intro j hj; match j, hj with | 0, _ => rfl | 1, _ => rfl | 2, _ => rfl | 3, _ => rfl | 4, _ => rfl | 5, _ => rfl | 6, _ => rfl | 7, _ => rfl | 8, _ => rfl | j + 9, h => omega) (wsL_c2 _ (List.mem_of_getElem? (i := 13) rfl)) (wsL_c2 _ (List.mem_of_getElem? (i := 14) rfl)) zY_4 rfl (wsL_c3 _ (List.mem_of_getElem? (i := 6) rfl)) (Or.inl (wsL_c3 _ (List.mem_of_getElem? (i := 5) rfl))) (fun i hi => by simp only [wu_o (show 2 + i ≠ 0 by omega)]; rw [wB_o (by omega), sh_X6_4_2 i hi]; exact z_shE (hs_X6_4_2 i hi)) ⟨(Nat.le_of_ble_eq_true rfl), (Nat.le_of_ble_eq_true rfl)⟩ (Nat.le_of_ble_eq_true rfl) (Nat.le_of_ble_eq_true rfl) (Nat.le_of_ble_eq_true rfl) dX6_init_29 dX6_init_32 dX6_init_33 ?_
  refine zn_to (N' := 11) (k' := 10) (n' := 175) rfl rfl rfl ?_
  refine zn_put hB hI 4 (fs := [.int 0, .int 3, .int 8, .ref (a0 + 1), .null, .null, .null, .null]) rfl (Nat.le_of_ble_eq_true rfl) vc_6 inlX6 tyX6 tyX6_ok nmX6 (Nat.le_of_ble_eq_true rfl) (wsL_c2 _ (List.mem_of_getElem? (i := 16) rfl)) rfl (tyX6_ok 4 (Nat.le_of_ble_eq_true rfl)) rfl rfl (Nat.le_of_ble_eq_true rfl) dX6_init_36 ?_
  refine zn_aload_n hB 0 dX6_init_39 rfl rfl ?_
  refine zn_make (σ' := z_0) hB hO ci_X2 vc_2 inlX2 tyX2 tyX2_ok (by intro j hj; match j, hj with | 0, _ => rfl | 1, _ => rfl | 2, _ => rfl | 3, _ => rfl | 4, _ => rfl | 5, _ => rfl | 6, _ => rfl | 7, _ => rfl | 8, _ => rfl | 9, _ => rfl | 10, _ => rfl | 11, _ => rfl | 12, _ => rfl | 13, _ => rfl | 14, _ => rfl | j + 15, h => omega) (wsL_c2 _ (List.mem_of_getElem? (i := 17) rfl)) (wsL_c2 _ (List.mem_of_getElem? (i := 18) rfl)) zY_2 rfl (wsL_c3 _ (List.mem_of_getElem? (i := 18) rfl)) (Or.inr ⟨"PaperRounds", by decide +kernel⟩) (fun i hi => by simp only [wu_o (show 11 + i ≠ 0 by omega)]; rw [wB_o (by omega), sh_X6_2_11 i hi]; exact z_shE (hs_X6_2_11 i hi)) ⟨(Nat.le_of_ble_eq_true rfl), (Nat.le_of_ble_eq_true rfl)⟩ (Nat.le_of_ble_eq_true rfl) (Nat.le_of_ble_eq_true rfl) (Nat.le_of_ble_eq_true rfl) dX6_init_40 dX6_init_43 dX6_init_44 ?_
  refine zn_to (N' := 26) (k' := 25) (n' := 526) rfl rfl rfl ?_
  refine zn_put hB hI 5 (fs := [.int 0, .int 3, .int 8, .ref (a0 + 1), .ref (a0 + 2), .null, .null, .null]) rfl (Nat.le_of_ble_eq_true rfl) vc_6 inlX6 tyX6 tyX6_ok nmX6 (Nat.le_of_ble_eq_true rfl) (wsL_c2 _ (List.mem_of_getElem? (i := 20) rfl)) rfl (tyX6_ok 5 (Nat.le_of_ble_eq_true rfl)) rfl rfl (Nat.le_of_ble_eq_true rfl) dX6_init_47 ?_
  refine zn_aload_n hB 0 dX6_init_50 rfl rfl ?_
  refine zn_make (σ' := z_0) hB hO ci_X3 vc_3 inlX3 tyX3 tyX3_ok (by intro j hj; match j, hj with | 0, _ => rfl | 1, _ => rfl | 2, _ => rfl | 3, _ => rfl | j + 4, h => omega) (wsL_c2 _ (List.mem_of_getElem? (i := 21) rfl)) (wsL_c2 _ (List.mem_of_getElem? (i := 22) rfl)) zY_3 rfl (wsL_c4 _ (List.mem_of_getElem? (i := 12) rfl)) (Or.inr ⟨"PaperRounds", by decide +kernel⟩) (fun i hi => by simp only [wu_o (show 26 + i ≠ 0 by omega)]; rw [wB_o (by omega), sh_X6_3_26 i hi]; exact z_shE (hs_X6_3_26 i hi)) ⟨(Nat.le_of_ble_eq_true rfl), (Nat.le_of_ble_eq_true rfl)⟩ (Nat.le_of_ble_eq_true rfl) (Nat.le_of_ble_eq_true rfl) (Nat.le_of_ble_eq_true rfl) dX6_init_51 dX6_init_54 dX6_init_55 ?_
  refine zn_to (N' := 30) (k' := 29) (n' := 620) rfl rfl rfl ?_
  refine zn_put hB hI 6 (fs := [.int 0, .int 3, .int 8, .ref (a0 + 1), .ref (a0 + 2), .ref (a0 + 11), .null, .null]) rfl (Nat.le_of_ble_eq_true rfl) vc_6 inlX6 tyX6 tyX6_ok nmX6 (Nat.le_of_ble_eq_true rfl) (wsL_c3 _ (List.mem_of_getElem? (i := 0) rfl)) rfl (tyX6_ok 6 (Nat.le_of_ble_eq_true rfl)) rfl rfl (Nat.le_of_ble_eq_true rfl) dX6_init_58 ?_
  refine zn_aload_n hB 0 dX6_init_61 rfl rfl ?_
  refine zn_make (σ' := z_0) hB hO ci_X0 vc_0 inlX0 tyX0 tyX0_ok (by intro j hj; match j, hj with | 0, _ => rfl | 1, _ => rfl | 2, _ => rfl | 3, _ => rfl | 4, _ => rfl | 5, _ => rfl | 6, _ => rfl | 7, _ => rfl | j + 8, h => omega) (wsL_c3 _ (List.mem_of_getElem? (i := 1) rfl)) (wsL_c3 _ (List.mem_of_getElem? (i := 2) rfl)) zY_0 rfl (wsL_c4 _ (List.mem_of_getElem? (i := 19) rfl)) (Or.inr ⟨"PaperRounds", by decide +kernel⟩) (fun i hi => by simp only [wu_o (show 30 + i ≠ 0 by omega)]; rw [wB_o (by omega), sh_X6_0_30 i hi]; exact z_shE (hs_X6_0_30 i hi)) ⟨(Nat.le_of_ble_eq_true rfl), (Nat.le_of_ble_eq_true rfl)⟩ (Nat.le_of_ble_eq_true rfl) (Nat.le_of_ble_eq_true rfl) (Nat.le_of_ble_eq_true rfl) dX6_init_62 dX6_init_65 dX6_init_66 ?_
  refine zn_to (N' := 38) (k' := 37) (n' := 649) rfl rfl rfl ?_
  refine zn_put hB hI 7 (fs := [.int 0, .int 3, .int 8, .ref (a0 + 1), .ref (a0 + 2), .ref (a0 + 11), .ref (a0 + 26), .null]) rfl (Nat.le_of_ble_eq_true rfl) vc_6 inlX6 tyX6 tyX6_ok nmX6 (Nat.le_of_ble_eq_true rfl) (wsL_c3 _ (List.mem_of_getElem? (i := 4) rfl)) rfl (tyX6_ok 7 (Nat.le_of_ble_eq_true rfl)) rfl rfl (Nat.le_of_ble_eq_true rfl) dX6_init_69 ?_
  refine hret _ _ _ _ _ (fun i H hi h => ?_) (Nat.le_of_ble_eq_true rfl) (Nat.le_of_ble_eq_true rfl) dX6_init_72
  by_cases h0 : i = 0
  · subst h0
    exact h
  simp only [wu_o h0] at h
  rw [wB_o h0] at h
  exact h
theorem hs_X1_6_2 : ∀ i, i < 38 → zSh 2 (layH (2 + i)) (layT i) = true := by decide +kernel
theorem sh_X1_6_2 : ∀ i, i < 38 → sgI1 (2 + i) = sgI6 i := by
  intro i hi
  unfold sgI1
  rw [if_neg (by omega)]
  congr 1
  omega
theorem hs_X1_6_40 : ∀ i, i < 38 → zSh 40 (layH (40 + i)) (layT i) = true := by decide +kernel
theorem sh_X1_6_40 : ∀ i, i < 38 → sgI1 (40 + i) = sgI6 i := by
  intro i hi
  unfold sgI1
  rw [if_neg (by omega)]
  congr 1
  omega
theorem hs_X1_6_78 : ∀ i, i < 38 → zSh 78 (layH (78 + i)) (layT i) = true := by decide +kernel
theorem sh_X1_6_78 : ∀ i, i < 38 → sgI1 (78 + i) = sgI6 i := by
  intro i hi
  unfold sgI1
  rw [if_neg (by omega)]
  congr 1
  omega
theorem hs_X1_6_116 : ∀ i, i < 38 → zSh 116 (layH (116 + i)) (layT i) = true := by decide +kernel
theorem sh_X1_6_116 : ∀ i, i < 38 → sgI1 (116 + i) = sgI6 i := by
  intro i hi
  unfold sgI1
  rw [if_neg (by omega)]
  congr 1
  omega
theorem hs_X1_6_154 : ∀ i, i < 38 → zSh 154 (layH (154 + i)) (layT i) = true := by decide +kernel
theorem sh_X1_6_154 : ∀ i, i < 38 → sgI1 (154 + i) = sgI6 i := by
  intro i hi
  unfold sgI1
  rw [if_neg (by omega)]
  congr 1
  omega
theorem zY_1 : z_Y yX1_init cX1_init 2 none 0 := ⟨(wsL_c1 _ (List.mem_of_getElem? (i := 15) rfl)), (wsL_c5 _ (List.mem_of_getElem? (i := 8) rfl)), by decide +kernel, by decide +kernel, by decide +kernel⟩
set_option maxRecDepth 100000 in
set_option maxHeartbeats 4000000 in
theorem ci_X1 : zInit yX1_init cX1_init 2 3 52 191 3290 1 [.int 0, .int 0, .null] layH 192 sgI1 := by
  refine zn_head RX1 (fun G a0 => wu (wB 1 [.int 0, .int 0, .null] G sgI1 layH a0) 1 (.inl (G.2.2.2, 5, .inr (.inr (.inr (.inr (fun _ => none))))))) (fun _ _ => rfl) (by decide) rfl rfl (fun _ => (Nat.le_of_ble_eq_true rfl)) (fun E G a0 hB hI hO hret => ?_)
  refine zn_aload_n hB 0 dX1_init_0 rfl rfl ?_
  refine zn_obj hB (wsL_c5 _ (List.mem_of_getElem? (i := 9) rfl)) (wsL_c1 _ (List.mem_of_getElem? (i := 7) rfl)) (wsL_c1 _ (List.mem_of_getElem? (i := 8) rfl)) dX1_init_1 (Nat.le_of_ble_eq_true rfl) (Nat.le_of_ble_eq_true rfl) ?_
  refine zn_aload_n hB 0 dX1_init_4 rfl rfl ?_
  refine zn_iconst hB dX1_init_5 zcI_0 ?_
  refine zn_put hB hI 0 (fs := [.int 0, .int 0, .null]) rfl (Nat.le_of_ble_eq_true rfl) vc_1 inlX1 tyX1 tyX1_ok nmX1 (Nat.le_of_ble_eq_true rfl) (wsL_c5 _ (List.mem_of_getElem? (i := 10) rfl)) rfl (tyX1_ok 0 (Nat.le_of_ble_eq_true rfl)) rfl rfl (Nat.le_of_ble_eq_true rfl) dX1_init_6 ?_
  refine zn_aload_n hB 0 dX1_init_9 rfl rfl ?_
  refine zn_iconst hB dX1_init_10 zcI_0 ?_
  refine zn_put hB hI 1 (fs := [.int 0, .int 0, .null]) rfl (Nat.le_of_ble_eq_true rfl) vc_1 inlX1 tyX1 tyX1_ok nmX1 (Nat.le_of_ble_eq_true rfl) (wsL_c5 _ (List.mem_of_getElem? (i := 11) rfl)) rfl (tyX1_ok 1 (Nat.le_of_ble_eq_true rfl)) rfl rfl (Nat.le_of_ble_eq_true rfl) dX1_init_11 ?_
  refine zn_aload_n hB 0 dX1_init_14 rfl rfl ?_
  refine zn_iconst hB dX1_init_15 zcI_5 ?_
  refine zn_newq hB hO (M := 5) dX1_init_16 (wsL_c5 _ (List.mem_of_getElem? (i := 12) rfl)) (by decide) (by decide) (by decide) rfl (Nat.le_of_ble_eq_true rfl) (Nat.le_of_ble_eq_true rfl) ?_
  refine zn_to (N' := 2) (k' := 1) (n' := 5) rfl rfl rfl ?_
  refine zn_put hB hI 2 (fs := [.int 0, .int 0, .null]) rfl (Nat.le_of_ble_eq_true rfl) vc_1 inlX1 tyX1 tyX1_ok nmX1 (Nat.le_of_ble_eq_true rfl) (wsL_c5 _ (List.mem_of_getElem? (i := 13) rfl)) rfl (tyX1_ok 2 (Nat.le_of_ble_eq_true rfl)) rfl rfl (Nat.le_of_ble_eq_true rfl) dX1_init_19 ?_
  refine zn_iconst hB dX1_init_22 zcI_0 ?_
  refine zn_istore_n hB [(1, .int 0), (0, .ref a0)] dX1_init_23 rfl (Nat.le_of_ble_eq_true rfl) rfl ?_
  refine zn_iload_n hB 0 dX1_init_24 rfl rfl ?_
  refine zn_iconst hB dX1_init_25 zcI_5 ?_
  refine zn_geF hB (tgt := 48) dX1_init_26 (by decide) (by decide) ?_
  refine zn_aload_n hB 1 dX1_init_29 rfl rfl ?_
  refine zn_get hB 2 (fs := [.int 0, .int 0, .ref (a0 + 1)]) (v := .ref (a0 + 1)) rfl (Nat.le_of_ble_eq_true rfl) vc_1 inlX1 (Nat.le_of_ble_eq_true rfl) (wsL_c5 _ (List.mem_of_getElem? (i := 13) rfl)) rfl dX1_init_30 ?_
  refine zn_iload_n hB 0 dX1_init_33 rfl rfl ?_
  refine zn_make (σ' := sgI6) hB hO ci_X6 vc_6 inlX6 tyX6 tyX6_ok (by intro j hj; match j, hj with | 0, _ => rfl | 1, _ => rfl | 2, _ => rfl | 3, _ => rfl | 4, _ => rfl | 5, _ => rfl | 6, _ => rfl | 7, _ => rfl | j + 8, h => omega) (wsL_c5 _ (List.mem_of_getElem? (i := 12) rfl)) (wsL_c1 _ (List.mem_of_getElem? (i := 10) rfl)) zY_6 rfl (wsL_c2 _ (List.mem_of_getElem? (i := 5) rfl)) (Or.inr ⟨"PaperRounds", by decide +kernel⟩) (fun i hi => by simp only [wu_o (show 2 + i ≠ 0 by omega), wu_o (show 2 + i ≠ 1 by omega)]; rw [wB_o (by omega), sh_X1_6_2 i hi]; exact z_shE (hs_X1_6_2 i hi)) ⟨(Nat.le_of_ble_eq_true rfl), (Nat.le_of_ble_eq_true rfl)⟩ (Nat.le_of_ble_eq_true rfl) (Nat.le_of_ble_eq_true rfl) (Nat.le_of_ble_eq_true rfl) dX1_init_34 dX1_init_37 dX1_init_38 ?_
  refine zn_to (N' := 40) (k' := 39) (n' := 662) rfl rfl rfl ?_
  refine zn_aast hB 1 5 2 (f := (fun _ => none)) (vs := [.int 0, .int 3, .int 8, .ref (a0 + 3), .ref (a0 + 4), .ref (a0 + 13), .ref (a0 + 28), .ref (a0 + 32)]) rfl (Nat.le_of_ble_eq_true rfl) rfl (Nat.le_of_ble_eq_true rfl) (by unfold vp_in; decide) dX1_init_41 ?_
  refine zn_iinc hB 0 [(1, .int 1), (0, .ref a0)] (v := 1) dX1_init_42 rfl (by decide) (Nat.le_of_ble_eq_true rfl) rfl ?_
  refine zn_goto hB (tgt := 24) dX1_init_45 (by decide) ?_
  refine zn_iload_n hB 0 dX1_init_24 rfl rfl ?_
  refine zn_iconst hB dX1_init_25 zcI_5 ?_
  refine zn_geF hB (tgt := 48) dX1_init_26 (by decide) (by decide) ?_
  refine zn_aload_n hB 1 dX1_init_29 rfl rfl ?_
  refine zn_get hB 2 (fs := [.int 0, .int 0, .ref (a0 + 1)]) (v := .ref (a0 + 1)) rfl (Nat.le_of_ble_eq_true rfl) vc_1 inlX1 (Nat.le_of_ble_eq_true rfl) (wsL_c5 _ (List.mem_of_getElem? (i := 13) rfl)) rfl dX1_init_30 ?_
  refine zn_iload_n hB 0 dX1_init_33 rfl rfl ?_
  refine zn_make (σ' := sgI6) hB hO ci_X6 vc_6 inlX6 tyX6 tyX6_ok (by intro j hj; match j, hj with | 0, _ => rfl | 1, _ => rfl | 2, _ => rfl | 3, _ => rfl | 4, _ => rfl | 5, _ => rfl | 6, _ => rfl | 7, _ => rfl | j + 8, h => omega) (wsL_c5 _ (List.mem_of_getElem? (i := 12) rfl)) (wsL_c1 _ (List.mem_of_getElem? (i := 10) rfl)) zY_6 rfl (wsL_c2 _ (List.mem_of_getElem? (i := 5) rfl)) (Or.inr ⟨"PaperRounds", by decide +kernel⟩) (fun i hi => by simp only [wu_o (show 40 + i ≠ 0 by omega), wu_o (show 40 + i ≠ 1 by omega)]; rw [wB_o (by omega), sh_X1_6_40 i hi]; exact z_shE (hs_X1_6_40 i hi)) ⟨(Nat.le_of_ble_eq_true rfl), (Nat.le_of_ble_eq_true rfl)⟩ (Nat.le_of_ble_eq_true rfl) (Nat.le_of_ble_eq_true rfl) (Nat.le_of_ble_eq_true rfl) dX1_init_34 dX1_init_37 dX1_init_38 ?_
  refine zn_to (N' := 78) (k' := 77) (n' := 1319) rfl rfl rfl ?_
  refine zn_aast hB 1 5 40 (f := (va_up (fun _ => none) (Int32.toNatClampNeg 0) (some (a0 + 2)))) (vs := [.int 0, .int 3, .int 8, .ref (a0 + 41), .ref (a0 + 42), .ref (a0 + 51), .ref (a0 + 66), .ref (a0 + 70)]) rfl (Nat.le_of_ble_eq_true rfl) rfl (Nat.le_of_ble_eq_true rfl) (by unfold vp_in; decide) dX1_init_41 ?_
  refine zn_iinc hB 0 [(1, .int 2), (0, .ref a0)] (v := 2) dX1_init_42 rfl (by decide) (Nat.le_of_ble_eq_true rfl) rfl ?_
  refine zn_goto hB (tgt := 24) dX1_init_45 (by decide) ?_
  refine zn_iload_n hB 0 dX1_init_24 rfl rfl ?_
  refine zn_iconst hB dX1_init_25 zcI_5 ?_
  refine zn_geF hB (tgt := 48) dX1_init_26 (by decide) (by decide) ?_
  refine zn_aload_n hB 1 dX1_init_29 rfl rfl ?_
  refine zn_get hB 2 (fs := [.int 0, .int 0, .ref (a0 + 1)]) (v := .ref (a0 + 1)) rfl (Nat.le_of_ble_eq_true rfl) vc_1 inlX1 (Nat.le_of_ble_eq_true rfl) (wsL_c5 _ (List.mem_of_getElem? (i := 13) rfl)) rfl dX1_init_30 ?_
  refine zn_iload_n hB 0 dX1_init_33 rfl rfl ?_
  refine zn_make (σ' := sgI6) hB hO ci_X6 vc_6 inlX6 tyX6 tyX6_ok (by intro j hj; match j, hj with | 0, _ => rfl | 1, _ => rfl | 2, _ => rfl | 3, _ => rfl | 4, _ => rfl | 5, _ => rfl | 6, _ => rfl | 7, _ => rfl | j + 8, h => omega) (wsL_c5 _ (List.mem_of_getElem? (i := 12) rfl)) (wsL_c1 _ (List.mem_of_getElem? (i := 10) rfl)) zY_6 rfl (wsL_c2 _ (List.mem_of_getElem? (i := 5) rfl)) (Or.inr ⟨"PaperRounds", by decide +kernel⟩) (fun i hi => by simp only [wu_o (show 78 + i ≠ 0 by omega), wu_o (show 78 + i ≠ 1 by omega)]; rw [wB_o (by omega), sh_X1_6_78 i hi]; exact z_shE (hs_X1_6_78 i hi)) ⟨(Nat.le_of_ble_eq_true rfl), (Nat.le_of_ble_eq_true rfl)⟩ (Nat.le_of_ble_eq_true rfl) (Nat.le_of_ble_eq_true rfl) (Nat.le_of_ble_eq_true rfl) dX1_init_34 dX1_init_37 dX1_init_38 ?_
  refine zn_to (N' := 116) (k' := 115) (n' := 1976) rfl rfl rfl ?_
  refine zn_aast hB 1 5 78 (f := (va_up (va_up (fun _ => none) (Int32.toNatClampNeg 0) (some (a0 + 2))) (Int32.toNatClampNeg 1) (some (a0 + 40)))) (vs := [.int 0, .int 3, .int 8, .ref (a0 + 79), .ref (a0 + 80), .ref (a0 + 89), .ref (a0 + 104), .ref (a0 + 108)]) rfl (Nat.le_of_ble_eq_true rfl) rfl (Nat.le_of_ble_eq_true rfl) (by unfold vp_in; decide) dX1_init_41 ?_
  refine zn_iinc hB 0 [(1, .int 3), (0, .ref a0)] (v := 3) dX1_init_42 rfl (by decide) (Nat.le_of_ble_eq_true rfl) rfl ?_
  refine zn_goto hB (tgt := 24) dX1_init_45 (by decide) ?_
  refine zn_iload_n hB 0 dX1_init_24 rfl rfl ?_
  refine zn_iconst hB dX1_init_25 zcI_5 ?_
  refine zn_geF hB (tgt := 48) dX1_init_26 (by decide) (by decide) ?_
  refine zn_aload_n hB 1 dX1_init_29 rfl rfl ?_
  refine zn_get hB 2 (fs := [.int 0, .int 0, .ref (a0 + 1)]) (v := .ref (a0 + 1)) rfl (Nat.le_of_ble_eq_true rfl) vc_1 inlX1 (Nat.le_of_ble_eq_true rfl) (wsL_c5 _ (List.mem_of_getElem? (i := 13) rfl)) rfl dX1_init_30 ?_
  refine zn_iload_n hB 0 dX1_init_33 rfl rfl ?_
  refine zn_make (σ' := sgI6) hB hO ci_X6 vc_6 inlX6 tyX6 tyX6_ok (by intro j hj; match j, hj with | 0, _ => rfl | 1, _ => rfl | 2, _ => rfl | 3, _ => rfl | 4, _ => rfl | 5, _ => rfl | 6, _ => rfl | 7, _ => rfl | j + 8, h => omega) (wsL_c5 _ (List.mem_of_getElem? (i := 12) rfl)) (wsL_c1 _ (List.mem_of_getElem? (i := 10) rfl)) zY_6 rfl (wsL_c2 _ (List.mem_of_getElem? (i := 5) rfl)) (Or.inr ⟨"PaperRounds", by decide +kernel⟩) (fun i hi => by simp only [wu_o (show 116 + i ≠ 0 by omega), wu_o (show 116 + i ≠ 1 by omega)]; rw [wB_o (by omega), sh_X1_6_116 i hi]; exact z_shE (hs_X1_6_116 i hi)) ⟨(Nat.le_of_ble_eq_true rfl), (Nat.le_of_ble_eq_true rfl)⟩ (Nat.le_of_ble_eq_true rfl) (Nat.le_of_ble_eq_true rfl) (Nat.le_of_ble_eq_true rfl) dX1_init_34 dX1_init_37 dX1_init_38 ?_
  refine zn_to (N' := 154) (k' := 153) (n' := 2633) rfl rfl rfl ?_
  refine zn_aast hB 1 5 116 (f := (va_up (va_up (va_up (fun _ => none) (Int32.toNatClampNeg 0) (some (a0 + 2))) (Int32.toNatClampNeg 1) (some (a0 + 40))) (Int32.toNatClampNeg 2) (some (a0 + 78)))) (vs := [.int 0, .int 3, .int 8, .ref (a0 + 117), .ref (a0 + 118), .ref (a0 + 127), .ref (a0 + 142), .ref (a0 + 146)]) rfl (Nat.le_of_ble_eq_true rfl) rfl (Nat.le_of_ble_eq_true rfl) (by unfold vp_in; decide) dX1_init_41 ?_
  refine zn_iinc hB 0 [(1, .int 4), (0, .ref a0)] (v := 4) dX1_init_42 rfl (by decide) (Nat.le_of_ble_eq_true rfl) rfl ?_
  refine zn_goto hB (tgt := 24) dX1_init_45 (by decide) ?_
  refine zn_iload_n hB 0 dX1_init_24 rfl rfl ?_
  refine zn_iconst hB dX1_init_25 zcI_5 ?_
  refine zn_geF hB (tgt := 48) dX1_init_26 (by decide) (by decide) ?_
  refine zn_aload_n hB 1 dX1_init_29 rfl rfl ?_
  refine zn_get hB 2 (fs := [.int 0, .int 0, .ref (a0 + 1)]) (v := .ref (a0 + 1)) rfl (Nat.le_of_ble_eq_true rfl) vc_1 inlX1 (Nat.le_of_ble_eq_true rfl) (wsL_c5 _ (List.mem_of_getElem? (i := 13) rfl)) rfl dX1_init_30 ?_
  refine zn_iload_n hB 0 dX1_init_33 rfl rfl ?_
  refine zn_make (σ' := sgI6) hB hO ci_X6 vc_6 inlX6 tyX6 tyX6_ok (by intro j hj; match j, hj with | 0, _ => rfl | 1, _ => rfl | 2, _ => rfl | 3, _ => rfl | 4, _ => rfl | 5, _ => rfl | 6, _ => rfl | 7, _ => rfl | j + 8, h => omega) (wsL_c5 _ (List.mem_of_getElem? (i := 12) rfl)) (wsL_c1 _ (List.mem_of_getElem? (i := 10) rfl)) zY_6 rfl (wsL_c2 _ (List.mem_of_getElem? (i := 5) rfl)) (Or.inr ⟨"PaperRounds", by decide +kernel⟩) (fun i hi => by simp only [wu_o (show 154 + i ≠ 0 by omega), wu_o (show 154 + i ≠ 1 by omega)]; rw [wB_o (by omega), sh_X1_6_154 i hi]; exact z_shE (hs_X1_6_154 i hi)) ⟨(Nat.le_of_ble_eq_true rfl), (Nat.le_of_ble_eq_true rfl)⟩ (Nat.le_of_ble_eq_true rfl) (Nat.le_of_ble_eq_true rfl) (Nat.le_of_ble_eq_true rfl) dX1_init_34 dX1_init_37 dX1_init_38 ?_
  refine zn_to (N' := 192) (k' := 191) (n' := 3290) rfl rfl rfl ?_
  refine zn_aast hB 1 5 154 (f := (va_up (va_up (va_up (va_up (fun _ => none) (Int32.toNatClampNeg 0) (some (a0 + 2))) (Int32.toNatClampNeg 1) (some (a0 + 40))) (Int32.toNatClampNeg 2) (some (a0 + 78))) (Int32.toNatClampNeg 3) (some (a0 + 116)))) (vs := [.int 0, .int 3, .int 8, .ref (a0 + 155), .ref (a0 + 156), .ref (a0 + 165), .ref (a0 + 180), .ref (a0 + 184)]) rfl (Nat.le_of_ble_eq_true rfl) rfl (Nat.le_of_ble_eq_true rfl) (by unfold vp_in; decide) dX1_init_41 ?_
  refine zn_iinc hB 0 [(1, .int 5), (0, .ref a0)] (v := 5) dX1_init_42 rfl (by decide) (Nat.le_of_ble_eq_true rfl) rfl ?_
  refine zn_goto hB (tgt := 24) dX1_init_45 (by decide) ?_
  refine zn_iload_n hB 0 dX1_init_24 rfl rfl ?_
  refine zn_iconst hB dX1_init_25 zcI_5 ?_
  refine zn_geT hB (tgt := 48) dX1_init_26 (by decide) (by decide) ?_
  refine hret _ _ _ _ _ (fun i H hi h => ?_) (Nat.le_of_ble_eq_true rfl) (Nat.le_of_ble_eq_true rfl) dX1_init_48
  by_cases h0 : i = 0
  · subst h0
    exact h
  by_cases h1 : i = 1
  · subst h1
    rw [wu_i] at h
    refine Eq.trans (show H[a0 + 1]? = some (vp_cell G.2.2.2 (5, .inr (.inr (.inr (.inr (va_up (va_up (va_up (va_up (va_up (fun _ => none) (Int32.toNatClampNeg 0) (some (a0 + 2))) (Int32.toNatClampNeg 1) (some (a0 + 40))) (Int32.toNatClampNeg 2) (some (a0 + 78))) (Int32.toNatClampNeg 3) (some (a0 + 116))) (Int32.toNatClampNeg 4) (some (a0 + 154)))))))) from h) ?_
    show some (vp_cell _ _) = some (arrV G.2.2.2 5 (fun j => va_rf (some (a0 + (2 + 38 * j)))))
    rw [vp_cell_q]
    refine congrArg some (arrV_congr (fun j hj => ?_))
    match j, hj with
      | 0, _ => rfl
      | 1, _ => rfl
      | 2, _ => rfl
      | 3, _ => rfl
      | 4, _ => rfl
      | j + 5, h => omega
  simp only [wu_o h0, wu_o h1] at h
  rw [wB_o h0] at h
  exact h
theorem hs_X7_6_1 : ∀ i, i < 38 → zSh 1 (layR (1 + i)) (layT i) = true := by decide +kernel
theorem sh_X7_6_1 : ∀ i, i < 38 → sgI7 (1 + i) = sgI6 i := by
  intro i hi
  unfold sgI7
  rw [if_neg (by omega), Nat.add_sub_cancel_left]
theorem zY_7 : z_Y yX7_init cX7_init 1 none 0 := ⟨(wsL_c2 _ (List.mem_of_getElem? (i := 3) rfl)), (wsL_c6 _ (List.mem_of_getElem? (i := 9) rfl)), by decide +kernel, by decide +kernel, by decide +kernel⟩
set_option maxRecDepth 100000 in
set_option maxHeartbeats 4000000 in
theorem ci_X7 : zInit yX7_init cX7_init 1 3 52 38 657 7 [.null, .int 0, .int 0, .int 0, .int 0] layR 39 sgI7 := by
  refine zn_head RX7 (fun G a0 => wB 7 [.null, .int 0, .int 0, .int 0, .int 0] G sgI7 layR a0) (fun _ _ => rfl) (by decide) rfl rfl (fun _ => (Nat.le_of_ble_eq_true rfl)) (fun E G a0 hB hI hO hret => ?_)
  refine zn_aload_n hB 0 dX7_init_0 rfl rfl ?_
  refine zn_obj hB (wsL_c6 _ (List.mem_of_getElem? (i := 10) rfl)) (wsL_c1 _ (List.mem_of_getElem? (i := 7) rfl)) (wsL_c1 _ (List.mem_of_getElem? (i := 8) rfl)) dX7_init_1 (Nat.le_of_ble_eq_true rfl) (Nat.le_of_ble_eq_true rfl) ?_
  refine zn_aload_n hB 0 dX7_init_4 rfl rfl ?_
  refine zn_make (σ' := sgI6) hB hO ci_X6 vc_6 inlX6 tyX6 tyX6_ok (by intro j hj; match j, hj with | 0, _ => rfl | 1, _ => rfl | 2, _ => rfl | 3, _ => rfl | 4, _ => rfl | 5, _ => rfl | 6, _ => rfl | 7, _ => rfl | j + 8, h => omega) (wsL_c6 _ (List.mem_of_getElem? (i := 11) rfl)) (wsL_c1 _ (List.mem_of_getElem? (i := 10) rfl)) zY_6 rfl (wsL_c2 _ (List.mem_of_getElem? (i := 5) rfl)) (Or.inr ⟨"PaperRounds", by decide +kernel⟩) (fun i hi => by rw [wB_o (by omega), sh_X7_6_1 i hi]; exact z_shE (hs_X7_6_1 i hi)) ⟨(Nat.le_of_ble_eq_true rfl), (Nat.le_of_ble_eq_true rfl)⟩ (Nat.le_of_ble_eq_true rfl) (Nat.le_of_ble_eq_true rfl) (Nat.le_of_ble_eq_true rfl) dX7_init_5 dX7_init_8 dX7_init_9 ?_
  refine zn_to (N' := 39) (k' := 38) (n' := 657) rfl rfl rfl ?_
  refine zn_put hB hI 0 (fs := [.null, .int 0, .int 0, .int 0, .int 0]) rfl (Nat.le_of_ble_eq_true rfl) vc_7 inlX7 tyX7 tyX7_ok nmX7 (Nat.le_of_ble_eq_true rfl) (wsL_c6 _ (List.mem_of_getElem? (i := 12) rfl)) rfl (tyX7_ok 0 (Nat.le_of_ble_eq_true rfl)) rfl rfl (Nat.le_of_ble_eq_true rfl) dX7_init_12 ?_
  refine zn_aload_n hB 0 dX7_init_15 rfl rfl ?_
  refine zn_iconst hB dX7_init_16 zcI_0 ?_
  refine zn_put hB hI 1 (fs := [.ref (a0 + 1), .int 0, .int 0, .int 0, .int 0]) rfl (Nat.le_of_ble_eq_true rfl) vc_7 inlX7 tyX7 tyX7_ok nmX7 (Nat.le_of_ble_eq_true rfl) (wsL_c6 _ (List.mem_of_getElem? (i := 13) rfl)) rfl (tyX7_ok 1 (Nat.le_of_ble_eq_true rfl)) rfl rfl (Nat.le_of_ble_eq_true rfl) dX7_init_17 ?_
  refine zn_aload_n hB 0 dX7_init_20 rfl rfl ?_
  refine zn_iconst hB dX7_init_21 zcI_0 ?_
  refine zn_put hB hI 2 (fs := [.ref (a0 + 1), .int 0, .int 0, .int 0, .int 0]) rfl (Nat.le_of_ble_eq_true rfl) vc_7 inlX7 tyX7 tyX7_ok nmX7 (Nat.le_of_ble_eq_true rfl) (wsL_c6 _ (List.mem_of_getElem? (i := 14) rfl)) rfl (tyX7_ok 2 (Nat.le_of_ble_eq_true rfl)) rfl rfl (Nat.le_of_ble_eq_true rfl) dX7_init_22 ?_
  refine zn_aload_n hB 0 dX7_init_25 rfl rfl ?_
  refine zn_iconst hB dX7_init_26 zcI_0 ?_
  refine zn_put hB hI 3 (fs := [.ref (a0 + 1), .int 0, .int 0, .int 0, .int 0]) rfl (Nat.le_of_ble_eq_true rfl) vc_7 inlX7 tyX7 tyX7_ok nmX7 (Nat.le_of_ble_eq_true rfl) (wsL_c6 _ (List.mem_of_getElem? (i := 15) rfl)) rfl (tyX7_ok 3 (Nat.le_of_ble_eq_true rfl)) rfl rfl (Nat.le_of_ble_eq_true rfl) dX7_init_27 ?_
  refine zn_aload_n hB 0 dX7_init_30 rfl rfl ?_
  refine zn_iconst hB dX7_init_31 zcI_0 ?_
  refine zn_put hB hI 4 (fs := [.ref (a0 + 1), .int 0, .int 0, .int 0, .int 0]) rfl (Nat.le_of_ble_eq_true rfl) vc_7 inlX7 tyX7 tyX7_ok nmX7 (Nat.le_of_ble_eq_true rfl) (wsL_c6 _ (List.mem_of_getElem? (i := 16) rfl)) rfl (tyX7_ok 4 (Nat.le_of_ble_eq_true rfl)) rfl rfl (Nat.le_of_ble_eq_true rfl) dX7_init_32 ?_
  refine hret _ _ _ _ _ (fun i H hi h => ?_) (Nat.le_of_ble_eq_true rfl) (Nat.le_of_ble_eq_true rfl) dX7_init_35
  by_cases h0 : i = 0
  · subst h0
    exact h
  simp only [wu_o h0] at h
  rw [wB_o h0] at h
  exact h
theorem hs_X9_6_1 : ∀ i, i < 38 → zSh 1 (layI9 (1 + i)) (layT i) = true := by decide +kernel
theorem sh_X9_6_1 : ∀ i, i < 38 → sgI9 (1 + i) = sgI6 i := by
  intro i hi
  unfold sgI9
  rw [if_neg (by omega), if_pos (by omega), Nat.add_sub_cancel_left]
theorem hs_X9_1_39 : ∀ i, i < 192 → zSh 39 (layI9 (39 + i)) (layH i) = true := by decide +kernel
theorem sh_X9_1_39 : ∀ i, i < 192 → sgI9 (39 + i) = sgI1 i := by
  intro i hi
  unfold sgI9
  rw [if_neg (by omega), if_neg (by omega), if_pos (by omega), Nat.add_sub_cancel_left]
theorem hs_X9_8_231 : ∀ i, i < 2 → zSh 231 (layI9 (231 + i)) (layI8 i) = true := by decide +kernel
theorem sh_X9_8_231 : ∀ i, i < 2 → sgI9 (231 + i) = z_0 i := by
  intro i hi
  unfold sgI9
  rw [if_neg (by omega), if_neg (by omega), if_neg (by omega), if_pos (by omega), Nat.add_sub_cancel_left]
theorem hs_X9_5_233 : ∀ i, i < 3 → zSh 233 (layI9 (233 + i)) (layX0 i) = true := by decide +kernel
theorem sh_X9_5_233 : ∀ i, i < 3 → sgI9 (233 + i) = sgI5 i := by
  intro i hi
  unfold sgI9
  rw [if_neg (by omega), if_neg (by omega), if_neg (by omega), if_neg (by omega), if_pos (by omega), Nat.add_sub_cancel_left]
theorem hs_X9_7_236 : ∀ i, i < 39 → zSh 236 (layI9 (236 + i)) (layR i) = true := by decide +kernel
theorem sh_X9_7_236 : ∀ i, i < 39 → sgI9 (236 + i) = sgI7 i := by
  intro i hi
  unfold sgI9
  rw [if_neg (by omega), if_neg (by omega), if_neg (by omega), if_neg (by omega), if_neg (by omega), Nat.add_sub_cancel_left]
theorem zY_9 : z_Y yX9_init cX9_init 1 none 0 := ⟨(wsL_c1 _ (List.mem_of_getElem? (i := 2) rfl)), (wsL_c1 _ (List.mem_of_getElem? (i := 5) rfl)), by decide +kernel, by decide +kernel, by decide +kernel⟩
set_option maxRecDepth 100000 in
set_option maxHeartbeats 4000000 in
theorem ci_X9 : zInit yX9_init cX9_init 1 4 73 274 4706 9 [.null, .null, .null, .null, .null] layI9 275 sgI9 := by
  refine zn_head RX9 (fun G a0 => wB 9 [.null, .null, .null, .null, .null] G sgI9 layI9 a0) (fun _ _ => rfl) (by decide) rfl rfl (fun _ => (Nat.le_of_ble_eq_true rfl)) (fun E G a0 hB hI hO hret => ?_)
  refine zn_aload_n hB 0 dX9_init_0 rfl rfl ?_
  refine zn_obj hB (wsL_c1 _ (List.mem_of_getElem? (i := 6) rfl)) (wsL_c1 _ (List.mem_of_getElem? (i := 7) rfl)) (wsL_c1 _ (List.mem_of_getElem? (i := 8) rfl)) dX9_init_1 (Nat.le_of_ble_eq_true rfl) (Nat.le_of_ble_eq_true rfl) ?_
  refine zn_aload_n hB 0 dX9_init_4 rfl rfl ?_
  refine zn_make (σ' := sgI6) hB hO ci_X6 vc_6 inlX6 tyX6 tyX6_ok (by intro j hj; match j, hj with | 0, _ => rfl | 1, _ => rfl | 2, _ => rfl | 3, _ => rfl | 4, _ => rfl | 5, _ => rfl | 6, _ => rfl | 7, _ => rfl | j + 8, h => omega) (wsL_c1 _ (List.mem_of_getElem? (i := 9) rfl)) (wsL_c1 _ (List.mem_of_getElem? (i := 10) rfl)) zY_6 rfl (wsL_c2 _ (List.mem_of_getElem? (i := 5) rfl)) (Or.inr ⟨"PaperRounds", by decide +kernel⟩) (fun i hi => by rw [wB_o (by omega), sh_X9_6_1 i hi]; exact z_shE (hs_X9_6_1 i hi)) ⟨(Nat.le_of_ble_eq_true rfl), (Nat.le_of_ble_eq_true rfl)⟩ (Nat.le_of_ble_eq_true rfl) (Nat.le_of_ble_eq_true rfl) (Nat.le_of_ble_eq_true rfl) dX9_init_5 dX9_init_8 dX9_init_9 ?_
  refine zn_to (N' := 39) (k' := 38) (n' := 657) rfl rfl rfl ?_
  refine zn_put hB hI 0 (fs := [.null, .null, .null, .null, .null]) rfl (Nat.le_of_ble_eq_true rfl) vc_9 inlX9 tyX9 tyX9_ok nmX9 (Nat.le_of_ble_eq_true rfl) (wsL_c1 _ (List.mem_of_getElem? (i := 12) rfl)) rfl (tyX9_ok 0 (Nat.le_of_ble_eq_true rfl)) rfl rfl (Nat.le_of_ble_eq_true rfl) dX9_init_12 ?_
  refine zn_aload_n hB 0 dX9_init_15 rfl rfl ?_
  refine zn_make (σ' := sgI1) hB hO ci_X1 vc_1 inlX1 tyX1 tyX1_ok (by intro j hj; match j, hj with | 0, _ => rfl | 1, _ => rfl | 2, _ => rfl | j + 3, h => omega) (wsL_c1 _ (List.mem_of_getElem? (i := 13) rfl)) (wsL_c1 _ (List.mem_of_getElem? (i := 14) rfl)) zY_1 rfl (wsL_c5 _ (List.mem_of_getElem? (i := 7) rfl)) (Or.inl (wsL_c5 _ (List.mem_of_getElem? (i := 6) rfl))) (fun i hi => by simp only [wu_o (show 39 + i ≠ 0 by omega)]; rw [wB_o (by omega), sh_X9_1_39 i hi]; exact z_shE (hs_X9_1_39 i hi)) ⟨(Nat.le_of_ble_eq_true rfl), (Nat.le_of_ble_eq_true rfl)⟩ (Nat.le_of_ble_eq_true rfl) (Nat.le_of_ble_eq_true rfl) (Nat.le_of_ble_eq_true rfl) dX9_init_16 dX9_init_19 dX9_init_20 ?_
  refine zn_to (N' := 231) (k' := 230) (n' := 3950) rfl rfl rfl ?_
  refine zn_put hB hI 1 (fs := [.ref (a0 + 1), .null, .null, .null, .null]) rfl (Nat.le_of_ble_eq_true rfl) vc_9 inlX9 tyX9 tyX9_ok nmX9 (Nat.le_of_ble_eq_true rfl) (wsL_c1 _ (List.mem_of_getElem? (i := 16) rfl)) rfl (tyX9_ok 1 (Nat.le_of_ble_eq_true rfl)) rfl rfl (Nat.le_of_ble_eq_true rfl) dX9_init_23 ?_
  refine zn_aload_n hB 0 dX9_init_26 rfl rfl ?_
  refine zn_make (σ' := z_0) hB hO ci_X8 vc_8 inlX8 tyX8 tyX8_ok (by intro j hj; match j, hj with | 0, _ => rfl | 1, _ => rfl | 2, _ => rfl | 3, _ => rfl | 4, _ => rfl | 5, _ => rfl | j + 6, h => omega) (wsL_c1 _ (List.mem_of_getElem? (i := 17) rfl)) (wsL_c1 _ (List.mem_of_getElem? (i := 18) rfl)) zY_8 rfl (wsL_c5 _ (List.mem_of_getElem? (i := 14) rfl)) (Or.inr ⟨"PaperRounds", by decide +kernel⟩) (fun i hi => by simp only [wu_o (show 231 + i ≠ 0 by omega)]; rw [wB_o (by omega), sh_X9_8_231 i hi]; exact z_shE (hs_X9_8_231 i hi)) ⟨(Nat.le_of_ble_eq_true rfl), (Nat.le_of_ble_eq_true rfl)⟩ (Nat.le_of_ble_eq_true rfl) (Nat.le_of_ble_eq_true rfl) (Nat.le_of_ble_eq_true rfl) dX9_init_27 dX9_init_30 dX9_init_31 ?_
  refine zn_to (N' := 233) (k' := 232) (n' := 3976) rfl rfl rfl ?_
  refine zn_put hB hI 2 (fs := [.ref (a0 + 1), .ref (a0 + 39), .null, .null, .null]) rfl (Nat.le_of_ble_eq_true rfl) vc_9 inlX9 tyX9 tyX9_ok nmX9 (Nat.le_of_ble_eq_true rfl) (wsL_c1 _ (List.mem_of_getElem? (i := 20) rfl)) rfl (tyX9_ok 2 (Nat.le_of_ble_eq_true rfl)) rfl rfl (Nat.le_of_ble_eq_true rfl) dX9_init_34 ?_
  refine zn_aload_n hB 0 dX9_init_37 rfl rfl ?_
  refine zn_make (σ' := sgI5) hB hO ci_X5 vc_5 inlX5 tyX5 tyX5_ok (by intro j hj; match j, hj with | 0, _ => rfl | 1, _ => rfl | 2, _ => rfl | 3, _ => rfl | 4, _ => rfl | j + 5, h => omega) (wsL_c1 _ (List.mem_of_getElem? (i := 21) rfl)) (wsL_c1 _ (List.mem_of_getElem? (i := 22) rfl)) zY_5 rfl (wsL_c5 _ (List.mem_of_getElem? (i := 23) rfl)) (Or.inr ⟨"PaperRounds", by decide +kernel⟩) (fun i hi => by simp only [wu_o (show 233 + i ≠ 0 by omega)]; rw [wB_o (by omega), sh_X9_5_233 i hi]; exact z_shE (hs_X9_5_233 i hi)) ⟨(Nat.le_of_ble_eq_true rfl), (Nat.le_of_ble_eq_true rfl)⟩ (Nat.le_of_ble_eq_true rfl) (Nat.le_of_ble_eq_true rfl) (Nat.le_of_ble_eq_true rfl) dX9_init_38 dX9_init_41 dX9_init_42 ?_
  refine zn_to (N' := 236) (k' := 235) (n' := 4044) rfl rfl rfl ?_
  refine zn_put hB hI 3 (fs := [.ref (a0 + 1), .ref (a0 + 39), .ref (a0 + 231), .null, .null]) rfl (Nat.le_of_ble_eq_true rfl) vc_9 inlX9 tyX9 tyX9_ok nmX9 (Nat.le_of_ble_eq_true rfl) (wsL_c2 _ (List.mem_of_getElem? (i := 0) rfl)) rfl (tyX9_ok 3 (Nat.le_of_ble_eq_true rfl)) rfl rfl (Nat.le_of_ble_eq_true rfl) dX9_init_45 ?_
  refine zn_aload_n hB 0 dX9_init_48 rfl rfl ?_
  refine zn_make (σ' := sgI7) hB hO ci_X7 vc_7 inlX7 tyX7 tyX7_ok (by intro j hj; match j, hj with | 0, _ => rfl | 1, _ => rfl | 2, _ => rfl | 3, _ => rfl | 4, _ => rfl | j + 5, h => omega) (wsL_c2 _ (List.mem_of_getElem? (i := 1) rfl)) (wsL_c2 _ (List.mem_of_getElem? (i := 2) rfl)) zY_7 rfl (wsL_c6 _ (List.mem_of_getElem? (i := 8) rfl)) (Or.inr ⟨"PaperRounds", by decide +kernel⟩) (fun i hi => by simp only [wu_o (show 236 + i ≠ 0 by omega)]; rw [wB_o (by omega), sh_X9_7_236 i hi]; exact z_shE (hs_X9_7_236 i hi)) ⟨(Nat.le_of_ble_eq_true rfl), (Nat.le_of_ble_eq_true rfl)⟩ (Nat.le_of_ble_eq_true rfl) (Nat.le_of_ble_eq_true rfl) (Nat.le_of_ble_eq_true rfl) dX9_init_49 dX9_init_52 dX9_init_53 ?_
  refine zn_to (N' := 275) (k' := 274) (n' := 4706) rfl rfl rfl ?_
  refine zn_put hB hI 4 (fs := [.ref (a0 + 1), .ref (a0 + 39), .ref (a0 + 231), .ref (a0 + 233), .null]) rfl (Nat.le_of_ble_eq_true rfl) vc_9 inlX9 tyX9 tyX9_ok nmX9 (Nat.le_of_ble_eq_true rfl) (wsL_c2 _ (List.mem_of_getElem? (i := 4) rfl)) rfl (tyX9_ok 4 (Nat.le_of_ble_eq_true rfl)) rfl rfl (Nat.le_of_ble_eq_true rfl) dX9_init_56 ?_
  refine hret _ _ _ _ _ (fun i H hi h => ?_) (Nat.le_of_ble_eq_true rfl) (Nat.le_of_ble_eq_true rfl) dX9_init_59
  by_cases h0 : i = 0
  · subst h0
    exact h
  simp only [wu_o h0] at h
  rw [wB_o h0] at h
  exact h
