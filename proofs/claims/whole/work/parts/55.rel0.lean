/-! THE PURE PART. 41: a new object and a new model belong together -/
/-- where a cell of the world of both lies, counted from the first one that is made -/
def pmX : Nat → Nat := fun i => if i < 192 then 39 + i else if i < 230 then i - 191 else if i = 230 then 0 else i
def sgL : z_S := fun i => if i < 275 then sgI9 i else sgI10 (i - 275)
def st0 : z_S := fun i => sgL (pmX i)
theorem st0_n (j : Nat) : st0 276 j = if j = 6 then 8 else if j = 5 then 3 else if j = 0 then 1 else 0 := rfl
theorem st0_z {j : Nat} (h6 : j ≠ 6) (h5 : j ≠ 5) (h0 : j ≠ 0) : st0 276 j = nI 0 := by
  rw [st0_n, if_neg h6, if_neg h5, if_neg h0]
  rfl
theorem rel_0 : RX st0 (fun k => st0 (k + 275)) := by
  refine ⟨⟨1, 0, 0, 0, 0, fun _ => 0, fun _ => 0, ?_⟩, ⟨0, 0, by omega, by omega, rfl, rfl, rfl, fun i hi => absurd hi (by omega)⟩, ⟨fun k hk => rfl, rfl⟩, 0, by omega, rfl, rfl, fun k hk => absurd hk (by omega)⟩
  refine ⟨⟨⟨rfl, by omega, by omega, fun k h1 h2 => by omega, fun k h1 h2 => by omega⟩, rfl, fun k hk => ?_, fun k hk => ?_⟩, ⟨⟨rfl, by omega, fun h hh => absurd hh (by omega)⟩, rfl, fun h hh => absurd hh (by omega)⟩, fun k hk => absurd hk (by omega), ⟨rfl, by omega, rfl, fun c hc => absurd hc (by omega)⟩, ⟨rfl, by omega, rfl, fun c hc => absurd hc (by omega)⟩, ⟨⟨rfl, by omega, rfl⟩, ⟨rfl, 3, rfl, by omega, by omega⟩, ⟨rfl, 8, rfl, by omega, by omega⟩⟩, ⟨rfl, rfl, rfl, rfl, rfl, rfl⟩, fun i h1 h2 => st0_z (by omega) (by omega) (by omega), fun i h1 h2 => st0_z (by omega) (by omega) (by omega)⟩
  · obtain rfl : k = 0 := by omega
    exact ⟨fun h => absurd h (by omega), rfl, rfl, rfl, rfl, rfl, rfl, Or.inl rfl⟩
  · obtain rfl : k = 0 := by omega
    rfl
