/-- the room of Pairing.place at depth d -/
abbrev rmP (d : Nat) : Room := { frames := d + 1, cells := 0, slots := 0, locals := 25 * d + 25 }
theorem rmP_s (d : Nat) : 0 + 1 ≤ (rmP (d + 1)).frames ∧ 8 + (3 + 11) + 0 ≤ (rmP (d + 1)).locals := ⟨by show 0 + 1 ≤ d + 1 + 1; omega, by show 8 + (3 + 11) + 0 ≤ 25 * (d + 1) + 25; omega⟩
theorem rmP_r (d : Nat) : (rmP d).frames + 1 ≤ (rmP (d + 1)).frames ∧ 8 + (6 + 11) + (rmP d).locals ≤ (rmP (d + 1)).locals := ⟨by show d + 1 + 1 ≤ d + 1 + 1; omega, by show 8 + (6 + 11) + (25 * d + 25) ≤ 25 * (d + 1) + 25; omega⟩
