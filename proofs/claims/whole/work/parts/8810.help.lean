/-! THE LAW'S HELPERS: A CALL, AND WHAT IT THROWS -/
section Khe
variable {M : am_M} {w : am_W4} {ls : am_S} {st : List am_V}
theorem bk_v {z pc : Nat} {v : Option am_V} {X : am_X} {K : Nat → am_S → List am_V → am_M → am_X → Option am_R} {F : am_R → Option am_R} : am_bk z pc ls st (some (.inl v, M, X)) K F = K (pc + 3) ls (v.toList ++ st) M X := rfl
theorem bk_e {z pc E t j : Nat} {X : am_X} {K : Nat → am_S → List am_V → am_M → am_X → Option am_R} {F : am_R → Option am_R} (h : am_hd z pc E = some (t, j)) : am_bk z pc ls st (some (.inr E, M, X)) K F = K t (am_put ls j none) [] M X := by
  unfold am_bk
  dsimp only
  rw [h]
theorem hd195 : am_hd 195 7 0 = some (17, 5) := by decide +kernel
theorem hd201 : am_hd 201 4 0 = some (13, 3) := by decide +kernel
theorem hd218 : am_hd 218 3 0 = some (15, 2) ∧ am_hd 218 3 2 = some (12, 2) := by decide +kernel
end Khe
