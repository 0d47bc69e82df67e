/-! THE REFERENCE CARRIES A READ COMMAND OUT -/
section Kmx
variable {d B : Nat} {M M' : am_M} {a : Nat → Nat} {w : am_W4}
theorem am_mo_ret {o : Out} {K : Option am_V → am_M → am_X → Option am_R} (hK : ∀ s M', K (some (am_I s)) M' (am_Z w) = if am_pc 1 s = true then some (.inl (some (am_I s)), M', am_Z w) else none) : am_cb (am_moR M a w o) K = am_moR M a w o := by
  rcases o with ⟨v, a'⟩ | ⟨q, x⟩
  · unfold am_moR
    rw [am_cb_i, hK, if_pos pc1]
  · unfold am_moR
    rw [am_cb_i, hK, if_pos pc0]
end Kmx
