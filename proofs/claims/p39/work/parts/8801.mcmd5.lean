/-! ONE COMMAND OF A TEXT: THE REFERENCE READS IT -/
section Km5
variable {d : Nat} {M M' M0 : am_M} {w : am_W4} {tx : List Int32}
theorem ifp {c : Nat} : am_pc 1 (if 0 < c then nI 1 else nI 0) = true := by split <;> rfl
theorem pm_in {lo hi : Nat} : ∀ k p acc, p ≤ tx.length → (pm tx lo hi k p acc).2.1 ≤ tx.length := by
  intro k
  induction k with
  | zero => intro p acc h; exact h
  | succ k ih =>
    intro p acc h
    rw [pm_s]
    cases hv : pd tx lo hi p with
    | none => exact h
    | some v =>
      have := cn_lt (pd_lt hv).2.2
      exact ih (p + 1) _ (by omega)
/-- a command read by the reference: the place, the numbers; only they change -/
def mpO (M : am_M) (w : am_W4) (r : Option am_R) (c : Pc) : Prop := ∃ M', r = some (.inl (some (am_I (nI c.2.isSome.toNat))), M', am_Z w) ∧ M' (30, 0, 0) 11 = nI c.1 ∧ (∀ k x y z, c.2 = some (k, x, y, z) → M' (38, 0, 0) 0 = nI x ∧ (k ≠ 6 → k ≠ 7 → M' (38, 0, 0) 1 = nI y) ∧ (k = 2 ∨ k = 5 → M' (38, 0, 0) 2 = nI z)) ∧ ∀ l' j, l' ≠ (38, 0, 0) → ¬ (l' = (30, 0, 0) ∧ j = 11) → M' l' j = M l' j
/-- memories that differ in the place and the numbers only -/
def mpE (M M' : am_M) : Prop := ∀ l' j, l' ≠ (38, 0, 0) → ¬ (l' = (30, 0, 0) ∧ j = 11) → M' l' j = M l' j
theorem mpE.rf (M : am_M) : mpE M M := fun _ _ _ _ => rfl
theorem mpE.ps {p : Nat} (h : mpE M M') : mpE M (mps M' p) := fun l' j h1 h2 => (as_ne h2).trans (h l' j h1 h2)
theorem mpE.pn {p s acc : Nat} (h : mpE M M') : mpE M (mpn M' p s acc) := fun l' j h1 h2 => ((as_ne (fun q => h1 q.1)).trans (as_ne h2)).trans (h l' j h1 h2)
theorem mpO.no {p : Nat} (h : mpE M M') (h4 : M' (30, 0, 0) 11 = nI p) : mpO M w (some (.inl (some (am_I (nI 0))), M', am_Z w)) (p, none) := ⟨M', rfl, h4, fun k x y z q => absurd q (by simp), h⟩
theorem mpn_o {p s acc i : Nat} (h : i ≠ s) : mpn M p s acc (38, 0, 0) i = M (38, 0, 0) i := (as_j h).trans (as_t (by decide))
theorem mps_38 {p i : Nat} : mps M p (38, 0, 0) i = M (38, 0, 0) i := as_t (by decide)
end Km5
