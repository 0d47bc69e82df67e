/-! THE REFERENCE READS A TEXT: THE FIRST PASS -/
section Kml2
variable {d : Nat} {M M' : am_M} {w : am_W4} {tx : List Int32}
/-- only the place, the letter and the numbers differ -/
def sF (M M' : am_M) : Prop := ∀ (l' : am_L) (j : Nat), l' ≠ (38, 0, 0) → ¬ (l' = (30, 0, 0) ∧ (j = 11 ∨ j = 12)) → M' l' j = M l' j
theorem sF.rf (M : am_M) : sF M M := fun _ _ _ _ => rfl
theorem sF.tr {M M' M'' : am_M} (h : sF M M') (h' : sF M' M'') : sF M M'' := fun l j h1 h2 => (h' l j h1 h2).trans (h l j h1 h2)
theorem sF.mtx (h : sF M M') (hc : mtx tx M) : mtx tx M' := ⟨(h _ _ (pl_t (by decide)) (fun q => by omega)).trans hc.1, fun i c hi => (h _ _ (pl_t (by decide)) (fun q => pl_t (by decide) q.1)).trans (hc.2 i c hi)⟩
theorem sF.ps {p : Nat} (h : sF M M') : sF M (mps M' p) := fun l j h1 h2 => (as_ne (fun q => h2 ⟨q.1, Or.inl q.2⟩)).trans (h l j h1 h2)
end Kml2
