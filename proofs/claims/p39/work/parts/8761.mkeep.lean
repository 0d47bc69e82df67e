/-! THE REFERENCE KEEPS A ROW; A COMMAND'S END -/
/-- a row more is kept, eight at most -/
def hpush (hs : List (Nat → Nat)) (b : Nat → Nat) : List (Nat → Nat) := (if hs.length = 8 then hs.drop 1 else hs) ++ [b]
theorem hpush_len {hs : List (Nat → Nat)} {b : Nat → Nat} (h : hs.length ≤ 8) : (hpush hs b).length = (if hs.length = 8 then 7 else hs.length) + 1 := by
  unfold hpush
  rw [List.length_append]
  split
  · rw [List.length_drop]; simp; omega
  · rfl
section Kke
variable {d B : Nat} {M M' : am_M} {a b : Nat → Nat} {w : am_W4} {hs : List (Nat → Nat)} {sv : Option (Nat → Nat)} {tx ln : List Int32} {R : Int32 × Int32 × Int32} {e : Int32}
def sh1 (M : am_M) (i : Nat) : am_M := fun l j => if l = (34, 0, 0) ∧ j < i then M (34, 0, 0) (364 + j) else M l j
def ct1 (M : am_M) (o i : Nat) : am_M := fun l j => if l = (34, 0, 0) ∧ o ≤ j ∧ j < o + i then M (32, 0, 0) (j - o) else M l j
theorem sh1_0 : sh1 M 0 = M := by funext l j; exact if_neg (fun q => by omega)
theorem ct1_0 {o : Nat} : ct1 M o 0 = M := by funext l j; exact if_neg (fun q => by omega)
theorem sh1_s {i : Nat} : am_set (sh1 M i) (34, 0, 0) i (sh1 M i (34, 0, 0) (364 + i)) = sh1 M (i + 1) := by
  funext l j
  unfold am_set sh1
  rw [if_neg (fun q : ((34, 0, 0) : am_L) = (34, 0, 0) ∧ 364 + i < i => by omega)]
  by_cases h : l = (34, 0, 0)
  · subst h
    by_cases hj : j = i
    · subst hj; rw [if_pos ⟨rfl, rfl⟩, if_pos ⟨rfl, by omega⟩]
    · rw [if_neg (fun q => hj q.2)]
      by_cases hi : j < i
      · rw [if_pos ⟨rfl, hi⟩, if_pos ⟨rfl, by omega⟩]
      · rw [if_neg (fun q => hi q.2), if_neg (fun q => hi (by have := q.2; omega))]
  · rw [if_neg (fun q => h q.1), if_neg (fun q => h q.1), if_neg (fun q => h q.1)]
theorem ct1_s {o i : Nat} : am_set (ct1 M o i) (34, 0, 0) (o + i) (ct1 M o i (32, 0, 0) i) = ct1 M o (i + 1) := by
  funext l j
  unfold am_set ct1
  rw [if_neg (fun q : ((32, 0, 0) : am_L) = (34, 0, 0) ∧ o ≤ i ∧ i < o + i => pl_t (by decide) q.1)]
  by_cases h : l = (34, 0, 0)
  · subst h
    by_cases hj : j = o + i
    · subst hj; rw [if_pos ⟨rfl, rfl⟩, if_pos ⟨rfl, by omega, by omega⟩, Nat.add_sub_cancel_left]
    · rw [if_neg (fun q => hj q.2)]
      by_cases hi : o ≤ j ∧ j < o + i
      · rw [if_pos ⟨rfl, hi⟩, if_pos ⟨rfl, hi.1, by omega⟩]
      · rw [if_neg (fun q => hi q.2), if_neg (fun q => hi (by have := q.2; omega))]
  · rw [if_neg (fun q => h q.1), if_neg (fun q => h q.1), if_neg (fun q => h q.1)]
/-- what a command of its own makes of the state -/
def mlO (a : Nat → Nat) (hs : List (Nat → Nat)) (sv : Option (Nat → Nat)) (tx : List Int32) (R : Int32 × Int32 × Int32) (e : Int32) (ln : List Int32) (M : am_M) (w : am_W4) (r : Option am_R) : Out → Prop
  | .inl (v, a') => ∃ M', r = some (.inl (some (am_I (nI v))), M', am_Z w) ∧ mlS a' (hpush hs a) sv tx R e ln M' ∧ M' (30, 0, 0) 20 = nI 0 ∧ mF M M'
  | .inr (q, x) => ∃ M', r = some (.inl (some (am_I (nI 0))), M', am_Z w) ∧ mlS a hs sv tx (nI q, x, nI 0) e ln M' ∧ M' (30, 0, 0) 20 = nI 1 ∧ mF M M'
/-- a refusal -/
theorem mlS.rf {q : Nat} {x : Int32} (h : mlS a hs sv tx R e ln M) : mlS a hs sv tx (nI q, x, M (30, 0, 0) 15) e ln (am_rf M q x) := by
  obtain ⟨h1, ⟨h2, h3, h4⟩, h5, h6, h7, h8, h9⟩ := h
  unfold am_rf
  have ft : ∀ j, j ≠ 16 → j ≠ 17 → j ≠ 18 → am_set (am_set (am_set M (30, 0, 0) 16 (nI q)) (30, 0, 0) 17 x) (30, 0, 0) 18 (M (30, 0, 0) 15) (30, 0, 0) j = M (30, 0, 0) j := fun j q1 q2 q3 => by rw [as_j q3, as_j q2, as_j q1]
  have fl : ∀ (l : am_L) j, l ≠ (30, 0, 0) → am_set (am_set (am_set M (30, 0, 0) 16 (nI q)) (30, 0, 0) 17 x) (30, 0, 0) 18 (M (30, 0, 0) 15) l j = M l j := fun l j q1 => by rw [as_ne (fun q => q1 q.1), as_ne (fun q => q1 q.1), as_ne (fun q => q1 q.1)]
  refine ⟨fun j => by rw [fl _ _ (pl_t (by decide))]; exact h1 j, ⟨by rw [ft _ (by decide) (by decide) (by decide)]; exact h2, h3, fun i h hi j hj => by rw [fl _ _ (pl_t (by decide))]; exact h4 i h hi j hj⟩, ⟨by rw [ft _ (by decide) (by decide) (by decide)]; exact h5.1, fun c hc j hj => by rw [fl _ _ (pl_t (by decide))]; exact h5.2 c hc j hj⟩, ⟨by rw [ft _ (by decide) (by decide) (by decide)]; exact h6.1, fun i c hc => by rw [fl _ _ (pl_t (by decide))]; exact h6.2 i c hc⟩, ⟨by rw [as_j (by decide), as_j (by decide), as_eq], by rw [as_j (by decide), as_eq], as_eq _ _ _ _⟩, by rw [ft _ (by decide) (by decide) (by decide)]; exact h8, ⟨by rw [ft _ (by decide) (by decide) (by decide)]; exact h9.1, fun i c hc => by rw [fl _ _ (pl_t (by decide))]; exact h9.2 i c hc⟩⟩
theorem mF.rfu {q : Nat} {x : Int32} (h : mF M M') : mF M (am_rf M' q x) := ((h.set (by decide)).set (by decide)).set (by decide)
theorem mF.pA (h : mF M M') : mF M (am_pA M' b) := fun l j hl => by
  rw [am_pA_ne (fun q => by subst q; dsimp only at hl; omega)]
  exact h l j hl
theorem mlS.pA (h : mlS a hs sv tx R e ln M) : mlS b hs sv tx R e ln (am_pA M b) := h.fr (fun j => am_pA_now _ _ j) (fun l j hr => am_pA_ne hr.ne.1)
end Kke
