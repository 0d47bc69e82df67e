/-! A COMMAND TAKES TWO LETTERS AT LEAST -/
section Kad
variable {tx : List Int32}
theorem pm_cnt {lo hi : Nat} : ∀ k p acc, (pm tx lo hi k p acc).2.1 = p + (pm tx lo hi k p acc).2.2 := by
  intro k
  induction k with
  | zero => intro p acc; rfl
  | succ k ih =>
    intro p acc
    rw [pm_s]
    cases pd tx lo hi p with
    | none => rfl
    | some v =>
      have := ih (p + 1) (10 * acc + v)
      dsimp only
      omega
theorem p1_adv {k p : Nat} (hp : p ≤ tx.length) : (p_1 tx k p).1 ≤ tx.length ∧ ((p_1 tx k p).2 ≠ none → p + 1 ≤ (p_1 tx k p).1) := by
  have h1 := pm_in (tx := tx) (lo := 0) (hi := 9) 2 p 0 hp
  have h2 := pm_cnt (tx := tx) (lo := 0) (hi := 9) 2 p 0
  unfold p_1
  split
  · exact ⟨h1, fun q => absurd rfl q⟩
  · exact ⟨h1, fun _ => by dsimp only; omega⟩
theorem p2_adv {k p : Nat} (hp : p ≤ tx.length) : (p_2 tx k p).1 ≤ tx.length ∧ ((p_2 tx k p).2 ≠ none → p + 1 ≤ (p_2 tx k p).1) := by
  have h1 := pm_in (tx := tx) (lo := 0) (hi := 9) 1 p 0 hp
  have h2 := pm_cnt (tx := tx) (lo := 0) (hi := 9) 1 p 0
  unfold p_2
  split
  · exact ⟨h1, fun q => absurd rfl q⟩
  · unfold p_2a
    split
    · rename_i hc
      have hlt := cn_lt hc
      have h3 := pm_in (tx := tx) (lo := 0) (hi := 9) 1 ((pm tx 0 9 1 p 0).2.1 + 1) 0 (by omega)
      have h4 := pm_cnt (tx := tx) (lo := 0) (hi := 9) 1 ((pm tx 0 9 1 p 0).2.1 + 1) 0
      unfold p_2b
      split
      · exact ⟨h3, fun q => absurd rfl q⟩
      · exact ⟨h3, fun _ => by dsimp only; omega⟩
    · exact ⟨h1, fun q => absurd rfl q⟩
theorem p3_adv {p : Nat} (hp : p ≤ tx.length) : (p_3 tx p).1 ≤ tx.length ∧ ((p_3 tx p).2 ≠ none → p + 1 ≤ (p_3 tx p).1) := by
  have h1 := pm_in (tx := tx) (lo := 0) (hi := 9) 1 p 0 hp
  have h2 := pm_cnt (tx := tx) (lo := 0) (hi := 9) 1 p 0
  unfold p_3
  split
  · exact ⟨h1, fun q => absurd rfl q⟩
  · unfold p_3a
    split
    · rename_i hc
      have hlt := cn_lt hc
      generalize (pm tx 0 9 1 p 0).2.1 = q at *
      have h3 := pm_in (tx := tx) (lo := 0) (hi := 9) 2 (q + 1) 0 (by omega)
      have h4 := pm_cnt (tx := tx) (lo := 0) (hi := 9) 2 (q + 1) 0
      unfold p_3b
      split
      · exact ⟨h3, fun q => absurd rfl q⟩
      · unfold p_3c
        split
        · rename_i hc2
          have hlt2 := cn_lt hc2
          generalize (pm tx 0 9 2 (q + 1) 0).2.1 = s at *
          have h5 := pm_in (tx := tx) (lo := 0) (hi := 9) 2 (s + 1) 0 (by omega)
          have h6 := pm_cnt (tx := tx) (lo := 0) (hi := 9) 2 (s + 1) 0
          unfold p_3d
          split
          · exact ⟨h5, fun q => absurd rfl q⟩
          · exact ⟨h5, fun _ => by dsimp only; omega⟩
        · exact ⟨h3, fun q => absurd rfl q⟩
    · exact ⟨h1, fun q => absurd rfl q⟩
theorem p4_adv {p : Nat} (hp : p ≤ tx.length) : (p_4 tx p).1 ≤ tx.length ∧ ((p_4 tx p).2 ≠ none → p + 1 ≤ (p_4 tx p).1) := by
  have h1 := pm_in (tx := tx) (lo := 0) (hi := 9) 1 p 0 hp
  have h2 := pm_cnt (tx := tx) (lo := 0) (hi := 9) 1 p 0
  unfold p_4
  split
  · exact ⟨h1, fun q => absurd rfl q⟩
  · unfold p_4a
    split
    · rename_i hc
      have hlt := cn_lt hc
      generalize (pm tx 0 9 1 p 0).2.1 = q at *
      have h3 := pm_in (tx := tx) (lo := 0) (hi := 9) 1 (q + 1) 0 (by omega)
      have h4 := pm_cnt (tx := tx) (lo := 0) (hi := 9) 1 (q + 1) 0
      unfold p_4b
      split
      · exact ⟨h3, fun q => absurd rfl q⟩
      · unfold p_4c
        split
        · rename_i hc2
          have hlt2 := cn_lt hc2
          generalize (pm tx 0 9 1 (q + 1) 0).2.1 = s at *
          have h5 := pm_in (tx := tx) (lo := 1) (hi := 8) 8 (s + 1) 0 (by omega)
          have h6 := pm_cnt (tx := tx) (lo := 1) (hi := 8) 8 (s + 1) 0
          unfold p_4d
          split
          · exact ⟨h5, fun q => absurd rfl q⟩
          · exact ⟨h5, fun _ => by dsimp only; omega⟩
        · exact ⟨h3, fun q => absurd rfl q⟩
    · exact ⟨h1, fun q => absurd rfl q⟩
theorem pcmd_adv {p : Nat} (hp : p ≤ tx.length) : (pcmd tx p).1 ≤ tx.length ∧ ((pcmd tx p).2 ≠ none → p + 2 ≤ (pcmd tx p).1) := by
  unfold pcmd
  cases hc : cn tx p with
  | none => exact ⟨hp, fun q => absurd rfl q⟩
  | some n =>
    have hlt := cn_lt hc
    dsimp only
    split
    · exact p1_adv (by omega)
    split
    · exact p2_adv (by omega)
    split
    · exact p1_adv (by omega)
    split
    · exact p3_adv (by omega)
    split
    · exact p4_adv (by omega)
    split
    · exact p2_adv (by omega)
    · exact ⟨hp, fun q => absurd rfl q⟩
/-- the list of commands that follows a command read: the place, and the commands if all is well -/
abbrev Cm := Nat × Nat × Nat × Nat
def plst (tx : List Int32) : Nat → Pc → List Cm → Nat × Option (List Cm)
  | 0, c, _ => (c.1, none)
  | f + 1, c, l => match c.2 with
    | none => (c.1, none)
    | some v => if c.1 < tx.length then (if cn tx c.1 = some 59 then plst tx f (pcmd tx (c.1 + 1)) (l ++ [v]) else (c.1, none)) else (c.1, some (l ++ [v]))
end Kad
