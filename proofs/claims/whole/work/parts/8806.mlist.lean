/-! THE REFERENCE READS A TEXT: THE FIRST PASS -/
section Kml2
variable {d : Nat} {M M' : am_M} {w : am_W4} {tx : List Int32}
/-- only the place, the letter and the numbers differ -/
def sF (M M' : am_M) : Prop := ∀ (l' : am_L) (j : Nat), l' ≠ (38, 0, 0) → ¬ (l' = (30, 0, 0) ∧ (j = 11 ∨ j = 12)) → M' l' j = M l' j
theorem sF.rf (M : am_M) : sF M M := fun _ _ _ _ => rfl
theorem sF.tr {M M' M'' : am_M} (h : sF M M') (h' : sF M' M'') : sF M M'' := fun l j h1 h2 => (h' l j h1 h2).trans (h l j h1 h2)
theorem sF.mtx (h : sF M M') (hc : mtx tx M) : mtx tx M' := ⟨(h _ _ (pl_t (by decide)) (fun q => by omega)).trans hc.1, fun i c hi => (h _ _ (pl_t (by decide)) (fun q => pl_t (by decide) q.1)).trans (hc.2 i c hi)⟩
theorem sF.ps {p : Nat} (h : sF M M') : sF M (mps M' p) := fun l j h1 h2 => (as_ne (fun q => h2 ⟨q.1, Or.inl q.2⟩)).trans (h l j h1 h2)
/-- where the first pass ends: all well or not, at the place -/
theorem l183z {p : Nat} : am_rn (am_ev d) 183 14 [some (am_P (30, 0, 0)), some (am_I (nI 0)), none, none] [] M (am_Z w) = am_rn (am_ev d) 183 54 [some (am_P (30, 0, 0)), some (am_I (nI 0)), none, none] [] M (am_Z w) := by
  rw [b183_14, if_pos (show nI 0 = 0 from rfl)]
theorem l183 (ht : txk tx) : ∀ f c (l : List Cm) (M : am_M), f + l.length = 22 → mtx tx M → M (30, 0, 0) 11 = nI c.1 → c.1 ≤ tx.length → (∀ v, c.2 = some v → 3 * l.length + 2 ≤ c.1) → ∃ M', am_rn (am_ev (d + 4)) 183 14 [some (am_P (30, 0, 0)), some (am_I (nI c.2.isSome.toNat)), none, none] [] M (am_Z w) = am_rn (am_ev (d + 4)) 183 54 [some (am_P (30, 0, 0)), some (am_I (nI (plst tx f c l).2.isSome.toNat)), none, none] [] M' (am_Z w) ∧ sF M M' ∧ M' (30, 0, 0) 11 = nI (plst tx f c l).1 := by
  have hl60 := ht.1
  intro f
  induction f with
  | zero =>
    intro c l M hf hx h4 h5 h6
    obtain ⟨p, o⟩ := c
    cases o with
    | none =>
      refine ⟨M, ?_, sF.rf M, h4⟩
      rw [show nI (Option.isSome (none : Option Cm)).toNat = nI 0 from rfl, l183z (p := 0)]
      rfl
    | some v =>
      have := h6 v rfl
      dsimp only at this h5
      omega
  | succ f ih =>
    intro c l M hf hx h4 hc hv
    obtain ⟨p, o⟩ := c
    cases o with
    | none =>
      refine ⟨M, ?_, sF.rf M, h4⟩
      rw [show nI (Option.isSome (none : Option Cm)).toNat = nI 0 from rfl, l183z (p := 0)]
      rfl
    | some v =>
      have g3 := hv v rfl
      dsimp only at h4 hc g3
      show ∃ M', _ = am_rn (am_ev (d + 4)) 183 54 [some (am_P (30, 0, 0)), some (am_I (nI (if p < tx.length then (if cn tx p = some 59 then plst tx f (pcmd tx (p + 1)) (l ++ [v]) else (p, none)) else (p, some (l ++ [v]))).2.isSome.toNat)), none, none] [] M' (am_Z w) ∧ sF M M' ∧ M' (30, 0, 0) 11 = nI (if p < tx.length then (if cn tx p = some 59 then plst tx f (pcmd tx (p + 1)) (l ++ [v]) else (p, none)) else (p, some (l ++ [v]))).1
      rw [show nI (Option.isSome (some v)).toNat = nI 1 from rfl, b183_14, if_neg (show ¬ nI 1 = 0 from nI_ne0 (by decide) (by decide)), h4, hx.1]
      by_cases hlt : p < tx.length
      · rw [if_pos (nI_lt hlt (by omega)), if_pos hlt, k177 (by decide) ht hx h4 hc]
        by_cases h59 : cn tx p = some 59
        · rw [if_pos h59, if_pos h59]
          simp only [am_cb_i, am_cb_e, Option.toList_some, Option.toList_none, List.cons_append, List.nil_append, b183_35]
          have hp1 : p + 1 ≤ tx.length := hlt
          have ad := pcmd_adv (tx := tx) hp1
          have hlen : (l ++ [v]).length = l.length + 1 := by rw [List.length_append]; rfl
          obtain ⟨M1, e1, e2, e3, e4⟩ := k181 (d := d) (w := w) (M := mps M (p + 1)) ht hx.mps mps_11 hp1
          have F1 : sF M M1 := ((sF.rf M).ps (p := p + 1)).tr e4
          have e6 : (if nI 1 = 0 then am_rn (am_ev (d + 4)) 183 49 [some (am_P (30, 0, 0)), some (am_I (nI 1)), none, none] [] (mps M (p + 1)) (am_Z w) else am_cb (am_ev (d + 4) 181 [am_P (30, 0, 0)] (mps M (p + 1)) (am_Z w)) (fun v M' X' => am_rn (am_ev (d + 4)) 183 42 [some (am_P (30, 0, 0)), some (am_I (nI 1)), none, none] (v.toList ++ []) M' X')) = am_rn (am_ev (d + 4)) 183 14 [some (am_P (30, 0, 0)), some (am_I (nI (pcmd tx (p + 1)).2.isSome.toNat)), none, none] [] M1 (am_Z w) := by
            rw [if_neg (show ¬ nI 1 = 0 from nI_ne0 (by decide) (by decide)), e1]
            simp only [am_cb_i, am_cb_e, Option.toList_some, Option.toList_none, List.cons_append, List.nil_append, b183_42]
            cases (pcmd tx (p + 1)).2.isSome with
            | false => rw [if_pos (show nI false.toNat = 0 from rfl), b183_49, b183_50]; rfl
            | true => rw [if_neg (show ¬ nI true.toNat = 0 from nI_ne0 (n := 1) (by decide) (by decide)), b183_50]; rfl
          rw [e6]
          obtain ⟨M2, u1, u2, u3⟩ := ih (pcmd tx (p + 1)) (l ++ [v]) M1 (by rw [hlen]; omega) (F1.mtx hx) e2 ad.1 (fun u hu => by
            have := ad.2 (by rw [hu]; simp)
            rw [hlen]; omega)
          exact ⟨M2, u1, F1.tr u2, u3⟩
        · rw [if_neg h59, if_neg h59]
          simp only [am_cb_i, am_cb_e, Option.toList_some, Option.toList_none, List.cons_append, List.nil_append, b183_35]
          rw [if_pos (show nI 0 = 0 from rfl), b183_49, b183_50, l183z (p := 0)]
          exact ⟨M, rfl, sF.rf M, h4⟩
      · rw [if_neg (nI_nlt (by omega) (by omega)), if_neg hlt]
        exact ⟨M, rfl, sF.rf M, h4⟩
end Kml2
