/-! THE CLASS READS A TEXT -/
section Kls
variable {d : Nat} {M M' : am_M} {w : am_W4} {tx : List Int32}
def recs (l : List Cm) (M : am_M) : Prop := ∀ i k x y z, l[i]? = some (k, x, y, z) → M (11, 0, i) 0 = nI k ∧ M (11, 0, i) 1 = nI x ∧ M (11, 0, i) 2 = nI y ∧ M (11, 0, i) 3 = nI z
def tF (M M' : am_M) : Prop := ∀ (l' : am_L) (j : Nat), l'.1 ≠ 11 → ¬ (l' = (8, 0, 0) ∧ (j = 3 ∨ j = 4)) → M' l' j = M l' j
theorem tF.rf (M : am_M) : tF M M := fun _ _ _ _ => rfl
theorem tF.tr {M M' M'' : am_M} (h : tF M M') (h' : tF M' M'') : tF M M'' := fun l j h1 h2 => (h' l j h1 h2).trans (h l j h1 h2)
theorem tF.ctx (h : tF M M') (hc : ctx tx M) : ctx tx M' := ⟨(h _ _ (by show (8 : Nat) ≠ 11; decide) (fun q => by omega)).trans hc.1, fun i c hi => (h _ _ (by show (9 : Nat) ≠ 11; decide) (fun q => pl_t (by decide) q.1)).trans (hc.2 i c hi)⟩
theorem tF.cps {p : Nat} (h : tF M M') : tF M (cps M' p) := fun l j h1 h2 => (as_ne (fun q => h2 ⟨q.1, Or.inr q.2⟩)).trans (h l j h1 h2)
/-- what reading the list gives -/
def lsO (tx : List Int32) (M : am_M) (w : am_W4) (r : Option am_R) (o : Nat × Option (List Cm)) : Prop := ∃ M', r = some (.inl (some (am_I (match o.2 with | some _ => -1 | none => nI o.1))), M', am_Z w) ∧ tF M M' ∧ ∀ ls, o.2 = some ls → M' (8, 0, 0) 3 = nI ls.length ∧ ls.length ≤ 20 ∧ recs ls M'
theorem l4z {j : Int32} {p : Nat} (h4 : M (8, 0, 0) 4 = nI p) : am_rn (am_ev d) 4 17 [some (am_P (8, 0, 0)), some (am_I (nI 0)), some (am_I j)] [] M (am_Z w) = some (.inl (some (am_I (nI p))), M, am_Z w) := by
  rw [b4_17, if_pos (show nI 0 = 0 from rfl), b4_66, if_pos (show nI 0 = 0 from rfl), h4]
theorem l4 (ht : txk tx) : ∀ f c (l : List Cm) (M : am_M), f + l.length = 22 → ctx tx M → M (8, 0, 0) 4 = nI c.1 → c.1 ≤ tx.length → (∀ v, c.2 = some v → M (8, 0, 0) 3 = nI (l.length + 1) ∧ recs (l ++ [v]) M ∧ 3 * l.length + 2 ≤ c.1) → lsO tx M w (am_rn (am_ev (d + 5)) 4 17 [some (am_P (8, 0, 0)), some (am_I (nI c.2.isSome.toNat)), some (am_I (nI l.length))] [] M (am_Z w)) (plst tx f c l) := by
  have hl60 := ht.1
  intro f
  induction f with
  | zero =>
    intro c l M hf hx h4 h5 h6
    obtain ⟨p, o⟩ := c
    cases o with
    | none =>
      refine ⟨M, ?_, tF.rf M, fun ls q => absurd q (by simp [plst])⟩
      rw [show nI (Option.isSome (none : Option Cm)).toNat = nI 0 from rfl, l4z h4]
      rfl
    | some v =>
      have := (h6 v rfl).2.2
      dsimp only at this h5
      omega
  | succ f ih =>
    intro c l M hf hx h4 hc hv
    obtain ⟨p, o⟩ := c
    cases o with
    | none =>
      refine ⟨M, ?_, tF.rf M, fun ls q => absurd q (by simp [plst])⟩
      rw [show nI (Option.isSome (none : Option Cm)).toNat = nI 0 from rfl, l4z h4]
      rfl
    | some v =>
      obtain ⟨g1, g2, g3⟩ := hv v rfl
      dsimp only at h4 hc g3
      show lsO tx M w _ (if p < tx.length then (if cn tx p = some 59 then plst tx f (pcmd tx (p + 1)) (l ++ [v]) else (p, none)) else (p, some (l ++ [v])))
      rw [show nI (Option.isSome (some v)).toNat = nI 1 from rfl, b4_17, if_neg (show ¬ nI 1 = 0 from nI_ne0 (by decide) (by decide)), h4, hx.1]
      by_cases hlt : p < tx.length
      · rw [if_pos (nI_lt hlt (by omega)), if_pos (nI_lt (by omega) (by omega)), if_pos hlt, k11p (by decide) ht hx h4 (by omega)]
        simp only [am_cb_i, am_cb_e, Option.toList_some, Option.toList_none, List.cons_append, List.nil_append, b4_44]
        by_cases h59 : cn tx p = some 59
        · rw [if_neg (dT h59), if_pos h59, if_pos h59]
          have hp1 : p + 1 ≤ tx.length := hlt
          have ad := pcmd_adv (tx := tx) hp1
          have hlen : (l ++ [v]).length = l.length + 1 := by rw [List.length_append]; rfl
          by_cases h20 : l.length + 1 < 20
          · obtain ⟨M1, e1, e2, e3, e4, e5⟩ := k5 (d := d) (w := w) (M := cps M (p + 1)) h20 ht hx.cps ((as_j (by decide)).trans g1) cps_4 (by omega)
            have F1 : tF M M1 := (tF.rf M).cps.tr (fun l' j q1 q2 => e5 l' j (fun q => q1 (by rw [q])) q2)
            have ihh := ih (pcmd tx (p + 1)) (l ++ [v]) M1 (by rw [hlen]; omega) (F1.ctx hx) e2 ad.1 (fun u hu => by
              have := ad.2 (by rw [hu]; simp)
              refine ⟨by rw [hlen]; exact e3, fun i k x y z hi => ?_, by rw [hlen]; omega⟩
              rcases Nat.lt_or_ge i (l ++ [v]).length with hi1 | hi1
              · rw [List.getElem?_append_left hi1] at hi
                have q := g2 i k x y z hi
                have fr : ∀ j, M1 (11, 0, i) j = M (11, 0, i) j := fun j => (e5 _ j (pl_k (by omega)) (fun q => pl_t (by decide) q.1)).trans (as_t (by decide))
                rw [fr, fr, fr, fr]
                exact q
              · rw [List.getElem?_append_right hi1] at hi
                have hi2 : i - (l ++ [v]).length = 0 := by
                  rcases Nat.eq_zero_or_pos (i - (l ++ [v]).length) with z | z
                  · exact z
                  · rw [List.getElem?_eq_none (by rw [List.length_singleton]; omega)] at hi
                    exact absurd hi (by simp)
                rw [hi2] at hi
                have hu2 : u = (k, x, y, z) := Option.some.inj hi
                rw [show i = l.length + 1 by omega]
                exact e4 k x y z (by rw [hu, hu2]))
            have e6 : am_cb (am_ev (d + 5) 5 [am_P (8, 0, 0)] (cps M (p + 1)) (am_Z w)) (fun v M' X' => am_rn (am_ev (d + 5)) 4 51 [some (am_P (8, 0, 0)), some (am_I (nI 1)), some (am_I (nI l.length))] (v.toList ++ []) M' X') = am_rn (am_ev (d + 5)) 4 17 [some (am_P (8, 0, 0)), some (am_I (nI (pcmd tx (p + 1)).2.isSome.toNat)), some (am_I (nI (l.length + 1)))] [] M1 (am_Z w) := by
              rw [e1]
              simp only [am_cb_i, am_cb_e, Option.toList_some, Option.toList_none, List.cons_append, List.nil_append, b4_51]
              cases (pcmd tx (p + 1)).2.isSome with
              | false => rw [if_pos (show nI false.toNat = 0 from rfl), b4_58, b4_59, nI_add]; rfl
              | true => rw [if_neg (show ¬ nI true.toNat = 0 from nI_ne0 (n := 1) (by decide) (by decide)), b4_59, nI_add]; rfl
            rw [e6]
            rw [hlen] at ihh
            obtain ⟨M2, u1, u2, u3⟩ := ihh
            exact ⟨M2, u1, F1.tr u2, u3⟩
          · have hp60 : p = 59 ∧ tx.length = 60 ∧ l.length = 19 := by omega
            obtain ⟨rfl, ht60, hl19⟩ := hp60
            have f2 : f = 2 := by omega
            subst f2
            have hp0 : pcmd tx (59 + 1) = (60, none) := by
              unfold pcmd
              rw [cn_out (by omega)]
            rw [e5, show cps M (59 + 1) (8, 0, 0) 3 = nI 20 from ((as_j (by decide)).trans g1).trans (by rw [hl19]), if_neg (nI_nlt (by omega) (by omega)), hp0]
            simp only [am_cb_i, am_cb_e, Option.toList_some, Option.toList_none, List.cons_append, List.nil_append, b4_51]
            rw [if_pos (show nI 0 = 0 from rfl), b4_58, b4_59, l4z cps_4]
            exact ⟨_, rfl, (tF.rf M).cps, fun ls q => absurd q (by simp [plst])⟩
        · rw [if_pos (dF h59), if_neg h59, if_neg h59, b4_58, b4_59, cps_self h4, l4z h4]
          exact ⟨M, rfl, tF.rf M, fun ls q => absurd q (by simp)⟩
      · rw [if_neg (nI_nlt (by omega) (by omega)), if_neg hlt, b4_66, if_neg (show ¬ nI 1 = 0 from nI_ne0 (by decide) (by decide))]
        refine ⟨M, rfl, tF.rf M, fun ls q => ?_⟩
        have : l ++ [v] = ls := Option.some.inj q
        subst this
        exact ⟨by rw [g1, List.length_append]; rfl, by rw [List.length_append]; show l.length + 1 ≤ 20; omega, g2⟩
/-- the whole text read -/
def ptx (tx : List Int32) : Nat × Option (List Cm) := plst tx 22 (pcmd tx 0) []
theorem k4 (ht : txk tx) (h : ctx tx M) : lsO tx M w (am_ev (d + 6) 4 [am_P (8, 0, 0)] M (am_Z w)) (ptx tx) := by
  have c1 : ctx tx (am_set (am_set M (8, 0, 0) 4 (nI 0)) (8, 0, 0) 3 (nI 0)) := ⟨((as_j (by decide)).trans (as_j (by decide))).trans h.1, fun i c hc => ((as_t (by decide)).trans (as_t (by decide))).trans (h.2 i c hc)⟩
  obtain ⟨M1, e1, e2, e3, e4', e5'⟩ := k5 (d := d) (w := w) (M := am_set (am_set M (8, 0, 0) 4 (nI 0)) (8, 0, 0) 3 (nI 0)) (i := 0) (p := 0) (by decide) ht c1 (as_eq _ _ _ _) ((as_j (by decide)).trans (as_eq _ _ _ _)) (by decide)
  have F1 : tF M M1 := fun l' j q1 q2 => ((e5' l' j (fun q => q1 (by rw [q])) q2).trans (as_ne (fun q => q2 ⟨q.1, Or.inl q.2⟩))).trans (as_ne (fun q => q2 ⟨q.1, Or.inr q.2⟩))
  have ad := pcmd_adv (tx := tx) (Nat.zero_le _)
  rw [e4, e1]
  simp only [am_cb_i, am_cb_e, Option.toList_some, Option.toList_none, List.cons_append, List.nil_append, b4_14]
  obtain ⟨M2, u1, u2, u3⟩ := l4 (d := d) (w := w) ht 22 (pcmd tx 0) [] M1 rfl (F1.ctx h) e2 ad.1 (fun u hu => by
    have := ad.2 (by rw [hu]; simp)
    refine ⟨e3, fun i k x y z hi => ?_, by show 3 * 0 + 2 ≤ _; omega⟩
    cases i with
    | zero =>
      have hu2 : u = (k, x, y, z) := Option.some.inj hi
      exact e4' k x y z (by rw [hu, hu2])
    | succ i => exact absurd hi (by simp))
  exact ⟨M2, u1, F1.tr u2, u3⟩
end Kls
