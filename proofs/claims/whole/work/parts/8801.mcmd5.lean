/-! ONE COMMAND OF A TEXT: THE REFERENCE READS IT -/
section Km5
variable {d : Nat} {M M' M0 : am_M} {w : am_W4} {tx : List Int32}
theorem ifp {c : Nat} : am_pc 1 (if 0 < c then nI 1 else nI 0) = true := by split <;> rfl
theorem k179 {s p : Nat} (hs : s < 3) (ht : txk tx) (h : mtx tx M) (h4 : M (30, 0, 0) 11 = nI p) (hp : p ≤ tx.length) : am_ev (d + 3) 179 [am_P (30, 0, 0), am_I (nI s)] M (am_Z w) = some (.inl (some (am_I (if 0 < (pm tx 0 9 1 p 0).2.2 then nI 1 else nI 0))), mpn M (pm tx 0 9 1 p 0).2.1 s (pm tx 0 9 1 p 0).1, am_Z w) := by
  rw [e179, show nI 48 = nI (48 + 0) from rfl, show nI 57 = nI (48 + 9) from rfl, k178 hs (by decide) (by decide) (by decide) ht h h4 hp]
  simp only [am_cb_i, am_cb_e, Option.toList_some, Option.toList_none, List.cons_append, List.nil_append, b179_10]
  rw [if_pos ifp]
theorem k180 {s p : Nat} (hs : s < 3) (ht : txk tx) (h : mtx tx M) (h4 : M (30, 0, 0) 11 = nI p) (hp : p ≤ tx.length) : am_ev (d + 3) 180 [am_P (30, 0, 0), am_I (nI s)] M (am_Z w) = some (.inl (some (am_I (if 0 < (pm tx 0 9 2 p 0).2.2 then nI 1 else nI 0))), mpn M (pm tx 0 9 2 p 0).2.1 s (pm tx 0 9 2 p 0).1, am_Z w) := by
  rw [e180, show nI 48 = nI (48 + 0) from rfl, show nI 57 = nI (48 + 9) from rfl, k178 hs (by decide) (by decide) (by decide) ht h h4 hp]
  simp only [am_cb_i, am_cb_e, Option.toList_some, Option.toList_none, List.cons_append, List.nil_append, b180_10]
  rw [if_pos ifp]
theorem pm_in {lo hi : Nat} : ∀ k p acc, p ≤ tx.length → (pm tx lo hi k p acc).2.1 ≤ tx.length := by
  intro k
  induction k with
  | zero => intro p acc h; exact h
  | succ k ih =>
    intro p acc h
    rw [pm_s]
    cases hv : pd tx lo hi p with
    | none => exact h
    | some v =>
      have := cn_lt (pd_lt hv).2.2
      exact ih (p + 1) _ (by omega)
/-- a command read by the reference: the place, the numbers; only they change -/
def mpO (M : am_M) (w : am_W4) (r : Option am_R) (c : Pc) : Prop := ∃ M', r = some (.inl (some (am_I (nI c.2.isSome.toNat))), M', am_Z w) ∧ M' (30, 0, 0) 11 = nI c.1 ∧ (∀ k x y z, c.2 = some (k, x, y, z) → M' (38, 0, 0) 0 = nI x ∧ (k ≠ 6 → k ≠ 7 → M' (38, 0, 0) 1 = nI y) ∧ (k = 2 ∨ k = 5 → M' (38, 0, 0) 2 = nI z)) ∧ ∀ l' j, l' ≠ (38, 0, 0) → ¬ (l' = (30, 0, 0) ∧ j = 11) → M' l' j = M l' j
/-- memories that differ in the place and the numbers only -/
def mpE (M M' : am_M) : Prop := ∀ l' j, l' ≠ (38, 0, 0) → ¬ (l' = (30, 0, 0) ∧ j = 11) → M' l' j = M l' j
theorem mpE.rf (M : am_M) : mpE M M := fun _ _ _ _ => rfl
theorem mpE.ps {p : Nat} (h : mpE M M') : mpE M (mps M' p) := fun l' j h1 h2 => (as_ne h2).trans (h l' j h1 h2)
theorem mpE.pn {p s acc : Nat} (h : mpE M M') : mpE M (mpn M' p s acc) := fun l' j h1 h2 => ((as_ne (fun q => h1 q.1)).trans (as_ne h2)).trans (h l' j h1 h2)
theorem mpO.no {p : Nat} (h : mpE M M') (h4 : M' (30, 0, 0) 11 = nI p) : mpO M w (some (.inl (some (am_I (nI 0))), M', am_Z w)) (p, none) := ⟨M', rfl, h4, fun k x y z q => absurd q (by simp), h⟩
theorem mpn_o {p s acc i : Nat} (h : i ≠ s) : mpn M p s acc (38, 0, 0) i = M (38, 0, 0) i := (as_j h).trans (as_t (by decide))
theorem mps_38 {p i : Nat} : mps M p (38, 0, 0) i = M (38, 0, 0) i := as_t (by decide)
theorem m180 {p k : Nat} (hk : k = 6 ∨ k = 7) (ht : txk tx) (h : mtx tx M) (hE : mpE M0 M) (h4 : M (30, 0, 0) 11 = nI p) (hp : p < tx.length) : mpO M0 w (am_cb (am_ev (d + 3) 180 [am_P (30, 0, 0), am_I (nI 0)] (mps M (p + 1)) (am_Z w)) (fun v M' X' => am_rn (am_ev (d + 3)) 181 203 [some (am_P (30, 0, 0))] (v.toList ++ []) M' X')) (p_1 tx k (p + 1)) := by
  rw [k180 (by decide) ht h.mps mps_11 (by omega)]
  simp only [am_cb_i, am_cb_e, Option.toList_some, Option.toList_none, List.cons_append, List.nil_append, b181_203]
  rw [if_pos ifp]
  unfold p_1
  by_cases h0 : (pm tx 0 9 2 (p + 1) 0).2.2 = 0
  · rw [if_pos h0, h0, if_neg (Nat.lt_irrefl 0)]
    exact mpO.no hE.ps.pn mpn_11
  · rw [if_neg h0, if_pos (by omega)]
    refine ⟨_, rfl, mpn_11, fun k' x y z q => ?_, hE.ps.pn⟩
    have e1 := Option.some.inj q
    obtain ⟨rfl, e2⟩ := Prod.mk.inj e1
    obtain ⟨rfl, e3⟩ := Prod.mk.inj e2
    exact ⟨mpn_38, fun g1 g2 => by omega, fun g => by omega⟩
theorem m277 {p k : Nat} (ht : txk tx) (h : mtx tx M) (hE : mpE M0 M) (h4 : M (30, 0, 0) 11 = nI p) (hp : p < tx.length) (hk2 : k ≠ 2 ∧ k ≠ 5) : mpO M0 w (am_cb (am_ev (d + 3) 179 [am_P (30, 0, 0), am_I (nI 0)] (mps M (p + 1)) (am_Z w)) (fun v M' X' => am_rn (am_ev (d + 3)) 181 277 [some (am_P (30, 0, 0))] (v.toList ++ []) M' X')) (p_2 tx k (p + 1)) := by
  have hin := pm_in (tx := tx) (lo := 0) (hi := 9) 1 (p + 1) 0 (by omega)
  rw [k179 (by decide) ht h.mps mps_11 (by omega)]
  simp only [am_cb_i, am_cb_e, Option.toList_some, Option.toList_none, List.cons_append, List.nil_append, b181_277]
  unfold p_2
  by_cases h0 : (pm tx 0 9 1 (p + 1) 0).2.2 = 0
  · rw [if_pos h0, h0, if_neg (Nat.lt_irrefl 0), if_pos (show nI 0 = 0 from rfl)]
    exact mpO.no hE.ps.pn mpn_11
  rw [if_neg h0, if_pos (show 0 < (pm tx 0 9 1 (p + 1) 0).2.2 by omega), if_neg (show ¬ nI 1 = 0 from nI_ne0 (by decide) (by decide))]
  generalize (pm tx 0 9 1 (p + 1) 0).1 = x
  generalize (pm tx 0 9 1 (p + 1) 0).2.1 = q at hin ⊢
  have t1 : mtx tx (mpn (mps M (p + 1)) q 0 x) := h.mps.mpn
  have E1 : mpE M0 (mpn (mps M (p + 1)) q 0 x) := hE.ps.pn
  have q1 : mpn (mps M (p + 1)) q 0 x (30, 0, 0) 11 = nI q := mpn_11
  have x1 : mpn (mps M (p + 1)) q 0 x (38, 0, 0) 0 = nI x := mpn_38
  generalize mpn (mps M (p + 1)) q 0 x = M1 at t1 E1 q1 x1 ⊢
  rw [k177 (by decide) ht t1 q1 hin]
  unfold p_2a
  by_cases hc : cn tx q = some 61
  · have hlt := cn_lt hc
    rw [if_pos hc, if_pos hc]
    simp only [am_cb_i, am_cb_e, Option.toList_some, Option.toList_none, List.cons_append, List.nil_append, b181_286]
    rw [if_neg (show ¬ nI 1 = 0 from nI_ne0 (by decide) (by decide)), k179 (by decide) ht t1.mps mps_11 (by omega)]
    simp only [am_cb_i, am_cb_e, Option.toList_some, Option.toList_none, List.cons_append, List.nil_append, b181_294]
    unfold p_2b
    by_cases h02 : (pm tx 0 9 1 (q + 1) 0).2.2 = 0
    · rw [if_pos h02, h02, if_neg (Nat.lt_irrefl 0), if_pos (show nI 0 = 0 from rfl)]
      exact mpO.no E1.ps.pn mpn_11
    · rw [if_neg h02, if_pos (show 0 < (pm tx 0 9 1 (q + 1) 0).2.2 by omega), if_neg (show ¬ nI 1 = 0 from nI_ne0 (by decide) (by decide))]
      refine ⟨_, rfl, mpn_11, fun k' x' y z g => ?_, E1.ps.pn⟩
      have e1 := Option.some.inj g
      obtain ⟨rfl, e2⟩ := Prod.mk.inj e1
      obtain ⟨rfl, e3⟩ := Prod.mk.inj e2
      obtain ⟨rfl, rfl⟩ := Prod.mk.inj e3
      exact ⟨(mpn_o (by decide)).trans (mps_38.trans x1), fun _ _ => mpn_38, fun g => by omega⟩
  · rw [if_neg hc, if_neg hc]
    simp only [am_cb_i, am_cb_e, Option.toList_some, Option.toList_none, List.cons_append, List.nil_append, b181_286]
    rw [if_pos (show nI 0 = 0 from rfl)]
    exact mpO.no E1 q1
end Km5
