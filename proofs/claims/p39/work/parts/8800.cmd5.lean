/-! ONE COMMAND OF A TEXT, WHATEVER IT IS: THE CLASS -/
def pcmd (tx : List Int32) (p : Nat) : Pc := match cn tx p with
  | some n => if n = 100 then p_1 tx 6 (p + 1) else if n = 101 then p_2 tx 4 (p + 1) else if n = 104 then p_1 tx 7 (p + 1) else if n = 113 then p_3 tx (p + 1) else if n = 115 then p_4 tx (p + 1) else if n = 119 then p_2 tx 3 (p + 1) else (p, none)
  | none => (p, none)
section Kc10
variable {d : Nat} {M M' : am_M} {w : am_W4} {tx : List Int32}
def cp5 (i : Nat) (M : am_M) (w : am_W4) (r : Option am_R) (c : Pc) : Prop := ∃ M', r = some (.inl (some (am_I (nI c.2.isSome.toNat))), M', am_Z w) ∧ M' (8, 0, 0) 4 = nI c.1 ∧ M' (8, 0, 0) 3 = nI (i + 1) ∧ (∀ k x y z, c.2 = some (k, x, y, z) → M' (11, 0, i) 0 = nI k ∧ M' (11, 0, i) 1 = nI x ∧ M' (11, 0, i) 2 = nI y ∧ M' (11, 0, i) 3 = nI z) ∧ ∀ l' j, l' ≠ (11, 0, i) → ¬ (l' = (8, 0, 0) ∧ (j = 3 ∨ j = 4)) → M' l' j = M l' j
theorem cpO.c5 {i : Nat} {r : Option am_R} {c : Pc} {K : Option am_V → am_M → am_X → Option am_R} (h : cpO tx (11, 0, i) (am_set M (8, 0, 0) 3 (nI (i + 1))) w r c) (hK : ∀ s M', K (some (am_I s)) M' (am_Z w) = if am_pc 1 s = true then some (.inl (some (am_I s)), M', am_Z w) else none) : cp5 i M w (am_cb r K) c := by
  obtain ⟨M', rfl, h2, h3, h4⟩ := h
  refine ⟨M', ?_, h2, (h4 _ _ (pl_t (by decide)) (fun q => absurd q.2 (by decide))).trans (as_eq _ _ _ _), h3, fun l' j q1 q2 => ?_⟩
  · rw [am_cb_i, hK, if_pos]
    cases c.2.isSome <;> rfl
  · rw [h4 l' j q1 (fun q => q2 ⟨q.1, Or.inr q.2⟩), as_ne (fun q => q2 ⟨q.1, Or.inl q.2⟩)]
theorem k5 {i p : Nat} (hi : i < 20) (ht : txk tx) (h : ctx tx M) (h3 : M (8, 0, 0) 3 = nI i) (h4 : M (8, 0, 0) 4 = nI p) (hp : p ≤ 60) : cp5 i M w (am_ev (d + 5) 5 [am_P (8, 0, 0)] M (am_Z w)) (pcmd tx p) := by
  have c1 : ctx tx (am_set M (8, 0, 0) 3 (nI (i + 1))) := ⟨(as_j (by decide)).trans h.1, fun i c hc => (as_t (by decide)).trans (h.2 i c hc)⟩
  have f4 : am_set M (8, 0, 0) 3 (nI (i + 1)) (8, 0, 0) 4 = nI p := (as_j (by decide)).trans h4
  have hno : cp5 i M w (some (.inl (some (am_I (nI 0))), am_set M (8, 0, 0) 3 (nI (i + 1)), am_Z w)) (p, none) := ⟨_, rfl, f4, as_eq _ _ _ _, fun k x y z q => absurd q (by simp), fun l' j q1 q2 => as_ne (fun q => q2 ⟨q.1, Or.inl q.2⟩)⟩
  rw [e5, h3, if_pos (nI_lt hi (by omega)), if_pos (by rw [am_inT (by omega) hi]; trivial), nI_clamp (by omega), nI_add, k10 ht c1 f4 (by omega)]
  simp only [am_cb_i, am_cb_e, Option.toList_some, Option.toList_none, List.cons_append, List.nil_append]
  rw [b5_35 hi]
  unfold pcmd
  cases hc : cn tx p with
  | none =>
    dsimp only
    iterate 20 rw [if_neg (by decide)]
    exact hno
  | some n =>
    have hn : n ≤ 65535 := by
      obtain ⟨m, g1, g2, g3⟩ := ht.c (cn_lt hc)
      rw [hc] at g3
      have : n = m := Option.some.inj g3
      omega
    dsimp only
    by_cases n100 : n = 100
    · subst n100
      rw [if_pos rfl, if_pos rfl]
      exact (k7 (d := d) hi ht c1 f4 hp).c5 (fun s M' => b5_169 hi)
    rw [if_neg n100]
    by_cases n101 : n = 101
    · subst n101
      rw [if_neg (by decide), if_pos rfl, if_pos rfl]
      exact (k9 (d := d) hi ht c1 f4 hp).c5 (fun s M' => b5_161 hi)
    rw [if_neg n101]
    by_cases n104 : n = 104
    · subst n104
      iterate 4 rw [if_neg (by decide)]
      rw [if_pos rfl, if_pos rfl]
      exact (k7 (d := d) hi ht c1 f4 hp).c5 (fun s M' => b5_141 hi)
    rw [if_neg n104]
    by_cases n113 : n = 113
    · subst n113
      iterate 13 rw [if_neg (by decide)]
      rw [if_pos rfl, if_pos rfl]
      exact (k8 (d := d) hi ht c1 f4 hp).c5 (fun s M' => b5_147 hi)
    rw [if_neg n113]
    by_cases n115 : n = 115
    · subst n115
      iterate 15 rw [if_neg (by decide)]
      rw [if_pos rfl, if_pos rfl]
      exact (k6 (d := d) hi ht c1 f4 hp).c5 (fun s M' => b5_133 hi)
    rw [if_neg n115]
    by_cases n119 : n = 119
    · subst n119
      iterate 19 rw [if_neg (by decide)]
      rw [if_pos rfl, if_pos rfl]
      exact (k9 (d := d) hi ht c1 f4 hp).c5 (fun s M' => b5_154 hi)
    rw [if_neg n119]
    have x : ∀ m, m < 1000 → n ≠ m → ¬ nI n = nI m := fun m hm hne q => hne ((nI_eq (by omega) (by omega)).mp q)
    rw [if_neg (x 100 (by omega) n100), if_neg (x 101 (by omega) n101)]
    have h104 := x 104 (by omega) n104
    have h113 := x 113 (by omega) n113
    have h115 := x 115 (by omega) n115
    have h119 := x 119 (by omega) n119
    simp only [h104, h113, h115, h119, if_false, ite_self]
    exact hno
end Kc10
