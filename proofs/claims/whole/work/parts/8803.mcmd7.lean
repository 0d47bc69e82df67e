/-! ONE COMMAND OF A TEXT, WHATEVER IT IS: THE REFERENCE -/
def ltr (k : Nat) : Nat := if k = 6 then 100 else if k = 4 then 101 else if k = 7 then 104 else if k = 2 then 113 else if k = 5 then 115 else 119
section Km7
variable {d : Nat} {M M' M0 : am_M} {w : am_W4} {tx : List Int32}
theorem p1_k {k p k' : Nat} {v : Nat × Nat × Nat} (h : (p_1 tx k p).2 = some (k', v)) : k' = k := by
  unfold p_1 at h
  split at h
  · exact absurd h (by simp)
  · exact (Prod.mk.inj (Option.some.inj h)).1.symm
theorem p2_k {k p k' : Nat} {v : Nat × Nat × Nat} (h : (p_2 tx k p).2 = some (k', v)) : k' = k := by
  unfold p_2 at h
  split at h
  · exact absurd h (by simp)
  · unfold p_2a at h
    split at h
    · unfold p_2b at h
      split at h
      · exact absurd h (by simp)
      · exact (Prod.mk.inj (Option.some.inj h)).1.symm
    · exact absurd h (by simp)
theorem p3_k {p k' : Nat} {v : Nat × Nat × Nat} (h : (p_3 tx p).2 = some (k', v)) : k' = 2 := by
  unfold p_3 at h
  split at h
  · exact absurd h (by simp)
  · unfold p_3a at h
    split at h
    · unfold p_3b at h
      split at h
      · exact absurd h (by simp)
      · unfold p_3c at h
        split at h
        · unfold p_3d at h
          split at h
          · exact absurd h (by simp)
          · exact (Prod.mk.inj (Option.some.inj h)).1.symm
        · exact absurd h (by simp)
    · exact absurd h (by simp)
theorem p4_k {p k' : Nat} {v : Nat × Nat × Nat} (h : (p_4 tx p).2 = some (k', v)) : k' = 5 := by
  unfold p_4 at h
  split at h
  · exact absurd h (by simp)
  · unfold p_4a at h
    split at h
    · unfold p_4b at h
      split at h
      · exact absurd h (by simp)
      · unfold p_4c at h
        split at h
        · unfold p_4d at h
          split at h
          · exact absurd h (by simp)
          · exact (Prod.mk.inj (Option.some.inj h)).1.symm
        · exact absurd h (by simp)
    · exact absurd h (by simp)
def mp6 (M : am_M) (w : am_W4) (r : Option am_R) (c : Pc) : Prop := ∃ M', r = some (.inl (some (am_I (nI c.2.isSome.toNat))), M', am_Z w) ∧ M' (30, 0, 0) 11 = nI c.1 ∧ (∀ k x y z, c.2 = some (k, x, y, z) → M' (30, 0, 0) 12 = nI (ltr k) ∧ k ≤ 7 ∧ k ≠ 0 ∧ k ≠ 1 ∧ M' (38, 0, 0) 0 = nI x ∧ (k ≠ 6 → k ≠ 7 → M' (38, 0, 0) 1 = nI y) ∧ (k = 2 ∨ k = 5 → M' (38, 0, 0) 2 = nI z)) ∧ ∀ l' j, l' ≠ (38, 0, 0) → ¬ (l' = (30, 0, 0) ∧ (j = 11 ∨ j = 12)) → M' l' j = M l' j
theorem mpO.six {r : Option am_R} {c : Pc} {n : Nat} (h : mpO (am_set M (30, 0, 0) 12 (nI n)) w r c) (hk : ∀ k v, c.2 = some (k, v) → ltr k = n ∧ k ≤ 7 ∧ k ≠ 0 ∧ k ≠ 1) : mp6 M w r c := by
  obtain ⟨M', h1, h2, h3, h4⟩ := h
  refine ⟨M', h1, h2, fun k x y z q => ?_, fun l' j q1 q2 => (h4 l' j q1 (fun q => q2 ⟨q.1, Or.inl q.2⟩)).trans (as_ne (fun q => q2 ⟨q.1, Or.inr q.2⟩))⟩
  obtain ⟨g1, g2, g3, g4⟩ := hk k _ q
  exact ⟨((h4 _ _ (pl_t (by decide)) (fun q => absurd q.2 (by decide))).trans (as_eq _ _ _ _)).trans (by rw [g1]), g2, g3, g4, h3 k x y z q⟩
theorem k181 {p : Nat} (ht : txk tx) (h : mtx tx M) (h4 : M (30, 0, 0) 11 = nI p) (hp : p ≤ tx.length) : mp6 M w (am_ev (d + 4) 181 [am_P (30, 0, 0)] M (am_Z w)) (pcmd tx p) := by
  have hl := ht.1
  rw [e181, h4, h.1]
  unfold pcmd
  by_cases he : p = tx.length
  · rw [if_pos (by rw [he]), cn_out (by omega)]
    exact ⟨M, rfl, h4, fun k x y z q => absurd q (by simp), fun _ _ _ _ => rfl⟩
  have hlt : p < tx.length := by omega
  obtain ⟨n, hn, g2, g3⟩ := ht.c hlt
  have hM : M (37, 0, 0) (nI p).toNatClampNeg = nI n := by rw [nI_clamp (by omega)]; exact h.2 p _ g2
  have hpc : am_pc 2 (nI n) = true := ht.2 _ (List.mem_of_getElem? g2)
  rw [if_neg (by rw [nI_eqI (by omega) (by omega)]; exact he), if_pos (by rw [am_inT (by omega) (by omega)]; trivial), if_pos (by rw [hM]; exact hpc), hM, g3]
  have h1 : mtx tx (am_set M (30, 0, 0) 12 (nI n)) := ⟨(as_j (by decide)).trans h.1, fun i c hc => (as_t (by decide)).trans (h.2 i c hc)⟩
  have f12 : am_set M (30, 0, 0) 12 (nI n) (30, 0, 0) 12 = nI n := as_eq _ _ _ _
  have f11 : am_set M (30, 0, 0) 12 (nI n) (30, 0, 0) 11 = nI p := (as_j (by decide)).trans h4
  have hno : mp6 M w (some (.inl (some (am_I (nI 0))), am_set M (30, 0, 0) 12 (nI n), am_Z w)) (p, none) := ⟨_, rfl, f11, fun k x y z q => absurd q (by simp), fun l' j q1 q2 => as_ne (fun q => q2 ⟨q.1, Or.inr q.2⟩)⟩
  rw [b181_26, f12, f11, nI_add]
  dsimp only
  by_cases n100 : n = 100
  · subst n100
    rw [if_pos rfl, if_pos rfl]
    exact (m180 (d := d) (Or.inl rfl) ht h1 (mpE.rf _) f11 hlt).six (fun k v q => by rw [p1_k q]; decide)
  rw [if_neg n100]
  by_cases n101 : n = 101
  · subst n101
    rw [if_neg (by decide), if_pos rfl, if_pos rfl]
    exact (m277 (d := d) ht h1 (mpE.rf _) f11 hlt (by decide)).six (fun k v q => by rw [p2_k q]; decide)
  rw [if_neg n101]
  by_cases n104 : n = 104
  · subst n104
    iterate 4 rw [if_neg (by decide)]
    rw [if_pos rfl, if_pos rfl]
    exact (m180 (d := d) (Or.inr rfl) ht h1 (mpE.rf _) f11 hlt).six (fun k v q => by rw [p1_k q]; decide)
  rw [if_neg n104]
  by_cases n113 : n = 113
  · subst n113
    iterate 13 rw [if_neg (by decide)]
    rw [if_pos rfl, if_pos rfl]
    exact (m219 (d := d) ht h1 (mpE.rf _) hlt).six (fun k v q => by rw [p3_k q]; decide)
  rw [if_neg n113]
  by_cases n115 : n = 115
  · subst n115
    iterate 15 rw [if_neg (by decide)]
    rw [if_pos rfl, if_pos rfl]
    exact (m139 (d := d) ht h1 (mpE.rf _) hlt).six (fun k v q => by rw [p4_k q]; decide)
  rw [if_neg n115]
  by_cases n119 : n = 119
  · subst n119
    iterate 19 rw [if_neg (by decide)]
    rw [if_pos rfl, if_pos rfl]
    exact (m277 (d := d) ht h1 (mpE.rf _) f11 hlt (by decide)).six (fun k v q => by rw [p2_k q]; decide)
  rw [if_neg n119]
  have x : ∀ m, m < 1000 → n ≠ m → ¬ nI n = nI m := fun m hm hne q => hne ((nI_eq (by omega) (by omega)).mp q)
  rw [if_neg (x 100 (by omega) n100), if_neg (x 101 (by omega) n101)]
  have h104 := x 104 (by omega) n104
  have h113 := x 113 (by omega) n113
  have h115 := x 115 (by omega) n115
  have h119 := x 119 (by omega) n119
  simp only [h104, h113, h115, h119, if_false, ite_self]
  exact hno
end Km7
