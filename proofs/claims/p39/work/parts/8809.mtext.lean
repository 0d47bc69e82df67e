/-! A WHOLE TEXT CARRIED OUT: THE REFERENCE -/
section Kmt
variable {d B : Nat} {M M' M0 : am_M} {a b : Nat → Nat} {w : am_W4} {hs : List (Nat → Nat)} {sv : Option (Nat → Nat)} {tx ln : List Int32} {R : Int32 × Int32 × Int32} {e : Int32}
/-- the commands only grow -/
theorem plst_pre : ∀ f (c : Pc) (l ls : List Cm), (plst tx f c l).2 = some ls → ∃ r, ls = l ++ r := by
  intro f
  induction f with
  | zero => intro c l ls h; exact absurd h (by simp [plst])
  | succ f ih =>
    intro c l ls h
    obtain ⟨p, o⟩ := c
    cases o with
    | none => exact absurd h (by simp [plst])
    | some u =>
      unfold plst at h
      dsimp only at h
      by_cases hp : p < tx.length
      · rw [if_pos hp] at h
        by_cases hc : cn tx p = some 59
        · rw [if_pos hc] at h
          obtain ⟨r, hr⟩ := ih _ _ _ h
          exact ⟨u :: r, by rw [hr, List.append_assoc]; rfl⟩
        · rw [if_neg hc] at h
          exact absurd h (by simp)
      · rw [if_neg hp] at h
        exact ⟨[u], (Option.some.inj h).symm⟩
theorem mlS.fe {e' : Int32} (h : mlS a hs sv tx R e ln M) : mlS a hs sv tx R e' ln (am_set M (30, 0, 0) 14 e') := by
  obtain ⟨h1, ⟨h2, h3, h4⟩, h5, h6, h7, h8, h9⟩ := h
  have ft : ∀ j, j ≠ 14 → am_set M (30, 0, 0) 14 e' (30, 0, 0) j = M (30, 0, 0) j := fun j hj => as_j hj
  have fl : ∀ (t j : Nat), t ≠ 30 → am_set M (30, 0, 0) 14 e' (t, 0, 0) j = M (t, 0, 0) j := fun t j ht => as_t ht
  exact ⟨fun j => (fl 31 j (by decide)).trans (h1 j), ⟨(ft 4 (by decide)).trans h2, h3, fun i g hi j hj => (fl 34 _ (by decide)).trans (h4 i g hi j hj)⟩, ⟨(ft 6 (by decide)).trans h5.1, fun b hb j hj => (fl 35 j (by decide)).trans (h5.2 b hb j hj)⟩, ⟨(ft 10 (by decide)).trans h6.1, fun i c hc => (fl 37 i (by decide)).trans (h6.2 i c hc)⟩, ⟨(ft 16 (by decide)).trans h7.1, (ft 17 (by decide)).trans h7.2.1, (ft 18 (by decide)).trans h7.2.2⟩, as_eq _ _ _ _, ⟨(ft 8 (by decide)).trans h9.1, fun i c hc => (fl 36 i (by decide)).trans (h9.2 i c hc)⟩⟩
theorem mlS.f0 (h : mlS a hs sv tx R e ln M) : mlS a hs sv [] R e ln (am_set M (30, 0, 0) 10 (nI 0)) := by
  obtain ⟨h1, ⟨h2, h3, h4⟩, h5, h6, h7, h8, h9⟩ := h
  have ft : ∀ j, j ≠ 10 → am_set M (30, 0, 0) 10 (nI 0) (30, 0, 0) j = M (30, 0, 0) j := fun j hj => as_j hj
  have fl : ∀ (t j : Nat), t ≠ 30 → am_set M (30, 0, 0) 10 (nI 0) (t, 0, 0) j = M (t, 0, 0) j := fun t j ht => as_t ht
  exact ⟨fun j => (fl 31 j (by decide)).trans (h1 j), ⟨(ft 4 (by decide)).trans h2, h3, fun i g hi j hj => (fl 34 _ (by decide)).trans (h4 i g hi j hj)⟩, ⟨(ft 6 (by decide)).trans h5.1, fun b hb j hj => (fl 35 j (by decide)).trans (h5.2 b hb j hj)⟩, ⟨as_eq _ _ _ _, fun i c hc => absurd hc (by simp)⟩, ⟨(ft 16 (by decide)).trans h7.1, (ft 17 (by decide)).trans h7.2.1, (ft 18 (by decide)).trans h7.2.2⟩, (ft 14 (by decide)).trans h8, ⟨(ft 8 (by decide)).trans h9.1, fun i c hc => (fl 36 i (by decide)).trans (h9.2 i c hc)⟩⟩
theorem mlS.sF (h : mlS a hs sv tx R e ln M) (hF : sF M M') : mlS a hs sv tx R e ln M' := h.fr (fun j => (hF _ _ (pl_t (by decide)) (fun q => pl_t (by decide) q.1)).trans (h.1 j)) (fun l j hr => hF _ _ hr.ne.2.2.2.1 (fun q => by
  have := hr.ne.2.2.2.2 q.1
  have := q.2
  omega))
theorem mlT.sF (h : mlT b M) (hF : sF M M') : mlT b M' := fun j hj => (hF _ _ (pl_t (by decide)) (fun q => pl_t (by decide) q.1)).trans (h j hj)
theorem sF.mF (hF : sF M M') : mF M M' := fun l j hl => hF l j (fun q => by rw [q] at hl; exact absurd hl (by decide)) (fun q => by rw [q.1] at hl; exact absurd hl (by decide))
theorem sF.t {j : Nat} (hF : sF M M') (hj : j ≠ 11 ∧ j ≠ 12) : M' (30, 0, 0) j = M (30, 0, 0) j := hF _ _ (pl_t (by decide)) (fun q => by omega)
theorem mlT.t {j : Nat} {x : Int32} (h : mlT b M) : mlT b (am_set M (30, 0, 0) j x) := fun i hi => (as_t (by decide)).trans (h i hi)
/-- the second pass -/
def x2O (a : Nat → Nat) (hs : List (Nat → Nat)) (sv : Option (Nat → Nat)) (tx : List Int32) (R : Int32 × Int32 × Int32) (ln : List Int32) (M : am_M) (w : am_W4) (n d : Nat) (r : Option am_R) : (Nat → Nat) ⊕ (Nat × Int32 × Nat) → Prop
  | .inl a' => ∃ M', r = am_rn (am_ev (d + 7)) 183 94 [some (am_P (30, 0, 0)), some (am_I (nI 1)), some (am_I (nI n)), some (am_I (nI 0))] [] M' (am_Z w) ∧ mlS a' hs sv tx R (-1) ln M' ∧ mlT a M' ∧ M' (30, 0, 0) 20 = nI 0 ∧ mF M M'
  | .inr (q, u, i) => ∃ M' b x, r = am_rn (am_ev (d + 7)) 183 94 [some (am_P (30, 0, 0)), some (am_I (nI 0)), some (am_I x), some (am_I (nI 0))] [] M' (am_Z w) ∧ mlS b hs sv tx (nI q, u, nI i) (-1) ln M' ∧ mlT a M' ∧ mF M M'
theorem x2O.pre {n : Nat} {r : Option am_R} {o : (Nat → Nat) ⊕ (Nat × Int32 × Nat)} (hF : mF M M') (h : x2O a hs sv tx R ln M' w n d r o) : x2O a hs sv tx R ln M w n d r o := by
  rcases o with a' | ⟨q, u, i⟩
  · obtain ⟨M2, h1, h2, h3, h4, h5⟩ := h
    exact ⟨M2, h1, h2, h3, h4, hF.tr h5⟩
  · obtain ⟨M2, b, x, h1, h2, h3, h4⟩ := h
    exact ⟨M2, b, x, h1, h2, h3, hF.tr h4⟩
def txM (a : Nat → Nat) (hs : List (Nat → Nat)) (sv : Option (Nat → Nat)) (R : Int32 × Int32 × Int32) (ln : List Int32) (M : am_M) (w : am_W4) (r : Option am_R) : Nat ⊕ (((Nat → Nat) × Nat) ⊕ (Nat × Int32 × Nat)) → Prop
  | .inl p => ∃ M', r = some (.inl (some (am_I (nI 0))), M', am_Z w) ∧ mlS a hs sv [] R (nI p) ln M' ∧ M' (30, 0, 0) 20 = nI 1 ∧ mF M M'
  | .inr (.inl (a', n)) => ∃ M', r = some (.inl (some (am_I (nI n))), M', am_Z w) ∧ mlS a' (hpush hs a) sv [] R (-1) ln M' ∧ M' (30, 0, 0) 20 = nI 0 ∧ mF M M'
  | .inr (.inr (q, u, i)) => ∃ M' b, r = some (.inl (some (am_I (nI 0))), M', am_Z w) ∧ (∀ j, j < 364 → b j = a j) ∧ mlS b hs sv [] (nI q, u, nI i) (-1) ln M' ∧ M' (30, 0, 0) 20 = nI 2 ∧ mF M M'
end Kmt
