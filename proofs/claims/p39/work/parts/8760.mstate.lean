/-! WHAT THE REFERENCE HOLDS BETWEEN TWO CALLS -/
/-- the rows kept, the oldest first -/
def mlH (hs : List (Nat → Nat)) (M : am_M) : Prop := M (30, 0, 0) 4 = nI hs.length ∧ hs.length ≤ 8 ∧ ∀ i h, hs[i]? = some h → ∀ j, j < 364 → M (34, 0, 0) (364 * i + j) = nI (h j)
/-- the row saved -/
def mlV (sv : Option (Nat → Nat)) (M : am_M) : Prop := M (30, 0, 0) 6 = nI sv.isSome.toNat ∧ ∀ b, sv = some b → ∀ j, j < 364 → M (35, 0, 0) j = nI (b j)
/-- letters in the row l, their number in the field f -/
def mlX (l : am_L) (f : Nat) (tx : List Int32) (M : am_M) : Prop := M (30, 0, 0) f = nI tx.length ∧ ∀ i c, tx[i]? = some c → M l i = c
def mlR (R : Int32 × Int32 × Int32) (M : am_M) : Prop := M (30, 0, 0) 16 = R.1 ∧ M (30, 0, 0) 17 = R.2.1 ∧ M (30, 0, 0) 18 = R.2.2
def mlS (a : Nat → Nat) (hs : List (Nat → Nat)) (sv : Option (Nat → Nat)) (tx : List Int32) (R : Int32 × Int32 × Int32) (e : Int32) (ln : List Int32) (M : am_M) : Prop :=
  (∀ j, M (31, 0, 0) j = nI (a j)) ∧ mlH hs M ∧ mlV sv M ∧ mlX (37, 0, 0) 10 tx M ∧ mlR R M ∧ M (30, 0, 0) 14 = e ∧ mlX (36, 0, 0) 8 ln M
/-- what the state speaks of, the row 'now' aside -/
def ml_rd (l : am_L) (j : Nat) : Prop := l = (34, 0, 0) ∨ l = (35, 0, 0) ∨ l = (36, 0, 0) ∨ l = (37, 0, 0) ∨ (l = (30, 0, 0) ∧ (j = 4 ∨ j = 6 ∨ j = 8 ∨ j = 10 ∨ j = 14 ∨ j = 16 ∨ j = 17 ∨ j = 18))
def mF (M M' : am_M) : Prop := ∀ (l : am_L) (j : Nat), l.1 < 30 → M' l j = M l j
theorem mF.rf (M : am_M) : mF M M := fun _ _ _ => rfl
theorem mF.tr {M M' M'' : am_M} (h : mF M M') (h' : mF M' M'') : mF M M'' := fun l j hl => (h' l j hl).trans (h l j hl)
theorem mF.set {M M' : am_M} {t j : Nat} {x : Int32} (h : mF M M') (ht : 30 ≤ t) : mF M (am_set M' (t, 0, 0) j x) := by
  intro l j' hl
  rw [as_ne (fun q => by obtain ⟨rfl, _⟩ := q; dsimp only at hl; omega)]
  exact h l j' hl
section Kst
variable {d B : Nat} {M M' : am_M} {a b : Nat → Nat} {w : am_W4} {hs : List (Nat → Nat)} {sv : Option (Nat → Nat)} {tx ln : List Int32} {R : Int32 × Int32 × Int32} {e : Int32}
theorem mlS.fr (h : mlS a hs sv tx R e ln M) (h31 : ∀ j, M' (31, 0, 0) j = nI (b j)) (hf : ∀ l j, ml_rd l j → M' l j = M l j) : mlS b hs sv tx R e ln M' := by
  obtain ⟨h1, ⟨h2, h3, h4⟩, ⟨h5, h6⟩, ⟨h7, h8⟩, ⟨h9, h10, h11⟩, h12, h13, h14⟩ := h
  have ft : ∀ j, (j = 4 ∨ j = 6 ∨ j = 8 ∨ j = 10 ∨ j = 14 ∨ j = 16 ∨ j = 17 ∨ j = 18) → M' (30, 0, 0) j = M (30, 0, 0) j := fun j hj => hf _ _ (Or.inr (Or.inr (Or.inr (Or.inr ⟨rfl, hj⟩))))
  refine ⟨h31, ⟨(ft 4 (by omega)).trans h2, h3, fun i h hi j hj => (hf _ _ (Or.inl rfl)).trans (h4 i h hi j hj)⟩, ⟨(ft 6 (by omega)).trans h5, fun b hb j hj => (hf _ _ (Or.inr (Or.inl rfl))).trans (h6 b hb j hj)⟩, ⟨(ft 10 (by omega)).trans h7, fun i c hc => (hf _ _ (Or.inr (Or.inr (Or.inr (Or.inl rfl))))).trans (h8 i c hc)⟩, ⟨(ft 16 (by omega)).trans h9, (ft 17 (by omega)).trans h10, (ft 18 (by omega)).trans h11⟩, (ft 14 (by omega)).trans h12, (ft 8 (by omega)).trans h13, fun i c hc => (hf _ _ (Or.inr (Or.inr (Or.inl rfl)))).trans (h14 i c hc)⟩
theorem ml_rd.ne {l : am_L} {j : Nat} (h : ml_rd l j) : l ≠ (31, 0, 0) ∧ l ≠ (32, 0, 0) ∧ l ≠ (33, 0, 0) ∧ l ≠ (38, 0, 0) ∧ (l = (30, 0, 0) → j ≠ 11 ∧ j ≠ 12 ∧ j ≠ 15 ∧ j ≠ 19 ∧ j ≠ 20) := by
  rcases h with rfl | rfl | rfl | rfl | ⟨rfl, h⟩
  all_goals refine ⟨pl_t (by decide), pl_t (by decide), pl_t (by decide), pl_t (by decide), fun q => ?_⟩
  all_goals first
    | exact absurd q (pl_t (by decide))
    | omega
/-- a write that the state does not speak of -/
theorem mlS.out {l : am_L} {i : Nat} {x : Int32} (h : mlS a hs sv tx R e ln M) (hl : l = (32, 0, 0) ∨ l = (33, 0, 0) ∨ l = (38, 0, 0) ∨ (l = (30, 0, 0) ∧ (i = 11 ∨ i = 12 ∨ i = 15 ∨ i = 19 ∨ i = 20))) : mlS a hs sv tx R e ln (am_set M l i x) := by
  have h31 : l ≠ (31, 0, 0) := by
    rcases hl with rfl | rfl | rfl | ⟨rfl, _⟩ <;> exact pl_t (by decide)
  refine h.fr (fun j => ?_) (fun l' j hr => ?_)
  · rw [as_ne (fun q => h31 q.1.symm)]; exact h.1 j
  · refine as_ne (fun q => ?_)
    obtain ⟨rfl, rfl⟩ := q
    have hn := hr.ne
    rcases hl with rfl | rfl | rfl | ⟨rfl, z⟩
    · exact hn.2.1 rfl
    · exact hn.2.2.1 rfl
    · exact hn.2.2.2.1 rfl
    · have := hn.2.2.2.2 rfl
      omega
/-- a row copied -/
def rc (M : am_M) (s l0 : am_L) (n : Nat) : am_M := fun l j => if l = l0 ∧ j < n then M s j else M l j
theorem rc_0 {s l : am_L} : rc M s l 0 = M := by
  funext l' j
  exact if_neg (fun q => by omega)
theorem rc_s {s l : am_L} {i : Nat} (hne : s ≠ l) : am_set (rc M s l i) l i (rc M s l i s i) = rc M s l (i + 1) := by
  funext l' j
  unfold am_set rc
  rw [if_neg (fun q : s = l ∧ i < i => hne q.1)]
  by_cases h : l' = l
  · subst h
    by_cases hj : j = i
    · subst hj; rw [if_pos ⟨rfl, rfl⟩, if_pos ⟨rfl, by omega⟩]
    · rw [if_neg (fun q => hj q.2)]
      by_cases hi : j < i
      · rw [if_pos ⟨rfl, hi⟩, if_pos ⟨rfl, by omega⟩]
      · rw [if_neg (fun q => hi q.2), if_neg (fun q => hi (by have := q.2; omega))]
  · rw [if_neg (fun q => h q.1), if_neg (fun q => h q.1), if_neg (fun q => h q.1)]
theorem rc_in {s l : am_L} {n j : Nat} (h : j < n) : rc M s l n l j = M s j := if_pos ⟨rfl, h⟩
theorem rc_ne {s l l' : am_L} {n j : Nat} (h : l' ≠ l) : rc M s l n l' j = M l' j := if_neg (fun q => h q.1)
theorem mlS.rc {s l : am_L} {n : Nat} (h : mlS a hs sv tx R e ln M) (hl : l = (32, 0, 0) ∨ l = (33, 0, 0)) : mlS a hs sv tx R e ln (rc M s l n) := by
  refine h.fr (fun j => ?_) (fun l' j hr => ?_)
  · rw [rc_ne (by rcases hl with rfl | rfl <;> exact pl_t (by decide))]; exact h.1 j
  · have hn := hr.ne
    exact rc_ne (fun q => by
      subst q
      rcases hl with rfl | rfl
      · exact hn.2.1 rfl
      · exact hn.2.2.1 rfl)
theorem mF.rc {M M' : am_M} {s : am_L} {t n : Nat} (h : mF M M') (ht : 30 ≤ t) : mF M (rc M' s (t, 0, 0) n) := by
  intro l j hl
  rw [rc_ne (fun q => by subst q; dsimp only at hl; omega)]
  exact h l j hl
/-- the row tried -/
def mlT (b : Nat → Nat) (M : am_M) : Prop := ∀ j, j < 364 → M (32, 0, 0) j = nI (b j)
end Kst
