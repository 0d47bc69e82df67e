/-! THE CLASS'S NETWORK n HOLDS WHAT A ROW 'now' OF THE REFERENCE HOLDS -/
/-- the place (t, n, k) has an entry j that the row knows -/
def nwG (a : Nat → Nat) (t k j : Nat) : Prop := match t with
  | 13 => k = 0 ∧ (j = 0 ∨ j = 1 ∨ j = 5)
  | 16 => k = 0 ∧ 1 ≤ j ∧ j ≤ 8
  | 21 => k < a 1 ∧ j < 6
  | 23 => k + 1 < a 1 ∧ j < 2
  | 24 => k < a 2 ∧ j ≤ 8 ∧ j ≠ 5
  | 25 => k < a 2 ∧ j < a (60 + 19 * k + 3)
  | _ => False
/-- the field of a message in the row -/
def nw_f (j : Nat) : Nat := match j with
  | 0 => 0 | 1 => 1 | 2 => 2 | 3 => 6 | 4 => 7 | 6 => 5 | 7 => 9 | _ => 3
/-- its number in the row -/
def nwI (t k j : Nat) : Nat := match t with
  | 13 => if j = 5 then 2 else j
  | 16 => 3 + j
  | 21 => 12 + 6 * k + j
  | 23 => 48 + 2 * k + j
  | 24 => 60 + 19 * k + nw_f j
  | _ => 60 + 19 * k + (11 + j)
/-- the counts are small -/
def nwS (a : Nat → Nat) : Prop := a 1 ≤ 6 ∧ a 2 ≤ 16 ∧ ∀ m, m < a 2 → a (60 + 19 * m + 3) ≤ 8
theorem ml_ok.S {B : Nat} {a : Nat → Nat} (h : ml_ok B a) : nwS a := ⟨h.1.1, h.1.2.1, fun m hm => (h.2 m hm).2.2.2.2.1⟩
theorem nw_f_lt (j : Nat) : nw_f j < 11 ∧ nw_f j ≠ 4 ∧ nw_f j ≠ 8 ∧ nw_f j ≠ 10 := by
  unfold nw_f
  split <;> decide
theorem nw_f_inj {j j' : Nat} (h : j ≤ 8) (h5 : j ≠ 5) (h' : j' ≤ 8) (h5' : j' ≠ 5) (e : nw_f j = nw_f j') : j = j' := by
  have key : ∀ j, j ≤ 8 → ∀ j', j' ≤ 8 → j ≠ 5 → j' ≠ 5 → nw_f j = nw_f j' → j = j' := by decide +kernel
  exact key j h j' h' h5 h5' e
theorem nwG.t {a : Nat → Nat} {t k j : Nat} (h : nwG a t k j) : t = 13 ∨ t = 16 ∨ t = 21 ∨ t = 23 ∨ t = 24 ∨ t = 25 := by
  unfold nwG at h
  split at h <;> first | omega | exact h.elim
theorem nwG.inj {a : Nat → Nat} {t k j t' k' j' : Nat} (hS : nwS a) (h : nwG a t k j) (h' : nwG a t' k' j') (e : nwI t k j = nwI t' k' j') : t = t' ∧ k = k' ∧ j = j' := by
  obtain ⟨s1, s2, s3⟩ := hS
  have f1 := nw_f_lt j
  have f2 := nw_f_lt j'
  have f3 := @nw_f_inj j j'
  rcases h.t with rfl | rfl | rfl | rfl | rfl | rfl <;> rcases h'.t with rfl | rfl | rfl | rfl | rfl | rfl <;> simp only [nwG, nwI] at h h' e
  all_goals first
    | (have e3 := s3 k h.1; have e4 := s3 k' h'.1; refine ⟨?_, ?_, ?_⟩ <;> omega)
    | (have e3 := s3 k h.1; omega)
    | (have e4 := s3 k' h'.1; omega)
    | (have : k = k' := by omega
       subst this
       exact ⟨rfl, rfl, f3 h.2.1 h.2.2 h'.2.1 h'.2.2 (by omega)⟩)
    | (split at e <;> split at e <;> refine ⟨?_, ?_, ?_⟩ <;> omega)
    | (split at e <;> omega)
    | (refine ⟨?_, ?_, ?_⟩ <;> omega)
    | omega
theorem nwI_lt {a : Nat → Nat} {t k j : Nat} (hS : nwS a) (h : nwG a t k j) : nwI t k j < 364 := by
  obtain ⟨s1, s2, s3⟩ := hS
  have f1 := nw_f_lt j
  rcases h.t with rfl | rfl | rfl | rfl | rfl | rfl <;> simp only [nwG, nwI] at h ⊢
  all_goals first
    | (have e3 := s3 k h.1; omega)
    | (split <;> omega)
    | omega
/-- the counts of b are those of a -/
def nwC (a b : Nat → Nat) : Prop := b 1 = a 1 ∧ b 2 = a 2 ∧ ∀ m, m < a 2 → b (60 + 19 * m + 3) = a (60 + 19 * m + 3)
theorem nwC.E {a b : Nat → Nat} (h : nwC a b) {t k j : Nat} : nwG b t k j ↔ nwG a t k j := by
  obtain ⟨h1, h2, h3⟩ := h
  unfold nwG
  split
  · exact Iff.rfl
  · exact Iff.rfl
  · rw [h1]
  · rw [h1]
  · rw [h2]
  · rw [h2]
    exact ⟨fun q => ⟨q.1, by rw [← h3 k q.1]; exact q.2⟩, fun q => ⟨q.1, by rw [h3 k q.1]; exact q.2⟩⟩
  · exact Iff.rfl
theorem nwC.rf (a : Nat → Nat) : nwC a a := ⟨rfl, rfl, fun _ _ => rfl⟩
theorem nwC.nu {a b : Nat → Nat} (h : nwC a b) {i v : Nat} (h1 : i ≠ 1) (h2 : i ≠ 2) (h3 : ∀ m, m < 16 → i ≠ 60 + 19 * m + 3) (ha : a 2 ≤ 16) : nwC a (nu b i v) := by
  refine ⟨?_, ?_, fun m hm => ?_⟩
  · rw [nu_ne (fun e => h1 e.symm)]; exact h.1
  · rw [nu_ne (fun e => h2 e.symm)]; exact h.2.1
  · rw [nu_ne (fun e => h3 m (by omega) e.symm)]; exact h.2.2 m hm
def nwF (n : Nat) (a : Nat → Nat) (M : am_M) : Prop := ∀ t k j, nwG a t k j → M (t, n, k) j = nI (a (nwI t k j))
theorem as_eq (M : am_M) (l : am_L) (j : Nat) (x : Int32) : am_set M l j x l j = x := if_pos ⟨rfl, rfl⟩
theorem as_ne {M : am_M} {l l' : am_L} {j j' : Nat} {x : Int32} (h : ¬ (l' = l ∧ j' = j)) : am_set M l j x l' j' = M l' j' := if_neg h
theorem as_j {M : am_M} {l l' : am_L} {j j' : Nat} {x : Int32} (h : j' ≠ j) : am_set M l j x l' j' = M l' j' := if_neg (fun q => h q.2)
theorem as_t {M : am_M} {t n k t' n' k' j j' : Nat} {x : Int32} (h : t' ≠ t) : am_set M (t, n, k) j x (t', n', k') j' = M (t', n', k') j' := if_neg (fun q => h (Prod.mk.inj q.1).1)
theorem as_k {M : am_M} {t n k t' n' k' j j' : Nat} {x : Int32} (h : k' ≠ k) : am_set M (t, n, k) j x (t', n', k') j' = M (t', n', k') j' := if_neg (fun q => h (Prod.mk.inj (Prod.mk.inj q.1).2).2)
theorem as_n {M : am_M} {t n k t' n' k' j j' : Nat} {x : Int32} (h : n' ≠ n) : am_set M (t, n, k) j x (t', n', k') j' = M (t', n', k') j' := if_neg (fun q => h (Prod.mk.inj (Prod.mk.inj q.1).2).1)
/-- a write on both sides -/
theorem nwF.set {n t k j v : Nat} {a b : Nat → Nat} {M : am_M} (hS : nwS a) (hC : nwC a b) (h : nwF n b M) (hE : nwG a t k j) (hC' : nwC a (nu b (nwI t k j) v)) : nwF n (nu b (nwI t k j) v) (am_set M (t, n, k) j (nI v)) := by
  intro t' k' j' hG
  have hG := hC'.E.mp hG
  by_cases hi : nwI t' k' j' = nwI t k j
  · obtain ⟨rfl, rfl, rfl⟩ := nwG.inj hS hG hE hi
    rw [as_eq, nu_eq]
  · rw [nu_ne hi, as_ne (fun q => hi ?_)]
    · exact h t' k' j' (hC.E.mpr hG)
    · obtain ⟨q1, q2⟩ := q
      have e1 := (Prod.mk.inj q1).1
      have e2 := (Prod.mk.inj (Prod.mk.inj q1).2).2
      rw [e1, e2, q2]
/-- a write beside all entries, in the memory -/
theorem nwF.out {n j : Nat} {l : am_L} {a : Nat → Nat} {M : am_M} {x : Int32} (h : nwF n a M) (hl : ∀ t k, l = (t, n, k) → ¬ nwG a t k j) : nwF n a (am_set M l j x) := by
  intro t k j' hE
  rw [as_ne (fun q => ?_)]
  · exact h t k j' hE
  · obtain ⟨q1, rfl⟩ := q
    exact hl t k q1.symm hE
/-- rows that are alike where entries are -/
theorem nwF.to {n : Nat} {a b : Nat → Nat} {M : am_M} (h : nwF n a M) (hC : nwC a b) (hb : ∀ t k j, nwG a t k j → b (nwI t k j) = a (nwI t k j)) : nwF n b M := by
  intro t k j hE
  have hE := hC.E.mp hE
  rw [hb t k j hE]
  exact h t k j hE
theorem nwF.mem {n : Nat} {a : Nat → Nat} {M M' : am_M} (h : nwF n a M) (hM : ∀ t k j, nwG a t k j → M' (t, n, k) j = M (t, n, k) j) : nwF n a M' := by
  intro t k j hE
  rw [hM t k j hE]
  exact h t k j hE
/-- the place that the class keeps: behind the last sign of a message that goes -/
def nw_pl (a : Nat → Nat) (m : Nat) : Nat := if a (60 + 19 * m + 10) = 1 then a (60 + 19 * m + 3) else a (60 + 19 * m + 4)
def nw1 (n : Nat) (a : Nat → Nat) (M : am_M) : Prop := nwF n a M ∧ ∀ m, m < a 2 → M (24, n, m) 5 = nI (nw_pl a m)
/-- what a method that only fills entries leaves alone -/
def nw_fr (n : Nat) (M M' : am_M) : Prop := ∀ (l : am_L) (j : Nat), (l.2.1 ≠ n ∨ l.1 < 13 ∨ 25 < l.1 ∨ l.1 = 18 ∨ l.1 = 19 ∨ l.1 = 20 ∨ l.1 = 22 ∨ (l.1 = 21 ∧ j = 6) ∨ (l.1 = 13 ∧ j = 7)) → M' l j = M l j
theorem nw_fr.rf (n : Nat) (M : am_M) : nw_fr n M M := fun _ _ _ => rfl
theorem nw_fr.trans {n : Nat} {M M' M'' : am_M} (h : nw_fr n M M') (h' : nw_fr n M' M'') : nw_fr n M M'' := fun l j hl => (h' l j hl).trans (h l j hl)
theorem nw_fr.set {n t k j : Nat} {M M' : am_M} {x : Int32} (h : nw_fr n M M') (ht : t = 16 ∨ t = 23 ∨ t = 24 ∨ t = 25 ∨ (t = 21 ∧ j ≠ 6) ∨ (t = 13 ∧ j ≠ 7)) : nw_fr n M (am_set M' (t, n, k) j x) := by
  intro l j' hl
  rw [as_ne (fun q => ?_)]
  · exact h l j' hl
  · obtain ⟨rfl, rfl⟩ := q
    dsimp only at hl
    omega
section Kcl
variable {d n : Nat} {M : am_M} {a : Nat → Nat} {w : am_W4}
theorem nwF.hour (h : nwF n a M) : M (13, n, 0) 0 = nI (a 0) := h 13 0 0 ⟨rfl, Or.inl rfl⟩
theorem nwF.cc (h : nwF n a M) : M (13, n, 0) 1 = nI (a 1) := h 13 0 1 ⟨rfl, Or.inr (Or.inl rfl)⟩
theorem nwF.mc (h : nwF n a M) : M (13, n, 0) 5 = nI (a 2) := h 13 0 5 ⟨rfl, Or.inr (Or.inr rfl)⟩
theorem nwF.ps (h : nwF n a M) {s : Nat} (h1 : 1 ≤ s) (h8 : s ≤ 8) : M (16, n, 0) s = nI (a (3 + s)) := h 16 0 s ⟨rfl, h1, h8⟩
theorem nwF.cv (h : nwF n a M) {c f : Nat} (hc : c < a 1) (hf : f < 6) : M (21, n, c) f = nI (a (12 + 6 * c + f)) := h 21 c f ⟨hc, hf⟩
theorem nwF.rl (h : nwF n a M) {r : Nat} (hr : r + 1 < a 1) : M (23, n, r) 0 = nI (a (48 + 2 * r)) := h 23 r 0 ⟨hr, by decide⟩
theorem nwF.rw (h : nwF n a M) {r : Nat} (hr : r + 1 < a 1) : M (23, n, r) 1 = nI (a (48 + 2 * r + 1)) := h 23 r 1 ⟨hr, by decide⟩
theorem nwF.mfr (h : nwF n a M) {m : Nat} (hm : m < a 2) : M (24, n, m) 0 = nI (a (60 + 19 * m + 0)) := h 24 m 0 ⟨hm, by decide, by decide⟩
theorem nwF.mto (h : nwF n a M) {m : Nat} (hm : m < a 2) : M (24, n, m) 1 = nI (a (60 + 19 * m + 1)) := h 24 m 1 ⟨hm, by decide, by decide⟩
theorem nwF.mat (h : nwF n a M) {m : Nat} (hm : m < a 2) : M (24, n, m) 2 = nI (a (60 + 19 * m + 2)) := h 24 m 2 ⟨hm, by decide, by decide⟩
theorem nwF.how (h : nwF n a M) {m : Nat} (hm : m < a 2) : M (24, n, m) 3 = nI (a (60 + 19 * m + 6)) := h 24 m 3 ⟨hm, by decide, by decide⟩
theorem nwF.snt (h : nwF n a M) {m : Nat} (hm : m < a 2) : M (24, n, m) 4 = nI (a (60 + 19 * m + 7)) := h 24 m 4 ⟨hm, by decide, by decide⟩
theorem nwF.rng (h : nwF n a M) {m : Nat} (hm : m < a 2) : M (24, n, m) 6 = nI (a (60 + 19 * m + 5)) := h 24 m 6 ⟨hm, by decide, by decide⟩
theorem nwF.hrd (h : nwF n a M) {m : Nat} (hm : m < a 2) : M (24, n, m) 7 = nI (a (60 + 19 * m + 9)) := h 24 m 7 ⟨hm, by decide, by decide⟩
theorem nwF.mny (h : nwF n a M) {m : Nat} (hm : m < a 2) : M (24, n, m) 8 = nI (a (60 + 19 * m + 3)) := h 24 m 8 ⟨hm, by decide, by decide⟩
theorem nwF.sg (h : nwF n a M) {m k : Nat} (hm : m < a 2) (hk : k < a (60 + 19 * m + 3)) : M (25, n, m) k = nI (a (60 + 19 * m + (11 + k))) := h 25 m k ⟨hm, hk⟩
end Kcl
