/-! THE CLASS'S takeFrom -/
/-- l holds the first i entries of l0, all else is as it was -/
def cpP (l l0 : am_L) (i : Nat) (M M' : am_M) : Prop := (∀ j, j < i → M' l j = M l0 j) ∧ ∀ l' j, (l' ≠ l ∨ i ≤ j) → M' l' j = M l' j
theorem cpP.rf (l l0 : am_L) (M : am_M) : cpP l l0 0 M M := ⟨fun j h => by omega, fun _ _ _ => rfl⟩
theorem cpP.step {l l0 : am_L} {i : Nat} {M M' : am_M} (h : cpP l l0 i M M') (hne : l0 ≠ l) : cpP l l0 (i + 1) M (am_set M' l i (M' l0 i)) := by
  refine ⟨fun j hj => ?_, fun l' j hl => ?_⟩
  · by_cases e : j = i
    · subst e
      rw [as_eq]
      exact h.2 l0 j (Or.inl hne)
    · rw [as_j e]
      exact h.1 j (by omega)
  · rw [as_ne (fun q => by
      obtain ⟨rfl, rfl⟩ := q
      rcases hl with z | z
      · exact z rfl
      · omega)]
    exact h.2 l' j (hl.imp id (fun z => by omega))
theorem cp_in {M : am_M} {s d : am_L} {n j : Nat} (h : j < n) : am_cp M s d 0 0 n d j = M s j := by
  unfold am_cp va_cpy
  rw [if_pos rfl, if_pos ⟨Nat.zero_le _, by omega⟩, Nat.zero_add, Nat.sub_zero]
theorem cp_ne {M : am_M} {s d l : am_L} {a b n j : Nat} (h : l ≠ d) : am_cp M s d a b n l j = M l j := if_neg h
theorem pl_e {t n k t' n' k' : Nat} (e : ((t', n', k') : am_L) = (t, n, k)) : t' = t ∧ n' = n ∧ k' = k := ⟨(Prod.mk.inj e).1, (Prod.mk.inj (Prod.mk.inj e).2).1, (Prod.mk.inj (Prod.mk.inj e).2).2⟩
theorem pl_n {t n k t' n' k' : Nat} (h : n' ≠ n) : ((t', n', k') : am_L) ≠ (t, n, k) := fun e => h (Prod.mk.inj (Prod.mk.inj e).2).1
theorem pl_t {t n k t' n' k' : Nat} (h : t' ≠ t) : ((t', n', k') : am_L) ≠ (t, n, k) := fun e => h (Prod.mk.inj e).1
theorem pl_k {t n k t' n' k' : Nat} (h : k' ≠ k) : ((t', n', k') : am_L) ≠ (t, n, k) := fun e => h (Prod.mk.inj (Prod.mk.inj e).2).2
section Ktf
variable {d n n2 B : Nat} {M : am_M} {a : Nat → Nat} {w : am_W4}
theorem k17 {k : Nat} (hn : n < 12) (hn2 : n2 < 12) (hne : n ≠ n2) (hk : k < 6) : ∃ M', am_ev (d + 1) 17 [am_P (21, n, k), am_P (21, n2, k)] M (am_Z w) = some (.inl none, M', am_Z w) ∧ (∀ j, j < 7 → M' (21, n, k) j = M (21, n2, k) j) ∧ (∀ j, j < 16 → M' (22, n, k) j = M (22, n2, k) j) ∧ ∀ l j, l ≠ (21, n, k) → l ≠ (22, n, k) → M' l j = M l j := by
  have h2 : ((21, n2, k) : am_L) ≠ (21, n, k) := pl_n hne.symm
  have s := ((((((cpP.rf (21, n, k) (21, n2, k) M).step h2).step h2).step h2).step h2).step h2).step h2 |>.step h2
  rw [e17 hn hk hn2 hk, b17_8 hn hk hn2 hk, b17_16 hn hk hn2 hk, b17_24 hn hk hn2 hk, b17_32 hn hk hn2 hk, b17_40 hn hk hn2 hk, b17_48 hn hk hn2 hk hne]
  refine ⟨_, rfl, fun j hj => ?_, fun j hj => ?_, fun l j h1 h3 => ?_⟩
  · rw [cp_ne (pl_t (by decide))]; exact s.1 j hj
  · rw [cp_in hj]; exact s.2 _ _ (Or.inl (pl_t (by decide)))
  · rw [cp_ne h3]; exact s.2 l j (Or.inl h1)
theorem k27 {k : Nat} (hn : n < 12) (hn2 : n2 < 12) (hne : n ≠ n2) (hk : k < 16) (h7 : am_pc 1 (M (24, n2, k) 7) = true) : ∃ M', am_ev (d + 1) 27 [am_P (24, n, k), am_P (24, n2, k)] M (am_Z w) = some (.inl none, M', am_Z w) ∧ (∀ j, j < 9 → M' (24, n, k) j = M (24, n2, k) j) ∧ (∀ j, j < 8 → M' (25, n, k) j = M (25, n2, k) j) ∧ ∀ l j, l ≠ (24, n, k) → l ≠ (25, n, k) → M' l j = M l j := by
  have h2 : ((24, n2, k) : am_L) ≠ (24, n, k) := pl_n hne.symm
  have s6 := ((((((cpP.rf (24, n, k) (24, n2, k) M).step h2).step h2).step h2).step h2).step h2).step h2 |>.step h2
  have s := (s6.step h2).step h2
  rw [e27 hn hk hn2 hk, b27_8 hn hk hn2 hk, b27_16 hn hk hn2 hk, b27_24 hn hk hn2 hk, b27_32 hn hk hn2 hk, b27_40 hn hk hn2 hk, b27_48 hn hk hn2 hk, b27_56 hn hk hn2 hk, if_pos (by rw [s6.2 _ _ (Or.inl h2)]; exact h7), b27_64 hn hk hn2 hk hne]
  refine ⟨_, rfl, fun j hj => ?_, fun j hj => ?_, fun l j h1 h3 => ?_⟩
  · rw [cp_ne (pl_t (by decide))]; exact s.1 j hj
  · rw [cp_in hj]; exact s.2 _ _ (Or.inl (pl_t (by decide)))
  · rw [cp_ne h3]; exact s.2 l j (Or.inl h1)
theorem l34a {cc : Nat} (hn : n < 12) (hn2 : n2 < 12) (hne : n ≠ n2) (hc : cc ≤ 6) : ∀ r k (M : am_M), k + r = cc → M (13, n, 0) 1 = nI cc → ∃ M', am_rn (am_ev (d + 1)) 34 18 [some (am_P (13, n, 0)), some (am_P (13, n2, 0)), some (am_I (nI k))] [] M (am_Z w) = am_rn (am_ev (d + 1)) 34 49 [some (am_P (13, n, 0)), some (am_P (13, n2, 0)), some (am_I (nI 0))] [] M' (am_Z w) ∧ (∀ c, k ≤ c → c < cc → (∀ j, j < 7 → M' (21, n, c) j = M (21, n2, c) j) ∧ ∀ j, j < 16 → M' (22, n, c) j = M (22, n2, c) j) ∧ ∀ l j, ¬ (l.2.1 = n ∧ (l.1 = 21 ∨ l.1 = 22) ∧ k ≤ l.2.2) → M' l j = M l j := by
  intro r
  induction r with
  | zero =>
    intro k M hk h1
    rw [b34_18 hn hn2, h1, if_neg (nI_nlt (by omega) (by omega))]
    exact ⟨M, rfl, fun c h h' => by omega, fun _ _ _ => rfl⟩
  | succ r ih =>
    intro k M hk h1
    obtain ⟨M1, e1, g1, g2, g3⟩ := k17 (d := d) (M := M) (w := w) hn hn2 hne (k := k) (by omega)
    rw [b34_18 hn hn2, h1, if_pos (nI_lt (by omega) (by omega)), if_pos (by rw [am_inT (by omega) (by omega)]; trivial), if_pos (by rw [am_inT (by omega) (by omega)]; trivial), nI_clamp (by omega), e1]
    simp (disch := omega) only [am_cb_i, am_cb_e, Option.toList_some, Option.toList_none, List.cons_append, List.nil_append]
    rw [b34_41 hn hn2, nI_add]
    obtain ⟨M', e2, t1, t2⟩ := ih (k + 1) M1 (by omega) (by rw [g3 _ _ (pl_t (by decide)) (pl_t (by decide))]; exact h1)
    refine ⟨M', e2, fun c hkc hcc => ?_, fun l j hl => ?_⟩
    · by_cases e : c = k
      · subst e
        exact ⟨fun j hj => by rw [t2 _ _ (fun q => by have := q.2.2; dsimp only at this; omega)]; exact g1 j hj, fun j hj => by rw [t2 _ _ (fun q => by have := q.2.2; dsimp only at this; omega)]; exact g2 j hj⟩
      · obtain ⟨u1, u2⟩ := t1 c (by omega) hcc
        exact ⟨fun j hj => by rw [u1 j hj, g3 _ _ (pl_n hne.symm) (pl_n hne.symm)], fun j hj => by rw [u2 j hj, g3 _ _ (pl_n hne.symm) (pl_n hne.symm)]⟩
    · obtain ⟨t, n', k'⟩ := l
      dsimp only at hl
      rw [t2 _ _ (fun q => hl ⟨q.1, q.2.1, by have := q.2.2; dsimp only at this; omega⟩)]
      exact g3 _ _ (fun e => by obtain ⟨rfl, rfl, rfl⟩ := pl_e e; exact hl ⟨rfl, Or.inl rfl, Nat.le_refl _⟩) (fun e => by obtain ⟨rfl, rfl, rfl⟩ := pl_e e; exact hl ⟨rfl, Or.inr rfl, Nat.le_refl _⟩)
theorem l34b (hn : n < 12) (hn2 : n2 < 12) (hne : n ≠ n2) : ∀ r k (M : am_M), k + r = 5 → ∃ M', am_rn (am_ev d) 34 49 [some (am_P (13, n, 0)), some (am_P (13, n2, 0)), some (am_I (nI k))] [] M (am_Z w) = am_rn (am_ev d) 34 111 [some (am_P (13, n, 0)), some (am_P (13, n2, 0)), some (am_I (nI 5))] [] (am_cp M' (16, n2, 0) (16, n, 0) 0 0 9) (am_Z w) ∧ (∀ c, k ≤ c → c < 5 → ∀ j, j < 2 → M' (23, n, c) j = M (23, n2, c) j) ∧ ∀ l j, ¬ (l.2.1 = n ∧ l.1 = 23 ∧ k ≤ l.2.2) → M' l j = M l j := by
  intro r
  induction r with
  | zero =>
    intro k M hk
    rw [b34_49 hn hn2 hne, if_neg (nI_nlt (by omega) (by omega)), show k = 5 by omega]
    exact ⟨M, rfl, fun c h h' => by omega, fun _ _ _ => rfl⟩
  | succ r ih =>
    intro k M hk
    have h2 : ((23, n2, k) : am_L) ≠ (23, n, k) := pl_n hne.symm
    have s := ((cpP.rf (23, n, k) (23, n2, k) M).step h2).step h2
    rw [b34_49 hn hn2 hne, if_pos (nI_lt (by omega) (by omega)), if_pos (by rw [am_inT (by omega) (by omega)]; trivial), if_pos (by rw [am_inT (by omega) (by omega)]; trivial), nI_clamp (by omega), b34_72 hn hn2, if_pos (by rw [am_inT (by omega) (by omega)]; trivial), if_pos (by rw [am_inT (by omega) (by omega)]; trivial), nI_clamp (by omega), nI_add]
    obtain ⟨M', e2, t1, t2⟩ := ih (k + 1) _ (by omega)
    refine ⟨M', e2, fun c hkc hcc j hj => ?_, fun l j hl => ?_⟩
    · by_cases e : c = k
      · subst e
        rw [t2 _ _ (fun q => by have := q.2.2; dsimp only at this; omega)]
        exact s.1 j hj
      · rw [t1 c (by omega) hcc j hj]
        exact s.2 _ _ (Or.inl (pl_n hne.symm))
    · obtain ⟨t, n', k'⟩ := l
      dsimp only at hl
      rw [t2 _ _ (fun q => hl ⟨q.1, q.2.1, by have := q.2.2; dsimp only at this; omega⟩)]
      exact s.2 _ _ (Or.inl (fun e => by obtain ⟨rfl, rfl, rfl⟩ := pl_e e; exact hl ⟨rfl, rfl, Nat.le_refl _⟩))
theorem l34c {mc : Nat} (hn : n < 12) (hn2 : n2 < 12) (hne : n ≠ n2) (hc : mc ≤ 16) : ∀ r k (M : am_M), k + r = mc → M (13, n, 0) 5 = nI mc → (∀ m, m < mc → am_pc 1 (M (24, n2, m) 7) = true) → ∃ M', am_rn (am_ev (d + 1)) 34 121 [some (am_P (13, n, 0)), some (am_P (13, n2, 0)), some (am_I (nI k))] [] M (am_Z w) = some (.inl none, am_cp (am_set M' (13, n, 0) 7 (M' (13, n2, 0) 7)) (18, n2, 0) (18, n, 0) 0 0 16, am_Z w) ∧ (∀ c, k ≤ c → c < mc → (∀ j, j < 9 → M' (24, n, c) j = M (24, n2, c) j) ∧ ∀ j, j < 8 → M' (25, n, c) j = M (25, n2, c) j) ∧ ∀ l j, ¬ (l.2.1 = n ∧ (l.1 = 24 ∨ l.1 = 25) ∧ k ≤ l.2.2) → M' l j = M l j := by
  intro r
  induction r with
  | zero =>
    intro k M hk h1 h7
    rw [b34_121 hn hn2 hne, h1, if_neg (nI_nlt (by omega) (by omega))]
    exact ⟨M, rfl, fun c h h' => by omega, fun _ _ _ => rfl⟩
  | succ r ih =>
    intro k M hk h1 h7
    obtain ⟨M1, e1, g1, g2, g3⟩ := k27 (d := d) (M := M) (w := w) hn hn2 hne (k := k) (by omega) (h7 k (by omega))
    rw [b34_121 hn hn2 hne, h1, if_pos (nI_lt (by omega) (by omega)), if_pos (by rw [am_inT (by omega) (by omega)]; trivial), if_pos (by rw [am_inT (by omega) (by omega)]; trivial), nI_clamp (by omega), e1]
    simp (disch := omega) only [am_cb_i, am_cb_e, Option.toList_some, Option.toList_none, List.cons_append, List.nil_append]
    rw [b34_144 hn hn2, nI_add]
    obtain ⟨M', e2, t1, t2⟩ := ih (k + 1) M1 (by omega) (by rw [g3 _ _ (pl_t (by decide)) (pl_t (by decide))]; exact h1) (fun m hm => by rw [g3 _ _ (pl_n hne.symm) (pl_n hne.symm)]; exact h7 m hm)
    refine ⟨M', e2, fun c hkc hcc => ?_, fun l j hl => ?_⟩
    · by_cases e : c = k
      · subst e
        exact ⟨fun j hj => by rw [t2 _ _ (fun q => by have := q.2.2; dsimp only at this; omega)]; exact g1 j hj, fun j hj => by rw [t2 _ _ (fun q => by have := q.2.2; dsimp only at this; omega)]; exact g2 j hj⟩
      · obtain ⟨u1, u2⟩ := t1 c (by omega) hcc
        exact ⟨fun j hj => by rw [u1 j hj, g3 _ _ (pl_n hne.symm) (pl_n hne.symm)], fun j hj => by rw [u2 j hj, g3 _ _ (pl_n hne.symm) (pl_n hne.symm)]⟩
    · obtain ⟨t, n', k'⟩ := l
      dsimp only at hl
      rw [t2 _ _ (fun q => hl ⟨q.1, q.2.1, by have := q.2.2; dsimp only at this; omega⟩)]
      exact g3 _ _ (fun e => by obtain ⟨rfl, rfl, rfl⟩ := pl_e e; exact hl ⟨rfl, Or.inl rfl, Nat.le_refl _⟩) (fun e => by obtain ⟨rfl, rfl, rfl⟩ := pl_e e; exact hl ⟨rfl, Or.inr rfl, Nat.le_refl _⟩)
/-- a network's entries all over, copied -/
theorem nw.copy {M' : am_M} {ar : List Nat} (hok : ml_ok B a) (h : nw n2 a M ar) (h13 : ∀ j, j = 0 ∨ j = 1 ∨ j = 5 ∨ j = 7 → M' (13, n, 0) j = M (13, n2, 0) j) (h16 : ∀ j, j < 9 → M' (16, n, 0) j = M (16, n2, 0) j) (h18 : ∀ j, j < 16 → M' (18, n, 0) j = M (18, n2, 0) j) (h21 : ∀ c, c < a 1 → ∀ j, j < 7 → M' (21, n, c) j = M (21, n2, c) j) (h22 : ∀ c, c < a 1 → ∀ j, j < 16 → M' (22, n, c) j = M (22, n2, c) j) (h23 : ∀ c, c < 5 → ∀ j, j < 2 → M' (23, n, c) j = M (23, n2, c) j) (h24 : ∀ c, c < a 2 → ∀ j, j < 9 → M' (24, n, c) j = M (24, n2, c) j) (h25 : ∀ c, c < a 2 → ∀ j, j < 8 → M' (25, n, c) j = M (25, n2, c) j) : nw n a M' ar := by
  obtain ⟨⟨h1, h5⟩, q, hQ, hR, hl, hg⟩ := h
  have b1 := hok.1.1
  have b2 := hok.1.2.1
  refine ⟨⟨fun t k j hG => ?_, fun m hm => ?_⟩, q, fun c hc => ⟨?_, fun i x hx => ?_⟩, ⟨?_, fun i x hx => ?_⟩, hl, hg⟩
  · rw [← h1 t k j hG]
    rcases hG.t with rfl | rfl | rfl | rfl | rfl | rfl
    · obtain ⟨rfl, hj⟩ := hG
      exact h13 j (by omega)
    · obtain ⟨rfl, hj⟩ := hG
      exact h16 j (by omega)
    · obtain ⟨g1, g2⟩ := hG
      exact h21 k g1 j (by omega)
    · obtain ⟨g1, g2⟩ := hG
      exact h23 k (by omega) j g2
    · obtain ⟨g1, g2, g3⟩ := hG
      exact h24 k g1 j (by omega)
    · obtain ⟨g1, g2⟩ := hG
      exact h25 k g1 j (by have := (hok.2 k g1).2.2.2.2.1; omega)
  · rw [h24 m hm 5 (by omega)]; exact h5 m hm
  · rw [h21 c hc 6 (by omega)]; exact (hQ c hc).1
  · have hlen := (hl.1 c hc).len
    have hi := (List.getElem?_eq_some_iff.mp hx).1
    rw [h22 c hc i (by omega)]; exact (hQ c hc).2 i x hx
  · rw [h13 7 (by omega)]; exact hR.1
  · have hlen := hl.2.1.len
    have hi := (List.getElem?_eq_some_iff.mp hx).1
    rw [h18 i (by omega)]; exact hR.2 i x hx
theorem k34 {ar : List Nat} (hn : n < 12) (hn2 : n2 < 12) (hne : n ≠ n2) (hok : ml_ok B a) (h : nw n2 a M ar) : ∃ M', am_ev (d + 2) 34 [am_P (13, n, 0), am_P (13, n2, 0)] M (am_Z w) = some (.inl none, M', am_Z w) ∧ nw n a M' ar ∧ nw_fo n M M' := by
  have h' := h
  obtain ⟨⟨h1, h5⟩, q, hQ, hR, hl, hg⟩ := h
  have b1 := hok.1.1
  have b2 := hok.1.2.1
  have h2 : ((13, n2, 0) : am_L) ≠ (13, n, 0) := pl_n hne.symm
  rw [e34 hn hn2, b34_8 hn hn2]
  generalize hA : am_set (am_set M (13, n, 0) 0 (M (13, n2, 0) 0)) (13, n, 0) 1 (am_set M (13, n, 0) 0 (M (13, n2, 0) 0) (13, n2, 0) 1) = MA
  have sA := ((cpP.rf (13, n, 0) (13, n2, 0) M).step h2).step h2
  rw [hA] at sA
  obtain ⟨MB, eB, b3, b4⟩ := l34a (d := d) (w := w) hn hn2 hne b1 (a 1) 0 MA (by omega) (by rw [sA.1 1 (by omega)]; exact h1.cc)
  rw [eB]
  obtain ⟨MC, eC, c3, c4⟩ := l34b (d := d + 1) (w := w) hn hn2 hne 5 0 MB (by omega)
  rw [eC, b34_111 hn hn2]
  generalize hD : am_set (am_cp MC (16, n2, 0) (16, n, 0) 0 0 9) (13, n, 0) 5 (am_cp MC (16, n2, 0) (16, n, 0) 0 0 9 (13, n2, 0) 5) = MD
  have base : ∀ t k j, t ≠ 16 ∨ True → M (t, n2, k) j = M (t, n2, k) j := fun _ _ _ _ => rfl
  have oA : ∀ t k j, MA (t, n2, k) j = M (t, n2, k) j := fun t k j => sA.2 _ _ (Or.inl (pl_n hne.symm))
  have oB : ∀ t k j, MB (t, n2, k) j = M (t, n2, k) j := fun t k j => by rw [b4 _ _ (fun z => hne.symm z.1)]; exact oA t k j
  have oC : ∀ t k j, MC (t, n2, k) j = M (t, n2, k) j := fun t k j => by rw [c4 _ _ (fun z => hne.symm z.1)]; exact oB t k j
  have oD : ∀ t k j, MD (t, n2, k) j = M (t, n2, k) j := fun t k j => by rw [← hD, as_n hne.symm, cp_ne (pl_n hne.symm)]; exact oC t k j
  have hD5 : MD (13, n, 0) 5 = nI (a 2) := by rw [← hD, as_eq, cp_ne (pl_n hne.symm), oC]; exact h1.mc
  obtain ⟨ME, eE, e3, e4⟩ := l34c (d := d) (w := w) hn hn2 hne b2 (a 2) 0 MD (by omega) hD5 (fun m hm => by
    rw [oD, h1.hrd hm]
    have := (hok.2 m hm).2.2.2.2.2.2.2.2.1
    exact am_pc01 (by omega))
  rw [eE]
  have oE : ∀ t k j, ME (t, n2, k) j = M (t, n2, k) j := fun t k j => by rw [e4 _ _ (fun z => hne.symm z.1)]; exact oD t k j
  -- entries of the network n from stage to stage
  have fE : ∀ t k j, t ≠ 24 → t ≠ 25 → ME (t, n, k) j = MD (t, n, k) j := fun t k j h24 h25 => e4 _ _ (fun z => by have := z.2.1; dsimp only at this; omega)
  have fD : ∀ t k j, t ≠ 13 → t ≠ 16 → MD (t, n, k) j = MC (t, n, k) j := fun t k j h13 h16 => by rw [← hD, as_t h13, cp_ne (pl_t h16)]
  have fC : ∀ t k j, t ≠ 23 → MC (t, n, k) j = MB (t, n, k) j := fun t k j h23 => c4 _ _ (fun z => h23 z.2.1)
  have fB : ∀ t k j, t ≠ 21 → t ≠ 22 → MB (t, n, k) j = MA (t, n, k) j := fun t k j h21 h22 => b4 _ _ (fun z => by have := z.2.1; dsimp only at this; omega)
  refine ⟨_, rfl, nw.copy hok h' (fun j hj => ?_) (fun j hj => ?_) (fun j hj => ?_) (fun c hc j hj => ?_) (fun c hc j hj => ?_) (fun c hc j hj => ?_) (fun c hc j hj => ?_) (fun c hc j hj => ?_), fun l j hl => ?_⟩
  · rw [cp_ne (pl_t (by decide))]
    by_cases e7 : j = 7
    · subst e7; rw [as_eq, oE]
    · rw [as_j e7, fE _ _ _ (by decide) (by decide), ← hD]
      by_cases e5 : j = 5
      · subst e5; rw [as_eq, cp_ne (pl_n hne.symm), oC]
      · rw [as_j e5, cp_ne (pl_t (by decide)), fC _ _ _ (by decide), fB _ _ _ (by decide) (by decide)]
        exact sA.1 j (by omega)
  · rw [cp_ne (pl_t (by decide)), as_t (by decide), fE _ _ _ (by decide) (by decide), ← hD, as_t (by decide), cp_in hj, oC]
  · rw [cp_in hj, as_n hne.symm, oE]
  · rw [cp_ne (pl_t (by decide)), as_t (by decide), fE _ _ _ (by decide) (by decide), fD _ _ _ (by decide) (by decide), fC _ _ _ (by decide), (b3 c (Nat.zero_le _) hc).1 j hj, oA]
  · rw [cp_ne (pl_t (by decide)), as_t (by decide), fE _ _ _ (by decide) (by decide), fD _ _ _ (by decide) (by decide), fC _ _ _ (by decide), (b3 c (Nat.zero_le _) hc).2 j hj, oA]
  · rw [cp_ne (pl_t (by decide)), as_t (by decide), fE _ _ _ (by decide) (by decide), fD _ _ _ (by decide) (by decide), c3 c (Nat.zero_le _) hc j hj, oB]
  · rw [cp_ne (pl_t (by decide)), as_t (by decide), (e3 c (Nat.zero_le _) hc).1 j hj, oD]
  · rw [cp_ne (pl_t (by decide)), as_t (by decide), (e3 c (Nat.zero_le _) hc).2 j hj, oD]
  · obtain ⟨t, n', k'⟩ := l
    dsimp only at hl
    have ne : ∀ t0 k0, 13 ≤ t0 → t0 ≤ 25 → ((t, n', k') : am_L) ≠ (t0, n, k0) := fun t0 k0 u1 u2 e => by
      have e1 := (Prod.mk.inj e).1
      have e2 := (Prod.mk.inj (Prod.mk.inj e).2).1
      omega
    rw [cp_ne (ne _ _ (by decide) (by decide)), as_ne (fun z => ne _ _ (by decide) (by decide) z.1), e4 _ _ (fun z => by have := z.1; have := z.2.1; dsimp only at *; omega), ← hD, as_ne (fun z => ne _ _ (by decide) (by decide) z.1), cp_ne (ne _ _ (by decide) (by decide)), c4 _ _ (fun z => by have := z.1; have := z.2.1; dsimp only at *; omega), b4 _ _ (fun z => by have := z.1; have := z.2.1; dsimp only at *; omega)]
    exact sA.2 _ _ (Or.inl (ne _ _ (by decide) (by decide)))
end Ktf
