/-! THE CLASS'S HOUR: who goes -/
def fl (m : Nat) (l : List Nat) : List Nat := l.filter (fun y => decide (y ≠ m))
theorem fl_mem {m x : Nat} {l : List Nat} : x ∈ fl m l ↔ x ∈ l ∧ x ≠ m := by unfold fl; rw [List.mem_filter, decide_eq_true_eq]
theorem fl_len (m : Nat) (l : List Nat) : (fl m l).length ≤ l.length := List.length_filter_le _ _
def lq (b : Nat → Nat) (m : Nat) (q : Nat → List Nat) : Nat → List Nat := fun c => (if c = b (60 + 19 * m + 2) then fl m (q c) else q c) ++ (if ml_next b m ≠ b (60 + 19 * m + 1) ∧ c = ml_next b m then [m] else [])
def lr (b : Nat → Nat) (m : Nat) (ar : List Nat) : List Nat := ar ++ (if ml_next b m = b (60 + 19 * m + 1) then [m] else [])
/-- the lists of a row -/
def nw_l (b : Nat → Nat) (q : Nat → List Nat) (ar : List Nat) : Prop := (∀ c, c < b 1 → q_ok b c (q c)) ∧ r_ok b ar ∧ ∀ m, m < b 2 → b (60 + 19 * m + 8) < b 3
theorem ml_mv_ne {b : Nat → Nat} {m j : Nat} (h3 : j ≠ 3) (h : j ≠ 60 + 19 * m + 10 ∧ j ≠ 60 + 19 * m + 8 ∧ j ≠ 60 + 19 * m + 2 ∧ j ≠ 60 + 19 * m + 6) : ml_mv b m j = b j := by
  unfold ml_mv
  rw [nu_ne h3, nu_ne h.2.1, nu_ne h.2.2.2, nu_ne h.2.2.1, nu_ne h.1]
theorem ml_mv_10 {b : Nat → Nat} {m : Nat} : ml_mv b m (60 + 19 * m + 10) = 0 := by
  unfold ml_mv
  rw [nu_ne (by omega), nu_ne (by omega), nu_ne (by omega), nu_ne (by omega), nu_eq]
theorem ml_mv_2 {b : Nat → Nat} {m : Nat} : ml_mv b m (60 + 19 * m + 2) = ml_next b m := by
  unfold ml_mv
  rw [nu_ne (by omega), nu_ne (by omega), nu_ne (by omega), nu_eq]
theorem ml_mv_6 {b : Nat → Nat} {m : Nat} : ml_mv b m (60 + 19 * m + 6) = if ml_next b m = b (60 + 19 * m + 1) then 1 else b (60 + 19 * m + 6) := by
  unfold ml_mv
  rw [nu_ne (by omega), nu_ne (by omega), nu_eq]
theorem ml_mv_8 {b : Nat → Nat} {m : Nat} : ml_mv b m (60 + 19 * m + 8) = b 3 := by
  unfold ml_mv
  rw [nu_ne (by omega), nu_eq]
theorem ml_mv_3 {b : Nat → Nat} {m : Nat} : ml_mv b m 3 = b 3 + 1 := nu_eq _ _ _
theorem nw_l.mv {b : Nat → Nat} {q : Nat → List Nat} {ar : List Nat} {m : Nat} (h : nw_l b q ar) (hm : m < b 2) (h6 : b (60 + 19 * m + 6) = 0) (hne : ml_next b m ≠ b (60 + 19 * m + 2)) : nw_l (ml_mv b m) (lq b m q) (lr b m ar) := by
  obtain ⟨hq, hr, ht⟩ := h
  have e1 : ml_mv b m 1 = b 1 := ml_mv_ne (by omega) (by omega)
  have e2 : ml_mv b m 2 = b 2 := ml_mv_ne (by omega) (by omega)
  have f : ∀ x g, x ≠ m → g < 19 → ml_mv b m (60 + 19 * x + g) = b (60 + 19 * x + g) := fun x g hx hg => ml_mv_ne (by omega) (by omega)
  have tn : ∀ x, x < b 2 → x ≠ m → ml_mv b m (60 + 19 * x + 8) = b (60 + 19 * x + 8) := fun x _ hx => f x 8 hx (by omega)
  refine ⟨fun c hc => ?_, ?_, fun x hx => ?_⟩
  · rw [e1] at hc
    obtain ⟨hq1, hq2⟩ := hq c hc
    have hbase : ∀ x, x ∈ (if c = b (60 + 19 * m + 2) then fl m (q c) else q c) ↔ x ∈ q c ∧ x ≠ m := by
      intro x
      split
      · exact fl_mem
      · rename_i hcn
        exact ⟨fun z => ⟨z, fun e => hcn (by rw [e] at z; exact ((hq2 m).mp z).2.2.symm)⟩, fun z => z.1⟩
    have hbl : l_inc (fun x => ml_mv b m (60 + 19 * x + 8)) (if c = b (60 + 19 * m + 2) then fl m (q c) else q c) := by
      have h0 : l_inc (fun x => b (60 + 19 * x + 8)) (if c = b (60 + 19 * m + 2) then fl m (q c) else q c) := by
        split
        · exact List.Pairwise.filter _ hq1
        · exact hq1
      exact h0.to (fun x hx => tn x ((hq2 x).mp ((hbase x).mp hx).1).1 ((hbase x).mp hx).2)
    have hL : lq b m q c = (if c = b (60 + 19 * m + 2) then fl m (q c) else q c) ++ (if ml_next b m ≠ b (60 + 19 * m + 1) ∧ c = ml_next b m then [m] else []) := rfl
    generalize (if c = b (60 + 19 * m + 2) then fl m (q c) else q c) = L at *
    rw [hL]
    by_cases hP : ml_next b m ≠ b (60 + 19 * m + 1) ∧ c = ml_next b m
    · rw [if_pos hP]
      refine ⟨hbl.snoc (fun x hx => ?_), fun x => ?_⟩
      · have hx2 := (hbase x).mp hx
        rw [tn x ((hq2 x).mp hx2.1).1 hx2.2, ml_mv_8]
        exact ht x ((hq2 x).mp hx2.1).1
      · rw [List.mem_append, List.mem_singleton, hbase x, e2]
        by_cases hxm : x = m
        · subst hxm
          rw [ml_mv_6, ml_mv_2, if_neg hP.1]
          exact ⟨fun _ => ⟨hm, h6, hP.2.symm⟩, fun _ => Or.inr rfl⟩
        · rw [f x 6 hxm (by omega), f x 2 hxm (by omega), hq2 x]
          exact ⟨fun z => z.elim (fun z => z.1) (fun z => absurd z hxm), fun z => Or.inl ⟨z, hxm⟩⟩
    · rw [if_neg hP, List.append_nil]
      refine ⟨hbl, fun x => ?_⟩
      rw [hbase x, e2]
      by_cases hxm : x = m
      · subst hxm
        rw [ml_mv_6, ml_mv_2]
        refine ⟨fun z => absurd rfl z.2, fun z => ?_⟩
        exfalso
        obtain ⟨z1, z2, z3⟩ := z
        by_cases hf : ml_next b x = b (60 + 19 * x + 1)
        · rw [if_pos hf] at z2
          omega
        · exact hP ⟨hf, z3.symm⟩
      · rw [f x 6 hxm (by omega), f x 2 hxm (by omega), hq2 x]
        exact ⟨fun z => z.1, fun z => ⟨z, hxm⟩⟩
  · obtain ⟨hr1, hr2⟩ := hr
    have hmr : m ∉ ar := fun z => by have := ((hr2 m).mp z).2; omega
    have hbl : l_inc (fun x => ml_mv b m (60 + 19 * x + 8)) ar := hr1.to (fun x hx => tn x ((hr2 x).mp hx).1 (fun e => hmr (by rw [← e]; exact hx)))
    unfold lr
    by_cases hf : ml_next b m = b (60 + 19 * m + 1)
    · rw [if_pos hf]
      refine ⟨hbl.snoc (fun x hx => ?_), fun x => ?_⟩
      · rw [tn x ((hr2 x).mp hx).1 (fun e => hmr (by rw [← e]; exact hx)), ml_mv_8]
        exact ht x ((hr2 x).mp hx).1
      · rw [List.mem_append, List.mem_singleton, e2]
        by_cases hxm : x = m
        · subst hxm
          rw [ml_mv_6, if_pos hf]
          exact ⟨fun _ => ⟨hm, rfl⟩, fun _ => Or.inr rfl⟩
        · rw [f x 6 hxm (by omega), hr2 x]
          exact ⟨fun z => z.elim id (fun z => absurd z hxm), fun z => Or.inl z⟩
    · rw [if_neg hf, List.append_nil]
      refine ⟨hbl, fun x => ?_⟩
      rw [e2]
      by_cases hxm : x = m
      · subst hxm
        rw [ml_mv_6, if_neg hf, hr2 x]
      · rw [f x 6 hxm (by omega), hr2 x]
  · rw [e2] at hx
    rw [ml_mv_3]
    by_cases hxm : x = m
    · subst hxm
      rw [ml_mv_8]; omega
    · rw [tn x hx hxm]
      have := ht x hx
      omega
section Kp2
variable {d n B : Nat} {M M0 : am_M} {a : Nat → Nat} {w : am_W4}
theorem take_snoc {l : List Nat} {p : Nat} (h : p < l.length) : l.take (p + 1) = l.take p ++ [l[p]] := by rw [List.take_add_one, List.getElem?_eq_getElem h]; rfl
theorem l20 {c x : Nat} {l : List Nat} (hn : n < 12) (hc : c < 6) (hx : x < 1000) (hl : l.length ≤ 16) (hs : ∀ y ∈ l, y < 1000) : ∀ r p (M' : am_M), p + r = l.length → M' (21, n, c) 6 = nI l.length → (∀ i y, (fl x (l.take p))[i]? = some y → M' (22, n, c) i = nI y) → (∀ i y, p ≤ i → l[i]? = some y → M' (22, n, c) i = nI y) → (∀ (l' : am_L) (j : Nat), l' ≠ (22, n, c) → M' l' j = M l' j) →
    ∃ M'', am_rn (am_ev d) 20 4 [some (am_P (21, n, c)), some (am_I (nI x)), some (am_I (nI (fl x (l.take p)).length)), some (am_I (nI p))] [] M' (am_Z w) = some (.inl none, M'', am_Z w) ∧ M'' (21, n, c) 6 = nI (fl x l).length ∧ (∀ i y, (fl x l)[i]? = some y → M'' (22, n, c) i = nI y) ∧ (∀ (l' : am_L) (j : Nat), l' ≠ (22, n, c) → ¬ (l' = (21, n, c) ∧ j = 6) → M'' l' j = M l' j) := by
  intro r
  induction r with
  | zero =>
    intro p M' hp h6 h1 h2 h3
    rw [b20_4 hn hc, h6, if_neg (nI_nlt (by omega) (by omega))]
    have ht : l.take p = l := List.take_of_length_le (by omega)
    rw [ht] at h1 ⊢
    refine ⟨_, rfl, as_eq _ _ _ _, fun i y hy => ?_, fun l' j hl' hj => ?_⟩
    · rw [as_t (by decide)]; exact h1 i y hy
    · rw [as_ne hj]; exact h3 l' j hl'
  | succ r ih =>
    intro p M' hp h6 h1 h2 h3
    have hpl : p < l.length := by omega
    have hy := h2 p l[p] (Nat.le_refl _) (List.getElem?_eq_getElem hpl)
    have hys := hs l[p] (List.getElem_mem hpl)
    have hfl : (fl x (l.take p)).length ≤ p := Nat.le_trans (fl_len _ _) (by rw [List.length_take]; omega)
    have hyc : M' (22, n, c) (nI p).toNatClampNeg = nI l[p] := by rw [nI_clamp (by omega)]; exact hy
    rw [b20_4 hn hc, h6, if_pos (nI_lt hpl (by omega)), if_pos (by rw [am_inT (by omega) (by omega)]; trivial)]
    have hfs : fl x (l.take (p + 1)) = fl x (l.take p) ++ (if l[p] = x then [] else [l[p]]) := by
      rw [take_snoc hpl]
      unfold fl
      rw [List.filter_append]
      congr 1
      by_cases e : l[p] = x
      · rw [if_pos e]; simp [e]
      · rw [if_neg e]; simp [e]
    by_cases e : l[p] = x
    · rw [if_pos (by rw [hyc, e]), b20_37 hn hc, nI_add]
      rw [if_pos e, List.append_nil] at hfs
      rw [← hfs]
      exact ih (p + 1) M' (by omega) h6 (by rw [hfs]; exact h1) (fun i y hi hy => h2 i y (by omega) hy) h3
    · rw [if_neg (by rw [hyc, nI_eqI (by omega) (by omega)]; exact e), if_pos (by rw [am_inT (by omega) (by omega)]; trivial), if_pos (by rw [am_inT (by omega) (by omega)]; trivial), hyc, nI_clamp (by omega), b20_37 hn hc, nI_add, nI_add]
      rw [if_neg e] at hfs
      have hlen : (fl x (l.take (p + 1))).length = (fl x (l.take p)).length + 1 := by rw [hfs, List.length_append]; rfl
      rw [← hlen]
      refine ih (p + 1) _ (by omega) (by rw [as_t (by decide)]; exact h6) (fun i y hiy => ?_) (fun i y hi hiy => ?_) (fun l' j hl' => ?_)
      · rw [hfs] at hiy
        rcases Nat.lt_or_ge i (fl x (l.take p)).length with hi | hi
        · rw [List.getElem?_append_left hi] at hiy
          rw [as_j (by omega)]
          exact h1 i y hiy
        · rw [List.getElem?_append_right hi] at hiy
          have hi2 : i = (fl x (l.take p)).length := by
            have := (List.getElem?_eq_some_iff.mp hiy).1
            simp at this
            omega
          subst hi2
          simp at hiy
          subst hiy
          exact as_eq _ _ _ _
      · rw [as_j (by omega)]
        exact h2 i y (by omega) hiy
      · rw [as_ne (fun z => hl' z.1)]
        exact h3 l' j hl'
theorem k20 {c x : Nat} {l : List Nat} (hn : n < 12) (hc : c < 6) (hx : x < 1000) (hl : l.length ≤ 16) (hs : ∀ y ∈ l, y < 1000) (h6 : M (21, n, c) 6 = nI l.length) (h2 : ∀ i y, l[i]? = some y → M (22, n, c) i = nI y) :
    ∃ M'', am_ev (d + 1) 20 [am_P (21, n, c), am_I (nI x)] M (am_Z w) = some (.inl none, M'', am_Z w) ∧ M'' (21, n, c) 6 = nI (fl x l).length ∧ (∀ i y, (fl x l)[i]? = some y → M'' (22, n, c) i = nI y) ∧ (∀ (l' : am_L) (j : Nat), l' ≠ (22, n, c) → ¬ (l' = (21, n, c) ∧ j = 6) → M'' l' j = M l' j) := by
  rw [e20 hn hc]
  exact l20 hn hc hx hl hs l.length 0 M (by omega) h6 (fun i y h => by simp [fl] at h) (fun i y _ h => h2 i y h) (fun _ _ _ => rfl)
theorem k19 {c x : Nat} {l : List Nat} (hn : n < 12) (hc : c < 6) (hl : l.length < 16) (h6 : M (21, n, c) 6 = nI l.length) : am_ev (d + 1) 19 [am_P (21, n, c), am_I (nI x)] M (am_Z w) = some (.inl none, am_set (am_set M (22, n, c) l.length (nI x)) (21, n, c) 6 (nI (l.length + 1)), am_Z w) := by
  rw [e19 hn hc, h6, if_pos (nI_lt (by omega) (by omega)), if_pos (by rw [am_inT (by omega) (by omega)]; trivial), nI_clamp (by omega), b19_19 hn hc, as_t (by decide), h6, nI_add]
theorem k52 {m : Nat} {ar : List Nat} (hn : n < 12) (hm : m < 16) (hl : ar.length < 16) (h7 : M (13, n, 0) 7 = nI ar.length) : am_ev (d + 1) 52 [am_P (13, n, 0), am_P (24, n, m), am_I (nI m)] M (am_Z w) = some (.inl none, am_set (am_set (am_set M (24, n, m) 3 (nI 1)) (18, n, 0) ar.length (nI m)) (13, n, 0) 7 (nI (ar.length + 1)), am_Z w) := by
  rw [e52 hn hm, b52_5 hn hm, as_t (by decide), h7, if_pos (nI_lt (by omega) (by omega)), if_pos (by rw [am_inT (by omega) (by omega)]; trivial), nI_clamp (by omega), b52_24 hn hm, as_t (by decide), as_t (by decide), h7, nI_add]
end Kp2
