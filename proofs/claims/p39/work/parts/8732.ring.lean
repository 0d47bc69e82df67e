/-! THE CLASS'S SMALL METHODS, AND RING -/
section Kri
variable {d n B : Nat} {M : am_M} {a : Nat → Nat} {w : am_W4}
theorem k38 (hn : n < 12) (h : nwF n a M) (h0 : a 0 < 1073741824) : am_ev (d + 1) 38 [am_P (13, n, 0)] M (am_Z w) = some (.inl (some (am_I (nI (a 0 % 24)))), M, am_Z w) := by
  rw [e38 hn, h.hour, pk_rem (by omega) (by decide) (by decide)]
theorem k18 {c : Nat} (hn : n < 12) (h : nwF n a M) (hb : ml_b B a) (hc : c < a 1) : am_ev (d + 1) 18 [am_P (21, n, c), am_I (nI (a 0 % 24))] M (am_Z w) = some (.inl (some (am_I (nI (ml_silent a c).toNat))), M, am_Z w) := by
  obtain ⟨b1, b2, b3, b4, b5, b6, b7⟩ := hb
  have hf := b5 c 2 (by omega) (by omega)
  have hu := b5 c 3 (by omega) (by omega)
  rw [e18 hn (by omega), h.cv hc (show 2 < 6 by decide), h.cv hc (show 3 < 6 by decide)]
  simp (disch := omega) only [nI_ltJ]
  unfold ml_silent
  generalize a (12 + 6 * c + 2) = f at *
  generalize a (12 + 6 * c + 3) = u at *
  generalize a 0 % 24 = x at *
  by_cases h1 : u < f
  · rw [if_pos h1]
    have e1 : f ≠ u := by omega
    have e2 : ¬ f < u := by omega
    simp only [e1, e2, if_false, ne_eq, not_false_eq_true, true_and]
    by_cases h3 : x < f
    · rw [if_pos h3]
      by_cases h4 : x < u
      · rw [if_pos h4, decide_eq_true (Or.inr h4)]; rfl
      · rw [if_neg h4, decide_eq_false (fun q => by omega)]; rfl
    · rw [if_neg h3, decide_eq_true (Or.inl (by omega))]; rfl
  · rw [if_neg h1]
    by_cases h3 : x < f
    · rw [if_pos h3, decide_eq_false (fun q => by
        obtain ⟨q1, q2⟩ := q
        rw [if_pos (by omega)] at q2
        omega)]; rfl
    · rw [if_neg h3]
      by_cases h4 : x < u
      · rw [if_pos h4, decide_eq_true ⟨by omega, by rw [if_pos (by omega)]; omega⟩]; rfl
      · rw [if_neg h4, decide_eq_false (fun q => by
          obtain ⟨q1, q2⟩ := q
          rw [if_pos (by omega)] at q2
          omega)]; rfl
theorem k31 {m : Nat} (hn : n < 12) (h : nwF n a M) (hm : m < a 2) (hm16 : m < 16) (h1 : a (60 + 19 * m + 1) < 1000) (h2 : a (60 + 19 * m + 2) < 1000) (hne : a (60 + 19 * m + 1) ≠ a (60 + 19 * m + 2)) : am_ev (d + 1) 31 [am_P (24, n, m), am_I (nI (a (60 + 19 * m + 2)))] M (am_Z w) = some (.inl (some (am_I (nI (ml_next a m)))), M, am_Z w) := by
  rw [e31 hn hm16, h.mto hm]
  simp (disch := omega) only [nI_ltJ]
  unfold ml_next
  by_cases h3 : a (60 + 19 * m + 2) < a (60 + 19 * m + 1)
  · rw [if_pos h3, if_pos h3, nI_add]
  · rw [if_neg h3, if_neg h3, pk_sub (by omega)]
theorem k35c {x c : Nat} (hn : n < 12) (h : M (13, n, 0) 1 = nI c) (h1 : c ≤ 6) (hx : x < c) : am_ev (d + 1) 35 [am_P (13, n, 0), am_I (nI x)] M (am_Z w) = some (.inl (some (am_I (nI 1))), M, am_Z w) := by
  rw [e35 hn, h, if_neg (nI_pos (by omega)), if_pos (nI_lt hx (by omega))]
theorem k35n {x : Nat} (hn : n < 12) (h : nwF n a M) (h1 : a 1 ≤ 6) (hx : x < a 1) : am_ev (d + 1) 35 [am_P (13, n, 0), am_I (nI x)] M (am_Z w) = some (.inl (some (am_I (nI 1))), M, am_Z w) := by
  rw [e35 hn, h.cc, if_neg (nI_pos (by omega)), if_pos (nI_lt hx (by omega))]
theorem k37n {x : Nat} (hn : n < 12) (h : nwF n a M) (h1 : a 2 ≤ 16) (hx : x < a 2) : am_ev (d + 1) 37 [am_P (13, n, 0), am_I (nI x)] M (am_Z w) = some (.inl (some (am_I (nI 1))), M, am_Z w) := by
  rw [e37 hn, h.mc, if_neg (nI_pos (by omega)), if_pos (nI_lt hx (by omega))]
theorem k37m (hn : n < 12) : am_ev (d + 1) 37 [am_P (13, n, 0), am_I (-1 : Int32)] M (am_Z w) = some (.inl (some (am_I (nI 0))), M, am_Z w) := by
  rw [e37 hn, if_pos (show (-1 : Int32) < 0 by decide)]
theorem k228n {c : Nat} {l : List Nat} (hn : n < 12) (hc : c < 6) (h6 : M (21, n, c) 6 = nI l.length) (hl : l.length = 0) : am_ev (d + 1) 228 [am_P (21, n, c)] M (am_Z w) = some (.inl (some (am_I (-1 : Int32))), M, am_Z w) := by
  rw [e228 hn hc, h6, hl, if_neg (show ¬ (0 : Int32) < nI 0 by decide)]
theorem k228s {c y : Nat} {l : List Nat} (hn : n < 12) (hc : c < 6) (h6 : M (21, n, c) 6 = nI l.length) (hl : l.length < 1000) (hy : l[0]? = some y) (h2 : M (22, n, c) 0 = nI y) : am_ev (d + 1) 228 [am_P (21, n, c)] M (am_Z w) = some (.inl (some (am_I (nI y))), M, am_Z w) := by
  have h0 : 0 < l.length := (List.getElem?_eq_some_iff.mp hy).1
  rw [e228 hn hc, h6, if_pos (show (0 : Int32) < nI l.length from nI_lt (a := 0) h0 (by omega)), h2]
theorem k231 {x : Nat} (h1 : 1 ≤ x) (h8 : x ≤ 8) : am_ev (d + 1) 231 [am_I (nI x)] M (am_Z w) = some (.inl (some (am_I (nI 1))), M, am_Z w) := by
  rw [e231, if_neg (nI_nlt (by omega) (by omega)), if_neg (nI_nlt (by omega) (by omega))]
theorem k231z : am_ev (d + 1) 231 [am_I (nI 0)] M (am_Z w) = some (.inl (some (am_I (nI 0))), M, am_Z w) := by
  rw [e231, if_pos (show nI 0 < nI 1 by decide)]
theorem k231x {x : Int32} : am_ev (d + 1) 231 [am_I x] M (am_Z w) = some (.inl (some (am_I (nI (decide (am_bt x 1 8)).toNat))), M, am_Z w) := by
  rw [e231]
  by_cases h1 : x < nI 1
  · rw [if_pos h1, decide_eq_false (fun q => q.1 h1)]; rfl
  · rw [if_neg h1]
    by_cases h2 : nI 8 < x
    · rw [if_pos h2, decide_eq_false (fun q => q.2 h2)]; rfl
    · rw [if_neg h2, decide_eq_true ⟨h1, h2⟩]; rfl
theorem k29 {m p s : Nat} (hn : n < 12) (hm16 : m < 16) (hp : M (24, n, m) 5 = nI p) (hs : M (24, n, m) 8 = nI s) (h1 : p < 1000) (h2 : s < 1000) : am_ev (d + 1) 29 [am_P (24, n, m)] M (am_Z w) = some (.inl (some (am_I (nI (decide (s ≤ p)).toNat))), M, am_Z w) := by
  rw [e29 hn hm16, hp, hs]
  simp (disch := omega) only [nI_ltJ]
  by_cases h : p < s
  · rw [if_pos h, decide_eq_false (by omega)]; rfl
  · rw [if_neg h, decide_eq_true (by omega)]; rfl
theorem k30 {m p s : Nat} (hn : n < 12) (hm16 : m < 16) (hp : M (24, n, m) 5 = nI p) (hs : M (24, n, m) 8 = nI s) (h1 : p < s) (h2 : s ≤ 8) : am_ev (d + 1) 30 [am_P (24, n, m)] M (am_Z w) = some (.inl (some (am_I (M (25, n, m) p))), M, am_Z w) := by
  rw [e30 hn hm16, hp, hs, if_pos (nI_lt h1 (by omega)), if_pos (by rw [am_inT (by omega) (by omega)]; trivial), nI_clamp (by omega)]
theorem k229 {m p s : Nat} (hn : n < 12) (hm16 : m < 16) (hp : M (24, n, m) 5 = nI p) (hs : M (24, n, m) 8 = nI s) (h1 : p < s) (h2 : s ≤ 8) : am_ev (d + 1) 229 [am_P (24, n, m)] M (am_Z w) = some (.inl none, am_set M (25, n, m) p (nI 0), am_Z w) := by
  rw [e229 hn hm16, hp, hs, if_pos (nI_lt h1 (by omega)), if_pos (by rw [am_inT (by omega) (by omega)]; trivial), nI_clamp (by omega)]
theorem k54 {c l : Nat} (hn : n < 12) (h : nwF n a M) (hc1 : a 1 ≤ 6) (hc : c < a 1) (hl : l < a 1) (hadj : l + 1 = c ∨ c + 1 = l) : am_ev (d + 1) 54 [am_P (13, n, 0), am_I (nI c), am_I (nI l)] M (am_Z w) = some (.inl (some (am_I (ml_str a c l (if l < c then l else c)))), M, am_Z w) := by
  rw [e54 hn]
  simp (disch := omega) only [nI_ltJ]
  by_cases h1 : c < l
  · rw [if_pos h1, b54_14 hn, if_neg (show ¬ l < c by omega)]
    simp (disch := omega) only [am_inT, if_true, nI_clamp]
    rw [h.cv hc (show 0 < 6 by decide), h.cv hl (show 1 < 6 by decide), h.rl (by omega), h.rw (by omega), pk_mul]
    rfl
  · rw [if_neg h1, b54_14 hn, if_pos (show l < c by omega)]
    simp (disch := omega) only [am_inT, if_true, nI_clamp]
    rw [h.cv hc (show 0 < 6 by decide), h.cv hl (show 1 < 6 by decide), h.rl (by omega), h.rw (by omega), pk_mul]
    rfl
theorem k55 {c l : Nat} (hn : n < 12) (h : nwF n a M) (hb : ml_b B a) (hc : c < a 1) (hl : l < a 1) (hadj : l + 1 = c ∨ c + 1 = l) : am_ev (d + 2) 55 [am_P (13, n, 0), am_I (nI c), am_I (nI l)] M (am_Z w) = some (.inl (some (am_I (nI (ml_heard a c l).toNat))), M, am_Z w) := by
  obtain ⟨b1, b2, b3, b4, b5, b6, b7⟩ := hb
  have he := b5 l 1 (by omega) (by omega)
  rw [e55 hn, k35n hn h b1 hl]
  simp (disch := omega) only [am_cb_i, am_cb_e, Option.toList_some, Option.toList_none, List.cons_append, List.nil_append]
  rw [b55_5 hn, if_neg (show ¬ nI 1 = 0 by decide)]
  simp (disch := omega) only [am_inT, if_true, nI_clamp]
  rw [h.cv hl (show 1 < 6 by decide)]
  simp (disch := omega) only [nI_z]
  unfold ml_heard
  by_cases h0 : a (12 + 6 * l + 1) = 0
  · rw [if_pos h0, decide_eq_false (fun q => by omega)]; rfl
  · rw [if_neg h0, k54 hn h b1 hc hl hadj]
    simp (disch := omega) only [am_cb_i, am_cb_e, Option.toList_some, Option.toList_none, List.cons_append, List.nil_append]
    rw [b55_26 hn]
    by_cases h1 : ml_str a c l (if l < c then l else c) < nI 10
    · rw [if_pos h1, decide_eq_false (fun q => q.1 h1)]; rfl
    · rw [if_neg h1, decide_eq_true ⟨h1, by omega⟩]; rfl
theorem k230 {s : Nat} (hn : n < 12) (hs : s ≤ 8) (hp : 1 ≤ s → M (16, n, 0) s = nI (a (3 + s))) (hb : 1 ≤ s → a (3 + s) < 1000) : am_ev (d + 1) 230 [am_P (13, n, 0), am_I (nI s)] M (am_Z w) = some (.inl (some (am_I (nI (ml_hrs a s)))), M, am_Z w) := by
  rw [e230 hn]
  unfold ml_hrs
  by_cases h0 : s = 0
  · subst h0
    rw [if_pos (show nI 0 < nI 1 by decide), if_pos rfl]
  · have hb := hb (by omega)
    rw [if_neg (nI_nlt (by omega) (by omega)), if_neg (nI_nlt (by omega) (by omega)), if_pos (by rw [am_inT (by omega) (by omega)]; trivial), nI_clamp (by omega), hp (by omega), pk_rem (by omega) (by decide) (by decide), nI_add, if_neg h0, show 4 + s - 1 = 3 + s by omega]
/-- the memory behind makeDue -/
theorem k28 {m : Nat} {x : Int32} (hn : n < 12) (hm16 : m < 16) : am_ev (d + 1) 28 [am_P (24, n, m), am_I x] M (am_Z w) = some (.inl none, am_set (am_set (am_set M (24, n, m) 5 x) (24, n, m) 6 (nI 0)) (24, n, m) 7 (nI 1), am_Z w) := e28 hn hm16
theorem nw1.due {m p : Nat} {b : Nat → Nat} (hS : nwS a) (hC : nwC a b) (h : nwF n b M) (hm : m < a 2) : nwF n (nu (nu b (60 + 19 * m + 5) 0) (60 + 19 * m + 9) 1) (am_set (am_set (am_set M (24, n, m) 5 (nI p)) (24, n, m) 6 (nI 0)) (24, n, m) 7 (nI 1)) := by
  have c1 : nwC a (nu b (60 + 19 * m + 5) 0) := hC.nu (by omega) (by omega) (by intros; omega) hS.2.1
  have c2 : nwC a (nu (nu b (60 + 19 * m + 5) 0) (60 + 19 * m + 9) 1) := c1.nu (by omega) (by omega) (by intros; omega) hS.2.1
  have h0 : nwF n b (am_set M (24, n, m) 5 (nI p)) := h.out (fun t k e hG => by
    obtain ⟨rfl, -⟩ := Prod.mk.inj e
    exact hG.2.2 rfl)
  exact nwF.set (t := 24) (k := m) (j := 7) hS c1 (nwF.set (t := 24) (k := m) (j := 6) hS hC h0 ⟨hm, by decide, by decide⟩ c1) ⟨hm, by decide, by decide⟩ c2
end Kri
