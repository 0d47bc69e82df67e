/-! THE LAW'S CALLS, ONE BY ONE -/
theorem qin.v {cd : List (Nat × Nat)} {v : Int32} : qin cd (.inl v) := fun E k h => absurd h (by simp)
theorem qin.e {cd : List (Nat × Nat)} {E k : Nat} (h : (E, k) ∈ cd) : qin cd (.inr (E, k)) := fun E' k' h' => by
  obtain ⟨rfl, rfl⟩ := Prod.mk.inj (Sum.inr.inj h')
  exact h
theorem qin.ite {cd : List (Nat × Nat)} {p : Prop} [Decidable p] {a b : Qo} (h1 : qin cd a) (h2 : qin cd b) : qin cd (if p then a else b) := by
  by_cases h : p
  · rw [if_pos h]; exact h1
  · rw [if_neg h]; exact h2
theorem qin_q_all {a : Nat → Nat} {n1 n2 : Nat} {x : Int32} : qin [(2, 1)] (q_all a n1 n2 x) := by
  unfold q_all
  iterate 12 refine qin.ite qin.v ?_
  exact qin.e (by decide)
theorem qin_q_cnv {a : Nat → Nat} {x y : Int32} : qin [(1, 1), (2, 2)] (q_cnv a x y) := by
  intro E k h
  unfold q_cnv at h
  repeat' split at h
  all_goals (cases h <;> decide)
theorem qin_q_rng {a : Nat → Nat} {x y : Int32} : qin [(1, 1), (2, 2)] (q_rng a x y) := by
  intro E k h
  unfold q_rng at h
  repeat' split at h
  all_goals (cases h <;> decide)
theorem qin_q_psl {a : Nat → Nat} {x : Int32} : qin [(2, 1)] (q_psl a x) := by
  intro E k h
  unfold q_psl at h
  repeat' split at h
  all_goals (cases h <;> decide)
theorem qin_q_msg {a : Nat → Nat} {x y : Int32} : qin [(1, 1), (2, 2)] (q_msg a x y) := by
  intro E k h
  unfold q_msg at h
  repeat' split at h
  all_goals (cases h <;> decide)
theorem qin_q_sig {a : Nat → Nat} {x y : Int32} : qin [(1, 1)] (q_sig a x y) := by
  intro E k h
  unfold q_sig at h
  repeat' split at h
  all_goals (cases h <;> decide)
theorem qin_q_mas {a : Nat → Nat} {x : Int32} : qin [(1, 1)] (q_mas a x) := by
  intro E k h
  unfold q_mas at h
  repeat' split at h
  all_goals (cases h <;> decide)
theorem qin_q_que {a : Nat → Nat} {x y : Int32} : qin [(1, 1), (3, 2)] (q_que a x y) := by
  intro E k h
  unfold q_que at h
  repeat' split at h
  all_goals (cases h <;> decide)
theorem qin_q_arr {a : Nat → Nat} {x : Int32} : qin [(3, 1)] (q_arr a x) := by
  intro E k h
  unfold q_arr at h
  repeat' split at h
  all_goals (cases h <;> decide)
theorem qin_q_str {a : Nat → Nat} {x y : Int32} : qin [(1, 1), (3, 2)] (q_str a x y) := by
  intro E k h
  unfold q_str at h
  repeat' split at h
  all_goals (cases h <;> decide)
theorem qin_q_hrd {a : Nat → Nat} {x y : Int32} : qin [(1, 1), (3, 2)] (q_hrd a x y) := by
  intro E k h
  unfold q_hrd at h
  repeat' split at h
  all_goals (cases h <;> decide)
theorem qin_q_wnd {a : Nat → Nat} {x y : Int32} : qin [(1, 1), (2, 2)] (q_wnd a x y) := by
  intro E k h
  unfold q_wnd at h
  repeat' split at h
  all_goals (cases h <;> decide)
theorem qin_q_rnk {a : Nat → Nat} {x : Int32} : qin [(3, 1)] (q_rnk a x) := by
  intro E k h
  unfold q_rnk at h
  repeat' split at h
  all_goals (cases h <;> decide)
theorem qin_q_why {R : Int32 × Int32 × Int32} {x : Int32} : qin [(2, 1), (3, 2)] (q_why R x) := by
  intro E k h
  unfold q_why at h
  repeat' split at h
  all_goals (cases h <;> decide)
theorem qin_q_ltr {ln : List Int32} {x : Int32} : qin [(1, 1)] (q_ltr ln x) := by
  intro E k h
  unfold q_ltr at h
  repeat' split at h
  all_goals (cases h <;> decide)
theorem qin_tri {a : Nat → Nat} {x : Int32} {n : Nat} : qin [(1, 1), (3, 2)] (q_tri a x n) := by
  intro E k h
  unfold q_tri at h
  repeat' split at h
  all_goals (cases h <;> decide)
/-- the law's locals -/
abbrev L9 (i : Int32) (x6 x7 x8 : Option am_V) : am_S := [some (am_P (0, 0, 0)), some (am_P (3, 0, 0)), some (am_P (30, 0, 0)), some (am_P (1, 0, 0)), some (am_P (2, 0, 0)), some (am_I i), x6, x7, x8]
/-- a call is through: the loop goes on -/
def goO (i B : Nat) (M : am_M) (w : am_W4) (r : Option am_R) : Prop := ∃ x6 x7 x8 M' w', r = am_rn (am_ev 12) 227 2276 (L9 (nI i) x6 x7 x8) [] M' (am_Z w') ∧ lwI (B + 400000) M' ∧ lF M M' ∧ wB w w'
theorem go_of {i B : Nat} {M : am_M} {w : am_W4} {lv : Int32 → Int64} {r1 : Option am_R} {r2 : am_M → am_W4 → Option am_R} {K1 : Option am_V → am_M → am_X → Option am_R} (h : pO lv B M w r1 r2) (hK : ∀ s v M1 M2 w1, lF M M1 → r2 M1 w1 = some (.inl (some (am_I v)), M2, am_Z w1) → M2 (30, 0, 0) 20 = s → (s = 0 → w1.2.2.1 = lv v) → ∃ x6 x7 x8, K1 (some (am_I s)) M1 (am_Z w1) = am_rn (am_ev 12) 227 2276 (L9 (nI i) x6 x7 x8) [] M2 (am_Z w1)) : goO i B M w (am_cb r1 K1) := by
  obtain ⟨s, v, M1, w1, M2, h1, h2, h3, h4, h5, h6, h7, h8⟩ := h
  obtain ⟨x6, x7, x8, e⟩ := hK s v M1 M2 w1 h3 h2 h5 h6
  refine ⟨x6, x7, x8, M2, w1, ?_, h7, h4, h8⟩
  rw [h1, am_cb_i]
  exact e
theorem gd {i L k : Nat} {M : am_M} (hL : M (0, 0, 1) 0 = nI L) (h : i + k < L) (h2 : L ≤ 2048) : am_in (nI i + nI k) (M (0, 0, 1) 0).toNatClampNeg := by
  rw [hL, nI_add, nI_clamp (by omega), am_inT (by omega) (by omega)]
  trivial
theorem go_204 {i L B : Nat} {M : am_M} {w : am_W4} {x6 x7 x8 : Option am_V} (hL : M (0, 0, 1) 0 = nI L) (hi : i + 4 ≤ L) (hL2 : L ≤ 2048) (hB0 : 1000 ≤ B) (hB : B < 900000000) (hI : lwI B M) : goO i B M w (am_rn (am_ev 12) 227 204 (L9 (nI i) x6 x7 x8) [] M (am_Z w)) := by
  obtain ⟨a, hs, sv, tx, R, e, ln, hS⟩ := hI
  have hok := hS.2.2.1
  have g1 := gd (i := i) (k := 1) hL (by omega) hL2
  have g2 := gd (i := i) (k := 2) hL (by omega) hL2
  have g3 := gd (i := i) (k := 3) hL (by omega) hL2
  rw [b227_204, if_pos g1, if_pos g2, if_pos g3]
  refine go_of (lv := Int32.toInt64) (r2 := fun M1 w1 => am_ev 12 132 [am_P (30, 0, 0), am_I (M (0, 0, 0) (nI i + nI 1).toNatClampNeg), am_I (M (0, 0, 0) (nI i + nI 2).toNatClampNeg), am_I (M (0, 0, 0) (nI i + nI 3).toNatClampNeg)] M1 (am_Z w1)) (cpl_cmd hS (h195 (d := 11)) (k66 (d := 2) hB0 (by omega) hok hS.2.1) (okO_C hB0 hok hS.2.1.1.choose_spec.2.choose_spec.2.2.2) (fun M1 w' h => k132 (d := 8) hok h)) (fun s v M1 M2 w1 hF h2 h20 hv => ?_)
  replace h2 : am_ev 12 132 [am_P (30, 0, 0), am_I (M (0, 0, 0) (nI i + nI 1).toNatClampNeg), am_I (M (0, 0, 0) (nI i + nI 2).toNatClampNeg), am_I (M (0, 0, 0) (nI i + nI 3).toNatClampNeg)] M1 (am_Z w1) = some (.inl (some (am_I v)), M2, am_Z w1) := h2
  have q : ∀ j, M1 (0, 0, 0) j = M (0, 0, 0) j := fun j => hF _ _ rfl
  have q1 : M1 (0, 0, 1) 0 = nI L := (hF _ _ rfl).trans hL
  have g1 := gd (i := i) (k := 1) q1 (by omega) hL2
  have g2 := gd (i := i) (k := 2) q1 (by omega) hL2
  have g3 := gd (i := i) (k := 3) q1 (by omega) hL2
  simp only [am_cb_i, am_cb_e, Option.toList_some, Option.toList_none, List.cons_append, List.nil_append]
  rw [b227_227, if_pos g1, if_pos g2, if_pos g3, q, q, q, h2]
  simp only [am_cb_i, am_cb_e, Option.toList_some, Option.toList_none, List.cons_append, List.nil_append]
  rw [b227_251, e114]
  simp only [am_cb_i, am_cb_e, Option.toList_some, Option.toList_none, List.cons_append, List.nil_append]
  rw [b227_257, if_pos h20]
  by_cases h0 : s = 0
  · rw [if_pos h0, if_pos ((lg_cmp_eq _ _).mpr (hv h0)), b227_281]
    exact ⟨_, _, _, rfl⟩
  · rw [if_neg h0, b227_281]
    exact ⟨_, _, _, rfl⟩
theorem go_284 {i L B : Nat} {M : am_M} {w : am_W4} {x6 x7 x8 : Option am_V} (hL : M (0, 0, 1) 0 = nI L) (hi : i + 4 ≤ L) (hL2 : L ≤ 2048) (hB0 : 1000 ≤ B) (hB : B < 900000000) (hI : lwI B M) : goO i B M w (am_rn (am_ev 12) 227 284 (L9 (nI i) x6 x7 x8) [] M (am_Z w)) := by
  obtain ⟨a, hs, sv, tx, R, e, ln, hS⟩ := hI
  have hok := hS.2.2.1
  have g1 := gd (i := i) (k := 1) hL (by omega) hL2
  have g2 := gd (i := i) (k := 2) hL (by omega) hL2
  rw [b227_284, if_pos g1, if_pos g2]
  refine go_of (lv := Int32.toInt64) (r2 := fun M1 w1 => am_ev 12 133 [am_P (30, 0, 0), am_I (M (0, 0, 0) (nI i + nI 1).toNatClampNeg), am_I (M (0, 0, 0) (nI i + nI 2).toNatClampNeg)] M1 (am_Z w1)) (cpl_cmd hS (h196 (d := 11)) (k67 (d := 2) hB0 (by omega) hok hS.2.1) (okO_C hB0 hok hS.2.1.1.choose_spec.2.choose_spec.2.2.2) (fun M1 w' h => k133 (d := 8) hok h)) (fun s v M1 M2 w1 hF h2 h20 hv => ?_)
  replace h2 : am_ev 12 133 [am_P (30, 0, 0), am_I (M (0, 0, 0) (nI i + nI 1).toNatClampNeg), am_I (M (0, 0, 0) (nI i + nI 2).toNatClampNeg)] M1 (am_Z w1) = some (.inl (some (am_I v)), M2, am_Z w1) := h2
  have q : ∀ j, M1 (0, 0, 0) j = M (0, 0, 0) j := fun j => hF _ _ rfl
  have q1 : M1 (0, 0, 1) 0 = nI L := (hF _ _ rfl).trans hL
  have g1 := gd (i := i) (k := 1) q1 (by omega) hL2
  have g2 := gd (i := i) (k := 2) q1 (by omega) hL2
  simp only [am_cb_i, am_cb_e, Option.toList_some, Option.toList_none, List.cons_append, List.nil_append]
  rw [b227_301, if_pos g1, if_pos g2, q, q, h2]
  simp only [am_cb_i, am_cb_e, Option.toList_some, Option.toList_none, List.cons_append, List.nil_append]
  rw [b227_319, e114]
  simp only [am_cb_i, am_cb_e, Option.toList_some, Option.toList_none, List.cons_append, List.nil_append]
  rw [b227_325, if_pos h20]
  by_cases h0 : s = 0
  · rw [if_pos h0, if_pos ((lg_cmp_eq _ _).mpr (hv h0)), b227_349]
    exact ⟨_, _, _, rfl⟩
  · rw [if_neg h0, b227_349]
    exact ⟨_, _, _, rfl⟩
theorem go_352 {i L B : Nat} {M : am_M} {w : am_W4} {x6 x7 x8 : Option am_V} (hL : M (0, 0, 1) 0 = nI L) (hi : i + 4 ≤ L) (hL2 : L ≤ 2048) (hB0 : 1000 ≤ B) (hB : B < 900000000) (hI : lwI B M) : goO i B M w (am_rn (am_ev 12) 227 352 (L9 (nI i) x6 x7 x8) [] M (am_Z w)) := by
  obtain ⟨a, hs, sv, tx, R, e, ln, hS⟩ := hI
  have hok := hS.2.2.1
  have g1 := gd (i := i) (k := 1) hL (by omega) hL2
  have g2 := gd (i := i) (k := 2) hL (by omega) hL2
  have g3 := gd (i := i) (k := 3) hL (by omega) hL2
  rw [b227_352, if_pos g1, if_pos g2, if_pos g3]
  refine go_of (lv := Int32.toInt64) (r2 := fun M1 w1 => am_ev 12 135 [am_P (30, 0, 0), am_I (M (0, 0, 0) (nI i + nI 1).toNatClampNeg), am_I (M (0, 0, 0) (nI i + nI 2).toNatClampNeg), am_I (M (0, 0, 0) (nI i + nI 3).toNatClampNeg)] M1 (am_Z w1)) (cpl_cmd hS (h197 (d := 11)) (k68 (d := 2) hB0 (by omega) hok hS.2.1) (okO_C hB0 hok hS.2.1.1.choose_spec.2.choose_spec.2.2.2) (fun M1 w' h => k135 (d := 8) hok h)) (fun s v M1 M2 w1 hF h2 h20 hv => ?_)
  replace h2 : am_ev 12 135 [am_P (30, 0, 0), am_I (M (0, 0, 0) (nI i + nI 1).toNatClampNeg), am_I (M (0, 0, 0) (nI i + nI 2).toNatClampNeg), am_I (M (0, 0, 0) (nI i + nI 3).toNatClampNeg)] M1 (am_Z w1) = some (.inl (some (am_I v)), M2, am_Z w1) := h2
  have q : ∀ j, M1 (0, 0, 0) j = M (0, 0, 0) j := fun j => hF _ _ rfl
  have q1 : M1 (0, 0, 1) 0 = nI L := (hF _ _ rfl).trans hL
  have g1 := gd (i := i) (k := 1) q1 (by omega) hL2
  have g2 := gd (i := i) (k := 2) q1 (by omega) hL2
  have g3 := gd (i := i) (k := 3) q1 (by omega) hL2
  simp only [am_cb_i, am_cb_e, Option.toList_some, Option.toList_none, List.cons_append, List.nil_append]
  rw [b227_375, if_pos g1, if_pos g2, if_pos g3, q, q, q, h2]
  simp only [am_cb_i, am_cb_e, Option.toList_some, Option.toList_none, List.cons_append, List.nil_append]
  rw [b227_399, e114]
  simp only [am_cb_i, am_cb_e, Option.toList_some, Option.toList_none, List.cons_append, List.nil_append]
  rw [b227_405, if_pos h20]
  by_cases h0 : s = 0
  · rw [if_pos h0, if_pos ((lg_cmp_eq _ _).mpr (hv h0)), b227_429]
    exact ⟨_, _, _, rfl⟩
  · rw [if_neg h0, b227_429]
    exact ⟨_, _, _, rfl⟩
theorem go_432 {i L B : Nat} {M : am_M} {w : am_W4} {x6 x7 x8 : Option am_V} (hL : M (0, 0, 1) 0 = nI L) (hi : i + 4 ≤ L) (hL2 : L ≤ 2048) (hB0 : 1000 ≤ B) (hB : B < 900000000) (hI : lwI B M) : goO i B M w (am_rn (am_ev 12) 227 432 (L9 (nI i) x6 x7 x8) [] M (am_Z w)) := by
  obtain ⟨a, hs, sv, tx, R, e, ln, hS⟩ := hI
  have hok := hS.2.2.1
  have g1 := gd (i := i) (k := 1) hL (by omega) hL2
  have g2 := gd (i := i) (k := 2) hL (by omega) hL2
  rw [b227_432, if_pos g1, if_pos g2]
  refine go_of (lv := Int32.toInt64) (r2 := fun M1 w1 => am_ev 12 137 [am_P (30, 0, 0), am_I (M (0, 0, 0) (nI i + nI 1).toNatClampNeg), am_I (M (0, 0, 0) (nI i + nI 2).toNatClampNeg)] M1 (am_Z w1)) (cpl_cmd hS (h198 (d := 11)) (k69 (d := 2) hB0 (by omega) hok hS.2.1) (okO_C hB0 hok hS.2.1.1.choose_spec.2.choose_spec.2.2.2) (fun M1 w' h => k137 (d := 8) hok h)) (fun s v M1 M2 w1 hF h2 h20 hv => ?_)
  replace h2 : am_ev 12 137 [am_P (30, 0, 0), am_I (M (0, 0, 0) (nI i + nI 1).toNatClampNeg), am_I (M (0, 0, 0) (nI i + nI 2).toNatClampNeg)] M1 (am_Z w1) = some (.inl (some (am_I v)), M2, am_Z w1) := h2
  have q : ∀ j, M1 (0, 0, 0) j = M (0, 0, 0) j := fun j => hF _ _ rfl
  have q1 : M1 (0, 0, 1) 0 = nI L := (hF _ _ rfl).trans hL
  have g1 := gd (i := i) (k := 1) q1 (by omega) hL2
  have g2 := gd (i := i) (k := 2) q1 (by omega) hL2
  simp only [am_cb_i, am_cb_e, Option.toList_some, Option.toList_none, List.cons_append, List.nil_append]
  rw [b227_449, if_pos g1, if_pos g2, q, q, h2]
  simp only [am_cb_i, am_cb_e, Option.toList_some, Option.toList_none, List.cons_append, List.nil_append]
  rw [b227_467, e114]
  simp only [am_cb_i, am_cb_e, Option.toList_some, Option.toList_none, List.cons_append, List.nil_append]
  rw [b227_473, if_pos h20]
  by_cases h0 : s = 0
  · rw [if_pos h0, if_pos ((lg_cmp_eq _ _).mpr (hv h0)), b227_497]
    exact ⟨_, _, _, rfl⟩
  · rw [if_neg h0, b227_497]
    exact ⟨_, _, _, rfl⟩
theorem go_500 {i L B : Nat} {M : am_M} {w : am_W4} {x6 x7 x8 : Option am_V} (hL : M (0, 0, 1) 0 = nI L) (hi : i + 4 ≤ L) (hL2 : L ≤ 2048) (hB0 : 1000 ≤ B) (hB : B < 900000000) (hI : lwI B M) : goO i B M w (am_rn (am_ev 12) 227 500 (L9 (nI i) x6 x7 x8) [] M (am_Z w)) := by
  obtain ⟨a, hs, sv, tx, R, e, ln, hS⟩ := hI
  have hok := hS.2.2.1
  have g1 := gd (i := i) (k := 1) hL (by omega) hL2
  have g2 := gd (i := i) (k := 2) hL (by omega) hL2
  rw [b227_500, if_pos g1, if_pos g2]
  refine go_of (lv := Int32.toInt64) (r2 := fun M1 w1 => am_ev 12 139 [am_P (30, 0, 0), am_I (M (0, 0, 0) (nI i + nI 1).toNatClampNeg), am_I (M (0, 0, 0) (nI i + nI 2).toNatClampNeg)] M1 (am_Z w1)) (cpl_cmd hS (h199 (d := 11)) (k70 (d := 2) hB0 (by omega) hok hS.2.1) (okO_C hB0 hok hS.2.1.1.choose_spec.2.choose_spec.2.2.2) (fun M1 w' h => k139 (d := 8) hok h)) (fun s v M1 M2 w1 hF h2 h20 hv => ?_)
  replace h2 : am_ev 12 139 [am_P (30, 0, 0), am_I (M (0, 0, 0) (nI i + nI 1).toNatClampNeg), am_I (M (0, 0, 0) (nI i + nI 2).toNatClampNeg)] M1 (am_Z w1) = some (.inl (some (am_I v)), M2, am_Z w1) := h2
  have q : ∀ j, M1 (0, 0, 0) j = M (0, 0, 0) j := fun j => hF _ _ rfl
  have q1 : M1 (0, 0, 1) 0 = nI L := (hF _ _ rfl).trans hL
  have g1 := gd (i := i) (k := 1) q1 (by omega) hL2
  have g2 := gd (i := i) (k := 2) q1 (by omega) hL2
  simp only [am_cb_i, am_cb_e, Option.toList_some, Option.toList_none, List.cons_append, List.nil_append]
  rw [b227_517, if_pos g1, if_pos g2, q, q, h2]
  simp only [am_cb_i, am_cb_e, Option.toList_some, Option.toList_none, List.cons_append, List.nil_append]
  rw [b227_535, e114]
  simp only [am_cb_i, am_cb_e, Option.toList_some, Option.toList_none, List.cons_append, List.nil_append]
  rw [b227_541, if_pos h20]
  by_cases h0 : s = 0
  · rw [if_pos h0, if_pos ((lg_cmp_eq _ _).mpr (hv h0)), b227_565]
    exact ⟨_, _, _, rfl⟩
  · rw [if_neg h0, b227_565]
    exact ⟨_, _, _, rfl⟩
theorem go_568 {i L B : Nat} {M : am_M} {w : am_W4} {x6 x7 x8 : Option am_V} (hL : M (0, 0, 1) 0 = nI L) (hi : i + 4 ≤ L) (hL2 : L ≤ 2048) (hB0 : 1000 ≤ B) (hB : B < 900000000) (hI : lwI B M) : goO i B M w (am_rn (am_ev 12) 227 568 (L9 (nI i) x6 x7 x8) [] M (am_Z w)) := by
  obtain ⟨a, hs, sv, tx, R, e, ln, hS⟩ := hI
  have hok := hS.2.2.1
  have g1 := gd (i := i) (k := 1) hL (by omega) hL2
  have g2 := gd (i := i) (k := 2) hL (by omega) hL2
  have g3 := gd (i := i) (k := 3) hL (by omega) hL2
  rw [b227_568, if_pos g1, if_pos g2, if_pos g3]
  refine go_of (lv := Int32.toInt64) (r2 := fun M1 w1 => am_ev 12 141 [am_P (30, 0, 0), am_I (M (0, 0, 0) (nI i + nI 1).toNatClampNeg), am_I (M (0, 0, 0) (nI i + nI 2).toNatClampNeg), am_I (M (0, 0, 0) (nI i + nI 3).toNatClampNeg)] M1 (am_Z w1)) (cpl_cmd hS (h200 (d := 11)) (k71 (d := 2) hB0 (by omega) hok hS.2.1) (okO_C hB0 hok hS.2.1.1.choose_spec.2.choose_spec.2.2.2) (fun M1 w' h => k141 (d := 8) hok (by omega) h)) (fun s v M1 M2 w1 hF h2 h20 hv => ?_)
  replace h2 : am_ev 12 141 [am_P (30, 0, 0), am_I (M (0, 0, 0) (nI i + nI 1).toNatClampNeg), am_I (M (0, 0, 0) (nI i + nI 2).toNatClampNeg), am_I (M (0, 0, 0) (nI i + nI 3).toNatClampNeg)] M1 (am_Z w1) = some (.inl (some (am_I v)), M2, am_Z w1) := h2
  have q : ∀ j, M1 (0, 0, 0) j = M (0, 0, 0) j := fun j => hF _ _ rfl
  have q1 : M1 (0, 0, 1) 0 = nI L := (hF _ _ rfl).trans hL
  have g1 := gd (i := i) (k := 1) q1 (by omega) hL2
  have g2 := gd (i := i) (k := 2) q1 (by omega) hL2
  have g3 := gd (i := i) (k := 3) q1 (by omega) hL2
  simp only [am_cb_i, am_cb_e, Option.toList_some, Option.toList_none, List.cons_append, List.nil_append]
  rw [b227_591, if_pos g1, if_pos g2, if_pos g3, q, q, q, h2]
  simp only [am_cb_i, am_cb_e, Option.toList_some, Option.toList_none, List.cons_append, List.nil_append]
  rw [b227_615, e114]
  simp only [am_cb_i, am_cb_e, Option.toList_some, Option.toList_none, List.cons_append, List.nil_append]
  rw [b227_621, if_pos h20]
  by_cases h0 : s = 0
  · rw [if_pos h0, if_pos ((lg_cmp_eq _ _).mpr (hv h0)), b227_645]
    exact ⟨_, _, _, rfl⟩
  · rw [if_neg h0, b227_645]
    exact ⟨_, _, _, rfl⟩
theorem go_648 {i L B : Nat} {M : am_M} {w : am_W4} {x6 x7 x8 : Option am_V} (hL : M (0, 0, 1) 0 = nI L) (hi : i + 4 ≤ L) (hL2 : L ≤ 2048) (hB0 : 1000 ≤ B) (hB : B < 900000000) (hI : lwI B M) : goO i B M w (am_rn (am_ev 12) 227 648 (L9 (nI i) x6 x7 x8) [] M (am_Z w)) := by
  obtain ⟨a, hs, sv, tx, R, e, ln, hS⟩ := hI
  have hok := hS.2.2.1
  have g1 := gd (i := i) (k := 1) hL (by omega) hL2
  rw [b227_648, if_pos g1]
  refine go_of (lv := Int32.toInt64) (r2 := fun M1 w1 => am_ev 12 143 [am_P (30, 0, 0), am_I (M (0, 0, 0) (nI i + nI 1).toNatClampNeg)] M1 (am_Z w1)) (cpl_cmd hS (h201 (d := 11)) (k72 (d := 2) hB0 (by omega) hok hS.2.1) (okO_C hB0 hok hS.2.1.1.choose_spec.2.choose_spec.2.2.2) (fun M1 w' h => k143 (d := 8) hok h)) (fun s v M1 M2 w1 hF h2 h20 hv => ?_)
  replace h2 : am_ev 12 143 [am_P (30, 0, 0), am_I (M (0, 0, 0) (nI i + nI 1).toNatClampNeg)] M1 (am_Z w1) = some (.inl (some (am_I v)), M2, am_Z w1) := h2
  have q : ∀ j, M1 (0, 0, 0) j = M (0, 0, 0) j := fun j => hF _ _ rfl
  have q1 : M1 (0, 0, 1) 0 = nI L := (hF _ _ rfl).trans hL
  have g1 := gd (i := i) (k := 1) q1 (by omega) hL2
  simp only [am_cb_i, am_cb_e, Option.toList_some, Option.toList_none, List.cons_append, List.nil_append]
  rw [b227_659, if_pos g1, q, h2]
  simp only [am_cb_i, am_cb_e, Option.toList_some, Option.toList_none, List.cons_append, List.nil_append]
  rw [b227_671, e114]
  simp only [am_cb_i, am_cb_e, Option.toList_some, Option.toList_none, List.cons_append, List.nil_append]
  rw [b227_677, if_pos h20]
  by_cases h0 : s = 0
  · rw [if_pos h0, if_pos ((lg_cmp_eq _ _).mpr (hv h0)), b227_701]
    exact ⟨_, _, _, rfl⟩
  · rw [if_neg h0, b227_701]
    exact ⟨_, _, _, rfl⟩
theorem go_704 {i L B : Nat} {M : am_M} {w : am_W4} {x6 x7 x8 : Option am_V} (hL : M (0, 0, 1) 0 = nI L) (hi : i + 4 ≤ L) (hL2 : L ≤ 2048) (hB0 : 1000 ≤ B) (hB : B < 900000000) (hI : lwI B M) : goO i B M w (am_rn (am_ev 12) 227 704 (L9 (nI i) x6 x7 x8) [] M (am_Z w)) := by
  obtain ⟨a, hs, sv, tx, R, e, ln, hS⟩ := hI
  have hok := hS.2.2.1
  have g1 := gd (i := i) (k := 1) hL (by omega) hL2
  rw [b227_704, if_pos g1]
  refine go_of (lv := Int32.toInt64) (r2 := fun M1 w1 => am_ev 12 155 [am_P (30, 0, 0), am_I (M (0, 0, 0) (nI i + nI 1).toNatClampNeg)] M1 (am_Z w1)) (cpl_cmd hS (h202 (d := 11)) (k73 (d := 2) hB0 (by omega) hok hS.2.1) (okO_C hB0 hok hS.2.1.1.choose_spec.2.choose_spec.2.2.2) (fun M1 w' h => k155 (d := 5) hok hB0 (by omega) h)) (fun s v M1 M2 w1 hF h2 h20 hv => ?_)
  replace h2 : am_ev 12 155 [am_P (30, 0, 0), am_I (M (0, 0, 0) (nI i + nI 1).toNatClampNeg)] M1 (am_Z w1) = some (.inl (some (am_I v)), M2, am_Z w1) := h2
  have q : ∀ j, M1 (0, 0, 0) j = M (0, 0, 0) j := fun j => hF _ _ rfl
  have q1 : M1 (0, 0, 1) 0 = nI L := (hF _ _ rfl).trans hL
  have g1 := gd (i := i) (k := 1) q1 (by omega) hL2
  simp only [am_cb_i, am_cb_e, Option.toList_some, Option.toList_none, List.cons_append, List.nil_append]
  rw [b227_715, if_pos g1, q, h2]
  simp only [am_cb_i, am_cb_e, Option.toList_some, Option.toList_none, List.cons_append, List.nil_append]
  rw [b227_727, e114]
  simp only [am_cb_i, am_cb_e, Option.toList_some, Option.toList_none, List.cons_append, List.nil_append]
  rw [b227_733, if_pos h20]
  by_cases h0 : s = 0
  · rw [if_pos h0, if_pos ((lg_cmp_eq _ _).mpr (hv h0)), b227_757]
    exact ⟨_, _, _, rfl⟩
  · rw [if_neg h0, b227_757]
    exact ⟨_, _, _, rfl⟩
theorem go_760 {i L B : Nat} {M : am_M} {w : am_W4} {x6 x7 x8 : Option am_V} (hL : M (0, 0, 1) 0 = nI L) (hi : i + 4 ≤ L) (hL2 : L ≤ 2048) (hB0 : 1000 ≤ B) (hB : B < 900000000) (hI : lwI B M) : goO i B M w (am_rn (am_ev 12) 227 760 (L9 (nI i) x6 x7 x8) [] M (am_Z w)) := by
  obtain ⟨a, hs, sv, tx, R, e, ln, hS⟩ := hI
  have hok := hS.2.2.1
  have g1 := gd (i := i) (k := 1) hL (by omega) hL2
  have g2 := gd (i := i) (k := 2) hL (by omega) hL2
  rw [b227_760, if_pos g1, if_pos g2]
  refine go_of (lv := Int32.toInt64) (r2 := fun M1 w1 => am_ev 12 157 [am_P (30, 0, 0), am_I (M (0, 0, 0) (nI i + nI 1).toNatClampNeg), am_I (M (0, 0, 0) (nI i + nI 2).toNatClampNeg)] M1 (am_Z w1)) (cpl_q hS (h203 (d := 11)) (by decide) qin_q_cnv (k75 (d := 8) (by omega) hok hS.2.1) (fun w' => k157 (d := 8) (by omega) hok hS.1)) (fun s v M1 M2 w1 hF h2 h20 hv => ?_)
  replace h2 : am_ev 12 157 [am_P (30, 0, 0), am_I (M (0, 0, 0) (nI i + nI 1).toNatClampNeg), am_I (M (0, 0, 0) (nI i + nI 2).toNatClampNeg)] M1 (am_Z w1) = some (.inl (some (am_I v)), M2, am_Z w1) := h2
  have q : ∀ j, M1 (0, 0, 0) j = M (0, 0, 0) j := fun j => hF _ _ rfl
  have q1 : M1 (0, 0, 1) 0 = nI L := (hF _ _ rfl).trans hL
  have g1 := gd (i := i) (k := 1) q1 (by omega) hL2
  have g2 := gd (i := i) (k := 2) q1 (by omega) hL2
  simp only [am_cb_i, am_cb_e, Option.toList_some, Option.toList_none, List.cons_append, List.nil_append]
  rw [b227_777, if_pos g1, if_pos g2, q, q, h2]
  simp only [am_cb_i, am_cb_e, Option.toList_some, Option.toList_none, List.cons_append, List.nil_append]
  rw [b227_795, e114]
  simp only [am_cb_i, am_cb_e, Option.toList_some, Option.toList_none, List.cons_append, List.nil_append]
  rw [b227_801, if_pos h20]
  by_cases h0 : s = 0
  · rw [if_pos h0, if_pos ((lg_cmp_eq _ _).mpr (hv h0)), b227_825]
    exact ⟨_, _, _, rfl⟩
  · rw [if_neg h0, b227_825]
    exact ⟨_, _, _, rfl⟩
theorem go_828 {i L B : Nat} {M : am_M} {w : am_W4} {x6 x7 x8 : Option am_V} (hL : M (0, 0, 1) 0 = nI L) (hi : i + 4 ≤ L) (hL2 : L ≤ 2048) (hB0 : 1000 ≤ B) (hB : B < 900000000) (hI : lwI B M) : goO i B M w (am_rn (am_ev 12) 227 828 (L9 (nI i) x6 x7 x8) [] M (am_Z w)) := by
  obtain ⟨a, hs, sv, tx, R, e, ln, hS⟩ := hI
  have hok := hS.2.2.1
  have g1 := gd (i := i) (k := 1) hL (by omega) hL2
  have g2 := gd (i := i) (k := 2) hL (by omega) hL2
  rw [b227_828, if_pos g1, if_pos g2]
  refine go_of (lv := Int32.toInt64) (r2 := fun M1 w1 => am_ev 12 158 [am_P (30, 0, 0), am_I (M (0, 0, 0) (nI i + nI 1).toNatClampNeg), am_I (M (0, 0, 0) (nI i + nI 2).toNatClampNeg)] M1 (am_Z w1)) (cpl_q hS (h204 (d := 11)) (by decide) qin_q_rng (k76 (d := 8) hok hS.2.1) (fun w' => k158 (d := 9) hok hS.1)) (fun s v M1 M2 w1 hF h2 h20 hv => ?_)
  replace h2 : am_ev 12 158 [am_P (30, 0, 0), am_I (M (0, 0, 0) (nI i + nI 1).toNatClampNeg), am_I (M (0, 0, 0) (nI i + nI 2).toNatClampNeg)] M1 (am_Z w1) = some (.inl (some (am_I v)), M2, am_Z w1) := h2
  have q : ∀ j, M1 (0, 0, 0) j = M (0, 0, 0) j := fun j => hF _ _ rfl
  have q1 : M1 (0, 0, 1) 0 = nI L := (hF _ _ rfl).trans hL
  have g1 := gd (i := i) (k := 1) q1 (by omega) hL2
  have g2 := gd (i := i) (k := 2) q1 (by omega) hL2
  simp only [am_cb_i, am_cb_e, Option.toList_some, Option.toList_none, List.cons_append, List.nil_append]
  rw [b227_845, if_pos g1, if_pos g2, q, q, h2]
  simp only [am_cb_i, am_cb_e, Option.toList_some, Option.toList_none, List.cons_append, List.nil_append]
  rw [b227_863, e114]
  simp only [am_cb_i, am_cb_e, Option.toList_some, Option.toList_none, List.cons_append, List.nil_append]
  rw [b227_869, if_pos h20]
  by_cases h0 : s = 0
  · rw [if_pos h0, if_pos ((lg_cmp_eq _ _).mpr (hv h0)), b227_893]
    exact ⟨_, _, _, rfl⟩
  · rw [if_neg h0, b227_893]
    exact ⟨_, _, _, rfl⟩
theorem go_896 {i L B : Nat} {M : am_M} {w : am_W4} {x6 x7 x8 : Option am_V} (hL : M (0, 0, 1) 0 = nI L) (hi : i + 4 ≤ L) (hL2 : L ≤ 2048) (hB0 : 1000 ≤ B) (hB : B < 900000000) (hI : lwI B M) : goO i B M w (am_rn (am_ev 12) 227 896 (L9 (nI i) x6 x7 x8) [] M (am_Z w)) := by
  obtain ⟨a, hs, sv, tx, R, e, ln, hS⟩ := hI
  have hok := hS.2.2.1
  have g1 := gd (i := i) (k := 1) hL (by omega) hL2
  rw [b227_896, if_pos g1]
  refine go_of (lv := Int32.toInt64) (r2 := fun M1 w1 => am_ev 12 159 [am_P (30, 0, 0), am_I (M (0, 0, 0) (nI i + nI 1).toNatClampNeg)] M1 (am_Z w1)) (cpl_q hS (h205 (d := 11)) (by decide) qin_q_psl (k77 (d := 9) hS.2.1) (fun w' => k159 (d := 10) hS.1)) (fun s v M1 M2 w1 hF h2 h20 hv => ?_)
  replace h2 : am_ev 12 159 [am_P (30, 0, 0), am_I (M (0, 0, 0) (nI i + nI 1).toNatClampNeg)] M1 (am_Z w1) = some (.inl (some (am_I v)), M2, am_Z w1) := h2
  have q : ∀ j, M1 (0, 0, 0) j = M (0, 0, 0) j := fun j => hF _ _ rfl
  have q1 : M1 (0, 0, 1) 0 = nI L := (hF _ _ rfl).trans hL
  have g1 := gd (i := i) (k := 1) q1 (by omega) hL2
  simp only [am_cb_i, am_cb_e, Option.toList_some, Option.toList_none, List.cons_append, List.nil_append]
  rw [b227_907, if_pos g1, q, h2]
  simp only [am_cb_i, am_cb_e, Option.toList_some, Option.toList_none, List.cons_append, List.nil_append]
  rw [b227_919, e114]
  simp only [am_cb_i, am_cb_e, Option.toList_some, Option.toList_none, List.cons_append, List.nil_append]
  rw [b227_925, if_pos h20]
  by_cases h0 : s = 0
  · rw [if_pos h0, if_pos ((lg_cmp_eq _ _).mpr (hv h0)), b227_949]
    exact ⟨_, _, _, rfl⟩
  · rw [if_neg h0, b227_949]
    exact ⟨_, _, _, rfl⟩
theorem go_952 {i L B : Nat} {M : am_M} {w : am_W4} {x6 x7 x8 : Option am_V} (hL : M (0, 0, 1) 0 = nI L) (hi : i + 4 ≤ L) (hL2 : L ≤ 2048) (hB0 : 1000 ≤ B) (hB : B < 900000000) (hI : lwI B M) : goO i B M w (am_rn (am_ev 12) 227 952 (L9 (nI i) x6 x7 x8) [] M (am_Z w)) := by
  obtain ⟨a, hs, sv, tx, R, e, ln, hS⟩ := hI
  have hok := hS.2.2.1
  have g1 := gd (i := i) (k := 1) hL (by omega) hL2
  have g2 := gd (i := i) (k := 2) hL (by omega) hL2
  rw [b227_952, if_pos g1, if_pos g2]
  refine go_of (lv := Int32.toInt64) (r2 := fun M1 w1 => am_ev 12 160 [am_P (30, 0, 0), am_I (M (0, 0, 0) (nI i + nI 1).toNatClampNeg), am_I (M (0, 0, 0) (nI i + nI 2).toNatClampNeg)] M1 (am_Z w1)) (cpl_q hS (h206 (d := 11)) (by decide) qin_q_msg (k85 (d := 8) hok hS.2.1) (fun w' => k160 (d := 9) hok hS.1)) (fun s v M1 M2 w1 hF h2 h20 hv => ?_)
  replace h2 : am_ev 12 160 [am_P (30, 0, 0), am_I (M (0, 0, 0) (nI i + nI 1).toNatClampNeg), am_I (M (0, 0, 0) (nI i + nI 2).toNatClampNeg)] M1 (am_Z w1) = some (.inl (some (am_I v)), M2, am_Z w1) := h2
  have q : ∀ j, M1 (0, 0, 0) j = M (0, 0, 0) j := fun j => hF _ _ rfl
  have q1 : M1 (0, 0, 1) 0 = nI L := (hF _ _ rfl).trans hL
  have g1 := gd (i := i) (k := 1) q1 (by omega) hL2
  have g2 := gd (i := i) (k := 2) q1 (by omega) hL2
  simp only [am_cb_i, am_cb_e, Option.toList_some, Option.toList_none, List.cons_append, List.nil_append]
  rw [b227_969, if_pos g1, if_pos g2, q, q, h2]
  simp only [am_cb_i, am_cb_e, Option.toList_some, Option.toList_none, List.cons_append, List.nil_append]
  rw [b227_987, e114]
  simp only [am_cb_i, am_cb_e, Option.toList_some, Option.toList_none, List.cons_append, List.nil_append]
  rw [b227_993, if_pos h20]
  by_cases h0 : s = 0
  · rw [if_pos h0, if_pos ((lg_cmp_eq _ _).mpr (hv h0)), b227_1017]
    exact ⟨_, _, _, rfl⟩
  · rw [if_neg h0, b227_1017]
    exact ⟨_, _, _, rfl⟩
theorem go_1020 {i L B : Nat} {M : am_M} {w : am_W4} {x6 x7 x8 : Option am_V} (hL : M (0, 0, 1) 0 = nI L) (hi : i + 4 ≤ L) (hL2 : L ≤ 2048) (hB0 : 1000 ≤ B) (hB : B < 900000000) (hI : lwI B M) : goO i B M w (am_rn (am_ev 12) 227 1020 (L9 (nI i) x6 x7 x8) [] M (am_Z w)) := by
  obtain ⟨a, hs, sv, tx, R, e, ln, hS⟩ := hI
  have hok := hS.2.2.1
  have g1 := gd (i := i) (k := 1) hL (by omega) hL2
  have g2 := gd (i := i) (k := 2) hL (by omega) hL2
  rw [b227_1020, if_pos g1, if_pos g2]
  refine go_of (lv := Int32.toInt64) (r2 := fun M1 w1 => am_ev 12 161 [am_P (30, 0, 0), am_I (M (0, 0, 0) (nI i + nI 1).toNatClampNeg), am_I (M (0, 0, 0) (nI i + nI 2).toNatClampNeg)] M1 (am_Z w1)) (cpl_q hS (h207 (d := 11)) (by decide) qin_q_sig (k86 (d := 8) hok hS.2.1) (fun w' => k161 (d := 9) hok hS.1)) (fun s v M1 M2 w1 hF h2 h20 hv => ?_)
  replace h2 : am_ev 12 161 [am_P (30, 0, 0), am_I (M (0, 0, 0) (nI i + nI 1).toNatClampNeg), am_I (M (0, 0, 0) (nI i + nI 2).toNatClampNeg)] M1 (am_Z w1) = some (.inl (some (am_I v)), M2, am_Z w1) := h2
  have q : ∀ j, M1 (0, 0, 0) j = M (0, 0, 0) j := fun j => hF _ _ rfl
  have q1 : M1 (0, 0, 1) 0 = nI L := (hF _ _ rfl).trans hL
  have g1 := gd (i := i) (k := 1) q1 (by omega) hL2
  have g2 := gd (i := i) (k := 2) q1 (by omega) hL2
  simp only [am_cb_i, am_cb_e, Option.toList_some, Option.toList_none, List.cons_append, List.nil_append]
  rw [b227_1037, if_pos g1, if_pos g2, q, q, h2]
  simp only [am_cb_i, am_cb_e, Option.toList_some, Option.toList_none, List.cons_append, List.nil_append]
  rw [b227_1055, e114]
  simp only [am_cb_i, am_cb_e, Option.toList_some, Option.toList_none, List.cons_append, List.nil_append]
  rw [b227_1061, if_pos h20]
  by_cases h0 : s = 0
  · rw [if_pos h0, if_pos ((lg_cmp_eq _ _).mpr (hv h0)), b227_1085]
    exact ⟨_, _, _, rfl⟩
  · rw [if_neg h0, b227_1085]
    exact ⟨_, _, _, rfl⟩
theorem go_1088 {i L B : Nat} {M : am_M} {w : am_W4} {x6 x7 x8 : Option am_V} (hL : M (0, 0, 1) 0 = nI L) (hi : i + 4 ≤ L) (hL2 : L ≤ 2048) (hB0 : 1000 ≤ B) (hB : B < 900000000) (hI : lwI B M) : goO i B M w (am_rn (am_ev 12) 227 1088 (L9 (nI i) x6 x7 x8) [] M (am_Z w)) := by
  obtain ⟨a, hs, sv, tx, R, e, ln, hS⟩ := hI
  have hok := hS.2.2.1
  have g1 := gd (i := i) (k := 1) hL (by omega) hL2
  rw [b227_1088, if_pos g1]
  refine go_of (lv := Int32.toInt64) (r2 := fun M1 w1 => am_ev 12 162 [am_P (30, 0, 0), am_I (M (0, 0, 0) (nI i + nI 1).toNatClampNeg)] M1 (am_Z w1)) (cpl_q hS (h208 (d := 11)) (by decide) qin_q_mas (k87 (d := 8) hok hS.2.1) (fun w' => k162 (d := 9) hok hS.1)) (fun s v M1 M2 w1 hF h2 h20 hv => ?_)
  replace h2 : am_ev 12 162 [am_P (30, 0, 0), am_I (M (0, 0, 0) (nI i + nI 1).toNatClampNeg)] M1 (am_Z w1) = some (.inl (some (am_I v)), M2, am_Z w1) := h2
  have q : ∀ j, M1 (0, 0, 0) j = M (0, 0, 0) j := fun j => hF _ _ rfl
  have q1 : M1 (0, 0, 1) 0 = nI L := (hF _ _ rfl).trans hL
  have g1 := gd (i := i) (k := 1) q1 (by omega) hL2
  simp only [am_cb_i, am_cb_e, Option.toList_some, Option.toList_none, List.cons_append, List.nil_append]
  rw [b227_1099, if_pos g1, q, h2]
  simp only [am_cb_i, am_cb_e, Option.toList_some, Option.toList_none, List.cons_append, List.nil_append]
  rw [b227_1111, e114]
  simp only [am_cb_i, am_cb_e, Option.toList_some, Option.toList_none, List.cons_append, List.nil_append]
  rw [b227_1117, if_pos h20]
  by_cases h0 : s = 0
  · rw [if_pos h0, if_pos ((lg_cmp_eq _ _).mpr (hv h0)), b227_1141]
    exact ⟨_, _, _, rfl⟩
  · rw [if_neg h0, b227_1141]
    exact ⟨_, _, _, rfl⟩
theorem go_1144 {i L B : Nat} {M : am_M} {w : am_W4} {x6 x7 x8 : Option am_V} (hL : M (0, 0, 1) 0 = nI L) (hi : i + 4 ≤ L) (hL2 : L ≤ 2048) (hB0 : 1000 ≤ B) (hB : B < 900000000) (hI : lwI B M) : goO i B M w (am_rn (am_ev 12) 227 1144 (L9 (nI i) x6 x7 x8) [] M (am_Z w)) := by
  obtain ⟨a, hs, sv, tx, R, e, ln, hS⟩ := hI
  have hok := hS.2.2.1
  have g1 := gd (i := i) (k := 1) hL (by omega) hL2
  have g2 := gd (i := i) (k := 2) hL (by omega) hL2
  rw [b227_1144, if_pos g1, if_pos g2]
  refine go_of (lv := Int32.toInt64) (r2 := fun M1 w1 => am_ev 12 163 [am_P (30, 0, 0), am_I (M (0, 0, 0) (nI i + nI 1).toNatClampNeg), am_I (M (0, 0, 0) (nI i + nI 2).toNatClampNeg)] M1 (am_Z w1)) (cpl_q hS (h209 (d := 11)) (by decide) qin_q_que (k88 (d := 8) hok hS.2.1) (fun w' => k163 (d := 8) (by omega) hok hS.1)) (fun s v M1 M2 w1 hF h2 h20 hv => ?_)
  replace h2 : am_ev 12 163 [am_P (30, 0, 0), am_I (M (0, 0, 0) (nI i + nI 1).toNatClampNeg), am_I (M (0, 0, 0) (nI i + nI 2).toNatClampNeg)] M1 (am_Z w1) = some (.inl (some (am_I v)), M2, am_Z w1) := h2
  have q : ∀ j, M1 (0, 0, 0) j = M (0, 0, 0) j := fun j => hF _ _ rfl
  have q1 : M1 (0, 0, 1) 0 = nI L := (hF _ _ rfl).trans hL
  have g1 := gd (i := i) (k := 1) q1 (by omega) hL2
  have g2 := gd (i := i) (k := 2) q1 (by omega) hL2
  simp only [am_cb_i, am_cb_e, Option.toList_some, Option.toList_none, List.cons_append, List.nil_append]
  rw [b227_1161, if_pos g1, if_pos g2, q, q, h2]
  simp only [am_cb_i, am_cb_e, Option.toList_some, Option.toList_none, List.cons_append, List.nil_append]
  rw [b227_1179, e114]
  simp only [am_cb_i, am_cb_e, Option.toList_some, Option.toList_none, List.cons_append, List.nil_append]
  rw [b227_1185, if_pos h20]
  by_cases h0 : s = 0
  · rw [if_pos h0, if_pos ((lg_cmp_eq _ _).mpr (hv h0)), b227_1209]
    exact ⟨_, _, _, rfl⟩
  · rw [if_neg h0, b227_1209]
    exact ⟨_, _, _, rfl⟩
theorem go_1212 {i L B : Nat} {M : am_M} {w : am_W4} {x6 x7 x8 : Option am_V} (hL : M (0, 0, 1) 0 = nI L) (hi : i + 4 ≤ L) (hL2 : L ≤ 2048) (hB0 : 1000 ≤ B) (hB : B < 900000000) (hI : lwI B M) : goO i B M w (am_rn (am_ev 12) 227 1212 (L9 (nI i) x6 x7 x8) [] M (am_Z w)) := by
  obtain ⟨a, hs, sv, tx, R, e, ln, hS⟩ := hI
  have hok := hS.2.2.1
  have g1 := gd (i := i) (k := 1) hL (by omega) hL2
  rw [b227_1212, if_pos g1]
  refine go_of (lv := Int32.toInt64) (r2 := fun M1 w1 => am_ev 12 164 [am_P (30, 0, 0), am_I (M (0, 0, 0) (nI i + nI 1).toNatClampNeg)] M1 (am_Z w1)) (cpl_q hS (h210 (d := 11)) (by decide) qin_q_arr (k89 (d := 10) hok hS.2.1) (fun w' => k164 (d := 10) (by omega) hok hS.1)) (fun s v M1 M2 w1 hF h2 h20 hv => ?_)
  replace h2 : am_ev 12 164 [am_P (30, 0, 0), am_I (M (0, 0, 0) (nI i + nI 1).toNatClampNeg)] M1 (am_Z w1) = some (.inl (some (am_I v)), M2, am_Z w1) := h2
  have q : ∀ j, M1 (0, 0, 0) j = M (0, 0, 0) j := fun j => hF _ _ rfl
  have q1 : M1 (0, 0, 1) 0 = nI L := (hF _ _ rfl).trans hL
  have g1 := gd (i := i) (k := 1) q1 (by omega) hL2
  simp only [am_cb_i, am_cb_e, Option.toList_some, Option.toList_none, List.cons_append, List.nil_append]
  rw [b227_1223, if_pos g1, q, h2]
  simp only [am_cb_i, am_cb_e, Option.toList_some, Option.toList_none, List.cons_append, List.nil_append]
  rw [b227_1235, e114]
  simp only [am_cb_i, am_cb_e, Option.toList_some, Option.toList_none, List.cons_append, List.nil_append]
  rw [b227_1241, if_pos h20]
  by_cases h0 : s = 0
  · rw [if_pos h0, if_pos ((lg_cmp_eq _ _).mpr (hv h0)), b227_1265]
    exact ⟨_, _, _, rfl⟩
  · rw [if_neg h0, b227_1265]
    exact ⟨_, _, _, rfl⟩
theorem go_1268 {i L B : Nat} {M : am_M} {w : am_W4} {x6 x7 x8 : Option am_V} (hL : M (0, 0, 1) 0 = nI L) (hi : i + 4 ≤ L) (hL2 : L ≤ 2048) (hB0 : 1000 ≤ B) (hB : B < 900000000) (hI : lwI B M) : goO i B M w (am_rn (am_ev 12) 227 1268 (L9 (nI i) x6 x7 x8) [] M (am_Z w)) := by
  obtain ⟨a, hs, sv, tx, R, e, ln, hS⟩ := hI
  have hok := hS.2.2.1
  have g1 := gd (i := i) (k := 1) hL (by omega) hL2
  have g2 := gd (i := i) (k := 2) hL (by omega) hL2
  rw [b227_1268, if_pos g1, if_pos g2]
  by_cases hz : M (0, 0, 0) (nI i + nI 2).toNatClampNeg = 0
  · rw [if_pos hz, b227_1289]
    refine go_of (lv := Int32.toInt64) (r2 := fun M1 w1 => am_ev 12 165 [am_P (30, 0, 0), am_I (M (0, 0, 0) (nI i + nI 1).toNatClampNeg), am_I (nI 0)] M1 (am_Z w1)) (cpl_q hS (h211 (d := 11)) (by decide) qin_q_str (k78 (d := 8) hok hS.2.1) (fun w' => k165 (d := 9) hok hS.1)) (fun s v M1 M2 w1 hF h2 h20 hv => ?_)
    replace h2 : am_ev 12 165 [am_P (30, 0, 0), am_I (M (0, 0, 0) (nI i + nI 1).toNatClampNeg), am_I (nI 0)] M1 (am_Z w1) = some (.inl (some (am_I v)), M2, am_Z w1) := h2
    have q : ∀ j, M1 (0, 0, 0) j = M (0, 0, 0) j := fun j => hF _ _ rfl
    have q1 : M1 (0, 0, 1) 0 = nI L := (hF _ _ rfl).trans hL
    have g1 := gd (i := i) (k := 1) q1 (by omega) hL2
    have g2 := gd (i := i) (k := 2) q1 (by omega) hL2
    simp only [am_cb_i, am_cb_e, Option.toList_some, Option.toList_none, List.cons_append, List.nil_append]
    rw [b227_1293, if_pos g1, if_pos g2, q, q, if_pos hz, b227_1316, h2]
    simp only [am_cb_i, am_cb_e, Option.toList_some, Option.toList_none, List.cons_append, List.nil_append]
    rw [b227_1319, e114]
    simp only [am_cb_i, am_cb_e, Option.toList_some, Option.toList_none, List.cons_append, List.nil_append]
    rw [b227_1325, if_pos h20]
    by_cases h0 : s = 0
    · rw [if_pos h0, if_pos ((lg_cmp_eq _ _).mpr (hv h0)), b227_1349]
      exact ⟨_, _, _, rfl⟩
    · rw [if_neg h0, b227_1349]
      exact ⟨_, _, _, rfl⟩
  · rw [if_neg hz, b227_1289]
    refine go_of (lv := Int32.toInt64) (r2 := fun M1 w1 => am_ev 12 165 [am_P (30, 0, 0), am_I (M (0, 0, 0) (nI i + nI 1).toNatClampNeg), am_I (nI 1)] M1 (am_Z w1)) (cpl_q hS (h211 (d := 11)) (by decide) qin_q_str (k78 (d := 8) hok hS.2.1) (fun w' => k165 (d := 9) hok hS.1)) (fun s v M1 M2 w1 hF h2 h20 hv => ?_)
    replace h2 : am_ev 12 165 [am_P (30, 0, 0), am_I (M (0, 0, 0) (nI i + nI 1).toNatClampNeg), am_I (nI 1)] M1 (am_Z w1) = some (.inl (some (am_I v)), M2, am_Z w1) := h2
    have q : ∀ j, M1 (0, 0, 0) j = M (0, 0, 0) j := fun j => hF _ _ rfl
    have q1 : M1 (0, 0, 1) 0 = nI L := (hF _ _ rfl).trans hL
    have g1 := gd (i := i) (k := 1) q1 (by omega) hL2
    have g2 := gd (i := i) (k := 2) q1 (by omega) hL2
    simp only [am_cb_i, am_cb_e, Option.toList_some, Option.toList_none, List.cons_append, List.nil_append]
    rw [b227_1293, if_pos g1, if_pos g2, q, q, if_neg hz, b227_1316, h2]
    simp only [am_cb_i, am_cb_e, Option.toList_some, Option.toList_none, List.cons_append, List.nil_append]
    rw [b227_1319, e114]
    simp only [am_cb_i, am_cb_e, Option.toList_some, Option.toList_none, List.cons_append, List.nil_append]
    rw [b227_1325, if_pos h20]
    by_cases h0 : s = 0
    · rw [if_pos h0, if_pos ((lg_cmp_eq _ _).mpr (hv h0)), b227_1349]
      exact ⟨_, _, _, rfl⟩
    · rw [if_neg h0, b227_1349]
      exact ⟨_, _, _, rfl⟩
theorem go_1352 {i L B : Nat} {M : am_M} {w : am_W4} {x6 x7 x8 : Option am_V} (hL : M (0, 0, 1) 0 = nI L) (hi : i + 4 ≤ L) (hL2 : L ≤ 2048) (hB0 : 1000 ≤ B) (hB : B < 900000000) (hI : lwI B M) : goO i B M w (am_rn (am_ev 12) 227 1352 (L9 (nI i) x6 x7 x8) [] M (am_Z w)) := by
  obtain ⟨a, hs, sv, tx, R, e, ln, hS⟩ := hI
  have hok := hS.2.2.1
  have g1 := gd (i := i) (k := 1) hL (by omega) hL2
  have g2 := gd (i := i) (k := 2) hL (by omega) hL2
  rw [b227_1352, if_pos g1, if_pos g2]
  by_cases hz : M (0, 0, 0) (nI i + nI 2).toNatClampNeg = 0
  · rw [if_pos hz, b227_1373]
    refine go_of (lv := (fun v => if v = 0 then 0 else 1)) (r2 := fun M1 w1 => am_ev 12 166 [am_P (30, 0, 0), am_I (M (0, 0, 0) (nI i + nI 1).toNatClampNeg), am_I (nI 0)] M1 (am_Z w1)) (cpl_q hS (h212 (d := 11)) (by decide) qin_q_hrd (k79 (d := 8) hok hS.2.1) (fun w' => k166 (d := 8) hok hS.1)) (fun s v M1 M2 w1 hF h2 h20 hv => ?_)
    replace h2 : am_ev 12 166 [am_P (30, 0, 0), am_I (M (0, 0, 0) (nI i + nI 1).toNatClampNeg), am_I (nI 0)] M1 (am_Z w1) = some (.inl (some (am_I v)), M2, am_Z w1) := h2
    have q : ∀ j, M1 (0, 0, 0) j = M (0, 0, 0) j := fun j => hF _ _ rfl
    have q1 : M1 (0, 0, 1) 0 = nI L := (hF _ _ rfl).trans hL
    have g1 := gd (i := i) (k := 1) q1 (by omega) hL2
    have g2 := gd (i := i) (k := 2) q1 (by omega) hL2
    simp only [am_cb_i, am_cb_e, Option.toList_some, Option.toList_none, List.cons_append, List.nil_append]
    rw [b227_1377, if_pos g1, if_pos g2, q, q, if_pos hz, b227_1400, h2]
    simp only [am_cb_i, am_cb_e, Option.toList_some, Option.toList_none, List.cons_append, List.nil_append]
    rw [b227_1403, e114]
    simp only [am_cb_i, am_cb_e, Option.toList_some, Option.toList_none, List.cons_append, List.nil_append]
    rw [b227_1409, if_pos h20]
    by_cases h0 : s = 0
    · have hv := hv h0
      rw [if_pos h0]
      by_cases hz0 : v = 0
      · rw [if_pos hz0] at hv
        rw [if_pos hz0, b227_1434, if_pos ((lg_cmp_eq _ _).mpr hv), b227_1440]
        exact ⟨_, _, _, rfl⟩
      · rw [if_neg hz0] at hv
        rw [if_neg hz0, b227_1434, if_pos ((lg_cmp_eq _ _).mpr hv), b227_1440]
        exact ⟨_, _, _, rfl⟩
    · rw [if_neg h0, b227_1440]
      exact ⟨_, _, _, rfl⟩
  · rw [if_neg hz, b227_1373]
    refine go_of (lv := (fun v => if v = 0 then 0 else 1)) (r2 := fun M1 w1 => am_ev 12 166 [am_P (30, 0, 0), am_I (M (0, 0, 0) (nI i + nI 1).toNatClampNeg), am_I (nI 1)] M1 (am_Z w1)) (cpl_q hS (h212 (d := 11)) (by decide) qin_q_hrd (k79 (d := 8) hok hS.2.1) (fun w' => k166 (d := 8) hok hS.1)) (fun s v M1 M2 w1 hF h2 h20 hv => ?_)
    replace h2 : am_ev 12 166 [am_P (30, 0, 0), am_I (M (0, 0, 0) (nI i + nI 1).toNatClampNeg), am_I (nI 1)] M1 (am_Z w1) = some (.inl (some (am_I v)), M2, am_Z w1) := h2
    have q : ∀ j, M1 (0, 0, 0) j = M (0, 0, 0) j := fun j => hF _ _ rfl
    have q1 : M1 (0, 0, 1) 0 = nI L := (hF _ _ rfl).trans hL
    have g1 := gd (i := i) (k := 1) q1 (by omega) hL2
    have g2 := gd (i := i) (k := 2) q1 (by omega) hL2
    simp only [am_cb_i, am_cb_e, Option.toList_some, Option.toList_none, List.cons_append, List.nil_append]
    rw [b227_1377, if_pos g1, if_pos g2, q, q, if_neg hz, b227_1400, h2]
    simp only [am_cb_i, am_cb_e, Option.toList_some, Option.toList_none, List.cons_append, List.nil_append]
    rw [b227_1403, e114]
    simp only [am_cb_i, am_cb_e, Option.toList_some, Option.toList_none, List.cons_append, List.nil_append]
    rw [b227_1409, if_pos h20]
    by_cases h0 : s = 0
    · have hv := hv h0
      rw [if_pos h0]
      by_cases hz0 : v = 0
      · rw [if_pos hz0] at hv
        rw [if_pos hz0, b227_1434, if_pos ((lg_cmp_eq _ _).mpr hv), b227_1440]
        exact ⟨_, _, _, rfl⟩
      · rw [if_neg hz0] at hv
        rw [if_neg hz0, b227_1434, if_pos ((lg_cmp_eq _ _).mpr hv), b227_1440]
        exact ⟨_, _, _, rfl⟩
    · rw [if_neg h0, b227_1440]
      exact ⟨_, _, _, rfl⟩
theorem go_1443 {i L B : Nat} {M : am_M} {w : am_W4} {x6 x7 x8 : Option am_V} (hL : M (0, 0, 1) 0 = nI L) (hi : i + 4 ≤ L) (hL2 : L ≤ 2048) (hB0 : 1000 ≤ B) (hB : B < 900000000) (hI : lwI B M) : goO i B M w (am_rn (am_ev 12) 227 1443 (L9 (nI i) x6 x7 x8) [] M (am_Z w)) := by
  obtain ⟨a, hs, sv, tx, R, e, ln, hS⟩ := hI
  have hok := hS.2.2.1
  have g1 := gd (i := i) (k := 1) hL (by omega) hL2
  have g2 := gd (i := i) (k := 2) hL (by omega) hL2
  rw [b227_1443, if_pos g1, if_pos g2]
  refine go_of (lv := Int32.toInt64) (r2 := fun M1 w1 => am_ev 12 167 [am_P (30, 0, 0), am_I (M (0, 0, 0) (nI i + nI 1).toNatClampNeg), am_I (M (0, 0, 0) (nI i + nI 2).toNatClampNeg)] M1 (am_Z w1)) (cpl_q hS (h213 (d := 11)) (by decide) qin_q_wnd (k80 (d := 8) (by omega) hok hS.2.1) (fun w' => k167 (d := 9) (by omega) hok hS.1)) (fun s v M1 M2 w1 hF h2 h20 hv => ?_)
  replace h2 : am_ev 12 167 [am_P (30, 0, 0), am_I (M (0, 0, 0) (nI i + nI 1).toNatClampNeg), am_I (M (0, 0, 0) (nI i + nI 2).toNatClampNeg)] M1 (am_Z w1) = some (.inl (some (am_I v)), M2, am_Z w1) := h2
  have q : ∀ j, M1 (0, 0, 0) j = M (0, 0, 0) j := fun j => hF _ _ rfl
  have q1 : M1 (0, 0, 1) 0 = nI L := (hF _ _ rfl).trans hL
  have g1 := gd (i := i) (k := 1) q1 (by omega) hL2
  have g2 := gd (i := i) (k := 2) q1 (by omega) hL2
  simp only [am_cb_i, am_cb_e, Option.toList_some, Option.toList_none, List.cons_append, List.nil_append]
  rw [b227_1460, if_pos g1, if_pos g2, q, q, h2]
  simp only [am_cb_i, am_cb_e, Option.toList_some, Option.toList_none, List.cons_append, List.nil_append]
  rw [b227_1478, e114]
  simp only [am_cb_i, am_cb_e, Option.toList_some, Option.toList_none, List.cons_append, List.nil_append]
  rw [b227_1484, if_pos h20]
  by_cases h0 : s = 0
  · rw [if_pos h0, if_pos ((lg_cmp_eq _ _).mpr (hv h0)), b227_1508]
    exact ⟨_, _, _, rfl⟩
  · rw [if_neg h0, b227_1508]
    exact ⟨_, _, _, rfl⟩
theorem go_1511 {i L B : Nat} {M : am_M} {w : am_W4} {x6 x7 x8 : Option am_V} (hL : M (0, 0, 1) 0 = nI L) (hi : i + 4 ≤ L) (hL2 : L ≤ 2048) (hB0 : 1000 ≤ B) (hB : B < 900000000) (hI : lwI B M) : goO i B M w (am_rn (am_ev 12) 227 1511 (L9 (nI i) x6 x7 x8) [] M (am_Z w)) := by
  obtain ⟨a, hs, sv, tx, R, e, ln, hS⟩ := hI
  have hok := hS.2.2.1
  have g1 := gd (i := i) (k := 1) hL (by omega) hL2
  rw [b227_1511, if_pos g1]
  refine go_of (lv := Int32.toInt64) (r2 := fun M1 w1 => am_ev 12 169 [am_P (30, 0, 0), am_I (M (0, 0, 0) (nI i + nI 1).toNatClampNeg)] M1 (am_Z w1)) (cpl_u hS (h214 (d := 11)) (by decide) qin_tri (k90 (d := 4) hB0 (by omega) hok hS.2.1) (fun M1 w' h => k169 (d := 5) hB0 (by omega) hok h)) (fun s v M1 M2 w1 hF h2 h20 hv => ?_)
  replace h2 : am_ev 12 169 [am_P (30, 0, 0), am_I (M (0, 0, 0) (nI i + nI 1).toNatClampNeg)] M1 (am_Z w1) = some (.inl (some (am_I v)), M2, am_Z w1) := h2
  have q : ∀ j, M1 (0, 0, 0) j = M (0, 0, 0) j := fun j => hF _ _ rfl
  have q1 : M1 (0, 0, 1) 0 = nI L := (hF _ _ rfl).trans hL
  have g1 := gd (i := i) (k := 1) q1 (by omega) hL2
  simp only [am_cb_i, am_cb_e, Option.toList_some, Option.toList_none, List.cons_append, List.nil_append]
  rw [b227_1522, if_pos g1, q, h2]
  simp only [am_cb_i, am_cb_e, Option.toList_some, Option.toList_none, List.cons_append, List.nil_append]
  rw [b227_1534, e114]
  simp only [am_cb_i, am_cb_e, Option.toList_some, Option.toList_none, List.cons_append, List.nil_append]
  rw [b227_1540, if_pos h20]
  by_cases h0 : s = 0
  · rw [if_pos h0, if_pos ((lg_cmp_eq _ _).mpr (hv h0)), b227_1564]
    exact ⟨_, _, _, rfl⟩
  · rw [if_neg h0, b227_1564]
    exact ⟨_, _, _, rfl⟩
theorem go_1567 {i L B : Nat} {M : am_M} {w : am_W4} {x6 x7 x8 : Option am_V} (hL : M (0, 0, 1) 0 = nI L) (hi : i + 4 ≤ L) (hL2 : L ≤ 2048) (hB0 : 1000 ≤ B) (hB : B < 900000000) (hI : lwI B M) : goO i B M w (am_rn (am_ev 12) 227 1567 (L9 (nI i) x6 x7 x8) [] M (am_Z w)) := by
  obtain ⟨a, hs, sv, tx, R, e, ln, hS⟩ := hI
  have hok := hS.2.2.1
  have g1 := gd (i := i) (k := 1) hL (by omega) hL2
  rw [b227_1567, if_pos g1]
  refine go_of (lv := Int32.toInt64) (r2 := fun M1 w1 => am_ev 12 170 [am_P (30, 0, 0), am_I (M (0, 0, 0) (nI i + nI 1).toNatClampNeg)] M1 (am_Z w1)) (cpl_u hS (h215 (d := 11)) (by decide) qin_tri (k91 (d := 4) hB0 (by omega) hok hS.2.1) (fun M1 w' h => k170 (d := 5) hB0 (by omega) hok h)) (fun s v M1 M2 w1 hF h2 h20 hv => ?_)
  replace h2 : am_ev 12 170 [am_P (30, 0, 0), am_I (M (0, 0, 0) (nI i + nI 1).toNatClampNeg)] M1 (am_Z w1) = some (.inl (some (am_I v)), M2, am_Z w1) := h2
  have q : ∀ j, M1 (0, 0, 0) j = M (0, 0, 0) j := fun j => hF _ _ rfl
  have q1 : M1 (0, 0, 1) 0 = nI L := (hF _ _ rfl).trans hL
  have g1 := gd (i := i) (k := 1) q1 (by omega) hL2
  simp only [am_cb_i, am_cb_e, Option.toList_some, Option.toList_none, List.cons_append, List.nil_append]
  rw [b227_1578, if_pos g1, q, h2]
  simp only [am_cb_i, am_cb_e, Option.toList_some, Option.toList_none, List.cons_append, List.nil_append]
  rw [b227_1590, e114]
  simp only [am_cb_i, am_cb_e, Option.toList_some, Option.toList_none, List.cons_append, List.nil_append]
  rw [b227_1596, if_pos h20]
  by_cases h0 : s = 0
  · rw [if_pos h0, if_pos ((lg_cmp_eq _ _).mpr (hv h0)), b227_1620]
    exact ⟨_, _, _, rfl⟩
  · rw [if_neg h0, b227_1620]
    exact ⟨_, _, _, rfl⟩
theorem go_1623 {i L B : Nat} {M : am_M} {w : am_W4} {x6 x7 x8 : Option am_V} (hL : M (0, 0, 1) 0 = nI L) (hi : i + 4 ≤ L) (hL2 : L ≤ 2048) (hB0 : 1000 ≤ B) (hB : B < 900000000) (hI : lwI B M) : goO i B M w (am_rn (am_ev 12) 227 1623 (L9 (nI i) x6 x7 x8) [] M (am_Z w)) := by
  obtain ⟨a, hs, sv, tx, R, e, ln, hS⟩ := hI
  have hok := hS.2.2.1
  have g1 := gd (i := i) (k := 1) hL (by omega) hL2
  rw [b227_1623, if_pos g1]
  refine go_of (lv := Int32.toInt64) (r2 := fun M1 w1 => am_ev 12 172 [am_P (30, 0, 0), am_I (M (0, 0, 0) (nI i + nI 1).toNatClampNeg)] M1 (am_Z w1)) (cpl_q hS (h216 (d := 11)) (by decide) qin_q_rnk (k94 (d := 7) (by omega) hok hS.2.1) (fun w' => k172 (d := 8) (by omega) hok hS.1)) (fun s v M1 M2 w1 hF h2 h20 hv => ?_)
  replace h2 : am_ev 12 172 [am_P (30, 0, 0), am_I (M (0, 0, 0) (nI i + nI 1).toNatClampNeg)] M1 (am_Z w1) = some (.inl (some (am_I v)), M2, am_Z w1) := h2
  have q : ∀ j, M1 (0, 0, 0) j = M (0, 0, 0) j := fun j => hF _ _ rfl
  have q1 : M1 (0, 0, 1) 0 = nI L := (hF _ _ rfl).trans hL
  have g1 := gd (i := i) (k := 1) q1 (by omega) hL2
  simp only [am_cb_i, am_cb_e, Option.toList_some, Option.toList_none, List.cons_append, List.nil_append]
  rw [b227_1634, if_pos g1, q, h2]
  simp only [am_cb_i, am_cb_e, Option.toList_some, Option.toList_none, List.cons_append, List.nil_append]
  rw [b227_1646, e114]
  simp only [am_cb_i, am_cb_e, Option.toList_some, Option.toList_none, List.cons_append, List.nil_append]
  rw [b227_1652, if_pos h20]
  by_cases h0 : s = 0
  · rw [if_pos h0, if_pos ((lg_cmp_eq _ _).mpr (hv h0)), b227_1676]
    exact ⟨_, _, _, rfl⟩
  · rw [if_neg h0, b227_1676]
    exact ⟨_, _, _, rfl⟩
theorem go_1705 {i L B : Nat} {M : am_M} {w : am_W4} {x6 x7 x8 : Option am_V} (hL : M (0, 0, 1) 0 = nI L) (hi : i + 4 ≤ L) (hL2 : L ≤ 2048) (hB0 : 1000 ≤ B) (hB : B < 900000000) (hI : lwI B M) : goO i B M w (am_rn (am_ev 12) 227 1705 (L9 (nI i) x6 x7 x8) [] M (am_Z w)) := by
  obtain ⟨a, hs, sv, tx, R, e, ln, hS⟩ := hI
  have hok := hS.2.2.1
  have g1 := gd (i := i) (k := 1) hL (by omega) hL2
  rw [b227_1705, if_pos g1]
  refine go_of (lv := Int32.toInt64) (r2 := fun M1 w1 => am_ev 12 176 [am_P (30, 0, 0), am_I ((M (0, 0, 0) (nI i + nI 1).toNatClampNeg).toUInt32 % 65536).toInt32] M1 (am_Z w1)) (cpl_char (d := 9) hS (h217 (d := 11))) (fun s v M1 M2 w1 hF h2 h20 hv => ?_)
  replace h2 : am_ev 12 176 [am_P (30, 0, 0), am_I ((M (0, 0, 0) (nI i + nI 1).toNatClampNeg).toUInt32 % 65536).toInt32] M1 (am_Z w1) = some (.inl (some (am_I v)), M2, am_Z w1) := h2
  have q : ∀ j, M1 (0, 0, 0) j = M (0, 0, 0) j := fun j => hF _ _ rfl
  have q1 : M1 (0, 0, 1) 0 = nI L := (hF _ _ rfl).trans hL
  have g1 := gd (i := i) (k := 1) q1 (by omega) hL2
  simp only [am_cb_i, am_cb_e, Option.toList_some, Option.toList_none, List.cons_append, List.nil_append]
  rw [b227_1717, if_pos g1, q, h2]
  simp only [am_cb_i, am_cb_e, Option.toList_some, Option.toList_none, List.cons_append, List.nil_append]
  rw [b227_1730, e114]
  simp only [am_cb_i, am_cb_e, Option.toList_some, Option.toList_none, List.cons_append, List.nil_append]
  rw [b227_1736, if_pos h20]
  by_cases h0 : s = 0
  · rw [if_pos h0, if_pos ((lg_cmp_eq _ _).mpr (hv h0)), b227_1760]
    exact ⟨_, _, _, rfl⟩
  · rw [if_neg h0, b227_1760]
    exact ⟨_, _, _, rfl⟩
theorem go_1763 {i L B : Nat} {M : am_M} {w : am_W4} {x6 x7 x8 : Option am_V} (hL : M (0, 0, 1) 0 = nI L) (hi : i + 4 ≤ L) (hL2 : L ≤ 2048) (hB0 : 1000 ≤ B) (hB : B < 900000000) (hI : lwI B M) : goO i B M w (am_rn (am_ev 12) 227 1763 (L9 (nI i) x6 x7 x8) [] M (am_Z w)) := by
  obtain ⟨a, hs, sv, tx, R, e, ln, hS⟩ := hI
  have hok := hS.2.2.1
  rw [b227_1763]
  refine go_of (lv := Int32.toInt64) (r2 := fun M1 w1 => am_ev 12 183 [am_P (30, 0, 0)] M1 (am_Z w1)) (cpl_text (d := 3) hB0 (by omega) hS (h218 (d := 11))) (fun s v M1 M2 w1 hF h2 h20 hv => ?_)
  replace h2 : am_ev 12 183 [am_P (30, 0, 0)] M1 (am_Z w1) = some (.inl (some (am_I v)), M2, am_Z w1) := h2
  have q : ∀ j, M1 (0, 0, 0) j = M (0, 0, 0) j := fun j => hF _ _ rfl
  have q1 : M1 (0, 0, 1) 0 = nI L := (hF _ _ rfl).trans hL
  simp only [am_cb_i, am_cb_e, Option.toList_some, Option.toList_none, List.cons_append, List.nil_append]
  rw [b227_1768, h2]
  simp only [am_cb_i, am_cb_e, Option.toList_some, Option.toList_none, List.cons_append, List.nil_append]
  rw [b227_1774, e114]
  simp only [am_cb_i, am_cb_e, Option.toList_some, Option.toList_none, List.cons_append, List.nil_append]
  rw [b227_1780, if_pos h20]
  by_cases h0 : s = 0
  · rw [if_pos h0, if_pos ((lg_cmp_eq _ _).mpr (hv h0)), b227_1804]
    exact ⟨_, _, _, rfl⟩
  · rw [if_neg h0, b227_1804]
    exact ⟨_, _, _, rfl⟩
theorem go_1820 {i L B : Nat} {M : am_M} {w : am_W4} {x6 x7 x8 : Option am_V} (hL : M (0, 0, 1) 0 = nI L) (hi : i + 4 ≤ L) (hL2 : L ≤ 2048) (hB0 : 1000 ≤ B) (hB : B < 900000000) (hI : lwI B M) : goO i B M w (am_rn (am_ev 12) 227 1820 (L9 (nI i) x6 x7 x8) [] M (am_Z w)) := by
  obtain ⟨a, hs, sv, tx, R, e, ln, hS⟩ := hI
  have hok := hS.2.2.1
  have g1 := gd (i := i) (k := 1) hL (by omega) hL2
  rw [b227_1820, if_pos g1]
  refine go_of (lv := Int32.toInt64) (r2 := fun M1 w1 => am_ev 12 185 [am_P (30, 0, 0), am_I (M (0, 0, 0) (nI i + nI 1).toNatClampNeg)] M1 (am_Z w1)) (cpl_q hS (h219 (d := 11)) (by decide) qin_q_why (k101 (d := 10) hS.2.1) (fun w' => k185 (d := 10) hS.1)) (fun s v M1 M2 w1 hF h2 h20 hv => ?_)
  replace h2 : am_ev 12 185 [am_P (30, 0, 0), am_I (M (0, 0, 0) (nI i + nI 1).toNatClampNeg)] M1 (am_Z w1) = some (.inl (some (am_I v)), M2, am_Z w1) := h2
  have q : ∀ j, M1 (0, 0, 0) j = M (0, 0, 0) j := fun j => hF _ _ rfl
  have q1 : M1 (0, 0, 1) 0 = nI L := (hF _ _ rfl).trans hL
  have g1 := gd (i := i) (k := 1) q1 (by omega) hL2
  simp only [am_cb_i, am_cb_e, Option.toList_some, Option.toList_none, List.cons_append, List.nil_append]
  rw [b227_1831, if_pos g1, q, h2]
  simp only [am_cb_i, am_cb_e, Option.toList_some, Option.toList_none, List.cons_append, List.nil_append]
  rw [b227_1843, e114]
  simp only [am_cb_i, am_cb_e, Option.toList_some, Option.toList_none, List.cons_append, List.nil_append]
  rw [b227_1849, if_pos h20]
  by_cases h0 : s = 0
  · rw [if_pos h0, if_pos ((lg_cmp_eq _ _).mpr (hv h0)), b227_1873]
    exact ⟨_, _, _, rfl⟩
  · rw [if_neg h0, b227_1873]
    exact ⟨_, _, _, rfl⟩
theorem go_1876 {i L B : Nat} {M : am_M} {w : am_W4} {x6 x7 x8 : Option am_V} (hL : M (0, 0, 1) 0 = nI L) (hi : i + 4 ≤ L) (hL2 : L ≤ 2048) (hB0 : 1000 ≤ B) (hB : B < 900000000) (hI : lwI B M) : goO i B M w (am_rn (am_ev 12) 227 1876 (L9 (nI i) x6 x7 x8) [] M (am_Z w)) := by
  obtain ⟨a, hs, sv, tx, R, e, ln, hS⟩ := hI
  have hok := hS.2.2.1
  have g1 := gd (i := i) (k := 1) hL (by omega) hL2
  rw [b227_1876, if_pos g1]
  refine go_of (lv := Int32.toInt64) (r2 := fun M1 w1 => am_ev 12 187 [am_P (30, 0, 0), am_I (M (0, 0, 0) (nI i + nI 1).toNatClampNeg)] M1 (am_Z w1)) (cpl_line (d := 8) hS (h220 (d := 11))) (fun s v M1 M2 w1 hF h2 h20 hv => ?_)
  replace h2 : am_ev 12 187 [am_P (30, 0, 0), am_I (M (0, 0, 0) (nI i + nI 1).toNatClampNeg)] M1 (am_Z w1) = some (.inl (some (am_I v)), M2, am_Z w1) := h2
  have q : ∀ j, M1 (0, 0, 0) j = M (0, 0, 0) j := fun j => hF _ _ rfl
  have q1 : M1 (0, 0, 1) 0 = nI L := (hF _ _ rfl).trans hL
  have g1 := gd (i := i) (k := 1) q1 (by omega) hL2
  simp only [am_cb_i, am_cb_e, Option.toList_some, Option.toList_none, List.cons_append, List.nil_append]
  rw [b227_1887, if_pos g1, q, h2]
  simp only [am_cb_i, am_cb_e, Option.toList_some, Option.toList_none, List.cons_append, List.nil_append]
  rw [b227_1899, e114]
  simp only [am_cb_i, am_cb_e, Option.toList_some, Option.toList_none, List.cons_append, List.nil_append]
  rw [b227_1905, if_pos h20]
  by_cases h0 : s = 0
  · rw [if_pos h0, if_pos ((lg_cmp_eq _ _).mpr (hv h0)), b227_1929]
    exact ⟨_, _, _, rfl⟩
  · rw [if_neg h0, b227_1929]
    exact ⟨_, _, _, rfl⟩
theorem go_1932 {i L B : Nat} {M : am_M} {w : am_W4} {x6 x7 x8 : Option am_V} (hL : M (0, 0, 1) 0 = nI L) (hi : i + 4 ≤ L) (hL2 : L ≤ 2048) (hB0 : 1000 ≤ B) (hB : B < 900000000) (hI : lwI B M) : goO i B M w (am_rn (am_ev 12) 227 1932 (L9 (nI i) x6 x7 x8) [] M (am_Z w)) := by
  obtain ⟨a, hs, sv, tx, R, e, ln, hS⟩ := hI
  have hok := hS.2.2.1
  have g1 := gd (i := i) (k := 1) hL (by omega) hL2
  rw [b227_1932, if_pos g1]
  refine go_of (lv := Int32.toInt64) (r2 := fun M1 w1 => am_ev 12 188 [am_P (30, 0, 0), am_I (M (0, 0, 0) (nI i + nI 1).toNatClampNeg)] M1 (am_Z w1)) (cpl_q hS (h221 (d := 11)) (by decide) qin_q_ltr (k105 (d := 10) hS.2.2.2.2.2.2.1 hS.2.2.2.2.2.2.2 hS.2.1) (fun w' => k188 (d := 10) hS.2.2.2.2.2.2.1 hS.2.2.2.2.2.2.2 hS.1)) (fun s v M1 M2 w1 hF h2 h20 hv => ?_)
  replace h2 : am_ev 12 188 [am_P (30, 0, 0), am_I (M (0, 0, 0) (nI i + nI 1).toNatClampNeg)] M1 (am_Z w1) = some (.inl (some (am_I v)), M2, am_Z w1) := h2
  have q : ∀ j, M1 (0, 0, 0) j = M (0, 0, 0) j := fun j => hF _ _ rfl
  have q1 : M1 (0, 0, 1) 0 = nI L := (hF _ _ rfl).trans hL
  have g1 := gd (i := i) (k := 1) q1 (by omega) hL2
  simp only [am_cb_i, am_cb_e, Option.toList_some, Option.toList_none, List.cons_append, List.nil_append]
  rw [b227_1943, if_pos g1, q, h2]
  simp only [am_cb_i, am_cb_e, Option.toList_some, Option.toList_none, List.cons_append, List.nil_append]
  rw [b227_1955, e114]
  simp only [am_cb_i, am_cb_e, Option.toList_some, Option.toList_none, List.cons_append, List.nil_append]
  rw [b227_1961, if_pos h20]
  by_cases h0 : s = 0
  · rw [if_pos h0, if_pos ((lg_cmp_eq _ _).mpr (hv h0)), b227_1985]
    exact ⟨_, _, _, rfl⟩
  · rw [if_neg h0, b227_1985]
    exact ⟨_, _, _, rfl⟩
theorem go_2119 {i L B : Nat} {M : am_M} {w : am_W4} {x6 x7 x8 : Option am_V} (hL : M (0, 0, 1) 0 = nI L) (hi : i + 4 ≤ L) (hL2 : L ≤ 2048) (hB0 : 1000 ≤ B) (hB : B < 900000000) (hI : lwI B M) : goO i B M w (am_rn (am_ev 12) 227 2119 (L9 (nI i) x6 x7 x8) [] M (am_Z w)) := by
  obtain ⟨a, hs, sv, tx, R, e, ln, hS⟩ := hI
  have hok := hS.2.2.1
  have g1 := gd (i := i) (k := 1) hL (by omega) hL2
  rw [b227_2119, if_pos g1]
  refine go_of (lv := Int32.toInt64) (r2 := fun M1 w1 => am_ev 12 191 [am_P (30, 0, 0), am_I (M (0, 0, 0) (nI i + nI 1).toNatClampNeg)] M1 (am_Z w1)) (cpl_q hS (h224 (d := 11)) (by decide) qin_q_all (k106 (d := 8) (by omega) hok hS.2.1) (fun w' => k191 (d := 9) (by omega) hok hS.1)) (fun s v M1 M2 w1 hF h2 h20 hv => ?_)
  replace h2 : am_ev 12 191 [am_P (30, 0, 0), am_I (M (0, 0, 0) (nI i + nI 1).toNatClampNeg)] M1 (am_Z w1) = some (.inl (some (am_I v)), M2, am_Z w1) := h2
  have q : ∀ j, M1 (0, 0, 0) j = M (0, 0, 0) j := fun j => hF _ _ rfl
  have q1 : M1 (0, 0, 1) 0 = nI L := (hF _ _ rfl).trans hL
  have g1 := gd (i := i) (k := 1) q1 (by omega) hL2
  simp only [am_cb_i, am_cb_e, Option.toList_some, Option.toList_none, List.cons_append, List.nil_append]
  rw [b227_2130, if_pos g1, q, h2]
  simp only [am_cb_i, am_cb_e, Option.toList_some, Option.toList_none, List.cons_append, List.nil_append]
  rw [b227_2142, e114]
  simp only [am_cb_i, am_cb_e, Option.toList_some, Option.toList_none, List.cons_append, List.nil_append]
  rw [b227_2148, if_pos h20]
  by_cases h0 : s = 0
  · rw [if_pos h0, if_pos ((lg_cmp_eq _ _).mpr (hv h0)), b227_2172]
    exact ⟨_, _, _, rfl⟩
  · rw [if_neg h0, b227_2172]
    exact ⟨_, _, _, rfl⟩
theorem go_2175 {i L B : Nat} {M : am_M} {w : am_W4} {x6 x7 x8 : Option am_V} (hL : M (0, 0, 1) 0 = nI L) (hi : i + 4 ≤ L) (hL2 : L ≤ 2048) (hB0 : 1000 ≤ B) (hB : B < 900000000) (hI : lwI B M) : goO i B M w (am_rn (am_ev 12) 227 2175 (L9 (nI i) x6 x7 x8) [] M (am_Z w)) := by
  obtain ⟨a, hs, sv, tx, R, e, ln, hS⟩ := hI
  have hok := hS.2.2.1
  rw [b227_2175]
  refine go_of (lv := Int32.toInt64) (r2 := fun M1 w1 => am_ev 12 192 [am_P (30, 0, 0)] M1 (am_Z w1)) (cpl_undo (d := 8) hS (h225 (d := 11))) (fun s v M1 M2 w1 hF h2 h20 hv => ?_)
  replace h2 : am_ev 12 192 [am_P (30, 0, 0)] M1 (am_Z w1) = some (.inl (some (am_I v)), M2, am_Z w1) := h2
  have q : ∀ j, M1 (0, 0, 0) j = M (0, 0, 0) j := fun j => hF _ _ rfl
  have q1 : M1 (0, 0, 1) 0 = nI L := (hF _ _ rfl).trans hL
  simp only [am_cb_i, am_cb_e, Option.toList_some, Option.toList_none, List.cons_append, List.nil_append]
  rw [b227_2180, h2]
  simp only [am_cb_i, am_cb_e, Option.toList_some, Option.toList_none, List.cons_append, List.nil_append]
  rw [b227_2186, e114]
  simp only [am_cb_i, am_cb_e, Option.toList_some, Option.toList_none, List.cons_append, List.nil_append]
  rw [b227_2192, if_pos h20]
  by_cases h0 : s = 0
  · rw [if_pos h0, if_pos ((lg_cmp_eq _ _).mpr (hv h0)), b227_2216]
    exact ⟨_, _, _, rfl⟩
  · rw [if_neg h0, b227_2216]
    exact ⟨_, _, _, rfl⟩
theorem go_2232 {i L B : Nat} {M : am_M} {w : am_W4} {x6 x7 x8 : Option am_V} (hL : M (0, 0, 1) 0 = nI L) (hi : i + 4 ≤ L) (hL2 : L ≤ 2048) (hB0 : 1000 ≤ B) (hB : B < 900000000) (hI : lwI B M) : goO i B M w (am_rn (am_ev 12) 227 2232 (L9 (nI i) x6 x7 x8) [] M (am_Z w)) := by
  obtain ⟨a, hs, sv, tx, R, e, ln, hS⟩ := hI
  have hok := hS.2.2.1
  rw [b227_2232]
  refine go_of (lv := Int32.toInt64) (r2 := fun M1 w1 => am_ev 12 194 [am_P (30, 0, 0)] M1 (am_Z w1)) (cpl_rest (d := 8) hS (h226 (d := 11))) (fun s v M1 M2 w1 hF h2 h20 hv => ?_)
  replace h2 : am_ev 12 194 [am_P (30, 0, 0)] M1 (am_Z w1) = some (.inl (some (am_I v)), M2, am_Z w1) := h2
  have q : ∀ j, M1 (0, 0, 0) j = M (0, 0, 0) j := fun j => hF _ _ rfl
  have q1 : M1 (0, 0, 1) 0 = nI L := (hF _ _ rfl).trans hL
  simp only [am_cb_i, am_cb_e, Option.toList_some, Option.toList_none, List.cons_append, List.nil_append]
  rw [b227_2237, h2]
  simp only [am_cb_i, am_cb_e, Option.toList_some, Option.toList_none, List.cons_append, List.nil_append]
  rw [b227_2243, e114]
  simp only [am_cb_i, am_cb_e, Option.toList_some, Option.toList_none, List.cons_append, List.nil_append]
  rw [b227_2249, if_pos h20]
  by_cases h0 : s = 0
  · rw [if_pos h0, if_pos ((lg_cmp_eq _ _).mpr (hv h0)), b227_2273]
    exact ⟨_, _, _, rfl⟩
  · rw [if_neg h0, b227_2273]
    exact ⟨_, _, _, rfl⟩
