/-! THE LAW'S CALLS WITH NO HELPER, AND THE TWO MEANS -/
theorem fl_ok3 : ∀ x, x < 600 → ∀ y, y < 7 → 0 < y → Op.cmpValue (FP.dcmp (FP.f2d (FP.fdiv (FP.i2f (nI x)) (FP.i2f (nI y)))) (FP.f2d (FP.fdiv (FP.i2f (nI x)) (FP.i2f (nI y))))) .l = 0 := by decide +kernel
theorem wB.rf (w : am_W4) : wB w w := ⟨Nat.le_succ _, Nat.le_add_right _ _⟩
theorem wB.bw (w : am_W4) : wB w (am_bw w) := ⟨Nat.le_refl _, Nat.le_refl _⟩
theorem go_1679 {i B : Nat} {M : am_M} {w : am_W4} {x6 x7 x8 : Option am_V} (hB0 : 1000 ≤ B) (hB : B < 900000000) (hI : lwI B M) : goO i B M w (am_rn (am_ev 12) 227 1679 (L9 (nI i) x6 x7 x8) [] M (am_Z w)) := by
  obtain ⟨a, hs, sv, tx, R, e, ln, hS⟩ := hI
  have hok := hS.2.2.1
  have hc := k95 (d := 11) (w := w) hok hS.2.1
  have hm := k173 (d := 10) (w := w) hok hS.1
  obtain ⟨M2, m1, m2, m3, m4⟩ := hm
  refine ⟨x6, x7, x8, M2, w, ?_, ⟨a, hs, sv, tx, R, e, ln, m2, hS.2.1.mF m4, (hS.mono (Nat.le_add_right _ _)).2.2⟩, m4.lF, wB.rf w⟩
  rw [b227_1679, show am_ev 12 95 [am_P (3, 0, 0)] M (am_Z w) = _ from hc]
  simp only [am_cb_i, am_cb_e, Option.toList_some, Option.toList_none, List.cons_append, List.nil_append]
  rw [b227_1683, show am_ev 12 173 [am_P (30, 0, 0)] M (am_Z w) = _ from m1]
  simp only [am_cb_i, am_cb_e, Option.toList_some, Option.toList_none, List.cons_append, List.nil_append]
  rw [b227_1687, if_pos rfl]
theorem go_1692 {i B : Nat} {M : am_M} {w : am_W4} {x6 x7 x8 : Option am_V} (hB0 : 1000 ≤ B) (hB : B < 900000000) (hI : lwI B M) : goO i B M w (am_rn (am_ev 12) 227 1692 (L9 (nI i) x6 x7 x8) [] M (am_Z w)) := by
  obtain ⟨a, hs, sv, tx, R, e, ln, hS⟩ := hI
  have hok := hS.2.2.1
  have hc := k96 (d := 10) (w := w) hok hS.2.1
  have hm := k175 (d := 8) (w := w) hok hS.1
  obtain ⟨M2, m1, m2, m3, m4⟩ := hm
  refine ⟨x6, x7, x8, M2, w, ?_, ⟨a, hs, sv, tx, R, e, ln, m2, hS.2.1.mF m4, (hS.mono (Nat.le_add_right _ _)).2.2⟩, m4.lF, wB.rf w⟩
  rw [b227_1692, show am_ev 12 96 [am_P (3, 0, 0)] M (am_Z w) = _ from hc]
  simp only [am_cb_i, am_cb_e, Option.toList_some, Option.toList_none, List.cons_append, List.nil_append]
  rw [b227_1696, show am_ev 12 175 [am_P (30, 0, 0)] M (am_Z w) = _ from m1]
  simp only [am_cb_i, am_cb_e, Option.toList_some, Option.toList_none, List.cons_append, List.nil_append]
  rw [b227_1700, if_pos rfl]
theorem go_1807 {i B : Nat} {M : am_M} {w : am_W4} {x6 x7 x8 : Option am_V} (hB0 : 1000 ≤ B) (hB : B < 900000000) (hI : lwI B M) : goO i B M w (am_rn (am_ev 12) 227 1807 (L9 (nI i) x6 x7 x8) [] M (am_Z w)) := by
  obtain ⟨a, hs, sv, tx, R, e, ln, hS⟩ := hI
  have hok := hS.2.2.1
  have hc := k100 (d := 11) (w := w) hS.2.1
  have hm := k184 (d := 11) (w := w) hS.1
  obtain ⟨M2, m1, m2, m3, m4⟩ := hm
  refine ⟨x6, x7, x8, M2, w, ?_, ⟨a, hs, sv, tx, R, e, ln, m2, hS.2.1.mF m4, (hS.mono (Nat.le_add_right _ _)).2.2⟩, m4.lF, wB.rf w⟩
  rw [b227_1807, show am_ev 12 100 [am_P (3, 0, 0)] M (am_Z w) = _ from hc]
  simp only [am_cb_i, am_cb_e, Option.toList_some, Option.toList_none, List.cons_append, List.nil_append]
  rw [b227_1811, show am_ev 12 184 [am_P (30, 0, 0)] M (am_Z w) = _ from m1]
  simp only [am_cb_i, am_cb_e, Option.toList_some, Option.toList_none, List.cons_append, List.nil_append]
  rw [b227_1815, if_pos rfl]
theorem go_2219 {i B : Nat} {M : am_M} {w : am_W4} {x6 x7 x8 : Option am_V} (hB0 : 1000 ≤ B) (hB : B < 900000000) (hI : lwI B M) : goO i B M w (am_rn (am_ev 12) 227 2219 (L9 (nI i) x6 x7 x8) [] M (am_Z w)) := by
  obtain ⟨a, hs, sv, tx, R, e, ln, hS⟩ := hI
  have hok := hS.2.2.1
  obtain ⟨M1, c1, c2, c3⟩ := k108 (d := 9) (w := w) hok hS.2.1
  obtain ⟨M2, m1, m2, m3, m4⟩ := k193 (d := 11) (w := w) (hS.1.clF c3)
  have hS' := hS.mono (B' := B + 400000) (Nat.le_add_right _ _)
  refine ⟨x6, x7, x8, M2, w, ?_, ⟨a, hs, some a, tx, R, e, ln, m2, c2.mF m4, hS'.2.2.1, hS'.2.2.2.1, fun b hb => by rw [← Option.some.inj hb]; exact hS'.2.2.1, hS'.2.2.2.2.2⟩, c3.lF.tr m4.lF, wB.rf w⟩
  rw [b227_2219, show am_ev 12 108 [am_P (3, 0, 0)] M (am_Z w) = _ from c1]
  simp only [am_cb_i, am_cb_e, Option.toList_some, Option.toList_none, List.cons_append, List.nil_append]
  rw [b227_2223, show am_ev 12 193 [am_P (30, 0, 0)] M1 (am_Z w) = _ from m1]
  simp only [am_cb_i, am_cb_e, Option.toList_some, Option.toList_none, List.cons_append, List.nil_append]
  rw [b227_2227, if_pos rfl]
theorem go_1988 {i B : Nat} {M : am_M} {w : am_W4} {x6 x7 x8 : Option am_V} (hB0 : 1000 ≤ B) (hB : B < 900000000) (hI : lwI B M) : goO i B M w (am_rn (am_ev 12) 227 1988 (L9 (nI i) x6 x7 x8) [] M (am_Z w)) := by
  obtain ⟨a, hs, sv, tx, R, e, ln, hS⟩ := hI
  have hok := hS.2.2.1
  have hS' := hS.mono (B' := B + 400000) (Nat.le_add_right _ _)
  have b1 := hok.1.1
  rcases Nat.eq_zero_or_pos (a 1) with h0 | h0
  · have c1 := h222e (d := 11) (k81n (d := 10) (w := w) h0 hS.2.1)
    obtain ⟨M2, m1, m2, m3, m4⟩ := k189n (d := 10) (w := am_bw w) h0 hS.1
    refine ⟨some (am_I (nI 1)), some (.inl (.float (FP.i2f (nI 0)))), x8, M2, am_bw w, ?_, ⟨a, hs, sv, tx, R, e, ln, m2, hS.2.1.mF m4, hS'.2.2⟩, m4.lF, wB.bw w⟩
    rw [b227_1988, show am_ev 12 222 [am_P (3, 0, 0), am_P (2, 0, 0)] M (am_Z w) = _ from c1]
    simp only [am_cb_i, am_cb_e, Option.toList_some, Option.toList_none, List.cons_append, List.nil_append]
    rw [b227_1994, show am_ev 12 189 [am_P (30, 0, 0)] M (am_Z (am_bw w)) = _ from m1]
    simp only [am_cb_i, am_cb_e, Option.toList_some, Option.toList_none, List.cons_append, List.nil_append]
    rw [b227_2000, e114]
    simp only [am_cb_i, am_cb_e, Option.toList_some, Option.toList_none, List.cons_append, List.nil_append]
    rw [b227_2006, if_pos m3, if_neg (show ¬ nI 1 = 0 from nI_ne0 (by decide) (by decide)), b227_2051]
  · have hf := me_e_lt hok
    have hq := (fl_ok1 _ hf _ (by omega) h0).2
    have hq3 := fl_ok3 _ hf _ (by omega) h0
    have c1 := h222v (d := 11) hq (k81s (d := 10) (w := w) hok h0 hS.2.1)
    obtain ⟨M2, m1, m2, m3, m4⟩ := k189s (d := 10) hok (w := (w.1, w.2.1, w.2.2.1, FP.f2d (FP.fdiv (FP.i2f (nI (me_e a))) (FP.i2f (nI (a 1)))))) h0 hS.1
    refine ⟨some (am_I (nI 0)), some (.inl (.float (FP.fdiv (FP.i2f (nI (me_e a))) (FP.i2f (nI (a 1)))))), x8, M2, (w.1, w.2.1, w.2.2.1, FP.f2d (FP.fdiv (FP.i2f (nI (me_e a))) (FP.i2f (nI (a 1))))), ?_, ⟨a, hs, sv, tx, R, e, ln, m2, hS.2.1.mF m4, hS'.2.2⟩, m4.lF, wB.rf w⟩
    rw [b227_1988, show am_ev 12 222 [am_P (3, 0, 0), am_P (2, 0, 0)] M (am_Z w) = _ from c1]
    simp only [am_cb_i, am_cb_e, Option.toList_some, Option.toList_none, List.cons_append, List.nil_append]
    rw [b227_1994, show am_ev 12 189 [am_P (30, 0, 0)] M (am_Z (w.1, w.2.1, w.2.2.1, FP.f2d (FP.fdiv (FP.i2f (nI (me_e a))) (FP.i2f (nI (a 1)))))) = _ from m1]
    simp only [am_cb_i, am_cb_e, Option.toList_some, Option.toList_none, List.cons_append, List.nil_append]
    rw [b227_2000, e114]
    simp only [am_cb_i, am_cb_e, Option.toList_some, Option.toList_none, List.cons_append, List.nil_append]
    rw [b227_2006, if_pos m3, if_pos (show nI 0 = 0 from rfl)]
    rw [if_pos hq, if_pos hq3, b227_2051]
theorem go_2054 {i B : Nat} {M : am_M} {w : am_W4} {x6 x7 x8 : Option am_V} (hB0 : 1000 ≤ B) (hB : B < 900000000) (hI : lwI B M) : goO i B M w (am_rn (am_ev 12) 227 2054 (L9 (nI i) x6 x7 x8) [] M (am_Z w)) := by
  obtain ⟨a, hs, sv, tx, R, e, ln, hS⟩ := hI
  have hok := hS.2.2.1
  have hS' := hS.mono (B' := B + 400000) (Nat.le_add_right _ _)
  have b1 := hok.1.1
  rcases Nat.eq_zero_or_pos (a 2) with h0 | h0
  · have c1 := h223e (d := 11) (k97n (d := 10) (w := w) h0 hS.2.1)
    obtain ⟨M2, m1, m2, m3, m4⟩ := k190n (d := 7) hok (w := am_bw w) h0 hS.1
    refine ⟨some (am_I (nI 1)), some (.inl (.double (FP.i2d (nI 0)))), none, M2, am_bw w, ?_, ⟨a, hs, sv, tx, R, e, ln, m2, hS.2.1.mF m4, hS'.2.2⟩, m4.lF, wB.bw w⟩
    rw [b227_2054, show am_ev 12 223 [am_P (3, 0, 0), am_P (2, 0, 0)] M (am_Z w) = _ from c1]
    simp only [am_cb_i, am_cb_e, Option.toList_some, Option.toList_none, List.cons_append, List.nil_append]
    rw [b227_2060, show am_ev 12 190 [am_P (30, 0, 0)] M (am_Z (am_bw w)) = _ from m1]
    simp only [am_cb_i, am_cb_e, Option.toList_some, Option.toList_none, List.cons_append, List.nil_append]
    rw [b227_2066, e114]
    simp only [am_cb_i, am_cb_e, Option.toList_some, Option.toList_none, List.cons_append, List.nil_append]
    rw [b227_2072, if_pos m3, if_neg (show ¬ nI 1 = 0 from nI_ne0 (by decide) (by decide)), b227_2116]
  · have c1 := h223v (d := 11) (k97s (d := 8) (w := w) hok h0 hS.2.1)
    obtain ⟨M2, m1, m2, m3, m4⟩ := k190s (d := 7) hok (w := (w.1, w.2.1, w.2.2.1, (FP.ddiv (FP.i2d (nI (me_l a))) (FP.i2d (nI (me_s a)))))) h0 hS.1
    refine ⟨some (am_I (nI 0)), some (.inl (.double (FP.ddiv (FP.i2d (nI (me_l a))) (FP.i2d (nI (me_s a)))))), none, M2, (w.1, w.2.1, w.2.2.1, (FP.ddiv (FP.i2d (nI (me_l a))) (FP.i2d (nI (me_s a))))), ?_, ⟨a, hs, sv, tx, R, e, ln, m2, hS.2.1.mF m4, hS'.2.2⟩, m4.lF, wB.rf w⟩
    rw [b227_2054, show am_ev 12 223 [am_P (3, 0, 0), am_P (2, 0, 0)] M (am_Z w) = _ from c1]
    simp only [am_cb_i, am_cb_e, Option.toList_some, Option.toList_none, List.cons_append, List.nil_append]
    rw [b227_2060, show am_ev 12 190 [am_P (30, 0, 0)] M (am_Z (w.1, w.2.1, w.2.2.1, (FP.ddiv (FP.i2d (nI (me_l a))) (FP.i2d (nI (me_s a)))))) = _ from m1]
    simp only [am_cb_i, am_cb_e, Option.toList_some, Option.toList_none, List.cons_append, List.nil_append]
    rw [b227_2066, e114]
    simp only [am_cb_i, am_cb_e, Option.toList_some, Option.toList_none, List.cons_append, List.nil_append]
    rw [b227_2072, if_pos m3, if_pos (show nI 0 = 0 from rfl)]
    dsimp only
    by_cases hcmp : Op.cmpValue (FP.dcmp (FP.ddiv (FP.i2d (nI (me_l a))) (FP.i2d (nI (me_s a)))) (FP.ddiv (FP.i2d (nI (me_l a))) (FP.i2d (nI (me_s a))))) .l = 0
    · rw [if_pos hcmp, b227_2116]
    · rw [if_neg hcmp, if_neg hcmp, if_neg hcmp, b227_2116]
