/-! THE FIRST OBJECT'S RUN: A DAY -/
section Kr7
variable {d B n : Nat} {M : am_M} {a b : Nat → Nat} {w : am_W4} {sv : Option (Nat → Nat)} {hs : List (Nat → Nat)} {R : Int32 × Int32 × Int32} {e : Int32} {x y z : Int32}
theorem h_pas {i k : Nat} (hB0 : 1000 ≤ B) (h : ml_ok B (rwl (rH 0))) (hi : i + k ≤ 56) (h1 : 1 ≤ k) (h2 : k ≤ 96) : oC (rwl (rH i)) 7 (nI k) (nI 0) (nI 0) = .inl (if i + k = 56 then 1 else 0, rwl (rH (i + k))) := by
  obtain ⟨e1, e2⟩ := rH_ps hB0 h i k hi
  rw [oC_7']
  unfold o_pas
  rw [if_pos ((bt_P (by omega) (by decide) (by decide)).mpr ⟨h1, h2⟩), cN_nI (by omega), e1, e2]
  by_cases hl : i + k = 56
  · rw [if_pos hl, if_pos ⟨hl, by omega⟩]
  · rw [if_neg hl, if_neg (fun q => hl q.1)]
theorem p1e (hB0 : 1000 ≤ B) (hB : B < 900000000) (hg : gL 16 B (rwl rs16) sv M) : ∃ M' w', am_rn (am_ev 15) 227 306 (L2 16) [am_I (nI 15)] M (am_Z w) = am_rn (am_ev 15) 227 359 (L2 16) [am_I (nI 8)] M' (am_Z w') ∧ gL 17 (B + 20000) (rwl (rH 24)) sv M' ∧ clF M M' ∧ wle 10 w w' ∧ ml_ok B (rwl (rH 0)) := by
  have hok0 : ml_ok B (rwl (rH 0)) := hg.choose_spec.1.1.1
  obtain ⟨M1, e1, g1, f1, -⟩ := gOL (d := 4) (w := w) (zz := 122) (as := [am_P (3, 0, 0), am_I (nI 24)]) hB0 hg (h_pas (i := 0) (k := 24) hB0 hok0 (by decide) (by decide) (by decide)) (fun hs R e hok h => a122 (d := 5) hB0 (by omega) hok h)
  obtain ⟨hs, ⟨⟨h1, h2, h3⟩, h4⟩, R, e, hl⟩ := g1
  obtain ⟨M2, w2, e2, q2, f2, u2⟩ := d126 (d := 4) (w := w) (x := nI 0) (y := nI 2) h1 hl
  rw [show qvl id (q_msg (rwl (rH (0 + 24))) (nI 0) (nI 2)) = nI 1 by decide +kernel] at e2
  obtain ⟨M3, w3, e3, q3, f3, u3⟩ := d126 (d := 4) (w := w2) (x := nI 0) (y := nI 4) h1 q2
  rw [show qvl id (q_msg (rwl (rH (0 + 24))) (nI 0) (nI 4)) = nI 8 by decide +kernel] at e3
  obtain ⟨M4, w4, e4, q4, f4, u4⟩ := d95 (d := 4) (w := w3) h1 q3
  rw [show qvl id (q_sm1 (rwl (rH (0 + 24)))) = nI 8 by decide +kernel] at e4
  obtain ⟨M5, w5, e5, q5, f5, u5⟩ := d123 (d := 4) (w := w4) (x := nI 1) (y := nI 6) (by omega) h1 q4
  rw [show qvl id (q_cnv (rwl (rH (0 + 24))) (nI 1) (nI 6)) = nI 8 by decide +kernel] at e5
  refine ⟨M5, w5, ?_, ⟨hs, ⟨⟨h1, h2, h3⟩, h4⟩, _, _, q5⟩, f1.tr (f2.tr (f3.tr (f4.tr f5))), u2.tr (u3.tr (u4.tr u5 (Nat.le_refl _)) (Nat.le_refl _)) (by decide), hok0⟩
  rw [b227_306, if_pos rfl, show am_ev 15 122 _ _ _ = _ from e1]
  simp only [am_cb_i, am_cb_e, Option.toList_some, Option.toList_none, List.cons_append, List.nil_append]
  rw [b227_319, if_pos (by decide), show am_ev 15 126 _ _ _ = _ from e2]
  simp only [am_cb_i, am_cb_e, Option.toList_some, Option.toList_none, List.cons_append, List.nil_append]
  rw [b227_328, if_pos rfl, show am_ev 15 126 _ _ _ = _ from e3]
  simp only [am_cb_i, am_cb_e, Option.toList_some, Option.toList_none, List.cons_append, List.nil_append]
  rw [b227_338, if_pos rfl, show am_ev 15 95 _ _ _ = _ from e4]
  simp only [am_cb_i, am_cb_e, Option.toList_some, Option.toList_none, List.cons_append, List.nil_append]
  rw [b227_347, if_pos rfl, show am_ev 15 123 _ _ _ = _ from e5]
  simp only [am_cb_i, am_cb_e, Option.toList_some, Option.toList_none, List.cons_append, List.nil_append]
end Kr7
