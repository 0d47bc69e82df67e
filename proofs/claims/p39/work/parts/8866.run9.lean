/-! THE FIRST OBJECT'S RUN: ITS END -/
section Kr10
variable {B : Nat} {M : am_M} {w : am_W4} {hs : List (Nat → Nat)} {R : Int32 × Int32 × Int32} {e : Int32}
theorem p1h1 (hB0 : 1000 ≤ B) (hB : B < 900000000) {sv : Option (Nat → Nat)} (hg : gL 18 B (rwl (rH 56)) sv M) : ∃ M' w', am_rn (am_ev 15) 227 427 (L2 16) [.inl (.double (me_D (rwl (rH 56))))] M (am_Z w) = am_rn (am_ev 15) 227 470 (L2 16) [am_I (nI 1)] M' (am_Z w') ∧ gL 18 B (rwl (rH 56)) sv M' ∧ clF M M' ∧ wle 10 w w' := by
  obtain ⟨hs, ⟨⟨h1, h2, h3⟩, h4⟩, R, e, hl⟩ := hg
  obtain ⟨M1, w1, e1, q1, f1, u1⟩ := d126 (d := 4) (w := w) (x := nI 1) (y := nI 2) h1 hl
  rw [show qvl id (q_msg (rwl (rH 56)) (nI 1) (nI 2)) = nI 2 by decide +kernel] at e1
  obtain ⟨M2, w2, e2, q2, f2, u2⟩ := d126 (d := 4) (w := w1) (x := nI 2) (y := nI 4) h1 q1
  rw [show qvl id (q_msg (rwl (rH 56)) (nI 2) (nI 4)) = nI 2 by decide +kernel] at e2
  obtain ⟨M3, w3, e3, q3, f3, u3⟩ := d126 (d := 4) (w := w2) (x := nI 2) (y := nI 6) h1 q2
  rw [show qvl id (q_msg (rwl (rH 56)) (nI 2) (nI 6)) = nI 2 by decide +kernel] at e3
  obtain ⟨M4, w4, e4, q4, f4, u4⟩ := d135 (d := 4) (w := w3) (x := nI 0) (by omega) h1 q3
  rw [show qvl id (q_rnk (rwl (rH 56)) (nI 0)) = nI 1 by decide +kernel] at e4
  refine ⟨M4, w4, ?_, ⟨hs, ⟨⟨h1, h2, h3⟩, h4⟩, _, _, q4⟩, f1.tr (f2.tr (f3.tr f4)), u1.tr (u2.tr (u3.tr u4 (Nat.le_refl _)) (Nat.le_refl _)) (by decide)⟩
  rw [b227_427, if_pos (by decide +kernel), show am_ev 15 126 _ _ _ = _ from e1]
  simp only [am_cb_i, am_cb_e, Option.toList_some, Option.toList_none, List.cons_append, List.nil_append]
  rw [b227_440, if_pos rfl, show am_ev 15 126 _ _ _ = _ from e2]
  simp only [am_cb_i, am_cb_e, Option.toList_some, Option.toList_none, List.cons_append, List.nil_append]
  rw [b227_450, if_pos rfl, show am_ev 15 126 _ _ _ = _ from e3]
  simp only [am_cb_i, am_cb_e, Option.toList_some, Option.toList_none, List.cons_append, List.nil_append]
  rw [b227_461, if_pos rfl, show am_ev 15 135 _ _ _ = _ from e4]
  simp only [am_cb_i, am_cb_e, Option.toList_some, Option.toList_none, List.cons_append, List.nil_append]
theorem p1h2 {a : Nat → Nat} (hg : gL 18 B a (some a_0) M) : ∃ M' w', am_rn (am_ev 15) 227 470 (L2 16) [am_I (nI 1)] M (am_Z w) = am_rn (am_ev 15) 227 511 (L2 16) [] M' (am_Z w') ∧ clF M M' ∧ wle 10 w w' := by
  obtain ⟨hs, -, hE⟩ := hg
  obtain ⟨M1, e1, q1, f1⟩ := a145 (d := 11) (w := w) ok_a0 hE
  obtain ⟨R, e, hl⟩ := q1
  obtain ⟨M2, w2, e2, q2, f2, u2⟩ := d143 (d := 4) (w := w) (x := nI 0) (by decide) ok_a0 hl
  simp only [List.length_nil] at e2
  rw [show qvl id (q_all a_0 0 0 (nI 0)) = nI 0 by decide +kernel] at e2
  obtain ⟨M3, w3, e3, q3, f3, u3⟩ := d143 (d := 4) (w := w2) (x := nI 2) (by decide) ok_a0 q2
  simp only [List.length_nil] at e3
  rw [show qvl id (q_all a_0 0 0 (nI 2)) = nI 0 by decide +kernel] at e3
  have e4 := a144n (d := 13) (w := w3) ⟨_, _, q3⟩
  refine ⟨M3, am_bw w3, ?_, f1.tr (f2.tr f3), u2.tr (u3.tr (wle.bw w3) (Nat.le_refl _)) (by decide)⟩
  rw [b227_470, if_pos rfl, show am_ev 15 145 _ _ _ = _ from e1]
  simp only [am_cb_i, am_cb_e, Option.toList_some, Option.toList_none, List.cons_append, List.nil_append]
  rw [b227_480, if_pos (show nI (a_0 0) = 0 from rfl), show am_ev 15 143 _ _ _ = _ from e2]
  simp only [am_cb_i, am_cb_e, Option.toList_some, Option.toList_none, List.cons_append, List.nil_append]
  rw [b227_488, if_pos (show nI 0 = 0 from rfl), show am_ev 15 143 _ _ _ = _ from e3]
  simp only [am_cb_i, am_cb_e, Option.toList_some, Option.toList_none, List.cons_append, List.nil_append]
  rw [b227_496, if_pos (show nI 0 = 0 from rfl), show am_ev 15 144 _ _ _ = _ from e4]
  simp only [am_cb_i, am_cb_e, Option.toList_some, Option.toList_none, List.cons_append, List.nil_append]
  rw [b227_503, if_pos rfl]
end Kr10
theorem lw1 : Lw1 := by
  intro M w hE hw
  obtain ⟨M1, w1, e1, g1, f1, u1⟩ := p1a (w := w) hE
  obtain ⟨M2, w2, e2, g2, f2, u2⟩ := p1b (w := w1) (by decide) (by decide) g1
  obtain ⟨M3, e3, g3, f3⟩ := p1cL (w := w2) (by decide) (by decide) g2
  obtain ⟨M4, w4, e4, g4, f4, u4⟩ := p1d (w := w2) (by decide) (by decide) g3
  obtain ⟨M5, w5, e5, g5, f5, u5, h0⟩ := p1e (w := w4) (by decide) (by decide) g4
  obtain ⟨M6, w6, e6, g6, f6, u6⟩ := p1f (w := w5) (by decide) (by decide) (h0.mono (by decide)) g5
  have hw6 : w6.2.2 = w.2.2 := by rw [u6.2, u5.2, u4.2, u2.2, u1.2]
  obtain ⟨M7, w7, e7, g7, f7, u7⟩ := p1g (w := w6) (by decide) (by decide) (by rw [hw6, hw]) g6
  obtain ⟨M8, w8, e8, g8, f8, u8⟩ := p1h1 (w := w7) (by decide) (by decide) g7
  obtain ⟨M9, w9, e9, f9, u9⟩ := p1h2 (w := w8) g8
  have u : wle 100 w w9 := u1.tr (u2.tr (u4.tr (u5.tr (u6.tr (u7.tr (u8.tr u9 (Nat.le_refl _)) (Nat.le_refl _)) (Nat.le_refl _)) (Nat.le_refl _)) (Nat.le_refl _)) (Nat.le_refl _)) (by decide)
  obtain ⟨⟨-, v1, -, v2⟩, -⟩ := u
  refine ⟨M9, w9, nI 16, ?_, f1.tr (f2.tr (f3.tr (f4.tr (f5.tr (f6.tr (f7.tr (f8.tr f9))))))), by omega, by omega⟩
  refine Eq.trans e1 ?_
  refine Eq.trans e2 ?_
  refine Eq.trans e3 ?_
  refine Eq.trans e4 ?_
  refine Eq.trans e5 ?_
  refine Eq.trans e6 ?_
  refine Eq.trans e7 ?_
  refine Eq.trans e8 ?_
  exact e9
