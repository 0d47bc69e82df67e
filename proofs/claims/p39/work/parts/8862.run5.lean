/-! THE FIRST OBJECT'S RUN: FULL -/
section Kr6
variable {d B n : Nat} {M : am_M} {a b : Nat → Nat} {w : am_W4} {sv : Option (Nat → Nat)} {hs : List (Nat → Nat)} {R : Int32 × Int32 × Int32} {e : Int32} {x y z : Int32}
theorem oC_0' : oC a 0 x y z = o_cnv a x y z := rfl
theorem oC_5' : oC a 5 x y z = o_snd a x y z := rfl
theorem oC_7' : oC a 7 x y z = o_pas a x := rfl
theorem f_cnv : oC (rwl rs16) 0 (nI 0) (nI 0) (nI 1) = .inr (2, nI 6) := by
  have h1 : rwl rs16 1 = 6 := by decide +kernel
  rw [oC_0']
  unfold o_cnv
  rw [if_pos ⟨by decide, by decide, fun _ => by decide⟩, if_pos h1]
theorem f_snd : oC (rwl rs16) 5 (nI 0) (nI 1) (nI 7) = .inr (2, nI 16) := by
  have h1 : rwl rs16 1 = 6 := by decide +kernel
  have h2 : rwl rs16 2 = 16 := by decide +kernel
  have h3 : uk (rwl rs16) 7 (nd 8 7) = 0 := by decide +kernel
  have h4 : dgk 7 := by decide +kernel
  rw [oC_5']
  unfold o_snd
  rw [h1, if_pos (by decide), if_pos (by decide), if_neg (by decide), if_pos (by decide), cN_nI (k := 7) (by decide), if_pos h4, h3, if_neg (by decide), if_pos h2]
theorem p1d (hB0 : 1000 ≤ B) (hB : B < 900000000) (hg : gL 16 B (rwl rs16) sv M) : ∃ M' w', am_rn (am_ev 15) 227 181 (L2 16) [] M (am_Z w) = am_rn (am_ev 15) 227 306 (L2 16) [am_I (nI 15)] M' (am_Z w') ∧ gL 16 B (rwl rs16) sv M' ∧ clF M M' ∧ wle 10 w w' := by
  obtain ⟨hs, ⟨⟨h1, h2, h3⟩, h4⟩, R, e, hl⟩ := hg
  have h8 : hs.length = 8 := by omega
  obtain ⟨M1, e1, q1, f1⟩ := (a115 (d := 5) (w := w) (x := nI 0) (y := nI 0) (z := nI 1) hB0 (by omega) h1 hl).no f_cnv
  have e2 := k148 (d := 10) (w := am_bw w) (x1 := nI 2) (x2 := nI 6) (x3 := nI 0) (by decide) q1
  obtain ⟨M3, e3, q3, f3⟩ := (a120 (d := 5) (w := am_bw w) (x := nI 0) (y := nI 1) (z := nI 7) hB0 (by omega) h1 q1).no f_snd
  have e4 := k148 (d := 10) (w := am_bw (am_bw w)) (x1 := nI 2) (x2 := nI 16) (x3 := nI 0) (by decide) q3
  obtain ⟨M5, w5, e5, q5, f5, u5⟩ := d143 (d := 4) (w := am_bw (am_bw w)) (x := nI 10) (by omega) h1 q3
  have v5 : qvl id (q_all (rwl rs16) hs.length ([] : List Int32).length (nI 10)) = nI 8 := by
    rw [h8]
    decide +kernel
  rw [v5] at e5
  obtain ⟨M6, w6, e6, q6, f6, u6⟩ := d131 (d := 4) (w := w5) (x := nI 0) (y := nI 1) h1 q5
  rw [show qvl id (q_str (rwl rs16) (nI 0) (nI 1)) = (-3 : Int32) by decide +kernel] at e6
  obtain ⟨M7, w7, e7, q7, f7, u7⟩ := d146 (d := 4) (w := w6) (x := nI 0) (y := nI 1) h1 q6
  rw [show qvl (fun v => if v = 0 then 0 else 1) (q_hrd (rwl rs16) (nI 0) (nI 1)) = (0 : Int32) by decide +kernel] at e7
  obtain ⟨M8, w8, e8, q8, f8, u8⟩ := d123 (d := 4) (w := w7) (x := nI 0) (y := nI 4) (by omega) h1 q7
  rw [show qvl id (q_cnv (rwl rs16) (nI 0) (nI 4)) = nI 16 by decide +kernel] at e8
  obtain ⟨M9, w9, e9, q9, f9, u9⟩ := d129 (d := 4) (w := w8) (x := nI 0) (y := nI 15) h1 q8
  rw [show qvl id (q_que (rwl rs16) (nI 0) (nI 15)) = nI 15 by decide +kernel] at e9
  refine ⟨M9, w9, ?_, ⟨hs, ⟨⟨h1, h2, h3⟩, h4⟩, _, _, q9⟩, f1.tr (f3.tr (f5.tr (f6.tr (f7.tr (f8.tr f9))))), (wle.bw w).tr ((wle.bw _).tr (u5.tr (u6.tr (u7.tr (u8.tr u9 (Nat.le_refl _)) (Nat.le_refl _)) (Nat.le_refl _)) (Nat.le_refl _)) (Nat.le_refl _)) (by decide)⟩
  rw [show am_rn (am_ev 15) 227 181 (L2 16) [] M (am_Z w) = _ from b227_181, if_neg (by decide), show am_ev 15 115 _ _ _ = _ from e1]
  simp only [am_cb_i, am_cb_e, Option.toList_some, Option.toList_none, List.cons_append, List.nil_append]
  rw [b227_215, if_pos rfl, show am_ev 15 148 _ _ _ = _ from e2]
  simp only [am_cb_i, am_cb_e, Option.toList_some, Option.toList_none, List.cons_append, List.nil_append]
  rw [b227_229, if_neg (by decide), show am_ev 15 120 _ _ _ = _ from e3]
  simp only [am_cb_i, am_cb_e, Option.toList_some, Option.toList_none, List.cons_append, List.nil_append]
  rw [b227_240, if_pos rfl, show am_ev 15 148 _ _ _ = _ from e4]
  simp only [am_cb_i, am_cb_e, Option.toList_some, Option.toList_none, List.cons_append, List.nil_append]
  rw [b227_254, if_neg (by decide), show am_ev 15 143 _ _ _ = _ from e5]
  simp only [am_cb_i, am_cb_e, Option.toList_some, Option.toList_none, List.cons_append, List.nil_append]
  rw [b227_263, if_pos rfl, show am_ev 15 131 _ _ _ = _ from e6]
  simp only [am_cb_i, am_cb_e, Option.toList_some, Option.toList_none, List.cons_append, List.nil_append]
  rw [b227_274, if_pos rfl, show am_ev 15 146 _ _ _ = _ from e7]
  simp only [am_cb_i, am_cb_e, Option.toList_some, Option.toList_none, List.cons_append, List.nil_append]
  rw [b227_285, if_pos rfl, show am_ev 15 123 _ _ _ = _ from e8]
  simp only [am_cb_i, am_cb_e, Option.toList_some, Option.toList_none, List.cons_append, List.nil_append]
  rw [b227_294, if_pos rfl, show am_ev 15 129 _ _ _ = _ from e9]
  simp only [am_cb_i, am_cb_e, Option.toList_some, Option.toList_none, List.cons_append, List.nil_append]
end Kr6
