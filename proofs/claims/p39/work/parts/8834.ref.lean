/-! WHAT IS REFUSED -/
section Kre
variable {d B : Nat} {M : am_M} {a : Nat → Nat} {w : am_W4} {hs : List (Nat → Nat)} {sv : Option (Nat → Nat)} {tx ln : List Int32} {R : Int32 × Int32 × Int32} {e : Int32} {x y z : Int32}
theorem hO.no {r : Option am_R} {o : Out} {q : Nat} {u : Int32} (h : hO a hs sv tx R e M w r o) (ho : o = .inr (q, u)) : ∃ M', r = some (.inl (some (am_I (-1001))), M', am_Z (am_bw w)) ∧ lS a hs sv tx (nI q, u, nI 0) e M' ∧ clF M M' := by
  rw [ho] at h; exact h
theorem rf0 (h1 : a 1 = 5) (h2 : a 2 = 4) : oC a 0 (-1 : Int32) (nI 0) (nI 1) = .inr (1, (nI 0)) := by
  show o_cnv a (-1 : Int32) (nI 0) (nI 1) = _
  unfold o_cnv
  simp (decide := true) only [h1, h2, if_true, if_false, ite_true, ite_false, true_and, and_true, false_and, and_false]
theorem rf1 (h1 : a 1 = 5) (h2 : a 2 = 4) : oC a 0 (nI 10) (nI 0) (nI 1) = .inr (1, (nI 0)) := by
  show o_cnv a (nI 10) (nI 0) (nI 1) = _
  unfold o_cnv
  simp (decide := true) only [h1, h2, if_true, if_false, ite_true, ite_false, true_and, and_true, false_and, and_false]
theorem rf2 (h1 : a 1 = 5) (h2 : a 2 = 4) : oC a 0 (nI 0) (nI 10) (nI 1) = .inr (1, (nI 0)) := by
  show o_cnv a (nI 0) (nI 10) (nI 1) = _
  unfold o_cnv
  simp (decide := true) only [h1, h2, if_true, if_false, ite_true, ite_false, true_and, and_true, false_and, and_false]
theorem rf3 (h1 : a 1 = 5) (h2 : a 2 = 4) : oC a 0 (nI 0) (nI 0) (nI 0) = .inr (1, (nI 0)) := by
  show o_cnv a (nI 0) (nI 0) (nI 0) = _
  unfold o_cnv
  simp (decide := true) only [h1, h2, if_true, if_false, ite_true, ite_false, true_and, and_true, false_and, and_false]
theorem rf4 (h1 : a 1 = 5) (h2 : a 2 = 4) : oC a 1 (nI 0) (nI 1) (nI 0) = .inr (1, (nI 0)) := by
  show o_psl a (nI 0) (nI 1) = _
  unfold o_psl
  simp (decide := true) only [h1, h2, if_true, if_false, ite_true, ite_false, true_and, and_true, false_and, and_false]
theorem rf5 (h1 : a 1 = 5) (h2 : a 2 = 4) : oC a 1 (nI 9) (nI 1) (nI 0) = .inr (1, (nI 0)) := by
  show o_psl a (nI 9) (nI 1) = _
  unfold o_psl
  simp (decide := true) only [h1, h2, if_true, if_false, ite_true, ite_false, true_and, and_true, false_and, and_false]
theorem rf6 (h1 : a 1 = 5) (h2 : a 2 = 4) : oC a 1 (nI 1) (nI 0) (nI 0) = .inr (1, (nI 0)) := by
  show o_psl a (nI 1) (nI 0) = _
  unfold o_psl
  simp (decide := true) only [h1, h2, if_true, if_false, ite_true, ite_false, true_and, and_true, false_and, and_false]
theorem rf7 (h1 : a 1 = 5) (h2 : a 2 = 4) : oC a 1 (nI 1) (nI 151) (nI 0) = .inr (1, (nI 0)) := by
  show o_psl a (nI 1) (nI 151) = _
  unfold o_psl
  simp (decide := true) only [h1, h2, if_true, if_false, ite_true, ite_false, true_and, and_true, false_and, and_false]
theorem rf8 (h1 : a 1 = 5) (h2 : a 2 = 4) : oC a 2 (nI 5) (nI 24) (nI 0) = .inr (3, (nI 5)) := by
  show o_sil a (nI 5) (nI 24) (nI 0) = _
  unfold o_sil
  simp (decide := true) only [h1, h2, if_true, if_false, ite_true, ite_false, true_and, and_true, false_and, and_false]
theorem rf9 (h1 : a 1 = 5) (h2 : a 2 = 4) : oC a 2 (nI 0) (nI 24) (nI 0) = .inr (1, (nI 0)) := by
  show o_sil a (nI 0) (nI 24) (nI 0) = _
  unfold o_sil
  simp (decide := true) only [h1, h2, if_true, if_false, ite_true, ite_false, true_and, and_true, false_and, and_false]
theorem rf10 (h1 : a 1 = 5) (h2 : a 2 = 4) : oC a 2 (nI 0) (nI 0) (-1 : Int32) = .inr (1, (nI 0)) := by
  show o_sil a (nI 0) (nI 0) (-1 : Int32) = _
  unfold o_sil
  simp (decide := true) only [h1, h2, if_true, if_false, ite_true, ite_false, true_and, and_true, false_and, and_false]
theorem rf11 (h1 : a 1 = 5) (h2 : a 2 = 4) : oC a 3 (nI 5 - nI 1) (nI 0) (nI 0) = .inr (3, (nI 5 - nI 1)) := by
  show o_win a (nI 5 - nI 1) (nI 0) = _
  unfold o_win
  simp (decide := true) only [h1, h2, if_true, if_false, ite_true, ite_false, true_and, and_true, false_and, and_false]
theorem rf12 (h1 : a 1 = 5) (h2 : a 2 = 4) : oC a 3 (nI 0) (nI 10) (nI 0) = .inr (1, (nI 0)) := by
  show o_win a (nI 0) (nI 10) = _
  unfold o_win
  simp (decide := true) only [h1, h2, if_true, if_false, ite_true, ite_false, true_and, and_true, false_and, and_false]
theorem rf13 (h1 : a 1 = 5) (h2 : a 2 = 4) : oC a 3 (-1 : Int32) (nI 0) (nI 0) = .inr (3, (-1 : Int32)) := by
  show o_win a (-1 : Int32) (nI 0) = _
  unfold o_win
  simp (decide := true) only [h1, h2, if_true, if_false, ite_true, ite_false, true_and, and_true, false_and, and_false]
theorem rf14 (h1 : a 1 = 5) (h2 : a 2 = 4) : oC a 4 (nI 5) (nI 10) (nI 0) = .inr (3, (nI 5)) := by
  show o_ear a (nI 5) (nI 10) = _
  unfold o_ear
  simp (decide := true) only [h1, h2, if_true, if_false, ite_true, ite_false, true_and, and_true, false_and, and_false]
theorem rf15 (h1 : a 1 = 5) (h2 : a 2 = 4) : oC a 4 (nI 0) (nI 10) (nI 0) = .inr (1, (nI 0)) := by
  show o_ear a (nI 0) (nI 10) = _
  unfold o_ear
  simp (decide := true) only [h1, h2, if_true, if_false, ite_true, ite_false, true_and, and_true, false_and, and_false]
theorem rf16 (h1 : a 1 = 5) (h2 : a 2 = 4) : oC a 5 (nI 5) (nI 0) (nI 1) = .inr (3, (nI 5)) := by
  show o_snd a (nI 5) (nI 0) (nI 1) = _
  unfold o_snd
  simp (decide := true) only [h1, h2, if_true, if_false, ite_true, ite_false, true_and, and_true, false_and, and_false]
theorem rf17 (h1 : a 1 = 5) (h2 : a 2 = 4) : oC a 5 (nI 0) (nI 5) (nI 0) = .inr (3, (nI 5)) := by
  show o_snd a (nI 0) (nI 5) (nI 0) = _
  unfold o_snd
  simp (decide := true) only [h1, h2, if_true, if_false, ite_true, ite_false, true_and, and_true, false_and, and_false]
theorem rf18 (h1 : a 1 = 5) (h2 : a 2 = 4) : oC a 5 (nI 0) (nI 1) (-5 : Int32) = .inr (1, (nI 0)) := by
  show o_snd a (nI 0) (nI 1) (-5 : Int32) = _
  unfold o_snd
  simp (decide := true) only [h1, h2, if_true, if_false, ite_true, ite_false, true_and, and_true, false_and, and_false]
theorem rf19 (h1 : a 1 = 5) (h2 : a 2 = 4) : oC a 6 (nI 4) (nI 0) (nI 0) = .inr (3, (nI 4)) := by
  show o_drp a (nI 4) = _
  unfold o_drp
  simp (decide := true) only [h1, h2, if_true, if_false, ite_true, ite_false, true_and, and_true, false_and, and_false]
theorem rf20 (h1 : a 1 = 5) (h2 : a 2 = 4) : oC a 7 (nI 0) (nI 0) (nI 0) = .inr (1, (nI 0)) := by
  show o_pas a (nI 0) = _
  unfold o_pas
  simp (decide := true) only [h1, h2, if_true, if_false, ite_true, ite_false, true_and, and_true, false_and, and_false]
theorem rf21 (h1 : a 1 = 5) (h2 : a 2 = 4) : oC a 7 (nI 97) (nI 0) (nI 0) = .inr (1, (nI 0)) := by
  show o_pas a (nI 97) = _
  unfold o_pas
  simp (decide := true) only [h1, h2, if_true, if_false, ite_true, ite_false, true_and, and_true, false_and, and_false]
def bwn : Nat → am_W4 → am_W4
  | 0, w => w
  | n + 1, w => am_bw (bwn n w)
theorem bwn_le : ∀ n w, wle n w (bwn n w)
  | 0, w => wle.rf w
  | n + 1, w => (bwn_le n w).tr (wle.bw _) (Nat.le_refl _)
theorem rA {x1 : Int64} (h1 : a 1 = 5) (h2 : a 2 = 4) (hB0 : 1000 ≤ B) (hB : B < 1070000000) (hok : ml_ok B a) (h : lS a hs sv tx R e M) : ∃ M' w', am_rn (am_ev (d + 11)) 154 16 [some (am_P (3, 0, 0)), some (.inl (.long x1)), none, some (am_I (nI 5)), none, none] [am_I (nI 4)] M (am_Z w) = am_rn (am_ev (d + 11)) 154 382 [some (am_P (3, 0, 0)), some (.inl (.long x1)), none, some (am_I (nI 5)), some (am_I (nI 4)), none] [am_I (nI 1)] M' (am_Z w') ∧ lS a hs sv tx (nI 1, nI 0, nI 0) e M' ∧ clF M M' ∧ wle 22 w w' := by
  obtain ⟨M0, e0, q0, f0⟩ := (a115 (d := d + 1) (w := w) (x := (-1 : Int32)) (y := (nI 0)) (z := (nI 1)) hB0 hB hok h).no (rf0 h1 h2)
  obtain ⟨M1, e1, q1, f1⟩ := (a115 (d := d + 1) (w := (am_bw w)) (x := (nI 10)) (y := (nI 0)) (z := (nI 1)) hB0 hB hok q0).no (rf1 h1 h2)
  obtain ⟨M2, e2, q2, f2⟩ := (a115 (d := d + 1) (w := (am_bw (am_bw w))) (x := (nI 0)) (y := (nI 10)) (z := (nI 1)) hB0 hB hok q1).no (rf2 h1 h2)
  obtain ⟨M3, e3, q3, f3⟩ := (a115 (d := d + 1) (w := (am_bw (am_bw (am_bw w)))) (x := (nI 0)) (y := (nI 0)) (z := (nI 0)) hB0 hB hok q2).no (rf3 h1 h2)
  have e4 := k148 (d := d + 6) (w := (am_bw (am_bw (am_bw (am_bw w))))) (x1 := nI 1) (x2 := (nI 0)) (x3 := nI 0) (by decide) q3
  obtain ⟨M5, e5, q5, f5⟩ := (a116 (d := d + 1) (w := (am_bw (am_bw (am_bw (am_bw w))))) (x := (nI 0)) (y := (nI 1)) hB0 hB hok q3).no (rf4 h1 h2)
  obtain ⟨M6, e6, q6, f6⟩ := (a116 (d := d + 1) (w := (am_bw (am_bw (am_bw (am_bw (am_bw w)))))) (x := (nI 9)) (y := (nI 1)) hB0 hB hok q5).no (rf5 h1 h2)
  obtain ⟨M7, e7, q7, f7⟩ := (a116 (d := d + 1) (w := (am_bw (am_bw (am_bw (am_bw (am_bw (am_bw w))))))) (x := (nI 1)) (y := (nI 0)) hB0 hB hok q6).no (rf6 h1 h2)
  obtain ⟨M8, e8, q8, f8⟩ := (a116 (d := d + 1) (w := (am_bw (am_bw (am_bw (am_bw (am_bw (am_bw (am_bw w)))))))) (x := (nI 1)) (y := (nI 151)) hB0 hB hok q7).no (rf7 h1 h2)
  obtain ⟨M9, e9, q9, f9⟩ := (a117 (d := d + 1) (w := (am_bw (am_bw (am_bw (am_bw (am_bw (am_bw (am_bw (am_bw w))))))))) (x := (nI 5)) (y := (nI 24)) (z := (nI 0)) hB0 hB hok q8).no (rf8 h1 h2)
  have e10 := k148 (d := d + 6) (w := (am_bw (am_bw (am_bw (am_bw (am_bw (am_bw (am_bw (am_bw (am_bw w)))))))))) (x1 := nI 3) (x2 := (nI 5)) (x3 := nI 0) (by decide) q9
  obtain ⟨M11, e11, q11, f11⟩ := (a117 (d := d + 1) (w := (am_bw (am_bw (am_bw (am_bw (am_bw (am_bw (am_bw (am_bw (am_bw w)))))))))) (x := (nI 0)) (y := (nI 24)) (z := (nI 0)) hB0 hB hok q9).no (rf9 h1 h2)
  obtain ⟨M12, e12, q12, f12⟩ := (a117 (d := d + 1) (w := (am_bw (am_bw (am_bw (am_bw (am_bw (am_bw (am_bw (am_bw (am_bw (am_bw w))))))))))) (x := (nI 0)) (y := (nI 0)) (z := (-1 : Int32)) hB0 hB hok q11).no (rf10 h1 h2)
  obtain ⟨M13, e13, q13, f13⟩ := (a118 (d := d + 1) (w := (am_bw (am_bw (am_bw (am_bw (am_bw (am_bw (am_bw (am_bw (am_bw (am_bw (am_bw w)))))))))))) (x := (nI 5 - nI 1)) (y := (nI 0)) hB0 hB hok q12).no (rf11 h1 h2)
  have e14 := k148 (d := d + 6) (w := (am_bw (am_bw (am_bw (am_bw (am_bw (am_bw (am_bw (am_bw (am_bw (am_bw (am_bw (am_bw w))))))))))))) (x1 := nI 3) (x2 := (nI 5 - nI 1)) (x3 := nI 0) (by decide) q13
  obtain ⟨M15, e15, q15, f15⟩ := (a118 (d := d + 1) (w := (am_bw (am_bw (am_bw (am_bw (am_bw (am_bw (am_bw (am_bw (am_bw (am_bw (am_bw (am_bw w))))))))))))) (x := (nI 0)) (y := (nI 10)) hB0 hB hok q13).no (rf12 h1 h2)
  obtain ⟨M16, e16, q16, f16⟩ := (a118 (d := d + 1) (w := (am_bw (am_bw (am_bw (am_bw (am_bw (am_bw (am_bw (am_bw (am_bw (am_bw (am_bw (am_bw (am_bw w)))))))))))))) (x := (-1 : Int32)) (y := (nI 0)) hB0 hB hok q15).no (rf13 h1 h2)
  obtain ⟨M17, e17, q17, f17⟩ := (a119 (d := d + 1) (w := (am_bw (am_bw (am_bw (am_bw (am_bw (am_bw (am_bw (am_bw (am_bw (am_bw (am_bw (am_bw (am_bw (am_bw w))))))))))))))) (x := (nI 5)) (y := (nI 10)) hB0 hB hok q16).no (rf14 h1 h2)
  obtain ⟨M18, e18, q18, f18⟩ := (a119 (d := d + 1) (w := (am_bw (am_bw (am_bw (am_bw (am_bw (am_bw (am_bw (am_bw (am_bw (am_bw (am_bw (am_bw (am_bw (am_bw (am_bw w)))))))))))))))) (x := (nI 0)) (y := (nI 10)) hB0 hB hok q17).no (rf15 h1 h2)
  obtain ⟨M19, e19, q19, f19⟩ := (a120 (d := d + 1) (w := (am_bw (am_bw (am_bw (am_bw (am_bw (am_bw (am_bw (am_bw (am_bw (am_bw (am_bw (am_bw (am_bw (am_bw (am_bw (am_bw w))))))))))))))))) (x := (nI 5)) (y := (nI 0)) (z := (nI 1)) hB0 hB hok q18).no (rf16 h1 h2)
  obtain ⟨M20, e20, q20, f20⟩ := (a120 (d := d + 1) (w := (am_bw (am_bw (am_bw (am_bw (am_bw (am_bw (am_bw (am_bw (am_bw (am_bw (am_bw (am_bw (am_bw (am_bw (am_bw (am_bw (am_bw w)))))))))))))))))) (x := (nI 0)) (y := (nI 5)) (z := (nI 0)) hB0 hB hok q19).no (rf17 h1 h2)
  have e21 := k148 (d := d + 6) (w := (am_bw (am_bw (am_bw (am_bw (am_bw (am_bw (am_bw (am_bw (am_bw (am_bw (am_bw (am_bw (am_bw (am_bw (am_bw (am_bw (am_bw (am_bw w))))))))))))))))))) (x1 := nI 3) (x2 := (nI 5)) (x3 := nI 0) (by decide) q20
  obtain ⟨M22, e22, q22, f22⟩ := (a120 (d := d + 1) (w := (am_bw (am_bw (am_bw (am_bw (am_bw (am_bw (am_bw (am_bw (am_bw (am_bw (am_bw (am_bw (am_bw (am_bw (am_bw (am_bw (am_bw (am_bw w))))))))))))))))))) (x := (nI 0)) (y := (nI 1)) (z := (-5 : Int32)) hB0 hB hok q20).no (rf18 h1 h2)
  have e23 := k148 (d := d + 6) (w := (am_bw (am_bw (am_bw (am_bw (am_bw (am_bw (am_bw (am_bw (am_bw (am_bw (am_bw (am_bw (am_bw (am_bw (am_bw (am_bw (am_bw (am_bw (am_bw w)))))))))))))))))))) (x1 := nI 1) (x2 := (nI 0)) (x3 := nI 0) (by decide) q22
  obtain ⟨M24, e24, q24, f24⟩ := (a121 (d := d + 1) (w := (am_bw (am_bw (am_bw (am_bw (am_bw (am_bw (am_bw (am_bw (am_bw (am_bw (am_bw (am_bw (am_bw (am_bw (am_bw (am_bw (am_bw (am_bw (am_bw w)))))))))))))))))))) (x := (nI 4)) hB0 hB hok q22).no (rf19 h1 h2)
  have e25 := k148 (d := d + 6) (w := (am_bw (am_bw (am_bw (am_bw (am_bw (am_bw (am_bw (am_bw (am_bw (am_bw (am_bw (am_bw (am_bw (am_bw (am_bw (am_bw (am_bw (am_bw (am_bw (am_bw w))))))))))))))))))))) (x1 := nI 3) (x2 := (nI 4)) (x3 := nI 0) (by decide) q24
  obtain ⟨M26, e26, q26, f26⟩ := (a122 (d := d + 1) (w := (am_bw (am_bw (am_bw (am_bw (am_bw (am_bw (am_bw (am_bw (am_bw (am_bw (am_bw (am_bw (am_bw (am_bw (am_bw (am_bw (am_bw (am_bw (am_bw (am_bw w))))))))))))))))))))) (x := (nI 0)) hB0 hB hok q24).no (rf20 h1 h2)
  obtain ⟨M27, e27, q27, f27⟩ := (a122 (d := d + 1) (w := (am_bw (am_bw (am_bw (am_bw (am_bw (am_bw (am_bw (am_bw (am_bw (am_bw (am_bw (am_bw (am_bw (am_bw (am_bw (am_bw (am_bw (am_bw (am_bw (am_bw (am_bw w)))))))))))))))))))))) (x := (nI 97)) hB0 hB hok q26).no (rf21 h1 h2)
  have e28 := k148 (d := d + 6) (w := (am_bw (am_bw (am_bw (am_bw (am_bw (am_bw (am_bw (am_bw (am_bw (am_bw (am_bw (am_bw (am_bw (am_bw (am_bw (am_bw (am_bw (am_bw (am_bw (am_bw (am_bw (am_bw w))))))))))))))))))))))) (x1 := nI 1) (x2 := (nI 0)) (x3 := nI 0) (by decide) q27
  refine ⟨_, bwn 22 w, ?_, q27, f0.tr (f1.tr (f2.tr (f3.tr (f5.tr (f6.tr (f7.tr (f8.tr (f9.tr (f11.tr (f12.tr (f13.tr (f15.tr (f16.tr (f17.tr (f18.tr (f19.tr (f20.tr (f22.tr (f24.tr (f26.tr f27)))))))))))))))))))), bwn_le 22 w⟩
  rw [b154_16, show am_ev (d + 11) 115 _ _ _ = _ from e0]
  simp only [am_cb_i, am_cb_e, Option.toList_some, Option.toList_none, List.cons_append, List.nil_append]
  rw [b154_25, if_pos rfl, show am_ev (d + 11) 115 _ _ _ = _ from e1]
  simp only [am_cb_i, am_cb_e, Option.toList_some, Option.toList_none, List.cons_append, List.nil_append]
  rw [b154_39, if_pos rfl, show am_ev (d + 11) 115 _ _ _ = _ from e2]
  simp only [am_cb_i, am_cb_e, Option.toList_some, Option.toList_none, List.cons_append, List.nil_append]
  rw [b154_53, if_pos rfl, show am_ev (d + 11) 115 _ _ _ = _ from e3]
  simp only [am_cb_i, am_cb_e, Option.toList_some, Option.toList_none, List.cons_append, List.nil_append]
  rw [b154_66, if_pos rfl, show am_ev (d + 11) 148 _ _ _ = _ from e4]
  simp only [am_cb_i, am_cb_e, Option.toList_some, Option.toList_none, List.cons_append, List.nil_append]
  rw [b154_79, if_neg (by decide), show am_ev (d + 11) 116 _ _ _ = _ from e5]
  simp only [am_cb_i, am_cb_e, Option.toList_some, Option.toList_none, List.cons_append, List.nil_append]
  rw [b154_88, if_pos rfl, show am_ev (d + 11) 116 _ _ _ = _ from e6]
  simp only [am_cb_i, am_cb_e, Option.toList_some, Option.toList_none, List.cons_append, List.nil_append]
  rw [b154_101, if_pos rfl, show am_ev (d + 11) 116 _ _ _ = _ from e7]
  simp only [am_cb_i, am_cb_e, Option.toList_some, Option.toList_none, List.cons_append, List.nil_append]
  rw [b154_113, if_pos rfl, show am_ev (d + 11) 116 _ _ _ = _ from e8]
  simp only [am_cb_i, am_cb_e, Option.toList_some, Option.toList_none, List.cons_append, List.nil_append]
  rw [b154_127, if_pos rfl, show am_ev (d + 11) 117 _ _ _ = _ from e9]
  simp only [am_cb_i, am_cb_e, Option.toList_some, Option.toList_none, List.cons_append, List.nil_append]
  rw [b154_141, if_pos rfl, show am_ev (d + 11) 148 _ _ _ = _ from e10]
  simp only [am_cb_i, am_cb_e, Option.toList_some, Option.toList_none, List.cons_append, List.nil_append]
  rw [b154_154, if_neg (by decide), show am_ev (d + 11) 117 _ _ _ = _ from e11]
  simp only [am_cb_i, am_cb_e, Option.toList_some, Option.toList_none, List.cons_append, List.nil_append]
  rw [b154_165, if_pos rfl, show am_ev (d + 11) 117 _ _ _ = _ from e12]
  simp only [am_cb_i, am_cb_e, Option.toList_some, Option.toList_none, List.cons_append, List.nil_append]
  rw [b154_178, if_pos rfl, show am_ev (d + 11) 118 _ _ _ = _ from e13]
  simp only [am_cb_i, am_cb_e, Option.toList_some, Option.toList_none, List.cons_append, List.nil_append]
  rw [b154_192, if_pos rfl, show am_ev (d + 11) 148 _ _ _ = _ from e14]
  simp only [am_cb_i, am_cb_e, Option.toList_some, Option.toList_none, List.cons_append, List.nil_append]
  rw [b154_207, if_neg (by decide), show am_ev (d + 11) 118 _ _ _ = _ from e15]
  simp only [am_cb_i, am_cb_e, Option.toList_some, Option.toList_none, List.cons_append, List.nil_append]
  rw [b154_217, if_pos rfl, show am_ev (d + 11) 118 _ _ _ = _ from e16]
  simp only [am_cb_i, am_cb_e, Option.toList_some, Option.toList_none, List.cons_append, List.nil_append]
  rw [b154_229, if_pos rfl, show am_ev (d + 11) 119 _ _ _ = _ from e17]
  simp only [am_cb_i, am_cb_e, Option.toList_some, Option.toList_none, List.cons_append, List.nil_append]
  rw [b154_242, if_pos rfl, show am_ev (d + 11) 119 _ _ _ = _ from e18]
  simp only [am_cb_i, am_cb_e, Option.toList_some, Option.toList_none, List.cons_append, List.nil_append]
  rw [b154_255, if_pos rfl, show am_ev (d + 11) 120 _ _ _ = _ from e19]
  simp only [am_cb_i, am_cb_e, Option.toList_some, Option.toList_none, List.cons_append, List.nil_append]
  rw [b154_268, if_pos rfl, show am_ev (d + 11) 120 _ _ _ = _ from e20]
  simp only [am_cb_i, am_cb_e, Option.toList_some, Option.toList_none, List.cons_append, List.nil_append]
  rw [b154_281, if_pos rfl, show am_ev (d + 11) 148 _ _ _ = _ from e21]
  simp only [am_cb_i, am_cb_e, Option.toList_some, Option.toList_none, List.cons_append, List.nil_append]
  rw [b154_294, if_neg (by decide), show am_ev (d + 11) 120 _ _ _ = _ from e22]
  simp only [am_cb_i, am_cb_e, Option.toList_some, Option.toList_none, List.cons_append, List.nil_append]
  rw [b154_305, if_pos rfl, show am_ev (d + 11) 148 _ _ _ = _ from e23]
  simp only [am_cb_i, am_cb_e, Option.toList_some, Option.toList_none, List.cons_append, List.nil_append]
  rw [b154_318, if_neg (by decide), show am_ev (d + 11) 121 _ _ _ = _ from e24]
  simp only [am_cb_i, am_cb_e, Option.toList_some, Option.toList_none, List.cons_append, List.nil_append]
  rw [b154_327, if_pos rfl, show am_ev (d + 11) 148 _ _ _ = _ from e25]
  simp only [am_cb_i, am_cb_e, Option.toList_some, Option.toList_none, List.cons_append, List.nil_append]
  rw [b154_341, if_neg (by decide), show am_ev (d + 11) 122 _ _ _ = _ from e26]
  simp only [am_cb_i, am_cb_e, Option.toList_some, Option.toList_none, List.cons_append, List.nil_append]
  rw [b154_349, if_pos rfl, show am_ev (d + 11) 122 _ _ _ = _ from e27]
  simp only [am_cb_i, am_cb_e, Option.toList_some, Option.toList_none, List.cons_append, List.nil_append]
  rw [b154_361, if_pos rfl, show am_ev (d + 11) 148 _ _ _ = _ from e28]
  simp only [am_cb_i, am_cb_e, Option.toList_some, Option.toList_none, List.cons_append, List.nil_append]
  rw [b154_374, if_neg (by decide)]
  rfl
end Kre
