/-! WHAT IS REFUSED -/
section Kre
variable {d B : Nat} {M : am_M} {a : Nat → Nat} {w : am_W4} {hs : List (Nat → Nat)} {sv : Option (Nat → Nat)} {tx ln : List Int32} {R : Int32 × Int32 × Int32} {e : Int32} {x y z : Int32}
theorem hO.no {r : Option am_R} {o : Out} {q : Nat} {u : Int32} (h : hO a hs sv tx R e M w r o) (ho : o = .inr (q, u)) : ∃ M', r = some (.inl (some (am_I (-1001))), M', am_Z (am_bw w)) ∧ lS a hs sv tx (nI q, u, nI 0) e M' ∧ clF M M' := by
  rw [ho] at h; exact h
theorem rf0 (h1 : a 1 = 5) (h2 : a 2 = 4) : oC a 0 (-1 : Int32) (nI 0) (nI 1) = .inr (1, (nI 0)) := by
  show o_cnv a (-1 : Int32) (nI 0) (nI 1) = _
  unfold o_cnv
  simp (decide := true) only [h1, h2, if_true, if_false, ite_true, ite_false, true_and, and_true, false_and, and_false]
theorem rf1 (h1 : a 1 = 5) (h2 : a 2 = 4) : oC a 0 (nI 10) (nI 0) (nI 1) = .inr (1, (nI 0)) := by
  show o_cnv a (nI 10) (nI 0) (nI 1) = _
  unfold o_cnv
  simp (decide := true) only [h1, h2, if_true, if_false, ite_true, ite_false, true_and, and_true, false_and, and_false]
theorem rf2 (h1 : a 1 = 5) (h2 : a 2 = 4) : oC a 0 (nI 0) (nI 10) (nI 1) = .inr (1, (nI 0)) := by
  show o_cnv a (nI 0) (nI 10) (nI 1) = _
  unfold o_cnv
  simp (decide := true) only [h1, h2, if_true, if_false, ite_true, ite_false, true_and, and_true, false_and, and_false]
theorem rf3 (h1 : a 1 = 5) (h2 : a 2 = 4) : oC a 0 (nI 0) (nI 0) (nI 0) = .inr (1, (nI 0)) := by
  show o_cnv a (nI 0) (nI 0) (nI 0) = _
  unfold o_cnv
  simp (decide := true) only [h1, h2, if_true, if_false, ite_true, ite_false, true_and, and_true, false_and, and_false]
theorem rf4 (h1 : a 1 = 5) (h2 : a 2 = 4) : oC a 1 (nI 0) (nI 1) (nI 0) = .inr (1, (nI 0)) := by
  show o_psl a (nI 0) (nI 1) = _
  unfold o_psl
  simp (decide := true) only [h1, h2, if_true, if_false, ite_true, ite_false, true_and, and_true, false_and, and_false]
theorem rf5 (h1 : a 1 = 5) (h2 : a 2 = 4) : oC a 1 (nI 9) (nI 1) (nI 0) = .inr (1, (nI 0)) := by
  show o_psl a (nI 9) (nI 1) = _
  unfold o_psl
  simp (decide := true) only [h1, h2, if_true, if_false, ite_true, ite_false, true_and, and_true, false_and, and_false]
theorem rf6 (h1 : a 1 = 5) (h2 : a 2 = 4) : oC a 1 (nI 1) (nI 0) (nI 0) = .inr (1, (nI 0)) := by
  show o_psl a (nI 1) (nI 0) = _
  unfold o_psl
  simp (decide := true) only [h1, h2, if_true, if_false, ite_true, ite_false, true_and, and_true, false_and, and_false]
theorem rf7 (h1 : a 1 = 5) (h2 : a 2 = 4) : oC a 1 (nI 1) (nI 151) (nI 0) = .inr (1, (nI 0)) := by
  show o_psl a (nI 1) (nI 151) = _
  unfold o_psl
  simp (decide := true) only [h1, h2, if_true, if_false, ite_true, ite_false, true_and, and_true, false_and, and_false]
theorem rf8 (h1 : a 1 = 5) (h2 : a 2 = 4) : oC a 2 (nI 5) (nI 24) (nI 0) = .inr (3, (nI 5)) := by
  show o_sil a (nI 5) (nI 24) (nI 0) = _
  unfold o_sil
  simp (decide := true) only [h1, h2, if_true, if_false, ite_true, ite_false, true_and, and_true, false_and, and_false]
theorem rf9 (h1 : a 1 = 5) (h2 : a 2 = 4) : oC a 2 (nI 0) (nI 24) (nI 0) = .inr (1, (nI 0)) := by
  show o_sil a (nI 0) (nI 24) (nI 0) = _
  unfold o_sil
  simp (decide := true) only [h1, h2, if_true, if_false, ite_true, ite_false, true_and, and_true, false_and, and_false]
theorem rf10 (h1 : a 1 = 5) (h2 : a 2 = 4) : oC a 2 (nI 0) (nI 0) (-1 : Int32) = .inr (1, (nI 0)) := by
  show o_sil a (nI 0) (nI 0) (-1 : Int32) = _
  unfold o_sil
  simp (decide := true) only [h1, h2, if_true, if_false, ite_true, ite_false, true_and, and_true, false_and, and_false]
theorem rf11 (h1 : a 1 = 5) (h2 : a 2 = 4) : oC a 3 (nI 5 - nI 1) (nI 0) (nI 0) = .inr (3, (nI 5 - nI 1)) := by
  show o_win a (nI 5 - nI 1) (nI 0) = _
  unfold o_win
  simp (decide := true) only [h1, h2, if_true, if_false, ite_true, ite_false, true_and, and_true, false_and, and_false]
theorem rf12 (h1 : a 1 = 5) (h2 : a 2 = 4) : oC a 3 (nI 0) (nI 10) (nI 0) = .inr (1, (nI 0)) := by
  show o_win a (nI 0) (nI 10) = _
  unfold o_win
  simp (decide := true) only [h1, h2, if_true, if_false, ite_true, ite_false, true_and, and_true, false_and, and_false]
theorem rf13 (h1 : a 1 = 5) (h2 : a 2 = 4) : oC a 3 (-1 : Int32) (nI 0) (nI 0) = .inr (3, (-1 : Int32)) := by
  show o_win a (-1 : Int32) (nI 0) = _
  unfold o_win
  simp (decide := true) only [h1, h2, if_true, if_false, ite_true, ite_false, true_and, and_true, false_and, and_false]
theorem rf14 (h1 : a 1 = 5) (h2 : a 2 = 4) : oC a 4 (nI 5) (nI 10) (nI 0) = .inr (3, (nI 5)) := by
  show o_ear a (nI 5) (nI 10) = _
  unfold o_ear
  simp (decide := true) only [h1, h2, if_true, if_false, ite_true, ite_false, true_and, and_true, false_and, and_false]
theorem rf15 (h1 : a 1 = 5) (h2 : a 2 = 4) : oC a 4 (nI 0) (nI 10) (nI 0) = .inr (1, (nI 0)) := by
  show o_ear a (nI 0) (nI 10) = _
  unfold o_ear
  simp (decide := true) only [h1, h2, if_true, if_false, ite_true, ite_false, true_and, and_true, false_and, and_false]
theorem rf16 (h1 : a 1 = 5) (h2 : a 2 = 4) : oC a 5 (nI 5) (nI 0) (nI 1) = .inr (3, (nI 5)) := by
  show o_snd a (nI 5) (nI 0) (nI 1) = _
  unfold o_snd
  simp (decide := true) only [h1, h2, if_true, if_false, ite_true, ite_false, true_and, and_true, false_and, and_false]
theorem rf17 (h1 : a 1 = 5) (h2 : a 2 = 4) : oC a 5 (nI 0) (nI 5) (nI 0) = .inr (3, (nI 5)) := by
  show o_snd a (nI 0) (nI 5) (nI 0) = _
  unfold o_snd
  simp (decide := true) only [h1, h2, if_true, if_false, ite_true, ite_false, true_and, and_true, false_and, and_false]
theorem rf18 (h1 : a 1 = 5) (h2 : a 2 = 4) : oC a 5 (nI 0) (nI 1) (-5 : Int32) = .inr (1, (nI 0)) := by
  show o_snd a (nI 0) (nI 1) (-5 : Int32) = _
  unfold o_snd
  simp (decide := true) only [h1, h2, if_true, if_false, ite_true, ite_false, true_and, and_true, false_and, and_false]
theorem rf19 (h1 : a 1 = 5) (h2 : a 2 = 4) : oC a 6 (nI 4) (nI 0) (nI 0) = .inr (3, (nI 4)) := by
  show o_drp a (nI 4) = _
  unfold o_drp
  simp (decide := true) only [h1, h2, if_true, if_false, ite_true, ite_false, true_and, and_true, false_and, and_false]
theorem rf20 (h1 : a 1 = 5) (h2 : a 2 = 4) : oC a 7 (nI 0) (nI 0) (nI 0) = .inr (1, (nI 0)) := by
  show o_pas a (nI 0) = _
  unfold o_pas
  simp (decide := true) only [h1, h2, if_true, if_false, ite_true, ite_false, true_and, and_true, false_and, and_false]
theorem rf21 (h1 : a 1 = 5) (h2 : a 2 = 4) : oC a 7 (nI 97) (nI 0) (nI 0) = .inr (1, (nI 0)) := by
  show o_pas a (nI 97) = _
  unfold o_pas
  simp (decide := true) only [h1, h2, if_true, if_false, ite_true, ite_false, true_and, and_true, false_and, and_false]
def bwn : Nat → am_W4 → am_W4
  | 0, w => w
  | n + 1, w => am_bw (bwn n w)
theorem bwn_le : ∀ n w, wle n w (bwn n w)
  | 0, w => wle.rf w
  | n + 1, w => (bwn_le n w).tr (wle.bw _) (Nat.le_refl _)
theorem rA {x1 : Int64} (h1 : a 1 = 5) (h2 : a 2 = 4) (hB0 : 1000 ≤ B) (hB : B < 1070000000) (hok : ml_ok B a) (h : lS a hs sv tx R e M) : ∃ M' w', am_rn (am_ev (d + 11)) 154 16 [some (am_P (3, 0, 0)), some (.inl (.long x1)), none, some (am_I (nI 5)), none, none] [am_I (nI 4)] M (am_Z w) = am_rn (am_ev (d + 11)) 154 382 [some (am_P (3, 0, 0)), some (.inl (.long x1)), none, some (am_I (nI 5)), some (am_I (nI 4)), none] [am_I (nI 1)] M' (am_Z w') ∧ lS a hs sv tx (nI 1, nI 0, nI 0) e M' ∧ clF M M' ∧ wle 22 w w' := by
  obtain ⟨M0, e0, q0, f0⟩ := (a115 (d := d + 1) (w := w) (x := (-1 : Int32)) (y := (nI 0)) (z := (nI 1)) hB0 hB hok h).no (rf0 h1 h2)
  obtain ⟨M1, e1, q1, f1⟩ := (a115 (d := d + 1) (w := (am_bw w)) (x := (nI 10)) (y := (nI 0)) (z := (nI 1)) hB0 hB hok q0).no (rf1 h1 h2)
  obtain ⟨M2, e2, q2, f2⟩ := (a115 (d := d + 1) (w := (am_bw (am_bw w))) (x := (nI 0)) (y := (nI 10)) (z := (nI 1)) hB0 hB hok q1).no (rf2 h1 h2)
  obtain ⟨M3, e3, q3, f3⟩ := (a115 (d := d + 1) (w := (am_bw (am_bw (am_bw w)))) (x := (nI 0)) (y := (nI 0)) (z := (nI 0)) hB0 hB hok q2).no (rf3 h1 h2)
  have e4 := k148 (d := d + 6) (w := (am_bw (am_bw (am_bw (am_bw w))))) (x1 := nI 1) (x2 := (nI 0)) (x3 := nI 0) (by decide) q3
  obtain ⟨M5, e5, q5, f5⟩ := (a116 (d := d + 1) (w := (am_bw (am_bw (am_bw (am_bw w))))) (x := (nI 0)) (y := (nI 1)) hB0 hB hok q3).no (rf4 h1 h2)
  obtain ⟨M6, e6, q6, f6⟩ := (a116 (d := d + 1) (w := (am_bw (am_bw (am_bw (am_bw (am_bw w)))))) (x := (nI 9)) (y := (nI 1)) hB0 hB hok q5).no (rf5 h1 h2)
  obtain ⟨M7, e7, q7, f7⟩ := (a116 (d := d + 1) (w := (am_bw (am_bw (am_bw (am_bw (am_bw (am_bw w))))))) (x := (nI 1)) (y := (nI 0)) hB0 hB hok q6).no (rf6 h1 h2)
  obtain ⟨M8, e8, q8, f8⟩ := (a116 (d := d + 1) (w := (am_bw (am_bw (am_bw (am_bw (am_bw (am_bw (am_bw w)))))))) (x := (nI 1)) (y := (nI 151)) hB0 hB hok q7).no (rf7 h1 h2)
  obtain ⟨M9, e9, q9, f9⟩ := (a117 (d := d + 1) (w := (am_bw (am_bw (am_bw (am_bw (am_bw (am_bw (am_bw (am_bw w))))))))) (x := (nI 5)) (y := (nI 24)) (z := (nI 0)) hB0 hB hok q8).no (rf8 h1 h2)
  have e10 := k148 (d := d + 6) (w := (am_bw (am_bw (am_bw (am_bw (am_bw (am_bw (am_bw (am_bw (am_bw w)))))))))) (x1 := nI 3) (x2 := (nI 5)) (x3 := nI 0) (by decide) q9
  obtain ⟨M11, e11, q11, f11⟩ := (a117 (d := d + 1) (w := (am_bw (am_bw (am_bw (am_bw (am_bw (am_bw (am_bw (am_bw (am_bw w)))))))))) (x := (nI 0)) (y := (nI 24)) (z := (nI 0)) hB0 hB hok q9).no (rf9 h1 h2)
  obtain ⟨M12, e12, q12, f12⟩ := (a117 (d := d + 1) (w := (am_bw (am_bw (am_bw (am_bw (am_bw (am_bw (am_bw (am_bw (am_bw (am_bw w))))))))))) (x := (nI 0)) (y := (nI 0)) (z := (-1 : Int32)) hB0 hB hok q11).no (rf10 h1 h2)
  obtain ⟨M13, e13, q13, f13⟩ := (a118 (d := d + 1) (w := (am_bw (am_bw (am_bw (am_bw (am_bw (am_bw (am_bw (am_bw (am_bw (am_bw (am_bw w)))))))))))) (x := (nI 5 - nI 1)) (y := (nI 0)) hB0 hB hok q12).no (rf11 h1 h2)
  have e14 := k148 (d := d + 6) (w := (am_bw (am_bw (am_bw (am_bw (am_bw (am_bw (am_bw (am_bw (am_bw (am_bw (am_bw (am_bw w))))))))))))) (x1 := nI 3) (x2 := (nI 5 - nI 1)) (x3 := nI 0) (by decide) q13
  obtain ⟨M15, e15, q15, f15⟩ := (a118 (d := d + 1) (w := (am_bw (am_bw (am_bw (am_bw (am_bw (am_bw (am_bw (am_bw (am_bw (am_bw (am_bw (am_bw w))))))))))))) (x := (nI 0)) (y := (nI 10)) hB0 hB hok q13).no (rf12 h1 h2)
  obtain ⟨M16, e16, q16, f16⟩ := (a118 (d := d + 1) (w := (am_bw (am_bw (am_bw (am_bw (am_bw (am_bw (am_bw (am_bw (am_bw (am_bw (am_bw (am_bw (am_bw w)))))))))))))) (x := (-1 : Int32)) (y := (nI 0)) hB0 hB hok q15).no (rf13 h1 h2)
  obtain ⟨M17, e17, q17, f17⟩ := (a119 (d := d + 1) (w := (am_bw (am_bw (am_bw (am_bw (am_bw (am_bw (am_bw (am_bw (am_bw (am_bw (am_bw (am_bw (am_bw (am_bw w))))))))))))))) (x := (nI 5)) (y := (nI 10)) hB0 hB hok q16).no (rf14 h1 h2)
  obtain ⟨M18, e18, q18, f18⟩ := (a119 (d := d + 1) (w := (am_bw (am_bw (am_bw (am_bw (am_bw (am_bw (am_bw (am_bw (am_bw (am_bw (am_bw (am_bw (am_bw (am_bw (am_bw w)))))))))))))))) (x := (nI 0)) (y := (nI 10)) hB0 hB hok q17).no (rf15 h1 h2)
  obtain ⟨M19, e19, q19, f19⟩ := (a120 (d := d + 1) (w := (am_bw (am_bw (am_bw (am_bw (am_bw (am_bw (am_bw (am_bw (am_bw (am_bw (am_bw (am_bw (am_bw (am_bw (am_bw (am_bw w))))))))))))))))) (x := (nI 5)) (y := (nI 0)) (z := (nI 1)) hB0 hB hok q18).no (rf16 h1 h2)
  obtain ⟨M20, e20, q20, f20⟩ := (a120 (d := d + 1) (w := (am_bw (am_bw (am_bw (am_bw (am_bw (am_bw (am_bw (am_bw (am_bw (am_bw (am_bw (am_bw (am_bw (am_bw (am_bw (am_bw (am_bw w)))))))))))))))))) (x := (nI 0)) (y := (nI 5)) (z := (nI 0)) hB0 hB hok q19).no (rf17 h1 h2)
  have e21 := k148 (d := d + 6) (w := (am_bw (am_bw (am_bw (am_bw (am_bw (am_bw (am_bw (am_bw (am_bw (am_bw (am_bw (am_bw (am_bw (am_bw (am_bw (am_bw (am_bw (am_bw w))))))))))))))))))) (x1 := nI 3) (x2 := (nI 5)) (x3 := nI 0) (by decide) q20
  obtain ⟨M22, e22, q22, f22⟩ := (a120 (d := d + 1) (w := (am_bw (am_bw (am_bw (am_bw (am_bw (am_bw (am_bw (am_bw (am_bw (am_bw (am_bw (am_bw (am_bw (am_bw (am_bw (am_bw (am_bw (am_bw w))))))))))))))))))) (x := (nI 0)) (y := (nI 1)) (z := (-5 : Int32)) hB0 hB hok q20).no (rf18 h1 h2)
  have e23 := k148 (d := d + 6) (w := (am_bw (am_bw (am_bw (am_bw (am_bw (am_bw (am_bw (am_bw (am_bw (am_bw (am_bw (am_bw (am_bw (am_bw (am_bw (am_bw (am_bw (am_bw (am_bw w)))))))))))))))))))) (x1 := nI 1) (x2 := (nI 0)) (x3 := nI 0) (by decide) q22
  obtain ⟨M24, e24, q24, f24⟩ := (a121 (d := d + 1) (w := (am_bw (am_bw (am_bw (am_bw (am_bw (am_bw (am_bw (am_bw (am_bw (am_bw (am_bw (am_bw (am_bw (am_bw (am_bw (am_bw (am_bw (am_bw (am_bw w)))))))))))))))))))) (x := (nI 4)) hB0 hB hok q22).no (rf19 h1 h2)
  have e25 := k148 (d := d + 6) (w := (am_bw (am_bw (am_bw (am_bw (am_bw (am_bw (am_bw (am_bw (am_bw (am_bw (am_bw (am_bw (am_bw (am_bw (am_bw (am_bw (am_bw (am_bw (am_bw (am_bw w))))))))))))))))))))) (x1 := nI 3) (x2 := (nI 4)) (x3 := nI 0) (by decide) q24
  obtain ⟨M26, e26, q26, f26⟩ := (a122 (d := d + 1) (w := (am_bw (am_bw (am_bw (am_bw (am_bw (am_bw (am_bw (am_bw (am_bw (am_bw (am_bw (am_bw (am_bw (am_bw (am_bw (am_bw (am_bw (am_bw (am_bw (am_bw w))))))))))))))))))))) (x := (nI 0)) hB0 hB hok q24).no (rf20 h1 h2)
  obtain ⟨M27, e27, q27, f27⟩ := (a122 (d := d + 1) (w := (am_bw (am_bw (am_bw (am_bw (am_bw (am_bw (am_bw (am_bw (am_bw (am_bw (am_bw (am_bw (am_bw (am_bw (am_bw (am_bw (am_bw (am_bw (am_bw (am_bw (am_bw w)))))))))))))))))))))) (x := (nI 97)) hB0 hB hok q26).no (rf21 h1 h2)
  have e28 := k148 (d := d + 6) (w := (am_bw (am_bw (am_bw (am_bw (am_bw (am_bw (am_bw (am_bw (am_bw (am_bw (am_bw (am_bw (am_bw (am_bw (am_bw (am_bw (am_bw (am_bw (am_bw (am_bw (am_bw (am_bw w))))))))))))))))))))))) (x1 := nI 1) (x2 := (nI 0)) (x3 := nI 0) (by decide) q27
  refine ⟨_, bwn 22 w, ?_, q27, f0.tr (f1.tr (f2.tr (f3.tr (f5.tr (f6.tr (f7.tr (f8.tr (f9.tr (f11.tr (f12.tr (f13.tr (f15.tr (f16.tr (f17.tr (f18.tr (f19.tr (f20.tr (f22.tr (f24.tr (f26.tr f27)))))))))))))))))))), bwn_le 22 w⟩
  rw [b154_16, show am_ev (d + 11) 115 _ _ _ = _ from e0]
  simp only [am_cb_i, am_cb_e, Option.toList_some, Option.toList_none, List.cons_append, List.nil_append]
  rw [b154_25, if_pos rfl, show am_ev (d + 11) 115 _ _ _ = _ from e1]
  simp only [am_cb_i, am_cb_e, Option.toList_some, Option.toList_none, List.cons_append, List.nil_append]
  rw [b154_39, if_pos rfl, show am_ev (d + 11) 115 _ _ _ = _ from e2]
  simp only [am_cb_i, am_cb_e, Option.toList_some, Option.toList_none, List.cons_append, List.nil_append]
  rw [b154_53, if_pos rfl, show am_ev (d + 11) 115 _ _ _ = _ from e3]
  simp only [am_cb_i, am_cb_e, Option.toList_some, Option.toList_none, List.cons_append, List.nil_append]
  rw [b154_66, if_pos rfl, show am_ev (d + 11) 148 _ _ _ = _ from e4]
  simp only [am_cb_i, am_cb_e, Option.toList_some, Option.toList_none, List.cons_append, List.nil_append]
  rw [b154_79, if_neg (by decide), show am_ev (d + 11) 116 _ _ _ = _ from e5]
  simp only [am_cb_i, am_cb_e, Option.toList_some, Option.toList_none, List.cons_append, List.nil_append]
  rw [b154_88, if_pos rfl, show am_ev (d + 11) 116 _ _ _ = _ from e6]
  simp only [am_cb_i, am_cb_e, Option.toList_some, Option.toList_none, List.cons_append, List.nil_append]
  rw [b154_101, if_pos rfl, show am_ev (d + 11) 116 _ _ _ = _ from e7]
  simp only [am_cb_i, am_cb_e, Option.toList_some, Option.toList_none, List.cons_append, List.nil_append]
  rw [b154_113, if_pos rfl, show am_ev (d + 11) 116 _ _ _ = _ from e8]
  simp only [am_cb_i, am_cb_e, Option.toList_some, Option.toList_none, List.cons_append, List.nil_append]
  rw [b154_127, if_pos rfl, show am_ev (d + 11) 117 _ _ _ = _ from e9]
  simp only [am_cb_i, am_cb_e, Option.toList_some, Option.toList_none, List.cons_append, List.nil_append]
  rw [b154_141, if_pos rfl, show am_ev (d + 11) 148 _ _ _ = _ from e10]
  simp only [am_cb_i, am_cb_e, Option.toList_some, Option.toList_none, List.cons_append, List.nil_append]
  rw [b154_154, if_neg (by decide), show am_ev (d + 11) 117 _ _ _ = _ from e11]
  simp only [am_cb_i, am_cb_e, Option.toList_some, Option.toList_none, List.cons_append, List.nil_append]
  rw [b154_165, if_pos rfl, show am_ev (d + 11) 117 _ _ _ = _ from e12]
  simp only [am_cb_i, am_cb_e, Option.toList_some, Option.toList_none, List.cons_append, List.nil_append]
  rw [b154_178, if_pos rfl, show am_ev (d + 11) 118 _ _ _ = _ from e13]
  simp only [am_cb_i, am_cb_e, Option.toList_some, Option.toList_none, List.cons_append, List.nil_append]
  rw [b154_192, if_pos rfl, show am_ev (d + 11) 148 _ _ _ = _ from e14]
  simp only [am_cb_i, am_cb_e, Option.toList_some, Option.toList_none, List.cons_append, List.nil_append]
  rw [b154_207, if_neg (by decide), show am_ev (d + 11) 118 _ _ _ = _ from e15]
  simp only [am_cb_i, am_cb_e, Option.toList_some, Option.toList_none, List.cons_append, List.nil_append]
  rw [b154_217, if_pos rfl, show am_ev (d + 11) 118 _ _ _ = _ from e16]
  simp only [am_cb_i, am_cb_e, Option.toList_some, Option.toList_none, List.cons_append, List.nil_append]
  rw [b154_229, if_pos rfl, show am_ev (d + 11) 119 _ _ _ = _ from e17]
  simp only [am_cb_i, am_cb_e, Option.toList_some, Option.toList_none, List.cons_append, List.nil_append]
  rw [b154_242, if_pos rfl, show am_ev (d + 11) 119 _ _ _ = _ from e18]
  simp only [am_cb_i, am_cb_e, Option.toList_some, Option.toList_none, List.cons_append, List.nil_append]
  rw [b154_255, if_pos rfl, show am_ev (d + 11) 120 _ _ _ = _ from e19]
  simp only [am_cb_i, am_cb_e, Option.toList_some, Option.toList_none, List.cons_append, List.nil_append]
  rw [b154_268, if_pos rfl, show am_ev (d + 11) 120 _ _ _ = _ from e20]
  simp only [am_cb_i, am_cb_e, Option.toList_some, Option.toList_none, List.cons_append, List.nil_append]
  rw [b154_281, if_pos rfl, show am_ev (d + 11) 148 _ _ _ = _ from e21]
  simp only [am_cb_i, am_cb_e, Option.toList_some, Option.toList_none, List.cons_append, List.nil_append]
  rw [b154_294, if_neg (by decide), show am_ev (d + 11) 120 _ _ _ = _ from e22]
  simp only [am_cb_i, am_cb_e, Option.toList_some, Option.toList_none, List.cons_append, List.nil_append]
  rw [b154_305, if_pos rfl, show am_ev (d + 11) 148 _ _ _ = _ from e23]
  simp only [am_cb_i, am_cb_e, Option.toList_some, Option.toList_none, List.cons_append, List.nil_append]
  rw [b154_318, if_neg (by decide), show am_ev (d + 11) 121 _ _ _ = _ from e24]
  simp only [am_cb_i, am_cb_e, Option.toList_some, Option.toList_none, List.cons_append, List.nil_append]
  rw [b154_327, if_pos rfl, show am_ev (d + 11) 148 _ _ _ = _ from e25]
  simp only [am_cb_i, am_cb_e, Option.toList_some, Option.toList_none, List.cons_append, List.nil_append]
  rw [b154_341, if_neg (by decide), show am_ev (d + 11) 122 _ _ _ = _ from e26]
  simp only [am_cb_i, am_cb_e, Option.toList_some, Option.toList_none, List.cons_append, List.nil_append]
  rw [b154_349, if_pos rfl, show am_ev (d + 11) 122 _ _ _ = _ from e27]
  simp only [am_cb_i, am_cb_e, Option.toList_some, Option.toList_none, List.cons_append, List.nil_append]
  rw [b154_361, if_pos rfl, show am_ev (d + 11) 148 _ _ _ = _ from e28]
  simp only [am_cb_i, am_cb_e, Option.toList_some, Option.toList_none, List.cons_append, List.nil_append]
  rw [b154_374, if_neg (by decide)]
  rfl
theorem k4_16 {k : Nat} (hk : k ≤ 4) : ¬ nI k = nI 16 := fun q => by have := (nI_eq (by omega) (by decide)).mp q; omega
theorem k4_m1 {k : Nat} (hk : k ≤ 4) : ¬ nI k = (-1 : Int32) := nI_nm1 (by omega)
theorem nfq {P : Nat → Bool} {k : Nat} (h : ∀ m, P m = false) : nf P k 0 = none := nf_none (fun m _ _ => h m)
theorem wt_no {x : Int32} (h2 : a 2 = 4) (hx : ∀ k, k ≤ 4 → ¬ nI k = x) {c : Nat} : ml_wt a c x = none := nfq (fun m => by
  unfold ml_wtP
  rw [decide_eq_false (hx _ (Nat.le_trans (nc_le _ _) (Nat.le_of_eq h2))), Bool.and_false])
theorem arr_no (h2 : a 2 = 4) : nf (ar_F a (nI 16)) (a 2) 0 = none := nfq (fun m => by
  unfold ar_F
  rw [decide_eq_false (k4_16 (Nat.le_trans (nc_le _ _) (Nat.le_of_eq h2))), Bool.and_false])
theorem rnk_no (h2 : a 2 = 4) : nf (rk_F a (nI 16)) (a 2) 0 = none := nfq (fun m => by
  unfold rk_F
  rw [decide_eq_false (k4_16 (Nat.le_trans (nc_le _ _) (Nat.le_of_eq h2))), Bool.and_false])
theorem vq0 (h1 : a 1 = 5) (h2 : a 2 = 4) (hok : ml_ok B a) : qvl id (q_cnv a (nI 5) (nI 9)) = (-1001 : Int32) := by
  unfold q_cnv
  simp (decide := true) only [h1, h2, if_true, if_false, ite_true, ite_false, qvl, qc]
theorem vq1 (h1 : a 1 = 5) (h2 : a 2 = 4) (hok : ml_ok B a) : qvl id (q_cnv a (nI 0) (nI 8)) = (-1002 : Int32) := by
  unfold q_cnv
  simp (decide := true) only [h1, h2, if_true, if_false, ite_true, ite_false, qvl, qc]
theorem vq2 (h1 : a 1 = 5) (h2 : a 2 = 4) (hok : ml_ok B a) : qvl id (q_cnv a (nI 0) (-1 : Int32)) = (-1002 : Int32) := by
  unfold q_cnv
  simp (decide := true) only [h1, h2, if_true, if_false, ite_true, ite_false, qvl, qc]
theorem vq3 (h1 : a 1 = 5) (h2 : a 2 = 4) (hok : ml_ok B a) : qvl id (q_rng a (nI 5 - nI 1) (nI 9)) = (-1001 : Int32) := by
  unfold q_rng
  simp (decide := true) only [h1, h2, if_true, if_false, ite_true, ite_false, qvl, qc]
theorem vq4 (h1 : a 1 = 5) (h2 : a 2 = 4) (hok : ml_ok B a) : qvl id (q_rng a (nI 0) (nI 2)) = (-1002 : Int32) := by
  unfold q_rng
  simp (decide := true) only [h1, h2, if_true, if_false, ite_true, ite_false, qvl, qc]
theorem vq5 (h1 : a 1 = 5) (h2 : a 2 = 4) (hok : ml_ok B a) : qvl id (q_psl a (nI 9)) = (-1001 : Int32) := by
  unfold q_psl
  simp (decide := true) only [h1, h2, if_true, if_false, ite_true, ite_false, qvl, qc]
theorem vq6 (h1 : a 1 = 5) (h2 : a 2 = 4) (hok : ml_ok B a) : qvl id (q_psl a (nI 0)) = (-1001 : Int32) := by
  unfold q_psl
  simp (decide := true) only [h1, h2, if_true, if_false, ite_true, ite_false, qvl, qc]
theorem vq7 (h1 : a 1 = 5) (h2 : a 2 = 4) (hok : ml_ok B a) : qvl id (q_msg a (nI 4) (nI 9)) = (-1001 : Int32) := by
  unfold q_msg
  simp (decide := true) only [h1, h2, if_true, if_false, ite_true, ite_false, qvl, qc]
theorem vq8 (h1 : a 1 = 5) (h2 : a 2 = 4) (hok : ml_ok B a) : qvl id (q_msg a (nI 0) (nI 9)) = (-1002 : Int32) := by
  unfold q_msg
  simp (decide := true) only [h1, h2, if_true, if_false, ite_true, ite_false, qvl, qc]
theorem vq9 (h1 : a 1 = 5) (h2 : a 2 = 4) (hok : ml_ok B a) : qvl id (q_msg a (nI 0) (-1 : Int32)) = (-1002 : Int32) := by
  unfold q_msg
  simp (decide := true) only [h1, h2, if_true, if_false, ite_true, ite_false, qvl, qc]
theorem vq10 (h1 : a 1 = 5) (h2 : a 2 = 4) (hok : ml_ok B a) : qvl id (q_sig a (nI 4) (nI 0)) = (-1001 : Int32) := by
  unfold q_sig
  simp (decide := true) only [h1, h2, if_true, if_false, ite_true, ite_false, qvl, qc]
theorem vq11 (h1 : a 1 = 5) (h2 : a 2 = 4) (hok : ml_ok B a) : qvl id (q_sig a (nI 0) (nI 8)) = (-1001 : Int32) := by
  have w3 := (hok.2 0 (by omega)).2.2.2.2.1
  have hx : ¬ am_in (nI 8) (a (60 + 19 * cN (nI 0) + 3)) := fun q => by
    have := (am_in_iff.mp q).2
    rw [nI_clamp (by decide), cN_nI (by decide)] at this
    omega
  unfold q_sig
  rw [if_neg hx]
  simp (decide := true) only [h2, if_true, ite_true, qvl, qc]
theorem vq12 (h1 : a 1 = 5) (h2 : a 2 = 4) (hok : ml_ok B a) : qvl id (q_sig a (nI 0) (-1 : Int32)) = (-1001 : Int32) := by
  unfold q_sig
  simp (decide := true) only [h1, h2, if_true, if_false, ite_true, ite_false, qvl, qc]
theorem vq13 (h1 : a 1 = 5) (h2 : a 2 = 4) (hok : ml_ok B a) : qvl id (q_mas a (nI 4)) = (-1001 : Int32) := by
  unfold q_mas
  simp (decide := true) only [h1, h2, if_true, if_false, ite_true, ite_false, qvl, qc]
theorem vq14 (h1 : a 1 = 5) (h2 : a 2 = 4) (hok : ml_ok B a) : qvl id (q_que a (nI 5) (nI 0)) = (-1001 : Int32) := by
  unfold q_que
  simp (decide := true) only [h1, h2, if_true, if_false, ite_true, ite_false, qvl, qc]
theorem vq15 (h1 : a 1 = 5) (h2 : a 2 = 4) (hok : ml_ok B a) : qvl id (q_que a (nI 0) (nI 16)) = (-1002 : Int32) := by
  unfold q_que
  rw [wt_no h2 (fun k hk => k4_16 hk), h1]
  simp (decide := true) only [if_true, ite_true, qvl, qc]
theorem vq16 (h1 : a 1 = 5) (h2 : a 2 = 4) (hok : ml_ok B a) : qvl id (q_que a (nI 0) (-1 : Int32)) = (-1002 : Int32) := by
  unfold q_que
  rw [wt_no h2 (fun k hk => k4_m1 hk), h1]
  simp (decide := true) only [if_true, ite_true, qvl, qc]
theorem vq17 (h1 : a 1 = 5) (h2 : a 2 = 4) (hok : ml_ok B a) : qvl id (q_arr a (nI 16)) = (-1001 : Int32) := by
  unfold q_arr
  rw [arr_no h2]
  rfl
theorem vq18 (h1 : a 1 = 5) (h2 : a 2 = 4) (hok : ml_ok B a) : qvl id (q_str a (nI 5) (nI 1)) = (-1001 : Int32) := by
  unfold q_str
  simp (decide := true) only [h1, h2, if_true, if_false, ite_true, ite_false, qvl, qc]
theorem vq19 (h1 : a 1 = 5) (h2 : a 2 = 4) (hok : ml_ok B a) : qvl (fun v => if v = 0 then 0 else 1) (q_hrd a (-1 : Int32) (nI 1)) = (-1001 : Int32) := by
  unfold q_hrd
  simp (decide := true) only [h1, h2, if_true, if_false, ite_true, ite_false, qvl, qc]
theorem vq20 (h1 : a 1 = 5) (h2 : a 2 = 4) (hok : ml_ok B a) : qvl id (q_wnd a (nI 5 - nI 1) (nI 0)) = (-1001 : Int32) := by
  unfold q_wnd
  simp (decide := true) only [h1, h2, if_true, if_false, ite_true, ite_false, qvl, qc]
theorem vq21 (h1 : a 1 = 5) (h2 : a 2 = 4) (hok : ml_ok B a) : qvl id (q_wnd a (nI 0) (nI 201)) = (-1002 : Int32) := by
  unfold q_wnd
  simp (decide := true) only [h1, h2, if_true, if_false, ite_true, ite_false, qvl, qc]
theorem vq22 (h1 : a 1 = 5) (h2 : a 2 = 4) (hok : ml_ok B a) : qvl id (q_wnd a (nI 0) (-1 : Int32)) = (-1002 : Int32) := by
  unfold q_wnd
  simp (decide := true) only [h1, h2, if_true, if_false, ite_true, ite_false, qvl, qc]
theorem vq23 (h1 : a 1 = 5) (h2 : a 2 = 4) (hok : ml_ok B a) : qvl id (q_tri a (nI 4) 0) = (-1001 : Int32) := by
  unfold q_tri
  simp (decide := true) only [h1, h2, if_true, if_false, ite_true, ite_false, qvl, qc]
theorem vq24 (h1 : a 1 = 5) (h2 : a 2 = 4) (hok : ml_ok B a) : qvl id (q_tri a (-1 : Int32) 1) = (-1001 : Int32) := by
  unfold q_tri
  simp (decide := true) only [h1, h2, if_true, if_false, ite_true, ite_false, qvl, qc]
theorem vq25 (h1 : a 1 = 5) (h2 : a 2 = 4) (hok : ml_ok B a) : qvl id (q_rnk a (nI 16)) = (-1001 : Int32) := by
  unfold q_rnk
  rw [rnk_no h2]
  rfl
theorem vq26 (h1 : a 1 = 5) (h2 : a 2 = 4) (hok : ml_ok B a) : qvl id (q_why R (-1 : Int32)) = (-1001 : Int32) := by
  unfold q_why
  simp (decide := true) only [if_false, ite_false, qvl, qc, if_true, ite_true]
theorem vq27 (h1 : a 1 = 5) (h2 : a 2 = 4) (hok : ml_ok B a) : qvl id (q_why R (nI 3)) = (-1001 : Int32) := by
  unfold q_why
  simp (decide := true) only [if_false, ite_false, qvl, qc, if_true, ite_true]
theorem vq31 (h1 : a 1 = 5) (h2 : a 2 = 4) (hok : ml_ok B a) : qvl id (q_all a hs.length tx.length (nI 12)) = (-1001 : Int32) := by
  unfold q_all
  simp (decide := true) only [if_false, ite_false, qvl, qc, if_true, ite_true]
theorem vq32 (h1 : a 1 = 5) (h2 : a 2 = 4) (hok : ml_ok B a) : qvl id (q_all a hs.length tx.length (-1 : Int32)) = (-1001 : Int32) := by
  unfold q_all
  simp (decide := true) only [if_false, ite_false, qvl, qc, if_true, ite_true]
theorem r139 (hok : ml_ok B a) (hx : ¬ am_in x (a 2)) (h : lS a hs sv tx R e M) : hR (lS a hs sv tx R e) M w 1 (am_ev (d + 3 + 1) 139 [am_P (3, 0, 0), am_I x] M (am_Z w)) (am_I (-1001 : Int32)) := by
  obtain ⟨ln, hc, hl⟩ := h
  exact ⟨M, am_bw w, h139.2 1 1 M _ List.mem_cons_self (k102n (d := d) hok hx hc), ⟨ln, hc, hl⟩, clF.rf M, wle.bw w⟩
theorem q_ltr_out {x : Int32} {ln : List Int32} (h : ¬ am_in x ln.length) : q_ltr ln x = .inr (1, 1) := by
  unfold q_ltr
  split
  · rename_i c hc
    by_cases h0 : x < 0
    · rw [if_pos h0]
    · exfalso
      apply h
      refine am_in_iff.mpr ⟨h0, ?_⟩
      exact (List.getElem?_eq_some_iff.mp hc).1
  · rfl
theorem r140 (hx : ∀ k, k ≤ 14 → ¬ am_in x k) (h : lS a hs sv tx R e M) : hR (lS a hs sv tx R e) M w 1 (am_ev (d + 1 + 1) 140 [am_P (3, 0, 0), am_I x] M (am_Z w)) (am_I (-1001 : Int32)) := by
  obtain ⟨ln, hc, hl⟩ := h
  have h1 := k105 (d := d) (w := w) (x := x) hl.1 hl.2 hc
  rw [q_ltr_out (hx _ hl.1)] at h1
  exact ⟨M, am_bw w, h140.2 1 1 M _ List.mem_cons_self h1, ⟨ln, hc, hl⟩, clF.rf M, wle.bw w⟩
theorem rB {x1 : Int64} (h1 : a 1 = 5) (h2 : a 2 = 4) (hB0 : 1000 ≤ B) (hB : B < 1070000000) (hok : ml_ok B a) (h : lS a hs sv tx R e M) : ∃ M' w', am_rn (am_ev (d + 11)) 154 382 [some (am_P (3, 0, 0)), some (.inl (.long x1)), none, some (am_I (nI 5)), some (am_I (nI 4)), none] [am_I (nI 1)] M (am_Z w) = am_rn (am_ev (d + 11)) 154 799 [some (am_P (3, 0, 0)), some (.inl (.long x1)), none, some (am_I (nI 5)), some (am_I (nI 4)), some (am_I (nI 1))] [am_I (nI 1)] M' (am_Z w') ∧ lS a hs sv tx R e M' ∧ clF M M' ∧ wle 33 w w' := by
  obtain ⟨M0, w0, e0, q0, f0, u0⟩ := d123 (d := d) (w := w) (x := (nI 5)) (y := (nI 9)) (by omega) hok h
  rw [vq0 h1 h2 hok] at e0
  obtain ⟨M1, w1, e1, q1, f1, u1⟩ := d123 (d := d) (w := w0) (x := (nI 0)) (y := (nI 8)) (by omega) hok q0
  rw [vq1 h1 h2 hok] at e1
  obtain ⟨M2, w2, e2, q2, f2, u2⟩ := d123 (d := d) (w := w1) (x := (nI 0)) (y := (-1 : Int32)) (by omega) hok q1
  rw [vq2 h1 h2 hok] at e2
  obtain ⟨M3, w3, e3, q3, f3, u3⟩ := d124 (d := d) (w := w2) (x := (nI 5 - nI 1)) (y := (nI 9)) hok q2
  rw [vq3 h1 h2 hok] at e3
  obtain ⟨M4, w4, e4, q4, f4, u4⟩ := d124 (d := d) (w := w3) (x := (nI 0)) (y := (nI 2)) hok q3
  rw [vq4 h1 h2 hok] at e4
  obtain ⟨M5, w5, e5, q5, f5, u5⟩ := d125 (d := d) (w := w4) (x := (nI 9))  q4
  rw [vq5 h1 h2 hok] at e5
  obtain ⟨M6, w6, e6, q6, f6, u6⟩ := d125 (d := d) (w := w5) (x := (nI 0))  q5
  rw [vq6 h1 h2 hok] at e6
  obtain ⟨M7, w7, e7, q7, f7, u7⟩ := d126 (d := d) (w := w6) (x := (nI 4)) (y := (nI 9)) hok q6
  rw [vq7 h1 h2 hok] at e7
  obtain ⟨M8, w8, e8, q8, f8, u8⟩ := d126 (d := d) (w := w7) (x := (nI 0)) (y := (nI 9)) hok q7
  rw [vq8 h1 h2 hok] at e8
  obtain ⟨M9, w9, e9, q9, f9, u9⟩ := d126 (d := d) (w := w8) (x := (nI 0)) (y := (-1 : Int32)) hok q8
  rw [vq9 h1 h2 hok] at e9
  obtain ⟨M10, w10, e10, q10, f10, u10⟩ := d127 (d := d) (w := w9) (x := (nI 4)) (y := (nI 0)) hok q9
  rw [vq10 h1 h2 hok] at e10
  obtain ⟨M11, w11, e11, q11, f11, u11⟩ := d127 (d := d) (w := w10) (x := (nI 0)) (y := (nI 8)) hok q10
  rw [vq11 h1 h2 hok] at e11
  obtain ⟨M12, w12, e12, q12, f12, u12⟩ := d127 (d := d) (w := w11) (x := (nI 0)) (y := (-1 : Int32)) hok q11
  rw [vq12 h1 h2 hok] at e12
  obtain ⟨M13, w13, e13, q13, f13, u13⟩ := d128 (d := d) (w := w12) (x := (nI 4)) hok q12
  rw [vq13 h1 h2 hok] at e13
  obtain ⟨M14, w14, e14, q14, f14, u14⟩ := d129 (d := d) (w := w13) (x := (nI 5)) (y := (nI 0)) hok q13
  rw [vq14 h1 h2 hok] at e14
  obtain ⟨M15, w15, e15, q15, f15, u15⟩ := d129 (d := d) (w := w14) (x := (nI 0)) (y := (nI 16)) hok q14
  rw [vq15 h1 h2 hok] at e15
  obtain ⟨M16, w16, e16, q16, f16, u16⟩ := d129 (d := d) (w := w15) (x := (nI 0)) (y := (-1 : Int32)) hok q15
  rw [vq16 h1 h2 hok] at e16
  obtain ⟨M17, w17, e17, q17, f17, u17⟩ := d130 (d := d) (w := w16) (x := (nI 16)) hok q16
  rw [vq17 h1 h2 hok] at e17
  obtain ⟨M18, w18, e18, q18, f18, u18⟩ := d131 (d := d) (w := w17) (x := (nI 5)) (y := (nI 1)) hok q17
  rw [vq18 h1 h2 hok] at e18
  obtain ⟨M19, w19, e19, q19, f19, u19⟩ := d146 (d := d) (w := w18) (x := (-1 : Int32)) (y := (nI 1)) hok q18
  rw [vq19 h1 h2 hok] at e19
  obtain ⟨M20, w20, e20, q20, f20, u20⟩ := d132 (d := d) (w := w19) (x := (nI 5 - nI 1)) (y := (nI 0)) (by omega) hok q19
  rw [vq20 h1 h2 hok] at e20
  obtain ⟨M21, w21, e21, q21, f21, u21⟩ := d132 (d := d) (w := w20) (x := (nI 0)) (y := (nI 201)) (by omega) hok q20
  rw [vq21 h1 h2 hok] at e21
  obtain ⟨M22, w22, e22, q22, f22, u22⟩ := d132 (d := d) (w := w21) (x := (nI 0)) (y := (-1 : Int32)) (by omega) hok q21
  rw [vq22 h1 h2 hok] at e22
  obtain ⟨M23, w23, e23, q23, f23, u23⟩ := d133 (d := d) (w := w22) (x := (nI 4)) hB0 hB hok q22
  rw [vq23 h1 h2 hok] at e23
  obtain ⟨M24, w24, e24, q24, f24, u24⟩ := d134 (d := d) (w := w23) (x := (-1 : Int32)) hB0 hB hok q23
  rw [vq24 h1 h2 hok] at e24
  obtain ⟨M25, w25, e25, q25, f25, u25⟩ := d135 (d := d) (w := w24) (x := (nI 16)) (by omega) hok q24
  rw [vq25 h1 h2 hok] at e25
  obtain ⟨M26, w26, e26, q26, f26, u26⟩ := d138 (d := d) (w := w25) (x := (-1 : Int32))  q25
  rw [vq26 h1 h2 hok] at e26
  obtain ⟨M27, w27, e27, q27, f27, u27⟩ := d138 (d := d) (w := w26) (x := (nI 3))  q26
  rw [vq27 h1 h2 hok] at e27
  obtain ⟨M28, w28, e28, q28, f28, u28⟩ := r139 (d := d + 7) (w := w27) hok (x := (nI 4)) (by rw [h2]; decide) q27
  obtain ⟨M29, w29, e29, q29, f29, u29⟩ := r140 (d := d + 9) (w := w28) (x := (-1 : Int32)) (fun k hk => (by decide)) q28
  obtain ⟨M30, w30, e30, q30, f30, u30⟩ := r140 (d := d + 9) (w := w29) (x := (nI 20)) (fun k hk => fun q => by have := (am_in_iff.mp q).2; rw [nI_clamp (by decide)] at this; omega) q29
  obtain ⟨M31, w31, e31, q31, f31, u31⟩ := d143 (d := d) (w := w30) (x := (nI 12)) (by omega) hok q30
  rw [vq31 h1 h2 hok] at e31
  obtain ⟨M32, w32, e32, q32, f32, u32⟩ := d143 (d := d) (w := w31) (x := (-1 : Int32)) (by omega) hok q31
  rw [vq32 h1 h2 hok] at e32
  refine ⟨M32, w32, ?_, q32, f0.tr (f1.tr (f2.tr (f3.tr (f4.tr (f5.tr (f6.tr (f7.tr (f8.tr (f9.tr (f10.tr (f11.tr (f12.tr (f13.tr (f14.tr (f15.tr (f16.tr (f17.tr (f18.tr (f19.tr (f20.tr (f21.tr (f22.tr (f23.tr (f24.tr (f25.tr (f26.tr (f27.tr (f28.tr (f29.tr (f30.tr (f31.tr f32))))))))))))))))))))))))))))))), u0.tr (u1.tr (u2.tr (u3.tr (u4.tr (u5.tr (u6.tr (u7.tr (u8.tr (u9.tr (u10.tr (u11.tr (u12.tr (u13.tr (u14.tr (u15.tr (u16.tr (u17.tr (u18.tr (u19.tr (u20.tr (u21.tr (u22.tr (u23.tr (u24.tr (u25.tr (u26.tr (u27.tr (u28.tr (u29.tr (u30.tr (u31.tr u32 (Nat.le_refl _)) (Nat.le_refl _)) (Nat.le_refl _)) (Nat.le_refl _)) (Nat.le_refl _)) (Nat.le_refl _)) (Nat.le_refl _)) (Nat.le_refl _)) (Nat.le_refl _)) (Nat.le_refl _)) (Nat.le_refl _)) (Nat.le_refl _)) (Nat.le_refl _)) (Nat.le_refl _)) (Nat.le_refl _)) (Nat.le_refl _)) (Nat.le_refl _)) (Nat.le_refl _)) (Nat.le_refl _)) (Nat.le_refl _)) (Nat.le_refl _)) (Nat.le_refl _)) (Nat.le_refl _)) (Nat.le_refl _)) (Nat.le_refl _)) (Nat.le_refl _)) (Nat.le_refl _)) (Nat.le_refl _)) (Nat.le_refl _)) (Nat.le_refl _)) (Nat.le_refl _)) (Nat.le_refl _)⟩
  rw [b154_382, if_neg (by decide), show am_ev (d + 11) 123 _ _ _ = _ from e0]
  simp only [am_cb_i, am_cb_e, Option.toList_some, Option.toList_none, List.cons_append, List.nil_append]
  rw [b154_396, if_pos rfl, show am_ev (d + 11) 123 _ _ _ = _ from e1]
  simp only [am_cb_i, am_cb_e, Option.toList_some, Option.toList_none, List.cons_append, List.nil_append]
  rw [b154_409, if_pos rfl, show am_ev (d + 11) 123 _ _ _ = _ from e2]
  simp only [am_cb_i, am_cb_e, Option.toList_some, Option.toList_none, List.cons_append, List.nil_append]
  rw [b154_421, if_pos rfl, show am_ev (d + 11) 124 _ _ _ = _ from e3]
  simp only [am_cb_i, am_cb_e, Option.toList_some, Option.toList_none, List.cons_append, List.nil_append]
  rw [b154_436, if_pos rfl, show am_ev (d + 11) 124 _ _ _ = _ from e4]
  simp only [am_cb_i, am_cb_e, Option.toList_some, Option.toList_none, List.cons_append, List.nil_append]
  rw [b154_448, if_pos rfl, show am_ev (d + 11) 125 _ _ _ = _ from e5]
  simp only [am_cb_i, am_cb_e, Option.toList_some, Option.toList_none, List.cons_append, List.nil_append]
  rw [b154_460, if_pos rfl, show am_ev (d + 11) 125 _ _ _ = _ from e6]
  simp only [am_cb_i, am_cb_e, Option.toList_some, Option.toList_none, List.cons_append, List.nil_append]
  rw [b154_471, if_pos rfl, show am_ev (d + 11) 126 _ _ _ = _ from e7]
  simp only [am_cb_i, am_cb_e, Option.toList_some, Option.toList_none, List.cons_append, List.nil_append]
  rw [b154_485, if_pos rfl, show am_ev (d + 11) 126 _ _ _ = _ from e8]
  simp only [am_cb_i, am_cb_e, Option.toList_some, Option.toList_none, List.cons_append, List.nil_append]
  rw [b154_498, if_pos rfl, show am_ev (d + 11) 126 _ _ _ = _ from e9]
  simp only [am_cb_i, am_cb_e, Option.toList_some, Option.toList_none, List.cons_append, List.nil_append]
  rw [b154_510, if_pos rfl, show am_ev (d + 11) 127 _ _ _ = _ from e10]
  simp only [am_cb_i, am_cb_e, Option.toList_some, Option.toList_none, List.cons_append, List.nil_append]
  rw [b154_523, if_pos rfl, show am_ev (d + 11) 127 _ _ _ = _ from e11]
  simp only [am_cb_i, am_cb_e, Option.toList_some, Option.toList_none, List.cons_append, List.nil_append]
  rw [b154_536, if_pos rfl, show am_ev (d + 11) 127 _ _ _ = _ from e12]
  simp only [am_cb_i, am_cb_e, Option.toList_some, Option.toList_none, List.cons_append, List.nil_append]
  rw [b154_548, if_pos rfl, show am_ev (d + 11) 128 _ _ _ = _ from e13]
  simp only [am_cb_i, am_cb_e, Option.toList_some, Option.toList_none, List.cons_append, List.nil_append]
  rw [b154_560, if_pos rfl, show am_ev (d + 11) 129 _ _ _ = _ from e14]
  simp only [am_cb_i, am_cb_e, Option.toList_some, Option.toList_none, List.cons_append, List.nil_append]
  rw [b154_572, if_pos rfl, show am_ev (d + 11) 129 _ _ _ = _ from e15]
  simp only [am_cb_i, am_cb_e, Option.toList_some, Option.toList_none, List.cons_append, List.nil_append]
  rw [b154_585, if_pos rfl, show am_ev (d + 11) 129 _ _ _ = _ from e16]
  simp only [am_cb_i, am_cb_e, Option.toList_some, Option.toList_none, List.cons_append, List.nil_append]
  rw [b154_597, if_pos rfl, show am_ev (d + 11) 130 _ _ _ = _ from e17]
  simp only [am_cb_i, am_cb_e, Option.toList_some, Option.toList_none, List.cons_append, List.nil_append]
  rw [b154_609, if_pos rfl, show am_ev (d + 11) 131 _ _ _ = _ from e18]
  simp only [am_cb_i, am_cb_e, Option.toList_some, Option.toList_none, List.cons_append, List.nil_append]
  rw [b154_621, if_pos rfl, show am_ev (d + 11) 146 _ _ _ = _ from e19]
  simp only [am_cb_i, am_cb_e, Option.toList_some, Option.toList_none, List.cons_append, List.nil_append]
  rw [b154_633, if_pos rfl, show am_ev (d + 11) 132 _ _ _ = _ from e20]
  simp only [am_cb_i, am_cb_e, Option.toList_some, Option.toList_none, List.cons_append, List.nil_append]
  rw [b154_647, if_pos rfl, show am_ev (d + 11) 132 _ _ _ = _ from e21]
  simp only [am_cb_i, am_cb_e, Option.toList_some, Option.toList_none, List.cons_append, List.nil_append]
  rw [b154_661, if_pos rfl, show am_ev (d + 11) 132 _ _ _ = _ from e22]
  simp only [am_cb_i, am_cb_e, Option.toList_some, Option.toList_none, List.cons_append, List.nil_append]
  rw [b154_673, if_pos rfl, show am_ev (d + 11) 133 _ _ _ = _ from e23]
  simp only [am_cb_i, am_cb_e, Option.toList_some, Option.toList_none, List.cons_append, List.nil_append]
  rw [b154_685, if_pos rfl, show am_ev (d + 11) 134 _ _ _ = _ from e24]
  simp only [am_cb_i, am_cb_e, Option.toList_some, Option.toList_none, List.cons_append, List.nil_append]
  rw [b154_696, if_pos rfl, show am_ev (d + 11) 135 _ _ _ = _ from e25]
  simp only [am_cb_i, am_cb_e, Option.toList_some, Option.toList_none, List.cons_append, List.nil_append]
  rw [b154_708, if_pos rfl, show am_ev (d + 11) 138 _ _ _ = _ from e26]
  simp only [am_cb_i, am_cb_e, Option.toList_some, Option.toList_none, List.cons_append, List.nil_append]
  rw [b154_719, if_pos rfl, show am_ev (d + 11) 138 _ _ _ = _ from e27]
  simp only [am_cb_i, am_cb_e, Option.toList_some, Option.toList_none, List.cons_append, List.nil_append]
  rw [b154_730, if_pos rfl, show am_ev (d + 11) 139 _ _ _ = _ from e28]
  simp only [am_cb_i, am_cb_e, Option.toList_some, Option.toList_none, List.cons_append, List.nil_append]
  rw [b154_742, if_pos rfl, show am_ev (d + 11) 140 _ _ _ = _ from e29]
  simp only [am_cb_i, am_cb_e, Option.toList_some, Option.toList_none, List.cons_append, List.nil_append]
  rw [b154_753, if_pos rfl, show am_ev (d + 11) 140 _ _ _ = _ from e30]
  simp only [am_cb_i, am_cb_e, Option.toList_some, Option.toList_none, List.cons_append, List.nil_append]
  rw [b154_765, if_pos rfl, show am_ev (d + 11) 143 _ _ _ = _ from e31]
  simp only [am_cb_i, am_cb_e, Option.toList_some, Option.toList_none, List.cons_append, List.nil_append]
  rw [b154_777, if_pos rfl, show am_ev (d + 11) 143 _ _ _ = _ from e32]
  simp only [am_cb_i, am_cb_e, Option.toList_some, Option.toList_none, List.cons_append, List.nil_append]
  rw [b154_788, if_pos rfl]
end Kre
