/-! REFUSED QUESTIONS -/
section Kre
variable {d B : Nat} {M : am_M} {a : Nat → Nat} {w : am_W4} {hs : List (Nat → Nat)} {sv : Option (Nat → Nat)} {tx ln : List Int32} {R : Int32 × Int32 × Int32} {e : Int32} {x y z : Int32}
theorem rB0 {x1 : Int64} (h1 : a 1 = 5) (h2 : a 2 = 4) (hB0 : 1000 ≤ B) (hB : B < 1070000000) (hB2 : B < 1073741824) (hok : ml_ok B a) (h : lS a hs sv tx R e M) : ∃ M' w', am_rn (am_ev (d + 11)) 154 382 [some (am_P (3, 0, 0)), some (.inl (.long x1)), none, some (am_I (nI 5)), some (am_I (nI 4)), none] [am_I (nI 1)] M (am_Z w) = am_rn (am_ev (d + 11)) 154 460 [some (am_P (3, 0, 0)), some (.inl (.long x1)), none, some (am_I (nI 5)), some (am_I (nI 4)), some (am_I (nI 1))] [am_I (-1001 : Int32)] M' (am_Z w') ∧ lS a hs sv tx R e M' ∧ clF M M' ∧ wle 6 w w' := by
  obtain ⟨M0, w0, e0, q0, f0, u0⟩ := d123 (d := d) (w := w) (x := (nI 5)) (y := (nI 9)) hB2 hok h
  rw [vq0 h1 h2 hok] at e0
  obtain ⟨M1, w1, e1, q1, f1, u1⟩ := d123 (d := d) (w := w0) (x := (nI 0)) (y := (nI 8)) hB2 hok q0
  rw [vq1 h1 h2 hok] at e1
  obtain ⟨M2, w2, e2, q2, f2, u2⟩ := d123 (d := d) (w := w1) (x := (nI 0)) (y := (-1 : Int32)) hB2 hok q1
  rw [vq2 h1 h2 hok] at e2
  obtain ⟨M3, w3, e3, q3, f3, u3⟩ := d124 (d := d) (w := w2) (x := (nI 5 - nI 1)) (y := (nI 9)) hok q2
  rw [vq3 h1 h2 hok] at e3
  obtain ⟨M4, w4, e4, q4, f4, u4⟩ := d124 (d := d) (w := w3) (x := (nI 0)) (y := (nI 2)) hok q3
  rw [vq4 h1 h2 hok] at e4
  obtain ⟨M5, w5, e5, q5, f5, u5⟩ := d125 (d := d) (w := w4) (x := (nI 9))  q4
  rw [vq5 h1 h2 hok] at e5
  refine ⟨M5, w5, ?_, q5, f0.tr (f1.tr (f2.tr (f3.tr (f4.tr f5)))), (u0.tr (u1.tr (u2.tr (u3.tr (u4.tr u5 (Nat.le_refl _)) (Nat.le_refl _)) (Nat.le_refl _)) (Nat.le_refl _)) (Nat.le_refl _)).mono (by decide)⟩
  rw [b154_382, if_neg (by decide), show am_ev (d + 11) 123 _ _ _ = _ from e0]
  simp only [am_cb_i, am_cb_e, Option.toList_some, Option.toList_none, List.cons_append, List.nil_append]
  rw [b154_396, if_pos rfl, show am_ev (d + 11) 123 _ _ _ = _ from e1]
  simp only [am_cb_i, am_cb_e, Option.toList_some, Option.toList_none, List.cons_append, List.nil_append]
  rw [b154_409, if_pos rfl, show am_ev (d + 11) 123 _ _ _ = _ from e2]
  simp only [am_cb_i, am_cb_e, Option.toList_some, Option.toList_none, List.cons_append, List.nil_append]
  rw [b154_421, if_pos rfl, show am_ev (d + 11) 124 _ _ _ = _ from e3]
  simp only [am_cb_i, am_cb_e, Option.toList_some, Option.toList_none, List.cons_append, List.nil_append]
  rw [b154_436, if_pos rfl, show am_ev (d + 11) 124 _ _ _ = _ from e4]
  simp only [am_cb_i, am_cb_e, Option.toList_some, Option.toList_none, List.cons_append, List.nil_append]
  rw [b154_448, if_pos rfl, show am_ev (d + 11) 125 _ _ _ = _ from e5]
  simp only [am_cb_i, am_cb_e, Option.toList_some, Option.toList_none, List.cons_append, List.nil_append]
theorem rB1 {x1 : Int64} (h1 : a 1 = 5) (h2 : a 2 = 4) (hB0 : 1000 ≤ B) (hB : B < 1070000000) (hB2 : B < 1073741824) (hok : ml_ok B a) (h : lS a hs sv tx R e M) : ∃ M' w', am_rn (am_ev (d + 11)) 154 460 [some (am_P (3, 0, 0)), some (.inl (.long x1)), none, some (am_I (nI 5)), some (am_I (nI 4)), some (am_I (nI 1))] [am_I (-1001 : Int32)] M (am_Z w) = am_rn (am_ev (d + 11)) 154 536 [some (am_P (3, 0, 0)), some (.inl (.long x1)), none, some (am_I (nI 5)), some (am_I (nI 4)), some (am_I (nI 1))] [am_I (-1001 : Int32)] M' (am_Z w') ∧ lS a hs sv tx R e M' ∧ clF M M' ∧ wle 6 w w' := by
  obtain ⟨M6, w6, e6, q6, f6, u6⟩ := d125 (d := d) (w := w) (x := (nI 0))  h
  rw [vq6 h1 h2 hok] at e6
  obtain ⟨M7, w7, e7, q7, f7, u7⟩ := d126 (d := d) (w := w6) (x := (nI 4)) (y := (nI 9)) hok q6
  rw [vq7 h1 h2 hok] at e7
  obtain ⟨M8, w8, e8, q8, f8, u8⟩ := d126 (d := d) (w := w7) (x := (nI 0)) (y := (nI 9)) hok q7
  rw [vq8 h1 h2 hok] at e8
  obtain ⟨M9, w9, e9, q9, f9, u9⟩ := d126 (d := d) (w := w8) (x := (nI 0)) (y := (-1 : Int32)) hok q8
  rw [vq9 h1 h2 hok] at e9
  obtain ⟨M10, w10, e10, q10, f10, u10⟩ := d127 (d := d) (w := w9) (x := (nI 4)) (y := (nI 0)) hok q9
  rw [vq10 h1 h2 hok] at e10
  obtain ⟨M11, w11, e11, q11, f11, u11⟩ := d127 (d := d) (w := w10) (x := (nI 0)) (y := (nI 8)) hok q10
  rw [vq11 h1 h2 hok] at e11
  refine ⟨M11, w11, ?_, q11, f6.tr (f7.tr (f8.tr (f9.tr (f10.tr f11)))), (u6.tr (u7.tr (u8.tr (u9.tr (u10.tr u11 (Nat.le_refl _)) (Nat.le_refl _)) (Nat.le_refl _)) (Nat.le_refl _)) (Nat.le_refl _)).mono (by decide)⟩
  rw [b154_460, if_pos rfl, show am_ev (d + 11) 125 _ _ _ = _ from e6]
  simp only [am_cb_i, am_cb_e, Option.toList_some, Option.toList_none, List.cons_append, List.nil_append]
  rw [b154_471, if_pos rfl, show am_ev (d + 11) 126 _ _ _ = _ from e7]
  simp only [am_cb_i, am_cb_e, Option.toList_some, Option.toList_none, List.cons_append, List.nil_append]
  rw [b154_485, if_pos rfl, show am_ev (d + 11) 126 _ _ _ = _ from e8]
  simp only [am_cb_i, am_cb_e, Option.toList_some, Option.toList_none, List.cons_append, List.nil_append]
  rw [b154_498, if_pos rfl, show am_ev (d + 11) 126 _ _ _ = _ from e9]
  simp only [am_cb_i, am_cb_e, Option.toList_some, Option.toList_none, List.cons_append, List.nil_append]
  rw [b154_510, if_pos rfl, show am_ev (d + 11) 127 _ _ _ = _ from e10]
  simp only [am_cb_i, am_cb_e, Option.toList_some, Option.toList_none, List.cons_append, List.nil_append]
  rw [b154_523, if_pos rfl, show am_ev (d + 11) 127 _ _ _ = _ from e11]
  simp only [am_cb_i, am_cb_e, Option.toList_some, Option.toList_none, List.cons_append, List.nil_append]
theorem rB2 {x1 : Int64} (h1 : a 1 = 5) (h2 : a 2 = 4) (hB0 : 1000 ≤ B) (hB : B < 1070000000) (hB2 : B < 1073741824) (hok : ml_ok B a) (h : lS a hs sv tx R e M) : ∃ M' w', am_rn (am_ev (d + 11)) 154 536 [some (am_P (3, 0, 0)), some (.inl (.long x1)), none, some (am_I (nI 5)), some (am_I (nI 4)), some (am_I (nI 1))] [am_I (-1001 : Int32)] M (am_Z w) = am_rn (am_ev (d + 11)) 154 609 [some (am_P (3, 0, 0)), some (.inl (.long x1)), none, some (am_I (nI 5)), some (am_I (nI 4)), some (am_I (nI 1))] [am_I (-1001 : Int32)] M' (am_Z w') ∧ lS a hs sv tx R e M' ∧ clF M M' ∧ wle 6 w w' := by
  obtain ⟨M12, w12, e12, q12, f12, u12⟩ := d127 (d := d) (w := w) (x := (nI 0)) (y := (-1 : Int32)) hok h
  rw [vq12 h1 h2 hok] at e12
  obtain ⟨M13, w13, e13, q13, f13, u13⟩ := d128 (d := d) (w := w12) (x := (nI 4)) hok q12
  rw [vq13 h1 h2 hok] at e13
  obtain ⟨M14, w14, e14, q14, f14, u14⟩ := d129 (d := d) (w := w13) (x := (nI 5)) (y := (nI 0)) hok q13
  rw [vq14 h1 h2 hok] at e14
  obtain ⟨M15, w15, e15, q15, f15, u15⟩ := d129 (d := d) (w := w14) (x := (nI 0)) (y := (nI 16)) hok q14
  rw [vq15 h1 h2 hok] at e15
  obtain ⟨M16, w16, e16, q16, f16, u16⟩ := d129 (d := d) (w := w15) (x := (nI 0)) (y := (-1 : Int32)) hok q15
  rw [vq16 h1 h2 hok] at e16
  obtain ⟨M17, w17, e17, q17, f17, u17⟩ := d130 (d := d) (w := w16) (x := (nI 16)) hok q16
  rw [vq17 h1 h2 hok] at e17
  refine ⟨M17, w17, ?_, q17, f12.tr (f13.tr (f14.tr (f15.tr (f16.tr f17)))), (u12.tr (u13.tr (u14.tr (u15.tr (u16.tr u17 (Nat.le_refl _)) (Nat.le_refl _)) (Nat.le_refl _)) (Nat.le_refl _)) (Nat.le_refl _)).mono (by decide)⟩
  rw [b154_536, if_pos rfl, show am_ev (d + 11) 127 _ _ _ = _ from e12]
  simp only [am_cb_i, am_cb_e, Option.toList_some, Option.toList_none, List.cons_append, List.nil_append]
  rw [b154_548, if_pos rfl, show am_ev (d + 11) 128 _ _ _ = _ from e13]
  simp only [am_cb_i, am_cb_e, Option.toList_some, Option.toList_none, List.cons_append, List.nil_append]
  rw [b154_560, if_pos rfl, show am_ev (d + 11) 129 _ _ _ = _ from e14]
  simp only [am_cb_i, am_cb_e, Option.toList_some, Option.toList_none, List.cons_append, List.nil_append]
  rw [b154_572, if_pos rfl, show am_ev (d + 11) 129 _ _ _ = _ from e15]
  simp only [am_cb_i, am_cb_e, Option.toList_some, Option.toList_none, List.cons_append, List.nil_append]
  rw [b154_585, if_pos rfl, show am_ev (d + 11) 129 _ _ _ = _ from e16]
  simp only [am_cb_i, am_cb_e, Option.toList_some, Option.toList_none, List.cons_append, List.nil_append]
  rw [b154_597, if_pos rfl, show am_ev (d + 11) 130 _ _ _ = _ from e17]
  simp only [am_cb_i, am_cb_e, Option.toList_some, Option.toList_none, List.cons_append, List.nil_append]
theorem rB3 {x1 : Int64} (h1 : a 1 = 5) (h2 : a 2 = 4) (hB0 : 1000 ≤ B) (hB : B < 1070000000) (hB2 : B < 1073741824) (hok : ml_ok B a) (h : lS a hs sv tx R e M) : ∃ M' w', am_rn (am_ev (d + 11)) 154 609 [some (am_P (3, 0, 0)), some (.inl (.long x1)), none, some (am_I (nI 5)), some (am_I (nI 4)), some (am_I (nI 1))] [am_I (-1001 : Int32)] M (am_Z w) = am_rn (am_ev (d + 11)) 154 685 [some (am_P (3, 0, 0)), some (.inl (.long x1)), none, some (am_I (nI 5)), some (am_I (nI 4)), some (am_I (nI 1))] [am_I (-1001 : Int32)] M' (am_Z w') ∧ lS a hs sv tx R e M' ∧ clF M M' ∧ wle 6 w w' := by
  obtain ⟨M18, w18, e18, q18, f18, u18⟩ := d131 (d := d) (w := w) (x := (nI 5)) (y := (nI 1)) hok h
  rw [vq18 h1 h2 hok] at e18
  obtain ⟨M19, w19, e19, q19, f19, u19⟩ := d146 (d := d) (w := w18) (x := (-1 : Int32)) (y := (nI 1)) hok q18
  rw [vq19 h1 h2 hok] at e19
  obtain ⟨M20, w20, e20, q20, f20, u20⟩ := d132 (d := d) (w := w19) (x := (nI 5 - nI 1)) (y := (nI 0)) hB2 hok q19
  rw [vq20 h1 h2 hok] at e20
  obtain ⟨M21, w21, e21, q21, f21, u21⟩ := d132 (d := d) (w := w20) (x := (nI 0)) (y := (nI 201)) hB2 hok q20
  rw [vq21 h1 h2 hok] at e21
  obtain ⟨M22, w22, e22, q22, f22, u22⟩ := d132 (d := d) (w := w21) (x := (nI 0)) (y := (-1 : Int32)) hB2 hok q21
  rw [vq22 h1 h2 hok] at e22
  obtain ⟨M23, w23, e23, q23, f23, u23⟩ := d133 (d := d) (w := w22) (x := (nI 4)) hB0 hB hok q22
  rw [vq23 h1 h2 hok] at e23
  refine ⟨M23, w23, ?_, q23, f18.tr (f19.tr (f20.tr (f21.tr (f22.tr f23)))), (u18.tr (u19.tr (u20.tr (u21.tr (u22.tr u23 (Nat.le_refl _)) (Nat.le_refl _)) (Nat.le_refl _)) (Nat.le_refl _)) (Nat.le_refl _)).mono (by decide)⟩
  rw [b154_609, if_pos rfl, show am_ev (d + 11) 131 _ _ _ = _ from e18]
  simp only [am_cb_i, am_cb_e, Option.toList_some, Option.toList_none, List.cons_append, List.nil_append]
  rw [b154_621, if_pos rfl, show am_ev (d + 11) 146 _ _ _ = _ from e19]
  simp only [am_cb_i, am_cb_e, Option.toList_some, Option.toList_none, List.cons_append, List.nil_append]
  rw [b154_633, if_pos rfl, show am_ev (d + 11) 132 _ _ _ = _ from e20]
  simp only [am_cb_i, am_cb_e, Option.toList_some, Option.toList_none, List.cons_append, List.nil_append]
  rw [b154_647, if_pos rfl, show am_ev (d + 11) 132 _ _ _ = _ from e21]
  simp only [am_cb_i, am_cb_e, Option.toList_some, Option.toList_none, List.cons_append, List.nil_append]
  rw [b154_661, if_pos rfl, show am_ev (d + 11) 132 _ _ _ = _ from e22]
  simp only [am_cb_i, am_cb_e, Option.toList_some, Option.toList_none, List.cons_append, List.nil_append]
  rw [b154_673, if_pos rfl, show am_ev (d + 11) 133 _ _ _ = _ from e23]
  simp only [am_cb_i, am_cb_e, Option.toList_some, Option.toList_none, List.cons_append, List.nil_append]
theorem rB4 {x1 : Int64} (h1 : a 1 = 5) (h2 : a 2 = 4) (hB0 : 1000 ≤ B) (hB : B < 1070000000) (hB2 : B < 1073741824) (hok : ml_ok B a) (h : lS a hs sv tx R e M) : ∃ M' w', am_rn (am_ev (d + 11)) 154 685 [some (am_P (3, 0, 0)), some (.inl (.long x1)), none, some (am_I (nI 5)), some (am_I (nI 4)), some (am_I (nI 1))] [am_I (-1001 : Int32)] M (am_Z w) = am_rn (am_ev (d + 11)) 154 753 [some (am_P (3, 0, 0)), some (.inl (.long x1)), none, some (am_I (nI 5)), some (am_I (nI 4)), some (am_I (nI 1))] [am_I (-1001 : Int32)] M' (am_Z w') ∧ lS a hs sv tx R e M' ∧ clF M M' ∧ wle 6 w w' := by
  obtain ⟨M24, w24, e24, q24, f24, u24⟩ := d134 (d := d) (w := w) (x := (-1 : Int32)) hB0 hB hok h
  rw [vq24 h1 h2 hok] at e24
  obtain ⟨M25, w25, e25, q25, f25, u25⟩ := d135 (d := d) (w := w24) (x := (nI 16)) hB2 hok q24
  rw [vq25 h1 h2 hok] at e25
  obtain ⟨M26, w26, e26, q26, f26, u26⟩ := d138 (d := d) (w := w25) (x := (-1 : Int32))  q25
  rw [vq26 h1 h2 hok] at e26
  obtain ⟨M27, w27, e27, q27, f27, u27⟩ := d138 (d := d) (w := w26) (x := (nI 3))  q26
  rw [vq27 h1 h2 hok] at e27
  obtain ⟨M28, w28, e28, q28, f28, u28⟩ := r139 (d := d + 7) (w := w27) hok (x := (nI 4)) (by rw [h2]; decide) q27
  obtain ⟨M29, w29, e29, q29, f29, u29⟩ := r140 (d := d + 9) (w := w28) (x := (-1 : Int32)) (fun k hk => fun q => absurd (am_in_iff.mp q).1 (by decide)) q28
  refine ⟨M29, w29, ?_, q29, f24.tr (f25.tr (f26.tr (f27.tr (f28.tr f29)))), (u24.tr (u25.tr (u26.tr (u27.tr (u28.tr u29 (Nat.le_refl _)) (Nat.le_refl _)) (Nat.le_refl _)) (Nat.le_refl _)) (Nat.le_refl _)).mono (by decide)⟩
  rw [b154_685, if_pos rfl, show am_ev (d + 11) 134 _ _ _ = _ from e24]
  simp only [am_cb_i, am_cb_e, Option.toList_some, Option.toList_none, List.cons_append, List.nil_append]
  rw [b154_696, if_pos rfl, show am_ev (d + 11) 135 _ _ _ = _ from e25]
  simp only [am_cb_i, am_cb_e, Option.toList_some, Option.toList_none, List.cons_append, List.nil_append]
  rw [b154_708, if_pos rfl, show am_ev (d + 11) 138 _ _ _ = _ from e26]
  simp only [am_cb_i, am_cb_e, Option.toList_some, Option.toList_none, List.cons_append, List.nil_append]
  rw [b154_719, if_pos rfl, show am_ev (d + 11) 138 _ _ _ = _ from e27]
  simp only [am_cb_i, am_cb_e, Option.toList_some, Option.toList_none, List.cons_append, List.nil_append]
  rw [b154_730, if_pos rfl, show am_ev (d + 11) 139 _ _ _ = _ from e28]
  simp only [am_cb_i, am_cb_e, Option.toList_some, Option.toList_none, List.cons_append, List.nil_append]
  rw [b154_742, if_pos rfl, show am_ev (d + 11) 140 _ _ _ = _ from e29]
  simp only [am_cb_i, am_cb_e, Option.toList_some, Option.toList_none, List.cons_append, List.nil_append]
theorem rB5 {x1 : Int64} (h1 : a 1 = 5) (h2 : a 2 = 4) (hB0 : 1000 ≤ B) (hB : B < 1070000000) (hB2 : B < 1073741824) (hok : ml_ok B a) (h : lS a hs sv tx R e M) : ∃ M' w', am_rn (am_ev (d + 11)) 154 753 [some (am_P (3, 0, 0)), some (.inl (.long x1)), none, some (am_I (nI 5)), some (am_I (nI 4)), some (am_I (nI 1))] [am_I (-1001 : Int32)] M (am_Z w) = am_rn (am_ev (d + 11)) 154 799 [some (am_P (3, 0, 0)), some (.inl (.long x1)), none, some (am_I (nI 5)), some (am_I (nI 4)), some (am_I (nI 1))] [am_I (nI 1)] M' (am_Z w') ∧ lS a hs sv tx R e M' ∧ clF M M' ∧ wle 6 w w' := by
  obtain ⟨M30, w30, e30, q30, f30, u30⟩ := r140 (d := d + 9) (w := w) (x := (nI 20)) (fun k hk => fun q => by have := (am_in_iff.mp q).2; rw [nI_clamp (by decide)] at this; omega) h
  obtain ⟨M31, w31, e31, q31, f31, u31⟩ := d143 (d := d) (w := w30) (x := (nI 12)) hB2 hok q30
  rw [vq31 h1 h2 hok] at e31
  obtain ⟨M32, w32, e32, q32, f32, u32⟩ := d143 (d := d) (w := w31) (x := (-1 : Int32)) hB2 hok q31
  rw [vq32 h1 h2 hok] at e32
  refine ⟨M32, w32, ?_, q32, f30.tr (f31.tr f32), (u30.tr (u31.tr u32 (Nat.le_refl _)) (Nat.le_refl _)).mono (by decide)⟩
  rw [b154_753, if_pos rfl, show am_ev (d + 11) 140 _ _ _ = _ from e30]
  simp only [am_cb_i, am_cb_e, Option.toList_some, Option.toList_none, List.cons_append, List.nil_append]
  rw [b154_765, if_pos rfl, show am_ev (d + 11) 143 _ _ _ = _ from e31]
  simp only [am_cb_i, am_cb_e, Option.toList_some, Option.toList_none, List.cons_append, List.nil_append]
  rw [b154_777, if_pos rfl, show am_ev (d + 11) 143 _ _ _ = _ from e32]
  simp only [am_cb_i, am_cb_e, Option.toList_some, Option.toList_none, List.cons_append, List.nil_append]
  rw [b154_788, if_pos rfl]
theorem rB {x1 : Int64} (h1 : a 1 = 5) (h2 : a 2 = 4) (hB0 : 1000 ≤ B) (hB : B < 1070000000) (hB2 : B < 1073741824) (hok : ml_ok B a) (h : lS a hs sv tx R e M) : ∃ M' w', am_rn (am_ev (d + 11)) 154 382 [some (am_P (3, 0, 0)), some (.inl (.long x1)), none, some (am_I (nI 5)), some (am_I (nI 4)), none] [am_I (nI 1)] M (am_Z w) = am_rn (am_ev (d + 11)) 154 799 [some (am_P (3, 0, 0)), some (.inl (.long x1)), none, some (am_I (nI 5)), some (am_I (nI 4)), some (am_I (nI 1))] [am_I (nI 1)] M' (am_Z w') ∧ lS a hs sv tx R e M' ∧ clF M M' ∧ wle 36 w w' := by
  obtain ⟨M0, w0, e0, q0, f0, u0⟩ := rB0 (d := d) (w := w) (x1 := x1) h1 h2 hB0 hB hB2 hok h
  obtain ⟨M1, w1, e1, q1, f1, u1⟩ := rB1 (d := d) (w := w0) (x1 := x1) h1 h2 hB0 hB hB2 hok q0
  obtain ⟨M2, w2, e2, q2, f2, u2⟩ := rB2 (d := d) (w := w1) (x1 := x1) h1 h2 hB0 hB hB2 hok q1
  obtain ⟨M3, w3, e3, q3, f3, u3⟩ := rB3 (d := d) (w := w2) (x1 := x1) h1 h2 hB0 hB hB2 hok q2
  obtain ⟨M4, w4, e4, q4, f4, u4⟩ := rB4 (d := d) (w := w3) (x1 := x1) h1 h2 hB0 hB hB2 hok q3
  obtain ⟨M5, w5, e5, q5, f5, u5⟩ := rB5 (d := d) (w := w4) (x1 := x1) h1 h2 hB0 hB hB2 hok q4
  exact ⟨M5, w5, e0.trans (e1.trans (e2.trans (e3.trans (e4.trans (e5))))), q5, f0.tr (f1.tr (f2.tr (f3.tr (f4.tr f5)))), u0.tr (u1.tr (u2.tr (u3.tr (u4.tr u5 (Nat.le_refl _)) (Nat.le_refl _)) (Nat.le_refl _)) (Nat.le_refl _)) (Nat.le_refl _)⟩
end Kre
