/-! THE SUM OF ALL ANSWERS -/
abbrev qvh : Qo → Int32 := qvl (fun v => if v = 0 then 0 else 1)
def gA (a : Nat → Nat) (k : Nat) (s : Int64) : Int64 := sm s (qv (q_all a 0 0 (nI k)))
def gC (a : Nat → Nat) (c : Nat) (s : Int64) : Int64 :=
  sm (sm (sm (sm (sm (sm (sm (bF (fun i s => sm s (qv (q_que a (nI c) (nI i)))) (ml_qn a c + 1) 0 (bF (fun k s => sm s (qv (q_cnv a (nI c) (nI k)))) 8 0 s)) (qv (q_str a (nI c) (nI 1)))) (qv (q_str a (nI c) (nI 0)))) (qvh (q_hrd a (nI c) (nI 1)))) (qvh (q_hrd a (nI c) (nI 0)))) (qv (q_rng a (nI c) (nI 0)))) (qv (q_rng a (nI c) (nI 1)))) (qv (q_wnd a (nI c) (nI 31)))
def gM (a : Nat → Nat) (m : Nat) (s : Int64) : Int64 :=
  bF (fun i s => sm s (qv (q_ltr (li a m) (nI i)))) (li a m).length 0 (sm (sm (sm (bF (fun k s => sm s (qv (q_sig a (nI m) (nI k)))) 8 0 (bF (fun k s => sm s (qv (q_msg a (nI m) (nI k)))) 9 0 s)) (qv (q_mas a (nI m)))) (qv (q_rnk a (nI m)))) (qv (q_arr a (nI m))))
def lF1 (a : Nat → Nat) : Int64 := bF (gM a) (a 2) 0 (bF (fun k s => sm s (qv (q_psl a (nI k)))) 8 1 (bF (gC a) (a 1) 0 (bF (gA a) 10 0 (31 * (me_D a).toInt64 + (me_F a).toInt32.toInt64))))
def lF2 (a : Nat → Nat) (s : Int64) : Int64 := if 0 < a 2 then sm (sm s (qv (q_tri a (nI (a 2) - nI 1) 0))) (qv (q_tri a (nI (a 2) - nI 1) 1)) else s
/-- the sum -/
def lF (a : Nat → Nat) : Int64 := sm (sm (lF2 a (lF1 a)) (qv (q_sm1 a))) (qv (q_sm2 a))
theorem q_all_0 {a : Nat → Nat} {hl tl k : Nat} (hk : k < 10) : q_all a hl tl (nI k) = q_all a 0 0 (nI k) := by
  have h10 : ¬ nI k = nI 10 := fun q => by have := (nI_eq (by omega) (by decide)).mp q; omega
  have h11 : ¬ nI k = nI 11 := fun q => by have := (nI_eq (by omega) (by decide)).mp q; omega
  unfold q_all
  simp only [if_neg h10, if_neg h11]
theorem qn16 {B : Nat} {a : Nat → Nat} {c : Nat} (hok : ml_ok B a) : ml_qn a c ≤ 16 := Nat.le_trans (nc_le _ _) hok.1.2.1
theorem me_Fk {B : Nat} {a : Nat → Nat} (hok : ml_ok B a) : me_F a &&& 0x7fffffff ≤ 0x7f800000 := by
  have b1 := hok.1.1
  unfold me_F
  split
  · decide
  · exact (fl_ok1 _ (me_e_lt hok) _ (by omega) (by omega)).1
theorem me_Dk {B : Nat} {a : Nat → Nat} (hok : ml_ok B a) : me_D a &&& 0x7fffffffffffffff ≤ 0x7ff0000000000000 := by
  have b2 := hok.1.2.1
  unfold me_D
  split
  · decide
  · rename_i h0
    have hp : 0 < me_s a := by
      rcases Nat.eq_zero_or_pos (me_s a) with z | z
      · have := (me_s_0 hok).mp z
        omega
      · exact z
    exact fl_ok2 _ (me_l_lt hok) _ (me_s_lt hok) hp
section Ksu
variable {d B : Nat} {M : am_M} {a : Nat → Nat} {w : am_W4} {hs : List (Nat → Nat)} {sv : Option (Nat → Nat)} {tx ln : List Int32} {R : Int32 × Int32 × Int32} {e : Int32} {x y : Int32}
theorem d123 (hB : B < 1073741824) (hok : ml_ok B a) (h : lS a hs sv tx R e M) : hR (lS a hs sv tx R e) M w 1 (am_ev (d + 11) 123 [am_P (3, 0, 0), am_I x, am_I y] M (am_Z w)) (am_I (qvl id (q_cnv a x y))) := a123 (d := d + 7) hB hok h
theorem d124 (hok : ml_ok B a) (h : lS a hs sv tx R e M) : hR (lS a hs sv tx R e) M w 1 (am_ev (d + 11) 124 [am_P (3, 0, 0), am_I x, am_I y] M (am_Z w)) (am_I (qvl id (q_rng a x y))) := a124 (d := d + 7) hok h
theorem d125 (h : lS a hs sv tx R e M) : hR (lS a hs sv tx R e) M w 1 (am_ev (d + 11) 125 [am_P (3, 0, 0), am_I x] M (am_Z w)) (am_I (qvl id (q_psl a x))) := a125 (d := d + 7)  h
theorem d126 (hok : ml_ok B a) (h : lS a hs sv tx R e M) : hR (lS a hs sv tx R e) M w 1 (am_ev (d + 11) 126 [am_P (3, 0, 0), am_I x, am_I y] M (am_Z w)) (am_I (qvl id (q_msg a x y))) := a126 (d := d + 7) hok h
theorem d127 (hok : ml_ok B a) (h : lS a hs sv tx R e M) : hR (lS a hs sv tx R e) M w 1 (am_ev (d + 11) 127 [am_P (3, 0, 0), am_I x, am_I y] M (am_Z w)) (am_I (qvl id (q_sig a x y))) := a127 (d := d + 7) hok h
theorem d128 (hok : ml_ok B a) (h : lS a hs sv tx R e M) : hR (lS a hs sv tx R e) M w 1 (am_ev (d + 11) 128 [am_P (3, 0, 0), am_I x] M (am_Z w)) (am_I (qvl id (q_mas a x))) := a128 (d := d + 7) hok h
theorem d129 (hok : ml_ok B a) (h : lS a hs sv tx R e M) : hR (lS a hs sv tx R e) M w 1 (am_ev (d + 11) 129 [am_P (3, 0, 0), am_I x, am_I y] M (am_Z w)) (am_I (qvl id (q_que a x y))) := a129 (d := d + 7) hok h
theorem d130 (hok : ml_ok B a) (h : lS a hs sv tx R e M) : hR (lS a hs sv tx R e) M w 1 (am_ev (d + 11) 130 [am_P (3, 0, 0), am_I x] M (am_Z w)) (am_I (qvl id (q_arr a x))) := a130 (d := d + 7) hok h
theorem d131 (hok : ml_ok B a) (h : lS a hs sv tx R e M) : hR (lS a hs sv tx R e) M w 1 (am_ev (d + 11) 131 [am_P (3, 0, 0), am_I x, am_I y] M (am_Z w)) (am_I (qvl id (q_str a x y))) := a131 (d := d + 7) hok h
theorem d132 (hB : B < 1073741824) (hok : ml_ok B a) (h : lS a hs sv tx R e M) : hR (lS a hs sv tx R e) M w 1 (am_ev (d + 11) 132 [am_P (3, 0, 0), am_I x, am_I y] M (am_Z w)) (am_I (qvl id (q_wnd a x y))) := a132 (d := d + 7) hB hok h
theorem d135 (hB : B < 1073741824) (hok : ml_ok B a) (h : lS a hs sv tx R e M) : hR (lS a hs sv tx R e) M w 1 (am_ev (d + 11) 135 [am_P (3, 0, 0), am_I x] M (am_Z w)) (am_I (qvl id (q_rnk a x))) := a135 (d := d + 6) hB hok h
theorem d143 (hB : B < 1073741824) (hok : ml_ok B a) (h : lS a hs sv tx R e M) : hR (lS a hs sv tx R e) M w 1 (am_ev (d + 11) 143 [am_P (3, 0, 0), am_I x] M (am_Z w)) (am_I (qvl id (q_all a hs.length tx.length x))) := a143 (d := d + 7) hB hok h
theorem d146 (hok : ml_ok B a) (h : lS a hs sv tx R e M) : hR (lS a hs sv tx R e) M w 1 (am_ev (d + 11) 146 [am_P (3, 0, 0), am_I x, am_I y] M (am_Z w)) (am_I (qvl (fun v => if v = 0 then 0 else 1) (q_hrd a x y))) := a146 (d := d + 7) hok h
theorem d133 (hB0 : 1000 ≤ B) (hB : B < 1070000000) (hok : ml_ok B a) (h : lS a hs sv tx R e M) : hR (lS a hs sv tx R e) M w 1 (am_ev (d + 11) 133 [am_P (3, 0, 0), am_I x] M (am_Z w)) (am_I (qvl id (q_tri a x 0))) := a133 (d := d + 3) hB0 hB hok h
theorem d134 (hB0 : 1000 ≤ B) (hB : B < 1070000000) (hok : ml_ok B a) (h : lS a hs sv tx R e M) : hR (lS a hs sv tx R e) M w 1 (am_ev (d + 11) 134 [am_P (3, 0, 0), am_I x] M (am_Z w)) (am_I (qvl id (q_tri a x 1))) := a134 (d := d + 3) hB0 hB hok h
theorem d95 (hok : ml_ok B a) (h : lS a hs sv tx R e M) : hR (lS a hs sv tx R e) M w 1 (am_ev (d + 11) 95 [am_P (3, 0, 0)] M (am_Z w)) (am_I (qvl id (q_sm1 a))) := a95 (d := d + 10) hok h
theorem d96 (hok : ml_ok B a) (h : lS a hs sv tx R e M) : hR (lS a hs sv tx R e) M w 1 (am_ev (d + 11) 96 [am_P (3, 0, 0)] M (am_Z w)) (am_I (qvl id (q_sm2 a))) := a96 (d := d + 9) hok h
theorem d141 (hok : ml_ok B a) (h : lS a hs sv tx R e M) : hR (lS a hs sv tx R e) M w 1 (am_ev (d + 11) 141 [am_P (3, 0, 0)] M (am_Z w)) (.inl (.float (me_F a))) := a141 (d := d + 9) hok h
theorem d142 (hok : ml_ok B a) (h : lS a hs sv tx R e M) : hR (lS a hs sv tx R e) M w 1 (am_ev (d + 11) 142 [am_P (3, 0, 0)] M (am_Z w)) (.inl (.double (me_D a))) := a142 (d := d + 7) hok h
theorem d140 (hl : lok ln) (hx : am_in x ln.length) (h : clS a hs sv tx R e ln M) : am_ev (d + 11) 140 [am_P (3, 0, 0), am_I x] M (am_Z w) = some (.inl (some (am_I (qv (q_ltr ln x)))), M, am_Z w) := a140 (d := d + 9) hl hx h
theorem d139 {m : Nat} (hok : ml_ok B a) (hm : m < a 2) (h : lS a hs sv tx R e M) : ∃ M', am_ev (d + 11) 139 [am_P (3, 0, 0), am_I (nI m)] M (am_Z w) = some (.inl (some (am_I (nI (li a m).length))), M', am_Z w) ∧ clS a hs sv tx R e (li a m) M' ∧ clF M M' ∧ lok (li a m) := a139 (d := d + 7) hok hm h
theorem s23 (hB : B < 1073741824) (hok : ml_ok B a) (h : lS a hs sv tx R e M) {s : Int64} : ∃ M' w', am_rn (am_ev (d + 11)) 152 23 [some (am_P (3, 0, 0)), some (.inl (.long s)), none, some (am_I (nI 0)), none, none] [] M (am_Z w) = am_rn (am_ev (d + 11)) 152 50 [some (am_P (3, 0, 0)), some (.inl (.long (bF (gA a) 10 0 s))), none, some (am_I (nI 0)), none, none] [] M' (am_Z w') ∧ lS a hs sv tx R e M' ∧ clF M M' ∧ wle 10 w w' := by
  obtain ⟨-, M', w', e1, q1, f1, u1⟩ := lp (τ := Unit) (Q := lS a hs sv tx R e) (K := 1) (n := 10) (f := fun x k _ M w => am_rn (am_ev (d + 11)) 152 23 [some (am_P (3, 0, 0)), some (.inl (.long x)), none, some (am_I (nI k)), none, none] [] M (am_Z w)) (g := gA a) (fun k x _ M w hk hQ => by
    obtain ⟨M1, w1, e1, q1, f1, u1⟩ := d143 (d := d) (w := w) (x := nI k) hB hok hQ
    refine ⟨(), M1, w1, ?_, q1, f1, u1⟩
    rw [b152_23, if_pos (nI_lt hk (by decide)), e1]
    simp only [am_cb_i, am_cb_e, Option.toList_some, Option.toList_none, List.cons_append, List.nil_append]
    rw [b152_39, nI_add, q_all_0 hk]
    rfl) 10 0 s () M w (by omega) h
  refine ⟨M', w', e1.trans ?_, q1, f1, u1⟩
  rw [b152_23, if_neg (nI_nlt (by decide) (by decide))]
theorem s62 {c : Nat} {s : Int64} (hB : B < 1073741824) (hok : ml_ok B a) (h : lS a hs sv tx R e M) : ∃ M' w', am_rn (am_ev (d + 11)) 152 62 [some (am_P (3, 0, 0)), some (.inl (.long s)), none, some (am_I (nI c)), some (am_I (nI 0)), none] [] M (am_Z w) = am_rn (am_ev (d + 11)) 152 93 [some (am_P (3, 0, 0)), some (.inl (.long (bF (fun k s => sm s (qv (q_cnv a (nI c) (nI k)))) 8 0 s))), none, some (am_I (nI c)), some (am_I (nI 0)), none] [] M' (am_Z w') ∧ (lS a hs sv tx R e) M' ∧ clF M M' ∧ wle 8 w w' := by
  obtain ⟨-, M', w', e1, q1, f1, u1⟩ := lp (τ := Unit) (Q := lS a hs sv tx R e) (K := 1) (n := 8) (f := fun x k _ M w => am_rn (am_ev (d + 11)) 152 62 [some (am_P (3, 0, 0)), some (.inl (.long x)), none, some (am_I (nI c)), some (am_I (nI k)), none] [] M (am_Z w)) (g := (fun k s => sm s (qv (q_cnv a (nI c) (nI k))))) (fun k x _ M w hk hQ => by
    obtain ⟨M1, w1, e1, q1, f1, u1⟩ := d123 (d := d) (w := w) (x := nI c) (y := nI k) hB hok hQ
    refine ⟨(), M1, w1, ?_, q1, f1, u1⟩
    rw [b152_62, if_pos (nI_lt hk (by decide)), e1]
    simp only [am_cb_i, am_cb_e, Option.toList_some, Option.toList_none, List.cons_append, List.nil_append]
    rw [b152_81, nI_add]
    rfl) 8 0 s () M w (by omega) h
  refine ⟨M', w', e1.trans ?_, q1, f1, u1.mono (by omega)⟩
  rw [b152_62, if_neg (nI_nlt (by decide) (by decide))]
theorem qa2 {hl tl : Nat} : qvl id (q_all a hl tl (nI 2)) = nI (a 1) := by
  unfold q_all
  rw [if_neg (by decide), if_neg (by decide), if_pos rfl]
  rfl
theorem qa4 {hl tl : Nat} : qvl id (q_all a hl tl (nI 4)) = nI (a 2) := by
  unfold q_all
  rw [if_neg (by decide), if_neg (by decide), if_neg (by decide), if_neg (by decide), if_pos rfl]
  rfl
theorem qc4 {c : Nat} (hc : c < a 1) (h1 : a 1 ≤ 6) : qvl id (q_cnv a (nI c) (nI 4)) = nI (ml_qn a c) := by
  unfold q_cnv
  rw [if_pos (by rw [am_inT (by omega) hc]; trivial), cN_nI (by omega)]
  rfl
theorem s93 {c : Nat} {s : Int64} (hB : B < 1073741824) (hok : ml_ok B a) (hc : c < a 1) (h : lS a hs sv tx R e M) : ∃ M' w', am_rn (am_ev (d + 11)) 152 93 [some (am_P (3, 0, 0)), some (.inl (.long s)), none, some (am_I (nI c)), some (am_I (nI 0)), none] [] M (am_Z w) = am_rn (am_ev (d + 11)) 152 93 [some (am_P (3, 0, 0)), some (.inl (.long (bF (fun i s => sm s (qv (q_que a (nI c) (nI i)))) (ml_qn a c + 1) 0 s))), none, some (am_I (nI c)), some (am_I (nI (ml_qn a c + 1))), none] [] M' (am_Z w') ∧ (lS a hs sv tx R e) M' ∧ clF M M' ∧ wle 40 w w' := by
  have hq : ml_qn a c ≤ 16 := qn16 hok
  obtain ⟨-, M', w', e1, q1, f1, u1⟩ := lp (τ := Unit) (Q := lS a hs sv tx R e) (K := 2) (n := (ml_qn a c + 1)) (f := fun x k _ M w => am_rn (am_ev (d + 11)) 152 93 [some (am_P (3, 0, 0)), some (.inl (.long x)), none, some (am_I (nI c)), some (am_I (nI k)), none] [] M (am_Z w)) (g := (fun i s => sm s (qv (q_que a (nI c) (nI i))))) (fun k x _ M w hk hQ => by
    obtain ⟨M1, w1, e1, q1, f1, u1⟩ := d123 (d := d) (w := w) (x := nI c) (y := nI 4) hB hok hQ
    obtain ⟨M2, w2, e2, q2, f2, u2⟩ := d129 (d := d) (w := w1) (x := nI c) (y := nI k) hok q1
    refine ⟨(), M2, w2, ?_, q2, f1.tr f2, u1.tr u2 (by decide)⟩
    rw [b152_93, e1]
    simp only [am_cb_i, am_cb_e, Option.toList_some, Option.toList_none, List.cons_append, List.nil_append]
    rw [b152_101, qc4 hc hok.1.1, if_neg (nI_nlt (by omega) (by omega)), e2]
    simp only [am_cb_i, am_cb_e, Option.toList_some, Option.toList_none, List.cons_append, List.nil_append]
    rw [b152_116, nI_add]
    rfl) (ml_qn a c + 1) 0 s () M w (by omega) h
  refine ⟨M', w', e1.trans ?_, q1, f1, u1.mono (by omega)⟩
  rfl
theorem sC {c : Nat} {s : Int64} {x4 : Option am_V} (hB : B < 1073741824) (hok : ml_ok B a) (hc : c < a 1) (h : lS a hs sv tx R e M) : ∃ x4' M' w', am_rn (am_ev (d + 11)) 152 50 [some (am_P (3, 0, 0)), some (.inl (.long s)), none, some (am_I (nI c)), x4, none] [] M (am_Z w) = am_rn (am_ev (d + 11)) 152 50 [some (am_P (3, 0, 0)), some (.inl (.long (gC a c s))), none, some (am_I (nI (c + 1))), x4', none] [] M' (am_Z w') ∧ lS a hs sv tx R e M' ∧ clF M M' ∧ wle 60 w w' := by
  have hq : ml_qn a c ≤ 16 := qn16 hok
  have b1 := hok.1.1
  obtain ⟨M0, w0, e0, q0, f0, u0⟩ := d143 (d := d) (w := w) (x := nI 2) hB hok h
  obtain ⟨M1, w1, e1, q1, f1, u1⟩ := s62 (d := d) (w := w0) (c := c) (s := s) hB hok q0
  obtain ⟨M2, w2, e2, q2, f2, u2⟩ := s93 (d := d) (w := w1) (c := c) (s := bF (fun k s => sm s (qv (q_cnv a (nI c) (nI k)))) 8 0 s) hB hok hc q1
  obtain ⟨M3, w3, e3, q3, f3, u3⟩ := d123 (d := d) (w := w2) (x := nI c) (y := nI 4) hB hok q2
  obtain ⟨M4, w4, e4, q4, f4, u4⟩ := d131 (d := d) (w := w3) (x := nI c) (y := nI 1) hok q3
  obtain ⟨M5, w5, e5, q5, f5, u5⟩ := d131 (d := d) (w := w4) (x := nI c) (y := nI 0) hok q4
  obtain ⟨M6, w6, e6, q6, f6, u6⟩ := d146 (d := d) (w := w5) (x := nI c) (y := nI 1) hok q5
  obtain ⟨M7, w7, e7, q7, f7, u7⟩ := d146 (d := d) (w := w6) (x := nI c) (y := nI 0) hok q6
  obtain ⟨M8, w8, e8, q8, f8, u8⟩ := d124 (d := d) (w := w7) (x := nI c) (y := nI 0) hok q7
  obtain ⟨M9, w9, e9, q9, f9, u9⟩ := d124 (d := d) (w := w8) (x := nI c) (y := nI 1) hok q8
  obtain ⟨Ma, wa, ea, qa, fa, ua⟩ := d132 (d := d) (w := w9) (x := nI c) (y := nI 31) hB hok q9
  refine ⟨some (am_I (nI (ml_qn a c + 1))), Ma, wa, ?_, qa, f0.tr (f1.tr (f2.tr (f3.tr (f4.tr (f5.tr (f6.tr (f7.tr (f8.tr (f9.tr fa))))))))), u0.tr (u1.tr (u2.tr (u3.tr (u4.tr (u5.tr (u6.tr (u7.tr (u8.tr (u9.tr ua (Nat.le_refl _)) (Nat.le_refl _)) (Nat.le_refl _)) (Nat.le_refl _)) (Nat.le_refl _)) (Nat.le_refl _)) (Nat.le_refl _)) (Nat.le_refl _)) (Nat.le_refl _)) (by decide)⟩
  rw [b152_50, e0]
  simp only [am_cb_i, am_cb_e, Option.toList_some, Option.toList_none, List.cons_append, List.nil_append]
  rw [b152_56, qa2, if_pos (nI_lt hc (by omega)), e1, e2, b152_93, e3]
  simp only [am_cb_i, am_cb_e, Option.toList_some, Option.toList_none, List.cons_append, List.nil_append]
  rw [b152_101, qc4 hc b1, if_pos (nI_lt (Nat.lt_succ_self _) (by omega)), e4]
  simp only [am_cb_i, am_cb_e, Option.toList_some, Option.toList_none, List.cons_append, List.nil_append]
  rw [b152_145, e5]
  simp only [am_cb_i, am_cb_e, Option.toList_some, Option.toList_none, List.cons_append, List.nil_append]
  rw [b152_154, e6]
  simp only [am_cb_i, am_cb_e, Option.toList_some, Option.toList_none, List.cons_append, List.nil_append]
  rw [b152_163, e7]
  simp only [am_cb_i, am_cb_e, Option.toList_some, Option.toList_none, List.cons_append, List.nil_append]
  rw [b152_172, e8]
  simp only [am_cb_i, am_cb_e, Option.toList_some, Option.toList_none, List.cons_append, List.nil_append]
  rw [b152_192, e9]
  simp only [am_cb_i, am_cb_e, Option.toList_some, Option.toList_none, List.cons_append, List.nil_append]
  rw [b152_201, ea]
  simp only [am_cb_i, am_cb_e, Option.toList_some, Option.toList_none, List.cons_append, List.nil_append]
  rw [b152_211, nI_add]
  rfl
theorem s50 {s : Int64} {x4 : Option am_V} (hB : B < 1073741824) (hok : ml_ok B a) (h : lS a hs sv tx R e M) : ∃ x4' M' w', am_rn (am_ev (d + 11)) 152 50 [some (am_P (3, 0, 0)), some (.inl (.long s)), none, some (am_I (nI 0)), x4, none] [] M (am_Z w) = am_rn (am_ev (d + 11)) 152 222 [some (am_P (3, 0, 0)), some (.inl (.long (bF (gC a) (a 1) 0 s))), none, some (am_I (nI 1)), x4', none] [] M' (am_Z w') ∧ lS a hs sv tx R e M' ∧ clF M M' ∧ wle 361 w w' := by
  have b1 := hok.1.1
  obtain ⟨x4', M', w', e1, q1, f1, u1⟩ := lp (τ := Option am_V) (Q := lS a hs sv tx R e) (K := 60) (n := a 1) (f := fun x k t M w => am_rn (am_ev (d + 11)) 152 50 [some (am_P (3, 0, 0)), some (.inl (.long x)), none, some (am_I (nI k)), t, none] [] M (am_Z w)) (g := gC a) (fun k x t M w hk hQ => sC hB hok hk hQ) (a 1) 0 s x4 M w (by omega) h
  obtain ⟨M0, w0, e0, q0, f0, u0⟩ := d143 (d := d) (w := w') (x := nI 2) hB hok q1
  refine ⟨x4', M0, w0, e1.trans ?_, q0, f1.tr f0, u1.tr u0 (by omega)⟩
  rw [b152_50, e0]
  simp only [am_cb_i, am_cb_e, Option.toList_some, Option.toList_none, List.cons_append, List.nil_append]
  rw [b152_56, qa2, if_neg (nI_nlt (Nat.le_refl _) (by omega))]
theorem s222 {x4 : Option am_V} {s : Int64} (h : lS a hs sv tx R e M) : ∃ M' w', am_rn (am_ev (d + 11)) 152 222 [some (am_P (3, 0, 0)), some (.inl (.long s)), none, some (am_I (nI 1)), x4, none] [] M (am_Z w) = am_rn (am_ev (d + 11)) 152 249 [some (am_P (3, 0, 0)), some (.inl (.long (bF (fun k s => sm s (qv (q_psl a (nI k)))) 8 1 s))), none, some (am_I (nI 0)), x4, none] [] M' (am_Z w') ∧ (lS a hs sv tx R e) M' ∧ clF M M' ∧ wle 8 w w' := by
  obtain ⟨-, M', w', e1, q1, f1, u1⟩ := lp (τ := Unit) (Q := lS a hs sv tx R e) (K := 1) (n := 9) (f := fun x k _ M w => am_rn (am_ev (d + 11)) 152 222 [some (am_P (3, 0, 0)), some (.inl (.long x)), none, some (am_I (nI k)), x4, none] [] M (am_Z w)) (g := (fun k s => sm s (qv (q_psl a (nI k))))) (fun k x _ M w hk hQ => by
    obtain ⟨M1, w1, e1, q1, f1, u1⟩ := d125 (d := d) (w := w) (x := nI k) hQ
    refine ⟨(), M1, w1, ?_, q1, f1, u1⟩
    rw [b152_222, if_pos (nI_lt hk (by decide)), e1]
    simp only [am_cb_i, am_cb_e, Option.toList_some, Option.toList_none, List.cons_append, List.nil_append]
    rw [b152_238, nI_add]
    rfl) 8 1 s () M w (by omega) h
  refine ⟨M', w', e1.trans ?_, q1, f1, u1.mono (by omega)⟩
  rw [b152_222, if_neg (nI_nlt (by decide) (by decide))]
theorem s261 {m : Nat} {s : Int64} {x5 : Option am_V} (hok : ml_ok B a) (h : lS a hs sv tx R e M) : ∃ M' w', am_rn (am_ev (d + 11)) 152 261 [some (am_P (3, 0, 0)), some (.inl (.long s)), none, some (am_I (nI m)), some (am_I (nI 0)), x5] [] M (am_Z w) = am_rn (am_ev (d + 11)) 152 292 [some (am_P (3, 0, 0)), some (.inl (.long (bF (fun k s => sm s (qv (q_msg a (nI m) (nI k)))) 9 0 s))), none, some (am_I (nI m)), some (am_I (nI 0)), x5] [] M' (am_Z w') ∧ (lS a hs sv tx R e) M' ∧ clF M M' ∧ wle 9 w w' := by
  obtain ⟨-, M', w', e1, q1, f1, u1⟩ := lp (τ := Unit) (Q := lS a hs sv tx R e) (K := 1) (n := 9) (f := fun x k _ M w => am_rn (am_ev (d + 11)) 152 261 [some (am_P (3, 0, 0)), some (.inl (.long x)), none, some (am_I (nI m)), some (am_I (nI k)), x5] [] M (am_Z w)) (g := (fun k s => sm s (qv (q_msg a (nI m) (nI k))))) (fun k x _ M w hk hQ => by
    obtain ⟨M1, w1, e1, q1, f1, u1⟩ := d126 (d := d) (w := w) (x := nI m) (y := nI k) hok hQ
    refine ⟨(), M1, w1, ?_, q1, f1, u1⟩
    rw [b152_261, if_pos (nI_lt hk (by decide)), e1]
    simp only [am_cb_i, am_cb_e, Option.toList_some, Option.toList_none, List.cons_append, List.nil_append]
    rw [b152_280, nI_add]
    rfl) 9 0 s () M w (by omega) h
  refine ⟨M', w', e1.trans ?_, q1, f1, u1.mono (by omega)⟩
  rw [b152_261, if_neg (nI_nlt (by decide) (by decide))]
theorem s292 {m : Nat} {s : Int64} {x5 : Option am_V} (hok : ml_ok B a) (h : lS a hs sv tx R e M) : ∃ M' w', am_rn (am_ev (d + 11)) 152 292 [some (am_P (3, 0, 0)), some (.inl (.long s)), none, some (am_I (nI m)), some (am_I (nI 0)), x5] [] M (am_Z w) = am_rn (am_ev (d + 11)) 152 292 [some (am_P (3, 0, 0)), some (.inl (.long (bF (fun k s => sm s (qv (q_sig a (nI m) (nI k)))) 8 0 s))), none, some (am_I (nI m)), some (am_I (nI 8)), x5] [] M' (am_Z w') ∧ (lS a hs sv tx R e) M' ∧ clF M M' ∧ wle 8 w w' := by
  obtain ⟨-, M', w', e1, q1, f1, u1⟩ := lp (τ := Unit) (Q := lS a hs sv tx R e) (K := 1) (n := 8) (f := fun x k _ M w => am_rn (am_ev (d + 11)) 152 292 [some (am_P (3, 0, 0)), some (.inl (.long x)), none, some (am_I (nI m)), some (am_I (nI k)), x5] [] M (am_Z w)) (g := (fun k s => sm s (qv (q_sig a (nI m) (nI k))))) (fun k x _ M w hk hQ => by
    obtain ⟨M1, w1, e1, q1, f1, u1⟩ := d127 (d := d) (w := w) (x := nI m) (y := nI k) hok hQ
    refine ⟨(), M1, w1, ?_, q1, f1, u1⟩
    rw [b152_292, if_pos (nI_lt hk (by decide)), e1]
    simp only [am_cb_i, am_cb_e, Option.toList_some, Option.toList_none, List.cons_append, List.nil_append]
    rw [b152_311, nI_add]
    rfl) 8 0 s () M w (by omega) h
  refine ⟨M', w', e1.trans ?_, q1, f1, u1.mono (by omega)⟩
  rfl
theorem s365 {m : Nat} {s : Int64} (hl : lok (li a m)) (h : clS a hs sv tx R e (li a m) M) : ∃ M' w', am_rn (am_ev (d + 11)) 152 365 [some (am_P (3, 0, 0)), some (.inl (.long s)), none, some (am_I (nI m)), some (am_I (nI (li a m).length)), some (am_I (nI 0))] [] M (am_Z w) = am_rn (am_ev (d + 11)) 152 249 [some (am_P (3, 0, 0)), some (.inl (.long (bF (fun i s => sm s (qv (q_ltr (li a m) (nI i)))) (li a m).length 0 s))), none, some (am_I (nI (m + 1))), some (am_I (nI (li a m).length)), some (am_I (nI (li a m).length))] [] M' (am_Z w') ∧ (clS a hs sv tx R e (li a m)) M' ∧ clF M M' ∧ wle 0 w w' := by
  have hl14 := hl.1
  obtain ⟨-, M', w', e1, q1, f1, u1⟩ := lp (τ := Unit) (Q := clS a hs sv tx R e (li a m)) (K := 0) (n := (li a m).length) (f := fun x k _ M w => am_rn (am_ev (d + 11)) 152 365 [some (am_P (3, 0, 0)), some (.inl (.long x)), none, some (am_I (nI m)), some (am_I (nI (li a m).length)), some (am_I (nI k))] [] M (am_Z w)) (g := (fun i s => sm s (qv (q_ltr (li a m) (nI i))))) (fun k x _ M w hk hQ => by
    have e1 := d140 (d := d) (w := w) (x := nI k) hl (by rw [am_inT (by omega) hk]; trivial) hQ
    refine ⟨(), M, w, ?_, hQ, clF.rf M, wle.rf w⟩
    rw [b152_365, if_pos (nI_lt hk (by omega)), e1]
    simp only [am_cb_i, am_cb_e, Option.toList_some, Option.toList_none, List.cons_append, List.nil_append]
    rw [b152_383, nI_add]
    rfl) (li a m).length 0 s () M w (by omega) h
  refine ⟨M', w', e1.trans ?_, q1, f1, u1.mono (by omega)⟩
  rw [b152_365, if_neg (nI_nlt (Nat.le_refl _) (by omega)), nI_add]
theorem sM {m : Nat} {s : Int64} {x4 x5 : Option am_V} (hB : B < 1073741824) (hok : ml_ok B a) (hm : m < a 2) (h : lS a hs sv tx R e M) : ∃ x4' x5' M' w', am_rn (am_ev (d + 11)) 152 249 [some (am_P (3, 0, 0)), some (.inl (.long s)), none, some (am_I (nI m)), x4, x5] [] M (am_Z w) = am_rn (am_ev (d + 11)) 152 249 [some (am_P (3, 0, 0)), some (.inl (.long (gM a m s))), none, some (am_I (nI (m + 1))), x4', x5'] [] M' (am_Z w') ∧ lS a hs sv tx R e M' ∧ clF M M' ∧ wle 30 w w' := by
  have b2 := hok.1.2.1
  obtain ⟨M0, w0, e0, q0, f0, u0⟩ := d143 (d := d) (w := w) (x := nI 4) hB hok h
  obtain ⟨M1, w1, e1, q1, f1, u1⟩ := s261 (d := d) (w := w0) (m := m) (s := s) (x5 := x5) hok q0
  obtain ⟨M2, w2, e2, q2, f2, u2⟩ := s292 (d := d) (w := w1) (m := m) (s := bF (fun k s => sm s (qv (q_msg a (nI m) (nI k)))) 9 0 s) (x5 := x5) hok q1
  obtain ⟨M3, w3, e3, q3, f3, u3⟩ := d128 (d := d) (w := w2) (x := nI m) hok q2
  obtain ⟨M4, w4, e4, q4, f4, u4⟩ := d135 (d := d) (w := w3) (x := nI m) hB hok q3
  obtain ⟨M5, w5, e5, q5, f5, u5⟩ := d130 (d := d) (w := w4) (x := nI m) hok q4
  obtain ⟨M6, e6, q6, f6, hl⟩ := d139 (d := d) (w := w5) hok hm q5
  obtain ⟨M7, w7, e7, q7, f7, u7⟩ := s365 (d := d) (w := w5) (m := m) (s := sm (sm (sm (bF (fun k s => sm s (qv (q_sig a (nI m) (nI k)))) 8 0 (bF (fun k s => sm s (qv (q_msg a (nI m) (nI k)))) 9 0 s)) (qv (q_mas a (nI m)))) (qv (q_rnk a (nI m)))) (qv (q_arr a (nI m)))) hl q6
  refine ⟨some (am_I (nI (li a m).length)), some (am_I (nI (li a m).length)), M7, w7, ?_, ⟨_, q7, hl⟩, f0.tr (f1.tr (f2.tr (f3.tr (f4.tr (f5.tr (f6.tr f7)))))), u0.tr (u1.tr (u2.tr (u3.tr (u4.tr (u5.tr u7 (Nat.le_refl _)) (Nat.le_refl _)) (Nat.le_refl _)) (Nat.le_refl _)) (Nat.le_refl _)) (by decide)⟩
  rw [b152_249, e0]
  simp only [am_cb_i, am_cb_e, Option.toList_some, Option.toList_none, List.cons_append, List.nil_append]
  rw [b152_255, qa4, if_pos (nI_lt hm (by omega)), e1, e2, b152_292, if_neg (nI_nlt (by decide) (by decide)), e3]
  simp only [am_cb_i, am_cb_e, Option.toList_some, Option.toList_none, List.cons_append, List.nil_append]
  rw [b152_336, e4]
  simp only [am_cb_i, am_cb_e, Option.toList_some, Option.toList_none, List.cons_append, List.nil_append]
  rw [b152_344, e5]
  simp only [am_cb_i, am_cb_e, Option.toList_some, Option.toList_none, List.cons_append, List.nil_append]
  rw [b152_352, e6]
  simp only [am_cb_i, am_cb_e, Option.toList_some, Option.toList_none, List.cons_append, List.nil_append]
  rw [b152_360]
  exact e7
theorem s249 {s : Int64} {x4 x5 : Option am_V} (hB : B < 1073741824) (hok : ml_ok B a) (h : lS a hs sv tx R e M) : ∃ x4' x5' M' w', am_rn (am_ev (d + 11)) 152 249 [some (am_P (3, 0, 0)), some (.inl (.long s)), none, some (am_I (nI 0)), x4, x5] [] M (am_Z w) = am_rn (am_ev (d + 11)) 152 403 [some (am_P (3, 0, 0)), some (.inl (.long (bF (gM a) (a 2) 0 s))), none, some (am_I (nI (a 2))), x4', x5'] [am_I (nI (a 2))] M' (am_Z w') ∧ lS a hs sv tx R e M' ∧ clF M M' ∧ wle 482 w w' := by
  have b2 := hok.1.2.1
  obtain ⟨x', M', w', e1, q1, f1, u1⟩ := lp (τ := Option am_V × Option am_V) (Q := lS a hs sv tx R e) (K := 30) (n := a 2) (f := fun x k t M w => am_rn (am_ev (d + 11)) 152 249 [some (am_P (3, 0, 0)), some (.inl (.long x)), none, some (am_I (nI k)), t.1, t.2] [] M (am_Z w)) (g := gM a) (fun k x t M w hk hQ => by
    obtain ⟨y1, y2, M', w', g1, g2⟩ := sM (d := d) (x4 := t.1) (x5 := t.2) (s := x) (w := w) hB hok hk hQ
    exact ⟨(y1, y2), M', w', g1, g2⟩) (a 2) 0 s (x4, x5) M w (by omega) h
  obtain ⟨M0, w0, e0, q0, f0, u0⟩ := d143 (d := d) (w := w') (x := nI 4) hB hok q1
  obtain ⟨M2, w2, e2, q2, f2, u2⟩ := d143 (d := d) (w := w0) (x := nI 4) hB hok q0
  refine ⟨x'.1, x'.2, M2, w2, e1.trans ?_, q2, f1.tr (f0.tr f2), u1.tr (u0.tr u2 (Nat.le_refl _)) (by omega)⟩
  rw [b152_249, e0]
  simp only [am_cb_i, am_cb_e, Option.toList_some, Option.toList_none, List.cons_append, List.nil_append]
  rw [b152_255, qa4, if_neg (nI_nlt (Nat.le_refl _) (by omega)), e2]
  simp only [am_cb_i, am_cb_e, Option.toList_some, Option.toList_none, List.cons_append, List.nil_append]
  rw [qa4]
theorem s403 {s : Int64} {x3 : Int32} {x4 x5 : Option am_V} (hB0 : 1000 ≤ B) (hB : B < 1070000000) (hok : ml_ok B a) (h : lS a hs sv tx R e M) : ∃ M' w', am_rn (am_ev (d + 11)) 152 403 [some (am_P (3, 0, 0)), some (.inl (.long s)), none, some (am_I x3), x4, x5] [am_I (nI (a 2))] M (am_Z w) = am_rn (am_ev (d + 11)) 152 436 [some (am_P (3, 0, 0)), some (.inl (.long (lF2 a s))), none, some (am_I (nI (a 2))), x4, x5] [] M' (am_Z w') ∧ lS a hs sv tx R e M' ∧ clF M M' ∧ wle 2 w w' := by
  have b2 := hok.1.2.1
  by_cases h0 : 0 < a 2
  · obtain ⟨M1, w1, e1, q1, f1, u1⟩ := d133 (d := d) (w := w) (x := nI (a 2) - nI 1) hB0 hB hok h
    obtain ⟨M2, w2, e2, q2, f2, u2⟩ := d134 (d := d) (w := w1) (x := nI (a 2) - nI 1) hB0 hB hok q1
    refine ⟨M2, w2, ?_, q2, f1.tr f2, u1.tr u2 (Nat.le_refl _)⟩
    rw [b152_403, if_pos (show (0 : Int32) < nI (a 2) from nI_lt (a := 0) h0 (by omega)), e1]
    simp only [am_cb_i, am_cb_e, Option.toList_some, Option.toList_none, List.cons_append, List.nil_append]
    rw [b152_423, e2]
    simp only [am_cb_i, am_cb_e, Option.toList_some, Option.toList_none, List.cons_append, List.nil_append]
    rw [b152_433, show lF2 a s = sm (sm s (qv (q_tri a (nI (a 2) - nI 1) 0))) (qv (q_tri a (nI (a 2) - nI 1) 1)) from if_pos h0]
    rfl
  · refine ⟨M, w, ?_, h, clF.rf M, wle.rf w⟩
    rw [b152_403, if_neg (show ¬ (0 : Int32) < nI (a 2) from nI_nlt (a := 0) (by omega) (by omega)), show lF2 a s = s from if_neg h0]
/-- all answers summed: by the row alone -/
theorem k152 (hB0 : 1000 ≤ B) (hB : B < 1070000000) (hok : ml_ok B a) (h : lS a hs sv tx R e M) : hR (lS a hs sv tx R e) M w 900 (am_ev (d + 12) 152 [am_P (3, 0, 0)] M (am_Z w)) (.inl (.long (lF a))) := by
  obtain ⟨M0, w0, e0, q0, f0, u0⟩ := d142 (d := d) (w := w) hok h
  obtain ⟨M1, w1, e1, q1, f1, u1⟩ := d141 (d := d) (w := w0) hok q0
  obtain ⟨M2, w2, e2, q2, f2, u2⟩ := s23 (d := d) (w := w1) (s := 31 * (me_D a).toInt64 + (me_F a).toInt32.toInt64) (by omega) hok q1
  obtain ⟨x4, M3, w3, e3, q3, f3, u3⟩ := s50 (d := d) (w := w2) (x4 := none) (s := bF (gA a) 10 0 (31 * (me_D a).toInt64 + (me_F a).toInt32.toInt64)) (by omega) hok q2
  obtain ⟨M4, w4, e4, q4, f4, u4⟩ := s222 (d := d) (w := w3) (x4 := x4) (s := bF (gC a) (a 1) 0 (bF (gA a) 10 0 (31 * (me_D a).toInt64 + (me_F a).toInt32.toInt64))) q3
  obtain ⟨y4, y5, M5, w5, e5, q5, f5, u5⟩ := s249 (d := d) (w := w4) (x4 := x4) (x5 := none) (s := bF (fun k s => sm s (qv (q_psl a (nI k)))) 8 1 (bF (gC a) (a 1) 0 (bF (gA a) 10 0 (31 * (me_D a).toInt64 + (me_F a).toInt32.toInt64)))) (by omega) hok q4
  obtain ⟨M6, w6, e6, q6, f6, u6⟩ := s403 (d := d) (w := w5) (x3 := nI (a 2)) (x4 := y4) (x5 := y5) (s := lF1 a) hB0 hB hok q5
  obtain ⟨M7, w7, e7, q7, f7, u7⟩ := d95 (d := d) (w := w6) hok q6
  obtain ⟨M8, w8, e8, q8, f8, u8⟩ := d96 (d := d) (w := w7) hok q7
  refine ⟨M8, w8, ?_, q8, f0.tr (f1.tr (f2.tr (f3.tr (f4.tr (f5.tr (f6.tr (f7.tr f8))))))), u0.tr (u1.tr (u2.tr (u3.tr (u4.tr (u5.tr (u6.tr (u7.tr u8 (Nat.le_refl _)) (Nat.le_refl _)) (Nat.le_refl _)) (Nat.le_refl _)) (Nat.le_refl _)) (Nat.le_refl _)) (Nat.le_refl _)) (by decide)⟩
  rw [show d + 12 = d + 11 + 1 from rfl, e152, e0]
  simp only [am_cb_i, am_cb_e, Option.toList_some, Option.toList_none, List.cons_append, List.nil_append]
  rw [b152_7, if_pos (me_Dk hok), e1]
  simp only [am_cb_i, am_cb_e, Option.toList_some, Option.toList_none, List.cons_append, List.nil_append]
  rw [b152_15, if_pos (me_Fk hok)]
  refine e2.trans (e3.trans (e4.trans (e5.trans (e6.trans ?_))))
  rw [b152_436, e7]
  simp only [am_cb_i, am_cb_e, Option.toList_some, Option.toList_none, List.cons_append, List.nil_append]
  rw [b152_448, e8]
  simp only [am_cb_i, am_cb_e, Option.toList_some, Option.toList_none, List.cons_append, List.nil_append]
  rw [b152_455]
  rfl
end Ksu
