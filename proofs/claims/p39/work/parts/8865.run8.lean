/-! THE FIRST OBJECT'S RUN: A LINE OF A MESSAGE -/
section Kr9
variable {d B : Nat} {M : am_M} {a : Nat → Nat} {w : am_W4} {sv : Option (Nat → Nat)} {hs : List (Nat → Nat)} {R : Int32 × Int32 × Int32} {e : Int32}
theorem k149 {m : Nat} {t : List Nat} (hT : w.2.2.2 = some t) (hok : ml_ok B a) (hm : m < a 2) (ht : li a m = t.map nI) (ht60 : t.length ≤ 60) (h : lS a hs sv [] R e M) : ∃ M' w', am_ev (d + 12) 149 [am_P (3, 0, 0), am_I (nI m), am_P (50, 0, 0)] M (am_Z w) = some (.inl (some (am_I (nI 1))), M', am_Z w') ∧ lS a hs sv [] R e M' ∧ clF M M' ∧ wle 1 w w' := by
  obtain ⟨M1, e1, q1, f1, hl⟩ := d139 (d := d) (w := w) hok hm h
  have hlen : (li a m).length = t.length := by rw [ht, List.length_map]
  have key : ∀ r k, k + r = t.length → am_rn (am_ev (d + 11)) 149 16 [some (am_P (3, 0, 0)), some (am_I (nI m)), some (am_P (50, 0, 0)), some (am_I (nI k))] [] M1 (am_Z w) = am_rn (am_ev (d + 11)) 149 16 [some (am_P (3, 0, 0)), some (am_I (nI m)), some (am_P (50, 0, 0)), some (am_I (nI t.length))] [] M1 (am_Z w) := by
    intro r
    induction r with
    | zero => intro k hk; rw [show k = t.length by omega]
    | succ r ih =>
      intro k hk
      have hkt : k < t.length := by omega
      have e2 := d140 (d := d) (w := w) (x := nI k) hl (by rw [hlen, am_inT (by omega) hkt]; trivial) q1
      have e3 : qv (q_ltr (li a m) (nI k)) = nI (t.getD k 0) := by
        obtain ⟨c, g1, g2⟩ := q_ltr_in (ln := li a m) (x := nI k) (by rw [hlen, am_inT (by omega) hkt]; trivial)
        rw [g2]
        rw [cN_nI (by omega), ht, List.getElem?_map, List.getElem?_eq_getElem hkt] at g1
        have := Option.some.inj g1
        show c = _
        rw [← this, List.getD_eq_getElem?_getD, List.getElem?_eq_getElem hkt]
        rfl
      rw [e3] at e2
      rw [b149_16 hT, if_pos (nI_lt hkt (by omega)), e2]
      simp only [am_cb_i, am_cb_e, Option.toList_some, Option.toList_none, List.cons_append, List.nil_append]
      rw [b149_29 hT, if_pos (by rw [am_inT (by omega) hkt]; trivial), nI_clamp (by omega), if_pos rfl, nI_add]
      exact ih (k + 1) (by omega)
  have hno : ∀ k, ¬ am_in (nI t.length) k ∨ t.length < k := fun k => by
    rcases Nat.lt_or_ge t.length k with h | h
    · exact Or.inr h
    · exact Or.inl (fun q => by have := (am_in_iff.mp q).2; rw [nI_clamp (by omega)] at this; omega)
  have h1 := k105 (d := d + 9) (w := w) (x := nI t.length) hl.1 hl.2 q1
  rw [q_ltr_out (by rw [hlen]; exact fun q => by have := (am_in_iff.mp q).2; rw [nI_clamp (by omega)] at this; omega)] at h1
  have e4 : am_ev (d + 11) 140 [am_P (3, 0, 0), am_I (nI t.length)] M1 (am_Z w) = some (.inl (some (am_I (-1001 : Int32))), M1, am_Z (am_bw w)) := h140.2 1 1 M1 _ List.mem_cons_self h1
  refine ⟨M1, am_bw w, ?_, ⟨_, q1, hl⟩, f1, wle.bw w⟩
  rw [show d + 12 = d + 11 + 1 from rfl, e149, e1]
  simp only [am_cb_i, am_cb_e, Option.toList_some, Option.toList_none, List.cons_append, List.nil_append]
  rw [b149_5 hT, hlen, if_pos rfl]
  refine Eq.trans (key t.length 0 (by omega)) ?_
  rw [b149_16 hT, if_neg (nI_nlt (Nat.le_refl _) (by omega)), e4]
  simp only [am_cb_i, am_cb_e, Option.toList_some, Option.toList_none, List.cons_append, List.nil_append]
  rw [b149_53, if_pos rfl]
theorem li_56 : li (rwl (rH 56)) 0 = (am_lit 8).map nI := by decide +kernel
theorem p1g (hB0 : 1000 ≤ B) (hB : B < 900000000) (hw : w.2.2.2 = none) (hg : gL 18 B (rwl (rH 56)) sv M) : ∃ M' w', am_rn (am_ev 15) 227 390 (L2 16) [am_I (nI 1)] M (am_Z w) = am_rn (am_ev 15) 227 427 (L2 16) [.inl (.double (me_D (rwl (rH 56))))] M' (am_Z w') ∧ gL 18 B (rwl (rH 56)) sv M' ∧ clF M M' ∧ wle 10 w w' := by
  obtain ⟨hs, ⟨⟨h1, h2, h3⟩, h4⟩, R, e, hl⟩ := hg
  obtain ⟨M1, w1, e1, q1, f1, u1⟩ := d130 (d := 4) (w := w) (x := nI 0) h1 hl
  rw [show qvl id (q_arr (rwl (rH 56)) (nI 0)) = nI 0 by decide +kernel] at e1
  have hw1 : w1.2.2.2 = none := by rw [u1.2]; exact hw
  obtain ⟨M2, w2, e2, q2, f2, u2⟩ := k149 (d := 3) (w := (w1.1, w1.2.1, w1.2.2.1, some (am_lit 8))) (m := 0) (t := am_lit 8) rfl h1 (by decide +kernel) li_56 (by decide) q1
  have u2' := u2.txt (c := 0) (s := 0) (k := 1) hw1 (by decide) (by decide)
  obtain ⟨M3, w3, e3, q3, f3, u3⟩ := d123 (d := 4) (w := (w2.1 + 0, w2.2.1 + 0, w2.2.2.1, none)) (x := nI 2) (y := nI 6) (by omega) h1 q2
  rw [show qvl id (q_cnv (rwl (rH 56)) (nI 2) (nI 6)) = nI 0 by decide +kernel] at e3
  obtain ⟨M4, w4, e4, q4, f4, u4⟩ := d142 (d := 4) (w := w3) h1 q3
  refine ⟨M4, w4, ?_, ⟨hs, ⟨⟨h1, h2, h3⟩, h4⟩, _, _, q4⟩, f1.tr (f2.tr (f3.tr f4)), u1.tr (u2'.tr (u3.tr u4 (Nat.le_refl _)) (Nat.le_refl _)) (by decide)⟩
  rw [b227_390, if_pos rfl, show am_ev 15 130 _ _ _ = _ from e1]
  simp only [am_cb_i, am_cb_e, Option.toList_some, Option.toList_none, List.cons_append, List.nil_append]
  rw [b227_399 hw1, if_pos (show nI 0 = 0 from rfl), show am_ev 15 149 _ _ _ = _ from e2, bs_v, b227_410, if_neg (by decide), show am_ev 15 123 _ _ _ = _ from e3]
  simp only [am_cb_i, am_cb_e, Option.toList_some, Option.toList_none, List.cons_append, List.nil_append]
  rw [b227_420, if_pos (show nI 0 = 0 from rfl), show am_ev 15 142 _ _ _ = _ from e4]
  simp only [am_cb_i, am_cb_e, Option.toList_some, Option.toList_none, List.cons_append, List.nil_append]
end Kr9
