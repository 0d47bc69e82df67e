/-! THE WHOLE OF WHAT IS REFUSED -/
section Krc
variable {d B : Nat} {M : am_M} {a : Nat → Nat} {w : am_W4} {hs : List (Nat → Nat)} {sv : Option (Nat → Nat)} {tx ln : List Int32} {R : Int32 × Int32 × Int32} {e : Int32} {x y z : Int32}
theorem wle.txt {n c s k : Nat} {w w' : am_W4} {t : List Nat} (hw : w.2.2.2 = none) (h : wle n (w.1, w.2.1, w.2.2.1, some t) w') (hc : n + c ≤ k) (hs : 6 * n + s ≤ 6 * k) : wle k w (w'.1 + c, w'.2.1 + s, w'.2.2.1, none) := by
  obtain ⟨⟨a1, a2, a3, a4⟩, a5⟩ := h
  dsimp only at a1 a2 a3 a4 a5
  refine ⟨⟨by show w.1 ≤ w'.1 + c; omega, by show w'.1 + c ≤ w.1 + k; omega, by show w.2.1 ≤ w'.2.1 + s; omega, by show w'.2.1 + s ≤ w.2.1 + 6 * k; omega⟩, ?_⟩
  rw [show w'.2.2.1 = w.2.2.1 by rw [a5], ← hw]
theorem bs_v {pc c s : Nat} {ls : am_S} {st : List am_V} {v : Value} {w' : am_W4} {K : Nat → am_S → List am_V → am_M → am_X → Option am_R} : am_bs pc ls st (some (.inl (some (.inl v)), M, am_Z w')) (c, s) K = K pc ls (.inl v :: st) M (am_Z (w'.1 + c, w'.2.1 + s, w'.2.2.1, none)) := rfl
theorem lg_self (v : Int64) : lg_cmp v v = 0 := by
  unfold lg_cmp
  first
    | (rw [if_neg (Int64.lt_irrefl v), if_pos rfl])
    | simp
theorem tO_z : tO a ((am_lit 6).map nI) = .inl 0 := by
  have h : ptx ((am_lit 6).map nI) = (0, none) := by decide +kernel
  unfold tO
  rw [h]
theorem tO_h : tO a ((am_lit 7).map nI) = .inr (.inr (1, nI 0, 1)) := by
  have h : (ptx ((am_lit 7).map nI)).2 = some [(7, 1, 0, 0), (7, 0, 0, 0)] := by decide +kernel
  unfold tO
  rw [h]
  have h1 : oC a 7 (nI 1) (nI 0) (nI 0) = .inl ((ml_ps a 1).2, (ml_ps a 1).1) := by
    show o_pas a (nI 1) = _
    unfold o_pas
    rw [if_pos (by decide), cN_nI (by decide)]
  have h2 : ∀ b, oC b 7 (nI 0) (nI 0) (nI 0) = .inr (1, nI 0) := by
    intro b
    show o_pas b (nI 0) = _
    unfold o_pas
    rw [if_neg (by decide)]
  have h3 : exl a 0 [(7, 1, 0, 0), (7, 0, 0, 0)] = .inr (1, nI 0, 1) := by
    unfold exl
    rw [h1]
    show exl (ml_ps a 1).1 1 [(7, 0, 0, 0)] = _
    unfold exl
    rw [h2]
  show (match exl a 0 [(7, 1, 0, 0), (7, 0, 0, 0)] with | .inl a' => (Sum.inr (Sum.inl (a', 2)) : Nat ⊕ (((Nat → Nat) × Nat) ⊕ (Nat × Int32 × Nat))) | .inr z => Sum.inr (Sum.inr z)) = _
  rw [h3]
theorem k100' (h : lS a hs sv tx R e M) : am_ev (d + 1) 100 [am_P (3, 0, 0)] M (am_Z w) = some (.inl (some (am_I e)), M, am_Z w) := by
  obtain ⟨ln, hc, -⟩ := h
  exact k100 (d := d) hc
theorem rC (h1 : a 1 = 5) (h2 : a 2 = 4) (hB0 : 1000 ≤ B) (hB : B < 1000000000) (hok : ml_ok B a) (hw : w.2.2.2 = none) (h : lS a hs sv [] R e M) : ∃ M' w', am_rn (am_ev (d + 12)) 154 799 [some (am_P (3, 0, 0)), some (.inl (.long (lF a))), none, some (am_I (nI 5)), some (am_I (nI 4)), some (am_I (nI 1))] [am_I (nI 1)] M (am_Z w) = some (.inl (some (am_I (nI 1))), M', am_Z w') ∧ lS a hs sv [] (nI 1, nI 0, nI 1) (-1) M' ∧ clF M M' ∧ wle 910 w w' := by
  obtain ⟨M1, v1, e1, q1, f1, u1, -⟩ := k147 (d := d + 2) (w := (w.1, w.2.1, w.2.2.1, some (am_lit 6))) (t := am_lit 6) rfl (by decide) (by decide) hB0 hB hok h
  rw [tO_z] at e1 q1
  have u1' := u1.txt (c := 0) (s := 0) (k := 1) hw (by decide) (by decide)
  have e2 := k100' (d := d + 11) (w := (v1.1 + 0, v1.2.1 + 0, v1.2.2.1, none)) q1
  obtain ⟨M3, v3, e3, q3, f3, u3, -⟩ := k147 (d := d + 2) (w := (v1.1 + 0, v1.2.1 + 0, v1.2.2.1, some (am_lit 7))) (t := am_lit 7) rfl (by decide) (by decide) hB0 hB hok q1
  rw [tO_h] at e3 q3
  have u3' := wle.txt (w := (v1.1 + 0, v1.2.1 + 0, v1.2.2.1, none)) (c := 0) (s := 0) (k := 1) rfl u3 (by decide) (by decide)
  have e4 := k148 (d := d + 7) (w := (v3.1 + 0, v3.2.1 + 0, v3.2.2.1, none)) (x1 := nI 1) (x2 := nI 0) (x3 := nI 1) (by decide) q3
  have e5 := k100' (d := d + 11) (w := (v3.1 + 0, v3.2.1 + 0, v3.2.2.1, none)) q3
  obtain ⟨M6, v6, e6, q6, f6, u6⟩ := k152 (d := d) (w := (v3.1 + 0, v3.2.1 + 0, v3.2.2.1, none)) hB0 (by omega) hok q3
  refine ⟨M6, v6, ?_, q6, f1.tr (f3.tr f6), u1'.tr (u3'.tr u6 (Nat.le_refl _)) (by decide)⟩
  rw [b154_799 hw, if_neg (by decide), show am_ev (d + 12) 147 _ _ _ = _ from e1, bs_v, b154_813, if_pos (by decide), show am_ev (d + 12) 100 _ _ _ = _ from e2]
  simp only [am_cb_i, am_cb_e, Option.toList_some, Option.toList_none, List.cons_append, List.nil_append]
  rw [b154_823 rfl, if_pos (by decide), show am_ev (d + 12) 147 _ _ _ = _ from e3, bs_v, b154_833, if_pos (by decide), show am_ev (d + 12) 148 _ _ _ = _ from e4]
  simp only [am_cb_i, am_cb_e, Option.toList_some, Option.toList_none, List.cons_append, List.nil_append]
  rw [b154_846, if_neg (by decide), show am_ev (d + 12) 100 _ _ _ = _ from e5]
  simp only [am_cb_i, am_cb_e, Option.toList_some, Option.toList_none, List.cons_append, List.nil_append]
  rw [b154_853, if_pos rfl, e6]
  simp only [am_cb_i, am_cb_e, Option.toList_some, Option.toList_none, List.cons_append, List.nil_append]
  rw [b154_861, if_pos (lg_self _)]
/-- all that must be refused is refused, and nothing changes -/
theorem k154 (h1 : a 1 = 5) (h2 : a 2 = 4) (hB0 : 1000 ≤ B) (hB : B < 1000000000) (hok : ml_ok B a) (hw : w.2.2.2 = none) (h : lS a hs sv [] R e M) : ∃ M' w', am_ev (d + 13) 154 [am_P (3, 0, 0)] M (am_Z w) = some (.inl (some (am_I (nI 1))), M', am_Z w') ∧ lS a hs sv [] (nI 1, nI 0, nI 1) (-1) M' ∧ clF M M' ∧ wle 2000 w w' := by
  obtain ⟨M0, w0, e0, q0, f0, u0⟩ := k152 (d := d) (w := w) hB0 (by omega) hok h
  obtain ⟨M1, w1, e1, q1, f1, u1⟩ := d143 (d := d + 1) (w := w0) (x := nI 2) (by omega) hok q0
  obtain ⟨M2, w2, e2, q2, f2, u2⟩ := d143 (d := d + 1) (w := w1) (x := nI 4) (by omega) hok q1
  rw [qa2, h1] at e1
  rw [qa4, h2] at e2
  obtain ⟨M3, w3, e3, q3, f3, u3⟩ := rA (d := d + 1) (w := w2) (x1 := lF a) h1 h2 hB0 (by omega) hok q2
  obtain ⟨M4, w4, e4, q4, f4, u4⟩ := rB (d := d + 1) (w := w3) (x1 := lF a) h1 h2 hB0 (by omega) (by omega) hok q3
  have hw4 : w4.2.2.2 = none := by rw [u4.2, u3.2, u2.2, u1.2, u0.2]; exact hw
  obtain ⟨M5, w5, e5, q5, f5, u5⟩ := rC (d := d) (w := w4) h1 h2 hB0 hB hok hw4 q4
  refine ⟨M5, w5, ?_, q5, f0.tr (f1.tr (f2.tr (f3.tr (f4.tr f5)))), u0.tr (u1.tr (u2.tr (u3.tr (u4.tr u5 (Nat.le_refl _)) (Nat.le_refl _)) (Nat.le_refl _)) (Nat.le_refl _)) (by decide)⟩
  refine (am_ev_eq (d + 12) 154 _ M (am_Z w)).trans ?_
  show am_rn (am_ev (d + 12)) 154 0 [some (am_P (3, 0, 0)), none, none, none, none, none] [] M (am_Z w) = _
  rw [b154_0, e0]
  simp only [am_cb_i, am_cb_e, Option.toList_some, Option.toList_none, List.cons_append, List.nil_append]
  rw [b154_4, show am_ev (d + 12) 143 _ _ _ = _ from e1]
  simp only [am_cb_i, am_cb_e, Option.toList_some, Option.toList_none, List.cons_append, List.nil_append]
  rw [b154_10, show am_ev (d + 12) 143 _ _ _ = _ from e2]
  simp only [am_cb_i, am_cb_e, Option.toList_some, Option.toList_none, List.cons_append, List.nil_append]
  exact Eq.trans e3 (Eq.trans e4 e5)
end Krc
