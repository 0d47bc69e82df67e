/-! THE FIRST OBJECT'S RUN: NEW, NOTHING TO UNDO, 96 HOURS -/
section Kr1
variable {d B : Nat} {M : am_M} {a b : Nat → Nat} {w : am_W4} {hs : List (Nat → Nat)} {sv : Option (Nat → Nat)} {x y z : Int32}
abbrev L0 : am_S := [some (am_P (0, 0, 0)), some (am_P (3, 0, 0)), none, none, none, none, none, none, none, none, none]
abbrev L2 (k : Nat) : am_S := [some (am_P (0, 0, 0)), some (am_P (3, 0, 0)), some (am_I (nI k)), none, none, none, none, none, none, none, none]
theorem a145n (h : lE a hs none M) : am_ev (d + 2) 145 [am_P (3, 0, 0)] M (am_Z w) = some (.inl (some (am_I (-1001 : Int32))), M, am_Z (am_bw w)) := by
  obtain ⟨R, e, ln, hc, hl⟩ := h
  exact h145.2 4 1 M _ List.mem_cons_self (k109n (d := d) hc)
/-- an account, asked of the state -/
theorem gQ {k : Nat} (hB : B < 1000000000) (h : gS B a sv M) (hk : k < 10) {v : Int32} (hv : qvl id (q_all a 0 0 (nI k)) = v) : ∃ M' w', am_ev (d + 11) 143 [am_P (3, 0, 0), am_I (nI k)] M (am_Z w) = some (.inl (some (am_I v)), M', am_Z w') ∧ gS B a sv M' ∧ clF M M' ∧ wle 1 w w' := by
  obtain ⟨hs, ⟨h1, h2, h3⟩, R, e, hl⟩ := h
  obtain ⟨M1, w1, e1, q1, f1, u1⟩ := d143 (d := d) (w := w) (x := nI k) (by omega) h1 hl
  rw [q_all_0 hk, hv] at e1
  exact ⟨M1, w1, e1, ⟨hs, ⟨h1, h2, h3⟩, R, e, q1⟩, f1, u1⟩
theorem p1a (h : lE a_0 [] none M) : ∃ M' w', am_rn (am_ev 15) 227 8 L0 [] M (am_Z w) = am_rn (am_ev 15) 227 66 (L2 0) [] M' (am_Z w') ∧ gS 21000 (rwl rc0) (some a_0) M' ∧ clF M M' ∧ wle 4 w w' := by
  have e1 := a144n (d := 13) (w := w) h
  have e2 := a145n (d := 13) (w := am_bw w) h
  obtain ⟨M3, e3, q3, f3⟩ := a108 (d := 12) (w := am_bw (am_bw w)) ok_a0 h
  have g3 : gS 1000 a_0 (some a_0) M3 := ⟨[], ⟨ok_a0, fun b hb => absurd hb (by simp), Nat.zero_le _⟩, q3⟩
  have o1 : oC a_0 7 (nI 96) (nI 0) (nI 0) = .inl (0, (ml_ps a_0 96).1) := by
    show o_pas a_0 (nI 96) = _
    unfold o_pas
    rw [if_pos (by decide), cN_nI (by decide), rc_ps.1]
  obtain ⟨M4, e4, g4, f4, -⟩ := gO (d := 4) (w := am_bw (am_bw w)) (zz := 122) (as := [am_P (3, 0, 0), am_I (nI 96)]) (by decide) g3 o1 (fun hs R e hok h => a122 (d := 5) (by decide) (by decide) hok h)
  have g5 := g4.cg (b := rwl rc0) rc_ps.2
  obtain ⟨M6, w6, e6, g6, f6, u6⟩ := gQ (d := 4) (w := am_bw (am_bw w)) (k := 0) (v := nI 96) (by decide) g5 (by decide) (by decide +kernel)
  obtain ⟨M7, w7, e7, g7, f7, u7⟩ := gQ (d := 4) (w := w6) (k := 1) (v := nI 0) (by decide) g6 (by decide) (by decide +kernel)
  refine ⟨M7, w7, ?_, g7, f3.tr (f4.tr (f6.tr f7)), (wle.bw w).tr ((wle.bw _).tr (u6.tr u7 (Nat.le_refl _)) (Nat.le_refl _)) (by decide)⟩
  rw [show am_rn (am_ev 15) 227 8 L0 [] M (am_Z w) = _ from b227_8, show am_ev 15 144 _ _ _ = _ from e1]
  simp only [am_cb_i, am_cb_e, Option.toList_some, Option.toList_none, List.cons_append, List.nil_append]
  rw [b227_12, if_pos rfl, show am_ev 15 145 _ _ _ = _ from e2]
  simp only [am_cb_i, am_cb_e, Option.toList_some, Option.toList_none, List.cons_append, List.nil_append]
  rw [b227_22, if_pos rfl, show am_ev 15 108 _ _ _ = _ from e3]
  simp only [am_cb_i, am_cb_e, Option.toList_some, Option.toList_none, List.cons_append, List.nil_append]
  rw [b227_32, if_pos (show nI (a_0 0) = 0 from rfl), show am_ev 15 122 _ _ _ = _ from e4]
  simp only [am_cb_i, am_cb_e, Option.toList_some, Option.toList_none, List.cons_append, List.nil_append]
  rw [b227_41, if_pos (show nI 0 = 0 from rfl), show am_ev 15 143 _ _ _ = _ from e6]
  simp only [am_cb_i, am_cb_e, Option.toList_some, Option.toList_none, List.cons_append, List.nil_append]
  rw [b227_49, if_pos rfl, show am_ev 15 143 _ _ _ = _ from e7]
  simp only [am_cb_i, am_cb_e, Option.toList_some, Option.toList_none, List.cons_append, List.nil_append]
  rw [b227_59, if_pos (show nI 0 = 0 from rfl)]
end Kr1
