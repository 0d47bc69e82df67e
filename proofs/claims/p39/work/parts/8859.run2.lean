/-! THE FIRST OBJECT'S RUN: SIXTY LETTERS OF NO TEXT -/
section Kr2
variable {d B : Nat} {M : am_M} {a b : Nat → Nat} {w : am_W4} {hs : List (Nat → Nat)} {sv : Option (Nat → Nat)} {R : Int32 × Int32 × Int32} {e : Int32} {x y z : Int32}
def fc (i : Nat) : Int32 := ((nI 300 + nI i).toUInt32 % 65536).toInt32
def tl (k : Nat) : List Int32 := (List.range k).map fun i => vp_nar .char (fc i)
theorem tl_len (k : Nat) : (tl k).length = k := by unfold tl; rw [List.length_map, List.length_range]
theorem tl_s (k : Nat) : tl k ++ [vp_nar .char (fc k)] = tl (k + 1) := by
  unfold tl
  rw [List.range_succ, List.map_append]
  rfl
theorem tl_k : txk (tl 60) := ⟨by rw [tl_len]; decide, fun c hc => by
  unfold tl at hc
  obtain ⟨i, -, rfl⟩ := List.mem_map.mp hc
  exact vp_pc _⟩
theorem tl_p : ptx (tl 60) = (0, none) := by decide +kernel
theorem tl_O : tO a (tl 60) = .inl 0 := by
  unfold tO
  rw [tl_p]
theorem let60 : ∀ r k (M : am_M), k + r = 60 → lS a hs sv (tl k) R e M → ∃ M', am_rn (am_ev 15) 227 66 (L2 k) [] M (am_Z w) = am_rn (am_ev 15) 227 66 (L2 60) [] M' (am_Z w) ∧ lS a hs sv (tl 60) R e M' ∧ clF M M' := by
  intro r
  induction r with
  | zero =>
    intro k M hk h
    obtain rfl : k = 60 := by omega
    exact ⟨M, rfl, h, clF.rf M⟩
  | succ r ih =>
    intro k M hk h
    obtain ⟨ln, hc, hl⟩ := h
    obtain ⟨M1, e1, e2, e3⟩ := k98s (d := 12) (w := w) (x := fc k) hc (by rw [tl_len]; omega)
    rw [tl_len] at e1
    rw [tl_s] at e2
    obtain ⟨M2, g1, g2, g3⟩ := ih (k + 1) M1 (by omega) ⟨ln, e2, hl⟩
    refine ⟨M2, ?_, g2, e3.tr g3⟩
    rw [show am_rn (am_ev 15) 227 66 (L2 k) [] M (am_Z w) = _ from b227_66, if_pos (nI_lt (by omega) (by decide)), show am_ev 15 136 [am_P (3, 0, 0), am_I ((nI 300 + nI k).toUInt32 % 65536).toInt32] M (am_Z w) = _ from h136.1 _ M1 e1]
    simp only [am_cb_i, am_cb_e, Option.toList_some, Option.toList_none, List.cons_append, List.nil_append]
    rw [b227_82, if_pos (by rw [nI_add]; rfl), nI_add]
    exact g1
theorem p1b (hB0 : 1000 ≤ B) (hB : B < 900000000) (h : gS B a sv M) : ∃ M' w', am_rn (am_ev 15) 227 66 (L2 0) [] M (am_Z w) = am_rn (am_ev 15) 227 138 (L2 0) [] M' (am_Z w') ∧ gS B a sv M' ∧ clF M M' ∧ wle 4 w w' := by
  obtain ⟨hs, ⟨h1, h2, h3⟩, R, e, hl⟩ := h
  obtain ⟨M1, e1, q1, f1⟩ := let60 (w := w) 60 0 M rfl hl
  have e2 : am_ev 15 136 [am_P (3, 0, 0), am_I (nI 104)] M1 (am_Z w) = some (.inl (some (am_I (-1001 : Int32))), M1, am_Z (am_bw w)) := by
    obtain ⟨ln, hc, -⟩ := q1
    exact h136.2 4 1 M1 _ List.mem_cons_self (k98f (d := 13) hc (tl_len 60))
  obtain ⟨M3, w3, e3, q3, f3, u3⟩ := k137 (d := 6) (w := am_bw w) tl_k hB0 (by omega) h1 q1
  rw [tl_O] at e3 q3
  have e4 := k100' (d := 14) (w := w3) q3
  obtain ⟨M5, w5, e5, q5, f5, u5⟩ := d143 (d := 4) (w := w3) (x := nI 11) (by omega) h1 q3
  have qa : qvl id (q_all a hs.length ([] : List Int32).length (nI 11)) = nI 0 := by
    unfold q_all
    simp (decide := true) only [if_false, ite_false, if_true, ite_true, qvl]
    try rfl
  rw [qa] at e5
  refine ⟨M5, w5, ?_, ⟨hs, ⟨h1, h2, h3⟩, _, _, q5⟩, f1.tr (f3.tr f5), (wle.bw w).tr (u3.tr u5 (Nat.le_refl _)) (by decide)⟩
  refine Eq.trans e1 ?_
  rw [show am_rn (am_ev 15) 227 66 (L2 60) [] M1 (am_Z w) = _ from b227_66, if_neg (by decide), e2]
  simp only [am_cb_i, am_cb_e, Option.toList_some, Option.toList_none, List.cons_append, List.nil_append]
  rw [b227_102, if_pos rfl, show am_ev 15 137 _ _ _ = _ from e3]
  simp only [am_cb_i, am_cb_e, Option.toList_some, Option.toList_none, List.cons_append, List.nil_append]
  rw [b227_112, if_pos (by rfl), show am_ev 15 100 _ _ _ = _ from e4]
  simp only [am_cb_i, am_cb_e, Option.toList_some, Option.toList_none, List.cons_append, List.nil_append]
  rw [b227_122, if_pos (show nI 0 = 0 from rfl), show am_ev 15 143 _ _ _ = _ from e5]
  simp only [am_cb_i, am_cb_e, Option.toList_some, Option.toList_none, List.cons_append, List.nil_append]
  rw [b227_131, if_pos (show nI 0 = 0 from rfl)]
end Kr2
