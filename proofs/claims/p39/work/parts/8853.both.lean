/-! BOTH OBJECTS ARE MADE -/
/-- the memory when the object is made -/
def am_Mi (M : am_M) : am_M := am_set (am_set M (6, 0, 0) 0 (nI 0)) (3, 0, 0) 8 (-1)
def a_0 : Nat → Nat := fun _ => 0
theorem ok_a0 : ml_ok 1000 a_0 := ⟨⟨Nat.zero_le _, Nat.zero_le _, fun _ _ => Nat.zero_le _, fun _ _ _ _ _ _ => (by decide : 0 < 100), fun _ _ _ _ => (by decide : 0 < 100), fun _ _ _ => (by decide : 0 < 1000), fun _ _ _ => (by decide : 0 < 100)⟩, fun m hm => absurd hm (Nat.not_lt_zero m)⟩
section AmLi
variable {M : am_M}
theorem mi0 (hz : ∀ l : am_L, l.1 ≠ 0 → ∀ j, M l j = 0) {l : am_L} {j : Nat} (h : l.1 ≠ 0) (h3 : ¬ (l = (3, 0, 0) ∧ j = 8)) : am_Mi M l j = nI 0 := by
  unfold am_Mi
  rw [as_ne h3]
  by_cases h6 : l = ((6, 0, 0) : am_L) ∧ j = 0
  · obtain ⟨rfl, rfl⟩ := h6
    exact as_eq _ _ _ _
  · rw [as_ne h6]
    exact hz l h j
theorem miT (hz : ∀ l : am_L, l.1 ≠ 0 → ∀ j, M l j = 0) {t n k j : Nat} (h : t ≠ 0) (h3 : t ≠ 3) : am_Mi M (t, n, k) j = nI 0 := mi0 hz h (fun q => h3 (pl_e q.1).1)
theorem nw_a0 (hz : ∀ l : am_L, l.1 ≠ 0 → ∀ j, M l j = 0) : nw 0 a_0 (am_Mi M) [] := by
  have no : ∀ m, ¬ m < a_0 2 := fun m hm => absurd hm (Nat.not_lt_zero m)
  have no1 : ∀ m, ¬ m < a_0 1 := fun m hm => absurd hm (Nat.not_lt_zero m)
  refine ⟨⟨fun t k j hG => ?_, fun m hm => absurd hm (no m)⟩, fun _ => [], fun c hc => absurd hc (no1 c), ⟨miT hz (by decide) (by decide), fun i x hx => absurd hx (by simp)⟩, ⟨fun c hc => absurd hc (no1 c), ⟨List.Pairwise.nil, fun m => ⟨fun q => absurd q (by simp), fun q => absurd q.1 (no m)⟩⟩, fun m hm => absurd hm (no m)⟩, fun m hm => absurd hm (no m)⟩
  have := hG.t
  exact miT hz (by omega) (by omega)
theorem cl_a0 (hz : ∀ l : am_L, l.1 ≠ 0 → ∀ j, M l j = 0) : clS a_0 [] none [] (nI 0, nI 0, nI 0) (-1) [] (am_Mi M) := by
  have f : ∀ j, j ≠ 8 → am_Mi M (3, 0, 0) j = nI 0 := fun j hj => mi0 hz (by decide) (fun q => hj q.2)
  have m : ∀ t j, t ≠ 0 → t ≠ 3 → am_Mi M (t, 0, 0) j = nI 0 := fun t j h0 h3 => miT hz h0 h3
  refine ⟨⟨[], nw_a0 hz⟩, ⟨0, by decide, m 4 1 (by decide) (by decide), m 4 2 (by decide) (by decide), Nat.zero_le _, fun i h hi => absurd hi (by simp)⟩, ⟨f 3 (by decide), fun b hb => absurd hb (by simp)⟩, ⟨⟨m 8 1 (by decide) (by decide), fun i c hc => absurd hc (by simp)⟩, ?_, f 10 (by decide), fun i c hc => absurd hc (by simp)⟩, ⟨m 6 0 (by decide) (by decide), m 6 1 (by decide) (by decide), m 6 2 (by decide) (by decide)⟩⟩
  unfold am_Mi
  rw [as_eq]
theorem gS_a0 (hz : ∀ l : am_L, l.1 ≠ 0 → ∀ j, M l j = 0) : gS 1000 a_0 none (am_Mi M) := ⟨[], ⟨ok_a0, fun b hb => absurd hb (by simp), Nat.zero_le _⟩, _, _, [], cl_a0 hz, Nat.zero_le _, fun c hc => absurd hc (by simp)⟩
theorem lE_a0 (hz : ∀ l : am_L, l.1 ≠ 0 → ∀ j, M l j = 0) : lE a_0 [] none (am_Mi M) := ⟨_, _, [], cl_a0 hz, Nat.zero_le _, fun c hc => absurd hc (by simp)⟩
theorem Q1_a0 : Q1 0 a_0 := ⟨rfl, rfl, fun _ _ _ => rfl, fun _ _ => rfl⟩
end AmLi
section AmLx
variable {d : Nat} {M : am_M} {w : am_W4} {p q : Nat}

set_option maxRecDepth 100000 in
theorem mk1 {ls : am_S} {pc : Nat} (h1 : am_cd 227 pc = some (.new 8)) (h2 : am_cd 227 (pc + 3) = some .dup) (h3 : am_cd 227 (pc + 3 + 1) = some (.invokespecial 282)) : ∃ p' q', am_rn (am_ev (d + 4)) 227 pc ls [] M (am_Y tZ 0 p q) = am_rn (am_ev (d + 4)) 227 (pc + 3 + 1 + 3) ls [am_P (3, 0, 0)] (am_Mi M) (am_Z (p', q', none, none)) ∧ p' = p + 1 + 700 ∧ q' ≤ q + 11 + 10000 := by
  obtain ⟨p1, q1, e1, f1, g1⟩ := cM65 (d := d) (M := M) (p := p + 1) (q := q + 11)
  refine ⟨p1, q1, ?_, f1, g1⟩
  refine Eq.trans (cy_new (l := (3, 0, 0)) (ix := 8) (ci := 8) (n := 11) h1 (by decide +kernel) (by decide +kernel) (nlc (by decide) (by decide) (by decide) (by decide) (by decide) (by decide))) ?_
  refine Eq.trans (rl_dup h2 rfl) ?_
  refine Eq.trans (cy_inv (ix := 282) (y := 65) (o := 8) (k := 2) h3 (by decide +kernel) (Or.inl rfl) (by decide +kernel) (by decide +kernel) ⟨rfl, rfl⟩ rfl ck3 (by decide) e1) ?_
  show am_rn _ 227 _ _ _ _ (tS8, none, p1, q1, none, none) = _
  rw [tS_all]
  rfl
theorem rl_restart {ls : am_S} {call : Nat → List am_V → am_M → am_X → Option am_R} {pc : Nat} (h1 : am_cd 227 pc = some (.new 8)) : am_rn call 227 pc ls [] M (am_Z w) = am_rn call 227 pc (am_wl ls) [] (am_wp M) (am_Y tZ 0 w.1 w.2.1) := by
  rw [am_rn_eq h1]
  dsimp only [am_ex]
  rw [show am_nw (am_own 227) 8 = some (.inl 8) by decide +kernel]
  dsimp only
  rw [if_pos ⟨rfl, rfl, rfl⟩]
  rfl
/-- what is owed of the first object's run -/
def Lw1 : Prop := ∀ (M : am_M) (w : am_W4), lE a_0 [] none M → w.2.2 = (none, none) → ∃ M' w' x2, am_rn (am_ev 15) 227 8 [some (am_P (0, 0, 0)), some (am_P (3, 0, 0)), none, none, none, none, none, none, none, none, none] [] M (am_Z w) = am_rn (am_ev 15) 227 511 [some (am_P (0, 0, 0)), some (am_P (3, 0, 0)), some (am_I x2), none, none, none, none, none, none, none, none] [] M' (am_Z w') ∧ clF M M' ∧ w'.1 ≤ w.1 + 100000 ∧ w'.2.1 ≤ w.2.1 + 600000
theorem am_law (H : Lw1) : am_Law := by
  intro L xs hL
  obtain ⟨p1, q1, e1, f1, g1⟩ := mk1 (d := 11) (M := am_M0 L xs) (p := 0) (q := 0) (ls := [some (am_P (0, 0, 0)), none, none, none, none, none, none, none, none, none, none]) (pc := 0) (by decide +kernel) (by decide +kernel) (by decide +kernel)
  obtain ⟨M2, w2, x2, e2, f2, g2, g3⟩ := H (am_Mi (am_M0 L xs)) (p1, q1, none, none) (lE_a0 (fun l h j => am_M0_0 h j)) rfl
  obtain ⟨p3, q3, e3, f3, g4⟩ := mk1 (d := 11) (M := am_wp M2) (p := w2.1) (q := w2.2.1) (ls := [some (am_P (0, 0, 0)), none, some (am_I x2), none, none, none, none, none, none, none, none]) (pc := 511) (by decide +kernel) (by decide +kernel) (by decide +kernel)
  have hz : ∀ l : am_L, l.1 ≠ 0 → ∀ j, am_wp M2 l j = 0 := fun l h j => if_neg h
  have hLM3 : hLM (am_Mi (am_wp M2)) := by
    refine ⟨L, hL, ?_⟩
    unfold am_Mi
    rw [as_t (by decide), as_t (by decide)]
    show M2 (0, 0, 1) 0 = nI L
    rw [f2 (0, 0, 1) 0 (Or.inl (by decide))]
    unfold am_Mi
    rw [as_t (by decide), as_t (by decide)]
    exact am_M0_1
  obtain ⟨M4, w4, e4, g5, g6⟩ := lw3 (d := 2) (M := am_Mi (am_wp M2)) (w := (p3, q3, none, none)) hLM3 (gS_a0 hz) Q1_a0 rfl rfl
  dsimp only at g2 g3 g5 g6
  refine ⟨15, M4, am_Z w4, by decide, ?_, by show w4.1 ≤ _; omega, by show w4.2.1 ≤ _; omega⟩
  refine (am_ev_eq 15 227 _ _ _).trans ?_
  show am_rn (am_ev 15) 227 0 [some (am_P (0, 0, 0)), none, none, none, none, none, none, none, none, none, none] [] (am_M0 L xs) (am_Y tZ 0 0 0) = _
  refine Eq.trans e1 ?_
  refine Eq.trans (rl_astoren (j := 1) (ls' := [some (am_P (0, 0, 0)), some (am_P (3, 0, 0)), none, none, none, none, none, none, none, none, none]) (by decide +kernel) rfl rfl) ?_
  refine Eq.trans e2 ?_
  refine Eq.trans (rl_restart (by decide +kernel)) ?_
  refine Eq.trans e3 ?_
  refine Eq.trans (rl_astoren (j := 2) (ls' := [some (am_P (0, 0, 0)), none, some (am_P (3, 0, 0)), none, none, none, none, none, none, none, none]) (by decide +kernel) rfl rfl) ?_
  exact e4
end AmLx
