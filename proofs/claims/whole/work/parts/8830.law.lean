/-! THE LAW -/
section AmLw
variable {call : Nat → List am_V → am_M → am_X → Option am_R} {z pc : Nat} {ls : am_S} {st : List am_V} {M : am_M} {T : am_T} {c p q : Nat} {l : am_L}
theorem cy_long (hc : am_cd z pc = some (.newarray .long)) (h : am_nl c l (4, 1, 0)) : am_rn call z pc ls (am_I 1 :: st) M (am_Y T c p q) = am_rn call z (pc + 2) ls (am_P l :: st) M (am_Y T (c + 1) (p + 1) (q + 1)) := by
  rw [am_rn_eq hc]
  show (if (1 : Int32) = 1 ∧ (0 : Int64) = 0 then am_nu (am_Y T c p q) (4, 1, 0) 1 fun l X => am_rn call z (pc + 2) ls (.inr (some l) :: st) M X else none) = _
  rw [if_pos ⟨rfl, rfl⟩]
  exact nu_of h
theorem cy_dbl (hc : am_cd z pc = some (.newarray .double)) : am_rn call z pc ls (am_I 1 :: st) M (am_Y T 711 p q) = am_rn call z (pc + 2) ls (am_P (2, 0, 0) :: st) M (T, none, p + 1, q + 1, 0, 0) := by
  rw [am_rn_eq hc]
  show (if (1 : Int32) = 1 ∧ (0 : UInt64) = 0 then am_nu (am_Y T 711 p q) (5, 1, 0) 1 fun l X => am_rn call z (pc + 2) ls (.inr (some l) :: st) M X else none) = _
  rw [if_pos ⟨rfl, rfl⟩]
  show (if am_ok (am_lo 711) = true ∧ am_ad (am_lo 711) = 711 ∧ am_kd (am_lo 711) = (5, 1, 0) ∧ (am_lo 711).1 ≠ 0 then am_rn call z (pc + 2) ls (.inr (some (am_lo 711)) :: st) M (T, am_nph 711, p + 1, q + 1, 0, 0) else none) = _
  have h1 : am_lo 711 = (2, 0, 0) := by decide
  rw [h1, if_pos (by decide), show am_nph 711 = none from if_pos rfl]
end AmLw
/-- the memory when all is made -/
def am_Mi (L : Nat) (xs : Nat → Int32) : am_M := am_set (am_set (am_set (am_M0 L xs) (6, 0, 0) 0 (nI 0)) (3, 0, 0) 8 (-1)) (30, 0, 0) 14 (-1)
section AmLi
variable {L : Nat} {xs : Nat → Int32}
theorem mi0 {l : am_L} {j : Nat} (h : l.1 ≠ 0) (h3 : ¬ (l = (3, 0, 0) ∧ j = 8)) (h30 : ¬ (l = (30, 0, 0) ∧ j = 14)) : am_Mi L xs l j = nI 0 := by
  unfold am_Mi
  rw [as_ne h30, as_ne h3]
  by_cases h6 : l = ((6, 0, 0) : am_L) ∧ j = 0
  · obtain ⟨rfl, rfl⟩ := h6
    exact as_eq _ _ _ _
  · rw [as_ne h6]
    exact am_M0_0 h j
theorem miT {t n k j : Nat} (h : t ≠ 0) (h3 : t ≠ 3) (h30 : t ≠ 30) : am_Mi L xs (t, n, k) j = nI 0 := mi0 h (fun q => h3 (pl_e q.1).1) (fun q => h30 (pl_e q.1).1)
def a_0 : Nat → Nat := fun _ => 0
theorem ok_a0 : ml_ok 1000 a_0 := ⟨⟨Nat.zero_le _, Nat.zero_le _, fun _ _ => Nat.zero_le _, fun _ _ _ _ _ _ => (by decide : 0 < 100), fun _ _ _ _ => (by decide : 0 < 100), fun _ _ _ => (by decide : 0 < 1000), fun _ _ _ => (by decide : 0 < 100)⟩, fun m hm => absurd hm (Nat.not_lt_zero m)⟩
theorem nw_a0 : nw 0 a_0 (am_Mi L xs) [] := by
  have no : ∀ m, ¬ m < a_0 2 := fun m hm => absurd hm (Nat.not_lt_zero m)
  have no1 : ∀ m, ¬ m < a_0 1 := fun m hm => absurd hm (Nat.not_lt_zero m)
  refine ⟨⟨fun t k j hG => ?_, fun m hm => absurd hm (no m)⟩, fun _ => [], fun c hc => absurd hc (no1 c), ⟨miT (by decide) (by decide) (by decide), fun i x hx => absurd hx (by simp)⟩, ⟨fun c hc => absurd hc (no1 c), ⟨List.Pairwise.nil, fun m => ⟨fun q => absurd q (by simp), fun q => absurd q.1 (no m)⟩⟩, fun m hm => absurd hm (no m)⟩, fun m hm => absurd hm (no m)⟩
  have := hG.t
  exact miT (by omega) (by omega) (by omega)
theorem ml_a0 : mlS a_0 [] none [] (nI 0, nI 0, nI 0) (-1) [] (am_Mi L xs) := by
  have f : ∀ j, j ≠ 14 → am_Mi L xs (30, 0, 0) j = nI 0 := fun j hj => mi0 (by decide) (fun q => pl_t (by decide) q.1) (fun q => hj q.2)
  exact ⟨fun j => miT (by decide) (by decide) (by decide), ⟨f 4 (by decide), Nat.zero_le _, fun i h hi => absurd hi (by simp)⟩, ⟨f 6 (by decide), fun b hb => absurd hb (by simp)⟩, ⟨f 10 (by decide), fun i c hc => absurd hc (by simp)⟩, ⟨f 16 (by decide), f 17 (by decide), f 18 (by decide)⟩, as_eq _ _ _ _, ⟨f 8 (by decide), fun i c hc => absurd hc (by simp)⟩⟩
theorem cl_a0 : clS a_0 [] none [] (nI 0, nI 0, nI 0) (-1) [] (am_Mi L xs) := by
  have f : ∀ j, j ≠ 8 → am_Mi L xs (3, 0, 0) j = nI 0 := fun j hj => mi0 (by decide) (fun q => hj q.2) (fun q => pl_t (by decide) q.1)
  have m : ∀ t j, t ≠ 0 → t ≠ 3 → t ≠ 30 → am_Mi L xs (t, 0, 0) j = nI 0 := fun t j h0 h3 h30 => miT h0 h3 h30
  refine ⟨⟨[], nw_a0⟩, ⟨0, by decide, m 4 1 (by decide) (by decide) (by decide), m 4 2 (by decide) (by decide) (by decide), Nat.zero_le _, fun i h hi => absurd hi (by simp)⟩, ⟨f 3 (by decide), fun b hb => absurd hb (by simp)⟩, ⟨⟨m 8 1 (by decide) (by decide) (by decide), fun i c hc => absurd hc (by simp)⟩, ?_, f 10 (by decide), fun i c hc => absurd hc (by simp)⟩, ⟨m 6 0 (by decide) (by decide) (by decide), m 6 1 (by decide) (by decide) (by decide), m 6 2 (by decide) (by decide) (by decide)⟩⟩
  unfold am_Mi
  rw [as_t (by decide), as_eq]
theorem lw_a0 : lwI 1000 (am_Mi L xs) := ⟨a_0, [], none, [], _, _, [], ml_a0, cl_a0, ok_a0, fun h hh => absurd hh (by simp), fun b hb => absurd hb (by simp), ⟨Nat.zero_le _, fun c hc => absurd hc (by simp)⟩, Nat.zero_le _, fun c hc => absurd hc (by simp)⟩
end AmLi
theorem am_law : am_Law := by
  intro L xs hL
  obtain ⟨p1, q1, e1, f1, g1⟩ := cM65 (d := 8) (M := am_M0 L xs) (p := 0 + 1) (q := 0 + 11)
  obtain ⟨q2, e2, f2⟩ := cM113 (d := 11) (M := am_set (am_set (am_M0 L xs) (6, 0, 0) 0 (nI 0)) (3, 0, 0) 8 (-1)) (T := tS8) (p := p1 + 1) (q := q1 + 21)
  have hMi : am_Mi L xs (0, 0, 1) 0 = nI L := by
    unfold am_Mi
    rw [as_t (by decide), as_t (by decide), as_t (by decide)]
    unfold am_M0
    rw [if_neg (by decide), if_pos ⟨rfl, rfl⟩]
  obtain ⟨M', w', e3, h1, h2⟩ := lwl hL (L / 4 + 1) 0 1000 (am_Mi L xs) (p1 + 1 + 8 + 1 + 1, q2 + 1 + 1, 0, 0) none none none (by omega) (by omega) lw_a0 (by decide) (by omega) hMi
  dsimp only at h1 h2
  refine ⟨12, M', am_Z w', by decide, ?_, by show w'.1 ≤ _; omega, by show w'.2.1 ≤ _; omega⟩
  refine (am_ev_eq 12 227 _ _ _).trans ?_
  show am_rn (am_ev 12) 227 0 [some (am_P (0, 0, 0)), none, none, none, none, none, none, none, none] [] (am_M0 L xs) (am_Y tZ 0 0 0) = _
  refine Eq.trans (cy_new (l := (3, 0, 0)) (ix := 8) (ci := 8) (n := 11) (by decide +kernel) (by decide +kernel) (by decide +kernel) (nlc (by decide) (by decide) (by decide) (by decide) (by decide) (by decide))) ?_
  refine Eq.trans (rl_dup (by decide +kernel) rfl) ?_
  refine Eq.trans (cy_inv (ix := 127) (y := 65) (o := 8) (k := 2) (by decide +kernel) (by decide +kernel) (Or.inl rfl) (by decide +kernel) (by decide +kernel) ⟨rfl, rfl⟩ rfl ck3 (by decide) e1) ?_
  refine Eq.trans (rl_astoren (j := 1) (ls' := [some (am_P (0, 0, 0)), some (am_P (3, 0, 0)), none, none, none, none, none, none, none]) (by decide +kernel) rfl rfl) ?_
  refine Eq.trans (cy_new (l := (30, 0, 0)) (ix := 128) (ci := 9) (n := 21) (by decide +kernel) (by decide +kernel) (by decide +kernel) (nlc (by decide) (by decide) (by decide) (by decide) (by decide) (by decide))) ?_
  refine Eq.trans (rl_dup (by decide +kernel) rfl) ?_
  refine Eq.trans (cy_inv (ix := 130) (y := 113) (o := 9) (k := 2) (by decide +kernel) (by decide +kernel) (Or.inl rfl) (by decide +kernel) (by decide +kernel) ⟨rfl, rfl⟩ rfl ck30 (by decide) e2) ?_
  refine Eq.trans (rl_astoren (j := 2) (ls' := [some (am_P (0, 0, 0)), some (am_P (3, 0, 0)), some (am_P (30, 0, 0)), none, none, none, none, none, none]) (by decide +kernel) rfl rfl) ?_
  refine Eq.trans (rl_iconst (c := 1) (k := 1) (by decide +kernel) (by decide)) ?_
  refine Eq.trans (cy_long (l := (1, 0, 0)) (by decide +kernel) (nlc (by decide) (by decide) (by decide) (by decide) (by decide) (by decide))) ?_
  refine Eq.trans (rl_astoren (j := 3) (ls' := [some (am_P (0, 0, 0)), some (am_P (3, 0, 0)), some (am_P (30, 0, 0)), some (am_P (1, 0, 0)), none, none, none, none, none]) (by decide +kernel) rfl rfl) ?_
  refine Eq.trans (rl_iconst (c := 1) (k := 1) (by decide +kernel) (by decide)) ?_
  refine Eq.trans (cy_dbl (by decide +kernel)) ?_
  refine Eq.trans (rl_astore (j := 4) (ls' := [some (am_P (0, 0, 0)), some (am_P (3, 0, 0)), some (am_P (30, 0, 0)), some (am_P (1, 0, 0)), some (am_P (2, 0, 0)), none, none, none, none]) (by decide +kernel) rfl rfl) ?_
  refine Eq.trans (rl_iconst (c := 0) (k := nI 0) (by decide +kernel) (by decide)) ?_
  refine Eq.trans (rl_istore (j := 5) (ls' := L9 (nI 0) none none none) (by decide +kernel) rfl rfl) ?_
  rw [tX_all]
  exact e3
