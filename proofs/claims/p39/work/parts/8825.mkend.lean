/-! THE MAKING, WHOLE -/
def tZ : am_T := fun _ _ => none
def tS1 : am_T := am_setT (tNf 0 tZ) (3, 0, 0) 0 (some (13, 0, 0))
def tS2 : am_T := am_setT (tNf 1 tS1) (3, 0, 0) 1 (some (13, 1, 0))
def tS3 : am_T := am_setT (tNf 2 tS2) (3, 0, 0) 2 (some (13, 2, 0))
def tS4 : am_T := am_setT (tH 9 0 (am_setT tS3 (4, 0, 0) 0 (some (5, 0, 0)))) (3, 0, 0) 4 (some (4, 0, 0))
def tS5 : am_T := am_setT tS4 (3, 0, 0) 5 (some (6, 0, 0))
def tS6 : am_T := am_setT tS5 (3, 0, 0) 6 (some (7, 0, 0))
def tS7 : am_T := am_setT (tQ 20 0 (am_setT (am_setT tS6 (8, 0, 0) 0 (some (9, 0, 0))) (8, 0, 0) 2 (some (10, 0, 0)))) (3, 0, 0) 7 (some (8, 0, 0))
def tS8 : am_T := am_setT tS7 (3, 0, 0) 9 (some (12, 0, 0))
theorem tS1_no {m t x j : Nat} (h : m ≠ 0) (ht : t ≠ 3) : tS1 (t, m, x) j = none := (sT_t ht).trans (tNf_o (Or.inr (Or.inr h)))
theorem tS2_no {m t x j : Nat} (h : m ≠ 0) (h1 : m ≠ 1) (ht : t ≠ 3) : tS2 (t, m, x) j = none := (sT_t ht).trans ((tNf_o (Or.inr (Or.inr h1))).trans (tS1_no h ht))
theorem tS3_no {m t x j : Nat} (h : m ≠ 0) (h1 : m ≠ 1) (h2 : m ≠ 2) (ht : t ≠ 3) : tS3 (t, m, x) j = none := (sT_t ht).trans ((tNf_o (Or.inr (Or.inr h2))).trans (tS2_no h h1 ht))
section AmMz
variable {d : Nat} {M : am_M} {T : am_T} {c p q : Nat}
theorem cy_newL {call : Nat → List am_V → am_M → am_X → Option am_R} {z pc : Nat} {ls : am_S} {st : List am_V} (hc : am_cd z pc = some (.newarray .char)) : am_rn call z pc ls (am_I (nI 14) :: st) M (am_Y T 700 p q) = am_rn call z (pc + 2) ls (am_P (12, 0, 0) :: st) M (T, none, p + 1, q + 14, none, none) := by
  rw [am_rn_eq hc]
  show (if nI 14 < 0 then none else am_nu (am_Y T 700 p q) (2, (nI 14).toNatClampNeg, 0) (nI 14).toNatClampNeg fun l X => am_rn call z (pc + 2) ls (.inr (some l) :: st) M X) = _
  rw [if_neg (by decide), nI_clamp (by decide)]
  show (if am_ok (am_lo 700) = true ∧ am_ad (am_lo 700) = 700 ∧ am_kd (am_lo 700) = (2, 14, 0) ∧ (am_lo 700).1 ≠ 0 then am_rn call z (pc + 2) ls (.inr (some (am_lo 700)) :: st) M (T, am_nph 700, p + 1, q + 14, none, none) else none) = _
  have h1 : am_lo 700 = (12, 0, 0) := by decide
  rw [h1, if_pos (by decide), show am_nph 700 = none from if_pos rfl]
theorem cy_putN {call : Nat → List am_V → am_M → am_X → Option am_R} {z pc : Nat} {ls : am_S} {st : List am_V} {l v : am_L} {ix ci j : Nat} (hc : am_cd z pc = some (.putfield ix)) (hf : am_fl (am_own z) ix = some (ci, j)) (ho : am_fo z ci j = true) (hk : am_fk ci j = 3) (hl : am_ck l ci) (hv : am_ok v = true) : am_rn call z pc ls (am_P v :: am_P l :: st) M (T, none, p, q, none, none) = am_rn call z (pc + 3) ls st M (am_setT T l j (some v), none, p, q, none, none) := by
  rw [rn_putP hc hf ho hk]
  show am_chk (T, none, p, q, none, none) l ci (if am_al none v = true then am_rn call z (pc + 3) ls st M (am_setT T l j (some v), none, p, q, none, none) else none) = _
  have ha : ∀ u : am_L, am_ok u = true → am_al none u = true := fun u hu => by unfold am_al; rw [hu]; rfl
  unfold am_chk
  rw [if_pos ⟨ha l hl.1, hl.2⟩, if_pos (ha v hv)]
theorem cM65 : ∃ p' q', am_ev (d + 4) 65 [am_P (3, 0, 0)] M (am_Y tZ 1 p q) = some (.inl none, am_set (am_set M (6, 0, 0) 0 (nI 0)) (3, 0, 0) 8 (-1), (tS8, none, p', q', none, none)) ∧ p' = p + 700 ∧ q' ≤ q + 10000 := by
  obtain ⟨c1, p1, q1, e1, f1, g1, i1⟩ := cN33 (d := d + 1) (M := M) (T := tZ) (n := 0) (c := 1 + 1) (p := p + 1) (q := q + 10) (by decide) (by decide) (fun t x j _ _ => rfl)
  obtain rfl : c1 = 57 := f1
  obtain ⟨c2, p2, q2, e2, f2, g2, i2⟩ := cN33 (d := d + 1) (M := M) (T := tS1) (n := 1) (c := 57 + 1) (p := p1 + 1) (q := q1 + 10) (by decide) (by decide) (fun t x j h _ => tS1_no (by decide) (by omega))
  obtain rfl : c2 = 113 := f2
  obtain ⟨c3, p3, q3, e3, f3, g3, i3⟩ := cN33 (d := d + 1) (M := M) (T := tS2) (n := 2) (c := 113 + 1) (p := p2 + 1) (q := q2 + 10) (by decide) (by decide) (fun t x j h _ => tS2_no (by decide) (by decide) (by omega))
  obtain rfl : c3 = 169 := f3
  obtain ⟨c4, p4, q4, e4, f4, g4, i4⟩ := cM21 (d := d) (M := M) (T := tS3) (c := 169 + 1) (p := p3 + 1) (q := q3 + 3) rfl (fun m t x j h1 h2 _ => tS3_no (by omega) (by omega) (by omega) (by omega))
  obtain rfl : c4 = 675 := f4
  obtain ⟨c5, p5, q5, e5, f5, g5, i5⟩ := cM2 (d := d + 1) (M := am_set M (6, 0, 0) 0 (nI 0)) (T := tS6) (c := 677 + 1) (p := p4 + 1 + 1 + 1) (q := q4 + 3 + 4 + 5) rfl
  obtain rfl : c5 = 700 := f5
  refine ⟨p5 + 1, q5 + 14, ?_, by omega, by omega⟩
  refine (am_ev_eq (d + 3) 65 _ M _).trans ?_
  show am_rn (am_ev (d + 3)) 65 0 [some (am_P (3, 0, 0))] [] M _ = _
  refine Eq.trans (rl_aloadn (j := 0) (by decide +kernel) rfl) ?_
  refine Eq.trans (cy_obj (ix := 3) (y := 0) (by decide +kernel) (by decide +kernel) rfl) ?_
  refine Eq.trans (rl_aloadn (j := 0) (by decide +kernel) rfl) ?_
  refine Eq.trans (cy_new (l := (13, 0, 0)) (ix := 9) (ci := 5) (n := 10) (by decide +kernel) (by decide +kernel) (by decide +kernel) (nl13 (by decide) (by decide))) ?_
  refine Eq.trans (rl_dup (by decide +kernel) rfl) ?_
  refine Eq.trans (cy_inv (ix := 11) (y := 33) (o := 5) (k := 2) (by decide +kernel) (by decide +kernel) (Or.inl rfl) (by decide +kernel) (by decide +kernel) ⟨rfl, rfl⟩ rfl (ck13 (by decide)) (by decide) e1) ?_
  refine Eq.trans (cy_putP (ix := 12) (ci := 8) (j := 0) (by decide +kernel) (by decide +kernel) (by decide +kernel) (by decide +kernel) ck3 (by decide) (by decide) (by decide)) ?_
  refine Eq.trans (rl_aloadn (j := 0) (by decide +kernel) rfl) ?_
  refine Eq.trans (cy_new (l := (13, 1, 0)) (ix := 9) (ci := 5) (n := 10) (by decide +kernel) (by decide +kernel) (by decide +kernel) (nl13 (by decide) (by decide))) ?_
  refine Eq.trans (rl_dup (by decide +kernel) rfl) ?_
  refine Eq.trans (cy_inv (ix := 11) (y := 33) (o := 5) (k := 2) (by decide +kernel) (by decide +kernel) (Or.inl rfl) (by decide +kernel) (by decide +kernel) ⟨rfl, rfl⟩ rfl (ck13 (by decide)) (by decide) e2) ?_
  refine Eq.trans (cy_putP (ix := 16) (ci := 8) (j := 1) (by decide +kernel) (by decide +kernel) (by decide +kernel) (by decide +kernel) ck3 (by decide) (by decide) (by decide)) ?_
  refine Eq.trans (rl_aloadn (j := 0) (by decide +kernel) rfl) ?_
  refine Eq.trans (cy_new (l := (13, 2, 0)) (ix := 9) (ci := 5) (n := 10) (by decide +kernel) (by decide +kernel) (by decide +kernel) (nl13 (by decide) (by decide))) ?_
  refine Eq.trans (rl_dup (by decide +kernel) rfl) ?_
  refine Eq.trans (cy_inv (ix := 11) (y := 33) (o := 5) (k := 2) (by decide +kernel) (by decide +kernel) (Or.inl rfl) (by decide +kernel) (by decide +kernel) ⟨rfl, rfl⟩ rfl (ck13 (by decide)) (by decide) e3) ?_
  refine Eq.trans (cy_putP (ix := 19) (ci := 8) (j := 2) (by decide +kernel) (by decide +kernel) (by decide +kernel) (by decide +kernel) ck3 (by decide) (by decide) (by decide)) ?_
  refine Eq.trans (rl_aloadn (j := 0) (by decide +kernel) rfl) ?_
  refine Eq.trans (cy_new (l := (4, 0, 0)) (ix := 22) (ci := 3) (n := 3) (by decide +kernel) (by decide +kernel) (by decide +kernel) (nlc (by decide) (by decide) (by decide) (by decide) (by decide) (by decide))) ?_
  refine Eq.trans (rl_dup (by decide +kernel) rfl) ?_
  refine Eq.trans (cy_inv (ix := 24) (y := 21) (o := 3) (k := 2) (by decide +kernel) (by decide +kernel) (Or.inl rfl) (by decide +kernel) (by decide +kernel) ⟨rfl, rfl⟩ rfl (ck4) (by decide) e4) ?_
  refine Eq.trans (cy_putP (ix := 25) (ci := 8) (j := 4) (by decide +kernel) (by decide +kernel) (by decide +kernel) (by decide +kernel) ck3 (by decide) (by decide) (by decide)) ?_
  refine Eq.trans (rl_aloadn (j := 0) (by decide +kernel) rfl) ?_
  refine Eq.trans (cy_new (l := (6, 0, 0)) (ix := 29) (ci := 6) (n := 3) (by decide +kernel) (by decide +kernel) (by decide +kernel) (nlc (by decide) (by decide) (by decide) (by decide) (by decide) (by decide))) ?_
  refine Eq.trans (rl_dup (by decide +kernel) rfl) ?_
  refine Eq.trans (cy_inv (ix := 31) (y := 62) (o := 6) (k := 3) (by decide +kernel) (by decide +kernel) (Or.inr rfl) (by decide +kernel) (by decide +kernel) ⟨rfl, rfl⟩ rfl (ck6) (by decide) (cM62 (by decide))) ?_
  refine Eq.trans (cy_putP (ix := 32) (ci := 8) (j := 5) (by decide +kernel) (by decide +kernel) (by decide +kernel) (by decide +kernel) ck3 (by decide) (by decide) (by decide)) ?_
  refine Eq.trans (rl_aloadn (j := 0) (by decide +kernel) rfl) ?_
  refine Eq.trans (cy_new (l := (7, 0, 0)) (ix := 36) (ci := 0) (n := 4) (by decide +kernel) (by decide +kernel) (by decide +kernel) (nlc (by decide) (by decide) (by decide) (by decide) (by decide) (by decide))) ?_
  refine Eq.trans (rl_dup (by decide +kernel) rfl) ?_
  refine Eq.trans (cy_inv (ix := 38) (y := 0) (o := 0) (k := 3) (by decide +kernel) (by decide +kernel) (Or.inr rfl) (by decide +kernel) (by decide +kernel) ⟨rfl, rfl⟩ rfl (ck7) (by decide) c0) ?_
  refine Eq.trans (cy_putP (ix := 39) (ci := 8) (j := 6) (by decide +kernel) (by decide +kernel) (by decide +kernel) (by decide +kernel) ck3 (by decide) (by decide) (by decide)) ?_
  refine Eq.trans (rl_aloadn (j := 0) (by decide +kernel) rfl) ?_
  refine Eq.trans (cy_new (l := (8, 0, 0)) (ix := 43) (ci := 1) (n := 5) (by decide +kernel) (by decide +kernel) (by decide +kernel) (nlc (by decide) (by decide) (by decide) (by decide) (by decide) (by decide))) ?_
  refine Eq.trans (rl_dup (by decide +kernel) rfl) ?_
  refine Eq.trans (cy_inv (ix := 45) (y := 2) (o := 1) (k := 2) (by decide +kernel) (by decide +kernel) (Or.inl rfl) (by decide +kernel) (by decide +kernel) ⟨rfl, rfl⟩ rfl (ck8) (by decide) e5) ?_
  refine Eq.trans (cy_putP (ix := 46) (ci := 8) (j := 7) (by decide +kernel) (by decide +kernel) (by decide +kernel) (by decide +kernel) ck3 (by decide) (by decide) (by decide)) ?_
  refine Eq.trans (rl_aloadn (j := 0) (by decide +kernel) rfl) ?_
  refine Eq.trans (rl_iconst (c := -1) (k := -1) (by decide +kernel) (by decide)) ?_
  refine Eq.trans (cy_putI (ix := 50) (ci := 8) (j := 8) (by decide +kernel) (by decide +kernel) (by decide +kernel) (by decide +kernel) ck3 (by decide)) ?_
  refine Eq.trans (rl_aloadn (j := 0) (by decide +kernel) rfl) ?_
  refine Eq.trans (rl_bipush (c := 14) (k := nI 14) (by decide +kernel) (by decide)) ?_
  refine Eq.trans (cy_newL (by decide +kernel)) ?_
  refine Eq.trans (cy_putN (ix := 54) (ci := 8) (j := 9) (by decide +kernel) (by decide +kernel) (by decide +kernel) (by decide +kernel) ck3 (by decide)) ?_
  exact rl_ret (by decide +kernel) rfl
end AmMz
