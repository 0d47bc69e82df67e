/-! THE FIRST OBJECT'S RUN: WHEN THE MESSAGES WILL ARRIVE -/
theorem nf_at {P : Nat → Bool} {m : Nat} : ∀ {r k : Nat}, (∀ q, k ≤ q → q < m → P q = false) → k ≤ m → m < k + r → P m = true → nf P r k = some m := by
  intro r
  induction r with
  | zero => intro k _ h1 h2 _; omega
  | succ r ih =>
    intro k h h1 h2 hp
    unfold nf
    by_cases e : k = m
    · rw [e, if_pos hp]
    · rw [if_neg (by rw [h k (Nat.le_refl _) (by omega)]; decide)]
      exact ih (fun q q1 q2 => h q (by omega) q2) (by omega) (by omega) hp
theorem tr_no0 : ∀ q, q < 32 → ¬ rwl (rH (24 + q)) (60 + 19 * 0 + 6) = 1 := by decide +kernel
theorem tr_no1 : ∀ q, q < 56 → ¬ rwl (rH (24 + q)) (60 + 19 * 1 + 6) = 1 := by decide +kernel
theorem tr_v {B m t : Nat} (hB0 : 1000 ≤ B) (h : ml_ok B (rwl (rH 0))) (ht : 1 ≤ t) (ht2 : t ≤ 56) (h1 : ∀ q, q < t → ¬ rwl (rH (24 + q)) (60 + 19 * m + 6) = 1) (h2 : rwl (rH (24 + t)) (60 + 19 * m + 6) = 1) : nf (tr_P (rwl (rH 24)) m) 400 1 = some t := by
  have key : ∀ q, q ≤ 56 → tr_P (rwl (rH 24)) m q = decide (rwl (rH (24 + q)) (60 + 19 * m + 6) = 1) := fun q hq => by
    unfold tr_P ml_h6
    rw [rH_pr hB0 h 24 q (by omega)]
  refine nf_at (fun q q1 q2 => ?_) ht (by omega) ?_
  · rw [key q (by omega), decide_eq_false (h1 q q2)]
  · rw [key t ht2, decide_eq_true h2]
theorem tri_0 {B : Nat} (hB0 : 1000 ≤ B) (h : ml_ok B (rwl (rH 0))) : q_tri (rwl (rH 24)) (nI 0) 0 = .inl (nI 32) := by
  unfold q_tri
  rw [if_pos (by decide +kernel), if_pos (by decide +kernel), show cN (nI 0) = 0 from cN_nI (by decide), tr_v (t := 32) hB0 h (by decide) (by decide) tr_no0 (by decide +kernel)]
  rfl
theorem tri_1 {B : Nat} (hB0 : 1000 ≤ B) (h : ml_ok B (rwl (rH 0))) : q_tri (rwl (rH 24)) (nI 1) 1 = .inl (nI 8) := by
  have e : ml_lost (rwl (rH (24 + 56))) 1 = 8 := by decide +kernel
  unfold q_tri
  rw [if_pos (by decide +kernel), if_pos (by decide +kernel), show cN (nI 1) = 1 from cN_nI (by decide), tr_v (t := 56) hB0 h (by decide) (by decide) tr_no1 (by decide +kernel)]
  show Sum.inl (if (1 : Nat) = 0 then nI 56 else nI (ml_lost (ml_ps (rwl (rH 24)) 56).1 1)) = _
  rw [if_neg (by decide), rH_pr hB0 h 24 56 (by decide), e]
section Kr8
variable {B : Nat} {M : am_M} {w : am_W4} {sv : Option (Nat → Nat)}
theorem p1f (hB0 : 1000 ≤ B) (hB : B < 900000000) (h0 : ml_ok B (rwl (rH 0))) (hg : gL 17 B (rwl (rH 24)) sv M) : ∃ M' w', am_rn (am_ev 15) 227 359 (L2 16) [am_I (nI 8)] M (am_Z w) = am_rn (am_ev 15) 227 390 (L2 16) [am_I (nI 1)] M' (am_Z w') ∧ gL 18 (B + 20000) (rwl (rH 56)) sv M' ∧ clF M M' ∧ wle 10 w w' := by
  obtain ⟨hs, ⟨⟨h1, h2, h3⟩, h4⟩, R, e, hl⟩ := hg
  obtain ⟨M1, w1, e1, q1, f1, u1⟩ := d133 (d := 4) (w := w) (x := nI 0) hB0 (by omega) h1 hl
  rw [tri_0 hB0 h0] at e1
  obtain ⟨M2, w2, e2, q2, f2, u2⟩ := d134 (d := 4) (w := w1) (x := nI 1) hB0 (by omega) h1 q1
  rw [tri_1 hB0 h0] at e2
  obtain ⟨M3, e3, g3, f3, -⟩ := gOL (d := 4) (w := w2) (n := 17) (zz := 122) (as := [am_P (3, 0, 0), am_I (nI 32)]) hB0 ⟨hs, ⟨⟨h1, h2, h3⟩, h4⟩, R, e, q2⟩ (h_pas (i := 24) (k := 32) hB0 h0 (by decide) (by decide) (by decide)) (fun hs R e hok h => a122 (d := 5) hB0 (by omega) hok h)
  refine ⟨M3, w2, ?_, g3, f1.tr (f2.tr f3), u1.tr u2 (by decide)⟩
  rw [b227_359, if_pos rfl, show am_ev 15 133 _ _ _ = _ from e1]
  simp only [am_cb_i, am_cb_e, Option.toList_some, Option.toList_none, List.cons_append, List.nil_append]
  rw [b227_369, if_pos (show qvl id (.inl (nI 32)) = nI 32 from rfl), show am_ev 15 134 _ _ _ = _ from e2]
  simp only [am_cb_i, am_cb_e, Option.toList_some, Option.toList_none, List.cons_append, List.nil_append]
  rw [b227_379, if_pos (show qvl id (.inl (nI 8)) = nI 8 from rfl), show am_ev 15 122 _ _ _ = _ from e3]
  simp only [am_cb_i, am_cb_e, Option.toList_some, Option.toList_none, List.cons_append, List.nil_append]
  rfl
end Kr8
