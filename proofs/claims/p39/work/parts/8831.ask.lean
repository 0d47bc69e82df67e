/-! ALL THAT THE OBJECT ANSWERS, SUMMED -/
/-- room: at most n exceptions -/
def wle (n : Nat) (w w' : am_W4) : Prop := (w.1 ≤ w'.1 ∧ w'.1 ≤ w.1 + n ∧ w.2.1 ≤ w'.2.1 ∧ w'.2.1 ≤ w.2.1 + 6 * n) ∧ w'.2.2 = w.2.2
theorem wle.rf {n : Nat} (w : am_W4) : wle n w w := ⟨⟨Nat.le_refl _, by omega, Nat.le_refl _, by omega⟩, rfl⟩
theorem wle.bw (w : am_W4) : wle 1 w (am_bw w) := ⟨⟨Nat.le_succ _, Nat.le_refl _, Nat.le_add_right _ _, Nat.le_refl _⟩, rfl⟩
theorem wle.tr {n m k : Nat} {w w' w'' : am_W4} (h : wle n w w') (h' : wle m w' w'') (hk : n + m ≤ k) : wle k w w'' := by
  obtain ⟨⟨a1, a2, a3, a4⟩, a5⟩ := h
  obtain ⟨⟨b1, b2, b3, b4⟩, b5⟩ := h'
  exact ⟨⟨by omega, by omega, by omega, by omega⟩, b5.trans a5⟩
theorem wle.mono {n k : Nat} {w w' : am_W4} (h : wle n w w') (hk : n ≤ k) : wle k w w' := h.tr (wle.rf (n := 0) w') (by omega)
/-- an end with a value, the memory as P says -/
def hR (P : am_M → Prop) (M : am_M) (w : am_W4) (n : Nat) (r : Option am_R) (v : am_V) : Prop := ∃ M' w', r = some (.inl (some v), M', am_Z w') ∧ P M' ∧ clF M M' ∧ wle n w w'
def qvl (lv : Int32 → Int32) : Qo → Int32
  | .inl v => lv v
  | .inr (_, k) => qc k
abbrev qv : Qo → Int32 := qvl id
theorem hR_q {P : am_M → Prop} {M : am_M} {w : am_W4} {lv : Int32 → Int32} {cd : List (Nat × Nat)} {r0 r : Option am_R} {o : Qo} (h1 : clQ M w r0 o) (h2 : hlp lv cd w r0 r) (h3 : ∀ E k, o = .inr (E, k) → (E, k) ∈ cd) (hP : P M) : hR P M w 1 r (am_I (qvl lv o)) := by
  cases o with
  | inl v => exact ⟨M, w, h2.1 v M h1, hP, clF.rf M, wle.rf w⟩
  | inr q =>
    obtain ⟨E, k⟩ := q
    exact ⟨M, am_bw w, h2.2 E k M _ (h3 E k rfl) h1, hP, clF.rf M, wle.bw w⟩
def lok (ln : List Int32) : Prop := ln.length ≤ 14 ∧ ∀ c ∈ ln, am_pc 2 c = true
/-- the object's state, its line aside -/
def lS (a : Nat → Nat) (hs : List (Nat → Nat)) (sv : Option (Nat → Nat)) (tx : List Int32) (R : Int32 × Int32 × Int32) (e : Int32) (M : am_M) : Prop := ∃ ln, clS a hs sv tx R e ln M ∧ lok ln
theorem hR_u {a : Nat → Nat} {hs : List (Nat → Nat)} {sv : Option (Nat → Nat)} {tx ln : List Int32} {R : Int32 × Int32 × Int32} {e : Int32} {M : am_M} {w : am_W4} {lv : Int32 → Int32} {cd : List (Nat × Nat)} {r0 r : Option am_R} {o : Qo} (h1 : clU a hs sv tx R e ln M w r0 o) (h2 : hlp lv cd w r0 r) (h3 : ∀ E k, o = .inr (E, k) → (E, k) ∈ cd) (hl : lok ln) : hR (lS a hs sv tx R e) M w 1 r (am_I (qvl lv o)) := by
  cases o with
  | inl v =>
    obtain ⟨M', e1, e2, e3⟩ := h1
    exact ⟨M', w, h2.1 v M' e1, ⟨ln, e2, hl⟩, e3, wle.rf w⟩
  | inr q =>
    obtain ⟨E, k⟩ := q
    obtain ⟨M', e1, e2, e3⟩ := h1
    exact ⟨M', am_bw w, h2.2 E k M' _ (h3 E k rfl) e1, ⟨ln, e2, hl⟩, e3, wle.bw w⟩
/-- the sum goes on -/
def sm (s : Int64) (v : Int32) : Int64 := 31 * s + v.toInt64
def bF (g : Nat → Int64 → Int64) : Nat → Nat → Int64 → Int64
  | 0, _, s => s
  | r + 1, k, s => bF g r (k + 1) (g k s)
theorem lp {τ : Type} {Q : am_M → Prop} {K n : Nat} {f : Int64 → Nat → τ → am_M → am_W4 → Option am_R} {g : Nat → Int64 → Int64} (h : ∀ i x t M w, i < n → Q M → ∃ t' M' w', f x i t M w = f (g i x) (i + 1) t' M' w' ∧ Q M' ∧ clF M M' ∧ wle K w w') : ∀ r k x t M w, k + r = n → Q M → ∃ t' M' w', f x k t M w = f (bF g r k x) n t' M' w' ∧ Q M' ∧ clF M M' ∧ wle (r * K) w w' := by
  intro r
  induction r with
  | zero => intro k x t M w hk hQ; exact ⟨t, M, w, by rw [show k = n by omega]; rfl, hQ, clF.rf M, wle.rf w⟩
  | succ r ih =>
    intro k x t M w hk hQ
    obtain ⟨t1, M1, w1, e1, q1, f1, u1⟩ := h k x t M w (by omega) hQ
    obtain ⟨t2, M2, w2, e2, q2, f2, u2⟩ := ih (k + 1) (g k x) t1 M1 w1 (by omega) q1
    exact ⟨t2, M2, w2, e1.trans e2, q2, f1.tr f2, u1.tr u2 (by rw [Nat.succ_mul]; omega)⟩
section Kak
variable {d B : Nat} {M : am_M} {a : Nat → Nat} {w : am_W4} {hs : List (Nat → Nat)} {sv : Option (Nat → Nat)} {tx ln : List Int32} {R : Int32 × Int32 × Int32} {e : Int32} {x y : Int32}
theorem q_cnv_c : ∀ E k, q_cnv a x y = .inr (E, k) → (E, k) ∈ ([(1, 1), (2, 2)] : List (Nat × Nat)) := by
  intro E k h
  unfold q_cnv at h
  repeat' split at h
  all_goals first | (cases h; decide) | cases h
theorem a123 (hB : B < 1073741824) (hok : ml_ok B a) (h : lS a hs sv tx R e M) : hR (lS a hs sv tx R e) M w 1 (am_ev (d + 3 + 1) 123 [am_P (3, 0, 0), am_I x, am_I y] M (am_Z w)) (am_I (qvl id (q_cnv a x y))) := by
  obtain ⟨ln, hc, hl⟩ := h
  exact hR_q (k75 (d := d) hB hok hc) h123 q_cnv_c ⟨ln, hc, hl⟩
theorem q_rng_c : ∀ E k, q_rng a x y = .inr (E, k) → (E, k) ∈ ([(1, 1), (2, 2)] : List (Nat × Nat)) := by
  intro E k h
  unfold q_rng at h
  repeat' split at h
  all_goals first | (cases h; decide) | cases h
theorem a124 (hok : ml_ok B a) (h : lS a hs sv tx R e M) : hR (lS a hs sv tx R e) M w 1 (am_ev (d + 3 + 1) 124 [am_P (3, 0, 0), am_I x, am_I y] M (am_Z w)) (am_I (qvl id (q_rng a x y))) := by
  obtain ⟨ln, hc, hl⟩ := h
  exact hR_q (k76 (d := d) hok hc) h124 q_rng_c ⟨ln, hc, hl⟩
theorem q_psl_c : ∀ E k, q_psl a x = .inr (E, k) → (E, k) ∈ ([(2, 1)] : List (Nat × Nat)) := by
  intro E k h
  unfold q_psl at h
  repeat' split at h
  all_goals first | (cases h; decide) | cases h
theorem a125 (h : lS a hs sv tx R e M) : hR (lS a hs sv tx R e) M w 1 (am_ev (d + 3 + 1) 125 [am_P (3, 0, 0), am_I x] M (am_Z w)) (am_I (qvl id (q_psl a x))) := by
  obtain ⟨ln, hc, hl⟩ := h
  exact hR_q (k77 (d := d + 1) hc) h125 q_psl_c ⟨ln, hc, hl⟩
theorem q_msg_c : ∀ E k, q_msg a x y = .inr (E, k) → (E, k) ∈ ([(1, 1), (2, 2)] : List (Nat × Nat)) := by
  intro E k h
  unfold q_msg at h
  repeat' split at h
  all_goals first | (cases h; decide) | cases h
theorem a126 (hok : ml_ok B a) (h : lS a hs sv tx R e M) : hR (lS a hs sv tx R e) M w 1 (am_ev (d + 3 + 1) 126 [am_P (3, 0, 0), am_I x, am_I y] M (am_Z w)) (am_I (qvl id (q_msg a x y))) := by
  obtain ⟨ln, hc, hl⟩ := h
  exact hR_q (k85 (d := d) hok hc) h126 q_msg_c ⟨ln, hc, hl⟩
theorem q_sig_c : ∀ E k, q_sig a x y = .inr (E, k) → (E, k) ∈ ([(1, 1)] : List (Nat × Nat)) := by
  intro E k h
  unfold q_sig at h
  repeat' split at h
  all_goals first | (cases h; decide) | cases h
theorem a127 (hok : ml_ok B a) (h : lS a hs sv tx R e M) : hR (lS a hs sv tx R e) M w 1 (am_ev (d + 3 + 1) 127 [am_P (3, 0, 0), am_I x, am_I y] M (am_Z w)) (am_I (qvl id (q_sig a x y))) := by
  obtain ⟨ln, hc, hl⟩ := h
  exact hR_q (k86 (d := d) hok hc) h127 q_sig_c ⟨ln, hc, hl⟩
theorem q_mas_c : ∀ E k, q_mas a x = .inr (E, k) → (E, k) ∈ ([(1, 1)] : List (Nat × Nat)) := by
  intro E k h
  unfold q_mas at h
  repeat' split at h
  all_goals first | (cases h; decide) | cases h
theorem a128 (hok : ml_ok B a) (h : lS a hs sv tx R e M) : hR (lS a hs sv tx R e) M w 1 (am_ev (d + 3 + 1) 128 [am_P (3, 0, 0), am_I x] M (am_Z w)) (am_I (qvl id (q_mas a x))) := by
  obtain ⟨ln, hc, hl⟩ := h
  exact hR_q (k87 (d := d) hok hc) h128 q_mas_c ⟨ln, hc, hl⟩
theorem q_que_c : ∀ E k, q_que a x y = .inr (E, k) → (E, k) ∈ ([(1, 1), (3, 2)] : List (Nat × Nat)) := by
  intro E k h
  unfold q_que at h
  repeat' split at h
  all_goals first | (cases h; decide) | cases h
theorem a129 (hok : ml_ok B a) (h : lS a hs sv tx R e M) : hR (lS a hs sv tx R e) M w 1 (am_ev (d + 3 + 1) 129 [am_P (3, 0, 0), am_I x, am_I y] M (am_Z w)) (am_I (qvl id (q_que a x y))) := by
  obtain ⟨ln, hc, hl⟩ := h
  exact hR_q (k88 (d := d) hok hc) h129 q_que_c ⟨ln, hc, hl⟩
theorem q_arr_c : ∀ E k, q_arr a x = .inr (E, k) → (E, k) ∈ ([(3, 1)] : List (Nat × Nat)) := by
  intro E k h
  unfold q_arr at h
  repeat' split at h
  all_goals first | (cases h; decide) | cases h
theorem a130 (hok : ml_ok B a) (h : lS a hs sv tx R e M) : hR (lS a hs sv tx R e) M w 1 (am_ev (d + 3 + 1) 130 [am_P (3, 0, 0), am_I x] M (am_Z w)) (am_I (qvl id (q_arr a x))) := by
  obtain ⟨ln, hc, hl⟩ := h
  exact hR_q (k89 (d := d + 2) hok hc) h130 q_arr_c ⟨ln, hc, hl⟩
theorem q_str_c : ∀ E k, q_str a x y = .inr (E, k) → (E, k) ∈ ([(1, 1), (3, 2)] : List (Nat × Nat)) := by
  intro E k h
  unfold q_str at h
  repeat' split at h
  all_goals first | (cases h; decide) | cases h
theorem a131 (hok : ml_ok B a) (h : lS a hs sv tx R e M) : hR (lS a hs sv tx R e) M w 1 (am_ev (d + 3 + 1) 131 [am_P (3, 0, 0), am_I x, am_I y] M (am_Z w)) (am_I (qvl id (q_str a x y))) := by
  obtain ⟨ln, hc, hl⟩ := h
  exact hR_q (k78 (d := d) hok hc) h131 q_str_c ⟨ln, hc, hl⟩
theorem q_wnd_c : ∀ E k, q_wnd a x y = .inr (E, k) → (E, k) ∈ ([(1, 1), (2, 2)] : List (Nat × Nat)) := by
  intro E k h
  unfold q_wnd at h
  repeat' split at h
  all_goals first | (cases h; decide) | cases h
theorem a132 (hB : B < 1073741824) (hok : ml_ok B a) (h : lS a hs sv tx R e M) : hR (lS a hs sv tx R e) M w 1 (am_ev (d + 3 + 1) 132 [am_P (3, 0, 0), am_I x, am_I y] M (am_Z w)) (am_I (qvl id (q_wnd a x y))) := by
  obtain ⟨ln, hc, hl⟩ := h
  exact hR_q (k80 (d := d) hB hok hc) h132 q_wnd_c ⟨ln, hc, hl⟩
theorem q_rnk_c : ∀ E k, q_rnk a x = .inr (E, k) → (E, k) ∈ ([(3, 1)] : List (Nat × Nat)) := by
  intro E k h
  unfold q_rnk at h
  repeat' split at h
  all_goals first | (cases h; decide) | cases h
theorem a135 (hB : B < 1073741824) (hok : ml_ok B a) (h : lS a hs sv tx R e M) : hR (lS a hs sv tx R e) M w 1 (am_ev (d + 4 + 1) 135 [am_P (3, 0, 0), am_I x] M (am_Z w)) (am_I (qvl id (q_rnk a x))) := by
  obtain ⟨ln, hc, hl⟩ := h
  exact hR_q (k94 (d := d) hB hok hc) h135 q_rnk_c ⟨ln, hc, hl⟩
theorem q_why_c : ∀ E k, q_why R x = .inr (E, k) → (E, k) ∈ ([(2, 1), (3, 2)] : List (Nat × Nat)) := by
  intro E k h
  unfold q_why at h
  repeat' split at h
  all_goals first | (cases h; decide) | cases h
theorem a138 (h : lS a hs sv tx R e M) : hR (lS a hs sv tx R e) M w 1 (am_ev (d + 3 + 1) 138 [am_P (3, 0, 0), am_I x] M (am_Z w)) (am_I (qvl id (q_why R x))) := by
  obtain ⟨ln, hc, hl⟩ := h
  exact hR_q (k101 (d := d + 2) hc) h138 q_why_c ⟨ln, hc, hl⟩
theorem ite_r {c : Prop} [Decidable c] {v : Int32} {o : Qo} {q : Nat × Nat} (h : (if c then (.inl v : Qo) else o) = .inr q) : o = .inr q := by
  by_cases hc : c
  · rw [if_pos hc] at h; cases h
  · rw [if_neg hc] at h; exact h
theorem q_all_c {hl tl : Nat} : ∀ E k, q_all a hl tl x = .inr (E, k) → (E, k) ∈ ([(2, 1)] : List (Nat × Nat)) := by
  intro E k h
  unfold q_all at h
  have h2 := ite_r (ite_r (ite_r (ite_r (ite_r (ite_r (ite_r (ite_r (ite_r (ite_r (ite_r (ite_r h)))))))))))
  cases h2
  decide
theorem a143 (hB : B < 1073741824) (hok : ml_ok B a) (h : lS a hs sv tx R e M) : hR (lS a hs sv tx R e) M w 1 (am_ev (d + 3 + 1) 143 [am_P (3, 0, 0), am_I x] M (am_Z w)) (am_I (qvl id (q_all a hs.length tx.length x))) := by
  obtain ⟨ln, hc, hl⟩ := h
  exact hR_q (k106 (d := d) hB hok hc) h143 q_all_c ⟨ln, hc, hl⟩
theorem q_hrd_c : ∀ E k, q_hrd a x y = .inr (E, k) → (E, k) ∈ ([(1, 1), (3, 2)] : List (Nat × Nat)) := by
  intro E k h
  unfold q_hrd at h
  repeat' split at h
  all_goals first | (cases h; decide) | cases h
theorem a146 (hok : ml_ok B a) (h : lS a hs sv tx R e M) : hR (lS a hs sv tx R e) M w 1 (am_ev (d + 3 + 1) 146 [am_P (3, 0, 0), am_I x, am_I y] M (am_Z w)) (am_I (qvl (fun v => if v = 0 then 0 else 1) (q_hrd a x y))) := by
  obtain ⟨ln, hc, hl⟩ := h
  exact hR_q (k79 (d := d) hok hc) h146 q_hrd_c ⟨ln, hc, hl⟩
theorem q_tri_c {kind : Nat} : ∀ E k, q_tri a x kind = .inr (E, k) → (E, k) ∈ ([(1, 1), (3, 2)] : List (Nat × Nat)) := by
  intro E k h
  unfold q_tri at h
  repeat' split at h
  all_goals first | (cases h; decide) | cases h
theorem a133 (hB0 : 1000 ≤ B) (hB : B < 1070000000) (hok : ml_ok B a) (h : lS a hs sv tx R e M) : hR (lS a hs sv tx R e) M w 1 (am_ev (d + 7 + 1) 133 [am_P (3, 0, 0), am_I x] M (am_Z w)) (am_I (qvl id (q_tri a x 0))) := by
  obtain ⟨ln, hc, hl⟩ := h
  exact hR_u (k90 (d := d) hB0 hB hok hc) h133 q_tri_c hl
theorem a134 (hB0 : 1000 ≤ B) (hB : B < 1070000000) (hok : ml_ok B a) (h : lS a hs sv tx R e M) : hR (lS a hs sv tx R e) M w 1 (am_ev (d + 7 + 1) 134 [am_P (3, 0, 0), am_I x] M (am_Z w)) (am_I (qvl id (q_tri a x 1))) := by
  obtain ⟨ln, hc, hl⟩ := h
  exact hR_u (k91 (d := d) hB0 hB hok hc) h134 q_tri_c hl
theorem a95 (hok : ml_ok B a) (h : lS a hs sv tx R e M) : hR (lS a hs sv tx R e) M w 1 (am_ev (d + 1) 95 [am_P (3, 0, 0)] M (am_Z w)) (am_I (qvl id (q_sm1 a))) := by
  obtain ⟨ln, hc, hl⟩ := h
  exact ⟨M, w, k95 (d := d) hok hc, ⟨ln, hc, hl⟩, clF.rf M, wle.rf w⟩
theorem a96 (hok : ml_ok B a) (h : lS a hs sv tx R e M) : hR (lS a hs sv tx R e) M w 1 (am_ev (d + 2) 96 [am_P (3, 0, 0)] M (am_Z w)) (am_I (qvl id (q_sm2 a))) := by
  obtain ⟨ln, hc, hl⟩ := h
  exact ⟨M, w, k96 (d := d) hok hc, ⟨ln, hc, hl⟩, clF.rf M, wle.rf w⟩
theorem a140 (hl : lok ln) (hx : am_in x ln.length) (h : clS a hs sv tx R e ln M) : am_ev (d + 1 + 1) 140 [am_P (3, 0, 0), am_I x] M (am_Z w) = some (.inl (some (am_I (qv (q_ltr ln x)))), M, am_Z w) := by
  obtain ⟨c, g1, g2⟩ := q_ltr_in hx
  have h1 := k105 (d := d) (w := w) (x := x) hl.1 hl.2 h
  rw [g2] at h1 ⊢
  exact h140.1 c M h1
theorem a139 {m : Nat} (hok : ml_ok B a) (hm : m < a 2) (h : lS a hs sv tx R e M) : ∃ M', am_ev (d + 3 + 1) 139 [am_P (3, 0, 0), am_I (nI m)] M (am_Z w) = some (.inl (some (am_I (nI (li a m).length))), M', am_Z w) ∧ clS a hs sv tx R e (li a m) M' ∧ clF M M' ∧ lok (li a m) := by
  obtain ⟨ln, hc, hl⟩ := h
  obtain ⟨M', e1, e2, e3⟩ := k102s (d := d) (w := w) hok hm hc
  have w3 := (hok.2 m hm).2.2.2.2.1
  exact ⟨M', h139.1 _ M' e1, e2, e3, li_len (by omega), li_pc⟩
/-- the means' bits -/
def me_F (a : Nat → Nat) : UInt32 := if a 1 = 0 then 3296346112 else FP.fdiv (FP.i2f (nI (me_e a))) (FP.i2f (nI (a 1)))
def me_D (a : Nat → Nat) : UInt64 := if a 2 = 0 then 13875388141788987392 else FP.ddiv (FP.i2d (nI (me_l a))) (FP.i2d (nI (me_s a)))
theorem a141 (hok : ml_ok B a) (h : lS a hs sv tx R e M) : hR (lS a hs sv tx R e) M w 1 (am_ev (d + 1 + 1) 141 [am_P (3, 0, 0)] M (am_Z w)) (.inl (.float (me_F a))) := by
  obtain ⟨ln, hc, hl⟩ := h
  by_cases h0 : a 1 = 0
  · refine ⟨M, am_bw w, ?_, ⟨ln, hc, hl⟩, clF.rf M, wle.bw w⟩
    rw [show me_F a = 3296346112 from if_pos h0]
    exact h141e (k81n h0 hc)
  · refine ⟨M, w, ?_, ⟨ln, hc, hl⟩, clF.rf M, wle.rf w⟩
    rw [show me_F a = FP.fdiv (FP.i2f (nI (me_e a))) (FP.i2f (nI (a 1))) from if_neg h0]
    exact h141v (k81s hok (by omega) hc)
theorem a142 (hok : ml_ok B a) (h : lS a hs sv tx R e M) : hR (lS a hs sv tx R e) M w 1 (am_ev (d + 3 + 1) 142 [am_P (3, 0, 0)] M (am_Z w)) (.inl (.double (me_D a))) := by
  obtain ⟨ln, hc, hl⟩ := h
  by_cases h0 : a 2 = 0
  · refine ⟨M, am_bw w, ?_, ⟨ln, hc, hl⟩, clF.rf M, wle.bw w⟩
    rw [show me_D a = 13875388141788987392 from if_pos h0]
    exact h142e (k97n (d := d + 2) h0 hc)
  · refine ⟨M, w, ?_, ⟨ln, hc, hl⟩, clF.rf M, wle.rf w⟩
    rw [show me_D a = FP.ddiv (FP.i2d (nI (me_l a))) (FP.i2d (nI (me_s a))) from if_neg h0]
    exact h142v (k97s hok (by omega) hc)
end Kak
