/-! A TRIAL: HOW LONG A MESSAGE WILL TAKE, WHAT IT WILL LOSE -/
theorem fo_inv {S : Type} {f : S → Nat → S} {s : S} {P : S → Prop} (h0 : P s) : ∀ {n : Nat}, (∀ i s, i < n → P s → P (f s i)) → P (fo f s n) := by
  intro n
  induction n with
  | zero => intro _; exact h0
  | succ n ih => intro hs; exact hs n _ (Nat.lt_succ_self n) (ih (fun i s hi => hs i s (by omega)))
section Ktr
variable {d B : Nat} {M M' M0 : am_M} {a b : Nat → Nat} {w : am_W4} {hs : List (Nat → Nat)} {sv : Option (Nat → Nat)} {tx ln : List Int32} {R : Int32 × Int32 × Int32} {e : Int32}
/-- how a message is after an hour: as before, or arrived -/
theorem ml_goes_6 {m : Nat} (hB0 : 1000 ≤ B) (h : ml_ok B a) (hm : m < 16) : ml_goes a (60 + 19 * m + 6) = a (60 + 19 * m + 6) ∨ ml_goes a (60 + 19 * m + 6) = 1 := by
  have g1 : ml_g1 a (60 + 19 * m + 6) = a (60 + 19 * m + 6) := ml_f1_sb hB0 h (Or.inr (Or.inr ⟨m, 6, hm, by omega, rfl⟩)) _
  have g2 : ml_g2 a (60 + 19 * m + 6) = a (60 + 19 * m + 6) := by
    refine fo_inv (P := fun (s : Nat → Nat) => s (60 + 19 * m + 6) = a (60 + 19 * m + 6)) g1 (fun c s _ hs => ?_)
    refine fo_inv (P := fun (s : Nat → Nat) => s (60 + 19 * m + 6) = a (60 + 19 * m + 6)) hs (fun q t _ ht => ?_)
    unfold ml_s2
    split
    · rw [nu_ne (by omega), nu_ne (by omega), nu_ne (by omega)]; exact ht
    · exact ht
  have g3 : (ml_g3 a).1 (60 + 19 * m + 6) = a (60 + 19 * m + 6) ∨ (ml_g3 a).1 (60 + 19 * m + 6) = 1 := by
    refine fo_inv (P := fun (s : (Nat → Nat) × Nat) => s.1 (60 + 19 * m + 6) = a (60 + 19 * m + 6) ∨ s.1 (60 + 19 * m + 6) = 1) (Or.inl g2) (fun q t _ ht => ?_)
    unfold ml_s3
    split
    · split
      · by_cases hq : q = m
        · subst hq
          exact Or.inr (nu_eq _ _ _)
        · dsimp only
          rw [nu_ne (by omega), nu_ne (by omega), nu_ne (by omega)]; exact ht
      · dsimp only
        rw [nu_ne (by omega), nu_ne (by omega)]; exact ht
    · exact ht
  obtain ⟨t1, t3, t4, t5⟩ := ml_g3_ok hB0 h
  have b1 := t1.1.1
  unfold ml_goes ml_g4
  split
  · refine fo_inv (P := fun (s : Nat → Nat) => s (60 + 19 * m + 6) = a (60 + 19 * m + 6) ∨ s (60 + 19 * m + 6) = 1) ?_ (fun r t hr ht => ?_)
    · rw [nu_ne (by omega)]; exact g3
    · unfold ml_s4
      rw [nu_ne (by omega)]
      exact ht
  · rw [nu_ne (by omega)]; exact g3
/-- how it is after k hours -/
def ml_h6 (a : Nat → Nat) (m k : Nat) : Nat := (ml_ps a k).1 (60 + 19 * m + 6)
theorem ml_h6_01 {m : Nat} (hB0 : 1000 ≤ B) (h : ml_ok B a) (hm : m < 16) (h0 : a (60 + 19 * m + 6) = 0) : ∀ k, ml_h6 a m k = 0 ∨ ml_h6 a m k = 1 := by
  intro k
  induction k with
  | zero => exact Or.inl h0
  | succ k ih =>
    have e1 := ml_goes_6 (a := (ml_ps a k).1) (B := B + 200 * k) (by omega) (ml_ps_ok hB0 h k) hm
    unfold ml_h6 at ih ⊢
    show ml_goes (ml_ps a k).1 (60 + 19 * m + 6) = 0 ∨ ml_goes (ml_ps a k).1 (60 + 19 * m + 6) = 1
    omega
def tr_P (a : Nat → Nat) (m : Nat) : Nat → Bool := fun k => decide (ml_h6 a m k = 1)
/-- where the reference's trial stops -/
def tr_k (a : Nat → Nat) (m : Nat) : Nat → Nat → Nat
  | 0, k => k
  | r + 1, k => if ml_h6 a m k = 0 then tr_k a m r (k + 1) else k
theorem tr_nf {m : Nat} (h01 : ∀ k, ml_h6 a m k = 0 ∨ ml_h6 a m k = 1) : ∀ r k, match nf (tr_P a m) (r + 1) k with | some t => tr_k a m r k = t ∧ ml_h6 a m t = 1 | none => ml_h6 a m (tr_k a m r k) ≠ 1 := by
  intro r
  induction r with
  | zero =>
    intro k
    unfold nf tr_P tr_k
    by_cases h : ml_h6 a m k = 1
    · rw [if_pos (decide_eq_true h)]; exact ⟨rfl, h⟩
    · rw [if_neg (by rw [decide_eq_false h]; decide)]; exact h
  | succ r ih =>
    intro k
    unfold nf tr_k
    by_cases h : ml_h6 a m k = 1
    · rw [if_pos (show tr_P a m k = true from decide_eq_true h), if_neg (by omega)]; exact ⟨rfl, h⟩
    · rw [if_neg (show ¬ tr_P a m k = true by unfold tr_P; rw [decide_eq_false h]; decide), if_pos (by have := h01 k; omega)]
      exact ih (k + 1)
theorem tr_k_le {m : Nat} : ∀ r k, tr_k a m r k ≤ k + r := by
  intro r
  induction r with
  | zero => intro k; exact Nat.le_refl _
  | succ r ih =>
    intro k
    unfold tr_k
    split
    · have := ih (k + 1)
      omega
    · omega
def q_tri (a : Nat → Nat) (x : Int32) (kind : Nat) : Qo := if am_in x (a 2) then if a (60 + 19 * cN x + 6) = 0 then (match nf (tr_P a (cN x)) 400 1 with | some t => .inl (if kind = 0 then nI t else nI (ml_lost (ml_ps a t).1 (cN x))) | none => .inr (3, 2)) else .inr (3, 2) else .inr (1, 1)
theorem ml_ps_2 (hB0 : 1000 ≤ B) (h : ml_ok B a) : ∀ k, (ml_ps a k).1 2 = a 2 := by
  intro k
  induction k with
  | zero => rfl
  | succ k ih => exact ((ml_goes_ok (B := B + 200 * k) (by omega) (ml_ps_ok hB0 h k)).2.2.1).trans ih
theorem l92 {m m0 : Nat} {ar : List Nat} (hB0 : 1000 ≤ B) (hB : B < 1070000000) (h : ml_ok B a) (hm : m < a 2) (hm0 : m0 < 16) : ∀ r k (M : am_M) (ar : List Nat), k + r = 400 → nw 1 (ml_ps a k).1 M ar → ∃ M', nw_fo 1 M M' ∧ match nf (tr_P a m) r (k + 1) with | some t => am_rn (am_ev (d + 5)) 92 22 [some (am_P (3, 0, 0)), some (am_P (24, 0, m0)), some (am_I (nI m)), some (am_I (nI (k + 1)))] [] M (am_Z w) = some (.inl (some (am_I (nI t))), M', am_Z w) ∧ t ≤ 400 ∧ ∃ ar', nw 1 (ml_ps a t).1 M' ar' | none => am_rn (am_ev (d + 5)) 92 22 [some (am_P (3, 0, 0)), some (am_P (24, 0, m0)), some (am_I (nI m)), some (am_I (nI (k + 1)))] [] M (am_Z w) = some (.inl (some (am_I (-1))), M', am_Z w) := by
  have b2 := h.1.2.1
  intro r
  induction r with
  | zero =>
    intro k M ar hk hn
    refine ⟨M, nw_fo.rf 1 M, ?_⟩
    show am_rn _ _ _ _ _ _ _ = _
    rw [b92_22 hm0, if_pos (nI_lt (by omega) (by omega))]
  | succ r ih =>
    intro k M ar hk hn
    obtain ⟨M1, ar1, e1, g1, g2, g3⟩ := k49 (d := d) (n := 1) (w := w) (by decide) (B := B + 200 * k) (by omega) (by omega) (ml_ps_ok hB0 h k) hn
    have g1' : nw 1 (ml_ps a (k + 1)).1 M1 ar1 := g1
    have h2 := ml_ps_2 hB0 h (k + 1)
    have hM : M1 (24, 1, (nI m).toNatClampNeg) 3 = nI (ml_h6 a m (k + 1)) := by rw [nI_clamp (by omega)]; exact g1'.1.1.how (by omega)
    have h6b : ml_h6 a m (k + 1) < 100 := (ml_ps_ok hB0 h (k + 1)).f (by omega) 6 (by decide) (by decide) (by decide)
    have e2 : am_rn (am_ev (d + 5)) 92 22 [some (am_P (3, 0, 0)), some (am_P (24, 0, m0)), some (am_I (nI m)), some (am_I (nI (k + 1)))] [] M (am_Z w) = if M1 (24, 1, (nI m).toNatClampNeg) 3 = nI 1 then some (.inl (some (am_I (nI (k + 1)))), M1, am_Z w) else am_rn (am_ev (d + 5)) 92 22 [some (am_P (3, 0, 0)), some (am_P (24, 0, m0)), some (am_I (nI m)), some (am_I (nI (k + 1) + nI 1))] [] M1 (am_Z w) := by
      rw [b92_22 hm0, if_neg (nI_nlt (by omega) (by omega)), e1]
      simp only [am_cb_i, am_cb_e, Option.toList_some, Option.toList_none, List.cons_append, List.nil_append]
      rw [b92_36 hm0, if_pos (by rw [am_inT (by omega) (by omega)]; trivial)]
    rw [e2]
    unfold nf
    by_cases h6 : ml_h6 a m (k + 1) = 1
    · rw [if_pos (show tr_P a m (k + 1) = true from decide_eq_true h6), if_pos (by rw [hM, h6])]
      exact ⟨M1, g2, rfl, by omega, ar1, g1'⟩
    · rw [if_neg (show ¬ tr_P a m (k + 1) = true by unfold tr_P; rw [decide_eq_false h6]; decide), if_neg (by rw [hM, nI_eqI (by omega) (by omega)]; exact h6), nI_add]
      obtain ⟨M2, u1, u2⟩ := ih (k + 1) M1 ar1 (by omega) g1'
      exact ⟨M2, g2.tr u1, u2⟩
theorem clS.n1 (h : clS a hs sv tx R e ln M) (hF : nw_fo 1 M M') : clS a hs sv tx R e ln M' := by
  obtain ⟨hA, ⟨sr, s1, s2, s3, s4, s5⟩, hV, hT, hR⟩ := h
  have lo : ∀ (t k m j : Nat), t < 13 → M' (t, k, m) j = M (t, k, m) j := fun t k m j q1 => hF _ _ (Or.inr (Or.inl q1))
  have hN : ∀ n b, n ≠ 1 → clN n b M → clN n b M' := fun n b n1 hb => hb.cF hF.cF n1
  exact ⟨hN 0 a (by decide) hA, ⟨sr, s1, (lo 4 0 0 1 (by decide)).trans s2, (lo 4 0 0 2 (by decide)).trans s3, s4, fun i g hi => hN _ g (by omega) (s5 i g hi)⟩, ⟨(lo 3 0 0 3 (by decide)).trans hV.1, fun b hb => hN 2 b (by decide) (hV.2 b hb)⟩, hT.fr (lo 8 0 0 1 (by decide)) (fun j => lo 9 0 0 j (by decide)) (fun j _ => lo 3 0 0 j (by decide)) (fun j => lo 12 0 0 j (by decide)), ⟨(lo 6 0 0 0 (by decide)).trans hR.1, (lo 6 0 0 1 (by decide)).trans hR.2.1, (lo 6 0 0 2 (by decide)).trans hR.2.2⟩⟩
/-- a question that tries something out -/
def clU (a : Nat → Nat) (hs : List (Nat → Nat)) (sv : Option (Nat → Nat)) (tx : List Int32) (R : Int32 × Int32 × Int32) (e : Int32) (ln : List Int32) (M : am_M) (w : am_W4) (r : Option am_R) : Qo → Prop
  | .inl v => ∃ M', r = some (.inl (some (am_I v)), M', am_Z w) ∧ clS a hs sv tx R e ln M' ∧ clF M M'
  | .inr (E, _) => ∃ M', r = some (.inr E, M', am_Z (am_bw w)) ∧ clS a hs sv tx R e ln M' ∧ clF M M'
theorem k92 {x : Nat} (hB0 : 1000 ≤ B) (hB : B < 1070000000) (hok : ml_ok B a) (hx : x < a 2) (h : clS a hs sv tx R e ln M) (h0 : a (60 + 19 * x + 6) = 0) : ∃ M', nw_fo 1 M M' ∧ match nf (tr_P a x) 400 1 with | some t => am_ev (d + 6) 92 [am_P (3, 0, 0), am_P (24, 0, x), am_I (nI x)] M (am_Z w) = some (.inl (some (am_I (nI t))), M', am_Z w) ∧ t ≤ 400 ∧ ∃ ar', nw 1 (ml_ps a t).1 M' ar' | none => am_ev (d + 6) 92 [am_P (3, 0, 0), am_P (24, 0, x), am_I (nI x)] M (am_Z w) = some (.inl (some (am_I (-1))), M', am_Z w) := by
  have b2 := hok.1.2.1
  obtain ⟨ar, hA⟩ := h.1
  obtain ⟨M1, t1, t2, t3⟩ := k34 (d := d + 3) (n := 1) (n2 := 0) (M := M) (w := w) (by decide) (by decide) (by decide) hok hA
  obtain ⟨M2, u1, u2⟩ := l92 (d := d) (w := w) (m := x) (m0 := x) (ar := ar) hB0 hB hok hx (by omega) 400 0 M1 ar (by omega) t2
  have e1 : am_ev (d + 6) 92 [am_P (3, 0, 0), am_P (24, 0, x), am_I (nI x)] M (am_Z w) = am_rn (am_ev (d + 5)) 92 22 [some (am_P (3, 0, 0)), some (am_P (24, 0, x)), some (am_I (nI x)), some (am_I (nI (0 + 1)))] [] M1 (am_Z w) := by
    rw [e92 (by omega), hA.1.1.how hx, if_pos (by rw [h0]; rfl), t1]
    simp only [am_cb_i, am_cb_e, Option.toList_some, Option.toList_none, List.cons_append, List.nil_append]
    rw [b92_20 (by omega)]
  rw [e1]
  exact ⟨M2, t3.tr u1, u2⟩
theorem k92n {x : Nat} (hok : ml_ok B a) (hx : x < a 2) (h : clS a hs sv tx R e ln M) (h0 : a (60 + 19 * x + 6) ≠ 0) : am_ev (d + 1) 92 [am_P (3, 0, 0), am_P (24, 0, x), am_I (nI x)] M (am_Z w) = some (.inl (some (am_I (-1))), M, am_Z w) := by
  have b2 := hok.1.2.1
  have f6 := hok.f hx 6 (by decide) (by decide) (by decide)
  rw [e92 (by omega), h.net.how hx, if_neg (by rw [nI_z (by omega)]; exact h0)]
theorem k90 {x : Int32} (hB0 : 1000 ≤ B) (hB : B < 1070000000) (hok : ml_ok B a) (h : clS a hs sv tx R e ln M) : clU a hs sv tx R e ln M w (am_ev (d + 7) 90 [am_P (3, 0, 0), am_I x] M (am_Z w)) (q_tri a x 0) := by
  obtain ⟨ar, hA⟩ := h.1
  have b2 := hok.1.2.1
  rw [e90, k93 hok hA]
  unfold q_tri
  by_cases hx : am_in x (a 2)
  · obtain ⟨x, hx', hx2, rfl⟩ := in_nI hx
    rw [if_pos hx, if_pos hx, cN_nI hx2]
    simp only [am_cb_i, am_cb_e, Option.toList_some, Option.toList_none, List.cons_append, List.nil_append]
    rw [b90_6 (by omega)]
    by_cases h0 : a (60 + 19 * x + 6) = 0
    · obtain ⟨M', u1, u2⟩ := k92 (d := d) (w := w) hB0 hB hok hx' h h0
      rw [if_pos h0]
      cases hc : nf (tr_P a x) 400 1 with
      | some t =>
        rw [hc] at u2
        obtain ⟨u3, u4, _⟩ := u2
        rw [u3]
        simp only [am_cb_i, am_cb_e, Option.toList_some, Option.toList_none, List.cons_append, List.nil_append, b90_10]
        rw [if_neg (nI_nm1 (by omega)), if_pos trivial]
        exact ⟨M', rfl, h.n1 u1, u1.clF⟩
      | none =>
        rw [hc] at u2
        rw [show am_ev (d + 6) 92 [am_P (3, 0, 0), am_P (24, 0, x), am_I (nI x)] M (am_Z w) = _ from u2]
        simp only [am_cb_i, am_cb_e, Option.toList_some, Option.toList_none, List.cons_append, List.nil_append, b90_10]
        rw [if_pos trivial]
        exact ⟨M', rfl, h.n1 u1, u1.clF⟩
    · rw [if_neg h0, k92n hok hx' h h0]
      simp only [am_cb_i, am_cb_e, Option.toList_some, Option.toList_none, List.cons_append, List.nil_append, b90_10]
      rw [if_pos trivial]
      exact ⟨M, rfl, h, clF.rf M⟩
  · rw [if_neg hx, if_neg hx]
    exact ⟨M, rfl, h, clF.rf M⟩
theorem k91 {x : Int32} (hB0 : 1000 ≤ B) (hB : B < 1070000000) (hok : ml_ok B a) (h : clS a hs sv tx R e ln M) : clU a hs sv tx R e ln M w (am_ev (d + 7) 91 [am_P (3, 0, 0), am_I x] M (am_Z w)) (q_tri a x 1) := by
  obtain ⟨ar, hA⟩ := h.1
  have b2 := hok.1.2.1
  rw [e91, k93 hok hA]
  unfold q_tri
  by_cases hx : am_in x (a 2)
  · obtain ⟨x, hx', hx2, rfl⟩ := in_nI hx
    rw [if_pos hx, if_pos hx, cN_nI hx2]
    simp only [am_cb_i, am_cb_e, Option.toList_some, Option.toList_none, List.cons_append, List.nil_append]
    rw [b91_6 (by omega)]
    by_cases h0 : a (60 + 19 * x + 6) = 0
    · obtain ⟨M', u1, u2⟩ := k92 (d := d) (w := w) hB0 hB hok hx' h h0
      rw [if_pos h0]
      cases hc : nf (tr_P a x) 400 1 with
      | some t =>
        rw [hc] at u2
        obtain ⟨u3, u4, ar', u5⟩ := u2
        rw [u3]
        simp only [am_cb_i, am_cb_e, Option.toList_some, Option.toList_none, List.cons_append, List.nil_append, b91_10]
        rw [if_neg (nI_nm1 (by omega)), if_neg (c := (1 = 0)) (by decide), if_pos (by rw [am_inT (by omega) (by omega)]; trivial), nI_clamp (by omega), k32 (by decide) (ml_ps_ok hB0 hok t) u5.1.1 (by rw [ml_ps_2 hB0 hok]; exact hx')]
        simp only [am_cb_i, am_cb_e, Option.toList_some, Option.toList_none, List.cons_append, List.nil_append, b91_34]
        exact ⟨M', rfl, h.n1 u1, u1.clF⟩
      | none =>
        rw [hc] at u2
        rw [show am_ev (d + 6) 92 [am_P (3, 0, 0), am_P (24, 0, x), am_I (nI x)] M (am_Z w) = _ from u2]
        simp only [am_cb_i, am_cb_e, Option.toList_some, Option.toList_none, List.cons_append, List.nil_append, b91_10]
        rw [if_pos trivial]
        exact ⟨M', rfl, h.n1 u1, u1.clF⟩
    · rw [if_neg h0, k92n hok hx' h h0]
      simp only [am_cb_i, am_cb_e, Option.toList_some, Option.toList_none, List.cons_append, List.nil_append, b91_10]
      rw [if_pos trivial]
      exact ⟨M, rfl, h, clF.rf M⟩
  · rw [if_neg hx, if_neg hx]
    exact ⟨M, rfl, h, clF.rf M⟩
end Ktr
