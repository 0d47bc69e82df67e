/-! THE LAW'S SECOND OBJECT: CHANGED, UNDONE, RESTORED -/
section Kl3
variable {d B : Nat} {M : am_M} {a b : Nat → Nat} {w : am_W4} {hs : List (Nat → Nat)} {sv : Option (Nat → Nat)} {x y z : Int32}
theorem rl_newl {s : Int64} {h : Int32} {call : Nat → List am_V → am_M → am_X → Option am_R} (h1 : w.2.2.1 = none) (h2 : w.2.2.2 = none) : am_rn call 227 641 (L5 s h) [am_I (nI 13)] M (am_Z w) = am_rn call 227 643 (L5 s h) [am_P (1, 0, 0)] M (am_Z (w.1 + 1, w.2.1 + 13, some (fun _ => 0), none)) := by
  rw [am_rn_eq (i := .newarray .long) (by decide +kernel)]
  show (if (nI 13 = 13 ∧ (227 : Nat) = 227 ∧ (none : Option Nat) = none ∧ w.2.2.1 = none ∧ w.2.2.2 = none ∧ ([] : List am_V) = []) then am_rn call 227 643 (am_wr (L5 s h)) [am_P (1, 0, 0)] M (am_T0, none, w.1 + 1, w.2.1 + 13, some (fun _ => 0), none) else none) = _
  rw [if_pos ⟨rfl, rfl, rfl, h1, h2, rfl⟩]
  rfl
abbrev L8 (s : Int64) (h : Int32) (n i : Nat) (x9 x10 : Option am_V) : am_S := [some (am_P (0, 0, 0)), none, some (am_P (3, 0, 0)), some (.inl (.long s)), none, some (am_I h), some (am_P (1, 0, 0)), some (am_I (nI n)), some (am_I (nI i)), x9, x10]
/-- the latest former states answer as the row says -/
def Lt (f : Nat → Int64) (n : Nat) (hs : List (Nat → Nat)) : Prop := n ≤ 12 ∧ hs.length ≤ 8 ∧ (n ≤ hs.length ∨ hs.length = 8) ∧ ∀ k, 1 ≤ k → k ≤ n → k ≤ 8 → ∃ b, hs[hs.length - k]? = some b ∧ f (n - k) = lF b
theorem Lt.push {f : Nat → Int64} {n : Nat} (h : Lt f n hs) (hn : n < 12) : Lt (fun j => if j = n then lF a else f j) (n + 1) (hpush hs a) := by
  obtain ⟨h1, h2, h3, h4⟩ := h
  have hl := hpush_len (b := a) h2
  refine ⟨by omega, hpush_le h2, by rw [hl]; split <;> omega, fun k k1 k2 k8 => ?_⟩
  by_cases e : k = 1
  · subst e
    refine ⟨a, ?_, if_pos rfl⟩
    unfold hpush
    rw [List.length_append, List.length_singleton, Nat.add_sub_cancel, List.getElem?_append_right (Nat.le_refl _), Nat.sub_self]
    rfl
  · obtain ⟨b, g1, g2⟩ := h4 (k - 1) (by omega) (by omega) (by omega)
    refine ⟨b, ?_, ?_⟩
    · unfold hpush
      rw [List.length_append, List.length_singleton]
      split
      · rename_i h8
        rw [List.length_drop, List.getElem?_append_left (by rw [List.length_drop]; omega), List.getElem?_drop, ← g1]
        congr 1
        omega
      · rename_i h8
        have : k - 1 ≤ hs.length := by omega
        rw [List.getElem?_append_left (by omega), ← g1]
        congr 1
        omega
    · show (if n + 1 - k = n then lF a else f (n + 1 - k)) = lF b
      rw [if_neg (by omega), ← g2]
      congr 1
      omega
theorem wz {w : am_W4} {f : Nat → Int64} (h1 : w.2.2.1 = some f) (h2 : w.2.2.2 = none) : w.2.2 = (some f, none) := by
  rw [← h1, ← h2]
/-- twelve changes -/
theorem lw3a {s : Int64} {h : Int32} : ∀ r i n B (a : Nat → Nat) (hs : List (Nat → Nat)) (M : am_M) (w : am_W4) (f : Nat → Int64) (x9 : Option am_V), i + r = 12 → n ≤ i → 1000 ≤ B → B + 400000 * r < 900000000 → hLM M → (ml_ok B a ∧ (∀ b ∈ hs, ml_ok B b)) → lE a hs sv M → Lt f n hs → w.2.2.1 = some f → w.2.2.2 = none →
    ∃ n' a' hs' M' w' f' x9', am_rn (am_ev (d + 13)) 227 651 (L8 s h n i x9 none) [] M (am_Z w) = am_rn (am_ev (d + 13)) 227 651 (L8 s h n' 12 x9' none) [] M' (am_Z w') ∧ (ml_ok (B + 400000 * r) a' ∧ (∀ b ∈ hs', ml_ok (B + 400000 * r) b)) ∧ lE a' hs' sv M' ∧ Lt f' n' hs' ∧ w'.2.2.1 = some f' ∧ w'.2.2.2 = none ∧ n' ≤ 12 ∧ w'.1 ≤ w.1 + 2400 * r ∧ w'.2.1 ≤ w.2.1 + 14400 * r := by
  intro r
  induction r with
  | zero =>
    intro i n B a hs M w f x9 hi hn hB0 hB hL hok hE hf hw1 hw2
    obtain rfl : i = 12 := by omega
    exact ⟨n, a, hs, M, w, f, x9, rfl, hok, hE, hf, hw1, hw2, hn, by omega, by omega⟩
  | succ r ih =>
    intro i n B a hs M w f x9 hi hn hB0 hB hL hok hE hf hw1 hw2
    obtain ⟨M1, w1, e1, q1, f1, u1⟩ := e152E (d := d + 1) (w := w) hB0 (by omega) hok.1 hE
    have hL1 := hL.cl f1
    obtain ⟨v, e2⟩ := k113 (d := d + 12) (M := M1) (w := w1) (k := 20 + i) (by omega) hL1
    have hw1' : w1.2.2.2 = none := by rw [u1.2]; exact hw2
    have e0 : am_rn (am_ev (d + 13)) 227 651 (L8 s h n i x9 none) [] M (am_Z w) = am_cb (am_ev (d + 13) 153 [am_P (3, 0, 0), am_I (v ^^^ (nI i * nI 977))] M1 (am_Z w1)) fun v M' X' => am_rn (am_ev (d + 13)) 227 684 (L8 s h n i (some (.inl (.long (lF a)))) none) (v.toList ++ []) M' X' := by
      rw [show am_rn (am_ev (d + 13)) 227 651 (L8 s h n i x9 none) [] M (am_Z w) = _ from b227_651, if_pos (nI_lt (by omega) (by decide)), show am_ev (d + 13) 152 _ _ _ = _ from e1]
      simp only [am_cb_i, am_cb_e, Option.toList_some, Option.toList_none, List.cons_append, List.nil_append]
      rw [b227_662, nI_add, show am_ev (d + 13) 113 _ _ _ = _ from e2]
      simp only [am_cb_i, am_cb_e, Option.toList_some, Option.toList_none, List.cons_append, List.nil_append]
      rw [b227_674]
    obtain ⟨⟨p1, p2, p3, p4⟩, p5⟩ := u1
    rcases k153 (d := d + 1) (w := w1) (x := v ^^^ (nI i * nI 977)) hw1' hB0 (by omega) hok.1 q1 with ⟨a2, M2, w2, e3, g2, q2, f2, u2⟩ | ⟨M2, w2, e3, q2, f2, u2⟩
    · obtain ⟨⟨o1, o2, o3, o4⟩, o5⟩ := u2
      have h22 : w2.2.2 = (some f, none) := by rw [o5, p5]; exact wz hw1 hw2
      obtain ⟨n', a', hs', M', w', f', x9', c1, c2, c3, c4, c5, c6, c7, c8, c9⟩ := ih (i + 1) (n + 1) (B + 400000) a2 (hpush hs a) M2 (w2.1, w2.2.1, some (fun j => if j = n then lF a else f j), none) _ (some (.inl (.long (lF a)))) (by omega) (by omega) (by omega) (by omega) (hL1.cl f2) ⟨g2, fun b hb => (hpush_mem hb).elim (fun q => (hok.2 b q).mono (by omega)) (fun q => by rw [q]; exact hok.1.mono (by omega))⟩ q2 (hf.push (by omega)) rfl rfl
      refine ⟨n', a', hs', M', w', f', x9', ?_, ?_, c3, c4, c5, c6, c7, by dsimp only at c8; omega, by dsimp only at c9; omega⟩
      · rw [e0, show am_ev (d + 13) 153 _ _ _ = _ from e3]
        simp only [am_cb_i, am_cb_e, Option.toList_some, Option.toList_none, List.cons_append, List.nil_append]
        rw [b227_684, if_neg (by decide), nI_add]
        refine Eq.trans ((rl_last (w := w2) (f := f) (by decide +kernel) (by rw [h22]) (by rw [h22]) (am_inP (by omega) |>.mpr (by omega)))) ?_
        rw [nI_clamp (by omega)]
        refine Eq.trans b227_697 (Eq.trans b227_712 ?_)
        rw [nI_add]
        exact c1
      · rw [show B + 400000 * (r + 1) = B + 400000 + 400000 * r by omega]; exact c2
    · obtain ⟨M3, w3, e4, q3, f3, u3⟩ := e152E (d := d + 1) (w := w2) hB0 (by omega) hok.1 q2
      obtain ⟨⟨o1, o2, o3, o4⟩, o5⟩ := u2
      obtain ⟨⟨t1, t2, t3, t4⟩, t5⟩ := u3
      have h33 : w3.2.2 = (some f, none) := by rw [t5, o5, p5]; exact wz hw1 hw2
      obtain ⟨n', a', hs', M', w', f', x9', c1, c2, c3, c4, c5, c6, c7, c8, c9⟩ := ih (i + 1) n (B + 400000) a hs M3 w3 f (some (.inl (.long (lF a)))) (by omega) (by omega) (by omega) (by omega) ((hL1.cl f2).cl f3) ⟨hok.1.mono (by omega), fun b hb => (hok.2 b hb).mono (by omega)⟩ q3 hf (by rw [h33]) (by rw [h33])
      refine ⟨n', a', hs', M', w', f', x9', ?_, ?_, c3, c4, c5, c6, c7, by omega, by omega⟩
      · rw [e0, show am_ev (d + 13) 153 _ _ _ = _ from e3]
        simp only [am_cb_i, am_cb_e, Option.toList_some, Option.toList_none, List.cons_append, List.nil_append]
        rw [b227_684, if_pos (show nI 0 = 0 from rfl), show am_ev (d + 13) 152 _ _ _ = _ from e4]
        simp only [am_cb_i, am_cb_e, Option.toList_some, Option.toList_none, List.cons_append, List.nil_append]
        rw [b227_704, if_pos (lg_self _)]
        refine Eq.trans b227_712 ?_
        rw [nI_add]
        exact c1
      · rw [show B + 400000 * (r + 1) = B + 400000 + 400000 * r by omega]; exact c2
abbrev L9 (s : Int64) (h : Int32) (n c k : Nat) (x10 : Option am_V) : am_S := [some (am_P (0, 0, 0)), none, some (am_P (3, 0, 0)), some (.inl (.long s)), none, some (am_I h), some (am_P (1, 0, 0)), some (am_I (nI n)), some (am_I (nI c)), some (am_I (nI k)), x10]
/-- all is undone, one by one -/
theorem lw3b {s : Int64} {h : Int32} {f : Nat → Int64} {n c : Nat} {hs : List (Nat → Nat)} (hf : Lt f n hs) (hc : c = if n < 8 then n else 8) (hB0 : 1000 ≤ B) (hB : B < 900000000) (hh : ∀ b ∈ hs, ml_ok B b) : ∀ r k (a : Nat → Nat) (M : am_M) (w : am_W4) (x10 : Option am_V), k + r = c → lE a (hs.take (hs.length - k)) sv M → w.2.2.1 = some f → w.2.2.2 = none →
    ∃ a' hs' M' w' x10', am_rn (am_ev (d + 13)) 227 730 (L9 s h n c (k + 1) x10) [] M (am_Z w) = am_rn (am_ev (d + 13)) 227 730 (L9 s h n c (c + 1) x10') [] M' (am_Z w') ∧ lE a' hs' sv M' ∧ w'.1 ≤ w.1 + 1000 * r ∧ w'.2.1 ≤ w.2.1 + 6000 * r := by
  obtain ⟨h1, h2, h3, h4⟩ := hf
  intro r
  induction r with
  | zero =>
    intro k a M w x10 hk hE hw1 hw2
    obtain rfl : k = c := by omega
    exact ⟨a, _, M, w, x10, rfl, hE, by omega, by omega⟩
  | succ r ih =>
    intro k a M w x10 hk hE hw1 hw2
    have hcn : c ≤ n ∧ c ≤ 8 := by split at hc <;> omega
    have hcl : c ≤ hs.length := by omega
    obtain ⟨b, g1, g2⟩ := h4 (k + 1) (by omega) (by omega) (by omega)
    have ht : hs.take (hs.length - k) = hs.take (hs.length - (k + 1)) ++ [b] := by
      rw [show hs.length - k = hs.length - (k + 1) + 1 by omega, List.take_succ, g1]
      rfl
    have hb : ml_ok B b := hh b (List.mem_of_getElem? g1)
    rw [ht] at hE
    obtain ⟨M1, e1, q1, f1⟩ := a144 (d := d + 9) (w := w) hb hE
    obtain ⟨M2, w2, e2, q2, f2, u2⟩ := e152E (d := d + 1) (w := w) hB0 (by omega) hb q1
    obtain ⟨⟨p1, p2, p3, p4⟩, p5⟩ := u2
    have h22 : w2.2.2 = (some f, none) := by rw [p5]; exact wz hw1 hw2
    have hlen : (hs.take (hs.length - (k + 1))).length = hs.length - (k + 1) := by rw [List.length_take]; omega
    rw [hlen] at e1
    obtain ⟨a', hs', M', w', x10', c1, c2, c3, c4⟩ := ih (k + 1) b M2 w2 (some (am_I (nI (hs.length - (k + 1))))) (by omega) q2 (by rw [h22]) (by rw [h22])
    refine ⟨a', hs', M', w', x10', ?_, c2, by omega, by omega⟩
    rw [show am_rn (am_ev (d + 13)) 227 730 (L9 s h n c (k + 1) x10) [] M (am_Z w) = _ from b227_730, if_neg (nI_nlt (by omega) (by omega)), show am_ev (d + 13) 144 _ _ _ = _ from e1]
    simp only [am_cb_i, am_cb_e, Option.toList_some, Option.toList_none, List.cons_append, List.nil_append]
    rw [b227_741, pk_sub (by omega), if_neg (nI_nlt (by omega) (by omega)), pk_sub (by omega), if_neg (nI_nlt (by omega) (by omega)), show am_ev (d + 13) 152 _ _ _ = _ from e2]
    simp only [am_cb_i, am_cb_e, Option.toList_some, Option.toList_none, List.cons_append, List.nil_append]
    rw [b227_767, pk_sub (by omega)]
    refine Eq.trans (rl_lald (w := w2) (f := f) (by decide +kernel) (by rw [h22]) (am_inP (by omega) |>.mpr (by omega))) ?_
    rw [nI_clamp (by omega), g2]
    refine Eq.trans b227_775 ?_
    rw [if_pos (lg_self _), nI_add]
    exact c1
/-- what was saved comes back -/
theorem lw3c {n c k : Nat} {x10 : Option am_V} (hk : c < k) (hk2 : k < 100) (hB0 : 1000 ≤ B) (hB : B < 900000000) (hok : ml_ok B b) (hE : lE a hs (some b) M) : ∃ M' w', am_rn (am_ev (d + 13)) 227 730 (L9 (lF b) (nI (b 0)) n c k x10) [] M (am_Z w) = some (.inl (some (am_I (nI 1))), M', am_Z w') ∧ w'.1 ≤ w.1 + 2000 ∧ w'.2.1 ≤ w.2.1 + 12000 := by
  obtain ⟨M1, e1, q1, f1⟩ := a145 (d := d + 9) (w := w) hok hE
  have e2 := a144n (d := d + 11) (w := w) q1
  obtain ⟨M3, w3, e3, q3, f3, u3⟩ := e152E (d := d + 1) (w := am_bw w) hB0 (by omega) hok q1
  obtain ⟨M4, e4, q4, f4⟩ := a145 (d := d + 9) (w := w3) hok q3
  obtain ⟨M5, w5, e5, q5, f5, u5⟩ := e152E (d := d + 1) (w := w3) hB0 (by omega) hok q4
  have u := (wle.bw w).tr (u3.tr u5 (Nat.le_refl _)) (Nat.le_refl _)
  obtain ⟨⟨p1, p2, p3, p4⟩, p5⟩ := u
  refine ⟨M5, w5, ?_, by omega, by omega⟩
  rw [show am_rn (am_ev (d + 13)) 227 730 (L9 (lF b) (nI (b 0)) n c k x10) [] M (am_Z w) = _ from b227_730, if_pos (nI_lt hk (by omega)), show am_ev (d + 13) 145 _ _ _ = _ from e1]
  simp only [am_cb_i, am_cb_e, Option.toList_some, Option.toList_none, List.cons_append, List.nil_append]
  rw [b227_791, if_pos rfl, show am_ev (d + 13) 144 _ _ _ = _ from e2]
  simp only [am_cb_i, am_cb_e, Option.toList_some, Option.toList_none, List.cons_append, List.nil_append]
  rw [b227_800, if_pos rfl, show am_ev (d + 13) 152 _ _ _ = _ from e3]
  simp only [am_cb_i, am_cb_e, Option.toList_some, Option.toList_none, List.cons_append, List.nil_append]
  rw [b227_810, if_pos (lg_self _), show am_ev (d + 13) 145 _ _ _ = _ from e4]
  simp only [am_cb_i, am_cb_e, Option.toList_some, Option.toList_none, List.cons_append, List.nil_append]
  rw [b227_819, if_pos rfl, show am_ev (d + 13) 152 _ _ _ = _ from e5]
  simp only [am_cb_i, am_cb_e, Option.toList_some, Option.toList_none, List.cons_append, List.nil_append]
  rw [b227_828, if_pos (lg_self _)]
/-- the second object's run answers 1 -/
theorem lw3 (hL : hLM M) (hg : gS 1000 a none M) (hQ : Q1 0 a) (hw1 : w.2.2.1 = none) (hw2 : w.2.2.2 = none) : ∃ M' w', am_rn (am_ev (d + 13)) 227 519 [some (am_P (0, 0, 0)), none, some (am_P (3, 0, 0)), none, none, none, none, none, none, none, none] [] M (am_Z w) = some (.inl (some (am_I (nI 1))), M', am_Z w') ∧ w'.1 ≤ w.1 + 100000 ∧ w'.2.1 ≤ w.2.1 + 600000 := by
  obtain ⟨M1, w1, a1, hs1, e1, ⟨o1, o2, o3⟩, q1, hL1, u1⟩ := lw2a (d := d) (w := w) hL (by decide) (by decide) hg hQ hw2
  have g1 : w1.2.2.1 = none := by rw [u1.2]; exact hw1
  have g2 : w1.2.2.2 = none := by rw [u1.2]; exact hw2
  have e2 := rl_newl (M := M1) (w := w1) (s := lF a1) (h := nI (a1 0)) (call := am_ev (d + 13)) g1 g2
  obtain ⟨n', a', hs', M', w', f', x9', c1, c2, c3, c4, c5, c6, c7, c8, c9⟩ := lw3a (d := d) (s := lF a1) (h := nI (a1 0)) (sv := some a1) 12 0 0 501000 a1 hs1 M1 (w1.1 + 1, w1.2.1 + 13, some (fun _ => 0), none) (fun _ => 0) none rfl (Nat.le_refl _) (by decide) (by decide) hL1 ⟨o1.mono (by decide), fun b hb => (o2 b hb).mono (by decide)⟩ q1 ⟨by decide, o3, Or.inl (Nat.zero_le _), fun k h1 h2 _ => absurd h1 (by omega)⟩ rfl rfl
  obtain ⟨c, hc⟩ : ∃ c, c = if n' < 8 then n' else 8 := ⟨_, rfl⟩
  have hcn : c ≤ n' ∧ c ≤ 8 := by split at hc <;> omega
  have hcc : (if nI n' < nI 8 then nI n' else nI 8) = nI c := by
    by_cases h8 : n' < 8
    · rw [if_pos (nI_lt h8 (by decide)), hc, if_pos h8]
    · rw [if_neg (nI_nlt (by omega) (by omega)), hc, if_neg h8]
  obtain ⟨a2, hs2, M2, w2, x2, d1, d2, d3, d4⟩ := lw3b (d := d) (B := 5301000) (s := lF a1) (h := nI (a1 0)) (sv := some a1) (n := n') (c := c) c4 hc (by decide) (by decide) (fun b hb => (c2.2 b hb).mono (by decide)) c 0 a' M' w' none (by omega) (by rw [Nat.sub_zero, List.take_length]; exact c3) c5 c6
  obtain ⟨M3, w3, k1, k2, k3⟩ := lw3c (d := d) (B := 501000) (w := w2) (n := n') (c := c) (k := c + 1) (x10 := x2) (Nat.lt_succ_self _) (by omega) (by decide) (by decide) (o1.mono (by decide)) d2
  obtain ⟨⟨p1, p2, p3, p4⟩, p5⟩ := u1
  dsimp only at c8 c9
  refine ⟨M3, w3, ?_, by omega, by omega⟩
  refine Eq.trans e1 (Eq.trans e2 (Eq.trans b227_643 (Eq.trans c1 ?_)))
  rw [show am_rn (am_ev (d + 13)) 227 651 (L8 (lF a1) (nI (a1 0)) n' 12 x9' none) [] M' (am_Z w') = _ from b227_651, if_neg (by decide), hcc]
  exact Eq.trans d1 k1
end Kl3
