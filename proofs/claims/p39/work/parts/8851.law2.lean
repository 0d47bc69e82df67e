/-! THE LAW'S SECOND OBJECT: MADE, ASKED, REFUSING, SAVED -/
section Kl2
variable {d B : Nat} {M : am_M} {a b : Nat → Nat} {w : am_W4} {hs : List (Nat → Nat)} {sv : Option (Nat → Nat)} {R : Int32 × Int32 × Int32} {e : Int32} {x y z : Int32}
def Q4 (k : Nat) (a : Nat → Nat) : Prop := a 1 = 5 ∧ a 2 = k ∧ ∀ j, 1 ≤ j → j ≤ 8 → a (3 + j) ≠ 0
theorem o_snd_k {k c v : Nat} (h : Q4 k a) (hk : k < 4) (hc : c ≤ 7) (hD : Dg (c + 1) v) : oC a 5 (nI k) (nI (k + 1)) (nI v) = .inl (k, sn a k (k + 1) v) ∧ Q4 (k + 1) (sn a k (k + 1) v) := by
  obtain ⟨g1, g2, g3⟩ := h
  have hm := m8_le (c + 1) (by omega)
  have hv := hD.1.1
  have hp := hD.pos
  constructor
  · show o_snd a (nI k) (nI (k + 1)) (nI v) = _
    unfold o_snd
    rw [g1, if_pos (by rw [am_inT (by omega) (by omega)]; trivial), if_pos (by rw [am_inT (by omega) (by omega)]; trivial), if_neg (fun q => by have := (nI_eq (by omega) (by omega)).mp q; omega), if_pos ((bt_P (by omega) (by decide) (by decide)).mpr ⟨hp, by omega⟩), cN_nI (k := v) (by omega), if_pos (hD.dgki (by omega)), hD.uki (by omega) g3, if_neg (by decide), if_neg (by omega), cN_nI (by omega), cN_nI (by omega), g2]
  · refine ⟨by rw [sn_o (by decide) (by decide) (by omega)]; exact g1, by rw [sn_2, g2], fun j j1 j2 => ?_⟩
    rw [sn_o (by omega) (by omega) (by omega)]
    exact g3 j j1 j2
theorem ml_ps_12 (hB0 : 1000 ≤ B) (h : ml_ok B a) : ∀ k, (ml_ps a k).1 1 = a 1 ∧ (ml_ps a k).1 2 = a 2 ∧ ml_ok (B + 200 * k) (ml_ps a k).1 := by
  intro k
  induction k with
  | zero => exact ⟨rfl, rfl, h⟩
  | succ k ih =>
    have g := ml_goes_ok (B := B + 200 * k) (by omega) ih.2.2
    exact ⟨g.2.1.trans ih.1, g.2.2.1.trans ih.2.1, g.1.mono (by omega)⟩
theorem o_pas_k {n : Nat} (h : Q4 4 a) (hok : ml_ok B a) (hB0 : 1000 ≤ B) (h1 : 1 ≤ n) (h96 : n ≤ 96) : oC a 7 (nI n) (nI 0) (nI 0) = .inl ((ml_ps a n).2, (ml_ps a n).1) ∧ (ml_ps a n).1 1 = 5 ∧ (ml_ps a n).1 2 = 4 := by
  obtain ⟨q1, q2, -⟩ := ml_ps_12 hB0 hok n
  refine ⟨?_, q1.trans h.1, q2.trans h.2.1⟩
  show o_pas a (nI n) = _
  unfold o_pas
  rw [if_pos ((bt_P (by omega) (by decide) (by decide)).mpr ⟨h1, h96⟩), cN_nI (by omega)]
/-- a row that is the same below 364 -/
theorem clN.cg {n : Nat} (hok : ml_ok B a) (h : clN n a M) (e : ∀ j, j < 364 → b j = a j) : clN n b M := by
  obtain ⟨ar, h⟩ := h
  exact ⟨ar, h.cg hok e⟩
theorem lS.cg {tx : List Int32} (hok : ml_ok B a) (h : lS a hs sv tx R e M) (e' : ∀ j, j < 364 → b j = a j) : lS b hs sv tx R e M := by
  obtain ⟨ln, hc, hl⟩ := h
  exact ⟨ln, ⟨clN.cg hok hc.1 e', hc.2⟩, hl⟩
theorem mix_ok (h : ml_ok B b) : ml_ok B (mix a b) := h.cg (fun j hj => mix_lt hj)
/-- undo: the latest former state -/
theorem a144 (hok : ml_ok B b) (h : lE a (hs ++ [b]) sv M) : ∃ M', am_ev (d + 4) 144 [am_P (3, 0, 0)] M (am_Z w) = some (.inl (some (am_I (nI hs.length))), M', am_Z w) ∧ lE b hs sv M' ∧ clF M M' := by
  obtain ⟨R, e, ln, hc, hl⟩ := h
  obtain ⟨M', e1, e2, e3⟩ := k107s (d := d) (w := w) hok hc
  exact ⟨M', h144.1 _ M' e1, ⟨R, e, lS.cg (mix_ok hok) ⟨ln, e2, hl⟩ (fun j hj => (mix_lt hj).symm)⟩, e3⟩
theorem a144n (h : lE a [] sv M) : am_ev (d + 2) 144 [am_P (3, 0, 0)] M (am_Z w) = some (.inl (some (am_I (-1001 : Int32))), M, am_Z (am_bw w)) := by
  obtain ⟨R, e, ln, hc, hl⟩ := h
  exact h144.2 4 1 M _ List.mem_cons_self (k107n (d := d) hc)
theorem a145 (hok : ml_ok B b) (h : lE a hs (some b) M) : ∃ M', am_ev (d + 4) 145 [am_P (3, 0, 0)] M (am_Z w) = some (.inl (some (am_I (nI (b 0)))), M', am_Z w) ∧ lE b [] (some b) M' ∧ clF M M' := by
  obtain ⟨R, e, ln, hc, hl⟩ := h
  obtain ⟨M', e1, e2, e3⟩ := k109s (d := d) (w := w) hok hc
  exact ⟨M', h145.1 _ M' e1, ⟨R, e, lS.cg (mix_ok hok) ⟨ln, e2, hl⟩ (fun j hj => (mix_lt hj).symm)⟩, e3⟩
theorem a108 (hok : ml_ok B a) (h : lE a hs sv M) : ∃ M', am_ev (d + 3) 108 [am_P (3, 0, 0)] M (am_Z w) = some (.inl (some (am_I (nI (a 0)))), M', am_Z w) ∧ lE a hs (some a) M' ∧ clF M M' := by
  obtain ⟨R, e, ln, hc, hl⟩ := h
  obtain ⟨M', e1, e2, e3⟩ := k108 (d := d) (w := w) hok hc
  exact ⟨M', e1, ⟨R, e, ln, e2, hl⟩, e3⟩
theorem e152E (hB0 : 1000 ≤ B) (hB : B < 1000000000) (hok : ml_ok B a) (h : lE a hs sv M) : ∃ M' w', am_ev (d + 12) 152 [am_P (3, 0, 0)] M (am_Z w) = some (.inl (some (.inl (.long (lF a)))), M', am_Z w') ∧ lE a hs sv M' ∧ clF M M' ∧ wle 900 w w' := by
  obtain ⟨R, e, h⟩ := h
  obtain ⟨M', w', e1, q1, f1, u1⟩ := k152 (d := d) (w := w) hB0 (by omega) hok h
  exact ⟨M', w', e1, ⟨R, e, q1⟩, f1, u1⟩
abbrev Lk (k : Nat) : am_S := [some (am_P (0, 0, 0)), none, some (am_P (3, 0, 0)), some (am_I (nI k)), none, none, none, none, none, none, none]
theorem snds : ∀ r k B (M : am_M) (a : Nat → Nat), k + r = 4 → 1000 ≤ B → B + 20000 * r < 900000000 → hLM M → gS B a sv M → Q4 k a → ∃ M' a', am_rn (am_ev (d + 13)) 227 531 (Lk k) [] M (am_Z w) = am_rn (am_ev (d + 13)) 227 531 (Lk 4) [] M' (am_Z w) ∧ gS (B + 20000 * r) a' sv M' ∧ Q4 4 a' ∧ clF M M' := by
  intro r
  induction r with
  | zero =>
    intro k B M a hk hB0 hB hL hg hQ
    obtain rfl : k = 4 := by omega
    exact ⟨M, a, rfl, hg, hQ, clF.rf M⟩
  | succ r ih =>
    intro k B M a hk hB0 hB hL hg hQ
    obtain ⟨v0, e0⟩ := k113 (d := d + 12) (w := w) (k := 24 + k) (by omega) hL
    obtain ⟨c, v, hc, hD, e1⟩ := k151 (d := d + 11) (M := M) (w := w) (x := v0)
    obtain ⟨o1, o2⟩ := o_snd_k hQ (by omega) hc hD
    obtain ⟨M1, e4, g1, f1, -⟩ := gO (d := d + 2) (w := w) (zz := 120) (as := [am_P (3, 0, 0), am_I (nI k), am_I (nI (k + 1)), am_I (nI v)]) hB0 hg o1 (fun hs R e hok h => a120 (d := d + 3) hB0 (by omega) hok h)
    obtain ⟨M2, a2, e5, g2, q2, f2⟩ := ih (k + 1) (B + 20000) M1 _ (by omega) (by omega) (by omega) (hL.cl f1) g1 o2
    refine ⟨M2, a2, ?_, ?_, q2, f1.tr f2⟩
    · rw [show am_rn (am_ev (d + 13)) 227 531 (Lk k) [] M (am_Z w) = _ from b227_531, if_pos (nI_lt (by omega) (by decide)), nI_add, show am_ev (d + 13) 113 _ _ _ = _ from e0]
      simp only [am_cb_i, am_cb_e, Option.toList_some, Option.toList_none, List.cons_append, List.nil_append]
      rw [b227_549, show am_ev (d + 13) 151 _ _ _ = _ from e1]
      simp only [am_cb_i, am_cb_e, Option.toList_some, Option.toList_none, List.cons_append, List.nil_append]
      rw [b227_552, nI_add, show am_ev (d + 13) 120 _ _ _ = _ from e4]
      simp only [am_cb_i, am_cb_e, Option.toList_some, Option.toList_none, List.cons_append, List.nil_append]
      rw [b227_555, if_pos rfl, nI_add]
      exact e5
    · rw [show B + 20000 * (r + 1) = B + 20000 + 20000 * r by omega]; exact g2
abbrev L5 (s : Int64) (h : Int32) : am_S := [some (am_P (0, 0, 0)), none, some (am_P (3, 0, 0)), some (.inl (.long s)), none, some (am_I h), none, none, none, none, none]
/-- to the row of longs -/
theorem lw2a (hL : hLM M) (hB0 : 1000 ≤ B) (hB : B < 100000000) (hg : gS B a none M) (hQ : Q1 0 a) (hw : w.2.2.2 = none) : ∃ M' w' a' hs, am_rn (am_ev (d + 13)) 227 519 [some (am_P (0, 0, 0)), none, some (am_P (3, 0, 0)), none, none, none, none, none, none, none, none] [] M (am_Z w) = am_rn (am_ev (d + 13)) 227 641 (L5 (lF a') (nI (a' 0))) [am_I (nI 13)] M' (am_Z w') ∧ (ml_ok (B + 500000) a' ∧ (∀ b ∈ hs, ml_ok (B + 500000) b) ∧ hs.length ≤ 8) ∧ lE a' hs (some a') M' ∧ hLM M' ∧ wle 5000 w w' := by
  obtain ⟨M1, a1, e1, g1, q1, f1⟩ := k150 (d := d + 1) (w := w) hL hB0 (by omega) hg hQ
  have hL1 := hL.cl f1
  obtain ⟨M2, a2, e2, g2, q2, f2⟩ := snds (d := d) (w := w) (sv := none) 4 0 (B + 360000) M1 a1 rfl (by omega) (by omega) hL1 g1 ⟨q1.1, q1.2.1, q1.2.2.1⟩
  have hL2 := hL1.cl f2
  obtain ⟨v0, e3⟩ := k113 (d := d + 12) (M := M2) (w := w) (k := 28) (by decide) hL2
  obtain ⟨t, ht, e4⟩ := k114 (d := d + 12) (M := M2) (w := w) (x := v0) (n := 20) (by decide) (by decide)
  have hok2 : ml_ok (B + 360000 + 20000 * 4) a2 := g2.choose_spec.1.1
  obtain ⟨o1, o2, o3⟩ := o_pas_k (n := 1 + t) q2 hok2 (by omega) (by omega) (by omega)
  obtain ⟨M3, e5, g3, f3, hv⟩ := gO (d := d + 2) (w := w) (zz := 122) (as := [am_P (3, 0, 0), am_I (nI (1 + t))]) (by omega) g2 o1 (fun hs R e hok h => a122 (d := d + 3) (by omega) (by omega) hok h)
  obtain ⟨hs, ⟨k1, k2, k3⟩, hE⟩ := g3
  have hL3 := hL2.cl f3
  obtain ⟨M4, w4, e6, q4, f4, u4⟩ := e152E (d := d + 1) (w := w) (by omega) (by omega) k1 hE
  obtain ⟨M5, w5, e7, q5, f5, u5⟩ := e152E (d := d + 1) (w := w4) (by omega) (by omega) k1 q4
  obtain ⟨R5, v5, q5'⟩ := q5
  have hw5 : w5.2.2.2 = none := by rw [u5.2, u4.2]; exact hw
  obtain ⟨M6, w6, e8, q6, f6, u6⟩ := k154 (d := d) (w := w5) o2 o3 (by omega) (by omega) k1 hw5 q5'
  obtain ⟨M7, e9, q7, f7⟩ := a108 (d := d + 10) (w := w6) k1 ⟨_, _, q6⟩
  obtain ⟨R7, v7, q7'⟩ := q7
  obtain ⟨M8, w8, ea, q8, f8, u8⟩ := d143 (d := d + 2) (w := w6) (x := nI 0) (by omega) k1 q7'
  obtain ⟨M9, w9, eb, q9, f9, u9⟩ := e152E (d := d + 1) (w := w8) (by omega) (by omega) k1 ⟨_, _, q8⟩
  have qa0 : qvl id (q_all (ml_ps a2 (1 + t)).1 hs.length ([] : List Int32).length (nI 0)) = nI ((ml_ps a2 (1 + t)).1 0) := by
    unfold q_all
    rw [if_pos rfl]
    rfl
  rw [qa0] at ea
  refine ⟨M9, w9, _, hs, ?_, ⟨k1.mono (by omega), fun b hb => (k2 b hb).mono (by omega), k3⟩, q9, ((((((hL3.cl f4).cl f5).cl f6).cl f7).cl f8).cl f9), u4.tr (u5.tr (u6.tr (u8.tr u9 (Nat.le_refl _)) (Nat.le_refl _)) (Nat.le_refl _)) (by decide)⟩
  rw [b227_519, show am_ev (d + 13) 150 _ _ _ = _ from e1]
  simp only [am_cb_i, am_cb_e, Option.toList_some, Option.toList_none, List.cons_append, List.nil_append]
  rw [b227_524, if_neg (by decide)]
  refine Eq.trans e2 ?_
  rw [show am_rn (am_ev (d + 13)) 227 531 (Lk 4) [] M2 (am_Z w) = _ from b227_531, if_neg (by decide), show am_ev (d + 13) 113 _ _ _ = _ from e3]
  simp only [am_cb_i, am_cb_e, Option.toList_some, Option.toList_none, List.cons_append, List.nil_append]
  rw [b227_575, show am_ev (d + 13) 114 _ _ _ = _ from e4]
  simp only [am_cb_i, am_cb_e, Option.toList_some, Option.toList_none, List.cons_append, List.nil_append]
  rw [b227_580, nI_add, show am_ev (d + 13) 122 _ _ _ = _ from e5]
  simp only [am_cb_i, am_cb_e, Option.toList_some, Option.toList_none, List.cons_append, List.nil_append]
  rw [b227_584, if_neg (nI_pos hv), show am_ev (d + 13) 152 _ _ _ = _ from e6]
  simp only [am_cb_i, am_cb_e, Option.toList_some, Option.toList_none, List.cons_append, List.nil_append]
  rw [b227_593, show am_ev (d + 13) 152 _ _ _ = _ from e7]
  simp only [am_cb_i, am_cb_e, Option.toList_some, Option.toList_none, List.cons_append, List.nil_append]
  rw [b227_598, if_pos (lg_self _), e8]
  simp only [am_cb_i, am_cb_e, Option.toList_some, Option.toList_none, List.cons_append, List.nil_append]
  rw [b227_607, if_neg (by decide), show am_ev (d + 13) 108 _ _ _ = _ from e9]
  simp only [am_cb_i, am_cb_e, Option.toList_some, Option.toList_none, List.cons_append, List.nil_append]
  rw [b227_616, show am_ev (d + 13) 143 _ _ _ = _ from ea]
  simp only [am_cb_i, am_cb_e, Option.toList_some, Option.toList_none, List.cons_append, List.nil_append]
  rw [b227_625, if_pos rfl, show am_ev (d + 13) 152 _ _ _ = _ from eb]
  simp only [am_cb_i, am_cb_e, Option.toList_some, Option.toList_none, List.cons_append, List.nil_append]
  rw [b227_632, if_pos (lg_self _)]
end Kl2
