/-! A CHANGE OUT OF THE SCRIPT -/
theorem d10_ok : ∀ v, v < 100 → (∀ c ∈ am_d10 v, c < 128) ∧ (am_d10 v).length ≤ 2 := by decide +kernel
theorem lit_ok : ∀ k, k < 9 → (∀ c ∈ am_lit k, c < 128) ∧ (am_lit k).length ≤ 14 := by decide +kernel
theorem tx_app {s t : List Nat} {m n : Nat} (h : (∀ c ∈ s, c < 128) ∧ s.length ≤ m) (h' : (∀ c ∈ t, c < 128) ∧ t.length ≤ n) : (∀ c ∈ s ++ t, c < 128) ∧ (s ++ t).length ≤ m + n := by
  refine ⟨fun c hc => (List.mem_append.mp hc).elim (h.1 c) (h'.1 c), ?_⟩
  rw [List.length_append]
  exact Nat.add_le_add h.2 h'.2
theorem da_ok {x : Int32} {k n : Nat} (h0 : 0 < n) (hn : n ≤ 100) : (∀ c ∈ am_da x k n, c < 128) ∧ (am_da x k n).length ≤ 2 := by
  unfold am_da
  exact d10_ok _ (Nat.lt_of_lt_of_le (mo_lt h0 (by omega)) hn)
theorem tx_ok {pc : Nat} {x : Int32} : (∀ c ∈ am_tx pc x, c < 128) ∧ (am_tx pc x).length ≤ 48 := by
  unfold am_tx
  split
  · exact tx_app (m := 46) (tx_app (m := 32) (tx_app (m := 30) (tx_app (m := 16) (tx_app (m := 14) (lit_ok 0 (by decide)) (da_ok (by decide) (by decide))) (lit_ok 1 (by decide))) (da_ok (by decide) (by decide))) (lit_ok 2 (by decide))) (da_ok (by decide) (by decide))
  · exact tx_app (m := 46) (tx_app (m := 32) (tx_app (m := 30) (tx_app (m := 16) (tx_app (m := 14) (lit_ok 3 (by decide)) (da_ok (by decide) (by decide))) (lit_ok 4 (by decide))) (da_ok (by decide) (by decide))) (lit_ok 5 (by decide))) (da_ok (by decide) (by decide))
section Kch
variable {d B : Nat} {M : am_M} {a : Nat → Nat} {w : am_W4} {hs : List (Nat → Nat)} {sv : Option (Nat → Nat)} {tx ln : List Int32} {R : Int32 × Int32 × Int32} {e : Int32} {x y z : Int32}
/-- the object between two commands of the law -/
def lE (a : Nat → Nat) (hs : List (Nat → Nat)) (sv : Option (Nat → Nat)) (M : am_M) : Prop := ∃ R e, lS a hs sv [] R e M
def chR (B : Nat) (a : Nat → Nat) (hs : List (Nat → Nat)) (sv : Option (Nat → Nat)) (M : am_M) (w : am_W4) (r : Option am_R) : Prop :=
  (∃ a' M' w', r = some (.inl (some (am_I (nI 1))), M', am_Z w') ∧ ml_ok (B + 400000) a' ∧ lE a' (hpush hs a) sv M' ∧ clF M M' ∧ wle 420 w w') ∨ (∃ M' w', r = some (.inl (some (am_I (nI 0))), M', am_Z w') ∧ lE a hs sv M' ∧ clF M M' ∧ wle 420 w w')
theorem ch_of {r : Option am_R} {o : Out} {K : Option am_V → am_M → am_X → Option am_R} (h : hO a hs sv [] R e M w r o) (hk : okO B o) (hK : ∀ s M' w', K (some (am_I s)) M' (am_Z w') = if s < 0 then some (.inl (some (am_I (nI 0))), M', am_Z w') else some (.inl (some (am_I (nI 1))), M', am_Z w')) : chR B a hs sv M w (am_cb r K) := by
  rcases o with ⟨v, a'⟩ | ⟨q, u⟩
  · obtain ⟨M', rfl, h2, h3⟩ := h
    refine Or.inl ⟨a', M', w, ?_, hk.2.mono (by omega), ⟨R, e, h2⟩, h3, wle.rf w⟩
    rw [am_cb_i, hK, if_neg (nI_pos hk.1)]
  · obtain ⟨M', rfl, h2, h3⟩ := h
    refine Or.inr ⟨M', am_bw w, ?_, ⟨_, e, h2⟩, h3, (wle.bw w).mono (by decide)⟩
    rw [am_cb_i, hK, if_pos (by decide)]
theorem chR.wl {M0 : am_M} {w0 : am_W4} {r : Option am_R} (h : chR B a hs sv M w r) (h1 : clF M0 M) (h2 : wle 3 w0 w) : (∃ a' M' w', r = some (.inl (some (am_I (nI 1))), M', am_Z w') ∧ ml_ok (B + 400000) a' ∧ lE a' (hpush hs a) sv M' ∧ clF M0 M' ∧ wle 423 w0 w') ∨ (∃ M' w', r = some (.inl (some (am_I (nI 0))), M', am_Z w') ∧ lE a hs sv M' ∧ clF M0 M' ∧ wle 423 w0 w') := by
  rcases h with ⟨a', M', w', e1, e2, e3, e4, e5⟩ | ⟨M', w', e1, e3, e4, e5⟩
  · exact Or.inl ⟨a', M', w', e1, e2, e3, h1.tr e4, h2.tr e5 (by decide)⟩
  · exact Or.inr ⟨M', w', e1, e3, h1.tr e4, h2.tr e5 (by decide)⟩
theorem cg0 {c k : Nat} (hB0 : 1000 ≤ B) (hB : B < 1000000000) (hok : ml_ok B a) (h : lS a hs sv [] R e M) : chR B a hs sv M w (am_rn (am_ev (d + 11)) 153 93 [some (am_P (3, 0, 0)), some (am_I x), some (am_I (nI c))] [am_I (nI k), am_P (3, 0, 0)] M (am_Z w)) := by
  obtain ⟨k1, hk1, g1⟩ := k114 (d := d + 10) (M := M) (w := w) (x := x >>> ((nI 6) &&& 31)) (n := 11) (by decide) (by decide)
  obtain ⟨k2, hk2, g2⟩ := k114 (d := d + 10) (M := M) (w := w) (x := x >>> ((nI 8) &&& 31)) (n := 9) (by decide) (by decide)
  rw [b153_93, show am_ev (d + 11) 114 _ _ _ = _ from g1]
  simp only [am_cb_i, am_cb_e, Option.toList_some, Option.toList_none, List.cons_append, List.nil_append]
  rw [b153_102, show am_ev (d + 11) 114 _ _ _ = _ from g2]
  simp only [am_cb_i, am_cb_e, Option.toList_some, Option.toList_none, List.cons_append, List.nil_append]
  rw [b153_112]
  exact ch_of (a115 (d := d + 1) (x := nI k) (y := nI k1) (z := nI 1 + nI k2) hB0 (by omega) hok h) (h.okO hB0 hok) (fun s M1 w1 => by simp only [am_cb_i, am_cb_e, Option.toList_some, Option.toList_none, List.cons_append, List.nil_append]; exact b153_116)
theorem cg1 {c k : Nat} (hB0 : 1000 ≤ B) (hB : B < 1000000000) (hok : ml_ok B a) (h : lS a hs sv [] R e M) : chR B a hs sv M w (am_rn (am_ev (d + 11)) 153 135 [some (am_P (3, 0, 0)), some (am_I x), some (am_I (nI c))] [am_I (nI k), am_I (nI 1), am_P (3, 0, 0)] M (am_Z w)) := by
  obtain ⟨k1, hk1, g1⟩ := k114 (d := d + 10) (M := M) (w := w) (x := x >>> ((nI 6) &&& 31)) (n := 151) (by decide) (by decide)
  rw [b153_135, show am_ev (d + 11) 114 _ _ _ = _ from g1]
  simp only [am_cb_i, am_cb_e, Option.toList_some, Option.toList_none, List.cons_append, List.nil_append]
  rw [b153_147]
  exact ch_of (a116 (d := d + 1) (x := nI 1 + nI k) (y := nI 1 + nI k1) hB0 (by omega) hok h) (h.okO hB0 hok) (fun s M1 w1 => by simp only [am_cb_i, am_cb_e, Option.toList_some, Option.toList_none, List.cons_append, List.nil_append]; exact b153_151)
theorem cg2 {c k : Nat} (hB0 : 1000 ≤ B) (hB : B < 1000000000) (hok : ml_ok B a) (h : lS a hs sv [] R e M) : chR B a hs sv M w (am_rn (am_ev (d + 11)) 153 171 [some (am_P (3, 0, 0)), some (am_I x), some (am_I (nI c))] [am_I (nI k), am_I (nI c), am_P (3, 0, 0)] M (am_Z w)) := by
  obtain ⟨k1, hk1, g1⟩ := k114 (d := d + 10) (M := M) (w := w) (x := x >>> ((nI 8) &&& 31)) (n := 24) (by decide) (by decide)
  rw [b153_171, show am_ev (d + 11) 114 _ _ _ = _ from g1]
  simp only [am_cb_i, am_cb_e, Option.toList_some, Option.toList_none, List.cons_append, List.nil_append]
  rw [b153_180]
  exact ch_of (a117 (d := d + 1) (x := nI c) (y := nI k) (z := nI k1) hB0 (by omega) hok h) (h.okO hB0 hok) (fun s M1 w1 => by simp only [am_cb_i, am_cb_e, Option.toList_some, Option.toList_none, List.cons_append, List.nil_append]; exact b153_183)
theorem cg3 {c k : Nat} (hB0 : 1000 ≤ B) (hB : B < 1000000000) (hok : ml_ok B a) (h : lS a hs sv [] R e M) : chR B a hs sv M w (am_rn (am_ev (d + 11)) 153 203 [some (am_P (3, 0, 0)), some (am_I x), some (am_I (nI c))] [am_I (nI k), am_I (nI c), am_P (3, 0, 0)] M (am_Z w)) := by
  rw [b153_203]
  exact ch_of (a118 (d := d + 1) (x := nI c) (y := nI k) hB0 (by omega) hok h) (h.okO hB0 hok) (fun s M1 w1 => by simp only [am_cb_i, am_cb_e, Option.toList_some, Option.toList_none, List.cons_append, List.nil_append]; exact b153_206)
theorem cg4 {c k : Nat} (hB0 : 1000 ≤ B) (hB : B < 1000000000) (hok : ml_ok B a) (h : lS a hs sv [] R e M) : chR B a hs sv M w (am_rn (am_ev (d + 11)) 153 226 [some (am_P (3, 0, 0)), some (am_I x), some (am_I (nI c))] [am_I (nI k), am_I (nI c), am_P (3, 0, 0)] M (am_Z w)) := by
  rw [b153_226]
  exact ch_of (a119 (d := d + 1) (x := nI c) (y := nI k) hB0 (by omega) hok h) (h.okO hB0 hok) (fun s M1 w1 => by simp only [am_cb_i, am_cb_e, Option.toList_some, Option.toList_none, List.cons_append, List.nil_append]; exact b153_229)
theorem cg5 {c k : Nat} (hB0 : 1000 ≤ B) (hB : B < 1000000000) (hok : ml_ok B a) (h : lS a hs sv [] R e M) : chR B a hs sv M w (am_rn (am_ev (d + 11)) 153 249 [some (am_P (3, 0, 0)), some (am_I x), some (am_I (nI c))] [am_I (nI k), am_I (nI c), am_P (3, 0, 0)] M (am_Z w)) := by
  obtain ⟨c1, v, -, -, g1⟩ := k151 (d := d + 9) (M := M) (w := w) (x := x >>> ((nI 5) &&& 31))
  rw [b153_249, show am_ev (d + 11) 151 _ _ _ = _ from g1]
  simp only [am_cb_i, am_cb_e, Option.toList_some, Option.toList_none, List.cons_append, List.nil_append]
  rw [b153_255]
  exact ch_of (a120 (d := d + 1) (x := nI c) (y := nI k) (z := nI v) hB0 (by omega) hok h) (h.okO hB0 hok) (fun s M1 w1 => by simp only [am_cb_i, am_cb_e, Option.toList_some, Option.toList_none, List.cons_append, List.nil_append]; exact b153_258)
theorem cg9 {c k : Nat} (hB0 : 1000 ≤ B) (hB : B < 1000000000) (hok : ml_ok B a) (h : lS a hs sv [] R e M) : chR B a hs sv M w (am_rn (am_ev (d + 11)) 153 302 [some (am_P (3, 0, 0)), some (am_I x), some (am_I (nI c))] [am_I (nI k), am_P (3, 0, 0)] M (am_Z w)) := by
  rw [b153_302]
  exact ch_of (a122 (d := d + 1) (x := nI k) hB0 (by omega) hok h) (h.okO hB0 hok) (fun s M1 w1 => by simp only [am_cb_i, am_cb_e, Option.toList_some, Option.toList_none, List.cons_append, List.nil_append]; exact b153_305)
theorem cg8 {c : Nat} (hB0 : 1000 ≤ B) (hB : B < 1000000000) (hok : ml_ok B a) (h : lS a hs sv [] R e M) : chR B a hs sv M w (am_rn (am_ev (d + 11)) 153 276 [some (am_P (3, 0, 0)), some (am_I x), some (am_I (nI c))] [am_I (nI (a 2)), am_I (x >>> ((nI 4) &&& 31)), am_P (3, 0, 0)] M (am_Z w)) := by
  have b2 := hok.1.2.1
  obtain ⟨k1, hk1, g1⟩ := k114 (d := d + 10) (M := M) (w := w) (x := x >>> ((nI 4) &&& 31)) (n := a 2 + 1) (by omega) (by omega)
  rw [b153_276, nI_add, show am_ev (d + 11) 114 _ _ _ = _ from g1]
  simp only [am_cb_i, am_cb_e, Option.toList_some, Option.toList_none, List.cons_append, List.nil_append]
  rw [b153_281]
  exact ch_of (a121 (d := d + 1) (x := nI k1) hB0 (by omega) hok h) (h.okO hB0 hok) (fun s M1 w1 => by simp only [am_cb_i, am_cb_e, Option.toList_some, Option.toList_none, List.cons_append, List.nil_append]; exact b153_284)
theorem cgt {pc c : Nat} (hw : w.2.2.2 = none) (hB0 : 1000 ≤ B) (hB : B < 1000000000) (hok : ml_ok B a) (h : lS a hs sv [] R e M) : chR B a hs sv M w (am_bs 449 [some (am_P (3, 0, 0)), some (am_I x), some (am_I (nI c))] [] ((am_ev (d + 11)) am_rdz [am_P (3, 0, 0), am_P (50, 0, 0)] M (am_Z (w.1, w.2.1, w.2.2.1, some (am_tx pc x)))) (10, 2400) (am_rn (am_ev (d + 11)) am_chz)) := by
  have ht := tx_ok (pc := pc) (x := x)
  have hkx : txk ((am_tx pc x).map nI) := ⟨by rw [List.length_map]; omega, fun c hc => by
    obtain ⟨n, hn, rfl⟩ := List.mem_map.mp hc
    rw [← chr_nI (ht.1 n hn)]
    exact vp_pc _⟩
  obtain ⟨M1, w1, e1, q1, f1, u1, v1⟩ := k147 (d := d + 1) (w := (w.1, w.2.1, w.2.2.1, some (am_tx pc x))) (t := am_tx pc x) rfl ht.1 (by omega) hB0 (by omega) hok h
  have u2 := u1.txt (c := 10) (s := 2400) (k := 420) hw (by decide) (by decide)
  rw [show (am_ev (d + 11)) am_rdz [am_P (3, 0, 0), am_P (50, 0, 0)] M (am_Z (w.1, w.2.1, w.2.2.1, some (am_tx pc x))) = _ from e1, bs_v]
  have e3 : ∀ s, am_rn (am_ev (d + 11)) am_chz 449 [some (am_P (3, 0, 0)), some (am_I x), some (am_I (nI c))] [am_I s] M1 (am_Z (w1.1 + 10, w1.2.1 + 2400, w1.2.2.1, none)) = if s < 0 then some (.inl (some (am_I (nI 0))), M1, am_Z (w1.1 + 10, w1.2.1 + 2400, w1.2.2.1, none)) else some (.inl (some (am_I (nI 1))), M1, am_Z (w1.1 + 10, w1.2.1 + 2400, w1.2.2.1, none)) := fun s => b153_449
  rw [e3]
  generalize tO a ((am_tx pc x).map nI) = o at q1 v1 ⊢
  rcases o with p | ⟨a', n⟩ | ⟨q, u, i⟩
  · exact Or.inr ⟨M1, _, if_pos (show (-1001 : Int32) < 0 by decide), ⟨_, _, q1⟩, f1, u2⟩
  · have hv := v1 a' n rfl
    exact Or.inl ⟨a', M1, _, if_neg (show ¬ nI n < 0 from nI_pos (by omega)), hv.2, ⟨_, _, q1⟩, f1, u2⟩
  · exact Or.inr ⟨M1, _, if_pos (show (-1002 : Int32) < 0 by decide), ⟨_, _, q1⟩, f1, u2⟩
theorem k153 (hw : w.2.2.2 = none) (hB0 : 1000 ≤ B) (hB : B < 1000000000) (hok : ml_ok B a) (h0 : lE a hs sv M) : (∃ a' M' w', am_ev (d + 12) 153 [am_P (3, 0, 0), am_I x] M (am_Z w) = some (.inl (some (am_I (nI 1))), M', am_Z w') ∧ ml_ok (B + 400000) a' ∧ lE a' (hpush hs a) sv M' ∧ clF M M' ∧ wle 423 w w') ∨ (∃ M' w', am_ev (d + 12) 153 [am_P (3, 0, 0), am_I x] M (am_Z w) = some (.inl (some (am_I (nI 0))), M', am_Z w') ∧ lE a hs sv M' ∧ clF M M' ∧ wle 423 w w') := by
  obtain ⟨R, e, h⟩ := h0
  have b1 := hok.1.1
  have b2 := hok.1.2.1
  obtain ⟨M1, w1, e1, q1, f1, u1⟩ := d143 (d := d) (w := w) (x := nI 2) (by omega) hok h
  rw [qa2] at e1
  obtain ⟨c, hc, e2⟩ := k114 (d := d + 10) (M := M1) (w := w1) (x := x >>> ((nI 4) &&& 31)) (n := a 1 + 1) (by omega) (by omega)
  obtain ⟨s, hs14, e3⟩ := k114 (d := d + 10) (M := M1) (w := w1) (x := x) (n := 14) (by decide) (by decide)
  have hw1 : w1.2.2.2 = none := by rw [u1.2]; exact hw
  have e4 : am_ev (d + 12) 153 [am_P (3, 0, 0), am_I x] M (am_Z w) = am_rn (am_ev (d + 11)) 153 20 [some (am_P (3, 0, 0)), some (am_I x), some (am_I (nI c))] [am_I (nI s)] M1 (am_Z w1) := by
    refine (am_ev_eq (d + 11) 153 _ M (am_Z w)).trans ?_
    show am_rn (am_ev (d + 11)) 153 0 [some (am_P (3, 0, 0)), some (am_I x), none] [] M (am_Z w) = _
    rw [b153_0, e1]
    simp only [am_cb_i, am_cb_e, Option.toList_some, Option.toList_none, List.cons_append, List.nil_append]
    rw [b153_8, nI_add, show am_ev (d + 11) 114 _ _ _ = _ from e2]
    simp only [am_cb_i, am_cb_e, Option.toList_some, Option.toList_none, List.cons_append, List.nil_append]
    rw [b153_13, show am_ev (d + 11) 114 _ _ _ = _ from e3]
    simp only [am_cb_i, am_cb_e, Option.toList_some, Option.toList_none, List.cons_append, List.nil_append]
  have key : chR B a hs sv M1 w1 (am_rn (am_ev (d + 11)) 153 20 [some (am_P (3, 0, 0)), some (am_I x), some (am_I (nI c))] [am_I (nI s)] M1 (am_Z w1)) ∨ ∃ M2 w2, chR B a hs sv M2 w2 (am_rn (am_ev (d + 11)) 153 20 [some (am_P (3, 0, 0)), some (am_I x), some (am_I (nI c))] [am_I (nI s)] M1 (am_Z w1)) ∧ clF M1 M2 ∧ wle 1 w1 w2 := by
    rw [b153_20 hw1]
    by_cases h0 : nI s = nI 0
    · left
      rw [if_pos h0]
      obtain ⟨k1, hk1, g1⟩ := k114 (d := d + 10) (M := M1) (w := w1) (x := x >>> ((nI 4) &&& 31)) (n := 11) (by decide) (by decide)
      rw [show am_ev (d + 11) 114 _ _ _ = _ from g1]
      simp only [am_cb_i, am_cb_e, Option.toList_some, Option.toList_none, List.cons_append, List.nil_append]
      exact cg0 hB0 hB hok q1
    rw [if_neg h0]
    by_cases h1 : nI s = nI 1
    · left
      rw [if_pos h1]
      obtain ⟨k1, hk1, g1⟩ := k114 (d := d + 10) (M := M1) (w := w1) (x := x >>> ((nI 4) &&& 31)) (n := 9) (by decide) (by decide)
      rw [show am_ev (d + 11) 114 _ _ _ = _ from g1]
      simp only [am_cb_i, am_cb_e, Option.toList_some, Option.toList_none, List.cons_append, List.nil_append]
      exact cg1 hB0 hB hok q1
    rw [if_neg h1]
    by_cases h2 : nI s = nI 2
    · left
      rw [if_pos h2]
      obtain ⟨k1, hk1, g1⟩ := k114 (d := d + 10) (M := M1) (w := w1) (x := x >>> ((nI 6) &&& 31)) (n := 25) (by decide) (by decide)
      rw [show am_ev (d + 11) 114 _ _ _ = _ from g1]
      simp only [am_cb_i, am_cb_e, Option.toList_some, Option.toList_none, List.cons_append, List.nil_append]
      exact cg2 hB0 hB hok q1
    rw [if_neg h2]
    by_cases h3 : nI s = nI 3
    · left
      rw [if_pos h3]
      obtain ⟨k1, hk1, g1⟩ := k114 (d := d + 10) (M := M1) (w := w1) (x := x >>> ((nI 6) &&& 31)) (n := 11) (by decide) (by decide)
      rw [show am_ev (d + 11) 114 _ _ _ = _ from g1]
      simp only [am_cb_i, am_cb_e, Option.toList_some, Option.toList_none, List.cons_append, List.nil_append]
      exact cg3 hB0 hB hok q1
    rw [if_neg h3]
    by_cases h4 : nI s = nI 4
    · left
      rw [if_pos h4]
      obtain ⟨k1, hk1, g1⟩ := k114 (d := d + 10) (M := M1) (w := w1) (x := x >>> ((nI 6) &&& 31)) (n := 11) (by decide) (by decide)
      rw [show am_ev (d + 11) 114 _ _ _ = _ from g1]
      simp only [am_cb_i, am_cb_e, Option.toList_some, Option.toList_none, List.cons_append, List.nil_append]
      exact cg4 hB0 hB hok q1
    rw [if_neg h4]
    by_cases h5 : nI s = nI 5
    · left
      rw [if_pos h5]
      obtain ⟨k1, hk1, g1⟩ := k114 (d := d + 10) (M := M1) (w := w1) (x := x >>> ((nI 6) &&& 31)) (n := 6) (by decide) (by decide)
      rw [show am_ev (d + 11) 114 _ _ _ = _ from g1]
      simp only [am_cb_i, am_cb_e, Option.toList_some, Option.toList_none, List.cons_append, List.nil_append]
      exact cg5 hB0 hB hok q1
    rw [if_neg h5]
    by_cases h6 : nI s = nI 6
    · left
      rw [if_pos h6]
      obtain ⟨k1, hk1, g1⟩ := k114 (d := d + 10) (M := M1) (w := w1) (x := x >>> ((nI 6) &&& 31)) (n := 6) (by decide) (by decide)
      rw [show am_ev (d + 11) 114 _ _ _ = _ from g1]
      simp only [am_cb_i, am_cb_e, Option.toList_some, Option.toList_none, List.cons_append, List.nil_append]
      exact cg5 hB0 hB hok q1
    rw [if_neg h6]
    by_cases h7 : nI s = nI 7
    · left
      rw [if_pos h7]
      obtain ⟨k1, hk1, g1⟩ := k114 (d := d + 10) (M := M1) (w := w1) (x := x >>> ((nI 6) &&& 31)) (n := 6) (by decide) (by decide)
      rw [show am_ev (d + 11) 114 _ _ _ = _ from g1]
      simp only [am_cb_i, am_cb_e, Option.toList_some, Option.toList_none, List.cons_append, List.nil_append]
      exact cg5 hB0 hB hok q1
    rw [if_neg h7]
    by_cases h8 : nI s = nI 8
    · right
      rw [if_pos h8]
      obtain ⟨M2, w2, g1, q2, f2, u2⟩ := d143 (d := d) (w := w1) (x := nI 4) (by omega) hok q1
      rw [qa4] at g1
      rw [g1]
      simp only [am_cb_i, am_cb_e, Option.toList_some, Option.toList_none, List.cons_append, List.nil_append]
      exact ⟨M2, w2, cg8 hB0 hB hok q2, f2, u2⟩
    rw [if_neg h8]
    by_cases h9 : nI s = nI 9
    · left
      rw [if_pos h9]
      obtain ⟨k1, hk1, g1⟩ := k114 (d := d + 10) (M := M1) (w := w1) (x := x >>> ((nI 4) &&& 31)) (n := 30) (by decide) (by decide)
      rw [show am_ev (d + 11) 114 _ _ _ = _ from g1]
      simp only [am_cb_i, am_cb_e, Option.toList_some, Option.toList_none, List.cons_append, List.nil_append]
      exact cg9 hB0 hB hok q1
    rw [if_neg h9]
    by_cases h10 : nI s = nI 10
    · left
      rw [if_pos h10]
      obtain ⟨k1, hk1, g1⟩ := k114 (d := d + 10) (M := M1) (w := w1) (x := x >>> ((nI 4) &&& 31)) (n := 30) (by decide) (by decide)
      rw [show am_ev (d + 11) 114 _ _ _ = _ from g1]
      simp only [am_cb_i, am_cb_e, Option.toList_some, Option.toList_none, List.cons_append, List.nil_append]
      exact cg9 hB0 hB hok q1
    rw [if_neg h10]
    by_cases h11 : nI s = nI 11
    · left
      rw [if_pos h11]
      obtain ⟨k1, hk1, g1⟩ := k114 (d := d + 10) (M := M1) (w := w1) (x := x >>> ((nI 4) &&& 31)) (n := 30) (by decide) (by decide)
      rw [show am_ev (d + 11) 114 _ _ _ = _ from g1]
      simp only [am_cb_i, am_cb_e, Option.toList_some, Option.toList_none, List.cons_append, List.nil_append]
      exact cg9 hB0 hB hok q1
    rw [if_neg h11]
    left
    by_cases hb : ((x >>> ((nI 6) &&& 31)) &&& (nI 1)) = 0
    · rw [if_pos hb]
      exact cgt hw1 hB0 hB hok q1
    · rw [if_neg hb]
      exact cgt hw1 hB0 hB hok q1
  rw [e4]
  rcases key with key | ⟨M2, w2, key, f2, u2⟩
  · exact key.wl f1 (u1.mono (by decide))
  · exact key.wl (f1.tr f2) (u1.tr u2 (by decide))
end Kch
