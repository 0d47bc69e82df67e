/-! THE LINE OF A MESSAGE AND ITS LETTERS -/
section Kli
variable {d B n : Nat} {M M' M0 : am_M} {a : Nat → Nat} {w : am_W4} {hs : List (Nat → Nat)} {sv : Option (Nat → Nat)} {tx ln : List Int32} {R : Int32 × Int32 × Int32} {e : Int32}
theorem sn_get {l : List Int32} {x c : Int32} {i : Nat} (hc : (l ++ [x])[i]? = some c) : (i < l.length ∧ l[i]? = some c) ∨ (i = l.length ∧ x = c) := by
  rcases Nat.lt_or_ge i l.length with hi | hi
  · rw [List.getElem?_append_left hi] at hc
    exact Or.inl ⟨hi, hc⟩
  · rw [List.getElem?_append_right hi] at hc
    have hi2 : i - l.length = 0 := by
      rcases Nat.eq_zero_or_pos (i - l.length) with z | z
      · exact z
      · rw [List.getElem?_eq_none (by rw [List.length_singleton]; omega)] at hc
        exact absurd hc (by simp)
    rw [hi2] at hc
    exact Or.inr ⟨by omega, Option.some.inj hc⟩
def q_ltr (ln : List Int32) (x : Int32) : Qo := match ln[cN x]? with | some c => if x < 0 then .inr (1, 1) else .inl c | none => .inr (1, 1)
theorem q_ltr_in {x : Int32} (h : am_in x ln.length) : ∃ c, ln[cN x]? = some c ∧ q_ltr ln x = .inl c := by
  obtain ⟨h1, h2⟩ := am_in_iff.mp h
  have e1 := List.getElem?_eq_getElem (l := ln) (i := cN x) h2
  refine ⟨_, e1, ?_⟩
  unfold q_ltr
  rw [e1]
  exact if_neg h1
theorem q_ltr_out {x : Int32} (h : ¬ am_in x ln.length) : q_ltr ln x = .inr (1, 1) := by
  unfold q_ltr
  by_cases h1 : x < 0
  · cases ln[cN x]? with
    | none => rfl
    | some c => exact if_pos h1
  · rw [List.getElem?_eq_none (by
      rcases Nat.lt_or_ge x.toNatClampNeg ln.length with z | z
      · exact absurd (am_in_iff.mpr ⟨h1, z⟩) h
      · exact z)]
theorem k105 {x : Int32} (hl : ln.length ≤ 14) (hc : ∀ c ∈ ln, am_pc 2 c = true) (h : clS a hs sv tx R e ln M) : clQ M w (am_ev (d + 1) 105 [am_P (3, 0, 0), am_I x] M (am_Z w)) (q_ltr ln x) := by
  have hT := h.2.2.2.1.2.2
  rw [e105, hT.1]
  by_cases hx : am_in x ln.length
  · obtain ⟨c, g1, g2⟩ := q_ltr_in hx
    obtain ⟨x, hx', hx2, rfl⟩ := in_nI hx
    rw [cN_nI hx2] at g1
    have hM := hT.2 x c g1
    have hM2 : M (12, 0, 0) (nI x).toNatClampNeg = c := by rw [nI_clamp hx2]; exact hM
    rw [if_neg (nI_pos hx2), g2, if_pos (nI_lt hx' (by omega)), if_pos (by rw [am_inT (by omega) (by omega)]; trivial), if_pos (by rw [hM2]; exact hc c (List.mem_of_getElem? g1)), hM2]
    rfl
  · rw [q_ltr_out hx]
    by_cases h0 : x < 0
    · rw [if_pos h0]; rfl
    · rw [if_neg h0]
      obtain ⟨x, hx2, rfl⟩ := nI_of h0
      rw [if_neg (nI_nlt (by
        rcases Nat.lt_or_ge x ln.length with z | z
        · exact absurd ((am_inP hx2).mpr z) hx
        · exact z) hx2)]
      rfl
theorem k104 {c : Int32} (hl : ln.length < 14) (h : clS a hs sv tx R e ln M) : ∃ M', am_ev (d + 1) 104 [am_P (3, 0, 0), am_I c] M (am_Z w) = some (.inl none, M', am_Z w) ∧ clS a hs sv tx R e (ln ++ [vp_nar .char c]) M' ∧ clF M M' := by
  obtain ⟨hA, ⟨sr, s1, s2, s3, s4, s5⟩, hV, hT, hR⟩ := h
  rw [e104, hT.2.2.1, if_pos (nI_lt hl (by omega)), if_pos (by rw [am_inT (by omega) (by omega)]; trivial), nI_clamp (by omega), b104_19, as_t (by decide), hT.2.2.1, nI_add]
  have lo : ∀ (t k m j : Nat), (t = 3 → j ≠ 10) → t ≠ 12 → am_set (am_set M (12, 0, 0) ln.length (vp_nar .char c)) (3, 0, 0) 10 (nI (ln.length + 1)) (t, k, m) j = M (t, k, m) j := fun t k m j q1 q2 => by rw [as_ne (fun q => q1 (pl_e q.1).1 q.2), as_ne (fun q => pl_t q2 q.1)]
  have hN : ∀ n b, clN n b M → clN n b (am_set (am_set M (12, 0, 0) ln.length (vp_nar .char c)) (3, 0, 0) 10 (nI (ln.length + 1))) := fun n b hb => hb.mem (fun t k j g1 g2 => lo t n k j (by omega) (by omega))
  refine ⟨_, rfl, ⟨hN 0 a hA, ⟨sr, s1, (lo 4 0 0 1 (by decide) (by decide)).trans s2, (lo 4 0 0 2 (by decide) (by decide)).trans s3, s4, fun i g hi => hN _ g (s5 i g hi)⟩, ⟨(lo 3 0 0 3 (by decide) (by decide)).trans hV.1, fun b hb => hN 2 b (hV.2 b hb)⟩, ⟨⟨(lo 8 0 0 1 (by decide) (by decide)).trans hT.1.1, fun i c hc => (lo 9 0 0 i (fun q => absurd q (by decide)) (by decide)).trans (hT.1.2 i c hc)⟩, (lo 3 0 0 8 (by decide) (by decide)).trans hT.2.1, by rw [as_eq, List.length_append]; rfl, fun i c hc => ?_⟩, ⟨(lo 6 0 0 0 (by decide) (by decide)).trans hR.1, (lo 6 0 0 1 (by decide) (by decide)).trans hR.2.1, (lo 6 0 0 2 (by decide) (by decide)).trans hR.2.2⟩⟩, ((clF.rf M).set (by decide)).set (by decide)⟩
  rw [as_t (by decide)]
  rcases sn_get hc with ⟨g1, g2⟩ | ⟨rfl, g2⟩
  · rw [as_j (by omega)]; exact hT.2.2.2 i c g2
  · rw [as_eq, g2]
abbrev chr (x : Nat) : Int32 := ((nI 48 + nI x).toUInt32 % 65536).toInt32
theorem k103 {x : Nat} (hl : ln.length < 14) (h : clS a hs sv tx R e ln M) : ∃ M', am_ev (d + 2) 103 [am_P (3, 0, 0), am_I (nI x)] M (am_Z w) = some (.inl none, M', am_Z w) ∧ clS a hs sv tx R e (ln ++ [vp_nar .char (chr x)]) M' ∧ clF M M' := by
  obtain ⟨M1, q1, q2, q3⟩ := k104 (d := d) (w := w) (c := chr x) hl h
  rw [e103, q1]
  simp only [am_cb_i, am_cb_e, Option.toList_some, Option.toList_none, List.cons_append, List.nil_append, b103_9]
  exact ⟨M1, rfl, q2, q3⟩
/-- the line of a message: its head, its signs, its end -/
def li_h (a : Nat → Nat) (m : Nat) : List Int32 := ((([] ++ [vp_nar .char (chr (a (60 + 19 * m + 0)))]) ++ [vp_nar .char (nI 62)]) ++ [vp_nar .char (chr (a (60 + 19 * m + 1)))]) ++ [vp_nar .char (nI 58)]
def li_s (a : Nat → Nat) (m : Nat) : Nat → List Int32
  | 0 => li_h a m
  | k + 1 => li_s a m k ++ [vp_nar .char (if a (60 + 19 * m + (11 + k)) = 0 then nI 63 else chr (a (60 + 19 * m + (11 + k))))]
def li (a : Nat → Nat) (m : Nat) : List Int32 := if a (60 + 19 * m + 6) = 0 then (li_s a m (a (60 + 19 * m + 3)) ++ [vp_nar .char (nI 64)]) ++ [vp_nar .char (chr (a (60 + 19 * m + 2)))] else if a (60 + 19 * m + 6) = 2 then li_s a m (a (60 + 19 * m + 3)) ++ [vp_nar .char (nI 120)] else li_s a m (a (60 + 19 * m + 3))
theorem li_0 {m : Nat} (h : a (60 + 19 * m + 6) = 0) : li a m = (li_s a m (a (60 + 19 * m + 3)) ++ [vp_nar .char (nI 64)]) ++ [vp_nar .char (chr (a (60 + 19 * m + 2)))] := if_pos h
theorem li_1 {m : Nat} (h : a (60 + 19 * m + 6) = 1) : li a m = li_s a m (a (60 + 19 * m + 3)) := by
  unfold li
  rw [if_neg (by omega), if_neg (by omega)]
theorem li_2 {m : Nat} (h : a (60 + 19 * m + 6) = 2) : li a m = li_s a m (a (60 + 19 * m + 3)) ++ [vp_nar .char (nI 120)] := by
  unfold li
  rw [if_neg (by omega), if_pos h]
theorem li_s_len {m : Nat} : ∀ k, (li_s a m k).length = 4 + k := by
  intro k
  induction k with
  | zero => rfl
  | succ k ih => show (li_s a m k ++ [_]).length = _; rw [List.length_append, ih]; rfl
theorem li_len {m : Nat} (h : a (60 + 19 * m + 3) ≤ 8) : (li a m).length ≤ 14 := by
  unfold li
  have := li_s_len (a := a) (m := m) (a (60 + 19 * m + 3))
  split
  · rw [List.length_append, List.length_append, this]; simp; omega
  · split
    · rw [List.length_append, this]; simp; omega
    · rw [this]; omega
theorem mlS.ln0 (h : mlS a hs sv tx R e ln M) : mlS a hs sv tx R e [] (am_set M (30, 0, 0) 8 (nI 0)) := by
  obtain ⟨h1, ⟨h2, h3, h4⟩, h5, h6, h7, h8, h9⟩ := h
  have ft : ∀ j, j ≠ 8 → am_set M (30, 0, 0) 8 (nI 0) (30, 0, 0) j = M (30, 0, 0) j := fun j q1 => as_j q1
  have fl : ∀ (l : am_L) j, l ≠ (30, 0, 0) → am_set M (30, 0, 0) 8 (nI 0) l j = M l j := fun l j q1 => as_ne (fun q => q1 q.1)
  exact ⟨fun j => by rw [fl _ _ (pl_t (by decide))]; exact h1 j, ⟨by rw [ft _ (by decide)]; exact h2, h3, fun i h hi j hj => by rw [fl _ _ (pl_t (by decide))]; exact h4 i h hi j hj⟩, ⟨by rw [ft _ (by decide)]; exact h5.1, fun c hc j hj => by rw [fl _ _ (pl_t (by decide))]; exact h5.2 c hc j hj⟩, ⟨by rw [ft _ (by decide)]; exact h6.1, fun i c hc => by rw [fl _ _ (pl_t (by decide))]; exact h6.2 i c hc⟩, ⟨by rw [ft _ (by decide)]; exact h7.1, by rw [ft _ (by decide)]; exact h7.2.1, by rw [ft _ (by decide)]; exact h7.2.2⟩, by rw [ft _ (by decide)]; exact h8, ⟨as_eq _ _ _ _, fun i c hc => by simp at hc⟩⟩
theorem clS.ln0 (h : clS a hs sv tx R e ln M) : clS a hs sv tx R e [] (am_set M (3, 0, 0) 10 (nI 0)) := by
  obtain ⟨hA, ⟨sr, s1, s2, s3, s4, s5⟩, hV, hT, hR⟩ := h
  have lo : ∀ (t k m j : Nat), (t = 3 → j ≠ 10) → am_set M (3, 0, 0) 10 (nI 0) (t, k, m) j = M (t, k, m) j := fun t k m j q1 => as_ne (fun q => q1 (pl_e q.1).1 q.2)
  have hN : ∀ n b, clN n b M → clN n b (am_set M (3, 0, 0) 10 (nI 0)) := fun n b hb => hb.mem (fun t k j g1 g2 => lo t n k j (by omega))
  exact ⟨hN 0 a hA, ⟨sr, s1, (lo 4 0 0 1 (by decide)).trans s2, (lo 4 0 0 2 (by decide)).trans s3, s4, fun i g hi => hN _ g (s5 i g hi)⟩, ⟨(lo 3 0 0 3 (by decide)).trans hV.1, fun b hb => hN 2 b (hV.2 b hb)⟩, ⟨⟨(lo 8 0 0 1 (by decide)).trans hT.1.1, fun i c hc => (lo 9 0 0 i (fun q => absurd q (by decide))).trans (hT.1.2 i c hc)⟩, (lo 3 0 0 8 (by decide)).trans hT.2.1, as_eq _ _ _ _, fun i c hc => by simp at hc⟩, ⟨(lo 6 0 0 0 (by decide)).trans hR.1, (lo 6 0 0 1 (by decide)).trans hR.2.1, (lo 6 0 0 2 (by decide)).trans hR.2.2⟩⟩
theorem clS.net (h : clS a hs sv tx R e ln M) : nwF 0 a M := h.1.choose_spec.1.1
theorem l102 {m : Nat} {x : Int32} (hok : ml_ok B a) (hm : m < a 2) : ∀ r k (M : am_M), k + r = a (60 + 19 * m + 3) → clS a hs sv tx R e (li_s a m k) M → ∃ M', am_rn (am_ev (d + 2)) 102 41 [some (am_P (3, 0, 0)), some (am_I x), some (am_P (24, 0, m)), some (am_I (nI k))] [] M (am_Z w) = am_rn (am_ev (d + 2)) 102 41 [some (am_P (3, 0, 0)), some (am_I x), some (am_P (24, 0, m)), some (am_I (nI (a (60 + 19 * m + 3))))] [] M' (am_Z w) ∧ clS a hs sv tx R e (li_s a m (a (60 + 19 * m + 3))) M' ∧ clF M M' := by
  have b2 := hok.1.2.1
  have w3 := (hok.2 m hm).2.2.2.2.1
  have wk := (hok.2 m hm).2.2.2.2.2.2.2.2.2.2.1
  intro r
  induction r with
  | zero =>
    intro k M hk h
    obtain rfl : k = a (60 + 19 * m + 3) := by omega
    exact ⟨M, rfl, h, clF.rf M⟩
  | succ r ih =>
    intro k M hk h
    have h8 := wk k (by omega)
    have hSg : M (25, 0, m) (nI k).toNatClampNeg = nI (a (60 + 19 * m + (11 + k))) := by rw [nI_clamp (by omega)]; exact h.net.sg hm (by omega)
    have e1 : ∃ M1, am_rn (am_ev (d + 2)) 102 41 [some (am_P (3, 0, 0)), some (am_I x), some (am_P (24, 0, m)), some (am_I (nI k))] [] M (am_Z w) = am_rn (am_ev (d + 2)) 102 77 [some (am_P (3, 0, 0)), some (am_I x), some (am_P (24, 0, m)), some (am_I (nI k))] [] M1 (am_Z w) ∧ clS a hs sv tx R e (li_s a m (k + 1)) M1 ∧ clF M M1 := by
      rw [b102_41 (by omega), h.net.mny hm, if_pos (nI_lt (by omega) (by omega)), if_pos (by rw [am_inT (by omega) (by omega)]; trivial)]
      by_cases h0 : a (60 + 19 * m + (11 + k)) = 0
      · rw [if_pos (by rw [hSg, nI_z (by omega)]; exact h0)]
        obtain ⟨M1, q1, q2, q3⟩ := k104 (d := d + 1) (w := w) (c := nI 63) (by rw [li_s_len]; omega) h
        rw [q1]
        simp only [am_cb_i, am_cb_e, Option.toList_some, Option.toList_none, List.cons_append, List.nil_append]
        rw [b102_64 (by omega)]
        refine ⟨M1, rfl, ?_, q3⟩
        unfold li_s
        rw [if_pos h0]
        exact q2
      · rw [if_neg (by rw [hSg, nI_z (by omega)]; exact h0), if_pos (by rw [am_inT (by omega) (by omega)]; trivial), hSg]
        obtain ⟨M1, q1, q2, q3⟩ := k103 (d := d) (w := w) (x := a (60 + 19 * m + (11 + k))) (by rw [li_s_len]; omega) h
        rw [q1]
        simp only [am_cb_i, am_cb_e, Option.toList_some, Option.toList_none, List.cons_append, List.nil_append]
        refine ⟨M1, rfl, ?_, q3⟩
        unfold li_s
        rw [if_neg h0]
        exact q2
    obtain ⟨M1, q1, q2, q3⟩ := e1
    rw [q1, b102_77 (by omega), nI_add]
    obtain ⟨M2, u1, u2, u3⟩ := ih (k + 1) M1 (by omega) q2
    exact ⟨M2, u1, u2, q3.tr u3⟩
theorem k102n {x : Int32} (hok : ml_ok B a) (hx : ¬ am_in x (a 2)) (h : clS a hs sv tx R e ln M) : am_ev (d + 3) 102 [am_P (3, 0, 0), am_I x] M (am_Z w) = some (.inr 1, M, am_Z (am_bw w)) := by
  obtain ⟨⟨ar, hA⟩, _⟩ := h
  rw [e102, k93 hok hA, if_neg hx]
  rfl
theorem k102s {x : Nat} (hok : ml_ok B a) (hx : x < a 2) (h : clS a hs sv tx R e ln M) : ∃ M', am_ev (d + 3) 102 [am_P (3, 0, 0), am_I (nI x)] M (am_Z w) = some (.inl (some (am_I (nI (li a x).length))), M', am_Z w) ∧ clS a hs sv tx R e (li a x) M' ∧ clF M M' := by
  have b2 := hok.1.2.1
  have w3 := (hok.2 x hx).2.2.2.2.1
  have w6 := (hok.2 x hx).2.2.2.2.2.2.2.1
  obtain ⟨ar, hA⟩ := h.1
  rw [e102, k93 hok hA, if_pos ((am_inP (by omega)).mpr hx), cN_nI (by omega)]
  simp only [am_cb_i, am_cb_e, Option.toList_some, Option.toList_none, List.cons_append, List.nil_append]
  rw [b102_5 (by omega)]
  have m0 := h.ln0
  have f0 : clF M (am_set M (3, 0, 0) 10 (nI 0)) := (clF.rf M).set (by decide)
  generalize am_set M (3, 0, 0) 10 (nI 0) = Ma at m0 f0 ⊢
  rw [b102_11 (by omega), m0.net.mfr hx]
  obtain ⟨M1, q1, m1, f1⟩ := k103 (d := d) (w := w) (x := a (60 + 19 * x + 0)) (by decide) m0
  rw [q1]
  simp only [am_cb_i, am_cb_e, Option.toList_some, Option.toList_none, List.cons_append, List.nil_append]
  rw [b102_19 (by omega)]
  obtain ⟨M2, q2, m2, f2⟩ := k104 (d := d + 1) (w := w) (c := nI 62) (by simp) m1
  rw [q2]
  simp only [am_cb_i, am_cb_e, Option.toList_some, Option.toList_none, List.cons_append, List.nil_append]
  rw [b102_25 (by omega), m2.net.mto hx]
  obtain ⟨M3, q3, m3, f3⟩ := k103 (d := d) (w := w) (x := a (60 + 19 * x + 1)) (by simp) m2
  rw [q3]
  simp only [am_cb_i, am_cb_e, Option.toList_some, Option.toList_none, List.cons_append, List.nil_append]
  rw [b102_33 (by omega)]
  obtain ⟨M4, q4, m4, f4⟩ := k104 (d := d + 1) (w := w) (c := nI 58) (by simp) m3
  rw [q4]
  simp only [am_cb_i, am_cb_e, Option.toList_some, Option.toList_none, List.cons_append, List.nil_append]
  rw [b102_39 (by omega)]
  obtain ⟨M5, q5, m5, f5⟩ := l102 (d := d) (w := w) (x := nI x) (m := x) hok hx (a (60 + 19 * x + 3)) 0 M4 (by omega) m4
  rw [q5, b102_41 (by omega), m5.net.mny hx, if_neg (nI_nlt (by omega) (by omega)), m5.net.how hx]
  have ff : clF M M5 := ((((f0.tr f1).tr f2).tr f3).tr f4).tr f5
  have hll := li_s_len (a := a) (m := x) (a (60 + 19 * x + 3))
  have w6' : a (60 + 19 * x + 6) = 0 ∨ a (60 + 19 * x + 6) = 1 ∨ a (60 + 19 * x + 6) = 2 := by omega
  rcases w6' with h6 | h6 | h6
  · rw [li_0 h6, if_pos (by rw [h6]; rfl)]
    obtain ⟨M6, q6, m6, f6⟩ := k104 (d := d + 1) (w := w) (c := nI 64) (by omega) m5
    rw [q6]
    simp only [am_cb_i, am_cb_e, Option.toList_some, Option.toList_none, List.cons_append, List.nil_append]
    rw [b102_96 (by omega), m6.net.mat hx]
    obtain ⟨M7, q7, m7, f7⟩ := k103 (d := d) (w := w) (x := a (60 + 19 * x + 2)) (by rw [List.length_append, hll]; simp; omega) m6
    rw [q7]
    simp only [am_cb_i, am_cb_e, Option.toList_some, Option.toList_none, List.cons_append, List.nil_append]
    rw [b102_104 (by omega), b102_121 (by omega), m7.2.2.2.1.2.2.1]
    exact ⟨M7, rfl, m7, (ff.tr f6).tr f7⟩
  · rw [li_1 h6, if_neg (by rw [h6]; decide), if_neg (by rw [h6]; decide), b102_121 (by omega), m5.2.2.2.1.2.2.1]
    exact ⟨M5, rfl, m5, ff⟩
  · obtain ⟨M6, q6, m6, f6⟩ := k104 (d := d + 1) (w := w) (c := nI 120) (by omega) m5
    rw [li_2 h6, if_neg (by rw [h6]; decide), if_pos (by rw [h6]), q6]
    simp only [am_cb_i, am_cb_e, Option.toList_some, Option.toList_none, List.cons_append, List.nil_append]
    rw [b102_121 (by omega), m6.2.2.2.1.2.2.1]
    exact ⟨M6, rfl, m6, ff.tr f6⟩
end Kli
