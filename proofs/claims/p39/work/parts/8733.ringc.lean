/-! THE CLASS'S RING AGAINST THE REFERENCE'S -/
theorem nwI_ne {a : Nat → Nat} {t k j m f : Nat} (hS : nwS a) (h : nwG a t k j) (hm : m < 16) (hf : f = 4 ∨ f = 8 ∨ f = 10) : nwI t k j ≠ 60 + 19 * m + f := by
  obtain ⟨s1, s2, s3⟩ := hS
  have f1 := nw_f_lt j
  rcases h.t with rfl | rfl | rfl | rfl | rfl | rfl <;> simp only [nwG, nwI] at h ⊢
  · split <;> omega
  · omega
  · omega
  · omega
  · omega
  · have e3 := s3 k h.1
    omega
theorem nwI_ne3 {a : Nat → Nat} {t k j : Nat} (h : nwG a t k j) : nwI t k j ≠ 3 := by
  rcases h.t with rfl | rfl | rfl | rfl | rfl | rfl <;> simp only [nwG, nwI] at h ⊢
  · split <;> omega
  · omega
  · omega
  · omega
  · omega
  · omega
theorem nwC.tr {a b c : Nat → Nat} (h : nwC a b) (h' : nwC b c) : nwC a c := ⟨h'.1.trans h.1, h'.2.1.trans h.2.1, fun m hm => (h'.2.2 m (by rw [h.2.1]; exact hm)).trans (h.2.2 m hm)⟩
theorem nwC.symm {a b : Nat → Nat} (h : nwC a b) : nwC b a := ⟨h.1.symm, h.2.1.symm, fun m hm => (h.2.2 m (by rw [← h.2.1]; exact hm)).symm⟩
theorem ml_rings_C {B : Nat} {a : Nat → Nat} {m : Nat} {fst : Bool} (hb : ml_b B a) (hw : ml_w a) (hm : m < a 2) : nwC a (ml_rings a m fst) := by
  obtain ⟨w0, w1, w2, w3, w4, w5, w6, w7, w8, w9, w10, w11, w12⟩ := hw m hm
  have b1 := hb.1
  have b2 := hb.2.1
  have hnx : ml_next a m < 6 := Nat.lt_of_lt_of_le (ml_next_lt w1 w2) b1
  exact ⟨ml_rings_ne (by unfold ml_sz; omega), ml_rings_ne (by unfold ml_sz; omega), fun q hq => ml_rings_ne (by unfold ml_sz; omega)⟩
section Krc
variable {d n B : Nat} {M : am_M} {a : Nat → Nat} {w : am_W4}
/-- the row behind the ringer's count -/
def ml_a1 (a : Nat → Nat) (m : Nat) : Nat → Nat := nu a (12 + 6 * a (60 + 19 * m + 2) + 4) (a (12 + 6 * a (60 + 19 * m + 2) + 4) + 1)
def ml_h9 (a : Nat → Nat) (m : Nat) (fst : Bool) : Nat := if fst = true ∧ ml_heard a (a (60 + 19 * m + 2)) (ml_next a m) = true then a (60 + 19 * m + 9) else 0
theorem ml_r1_eq {m : Nat} {fst : Bool} (hat : a (60 + 19 * m + 2) < 6) (j : Nat) : ml_r1 a m fst j = nu (nu (ml_a1 a m) (60 + 19 * m + 5) (a (60 + 19 * m + 5) + 1)) (60 + 19 * m + 9) (ml_h9 a m fst) j := by
  unfold ml_r1 ml_h9
  rw [show nu a (12 + 6 * a (60 + 19 * m + 2) + 4) (a (12 + 6 * a (60 + 19 * m + 2) + 4) + 1) = ml_a1 a m from rfl]
  have e9 : ml_a1 a m (60 + 19 * m + 9) = a (60 + 19 * m + 9) := nu_ne (by omega)
  by_cases h5 : j = 60 + 19 * m + 5
  · subst h5
    rw [nu_eq, nu_ne (by omega), nu_eq]
  · rw [nu_ne h5]
    by_cases h9 : j = 60 + 19 * m + 9
    · subst h9
      rw [nu_eq]
      split
      · exact e9
      · rw [nu_eq]
    · rw [nu_ne h9, nu_ne h5]
      split
      · rfl
      · rw [nu_ne h9]
set_option maxHeartbeats 4000000 in
theorem k50 {m : Nat} {fst : Bool} (hn : n < 12) (hB : B < 1073000000) (hb : ml_b B a) (hw : ml_w a) (hm : m < a 2) (h0 : a (60 + 19 * m + 6) = 0) (hg : a (60 + 19 * m + 10) = 0) (hF : nwF n (ml_a1 a m) M) (hpl : ∀ q, q < a 2 → M (24, n, q) 5 = nI (nw_pl a q)) :
    ∃ M', am_ev (d + 3) 50 [am_P (13, n, 0), am_P (24, n, m), am_I (nI (ml_next a m)), am_I (nI (fst && ml_heard a (a (60 + 19 * m + 2)) (ml_next a m)).toNat)] M (am_Z w) = some (.inl none, M', am_Z w) ∧ nw1 n (ml_rings a m fst) M' ∧ nw_fr n M M' := by
  obtain ⟨w0, w1, w2, w3, w4, w5, w6, w7, w8, w9, w10, w11, w12⟩ := hw m hm
  have b1 := hb.1
  have b2 := hb.2.1
  have b3 := hb.2.2.1
  have hnx1 : ml_next a m < a 1 := ml_next_lt w1 w2
  have hnx : ml_next a m < 6 := by omega
  have hm16 : m < 16 := by omega
  have hS : nwS a := ml_ok.S ⟨hb, hw⟩
  have hat : a (60 + 19 * m + 2) < 6 := by omega
  have hC1 : nwC a (ml_a1 a m) := (nwC.rf a).nu (by omega) (by omega) (by intros; omega) b2
  have hC5 := b3 (12 + 6 * ml_next a m + 5) (by omega)
  have hdue := w10 (a (60 + 19 * m + 4)) (by omega)
  have hdl : ml_due a m ≤ 8 := hdue
  have g1 : ∀ j, 48 ≤ j ∨ j < 12 → ml_a1 a m j = a j := fun j hj => nu_ne (by omega)
  have p5 : M (24, n, m) 5 = nI (a (60 + 19 * m + 4)) := by
    rw [hpl m hm]
    unfold nw_pl
    rw [if_neg (by omega)]
  have p8 : M (24, n, m) 8 = nI (a (60 + 19 * m + 3)) := by rw [hF.mny (by rw [hC1.2.1]; exact hm), g1 _ (by omega)]
  have p7 : M (24, n, m) 7 = nI (a (60 + 19 * m + 9)) := by rw [hF.hrd (by rw [hC1.2.1]; exact hm), g1 _ (by omega)]
  have p6 : M (24, n, m) 6 = nI (a (60 + 19 * m + 5)) := by rw [hF.rng (by rw [hC1.2.1]; exact hm), g1 _ (by omega)]
  have psg : M (25, n, m) (a (60 + 19 * m + 4)) = nI (ml_due a m) := by rw [hF.sg (by rw [hC1.2.1]; exact hm) (by rw [g1 _ (by omega)]; exact w5), g1 _ (by omega)]; rfl
  have hCR : nwC a (ml_rings a m fst) := ml_rings_C hb hw hm
  have hR3 : ∀ q f, q < 16 → f < 19 → q ≠ m → ml_rings a m fst (60 + 19 * q + f) = a (60 + 19 * q + f) := fun q f hq hf hqm => ml_rings_ne (by unfold ml_sz; omega)
  -- from the fields alone to the rest
  have fin : ∀ (M' : am_M) (C : Nat → Nat), nwC a C → nwF n C M' → (∀ j, (∀ q f, q < 16 → f = 4 ∨ f = 8 ∨ f = 10 → j ≠ 60 + 19 * q + f) → ml_rings a m fst j = C j) → (∀ q, q ≠ m → M' (24, n, q) 5 = M (24, n, q) 5) → M' (24, n, m) 5 = nI (nw_pl (ml_rings a m fst) m) → nw1 n (ml_rings a m fst) M' := by
    intro M' C hC h hR hq5 hm5
    refine ⟨h.to (hC.symm.tr hCR) (fun t k j hG => hR _ (fun q f hq hf => nwI_ne hS (hC.E.mp hG) hq hf)), fun q hq => ?_⟩
    rw [hCR.2.1] at hq
    by_cases hqm : q = m
    · subst hqm; exact hm5
    · rw [hq5 q hqm, hpl q hq]
      unfold nw_pl
      rw [hR3 q 10 (by omega) (by omega) hqm, hR3 q 3 (by omega) (by omega) hqm, hR3 q 4 (by omega) (by omega) hqm]
  rw [e50 hn hm16, k30 hn hm16 p5 p8 w5 w4, psg]
  simp (disch := omega) only [am_cb_i, am_cb_e, Option.toList_some, Option.toList_none, List.cons_append, List.nil_append]
  rw [b50_4 hn hm16, p6, nI_add]
  -- heard so far
  have c5 : nwC a (nu (ml_a1 a m) (60 + 19 * m + 5) (a (60 + 19 * m + 5) + 1)) := hC1.nu (by omega) (by omega) (by intros; omega) b2
  have F5 : nwF n (nu (ml_a1 a m) (60 + 19 * m + 5) (a (60 + 19 * m + 5) + 1)) (am_set M (24, n, m) 6 (nI (a (60 + 19 * m + 5) + 1))) := nwF.set (t := 24) (k := m) (j := 6) hS hC1 hF ⟨hm, by decide, by decide⟩ c5
  have c9 : nwC a (nu (nu (ml_a1 a m) (60 + 19 * m + 5) (a (60 + 19 * m + 5) + 1)) (60 + 19 * m + 9) (ml_h9 a m fst)) := c5.nu (by omega) (by omega) (by intros; omega) b2
  have h91 : ml_h9 a m fst ≤ 1 := by unfold ml_h9; split <;> omega
  have F9 : nwF n (nu (nu (ml_a1 a m) (60 + 19 * m + 5) (a (60 + 19 * m + 5) + 1)) (60 + 19 * m + 9) (ml_h9 a m fst)) (am_set (am_set M (24, n, m) 6 (nI (a (60 + 19 * m + 5) + 1))) (24, n, m) 7 (nI (ml_h9 a m fst))) := nwF.set (t := 24) (k := m) (j := 7) hS c5 F5 ⟨hm, by decide, by decide⟩ c9
  have e16 : ∀ x4 : Int32, am_rn (am_ev (d + 2)) 50 16 [some (am_P (13, n, 0)), some (am_P (24, n, m)), some (am_I (nI (ml_next a m))), some (am_I (nI (fst && ml_heard a (a (60 + 19 * m + 2)) (ml_next a m)).toNat)), some (am_I x4)] [] (am_set M (24, n, m) 6 (nI (a (60 + 19 * m + 5) + 1))) (am_Z w) = am_rn (am_ev (d + 2)) 50 36 [some (am_P (13, n, 0)), some (am_P (24, n, m)), some (am_I (nI (ml_next a m))), some (am_I (nI (fst && ml_heard a (a (60 + 19 * m + 2)) (ml_next a m)).toNat)), some (am_I x4)] [] (am_set (am_set M (24, n, m) 6 (nI (a (60 + 19 * m + 5) + 1))) (24, n, m) 7 (nI (ml_h9 a m fst))) (am_Z w) := by
    intro x4
    rw [b50_16 hn hm16, as_j (by decide), p7, b50_32 hn hm16, b50_33 hn hm16, b50_33 hn hm16, if_pos (show am_pc 1 (nI 0) = true from rfl), if_pos (show am_pc 1 (nI 1) = true from rfl)]
    have hz : ml_h9 a m fst = if a (60 + 19 * m + 9) = 0 then 0 else if (fst && ml_heard a (a (60 + 19 * m + 2)) (ml_next a m)) = false then 0 else 1 := by
      unfold ml_h9
      by_cases h9 : a (60 + 19 * m + 9) = 0
      · rw [if_pos h9]
        split
        · exact h9
        · rfl
      · rw [if_neg h9]
        cases fst <;> cases ml_heard a (a (60 + 19 * m + 2)) (ml_next a m) <;> simp <;> omega
    rw [hz]
    by_cases h9 : a (60 + 19 * m + 9) = 0
    · rw [if_pos (by rw [h9]; rfl), if_pos h9]
    · rw [if_neg (by rw [nI_z (by omega)]; exact h9), if_neg h9]
      cases (fst && ml_heard a (a (60 + 19 * m + 2)) (ml_next a m)) with
      | false => rw [if_pos (show nI false.toNat = 0 from rfl), if_pos rfl]
      | true => rw [if_neg (show ¬ nI true.toNat = 0 by decide), if_neg (by decide)]
  rw [e16, b50_36 hn hm16]
  have q6 : (am_set (am_set M (24, n, m) 6 (nI (a (60 + 19 * m + 5) + 1))) (24, n, m) 7 (nI (ml_h9 a m fst))) (24, n, m) 6 = nI (a (60 + 19 * m + 5) + 1) := by rw [as_j (by decide), as_eq]
  have q7 : (am_set (am_set M (24, n, m) 6 (nI (a (60 + 19 * m + 5) + 1))) (24, n, m) 7 (nI (ml_h9 a m fst))) (24, n, m) 7 = nI (ml_h9 a m fst) := as_eq _ _ _ _
  have q5 : (am_set (am_set M (24, n, m) 6 (nI (a (60 + 19 * m + 5) + 1))) (24, n, m) 7 (nI (ml_h9 a m fst))) (24, n, m) 5 = nI (a (60 + 19 * m + 4)) := by rw [as_j (by decide), as_j (by decide), p5]
  have q8 : (am_set (am_set M (24, n, m) 6 (nI (a (60 + 19 * m + 5) + 1))) (24, n, m) 7 (nI (ml_h9 a m fst))) (24, n, m) 8 = nI (a (60 + 19 * m + 3)) := by rw [as_j (by decide), as_j (by decide), p8]
  have q16 : 1 ≤ ml_due a m → (am_set (am_set M (24, n, m) 6 (nI (a (60 + 19 * m + 5) + 1))) (24, n, m) 7 (nI (ml_h9 a m fst))) (16, n, 0) (ml_due a m) = nI (a (3 + ml_due a m)) := fun h => by rw [as_t (by decide), as_t (by decide), hF.ps h hdl, g1 _ (by omega)]
  have q21 : (am_set (am_set M (24, n, m) 6 (nI (a (60 + 19 * m + 5) + 1))) (24, n, m) 7 (nI (ml_h9 a m fst))) (21, n, ml_next a m) 5 = nI (a (12 + 6 * ml_next a m + 5)) := by
    rw [as_t (by decide), as_t (by decide), hF.cv (by rw [hC1.1]; exact hnx1) (show 5 < 6 by decide)]
    exact congrArg nI (nu_ne (by omega))
  have q55 : ∀ q, (am_set (am_set M (24, n, m) 6 (nI (a (60 + 19 * m + 5) + 1))) (24, n, m) 7 (nI (ml_h9 a m fst))) (24, n, q) 5 = M (24, n, q) 5 := fun q => by rw [as_j (by decide), as_j (by decide)]
  have qfr : nw_fr n M (am_set (am_set M (24, n, m) 6 (nI (a (60 + 19 * m + 5) + 1))) (24, n, m) 7 (nI (ml_h9 a m fst))) := ((nw_fr.rf n M).set (by omega)).set (by omega)
  generalize am_set (am_set M (24, n, m) 6 (nI (a (60 + 19 * m + 5) + 1))) (24, n, m) 7 (nI (ml_h9 a m fst)) = M1 at *
  have hrs : ml_hrs a (ml_due a m) < 1000 := by unfold ml_hrs; split <;> omega
  rw [k230 hn hdl q16 (fun h => hb.2.2.2.2.2.1 _ (by omega) (by omega)), q6]
  simp (disch := omega) only [am_cb_i, am_cb_e, Option.toList_some, Option.toList_none, List.cons_append, List.nil_append]
  rw [b50_46 hn hm16]
  have hr1 : ∀ j, ml_r1 a m fst j = nu (nu (ml_a1 a m) (60 + 19 * m + 5) (a (60 + 19 * m + 5) + 1)) (60 + 19 * m + 9) (ml_h9 a m fst) j := fun j => ml_r1_eq hat j
  by_cases hh : a (60 + 19 * m + 5) + 1 < ml_hrs a (ml_due a m)
  · rw [if_pos (nI_lt hh (by omega))]
    refine ⟨_, rfl, ?_, qfr⟩
    refine fin _ _ c9 F9 (fun j _ => ?_) (fun q _ => q55 q) ?_
    · unfold ml_rings
      rw [if_pos hh, hr1]
    · rw [q5]
      unfold nw_pl ml_rings
      rw [if_pos hh, ml_r1_ne (by omega) (by omega) (by omega), if_neg (by omega), ml_r1_ne (by omega) (by omega) (by omega)]
  · -- its last hour
    rw [if_neg (nI_nlt (by omega) (by omega))]
    have pl : nI (a (60 + 19 * m + 4) + 1) = nI (nw_pl (ml_rings a m fst) m) := by
      unfold nw_pl ml_rings
      rw [if_neg hh]
      unfold ml_r4
      split
      · rw [ml_r3_ne (by omega) (by omega) (by omega), ml_r2_ne (by omega) (by omega), ml_r1_ne (by omega) (by omega) (by omega), if_neg (by omega)]
        unfold ml_r3
        rw [nu_ne (by omega), nu_ne (by omega), nu_eq]
      · rw [nu_eq, if_pos rfl, nu_ne (by omega), nu_ne (by omega), ml_r3_ne (by omega) (by omega) (by omega), ml_r2_ne (by omega) (by omega), ml_r1_ne (by omega) (by omega) (by omega)]
        congr 1; omega
    have due : ∀ (M2 : am_M) (C : Nat → Nat), nwC a C → nwF n C M2 → (∀ j, ml_r2 a (ml_r1 a m fst) m j = C j) → (∀ q, M2 (24, n, q) 5 = M (24, n, q) 5) → nw_fr n M M2 → ∃ M', am_rn (am_ev (d + 2)) 50 92 [some (am_P (13, n, 0)), some (am_P (24, n, m)), some (am_I (nI (ml_next a m))), some (am_I (nI (fst && ml_heard a (a (60 + 19 * m + 2)) (ml_next a m)).toNat)), some (am_I (nI (ml_due a m)))] [] M2 (am_Z w) = some (.inl none, M', am_Z w) ∧ nw1 n (ml_rings a m fst) M' ∧ nw_fr n M M' := by
      intro M2 C hC h2 hCr h5 hfr
      rw [b50_92 hn hm16, h5 m, p5, nI_add, k28 hn hm16]
      simp (disch := omega) only [am_cb_i, am_cb_e, Option.toList_some, Option.toList_none, List.cons_append, List.nil_append]
      rw [b50_102 hn hm16]
      refine ⟨_, rfl, ?_, ((hfr.set (by omega)).set (by omega)).set (by omega)⟩
      refine fin _ _ ((hC.nu (by omega) (by omega) (by intros; omega) b2).nu (by omega) (by omega) (by intros; omega) b2) (nw1.due hS hC h2 hm) (fun j hj => ?_) (fun q hqm => ?_) ?_
      · have j4 := hj m 4 hm16 (by omega)
        have j10 := hj m 10 hm16 (by omega)
        unfold ml_rings
        rw [if_neg hh, ml_r4_ne j4 j10]
        unfold ml_r3
        by_cases h9 : j = 60 + 19 * m + 9
        · subst h9; rw [nu_eq, nu_eq]
        · rw [nu_ne h9, nu_ne h9]
          by_cases h5 : j = 60 + 19 * m + 5
          · subst h5; rw [nu_eq, nu_eq]
          · rw [nu_ne h5, nu_ne h5, nu_ne j4, hCr]
      · rw [as_k hqm, as_k hqm, as_k hqm, h5 q]
      · rw [as_j (by decide), as_j (by decide), as_eq]
        exact pl
    by_cases hs : ml_due a m = 0
    · -- a lost sign
      have e231 : am_ev (d + 2) 231 [am_I (nI (ml_due a m))] M1 (am_Z w) = some (.inl (some (am_I (nI 0))), M1, am_Z w) := by rw [hs]; exact k231z
      rw [e231]
      simp (disch := omega) only [am_cb_i, am_cb_e, Option.toList_some, Option.toList_none, List.cons_append, List.nil_append]
      rw [b50_55 hn hm16, if_pos (show nI 0 = 0 from rfl)]
      refine due _ _ c9 F9 (fun j => ?_) q55 qfr
      unfold ml_r2
      rw [if_neg (fun q => by have := q.1; omega), hr1]
    · have hsg : 0 < ml_due a m := by omega
      rw [k231 hsg hdl]
      simp (disch := omega) only [am_cb_i, am_cb_e, Option.toList_some, Option.toList_none, List.cons_append, List.nil_append]
      rw [b50_55 hn hm16, if_neg (show ¬ nI 1 = 0 by decide), q7]
      by_cases h9 : ml_h9 a m fst = 0
      · have c11 : nwC a (nu (nu (nu (ml_a1 a m) (60 + 19 * m + 5) (a (60 + 19 * m + 5) + 1)) (60 + 19 * m + 9) (ml_h9 a m fst)) (60 + 19 * m + (11 + a (60 + 19 * m + 4))) 0) := c9.nu (by omega) (by omega) (by intros; omega) b2
        have c12 : nwC a (nu (nu (nu (nu (ml_a1 a m) (60 + 19 * m + 5) (a (60 + 19 * m + 5) + 1)) (60 + 19 * m + 9) (ml_h9 a m fst)) (60 + 19 * m + (11 + a (60 + 19 * m + 4))) 0) (12 + 6 * ml_next a m + 5) (a (12 + 6 * ml_next a m + 5) + 1)) := c11.nu (by omega) (by omega) (by intros; omega) b2
        have F11 := nwF.set (t := 25) (k := m) (j := a (60 + 19 * m + 4)) (v := 0) hS c9 F9 ⟨hm, w5⟩ c11
        rw [if_pos (by rw [h9]; rfl), k229 hn hm16 q5 q8 w5 w4]
        simp (disch := omega) only [am_cb_i, am_cb_e, Option.toList_some, Option.toList_none, List.cons_append, List.nil_append]
        rw [b50_69 hn hm16, k35n hn F11 (Nat.le_trans (Nat.le_of_eq c11.1) b1) (Nat.lt_of_lt_of_le hnx1 (Nat.le_of_eq c11.1.symm))]
        simp (disch := omega) only [am_cb_i, am_cb_e, Option.toList_some, Option.toList_none, List.cons_append, List.nil_append]
        rw [b50_74 hn hm16, if_neg (show ¬ nI 1 = 0 by decide), if_pos (by rw [am_inT (by omega) (by omega)]; trivial), nI_clamp (by omega), as_t (by decide), q21, nI_add]
        refine due _ _ c12 (nwF.set (t := 21) (k := ml_next a m) (j := 5) hS c11 F11 ⟨hnx1, by decide⟩ c12) (fun j => ?_) (fun q => ?_) ((qfr.set (by omega)).set (by omega))
        · unfold ml_r2
          rw [if_pos ⟨hsg, by rw [hr1, nu_eq]; exact h9⟩]
          by_cases j1 : j = 12 + 6 * ml_next a m + 5
          · subst j1; rw [nu_eq, nu_eq]
          · rw [nu_ne j1, nu_ne j1]
            by_cases j2 : j = 60 + 19 * m + (11 + a (60 + 19 * m + 4))
            · subst j2; rw [nu_eq, nu_eq]
            · rw [nu_ne j2, nu_ne j2, hr1]
        · rw [as_t (by decide), as_t (by decide), q55 q]
      · rw [if_neg (by rw [nI_z (by omega)]; exact h9)]
        refine due _ _ c9 F9 (fun j => ?_) q55 qfr
        unfold ml_r2
        rw [if_neg (fun q => h9 (by rw [hr1, nu_eq] at q; exact q.2)), hr1]
end Krc
