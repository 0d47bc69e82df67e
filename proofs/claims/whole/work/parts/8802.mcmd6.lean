/-! ONE COMMAND OF A TEXT: THE REFERENCE, SILENCES AND SENDINGS -/
section Km6
variable {d : Nat} {M M' M0 : am_M} {w : am_W4} {tx : List Int32}
theorem i10 : ¬ nI 1 = (0 : Int32) := nI_ne0 (n := 1) (by decide) (by decide)
theorem i00 : nI 0 = (0 : Int32) := rfl
theorem m219 {p : Nat} (ht : txk tx) (h : mtx tx M) (hE : mpE M0 M) (hp : p < tx.length) : mpO M0 w (am_cb (am_ev (d + 3) 179 [am_P (30, 0, 0), am_I (nI 0)] (mps M (p + 1)) (am_Z w)) (fun v M' X' => am_rn (am_ev (d + 3)) 181 219 [some (am_P (30, 0, 0))] (v.toList ++ []) M' X')) (p_3 tx (p + 1)) := by
  have hin := pm_in (tx := tx) (lo := 0) (hi := 9) 1 (p + 1) 0 (by omega)
  rw [k179 (by decide) ht h.mps mps_11 (by omega)]
  simp only [am_cb_i, am_cb_e, Option.toList_some, Option.toList_none, List.cons_append, List.nil_append, b181_219]
  unfold p_3
  by_cases h0 : (pm tx 0 9 1 (p + 1) 0).2.2 = 0
  · rw [if_pos h0, h0, if_neg (Nat.lt_irrefl 0), if_pos i00]
    exact mpO.no hE.ps.pn mpn_11
  rw [if_neg h0, if_pos (show 0 < (pm tx 0 9 1 (p + 1) 0).2.2 by omega), if_neg i10]
  generalize (pm tx 0 9 1 (p + 1) 0).1 = x
  generalize (pm tx 0 9 1 (p + 1) 0).2.1 = q at hin ⊢
  have t1 : mtx tx (mpn (mps M (p + 1)) q 0 x) := h.mps.mpn
  have E1 : mpE M0 (mpn (mps M (p + 1)) q 0 x) := hE.ps.pn
  have q1 : mpn (mps M (p + 1)) q 0 x (30, 0, 0) 11 = nI q := mpn_11
  have x1 : mpn (mps M (p + 1)) q 0 x (38, 0, 0) 0 = nI x := mpn_38
  generalize mpn (mps M (p + 1)) q 0 x = M1 at t1 E1 q1 x1 ⊢
  rw [k177 (by decide) ht t1 q1 hin]
  unfold p_3a
  by_cases hc : cn tx q = some 58
  · have hlt := cn_lt hc
    have hin2 := pm_in (tx := tx) (lo := 0) (hi := 9) 2 (q + 1) 0 (by omega)
    rw [if_pos hc, if_pos hc]
    simp only [am_cb_i, am_cb_e, Option.toList_some, Option.toList_none, List.cons_append, List.nil_append, b181_228]
    rw [if_neg i10, k180 (by decide) ht t1.mps mps_11 (by omega)]
    simp only [am_cb_i, am_cb_e, Option.toList_some, Option.toList_none, List.cons_append, List.nil_append, b181_236]
    unfold p_3b
    by_cases h02 : (pm tx 0 9 2 (q + 1) 0).2.2 = 0
    · rw [if_pos h02, h02, if_neg (Nat.lt_irrefl 0), if_pos i00]
      exact mpO.no E1.ps.pn mpn_11
    rw [if_neg h02, if_pos (show 0 < (pm tx 0 9 2 (q + 1) 0).2.2 by omega), if_neg i10]
    generalize (pm tx 0 9 2 (q + 1) 0).1 = y
    generalize (pm tx 0 9 2 (q + 1) 0).2.1 = s at hin2 ⊢
    have t2 : mtx tx (mpn (mps M1 (q + 1)) s 1 y) := t1.mps.mpn
    have E2 : mpE M0 (mpn (mps M1 (q + 1)) s 1 y) := E1.ps.pn
    have q2 : mpn (mps M1 (q + 1)) s 1 y (30, 0, 0) 11 = nI s := mpn_11
    have x2 : mpn (mps M1 (q + 1)) s 1 y (38, 0, 0) 0 = nI x := (mpn_o (by decide)).trans (mps_38.trans x1)
    have y2 : mpn (mps M1 (q + 1)) s 1 y (38, 0, 0) 1 = nI y := mpn_38
    generalize mpn (mps M1 (q + 1)) s 1 y = M2 at t2 E2 q2 x2 y2 ⊢
    rw [k177 (by decide) ht t2 q2 hin2]
    unfold p_3c
    by_cases hc2 : cn tx s = some 45
    · have hlt2 := cn_lt hc2
      rw [if_pos hc2, if_pos hc2]
      simp only [am_cb_i, am_cb_e, Option.toList_some, Option.toList_none, List.cons_append, List.nil_append, b181_245]
      rw [if_neg i10, k180 (by decide) ht t2.mps mps_11 (by omega)]
      simp only [am_cb_i, am_cb_e, Option.toList_some, Option.toList_none, List.cons_append, List.nil_append, b181_253]
      unfold p_3d
      by_cases h03 : (pm tx 0 9 2 (s + 1) 0).2.2 = 0
      · rw [if_pos h03, h03, if_neg (Nat.lt_irrefl 0), if_pos i00]
        exact mpO.no E2.ps.pn mpn_11
      · rw [if_neg h03, if_pos (show 0 < (pm tx 0 9 2 (s + 1) 0).2.2 by omega), if_neg i10]
        refine ⟨_, rfl, mpn_11, fun k' x' y' z' g => ?_, E2.ps.pn⟩
        have e1 := Option.some.inj g
        obtain ⟨rfl, e2⟩ := Prod.mk.inj e1
        obtain ⟨rfl, e3⟩ := Prod.mk.inj e2
        obtain ⟨rfl, rfl⟩ := Prod.mk.inj e3
        exact ⟨(mpn_o (by decide)).trans (mps_38.trans x2), fun _ _ => (mpn_o (by decide)).trans (mps_38.trans y2), fun _ => mpn_38⟩
    · rw [if_neg hc2, if_neg hc2]
      simp only [am_cb_i, am_cb_e, Option.toList_some, Option.toList_none, List.cons_append, List.nil_append, b181_245]
      rw [if_pos i00]
      exact mpO.no E2 q2
  · rw [if_neg hc, if_neg hc]
    simp only [am_cb_i, am_cb_e, Option.toList_some, Option.toList_none, List.cons_append, List.nil_append, b181_228]
    rw [if_pos i00]
    exact mpO.no E1 q1
theorem m139 {p : Nat} (ht : txk tx) (h : mtx tx M) (hE : mpE M0 M) (hp : p < tx.length) : mpO M0 w (am_cb (am_ev (d + 3) 179 [am_P (30, 0, 0), am_I (nI 0)] (mps M (p + 1)) (am_Z w)) (fun v M' X' => am_rn (am_ev (d + 3)) 181 139 [some (am_P (30, 0, 0))] (v.toList ++ []) M' X')) (p_4 tx (p + 1)) := by
  have hin := pm_in (tx := tx) (lo := 0) (hi := 9) 1 (p + 1) 0 (by omega)
  rw [k179 (by decide) ht h.mps mps_11 (by omega)]
  simp only [am_cb_i, am_cb_e, Option.toList_some, Option.toList_none, List.cons_append, List.nil_append, b181_139]
  unfold p_4
  by_cases h0 : (pm tx 0 9 1 (p + 1) 0).2.2 = 0
  · rw [if_pos h0, h0, if_neg (Nat.lt_irrefl 0), if_pos i00]
    exact mpO.no hE.ps.pn mpn_11
  rw [if_neg h0, if_pos (show 0 < (pm tx 0 9 1 (p + 1) 0).2.2 by omega), if_neg i10]
  generalize (pm tx 0 9 1 (p + 1) 0).1 = x
  generalize (pm tx 0 9 1 (p + 1) 0).2.1 = q at hin ⊢
  have t1 : mtx tx (mpn (mps M (p + 1)) q 0 x) := h.mps.mpn
  have E1 : mpE M0 (mpn (mps M (p + 1)) q 0 x) := hE.ps.pn
  have q1 : mpn (mps M (p + 1)) q 0 x (30, 0, 0) 11 = nI q := mpn_11
  have x1 : mpn (mps M (p + 1)) q 0 x (38, 0, 0) 0 = nI x := mpn_38
  generalize mpn (mps M (p + 1)) q 0 x = M1 at t1 E1 q1 x1 ⊢
  rw [k177 (by decide) ht t1 q1 hin]
  unfold p_4a
  by_cases hc : cn tx q = some 62
  · have hlt := cn_lt hc
    have hin2 := pm_in (tx := tx) (lo := 0) (hi := 9) 1 (q + 1) 0 (by omega)
    rw [if_pos hc, if_pos hc]
    simp only [am_cb_i, am_cb_e, Option.toList_some, Option.toList_none, List.cons_append, List.nil_append, b181_148]
    rw [if_neg i10, k179 (by decide) ht t1.mps mps_11 (by omega)]
    simp only [am_cb_i, am_cb_e, Option.toList_some, Option.toList_none, List.cons_append, List.nil_append, b181_156]
    unfold p_4b
    by_cases h02 : (pm tx 0 9 1 (q + 1) 0).2.2 = 0
    · rw [if_pos h02, h02, if_neg (Nat.lt_irrefl 0), if_pos i00]
      exact mpO.no E1.ps.pn mpn_11
    rw [if_neg h02, if_pos (show 0 < (pm tx 0 9 1 (q + 1) 0).2.2 by omega), if_neg i10]
    generalize (pm tx 0 9 1 (q + 1) 0).1 = y
    generalize (pm tx 0 9 1 (q + 1) 0).2.1 = s at hin2 ⊢
    have t2 : mtx tx (mpn (mps M1 (q + 1)) s 1 y) := t1.mps.mpn
    have E2 : mpE M0 (mpn (mps M1 (q + 1)) s 1 y) := E1.ps.pn
    have q2 : mpn (mps M1 (q + 1)) s 1 y (30, 0, 0) 11 = nI s := mpn_11
    have x2 : mpn (mps M1 (q + 1)) s 1 y (38, 0, 0) 0 = nI x := (mpn_o (by decide)).trans (mps_38.trans x1)
    have y2 : mpn (mps M1 (q + 1)) s 1 y (38, 0, 0) 1 = nI y := mpn_38
    generalize mpn (mps M1 (q + 1)) s 1 y = M2 at t2 E2 q2 x2 y2 ⊢
    rw [k177 (by decide) ht t2 q2 hin2]
    unfold p_4c
    by_cases hc2 : cn tx s = some 58
    · have hlt2 := cn_lt hc2
      rw [if_pos hc2, if_pos hc2]
      simp only [am_cb_i, am_cb_e, Option.toList_some, Option.toList_none, List.cons_append, List.nil_append, b181_165]
      rw [if_neg i10, show nI 49 = nI (48 + 1) from rfl, show nI 56 = nI (48 + 8) from rfl, k178 (by decide) (by decide) (by decide) (by decide) ht t2.mps mps_11 (by omega)]
      simp only [am_cb_i, am_cb_e, Option.toList_some, Option.toList_none, List.cons_append, List.nil_append, b181_179]
      unfold p_4d
      by_cases h03 : (pm tx 1 8 8 (s + 1) 0).2.2 = 0
      · rw [if_pos h03, h03, if_neg (Nat.lt_irrefl 0), if_pos i00]
        exact mpO.no E2.ps.pn mpn_11
      · rw [if_neg h03, if_pos (show 0 < (pm tx 1 8 8 (s + 1) 0).2.2 by omega), if_neg i10]
        refine ⟨_, rfl, mpn_11, fun k' x' y' z' g => ?_, E2.ps.pn⟩
        have e1 := Option.some.inj g
        obtain ⟨rfl, e2⟩ := Prod.mk.inj e1
        obtain ⟨rfl, e3⟩ := Prod.mk.inj e2
        obtain ⟨rfl, rfl⟩ := Prod.mk.inj e3
        exact ⟨(mpn_o (by decide)).trans (mps_38.trans x2), fun _ _ => (mpn_o (by decide)).trans (mps_38.trans y2), fun _ => mpn_38⟩
    · rw [if_neg hc2, if_neg hc2]
      simp only [am_cb_i, am_cb_e, Option.toList_some, Option.toList_none, List.cons_append, List.nil_append, b181_156, b181_165]
      rw [if_pos i00]
      exact mpO.no E2 q2
  · rw [if_neg hc, if_neg hc]
    simp only [am_cb_i, am_cb_e, Option.toList_some, Option.toList_none, List.cons_append, List.nil_append, b181_148]
    rw [if_pos i00]
    exact mpO.no E1 q1
end Km6
