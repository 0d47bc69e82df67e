/-! ONE COMMAND OF A TEXT: SILENCES AND SENDINGS, AND ANY -/
def p_3d (tx : List Int32) (x y p : Nat) : Pc := if (pm tx 0 9 2 p 0).2.2 = 0 then ((pm tx 0 9 2 p 0).2.1, none) else ((pm tx 0 9 2 p 0).2.1, some (2, x, y, (pm tx 0 9 2 p 0).1))
def p_3c (tx : List Int32) (x y p : Nat) : Pc := if cn tx p = some 45 then p_3d tx x y (p + 1) else (p, none)
def p_3b (tx : List Int32) (x p : Nat) : Pc := if (pm tx 0 9 2 p 0).2.2 = 0 then ((pm tx 0 9 2 p 0).2.1, none) else p_3c tx x (pm tx 0 9 2 p 0).1 (pm tx 0 9 2 p 0).2.1
def p_3a (tx : List Int32) (x p : Nat) : Pc := if cn tx p = some 58 then p_3b tx x (p + 1) else (p, none)
def p_3 (tx : List Int32) (p : Nat) : Pc := if (pm tx 0 9 1 p 0).2.2 = 0 then ((pm tx 0 9 1 p 0).2.1, none) else p_3a tx (pm tx 0 9 1 p 0).1 (pm tx 0 9 1 p 0).2.1
def p_4d (tx : List Int32) (x y p : Nat) : Pc := if (pm tx 1 8 8 p 0).2.2 = 0 then ((pm tx 1 8 8 p 0).2.1, none) else ((pm tx 1 8 8 p 0).2.1, some (5, x, y, (pm tx 1 8 8 p 0).1))
def p_4c (tx : List Int32) (x y p : Nat) : Pc := if cn tx p = some 58 then p_4d tx x y (p + 1) else (p, none)
def p_4b (tx : List Int32) (x p : Nat) : Pc := if (pm tx 0 9 1 p 0).2.2 = 0 then ((pm tx 0 9 1 p 0).2.1, none) else p_4c tx x (pm tx 0 9 1 p 0).1 (pm tx 0 9 1 p 0).2.1
def p_4a (tx : List Int32) (x p : Nat) : Pc := if cn tx p = some 62 then p_4b tx x (p + 1) else (p, none)
def p_4 (tx : List Int32) (p : Nat) : Pc := if (pm tx 0 9 1 p 0).2.2 = 0 then ((pm tx 0 9 1 p 0).2.1, none) else p_4a tx (pm tx 0 9 1 p 0).1 (pm tx 0 9 1 p 0).2.1
section Kc9
variable {d : Nat} {M M' : am_M} {w : am_W4} {tx : List Int32}
theorem k8 {i p : Nat} (hi : i < 20) (ht : txk tx) (h : ctx tx M) (h4 : M (8, 0, 0) 4 = nI p) (hp : p ≤ 60) : cpO tx (11, 0, i) M w (am_ev (d + 4) 8 [am_P (8, 0, 0), am_P (11, 0, i)] M (am_Z w)) (p_3 tx (p + 1)) := by
  have hv := pm_v (tx := tx) (lo := 0) (hi := 9) (by decide) 1 (p + 1) 0
  have hv' : (pm tx 0 9 1 (p + 1) 0).1 < 10 := by simpa using hv
  have hq := pm_le (tx := tx) (lo := 0) (hi := 9) 1 (p + 1) 0
  rw [e8 (ck11 hi), h4, nI_add, show am_set M (8, 0, 0) 4 (nI (p + 1)) = cps M (p + 1) from rfl, k12p (by decide) (by decide) ht h.cps cps_4 (by omega), cps_cps]
  simp only [am_cb_i, am_cb_e, Option.toList_some, Option.toList_none, List.cons_append, List.nil_append]
  rw [b8_17 (ck11 hi)]
  unfold p_3
  by_cases h0 : (pm tx 0 9 1 (p + 1) 0).2.2 = 0
  · rw [if_pos h0, if_pos h0, if_pos rfl]
    exact cpO.no
  rw [if_neg h0, if_neg h0, if_neg (nI_nm1 (by omega)), k11p (by decide) ht h.cps cps_4 (by omega), cps_cps]
  generalize (pm tx 0 9 1 (p + 1) 0).1 = x at hv' ⊢
  generalize (pm tx 0 9 1 (p + 1) 0).2.1 = q at hq ⊢
  have hv2 := pm_v (tx := tx) (lo := 0) (hi := 9) (by decide) 2 (q + 1) 0
  have hv2' : (pm tx 0 9 2 (q + 1) 0).1 < 100 := by simpa using hv2
  have hq2 := pm_le (tx := tx) (lo := 0) (hi := 9) 2 (q + 1) 0
  simp only [am_cb_i, am_cb_e, Option.toList_some, Option.toList_none, List.cons_append, List.nil_append]
  rw [b8_29 (ck11 hi)]
  unfold p_3a
  by_cases hc : cn tx q = some 58
  · rw [if_neg (dT hc), if_pos hc, if_pos hc, k13 ht h.cps cps_4 (by omega), cps_cps]
    simp only [am_cb_i, am_cb_e, Option.toList_some, Option.toList_none, List.cons_append, List.nil_append]
    rw [b8_38 (ck11 hi)]
    unfold p_3b
    by_cases h02 : (pm tx 0 9 2 (q + 1) 0).2.2 = 0
    · rw [if_pos h02, if_pos h02, if_pos rfl]
      exact cpO.no
    rw [if_neg h02, if_neg h02, if_neg (nI_nm1 (by omega)), k11p (by decide) ht h.cps cps_4 (by omega), cps_cps]
    generalize (pm tx 0 9 2 (q + 1) 0).1 = y at hv2' ⊢
    generalize (pm tx 0 9 2 (q + 1) 0).2.1 = s at hq2 ⊢
    have hv3 := pm_v (tx := tx) (lo := 0) (hi := 9) (by decide) 2 (s + 1) 0
    have hv3' : (pm tx 0 9 2 (s + 1) 0).1 < 100 := by simpa using hv3
    simp only [am_cb_i, am_cb_e, Option.toList_some, Option.toList_none, List.cons_append, List.nil_append]
    rw [b8_50 (ck11 hi)]
    unfold p_3c
    by_cases hc2 : cn tx s = some 45
    · rw [if_neg (dT hc2), if_pos hc2, if_pos hc2, k13 ht h.cps cps_4 (by omega), cps_cps]
      simp only [am_cb_i, am_cb_e, Option.toList_some, Option.toList_none, List.cons_append, List.nil_append]
      rw [b8_59 (ck11 hi), e1 (ck11 hi)]
      simp only [am_cb_i, am_cb_e, Option.toList_some, Option.toList_none, List.cons_append, List.nil_append]
      rw [b8_70 (ck11 hi)]
      unfold p_3d
      by_cases h03 : (pm tx 0 9 2 (s + 1) 0).2.2 = 0
      · rw [if_pos h03, if_pos h03, if_pos rfl]
        exact cpO.rec (pl_t (by decide))
      · rw [if_neg h03, if_neg h03, if_neg (nI_nm1 (by omega))]
        exact cpO.yes (pl_t (by decide))
    · rw [if_pos (dF hc2), if_neg hc2, if_neg hc2]
      exact cpO.no
  · rw [if_pos (dF hc), if_neg hc, if_neg hc]
    exact cpO.no
theorem k6 {i p : Nat} (hi : i < 20) (ht : txk tx) (h : ctx tx M) (h4 : M (8, 0, 0) 4 = nI p) (hp : p ≤ 60) : cpO tx (11, 0, i) M w (am_ev (d + 4) 6 [am_P (8, 0, 0), am_P (11, 0, i)] M (am_Z w)) (p_4 tx (p + 1)) := by
  have hv := pm_v (tx := tx) (lo := 0) (hi := 9) (by decide) 1 (p + 1) 0
  have hv' : (pm tx 0 9 1 (p + 1) 0).1 < 10 := by simpa using hv
  have hq := pm_le (tx := tx) (lo := 0) (hi := 9) 1 (p + 1) 0
  rw [e6 (ck11 hi), h4, nI_add, show am_set M (8, 0, 0) 4 (nI (p + 1)) = cps M (p + 1) from rfl, k12p (by decide) (by decide) ht h.cps cps_4 (by omega), cps_cps]
  simp only [am_cb_i, am_cb_e, Option.toList_some, Option.toList_none, List.cons_append, List.nil_append]
  rw [b6_17 (ck11 hi)]
  unfold p_4
  by_cases h0 : (pm tx 0 9 1 (p + 1) 0).2.2 = 0
  · rw [if_pos h0, if_pos h0, if_pos rfl]
    exact cpO.no
  rw [if_neg h0, if_neg h0, if_neg (nI_nm1 (by omega)), k11p (by decide) ht h.cps cps_4 (by omega), cps_cps]
  generalize (pm tx 0 9 1 (p + 1) 0).1 = x at hv' ⊢
  generalize (pm tx 0 9 1 (p + 1) 0).2.1 = q at hq ⊢
  have hv2 := pm_v (tx := tx) (lo := 0) (hi := 9) (by decide) 1 (q + 1) 0
  have hv2' : (pm tx 0 9 1 (q + 1) 0).1 < 10 := by simpa using hv2
  have hq2 := pm_le (tx := tx) (lo := 0) (hi := 9) 1 (q + 1) 0
  simp only [am_cb_i, am_cb_e, Option.toList_some, Option.toList_none, List.cons_append, List.nil_append]
  rw [b6_29 (ck11 hi)]
  unfold p_4a
  by_cases hc : cn tx q = some 62
  · rw [if_neg (dT hc), if_pos hc, if_pos hc, k12p (by decide) (by decide) ht h.cps cps_4 (by omega), cps_cps]
    simp only [am_cb_i, am_cb_e, Option.toList_some, Option.toList_none, List.cons_append, List.nil_append]
    rw [b6_41 (ck11 hi)]
    unfold p_4b
    by_cases h02 : (pm tx 0 9 1 (q + 1) 0).2.2 = 0
    · rw [if_pos h02, if_pos h02, if_pos rfl]
      exact cpO.no
    rw [if_neg h02, if_neg h02, if_neg (nI_nm1 (by omega)), k11p (by decide) ht h.cps cps_4 (by omega), cps_cps]
    generalize (pm tx 0 9 1 (q + 1) 0).1 = y at hv2' ⊢
    generalize (pm tx 0 9 1 (q + 1) 0).2.1 = s at hq2 ⊢
    have hv3 := pm_v (tx := tx) (lo := 1) (hi := 8) (by decide) 8 (s + 1) 0
    have hv3' : (pm tx 1 8 8 (s + 1) 0).1 < 100000000 := by simpa using hv3
    simp only [am_cb_i, am_cb_e, Option.toList_some, Option.toList_none, List.cons_append, List.nil_append]
    rw [b6_53 (ck11 hi)]
    unfold p_4c
    by_cases hc2 : cn tx s = some 58
    · rw [if_neg (dT hc2), if_pos hc2, if_pos hc2, k14 ht h.cps cps_4 (by omega), cps_cps]
      simp only [am_cb_i, am_cb_e, Option.toList_some, Option.toList_none, List.cons_append, List.nil_append]
      rw [b6_62 (ck11 hi), e1 (ck11 hi)]
      simp only [am_cb_i, am_cb_e, Option.toList_some, Option.toList_none, List.cons_append, List.nil_append]
      rw [b6_73 (ck11 hi)]
      unfold p_4d
      by_cases h03 : (pm tx 1 8 8 (s + 1) 0).2.2 = 0
      · rw [if_pos h03, if_pos h03, if_pos rfl]
        exact cpO.rec (pl_t (by decide))
      · rw [if_neg h03, if_neg h03, if_neg (nI_nm1 (by omega))]
        exact cpO.yes (pl_t (by decide))
    · rw [if_pos (dF hc2), if_neg hc2, if_neg hc2]
      exact cpO.no
  · rw [if_pos (dF hc), if_neg hc, if_neg hc]
    exact cpO.no
end Kc9
