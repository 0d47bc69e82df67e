section AmBl
variable {call : Nat → List am_V → am_M → am_X → Option am_R}
theorem b66_0 {x1 x2 x3 : Int32} {M : am_M} {w : am_W4}  : am_rn call 66 0 [some (am_P (3, 0, 0)), some (am_I x1), some (am_I x2), some (am_I x3)] [] M (am_Z w) = am_cb (call 1 [am_P (7, 0, 0), am_I (nI 0), am_I x1, am_I x2, am_I x3] M (am_Z w)) fun v M' X' => am_rn call 66 11 [some (am_P (3, 0, 0)), some (am_I x1), some (am_I x2), some (am_I x3)] (v.toList ++ []) M' X' := by
  refine Eq.trans (rl_aloadn (j := 0) (by decide +kernel) rfl) ?_
  refine Eq.trans (rl_getP (ix := 39) (ci := 8) (j := 6) (by decide +kernel) (by decide +kernel) (by decide +kernel) ck3 rfl) ?_
  refine Eq.trans (rl_iconst (c := 0) (k := (nI 0)) (by decide +kernel) (by decide)) ?_
  refine Eq.trans (rl_iloadn (j := 1) (by decide +kernel) rfl) ?_
  refine Eq.trans (rl_iloadn (j := 2) (by decide +kernel) rfl) ?_
  refine Eq.trans (rl_iloadn (j := 3) (by decide +kernel) rfl) ?_
  refine Eq.trans (rl_inv (ix := 58) (n := 4) (o := 0) 1 [am_I (nI 0), am_I x1, am_I x2, am_I x3] [] (by decide +kernel) (by decide +kernel) (by decide +kernel) (by decide +kernel) ⟨rfl, rfl⟩ rfl rfl ck7) ?_
  rfl
theorem b66_11 {x1 x2 x3 : Int32} {M : am_M} {w : am_W4}  : am_rn call 66 11 [some (am_P (3, 0, 0)), some (am_I x1), some (am_I x2), some (am_I x3)] [] M (am_Z w) = am_cb (call 74 [am_P (3, 0, 0)] M (am_Z w)) fun v M' X' => am_rn call 66 15 [some (am_P (3, 0, 0)), some (am_I x1), some (am_I x2), some (am_I x3)] (v.toList ++ []) M' X' := by
  refine Eq.trans (rl_aloadn (j := 0) (by decide +kernel) rfl) ?_
  refine Eq.trans (rl_inv (ix := 62) (n := 0) (o := 8) 74 [] [] (by decide +kernel) (by decide +kernel) (by decide +kernel) (by decide +kernel) ⟨rfl, rfl⟩ rfl rfl ck3) ?_
  rfl
theorem b66_15 {x1 x2 x3 s0 : Int32} {M : am_M} {w : am_W4}  : am_rn call 66 15 [some (am_P (3, 0, 0)), some (am_I x1), some (am_I x2), some (am_I x3)] [am_I s0] M (am_Z w) = some (.inl (some (am_I s0)), M, (am_Z w)) := by
  exact rl_iret (by decide +kernel) rfl
theorem e66 {d : Nat} {x1 x2 x3 : Int32} {M : am_M} {w : am_W4}  : am_ev (d + 1) 66 [am_P (3, 0, 0), am_I x1, am_I x2, am_I x3] M (am_Z w) = am_cb ((am_ev d) 1 [am_P (7, 0, 0), am_I (nI 0), am_I x1, am_I x2, am_I x3] M (am_Z w)) fun v M' X' => am_rn (am_ev d) 66 11 [some (am_P (3, 0, 0)), some (am_I x1), some (am_I x2), some (am_I x3)] (v.toList ++ []) M' X' := (am_ev_eq d 66 _ M (am_Z w)).trans (b66_0)
theorem b67_0 {x1 x2 : Int32} {M : am_M} {w : am_W4}  : am_rn call 67 0 [some (am_P (3, 0, 0)), some (am_I x1), some (am_I x2)] [] M (am_Z w) = am_cb (call 1 [am_P (7, 0, 0), am_I (nI 1), am_I x1, am_I x2, am_I (nI 0)] M (am_Z w)) fun v M' X' => am_rn call 67 11 [some (am_P (3, 0, 0)), some (am_I x1), some (am_I x2)] (v.toList ++ []) M' X' := by
  refine Eq.trans (rl_aloadn (j := 0) (by decide +kernel) rfl) ?_
  refine Eq.trans (rl_getP (ix := 39) (ci := 8) (j := 6) (by decide +kernel) (by decide +kernel) (by decide +kernel) ck3 rfl) ?_
  refine Eq.trans (rl_iconst (c := 1) (k := (nI 1)) (by decide +kernel) (by decide)) ?_
  refine Eq.trans (rl_iloadn (j := 1) (by decide +kernel) rfl) ?_
  refine Eq.trans (rl_iloadn (j := 2) (by decide +kernel) rfl) ?_
  refine Eq.trans (rl_iconst (c := 0) (k := (nI 0)) (by decide +kernel) (by decide)) ?_
  refine Eq.trans (rl_inv (ix := 58) (n := 4) (o := 0) 1 [am_I (nI 1), am_I x1, am_I x2, am_I (nI 0)] [] (by decide +kernel) (by decide +kernel) (by decide +kernel) (by decide +kernel) ⟨rfl, rfl⟩ rfl rfl ck7) ?_
  rfl
theorem b67_11 {x1 x2 : Int32} {M : am_M} {w : am_W4}  : am_rn call 67 11 [some (am_P (3, 0, 0)), some (am_I x1), some (am_I x2)] [] M (am_Z w) = am_cb (call 74 [am_P (3, 0, 0)] M (am_Z w)) fun v M' X' => am_rn call 67 15 [some (am_P (3, 0, 0)), some (am_I x1), some (am_I x2)] (v.toList ++ []) M' X' := by
  refine Eq.trans (rl_aloadn (j := 0) (by decide +kernel) rfl) ?_
  refine Eq.trans (rl_inv (ix := 62) (n := 0) (o := 8) 74 [] [] (by decide +kernel) (by decide +kernel) (by decide +kernel) (by decide +kernel) ⟨rfl, rfl⟩ rfl rfl ck3) ?_
  rfl
theorem b67_15 {x1 x2 s0 : Int32} {M : am_M} {w : am_W4}  : am_rn call 67 15 [some (am_P (3, 0, 0)), some (am_I x1), some (am_I x2)] [am_I s0] M (am_Z w) = some (.inl (some (am_I s0)), M, (am_Z w)) := by
  exact rl_iret (by decide +kernel) rfl
theorem e67 {d : Nat} {x1 x2 : Int32} {M : am_M} {w : am_W4}  : am_ev (d + 1) 67 [am_P (3, 0, 0), am_I x1, am_I x2] M (am_Z w) = am_cb ((am_ev d) 1 [am_P (7, 0, 0), am_I (nI 1), am_I x1, am_I x2, am_I (nI 0)] M (am_Z w)) fun v M' X' => am_rn (am_ev d) 67 11 [some (am_P (3, 0, 0)), some (am_I x1), some (am_I x2)] (v.toList ++ []) M' X' := (am_ev_eq d 67 _ M (am_Z w)).trans (b67_0)
theorem b68_0 {x1 x2 x3 : Int32} {M : am_M} {w : am_W4}  : am_rn call 68 0 [some (am_P (3, 0, 0)), some (am_I x1), some (am_I x2), some (am_I x3)] [] M (am_Z w) = am_cb (call 1 [am_P (7, 0, 0), am_I (nI 2), am_I x1, am_I x2, am_I x3] M (am_Z w)) fun v M' X' => am_rn call 68 11 [some (am_P (3, 0, 0)), some (am_I x1), some (am_I x2), some (am_I x3)] (v.toList ++ []) M' X' := by
  refine Eq.trans (rl_aloadn (j := 0) (by decide +kernel) rfl) ?_
  refine Eq.trans (rl_getP (ix := 39) (ci := 8) (j := 6) (by decide +kernel) (by decide +kernel) (by decide +kernel) ck3 rfl) ?_
  refine Eq.trans (rl_iconst (c := 2) (k := (nI 2)) (by decide +kernel) (by decide)) ?_
  refine Eq.trans (rl_iloadn (j := 1) (by decide +kernel) rfl) ?_
  refine Eq.trans (rl_iloadn (j := 2) (by decide +kernel) rfl) ?_
  refine Eq.trans (rl_iloadn (j := 3) (by decide +kernel) rfl) ?_
  refine Eq.trans (rl_inv (ix := 58) (n := 4) (o := 0) 1 [am_I (nI 2), am_I x1, am_I x2, am_I x3] [] (by decide +kernel) (by decide +kernel) (by decide +kernel) (by decide +kernel) ⟨rfl, rfl⟩ rfl rfl ck7) ?_
  rfl
theorem b68_11 {x1 x2 x3 : Int32} {M : am_M} {w : am_W4}  : am_rn call 68 11 [some (am_P (3, 0, 0)), some (am_I x1), some (am_I x2), some (am_I x3)] [] M (am_Z w) = am_cb (call 74 [am_P (3, 0, 0)] M (am_Z w)) fun v M' X' => am_rn call 68 15 [some (am_P (3, 0, 0)), some (am_I x1), some (am_I x2), some (am_I x3)] (v.toList ++ []) M' X' := by
  refine Eq.trans (rl_aloadn (j := 0) (by decide +kernel) rfl) ?_
  refine Eq.trans (rl_inv (ix := 62) (n := 0) (o := 8) 74 [] [] (by decide +kernel) (by decide +kernel) (by decide +kernel) (by decide +kernel) ⟨rfl, rfl⟩ rfl rfl ck3) ?_
  rfl
theorem b68_15 {x1 x2 x3 s0 : Int32} {M : am_M} {w : am_W4}  : am_rn call 68 15 [some (am_P (3, 0, 0)), some (am_I x1), some (am_I x2), some (am_I x3)] [am_I s0] M (am_Z w) = some (.inl (some (am_I s0)), M, (am_Z w)) := by
  exact rl_iret (by decide +kernel) rfl
theorem e68 {d : Nat} {x1 x2 x3 : Int32} {M : am_M} {w : am_W4}  : am_ev (d + 1) 68 [am_P (3, 0, 0), am_I x1, am_I x2, am_I x3] M (am_Z w) = am_cb ((am_ev d) 1 [am_P (7, 0, 0), am_I (nI 2), am_I x1, am_I x2, am_I x3] M (am_Z w)) fun v M' X' => am_rn (am_ev d) 68 11 [some (am_P (3, 0, 0)), some (am_I x1), some (am_I x2), some (am_I x3)] (v.toList ++ []) M' X' := (am_ev_eq d 68 _ M (am_Z w)).trans (b68_0)
theorem b69_0 {x1 x2 : Int32} {M : am_M} {w : am_W4}  : am_rn call 69 0 [some (am_P (3, 0, 0)), some (am_I x1), some (am_I x2)] [] M (am_Z w) = am_cb (call 1 [am_P (7, 0, 0), am_I (nI 3), am_I x1, am_I x2, am_I (nI 0)] M (am_Z w)) fun v M' X' => am_rn call 69 11 [some (am_P (3, 0, 0)), some (am_I x1), some (am_I x2)] (v.toList ++ []) M' X' := by
  refine Eq.trans (rl_aloadn (j := 0) (by decide +kernel) rfl) ?_
  refine Eq.trans (rl_getP (ix := 39) (ci := 8) (j := 6) (by decide +kernel) (by decide +kernel) (by decide +kernel) ck3 rfl) ?_
  refine Eq.trans (rl_iconst (c := 3) (k := (nI 3)) (by decide +kernel) (by decide)) ?_
  refine Eq.trans (rl_iloadn (j := 1) (by decide +kernel) rfl) ?_
  refine Eq.trans (rl_iloadn (j := 2) (by decide +kernel) rfl) ?_
  refine Eq.trans (rl_iconst (c := 0) (k := (nI 0)) (by decide +kernel) (by decide)) ?_
  refine Eq.trans (rl_inv (ix := 58) (n := 4) (o := 0) 1 [am_I (nI 3), am_I x1, am_I x2, am_I (nI 0)] [] (by decide +kernel) (by decide +kernel) (by decide +kernel) (by decide +kernel) ⟨rfl, rfl⟩ rfl rfl ck7) ?_
  rfl
theorem b69_11 {x1 x2 : Int32} {M : am_M} {w : am_W4}  : am_rn call 69 11 [some (am_P (3, 0, 0)), some (am_I x1), some (am_I x2)] [] M (am_Z w) = am_cb (call 74 [am_P (3, 0, 0)] M (am_Z w)) fun v M' X' => am_rn call 69 15 [some (am_P (3, 0, 0)), some (am_I x1), some (am_I x2)] (v.toList ++ []) M' X' := by
  refine Eq.trans (rl_aloadn (j := 0) (by decide +kernel) rfl) ?_
  refine Eq.trans (rl_inv (ix := 62) (n := 0) (o := 8) 74 [] [] (by decide +kernel) (by decide +kernel) (by decide +kernel) (by decide +kernel) ⟨rfl, rfl⟩ rfl rfl ck3) ?_
  rfl
theorem b69_15 {x1 x2 s0 : Int32} {M : am_M} {w : am_W4}  : am_rn call 69 15 [some (am_P (3, 0, 0)), some (am_I x1), some (am_I x2)] [am_I s0] M (am_Z w) = some (.inl (some (am_I s0)), M, (am_Z w)) := by
  exact rl_iret (by decide +kernel) rfl
theorem e69 {d : Nat} {x1 x2 : Int32} {M : am_M} {w : am_W4}  : am_ev (d + 1) 69 [am_P (3, 0, 0), am_I x1, am_I x2] M (am_Z w) = am_cb ((am_ev d) 1 [am_P (7, 0, 0), am_I (nI 3), am_I x1, am_I x2, am_I (nI 0)] M (am_Z w)) fun v M' X' => am_rn (am_ev d) 69 11 [some (am_P (3, 0, 0)), some (am_I x1), some (am_I x2)] (v.toList ++ []) M' X' := (am_ev_eq d 69 _ M (am_Z w)).trans (b69_0)
theorem b70_0 {x1 x2 : Int32} {M : am_M} {w : am_W4}  : am_rn call 70 0 [some (am_P (3, 0, 0)), some (am_I x1), some (am_I x2)] [] M (am_Z w) = am_cb (call 1 [am_P (7, 0, 0), am_I (nI 4), am_I x1, am_I x2, am_I (nI 0)] M (am_Z w)) fun v M' X' => am_rn call 70 11 [some (am_P (3, 0, 0)), some (am_I x1), some (am_I x2)] (v.toList ++ []) M' X' := by
  refine Eq.trans (rl_aloadn (j := 0) (by decide +kernel) rfl) ?_
  refine Eq.trans (rl_getP (ix := 39) (ci := 8) (j := 6) (by decide +kernel) (by decide +kernel) (by decide +kernel) ck3 rfl) ?_
  refine Eq.trans (rl_iconst (c := 4) (k := (nI 4)) (by decide +kernel) (by decide)) ?_
  refine Eq.trans (rl_iloadn (j := 1) (by decide +kernel) rfl) ?_
  refine Eq.trans (rl_iloadn (j := 2) (by decide +kernel) rfl) ?_
  refine Eq.trans (rl_iconst (c := 0) (k := (nI 0)) (by decide +kernel) (by decide)) ?_
  refine Eq.trans (rl_inv (ix := 58) (n := 4) (o := 0) 1 [am_I (nI 4), am_I x1, am_I x2, am_I (nI 0)] [] (by decide +kernel) (by decide +kernel) (by decide +kernel) (by decide +kernel) ⟨rfl, rfl⟩ rfl rfl ck7) ?_
  rfl
theorem b70_11 {x1 x2 : Int32} {M : am_M} {w : am_W4}  : am_rn call 70 11 [some (am_P (3, 0, 0)), some (am_I x1), some (am_I x2)] [] M (am_Z w) = am_cb (call 74 [am_P (3, 0, 0)] M (am_Z w)) fun v M' X' => am_rn call 70 15 [some (am_P (3, 0, 0)), some (am_I x1), some (am_I x2)] (v.toList ++ []) M' X' := by
  refine Eq.trans (rl_aloadn (j := 0) (by decide +kernel) rfl) ?_
  refine Eq.trans (rl_inv (ix := 62) (n := 0) (o := 8) 74 [] [] (by decide +kernel) (by decide +kernel) (by decide +kernel) (by decide +kernel) ⟨rfl, rfl⟩ rfl rfl ck3) ?_
  rfl
theorem b70_15 {x1 x2 s0 : Int32} {M : am_M} {w : am_W4}  : am_rn call 70 15 [some (am_P (3, 0, 0)), some (am_I x1), some (am_I x2)] [am_I s0] M (am_Z w) = some (.inl (some (am_I s0)), M, (am_Z w)) := by
  exact rl_iret (by decide +kernel) rfl
theorem e70 {d : Nat} {x1 x2 : Int32} {M : am_M} {w : am_W4}  : am_ev (d + 1) 70 [am_P (3, 0, 0), am_I x1, am_I x2] M (am_Z w) = am_cb ((am_ev d) 1 [am_P (7, 0, 0), am_I (nI 4), am_I x1, am_I x2, am_I (nI 0)] M (am_Z w)) fun v M' X' => am_rn (am_ev d) 70 11 [some (am_P (3, 0, 0)), some (am_I x1), some (am_I x2)] (v.toList ++ []) M' X' := (am_ev_eq d 70 _ M (am_Z w)).trans (b70_0)
theorem b71_0 {x1 x2 x3 : Int32} {M : am_M} {w : am_W4}  : am_rn call 71 0 [some (am_P (3, 0, 0)), some (am_I x1), some (am_I x2), some (am_I x3)] [] M (am_Z w) = am_cb (call 1 [am_P (7, 0, 0), am_I (nI 5), am_I x1, am_I x2, am_I x3] M (am_Z w)) fun v M' X' => am_rn call 71 11 [some (am_P (3, 0, 0)), some (am_I x1), some (am_I x2), some (am_I x3)] (v.toList ++ []) M' X' := by
  refine Eq.trans (rl_aloadn (j := 0) (by decide +kernel) rfl) ?_
  refine Eq.trans (rl_getP (ix := 39) (ci := 8) (j := 6) (by decide +kernel) (by decide +kernel) (by decide +kernel) ck3 rfl) ?_
  refine Eq.trans (rl_iconst (c := 5) (k := (nI 5)) (by decide +kernel) (by decide)) ?_
  refine Eq.trans (rl_iloadn (j := 1) (by decide +kernel) rfl) ?_
  refine Eq.trans (rl_iloadn (j := 2) (by decide +kernel) rfl) ?_
  refine Eq.trans (rl_iloadn (j := 3) (by decide +kernel) rfl) ?_
  refine Eq.trans (rl_inv (ix := 58) (n := 4) (o := 0) 1 [am_I (nI 5), am_I x1, am_I x2, am_I x3] [] (by decide +kernel) (by decide +kernel) (by decide +kernel) (by decide +kernel) ⟨rfl, rfl⟩ rfl rfl ck7) ?_
  rfl
theorem b71_11 {x1 x2 x3 : Int32} {M : am_M} {w : am_W4}  : am_rn call 71 11 [some (am_P (3, 0, 0)), some (am_I x1), some (am_I x2), some (am_I x3)] [] M (am_Z w) = am_cb (call 74 [am_P (3, 0, 0)] M (am_Z w)) fun v M' X' => am_rn call 71 15 [some (am_P (3, 0, 0)), some (am_I x1), some (am_I x2), some (am_I x3)] (v.toList ++ []) M' X' := by
  refine Eq.trans (rl_aloadn (j := 0) (by decide +kernel) rfl) ?_
  refine Eq.trans (rl_inv (ix := 62) (n := 0) (o := 8) 74 [] [] (by decide +kernel) (by decide +kernel) (by decide +kernel) (by decide +kernel) ⟨rfl, rfl⟩ rfl rfl ck3) ?_
  rfl
theorem b71_15 {x1 x2 x3 s0 : Int32} {M : am_M} {w : am_W4}  : am_rn call 71 15 [some (am_P (3, 0, 0)), some (am_I x1), some (am_I x2), some (am_I x3)] [am_I s0] M (am_Z w) = some (.inl (some (am_I s0)), M, (am_Z w)) := by
  exact rl_iret (by decide +kernel) rfl
theorem e71 {d : Nat} {x1 x2 x3 : Int32} {M : am_M} {w : am_W4}  : am_ev (d + 1) 71 [am_P (3, 0, 0), am_I x1, am_I x2, am_I x3] M (am_Z w) = am_cb ((am_ev d) 1 [am_P (7, 0, 0), am_I (nI 5), am_I x1, am_I x2, am_I x3] M (am_Z w)) fun v M' X' => am_rn (am_ev d) 71 11 [some (am_P (3, 0, 0)), some (am_I x1), some (am_I x2), some (am_I x3)] (v.toList ++ []) M' X' := (am_ev_eq d 71 _ M (am_Z w)).trans (b71_0)
theorem b72_0 {x1 : Int32} {M : am_M} {w : am_W4}  : am_rn call 72 0 [some (am_P (3, 0, 0)), some (am_I x1)] [] M (am_Z w) = am_cb (call 1 [am_P (7, 0, 0), am_I (nI 6), am_I x1, am_I (nI 0), am_I (nI 0)] M (am_Z w)) fun v M' X' => am_rn call 72 12 [some (am_P (3, 0, 0)), some (am_I x1)] (v.toList ++ []) M' X' := by
  refine Eq.trans (rl_aloadn (j := 0) (by decide +kernel) rfl) ?_
  refine Eq.trans (rl_getP (ix := 39) (ci := 8) (j := 6) (by decide +kernel) (by decide +kernel) (by decide +kernel) ck3 rfl) ?_
  refine Eq.trans (rl_bipush (c := 6) (k := (nI 6)) (by decide +kernel) (by decide)) ?_
  refine Eq.trans (rl_iloadn (j := 1) (by decide +kernel) rfl) ?_
  refine Eq.trans (rl_iconst (c := 0) (k := (nI 0)) (by decide +kernel) (by decide)) ?_
  refine Eq.trans (rl_iconst (c := 0) (k := (nI 0)) (by decide +kernel) (by decide)) ?_
  refine Eq.trans (rl_inv (ix := 58) (n := 4) (o := 0) 1 [am_I (nI 6), am_I x1, am_I (nI 0), am_I (nI 0)] [] (by decide +kernel) (by decide +kernel) (by decide +kernel) (by decide +kernel) ⟨rfl, rfl⟩ rfl rfl ck7) ?_
  rfl
theorem b72_12 {x1 : Int32} {M : am_M} {w : am_W4}  : am_rn call 72 12 [some (am_P (3, 0, 0)), some (am_I x1)] [] M (am_Z w) = am_cb (call 74 [am_P (3, 0, 0)] M (am_Z w)) fun v M' X' => am_rn call 72 16 [some (am_P (3, 0, 0)), some (am_I x1)] (v.toList ++ []) M' X' := by
  refine Eq.trans (rl_aloadn (j := 0) (by decide +kernel) rfl) ?_
  refine Eq.trans (rl_inv (ix := 62) (n := 0) (o := 8) 74 [] [] (by decide +kernel) (by decide +kernel) (by decide +kernel) (by decide +kernel) ⟨rfl, rfl⟩ rfl rfl ck3) ?_
  rfl
theorem b72_16 {x1 s0 : Int32} {M : am_M} {w : am_W4}  : am_rn call 72 16 [some (am_P (3, 0, 0)), some (am_I x1)] [am_I s0] M (am_Z w) = some (.inl (some (am_I s0)), M, (am_Z w)) := by
  exact rl_iret (by decide +kernel) rfl
theorem e72 {d : Nat} {x1 : Int32} {M : am_M} {w : am_W4}  : am_ev (d + 1) 72 [am_P (3, 0, 0), am_I x1] M (am_Z w) = am_cb ((am_ev d) 1 [am_P (7, 0, 0), am_I (nI 6), am_I x1, am_I (nI 0), am_I (nI 0)] M (am_Z w)) fun v M' X' => am_rn (am_ev d) 72 12 [some (am_P (3, 0, 0)), some (am_I x1)] (v.toList ++ []) M' X' := (am_ev_eq d 72 _ M (am_Z w)).trans (b72_0)
theorem b73_0 {x1 : Int32} {M : am_M} {w : am_W4}  : am_rn call 73 0 [some (am_P (3, 0, 0)), some (am_I x1)] [] M (am_Z w) = am_cb (call 1 [am_P (7, 0, 0), am_I (nI 7), am_I x1, am_I (nI 0), am_I (nI 0)] M (am_Z w)) fun v M' X' => am_rn call 73 12 [some (am_P (3, 0, 0)), some (am_I x1)] (v.toList ++ []) M' X' := by
  refine Eq.trans (rl_aloadn (j := 0) (by decide +kernel) rfl) ?_
  refine Eq.trans (rl_getP (ix := 39) (ci := 8) (j := 6) (by decide +kernel) (by decide +kernel) (by decide +kernel) ck3 rfl) ?_
  refine Eq.trans (rl_bipush (c := 7) (k := (nI 7)) (by decide +kernel) (by decide)) ?_
  refine Eq.trans (rl_iloadn (j := 1) (by decide +kernel) rfl) ?_
  refine Eq.trans (rl_iconst (c := 0) (k := (nI 0)) (by decide +kernel) (by decide)) ?_
  refine Eq.trans (rl_iconst (c := 0) (k := (nI 0)) (by decide +kernel) (by decide)) ?_
  refine Eq.trans (rl_inv (ix := 58) (n := 4) (o := 0) 1 [am_I (nI 7), am_I x1, am_I (nI 0), am_I (nI 0)] [] (by decide +kernel) (by decide +kernel) (by decide +kernel) (by decide +kernel) ⟨rfl, rfl⟩ rfl rfl ck7) ?_
  rfl
theorem b73_12 {x1 : Int32} {M : am_M} {w : am_W4}  : am_rn call 73 12 [some (am_P (3, 0, 0)), some (am_I x1)] [] M (am_Z w) = am_cb (call 74 [am_P (3, 0, 0)] M (am_Z w)) fun v M' X' => am_rn call 73 16 [some (am_P (3, 0, 0)), some (am_I x1)] (v.toList ++ []) M' X' := by
  refine Eq.trans (rl_aloadn (j := 0) (by decide +kernel) rfl) ?_
  refine Eq.trans (rl_inv (ix := 62) (n := 0) (o := 8) 74 [] [] (by decide +kernel) (by decide +kernel) (by decide +kernel) (by decide +kernel) ⟨rfl, rfl⟩ rfl rfl ck3) ?_
  rfl
theorem b73_16 {x1 s0 : Int32} {M : am_M} {w : am_W4}  : am_rn call 73 16 [some (am_P (3, 0, 0)), some (am_I x1)] [am_I s0] M (am_Z w) = some (.inl (some (am_I s0)), M, (am_Z w)) := by
  exact rl_iret (by decide +kernel) rfl
theorem e73 {d : Nat} {x1 : Int32} {M : am_M} {w : am_W4}  : am_ev (d + 1) 73 [am_P (3, 0, 0), am_I x1] M (am_Z w) = am_cb ((am_ev d) 1 [am_P (7, 0, 0), am_I (nI 7), am_I x1, am_I (nI 0), am_I (nI 0)] M (am_Z w)) fun v M' X' => am_rn (am_ev d) 73 12 [some (am_P (3, 0, 0)), some (am_I x1)] (v.toList ++ []) M' X' := (am_ev_eq d 73 _ M (am_Z w)).trans (b73_0)
theorem b74_0  {M : am_M} {w : am_W4}  : am_rn call 74 0 [some (am_P (3, 0, 0)), none] [] M (am_Z w) = am_cb (call 22 [am_P (4, 0, 0)] M (am_Z w)) fun v M' X' => am_rn call 74 7 [some (am_P (3, 0, 0)), none] (v.toList ++ []) M' X' := by
  refine Eq.trans (rl_aloadn (j := 0) (by decide +kernel) rfl) ?_
  refine Eq.trans (rl_getP (ix := 25) (ci := 8) (j := 4) (by decide +kernel) (by decide +kernel) (by decide +kernel) ck3 rfl) ?_
  refine Eq.trans (rl_inv (ix := 66) (n := 0) (o := 3) 22 [] [] (by decide +kernel) (by decide +kernel) (by decide +kernel) (by decide +kernel) ⟨rfl, rfl⟩ rfl rfl ck4) ?_
  rfl
theorem b74_7 {s0n : Nat} {M : am_M} {w : am_W4} (hs0n : s0n < 12) : am_rn call 74 7 [some (am_P (3, 0, 0)), none] [am_P (13, s0n, 0)] M (am_Z w) = am_cb (call 34 [am_P (13, s0n, 0), am_P (13, 0, 0)] M (am_Z w)) fun v M' X' => am_rn call 74 14 [some (am_P (3, 0, 0)), none] (v.toList ++ []) M' X' := by
  refine Eq.trans (rl_aloadn (j := 0) (by decide +kernel) rfl) ?_
  refine Eq.trans (rl_getP (ix := 12) (ci := 8) (j := 0) (by decide +kernel) (by decide +kernel) (by decide +kernel) ck3 rfl) ?_
  refine Eq.trans (rl_inv (ix := 70) (n := 1) (o := 5) 34 [am_P (13, 0, 0)] [] (by decide +kernel) (by decide +kernel) (by decide +kernel) (by decide +kernel) ⟨rfl, rfl⟩ rfl rfl (ck13 hs0n)) ?_
  rfl
theorem b74_14  {M : am_M} {w : am_W4}  : am_rn call 74 14 [some (am_P (3, 0, 0)), none] [] M (am_Z w) = am_cb (call 39 [am_P (13, 0, 0), am_P (7, 0, 0), am_P (6, 0, 0)] M (am_Z w)) fun v M' X' => am_rn call 74 29 [some (am_P (3, 0, 0)), none] (v.toList ++ []) M' X' := by
  refine Eq.trans (rl_aloadn (j := 0) (by decide +kernel) rfl) ?_
  refine Eq.trans (rl_getP (ix := 12) (ci := 8) (j := 0) (by decide +kernel) (by decide +kernel) (by decide +kernel) ck3 rfl) ?_
  refine Eq.trans (rl_aloadn (j := 0) (by decide +kernel) rfl) ?_
  refine Eq.trans (rl_getP (ix := 39) (ci := 8) (j := 6) (by decide +kernel) (by decide +kernel) (by decide +kernel) ck3 rfl) ?_
  refine Eq.trans (rl_aloadn (j := 0) (by decide +kernel) rfl) ?_
  refine Eq.trans (rl_getP (ix := 32) (ci := 8) (j := 5) (by decide +kernel) (by decide +kernel) (by decide +kernel) ck3 rfl) ?_
  refine Eq.trans (rl_inv (ix := 74) (n := 2) (o := 5) 39 [am_P (7, 0, 0), am_P (6, 0, 0)] [] (by decide +kernel) (by decide +kernel) (by decide +kernel) (by decide +kernel) ⟨rfl, rfl⟩ rfl rfl (ck13 am_n0)) ?_
  rfl
theorem b74_29 {s0 : Int32} {M : am_M} {w : am_W4}  : am_rn call 74 29 [some (am_P (3, 0, 0)), none] [am_I s0] M (am_Z w) = if s0 = (-1 : Int32) then some (.inr 0, (am_set M (6, 0, 0) 2 (nI 0)), am_Z (am_bw w)) else am_cb (call 23 [am_P (4, 0, 0)] M (am_Z w)) fun v M' X' => am_rn call 74 58 [some (am_P (3, 0, 0)), some (am_I s0)] (v.toList ++ []) M' X' := by
  refine Eq.trans (rl_istoren (j := 1) (ls' := [some (am_P (3, 0, 0)), some (am_I s0)]) (by decide +kernel) rfl rfl) ?_
  refine Eq.trans (rl_iloadn (j := 1) (by decide +kernel) rfl) ?_
  refine Eq.trans (rl_iconst (c := -1) (k := (-1 : Int32)) (by decide +kernel) (by decide)) ?_
  refine Eq.trans (rl_icne (o := 19) 51 (by decide +kernel) (by decide)) ?_
  refine am_ite (fun h_1 => ?_) (fun h_1 => ?_)
  · skip
    refine Eq.trans (rl_aloadn (j := 0) (by decide +kernel) rfl) ?_
    refine Eq.trans (rl_getP (ix := 32) (ci := 8) (j := 5) (by decide +kernel) (by decide +kernel) (by decide +kernel) ck3 rfl) ?_
    refine Eq.trans (rl_iconst (c := 0) (k := (nI 0)) (by decide +kernel) (by decide)) ?_
    refine Eq.trans (rl_put (ix := 78) (ci := 6) (j := 2) (by decide +kernel) (by decide +kernel) (by decide +kernel) (by decide +kernel) ck6) ?_
    exact rl_throw (ix := 81) (E := 0) (ic := 83) (by decide +kernel) (by decide +kernel) (by decide +kernel) (by decide +kernel) (by decide +kernel) rfl rfl
  · skip
    refine Eq.trans (rl_aloadn (j := 0) (by decide +kernel) rfl) ?_
    refine Eq.trans (rl_getP (ix := 25) (ci := 8) (j := 4) (by decide +kernel) (by decide +kernel) (by decide +kernel) ck3 rfl) ?_
    refine Eq.trans (rl_inv (ix := 84) (n := 0) (o := 3) 23 [] [] (by decide +kernel) (by decide +kernel) (by decide +kernel) (by decide +kernel) ⟨rfl, rfl⟩ rfl rfl ck4) ?_
    rfl
theorem b74_58 {x1 : Int32} {M : am_M} {w : am_W4}  : am_rn call 74 58 [some (am_P (3, 0, 0)), some (am_I x1)] [] M (am_Z w) = some (.inl (some (am_I x1)), M, (am_Z w)) := by
  refine Eq.trans (rl_iloadn (j := 1) (by decide +kernel) rfl) ?_
  exact rl_iret (by decide +kernel) rfl
theorem e74 {d : Nat}  {M : am_M} {w : am_W4}  : am_ev (d + 1) 74 [am_P (3, 0, 0)] M (am_Z w) = am_cb ((am_ev d) 22 [am_P (4, 0, 0)] M (am_Z w)) fun v M' X' => am_rn (am_ev d) 74 7 [some (am_P (3, 0, 0)), none] (v.toList ++ []) M' X' := (am_ev_eq d 74 _ M (am_Z w)).trans (b74_0)
theorem b75_0 {x1 x2 : Int32} {M : am_M} {w : am_W4}  : am_rn call 75 0 [some (am_P (3, 0, 0)), some (am_I x1), some (am_I x2), none] [] M (am_Z w) = am_cb (call 82 [am_P (3, 0, 0), am_I x1] M (am_Z w)) fun v M' X' => am_rn call 75 5 [some (am_P (3, 0, 0)), some (am_I x1), some (am_I x2), none] (v.toList ++ []) M' X' := by
  refine Eq.trans (rl_aloadn (j := 0) (by decide +kernel) rfl) ?_
  refine Eq.trans (rl_iloadn (j := 1) (by decide +kernel) rfl) ?_
  refine Eq.trans (rl_inv (ix := 87) (n := 1) (o := 8) 82 [am_I x1] [] (by decide +kernel) (by decide +kernel) (by decide +kernel) (by decide +kernel) ⟨rfl, rfl⟩ rfl rfl ck3) ?_
  rfl
theorem b75_5 {x1 x2 : Int32} {s0 : Nat} {M : am_M} {w : am_W4} (hs0 : s0 < 6) : am_rn call 75 5 [some (am_P (3, 0, 0)), some (am_I x1), some (am_I x2), none] [am_P (21, 0, s0)] M (am_Z w) = if x2 = (nI 0) then some (.inl (some (am_I (M (21, 0, s0) 0))), M, (am_Z w)) else if x2 = (nI 1) then some (.inl (some (am_I (M (21, 0, s0) 1))), M, (am_Z w)) else if x2 = (nI 2) then some (.inl (some (am_I (M (21, 0, s0) 2))), M, (am_Z w)) else if x2 = (nI 3) then some (.inl (some (am_I (M (21, 0, s0) 3))), M, (am_Z w)) else if x2 = (nI 4) then some (.inl (some (am_I (M (21, 0, s0) 6))), M, (am_Z w)) else if x2 = (nI 5) then some (.inl (some (am_I (M (21, 0, s0) 4))), M, (am_Z w)) else if x2 = (nI 6) then some (.inl (some (am_I (M (21, 0, s0) 5))), M, (am_Z w)) else if x2 = (nI 7) then am_cb (call 38 [am_P (13, 0, 0)] M (am_Z w)) fun v M' X' => am_rn call 75 95 [some (am_P (3, 0, 0)), some (am_I x1), some (am_I x2), some (am_P (21, 0, s0))] (v.toList ++ [am_P (21, 0, s0)]) M' X' else some (.inr 2, M, am_Z (am_bw w)) := by
  refine Eq.trans (rl_astoren (j := 3) (ls' := [some (am_P (3, 0, 0)), some (am_I x1), some (am_I x2), some (am_P (21, 0, s0))]) (by decide +kernel) rfl rfl) ?_
  refine Eq.trans (rl_iloadn (j := 2) (by decide +kernel) rfl) ?_
  refine Eq.trans (rl_ts (d := 100) (lo := 0) (hi := 7) (os := #[45, 50, 55, 60, 65, 70, 75, 80]) 107 [52, 57, 62, 67, 72, 77, 82, 87] (by decide +kernel) (by decide +kernel)) ?_
  refine Eq.trans (rl_sw (nI 0) (by decide)) ?_
  refine am_ite (fun _ => ?_) (fun _ => ?_)
  · skip
    refine Eq.trans (rl_aloadn (j := 3) (by decide +kernel) rfl) ?_
    refine Eq.trans (rl_get (ix := 91) (ci := 2) (j := 0) (by decide +kernel) (by decide +kernel) (by decide +kernel) (ck21 am_n0 hs0)) ?_
    exact rl_iret (by decide +kernel) rfl
  refine Eq.trans (rl_sw (nI 1) (by decide)) ?_
  refine am_ite (fun _ => ?_) (fun _ => ?_)
  · skip
    refine Eq.trans (rl_aloadn (j := 3) (by decide +kernel) rfl) ?_
    refine Eq.trans (rl_get (ix := 96) (ci := 2) (j := 1) (by decide +kernel) (by decide +kernel) (by decide +kernel) (ck21 am_n0 hs0)) ?_
    exact rl_iret (by decide +kernel) rfl
  refine Eq.trans (rl_sw (nI 2) (by decide)) ?_
  refine am_ite (fun _ => ?_) (fun _ => ?_)
  · skip
    refine Eq.trans (rl_aloadn (j := 3) (by decide +kernel) rfl) ?_
    refine Eq.trans (rl_get (ix := 99) (ci := 2) (j := 2) (by decide +kernel) (by decide +kernel) (by decide +kernel) (ck21 am_n0 hs0)) ?_
    exact rl_iret (by decide +kernel) rfl
  refine Eq.trans (rl_sw (nI 3) (by decide)) ?_
  refine am_ite (fun _ => ?_) (fun _ => ?_)
  · skip
    refine Eq.trans (rl_aloadn (j := 3) (by decide +kernel) rfl) ?_
    refine Eq.trans (rl_get (ix := 102) (ci := 2) (j := 3) (by decide +kernel) (by decide +kernel) (by decide +kernel) (ck21 am_n0 hs0)) ?_
    exact rl_iret (by decide +kernel) rfl
  refine Eq.trans (rl_sw (nI 4) (by decide)) ?_
  refine am_ite (fun _ => ?_) (fun _ => ?_)
  · skip
    refine Eq.trans (rl_aloadn (j := 3) (by decide +kernel) rfl) ?_
    refine Eq.trans (rl_get (ix := 105) (ci := 2) (j := 6) (by decide +kernel) (by decide +kernel) (by decide +kernel) (ck21 am_n0 hs0)) ?_
    exact rl_iret (by decide +kernel) rfl
  refine Eq.trans (rl_sw (nI 5) (by decide)) ?_
  refine am_ite (fun _ => ?_) (fun _ => ?_)
  · skip
    refine Eq.trans (rl_aloadn (j := 3) (by decide +kernel) rfl) ?_
    refine Eq.trans (rl_get (ix := 108) (ci := 2) (j := 4) (by decide +kernel) (by decide +kernel) (by decide +kernel) (ck21 am_n0 hs0)) ?_
    exact rl_iret (by decide +kernel) rfl
  refine Eq.trans (rl_sw (nI 6) (by decide)) ?_
  refine am_ite (fun _ => ?_) (fun _ => ?_)
  · skip
    refine Eq.trans (rl_aloadn (j := 3) (by decide +kernel) rfl) ?_
    refine Eq.trans (rl_get (ix := 111) (ci := 2) (j := 5) (by decide +kernel) (by decide +kernel) (by decide +kernel) (ck21 am_n0 hs0)) ?_
    exact rl_iret (by decide +kernel) rfl
  refine Eq.trans (rl_sw (nI 7) (by decide)) ?_
  refine am_ite (fun _ => ?_) (fun _ => ?_)
  · skip
    refine Eq.trans (rl_aloadn (j := 3) (by decide +kernel) rfl) ?_
    refine Eq.trans (rl_aloadn (j := 0) (by decide +kernel) rfl) ?_
    refine Eq.trans (rl_getP (ix := 12) (ci := 8) (j := 0) (by decide +kernel) (by decide +kernel) (by decide +kernel) ck3 rfl) ?_
    refine Eq.trans (rl_inv (ix := 114) (n := 0) (o := 5) 38 [] [am_P (21, 0, s0)] (by decide +kernel) (by decide +kernel) (by decide +kernel) (by decide +kernel) ⟨rfl, rfl⟩ rfl rfl (ck13 am_n0)) ?_
    rfl
  show am_rn call 75 107 _ _ _ _ = _
  exact rl_throw (ix := 121) (E := 2) (ic := 123) (by decide +kernel) (by decide +kernel) (by decide +kernel) (by decide +kernel) (by decide +kernel) rfl rfl
theorem b75_95 {x1 x2 s0 : Int32} {x3 s1 : Nat} {M : am_M} {w : am_W4} (h3 : x3 < 6) (hs1 : s1 < 6) : am_rn call 75 95 [some (am_P (3, 0, 0)), some (am_I x1), some (am_I x2), some (am_P (21, 0, x3))] [am_I s0, am_P (21, 0, s1)] M (am_Z w) = am_cb (call 18 [am_P (21, 0, s1), am_I s0] M (am_Z w)) fun v M' X' => am_rn call 75 98 [some (am_P (3, 0, 0)), some (am_I x1), some (am_I x2), some (am_P (21, 0, x3))] (v.toList ++ []) M' X' := by
  refine Eq.trans (rl_inv (ix := 117) (n := 1) (o := 2) 18 [am_I s0] [] (by decide +kernel) (by decide +kernel) (by decide +kernel) (by decide +kernel) ⟨rfl, rfl⟩ rfl rfl (ck21 am_n0 hs1)) ?_
  rfl
theorem b75_98 {x1 x2 s0 : Int32} {x3 : Nat} {M : am_M} {w : am_W4} (h3 : x3 < 6) : am_rn call 75 98 [some (am_P (3, 0, 0)), some (am_I x1), some (am_I x2), some (am_P (21, 0, x3))] [am_I s0] M (am_Z w) = if s0 = 0 then some (.inl (some (am_I (nI 0))), M, (am_Z w)) else some (.inl (some (am_I (nI 1))), M, (am_Z w)) := by
  refine Eq.trans (rl_ifeq (o := 7) 105 (by decide +kernel) (by decide)) ?_
  refine am_ite (fun h_1 => ?_) (fun h_1 => ?_)
  · skip
    refine Eq.trans (rl_iconst (c := 0) (k := (nI 0)) (by decide +kernel) (by decide)) ?_
    exact rl_iret (by decide +kernel) rfl
  · skip
    refine Eq.trans (rl_iconst (c := 1) (k := (nI 1)) (by decide +kernel) (by decide)) ?_
    refine Eq.trans (rl_goto (o := 4) 106 (by decide +kernel) (by decide)) ?_
    exact rl_iret (by decide +kernel) rfl
theorem e75 {d : Nat} {x1 x2 : Int32} {M : am_M} {w : am_W4}  : am_ev (d + 1) 75 [am_P (3, 0, 0), am_I x1, am_I x2] M (am_Z w) = am_cb ((am_ev d) 82 [am_P (3, 0, 0), am_I x1] M (am_Z w)) fun v M' X' => am_rn (am_ev d) 75 5 [some (am_P (3, 0, 0)), some (am_I x1), some (am_I x2), none] (v.toList ++ []) M' X' := (am_ev_eq d 75 _ M (am_Z w)).trans (b75_0)
theorem b76_0 {x1 x2 : Int32} {M : am_M} {w : am_W4}  : am_rn call 76 0 [some (am_P (3, 0, 0)), some (am_I x1), some (am_I x2), none] [] M (am_Z w) = am_cb (call 83 [am_P (3, 0, 0), am_I x1] M (am_Z w)) fun v M' X' => am_rn call 76 5 [some (am_P (3, 0, 0)), some (am_I x1), some (am_I x2), none] (v.toList ++ []) M' X' := by
  refine Eq.trans (rl_aloadn (j := 0) (by decide +kernel) rfl) ?_
  refine Eq.trans (rl_iloadn (j := 1) (by decide +kernel) rfl) ?_
  refine Eq.trans (rl_inv (ix := 124) (n := 1) (o := 8) 83 [am_I x1] [] (by decide +kernel) (by decide +kernel) (by decide +kernel) (by decide +kernel) ⟨rfl, rfl⟩ rfl rfl ck3) ?_
  rfl
theorem b76_5 {x1 x2 : Int32} {s0 : Nat} {M : am_M} {w : am_W4} (hs0 : s0 < 5) : am_rn call 76 5 [some (am_P (3, 0, 0)), some (am_I x1), some (am_I x2), none] [am_P (23, 0, s0)] M (am_Z w) = if x2 = (nI 0) then some (.inl (some (am_I (M (23, 0, s0) 0))), M, (am_Z w)) else if x2 = (nI 1) then some (.inl (some (am_I (M (23, 0, s0) 1))), M, (am_Z w)) else some (.inr 2, M, am_Z (am_bw w)) := by
  refine Eq.trans (rl_astoren (j := 3) (ls' := [some (am_P (3, 0, 0)), some (am_I x1), some (am_I x2), some (am_P (23, 0, s0))]) (by decide +kernel) rfl rfl) ?_
  refine Eq.trans (rl_iloadn (j := 2) (by decide +kernel) rfl) ?_
  refine Eq.trans (rl_ls (d := 35) (ps := #[(0, 25), (1, 30)]) 42 [(0, 32), (1, 37)] (by decide +kernel) (by decide +kernel) (by decide) (by decide +kernel)) ?_
  refine Eq.trans (rl_lk (nI 0) (by decide)) ?_
  refine am_ite (fun _ => ?_) (fun _ => ?_)
  · skip
    refine Eq.trans (rl_aloadn (j := 3) (by decide +kernel) rfl) ?_
    refine Eq.trans (rl_get (ix := 128) (ci := 7) (j := 0) (by decide +kernel) (by decide +kernel) (by decide +kernel) (ck23 am_n0 hs0)) ?_
    exact rl_iret (by decide +kernel) rfl
  refine Eq.trans (rl_lk (nI 1) (by decide)) ?_
  refine am_ite (fun _ => ?_) (fun _ => ?_)
  · skip
    refine Eq.trans (rl_aloadn (j := 3) (by decide +kernel) rfl) ?_
    refine Eq.trans (rl_get (ix := 133) (ci := 7) (j := 1) (by decide +kernel) (by decide +kernel) (by decide +kernel) (ck23 am_n0 hs0)) ?_
    exact rl_iret (by decide +kernel) rfl
  show am_rn call 76 42 _ _ _ _ = _
  exact rl_throw (ix := 121) (E := 2) (ic := 123) (by decide +kernel) (by decide +kernel) (by decide +kernel) (by decide +kernel) (by decide +kernel) rfl rfl
theorem e76 {d : Nat} {x1 x2 : Int32} {M : am_M} {w : am_W4}  : am_ev (d + 1) 76 [am_P (3, 0, 0), am_I x1, am_I x2] M (am_Z w) = am_cb ((am_ev d) 83 [am_P (3, 0, 0), am_I x1] M (am_Z w)) fun v M' X' => am_rn (am_ev d) 76 5 [some (am_P (3, 0, 0)), some (am_I x1), some (am_I x2), none] (v.toList ++ []) M' X' := (am_ev_eq d 76 _ M (am_Z w)).trans (b76_0)
theorem b77_0 {x1 : Int32} {M : am_M} {w : am_W4}  : am_rn call 77 0 [some (am_P (3, 0, 0)), some (am_I x1)] [] M (am_Z w) = am_cb (call 231 [am_I x1] M (am_Z w)) fun v M' X' => am_rn call 77 4 [some (am_P (3, 0, 0)), some (am_I x1)] (v.toList ++ []) M' X' := by
  refine Eq.trans (rl_iloadn (j := 1) (by decide +kernel) rfl) ?_
  refine Eq.trans (rl_invS (ix := 136) (n := 1) (k := 1) 231 [am_I x1] [] (by decide +kernel) (by decide +kernel) (by decide) (by decide +kernel) ⟨rfl, rfl⟩ rfl rfl) ?_
  rfl
theorem b77_4 {x1 s0 : Int32} {M : am_M} {w : am_W4}  : am_rn call 77 4 [some (am_P (3, 0, 0)), some (am_I x1)] [am_I s0] M (am_Z w) = if s0 = 0 then some (.inr 2, M, am_Z (am_bw w)) else if am_in x1 9 then some (.inl (some (am_I (M (16, 0, 0) x1.toNatClampNeg))), M, (am_Z w)) else none := by
  refine Eq.trans (rl_ifne (o := 11) 15 (by decide +kernel) (by decide)) ?_
  refine am_ite (fun h_1 => ?_) (fun h_1 => ?_)
  · skip
    exact rl_throw (ix := 121) (E := 2) (ic := 123) (by decide +kernel) (by decide +kernel) (by decide +kernel) (by decide +kernel) (by decide +kernel) rfl rfl
  · skip
    refine Eq.trans (rl_aloadn (j := 0) (by decide +kernel) rfl) ?_
    refine Eq.trans (rl_getP (ix := 12) (ci := 8) (j := 0) (by decide +kernel) (by decide +kernel) (by decide +kernel) ck3 rfl) ?_
    refine Eq.trans (rl_getP (ix := 139) (ci := 5) (j := 4) (by decide +kernel) (by decide +kernel) (by decide +kernel) (ck13 am_n0) rfl) ?_
    refine Eq.trans (rl_iloadn (j := 1) (by decide +kernel) rfl) ?_
    refine Eq.trans (rl_iald (by decide +kernel) (ka16 am_n0)) ?_
    refine am_ite (fun h_2 => ?_) (fun _ => rfl)
    exact rl_iret (by decide +kernel) rfl
theorem e77 {d : Nat} {x1 : Int32} {M : am_M} {w : am_W4}  : am_ev (d + 1) 77 [am_P (3, 0, 0), am_I x1] M (am_Z w) = am_cb ((am_ev d) 231 [am_I x1] M (am_Z w)) fun v M' X' => am_rn (am_ev d) 77 4 [some (am_P (3, 0, 0)), some (am_I x1)] (v.toList ++ []) M' X' := (am_ev_eq d 77 _ M (am_Z w)).trans (b77_0)
theorem b78_0 {x1 x2 : Int32} {M : am_M} {w : am_W4}  : am_rn call 78 0 [some (am_P (3, 0, 0)), some (am_I x1), some (am_I x2)] [] M (am_Z w) = am_cb (call 84 [am_P (3, 0, 0), am_I x1, am_I x2] M (am_Z w)) fun v M' X' => am_rn call 78 11 [some (am_P (3, 0, 0)), some (am_I x1), some (am_I x2)] (v.toList ++ [am_I x1, am_P (13, 0, 0)]) M' X' := by
  refine Eq.trans (rl_aloadn (j := 0) (by decide +kernel) rfl) ?_
  refine Eq.trans (rl_getP (ix := 12) (ci := 8) (j := 0) (by decide +kernel) (by decide +kernel) (by decide +kernel) ck3 rfl) ?_
  refine Eq.trans (rl_iloadn (j := 1) (by decide +kernel) rfl) ?_
  refine Eq.trans (rl_aloadn (j := 0) (by decide +kernel) rfl) ?_
  refine Eq.trans (rl_iloadn (j := 1) (by decide +kernel) rfl) ?_
  refine Eq.trans (rl_iloadn (j := 2) (by decide +kernel) rfl) ?_
  refine Eq.trans (rl_inv (ix := 143) (n := 2) (o := 8) 84 [am_I x1, am_I x2] [am_I x1, am_P (13, 0, 0)] (by decide +kernel) (by decide +kernel) (by decide +kernel) (by decide +kernel) ⟨rfl, rfl⟩ rfl rfl ck3) ?_
  rfl
theorem b78_11 {x1 x2 s0 s1 : Int32} {M : am_M} {w : am_W4}  : am_rn call 78 11 [some (am_P (3, 0, 0)), some (am_I x1), some (am_I x2)] [am_I s0, am_I s1, am_P (13, 0, 0)] M (am_Z w) = am_cb (call 54 [am_P (13, 0, 0), am_I s1, am_I s0] M (am_Z w)) fun v M' X' => am_rn call 78 14 [some (am_P (3, 0, 0)), some (am_I x1), some (am_I x2)] (v.toList ++ []) M' X' := by
  refine Eq.trans (rl_inv (ix := 147) (n := 2) (o := 5) 54 [am_I s1, am_I s0] [] (by decide +kernel) (by decide +kernel) (by decide +kernel) (by decide +kernel) ⟨rfl, rfl⟩ rfl rfl (ck13 am_n0)) ?_
  rfl
theorem b78_14 {x1 x2 s0 : Int32} {M : am_M} {w : am_W4}  : am_rn call 78 14 [some (am_P (3, 0, 0)), some (am_I x1), some (am_I x2)] [am_I s0] M (am_Z w) = some (.inl (some (am_I s0)), M, (am_Z w)) := by
  exact rl_iret (by decide +kernel) rfl
theorem e78 {d : Nat} {x1 x2 : Int32} {M : am_M} {w : am_W4}  : am_ev (d + 1) 78 [am_P (3, 0, 0), am_I x1, am_I x2] M (am_Z w) = am_cb ((am_ev d) 84 [am_P (3, 0, 0), am_I x1, am_I x2] M (am_Z w)) fun v M' X' => am_rn (am_ev d) 78 11 [some (am_P (3, 0, 0)), some (am_I x1), some (am_I x2)] (v.toList ++ [am_I x1, am_P (13, 0, 0)]) M' X' := (am_ev_eq d 78 _ M (am_Z w)).trans (b78_0)
theorem b79_0 {x1 x2 : Int32} {M : am_M} {w : am_W4}  : am_rn call 79 0 [some (am_P (3, 0, 0)), some (am_I x1), some (am_I x2)] [] M (am_Z w) = am_cb (call 84 [am_P (3, 0, 0), am_I x1, am_I x2] M (am_Z w)) fun v M' X' => am_rn call 79 11 [some (am_P (3, 0, 0)), some (am_I x1), some (am_I x2)] (v.toList ++ [am_I x1, am_P (13, 0, 0)]) M' X' := by
  refine Eq.trans (rl_aloadn (j := 0) (by decide +kernel) rfl) ?_
  refine Eq.trans (rl_getP (ix := 12) (ci := 8) (j := 0) (by decide +kernel) (by decide +kernel) (by decide +kernel) ck3 rfl) ?_
  refine Eq.trans (rl_iloadn (j := 1) (by decide +kernel) rfl) ?_
  refine Eq.trans (rl_aloadn (j := 0) (by decide +kernel) rfl) ?_
  refine Eq.trans (rl_iloadn (j := 1) (by decide +kernel) rfl) ?_
  refine Eq.trans (rl_iloadn (j := 2) (by decide +kernel) rfl) ?_
  refine Eq.trans (rl_inv (ix := 143) (n := 2) (o := 8) 84 [am_I x1, am_I x2] [am_I x1, am_P (13, 0, 0)] (by decide +kernel) (by decide +kernel) (by decide +kernel) (by decide +kernel) ⟨rfl, rfl⟩ rfl rfl ck3) ?_
  rfl
theorem b79_11 {x1 x2 s0 s1 : Int32} {M : am_M} {w : am_W4}  : am_rn call 79 11 [some (am_P (3, 0, 0)), some (am_I x1), some (am_I x2)] [am_I s0, am_I s1, am_P (13, 0, 0)] M (am_Z w) = am_cb (call 55 [am_P (13, 0, 0), am_I s1, am_I s0] M (am_Z w)) fun v M' X' => am_rn call 79 14 [some (am_P (3, 0, 0)), some (am_I x1), some (am_I x2)] (v.toList ++ []) M' X' := by
  refine Eq.trans (rl_inv (ix := 151) (n := 2) (o := 5) 55 [am_I s1, am_I s0] [] (by decide +kernel) (by decide +kernel) (by decide +kernel) (by decide +kernel) ⟨rfl, rfl⟩ rfl rfl (ck13 am_n0)) ?_
  rfl
theorem b79_14 {x1 x2 s0 : Int32} {M : am_M} {w : am_W4}  : am_rn call 79 14 [some (am_P (3, 0, 0)), some (am_I x1), some (am_I x2)] [am_I s0] M (am_Z w) = if am_pc 1 s0 = true then some (.inl (some (am_I s0)), M, (am_Z w)) else none := by
  exact rl_zret (by decide +kernel) rfl
theorem e79 {d : Nat} {x1 x2 : Int32} {M : am_M} {w : am_W4}  : am_ev (d + 1) 79 [am_P (3, 0, 0), am_I x1, am_I x2] M (am_Z w) = am_cb ((am_ev d) 84 [am_P (3, 0, 0), am_I x1, am_I x2] M (am_Z w)) fun v M' X' => am_rn (am_ev d) 79 11 [some (am_P (3, 0, 0)), some (am_I x1), some (am_I x2)] (v.toList ++ [am_I x1, am_P (13, 0, 0)]) M' X' := (am_ev_eq d 79 _ M (am_Z w)).trans (b79_0)
theorem b80_0 {x1 x2 : Int32} {M : am_M} {w : am_W4}  : am_rn call 80 0 [some (am_P (3, 0, 0)), some (am_I x1), some (am_I x2), none, none] [] M (am_Z w) = am_cb (call 83 [am_P (3, 0, 0), am_I x1] M (am_Z w)) fun v M' X' => am_rn call 80 5 [some (am_P (3, 0, 0)), some (am_I x1), some (am_I x2), none, none] (v.toList ++ []) M' X' := by
  refine Eq.trans (rl_aloadn (j := 0) (by decide +kernel) rfl) ?_
  refine Eq.trans (rl_iloadn (j := 1) (by decide +kernel) rfl) ?_
  refine Eq.trans (rl_inv (ix := 124) (n := 1) (o := 8) 83 [am_I x1] [] (by decide +kernel) (by decide +kernel) (by decide +kernel) (by decide +kernel) ⟨rfl, rfl⟩ rfl rfl ck3) ?_
  rfl
theorem b80_5 {x1 x2 : Int32} {s0 : Nat} {M : am_M} {w : am_W4} (hs0 : s0 < 5) : am_rn call 80 5 [some (am_P (3, 0, 0)), some (am_I x1), some (am_I x2), none, none] [am_P (23, 0, s0)] M (am_Z w) = if x2 < 0 then some (.inr 2, M, am_Z (am_bw w)) else if (nI 200) < x2 then some (.inr 2, M, am_Z (am_bw w)) else am_rn call 80 31 [some (am_P (3, 0, 0)), some (am_I x1), some (am_I x2), some (am_I (M (23, 0, s0) 1)), some (am_I (nI 1))] [] M (am_Z w) := by
  refine Eq.trans (rl_get (ix := 133) (ci := 7) (j := 1) (by decide +kernel) (by decide +kernel) (by decide +kernel) (ck23 am_n0 hs0)) ?_
  refine Eq.trans (rl_istoren (j := 3) (ls' := [some (am_P (3, 0, 0)), some (am_I x1), some (am_I x2), some (am_I (M (23, 0, s0) 1)), none]) (by decide +kernel) rfl rfl) ?_
  refine Eq.trans (rl_iloadn (j := 2) (by decide +kernel) rfl) ?_
  refine Eq.trans (rl_iflt (o := 10) 20 (by decide +kernel) (by decide)) ?_
  refine am_ite (fun h_1 => ?_) (fun h_1 => ?_)
  · skip
    exact rl_throw (ix := 121) (E := 2) (ic := 123) (by decide +kernel) (by decide +kernel) (by decide +kernel) (by decide +kernel) (by decide +kernel) rfl rfl
  · skip
    refine Eq.trans (rl_iloadn (j := 2) (by decide +kernel) rfl) ?_
    refine Eq.trans (rl_sipush (c := 200) (k := (nI 200)) (by decide +kernel) (by decide)) ?_
    refine Eq.trans (rl_icle (o := 11) 28 (by decide +kernel) (by decide)) ?_
    refine am_ite (fun h_2 => ?_) (fun h_2 => ?_)
    · skip
      exact rl_throw (ix := 121) (E := 2) (ic := 123) (by decide +kernel) (by decide +kernel) (by decide +kernel) (by decide +kernel) (by decide +kernel) rfl rfl
    · skip
      refine Eq.trans (rl_iconst (c := 1) (k := (nI 1)) (by decide +kernel) (by decide)) ?_
      refine Eq.trans (rl_istore (j := 4) (ls' := [some (am_P (3, 0, 0)), some (am_I x1), some (am_I x2), some (am_I (M (23, 0, s0) 1)), some (am_I (nI 1))]) (by decide +kernel) rfl rfl) ?_
      rfl
theorem b80_31 {x1 x2 x3 x4 : Int32} {M : am_M} {w : am_W4}  : am_rn call 80 31 [some (am_P (3, 0, 0)), some (am_I x1), some (am_I x2), some (am_I x3), some (am_I x4)] [] M (am_Z w) = if x2 < x4 then some (.inl (some (am_I x3)), M, (am_Z w)) else if (((M (13, 0, 0) 0) + x4) - ((M (13, 0, 0) 0) + x4) / (nI 6) * (nI 6)) = 0 then am_cb (call 112 [am_I x3, am_I x1] M (am_Z w)) fun v M' X' => am_rn call 80 58 [some (am_P (3, 0, 0)), some (am_I x1), some (am_I x2), some (am_I x3), some (am_I x4)] (v.toList ++ []) M' X' else am_rn call 80 59 [some (am_P (3, 0, 0)), some (am_I x1), some (am_I x2), some (am_I x3), some (am_I x4)] [] M (am_Z w) := by
  refine Eq.trans (rl_iload (j := 4) (by decide +kernel) rfl) ?_
  refine Eq.trans (rl_iloadn (j := 2) (by decide +kernel) rfl) ?_
  refine Eq.trans (rl_icgt (o := 31) 65 (by decide +kernel) (by decide)) ?_
  refine am_ite (fun h_1 => ?_) (fun h_1 => ?_)
  · skip
    refine Eq.trans (rl_iloadn (j := 3) (by decide +kernel) rfl) ?_
    exact rl_iret (by decide +kernel) rfl
  · skip
    refine Eq.trans (rl_aloadn (j := 0) (by decide +kernel) rfl) ?_
    refine Eq.trans (rl_getP (ix := 12) (ci := 8) (j := 0) (by decide +kernel) (by decide +kernel) (by decide +kernel) ck3 rfl) ?_
    refine Eq.trans (rl_get (ix := 155) (ci := 5) (j := 0) (by decide +kernel) (by decide +kernel) (by decide +kernel) (ck13 am_n0)) ?_
    refine Eq.trans (rl_iload (j := 4) (by decide +kernel) rfl) ?_
    refine Eq.trans (rl_iadd (by decide +kernel)) ?_
    refine Eq.trans (rl_bipush (c := 6) (k := (nI 6)) (by decide +kernel) (by decide)) ?_
    refine Eq.trans (rl_irem (by decide +kernel) rfl) ?_
    refine Eq.trans (rl_ifne (o := 9) 59 (by decide +kernel) (by decide)) ?_
    refine am_ite (fun h_2 => ?_) (fun h_2 => ?_)
    · skip
      refine Eq.trans (rl_iloadn (j := 3) (by decide +kernel) rfl) ?_
      refine Eq.trans (rl_iloadn (j := 1) (by decide +kernel) rfl) ?_
      refine Eq.trans (rl_invS (ix := 158) (n := 2) (k := 1) 112 [am_I x3, am_I x1] [] (by decide +kernel) (by decide +kernel) (by decide) (by decide +kernel) ⟨rfl, rfl⟩ rfl rfl) ?_
      rfl
    · skip
      rfl
theorem b80_58 {x1 x2 x3 x4 s0 : Int32} {M : am_M} {w : am_W4}  : am_rn call 80 58 [some (am_P (3, 0, 0)), some (am_I x1), some (am_I x2), some (am_I x3), some (am_I x4)] [am_I s0] M (am_Z w) = am_rn call 80 59 [some (am_P (3, 0, 0)), some (am_I x1), some (am_I x2), some (am_I s0), some (am_I x4)] [] M (am_Z w) := by
  refine Eq.trans (rl_istoren (j := 3) (ls' := [some (am_P (3, 0, 0)), some (am_I x1), some (am_I x2), some (am_I s0), some (am_I x4)]) (by decide +kernel) rfl rfl) ?_
  rfl
theorem b80_59 {x1 x2 x3 x4 : Int32} {M : am_M} {w : am_W4}  : am_rn call 80 59 [some (am_P (3, 0, 0)), some (am_I x1), some (am_I x2), some (am_I x3), some (am_I x4)] [] M (am_Z w) = am_rn call 80 31 [some (am_P (3, 0, 0)), some (am_I x1), some (am_I x2), some (am_I x3), some (am_I (x4 + (nI 1)))] [] M (am_Z w) := by
  refine Eq.trans (rl_iinc (j := 4) (c := 1) (k := (nI 1)) (ls' := [some (am_P (3, 0, 0)), some (am_I x1), some (am_I x2), some (am_I x3), some (am_I (x4 + (nI 1)))]) (by decide +kernel) (by decide) rfl rfl) ?_
  refine Eq.trans (rl_goto (o := (-31)) 31 (by decide +kernel) (by decide)) ?_
  rfl
theorem e80 {d : Nat} {x1 x2 : Int32} {M : am_M} {w : am_W4}  : am_ev (d + 1) 80 [am_P (3, 0, 0), am_I x1, am_I x2] M (am_Z w) = am_cb ((am_ev d) 83 [am_P (3, 0, 0), am_I x1] M (am_Z w)) fun v M' X' => am_rn (am_ev d) 80 5 [some (am_P (3, 0, 0)), some (am_I x1), some (am_I x2), none, none] (v.toList ++ []) M' X' := (am_ev_eq d 80 _ M (am_Z w)).trans (b80_0)
theorem b81_0  {M : am_M} {w : am_W4}  : am_rn call 81 0 [some (am_P (3, 0, 0)), none, none] [] M (am_Z w) = if (M (13, 0, 0) 1) = 0 then some (.inr 5, M, am_Z (am_bw w)) else am_rn call 81 22 [some (am_P (3, 0, 0)), some (am_I (nI 0)), some (am_I (nI 0))] [] M (am_Z w) := by
  refine Eq.trans (rl_aloadn (j := 0) (by decide +kernel) rfl) ?_
  refine Eq.trans (rl_getP (ix := 12) (ci := 8) (j := 0) (by decide +kernel) (by decide +kernel) (by decide +kernel) ck3 rfl) ?_
  refine Eq.trans (rl_get (ix := 161) (ci := 5) (j := 1) (by decide +kernel) (by decide +kernel) (by decide +kernel) (ck13 am_n0)) ?_
  refine Eq.trans (rl_ifne (o := 11) 18 (by decide +kernel) (by decide)) ?_
  refine am_ite (fun h_1 => ?_) (fun h_1 => ?_)
  · skip
    exact rl_throw (ix := 164) (E := 5) (ic := 166) (by decide +kernel) (by decide +kernel) (by decide +kernel) (by decide +kernel) (by decide +kernel) rfl rfl
  · skip
    refine Eq.trans (rl_iconst (c := 0) (k := (nI 0)) (by decide +kernel) (by decide)) ?_
    refine Eq.trans (rl_istoren (j := 1) (ls' := [some (am_P (3, 0, 0)), some (am_I (nI 0)), none]) (by decide +kernel) rfl rfl) ?_
    refine Eq.trans (rl_iconst (c := 0) (k := (nI 0)) (by decide +kernel) (by decide)) ?_
    refine Eq.trans (rl_istoren (j := 2) (ls' := [some (am_P (3, 0, 0)), some (am_I (nI 0)), some (am_I (nI 0))]) (by decide +kernel) rfl rfl) ?_
    rfl
theorem b81_22 {x1 x2 : Int32} {M : am_M} {w : am_W4}  : am_rn call 81 22 [some (am_P (3, 0, 0)), some (am_I x1), some (am_I x2)] [] M (am_Z w) = if x2 < (M (13, 0, 0) 1) then if am_in x2 6 then am_rn call 81 22 [some (am_P (3, 0, 0)), some (am_I (x1 + (M (21, 0, x2.toNatClampNeg) 1))), some (am_I (x2 + (nI 1)))] [] M (am_Z w) else none else if FP.fdiv (FP.i2f x1) (FP.i2f (M (13, 0, 0) 1)) &&& 0x7fffffff ≤ 0x7f800000 then some (.inl (some (.inl (.float (FP.fdiv (FP.i2f x1) (FP.i2f (M (13, 0, 0) 1)))))), M, (am_Z w)) else none := by
  refine Eq.trans (rl_iloadn (j := 2) (by decide +kernel) rfl) ?_
  refine Eq.trans (rl_aloadn (j := 0) (by decide +kernel) rfl) ?_
  refine Eq.trans (rl_getP (ix := 12) (ci := 8) (j := 0) (by decide +kernel) (by decide +kernel) (by decide +kernel) ck3 rfl) ?_
  refine Eq.trans (rl_get (ix := 161) (ci := 5) (j := 1) (by decide +kernel) (by decide +kernel) (by decide +kernel) (ck13 am_n0)) ?_
  refine Eq.trans (rl_icge (o := 24) 54 (by decide +kernel) (by decide)) ?_
  refine am_ite (fun h_1 => ?_) (fun h_1 => ?_)
  · skip
    refine Eq.trans (rl_iloadn (j := 1) (by decide +kernel) rfl) ?_
    refine Eq.trans (rl_aloadn (j := 0) (by decide +kernel) rfl) ?_
    refine Eq.trans (rl_getP (ix := 12) (ci := 8) (j := 0) (by decide +kernel) (by decide +kernel) (by decide +kernel) ck3 rfl) ?_
    refine Eq.trans (rl_getP (ix := 167) (ci := 5) (j := 2) (by decide +kernel) (by decide +kernel) (by decide +kernel) (ck13 am_n0) rfl) ?_
    refine Eq.trans (rl_iloadn (j := 2) (by decide +kernel) rfl) ?_
    refine Eq.trans (rl_aald (v := (21, 0, x2.toNatClampNeg)) (by decide +kernel) (ka14 am_n0) (fun h => if_pos (am_in_lt' h))) ?_
    refine am_ite (fun h_2 => ?_) (fun _ => rfl)
    refine Eq.trans (rl_get (ix := 96) (ci := 2) (j := 1) (by decide +kernel) (by decide +kernel) (by decide +kernel) (ck21 am_n0 (am_in_lt' h_2))) ?_
    refine Eq.trans (rl_iadd (by decide +kernel)) ?_
    refine Eq.trans (rl_istoren (j := 1) (ls' := [some (am_P (3, 0, 0)), some (am_I (x1 + (M (21, 0, x2.toNatClampNeg) 1))), some (am_I x2)]) (by decide +kernel) rfl rfl) ?_
    refine Eq.trans (rl_iinc (j := 2) (c := 1) (k := (nI 1)) (ls' := [some (am_P (3, 0, 0)), some (am_I (x1 + (M (21, 0, x2.toNatClampNeg) 1))), some (am_I (x2 + (nI 1)))]) (by decide +kernel) (by decide) rfl rfl) ?_
    refine Eq.trans (rl_goto (o := (-29)) 22 (by decide +kernel) (by decide)) ?_
    rfl
  · skip
    refine Eq.trans (rl_iloadn (j := 1) (by decide +kernel) rfl) ?_
    refine Eq.trans (rl_i2f (by decide +kernel)) ?_
    refine Eq.trans (rl_aloadn (j := 0) (by decide +kernel) rfl) ?_
    refine Eq.trans (rl_getP (ix := 12) (ci := 8) (j := 0) (by decide +kernel) (by decide +kernel) (by decide +kernel) ck3 rfl) ?_
    refine Eq.trans (rl_get (ix := 161) (ci := 5) (j := 1) (by decide +kernel) (by decide +kernel) (by decide +kernel) (ck13 am_n0)) ?_
    refine Eq.trans (rl_i2f (by decide +kernel)) ?_
    refine Eq.trans (rl_fdiv (by decide +kernel)) ?_
    refine am_ite (fun h_3 => ?_) (fun _ => rfl)
    exact rl_fret (by decide +kernel) rfl
theorem e81 {d : Nat}  {M : am_M} {w : am_W4}  : am_ev (d + 1) 81 [am_P (3, 0, 0)] M (am_Z w) = if (M (13, 0, 0) 1) = 0 then some (.inr 5, M, am_Z (am_bw w)) else am_rn (am_ev d) 81 22 [some (am_P (3, 0, 0)), some (am_I (nI 0)), some (am_I (nI 0))] [] M (am_Z w) := (am_ev_eq d 81 _ M (am_Z w)).trans (b81_0)
theorem b82_0 {x1 : Int32} {M : am_M} {w : am_W4}  : am_rn call 82 0 [some (am_P (3, 0, 0)), some (am_I x1)] [] M (am_Z w) = am_cb (call 35 [am_P (13, 0, 0), am_I x1] M (am_Z w)) fun v M' X' => am_rn call 82 8 [some (am_P (3, 0, 0)), some (am_I x1)] (v.toList ++ []) M' X' := by
  refine Eq.trans (rl_aloadn (j := 0) (by decide +kernel) rfl) ?_
  refine Eq.trans (rl_getP (ix := 12) (ci := 8) (j := 0) (by decide +kernel) (by decide +kernel) (by decide +kernel) ck3 rfl) ?_
  refine Eq.trans (rl_iloadn (j := 1) (by decide +kernel) rfl) ?_
  refine Eq.trans (rl_inv (ix := 171) (n := 1) (o := 5) 35 [am_I x1] [] (by decide +kernel) (by decide +kernel) (by decide +kernel) (by decide +kernel) ⟨rfl, rfl⟩ rfl rfl (ck13 am_n0)) ?_
  rfl
theorem b82_8 {x1 s0 : Int32} {M : am_M} {w : am_W4}  : am_rn call 82 8 [some (am_P (3, 0, 0)), some (am_I x1)] [am_I s0] M (am_Z w) = if s0 = 0 then some (.inr 1, M, am_Z (am_bw w)) else if am_in x1 6 then some (.inl (some (am_P (21, 0, x1.toNatClampNeg))), M, (am_Z w)) else none := by
  refine Eq.trans (rl_ifne (o := 11) 19 (by decide +kernel) (by decide)) ?_
  refine am_ite (fun h_1 => ?_) (fun h_1 => ?_)
  · skip
    exact rl_throw (ix := 174) (E := 1) (ic := 176) (by decide +kernel) (by decide +kernel) (by decide +kernel) (by decide +kernel) (by decide +kernel) rfl rfl
  · skip
    refine Eq.trans (rl_aloadn (j := 0) (by decide +kernel) rfl) ?_
    refine Eq.trans (rl_getP (ix := 12) (ci := 8) (j := 0) (by decide +kernel) (by decide +kernel) (by decide +kernel) ck3 rfl) ?_
    refine Eq.trans (rl_getP (ix := 167) (ci := 5) (j := 2) (by decide +kernel) (by decide +kernel) (by decide +kernel) (ck13 am_n0) rfl) ?_
    refine Eq.trans (rl_iloadn (j := 1) (by decide +kernel) rfl) ?_
    refine Eq.trans (rl_aald (v := (21, 0, x1.toNatClampNeg)) (by decide +kernel) (ka14 am_n0) (fun h => if_pos (am_in_lt' h))) ?_
    refine am_ite (fun h_2 => ?_) (fun _ => rfl)
    exact rl_aret (by decide +kernel) rfl
theorem e82 {d : Nat} {x1 : Int32} {M : am_M} {w : am_W4}  : am_ev (d + 1) 82 [am_P (3, 0, 0), am_I x1] M (am_Z w) = am_cb ((am_ev d) 35 [am_P (13, 0, 0), am_I x1] M (am_Z w)) fun v M' X' => am_rn (am_ev d) 82 8 [some (am_P (3, 0, 0)), some (am_I x1)] (v.toList ++ []) M' X' := (am_ev_eq d 82 _ M (am_Z w)).trans (b82_0)
theorem b83_0 {x1 : Int32} {M : am_M} {w : am_W4}  : am_rn call 83 0 [some (am_P (3, 0, 0)), some (am_I x1)] [] M (am_Z w) = am_cb (call 36 [am_P (13, 0, 0), am_I x1] M (am_Z w)) fun v M' X' => am_rn call 83 8 [some (am_P (3, 0, 0)), some (am_I x1)] (v.toList ++ []) M' X' := by
  refine Eq.trans (rl_aloadn (j := 0) (by decide +kernel) rfl) ?_
  refine Eq.trans (rl_getP (ix := 12) (ci := 8) (j := 0) (by decide +kernel) (by decide +kernel) (by decide +kernel) ck3 rfl) ?_
  refine Eq.trans (rl_iloadn (j := 1) (by decide +kernel) rfl) ?_
  refine Eq.trans (rl_inv (ix := 177) (n := 1) (o := 5) 36 [am_I x1] [] (by decide +kernel) (by decide +kernel) (by decide +kernel) (by decide +kernel) ⟨rfl, rfl⟩ rfl rfl (ck13 am_n0)) ?_
  rfl
theorem b83_8 {x1 s0 : Int32} {M : am_M} {w : am_W4}  : am_rn call 83 8 [some (am_P (3, 0, 0)), some (am_I x1)] [am_I s0] M (am_Z w) = if s0 = 0 then some (.inr 1, M, am_Z (am_bw w)) else if am_in x1 5 then some (.inl (some (am_P (23, 0, x1.toNatClampNeg))), M, (am_Z w)) else none := by
  refine Eq.trans (rl_ifne (o := 11) 19 (by decide +kernel) (by decide)) ?_
  refine am_ite (fun h_1 => ?_) (fun h_1 => ?_)
  · skip
    exact rl_throw (ix := 174) (E := 1) (ic := 176) (by decide +kernel) (by decide +kernel) (by decide +kernel) (by decide +kernel) (by decide +kernel) rfl rfl
  · skip
    refine Eq.trans (rl_aloadn (j := 0) (by decide +kernel) rfl) ?_
    refine Eq.trans (rl_getP (ix := 12) (ci := 8) (j := 0) (by decide +kernel) (by decide +kernel) (by decide +kernel) ck3 rfl) ?_
    refine Eq.trans (rl_getP (ix := 180) (ci := 5) (j := 3) (by decide +kernel) (by decide +kernel) (by decide +kernel) (ck13 am_n0) rfl) ?_
    refine Eq.trans (rl_iloadn (j := 1) (by decide +kernel) rfl) ?_
    refine Eq.trans (rl_aald (v := (23, 0, x1.toNatClampNeg)) (by decide +kernel) (ka15 am_n0) (fun h => if_pos (am_in_lt' h))) ?_
    refine am_ite (fun h_2 => ?_) (fun _ => rfl)
    exact rl_aret (by decide +kernel) rfl
theorem e83 {d : Nat} {x1 : Int32} {M : am_M} {w : am_W4}  : am_ev (d + 1) 83 [am_P (3, 0, 0), am_I x1] M (am_Z w) = am_cb ((am_ev d) 36 [am_P (13, 0, 0), am_I x1] M (am_Z w)) fun v M' X' => am_rn (am_ev d) 83 8 [some (am_P (3, 0, 0)), some (am_I x1)] (v.toList ++ []) M' X' := (am_ev_eq d 83 _ M (am_Z w)).trans (b83_0)
theorem b84_0 {x1 x2 : Int32} {M : am_M} {w : am_W4}  : am_rn call 84 0 [some (am_P (3, 0, 0)), some (am_I x1), some (am_I x2), none] [] M (am_Z w) = am_cb (call 35 [am_P (13, 0, 0), am_I x1] M (am_Z w)) fun v M' X' => am_rn call 84 8 [some (am_P (3, 0, 0)), some (am_I x1), some (am_I x2), none] (v.toList ++ []) M' X' := by
  refine Eq.trans (rl_aloadn (j := 0) (by decide +kernel) rfl) ?_
  refine Eq.trans (rl_getP (ix := 12) (ci := 8) (j := 0) (by decide +kernel) (by decide +kernel) (by decide +kernel) ck3 rfl) ?_
  refine Eq.trans (rl_iloadn (j := 1) (by decide +kernel) rfl) ?_
  refine Eq.trans (rl_inv (ix := 171) (n := 1) (o := 5) 35 [am_I x1] [] (by decide +kernel) (by decide +kernel) (by decide +kernel) (by decide +kernel) ⟨rfl, rfl⟩ rfl rfl (ck13 am_n0)) ?_
  rfl
theorem b84_8 {x1 x2 s0 : Int32} {M : am_M} {w : am_W4}  : am_rn call 84 8 [some (am_P (3, 0, 0)), some (am_I x1), some (am_I x2), none] [am_I s0] M (am_Z w) = if s0 = 0 then some (.inr 1, M, am_Z (am_bw w)) else if x2 = 0 then am_rn call 84 32 [some (am_P (3, 0, 0)), some (am_I x1), some (am_I x2), none] [am_I (x1 - (nI 1))] M (am_Z w) else am_rn call 84 32 [some (am_P (3, 0, 0)), some (am_I x1), some (am_I x2), none] [am_I (x1 + (nI 1))] M (am_Z w) := by
  refine Eq.trans (rl_ifne (o := 11) 19 (by decide +kernel) (by decide)) ?_
  refine am_ite (fun h_1 => ?_) (fun h_1 => ?_)
  · skip
    exact rl_throw (ix := 174) (E := 1) (ic := 176) (by decide +kernel) (by decide +kernel) (by decide +kernel) (by decide +kernel) (by decide +kernel) rfl rfl
  · skip
    refine Eq.trans (rl_iloadn (j := 2) (by decide +kernel) rfl) ?_
    refine Eq.trans (rl_ifeq (o := 9) 29 (by decide +kernel) (by decide)) ?_
    refine am_ite (fun h_2 => ?_) (fun h_2 => ?_)
    · skip
      refine Eq.trans (rl_iloadn (j := 1) (by decide +kernel) rfl) ?_
      refine Eq.trans (rl_iconst (c := 1) (k := (nI 1)) (by decide +kernel) (by decide)) ?_
      refine Eq.trans (rl_isub (by decide +kernel)) ?_
      rfl
    · skip
      refine Eq.trans (rl_iloadn (j := 1) (by decide +kernel) rfl) ?_
      refine Eq.trans (rl_iconst (c := 1) (k := (nI 1)) (by decide +kernel) (by decide)) ?_
      refine Eq.trans (rl_iadd (by decide +kernel)) ?_
      refine Eq.trans (rl_goto (o := 6) 32 (by decide +kernel) (by decide)) ?_
      rfl
theorem b84_32 {x1 x2 s0 : Int32} {M : am_M} {w : am_W4}  : am_rn call 84 32 [some (am_P (3, 0, 0)), some (am_I x1), some (am_I x2), none] [am_I s0] M (am_Z w) = am_cb (call 35 [am_P (13, 0, 0), am_I s0] M (am_Z w)) fun v M' X' => am_rn call 84 41 [some (am_P (3, 0, 0)), some (am_I x1), some (am_I x2), some (am_I s0)] (v.toList ++ []) M' X' := by
  refine Eq.trans (rl_istoren (j := 3) (ls' := [some (am_P (3, 0, 0)), some (am_I x1), some (am_I x2), some (am_I s0)]) (by decide +kernel) rfl rfl) ?_
  refine Eq.trans (rl_aloadn (j := 0) (by decide +kernel) rfl) ?_
  refine Eq.trans (rl_getP (ix := 12) (ci := 8) (j := 0) (by decide +kernel) (by decide +kernel) (by decide +kernel) ck3 rfl) ?_
  refine Eq.trans (rl_iloadn (j := 3) (by decide +kernel) rfl) ?_
  refine Eq.trans (rl_inv (ix := 171) (n := 1) (o := 5) 35 [am_I s0] [] (by decide +kernel) (by decide +kernel) (by decide +kernel) (by decide +kernel) ⟨rfl, rfl⟩ rfl rfl (ck13 am_n0)) ?_
  rfl
theorem b84_41 {x1 x2 x3 s0 : Int32} {M : am_M} {w : am_W4}  : am_rn call 84 41 [some (am_P (3, 0, 0)), some (am_I x1), some (am_I x2), some (am_I x3)] [am_I s0] M (am_Z w) = if s0 = 0 then some (.inr 3, M, am_Z (am_bw w)) else some (.inl (some (am_I x3)), M, (am_Z w)) := by
  refine Eq.trans (rl_ifne (o := 11) 52 (by decide +kernel) (by decide)) ?_
  refine am_ite (fun h_1 => ?_) (fun h_1 => ?_)
  · skip
    exact rl_throw (ix := 184) (E := 3) (ic := 186) (by decide +kernel) (by decide +kernel) (by decide +kernel) (by decide +kernel) (by decide +kernel) rfl rfl
  · skip
    refine Eq.trans (rl_iloadn (j := 3) (by decide +kernel) rfl) ?_
    exact rl_iret (by decide +kernel) rfl
theorem e84 {d : Nat} {x1 x2 : Int32} {M : am_M} {w : am_W4}  : am_ev (d + 1) 84 [am_P (3, 0, 0), am_I x1, am_I x2] M (am_Z w) = am_cb ((am_ev d) 35 [am_P (13, 0, 0), am_I x1] M (am_Z w)) fun v M' X' => am_rn (am_ev d) 84 8 [some (am_P (3, 0, 0)), some (am_I x1), some (am_I x2), none] (v.toList ++ []) M' X' := (am_ev_eq d 84 _ M (am_Z w)).trans (b84_0)
theorem b85_0 {x1 x2 : Int32} {M : am_M} {w : am_W4}  : am_rn call 85 0 [some (am_P (3, 0, 0)), some (am_I x1), some (am_I x2), none] [] M (am_Z w) = am_cb (call 93 [am_P (3, 0, 0), am_I x1] M (am_Z w)) fun v M' X' => am_rn call 85 5 [some (am_P (3, 0, 0)), some (am_I x1), some (am_I x2), none] (v.toList ++ []) M' X' := by
  refine Eq.trans (rl_aloadn (j := 0) (by decide +kernel) rfl) ?_
  refine Eq.trans (rl_iloadn (j := 1) (by decide +kernel) rfl) ?_
  refine Eq.trans (rl_inv (ix := 187) (n := 1) (o := 8) 93 [am_I x1] [] (by decide +kernel) (by decide +kernel) (by decide +kernel) (by decide +kernel) ⟨rfl, rfl⟩ rfl rfl ck3) ?_
  rfl
theorem b85_5 {x1 x2 : Int32} {s0 : Nat} {M : am_M} {w : am_W4} (hs0 : s0 < 16) : am_rn call 85 5 [some (am_P (3, 0, 0)), some (am_I x1), some (am_I x2), none] [am_P (24, 0, s0)] M (am_Z w) = if x2 = (nI 0) then some (.inl (some (am_I (M (24, 0, s0) 0))), M, (am_Z w)) else if x2 = (nI 1) then some (.inl (some (am_I (M (24, 0, s0) 1))), M, (am_Z w)) else if x2 = (nI 2) then some (.inl (some (am_I (M (24, 0, s0) 2))), M, (am_Z w)) else if x2 = (nI 3) then some (.inl (some (am_I (M (24, 0, s0) 8))), M, (am_Z w)) else if x2 = (nI 4) then am_cb (call 32 [am_P (24, 0, s0)] M (am_Z w)) fun v M' X' => am_rn call 85 80 [some (am_P (3, 0, 0)), some (am_I x1), some (am_I x2), some (am_P (24, 0, s0))] (v.toList ++ []) M' X' else if x2 = (nI 5) then some (.inl (some (am_I (M (24, 0, s0) 5))), M, (am_Z w)) else if x2 = (nI 6) then some (.inl (some (am_I (M (24, 0, s0) 6))), M, (am_Z w)) else if x2 = (nI 7) then some (.inl (some (am_I (M (24, 0, s0) 3))), M, (am_Z w)) else if x2 = (nI 8) then some (.inl (some (am_I (M (24, 0, s0) 4))), M, (am_Z w)) else some (.inr 2, M, am_Z (am_bw w)) := by
  refine Eq.trans (rl_astoren (j := 3) (ls' := [some (am_P (3, 0, 0)), some (am_I x1), some (am_I x2), some (am_P (24, 0, s0))]) (by decide +kernel) rfl rfl) ?_
  refine Eq.trans (rl_iloadn (j := 2) (by decide +kernel) rfl) ?_
  refine Eq.trans (rl_ts (d := 94) (lo := 0) (hi := 8) (os := #[49, 54, 59, 64, 69, 74, 79, 84, 89]) 101 [56, 61, 66, 71, 76, 81, 86, 91, 96] (by decide +kernel) (by decide +kernel)) ?_
  refine Eq.trans (rl_sw (nI 0) (by decide)) ?_
  refine am_ite (fun _ => ?_) (fun _ => ?_)
  · skip
    refine Eq.trans (rl_aloadn (j := 3) (by decide +kernel) rfl) ?_
    refine Eq.trans (rl_get (ix := 191) (ci := 4) (j := 0) (by decide +kernel) (by decide +kernel) (by decide +kernel) (ck24 am_n0 hs0)) ?_
    exact rl_iret (by decide +kernel) rfl
  refine Eq.trans (rl_sw (nI 1) (by decide)) ?_
  refine am_ite (fun _ => ?_) (fun _ => ?_)
  · skip
    refine Eq.trans (rl_aloadn (j := 3) (by decide +kernel) rfl) ?_
    refine Eq.trans (rl_get (ix := 196) (ci := 4) (j := 1) (by decide +kernel) (by decide +kernel) (by decide +kernel) (ck24 am_n0 hs0)) ?_
    exact rl_iret (by decide +kernel) rfl
  refine Eq.trans (rl_sw (nI 2) (by decide)) ?_
  refine am_ite (fun _ => ?_) (fun _ => ?_)
  · skip
    refine Eq.trans (rl_aloadn (j := 3) (by decide +kernel) rfl) ?_
    refine Eq.trans (rl_get (ix := 199) (ci := 4) (j := 2) (by decide +kernel) (by decide +kernel) (by decide +kernel) (ck24 am_n0 hs0)) ?_
    exact rl_iret (by decide +kernel) rfl
  refine Eq.trans (rl_sw (nI 3) (by decide)) ?_
  refine am_ite (fun _ => ?_) (fun _ => ?_)
  · skip
    refine Eq.trans (rl_aloadn (j := 3) (by decide +kernel) rfl) ?_
    refine Eq.trans (rl_get (ix := 202) (ci := 4) (j := 8) (by decide +kernel) (by decide +kernel) (by decide +kernel) (ck24 am_n0 hs0)) ?_
    exact rl_iret (by decide +kernel) rfl
  refine Eq.trans (rl_sw (nI 4) (by decide)) ?_
  refine am_ite (fun _ => ?_) (fun _ => ?_)
  · skip
    refine Eq.trans (rl_aloadn (j := 3) (by decide +kernel) rfl) ?_
    refine Eq.trans (rl_inv (ix := 205) (n := 0) (o := 4) 32 [] [] (by decide +kernel) (by decide +kernel) (by decide +kernel) (by decide +kernel) ⟨rfl, rfl⟩ rfl rfl (ck24 am_n0 hs0)) ?_
    rfl
  refine Eq.trans (rl_sw (nI 5) (by decide)) ?_
  refine am_ite (fun _ => ?_) (fun _ => ?_)
  · skip
    refine Eq.trans (rl_aloadn (j := 3) (by decide +kernel) rfl) ?_
    refine Eq.trans (rl_get (ix := 208) (ci := 4) (j := 5) (by decide +kernel) (by decide +kernel) (by decide +kernel) (ck24 am_n0 hs0)) ?_
    exact rl_iret (by decide +kernel) rfl
  refine Eq.trans (rl_sw (nI 6) (by decide)) ?_
  refine am_ite (fun _ => ?_) (fun _ => ?_)
  · skip
    refine Eq.trans (rl_aloadn (j := 3) (by decide +kernel) rfl) ?_
    refine Eq.trans (rl_get (ix := 211) (ci := 4) (j := 6) (by decide +kernel) (by decide +kernel) (by decide +kernel) (ck24 am_n0 hs0)) ?_
    exact rl_iret (by decide +kernel) rfl
  refine Eq.trans (rl_sw (nI 7) (by decide)) ?_
  refine am_ite (fun _ => ?_) (fun _ => ?_)
  · skip
    refine Eq.trans (rl_aloadn (j := 3) (by decide +kernel) rfl) ?_
    refine Eq.trans (rl_get (ix := 212) (ci := 4) (j := 3) (by decide +kernel) (by decide +kernel) (by decide +kernel) (ck24 am_n0 hs0)) ?_
    exact rl_iret (by decide +kernel) rfl
  refine Eq.trans (rl_sw (nI 8) (by decide)) ?_
  refine am_ite (fun _ => ?_) (fun _ => ?_)
  · skip
    refine Eq.trans (rl_aloadn (j := 3) (by decide +kernel) rfl) ?_
    refine Eq.trans (rl_get (ix := 215) (ci := 4) (j := 4) (by decide +kernel) (by decide +kernel) (by decide +kernel) (ck24 am_n0 hs0)) ?_
    exact rl_iret (by decide +kernel) rfl
  show am_rn call 85 101 _ _ _ _ = _
  exact rl_throw (ix := 121) (E := 2) (ic := 123) (by decide +kernel) (by decide +kernel) (by decide +kernel) (by decide +kernel) (by decide +kernel) rfl rfl
theorem b85_80 {x1 x2 s0 : Int32} {x3 : Nat} {M : am_M} {w : am_W4} (h3 : x3 < 16) : am_rn call 85 80 [some (am_P (3, 0, 0)), some (am_I x1), some (am_I x2), some (am_P (24, 0, x3))] [am_I s0] M (am_Z w) = some (.inl (some (am_I s0)), M, (am_Z w)) := by
  exact rl_iret (by decide +kernel) rfl
theorem e85 {d : Nat} {x1 x2 : Int32} {M : am_M} {w : am_W4}  : am_ev (d + 1) 85 [am_P (3, 0, 0), am_I x1, am_I x2] M (am_Z w) = am_cb ((am_ev d) 93 [am_P (3, 0, 0), am_I x1] M (am_Z w)) fun v M' X' => am_rn (am_ev d) 85 5 [some (am_P (3, 0, 0)), some (am_I x1), some (am_I x2), none] (v.toList ++ []) M' X' := (am_ev_eq d 85 _ M (am_Z w)).trans (b85_0)
theorem b86_0 {x1 x2 : Int32} {M : am_M} {w : am_W4}  : am_rn call 86 0 [some (am_P (3, 0, 0)), some (am_I x1), some (am_I x2), none] [] M (am_Z w) = am_cb (call 93 [am_P (3, 0, 0), am_I x1] M (am_Z w)) fun v M' X' => am_rn call 86 5 [some (am_P (3, 0, 0)), some (am_I x1), some (am_I x2), none] (v.toList ++ []) M' X' := by
  refine Eq.trans (rl_aloadn (j := 0) (by decide +kernel) rfl) ?_
  refine Eq.trans (rl_iloadn (j := 1) (by decide +kernel) rfl) ?_
  refine Eq.trans (rl_inv (ix := 187) (n := 1) (o := 8) 93 [am_I x1] [] (by decide +kernel) (by decide +kernel) (by decide +kernel) (by decide +kernel) ⟨rfl, rfl⟩ rfl rfl ck3) ?_
  rfl
theorem b86_5 {x1 x2 : Int32} {s0 : Nat} {M : am_M} {w : am_W4} (hs0 : s0 < 16) : am_rn call 86 5 [some (am_P (3, 0, 0)), some (am_I x1), some (am_I x2), none] [am_P (24, 0, s0)] M (am_Z w) = if x2 < 0 then some (.inr 1, M, am_Z (am_bw w)) else if x2 < (M (24, 0, s0) 8) then if am_in x2 8 then some (.inl (some (am_I (M (25, 0, s0) x2.toNatClampNeg))), M, (am_Z w)) else none else some (.inr 1, M, am_Z (am_bw w)) := by
  refine Eq.trans (rl_astoren (j := 3) (ls' := [some (am_P (3, 0, 0)), some (am_I x1), some (am_I x2), some (am_P (24, 0, s0))]) (by decide +kernel) rfl rfl) ?_
  refine Eq.trans (rl_iloadn (j := 2) (by decide +kernel) rfl) ?_
  refine Eq.trans (rl_iflt (o := 11) 18 (by decide +kernel) (by decide)) ?_
  refine am_ite (fun h_1 => ?_) (fun h_1 => ?_)
  · skip
    exact rl_throw (ix := 174) (E := 1) (ic := 176) (by decide +kernel) (by decide +kernel) (by decide +kernel) (by decide +kernel) (by decide +kernel) rfl rfl
  · skip
    refine Eq.trans (rl_iloadn (j := 2) (by decide +kernel) rfl) ?_
    refine Eq.trans (rl_aloadn (j := 3) (by decide +kernel) rfl) ?_
    refine Eq.trans (rl_get (ix := 202) (ci := 4) (j := 8) (by decide +kernel) (by decide +kernel) (by decide +kernel) (ck24 am_n0 hs0)) ?_
    refine Eq.trans (rl_iclt (o := 11) 26 (by decide +kernel) (by decide)) ?_
    refine am_ite (fun h_2 => ?_) (fun h_2 => ?_)
    · skip
      refine Eq.trans (rl_aloadn (j := 3) (by decide +kernel) rfl) ?_
      refine Eq.trans (rl_getP (ix := 218) (ci := 4) (j := 9) (by decide +kernel) (by decide +kernel) (by decide +kernel) (ck24 am_n0 hs0) rfl) ?_
      refine Eq.trans (rl_iloadn (j := 2) (by decide +kernel) rfl) ?_
      refine Eq.trans (rl_iald (by decide +kernel) (ka25 am_n0 hs0)) ?_
      refine am_ite (fun h_3 => ?_) (fun _ => rfl)
      exact rl_iret (by decide +kernel) rfl
    · skip
      exact rl_throw (ix := 174) (E := 1) (ic := 176) (by decide +kernel) (by decide +kernel) (by decide +kernel) (by decide +kernel) (by decide +kernel) rfl rfl
theorem e86 {d : Nat} {x1 x2 : Int32} {M : am_M} {w : am_W4}  : am_ev (d + 1) 86 [am_P (3, 0, 0), am_I x1, am_I x2] M (am_Z w) = am_cb ((am_ev d) 93 [am_P (3, 0, 0), am_I x1] M (am_Z w)) fun v M' X' => am_rn (am_ev d) 86 5 [some (am_P (3, 0, 0)), some (am_I x1), some (am_I x2), none] (v.toList ++ []) M' X' := (am_ev_eq d 86 _ M (am_Z w)).trans (b86_0)
theorem b87_0 {x1 : Int32} {M : am_M} {w : am_W4}  : am_rn call 87 0 [some (am_P (3, 0, 0)), some (am_I x1), none, none, none] [] M (am_Z w) = am_cb (call 93 [am_P (3, 0, 0), am_I x1] M (am_Z w)) fun v M' X' => am_rn call 87 5 [some (am_P (3, 0, 0)), some (am_I x1), none, none, none] (v.toList ++ []) M' X' := by
  refine Eq.trans (rl_aloadn (j := 0) (by decide +kernel) rfl) ?_
  refine Eq.trans (rl_iloadn (j := 1) (by decide +kernel) rfl) ?_
  refine Eq.trans (rl_inv (ix := 187) (n := 1) (o := 8) 93 [am_I x1] [] (by decide +kernel) (by decide +kernel) (by decide +kernel) (by decide +kernel) ⟨rfl, rfl⟩ rfl rfl ck3) ?_
  rfl
theorem b87_5 {x1 : Int32} {s0 : Nat} {M : am_M} {w : am_W4} (hs0 : s0 < 16) : am_rn call 87 5 [some (am_P (3, 0, 0)), some (am_I x1), none, none, none] [am_P (24, 0, s0)] M (am_Z w) = am_rn call 87 11 [some (am_P (3, 0, 0)), some (am_I x1), some (am_P (24, 0, s0)), some (am_I (nI 0)), some (am_I (nI 0))] [] M (am_Z w) := by
  refine Eq.trans (rl_astoren (j := 2) (ls' := [some (am_P (3, 0, 0)), some (am_I x1), some (am_P (24, 0, s0)), none, none]) (by decide +kernel) rfl rfl) ?_
  refine Eq.trans (rl_iconst (c := 0) (k := (nI 0)) (by decide +kernel) (by decide)) ?_
  refine Eq.trans (rl_istoren (j := 3) (ls' := [some (am_P (3, 0, 0)), some (am_I x1), some (am_P (24, 0, s0)), some (am_I (nI 0)), none]) (by decide +kernel) rfl rfl) ?_
  refine Eq.trans (rl_iconst (c := 0) (k := (nI 0)) (by decide +kernel) (by decide)) ?_
  refine Eq.trans (rl_istore (j := 4) (ls' := [some (am_P (3, 0, 0)), some (am_I x1), some (am_P (24, 0, s0)), some (am_I (nI 0)), some (am_I (nI 0))]) (by decide +kernel) rfl rfl) ?_
  rfl
theorem b87_11 {x1 x3 x4 : Int32} {x2 : Nat} {M : am_M} {w : am_W4} (h2 : x2 < 16) : am_rn call 87 11 [some (am_P (3, 0, 0)), some (am_I x1), some (am_P (24, 0, x2)), some (am_I x3), some (am_I x4)] [] M (am_Z w) = if x4 < (M (24, 0, x2) 8) then if am_in x4 8 then if (M (25, 0, x2) x4.toNatClampNeg) = 0 then am_rn call 87 42 [some (am_P (3, 0, 0)), some (am_I x1), some (am_P (24, 0, x2)), some (am_I x3), some (am_I x4)] [] M (am_Z w) else if am_in x4 8 then am_rn call 87 42 [some (am_P (3, 0, 0)), some (am_I x1), some (am_P (24, 0, x2)), some (am_I (x3 ||| ((nI 1) <<< ((M (25, 0, x2) x4.toNatClampNeg) &&& 31)))), some (am_I x4)] [] M (am_Z w) else none else none else some (.inl (some (am_I x3)), M, (am_Z w)) := by
  refine Eq.trans (rl_iload (j := 4) (by decide +kernel) rfl) ?_
  refine Eq.trans (rl_aloadn (j := 2) (by decide +kernel) rfl) ?_
  refine Eq.trans (rl_get (ix := 202) (ci := 4) (j := 8) (by decide +kernel) (by decide +kernel) (by decide +kernel) (ck24 am_n0 h2)) ?_
  refine Eq.trans (rl_icge (o := 31) 48 (by decide +kernel) (by decide)) ?_
  refine am_ite (fun h_1 => ?_) (fun h_1 => ?_)
  · skip
    refine Eq.trans (rl_aloadn (j := 2) (by decide +kernel) rfl) ?_
    refine Eq.trans (rl_getP (ix := 218) (ci := 4) (j := 9) (by decide +kernel) (by decide +kernel) (by decide +kernel) (ck24 am_n0 h2) rfl) ?_
    refine Eq.trans (rl_iload (j := 4) (by decide +kernel) rfl) ?_
    refine Eq.trans (rl_iald (by decide +kernel) (ka25 am_n0 h2)) ?_
    refine am_ite (fun h_2 => ?_) (fun _ => rfl)
    refine Eq.trans (rl_ifeq (o := 15) 42 (by decide +kernel) (by decide)) ?_
    refine am_ite (fun h_3 => ?_) (fun h_3 => ?_)
    · skip
      rfl
    · skip
      refine Eq.trans (rl_iloadn (j := 3) (by decide +kernel) rfl) ?_
      refine Eq.trans (rl_iconst (c := 1) (k := (nI 1)) (by decide +kernel) (by decide)) ?_
      refine Eq.trans (rl_aloadn (j := 2) (by decide +kernel) rfl) ?_
      refine Eq.trans (rl_getP (ix := 218) (ci := 4) (j := 9) (by decide +kernel) (by decide +kernel) (by decide +kernel) (ck24 am_n0 h2) rfl) ?_
      refine Eq.trans (rl_iload (j := 4) (by decide +kernel) rfl) ?_
      refine Eq.trans (rl_iald (by decide +kernel) (ka25 am_n0 h2)) ?_
      refine am_ite (fun h_4 => ?_) (fun _ => rfl)
      refine Eq.trans (rl_ishl (by decide +kernel)) ?_
      refine Eq.trans (rl_ior (by decide +kernel)) ?_
      refine Eq.trans (rl_istoren (j := 3) (ls' := [some (am_P (3, 0, 0)), some (am_I x1), some (am_P (24, 0, x2)), some (am_I (x3 ||| ((nI 1) <<< ((M (25, 0, x2) x4.toNatClampNeg) &&& 31)))), some (am_I x4)]) (by decide +kernel) rfl rfl) ?_
      rfl
  · skip
    refine Eq.trans (rl_iloadn (j := 3) (by decide +kernel) rfl) ?_
    exact rl_iret (by decide +kernel) rfl
theorem b87_42 {x1 x3 x4 : Int32} {x2 : Nat} {M : am_M} {w : am_W4} (h2 : x2 < 16) : am_rn call 87 42 [some (am_P (3, 0, 0)), some (am_I x1), some (am_P (24, 0, x2)), some (am_I x3), some (am_I x4)] [] M (am_Z w) = am_rn call 87 11 [some (am_P (3, 0, 0)), some (am_I x1), some (am_P (24, 0, x2)), some (am_I x3), some (am_I (x4 + (nI 1)))] [] M (am_Z w) := by
  refine Eq.trans (rl_iinc (j := 4) (c := 1) (k := (nI 1)) (ls' := [some (am_P (3, 0, 0)), some (am_I x1), some (am_P (24, 0, x2)), some (am_I x3), some (am_I (x4 + (nI 1)))]) (by decide +kernel) (by decide) rfl rfl) ?_
  refine Eq.trans (rl_goto (o := (-34)) 11 (by decide +kernel) (by decide)) ?_
  rfl
theorem e87 {d : Nat} {x1 : Int32} {M : am_M} {w : am_W4}  : am_ev (d + 1) 87 [am_P (3, 0, 0), am_I x1] M (am_Z w) = am_cb ((am_ev d) 93 [am_P (3, 0, 0), am_I x1] M (am_Z w)) fun v M' X' => am_rn (am_ev d) 87 5 [some (am_P (3, 0, 0)), some (am_I x1), none, none, none] (v.toList ++ []) M' X' := (am_ev_eq d 87 _ M (am_Z w)).trans (b87_0)
theorem b88_0 {x1 x2 : Int32} {M : am_M} {w : am_W4}  : am_rn call 88 0 [some (am_P (3, 0, 0)), some (am_I x1), some (am_I x2), none] [] M (am_Z w) = am_cb (call 82 [am_P (3, 0, 0), am_I x1] M (am_Z w)) fun v M' X' => am_rn call 88 5 [some (am_P (3, 0, 0)), some (am_I x1), some (am_I x2), none] (v.toList ++ []) M' X' := by
  refine Eq.trans (rl_aloadn (j := 0) (by decide +kernel) rfl) ?_
  refine Eq.trans (rl_iloadn (j := 1) (by decide +kernel) rfl) ?_
  refine Eq.trans (rl_inv (ix := 87) (n := 1) (o := 8) 82 [am_I x1] [] (by decide +kernel) (by decide +kernel) (by decide +kernel) (by decide +kernel) ⟨rfl, rfl⟩ rfl rfl ck3) ?_
  rfl
theorem b88_5 {x1 x2 : Int32} {s0 : Nat} {M : am_M} {w : am_W4} (hs0 : s0 < 6) : am_rn call 88 5 [some (am_P (3, 0, 0)), some (am_I x1), some (am_I x2), none] [am_P (21, 0, s0)] M (am_Z w) = if x2 < 0 then some (.inr 3, M, am_Z (am_bw w)) else if x2 < (M (21, 0, s0) 6) then if am_in x2 16 then some (.inl (some (am_I (M (22, 0, s0) x2.toNatClampNeg))), M, (am_Z w)) else none else some (.inr 3, M, am_Z (am_bw w)) := by
  refine Eq.trans (rl_astoren (j := 3) (ls' := [some (am_P (3, 0, 0)), some (am_I x1), some (am_I x2), some (am_P (21, 0, s0))]) (by decide +kernel) rfl rfl) ?_
  refine Eq.trans (rl_iloadn (j := 2) (by decide +kernel) rfl) ?_
  refine Eq.trans (rl_iflt (o := 11) 18 (by decide +kernel) (by decide)) ?_
  refine am_ite (fun h_1 => ?_) (fun h_1 => ?_)
  · skip
    exact rl_throw (ix := 184) (E := 3) (ic := 186) (by decide +kernel) (by decide +kernel) (by decide +kernel) (by decide +kernel) (by decide +kernel) rfl rfl
  · skip
    refine Eq.trans (rl_iloadn (j := 2) (by decide +kernel) rfl) ?_
    refine Eq.trans (rl_aloadn (j := 3) (by decide +kernel) rfl) ?_
    refine Eq.trans (rl_get (ix := 105) (ci := 2) (j := 6) (by decide +kernel) (by decide +kernel) (by decide +kernel) (ck21 am_n0 hs0)) ?_
    refine Eq.trans (rl_iclt (o := 11) 26 (by decide +kernel) (by decide)) ?_
    refine am_ite (fun h_2 => ?_) (fun h_2 => ?_)
    · skip
      refine Eq.trans (rl_aloadn (j := 3) (by decide +kernel) rfl) ?_
      refine Eq.trans (rl_getP (ix := 221) (ci := 2) (j := 7) (by decide +kernel) (by decide +kernel) (by decide +kernel) (ck21 am_n0 hs0) rfl) ?_
      refine Eq.trans (rl_iloadn (j := 2) (by decide +kernel) rfl) ?_
      refine Eq.trans (rl_iald (by decide +kernel) (ka22 am_n0 hs0)) ?_
      refine am_ite (fun h_3 => ?_) (fun _ => rfl)
      exact rl_iret (by decide +kernel) rfl
    · skip
      exact rl_throw (ix := 184) (E := 3) (ic := 186) (by decide +kernel) (by decide +kernel) (by decide +kernel) (by decide +kernel) (by decide +kernel) rfl rfl
theorem e88 {d : Nat} {x1 x2 : Int32} {M : am_M} {w : am_W4}  : am_ev (d + 1) 88 [am_P (3, 0, 0), am_I x1, am_I x2] M (am_Z w) = am_cb ((am_ev d) 82 [am_P (3, 0, 0), am_I x1] M (am_Z w)) fun v M' X' => am_rn (am_ev d) 88 5 [some (am_P (3, 0, 0)), some (am_I x1), some (am_I x2), none] (v.toList ++ []) M' X' := (am_ev_eq d 88 _ M (am_Z w)).trans (b88_0)
theorem b89_0 {x1 : Int32} {M : am_M} {w : am_W4}  : am_rn call 89 0 [some (am_P (3, 0, 0)), some (am_I x1)] [] M (am_Z w) = if x1 < 0 then some (.inr 3, M, am_Z (am_bw w)) else if x1 < (M (13, 0, 0) 7) then if am_in x1 16 then some (.inl (some (am_I (M (18, 0, 0) x1.toNatClampNeg))), M, (am_Z w)) else none else some (.inr 3, M, am_Z (am_bw w)) := by
  refine Eq.trans (rl_iloadn (j := 1) (by decide +kernel) rfl) ?_
  refine Eq.trans (rl_iflt (o := 14) 15 (by decide +kernel) (by decide)) ?_
  refine am_ite (fun h_1 => ?_) (fun h_1 => ?_)
  · skip
    exact rl_throw (ix := 184) (E := 3) (ic := 186) (by decide +kernel) (by decide +kernel) (by decide +kernel) (by decide +kernel) (by decide +kernel) rfl rfl
  · skip
    refine Eq.trans (rl_iloadn (j := 1) (by decide +kernel) rfl) ?_
    refine Eq.trans (rl_aloadn (j := 0) (by decide +kernel) rfl) ?_
    refine Eq.trans (rl_getP (ix := 12) (ci := 8) (j := 0) (by decide +kernel) (by decide +kernel) (by decide +kernel) ck3 rfl) ?_
    refine Eq.trans (rl_get (ix := 224) (ci := 5) (j := 7) (by decide +kernel) (by decide +kernel) (by decide +kernel) (ck13 am_n0)) ?_
    refine Eq.trans (rl_iclt (o := 11) 23 (by decide +kernel) (by decide)) ?_
    refine am_ite (fun h_2 => ?_) (fun h_2 => ?_)
    · skip
      refine Eq.trans (rl_aloadn (j := 0) (by decide +kernel) rfl) ?_
      refine Eq.trans (rl_getP (ix := 12) (ci := 8) (j := 0) (by decide +kernel) (by decide +kernel) (by decide +kernel) ck3 rfl) ?_
      refine Eq.trans (rl_getP (ix := 227) (ci := 5) (j := 8) (by decide +kernel) (by decide +kernel) (by decide +kernel) (ck13 am_n0) rfl) ?_
      refine Eq.trans (rl_iloadn (j := 1) (by decide +kernel) rfl) ?_
      refine Eq.trans (rl_iald (by decide +kernel) (ka18 am_n0)) ?_
      refine am_ite (fun h_3 => ?_) (fun _ => rfl)
      exact rl_iret (by decide +kernel) rfl
    · skip
      exact rl_throw (ix := 184) (E := 3) (ic := 186) (by decide +kernel) (by decide +kernel) (by decide +kernel) (by decide +kernel) (by decide +kernel) rfl rfl
theorem e89 {d : Nat} {x1 : Int32} {M : am_M} {w : am_W4}  : am_ev (d + 1) 89 [am_P (3, 0, 0), am_I x1] M (am_Z w) = if x1 < 0 then some (.inr 3, M, am_Z (am_bw w)) else if x1 < (M (13, 0, 0) 7) then if am_in x1 16 then some (.inl (some (am_I (M (18, 0, 0) x1.toNatClampNeg))), M, (am_Z w)) else none else some (.inr 3, M, am_Z (am_bw w)) := (am_ev_eq d 89 _ M (am_Z w)).trans (b89_0)
theorem b90_0 {x1 : Int32} {M : am_M} {w : am_W4}  : am_rn call 90 0 [some (am_P (3, 0, 0)), some (am_I x1), none] [] M (am_Z w) = am_cb (call 93 [am_P (3, 0, 0), am_I x1] M (am_Z w)) fun v M' X' => am_rn call 90 6 [some (am_P (3, 0, 0)), some (am_I x1), none] (v.toList ++ [am_P (3, 0, 0)]) M' X' := by
  refine Eq.trans (rl_aloadn (j := 0) (by decide +kernel) rfl) ?_
  refine Eq.trans (rl_aloadn (j := 0) (by decide +kernel) rfl) ?_
  refine Eq.trans (rl_iloadn (j := 1) (by decide +kernel) rfl) ?_
  refine Eq.trans (rl_inv (ix := 187) (n := 1) (o := 8) 93 [am_I x1] [am_P (3, 0, 0)] (by decide +kernel) (by decide +kernel) (by decide +kernel) (by decide +kernel) ⟨rfl, rfl⟩ rfl rfl ck3) ?_
  rfl
theorem b90_6 {x1 : Int32} {s0 : Nat} {M : am_M} {w : am_W4} (hs0 : s0 < 16) : am_rn call 90 6 [some (am_P (3, 0, 0)), some (am_I x1), none] [am_P (24, 0, s0), am_P (3, 0, 0)] M (am_Z w) = am_cb (call 92 [am_P (3, 0, 0), am_P (24, 0, s0), am_I x1] M (am_Z w)) fun v M' X' => am_rn call 90 10 [some (am_P (3, 0, 0)), some (am_I x1), none] (v.toList ++ []) M' X' := by
  refine Eq.trans (rl_iloadn (j := 1) (by decide +kernel) rfl) ?_
  refine Eq.trans (rl_inv (ix := 230) (n := 2) (o := 8) 92 [am_P (24, 0, s0), am_I x1] [] (by decide +kernel) (by decide +kernel) (by decide +kernel) (by decide +kernel) ⟨rfl, rfl⟩ rfl rfl ck3) ?_
  rfl
theorem b90_10 {x1 s0 : Int32} {M : am_M} {w : am_W4}  : am_rn call 90 10 [some (am_P (3, 0, 0)), some (am_I x1), none] [am_I s0] M (am_Z w) = if s0 = (-1 : Int32) then some (.inr 3, M, am_Z (am_bw w)) else some (.inl (some (am_I s0)), M, (am_Z w)) := by
  refine Eq.trans (rl_istoren (j := 2) (ls' := [some (am_P (3, 0, 0)), some (am_I x1), some (am_I s0)]) (by decide +kernel) rfl rfl) ?_
  refine Eq.trans (rl_iloadn (j := 2) (by decide +kernel) rfl) ?_
  refine Eq.trans (rl_iconst (c := -1) (k := (-1 : Int32)) (by decide +kernel) (by decide)) ?_
  refine Eq.trans (rl_icne (o := 11) 24 (by decide +kernel) (by decide)) ?_
  refine am_ite (fun h_1 => ?_) (fun h_1 => ?_)
  · skip
    exact rl_throw (ix := 184) (E := 3) (ic := 186) (by decide +kernel) (by decide +kernel) (by decide +kernel) (by decide +kernel) (by decide +kernel) rfl rfl
  · skip
    refine Eq.trans (rl_iloadn (j := 2) (by decide +kernel) rfl) ?_
    exact rl_iret (by decide +kernel) rfl
theorem e90 {d : Nat} {x1 : Int32} {M : am_M} {w : am_W4}  : am_ev (d + 1) 90 [am_P (3, 0, 0), am_I x1] M (am_Z w) = am_cb ((am_ev d) 93 [am_P (3, 0, 0), am_I x1] M (am_Z w)) fun v M' X' => am_rn (am_ev d) 90 6 [some (am_P (3, 0, 0)), some (am_I x1), none] (v.toList ++ [am_P (3, 0, 0)]) M' X' := (am_ev_eq d 90 _ M (am_Z w)).trans (b90_0)
theorem b91_0 {x1 : Int32} {M : am_M} {w : am_W4}  : am_rn call 91 0 [some (am_P (3, 0, 0)), some (am_I x1)] [] M (am_Z w) = am_cb (call 93 [am_P (3, 0, 0), am_I x1] M (am_Z w)) fun v M' X' => am_rn call 91 6 [some (am_P (3, 0, 0)), some (am_I x1)] (v.toList ++ [am_P (3, 0, 0)]) M' X' := by
  refine Eq.trans (rl_aloadn (j := 0) (by decide +kernel) rfl) ?_
  refine Eq.trans (rl_aloadn (j := 0) (by decide +kernel) rfl) ?_
  refine Eq.trans (rl_iloadn (j := 1) (by decide +kernel) rfl) ?_
  refine Eq.trans (rl_inv (ix := 187) (n := 1) (o := 8) 93 [am_I x1] [am_P (3, 0, 0)] (by decide +kernel) (by decide +kernel) (by decide +kernel) (by decide +kernel) ⟨rfl, rfl⟩ rfl rfl ck3) ?_
  rfl
theorem b91_6 {x1 : Int32} {s0 : Nat} {M : am_M} {w : am_W4} (hs0 : s0 < 16) : am_rn call 91 6 [some (am_P (3, 0, 0)), some (am_I x1)] [am_P (24, 0, s0), am_P (3, 0, 0)] M (am_Z w) = am_cb (call 92 [am_P (3, 0, 0), am_P (24, 0, s0), am_I x1] M (am_Z w)) fun v M' X' => am_rn call 91 10 [some (am_P (3, 0, 0)), some (am_I x1)] (v.toList ++ []) M' X' := by
  refine Eq.trans (rl_iloadn (j := 1) (by decide +kernel) rfl) ?_
  refine Eq.trans (rl_inv (ix := 230) (n := 2) (o := 8) 92 [am_P (24, 0, s0), am_I x1] [] (by decide +kernel) (by decide +kernel) (by decide +kernel) (by decide +kernel) ⟨rfl, rfl⟩ rfl rfl ck3) ?_
  rfl
theorem b91_10 {x1 s0 : Int32} {M : am_M} {w : am_W4}  : am_rn call 91 10 [some (am_P (3, 0, 0)), some (am_I x1)] [am_I s0] M (am_Z w) = if s0 = (-1 : Int32) then some (.inr 3, M, am_Z (am_bw w)) else if am_in x1 16 then am_cb (call 32 [am_P (24, 1, x1.toNatClampNeg)] M (am_Z w)) fun v M' X' => am_rn call 91 34 [some (am_P (3, 0, 0)), some (am_I x1)] (v.toList ++ []) M' X' else none := by
  refine Eq.trans (rl_iconst (c := -1) (k := (-1 : Int32)) (by decide +kernel) (by decide)) ?_
  refine Eq.trans (rl_icne (o := 11) 22 (by decide +kernel) (by decide)) ?_
  refine am_ite (fun h_1 => ?_) (fun h_1 => ?_)
  · skip
    exact rl_throw (ix := 184) (E := 3) (ic := 186) (by decide +kernel) (by decide +kernel) (by decide +kernel) (by decide +kernel) (by decide +kernel) rfl rfl
  · skip
    refine Eq.trans (rl_aloadn (j := 0) (by decide +kernel) rfl) ?_
    refine Eq.trans (rl_getP (ix := 16) (ci := 8) (j := 1) (by decide +kernel) (by decide +kernel) (by decide +kernel) ck3 rfl) ?_
    refine Eq.trans (rl_getP (ix := 234) (ci := 5) (j := 6) (by decide +kernel) (by decide +kernel) (by decide +kernel) (ck13 am_n1) rfl) ?_
    refine Eq.trans (rl_iloadn (j := 1) (by decide +kernel) rfl) ?_
    refine Eq.trans (rl_aald (v := (24, 1, x1.toNatClampNeg)) (by decide +kernel) (ka17 am_n1) (fun h => if_pos (am_in_lt' h))) ?_
    refine am_ite (fun h_2 => ?_) (fun _ => rfl)
    refine Eq.trans (rl_inv (ix := 205) (n := 0) (o := 4) 32 [] [] (by decide +kernel) (by decide +kernel) (by decide +kernel) (by decide +kernel) ⟨rfl, rfl⟩ rfl rfl (ck24 am_n1 (am_in_lt' h_2))) ?_
    rfl
theorem b91_34 {x1 s0 : Int32} {M : am_M} {w : am_W4}  : am_rn call 91 34 [some (am_P (3, 0, 0)), some (am_I x1)] [am_I s0] M (am_Z w) = some (.inl (some (am_I s0)), M, (am_Z w)) := by
  exact rl_iret (by decide +kernel) rfl
theorem e91 {d : Nat} {x1 : Int32} {M : am_M} {w : am_W4}  : am_ev (d + 1) 91 [am_P (3, 0, 0), am_I x1] M (am_Z w) = am_cb ((am_ev d) 93 [am_P (3, 0, 0), am_I x1] M (am_Z w)) fun v M' X' => am_rn (am_ev d) 91 6 [some (am_P (3, 0, 0)), some (am_I x1)] (v.toList ++ [am_P (3, 0, 0)]) M' X' := (am_ev_eq d 91 _ M (am_Z w)).trans (b91_0)
theorem b92_0 {k1 : Nat} {x2 : Int32} {M : am_M} {w : am_W4} (hk1 : k1 < 16) : am_rn call 92 0 [some (am_P (3, 0, 0)), some (am_P (24, 0, k1)), some (am_I x2), none] [] M (am_Z w) = if (M (24, 0, k1) 3) = 0 then am_cb (call 34 [am_P (13, 1, 0), am_P (13, 0, 0)] M (am_Z w)) fun v M' X' => am_rn call 92 20 [some (am_P (3, 0, 0)), some (am_P (24, 0, k1)), some (am_I x2), none] (v.toList ++ []) M' X' else some (.inl (some (am_I (-1 : Int32))), M, (am_Z w)) := by
  refine Eq.trans (rl_aloadn (j := 1) (by decide +kernel) rfl) ?_
  refine Eq.trans (rl_get (ix := 212) (ci := 4) (j := 3) (by decide +kernel) (by decide +kernel) (by decide +kernel) (ck24 am_n0 hk1)) ?_
  refine Eq.trans (rl_ifeq (o := 5) 9 (by decide +kernel) (by decide)) ?_
  refine am_ite (fun h_1 => ?_) (fun h_1 => ?_)
  · skip
    refine Eq.trans (rl_aloadn (j := 0) (by decide +kernel) rfl) ?_
    refine Eq.trans (rl_getP (ix := 16) (ci := 8) (j := 1) (by decide +kernel) (by decide +kernel) (by decide +kernel) ck3 rfl) ?_
    refine Eq.trans (rl_aloadn (j := 0) (by decide +kernel) rfl) ?_
    refine Eq.trans (rl_getP (ix := 12) (ci := 8) (j := 0) (by decide +kernel) (by decide +kernel) (by decide +kernel) ck3 rfl) ?_
    refine Eq.trans (rl_inv (ix := 70) (n := 1) (o := 5) 34 [am_P (13, 0, 0)] [] (by decide +kernel) (by decide +kernel) (by decide +kernel) (by decide +kernel) ⟨rfl, rfl⟩ rfl rfl (ck13 am_n1)) ?_
    rfl
  · skip
    refine Eq.trans (rl_iconst (c := -1) (k := (-1 : Int32)) (by decide +kernel) (by decide)) ?_
    exact rl_iret (by decide +kernel) rfl
theorem b92_20 {k1 : Nat} {x2 : Int32} {M : am_M} {w : am_W4} (hk1 : k1 < 16) : am_rn call 92 20 [some (am_P (3, 0, 0)), some (am_P (24, 0, k1)), some (am_I x2), none] [] M (am_Z w) = am_rn call 92 22 [some (am_P (3, 0, 0)), some (am_P (24, 0, k1)), some (am_I x2), some (am_I (nI 1))] [] M (am_Z w) := by
  refine Eq.trans (rl_iconst (c := 1) (k := (nI 1)) (by decide +kernel) (by decide)) ?_
  refine Eq.trans (rl_istoren (j := 3) (ls' := [some (am_P (3, 0, 0)), some (am_P (24, 0, k1)), some (am_I x2), some (am_I (nI 1))]) (by decide +kernel) rfl rfl) ?_
  rfl
theorem b92_22 {k1 : Nat} {x2 x3 : Int32} {M : am_M} {w : am_W4} (hk1 : k1 < 16) : am_rn call 92 22 [some (am_P (3, 0, 0)), some (am_P (24, 0, k1)), some (am_I x2), some (am_I x3)] [] M (am_Z w) = if (nI 400) < x3 then some (.inl (some (am_I (-1 : Int32))), M, (am_Z w)) else am_cb (call 49 [am_P (13, 1, 0)] M (am_Z w)) fun v M' X' => am_rn call 92 36 [some (am_P (3, 0, 0)), some (am_P (24, 0, k1)), some (am_I x2), some (am_I x3)] (v.toList ++ []) M' X' := by
  refine Eq.trans (rl_iloadn (j := 3) (by decide +kernel) rfl) ?_
  refine Eq.trans (rl_sipush (c := 400) (k := (nI 400)) (by decide +kernel) (by decide)) ?_
  refine Eq.trans (rl_icgt (o := 34) 60 (by decide +kernel) (by decide)) ?_
  refine am_ite (fun h_1 => ?_) (fun h_1 => ?_)
  · skip
    refine Eq.trans (rl_iconst (c := -1) (k := (-1 : Int32)) (by decide +kernel) (by decide)) ?_
    exact rl_iret (by decide +kernel) rfl
  · skip
    refine Eq.trans (rl_aloadn (j := 0) (by decide +kernel) rfl) ?_
    refine Eq.trans (rl_getP (ix := 16) (ci := 8) (j := 1) (by decide +kernel) (by decide +kernel) (by decide +kernel) ck3 rfl) ?_
    refine Eq.trans (rl_inv (ix := 238) (n := 0) (o := 5) 49 [] [] (by decide +kernel) (by decide +kernel) (by decide +kernel) (by decide +kernel) ⟨rfl, rfl⟩ rfl rfl (ck13 am_n1)) ?_
    rfl
theorem b92_36 {k1 : Nat} {x2 x3 : Int32} {M : am_M} {w : am_W4} (hk1 : k1 < 16) : am_rn call 92 36 [some (am_P (3, 0, 0)), some (am_P (24, 0, k1)), some (am_I x2), some (am_I x3)] [] M (am_Z w) = if am_in x2 16 then if (M (24, 1, x2.toNatClampNeg) 3) = (nI 1) then some (.inl (some (am_I x3)), M, (am_Z w)) else am_rn call 92 22 [some (am_P (3, 0, 0)), some (am_P (24, 0, k1)), some (am_I x2), some (am_I (x3 + (nI 1)))] [] M (am_Z w) else none := by
  refine Eq.trans (rl_aloadn (j := 0) (by decide +kernel) rfl) ?_
  refine Eq.trans (rl_getP (ix := 16) (ci := 8) (j := 1) (by decide +kernel) (by decide +kernel) (by decide +kernel) ck3 rfl) ?_
  refine Eq.trans (rl_getP (ix := 234) (ci := 5) (j := 6) (by decide +kernel) (by decide +kernel) (by decide +kernel) (ck13 am_n1) rfl) ?_
  refine Eq.trans (rl_iloadn (j := 2) (by decide +kernel) rfl) ?_
  refine Eq.trans (rl_aald (v := (24, 1, x2.toNatClampNeg)) (by decide +kernel) (ka17 am_n1) (fun h => if_pos (am_in_lt' h))) ?_
  refine am_ite (fun h_1 => ?_) (fun _ => rfl)
  refine Eq.trans (rl_get (ix := 212) (ci := 4) (j := 3) (by decide +kernel) (by decide +kernel) (by decide +kernel) (ck24 am_n1 (am_in_lt' h_1))) ?_
  refine Eq.trans (rl_iconst (c := 1) (k := (nI 1)) (by decide +kernel) (by decide)) ?_
  refine Eq.trans (rl_icne (o := 5) 54 (by decide +kernel) (by decide)) ?_
  refine am_ite (fun h_2 => ?_) (fun h_2 => ?_)
  · skip
    refine Eq.trans (rl_iloadn (j := 3) (by decide +kernel) rfl) ?_
    exact rl_iret (by decide +kernel) rfl
  · skip
    refine Eq.trans (rl_iinc (j := 3) (c := 1) (k := (nI 1)) (ls' := [some (am_P (3, 0, 0)), some (am_P (24, 0, k1)), some (am_I x2), some (am_I (x3 + (nI 1)))]) (by decide +kernel) (by decide) rfl rfl) ?_
    refine Eq.trans (rl_goto (o := (-35)) 22 (by decide +kernel) (by decide)) ?_
    rfl
theorem e92 {d : Nat} {k1 : Nat} {x2 : Int32} {M : am_M} {w : am_W4} (hk1 : k1 < 16) : am_ev (d + 1) 92 [am_P (3, 0, 0), am_P (24, 0, k1), am_I x2] M (am_Z w) = if (M (24, 0, k1) 3) = 0 then am_cb ((am_ev d) 34 [am_P (13, 1, 0), am_P (13, 0, 0)] M (am_Z w)) fun v M' X' => am_rn (am_ev d) 92 20 [some (am_P (3, 0, 0)), some (am_P (24, 0, k1)), some (am_I x2), none] (v.toList ++ []) M' X' else some (.inl (some (am_I (-1 : Int32))), M, (am_Z w)) := (am_ev_eq d 92 _ M (am_Z w)).trans (b92_0 hk1)
theorem b93_0 {x1 : Int32} {M : am_M} {w : am_W4}  : am_rn call 93 0 [some (am_P (3, 0, 0)), some (am_I x1)] [] M (am_Z w) = am_cb (call 37 [am_P (13, 0, 0), am_I x1] M (am_Z w)) fun v M' X' => am_rn call 93 8 [some (am_P (3, 0, 0)), some (am_I x1)] (v.toList ++ []) M' X' := by
  refine Eq.trans (rl_aloadn (j := 0) (by decide +kernel) rfl) ?_
  refine Eq.trans (rl_getP (ix := 12) (ci := 8) (j := 0) (by decide +kernel) (by decide +kernel) (by decide +kernel) ck3 rfl) ?_
  refine Eq.trans (rl_iloadn (j := 1) (by decide +kernel) rfl) ?_
  refine Eq.trans (rl_inv (ix := 241) (n := 1) (o := 5) 37 [am_I x1] [] (by decide +kernel) (by decide +kernel) (by decide +kernel) (by decide +kernel) ⟨rfl, rfl⟩ rfl rfl (ck13 am_n0)) ?_
  rfl
theorem b93_8 {x1 s0 : Int32} {M : am_M} {w : am_W4}  : am_rn call 93 8 [some (am_P (3, 0, 0)), some (am_I x1)] [am_I s0] M (am_Z w) = if s0 = 0 then some (.inr 1, M, am_Z (am_bw w)) else if am_in x1 16 then some (.inl (some (am_P (24, 0, x1.toNatClampNeg))), M, (am_Z w)) else none := by
  refine Eq.trans (rl_ifne (o := 11) 19 (by decide +kernel) (by decide)) ?_
  refine am_ite (fun h_1 => ?_) (fun h_1 => ?_)
  · skip
    exact rl_throw (ix := 174) (E := 1) (ic := 176) (by decide +kernel) (by decide +kernel) (by decide +kernel) (by decide +kernel) (by decide +kernel) rfl rfl
  · skip
    refine Eq.trans (rl_aloadn (j := 0) (by decide +kernel) rfl) ?_
    refine Eq.trans (rl_getP (ix := 12) (ci := 8) (j := 0) (by decide +kernel) (by decide +kernel) (by decide +kernel) ck3 rfl) ?_
    refine Eq.trans (rl_getP (ix := 234) (ci := 5) (j := 6) (by decide +kernel) (by decide +kernel) (by decide +kernel) (ck13 am_n0) rfl) ?_
    refine Eq.trans (rl_iloadn (j := 1) (by decide +kernel) rfl) ?_
    refine Eq.trans (rl_aald (v := (24, 0, x1.toNatClampNeg)) (by decide +kernel) (ka17 am_n0) (fun h => if_pos (am_in_lt' h))) ?_
    refine am_ite (fun h_2 => ?_) (fun _ => rfl)
    exact rl_aret (by decide +kernel) rfl
theorem e93 {d : Nat} {x1 : Int32} {M : am_M} {w : am_W4}  : am_ev (d + 1) 93 [am_P (3, 0, 0), am_I x1] M (am_Z w) = am_cb ((am_ev d) 37 [am_P (13, 0, 0), am_I x1] M (am_Z w)) fun v M' X' => am_rn (am_ev d) 93 8 [some (am_P (3, 0, 0)), some (am_I x1)] (v.toList ++ []) M' X' := (am_ev_eq d 93 _ M (am_Z w)).trans (b93_0)
theorem b94_0 {x1 : Int32} {M : am_M} {w : am_W4}  : am_rn call 94 0 [some (am_P (3, 0, 0)), some (am_I x1), none, none] [] M (am_Z w) = am_rn call 94 4 [some (am_P (3, 0, 0)), some (am_I x1), some (am_I (-1 : Int32)), some (am_I (nI 0))] [] M (am_Z w) := by
  refine Eq.trans (rl_iconst (c := -1) (k := (-1 : Int32)) (by decide +kernel) (by decide)) ?_
  refine Eq.trans (rl_istoren (j := 2) (ls' := [some (am_P (3, 0, 0)), some (am_I x1), some (am_I (-1 : Int32)), none]) (by decide +kernel) rfl rfl) ?_
  refine Eq.trans (rl_iconst (c := 0) (k := (nI 0)) (by decide +kernel) (by decide)) ?_
  refine Eq.trans (rl_istoren (j := 3) (ls' := [some (am_P (3, 0, 0)), some (am_I x1), some (am_I (-1 : Int32)), some (am_I (nI 0))]) (by decide +kernel) rfl rfl) ?_
  rfl
theorem b94_4 {x1 x2 x3 : Int32} {M : am_M} {w : am_W4}  : am_rn call 94 4 [some (am_P (3, 0, 0)), some (am_I x1), some (am_I x2), some (am_I x3)] [] M (am_Z w) = if x3 < (M (13, 0, 0) 5) then if x2 = (-1 : Int32) then if am_in x3 16 then if (M (24, 0, x3.toNatClampNeg) 3) = 0 then am_cb (call 56 [am_P (13, 0, 0), am_I x3] M (am_Z w)) fun v M' X' => am_rn call 94 43 [some (am_P (3, 0, 0)), some (am_I x1), some (am_I x2), some (am_I x3)] (v.toList ++ []) M' X' else am_rn call 94 49 [some (am_P (3, 0, 0)), some (am_I x1), some (am_I x2), some (am_I x3)] [] M (am_Z w) else none else am_rn call 94 55 [some (am_P (3, 0, 0)), some (am_I x1), some (am_I x2), some (am_I x3)] [] M (am_Z w) else am_rn call 94 55 [some (am_P (3, 0, 0)), some (am_I x1), some (am_I x2), some (am_I x3)] [] M (am_Z w) := by
  refine Eq.trans (rl_iloadn (j := 3) (by decide +kernel) rfl) ?_
  refine Eq.trans (rl_aloadn (j := 0) (by decide +kernel) rfl) ?_
  refine Eq.trans (rl_getP (ix := 12) (ci := 8) (j := 0) (by decide +kernel) (by decide +kernel) (by decide +kernel) ck3 rfl) ?_
  refine Eq.trans (rl_get (ix := 244) (ci := 5) (j := 5) (by decide +kernel) (by decide +kernel) (by decide +kernel) (ck13 am_n0)) ?_
  refine Eq.trans (rl_icge (o := 43) 55 (by decide +kernel) (by decide)) ?_
  refine am_ite (fun h_1 => ?_) (fun h_1 => ?_)
  · skip
    refine Eq.trans (rl_iloadn (j := 2) (by decide +kernel) rfl) ?_
    refine Eq.trans (rl_iconst (c := -1) (k := (-1 : Int32)) (by decide +kernel) (by decide)) ?_
    refine Eq.trans (rl_icne (o := 38) 55 (by decide +kernel) (by decide)) ?_
    refine am_ite (fun h_2 => ?_) (fun h_2 => ?_)
    · skip
      refine Eq.trans (rl_aloadn (j := 0) (by decide +kernel) rfl) ?_
      refine Eq.trans (rl_getP (ix := 12) (ci := 8) (j := 0) (by decide +kernel) (by decide +kernel) (by decide +kernel) ck3 rfl) ?_
      refine Eq.trans (rl_getP (ix := 234) (ci := 5) (j := 6) (by decide +kernel) (by decide +kernel) (by decide +kernel) (ck13 am_n0) rfl) ?_
      refine Eq.trans (rl_iloadn (j := 3) (by decide +kernel) rfl) ?_
      refine Eq.trans (rl_aald (v := (24, 0, x3.toNatClampNeg)) (by decide +kernel) (ka17 am_n0) (fun h => if_pos (am_in_lt' h))) ?_
      refine am_ite (fun h_3 => ?_) (fun _ => rfl)
      refine Eq.trans (rl_get (ix := 212) (ci := 4) (j := 3) (by decide +kernel) (by decide +kernel) (by decide +kernel) (ck24 am_n0 (am_in_lt' h_3))) ?_
      refine Eq.trans (rl_ifne (o := 17) 49 (by decide +kernel) (by decide)) ?_
      refine am_ite (fun h_4 => ?_) (fun h_4 => ?_)
      · skip
        refine Eq.trans (rl_aloadn (j := 0) (by decide +kernel) rfl) ?_
        refine Eq.trans (rl_getP (ix := 12) (ci := 8) (j := 0) (by decide +kernel) (by decide +kernel) (by decide +kernel) ck3 rfl) ?_
        refine Eq.trans (rl_iloadn (j := 3) (by decide +kernel) rfl) ?_
        refine Eq.trans (rl_inv (ix := 247) (n := 1) (o := 5) 56 [am_I x3] [] (by decide +kernel) (by decide +kernel) (by decide +kernel) (by decide +kernel) ⟨rfl, rfl⟩ rfl rfl (ck13 am_n0)) ?_
        rfl
      · skip
        rfl
    · skip
      rfl
  · skip
    rfl
theorem b94_43 {x1 x2 x3 s0 : Int32} {M : am_M} {w : am_W4}  : am_rn call 94 43 [some (am_P (3, 0, 0)), some (am_I x1), some (am_I x2), some (am_I x3)] [am_I s0] M (am_Z w) = if s0 = x1 then am_rn call 94 49 [some (am_P (3, 0, 0)), some (am_I x1), some (am_I x3), some (am_I x3)] [] M (am_Z w) else am_rn call 94 49 [some (am_P (3, 0, 0)), some (am_I x1), some (am_I x2), some (am_I x3)] [] M (am_Z w) := by
  refine Eq.trans (rl_iloadn (j := 1) (by decide +kernel) rfl) ?_
  refine Eq.trans (rl_icne (o := 5) 49 (by decide +kernel) (by decide)) ?_
  refine am_ite (fun h_1 => ?_) (fun h_1 => ?_)
  · skip
    refine Eq.trans (rl_iloadn (j := 3) (by decide +kernel) rfl) ?_
    refine Eq.trans (rl_istoren (j := 2) (ls' := [some (am_P (3, 0, 0)), some (am_I x1), some (am_I x3), some (am_I x3)]) (by decide +kernel) rfl rfl) ?_
    rfl
  · skip
    rfl
theorem b94_49 {x1 x2 x3 : Int32} {M : am_M} {w : am_W4}  : am_rn call 94 49 [some (am_P (3, 0, 0)), some (am_I x1), some (am_I x2), some (am_I x3)] [] M (am_Z w) = am_rn call 94 4 [some (am_P (3, 0, 0)), some (am_I x1), some (am_I x2), some (am_I (x3 + (nI 1)))] [] M (am_Z w) := by
  refine Eq.trans (rl_iinc (j := 3) (c := 1) (k := (nI 1)) (ls' := [some (am_P (3, 0, 0)), some (am_I x1), some (am_I x2), some (am_I (x3 + (nI 1)))]) (by decide +kernel) (by decide) rfl rfl) ?_
  refine Eq.trans (rl_goto (o := (-48)) 4 (by decide +kernel) (by decide)) ?_
  rfl
theorem b94_55 {x1 x2 x3 : Int32} {M : am_M} {w : am_W4}  : am_rn call 94 55 [some (am_P (3, 0, 0)), some (am_I x1), some (am_I x2), some (am_I x3)] [] M (am_Z w) = if x2 = (-1 : Int32) then some (.inr 3, M, am_Z (am_bw w)) else some (.inl (some (am_I x2)), M, (am_Z w)) := by
  refine Eq.trans (rl_iloadn (j := 2) (by decide +kernel) rfl) ?_
  refine Eq.trans (rl_iconst (c := -1) (k := (-1 : Int32)) (by decide +kernel) (by decide)) ?_
  refine Eq.trans (rl_icne (o := 11) 68 (by decide +kernel) (by decide)) ?_
  refine am_ite (fun h_1 => ?_) (fun h_1 => ?_)
  · skip
    exact rl_throw (ix := 184) (E := 3) (ic := 186) (by decide +kernel) (by decide +kernel) (by decide +kernel) (by decide +kernel) (by decide +kernel) rfl rfl
  · skip
    refine Eq.trans (rl_iloadn (j := 2) (by decide +kernel) rfl) ?_
    exact rl_iret (by decide +kernel) rfl
theorem e94 {d : Nat} {x1 : Int32} {M : am_M} {w : am_W4}  : am_ev (d + 1) 94 [am_P (3, 0, 0), am_I x1] M (am_Z w) = am_rn (am_ev d) 94 4 [some (am_P (3, 0, 0)), some (am_I x1), some (am_I (-1 : Int32)), some (am_I (nI 0))] [] M (am_Z w) := (am_ev_eq d 94 _ M (am_Z w)).trans (b94_0)
theorem b95_0  {M : am_M} {w : am_W4}  : am_rn call 95 0 [some (am_P (3, 0, 0)), none, none] [] M (am_Z w) = am_rn call 95 4 [some (am_P (3, 0, 0)), some (am_I (nI 0)), some (am_I (nI 0))] [] M (am_Z w) := by
  refine Eq.trans (rl_iconst (c := 0) (k := (nI 0)) (by decide +kernel) (by decide)) ?_
  refine Eq.trans (rl_istoren (j := 1) (ls' := [some (am_P (3, 0, 0)), some (am_I (nI 0)), none]) (by decide +kernel) rfl rfl) ?_
  refine Eq.trans (rl_iconst (c := 0) (k := (nI 0)) (by decide +kernel) (by decide)) ?_
  refine Eq.trans (rl_istoren (j := 2) (ls' := [some (am_P (3, 0, 0)), some (am_I (nI 0)), some (am_I (nI 0))]) (by decide +kernel) rfl rfl) ?_
  rfl
theorem b95_4 {x1 x2 : Int32} {M : am_M} {w : am_W4}  : am_rn call 95 4 [some (am_P (3, 0, 0)), some (am_I x1), some (am_I x2)] [] M (am_Z w) = if x2 < (M (13, 0, 0) 1) then if am_in x2 6 then am_rn call 95 4 [some (am_P (3, 0, 0)), some (am_I (x1 + (M (21, 0, x2.toNatClampNeg) 5))), some (am_I (x2 + (nI 1)))] [] M (am_Z w) else none else some (.inl (some (am_I x1)), M, (am_Z w)) := by
  refine Eq.trans (rl_iloadn (j := 2) (by decide +kernel) rfl) ?_
  refine Eq.trans (rl_aloadn (j := 0) (by decide +kernel) rfl) ?_
  refine Eq.trans (rl_getP (ix := 12) (ci := 8) (j := 0) (by decide +kernel) (by decide +kernel) (by decide +kernel) ck3 rfl) ?_
  refine Eq.trans (rl_get (ix := 161) (ci := 5) (j := 1) (by decide +kernel) (by decide +kernel) (by decide +kernel) (ck13 am_n0)) ?_
  refine Eq.trans (rl_icge (o := 24) 36 (by decide +kernel) (by decide)) ?_
  refine am_ite (fun h_1 => ?_) (fun h_1 => ?_)
  · skip
    refine Eq.trans (rl_iloadn (j := 1) (by decide +kernel) rfl) ?_
    refine Eq.trans (rl_aloadn (j := 0) (by decide +kernel) rfl) ?_
    refine Eq.trans (rl_getP (ix := 12) (ci := 8) (j := 0) (by decide +kernel) (by decide +kernel) (by decide +kernel) ck3 rfl) ?_
    refine Eq.trans (rl_getP (ix := 167) (ci := 5) (j := 2) (by decide +kernel) (by decide +kernel) (by decide +kernel) (ck13 am_n0) rfl) ?_
    refine Eq.trans (rl_iloadn (j := 2) (by decide +kernel) rfl) ?_
    refine Eq.trans (rl_aald (v := (21, 0, x2.toNatClampNeg)) (by decide +kernel) (ka14 am_n0) (fun h => if_pos (am_in_lt' h))) ?_
    refine am_ite (fun h_2 => ?_) (fun _ => rfl)
    refine Eq.trans (rl_get (ix := 111) (ci := 2) (j := 5) (by decide +kernel) (by decide +kernel) (by decide +kernel) (ck21 am_n0 (am_in_lt' h_2))) ?_
    refine Eq.trans (rl_iadd (by decide +kernel)) ?_
    refine Eq.trans (rl_istoren (j := 1) (ls' := [some (am_P (3, 0, 0)), some (am_I (x1 + (M (21, 0, x2.toNatClampNeg) 5))), some (am_I x2)]) (by decide +kernel) rfl rfl) ?_
    refine Eq.trans (rl_iinc (j := 2) (c := 1) (k := (nI 1)) (ls' := [some (am_P (3, 0, 0)), some (am_I (x1 + (M (21, 0, x2.toNatClampNeg) 5))), some (am_I (x2 + (nI 1)))]) (by decide +kernel) (by decide) rfl rfl) ?_
    refine Eq.trans (rl_goto (o := (-29)) 4 (by decide +kernel) (by decide)) ?_
    rfl
  · skip
    refine Eq.trans (rl_iloadn (j := 1) (by decide +kernel) rfl) ?_
    exact rl_iret (by decide +kernel) rfl
theorem e95 {d : Nat}  {M : am_M} {w : am_W4}  : am_ev (d + 1) 95 [am_P (3, 0, 0)] M (am_Z w) = am_rn (am_ev d) 95 4 [some (am_P (3, 0, 0)), some (am_I (nI 0)), some (am_I (nI 0))] [] M (am_Z w) := (am_ev_eq d 95 _ M (am_Z w)).trans (b95_0)
theorem b96_0  {M : am_M} {w : am_W4}  : am_rn call 96 0 [some (am_P (3, 0, 0)), none, none] [] M (am_Z w) = am_rn call 96 4 [some (am_P (3, 0, 0)), some (am_I (nI 0)), some (am_I (nI 0))] [] M (am_Z w) := by
  refine Eq.trans (rl_iconst (c := 0) (k := (nI 0)) (by decide +kernel) (by decide)) ?_
  refine Eq.trans (rl_istoren (j := 1) (ls' := [some (am_P (3, 0, 0)), some (am_I (nI 0)), none]) (by decide +kernel) rfl rfl) ?_
  refine Eq.trans (rl_iconst (c := 0) (k := (nI 0)) (by decide +kernel) (by decide)) ?_
  refine Eq.trans (rl_istoren (j := 2) (ls' := [some (am_P (3, 0, 0)), some (am_I (nI 0)), some (am_I (nI 0))]) (by decide +kernel) rfl rfl) ?_
  rfl
theorem b96_4 {x1 x2 : Int32} {M : am_M} {w : am_W4}  : am_rn call 96 4 [some (am_P (3, 0, 0)), some (am_I x1), some (am_I x2)] [] M (am_Z w) = if x2 < (M (13, 0, 0) 5) then if am_in x2 16 then am_cb (call 32 [am_P (24, 0, x2.toNatClampNeg)] M (am_Z w)) fun v M' X' => am_rn call 96 28 [some (am_P (3, 0, 0)), some (am_I x1), some (am_I x2)] (v.toList ++ [am_I x1]) M' X' else none else some (.inl (some (am_I x1)), M, (am_Z w)) := by
  refine Eq.trans (rl_iloadn (j := 2) (by decide +kernel) rfl) ?_
  refine Eq.trans (rl_aloadn (j := 0) (by decide +kernel) rfl) ?_
  refine Eq.trans (rl_getP (ix := 12) (ci := 8) (j := 0) (by decide +kernel) (by decide +kernel) (by decide +kernel) ck3 rfl) ?_
  refine Eq.trans (rl_get (ix := 244) (ci := 5) (j := 5) (by decide +kernel) (by decide +kernel) (by decide +kernel) (ck13 am_n0)) ?_
  refine Eq.trans (rl_icge (o := 24) 36 (by decide +kernel) (by decide)) ?_
  refine am_ite (fun h_1 => ?_) (fun h_1 => ?_)
  · skip
    refine Eq.trans (rl_iloadn (j := 1) (by decide +kernel) rfl) ?_
    refine Eq.trans (rl_aloadn (j := 0) (by decide +kernel) rfl) ?_
    refine Eq.trans (rl_getP (ix := 12) (ci := 8) (j := 0) (by decide +kernel) (by decide +kernel) (by decide +kernel) ck3 rfl) ?_
    refine Eq.trans (rl_getP (ix := 234) (ci := 5) (j := 6) (by decide +kernel) (by decide +kernel) (by decide +kernel) (ck13 am_n0) rfl) ?_
    refine Eq.trans (rl_iloadn (j := 2) (by decide +kernel) rfl) ?_
    refine Eq.trans (rl_aald (v := (24, 0, x2.toNatClampNeg)) (by decide +kernel) (ka17 am_n0) (fun h => if_pos (am_in_lt' h))) ?_
    refine am_ite (fun h_2 => ?_) (fun _ => rfl)
    refine Eq.trans (rl_inv (ix := 205) (n := 0) (o := 4) 32 [] [am_I x1] (by decide +kernel) (by decide +kernel) (by decide +kernel) (by decide +kernel) ⟨rfl, rfl⟩ rfl rfl (ck24 am_n0 (am_in_lt' h_2))) ?_
    rfl
  · skip
    refine Eq.trans (rl_iloadn (j := 1) (by decide +kernel) rfl) ?_
    exact rl_iret (by decide +kernel) rfl
theorem b96_28 {x1 x2 s0 s1 : Int32} {M : am_M} {w : am_W4}  : am_rn call 96 28 [some (am_P (3, 0, 0)), some (am_I x1), some (am_I x2)] [am_I s0, am_I s1] M (am_Z w) = am_rn call 96 4 [some (am_P (3, 0, 0)), some (am_I (s1 + s0)), some (am_I (x2 + (nI 1)))] [] M (am_Z w) := by
  refine Eq.trans (rl_iadd (by decide +kernel)) ?_
  refine Eq.trans (rl_istoren (j := 1) (ls' := [some (am_P (3, 0, 0)), some (am_I (s1 + s0)), some (am_I x2)]) (by decide +kernel) rfl rfl) ?_
  refine Eq.trans (rl_iinc (j := 2) (c := 1) (k := (nI 1)) (ls' := [some (am_P (3, 0, 0)), some (am_I (s1 + s0)), some (am_I (x2 + (nI 1)))]) (by decide +kernel) (by decide) rfl rfl) ?_
  refine Eq.trans (rl_goto (o := (-29)) 4 (by decide +kernel) (by decide)) ?_
  rfl
theorem e96 {d : Nat}  {M : am_M} {w : am_W4}  : am_ev (d + 1) 96 [am_P (3, 0, 0)] M (am_Z w) = am_rn (am_ev d) 96 4 [some (am_P (3, 0, 0)), some (am_I (nI 0)), some (am_I (nI 0))] [] M (am_Z w) := (am_ev_eq d 96 _ M (am_Z w)).trans (b96_0)
theorem b97_0  {M : am_M} {w : am_W4}  : am_rn call 97 0 [some (am_P (3, 0, 0)), none, none] [] M (am_Z w) = if (M (13, 0, 0) 5) = 0 then some (.inr 5, M, am_Z (am_bw w)) else am_rn call 97 22 [some (am_P (3, 0, 0)), some (am_I (nI 0)), some (am_I (nI 0))] [] M (am_Z w) := by
  refine Eq.trans (rl_aloadn (j := 0) (by decide +kernel) rfl) ?_
  refine Eq.trans (rl_getP (ix := 12) (ci := 8) (j := 0) (by decide +kernel) (by decide +kernel) (by decide +kernel) ck3 rfl) ?_
  refine Eq.trans (rl_get (ix := 244) (ci := 5) (j := 5) (by decide +kernel) (by decide +kernel) (by decide +kernel) (ck13 am_n0)) ?_
  refine Eq.trans (rl_ifne (o := 11) 18 (by decide +kernel) (by decide)) ?_
  refine am_ite (fun h_1 => ?_) (fun h_1 => ?_)
  · skip
    exact rl_throw (ix := 164) (E := 5) (ic := 166) (by decide +kernel) (by decide +kernel) (by decide +kernel) (by decide +kernel) (by decide +kernel) rfl rfl
  · skip
    refine Eq.trans (rl_iconst (c := 0) (k := (nI 0)) (by decide +kernel) (by decide)) ?_
    refine Eq.trans (rl_istoren (j := 1) (ls' := [some (am_P (3, 0, 0)), some (am_I (nI 0)), none]) (by decide +kernel) rfl rfl) ?_
    refine Eq.trans (rl_iconst (c := 0) (k := (nI 0)) (by decide +kernel) (by decide)) ?_
    refine Eq.trans (rl_istoren (j := 2) (ls' := [some (am_P (3, 0, 0)), some (am_I (nI 0)), some (am_I (nI 0))]) (by decide +kernel) rfl rfl) ?_
    rfl
theorem b97_22 {x1 x2 : Int32} {M : am_M} {w : am_W4}  : am_rn call 97 22 [some (am_P (3, 0, 0)), some (am_I x1), some (am_I x2)] [] M (am_Z w) = if x2 < (M (13, 0, 0) 5) then if am_in x2 16 then am_rn call 97 22 [some (am_P (3, 0, 0)), some (am_I (x1 + (M (24, 0, x2.toNatClampNeg) 8))), some (am_I (x2 + (nI 1)))] [] M (am_Z w) else none else am_cb (call 96 [am_P (3, 0, 0)] M (am_Z w)) fun v M' X' => am_rn call 97 58 [some (am_P (3, 0, 0)), some (am_I x1), some (am_I x2)] (v.toList ++ []) M' X' := by
  refine Eq.trans (rl_iloadn (j := 2) (by decide +kernel) rfl) ?_
  refine Eq.trans (rl_aloadn (j := 0) (by decide +kernel) rfl) ?_
  refine Eq.trans (rl_getP (ix := 12) (ci := 8) (j := 0) (by decide +kernel) (by decide +kernel) (by decide +kernel) ck3 rfl) ?_
  refine Eq.trans (rl_get (ix := 244) (ci := 5) (j := 5) (by decide +kernel) (by decide +kernel) (by decide +kernel) (ck13 am_n0)) ?_
  refine Eq.trans (rl_icge (o := 24) 54 (by decide +kernel) (by decide)) ?_
  refine am_ite (fun h_1 => ?_) (fun h_1 => ?_)
  · skip
    refine Eq.trans (rl_iloadn (j := 1) (by decide +kernel) rfl) ?_
    refine Eq.trans (rl_aloadn (j := 0) (by decide +kernel) rfl) ?_
    refine Eq.trans (rl_getP (ix := 12) (ci := 8) (j := 0) (by decide +kernel) (by decide +kernel) (by decide +kernel) ck3 rfl) ?_
    refine Eq.trans (rl_getP (ix := 234) (ci := 5) (j := 6) (by decide +kernel) (by decide +kernel) (by decide +kernel) (ck13 am_n0) rfl) ?_
    refine Eq.trans (rl_iloadn (j := 2) (by decide +kernel) rfl) ?_
    refine Eq.trans (rl_aald (v := (24, 0, x2.toNatClampNeg)) (by decide +kernel) (ka17 am_n0) (fun h => if_pos (am_in_lt' h))) ?_
    refine am_ite (fun h_2 => ?_) (fun _ => rfl)
    refine Eq.trans (rl_get (ix := 202) (ci := 4) (j := 8) (by decide +kernel) (by decide +kernel) (by decide +kernel) (ck24 am_n0 (am_in_lt' h_2))) ?_
    refine Eq.trans (rl_iadd (by decide +kernel)) ?_
    refine Eq.trans (rl_istoren (j := 1) (ls' := [some (am_P (3, 0, 0)), some (am_I (x1 + (M (24, 0, x2.toNatClampNeg) 8))), some (am_I x2)]) (by decide +kernel) rfl rfl) ?_
    refine Eq.trans (rl_iinc (j := 2) (c := 1) (k := (nI 1)) (ls' := [some (am_P (3, 0, 0)), some (am_I (x1 + (M (24, 0, x2.toNatClampNeg) 8))), some (am_I (x2 + (nI 1)))]) (by decide +kernel) (by decide) rfl rfl) ?_
    refine Eq.trans (rl_goto (o := (-29)) 22 (by decide +kernel) (by decide)) ?_
    rfl
  · skip
    refine Eq.trans (rl_aloadn (j := 0) (by decide +kernel) rfl) ?_
    refine Eq.trans (rl_inv (ix := 251) (n := 0) (o := 8) 96 [] [] (by decide +kernel) (by decide +kernel) (by decide +kernel) (by decide +kernel) ⟨rfl, rfl⟩ rfl rfl ck3) ?_
    rfl
theorem b97_58 {x1 x2 s0 : Int32} {M : am_M} {w : am_W4}  : am_rn call 97 58 [some (am_P (3, 0, 0)), some (am_I x1), some (am_I x2)] [am_I s0] M (am_Z w) = if FP.ddiv (FP.i2d s0) (FP.i2d x1) &&& 0x7fffffffffffffff ≤ 0x7ff0000000000000 then some (.inl (some (.inl (.double (FP.ddiv (FP.i2d s0) (FP.i2d x1))))), M, (am_Z w)) else none := by
  refine Eq.trans (rl_i2d (by decide +kernel)) ?_
  refine Eq.trans (rl_iloadn (j := 1) (by decide +kernel) rfl) ?_
  refine Eq.trans (rl_i2d (by decide +kernel)) ?_
  refine Eq.trans (rl_ddiv (by decide +kernel)) ?_
  refine am_ite (fun h_1 => ?_) (fun _ => rfl)
  exact rl_dret (by decide +kernel) rfl
theorem e97 {d : Nat}  {M : am_M} {w : am_W4}  : am_ev (d + 1) 97 [am_P (3, 0, 0)] M (am_Z w) = if (M (13, 0, 0) 5) = 0 then some (.inr 5, M, am_Z (am_bw w)) else am_rn (am_ev d) 97 22 [some (am_P (3, 0, 0)), some (am_I (nI 0)), some (am_I (nI 0))] [] M (am_Z w) := (am_ev_eq d 97 _ M (am_Z w)).trans (b97_0)
theorem b98_0 {x1 : Int32} {M : am_M} {w : am_W4}  : am_rn call 98 0 [some (am_P (3, 0, 0)), some (am_I x1)] [] M (am_Z w) = if (M (8, 0, 0) 1) < (nI 60) then am_cb (call 3 [am_P (8, 0, 0), am_I x1] M (am_Z w)) fun v M' X' => am_rn call 98 28 [some (am_P (3, 0, 0)), some (am_I x1)] (v.toList ++ []) M' X' else some (.inr 4, M, am_Z (am_bw w)) := by
  refine Eq.trans (rl_aloadn (j := 0) (by decide +kernel) rfl) ?_
  refine Eq.trans (rl_getP (ix := 46) (ci := 8) (j := 7) (by decide +kernel) (by decide +kernel) (by decide +kernel) ck3 rfl) ?_
  refine Eq.trans (rl_get (ix := 254) (ci := 1) (j := 1) (by decide +kernel) (by decide +kernel) (by decide +kernel) ck8) ?_
  refine Eq.trans (rl_bipush (c := 60) (k := (nI 60)) (by decide +kernel) (by decide)) ?_
  refine Eq.trans (rl_iclt (o := 11) 20 (by decide +kernel) (by decide)) ?_
  refine am_ite (fun h_1 => ?_) (fun h_1 => ?_)
  · skip
    refine Eq.trans (rl_aloadn (j := 0) (by decide +kernel) rfl) ?_
    refine Eq.trans (rl_getP (ix := 46) (ci := 8) (j := 7) (by decide +kernel) (by decide +kernel) (by decide +kernel) ck3 rfl) ?_
    refine Eq.trans (rl_iloadn (j := 1) (by decide +kernel) rfl) ?_
    refine Eq.trans (rl_inv (ix := 258) (n := 1) (o := 1) 3 [am_I x1] [] (by decide +kernel) (by decide +kernel) (by decide +kernel) (by decide +kernel) ⟨rfl, rfl⟩ rfl rfl ck8) ?_
    rfl
  · skip
    exact rl_throw (ix := 255) (E := 4) (ic := 257) (by decide +kernel) (by decide +kernel) (by decide +kernel) (by decide +kernel) (by decide +kernel) rfl rfl
theorem b98_28 {x1 : Int32} {M : am_M} {w : am_W4}  : am_rn call 98 28 [some (am_P (3, 0, 0)), some (am_I x1)] [] M (am_Z w) = some (.inl (some (am_I (M (8, 0, 0) 1))), M, (am_Z w)) := by
  refine Eq.trans (rl_aloadn (j := 0) (by decide +kernel) rfl) ?_
  refine Eq.trans (rl_getP (ix := 46) (ci := 8) (j := 7) (by decide +kernel) (by decide +kernel) (by decide +kernel) ck3 rfl) ?_
  refine Eq.trans (rl_get (ix := 254) (ci := 1) (j := 1) (by decide +kernel) (by decide +kernel) (by decide +kernel) ck8) ?_
  exact rl_iret (by decide +kernel) rfl
theorem e98 {d : Nat} {x1 : Int32} {M : am_M} {w : am_W4}  : am_ev (d + 1) 98 [am_P (3, 0, 0), am_I x1] M (am_Z w) = if (M (8, 0, 0) 1) < (nI 60) then am_cb ((am_ev d) 3 [am_P (8, 0, 0), am_I x1] M (am_Z w)) fun v M' X' => am_rn (am_ev d) 98 28 [some (am_P (3, 0, 0)), some (am_I x1)] (v.toList ++ []) M' X' else some (.inr 4, M, am_Z (am_bw w)) := (am_ev_eq d 98 _ M (am_Z w)).trans (b98_0)
theorem b99_0  {M : am_M} {w : am_W4}  : am_rn call 99 0 [some (am_P (3, 0, 0)), none] [] M (am_Z w) = am_cb (call 4 [am_P (8, 0, 0)] M (am_Z w)) fun v M' X' => am_rn call 99 8 [some (am_P (3, 0, 0)), none] (v.toList ++ [am_P (3, 0, 0)]) M' X' := by
  refine Eq.trans (rl_aloadn (j := 0) (by decide +kernel) rfl) ?_
  refine Eq.trans (rl_aloadn (j := 0) (by decide +kernel) rfl) ?_
  refine Eq.trans (rl_getP (ix := 46) (ci := 8) (j := 7) (by decide +kernel) (by decide +kernel) (by decide +kernel) ck3 rfl) ?_
  refine Eq.trans (rl_inv (ix := 262) (n := 0) (o := 1) 4 [] [am_P (3, 0, 0)] (by decide +kernel) (by decide +kernel) (by decide +kernel) (by decide +kernel) ⟨rfl, rfl⟩ rfl rfl ck8) ?_
  rfl
theorem b99_8 {s0 : Int32} {M : am_M} {w : am_W4}  : am_rn call 99 8 [some (am_P (3, 0, 0)), none] [am_I s0, am_P (3, 0, 0)] M (am_Z w) = am_rn call 99 19 [some (am_P (3, 0, 0)), none] [] (am_set (am_set M (3, 0, 0) 8 s0) (8, 0, 0) 1 (nI 0)) (am_Z w) := by
  refine Eq.trans (rl_put (ix := 50) (ci := 8) (j := 8) (by decide +kernel) (by decide +kernel) (by decide +kernel) (by decide +kernel) ck3) ?_
  refine Eq.trans (rl_aloadn (j := 0) (by decide +kernel) rfl) ?_
  refine Eq.trans (rl_getP (ix := 46) (ci := 8) (j := 7) (by decide +kernel) (by decide +kernel) (by decide +kernel) ck3 rfl) ?_
  refine Eq.trans (rl_iconst (c := 0) (k := (nI 0)) (by decide +kernel) (by decide)) ?_
  refine Eq.trans (rl_put (ix := 254) (ci := 1) (j := 1) (by decide +kernel) (by decide +kernel) (by decide +kernel) (by decide +kernel) ck8) ?_
  rfl
theorem b99_19  {M : am_M} {w : am_W4}  : am_rn call 99 19 [some (am_P (3, 0, 0)), none] [] M (am_Z w) = if (M (3, 0, 0) 8) = (-1 : Int32) then am_cb (call 22 [am_P (4, 0, 0)] M (am_Z w)) fun v M' X' => am_rn call 99 42 [some (am_P (3, 0, 0)), none] (v.toList ++ []) M' X' else some (.inr 2, M, am_Z (am_bw w)) := by
  refine Eq.trans (rl_aloadn (j := 0) (by decide +kernel) rfl) ?_
  refine Eq.trans (rl_get (ix := 50) (ci := 8) (j := 8) (by decide +kernel) (by decide +kernel) (by decide +kernel) ck3) ?_
  refine Eq.trans (rl_iconst (c := -1) (k := (-1 : Int32)) (by decide +kernel) (by decide)) ?_
  refine Eq.trans (rl_iceq (o := 11) 35 (by decide +kernel) (by decide)) ?_
  refine am_ite (fun h_1 => ?_) (fun h_1 => ?_)
  · skip
    refine Eq.trans (rl_aloadn (j := 0) (by decide +kernel) rfl) ?_
    refine Eq.trans (rl_getP (ix := 25) (ci := 8) (j := 4) (by decide +kernel) (by decide +kernel) (by decide +kernel) ck3 rfl) ?_
    refine Eq.trans (rl_inv (ix := 66) (n := 0) (o := 3) 22 [] [] (by decide +kernel) (by decide +kernel) (by decide +kernel) (by decide +kernel) ⟨rfl, rfl⟩ rfl rfl ck4) ?_
    rfl
  · skip
    exact rl_throw (ix := 121) (E := 2) (ic := 123) (by decide +kernel) (by decide +kernel) (by decide +kernel) (by decide +kernel) (by decide +kernel) rfl rfl
theorem b99_42 {s0n : Nat} {M : am_M} {w : am_W4} (hs0n : s0n < 12) : am_rn call 99 42 [some (am_P (3, 0, 0)), none] [am_P (13, s0n, 0)] M (am_Z w) = am_cb (call 34 [am_P (13, s0n, 0), am_P (13, 0, 0)] M (am_Z w)) fun v M' X' => am_rn call 99 49 [some (am_P (3, 0, 0)), none] (v.toList ++ []) M' X' := by
  refine Eq.trans (rl_aloadn (j := 0) (by decide +kernel) rfl) ?_
  refine Eq.trans (rl_getP (ix := 12) (ci := 8) (j := 0) (by decide +kernel) (by decide +kernel) (by decide +kernel) ck3 rfl) ?_
  refine Eq.trans (rl_inv (ix := 70) (n := 1) (o := 5) 34 [am_P (13, 0, 0)] [] (by decide +kernel) (by decide +kernel) (by decide +kernel) (by decide +kernel) ⟨rfl, rfl⟩ rfl rfl (ck13 hs0n)) ?_
  rfl
theorem b99_49  {M : am_M} {w : am_W4}  : am_rn call 99 49 [some (am_P (3, 0, 0)), none] [] M (am_Z w) = am_rn call 99 51 [some (am_P (3, 0, 0)), some (am_I (nI 0))] [] M (am_Z w) := by
  refine Eq.trans (rl_iconst (c := 0) (k := (nI 0)) (by decide +kernel) (by decide)) ?_
  refine Eq.trans (rl_istoren (j := 1) (ls' := [some (am_P (3, 0, 0)), some (am_I (nI 0))]) (by decide +kernel) rfl rfl) ?_
  rfl
theorem b99_51 {x1 : Int32} {M : am_M} {w : am_W4}  : am_rn call 99 51 [some (am_P (3, 0, 0)), some (am_I x1)] [] M (am_Z w) = if x1 < (M (8, 0, 0) 3) then if am_in x1 20 then am_cb (call 39 [am_P (13, 0, 0), am_P (11, 0, x1.toNatClampNeg), am_P (6, 0, 0)] M (am_Z w)) fun v M' X' => am_rn call 99 82 [some (am_P (3, 0, 0)), some (am_I x1)] (v.toList ++ []) M' X' else none else am_cb (call 23 [am_P (4, 0, 0)] M (am_Z w)) fun v M' X' => am_rn call 99 129 [some (am_P (3, 0, 0)), some (am_I x1)] (v.toList ++ []) M' X' := by
  refine Eq.trans (rl_iloadn (j := 1) (by decide +kernel) rfl) ?_
  refine Eq.trans (rl_aloadn (j := 0) (by decide +kernel) rfl) ?_
  refine Eq.trans (rl_getP (ix := 46) (ci := 8) (j := 7) (by decide +kernel) (by decide +kernel) (by decide +kernel) ck3 rfl) ?_
  refine Eq.trans (rl_get (ix := 265) (ci := 1) (j := 3) (by decide +kernel) (by decide +kernel) (by decide +kernel) ck8) ?_
  refine Eq.trans (rl_icge (o := 63) 122 (by decide +kernel) (by decide)) ?_
  refine am_ite (fun h_1 => ?_) (fun h_1 => ?_)
  · skip
    refine Eq.trans (rl_aloadn (j := 0) (by decide +kernel) rfl) ?_
    refine Eq.trans (rl_getP (ix := 12) (ci := 8) (j := 0) (by decide +kernel) (by decide +kernel) (by decide +kernel) ck3 rfl) ?_
    refine Eq.trans (rl_aloadn (j := 0) (by decide +kernel) rfl) ?_
    refine Eq.trans (rl_getP (ix := 46) (ci := 8) (j := 7) (by decide +kernel) (by decide +kernel) (by decide +kernel) ck3 rfl) ?_
    refine Eq.trans (rl_getP (ix := 268) (ci := 1) (j := 2) (by decide +kernel) (by decide +kernel) (by decide +kernel) ck8 rfl) ?_
    refine Eq.trans (rl_iloadn (j := 1) (by decide +kernel) rfl) ?_
    refine Eq.trans (rl_aald (v := (11, 0, x1.toNatClampNeg)) (by decide +kernel) ka10 (fun h => if_pos (am_in_lt' h))) ?_
    refine am_ite (fun h_2 => ?_) (fun _ => rfl)
    refine Eq.trans (rl_aloadn (j := 0) (by decide +kernel) rfl) ?_
    refine Eq.trans (rl_getP (ix := 32) (ci := 8) (j := 5) (by decide +kernel) (by decide +kernel) (by decide +kernel) ck3 rfl) ?_
    refine Eq.trans (rl_inv (ix := 74) (n := 2) (o := 5) 39 [am_P (11, 0, x1.toNatClampNeg), am_P (6, 0, 0)] [] (by decide +kernel) (by decide +kernel) (by decide +kernel) (by decide +kernel) ⟨rfl, rfl⟩ rfl rfl (ck13 am_n0)) ?_
    rfl
  · skip
    refine Eq.trans (rl_aloadn (j := 0) (by decide +kernel) rfl) ?_
    refine Eq.trans (rl_getP (ix := 25) (ci := 8) (j := 4) (by decide +kernel) (by decide +kernel) (by decide +kernel) ck3 rfl) ?_
    refine Eq.trans (rl_inv (ix := 84) (n := 0) (o := 3) 23 [] [] (by decide +kernel) (by decide +kernel) (by decide +kernel) (by decide +kernel) ⟨rfl, rfl⟩ rfl rfl ck4) ?_
    rfl
theorem b99_82 {x1 s0 : Int32} {M : am_M} {w : am_W4}  : am_rn call 99 82 [some (am_P (3, 0, 0)), some (am_I x1)] [am_I s0] M (am_Z w) = if s0 = (-1 : Int32) then am_cb (call 22 [am_P (4, 0, 0)] (am_set M (6, 0, 0) 2 x1) (am_Z w)) fun v M' X' => am_rn call 99 105 [some (am_P (3, 0, 0)), some (am_I x1)] (v.toList ++ [am_P (13, 0, 0)]) M' X' else am_rn call 99 51 [some (am_P (3, 0, 0)), some (am_I (x1 + (nI 1)))] [] M (am_Z w) := by
  refine Eq.trans (rl_iconst (c := -1) (k := (-1 : Int32)) (by decide +kernel) (by decide)) ?_
  refine Eq.trans (rl_icne (o := 33) 116 (by decide +kernel) (by decide)) ?_
  refine am_ite (fun h_1 => ?_) (fun h_1 => ?_)
  · skip
    refine Eq.trans (rl_aloadn (j := 0) (by decide +kernel) rfl) ?_
    refine Eq.trans (rl_getP (ix := 32) (ci := 8) (j := 5) (by decide +kernel) (by decide +kernel) (by decide +kernel) ck3 rfl) ?_
    refine Eq.trans (rl_iloadn (j := 1) (by decide +kernel) rfl) ?_
    refine Eq.trans (rl_put (ix := 78) (ci := 6) (j := 2) (by decide +kernel) (by decide +kernel) (by decide +kernel) (by decide +kernel) ck6) ?_
    refine Eq.trans (rl_aloadn (j := 0) (by decide +kernel) rfl) ?_
    refine Eq.trans (rl_getP (ix := 12) (ci := 8) (j := 0) (by decide +kernel) (by decide +kernel) (by decide +kernel) ck3 rfl) ?_
    refine Eq.trans (rl_aloadn (j := 0) (by decide +kernel) rfl) ?_
    refine Eq.trans (rl_getP (ix := 25) (ci := 8) (j := 4) (by decide +kernel) (by decide +kernel) (by decide +kernel) ck3 rfl) ?_
    refine Eq.trans (rl_inv (ix := 66) (n := 0) (o := 3) 22 [] [am_P (13, 0, 0)] (by decide +kernel) (by decide +kernel) (by decide +kernel) (by decide +kernel) ⟨rfl, rfl⟩ rfl rfl ck4) ?_
    rfl
  · skip
    refine Eq.trans (rl_iinc (j := 1) (c := 1) (k := (nI 1)) (ls' := [some (am_P (3, 0, 0)), some (am_I (x1 + (nI 1)))]) (by decide +kernel) (by decide) rfl rfl) ?_
    refine Eq.trans (rl_goto (o := (-68)) 51 (by decide +kernel) (by decide)) ?_
    rfl
theorem b99_105 {x1 : Int32} {s0n : Nat} {M : am_M} {w : am_W4} (hs0n : s0n < 12) : am_rn call 99 105 [some (am_P (3, 0, 0)), some (am_I x1)] [am_P (13, s0n, 0), am_P (13, 0, 0)] M (am_Z w) = am_cb (call 34 [am_P (13, 0, 0), am_P (13, s0n, 0)] M (am_Z w)) fun v M' X' => am_rn call 99 108 [some (am_P (3, 0, 0)), some (am_I x1)] (v.toList ++ []) M' X' := by
  refine Eq.trans (rl_inv (ix := 70) (n := 1) (o := 5) 34 [am_P (13, s0n, 0)] [] (by decide +kernel) (by decide +kernel) (by decide +kernel) (by decide +kernel) ⟨rfl, rfl⟩ rfl rfl (ck13 am_n0)) ?_
  rfl
theorem b99_108 {x1 : Int32} {M : am_M} {w : am_W4}  : am_rn call 99 108 [some (am_P (3, 0, 0)), some (am_I x1)] [] M (am_Z w) = some (.inr 0, M, am_Z (am_bw w)) := by
  exact rl_throw (ix := 81) (E := 0) (ic := 83) (by decide +kernel) (by decide +kernel) (by decide +kernel) (by decide +kernel) (by decide +kernel) rfl rfl
theorem b99_129 {x1 : Int32} {M : am_M} {w : am_W4}  : am_rn call 99 129 [some (am_P (3, 0, 0)), some (am_I x1)] [] M (am_Z w) = some (.inl (some (am_I (M (8, 0, 0) 3))), M, (am_Z w)) := by
  refine Eq.trans (rl_aloadn (j := 0) (by decide +kernel) rfl) ?_
  refine Eq.trans (rl_getP (ix := 46) (ci := 8) (j := 7) (by decide +kernel) (by decide +kernel) (by decide +kernel) ck3 rfl) ?_
  refine Eq.trans (rl_get (ix := 265) (ci := 1) (j := 3) (by decide +kernel) (by decide +kernel) (by decide +kernel) ck8) ?_
  exact rl_iret (by decide +kernel) rfl
theorem e99 {d : Nat}  {M : am_M} {w : am_W4}  : am_ev (d + 1) 99 [am_P (3, 0, 0)] M (am_Z w) = am_cb ((am_ev d) 4 [am_P (8, 0, 0)] M (am_Z w)) fun v M' X' => am_rn (am_ev d) 99 8 [some (am_P (3, 0, 0)), none] (v.toList ++ [am_P (3, 0, 0)]) M' X' := (am_ev_eq d 99 _ M (am_Z w)).trans (b99_0)
theorem b100_0  {M : am_M} {w : am_W4}  : am_rn call 100 0 [some (am_P (3, 0, 0))] [] M (am_Z w) = some (.inl (some (am_I (M (3, 0, 0) 8))), M, (am_Z w)) := by
  refine Eq.trans (rl_aloadn (j := 0) (by decide +kernel) rfl) ?_
  refine Eq.trans (rl_get (ix := 50) (ci := 8) (j := 8) (by decide +kernel) (by decide +kernel) (by decide +kernel) ck3) ?_
  exact rl_iret (by decide +kernel) rfl
theorem e100 {d : Nat}  {M : am_M} {w : am_W4}  : am_ev (d + 1) 100 [am_P (3, 0, 0)] M (am_Z w) = some (.inl (some (am_I (M (3, 0, 0) 8))), M, (am_Z w)) := (am_ev_eq d 100 _ M (am_Z w)).trans (b100_0)
theorem b101_0 {x1 : Int32} {M : am_M} {w : am_W4}  : am_rn call 101 0 [some (am_P (3, 0, 0)), some (am_I x1)] [] M (am_Z w) = if x1 < 0 then some (.inr 2, M, am_Z (am_bw w)) else if (nI 2) < x1 then some (.inr 2, M, am_Z (am_bw w)) else if (M (6, 0, 0) 0) = 0 then some (.inr 3, M, am_Z (am_bw w)) else if x1 = (nI 0) then some (.inl (some (am_I (M (6, 0, 0) 0))), M, (am_Z w)) else if x1 = (nI 1) then some (.inl (some (am_I (M (6, 0, 0) 1))), M, (am_Z w)) else some (.inl (some (am_I (M (6, 0, 0) 2))), M, (am_Z w)) := by
  refine Eq.trans (rl_iloadn (j := 1) (by decide +kernel) rfl) ?_
  refine Eq.trans (rl_iflt (o := 8) 9 (by decide +kernel) (by decide)) ?_
  refine am_ite (fun h_1 => ?_) (fun h_1 => ?_)
  · skip
    exact rl_throw (ix := 121) (E := 2) (ic := 123) (by decide +kernel) (by decide +kernel) (by decide +kernel) (by decide +kernel) (by decide +kernel) rfl rfl
  · skip
    refine Eq.trans (rl_iloadn (j := 1) (by decide +kernel) rfl) ?_
    refine Eq.trans (rl_iconst (c := 2) (k := (nI 2)) (by decide +kernel) (by decide)) ?_
    refine Eq.trans (rl_icle (o := 11) 17 (by decide +kernel) (by decide)) ?_
    refine am_ite (fun h_2 => ?_) (fun h_2 => ?_)
    · skip
      exact rl_throw (ix := 121) (E := 2) (ic := 123) (by decide +kernel) (by decide +kernel) (by decide +kernel) (by decide +kernel) (by decide +kernel) rfl rfl
    · skip
      refine Eq.trans (rl_aloadn (j := 0) (by decide +kernel) rfl) ?_
      refine Eq.trans (rl_getP (ix := 32) (ci := 8) (j := 5) (by decide +kernel) (by decide +kernel) (by decide +kernel) ck3 rfl) ?_
      refine Eq.trans (rl_get (ix := 272) (ci := 6) (j := 0) (by decide +kernel) (by decide +kernel) (by decide +kernel) ck6) ?_
      refine Eq.trans (rl_ifne (o := 11) 35 (by decide +kernel) (by decide)) ?_
      refine am_ite (fun h_3 => ?_) (fun h_3 => ?_)
      · skip
        exact rl_throw (ix := 184) (E := 3) (ic := 186) (by decide +kernel) (by decide +kernel) (by decide +kernel) (by decide +kernel) (by decide +kernel) rfl rfl
      · skip
        refine Eq.trans (rl_iloadn (j := 1) (by decide +kernel) rfl) ?_
        refine Eq.trans (rl_ls (d := 44) (ps := #[(0, 28), (1, 36)]) 80 [(0, 64), (1, 72)] (by decide +kernel) (by decide +kernel) (by decide) (by decide +kernel)) ?_
        refine Eq.trans (rl_lk (nI 0) (by decide)) ?_
        refine am_ite (fun _ => ?_) (fun _ => ?_)
        · skip
          refine Eq.trans (rl_aloadn (j := 0) (by decide +kernel) rfl) ?_
          refine Eq.trans (rl_getP (ix := 32) (ci := 8) (j := 5) (by decide +kernel) (by decide +kernel) (by decide +kernel) ck3 rfl) ?_
          refine Eq.trans (rl_get (ix := 272) (ci := 6) (j := 0) (by decide +kernel) (by decide +kernel) (by decide +kernel) ck6) ?_
          exact rl_iret (by decide +kernel) rfl
        refine Eq.trans (rl_lk (nI 1) (by decide)) ?_
        refine am_ite (fun _ => ?_) (fun _ => ?_)
        · skip
          refine Eq.trans (rl_aloadn (j := 0) (by decide +kernel) rfl) ?_
          refine Eq.trans (rl_getP (ix := 32) (ci := 8) (j := 5) (by decide +kernel) (by decide +kernel) (by decide +kernel) ck3 rfl) ?_
          refine Eq.trans (rl_get (ix := 275) (ci := 6) (j := 1) (by decide +kernel) (by decide +kernel) (by decide +kernel) ck6) ?_
          exact rl_iret (by decide +kernel) rfl
        show am_rn call 101 80 _ _ _ _ = _
        refine Eq.trans (rl_aloadn (j := 0) (by decide +kernel) rfl) ?_
        refine Eq.trans (rl_getP (ix := 32) (ci := 8) (j := 5) (by decide +kernel) (by decide +kernel) (by decide +kernel) ck3 rfl) ?_
        refine Eq.trans (rl_get (ix := 78) (ci := 6) (j := 2) (by decide +kernel) (by decide +kernel) (by decide +kernel) ck6) ?_
        exact rl_iret (by decide +kernel) rfl
theorem e101 {d : Nat} {x1 : Int32} {M : am_M} {w : am_W4}  : am_ev (d + 1) 101 [am_P (3, 0, 0), am_I x1] M (am_Z w) = if x1 < 0 then some (.inr 2, M, am_Z (am_bw w)) else if (nI 2) < x1 then some (.inr 2, M, am_Z (am_bw w)) else if (M (6, 0, 0) 0) = 0 then some (.inr 3, M, am_Z (am_bw w)) else if x1 = (nI 0) then some (.inl (some (am_I (M (6, 0, 0) 0))), M, (am_Z w)) else if x1 = (nI 1) then some (.inl (some (am_I (M (6, 0, 0) 1))), M, (am_Z w)) else some (.inl (some (am_I (M (6, 0, 0) 2))), M, (am_Z w)) := (am_ev_eq d 101 _ M (am_Z w)).trans (b101_0)
theorem b102_0 {x1 : Int32} {M : am_M} {w : am_W4}  : am_rn call 102 0 [some (am_P (3, 0, 0)), some (am_I x1), none, none] [] M (am_Z w) = am_cb (call 93 [am_P (3, 0, 0), am_I x1] M (am_Z w)) fun v M' X' => am_rn call 102 5 [some (am_P (3, 0, 0)), some (am_I x1), none, none] (v.toList ++ []) M' X' := by
  refine Eq.trans (rl_aloadn (j := 0) (by decide +kernel) rfl) ?_
  refine Eq.trans (rl_iloadn (j := 1) (by decide +kernel) rfl) ?_
  refine Eq.trans (rl_inv (ix := 187) (n := 1) (o := 8) 93 [am_I x1] [] (by decide +kernel) (by decide +kernel) (by decide +kernel) (by decide +kernel) ⟨rfl, rfl⟩ rfl rfl ck3) ?_
  rfl
theorem b102_5 {x1 : Int32} {s0 : Nat} {M : am_M} {w : am_W4} (hs0 : s0 < 16) : am_rn call 102 5 [some (am_P (3, 0, 0)), some (am_I x1), none, none] [am_P (24, 0, s0)] M (am_Z w) = am_rn call 102 11 [some (am_P (3, 0, 0)), some (am_I x1), some (am_P (24, 0, s0)), none] [] (am_set M (3, 0, 0) 10 (nI 0)) (am_Z w) := by
  refine Eq.trans (rl_astoren (j := 2) (ls' := [some (am_P (3, 0, 0)), some (am_I x1), some (am_P (24, 0, s0)), none]) (by decide +kernel) rfl rfl) ?_
  refine Eq.trans (rl_aloadn (j := 0) (by decide +kernel) rfl) ?_
  refine Eq.trans (rl_iconst (c := 0) (k := (nI 0)) (by decide +kernel) (by decide)) ?_
  refine Eq.trans (rl_put (ix := 278) (ci := 8) (j := 10) (by decide +kernel) (by decide +kernel) (by decide +kernel) (by decide +kernel) ck3) ?_
  rfl
theorem b102_11 {x1 : Int32} {x2 : Nat} {M : am_M} {w : am_W4} (h2 : x2 < 16) : am_rn call 102 11 [some (am_P (3, 0, 0)), some (am_I x1), some (am_P (24, 0, x2)), none] [] M (am_Z w) = am_cb (call 103 [am_P (3, 0, 0), am_I (M (24, 0, x2) 0)] M (am_Z w)) fun v M' X' => am_rn call 102 19 [some (am_P (3, 0, 0)), some (am_I x1), some (am_P (24, 0, x2)), none] (v.toList ++ []) M' X' := by
  refine Eq.trans (rl_aloadn (j := 0) (by decide +kernel) rfl) ?_
  refine Eq.trans (rl_aloadn (j := 2) (by decide +kernel) rfl) ?_
  refine Eq.trans (rl_get (ix := 191) (ci := 4) (j := 0) (by decide +kernel) (by decide +kernel) (by decide +kernel) (ck24 am_n0 h2)) ?_
  refine Eq.trans (rl_inv (ix := 281) (n := 1) (o := 8) 103 [am_I (M (24, 0, x2) 0)] [] (by decide +kernel) (by decide +kernel) (by decide +kernel) (by decide +kernel) ⟨rfl, rfl⟩ rfl rfl ck3) ?_
  rfl
theorem b102_19 {x1 : Int32} {x2 : Nat} {M : am_M} {w : am_W4} (h2 : x2 < 16) : am_rn call 102 19 [some (am_P (3, 0, 0)), some (am_I x1), some (am_P (24, 0, x2)), none] [] M (am_Z w) = am_cb (call 104 [am_P (3, 0, 0), am_I (nI 62)] M (am_Z w)) fun v M' X' => am_rn call 102 25 [some (am_P (3, 0, 0)), some (am_I x1), some (am_P (24, 0, x2)), none] (v.toList ++ []) M' X' := by
  refine Eq.trans (rl_aloadn (j := 0) (by decide +kernel) rfl) ?_
  refine Eq.trans (rl_bipush (c := 62) (k := (nI 62)) (by decide +kernel) (by decide)) ?_
  refine Eq.trans (rl_inv (ix := 285) (n := 1) (o := 8) 104 [am_I (nI 62)] [] (by decide +kernel) (by decide +kernel) (by decide +kernel) (by decide +kernel) ⟨rfl, rfl⟩ rfl rfl ck3) ?_
  rfl
theorem b102_25 {x1 : Int32} {x2 : Nat} {M : am_M} {w : am_W4} (h2 : x2 < 16) : am_rn call 102 25 [some (am_P (3, 0, 0)), some (am_I x1), some (am_P (24, 0, x2)), none] [] M (am_Z w) = am_cb (call 103 [am_P (3, 0, 0), am_I (M (24, 0, x2) 1)] M (am_Z w)) fun v M' X' => am_rn call 102 33 [some (am_P (3, 0, 0)), some (am_I x1), some (am_P (24, 0, x2)), none] (v.toList ++ []) M' X' := by
  refine Eq.trans (rl_aloadn (j := 0) (by decide +kernel) rfl) ?_
  refine Eq.trans (rl_aloadn (j := 2) (by decide +kernel) rfl) ?_
  refine Eq.trans (rl_get (ix := 196) (ci := 4) (j := 1) (by decide +kernel) (by decide +kernel) (by decide +kernel) (ck24 am_n0 h2)) ?_
  refine Eq.trans (rl_inv (ix := 281) (n := 1) (o := 8) 103 [am_I (M (24, 0, x2) 1)] [] (by decide +kernel) (by decide +kernel) (by decide +kernel) (by decide +kernel) ⟨rfl, rfl⟩ rfl rfl ck3) ?_
  rfl
theorem b102_33 {x1 : Int32} {x2 : Nat} {M : am_M} {w : am_W4} (h2 : x2 < 16) : am_rn call 102 33 [some (am_P (3, 0, 0)), some (am_I x1), some (am_P (24, 0, x2)), none] [] M (am_Z w) = am_cb (call 104 [am_P (3, 0, 0), am_I (nI 58)] M (am_Z w)) fun v M' X' => am_rn call 102 39 [some (am_P (3, 0, 0)), some (am_I x1), some (am_P (24, 0, x2)), none] (v.toList ++ []) M' X' := by
  refine Eq.trans (rl_aloadn (j := 0) (by decide +kernel) rfl) ?_
  refine Eq.trans (rl_bipush (c := 58) (k := (nI 58)) (by decide +kernel) (by decide)) ?_
  refine Eq.trans (rl_inv (ix := 285) (n := 1) (o := 8) 104 [am_I (nI 58)] [] (by decide +kernel) (by decide +kernel) (by decide +kernel) (by decide +kernel) ⟨rfl, rfl⟩ rfl rfl ck3) ?_
  rfl
theorem b102_39 {x1 : Int32} {x2 : Nat} {M : am_M} {w : am_W4} (h2 : x2 < 16) : am_rn call 102 39 [some (am_P (3, 0, 0)), some (am_I x1), some (am_P (24, 0, x2)), none] [] M (am_Z w) = am_rn call 102 41 [some (am_P (3, 0, 0)), some (am_I x1), some (am_P (24, 0, x2)), some (am_I (nI 0))] [] M (am_Z w) := by
  refine Eq.trans (rl_iconst (c := 0) (k := (nI 0)) (by decide +kernel) (by decide)) ?_
  refine Eq.trans (rl_istoren (j := 3) (ls' := [some (am_P (3, 0, 0)), some (am_I x1), some (am_P (24, 0, x2)), some (am_I (nI 0))]) (by decide +kernel) rfl rfl) ?_
  rfl
theorem b102_41 {x1 x3 : Int32} {x2 : Nat} {M : am_M} {w : am_W4} (h2 : x2 < 16) : am_rn call 102 41 [some (am_P (3, 0, 0)), some (am_I x1), some (am_P (24, 0, x2)), some (am_I x3)] [] M (am_Z w) = if x3 < (M (24, 0, x2) 8) then if am_in x3 8 then if (M (25, 0, x2) x3.toNatClampNeg) = 0 then am_cb (call 104 [am_P (3, 0, 0), am_I (nI 63)] M (am_Z w)) fun v M' X' => am_rn call 102 64 [some (am_P (3, 0, 0)), some (am_I x1), some (am_P (24, 0, x2)), some (am_I x3)] (v.toList ++ []) M' X' else if am_in x3 8 then am_cb (call 103 [am_P (3, 0, 0), am_I (M (25, 0, x2) x3.toNatClampNeg)] M (am_Z w)) fun v M' X' => am_rn call 102 77 [some (am_P (3, 0, 0)), some (am_I x1), some (am_P (24, 0, x2)), some (am_I x3)] (v.toList ++ []) M' X' else none else none else if (M (24, 0, x2) 3) = 0 then am_cb (call 104 [am_P (3, 0, 0), am_I (nI 64)] M (am_Z w)) fun v M' X' => am_rn call 102 96 [some (am_P (3, 0, 0)), some (am_I x1), some (am_P (24, 0, x2)), some (am_I x3)] (v.toList ++ []) M' X' else if (M (24, 0, x2) 3) = (nI 2) then am_cb (call 104 [am_P (3, 0, 0), am_I (nI 120)] M (am_Z w)) fun v M' X' => am_rn call 102 121 [some (am_P (3, 0, 0)), some (am_I x1), some (am_P (24, 0, x2)), some (am_I x3)] (v.toList ++ []) M' X' else am_rn call 102 121 [some (am_P (3, 0, 0)), some (am_I x1), some (am_P (24, 0, x2)), some (am_I x3)] [] M (am_Z w) := by
  refine Eq.trans (rl_iloadn (j := 3) (by decide +kernel) rfl) ?_
  refine Eq.trans (rl_aloadn (j := 2) (by decide +kernel) rfl) ?_
  refine Eq.trans (rl_get (ix := 202) (ci := 4) (j := 8) (by decide +kernel) (by decide +kernel) (by decide +kernel) (ck24 am_n0 h2)) ?_
  refine Eq.trans (rl_icge (o := 37) 83 (by decide +kernel) (by decide)) ?_
  refine am_ite (fun h_1 => ?_) (fun h_1 => ?_)
  · skip
    refine Eq.trans (rl_aloadn (j := 2) (by decide +kernel) rfl) ?_
    refine Eq.trans (rl_getP (ix := 218) (ci := 4) (j := 9) (by decide +kernel) (by decide +kernel) (by decide +kernel) (ck24 am_n0 h2) rfl) ?_
    refine Eq.trans (rl_iloadn (j := 3) (by decide +kernel) rfl) ?_
    refine Eq.trans (rl_iald (by decide +kernel) (ka25 am_n0 h2)) ?_
    refine am_ite (fun h_2 => ?_) (fun _ => rfl)
    refine Eq.trans (rl_ifne (o := 12) 67 (by decide +kernel) (by decide)) ?_
    refine am_ite (fun h_3 => ?_) (fun h_3 => ?_)
    · skip
      refine Eq.trans (rl_aloadn (j := 0) (by decide +kernel) rfl) ?_
      refine Eq.trans (rl_bipush (c := 63) (k := (nI 63)) (by decide +kernel) (by decide)) ?_
      refine Eq.trans (rl_inv (ix := 285) (n := 1) (o := 8) 104 [am_I (nI 63)] [] (by decide +kernel) (by decide +kernel) (by decide +kernel) (by decide +kernel) ⟨rfl, rfl⟩ rfl rfl ck3) ?_
      rfl
    · skip
      refine Eq.trans (rl_aloadn (j := 0) (by decide +kernel) rfl) ?_
      refine Eq.trans (rl_aloadn (j := 2) (by decide +kernel) rfl) ?_
      refine Eq.trans (rl_getP (ix := 218) (ci := 4) (j := 9) (by decide +kernel) (by decide +kernel) (by decide +kernel) (ck24 am_n0 h2) rfl) ?_
      refine Eq.trans (rl_iloadn (j := 3) (by decide +kernel) rfl) ?_
      refine Eq.trans (rl_iald (by decide +kernel) (ka25 am_n0 h2)) ?_
      refine am_ite (fun h_4 => ?_) (fun _ => rfl)
      refine Eq.trans (rl_inv (ix := 281) (n := 1) (o := 8) 103 [am_I (M (25, 0, x2) x3.toNatClampNeg)] [] (by decide +kernel) (by decide +kernel) (by decide +kernel) (by decide +kernel) ⟨rfl, rfl⟩ rfl rfl ck3) ?_
      rfl
  · skip
    refine Eq.trans (rl_aloadn (j := 2) (by decide +kernel) rfl) ?_
    refine Eq.trans (rl_get (ix := 212) (ci := 4) (j := 3) (by decide +kernel) (by decide +kernel) (by decide +kernel) (ck24 am_n0 h2)) ?_
    refine Eq.trans (rl_ifne (o := 20) 107 (by decide +kernel) (by decide)) ?_
    refine am_ite (fun h_5 => ?_) (fun h_5 => ?_)
    · skip
      refine Eq.trans (rl_aloadn (j := 0) (by decide +kernel) rfl) ?_
      refine Eq.trans (rl_bipush (c := 64) (k := (nI 64)) (by decide +kernel) (by decide)) ?_
      refine Eq.trans (rl_inv (ix := 285) (n := 1) (o := 8) 104 [am_I (nI 64)] [] (by decide +kernel) (by decide +kernel) (by decide +kernel) (by decide +kernel) ⟨rfl, rfl⟩ rfl rfl ck3) ?_
      rfl
    · skip
      refine Eq.trans (rl_aloadn (j := 2) (by decide +kernel) rfl) ?_
      refine Eq.trans (rl_get (ix := 212) (ci := 4) (j := 3) (by decide +kernel) (by decide +kernel) (by decide +kernel) (ck24 am_n0 h2)) ?_
      refine Eq.trans (rl_iconst (c := 2) (k := (nI 2)) (by decide +kernel) (by decide)) ?_
      refine Eq.trans (rl_icne (o := 9) 121 (by decide +kernel) (by decide)) ?_
      refine am_ite (fun h_6 => ?_) (fun h_6 => ?_)
      · skip
        refine Eq.trans (rl_aloadn (j := 0) (by decide +kernel) rfl) ?_
        refine Eq.trans (rl_bipush (c := 120) (k := (nI 120)) (by decide +kernel) (by decide)) ?_
        refine Eq.trans (rl_inv (ix := 285) (n := 1) (o := 8) 104 [am_I (nI 120)] [] (by decide +kernel) (by decide +kernel) (by decide +kernel) (by decide +kernel) ⟨rfl, rfl⟩ rfl rfl ck3) ?_
        rfl
      · skip
        rfl
theorem b102_64 {x1 x3 : Int32} {x2 : Nat} {M : am_M} {w : am_W4} (h2 : x2 < 16) : am_rn call 102 64 [some (am_P (3, 0, 0)), some (am_I x1), some (am_P (24, 0, x2)), some (am_I x3)] [] M (am_Z w) = am_rn call 102 77 [some (am_P (3, 0, 0)), some (am_I x1), some (am_P (24, 0, x2)), some (am_I x3)] [] M (am_Z w) := by
  refine Eq.trans (rl_goto (o := 13) 77 (by decide +kernel) (by decide)) ?_
  rfl
theorem b102_77 {x1 x3 : Int32} {x2 : Nat} {M : am_M} {w : am_W4} (h2 : x2 < 16) : am_rn call 102 77 [some (am_P (3, 0, 0)), some (am_I x1), some (am_P (24, 0, x2)), some (am_I x3)] [] M (am_Z w) = am_rn call 102 41 [some (am_P (3, 0, 0)), some (am_I x1), some (am_P (24, 0, x2)), some (am_I (x3 + (nI 1)))] [] M (am_Z w) := by
  refine Eq.trans (rl_iinc (j := 3) (c := 1) (k := (nI 1)) (ls' := [some (am_P (3, 0, 0)), some (am_I x1), some (am_P (24, 0, x2)), some (am_I (x3 + (nI 1)))]) (by decide +kernel) (by decide) rfl rfl) ?_
  refine Eq.trans (rl_goto (o := (-39)) 41 (by decide +kernel) (by decide)) ?_
  rfl
theorem b102_96 {x1 x3 : Int32} {x2 : Nat} {M : am_M} {w : am_W4} (h2 : x2 < 16) : am_rn call 102 96 [some (am_P (3, 0, 0)), some (am_I x1), some (am_P (24, 0, x2)), some (am_I x3)] [] M (am_Z w) = am_cb (call 103 [am_P (3, 0, 0), am_I (M (24, 0, x2) 2)] M (am_Z w)) fun v M' X' => am_rn call 102 104 [some (am_P (3, 0, 0)), some (am_I x1), some (am_P (24, 0, x2)), some (am_I x3)] (v.toList ++ []) M' X' := by
  refine Eq.trans (rl_aloadn (j := 0) (by decide +kernel) rfl) ?_
  refine Eq.trans (rl_aloadn (j := 2) (by decide +kernel) rfl) ?_
  refine Eq.trans (rl_get (ix := 199) (ci := 4) (j := 2) (by decide +kernel) (by decide +kernel) (by decide +kernel) (ck24 am_n0 h2)) ?_
  refine Eq.trans (rl_inv (ix := 281) (n := 1) (o := 8) 103 [am_I (M (24, 0, x2) 2)] [] (by decide +kernel) (by decide +kernel) (by decide +kernel) (by decide +kernel) ⟨rfl, rfl⟩ rfl rfl ck3) ?_
  rfl
theorem b102_104 {x1 x3 : Int32} {x2 : Nat} {M : am_M} {w : am_W4} (h2 : x2 < 16) : am_rn call 102 104 [some (am_P (3, 0, 0)), some (am_I x1), some (am_P (24, 0, x2)), some (am_I x3)] [] M (am_Z w) = am_rn call 102 121 [some (am_P (3, 0, 0)), some (am_I x1), some (am_P (24, 0, x2)), some (am_I x3)] [] M (am_Z w) := by
  refine Eq.trans (rl_goto (o := 17) 121 (by decide +kernel) (by decide)) ?_
  rfl
theorem b102_121 {x1 x3 : Int32} {x2 : Nat} {M : am_M} {w : am_W4} (h2 : x2 < 16) : am_rn call 102 121 [some (am_P (3, 0, 0)), some (am_I x1), some (am_P (24, 0, x2)), some (am_I x3)] [] M (am_Z w) = some (.inl (some (am_I (M (3, 0, 0) 10))), M, (am_Z w)) := by
  refine Eq.trans (rl_aloadn (j := 0) (by decide +kernel) rfl) ?_
  refine Eq.trans (rl_get (ix := 278) (ci := 8) (j := 10) (by decide +kernel) (by decide +kernel) (by decide +kernel) ck3) ?_
  exact rl_iret (by decide +kernel) rfl
theorem e102 {d : Nat} {x1 : Int32} {M : am_M} {w : am_W4}  : am_ev (d + 1) 102 [am_P (3, 0, 0), am_I x1] M (am_Z w) = am_cb ((am_ev d) 93 [am_P (3, 0, 0), am_I x1] M (am_Z w)) fun v M' X' => am_rn (am_ev d) 102 5 [some (am_P (3, 0, 0)), some (am_I x1), none, none] (v.toList ++ []) M' X' := (am_ev_eq d 102 _ M (am_Z w)).trans (b102_0)
theorem b103_0 {x1 : Int32} {M : am_M} {w : am_W4}  : am_rn call 103 0 [some (am_P (3, 0, 0)), some (am_I x1)] [] M (am_Z w) = am_cb (call 104 [am_P (3, 0, 0), am_I (((nI 48) + x1).toUInt32 % 65536).toInt32] M (am_Z w)) fun v M' X' => am_rn call 103 9 [some (am_P (3, 0, 0)), some (am_I x1)] (v.toList ++ []) M' X' := by
  refine Eq.trans (rl_aloadn (j := 0) (by decide +kernel) rfl) ?_
  refine Eq.trans (rl_bipush (c := 48) (k := (nI 48)) (by decide +kernel) (by decide)) ?_
  refine Eq.trans (rl_iloadn (j := 1) (by decide +kernel) rfl) ?_
  refine Eq.trans (rl_iadd (by decide +kernel)) ?_
  refine Eq.trans (rl_i2c (by decide +kernel)) ?_
  refine Eq.trans (rl_inv (ix := 285) (n := 1) (o := 8) 104 [am_I (((nI 48) + x1).toUInt32 % 65536).toInt32] [] (by decide +kernel) (by decide +kernel) (by decide +kernel) (by decide +kernel) ⟨rfl, rfl⟩ rfl rfl ck3) ?_
  rfl
theorem b103_9 {x1 : Int32} {M : am_M} {w : am_W4}  : am_rn call 103 9 [some (am_P (3, 0, 0)), some (am_I x1)] [] M (am_Z w) = some (.inl none, M, (am_Z w)) := by
  exact rl_ret (by decide +kernel) rfl
theorem e103 {d : Nat} {x1 : Int32} {M : am_M} {w : am_W4}  : am_ev (d + 1) 103 [am_P (3, 0, 0), am_I x1] M (am_Z w) = am_cb ((am_ev d) 104 [am_P (3, 0, 0), am_I (((nI 48) + x1).toUInt32 % 65536).toInt32] M (am_Z w)) fun v M' X' => am_rn (am_ev d) 103 9 [some (am_P (3, 0, 0)), some (am_I x1)] (v.toList ++ []) M' X' := (am_ev_eq d 103 _ M (am_Z w)).trans (b103_0)
theorem b104_0 {x1 : Int32} {M : am_M} {w : am_W4}  : am_rn call 104 0 [some (am_P (3, 0, 0)), some (am_I x1)] [] M (am_Z w) = if (M (3, 0, 0) 10) < (nI 14) then if am_in (M (3, 0, 0) 10) 14 then am_rn call 104 19 [some (am_P (3, 0, 0)), some (am_I x1)] [] (am_set M (12, 0, 0) (M (3, 0, 0) 10).toNatClampNeg (vp_nar .char x1)) (am_Z w) else none else some (.inl none, M, (am_Z w)) := by
  refine Eq.trans (rl_aloadn (j := 0) (by decide +kernel) rfl) ?_
  refine Eq.trans (rl_get (ix := 278) (ci := 8) (j := 10) (by decide +kernel) (by decide +kernel) (by decide +kernel) ck3) ?_
  refine Eq.trans (rl_bipush (c := 14) (k := (nI 14)) (by decide +kernel) (by decide)) ?_
  refine Eq.trans (rl_icge (o := 23) 29 (by decide +kernel) (by decide)) ?_
  refine am_ite (fun h_1 => ?_) (fun h_1 => ?_)
  · skip
    refine Eq.trans (rl_aloadn (j := 0) (by decide +kernel) rfl) ?_
    refine Eq.trans (rl_getP (ix := 54) (ci := 8) (j := 9) (by decide +kernel) (by decide +kernel) (by decide +kernel) ck3 rfl) ?_
    refine Eq.trans (rl_aloadn (j := 0) (by decide +kernel) rfl) ?_
    refine Eq.trans (rl_get (ix := 278) (ci := 8) (j := 10) (by decide +kernel) (by decide +kernel) (by decide +kernel) ck3) ?_
    refine Eq.trans (rl_iloadn (j := 1) (by decide +kernel) rfl) ?_
    refine Eq.trans (rl_cast (by decide +kernel) ka12) ?_
    refine am_ite (fun h_2 => ?_) (fun _ => rfl)
    rfl
  · skip
    exact rl_ret (by decide +kernel) rfl
theorem b104_19 {x1 : Int32} {M : am_M} {w : am_W4}  : am_rn call 104 19 [some (am_P (3, 0, 0)), some (am_I x1)] [] M (am_Z w) = some (.inl none, (am_set M (3, 0, 0) 10 ((M (3, 0, 0) 10) + (nI 1))), (am_Z w)) := by
  refine Eq.trans (rl_aloadn (j := 0) (by decide +kernel) rfl) ?_
  refine Eq.trans (rl_dup (by decide +kernel) rfl) ?_
  refine Eq.trans (rl_get (ix := 278) (ci := 8) (j := 10) (by decide +kernel) (by decide +kernel) (by decide +kernel) ck3) ?_
  refine Eq.trans (rl_iconst (c := 1) (k := (nI 1)) (by decide +kernel) (by decide)) ?_
  refine Eq.trans (rl_iadd (by decide +kernel)) ?_
  refine Eq.trans (rl_put (ix := 278) (ci := 8) (j := 10) (by decide +kernel) (by decide +kernel) (by decide +kernel) (by decide +kernel) ck3) ?_
  exact rl_ret (by decide +kernel) rfl
theorem e104 {d : Nat} {x1 : Int32} {M : am_M} {w : am_W4}  : am_ev (d + 1) 104 [am_P (3, 0, 0), am_I x1] M (am_Z w) = if (M (3, 0, 0) 10) < (nI 14) then if am_in (M (3, 0, 0) 10) 14 then am_rn (am_ev d) 104 19 [some (am_P (3, 0, 0)), some (am_I x1)] [] (am_set M (12, 0, 0) (M (3, 0, 0) 10).toNatClampNeg (vp_nar .char x1)) (am_Z w) else none else some (.inl none, M, (am_Z w)) := (am_ev_eq d 104 _ M (am_Z w)).trans (b104_0)
theorem b105_0 {x1 : Int32} {M : am_M} {w : am_W4}  : am_rn call 105 0 [some (am_P (3, 0, 0)), some (am_I x1)] [] M (am_Z w) = if x1 < 0 then some (.inr 1, M, am_Z (am_bw w)) else if x1 < (M (3, 0, 0) 10) then if am_in x1 14 then if am_pc 2 (M (12, 0, 0) x1.toNatClampNeg) = true then some (.inl (some (am_I (M (12, 0, 0) x1.toNatClampNeg))), M, (am_Z w)) else none else none else some (.inr 1, M, am_Z (am_bw w)) := by
  refine Eq.trans (rl_iloadn (j := 1) (by decide +kernel) rfl) ?_
  refine Eq.trans (rl_iflt (o := 11) 12 (by decide +kernel) (by decide)) ?_
  refine am_ite (fun h_1 => ?_) (fun h_1 => ?_)
  · skip
    exact rl_throw (ix := 174) (E := 1) (ic := 176) (by decide +kernel) (by decide +kernel) (by decide +kernel) (by decide +kernel) (by decide +kernel) rfl rfl
  · skip
    refine Eq.trans (rl_iloadn (j := 1) (by decide +kernel) rfl) ?_
    refine Eq.trans (rl_aloadn (j := 0) (by decide +kernel) rfl) ?_
    refine Eq.trans (rl_get (ix := 278) (ci := 8) (j := 10) (by decide +kernel) (by decide +kernel) (by decide +kernel) ck3) ?_
    refine Eq.trans (rl_iclt (o := 11) 20 (by decide +kernel) (by decide)) ?_
    refine am_ite (fun h_2 => ?_) (fun h_2 => ?_)
    · skip
      refine Eq.trans (rl_aloadn (j := 0) (by decide +kernel) rfl) ?_
      refine Eq.trans (rl_getP (ix := 54) (ci := 8) (j := 9) (by decide +kernel) (by decide +kernel) (by decide +kernel) ck3 rfl) ?_
      refine Eq.trans (rl_iloadn (j := 1) (by decide +kernel) rfl) ?_
      refine Eq.trans (rl_cald (by decide +kernel) ka12) ?_
      refine am_ite (fun h_3 => ?_) (fun _ => rfl)
      exact rl_cret (by decide +kernel) rfl
    · skip
      exact rl_throw (ix := 174) (E := 1) (ic := 176) (by decide +kernel) (by decide +kernel) (by decide +kernel) (by decide +kernel) (by decide +kernel) rfl rfl
theorem e105 {d : Nat} {x1 : Int32} {M : am_M} {w : am_W4}  : am_ev (d + 1) 105 [am_P (3, 0, 0), am_I x1] M (am_Z w) = if x1 < 0 then some (.inr 1, M, am_Z (am_bw w)) else if x1 < (M (3, 0, 0) 10) then if am_in x1 14 then if am_pc 2 (M (12, 0, 0) x1.toNatClampNeg) = true then some (.inl (some (am_I (M (12, 0, 0) x1.toNatClampNeg))), M, (am_Z w)) else none else none else some (.inr 1, M, am_Z (am_bw w)) := (am_ev_eq d 105 _ M (am_Z w)).trans (b105_0)
theorem b106_0 {x1 : Int32} {M : am_M} {w : am_W4}  : am_rn call 106 0 [some (am_P (3, 0, 0)), some (am_I x1)] [] M (am_Z w) = if x1 = (nI 0) then some (.inl (some (am_I (M (13, 0, 0) 0))), M, (am_Z w)) else if x1 = (nI 1) then am_cb (call 38 [am_P (13, 0, 0)] M (am_Z w)) fun v M' X' => am_rn call 106 79 [some (am_P (3, 0, 0)), some (am_I x1)] (v.toList ++ []) M' X' else if x1 = (nI 2) then some (.inl (some (am_I (M (13, 0, 0) 1))), M, (am_Z w)) else if x1 = (nI 3) then am_cb (call 58 [am_P (13, 0, 0)] M (am_Z w)) fun v M' X' => am_rn call 106 95 [some (am_P (3, 0, 0)), some (am_I x1)] (v.toList ++ []) M' X' else if x1 = (nI 4) then some (.inl (some (am_I (M (13, 0, 0) 5))), M, (am_Z w)) else if x1 = (nI 5) then am_cb (call 59 [am_P (13, 0, 0), am_I (nI 0)] M (am_Z w)) fun v M' X' => am_rn call 106 112 [some (am_P (3, 0, 0)), some (am_I x1)] (v.toList ++ []) M' X' else if x1 = (nI 6) then am_cb (call 59 [am_P (13, 0, 0), am_I (nI 1)] M (am_Z w)) fun v M' X' => am_rn call 106 121 [some (am_P (3, 0, 0)), some (am_I x1)] (v.toList ++ []) M' X' else if x1 = (nI 7) then am_cb (call 59 [am_P (13, 0, 0), am_I (nI 2)] M (am_Z w)) fun v M' X' => am_rn call 106 130 [some (am_P (3, 0, 0)), some (am_I x1)] (v.toList ++ []) M' X' else if x1 = (nI 8) then am_cb (call 60 [am_P (13, 0, 0)] M (am_Z w)) fun v M' X' => am_rn call 106 138 [some (am_P (3, 0, 0)), some (am_I x1)] (v.toList ++ []) M' X' else if x1 = (nI 9) then am_cb (call 61 [am_P (13, 0, 0)] M (am_Z w)) fun v M' X' => am_rn call 106 146 [some (am_P (3, 0, 0)), some (am_I x1)] (v.toList ++ []) M' X' else if x1 = (nI 10) then some (.inl (some (am_I (M (4, 0, 0) 2))), M, (am_Z w)) else if x1 = (nI 11) then some (.inl (some (am_I (M (8, 0, 0) 1))), M, (am_Z w)) else some (.inr 2, M, am_Z (am_bw w)) := by
  refine Eq.trans (rl_iloadn (j := 1) (by decide +kernel) rfl) ?_
  refine Eq.trans (rl_ts (d := 162) (lo := 0) (hi := 11) (os := #[63, 71, 79, 87, 95, 103, 112, 121, 130, 138, 146, 154]) 163 [64, 72, 80, 88, 96, 104, 113, 122, 131, 139, 147, 155] (by decide +kernel) (by decide +kernel)) ?_
  refine Eq.trans (rl_sw (nI 0) (by decide)) ?_
  refine am_ite (fun _ => ?_) (fun _ => ?_)
  · skip
    refine Eq.trans (rl_aloadn (j := 0) (by decide +kernel) rfl) ?_
    refine Eq.trans (rl_getP (ix := 12) (ci := 8) (j := 0) (by decide +kernel) (by decide +kernel) (by decide +kernel) ck3 rfl) ?_
    refine Eq.trans (rl_get (ix := 155) (ci := 5) (j := 0) (by decide +kernel) (by decide +kernel) (by decide +kernel) (ck13 am_n0)) ?_
    exact rl_iret (by decide +kernel) rfl
  refine Eq.trans (rl_sw (nI 1) (by decide)) ?_
  refine am_ite (fun _ => ?_) (fun _ => ?_)
  · skip
    refine Eq.trans (rl_aloadn (j := 0) (by decide +kernel) rfl) ?_
    refine Eq.trans (rl_getP (ix := 12) (ci := 8) (j := 0) (by decide +kernel) (by decide +kernel) (by decide +kernel) ck3 rfl) ?_
    refine Eq.trans (rl_inv (ix := 114) (n := 0) (o := 5) 38 [] [] (by decide +kernel) (by decide +kernel) (by decide +kernel) (by decide +kernel) ⟨rfl, rfl⟩ rfl rfl (ck13 am_n0)) ?_
    rfl
  refine Eq.trans (rl_sw (nI 2) (by decide)) ?_
  refine am_ite (fun _ => ?_) (fun _ => ?_)
  · skip
    refine Eq.trans (rl_aloadn (j := 0) (by decide +kernel) rfl) ?_
    refine Eq.trans (rl_getP (ix := 12) (ci := 8) (j := 0) (by decide +kernel) (by decide +kernel) (by decide +kernel) ck3 rfl) ?_
    refine Eq.trans (rl_get (ix := 161) (ci := 5) (j := 1) (by decide +kernel) (by decide +kernel) (by decide +kernel) (ck13 am_n0)) ?_
    exact rl_iret (by decide +kernel) rfl
  refine Eq.trans (rl_sw (nI 3) (by decide)) ?_
  refine am_ite (fun _ => ?_) (fun _ => ?_)
  · skip
    refine Eq.trans (rl_aloadn (j := 0) (by decide +kernel) rfl) ?_
    refine Eq.trans (rl_getP (ix := 12) (ci := 8) (j := 0) (by decide +kernel) (by decide +kernel) (by decide +kernel) ck3 rfl) ?_
    refine Eq.trans (rl_inv (ix := 288) (n := 0) (o := 5) 58 [] [] (by decide +kernel) (by decide +kernel) (by decide +kernel) (by decide +kernel) ⟨rfl, rfl⟩ rfl rfl (ck13 am_n0)) ?_
    rfl
  refine Eq.trans (rl_sw (nI 4) (by decide)) ?_
  refine am_ite (fun _ => ?_) (fun _ => ?_)
  · skip
    refine Eq.trans (rl_aloadn (j := 0) (by decide +kernel) rfl) ?_
    refine Eq.trans (rl_getP (ix := 12) (ci := 8) (j := 0) (by decide +kernel) (by decide +kernel) (by decide +kernel) ck3 rfl) ?_
    refine Eq.trans (rl_get (ix := 244) (ci := 5) (j := 5) (by decide +kernel) (by decide +kernel) (by decide +kernel) (ck13 am_n0)) ?_
    exact rl_iret (by decide +kernel) rfl
  refine Eq.trans (rl_sw (nI 5) (by decide)) ?_
  refine am_ite (fun _ => ?_) (fun _ => ?_)
  · skip
    refine Eq.trans (rl_aloadn (j := 0) (by decide +kernel) rfl) ?_
    refine Eq.trans (rl_getP (ix := 12) (ci := 8) (j := 0) (by decide +kernel) (by decide +kernel) (by decide +kernel) ck3 rfl) ?_
    refine Eq.trans (rl_iconst (c := 0) (k := (nI 0)) (by decide +kernel) (by decide)) ?_
    refine Eq.trans (rl_inv (ix := 291) (n := 1) (o := 5) 59 [am_I (nI 0)] [] (by decide +kernel) (by decide +kernel) (by decide +kernel) (by decide +kernel) ⟨rfl, rfl⟩ rfl rfl (ck13 am_n0)) ?_
    rfl
  refine Eq.trans (rl_sw (nI 6) (by decide)) ?_
  refine am_ite (fun _ => ?_) (fun _ => ?_)
  · skip
    refine Eq.trans (rl_aloadn (j := 0) (by decide +kernel) rfl) ?_
    refine Eq.trans (rl_getP (ix := 12) (ci := 8) (j := 0) (by decide +kernel) (by decide +kernel) (by decide +kernel) ck3 rfl) ?_
    refine Eq.trans (rl_iconst (c := 1) (k := (nI 1)) (by decide +kernel) (by decide)) ?_
    refine Eq.trans (rl_inv (ix := 291) (n := 1) (o := 5) 59 [am_I (nI 1)] [] (by decide +kernel) (by decide +kernel) (by decide +kernel) (by decide +kernel) ⟨rfl, rfl⟩ rfl rfl (ck13 am_n0)) ?_
    rfl
  refine Eq.trans (rl_sw (nI 7) (by decide)) ?_
  refine am_ite (fun _ => ?_) (fun _ => ?_)
  · skip
    refine Eq.trans (rl_aloadn (j := 0) (by decide +kernel) rfl) ?_
    refine Eq.trans (rl_getP (ix := 12) (ci := 8) (j := 0) (by decide +kernel) (by decide +kernel) (by decide +kernel) ck3 rfl) ?_
    refine Eq.trans (rl_iconst (c := 2) (k := (nI 2)) (by decide +kernel) (by decide)) ?_
    refine Eq.trans (rl_inv (ix := 291) (n := 1) (o := 5) 59 [am_I (nI 2)] [] (by decide +kernel) (by decide +kernel) (by decide +kernel) (by decide +kernel) ⟨rfl, rfl⟩ rfl rfl (ck13 am_n0)) ?_
    rfl
  refine Eq.trans (rl_sw (nI 8) (by decide)) ?_
  refine am_ite (fun _ => ?_) (fun _ => ?_)
  · skip
    refine Eq.trans (rl_aloadn (j := 0) (by decide +kernel) rfl) ?_
    refine Eq.trans (rl_getP (ix := 12) (ci := 8) (j := 0) (by decide +kernel) (by decide +kernel) (by decide +kernel) ck3 rfl) ?_
    refine Eq.trans (rl_inv (ix := 294) (n := 0) (o := 5) 60 [] [] (by decide +kernel) (by decide +kernel) (by decide +kernel) (by decide +kernel) ⟨rfl, rfl⟩ rfl rfl (ck13 am_n0)) ?_
    rfl
  refine Eq.trans (rl_sw (nI 9) (by decide)) ?_
  refine am_ite (fun _ => ?_) (fun _ => ?_)
  · skip
    refine Eq.trans (rl_aloadn (j := 0) (by decide +kernel) rfl) ?_
    refine Eq.trans (rl_getP (ix := 12) (ci := 8) (j := 0) (by decide +kernel) (by decide +kernel) (by decide +kernel) ck3 rfl) ?_
    refine Eq.trans (rl_inv (ix := 297) (n := 0) (o := 5) 61 [] [] (by decide +kernel) (by decide +kernel) (by decide +kernel) (by decide +kernel) ⟨rfl, rfl⟩ rfl rfl (ck13 am_n0)) ?_
    rfl
  refine Eq.trans (rl_sw (nI 10) (by decide)) ?_
  refine am_ite (fun _ => ?_) (fun _ => ?_)
  · skip
    refine Eq.trans (rl_aloadn (j := 0) (by decide +kernel) rfl) ?_
    refine Eq.trans (rl_getP (ix := 25) (ci := 8) (j := 4) (by decide +kernel) (by decide +kernel) (by decide +kernel) ck3 rfl) ?_
    refine Eq.trans (rl_get (ix := 300) (ci := 3) (j := 2) (by decide +kernel) (by decide +kernel) (by decide +kernel) ck4) ?_
    exact rl_iret (by decide +kernel) rfl
  refine Eq.trans (rl_sw (nI 11) (by decide)) ?_
  refine am_ite (fun _ => ?_) (fun _ => ?_)
  · skip
    refine Eq.trans (rl_aloadn (j := 0) (by decide +kernel) rfl) ?_
    refine Eq.trans (rl_getP (ix := 46) (ci := 8) (j := 7) (by decide +kernel) (by decide +kernel) (by decide +kernel) ck3 rfl) ?_
    refine Eq.trans (rl_get (ix := 254) (ci := 1) (j := 1) (by decide +kernel) (by decide +kernel) (by decide +kernel) ck8) ?_
    exact rl_iret (by decide +kernel) rfl
  show am_rn call 106 163 _ _ _ _ = _
  exact rl_throw (ix := 121) (E := 2) (ic := 123) (by decide +kernel) (by decide +kernel) (by decide +kernel) (by decide +kernel) (by decide +kernel) rfl rfl
theorem b106_79 {x1 s0 : Int32} {M : am_M} {w : am_W4}  : am_rn call 106 79 [some (am_P (3, 0, 0)), some (am_I x1)] [am_I s0] M (am_Z w) = some (.inl (some (am_I s0)), M, (am_Z w)) := by
  exact rl_iret (by decide +kernel) rfl
theorem b106_95 {x1 s0 : Int32} {M : am_M} {w : am_W4}  : am_rn call 106 95 [some (am_P (3, 0, 0)), some (am_I x1)] [am_I s0] M (am_Z w) = some (.inl (some (am_I s0)), M, (am_Z w)) := by
  exact rl_iret (by decide +kernel) rfl
theorem b106_112 {x1 s0 : Int32} {M : am_M} {w : am_W4}  : am_rn call 106 112 [some (am_P (3, 0, 0)), some (am_I x1)] [am_I s0] M (am_Z w) = some (.inl (some (am_I s0)), M, (am_Z w)) := by
  exact rl_iret (by decide +kernel) rfl
theorem b106_121 {x1 s0 : Int32} {M : am_M} {w : am_W4}  : am_rn call 106 121 [some (am_P (3, 0, 0)), some (am_I x1)] [am_I s0] M (am_Z w) = some (.inl (some (am_I s0)), M, (am_Z w)) := by
  exact rl_iret (by decide +kernel) rfl
theorem b106_130 {x1 s0 : Int32} {M : am_M} {w : am_W4}  : am_rn call 106 130 [some (am_P (3, 0, 0)), some (am_I x1)] [am_I s0] M (am_Z w) = some (.inl (some (am_I s0)), M, (am_Z w)) := by
  exact rl_iret (by decide +kernel) rfl
theorem b106_138 {x1 s0 : Int32} {M : am_M} {w : am_W4}  : am_rn call 106 138 [some (am_P (3, 0, 0)), some (am_I x1)] [am_I s0] M (am_Z w) = some (.inl (some (am_I s0)), M, (am_Z w)) := by
  exact rl_iret (by decide +kernel) rfl
theorem b106_146 {x1 s0 : Int32} {M : am_M} {w : am_W4}  : am_rn call 106 146 [some (am_P (3, 0, 0)), some (am_I x1)] [am_I s0] M (am_Z w) = some (.inl (some (am_I s0)), M, (am_Z w)) := by
  exact rl_iret (by decide +kernel) rfl
theorem e106 {d : Nat} {x1 : Int32} {M : am_M} {w : am_W4}  : am_ev (d + 1) 106 [am_P (3, 0, 0), am_I x1] M (am_Z w) = if x1 = (nI 0) then some (.inl (some (am_I (M (13, 0, 0) 0))), M, (am_Z w)) else if x1 = (nI 1) then am_cb ((am_ev d) 38 [am_P (13, 0, 0)] M (am_Z w)) fun v M' X' => am_rn (am_ev d) 106 79 [some (am_P (3, 0, 0)), some (am_I x1)] (v.toList ++ []) M' X' else if x1 = (nI 2) then some (.inl (some (am_I (M (13, 0, 0) 1))), M, (am_Z w)) else if x1 = (nI 3) then am_cb ((am_ev d) 58 [am_P (13, 0, 0)] M (am_Z w)) fun v M' X' => am_rn (am_ev d) 106 95 [some (am_P (3, 0, 0)), some (am_I x1)] (v.toList ++ []) M' X' else if x1 = (nI 4) then some (.inl (some (am_I (M (13, 0, 0) 5))), M, (am_Z w)) else if x1 = (nI 5) then am_cb ((am_ev d) 59 [am_P (13, 0, 0), am_I (nI 0)] M (am_Z w)) fun v M' X' => am_rn (am_ev d) 106 112 [some (am_P (3, 0, 0)), some (am_I x1)] (v.toList ++ []) M' X' else if x1 = (nI 6) then am_cb ((am_ev d) 59 [am_P (13, 0, 0), am_I (nI 1)] M (am_Z w)) fun v M' X' => am_rn (am_ev d) 106 121 [some (am_P (3, 0, 0)), some (am_I x1)] (v.toList ++ []) M' X' else if x1 = (nI 7) then am_cb ((am_ev d) 59 [am_P (13, 0, 0), am_I (nI 2)] M (am_Z w)) fun v M' X' => am_rn (am_ev d) 106 130 [some (am_P (3, 0, 0)), some (am_I x1)] (v.toList ++ []) M' X' else if x1 = (nI 8) then am_cb ((am_ev d) 60 [am_P (13, 0, 0)] M (am_Z w)) fun v M' X' => am_rn (am_ev d) 106 138 [some (am_P (3, 0, 0)), some (am_I x1)] (v.toList ++ []) M' X' else if x1 = (nI 9) then am_cb ((am_ev d) 61 [am_P (13, 0, 0)] M (am_Z w)) fun v M' X' => am_rn (am_ev d) 106 146 [some (am_P (3, 0, 0)), some (am_I x1)] (v.toList ++ []) M' X' else if x1 = (nI 10) then some (.inl (some (am_I (M (4, 0, 0) 2))), M, (am_Z w)) else if x1 = (nI 11) then some (.inl (some (am_I (M (8, 0, 0) 1))), M, (am_Z w)) else some (.inr 2, M, am_Z (am_bw w)) := (am_ev_eq d 106 _ M (am_Z w)).trans (b106_0)
theorem b107_0  {M : am_M} {w : am_W4}  : am_rn call 107 0 [some (am_P (3, 0, 0))] [] M (am_Z w) = if (M (4, 0, 0) 2) = 0 then some (.inr 4, M, am_Z (am_bw w)) else am_cb (call 24 [am_P (4, 0, 0)] M (am_Z w)) fun v M' X' => am_rn call 107 29 [some (am_P (3, 0, 0))] (v.toList ++ [am_P (13, 0, 0)]) M' X' := by
  refine Eq.trans (rl_aloadn (j := 0) (by decide +kernel) rfl) ?_
  refine Eq.trans (rl_getP (ix := 25) (ci := 8) (j := 4) (by decide +kernel) (by decide +kernel) (by decide +kernel) ck3 rfl) ?_
  refine Eq.trans (rl_get (ix := 300) (ci := 3) (j := 2) (by decide +kernel) (by decide +kernel) (by decide +kernel) ck4) ?_
  refine Eq.trans (rl_ifne (o := 11) 18 (by decide +kernel) (by decide)) ?_
  refine am_ite (fun h_1 => ?_) (fun h_1 => ?_)
  · skip
    exact rl_throw (ix := 255) (E := 4) (ic := 257) (by decide +kernel) (by decide +kernel) (by decide +kernel) (by decide +kernel) (by decide +kernel) rfl rfl
  · skip
    refine Eq.trans (rl_aloadn (j := 0) (by decide +kernel) rfl) ?_
    refine Eq.trans (rl_getP (ix := 12) (ci := 8) (j := 0) (by decide +kernel) (by decide +kernel) (by decide +kernel) ck3 rfl) ?_
    refine Eq.trans (rl_aloadn (j := 0) (by decide +kernel) rfl) ?_
    refine Eq.trans (rl_getP (ix := 25) (ci := 8) (j := 4) (by decide +kernel) (by decide +kernel) (by decide +kernel) ck3 rfl) ?_
    refine Eq.trans (rl_inv (ix := 303) (n := 0) (o := 3) 24 [] [am_P (13, 0, 0)] (by decide +kernel) (by decide +kernel) (by decide +kernel) (by decide +kernel) ⟨rfl, rfl⟩ rfl rfl ck4) ?_
    rfl
theorem b107_29 {s0n : Nat} {M : am_M} {w : am_W4} (hs0n : s0n < 12) : am_rn call 107 29 [some (am_P (3, 0, 0))] [am_P (13, s0n, 0), am_P (13, 0, 0)] M (am_Z w) = am_cb (call 34 [am_P (13, 0, 0), am_P (13, s0n, 0)] M (am_Z w)) fun v M' X' => am_rn call 107 32 [some (am_P (3, 0, 0))] (v.toList ++ []) M' X' := by
  refine Eq.trans (rl_inv (ix := 70) (n := 1) (o := 5) 34 [am_P (13, s0n, 0)] [] (by decide +kernel) (by decide +kernel) (by decide +kernel) (by decide +kernel) ⟨rfl, rfl⟩ rfl rfl (ck13 am_n0)) ?_
  rfl
theorem b107_32  {M : am_M} {w : am_W4}  : am_rn call 107 32 [some (am_P (3, 0, 0))] [] M (am_Z w) = some (.inl (some (am_I (M (4, 0, 0) 2))), M, (am_Z w)) := by
  refine Eq.trans (rl_aloadn (j := 0) (by decide +kernel) rfl) ?_
  refine Eq.trans (rl_getP (ix := 25) (ci := 8) (j := 4) (by decide +kernel) (by decide +kernel) (by decide +kernel) ck3 rfl) ?_
  refine Eq.trans (rl_get (ix := 300) (ci := 3) (j := 2) (by decide +kernel) (by decide +kernel) (by decide +kernel) ck4) ?_
  exact rl_iret (by decide +kernel) rfl
theorem e107 {d : Nat}  {M : am_M} {w : am_W4}  : am_ev (d + 1) 107 [am_P (3, 0, 0)] M (am_Z w) = if (M (4, 0, 0) 2) = 0 then some (.inr 4, M, am_Z (am_bw w)) else am_cb ((am_ev d) 24 [am_P (4, 0, 0)] M (am_Z w)) fun v M' X' => am_rn (am_ev d) 107 29 [some (am_P (3, 0, 0))] (v.toList ++ [am_P (13, 0, 0)]) M' X' := (am_ev_eq d 107 _ M (am_Z w)).trans (b107_0)
theorem b108_0  {M : am_M} {w : am_W4}  : am_rn call 108 0 [some (am_P (3, 0, 0))] [] M (am_Z w) = am_cb (call 34 [am_P (13, 2, 0), am_P (13, 0, 0)] M (am_Z w)) fun v M' X' => am_rn call 108 11 [some (am_P (3, 0, 0))] (v.toList ++ []) M' X' := by
  refine Eq.trans (rl_aloadn (j := 0) (by decide +kernel) rfl) ?_
  refine Eq.trans (rl_getP (ix := 19) (ci := 8) (j := 2) (by decide +kernel) (by decide +kernel) (by decide +kernel) ck3 rfl) ?_
  refine Eq.trans (rl_aloadn (j := 0) (by decide +kernel) rfl) ?_
  refine Eq.trans (rl_getP (ix := 12) (ci := 8) (j := 0) (by decide +kernel) (by decide +kernel) (by decide +kernel) ck3 rfl) ?_
  refine Eq.trans (rl_inv (ix := 70) (n := 1) (o := 5) 34 [am_P (13, 0, 0)] [] (by decide +kernel) (by decide +kernel) (by decide +kernel) (by decide +kernel) ⟨rfl, rfl⟩ rfl rfl (ck13 am_n2)) ?_
  rfl
theorem b108_11  {M : am_M} {w : am_W4}  : am_rn call 108 11 [some (am_P (3, 0, 0))] [] M (am_Z w) = am_rn call 108 16 [some (am_P (3, 0, 0))] [] (am_set M (3, 0, 0) 3 (nI 1)) (am_Z w) := by
  refine Eq.trans (rl_aloadn (j := 0) (by decide +kernel) rfl) ?_
  refine Eq.trans (rl_iconst (c := 1) (k := (nI 1)) (by decide +kernel) (by decide)) ?_
  refine Eq.trans (rl_putZk (ix := 306) (ci := 8) (j := 3) (by decide +kernel) (by decide +kernel) (by decide +kernel) (by decide +kernel) ck3 rfl) ?_
  rfl
theorem b108_16  {M : am_M} {w : am_W4}  : am_rn call 108 16 [some (am_P (3, 0, 0))] [] M (am_Z w) = some (.inl (some (am_I (M (13, 0, 0) 0))), M, (am_Z w)) := by
  refine Eq.trans (rl_aloadn (j := 0) (by decide +kernel) rfl) ?_
  refine Eq.trans (rl_getP (ix := 12) (ci := 8) (j := 0) (by decide +kernel) (by decide +kernel) (by decide +kernel) ck3 rfl) ?_
  refine Eq.trans (rl_get (ix := 155) (ci := 5) (j := 0) (by decide +kernel) (by decide +kernel) (by decide +kernel) (ck13 am_n0)) ?_
  exact rl_iret (by decide +kernel) rfl
theorem e108 {d : Nat}  {M : am_M} {w : am_W4}  : am_ev (d + 1) 108 [am_P (3, 0, 0)] M (am_Z w) = am_cb ((am_ev d) 34 [am_P (13, 2, 0), am_P (13, 0, 0)] M (am_Z w)) fun v M' X' => am_rn (am_ev d) 108 11 [some (am_P (3, 0, 0))] (v.toList ++ []) M' X' := (am_ev_eq d 108 _ M (am_Z w)).trans (b108_0)
theorem b109_0  {M : am_M} {w : am_W4}  : am_rn call 109 0 [some (am_P (3, 0, 0))] [] M (am_Z w) = if (M (3, 0, 0) 3) = 0 then some (.inr 4, M, am_Z (am_bw w)) else am_cb (call 34 [am_P (13, 0, 0), am_P (13, 2, 0)] M (am_Z w)) fun v M' X' => am_rn call 109 26 [some (am_P (3, 0, 0))] (v.toList ++ []) M' X' := by
  refine Eq.trans (rl_aloadn (j := 0) (by decide +kernel) rfl) ?_
  refine Eq.trans (rl_get (ix := 306) (ci := 8) (j := 3) (by decide +kernel) (by decide +kernel) (by decide +kernel) ck3) ?_
  refine Eq.trans (rl_ifne (o := 11) 15 (by decide +kernel) (by decide)) ?_
  refine am_ite (fun h_1 => ?_) (fun h_1 => ?_)
  · skip
    exact rl_throw (ix := 255) (E := 4) (ic := 257) (by decide +kernel) (by decide +kernel) (by decide +kernel) (by decide +kernel) (by decide +kernel) rfl rfl
  · skip
    refine Eq.trans (rl_aloadn (j := 0) (by decide +kernel) rfl) ?_
    refine Eq.trans (rl_getP (ix := 12) (ci := 8) (j := 0) (by decide +kernel) (by decide +kernel) (by decide +kernel) ck3 rfl) ?_
    refine Eq.trans (rl_aloadn (j := 0) (by decide +kernel) rfl) ?_
    refine Eq.trans (rl_getP (ix := 19) (ci := 8) (j := 2) (by decide +kernel) (by decide +kernel) (by decide +kernel) ck3 rfl) ?_
    refine Eq.trans (rl_inv (ix := 70) (n := 1) (o := 5) 34 [am_P (13, 2, 0)] [] (by decide +kernel) (by decide +kernel) (by decide +kernel) (by decide +kernel) ⟨rfl, rfl⟩ rfl rfl (ck13 am_n0)) ?_
    rfl
theorem b109_26  {M : am_M} {w : am_W4}  : am_rn call 109 26 [some (am_P (3, 0, 0))] [] M (am_Z w) = am_rn call 109 34 [some (am_P (3, 0, 0))] [] (am_set M (4, 0, 0) 2 (nI 0)) (am_Z w) := by
  refine Eq.trans (rl_aloadn (j := 0) (by decide +kernel) rfl) ?_
  refine Eq.trans (rl_getP (ix := 25) (ci := 8) (j := 4) (by decide +kernel) (by decide +kernel) (by decide +kernel) ck3 rfl) ?_
  refine Eq.trans (rl_iconst (c := 0) (k := (nI 0)) (by decide +kernel) (by decide)) ?_
  refine Eq.trans (rl_put (ix := 300) (ci := 3) (j := 2) (by decide +kernel) (by decide +kernel) (by decide +kernel) (by decide +kernel) ck4) ?_
  rfl
theorem b109_34  {M : am_M} {w : am_W4}  : am_rn call 109 34 [some (am_P (3, 0, 0))] [] M (am_Z w) = some (.inl (some (am_I (M (13, 0, 0) 0))), M, (am_Z w)) := by
  refine Eq.trans (rl_aloadn (j := 0) (by decide +kernel) rfl) ?_
  refine Eq.trans (rl_getP (ix := 12) (ci := 8) (j := 0) (by decide +kernel) (by decide +kernel) (by decide +kernel) ck3 rfl) ?_
  refine Eq.trans (rl_get (ix := 155) (ci := 5) (j := 0) (by decide +kernel) (by decide +kernel) (by decide +kernel) (ck13 am_n0)) ?_
  exact rl_iret (by decide +kernel) rfl
theorem e109 {d : Nat}  {M : am_M} {w : am_W4}  : am_ev (d + 1) 109 [am_P (3, 0, 0)] M (am_Z w) = if (M (3, 0, 0) 3) = 0 then some (.inr 4, M, am_Z (am_bw w)) else am_cb ((am_ev d) 34 [am_P (13, 0, 0), am_P (13, 2, 0)] M (am_Z w)) fun v M' X' => am_rn (am_ev d) 109 26 [some (am_P (3, 0, 0))] (v.toList ++ []) M' X' := (am_ev_eq d 109 _ M (am_Z w)).trans (b109_0)
theorem b110_0 {x0 : Int32} {M : am_M} {w : am_W4}  : am_rn call 110 0 [some (am_I x0)] [] M (am_Z w) = if x0 < 0 then some (.inl (some (am_I (nI 0))), M, (am_Z w)) else if (nI 9) < x0 then some (.inl (some (am_I (nI 0))), M, (am_Z w)) else some (.inl (some (am_I (nI 1))), M, (am_Z w)) := by
  refine Eq.trans (rl_iloadn (j := 0) (by decide +kernel) rfl) ?_
  refine Eq.trans (rl_iflt (o := 13) 14 (by decide +kernel) (by decide)) ?_
  refine am_ite (fun h_1 => ?_) (fun h_1 => ?_)
  · skip
    refine Eq.trans (rl_iconst (c := 0) (k := (nI 0)) (by decide +kernel) (by decide)) ?_
    exact rl_zretk (by decide +kernel) rfl rfl
  · skip
    refine Eq.trans (rl_iloadn (j := 0) (by decide +kernel) rfl) ?_
    refine Eq.trans (rl_bipush (c := 9) (k := (nI 9)) (by decide +kernel) (by decide)) ?_
    refine Eq.trans (rl_icgt (o := 7) 14 (by decide +kernel) (by decide)) ?_
    refine am_ite (fun h_2 => ?_) (fun h_2 => ?_)
    · skip
      refine Eq.trans (rl_iconst (c := 0) (k := (nI 0)) (by decide +kernel) (by decide)) ?_
      exact rl_zretk (by decide +kernel) rfl rfl
    · skip
      refine Eq.trans (rl_iconst (c := 1) (k := (nI 1)) (by decide +kernel) (by decide)) ?_
      refine Eq.trans (rl_goto (o := 4) 15 (by decide +kernel) (by decide)) ?_
      exact rl_zretk (by decide +kernel) rfl rfl
theorem e110 {d : Nat} {x0 : Int32} {M : am_M} {w : am_W4}  : am_ev (d + 1) 110 [am_I x0] M (am_Z w) = if x0 < 0 then some (.inl (some (am_I (nI 0))), M, (am_Z w)) else if (nI 9) < x0 then some (.inl (some (am_I (nI 0))), M, (am_Z w)) else some (.inl (some (am_I (nI 1))), M, (am_Z w)) := (am_ev_eq d 110 _ M (am_Z w)).trans (b110_0)
theorem b111_0 {x0 : Int32} {M : am_M} {w : am_W4}  : am_rn call 111 0 [some (am_I x0)] [] M (am_Z w) = if x0 < 0 then some (.inl (some (am_I (nI 0))), M, (am_Z w)) else if x0 < (nI 24) then some (.inl (some (am_I (nI 1))), M, (am_Z w)) else some (.inl (some (am_I (nI 0))), M, (am_Z w)) := by
  refine Eq.trans (rl_iloadn (j := 0) (by decide +kernel) rfl) ?_
  refine Eq.trans (rl_iflt (o := 13) 14 (by decide +kernel) (by decide)) ?_
  refine am_ite (fun h_1 => ?_) (fun h_1 => ?_)
  · skip
    refine Eq.trans (rl_iconst (c := 0) (k := (nI 0)) (by decide +kernel) (by decide)) ?_
    exact rl_zretk (by decide +kernel) rfl rfl
  · skip
    refine Eq.trans (rl_iloadn (j := 0) (by decide +kernel) rfl) ?_
    refine Eq.trans (rl_bipush (c := 24) (k := (nI 24)) (by decide +kernel) (by decide)) ?_
    refine Eq.trans (rl_icge (o := 7) 14 (by decide +kernel) (by decide)) ?_
    refine am_ite (fun h_2 => ?_) (fun h_2 => ?_)
    · skip
      refine Eq.trans (rl_iconst (c := 1) (k := (nI 1)) (by decide +kernel) (by decide)) ?_
      refine Eq.trans (rl_goto (o := 4) 15 (by decide +kernel) (by decide)) ?_
      exact rl_zretk (by decide +kernel) rfl rfl
    · skip
      refine Eq.trans (rl_iconst (c := 0) (k := (nI 0)) (by decide +kernel) (by decide)) ?_
      exact rl_zretk (by decide +kernel) rfl rfl
theorem e111 {d : Nat} {x0 : Int32} {M : am_M} {w : am_W4}  : am_ev (d + 1) 111 [am_I x0] M (am_Z w) = if x0 < 0 then some (.inl (some (am_I (nI 0))), M, (am_Z w)) else if x0 < (nI 24) then some (.inl (some (am_I (nI 1))), M, (am_Z w)) else some (.inl (some (am_I (nI 0))), M, (am_Z w)) := (am_ev_eq d 111 _ M (am_Z w)).trans (b111_0)
theorem b112_0 {x0 x1 : Int32} {M : am_M} {w : am_W4}  : am_rn call 112 0 [some (am_I x0), some (am_I x1)] [] M (am_Z w) = some (.inl (some (am_I (((((nI 3) * x0) + x1) + (nI 1)) - ((((nI 3) * x0) + x1) + (nI 1)) / (nI 10) * (nI 10)))), M, (am_Z w)) := by
  refine Eq.trans (rl_iconst (c := 3) (k := (nI 3)) (by decide +kernel) (by decide)) ?_
  refine Eq.trans (rl_iloadn (j := 0) (by decide +kernel) rfl) ?_
  refine Eq.trans (rl_imul (by decide +kernel)) ?_
  refine Eq.trans (rl_iloadn (j := 1) (by decide +kernel) rfl) ?_
  refine Eq.trans (rl_iadd (by decide +kernel)) ?_
  refine Eq.trans (rl_iconst (c := 1) (k := (nI 1)) (by decide +kernel) (by decide)) ?_
  refine Eq.trans (rl_iadd (by decide +kernel)) ?_
  refine Eq.trans (rl_bipush (c := 10) (k := (nI 10)) (by decide +kernel) (by decide)) ?_
  refine Eq.trans (rl_irem (by decide +kernel) rfl) ?_
  exact rl_iret (by decide +kernel) rfl
theorem e112 {d : Nat} {x0 x1 : Int32} {M : am_M} {w : am_W4}  : am_ev (d + 1) 112 [am_I x0, am_I x1] M (am_Z w) = some (.inl (some (am_I (((((nI 3) * x0) + x1) + (nI 1)) - ((((nI 3) * x0) + x1) + (nI 1)) / (nI 10) * (nI 10)))), M, (am_Z w)) := (am_ev_eq d 112 _ M (am_Z w)).trans (b112_0)
end AmBl
