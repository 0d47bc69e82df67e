section AmBl
variable {call : Nat → List am_V → am_M → am_X → Option am_R}
theorem b150_0 {x1 : Int32} {M : am_M} {w : am_W4}  : am_rn call 150 0 [some (am_P (30, 0, 0)), some (am_I x1)] [] M (am_Z w) = am_cb (call 129 [am_P (30, 0, 0), am_I x1, am_I (nI 2)] M (am_Z w)) fun v M' X' => am_rn call 150 6 [some (am_P (30, 0, 0)), some (am_I x1)] (v.toList ++ []) M' X' := by
  refine Eq.trans (rl_aloadn (j := 0) (by decide +kernel) rfl) ?_
  refine Eq.trans (rl_iloadn (j := 1) (by decide +kernel) rfl) ?_
  refine Eq.trans (rl_iconst (c := 2) (k := (nI 2)) (by decide +kernel) (by decide)) ?_
  refine Eq.trans (rl_inv (ix := 119) (n := 2) (o := 9) 129 [am_I x1, am_I (nI 2)] [] (by decide +kernel) (by decide +kernel) (by decide +kernel) (by decide +kernel) ⟨rfl, rfl⟩ rfl rfl ck30) ?_
  rfl
theorem b150_6 {x1 s0 : Int32} {M : am_M} {w : am_W4}  : am_rn call 150 6 [some (am_P (30, 0, 0)), some (am_I x1)] [am_I s0] M (am_Z w) = am_cb (call 129 [am_P (30, 0, 0), am_I x1, am_I (nI 1)] M (am_Z w)) fun v M' X' => am_rn call 150 12 [some (am_P (30, 0, 0)), some (am_I x1)] (v.toList ++ [am_I s0]) M' X' := by
  refine Eq.trans (rl_aloadn (j := 0) (by decide +kernel) rfl) ?_
  refine Eq.trans (rl_iloadn (j := 1) (by decide +kernel) rfl) ?_
  refine Eq.trans (rl_iconst (c := 1) (k := (nI 1)) (by decide +kernel) (by decide)) ?_
  refine Eq.trans (rl_inv (ix := 119) (n := 2) (o := 9) 129 [am_I x1, am_I (nI 1)] [am_I s0] (by decide +kernel) (by decide +kernel) (by decide +kernel) (by decide +kernel) ⟨rfl, rfl⟩ rfl rfl ck30) ?_
  rfl
theorem b150_12 {x1 s0 s1 : Int32} {M : am_M} {w : am_W4}  : am_rn call 150 12 [some (am_P (30, 0, 0)), some (am_I x1)] [am_I s0, am_I s1] M (am_Z w) = am_cb (call 129 [am_P (30, 0, 0), am_I x1, am_I (nI 2)] M (am_Z w)) fun v M' X' => am_rn call 150 18 [some (am_P (30, 0, 0)), some (am_I x1)] (v.toList ++ [am_I s0, am_I s1]) M' X' := by
  refine Eq.trans (rl_aloadn (j := 0) (by decide +kernel) rfl) ?_
  refine Eq.trans (rl_iloadn (j := 1) (by decide +kernel) rfl) ?_
  refine Eq.trans (rl_iconst (c := 2) (k := (nI 2)) (by decide +kernel) (by decide)) ?_
  refine Eq.trans (rl_inv (ix := 119) (n := 2) (o := 9) 129 [am_I x1, am_I (nI 2)] [am_I s0, am_I s1] (by decide +kernel) (by decide +kernel) (by decide +kernel) (by decide +kernel) ⟨rfl, rfl⟩ rfl rfl ck30) ?_
  rfl
theorem b150_18 {x1 s0 s1 s2 : Int32} {M : am_M} {w : am_W4}  : am_rn call 150 18 [some (am_P (30, 0, 0)), some (am_I x1)] [am_I s0, am_I s1, am_I s2] M (am_Z w) = if s0 < s1 then some (.inl (some (am_I (s2 + (nI 1)))), M, (am_Z w)) else some (.inl (some (am_I (s2 + (-1 : Int32)))), M, (am_Z w)) := by
  refine Eq.trans (rl_icle (o := 7) 25 (by decide +kernel) (by decide)) ?_
  refine am_ite (fun h_1 => ?_) (fun h_1 => ?_)
  · skip
    refine Eq.trans (rl_iconst (c := 1) (k := (nI 1)) (by decide +kernel) (by decide)) ?_
    refine Eq.trans (rl_goto (o := 4) 26 (by decide +kernel) (by decide)) ?_
    refine Eq.trans (rl_iadd (by decide +kernel)) ?_
    exact rl_iret (by decide +kernel) rfl
  · skip
    refine Eq.trans (rl_iconst (c := -1) (k := (-1 : Int32)) (by decide +kernel) (by decide)) ?_
    refine Eq.trans (rl_iadd (by decide +kernel)) ?_
    exact rl_iret (by decide +kernel) rfl
theorem e150 {d : Nat} {x1 : Int32} {M : am_M} {w : am_W4}  : am_ev (d + 1) 150 [am_P (30, 0, 0), am_I x1] M (am_Z w) = am_cb ((am_ev d) 129 [am_P (30, 0, 0), am_I x1, am_I (nI 2)] M (am_Z w)) fun v M' X' => am_rn (am_ev d) 150 6 [some (am_P (30, 0, 0)), some (am_I x1)] (v.toList ++ []) M' X' := (am_ev_eq d 150 _ M (am_Z w)).trans (b150_0)
theorem b151_0 {x1 x2 : Int32} {M : am_M} {w : am_W4}  : am_rn call 151 0 [some (am_P (30, 0, 0)), some (am_I x1), some (am_I x2), none, none, none] [] M (am_Z w) = am_cb (call 150 [am_P (30, 0, 0), am_I x1] M (am_Z w)) fun v M' X' => am_rn call 151 5 [some (am_P (30, 0, 0)), some (am_I x1), some (am_I x2), none, none, none] (v.toList ++ []) M' X' := by
  refine Eq.trans (rl_aloadn (j := 0) (by decide +kernel) rfl) ?_
  refine Eq.trans (rl_iloadn (j := 1) (by decide +kernel) rfl) ?_
  refine Eq.trans (rl_inv (ix := 136) (n := 1) (o := 9) 150 [am_I x1] [] (by decide +kernel) (by decide +kernel) (by decide +kernel) (by decide +kernel) ⟨rfl, rfl⟩ rfl rfl ck30) ?_
  rfl
theorem b151_5 {x1 x2 s0 : Int32} {M : am_M} {w : am_W4}  : am_rn call 151 5 [some (am_P (30, 0, 0)), some (am_I x1), some (am_I x2), none, none, none] [am_I s0] M (am_Z w) = am_cb (call 129 [am_P (30, 0, 0), am_I x1, am_I (nI 4)] M (am_Z w)) fun v M' X' => am_rn call 151 16 [some (am_P (30, 0, 0)), some (am_I x1), some (am_I x2), some (am_I s0), none, none] (v.toList ++ [am_I (nI 11), am_I x1, am_P (30, 0, 0)]) M' X' := by
  refine Eq.trans (rl_istoren (j := 3) (ls' := [some (am_P (30, 0, 0)), some (am_I x1), some (am_I x2), some (am_I s0), none, none]) (by decide +kernel) rfl rfl) ?_
  refine Eq.trans (rl_aloadn (j := 0) (by decide +kernel) rfl) ?_
  refine Eq.trans (rl_iloadn (j := 1) (by decide +kernel) rfl) ?_
  refine Eq.trans (rl_bipush (c := 11) (k := (nI 11)) (by decide +kernel) (by decide)) ?_
  refine Eq.trans (rl_aloadn (j := 0) (by decide +kernel) rfl) ?_
  refine Eq.trans (rl_iloadn (j := 1) (by decide +kernel) rfl) ?_
  refine Eq.trans (rl_iconst (c := 4) (k := (nI 4)) (by decide +kernel) (by decide)) ?_
  refine Eq.trans (rl_inv (ix := 119) (n := 2) (o := 9) 129 [am_I x1, am_I (nI 4)] [am_I (nI 11), am_I x1, am_P (30, 0, 0)] (by decide +kernel) (by decide +kernel) (by decide +kernel) (by decide +kernel) ⟨rfl, rfl⟩ rfl rfl ck30) ?_
  rfl
theorem b151_16 {x1 x2 x3 s0 s2 : Int32} {M : am_M} {w : am_W4}  : am_rn call 151 16 [some (am_P (30, 0, 0)), some (am_I x1), some (am_I x2), some (am_I x3), none, none] [am_I s0, am_I (nI 11), am_I s2, am_P (30, 0, 0)] M (am_Z w) = am_cb (call 129 [am_P (30, 0, 0), am_I s2, am_I ((nI 11) + s0)] M (am_Z w)) fun v M' X' => am_rn call 151 20 [some (am_P (30, 0, 0)), some (am_I x1), some (am_I x2), some (am_I x3), none, none] (v.toList ++ []) M' X' := by
  refine Eq.trans (rl_iadd (by decide +kernel)) ?_
  refine Eq.trans (rl_inv (ix := 119) (n := 2) (o := 9) 129 [am_I s2, am_I ((nI 11) + s0)] [] (by decide +kernel) (by decide +kernel) (by decide +kernel) (by decide +kernel) ⟨rfl, rfl⟩ rfl rfl ck30) ?_
  rfl
theorem b151_20 {x1 x2 x3 s0 : Int32} {M : am_M} {w : am_W4}  : am_rn call 151 20 [some (am_P (30, 0, 0)), some (am_I x1), some (am_I x2), some (am_I x3), none, none] [am_I s0] M (am_Z w) = am_cb (call 129 [am_P (30, 0, 0), am_I x1, am_I (nI 2)] M (am_Z w)) fun v M' X' => am_rn call 151 36 [some (am_P (30, 0, 0)), some (am_I x1), some (am_I x2), some (am_I x3), some (am_I s0), none] (v.toList ++ [am_I (nI 6), am_I (nI 12), am_P (31, 0, 0)]) M' X' := by
  refine Eq.trans (rl_istore (j := 4) (ls' := [some (am_P (30, 0, 0)), some (am_I x1), some (am_I x2), some (am_I x3), some (am_I s0), none]) (by decide +kernel) rfl rfl) ?_
  refine Eq.trans (rl_aloadn (j := 0) (by decide +kernel) rfl) ?_
  refine Eq.trans (rl_getP (ix := 9) (ci := 9) (j := 0) (by decide +kernel) (by decide +kernel) (by decide +kernel) ck30 rfl) ?_
  refine Eq.trans (rl_bipush (c := 12) (k := (nI 12)) (by decide +kernel) (by decide)) ?_
  refine Eq.trans (rl_bipush (c := 6) (k := (nI 6)) (by decide +kernel) (by decide)) ?_
  refine Eq.trans (rl_aloadn (j := 0) (by decide +kernel) rfl) ?_
  refine Eq.trans (rl_iloadn (j := 1) (by decide +kernel) rfl) ?_
  refine Eq.trans (rl_iconst (c := 2) (k := (nI 2)) (by decide +kernel) (by decide)) ?_
  refine Eq.trans (rl_inv (ix := 119) (n := 2) (o := 9) 129 [am_I x1, am_I (nI 2)] [am_I (nI 6), am_I (nI 12), am_P (31, 0, 0)] (by decide +kernel) (by decide +kernel) (by decide +kernel) (by decide +kernel) ⟨rfl, rfl⟩ rfl rfl ck30) ?_
  rfl
theorem b151_36 {x1 x2 x3 x4 s0 : Int32} {M : am_M} {w : am_W4}  : am_rn call 151 36 [some (am_P (30, 0, 0)), some (am_I x1), some (am_I x2), some (am_I x3), some (am_I x4), none] [am_I s0, am_I (nI 6), am_I (nI 12), am_P (31, 0, 0)] M (am_Z w) = if am_in (((nI 12) + ((nI 6) * s0)) + (nI 4)) 364 then if am_in (((nI 12) + ((nI 6) * s0)) + (nI 4)) 364 then if x2 = 0 then am_rn call 151 63 [some (am_P (30, 0, 0)), some (am_I x1), some (am_I x2), some (am_I x3), some (am_I x4), none] [] (am_set M (31, 0, 0) (((nI 12) + ((nI 6) * s0)) + (nI 4)).toNatClampNeg ((M (31, 0, 0) (((nI 12) + ((nI 6) * s0)) + (nI 4)).toNatClampNeg) + (nI 1))) (am_Z w) else am_cb (call 129 [am_P (30, 0, 0), am_I x1, am_I (nI 2)] (am_set M (31, 0, 0) (((nI 12) + ((nI 6) * s0)) + (nI 4)).toNatClampNeg ((M (31, 0, 0) (((nI 12) + ((nI 6) * s0)) + (nI 4)).toNatClampNeg) + (nI 1))) (am_Z w)) fun v M' X' => am_rn call 151 56 [some (am_P (30, 0, 0)), some (am_I x1), some (am_I x2), some (am_I x3), some (am_I x4), none] (v.toList ++ [am_P (30, 0, 0)]) M' X' else none else none := by
  refine Eq.trans (rl_imul (by decide +kernel)) ?_
  refine Eq.trans (rl_iadd (by decide +kernel)) ?_
  refine Eq.trans (rl_iconst (c := 4) (k := (nI 4)) (by decide +kernel) (by decide)) ?_
  refine Eq.trans (rl_iadd (by decide +kernel)) ?_
  refine Eq.trans (rl_dup2 (by decide +kernel) rfl rfl) ?_
  refine Eq.trans (rl_iald (by decide +kernel) ka31) ?_
  refine am_ite (fun h_1 => ?_) (fun _ => rfl)
  refine Eq.trans (rl_iconst (c := 1) (k := (nI 1)) (by decide +kernel) (by decide)) ?_
  refine Eq.trans (rl_iadd (by decide +kernel)) ?_
  refine Eq.trans (rl_iast (by decide +kernel) ka31) ?_
  refine am_ite (fun h_2 => ?_) (fun _ => rfl)
  refine Eq.trans (rl_iloadn (j := 2) (by decide +kernel) rfl) ?_
  refine Eq.trans (rl_ifeq (o := 17) 63 (by decide +kernel) (by decide)) ?_
  refine am_ite (fun h_3 => ?_) (fun h_3 => ?_)
  · skip
    rfl
  · skip
    refine Eq.trans (rl_aloadn (j := 0) (by decide +kernel) rfl) ?_
    refine Eq.trans (rl_aloadn (j := 0) (by decide +kernel) rfl) ?_
    refine Eq.trans (rl_iloadn (j := 1) (by decide +kernel) rfl) ?_
    refine Eq.trans (rl_iconst (c := 2) (k := (nI 2)) (by decide +kernel) (by decide)) ?_
    refine Eq.trans (rl_inv (ix := 119) (n := 2) (o := 9) 129 [am_I x1, am_I (nI 2)] [am_P (30, 0, 0)] (by decide +kernel) (by decide +kernel) (by decide +kernel) (by decide +kernel) ⟨rfl, rfl⟩ rfl rfl ck30) ?_
    rfl
theorem b151_56 {x1 x2 x3 x4 s0 : Int32} {M : am_M} {w : am_W4}  : am_rn call 151 56 [some (am_P (30, 0, 0)), some (am_I x1), some (am_I x2), some (am_I x3), some (am_I x4), none] [am_I s0, am_P (30, 0, 0)] M (am_Z w) = am_cb (call 148 [am_P (30, 0, 0), am_I s0, am_I x3] M (am_Z w)) fun v M' X' => am_rn call 151 60 [some (am_P (30, 0, 0)), some (am_I x1), some (am_I x2), some (am_I x3), some (am_I x4), none] (v.toList ++ []) M' X' := by
  refine Eq.trans (rl_iloadn (j := 3) (by decide +kernel) rfl) ?_
  refine Eq.trans (rl_inv (ix := 139) (n := 2) (o := 9) 148 [am_I s0, am_I x3] [] (by decide +kernel) (by decide +kernel) (by decide +kernel) (by decide +kernel) ⟨rfl, rfl⟩ rfl rfl ck30) ?_
  rfl
theorem b151_60 {x1 x2 x3 x4 s0 : Int32} {M : am_M} {w : am_W4}  : am_rn call 151 60 [some (am_P (30, 0, 0)), some (am_I x1), some (am_I x2), some (am_I x3), some (am_I x4), none] [am_I s0] M (am_Z w) = if s0 = 0 then am_rn call 151 63 [some (am_P (30, 0, 0)), some (am_I x1), some (am_I x2), some (am_I x3), some (am_I x4), none] [] M (am_Z w) else am_rn call 151 71 [some (am_P (30, 0, 0)), some (am_I x1), some (am_I x2), some (am_I x3), some (am_I x4), none] [] M (am_Z w) := by
  refine Eq.trans (rl_ifne (o := 11) 71 (by decide +kernel) (by decide)) ?_
  refine am_ite (fun h_1 => ?_) (fun h_1 => ?_)
  · skip
    rfl
  · skip
    rfl
theorem b151_63 {x1 x2 x3 x4 : Int32} {M : am_M} {w : am_W4}  : am_rn call 151 63 [some (am_P (30, 0, 0)), some (am_I x1), some (am_I x2), some (am_I x3), some (am_I x4), none] [] M (am_Z w) = am_cb (call 130 [am_P (30, 0, 0), am_I x1, am_I (nI 9), am_I (nI 0)] M (am_Z w)) fun v M' X' => am_rn call 151 71 [some (am_P (30, 0, 0)), some (am_I x1), some (am_I x2), some (am_I x3), some (am_I x4), none] (v.toList ++ []) M' X' := by
  refine Eq.trans (rl_aloadn (j := 0) (by decide +kernel) rfl) ?_
  refine Eq.trans (rl_iloadn (j := 1) (by decide +kernel) rfl) ?_
  refine Eq.trans (rl_bipush (c := 9) (k := (nI 9)) (by decide +kernel) (by decide)) ?_
  refine Eq.trans (rl_iconst (c := 0) (k := (nI 0)) (by decide +kernel) (by decide)) ?_
  refine Eq.trans (rl_inv (ix := 109) (n := 3) (o := 9) 130 [am_I x1, am_I (nI 9), am_I (nI 0)] [] (by decide +kernel) (by decide +kernel) (by decide +kernel) (by decide +kernel) ⟨rfl, rfl⟩ rfl rfl ck30) ?_
  rfl
theorem b151_71 {x1 x2 x3 x4 : Int32} {M : am_M} {w : am_W4}  : am_rn call 151 71 [some (am_P (30, 0, 0)), some (am_I x1), some (am_I x2), some (am_I x3), some (am_I x4), none] [] M (am_Z w) = am_cb (call 129 [am_P (30, 0, 0), am_I x1, am_I (nI 5)] M (am_Z w)) fun v M' X' => am_rn call 151 80 [some (am_P (30, 0, 0)), some (am_I x1), some (am_I x2), some (am_I x3), some (am_I x4), none] (v.toList ++ [am_I (nI 5), am_I x1, am_P (30, 0, 0)]) M' X' := by
  refine Eq.trans (rl_aloadn (j := 0) (by decide +kernel) rfl) ?_
  refine Eq.trans (rl_iloadn (j := 1) (by decide +kernel) rfl) ?_
  refine Eq.trans (rl_iconst (c := 5) (k := (nI 5)) (by decide +kernel) (by decide)) ?_
  refine Eq.trans (rl_aloadn (j := 0) (by decide +kernel) rfl) ?_
  refine Eq.trans (rl_iloadn (j := 1) (by decide +kernel) rfl) ?_
  refine Eq.trans (rl_iconst (c := 5) (k := (nI 5)) (by decide +kernel) (by decide)) ?_
  refine Eq.trans (rl_inv (ix := 119) (n := 2) (o := 9) 129 [am_I x1, am_I (nI 5)] [am_I (nI 5), am_I x1, am_P (30, 0, 0)] (by decide +kernel) (by decide +kernel) (by decide +kernel) (by decide +kernel) ⟨rfl, rfl⟩ rfl rfl ck30) ?_
  rfl
theorem b151_80 {x1 x2 x3 x4 s0 s2 : Int32} {M : am_M} {w : am_W4}  : am_rn call 151 80 [some (am_P (30, 0, 0)), some (am_I x1), some (am_I x2), some (am_I x3), some (am_I x4), none] [am_I s0, am_I (nI 5), am_I s2, am_P (30, 0, 0)] M (am_Z w) = am_cb (call 130 [am_P (30, 0, 0), am_I s2, am_I (nI 5), am_I (s0 + (nI 1))] M (am_Z w)) fun v M' X' => am_rn call 151 85 [some (am_P (30, 0, 0)), some (am_I x1), some (am_I x2), some (am_I x3), some (am_I x4), none] (v.toList ++ []) M' X' := by
  refine Eq.trans (rl_iconst (c := 1) (k := (nI 1)) (by decide +kernel) (by decide)) ?_
  refine Eq.trans (rl_iadd (by decide +kernel)) ?_
  refine Eq.trans (rl_inv (ix := 109) (n := 3) (o := 9) 130 [am_I s2, am_I (nI 5), am_I (s0 + (nI 1))] [] (by decide +kernel) (by decide +kernel) (by decide +kernel) (by decide +kernel) ⟨rfl, rfl⟩ rfl rfl ck30) ?_
  rfl
theorem b151_85 {x1 x2 x3 x4 : Int32} {M : am_M} {w : am_W4}  : am_rn call 151 85 [some (am_P (30, 0, 0)), some (am_I x1), some (am_I x2), some (am_I x3), some (am_I x4), none] [] M (am_Z w) = if x4 = 0 then am_rn call 151 109 [some (am_P (30, 0, 0)), some (am_I x1), some (am_I x2), some (am_I x3), some (am_I x4), none] [am_I (nI 1)] M (am_Z w) else if am_in (((nI 4) + x4) - (nI 1)) 364 then am_rn call 151 109 [some (am_P (30, 0, 0)), some (am_I x1), some (am_I x2), some (am_I x3), some (am_I x4), none] [am_I (((M (31, 0, 0) (((nI 4) + x4) - (nI 1)).toNatClampNeg) - (M (31, 0, 0) (((nI 4) + x4) - (nI 1)).toNatClampNeg) / (nI 4) * (nI 4)) + (nI 1))] M (am_Z w) else none := by
  refine Eq.trans (rl_iload (j := 4) (by decide +kernel) rfl) ?_
  refine Eq.trans (rl_ifne (o := 7) 94 (by decide +kernel) (by decide)) ?_
  refine am_ite (fun h_1 => ?_) (fun h_1 => ?_)
  · skip
    refine Eq.trans (rl_iconst (c := 1) (k := (nI 1)) (by decide +kernel) (by decide)) ?_
    refine Eq.trans (rl_goto (o := 18) 109 (by decide +kernel) (by decide)) ?_
    rfl
  · skip
    refine Eq.trans (rl_aloadn (j := 0) (by decide +kernel) rfl) ?_
    refine Eq.trans (rl_getP (ix := 9) (ci := 9) (j := 0) (by decide +kernel) (by decide +kernel) (by decide +kernel) ck30 rfl) ?_
    refine Eq.trans (rl_iconst (c := 4) (k := (nI 4)) (by decide +kernel) (by decide)) ?_
    refine Eq.trans (rl_iload (j := 4) (by decide +kernel) rfl) ?_
    refine Eq.trans (rl_iadd (by decide +kernel)) ?_
    refine Eq.trans (rl_iconst (c := 1) (k := (nI 1)) (by decide +kernel) (by decide)) ?_
    refine Eq.trans (rl_isub (by decide +kernel)) ?_
    refine Eq.trans (rl_iald (by decide +kernel) ka31) ?_
    refine am_ite (fun h_2 => ?_) (fun _ => rfl)
    refine Eq.trans (rl_iconst (c := 4) (k := (nI 4)) (by decide +kernel) (by decide)) ?_
    refine Eq.trans (rl_irem (by decide +kernel) rfl) ?_
    refine Eq.trans (rl_iconst (c := 1) (k := (nI 1)) (by decide +kernel) (by decide)) ?_
    refine Eq.trans (rl_iadd (by decide +kernel)) ?_
    rfl
theorem b151_109 {x1 x2 x3 x4 s0 : Int32} {M : am_M} {w : am_W4}  : am_rn call 151 109 [some (am_P (30, 0, 0)), some (am_I x1), some (am_I x2), some (am_I x3), some (am_I x4), none] [am_I s0] M (am_Z w) = am_cb (call 129 [am_P (30, 0, 0), am_I x1, am_I (nI 5)] M (am_Z w)) fun v M' X' => am_rn call 151 117 [some (am_P (30, 0, 0)), some (am_I x1), some (am_I x2), some (am_I x3), some (am_I x4), some (am_I s0)] (v.toList ++ []) M' X' := by
  refine Eq.trans (rl_istore (j := 5) (ls' := [some (am_P (30, 0, 0)), some (am_I x1), some (am_I x2), some (am_I x3), some (am_I x4), some (am_I s0)]) (by decide +kernel) rfl rfl) ?_
  refine Eq.trans (rl_aloadn (j := 0) (by decide +kernel) rfl) ?_
  refine Eq.trans (rl_iloadn (j := 1) (by decide +kernel) rfl) ?_
  refine Eq.trans (rl_iconst (c := 5) (k := (nI 5)) (by decide +kernel) (by decide)) ?_
  refine Eq.trans (rl_inv (ix := 119) (n := 2) (o := 9) 129 [am_I x1, am_I (nI 5)] [] (by decide +kernel) (by decide +kernel) (by decide +kernel) (by decide +kernel) ⟨rfl, rfl⟩ rfl rfl ck30) ?_
  rfl
theorem b151_117 {x1 x2 x3 x4 x5 s0 : Int32} {M : am_M} {w : am_W4}  : am_rn call 151 117 [some (am_P (30, 0, 0)), some (am_I x1), some (am_I x2), some (am_I x3), some (am_I x4), some (am_I x5)] [am_I s0] M (am_Z w) = if s0 < x5 then some (.inl none, M, (am_Z w)) else if 0 < x4 then am_cb (call 129 [am_P (30, 0, 0), am_I x1, am_I (nI 9)] M (am_Z w)) fun v M' X' => am_rn call 151 135 [some (am_P (30, 0, 0)), some (am_I x1), some (am_I x2), some (am_I x3), some (am_I x4), some (am_I x5)] (v.toList ++ []) M' X' else am_rn call 151 171 [some (am_P (30, 0, 0)), some (am_I x1), some (am_I x2), some (am_I x3), some (am_I x4), some (am_I x5)] [] M (am_Z w) := by
  refine Eq.trans (rl_iload (j := 5) (by decide +kernel) rfl) ?_
  refine Eq.trans (rl_icge (o := 4) 123 (by decide +kernel) (by decide)) ?_
  refine am_ite (fun h_1 => ?_) (fun h_1 => ?_)
  · skip
    exact rl_ret (by decide +kernel) rfl
  · skip
    refine Eq.trans (rl_iload (j := 4) (by decide +kernel) rfl) ?_
    refine Eq.trans (rl_ifle (o := 46) 171 (by decide +kernel) (by decide)) ?_
    refine am_ite (fun h_2 => ?_) (fun h_2 => ?_)
    · skip
      refine Eq.trans (rl_aloadn (j := 0) (by decide +kernel) rfl) ?_
      refine Eq.trans (rl_iloadn (j := 1) (by decide +kernel) rfl) ?_
      refine Eq.trans (rl_bipush (c := 9) (k := (nI 9)) (by decide +kernel) (by decide)) ?_
      refine Eq.trans (rl_inv (ix := 119) (n := 2) (o := 9) 129 [am_I x1, am_I (nI 9)] [] (by decide +kernel) (by decide +kernel) (by decide +kernel) (by decide +kernel) ⟨rfl, rfl⟩ rfl rfl ck30) ?_
      rfl
    · skip
      rfl
theorem b151_135 {x1 x2 x3 x4 x5 s0 : Int32} {M : am_M} {w : am_W4}  : am_rn call 151 135 [some (am_P (30, 0, 0)), some (am_I x1), some (am_I x2), some (am_I x3), some (am_I x4), some (am_I x5)] [am_I s0] M (am_Z w) = if s0 = 0 then am_cb (call 129 [am_P (30, 0, 0), am_I x1, am_I (nI 4)] M (am_Z w)) fun v M' X' => am_rn call 151 148 [some (am_P (30, 0, 0)), some (am_I x1), some (am_I x2), some (am_I x3), some (am_I x4), some (am_I x5)] (v.toList ++ [am_I (nI 11), am_I x1, am_P (30, 0, 0)]) M' X' else am_rn call 151 171 [some (am_P (30, 0, 0)), some (am_I x1), some (am_I x2), some (am_I x3), some (am_I x4), some (am_I x5)] [] M (am_Z w) := by
  refine Eq.trans (rl_ifne (o := 36) 171 (by decide +kernel) (by decide)) ?_
  refine am_ite (fun h_1 => ?_) (fun h_1 => ?_)
  · skip
    refine Eq.trans (rl_aloadn (j := 0) (by decide +kernel) rfl) ?_
    refine Eq.trans (rl_iloadn (j := 1) (by decide +kernel) rfl) ?_
    refine Eq.trans (rl_bipush (c := 11) (k := (nI 11)) (by decide +kernel) (by decide)) ?_
    refine Eq.trans (rl_aloadn (j := 0) (by decide +kernel) rfl) ?_
    refine Eq.trans (rl_iloadn (j := 1) (by decide +kernel) rfl) ?_
    refine Eq.trans (rl_iconst (c := 4) (k := (nI 4)) (by decide +kernel) (by decide)) ?_
    refine Eq.trans (rl_inv (ix := 119) (n := 2) (o := 9) 129 [am_I x1, am_I (nI 4)] [am_I (nI 11), am_I x1, am_P (30, 0, 0)] (by decide +kernel) (by decide +kernel) (by decide +kernel) (by decide +kernel) ⟨rfl, rfl⟩ rfl rfl ck30) ?_
    rfl
  · skip
    rfl
theorem b151_148 {x1 x2 x3 x4 x5 s0 s2 : Int32} {M : am_M} {w : am_W4}  : am_rn call 151 148 [some (am_P (30, 0, 0)), some (am_I x1), some (am_I x2), some (am_I x3), some (am_I x4), some (am_I x5)] [am_I s0, am_I (nI 11), am_I s2, am_P (30, 0, 0)] M (am_Z w) = am_cb (call 130 [am_P (30, 0, 0), am_I s2, am_I ((nI 11) + s0), am_I (nI 0)] M (am_Z w)) fun v M' X' => am_rn call 151 153 [some (am_P (30, 0, 0)), some (am_I x1), some (am_I x2), some (am_I x3), some (am_I x4), some (am_I x5)] (v.toList ++ []) M' X' := by
  refine Eq.trans (rl_iadd (by decide +kernel)) ?_
  refine Eq.trans (rl_iconst (c := 0) (k := (nI 0)) (by decide +kernel) (by decide)) ?_
  refine Eq.trans (rl_inv (ix := 109) (n := 3) (o := 9) 130 [am_I s2, am_I ((nI 11) + s0), am_I (nI 0)] [] (by decide +kernel) (by decide +kernel) (by decide +kernel) (by decide +kernel) ⟨rfl, rfl⟩ rfl rfl ck30) ?_
  rfl
theorem b151_153 {x1 x2 x3 x4 x5 : Int32} {M : am_M} {w : am_W4}  : am_rn call 151 153 [some (am_P (30, 0, 0)), some (am_I x1), some (am_I x2), some (am_I x3), some (am_I x4), some (am_I x5)] [] M (am_Z w) = if am_in (((nI 12) + ((nI 6) * x3)) + (nI 5)) 364 then if am_in (((nI 12) + ((nI 6) * x3)) + (nI 5)) 364 then am_rn call 151 171 [some (am_P (30, 0, 0)), some (am_I x1), some (am_I x2), some (am_I x3), some (am_I x4), some (am_I x5)] [] (am_set M (31, 0, 0) (((nI 12) + ((nI 6) * x3)) + (nI 5)).toNatClampNeg ((M (31, 0, 0) (((nI 12) + ((nI 6) * x3)) + (nI 5)).toNatClampNeg) + (nI 1))) (am_Z w) else none else none := by
  refine Eq.trans (rl_aloadn (j := 0) (by decide +kernel) rfl) ?_
  refine Eq.trans (rl_getP (ix := 9) (ci := 9) (j := 0) (by decide +kernel) (by decide +kernel) (by decide +kernel) ck30 rfl) ?_
  refine Eq.trans (rl_bipush (c := 12) (k := (nI 12)) (by decide +kernel) (by decide)) ?_
  refine Eq.trans (rl_bipush (c := 6) (k := (nI 6)) (by decide +kernel) (by decide)) ?_
  refine Eq.trans (rl_iloadn (j := 3) (by decide +kernel) rfl) ?_
  refine Eq.trans (rl_imul (by decide +kernel)) ?_
  refine Eq.trans (rl_iadd (by decide +kernel)) ?_
  refine Eq.trans (rl_iconst (c := 5) (k := (nI 5)) (by decide +kernel) (by decide)) ?_
  refine Eq.trans (rl_iadd (by decide +kernel)) ?_
  refine Eq.trans (rl_dup2 (by decide +kernel) rfl rfl) ?_
  refine Eq.trans (rl_iald (by decide +kernel) ka31) ?_
  refine am_ite (fun h_1 => ?_) (fun _ => rfl)
  refine Eq.trans (rl_iconst (c := 1) (k := (nI 1)) (by decide +kernel) (by decide)) ?_
  refine Eq.trans (rl_iadd (by decide +kernel)) ?_
  refine Eq.trans (rl_iast (by decide +kernel) ka31) ?_
  refine am_ite (fun h_2 => ?_) (fun _ => rfl)
  rfl
theorem b151_171 {x1 x2 x3 x4 x5 : Int32} {M : am_M} {w : am_W4}  : am_rn call 151 171 [some (am_P (30, 0, 0)), some (am_I x1), some (am_I x2), some (am_I x3), some (am_I x4), some (am_I x5)] [] M (am_Z w) = am_cb (call 129 [am_P (30, 0, 0), am_I x1, am_I (nI 4)] M (am_Z w)) fun v M' X' => am_rn call 151 180 [some (am_P (30, 0, 0)), some (am_I x1), some (am_I x2), some (am_I x3), some (am_I x4), some (am_I x5)] (v.toList ++ [am_I (nI 4), am_I x1, am_P (30, 0, 0)]) M' X' := by
  refine Eq.trans (rl_aloadn (j := 0) (by decide +kernel) rfl) ?_
  refine Eq.trans (rl_iloadn (j := 1) (by decide +kernel) rfl) ?_
  refine Eq.trans (rl_iconst (c := 4) (k := (nI 4)) (by decide +kernel) (by decide)) ?_
  refine Eq.trans (rl_aloadn (j := 0) (by decide +kernel) rfl) ?_
  refine Eq.trans (rl_iloadn (j := 1) (by decide +kernel) rfl) ?_
  refine Eq.trans (rl_iconst (c := 4) (k := (nI 4)) (by decide +kernel) (by decide)) ?_
  refine Eq.trans (rl_inv (ix := 119) (n := 2) (o := 9) 129 [am_I x1, am_I (nI 4)] [am_I (nI 4), am_I x1, am_P (30, 0, 0)] (by decide +kernel) (by decide +kernel) (by decide +kernel) (by decide +kernel) ⟨rfl, rfl⟩ rfl rfl ck30) ?_
  rfl
theorem b151_180 {x1 x2 x3 x4 x5 s0 s2 : Int32} {M : am_M} {w : am_W4}  : am_rn call 151 180 [some (am_P (30, 0, 0)), some (am_I x1), some (am_I x2), some (am_I x3), some (am_I x4), some (am_I x5)] [am_I s0, am_I (nI 4), am_I s2, am_P (30, 0, 0)] M (am_Z w) = am_cb (call 130 [am_P (30, 0, 0), am_I s2, am_I (nI 4), am_I (s0 + (nI 1))] M (am_Z w)) fun v M' X' => am_rn call 151 185 [some (am_P (30, 0, 0)), some (am_I x1), some (am_I x2), some (am_I x3), some (am_I x4), some (am_I x5)] (v.toList ++ []) M' X' := by
  refine Eq.trans (rl_iconst (c := 1) (k := (nI 1)) (by decide +kernel) (by decide)) ?_
  refine Eq.trans (rl_iadd (by decide +kernel)) ?_
  refine Eq.trans (rl_inv (ix := 109) (n := 3) (o := 9) 130 [am_I s2, am_I (nI 4), am_I (s0 + (nI 1))] [] (by decide +kernel) (by decide +kernel) (by decide +kernel) (by decide +kernel) ⟨rfl, rfl⟩ rfl rfl ck30) ?_
  rfl
theorem b151_185 {x1 x2 x3 x4 x5 : Int32} {M : am_M} {w : am_W4}  : am_rn call 151 185 [some (am_P (30, 0, 0)), some (am_I x1), some (am_I x2), some (am_I x3), some (am_I x4), some (am_I x5)] [] M (am_Z w) = am_cb (call 130 [am_P (30, 0, 0), am_I x1, am_I (nI 5), am_I (nI 0)] M (am_Z w)) fun v M' X' => am_rn call 151 192 [some (am_P (30, 0, 0)), some (am_I x1), some (am_I x2), some (am_I x3), some (am_I x4), some (am_I x5)] (v.toList ++ []) M' X' := by
  refine Eq.trans (rl_aloadn (j := 0) (by decide +kernel) rfl) ?_
  refine Eq.trans (rl_iloadn (j := 1) (by decide +kernel) rfl) ?_
  refine Eq.trans (rl_iconst (c := 5) (k := (nI 5)) (by decide +kernel) (by decide)) ?_
  refine Eq.trans (rl_iconst (c := 0) (k := (nI 0)) (by decide +kernel) (by decide)) ?_
  refine Eq.trans (rl_inv (ix := 109) (n := 3) (o := 9) 130 [am_I x1, am_I (nI 5), am_I (nI 0)] [] (by decide +kernel) (by decide +kernel) (by decide +kernel) (by decide +kernel) ⟨rfl, rfl⟩ rfl rfl ck30) ?_
  rfl
theorem b151_192 {x1 x2 x3 x4 x5 : Int32} {M : am_M} {w : am_W4}  : am_rn call 151 192 [some (am_P (30, 0, 0)), some (am_I x1), some (am_I x2), some (am_I x3), some (am_I x4), some (am_I x5)] [] M (am_Z w) = am_cb (call 130 [am_P (30, 0, 0), am_I x1, am_I (nI 9), am_I (nI 1)] M (am_Z w)) fun v M' X' => am_rn call 151 200 [some (am_P (30, 0, 0)), some (am_I x1), some (am_I x2), some (am_I x3), some (am_I x4), some (am_I x5)] (v.toList ++ []) M' X' := by
  refine Eq.trans (rl_aloadn (j := 0) (by decide +kernel) rfl) ?_
  refine Eq.trans (rl_iloadn (j := 1) (by decide +kernel) rfl) ?_
  refine Eq.trans (rl_bipush (c := 9) (k := (nI 9)) (by decide +kernel) (by decide)) ?_
  refine Eq.trans (rl_iconst (c := 1) (k := (nI 1)) (by decide +kernel) (by decide)) ?_
  refine Eq.trans (rl_inv (ix := 109) (n := 3) (o := 9) 130 [am_I x1, am_I (nI 9), am_I (nI 1)] [] (by decide +kernel) (by decide +kernel) (by decide +kernel) (by decide +kernel) ⟨rfl, rfl⟩ rfl rfl ck30) ?_
  rfl
theorem b151_200 {x1 x2 x3 x4 x5 : Int32} {M : am_M} {w : am_W4}  : am_rn call 151 200 [some (am_P (30, 0, 0)), some (am_I x1), some (am_I x2), some (am_I x3), some (am_I x4), some (am_I x5)] [] M (am_Z w) = am_cb (call 129 [am_P (30, 0, 0), am_I x1, am_I (nI 4)] M (am_Z w)) fun v M' X' => am_rn call 151 206 [some (am_P (30, 0, 0)), some (am_I x1), some (am_I x2), some (am_I x3), some (am_I x4), some (am_I x5)] (v.toList ++ []) M' X' := by
  refine Eq.trans (rl_aloadn (j := 0) (by decide +kernel) rfl) ?_
  refine Eq.trans (rl_iloadn (j := 1) (by decide +kernel) rfl) ?_
  refine Eq.trans (rl_iconst (c := 4) (k := (nI 4)) (by decide +kernel) (by decide)) ?_
  refine Eq.trans (rl_inv (ix := 119) (n := 2) (o := 9) 129 [am_I x1, am_I (nI 4)] [] (by decide +kernel) (by decide +kernel) (by decide +kernel) (by decide +kernel) ⟨rfl, rfl⟩ rfl rfl ck30) ?_
  rfl
theorem b151_206 {x1 x2 x3 x4 x5 s0 : Int32} {M : am_M} {w : am_W4}  : am_rn call 151 206 [some (am_P (30, 0, 0)), some (am_I x1), some (am_I x2), some (am_I x3), some (am_I x4), some (am_I x5)] [am_I s0] M (am_Z w) = am_cb (call 129 [am_P (30, 0, 0), am_I x1, am_I (nI 3)] M (am_Z w)) fun v M' X' => am_rn call 151 212 [some (am_P (30, 0, 0)), some (am_I x1), some (am_I x2), some (am_I x3), some (am_I x4), some (am_I x5)] (v.toList ++ [am_I s0]) M' X' := by
  refine Eq.trans (rl_aloadn (j := 0) (by decide +kernel) rfl) ?_
  refine Eq.trans (rl_iloadn (j := 1) (by decide +kernel) rfl) ?_
  refine Eq.trans (rl_iconst (c := 3) (k := (nI 3)) (by decide +kernel) (by decide)) ?_
  refine Eq.trans (rl_inv (ix := 119) (n := 2) (o := 9) 129 [am_I x1, am_I (nI 3)] [am_I s0] (by decide +kernel) (by decide +kernel) (by decide +kernel) (by decide +kernel) ⟨rfl, rfl⟩ rfl rfl ck30) ?_
  rfl
theorem b151_212 {x1 x2 x3 x4 x5 s0 s1 : Int32} {M : am_M} {w : am_W4}  : am_rn call 151 212 [some (am_P (30, 0, 0)), some (am_I x1), some (am_I x2), some (am_I x3), some (am_I x4), some (am_I x5)] [am_I s0, am_I s1] M (am_Z w) = if s1 < s0 then some (.inl none, M, (am_Z w)) else am_cb (call 130 [am_P (30, 0, 0), am_I x1, am_I (nI 4), am_I (nI 0)] M (am_Z w)) fun v M' X' => am_rn call 151 223 [some (am_P (30, 0, 0)), some (am_I x1), some (am_I x2), some (am_I x3), some (am_I x4), some (am_I x5)] (v.toList ++ []) M' X' := by
  refine Eq.trans (rl_icge (o := 4) 216 (by decide +kernel) (by decide)) ?_
  refine am_ite (fun h_1 => ?_) (fun h_1 => ?_)
  · skip
    exact rl_ret (by decide +kernel) rfl
  · skip
    refine Eq.trans (rl_aloadn (j := 0) (by decide +kernel) rfl) ?_
    refine Eq.trans (rl_iloadn (j := 1) (by decide +kernel) rfl) ?_
    refine Eq.trans (rl_iconst (c := 4) (k := (nI 4)) (by decide +kernel) (by decide)) ?_
    refine Eq.trans (rl_iconst (c := 0) (k := (nI 0)) (by decide +kernel) (by decide)) ?_
    refine Eq.trans (rl_inv (ix := 109) (n := 3) (o := 9) 130 [am_I x1, am_I (nI 4), am_I (nI 0)] [] (by decide +kernel) (by decide +kernel) (by decide +kernel) (by decide +kernel) ⟨rfl, rfl⟩ rfl rfl ck30) ?_
    rfl
theorem b151_223 {x1 x2 x3 x4 x5 : Int32} {M : am_M} {w : am_W4}  : am_rn call 151 223 [some (am_P (30, 0, 0)), some (am_I x1), some (am_I x2), some (am_I x3), some (am_I x4), some (am_I x5)] [] M (am_Z w) = am_cb (call 130 [am_P (30, 0, 0), am_I x1, am_I (nI 10), am_I (nI 1)] M (am_Z w)) fun v M' X' => am_rn call 151 231 [some (am_P (30, 0, 0)), some (am_I x1), some (am_I x2), some (am_I x3), some (am_I x4), some (am_I x5)] (v.toList ++ []) M' X' := by
  refine Eq.trans (rl_aloadn (j := 0) (by decide +kernel) rfl) ?_
  refine Eq.trans (rl_iloadn (j := 1) (by decide +kernel) rfl) ?_
  refine Eq.trans (rl_bipush (c := 10) (k := (nI 10)) (by decide +kernel) (by decide)) ?_
  refine Eq.trans (rl_iconst (c := 1) (k := (nI 1)) (by decide +kernel) (by decide)) ?_
  refine Eq.trans (rl_inv (ix := 109) (n := 3) (o := 9) 130 [am_I x1, am_I (nI 10), am_I (nI 1)] [] (by decide +kernel) (by decide +kernel) (by decide +kernel) (by decide +kernel) ⟨rfl, rfl⟩ rfl rfl ck30) ?_
  rfl
theorem b151_231 {x1 x2 x3 x4 x5 : Int32} {M : am_M} {w : am_W4}  : am_rn call 151 231 [some (am_P (30, 0, 0)), some (am_I x1), some (am_I x2), some (am_I x3), some (am_I x4), some (am_I x5)] [] M (am_Z w) = some (.inl none, M, (am_Z w)) := by
  exact rl_ret (by decide +kernel) rfl
theorem e151 {d : Nat} {x1 x2 : Int32} {M : am_M} {w : am_W4}  : am_ev (d + 1) 151 [am_P (30, 0, 0), am_I x1, am_I x2] M (am_Z w) = am_cb ((am_ev d) 150 [am_P (30, 0, 0), am_I x1] M (am_Z w)) fun v M' X' => am_rn (am_ev d) 151 5 [some (am_P (30, 0, 0)), some (am_I x1), some (am_I x2), none, none, none] (v.toList ++ []) M' X' := (am_ev_eq d 151 _ M (am_Z w)).trans (b151_0)
theorem b152_0  {M : am_M} {w : am_W4}  : am_rn call 152 0 [some (am_P (30, 0, 0)), none, none, none, none] [] M (am_Z w) = am_rn call 152 4 [some (am_P (30, 0, 0)), some (am_I (nI 0)), some (am_I (nI 0)), none, none] [] M (am_Z w) := by
  refine Eq.trans (rl_iconst (c := 0) (k := (nI 0)) (by decide +kernel) (by decide)) ?_
  refine Eq.trans (rl_istoren (j := 1) (ls' := [some (am_P (30, 0, 0)), some (am_I (nI 0)), none, none, none]) (by decide +kernel) rfl rfl) ?_
  refine Eq.trans (rl_iconst (c := 0) (k := (nI 0)) (by decide +kernel) (by decide)) ?_
  refine Eq.trans (rl_istoren (j := 2) (ls' := [some (am_P (30, 0, 0)), some (am_I (nI 0)), some (am_I (nI 0)), none, none]) (by decide +kernel) rfl rfl) ?_
  rfl
theorem b152_4 {x1 x2 : Int32} {x3 x4 : Option am_V} {M : am_M} {w : am_W4}  : am_rn call 152 4 [some (am_P (30, 0, 0)), some (am_I x1), some (am_I x2), x3, x4] [] M (am_Z w) = if x2 < (M (31, 0, 0) 1) then am_cb (call 144 [am_P (30, 0, 0), am_I x2] M (am_Z w)) fun v M' X' => am_rn call 152 19 [some (am_P (30, 0, 0)), some (am_I x1), some (am_I x2), x3, x4] (v.toList ++ []) M' X' else am_rn call 152 81 [some (am_P (30, 0, 0)), some (am_I x1), some (am_I (nI 0)), some (am_I (nI 0)), x4] [] M (am_Z w) := by
  refine Eq.trans (rl_iloadn (j := 2) (by decide +kernel) rfl) ?_
  refine Eq.trans (rl_aloadn (j := 0) (by decide +kernel) rfl) ?_
  refine Eq.trans (rl_getP (ix := 9) (ci := 9) (j := 0) (by decide +kernel) (by decide +kernel) (by decide +kernel) ck30 rfl) ?_
  refine Eq.trans (rl_iconst (c := 1) (k := (nI 1)) (by decide +kernel) (by decide)) ?_
  refine Eq.trans (rl_iald' 1 (by decide +kernel) ka31 rfl rfl) ?_
  refine Eq.trans (rl_icge (o := 66) 77 (by decide +kernel) (by decide)) ?_
  refine am_ite (fun h_1 => ?_) (fun h_1 => ?_)
  · skip
    refine Eq.trans (rl_aloadn (j := 0) (by decide +kernel) rfl) ?_
    refine Eq.trans (rl_iloadn (j := 2) (by decide +kernel) rfl) ?_
    refine Eq.trans (rl_inv (ix := 142) (n := 1) (o := 9) 144 [am_I x2] [] (by decide +kernel) (by decide +kernel) (by decide +kernel) (by decide +kernel) ⟨rfl, rfl⟩ rfl rfl ck30) ?_
    rfl
  · skip
    refine Eq.trans (rl_iconst (c := 0) (k := (nI 0)) (by decide +kernel) (by decide)) ?_
    refine Eq.trans (rl_istoren (j := 2) (ls' := [some (am_P (30, 0, 0)), some (am_I x1), some (am_I (nI 0)), x3, x4]) (by decide +kernel) rfl rfl) ?_
    refine Eq.trans (rl_iconst (c := 0) (k := (nI 0)) (by decide +kernel) (by decide)) ?_
    refine Eq.trans (rl_istoren (j := 3) (ls' := [some (am_P (30, 0, 0)), some (am_I x1), some (am_I (nI 0)), some (am_I (nI 0)), x4]) (by decide +kernel) rfl rfl) ?_
    rfl
theorem b152_19 {x1 x2 s0 : Int32} {x3 x4 : Option am_V} {M : am_M} {w : am_W4}  : am_rn call 152 19 [some (am_P (30, 0, 0)), some (am_I x1), some (am_I x2), x3, x4] [am_I s0] M (am_Z w) = if s0 = 0 then am_cb (call 146 [am_P (30, 0, 0), am_I x2, am_I (nI 0)] M (am_Z w)) fun v M' X' => am_rn call 152 32 [some (am_P (30, 0, 0)), some (am_I x1), some (am_I x2), x3, x4] (v.toList ++ []) M' X' else am_rn call 152 32 [some (am_P (30, 0, 0)), some (am_I x1), some (am_I x2), x3, x4] [am_I (-1 : Int32)] M (am_Z w) := by
  refine Eq.trans (rl_ifeq (o := 7) 26 (by decide +kernel) (by decide)) ?_
  refine am_ite (fun h_1 => ?_) (fun h_1 => ?_)
  · skip
    refine Eq.trans (rl_aloadn (j := 0) (by decide +kernel) rfl) ?_
    refine Eq.trans (rl_iloadn (j := 2) (by decide +kernel) rfl) ?_
    refine Eq.trans (rl_iconst (c := 0) (k := (nI 0)) (by decide +kernel) (by decide)) ?_
    refine Eq.trans (rl_inv (ix := 145) (n := 2) (o := 9) 146 [am_I x2, am_I (nI 0)] [] (by decide +kernel) (by decide +kernel) (by decide +kernel) (by decide +kernel) ⟨rfl, rfl⟩ rfl rfl ck30) ?_
    rfl
  · skip
    refine Eq.trans (rl_iconst (c := -1) (k := (-1 : Int32)) (by decide +kernel) (by decide)) ?_
    refine Eq.trans (rl_goto (o := 9) 32 (by decide +kernel) (by decide)) ?_
    rfl
theorem b152_32 {x1 x2 s0 : Int32} {x3 x4 : Option am_V} {M : am_M} {w : am_W4}  : am_rn call 152 32 [some (am_P (30, 0, 0)), some (am_I x1), some (am_I x2), x3, x4] [am_I s0] M (am_Z w) = if s0 < 0 then am_rn call 152 71 [some (am_P (30, 0, 0)), some (am_I x1), some (am_I x2), some (am_I s0), x4] [] M (am_Z w) else am_cb (call 150 [am_P (30, 0, 0), am_I s0] M (am_Z w)) fun v M' X' => am_rn call 152 46 [some (am_P (30, 0, 0)), some (am_I x1), some (am_I x2), some (am_I s0), x4] (v.toList ++ [am_I (nI 1)]) M' X' := by
  refine Eq.trans (rl_istoren (j := 3) (ls' := [some (am_P (30, 0, 0)), some (am_I x1), some (am_I x2), some (am_I s0), x4]) (by decide +kernel) rfl rfl) ?_
  refine Eq.trans (rl_iloadn (j := 3) (by decide +kernel) rfl) ?_
  refine Eq.trans (rl_ifge (o := 6) 40 (by decide +kernel) (by decide)) ?_
  refine am_ite (fun h_1 => ?_) (fun h_1 => ?_)
  · skip
    refine Eq.trans (rl_goto (o := 34) 71 (by decide +kernel) (by decide)) ?_
    rfl
  · skip
    refine Eq.trans (rl_iconst (c := 1) (k := (nI 1)) (by decide +kernel) (by decide)) ?_
    refine Eq.trans (rl_aloadn (j := 0) (by decide +kernel) rfl) ?_
    refine Eq.trans (rl_iloadn (j := 3) (by decide +kernel) rfl) ?_
    refine Eq.trans (rl_inv (ix := 136) (n := 1) (o := 9) 150 [am_I s0] [am_I (nI 1)] (by decide +kernel) (by decide +kernel) (by decide +kernel) (by decide +kernel) ⟨rfl, rfl⟩ rfl rfl ck30) ?_
    rfl
theorem b152_46 {x1 x2 x3 s0 : Int32} {x4 : Option am_V} {M : am_M} {w : am_W4}  : am_rn call 152 46 [some (am_P (30, 0, 0)), some (am_I x1), some (am_I x2), some (am_I x3), x4] [am_I s0, am_I (nI 1)] M (am_Z w) = if (x1 &&& ((nI 1) <<< (s0 &&& 31))) = 0 then am_rn call 152 63 [some (am_P (30, 0, 0)), some (am_I x1), some (am_I x2), some (am_I x3), some (am_I ((nI 1) <<< (s0 &&& 31)))] [am_I (nI 1), am_I x3, am_P (30, 0, 0)] M (am_Z w) else am_rn call 152 63 [some (am_P (30, 0, 0)), some (am_I x1), some (am_I x2), some (am_I x3), some (am_I ((nI 1) <<< (s0 &&& 31)))] [am_I (nI 0), am_I x3, am_P (30, 0, 0)] M (am_Z w) := by
  refine Eq.trans (rl_ishl (by decide +kernel)) ?_
  refine Eq.trans (rl_istore (j := 4) (ls' := [some (am_P (30, 0, 0)), some (am_I x1), some (am_I x2), some (am_I x3), some (am_I ((nI 1) <<< (s0 &&& 31)))]) (by decide +kernel) rfl rfl) ?_
  refine Eq.trans (rl_aloadn (j := 0) (by decide +kernel) rfl) ?_
  refine Eq.trans (rl_iloadn (j := 3) (by decide +kernel) rfl) ?_
  refine Eq.trans (rl_iloadn (j := 1) (by decide +kernel) rfl) ?_
  refine Eq.trans (rl_iload (j := 4) (by decide +kernel) rfl) ?_
  refine Eq.trans (rl_iand (by decide +kernel)) ?_
  refine Eq.trans (rl_ifne (o := 7) 62 (by decide +kernel) (by decide)) ?_
  refine am_ite (fun h_1 => ?_) (fun h_1 => ?_)
  · skip
    refine Eq.trans (rl_iconst (c := 1) (k := (nI 1)) (by decide +kernel) (by decide)) ?_
    refine Eq.trans (rl_goto (o := 4) 63 (by decide +kernel) (by decide)) ?_
    rfl
  · skip
    refine Eq.trans (rl_iconst (c := 0) (k := (nI 0)) (by decide +kernel) (by decide)) ?_
    rfl
theorem b152_63 {x1 x2 x3 x4 s0 s1 : Int32} {M : am_M} {w : am_W4}  : am_rn call 152 63 [some (am_P (30, 0, 0)), some (am_I x1), some (am_I x2), some (am_I x3), some (am_I x4)] [am_I s0, am_I s1, am_P (30, 0, 0)] M (am_Z w) = am_cb (call 151 [am_P (30, 0, 0), am_I s1, am_I s0] M (am_Z w)) fun v M' X' => am_rn call 152 66 [some (am_P (30, 0, 0)), some (am_I x1), some (am_I x2), some (am_I x3), some (am_I x4)] (v.toList ++ []) M' X' := by
  refine Eq.trans (rl_inv (ix := 148) (n := 2) (o := 9) 151 [am_I s1, am_I s0] [] (by decide +kernel) (by decide +kernel) (by decide +kernel) (by decide +kernel) ⟨rfl, rfl⟩ rfl rfl ck30) ?_
  rfl
theorem b152_66 {x1 x2 x3 x4 : Int32} {M : am_M} {w : am_W4}  : am_rn call 152 66 [some (am_P (30, 0, 0)), some (am_I x1), some (am_I x2), some (am_I x3), some (am_I x4)] [] M (am_Z w) = am_rn call 152 71 [some (am_P (30, 0, 0)), some (am_I (x1 ||| x4)), some (am_I x2), some (am_I x3), some (am_I x4)] [] M (am_Z w) := by
  refine Eq.trans (rl_iloadn (j := 1) (by decide +kernel) rfl) ?_
  refine Eq.trans (rl_iload (j := 4) (by decide +kernel) rfl) ?_
  refine Eq.trans (rl_ior (by decide +kernel)) ?_
  refine Eq.trans (rl_istoren (j := 1) (ls' := [some (am_P (30, 0, 0)), some (am_I (x1 ||| x4)), some (am_I x2), some (am_I x3), some (am_I x4)]) (by decide +kernel) rfl rfl) ?_
  rfl
theorem b152_71 {x1 x2 x3 : Int32} {x4 : Option am_V} {M : am_M} {w : am_W4}  : am_rn call 152 71 [some (am_P (30, 0, 0)), some (am_I x1), some (am_I x2), some (am_I x3), x4] [] M (am_Z w) = am_rn call 152 4 [some (am_P (30, 0, 0)), some (am_I x1), some (am_I (x2 + (nI 1))), some (am_I x3), x4] [] M (am_Z w) := by
  refine Eq.trans (rl_iinc (j := 2) (c := 1) (k := (nI 1)) (ls' := [some (am_P (30, 0, 0)), some (am_I x1), some (am_I (x2 + (nI 1))), some (am_I x3), x4]) (by decide +kernel) (by decide) rfl rfl) ?_
  refine Eq.trans (rl_goto (o := (-70)) 4 (by decide +kernel) (by decide)) ?_
  rfl
theorem b152_81 {x1 x2 x3 : Int32} {x4 : Option am_V} {M : am_M} {w : am_W4}  : am_rn call 152 81 [some (am_P (30, 0, 0)), some (am_I x1), some (am_I x2), some (am_I x3), x4] [] M (am_Z w) = if x3 < (M (31, 0, 0) 1) then am_rn call 152 94 [some (am_P (30, 0, 0)), some (am_I x1), some (am_I x2), some (am_I x3), some (am_I (nI 0))] [] M (am_Z w) else am_rn call 152 173 [some (am_P (30, 0, 0)), some (am_I x1), some (am_I x2), some (am_I (nI 0)), x4] [] M (am_Z w) := by
  refine Eq.trans (rl_iloadn (j := 3) (by decide +kernel) rfl) ?_
  refine Eq.trans (rl_aloadn (j := 0) (by decide +kernel) rfl) ?_
  refine Eq.trans (rl_getP (ix := 9) (ci := 9) (j := 0) (by decide +kernel) (by decide +kernel) (by decide +kernel) ck30 rfl) ?_
  refine Eq.trans (rl_iconst (c := 1) (k := (nI 1)) (by decide +kernel) (by decide)) ?_
  refine Eq.trans (rl_iald' 1 (by decide +kernel) ka31 rfl rfl) ?_
  refine Eq.trans (rl_icge (o := 83) 171 (by decide +kernel) (by decide)) ?_
  refine am_ite (fun h_1 => ?_) (fun h_1 => ?_)
  · skip
    refine Eq.trans (rl_iconst (c := 0) (k := (nI 0)) (by decide +kernel) (by decide)) ?_
    refine Eq.trans (rl_istore (j := 4) (ls' := [some (am_P (30, 0, 0)), some (am_I x1), some (am_I x2), some (am_I x3), some (am_I (nI 0))]) (by decide +kernel) rfl rfl) ?_
    rfl
  · skip
    refine Eq.trans (rl_iconst (c := 0) (k := (nI 0)) (by decide +kernel) (by decide)) ?_
    refine Eq.trans (rl_istoren (j := 3) (ls' := [some (am_P (30, 0, 0)), some (am_I x1), some (am_I x2), some (am_I (nI 0)), x4]) (by decide +kernel) rfl rfl) ?_
    rfl
theorem b152_94 {x1 x2 x3 x4 : Int32} {M : am_M} {w : am_W4}  : am_rn call 152 94 [some (am_P (30, 0, 0)), some (am_I x1), some (am_I x2), some (am_I x3), some (am_I x4)] [] M (am_Z w) = if x4 < (M (31, 0, 0) 2) then am_cb (call 129 [am_P (30, 0, 0), am_I x4, am_I (nI 10)] M (am_Z w)) fun v M' X' => am_rn call 152 113 [some (am_P (30, 0, 0)), some (am_I x1), some (am_I x2), some (am_I x3), some (am_I x4)] (v.toList ++ []) M' X' else am_rn call 152 81 [some (am_P (30, 0, 0)), some (am_I x1), some (am_I x2), some (am_I (x3 + (nI 1))), some (am_I x4)] [] M (am_Z w) := by
  refine Eq.trans (rl_iload (j := 4) (by decide +kernel) rfl) ?_
  refine Eq.trans (rl_aloadn (j := 0) (by decide +kernel) rfl) ?_
  refine Eq.trans (rl_getP (ix := 9) (ci := 9) (j := 0) (by decide +kernel) (by decide +kernel) (by decide +kernel) ck30 rfl) ?_
  refine Eq.trans (rl_iconst (c := 2) (k := (nI 2)) (by decide +kernel) (by decide)) ?_
  refine Eq.trans (rl_iald' 2 (by decide +kernel) ka31 rfl rfl) ?_
  refine Eq.trans (rl_icge (o := 63) 165 (by decide +kernel) (by decide)) ?_
  refine am_ite (fun h_1 => ?_) (fun h_1 => ?_)
  · skip
    refine Eq.trans (rl_aloadn (j := 0) (by decide +kernel) rfl) ?_
    refine Eq.trans (rl_iload (j := 4) (by decide +kernel) rfl) ?_
    refine Eq.trans (rl_bipush (c := 10) (k := (nI 10)) (by decide +kernel) (by decide)) ?_
    refine Eq.trans (rl_inv (ix := 119) (n := 2) (o := 9) 129 [am_I x4, am_I (nI 10)] [] (by decide +kernel) (by decide +kernel) (by decide +kernel) (by decide +kernel) ⟨rfl, rfl⟩ rfl rfl ck30) ?_
    rfl
  · skip
    refine Eq.trans (rl_iinc (j := 3) (c := 1) (k := (nI 1)) (ls' := [some (am_P (30, 0, 0)), some (am_I x1), some (am_I x2), some (am_I (x3 + (nI 1))), some (am_I x4)]) (by decide +kernel) (by decide) rfl rfl) ?_
    refine Eq.trans (rl_goto (o := (-87)) 81 (by decide +kernel) (by decide)) ?_
    rfl
theorem b152_113 {x1 x2 x3 x4 s0 : Int32} {M : am_M} {w : am_W4}  : am_rn call 152 113 [some (am_P (30, 0, 0)), some (am_I x1), some (am_I x2), some (am_I x3), some (am_I x4)] [am_I s0] M (am_Z w) = if s0 = (nI 1) then am_cb (call 129 [am_P (30, 0, 0), am_I x4, am_I (nI 2)] M (am_Z w)) fun v M' X' => am_rn call 152 124 [some (am_P (30, 0, 0)), some (am_I x1), some (am_I x2), some (am_I x3), some (am_I x4)] (v.toList ++ []) M' X' else am_rn call 152 159 [some (am_P (30, 0, 0)), some (am_I x1), some (am_I x2), some (am_I x3), some (am_I x4)] [] M (am_Z w) := by
  refine Eq.trans (rl_iconst (c := 1) (k := (nI 1)) (by decide +kernel) (by decide)) ?_
  refine Eq.trans (rl_icne (o := 45) 159 (by decide +kernel) (by decide)) ?_
  refine am_ite (fun h_1 => ?_) (fun h_1 => ?_)
  · skip
    refine Eq.trans (rl_aloadn (j := 0) (by decide +kernel) rfl) ?_
    refine Eq.trans (rl_iload (j := 4) (by decide +kernel) rfl) ?_
    refine Eq.trans (rl_iconst (c := 2) (k := (nI 2)) (by decide +kernel) (by decide)) ?_
    refine Eq.trans (rl_inv (ix := 119) (n := 2) (o := 9) 129 [am_I x4, am_I (nI 2)] [] (by decide +kernel) (by decide +kernel) (by decide +kernel) (by decide +kernel) ⟨rfl, rfl⟩ rfl rfl ck30) ?_
    rfl
  · skip
    rfl
theorem b152_124 {x1 x2 x3 x4 s0 : Int32} {M : am_M} {w : am_W4}  : am_rn call 152 124 [some (am_P (30, 0, 0)), some (am_I x1), some (am_I x2), some (am_I x3), some (am_I x4)] [am_I s0] M (am_Z w) = if s0 = x3 then am_cb (call 130 [am_P (30, 0, 0), am_I x4, am_I (nI 10), am_I (nI 2)] M (am_Z w)) fun v M' X' => am_rn call 152 140 [some (am_P (30, 0, 0)), some (am_I x1), some (am_I x2), some (am_I x3), some (am_I x4)] (v.toList ++ []) M' X' else am_rn call 152 159 [some (am_P (30, 0, 0)), some (am_I x1), some (am_I x2), some (am_I x3), some (am_I x4)] [] M (am_Z w) := by
  refine Eq.trans (rl_iloadn (j := 3) (by decide +kernel) rfl) ?_
  refine Eq.trans (rl_iceq (o := 6) 131 (by decide +kernel) (by decide)) ?_
  refine am_ite (fun h_1 => ?_) (fun h_1 => ?_)
  · skip
    refine Eq.trans (rl_aloadn (j := 0) (by decide +kernel) rfl) ?_
    refine Eq.trans (rl_iload (j := 4) (by decide +kernel) rfl) ?_
    refine Eq.trans (rl_bipush (c := 10) (k := (nI 10)) (by decide +kernel) (by decide)) ?_
    refine Eq.trans (rl_iconst (c := 2) (k := (nI 2)) (by decide +kernel) (by decide)) ?_
    refine Eq.trans (rl_inv (ix := 109) (n := 3) (o := 9) 130 [am_I x4, am_I (nI 10), am_I (nI 2)] [] (by decide +kernel) (by decide +kernel) (by decide +kernel) (by decide +kernel) ⟨rfl, rfl⟩ rfl rfl ck30) ?_
    rfl
  · skip
    refine Eq.trans (rl_goto (o := 31) 159 (by decide +kernel) (by decide)) ?_
    rfl
theorem b152_140 {x1 x2 x3 x4 : Int32} {M : am_M} {w : am_W4}  : am_rn call 152 140 [some (am_P (30, 0, 0)), some (am_I x1), some (am_I x2), some (am_I x3), some (am_I x4)] [] M (am_Z w) = am_cb (call 130 [am_P (30, 0, 0), am_I x4, am_I (nI 8), am_I (M (31, 0, 0) 3)] (am_set M (31, 0, 0) 3 ((M (31, 0, 0) 3) + (nI 1))) (am_Z w)) fun v M' X' => am_rn call 152 159 [some (am_P (30, 0, 0)), some (am_I x1), some (am_I x2), some (am_I x3), some (am_I x4)] (v.toList ++ []) M' X' := by
  refine Eq.trans (rl_aloadn (j := 0) (by decide +kernel) rfl) ?_
  refine Eq.trans (rl_iload (j := 4) (by decide +kernel) rfl) ?_
  refine Eq.trans (rl_bipush (c := 8) (k := (nI 8)) (by decide +kernel) (by decide)) ?_
  refine Eq.trans (rl_aloadn (j := 0) (by decide +kernel) rfl) ?_
  refine Eq.trans (rl_getP (ix := 9) (ci := 9) (j := 0) (by decide +kernel) (by decide +kernel) (by decide +kernel) ck30 rfl) ?_
  refine Eq.trans (rl_iconst (c := 3) (k := (nI 3)) (by decide +kernel) (by decide)) ?_
  refine Eq.trans (rl_dup2 (by decide +kernel) rfl rfl) ?_
  refine Eq.trans (rl_iald' 3 (by decide +kernel) ka31 rfl rfl) ?_
  refine Eq.trans (rl_dup_x2 (by decide +kernel) rfl rfl rfl) ?_
  refine Eq.trans (rl_iconst (c := 1) (k := (nI 1)) (by decide +kernel) (by decide)) ?_
  refine Eq.trans (rl_iadd (by decide +kernel)) ?_
  refine Eq.trans (rl_iast' 3 (by decide +kernel) ka31 rfl rfl) ?_
  refine Eq.trans (rl_inv (ix := 109) (n := 3) (o := 9) 130 [am_I x4, am_I (nI 8), am_I (M (31, 0, 0) 3)] [] (by decide +kernel) (by decide +kernel) (by decide +kernel) (by decide +kernel) ⟨rfl, rfl⟩ rfl rfl ck30) ?_
  rfl
theorem b152_159 {x1 x2 x3 x4 : Int32} {M : am_M} {w : am_W4}  : am_rn call 152 159 [some (am_P (30, 0, 0)), some (am_I x1), some (am_I x2), some (am_I x3), some (am_I x4)] [] M (am_Z w) = am_rn call 152 94 [some (am_P (30, 0, 0)), some (am_I x1), some (am_I x2), some (am_I x3), some (am_I (x4 + (nI 1)))] [] M (am_Z w) := by
  refine Eq.trans (rl_iinc (j := 4) (c := 1) (k := (nI 1)) (ls' := [some (am_P (30, 0, 0)), some (am_I x1), some (am_I x2), some (am_I x3), some (am_I (x4 + (nI 1)))]) (by decide +kernel) (by decide) rfl rfl) ?_
  refine Eq.trans (rl_goto (o := (-68)) 94 (by decide +kernel) (by decide)) ?_
  rfl
theorem b152_173 {x1 x2 x3 : Int32} {x4 : Option am_V} {M : am_M} {w : am_W4}  : am_rn call 152 173 [some (am_P (30, 0, 0)), some (am_I x1), some (am_I x2), some (am_I x3), x4] [] M (am_Z w) = if x3 < (M (31, 0, 0) 2) then am_cb (call 129 [am_P (30, 0, 0), am_I x3, am_I (nI 10)] M (am_Z w)) fun v M' X' => am_rn call 152 190 [some (am_P (30, 0, 0)), some (am_I x1), some (am_I x2), some (am_I x3), x4] (v.toList ++ []) M' X' else am_rn call 152 261 [some (am_P (30, 0, 0)), some (am_I x1), some (am_I x2), some (am_I x3), x4] [] (am_set M (31, 0, 0) 0 ((M (31, 0, 0) 0) + (nI 1))) (am_Z w) := by
  refine Eq.trans (rl_iloadn (j := 3) (by decide +kernel) rfl) ?_
  refine Eq.trans (rl_aloadn (j := 0) (by decide +kernel) rfl) ?_
  refine Eq.trans (rl_getP (ix := 9) (ci := 9) (j := 0) (by decide +kernel) (by decide +kernel) (by decide +kernel) ck30 rfl) ?_
  refine Eq.trans (rl_iconst (c := 2) (k := (nI 2)) (by decide +kernel) (by decide)) ?_
  refine Eq.trans (rl_iald' 2 (by decide +kernel) ka31 rfl rfl) ?_
  refine Eq.trans (rl_icge (o := 71) 251 (by decide +kernel) (by decide)) ?_
  refine am_ite (fun h_1 => ?_) (fun h_1 => ?_)
  · skip
    refine Eq.trans (rl_aloadn (j := 0) (by decide +kernel) rfl) ?_
    refine Eq.trans (rl_iloadn (j := 3) (by decide +kernel) rfl) ?_
    refine Eq.trans (rl_bipush (c := 10) (k := (nI 10)) (by decide +kernel) (by decide)) ?_
    refine Eq.trans (rl_inv (ix := 119) (n := 2) (o := 9) 129 [am_I x3, am_I (nI 10)] [] (by decide +kernel) (by decide +kernel) (by decide +kernel) (by decide +kernel) ⟨rfl, rfl⟩ rfl rfl ck30) ?_
    rfl
  · skip
    refine Eq.trans (rl_aloadn (j := 0) (by decide +kernel) rfl) ?_
    refine Eq.trans (rl_getP (ix := 9) (ci := 9) (j := 0) (by decide +kernel) (by decide +kernel) (by decide +kernel) ck30 rfl) ?_
    refine Eq.trans (rl_iconst (c := 0) (k := (nI 0)) (by decide +kernel) (by decide)) ?_
    refine Eq.trans (rl_dup2 (by decide +kernel) rfl rfl) ?_
    refine Eq.trans (rl_iald' 0 (by decide +kernel) ka31 rfl rfl) ?_
    refine Eq.trans (rl_iconst (c := 1) (k := (nI 1)) (by decide +kernel) (by decide)) ?_
    refine Eq.trans (rl_iadd (by decide +kernel)) ?_
    refine Eq.trans (rl_iast' 0 (by decide +kernel) ka31 rfl rfl) ?_
    rfl
theorem b152_190 {x1 x2 x3 s0 : Int32} {x4 : Option am_V} {M : am_M} {w : am_W4}  : am_rn call 152 190 [some (am_P (30, 0, 0)), some (am_I x1), some (am_I x2), some (am_I x3), x4] [am_I s0] M (am_Z w) = if s0 = (nI 2) then am_cb (call 130 [am_P (30, 0, 0), am_I x3, am_I (nI 10), am_I (nI 0)] M (am_Z w)) fun v M' X' => am_rn call 152 205 [some (am_P (30, 0, 0)), some (am_I x1), some (am_I x2), some (am_I x3), x4] (v.toList ++ []) M' X' else am_rn call 152 245 [some (am_P (30, 0, 0)), some (am_I x1), some (am_I x2), some (am_I x3), x4] [] M (am_Z w) := by
  refine Eq.trans (rl_iconst (c := 2) (k := (nI 2)) (by decide +kernel) (by decide)) ?_
  refine Eq.trans (rl_iceq (o := 6) 197 (by decide +kernel) (by decide)) ?_
  refine am_ite (fun h_1 => ?_) (fun h_1 => ?_)
  · skip
    refine Eq.trans (rl_aloadn (j := 0) (by decide +kernel) rfl) ?_
    refine Eq.trans (rl_iloadn (j := 3) (by decide +kernel) rfl) ?_
    refine Eq.trans (rl_bipush (c := 10) (k := (nI 10)) (by decide +kernel) (by decide)) ?_
    refine Eq.trans (rl_iconst (c := 0) (k := (nI 0)) (by decide +kernel) (by decide)) ?_
    refine Eq.trans (rl_inv (ix := 109) (n := 3) (o := 9) 130 [am_I x3, am_I (nI 10), am_I (nI 0)] [] (by decide +kernel) (by decide +kernel) (by decide +kernel) (by decide +kernel) ⟨rfl, rfl⟩ rfl rfl ck30) ?_
    rfl
  · skip
    refine Eq.trans (rl_goto (o := 51) 245 (by decide +kernel) (by decide)) ?_
    rfl
theorem b152_205 {x1 x2 x3 : Int32} {x4 : Option am_V} {M : am_M} {w : am_W4}  : am_rn call 152 205 [some (am_P (30, 0, 0)), some (am_I x1), some (am_I x2), some (am_I x3), x4] [] M (am_Z w) = am_cb (call 150 [am_P (30, 0, 0), am_I x3] M (am_Z w)) fun v M' X' => am_rn call 152 213 [some (am_P (30, 0, 0)), some (am_I x1), some (am_I x2), some (am_I x3), x4] (v.toList ++ [am_I (nI 2), am_I x3, am_P (30, 0, 0)]) M' X' := by
  refine Eq.trans (rl_aloadn (j := 0) (by decide +kernel) rfl) ?_
  refine Eq.trans (rl_iloadn (j := 3) (by decide +kernel) rfl) ?_
  refine Eq.trans (rl_iconst (c := 2) (k := (nI 2)) (by decide +kernel) (by decide)) ?_
  refine Eq.trans (rl_aloadn (j := 0) (by decide +kernel) rfl) ?_
  refine Eq.trans (rl_iloadn (j := 3) (by decide +kernel) rfl) ?_
  refine Eq.trans (rl_inv (ix := 136) (n := 1) (o := 9) 150 [am_I x3] [am_I (nI 2), am_I x3, am_P (30, 0, 0)] (by decide +kernel) (by decide +kernel) (by decide +kernel) (by decide +kernel) ⟨rfl, rfl⟩ rfl rfl ck30) ?_
  rfl
theorem b152_213 {x1 x2 x3 s0 s2 : Int32} {x4 : Option am_V} {M : am_M} {w : am_W4}  : am_rn call 152 213 [some (am_P (30, 0, 0)), some (am_I x1), some (am_I x2), some (am_I x3), x4] [am_I s0, am_I (nI 2), am_I s2, am_P (30, 0, 0)] M (am_Z w) = am_cb (call 130 [am_P (30, 0, 0), am_I s2, am_I (nI 2), am_I s0] M (am_Z w)) fun v M' X' => am_rn call 152 216 [some (am_P (30, 0, 0)), some (am_I x1), some (am_I x2), some (am_I x3), x4] (v.toList ++ []) M' X' := by
  refine Eq.trans (rl_inv (ix := 109) (n := 3) (o := 9) 130 [am_I s2, am_I (nI 2), am_I s0] [] (by decide +kernel) (by decide +kernel) (by decide +kernel) (by decide +kernel) ⟨rfl, rfl⟩ rfl rfl ck30) ?_
  rfl
theorem b152_216 {x1 x2 x3 : Int32} {x4 : Option am_V} {M : am_M} {w : am_W4}  : am_rn call 152 216 [some (am_P (30, 0, 0)), some (am_I x1), some (am_I x2), some (am_I x3), x4] [] M (am_Z w) = am_cb (call 129 [am_P (30, 0, 0), am_I x3, am_I (nI 2)] M (am_Z w)) fun v M' X' => am_rn call 152 222 [some (am_P (30, 0, 0)), some (am_I x1), some (am_I x2), some (am_I x3), x4] (v.toList ++ []) M' X' := by
  refine Eq.trans (rl_aloadn (j := 0) (by decide +kernel) rfl) ?_
  refine Eq.trans (rl_iloadn (j := 3) (by decide +kernel) rfl) ?_
  refine Eq.trans (rl_iconst (c := 2) (k := (nI 2)) (by decide +kernel) (by decide)) ?_
  refine Eq.trans (rl_inv (ix := 119) (n := 2) (o := 9) 129 [am_I x3, am_I (nI 2)] [] (by decide +kernel) (by decide +kernel) (by decide +kernel) (by decide +kernel) ⟨rfl, rfl⟩ rfl rfl ck30) ?_
  rfl
theorem b152_222 {x1 x2 x3 s0 : Int32} {x4 : Option am_V} {M : am_M} {w : am_W4}  : am_rn call 152 222 [some (am_P (30, 0, 0)), some (am_I x1), some (am_I x2), some (am_I x3), x4] [am_I s0] M (am_Z w) = am_cb (call 129 [am_P (30, 0, 0), am_I x3, am_I (nI 1)] M (am_Z w)) fun v M' X' => am_rn call 152 228 [some (am_P (30, 0, 0)), some (am_I x1), some (am_I x2), some (am_I x3), x4] (v.toList ++ [am_I s0]) M' X' := by
  refine Eq.trans (rl_aloadn (j := 0) (by decide +kernel) rfl) ?_
  refine Eq.trans (rl_iloadn (j := 3) (by decide +kernel) rfl) ?_
  refine Eq.trans (rl_iconst (c := 1) (k := (nI 1)) (by decide +kernel) (by decide)) ?_
  refine Eq.trans (rl_inv (ix := 119) (n := 2) (o := 9) 129 [am_I x3, am_I (nI 1)] [am_I s0] (by decide +kernel) (by decide +kernel) (by decide +kernel) (by decide +kernel) ⟨rfl, rfl⟩ rfl rfl ck30) ?_
  rfl
theorem b152_228 {x1 x2 x3 s0 s1 : Int32} {x4 : Option am_V} {M : am_M} {w : am_W4}  : am_rn call 152 228 [some (am_P (30, 0, 0)), some (am_I x1), some (am_I x2), some (am_I x3), x4] [am_I s0, am_I s1] M (am_Z w) = if s1 = s0 then am_cb (call 130 [am_P (30, 0, 0), am_I x3, am_I (nI 6), am_I (nI 1)] M (am_Z w)) fun v M' X' => am_rn call 152 242 [some (am_P (30, 0, 0)), some (am_I x1), some (am_I x2), some (am_I x3), x4] (v.toList ++ []) M' X' else am_rn call 152 245 [some (am_P (30, 0, 0)), some (am_I x1), some (am_I x2), some (am_I x3), x4] [] M (am_Z w) := by
  refine Eq.trans (rl_iceq (o := 6) 234 (by decide +kernel) (by decide)) ?_
  refine am_ite (fun h_1 => ?_) (fun h_1 => ?_)
  · skip
    refine Eq.trans (rl_aloadn (j := 0) (by decide +kernel) rfl) ?_
    refine Eq.trans (rl_iloadn (j := 3) (by decide +kernel) rfl) ?_
    refine Eq.trans (rl_bipush (c := 6) (k := (nI 6)) (by decide +kernel) (by decide)) ?_
    refine Eq.trans (rl_iconst (c := 1) (k := (nI 1)) (by decide +kernel) (by decide)) ?_
    refine Eq.trans (rl_inv (ix := 109) (n := 3) (o := 9) 130 [am_I x3, am_I (nI 6), am_I (nI 1)] [] (by decide +kernel) (by decide +kernel) (by decide +kernel) (by decide +kernel) ⟨rfl, rfl⟩ rfl rfl ck30) ?_
    rfl
  · skip
    refine Eq.trans (rl_goto (o := 14) 245 (by decide +kernel) (by decide)) ?_
    rfl
theorem b152_242 {x1 x2 x3 : Int32} {x4 : Option am_V} {M : am_M} {w : am_W4}  : am_rn call 152 242 [some (am_P (30, 0, 0)), some (am_I x1), some (am_I x2), some (am_I x3), x4] [] M (am_Z w) = am_rn call 152 245 [some (am_P (30, 0, 0)), some (am_I x1), some (am_I (x2 + (nI 1))), some (am_I x3), x4] [] M (am_Z w) := by
  refine Eq.trans (rl_iinc (j := 2) (c := 1) (k := (nI 1)) (ls' := [some (am_P (30, 0, 0)), some (am_I x1), some (am_I (x2 + (nI 1))), some (am_I x3), x4]) (by decide +kernel) (by decide) rfl rfl) ?_
  rfl
theorem b152_245 {x1 x2 x3 : Int32} {x4 : Option am_V} {M : am_M} {w : am_W4}  : am_rn call 152 245 [some (am_P (30, 0, 0)), some (am_I x1), some (am_I x2), some (am_I x3), x4] [] M (am_Z w) = am_rn call 152 173 [some (am_P (30, 0, 0)), some (am_I x1), some (am_I x2), some (am_I (x3 + (nI 1))), x4] [] M (am_Z w) := by
  refine Eq.trans (rl_iinc (j := 3) (c := 1) (k := (nI 1)) (ls' := [some (am_P (30, 0, 0)), some (am_I x1), some (am_I x2), some (am_I (x3 + (nI 1))), x4]) (by decide +kernel) (by decide) rfl rfl) ?_
  refine Eq.trans (rl_goto (o := (-75)) 173 (by decide +kernel) (by decide)) ?_
  rfl
theorem b152_261 {x1 x2 x3 : Int32} {x4 : Option am_V} {M : am_M} {w : am_W4}  : am_rn call 152 261 [some (am_P (30, 0, 0)), some (am_I x1), some (am_I x2), some (am_I x3), x4] [] M (am_Z w) = if ((M (31, 0, 0) 0) - (M (31, 0, 0) 0) / (nI 6) * (nI 6)) = 0 then am_rn call 152 275 [some (am_P (30, 0, 0)), some (am_I x1), some (am_I x2), some (am_I (nI 0)), x4] [] M (am_Z w) else some (.inl (some (am_I x2)), M, (am_Z w)) := by
  refine Eq.trans (rl_aloadn (j := 0) (by decide +kernel) rfl) ?_
  refine Eq.trans (rl_getP (ix := 9) (ci := 9) (j := 0) (by decide +kernel) (by decide +kernel) (by decide +kernel) ck30 rfl) ?_
  refine Eq.trans (rl_iconst (c := 0) (k := (nI 0)) (by decide +kernel) (by decide)) ?_
  refine Eq.trans (rl_iald' 0 (by decide +kernel) ka31 rfl rfl) ?_
  refine Eq.trans (rl_bipush (c := 6) (k := (nI 6)) (by decide +kernel) (by decide)) ?_
  refine Eq.trans (rl_irem (by decide +kernel) rfl) ?_
  refine Eq.trans (rl_ifne (o := 45) 315 (by decide +kernel) (by decide)) ?_
  refine am_ite (fun h_1 => ?_) (fun h_1 => ?_)
  · skip
    refine Eq.trans (rl_iconst (c := 0) (k := (nI 0)) (by decide +kernel) (by decide)) ?_
    refine Eq.trans (rl_istoren (j := 3) (ls' := [some (am_P (30, 0, 0)), some (am_I x1), some (am_I x2), some (am_I (nI 0)), x4]) (by decide +kernel) rfl rfl) ?_
    rfl
  · skip
    refine Eq.trans (rl_iloadn (j := 2) (by decide +kernel) rfl) ?_
    exact rl_iret (by decide +kernel) rfl
theorem b152_275 {x1 x2 x3 : Int32} {x4 : Option am_V} {M : am_M} {w : am_W4}  : am_rn call 152 275 [some (am_P (30, 0, 0)), some (am_I x1), some (am_I x2), some (am_I x3), x4] [] M (am_Z w) = if x3 < ((M (31, 0, 0) 1) - (nI 1)) then am_cb (call 131 [am_P (30, 0, 0), am_I x3] M (am_Z w)) fun v M' X' => am_rn call 152 305 [some (am_P (30, 0, 0)), some (am_I x1), some (am_I x2), some (am_I x3), x4] (v.toList ++ [am_I x3, am_I (((nI 48) + ((nI 2) * x3)) + (nI 1)), am_P (31, 0, 0)]) M' X' else some (.inl (some (am_I x2)), M, (am_Z w)) := by
  refine Eq.trans (rl_iloadn (j := 3) (by decide +kernel) rfl) ?_
  refine Eq.trans (rl_aloadn (j := 0) (by decide +kernel) rfl) ?_
  refine Eq.trans (rl_getP (ix := 9) (ci := 9) (j := 0) (by decide +kernel) (by decide +kernel) (by decide +kernel) ck30 rfl) ?_
  refine Eq.trans (rl_iconst (c := 1) (k := (nI 1)) (by decide +kernel) (by decide)) ?_
  refine Eq.trans (rl_iald' 1 (by decide +kernel) ka31 rfl rfl) ?_
  refine Eq.trans (rl_iconst (c := 1) (k := (nI 1)) (by decide +kernel) (by decide)) ?_
  refine Eq.trans (rl_isub (by decide +kernel)) ?_
  refine Eq.trans (rl_icge (o := 31) 315 (by decide +kernel) (by decide)) ?_
  refine am_ite (fun h_1 => ?_) (fun h_1 => ?_)
  · skip
    refine Eq.trans (rl_aloadn (j := 0) (by decide +kernel) rfl) ?_
    refine Eq.trans (rl_getP (ix := 9) (ci := 9) (j := 0) (by decide +kernel) (by decide +kernel) (by decide +kernel) ck30 rfl) ?_
    refine Eq.trans (rl_bipush (c := 48) (k := (nI 48)) (by decide +kernel) (by decide)) ?_
    refine Eq.trans (rl_iconst (c := 2) (k := (nI 2)) (by decide +kernel) (by decide)) ?_
    refine Eq.trans (rl_iloadn (j := 3) (by decide +kernel) rfl) ?_
    refine Eq.trans (rl_imul (by decide +kernel)) ?_
    refine Eq.trans (rl_iadd (by decide +kernel)) ?_
    refine Eq.trans (rl_iconst (c := 1) (k := (nI 1)) (by decide +kernel) (by decide)) ?_
    refine Eq.trans (rl_iadd (by decide +kernel)) ?_
    refine Eq.trans (rl_iloadn (j := 3) (by decide +kernel) rfl) ?_
    refine Eq.trans (rl_aloadn (j := 0) (by decide +kernel) rfl) ?_
    refine Eq.trans (rl_iloadn (j := 3) (by decide +kernel) rfl) ?_
    refine Eq.trans (rl_inv (ix := 95) (n := 1) (o := 9) 131 [am_I x3] [am_I x3, am_I (((nI 48) + ((nI 2) * x3)) + (nI 1)), am_P (31, 0, 0)] (by decide +kernel) (by decide +kernel) (by decide +kernel) (by decide +kernel) ⟨rfl, rfl⟩ rfl rfl ck30) ?_
    rfl
  · skip
    refine Eq.trans (rl_iloadn (j := 2) (by decide +kernel) rfl) ?_
    exact rl_iret (by decide +kernel) rfl
theorem b152_305 {x1 x2 x3 s0 s1 s2 : Int32} {x4 : Option am_V} {M : am_M} {w : am_W4}  : am_rn call 152 305 [some (am_P (30, 0, 0)), some (am_I x1), some (am_I x2), some (am_I x3), x4] [am_I s0, am_I s1, am_I s2, am_P (31, 0, 0)] M (am_Z w) = am_cb (call 153 [am_I s1, am_I s0] M (am_Z w)) fun v M' X' => am_rn call 152 308 [some (am_P (30, 0, 0)), some (am_I x1), some (am_I x2), some (am_I x3), x4] (v.toList ++ [am_I s2, am_P (31, 0, 0)]) M' X' := by
  refine Eq.trans (rl_invS (ix := 152) (n := 2) (k := 1) 153 [am_I s1, am_I s0] [am_I s2, am_P (31, 0, 0)] (by decide +kernel) (by decide +kernel) (by decide) (by decide +kernel) ⟨rfl, rfl⟩ rfl rfl) ?_
  rfl
theorem b152_308 {x1 x2 x3 s0 s1 : Int32} {x4 : Option am_V} {M : am_M} {w : am_W4}  : am_rn call 152 308 [some (am_P (30, 0, 0)), some (am_I x1), some (am_I x2), some (am_I x3), x4] [am_I s0, am_I s1, am_P (31, 0, 0)] M (am_Z w) = if am_in s1 364 then am_rn call 152 275 [some (am_P (30, 0, 0)), some (am_I x1), some (am_I x2), some (am_I (x3 + (nI 1))), x4] [] (am_set M (31, 0, 0) s1.toNatClampNeg s0) (am_Z w) else none := by
  refine Eq.trans (rl_iast (by decide +kernel) ka31) ?_
  refine am_ite (fun h_1 => ?_) (fun _ => rfl)
  refine Eq.trans (rl_iinc (j := 3) (c := 1) (k := (nI 1)) (ls' := [some (am_P (30, 0, 0)), some (am_I x1), some (am_I x2), some (am_I (x3 + (nI 1))), x4]) (by decide +kernel) (by decide) rfl rfl) ?_
  refine Eq.trans (rl_goto (o := (-37)) 275 (by decide +kernel) (by decide)) ?_
  rfl
theorem e152 {d : Nat}  {M : am_M} {w : am_W4}  : am_ev (d + 1) 152 [am_P (30, 0, 0)] M (am_Z w) = am_rn (am_ev d) 152 4 [some (am_P (30, 0, 0)), some (am_I (nI 0)), some (am_I (nI 0)), none, none] [] M (am_Z w) := (am_ev_eq d 152 _ M (am_Z w)).trans (b152_0)
theorem b153_0 {x0 x1 : Int32} {M : am_M} {w : am_W4}  : am_rn call 153 0 [some (am_I x0), some (am_I x1)] [] M (am_Z w) = some (.inl (some (am_I (((((nI 3) * x1) + x0) + (nI 1)) - ((((nI 3) * x1) + x0) + (nI 1)) / (nI 10) * (nI 10)))), M, (am_Z w)) := by
  refine Eq.trans (rl_iconst (c := 3) (k := (nI 3)) (by decide +kernel) (by decide)) ?_
  refine Eq.trans (rl_iloadn (j := 1) (by decide +kernel) rfl) ?_
  refine Eq.trans (rl_imul (by decide +kernel)) ?_
  refine Eq.trans (rl_iloadn (j := 0) (by decide +kernel) rfl) ?_
  refine Eq.trans (rl_iadd (by decide +kernel)) ?_
  refine Eq.trans (rl_iconst (c := 1) (k := (nI 1)) (by decide +kernel) (by decide)) ?_
  refine Eq.trans (rl_iadd (by decide +kernel)) ?_
  refine Eq.trans (rl_bipush (c := 10) (k := (nI 10)) (by decide +kernel) (by decide)) ?_
  refine Eq.trans (rl_irem (by decide +kernel) rfl) ?_
  exact rl_iret (by decide +kernel) rfl
theorem e153 {d : Nat} {x0 x1 : Int32} {M : am_M} {w : am_W4}  : am_ev (d + 1) 153 [am_I x0, am_I x1] M (am_Z w) = some (.inl (some (am_I (((((nI 3) * x1) + x0) + (nI 1)) - ((((nI 3) * x1) + x0) + (nI 1)) / (nI 10) * (nI 10)))), M, (am_Z w)) := (am_ev_eq d 153 _ M (am_Z w)).trans (b153_0)
theorem b154_0 {x1 : Int32} {M : am_M} {w : am_W4}  : am_rn call 154 0 [some (am_P (30, 0, 0)), some (am_I x1), none, none] [] M (am_Z w) = am_cb (call 116 [am_I x1, am_I (nI 1), am_I (nI 96)] M (am_Z w)) fun v M' X' => am_rn call 154 7 [some (am_P (30, 0, 0)), some (am_I x1), none, none] (v.toList ++ []) M' X' := by
  refine Eq.trans (rl_iloadn (j := 1) (by decide +kernel) rfl) ?_
  refine Eq.trans (rl_iconst (c := 1) (k := (nI 1)) (by decide +kernel) (by decide)) ?_
  refine Eq.trans (rl_bipush (c := 96) (k := (nI 96)) (by decide +kernel) (by decide)) ?_
  refine Eq.trans (rl_invS (ix := 67) (n := 3) (k := 1) 116 [am_I x1, am_I (nI 1), am_I (nI 96)] [] (by decide +kernel) (by decide +kernel) (by decide) (by decide +kernel) ⟨rfl, rfl⟩ rfl rfl) ?_
  rfl
theorem b154_7 {x1 s0 : Int32} {M : am_M} {w : am_W4}  : am_rn call 154 7 [some (am_P (30, 0, 0)), some (am_I x1), none, none] [am_I s0] M (am_Z w) = if s0 = 0 then am_cb (call 122 [am_P (30, 0, 0), am_I (nI 1), am_I (nI 0)] M (am_Z w)) fun v M' X' => am_rn call 154 16 [some (am_P (30, 0, 0)), some (am_I x1), none, none] (v.toList ++ []) M' X' else am_rn call 154 21 [some (am_P (30, 0, 0)), some (am_I x1), some (am_I (nI 0)), some (am_I (nI 0))] [] M (am_Z w) := by
  refine Eq.trans (rl_ifne (o := 10) 17 (by decide +kernel) (by decide)) ?_
  refine am_ite (fun h_1 => ?_) (fun h_1 => ?_)
  · skip
    refine Eq.trans (rl_aloadn (j := 0) (by decide +kernel) rfl) ?_
    refine Eq.trans (rl_iconst (c := 1) (k := (nI 1)) (by decide +kernel) (by decide)) ?_
    refine Eq.trans (rl_iconst (c := 0) (k := (nI 0)) (by decide +kernel) (by decide)) ?_
    refine Eq.trans (rl_inv (ix := 74) (n := 2) (o := 9) 122 [am_I (nI 1), am_I (nI 0)] [] (by decide +kernel) (by decide +kernel) (by decide +kernel) (by decide +kernel) ⟨rfl, rfl⟩ rfl rfl ck30) ?_
    rfl
  · skip
    refine Eq.trans (rl_iconst (c := 0) (k := (nI 0)) (by decide +kernel) (by decide)) ?_
    refine Eq.trans (rl_istoren (j := 2) (ls' := [some (am_P (30, 0, 0)), some (am_I x1), some (am_I (nI 0)), none]) (by decide +kernel) rfl rfl) ?_
    refine Eq.trans (rl_iconst (c := 0) (k := (nI 0)) (by decide +kernel) (by decide)) ?_
    refine Eq.trans (rl_istoren (j := 3) (ls' := [some (am_P (30, 0, 0)), some (am_I x1), some (am_I (nI 0)), some (am_I (nI 0))]) (by decide +kernel) rfl rfl) ?_
    rfl
theorem b154_16 {x1 s0 : Int32} {M : am_M} {w : am_W4}  : am_rn call 154 16 [some (am_P (30, 0, 0)), some (am_I x1), none, none] [am_I s0] M (am_Z w) = if am_pc 1 s0 = true then some (.inl (some (am_I s0)), M, (am_Z w)) else none := by
  exact rl_zret (by decide +kernel) rfl
theorem b154_21 {x1 x2 x3 : Int32} {M : am_M} {w : am_W4}  : am_rn call 154 21 [some (am_P (30, 0, 0)), some (am_I x1), some (am_I x2), some (am_I x3)] [] M (am_Z w) = if x3 < x1 then am_cb (call 152 [am_P (30, 0, 0)] M (am_Z w)) fun v M' X' => am_rn call 154 31 [some (am_P (30, 0, 0)), some (am_I x1), some (am_I x2), some (am_I x3)] (v.toList ++ [am_I x2]) M' X' else am_cb (call 123 [am_P (30, 0, 0), am_I x2] M (am_Z w)) fun v M' X' => am_rn call 154 44 [some (am_P (30, 0, 0)), some (am_I x1), some (am_I x2), some (am_I x3)] (v.toList ++ []) M' X' := by
  refine Eq.trans (rl_iloadn (j := 3) (by decide +kernel) rfl) ?_
  refine Eq.trans (rl_iloadn (j := 1) (by decide +kernel) rfl) ?_
  refine Eq.trans (rl_icge (o := 16) 39 (by decide +kernel) (by decide)) ?_
  refine am_ite (fun h_1 => ?_) (fun h_1 => ?_)
  · skip
    refine Eq.trans (rl_iloadn (j := 2) (by decide +kernel) rfl) ?_
    refine Eq.trans (rl_aloadn (j := 0) (by decide +kernel) rfl) ?_
    refine Eq.trans (rl_inv (ix := 155) (n := 0) (o := 9) 152 [] [am_I x2] (by decide +kernel) (by decide +kernel) (by decide +kernel) (by decide +kernel) ⟨rfl, rfl⟩ rfl rfl ck30) ?_
    rfl
  · skip
    refine Eq.trans (rl_aloadn (j := 0) (by decide +kernel) rfl) ?_
    refine Eq.trans (rl_iloadn (j := 2) (by decide +kernel) rfl) ?_
    refine Eq.trans (rl_inv (ix := 86) (n := 1) (o := 9) 123 [am_I x2] [] (by decide +kernel) (by decide +kernel) (by decide +kernel) (by decide +kernel) ⟨rfl, rfl⟩ rfl rfl ck30) ?_
    rfl
theorem b154_31 {x1 x2 x3 s0 s1 : Int32} {M : am_M} {w : am_W4}  : am_rn call 154 31 [some (am_P (30, 0, 0)), some (am_I x1), some (am_I x2), some (am_I x3)] [am_I s0, am_I s1] M (am_Z w) = am_rn call 154 21 [some (am_P (30, 0, 0)), some (am_I x1), some (am_I (s1 + s0)), some (am_I (x3 + (nI 1)))] [] M (am_Z w) := by
  refine Eq.trans (rl_iadd (by decide +kernel)) ?_
  refine Eq.trans (rl_istoren (j := 2) (ls' := [some (am_P (30, 0, 0)), some (am_I x1), some (am_I (s1 + s0)), some (am_I x3)]) (by decide +kernel) rfl rfl) ?_
  refine Eq.trans (rl_iinc (j := 3) (c := 1) (k := (nI 1)) (ls' := [some (am_P (30, 0, 0)), some (am_I x1), some (am_I (s1 + s0)), some (am_I (x3 + (nI 1)))]) (by decide +kernel) (by decide) rfl rfl) ?_
  refine Eq.trans (rl_goto (o := (-15)) 21 (by decide +kernel) (by decide)) ?_
  rfl
theorem b154_44 {x1 x2 x3 s0 : Int32} {M : am_M} {w : am_W4}  : am_rn call 154 44 [some (am_P (30, 0, 0)), some (am_I x1), some (am_I x2), some (am_I x3)] [am_I s0] M (am_Z w) = if am_pc 1 s0 = true then some (.inl (some (am_I s0)), M, (am_Z w)) else none := by
  exact rl_zret (by decide +kernel) rfl
theorem e154 {d : Nat} {x1 : Int32} {M : am_M} {w : am_W4}  : am_ev (d + 1) 154 [am_P (30, 0, 0), am_I x1] M (am_Z w) = am_cb ((am_ev d) 116 [am_I x1, am_I (nI 1), am_I (nI 96)] M (am_Z w)) fun v M' X' => am_rn (am_ev d) 154 7 [some (am_P (30, 0, 0)), some (am_I x1), none, none] (v.toList ++ []) M' X' := (am_ev_eq d 154 _ M (am_Z w)).trans (b154_0)
theorem b155_0 {x1 : Int32} {M : am_M} {w : am_W4}  : am_rn call 155 0 [some (am_P (30, 0, 0)), some (am_I x1)] [] M (am_Z w) = am_cb (call 117 [am_P (30, 0, 0)] M (am_Z w)) fun v M' X' => am_rn call 155 4 [some (am_P (30, 0, 0)), some (am_I x1)] (v.toList ++ []) M' X' := by
  refine Eq.trans (rl_aloadn (j := 0) (by decide +kernel) rfl) ?_
  refine Eq.trans (rl_inv (ix := 71) (n := 0) (o := 9) 117 [] [] (by decide +kernel) (by decide +kernel) (by decide +kernel) (by decide +kernel) ⟨rfl, rfl⟩ rfl rfl ck30) ?_
  rfl
theorem b155_4 {x1 : Int32} {M : am_M} {w : am_W4}  : am_rn call 155 4 [some (am_P (30, 0, 0)), some (am_I x1)] [] M (am_Z w) = am_cb (call 154 [am_P (30, 0, 0), am_I x1] M (am_Z w)) fun v M' X' => am_rn call 155 10 [some (am_P (30, 0, 0)), some (am_I x1)] (v.toList ++ [am_P (30, 0, 0)]) M' X' := by
  refine Eq.trans (rl_aloadn (j := 0) (by decide +kernel) rfl) ?_
  refine Eq.trans (rl_aloadn (j := 0) (by decide +kernel) rfl) ?_
  refine Eq.trans (rl_iloadn (j := 1) (by decide +kernel) rfl) ?_
  refine Eq.trans (rl_inv (ix := 159) (n := 1) (o := 9) 154 [am_I x1] [am_P (30, 0, 0)] (by decide +kernel) (by decide +kernel) (by decide +kernel) (by decide +kernel) ⟨rfl, rfl⟩ rfl rfl ck30) ?_
  rfl
theorem b155_10 {x1 s0 : Int32} {M : am_M} {w : am_W4}  : am_rn call 155 10 [some (am_P (30, 0, 0)), some (am_I x1)] [am_I s0, am_P (30, 0, 0)] M (am_Z w) = am_cb (call 124 [am_P (30, 0, 0), am_I s0] M (am_Z w)) fun v M' X' => am_rn call 155 13 [some (am_P (30, 0, 0)), some (am_I x1)] (v.toList ++ []) M' X' := by
  refine Eq.trans (rl_inv (ix := 78) (n := 1) (o := 9) 124 [am_I s0] [] (by decide +kernel) (by decide +kernel) (by decide +kernel) (by decide +kernel) ⟨rfl, rfl⟩ rfl rfl ck30) ?_
  rfl
theorem b155_13 {x1 s0 : Int32} {M : am_M} {w : am_W4}  : am_rn call 155 13 [some (am_P (30, 0, 0)), some (am_I x1)] [am_I s0] M (am_Z w) = some (.inl (some (am_I s0)), M, (am_Z w)) := by
  exact rl_iret (by decide +kernel) rfl
theorem e155 {d : Nat} {x1 : Int32} {M : am_M} {w : am_W4}  : am_ev (d + 1) 155 [am_P (30, 0, 0), am_I x1] M (am_Z w) = am_cb ((am_ev d) 117 [am_P (30, 0, 0)] M (am_Z w)) fun v M' X' => am_rn (am_ev d) 155 4 [some (am_P (30, 0, 0)), some (am_I x1)] (v.toList ++ []) M' X' := (am_ev_eq d 155 _ M (am_Z w)).trans (b155_0)
theorem b156_0 {x1 : Int32} {M : am_M} {w : am_W4}  : am_rn call 156 0 [some (am_P (30, 0, 0)), some (am_I x1), none, none] [] M (am_Z w) = am_rn call 156 4 [some (am_P (30, 0, 0)), some (am_I x1), some (am_I (nI 0)), some (am_I (nI 0))] [] M (am_Z w) := by
  refine Eq.trans (rl_iconst (c := 0) (k := (nI 0)) (by decide +kernel) (by decide)) ?_
  refine Eq.trans (rl_istoren (j := 2) (ls' := [some (am_P (30, 0, 0)), some (am_I x1), some (am_I (nI 0)), none]) (by decide +kernel) rfl rfl) ?_
  refine Eq.trans (rl_iconst (c := 0) (k := (nI 0)) (by decide +kernel) (by decide)) ?_
  refine Eq.trans (rl_istoren (j := 3) (ls' := [some (am_P (30, 0, 0)), some (am_I x1), some (am_I (nI 0)), some (am_I (nI 0))]) (by decide +kernel) rfl rfl) ?_
  rfl
theorem b156_4 {x1 x2 x3 : Int32} {M : am_M} {w : am_W4}  : am_rn call 156 4 [some (am_P (30, 0, 0)), some (am_I x1), some (am_I x2), some (am_I x3)] [] M (am_Z w) = if x3 < (M (31, 0, 0) 2) then am_cb (call 129 [am_P (30, 0, 0), am_I x3, am_I (nI 6)] M (am_Z w)) fun v M' X' => am_rn call 156 21 [some (am_P (30, 0, 0)), some (am_I x1), some (am_I x2), some (am_I x3)] (v.toList ++ []) M' X' else some (.inl (some (am_I x2)), M, (am_Z w)) := by
  refine Eq.trans (rl_iloadn (j := 3) (by decide +kernel) rfl) ?_
  refine Eq.trans (rl_aloadn (j := 0) (by decide +kernel) rfl) ?_
  refine Eq.trans (rl_getP (ix := 9) (ci := 9) (j := 0) (by decide +kernel) (by decide +kernel) (by decide +kernel) ck30 rfl) ?_
  refine Eq.trans (rl_iconst (c := 2) (k := (nI 2)) (by decide +kernel) (by decide)) ?_
  refine Eq.trans (rl_iald' 2 (by decide +kernel) ka31 rfl rfl) ?_
  refine Eq.trans (rl_icge (o := 23) 34 (by decide +kernel) (by decide)) ?_
  refine am_ite (fun h_1 => ?_) (fun h_1 => ?_)
  · skip
    refine Eq.trans (rl_aloadn (j := 0) (by decide +kernel) rfl) ?_
    refine Eq.trans (rl_iloadn (j := 3) (by decide +kernel) rfl) ?_
    refine Eq.trans (rl_bipush (c := 6) (k := (nI 6)) (by decide +kernel) (by decide)) ?_
    refine Eq.trans (rl_inv (ix := 119) (n := 2) (o := 9) 129 [am_I x3, am_I (nI 6)] [] (by decide +kernel) (by decide +kernel) (by decide +kernel) (by decide +kernel) ⟨rfl, rfl⟩ rfl rfl ck30) ?_
    rfl
  · skip
    refine Eq.trans (rl_iloadn (j := 2) (by decide +kernel) rfl) ?_
    exact rl_iret (by decide +kernel) rfl
theorem b156_21 {x1 x2 x3 s0 : Int32} {M : am_M} {w : am_W4}  : am_rn call 156 21 [some (am_P (30, 0, 0)), some (am_I x1), some (am_I x2), some (am_I x3)] [am_I s0] M (am_Z w) = if s0 = x1 then am_rn call 156 28 [some (am_P (30, 0, 0)), some (am_I x1), some (am_I (x2 + (nI 1))), some (am_I x3)] [] M (am_Z w) else am_rn call 156 28 [some (am_P (30, 0, 0)), some (am_I x1), some (am_I x2), some (am_I x3)] [] M (am_Z w) := by
  refine Eq.trans (rl_iloadn (j := 1) (by decide +kernel) rfl) ?_
  refine Eq.trans (rl_icne (o := 6) 28 (by decide +kernel) (by decide)) ?_
  refine am_ite (fun h_1 => ?_) (fun h_1 => ?_)
  · skip
    refine Eq.trans (rl_iinc (j := 2) (c := 1) (k := (nI 1)) (ls' := [some (am_P (30, 0, 0)), some (am_I x1), some (am_I (x2 + (nI 1))), some (am_I x3)]) (by decide +kernel) (by decide) rfl rfl) ?_
    rfl
  · skip
    rfl
theorem b156_28 {x1 x2 x3 : Int32} {M : am_M} {w : am_W4}  : am_rn call 156 28 [some (am_P (30, 0, 0)), some (am_I x1), some (am_I x2), some (am_I x3)] [] M (am_Z w) = am_rn call 156 4 [some (am_P (30, 0, 0)), some (am_I x1), some (am_I x2), some (am_I (x3 + (nI 1)))] [] M (am_Z w) := by
  refine Eq.trans (rl_iinc (j := 3) (c := 1) (k := (nI 1)) (ls' := [some (am_P (30, 0, 0)), some (am_I x1), some (am_I x2), some (am_I (x3 + (nI 1)))]) (by decide +kernel) (by decide) rfl rfl) ?_
  refine Eq.trans (rl_goto (o := (-27)) 4 (by decide +kernel) (by decide)) ?_
  rfl
theorem e156 {d : Nat} {x1 : Int32} {M : am_M} {w : am_W4}  : am_ev (d + 1) 156 [am_P (30, 0, 0), am_I x1] M (am_Z w) = am_rn (am_ev d) 156 4 [some (am_P (30, 0, 0)), some (am_I x1), some (am_I (nI 0)), some (am_I (nI 0))] [] M (am_Z w) := (am_ev_eq d 156 _ M (am_Z w)).trans (b156_0)
theorem b157_0 {x1 x2 : Int32} {M : am_M} {w : am_W4}  : am_rn call 157 0 [some (am_P (30, 0, 0)), some (am_I x1), some (am_I x2), none, none] [] M (am_Z w) = am_cb (call 125 [am_P (30, 0, 0), am_I x1] (am_set M (30, 0, 0) 20 (nI 0)) (am_Z w)) fun v M' X' => am_rn call 157 10 [some (am_P (30, 0, 0)), some (am_I x1), some (am_I x2), none, none] (v.toList ++ []) M' X' := by
  refine Eq.trans (rl_aloadn (j := 0) (by decide +kernel) rfl) ?_
  refine Eq.trans (rl_iconst (c := 0) (k := (nI 0)) (by decide +kernel) (by decide)) ?_
  refine Eq.trans (rl_put (ix := 39) (ci := 9) (j := 20) (by decide +kernel) (by decide +kernel) (by decide +kernel) (by decide +kernel) ck30) ?_
  refine Eq.trans (rl_aloadn (j := 0) (by decide +kernel) rfl) ?_
  refine Eq.trans (rl_iloadn (j := 1) (by decide +kernel) rfl) ?_
  refine Eq.trans (rl_inv (ix := 82) (n := 1) (o := 9) 125 [am_I x1] [] (by decide +kernel) (by decide +kernel) (by decide +kernel) (by decide +kernel) ⟨rfl, rfl⟩ rfl rfl ck30) ?_
  rfl
theorem b157_10 {x1 x2 s0 : Int32} {M : am_M} {w : am_W4}  : am_rn call 157 10 [some (am_P (30, 0, 0)), some (am_I x1), some (am_I x2), none, none] [am_I s0] M (am_Z w) = if s0 = 0 then am_cb (call 115 [am_P (30, 0, 0), am_I (nI 1)] M (am_Z w)) fun v M' X' => am_rn call 157 18 [some (am_P (30, 0, 0)), some (am_I x1), some (am_I x2), none, none] (v.toList ++ []) M' X' else if x2 = (nI 0) then am_cb (call 128 [am_P (30, 0, 0), am_I x1, am_I x2] M (am_Z w)) fun v M' X' => am_rn call 157 74 [some (am_P (30, 0, 0)), some (am_I x1), some (am_I x2), some (am_I (nI 0)), none] (v.toList ++ []) M' X' else if x2 = (nI 1) then am_cb (call 128 [am_P (30, 0, 0), am_I x1, am_I x2] M (am_Z w)) fun v M' X' => am_rn call 157 74 [some (am_P (30, 0, 0)), some (am_I x1), some (am_I x2), some (am_I (nI 0)), none] (v.toList ++ []) M' X' else if x2 = (nI 2) then am_cb (call 128 [am_P (30, 0, 0), am_I x1, am_I x2] M (am_Z w)) fun v M' X' => am_rn call 157 74 [some (am_P (30, 0, 0)), some (am_I x1), some (am_I x2), some (am_I (nI 0)), none] (v.toList ++ []) M' X' else if x2 = (nI 3) then am_cb (call 128 [am_P (30, 0, 0), am_I x1, am_I x2] M (am_Z w)) fun v M' X' => am_rn call 157 74 [some (am_P (30, 0, 0)), some (am_I x1), some (am_I x2), some (am_I (nI 0)), none] (v.toList ++ []) M' X' else if x2 = (nI 4) then am_rn call 157 78 [some (am_P (30, 0, 0)), some (am_I x1), some (am_I x2), some (am_I (nI 0)), some (am_I (nI 0))] [] M (am_Z w) else if x2 = (nI 5) then am_cb (call 128 [am_P (30, 0, 0), am_I x1, am_I (nI 4)] M (am_Z w)) fun v M' X' => am_rn call 157 116 [some (am_P (30, 0, 0)), some (am_I x1), some (am_I x2), some (am_I (nI 0)), none] (v.toList ++ []) M' X' else if x2 = (nI 6) then am_cb (call 128 [am_P (30, 0, 0), am_I x1, am_I (nI 5)] M (am_Z w)) fun v M' X' => am_rn call 157 123 [some (am_P (30, 0, 0)), some (am_I x1), some (am_I x2), some (am_I (nI 0)), none] (v.toList ++ []) M' X' else if x2 = (nI 7) then am_cb (call 144 [am_P (30, 0, 0), am_I x1] M (am_Z w)) fun v M' X' => am_rn call 157 129 [some (am_P (30, 0, 0)), some (am_I x1), some (am_I x2), some (am_I (nI 0)), none] (v.toList ++ []) M' X' else am_cb (call 115 [am_P (30, 0, 0), am_I (nI 2)] M (am_Z w)) fun v M' X' => am_rn call 157 143 [some (am_P (30, 0, 0)), some (am_I x1), some (am_I x2), some (am_I (nI 0)), none] (v.toList ++ []) M' X' := by
  refine Eq.trans (rl_ifne (o := 9) 19 (by decide +kernel) (by decide)) ?_
  refine am_ite (fun h_1 => ?_) (fun h_1 => ?_)
  · skip
    refine Eq.trans (rl_aloadn (j := 0) (by decide +kernel) rfl) ?_
    refine Eq.trans (rl_iconst (c := 1) (k := (nI 1)) (by decide +kernel) (by decide)) ?_
    refine Eq.trans (rl_inv (ix := 64) (n := 1) (o := 9) 115 [am_I (nI 1)] [] (by decide +kernel) (by decide +kernel) (by decide +kernel) (by decide +kernel) ⟨rfl, rfl⟩ rfl rfl ck30) ?_
    rfl
  · skip
    refine Eq.trans (rl_iconst (c := 0) (k := (nI 0)) (by decide +kernel) (by decide)) ?_
    refine Eq.trans (rl_istoren (j := 3) (ls' := [some (am_P (30, 0, 0)), some (am_I x1), some (am_I x2), some (am_I (nI 0)), none]) (by decide +kernel) rfl rfl) ?_
    refine Eq.trans (rl_iloadn (j := 2) (by decide +kernel) rfl) ?_
    refine Eq.trans (rl_ts (d := 116) (lo := 0) (hi := 7) (os := #[46, 46, 46, 46, 53, 88, 95, 102]) 138 [68, 68, 68, 68, 75, 110, 117, 124] (by decide +kernel) (by decide +kernel)) ?_
    refine Eq.trans (rl_sw (nI 0) (by decide)) ?_
    refine am_ite (fun _ => ?_) (fun _ => ?_)
    · skip
      refine Eq.trans (rl_aloadn (j := 0) (by decide +kernel) rfl) ?_
      refine Eq.trans (rl_iloadn (j := 1) (by decide +kernel) rfl) ?_
      refine Eq.trans (rl_iloadn (j := 2) (by decide +kernel) rfl) ?_
      refine Eq.trans (rl_inv (ix := 101) (n := 2) (o := 9) 128 [am_I x1, am_I x2] [] (by decide +kernel) (by decide +kernel) (by decide +kernel) (by decide +kernel) ⟨rfl, rfl⟩ rfl rfl ck30) ?_
      rfl
    refine Eq.trans (rl_sw (nI 1) (by decide)) ?_
    refine am_ite (fun _ => ?_) (fun _ => ?_)
    · skip
      refine Eq.trans (rl_aloadn (j := 0) (by decide +kernel) rfl) ?_
      refine Eq.trans (rl_iloadn (j := 1) (by decide +kernel) rfl) ?_
      refine Eq.trans (rl_iloadn (j := 2) (by decide +kernel) rfl) ?_
      refine Eq.trans (rl_inv (ix := 101) (n := 2) (o := 9) 128 [am_I x1, am_I x2] [] (by decide +kernel) (by decide +kernel) (by decide +kernel) (by decide +kernel) ⟨rfl, rfl⟩ rfl rfl ck30) ?_
      rfl
    refine Eq.trans (rl_sw (nI 2) (by decide)) ?_
    refine am_ite (fun _ => ?_) (fun _ => ?_)
    · skip
      refine Eq.trans (rl_aloadn (j := 0) (by decide +kernel) rfl) ?_
      refine Eq.trans (rl_iloadn (j := 1) (by decide +kernel) rfl) ?_
      refine Eq.trans (rl_iloadn (j := 2) (by decide +kernel) rfl) ?_
      refine Eq.trans (rl_inv (ix := 101) (n := 2) (o := 9) 128 [am_I x1, am_I x2] [] (by decide +kernel) (by decide +kernel) (by decide +kernel) (by decide +kernel) ⟨rfl, rfl⟩ rfl rfl ck30) ?_
      rfl
    refine Eq.trans (rl_sw (nI 3) (by decide)) ?_
    refine am_ite (fun _ => ?_) (fun _ => ?_)
    · skip
      refine Eq.trans (rl_aloadn (j := 0) (by decide +kernel) rfl) ?_
      refine Eq.trans (rl_iloadn (j := 1) (by decide +kernel) rfl) ?_
      refine Eq.trans (rl_iloadn (j := 2) (by decide +kernel) rfl) ?_
      refine Eq.trans (rl_inv (ix := 101) (n := 2) (o := 9) 128 [am_I x1, am_I x2] [] (by decide +kernel) (by decide +kernel) (by decide +kernel) (by decide +kernel) ⟨rfl, rfl⟩ rfl rfl ck30) ?_
      rfl
    refine Eq.trans (rl_sw (nI 4) (by decide)) ?_
    refine am_ite (fun _ => ?_) (fun _ => ?_)
    · skip
      refine Eq.trans (rl_iconst (c := 0) (k := (nI 0)) (by decide +kernel) (by decide)) ?_
      refine Eq.trans (rl_istore (j := 4) (ls' := [some (am_P (30, 0, 0)), some (am_I x1), some (am_I x2), some (am_I (nI 0)), some (am_I (nI 0))]) (by decide +kernel) rfl rfl) ?_
      rfl
    refine Eq.trans (rl_sw (nI 5) (by decide)) ?_
    refine am_ite (fun _ => ?_) (fun _ => ?_)
    · skip
      refine Eq.trans (rl_aloadn (j := 0) (by decide +kernel) rfl) ?_
      refine Eq.trans (rl_iloadn (j := 1) (by decide +kernel) rfl) ?_
      refine Eq.trans (rl_iconst (c := 4) (k := (nI 4)) (by decide +kernel) (by decide)) ?_
      refine Eq.trans (rl_inv (ix := 101) (n := 2) (o := 9) 128 [am_I x1, am_I (nI 4)] [] (by decide +kernel) (by decide +kernel) (by decide +kernel) (by decide +kernel) ⟨rfl, rfl⟩ rfl rfl ck30) ?_
      rfl
    refine Eq.trans (rl_sw (nI 6) (by decide)) ?_
    refine am_ite (fun _ => ?_) (fun _ => ?_)
    · skip
      refine Eq.trans (rl_aloadn (j := 0) (by decide +kernel) rfl) ?_
      refine Eq.trans (rl_iloadn (j := 1) (by decide +kernel) rfl) ?_
      refine Eq.trans (rl_iconst (c := 5) (k := (nI 5)) (by decide +kernel) (by decide)) ?_
      refine Eq.trans (rl_inv (ix := 101) (n := 2) (o := 9) 128 [am_I x1, am_I (nI 5)] [] (by decide +kernel) (by decide +kernel) (by decide +kernel) (by decide +kernel) ⟨rfl, rfl⟩ rfl rfl ck30) ?_
      rfl
    refine Eq.trans (rl_sw (nI 7) (by decide)) ?_
    refine am_ite (fun _ => ?_) (fun _ => ?_)
    · skip
      refine Eq.trans (rl_aloadn (j := 0) (by decide +kernel) rfl) ?_
      refine Eq.trans (rl_iloadn (j := 1) (by decide +kernel) rfl) ?_
      refine Eq.trans (rl_inv (ix := 142) (n := 1) (o := 9) 144 [am_I x1] [] (by decide +kernel) (by decide +kernel) (by decide +kernel) (by decide +kernel) ⟨rfl, rfl⟩ rfl rfl ck30) ?_
      rfl
    show am_rn call 157 138 _ _ _ _ = _
    refine Eq.trans (rl_aloadn (j := 0) (by decide +kernel) rfl) ?_
    refine Eq.trans (rl_iconst (c := 2) (k := (nI 2)) (by decide +kernel) (by decide)) ?_
    refine Eq.trans (rl_inv (ix := 64) (n := 1) (o := 9) 115 [am_I (nI 2)] [] (by decide +kernel) (by decide +kernel) (by decide +kernel) (by decide +kernel) ⟨rfl, rfl⟩ rfl rfl ck30) ?_
    rfl
theorem b157_18 {x1 x2 s0 : Int32} {M : am_M} {w : am_W4}  : am_rn call 157 18 [some (am_P (30, 0, 0)), some (am_I x1), some (am_I x2), none, none] [am_I s0] M (am_Z w) = some (.inl (some (am_I s0)), M, (am_Z w)) := by
  exact rl_iret (by decide +kernel) rfl
theorem b157_74 {x1 x2 x3 s0 : Int32} {M : am_M} {w : am_W4}  : am_rn call 157 74 [some (am_P (30, 0, 0)), some (am_I x1), some (am_I x2), some (am_I x3), none] [am_I s0] M (am_Z w) = some (.inl (some (am_I s0)), M, (am_Z w)) := by
  exact rl_iret (by decide +kernel) rfl
theorem b157_78 {x1 x2 x3 x4 : Int32} {M : am_M} {w : am_W4}  : am_rn call 157 78 [some (am_P (30, 0, 0)), some (am_I x1), some (am_I x2), some (am_I x3), some (am_I x4)] [] M (am_Z w) = if x4 < (M (31, 0, 0) 2) then am_cb (call 145 [am_P (30, 0, 0), am_I x4, am_I x1] M (am_Z w)) fun v M' X' => am_rn call 157 96 [some (am_P (30, 0, 0)), some (am_I x1), some (am_I x2), some (am_I x3), some (am_I x4)] (v.toList ++ []) M' X' else some (.inl (some (am_I x3)), M, (am_Z w)) := by
  refine Eq.trans (rl_iload (j := 4) (by decide +kernel) rfl) ?_
  refine Eq.trans (rl_aloadn (j := 0) (by decide +kernel) rfl) ?_
  refine Eq.trans (rl_getP (ix := 9) (ci := 9) (j := 0) (by decide +kernel) (by decide +kernel) (by decide +kernel) ck30 rfl) ?_
  refine Eq.trans (rl_iconst (c := 2) (k := (nI 2)) (by decide +kernel) (by decide)) ?_
  refine Eq.trans (rl_iald' 2 (by decide +kernel) ka31 rfl rfl) ?_
  refine Eq.trans (rl_icge (o := 22) 108 (by decide +kernel) (by decide)) ?_
  refine am_ite (fun h_1 => ?_) (fun h_1 => ?_)
  · skip
    refine Eq.trans (rl_aloadn (j := 0) (by decide +kernel) rfl) ?_
    refine Eq.trans (rl_iload (j := 4) (by decide +kernel) rfl) ?_
    refine Eq.trans (rl_iloadn (j := 1) (by decide +kernel) rfl) ?_
    refine Eq.trans (rl_inv (ix := 125) (n := 2) (o := 9) 145 [am_I x4, am_I x1] [] (by decide +kernel) (by decide +kernel) (by decide +kernel) (by decide +kernel) ⟨rfl, rfl⟩ rfl rfl ck30) ?_
    rfl
  · skip
    refine Eq.trans (rl_iloadn (j := 3) (by decide +kernel) rfl) ?_
    exact rl_iret (by decide +kernel) rfl
theorem b157_96 {x1 x2 x3 x4 s0 : Int32} {M : am_M} {w : am_W4}  : am_rn call 157 96 [some (am_P (30, 0, 0)), some (am_I x1), some (am_I x2), some (am_I x3), some (am_I x4)] [am_I s0] M (am_Z w) = if s0 = 0 then am_rn call 157 102 [some (am_P (30, 0, 0)), some (am_I x1), some (am_I x2), some (am_I x3), some (am_I x4)] [] M (am_Z w) else am_rn call 157 102 [some (am_P (30, 0, 0)), some (am_I x1), some (am_I x2), some (am_I (x3 + (nI 1))), some (am_I x4)] [] M (am_Z w) := by
  refine Eq.trans (rl_ifeq (o := 6) 102 (by decide +kernel) (by decide)) ?_
  refine am_ite (fun h_1 => ?_) (fun h_1 => ?_)
  · skip
    rfl
  · skip
    refine Eq.trans (rl_iinc (j := 3) (c := 1) (k := (nI 1)) (ls' := [some (am_P (30, 0, 0)), some (am_I x1), some (am_I x2), some (am_I (x3 + (nI 1))), some (am_I x4)]) (by decide +kernel) (by decide) rfl rfl) ?_
    rfl
theorem b157_102 {x1 x2 x3 x4 : Int32} {M : am_M} {w : am_W4}  : am_rn call 157 102 [some (am_P (30, 0, 0)), some (am_I x1), some (am_I x2), some (am_I x3), some (am_I x4)] [] M (am_Z w) = am_rn call 157 78 [some (am_P (30, 0, 0)), some (am_I x1), some (am_I x2), some (am_I x3), some (am_I (x4 + (nI 1)))] [] M (am_Z w) := by
  refine Eq.trans (rl_iinc (j := 4) (c := 1) (k := (nI 1)) (ls' := [some (am_P (30, 0, 0)), some (am_I x1), some (am_I x2), some (am_I x3), some (am_I (x4 + (nI 1)))]) (by decide +kernel) (by decide) rfl rfl) ?_
  refine Eq.trans (rl_goto (o := (-27)) 78 (by decide +kernel) (by decide)) ?_
  rfl
theorem b157_116 {x1 x2 x3 s0 : Int32} {M : am_M} {w : am_W4}  : am_rn call 157 116 [some (am_P (30, 0, 0)), some (am_I x1), some (am_I x2), some (am_I x3), none] [am_I s0] M (am_Z w) = some (.inl (some (am_I s0)), M, (am_Z w)) := by
  exact rl_iret (by decide +kernel) rfl
theorem b157_123 {x1 x2 x3 s0 : Int32} {M : am_M} {w : am_W4}  : am_rn call 157 123 [some (am_P (30, 0, 0)), some (am_I x1), some (am_I x2), some (am_I x3), none] [am_I s0] M (am_Z w) = some (.inl (some (am_I s0)), M, (am_Z w)) := by
  exact rl_iret (by decide +kernel) rfl
theorem b157_129 {x1 x2 x3 s0 : Int32} {M : am_M} {w : am_W4}  : am_rn call 157 129 [some (am_P (30, 0, 0)), some (am_I x1), some (am_I x2), some (am_I x3), none] [am_I s0] M (am_Z w) = if s0 = 0 then some (.inl (some (am_I (nI 0))), M, (am_Z w)) else some (.inl (some (am_I (nI 1))), M, (am_Z w)) := by
  refine Eq.trans (rl_ifeq (o := 7) 136 (by decide +kernel) (by decide)) ?_
  refine am_ite (fun h_1 => ?_) (fun h_1 => ?_)
  · skip
    refine Eq.trans (rl_iconst (c := 0) (k := (nI 0)) (by decide +kernel) (by decide)) ?_
    exact rl_iret (by decide +kernel) rfl
  · skip
    refine Eq.trans (rl_iconst (c := 1) (k := (nI 1)) (by decide +kernel) (by decide)) ?_
    refine Eq.trans (rl_goto (o := 4) 137 (by decide +kernel) (by decide)) ?_
    exact rl_iret (by decide +kernel) rfl
theorem b157_143 {x1 x2 x3 s0 : Int32} {M : am_M} {w : am_W4}  : am_rn call 157 143 [some (am_P (30, 0, 0)), some (am_I x1), some (am_I x2), some (am_I x3), none] [am_I s0] M (am_Z w) = some (.inl (some (am_I s0)), M, (am_Z w)) := by
  exact rl_iret (by decide +kernel) rfl
theorem e157 {d : Nat} {x1 x2 : Int32} {M : am_M} {w : am_W4}  : am_ev (d + 1) 157 [am_P (30, 0, 0), am_I x1, am_I x2] M (am_Z w) = am_cb ((am_ev d) 125 [am_P (30, 0, 0), am_I x1] (am_set M (30, 0, 0) 20 (nI 0)) (am_Z w)) fun v M' X' => am_rn (am_ev d) 157 10 [some (am_P (30, 0, 0)), some (am_I x1), some (am_I x2), none, none] (v.toList ++ []) M' X' := (am_ev_eq d 157 _ M (am_Z w)).trans (b157_0)
theorem b158_0 {x1 x2 : Int32} {M : am_M} {w : am_W4}  : am_rn call 158 0 [some (am_P (30, 0, 0)), some (am_I x1), some (am_I x2)] [] M (am_Z w) = am_cb (call 126 [am_P (30, 0, 0), am_I x1] (am_set M (30, 0, 0) 20 (nI 0)) (am_Z w)) fun v M' X' => am_rn call 158 10 [some (am_P (30, 0, 0)), some (am_I x1), some (am_I x2)] (v.toList ++ []) M' X' := by
  refine Eq.trans (rl_aloadn (j := 0) (by decide +kernel) rfl) ?_
  refine Eq.trans (rl_iconst (c := 0) (k := (nI 0)) (by decide +kernel) (by decide)) ?_
  refine Eq.trans (rl_put (ix := 39) (ci := 9) (j := 20) (by decide +kernel) (by decide +kernel) (by decide +kernel) (by decide +kernel) ck30) ?_
  refine Eq.trans (rl_aloadn (j := 0) (by decide +kernel) rfl) ?_
  refine Eq.trans (rl_iloadn (j := 1) (by decide +kernel) rfl) ?_
  refine Eq.trans (rl_inv (ix := 92) (n := 1) (o := 9) 126 [am_I x1] [] (by decide +kernel) (by decide +kernel) (by decide +kernel) (by decide +kernel) ⟨rfl, rfl⟩ rfl rfl ck30) ?_
  rfl
theorem b158_10 {x1 x2 s0 : Int32} {M : am_M} {w : am_W4}  : am_rn call 158 10 [some (am_P (30, 0, 0)), some (am_I x1), some (am_I x2)] [am_I s0] M (am_Z w) = if s0 = 0 then am_cb (call 115 [am_P (30, 0, 0), am_I (nI 1)] M (am_Z w)) fun v M' X' => am_rn call 158 18 [some (am_P (30, 0, 0)), some (am_I x1), some (am_I x2)] (v.toList ++ []) M' X' else am_cb (call 116 [am_I x2, am_I (nI 0), am_I (nI 1)] M (am_Z w)) fun v M' X' => am_rn call 158 25 [some (am_P (30, 0, 0)), some (am_I x1), some (am_I x2)] (v.toList ++ []) M' X' := by
  refine Eq.trans (rl_ifne (o := 9) 19 (by decide +kernel) (by decide)) ?_
  refine am_ite (fun h_1 => ?_) (fun h_1 => ?_)
  · skip
    refine Eq.trans (rl_aloadn (j := 0) (by decide +kernel) rfl) ?_
    refine Eq.trans (rl_iconst (c := 1) (k := (nI 1)) (by decide +kernel) (by decide)) ?_
    refine Eq.trans (rl_inv (ix := 64) (n := 1) (o := 9) 115 [am_I (nI 1)] [] (by decide +kernel) (by decide +kernel) (by decide +kernel) (by decide +kernel) ⟨rfl, rfl⟩ rfl rfl ck30) ?_
    rfl
  · skip
    refine Eq.trans (rl_iloadn (j := 2) (by decide +kernel) rfl) ?_
    refine Eq.trans (rl_iconst (c := 0) (k := (nI 0)) (by decide +kernel) (by decide)) ?_
    refine Eq.trans (rl_iconst (c := 1) (k := (nI 1)) (by decide +kernel) (by decide)) ?_
    refine Eq.trans (rl_invS (ix := 67) (n := 3) (k := 1) 116 [am_I x2, am_I (nI 0), am_I (nI 1)] [] (by decide +kernel) (by decide +kernel) (by decide) (by decide +kernel) ⟨rfl, rfl⟩ rfl rfl) ?_
    rfl
theorem b158_18 {x1 x2 s0 : Int32} {M : am_M} {w : am_W4}  : am_rn call 158 18 [some (am_P (30, 0, 0)), some (am_I x1), some (am_I x2)] [am_I s0] M (am_Z w) = some (.inl (some (am_I s0)), M, (am_Z w)) := by
  exact rl_iret (by decide +kernel) rfl
theorem b158_25 {x1 x2 s0 : Int32} {M : am_M} {w : am_W4}  : am_rn call 158 25 [some (am_P (30, 0, 0)), some (am_I x1), some (am_I x2)] [am_I s0] M (am_Z w) = if s0 = 0 then am_cb (call 115 [am_P (30, 0, 0), am_I (nI 2)] M (am_Z w)) fun v M' X' => am_rn call 158 49 [some (am_P (30, 0, 0)), some (am_I x1), some (am_I x2)] (v.toList ++ []) M' X' else if am_in (((nI 48) + ((nI 2) * x1)) + x2) 364 then am_rn call 158 49 [some (am_P (30, 0, 0)), some (am_I x1), some (am_I x2)] [am_I (M (31, 0, 0) (((nI 48) + ((nI 2) * x1)) + x2).toNatClampNeg)] M (am_Z w) else none := by
  refine Eq.trans (rl_ifeq (o := 19) 44 (by decide +kernel) (by decide)) ?_
  refine am_ite (fun h_1 => ?_) (fun h_1 => ?_)
  · skip
    refine Eq.trans (rl_aloadn (j := 0) (by decide +kernel) rfl) ?_
    refine Eq.trans (rl_iconst (c := 2) (k := (nI 2)) (by decide +kernel) (by decide)) ?_
    refine Eq.trans (rl_inv (ix := 64) (n := 1) (o := 9) 115 [am_I (nI 2)] [] (by decide +kernel) (by decide +kernel) (by decide +kernel) (by decide +kernel) ⟨rfl, rfl⟩ rfl rfl ck30) ?_
    rfl
  · skip
    refine Eq.trans (rl_aloadn (j := 0) (by decide +kernel) rfl) ?_
    refine Eq.trans (rl_getP (ix := 9) (ci := 9) (j := 0) (by decide +kernel) (by decide +kernel) (by decide +kernel) ck30 rfl) ?_
    refine Eq.trans (rl_bipush (c := 48) (k := (nI 48)) (by decide +kernel) (by decide)) ?_
    refine Eq.trans (rl_iconst (c := 2) (k := (nI 2)) (by decide +kernel) (by decide)) ?_
    refine Eq.trans (rl_iloadn (j := 1) (by decide +kernel) rfl) ?_
    refine Eq.trans (rl_imul (by decide +kernel)) ?_
    refine Eq.trans (rl_iadd (by decide +kernel)) ?_
    refine Eq.trans (rl_iloadn (j := 2) (by decide +kernel) rfl) ?_
    refine Eq.trans (rl_iadd (by decide +kernel)) ?_
    refine Eq.trans (rl_iald (by decide +kernel) ka31) ?_
    refine am_ite (fun h_2 => ?_) (fun _ => rfl)
    refine Eq.trans (rl_goto (o := 8) 49 (by decide +kernel) (by decide)) ?_
    rfl
theorem b158_49 {x1 x2 s0 : Int32} {M : am_M} {w : am_W4}  : am_rn call 158 49 [some (am_P (30, 0, 0)), some (am_I x1), some (am_I x2)] [am_I s0] M (am_Z w) = some (.inl (some (am_I s0)), M, (am_Z w)) := by
  exact rl_iret (by decide +kernel) rfl
theorem e158 {d : Nat} {x1 x2 : Int32} {M : am_M} {w : am_W4}  : am_ev (d + 1) 158 [am_P (30, 0, 0), am_I x1, am_I x2] M (am_Z w) = am_cb ((am_ev d) 126 [am_P (30, 0, 0), am_I x1] (am_set M (30, 0, 0) 20 (nI 0)) (am_Z w)) fun v M' X' => am_rn (am_ev d) 158 10 [some (am_P (30, 0, 0)), some (am_I x1), some (am_I x2)] (v.toList ++ []) M' X' := (am_ev_eq d 158 _ M (am_Z w)).trans (b158_0)
theorem b159_0 {x1 : Int32} {M : am_M} {w : am_W4}  : am_rn call 159 0 [some (am_P (30, 0, 0)), some (am_I x1)] [] M (am_Z w) = am_cb (call 116 [am_I x1, am_I (nI 1), am_I (nI 8)] (am_set M (30, 0, 0) 20 (nI 0)) (am_Z w)) fun v M' X' => am_rn call 159 12 [some (am_P (30, 0, 0)), some (am_I x1)] (v.toList ++ []) M' X' := by
  refine Eq.trans (rl_aloadn (j := 0) (by decide +kernel) rfl) ?_
  refine Eq.trans (rl_iconst (c := 0) (k := (nI 0)) (by decide +kernel) (by decide)) ?_
  refine Eq.trans (rl_put (ix := 39) (ci := 9) (j := 20) (by decide +kernel) (by decide +kernel) (by decide +kernel) (by decide +kernel) ck30) ?_
  refine Eq.trans (rl_iloadn (j := 1) (by decide +kernel) rfl) ?_
  refine Eq.trans (rl_iconst (c := 1) (k := (nI 1)) (by decide +kernel) (by decide)) ?_
  refine Eq.trans (rl_bipush (c := 8) (k := (nI 8)) (by decide +kernel) (by decide)) ?_
  refine Eq.trans (rl_invS (ix := 67) (n := 3) (k := 1) 116 [am_I x1, am_I (nI 1), am_I (nI 8)] [] (by decide +kernel) (by decide +kernel) (by decide) (by decide +kernel) ⟨rfl, rfl⟩ rfl rfl) ?_
  rfl
theorem b159_12 {x1 s0 : Int32} {M : am_M} {w : am_W4}  : am_rn call 159 12 [some (am_P (30, 0, 0)), some (am_I x1)] [am_I s0] M (am_Z w) = if s0 = 0 then am_cb (call 115 [am_P (30, 0, 0), am_I (nI 1)] M (am_Z w)) fun v M' X' => am_rn call 159 33 [some (am_P (30, 0, 0)), some (am_I x1)] (v.toList ++ []) M' X' else if am_in (((nI 4) + x1) - (nI 1)) 364 then am_rn call 159 33 [some (am_P (30, 0, 0)), some (am_I x1)] [am_I (M (31, 0, 0) (((nI 4) + x1) - (nI 1)).toNatClampNeg)] M (am_Z w) else none := by
  refine Eq.trans (rl_ifeq (o := 16) 28 (by decide +kernel) (by decide)) ?_
  refine am_ite (fun h_1 => ?_) (fun h_1 => ?_)
  · skip
    refine Eq.trans (rl_aloadn (j := 0) (by decide +kernel) rfl) ?_
    refine Eq.trans (rl_iconst (c := 1) (k := (nI 1)) (by decide +kernel) (by decide)) ?_
    refine Eq.trans (rl_inv (ix := 64) (n := 1) (o := 9) 115 [am_I (nI 1)] [] (by decide +kernel) (by decide +kernel) (by decide +kernel) (by decide +kernel) ⟨rfl, rfl⟩ rfl rfl ck30) ?_
    rfl
  · skip
    refine Eq.trans (rl_aloadn (j := 0) (by decide +kernel) rfl) ?_
    refine Eq.trans (rl_getP (ix := 9) (ci := 9) (j := 0) (by decide +kernel) (by decide +kernel) (by decide +kernel) ck30 rfl) ?_
    refine Eq.trans (rl_iconst (c := 4) (k := (nI 4)) (by decide +kernel) (by decide)) ?_
    refine Eq.trans (rl_iloadn (j := 1) (by decide +kernel) rfl) ?_
    refine Eq.trans (rl_iadd (by decide +kernel)) ?_
    refine Eq.trans (rl_iconst (c := 1) (k := (nI 1)) (by decide +kernel) (by decide)) ?_
    refine Eq.trans (rl_isub (by decide +kernel)) ?_
    refine Eq.trans (rl_iald (by decide +kernel) ka31) ?_
    refine am_ite (fun h_2 => ?_) (fun _ => rfl)
    refine Eq.trans (rl_goto (o := 8) 33 (by decide +kernel) (by decide)) ?_
    rfl
theorem b159_33 {x1 s0 : Int32} {M : am_M} {w : am_W4}  : am_rn call 159 33 [some (am_P (30, 0, 0)), some (am_I x1)] [am_I s0] M (am_Z w) = some (.inl (some (am_I s0)), M, (am_Z w)) := by
  exact rl_iret (by decide +kernel) rfl
theorem e159 {d : Nat} {x1 : Int32} {M : am_M} {w : am_W4}  : am_ev (d + 1) 159 [am_P (30, 0, 0), am_I x1] M (am_Z w) = am_cb ((am_ev d) 116 [am_I x1, am_I (nI 1), am_I (nI 8)] (am_set M (30, 0, 0) 20 (nI 0)) (am_Z w)) fun v M' X' => am_rn (am_ev d) 159 12 [some (am_P (30, 0, 0)), some (am_I x1)] (v.toList ++ []) M' X' := (am_ev_eq d 159 _ M (am_Z w)).trans (b159_0)
theorem b160_0 {x1 x2 : Int32} {M : am_M} {w : am_W4}  : am_rn call 160 0 [some (am_P (30, 0, 0)), some (am_I x1), some (am_I x2)] [] M (am_Z w) = am_cb (call 127 [am_P (30, 0, 0), am_I x1] (am_set M (30, 0, 0) 20 (nI 0)) (am_Z w)) fun v M' X' => am_rn call 160 10 [some (am_P (30, 0, 0)), some (am_I x1), some (am_I x2)] (v.toList ++ []) M' X' := by
  refine Eq.trans (rl_aloadn (j := 0) (by decide +kernel) rfl) ?_
  refine Eq.trans (rl_iconst (c := 0) (k := (nI 0)) (by decide +kernel) (by decide)) ?_
  refine Eq.trans (rl_put (ix := 39) (ci := 9) (j := 20) (by decide +kernel) (by decide +kernel) (by decide +kernel) (by decide +kernel) ck30) ?_
  refine Eq.trans (rl_aloadn (j := 0) (by decide +kernel) rfl) ?_
  refine Eq.trans (rl_iloadn (j := 1) (by decide +kernel) rfl) ?_
  refine Eq.trans (rl_inv (ix := 116) (n := 1) (o := 9) 127 [am_I x1] [] (by decide +kernel) (by decide +kernel) (by decide +kernel) (by decide +kernel) ⟨rfl, rfl⟩ rfl rfl ck30) ?_
  rfl
theorem b160_10 {x1 x2 s0 : Int32} {M : am_M} {w : am_W4}  : am_rn call 160 10 [some (am_P (30, 0, 0)), some (am_I x1), some (am_I x2)] [am_I s0] M (am_Z w) = if s0 = 0 then am_cb (call 115 [am_P (30, 0, 0), am_I (nI 1)] M (am_Z w)) fun v M' X' => am_rn call 160 18 [some (am_P (30, 0, 0)), some (am_I x1), some (am_I x2)] (v.toList ++ []) M' X' else if x2 = (nI 0) then am_cb (call 129 [am_P (30, 0, 0), am_I x1, am_I (nI 0)] M (am_Z w)) fun v M' X' => am_rn call 160 78 [some (am_P (30, 0, 0)), some (am_I x1), some (am_I x2)] (v.toList ++ []) M' X' else if x2 = (nI 1) then am_cb (call 129 [am_P (30, 0, 0), am_I x1, am_I (nI 1)] M (am_Z w)) fun v M' X' => am_rn call 160 85 [some (am_P (30, 0, 0)), some (am_I x1), some (am_I x2)] (v.toList ++ []) M' X' else if x2 = (nI 2) then am_cb (call 129 [am_P (30, 0, 0), am_I x1, am_I (nI 2)] M (am_Z w)) fun v M' X' => am_rn call 160 92 [some (am_P (30, 0, 0)), some (am_I x1), some (am_I x2)] (v.toList ++ []) M' X' else if x2 = (nI 3) then am_cb (call 129 [am_P (30, 0, 0), am_I x1, am_I (nI 3)] M (am_Z w)) fun v M' X' => am_rn call 160 99 [some (am_P (30, 0, 0)), some (am_I x1), some (am_I x2)] (v.toList ++ []) M' X' else if x2 = (nI 4) then am_cb (call 149 [am_P (30, 0, 0), am_I x1] M (am_Z w)) fun v M' X' => am_rn call 160 105 [some (am_P (30, 0, 0)), some (am_I x1), some (am_I x2)] (v.toList ++ []) M' X' else if x2 = (nI 5) then am_cb (call 129 [am_P (30, 0, 0), am_I x1, am_I (nI 4)] M (am_Z w)) fun v M' X' => am_rn call 160 112 [some (am_P (30, 0, 0)), some (am_I x1), some (am_I x2)] (v.toList ++ []) M' X' else if x2 = (nI 6) then am_cb (call 129 [am_P (30, 0, 0), am_I x1, am_I (nI 5)] M (am_Z w)) fun v M' X' => am_rn call 160 119 [some (am_P (30, 0, 0)), some (am_I x1), some (am_I x2)] (v.toList ++ []) M' X' else if x2 = (nI 7) then am_cb (call 129 [am_P (30, 0, 0), am_I x1, am_I (nI 6)] M (am_Z w)) fun v M' X' => am_rn call 160 127 [some (am_P (30, 0, 0)), some (am_I x1), some (am_I x2)] (v.toList ++ []) M' X' else if x2 = (nI 8) then am_cb (call 129 [am_P (30, 0, 0), am_I x1, am_I (nI 7)] M (am_Z w)) fun v M' X' => am_rn call 160 135 [some (am_P (30, 0, 0)), some (am_I x1), some (am_I x2)] (v.toList ++ []) M' X' else am_cb (call 115 [am_P (30, 0, 0), am_I (nI 2)] M (am_Z w)) fun v M' X' => am_rn call 160 141 [some (am_P (30, 0, 0)), some (am_I x1), some (am_I x2)] (v.toList ++ []) M' X' := by
  refine Eq.trans (rl_ifne (o := 9) 19 (by decide +kernel) (by decide)) ?_
  refine am_ite (fun h_1 => ?_) (fun h_1 => ?_)
  · skip
    refine Eq.trans (rl_aloadn (j := 0) (by decide +kernel) rfl) ?_
    refine Eq.trans (rl_iconst (c := 1) (k := (nI 1)) (by decide +kernel) (by decide)) ?_
    refine Eq.trans (rl_inv (ix := 64) (n := 1) (o := 9) 115 [am_I (nI 1)] [] (by decide +kernel) (by decide +kernel) (by decide +kernel) (by decide +kernel) ⟨rfl, rfl⟩ rfl rfl ck30) ?_
    rfl
  · skip
    refine Eq.trans (rl_iloadn (j := 2) (by decide +kernel) rfl) ?_
    refine Eq.trans (rl_ts (d := 116) (lo := 0) (hi := 8) (os := #[52, 59, 66, 73, 80, 86, 93, 100, 108]) 136 [72, 79, 86, 93, 100, 106, 113, 120, 128] (by decide +kernel) (by decide +kernel)) ?_
    refine Eq.trans (rl_sw (nI 0) (by decide)) ?_
    refine am_ite (fun _ => ?_) (fun _ => ?_)
    · skip
      refine Eq.trans (rl_aloadn (j := 0) (by decide +kernel) rfl) ?_
      refine Eq.trans (rl_iloadn (j := 1) (by decide +kernel) rfl) ?_
      refine Eq.trans (rl_iconst (c := 0) (k := (nI 0)) (by decide +kernel) (by decide)) ?_
      refine Eq.trans (rl_inv (ix := 119) (n := 2) (o := 9) 129 [am_I x1, am_I (nI 0)] [] (by decide +kernel) (by decide +kernel) (by decide +kernel) (by decide +kernel) ⟨rfl, rfl⟩ rfl rfl ck30) ?_
      rfl
    refine Eq.trans (rl_sw (nI 1) (by decide)) ?_
    refine am_ite (fun _ => ?_) (fun _ => ?_)
    · skip
      refine Eq.trans (rl_aloadn (j := 0) (by decide +kernel) rfl) ?_
      refine Eq.trans (rl_iloadn (j := 1) (by decide +kernel) rfl) ?_
      refine Eq.trans (rl_iconst (c := 1) (k := (nI 1)) (by decide +kernel) (by decide)) ?_
      refine Eq.trans (rl_inv (ix := 119) (n := 2) (o := 9) 129 [am_I x1, am_I (nI 1)] [] (by decide +kernel) (by decide +kernel) (by decide +kernel) (by decide +kernel) ⟨rfl, rfl⟩ rfl rfl ck30) ?_
      rfl
    refine Eq.trans (rl_sw (nI 2) (by decide)) ?_
    refine am_ite (fun _ => ?_) (fun _ => ?_)
    · skip
      refine Eq.trans (rl_aloadn (j := 0) (by decide +kernel) rfl) ?_
      refine Eq.trans (rl_iloadn (j := 1) (by decide +kernel) rfl) ?_
      refine Eq.trans (rl_iconst (c := 2) (k := (nI 2)) (by decide +kernel) (by decide)) ?_
      refine Eq.trans (rl_inv (ix := 119) (n := 2) (o := 9) 129 [am_I x1, am_I (nI 2)] [] (by decide +kernel) (by decide +kernel) (by decide +kernel) (by decide +kernel) ⟨rfl, rfl⟩ rfl rfl ck30) ?_
      rfl
    refine Eq.trans (rl_sw (nI 3) (by decide)) ?_
    refine am_ite (fun _ => ?_) (fun _ => ?_)
    · skip
      refine Eq.trans (rl_aloadn (j := 0) (by decide +kernel) rfl) ?_
      refine Eq.trans (rl_iloadn (j := 1) (by decide +kernel) rfl) ?_
      refine Eq.trans (rl_iconst (c := 3) (k := (nI 3)) (by decide +kernel) (by decide)) ?_
      refine Eq.trans (rl_inv (ix := 119) (n := 2) (o := 9) 129 [am_I x1, am_I (nI 3)] [] (by decide +kernel) (by decide +kernel) (by decide +kernel) (by decide +kernel) ⟨rfl, rfl⟩ rfl rfl ck30) ?_
      rfl
    refine Eq.trans (rl_sw (nI 4) (by decide)) ?_
    refine am_ite (fun _ => ?_) (fun _ => ?_)
    · skip
      refine Eq.trans (rl_aloadn (j := 0) (by decide +kernel) rfl) ?_
      refine Eq.trans (rl_iloadn (j := 1) (by decide +kernel) rfl) ?_
      refine Eq.trans (rl_inv (ix := 162) (n := 1) (o := 9) 149 [am_I x1] [] (by decide +kernel) (by decide +kernel) (by decide +kernel) (by decide +kernel) ⟨rfl, rfl⟩ rfl rfl ck30) ?_
      rfl
    refine Eq.trans (rl_sw (nI 5) (by decide)) ?_
    refine am_ite (fun _ => ?_) (fun _ => ?_)
    · skip
      refine Eq.trans (rl_aloadn (j := 0) (by decide +kernel) rfl) ?_
      refine Eq.trans (rl_iloadn (j := 1) (by decide +kernel) rfl) ?_
      refine Eq.trans (rl_iconst (c := 4) (k := (nI 4)) (by decide +kernel) (by decide)) ?_
      refine Eq.trans (rl_inv (ix := 119) (n := 2) (o := 9) 129 [am_I x1, am_I (nI 4)] [] (by decide +kernel) (by decide +kernel) (by decide +kernel) (by decide +kernel) ⟨rfl, rfl⟩ rfl rfl ck30) ?_
      rfl
    refine Eq.trans (rl_sw (nI 6) (by decide)) ?_
    refine am_ite (fun _ => ?_) (fun _ => ?_)
    · skip
      refine Eq.trans (rl_aloadn (j := 0) (by decide +kernel) rfl) ?_
      refine Eq.trans (rl_iloadn (j := 1) (by decide +kernel) rfl) ?_
      refine Eq.trans (rl_iconst (c := 5) (k := (nI 5)) (by decide +kernel) (by decide)) ?_
      refine Eq.trans (rl_inv (ix := 119) (n := 2) (o := 9) 129 [am_I x1, am_I (nI 5)] [] (by decide +kernel) (by decide +kernel) (by decide +kernel) (by decide +kernel) ⟨rfl, rfl⟩ rfl rfl ck30) ?_
      rfl
    refine Eq.trans (rl_sw (nI 7) (by decide)) ?_
    refine am_ite (fun _ => ?_) (fun _ => ?_)
    · skip
      refine Eq.trans (rl_aloadn (j := 0) (by decide +kernel) rfl) ?_
      refine Eq.trans (rl_iloadn (j := 1) (by decide +kernel) rfl) ?_
      refine Eq.trans (rl_bipush (c := 6) (k := (nI 6)) (by decide +kernel) (by decide)) ?_
      refine Eq.trans (rl_inv (ix := 119) (n := 2) (o := 9) 129 [am_I x1, am_I (nI 6)] [] (by decide +kernel) (by decide +kernel) (by decide +kernel) (by decide +kernel) ⟨rfl, rfl⟩ rfl rfl ck30) ?_
      rfl
    refine Eq.trans (rl_sw (nI 8) (by decide)) ?_
    refine am_ite (fun _ => ?_) (fun _ => ?_)
    · skip
      refine Eq.trans (rl_aloadn (j := 0) (by decide +kernel) rfl) ?_
      refine Eq.trans (rl_iloadn (j := 1) (by decide +kernel) rfl) ?_
      refine Eq.trans (rl_bipush (c := 7) (k := (nI 7)) (by decide +kernel) (by decide)) ?_
      refine Eq.trans (rl_inv (ix := 119) (n := 2) (o := 9) 129 [am_I x1, am_I (nI 7)] [] (by decide +kernel) (by decide +kernel) (by decide +kernel) (by decide +kernel) ⟨rfl, rfl⟩ rfl rfl ck30) ?_
      rfl
    show am_rn call 160 136 _ _ _ _ = _
    refine Eq.trans (rl_aloadn (j := 0) (by decide +kernel) rfl) ?_
    refine Eq.trans (rl_iconst (c := 2) (k := (nI 2)) (by decide +kernel) (by decide)) ?_
    refine Eq.trans (rl_inv (ix := 64) (n := 1) (o := 9) 115 [am_I (nI 2)] [] (by decide +kernel) (by decide +kernel) (by decide +kernel) (by decide +kernel) ⟨rfl, rfl⟩ rfl rfl ck30) ?_
    rfl
theorem b160_18 {x1 x2 s0 : Int32} {M : am_M} {w : am_W4}  : am_rn call 160 18 [some (am_P (30, 0, 0)), some (am_I x1), some (am_I x2)] [am_I s0] M (am_Z w) = some (.inl (some (am_I s0)), M, (am_Z w)) := by
  exact rl_iret (by decide +kernel) rfl
theorem b160_78 {x1 x2 s0 : Int32} {M : am_M} {w : am_W4}  : am_rn call 160 78 [some (am_P (30, 0, 0)), some (am_I x1), some (am_I x2)] [am_I s0] M (am_Z w) = some (.inl (some (am_I s0)), M, (am_Z w)) := by
  exact rl_iret (by decide +kernel) rfl
theorem b160_85 {x1 x2 s0 : Int32} {M : am_M} {w : am_W4}  : am_rn call 160 85 [some (am_P (30, 0, 0)), some (am_I x1), some (am_I x2)] [am_I s0] M (am_Z w) = some (.inl (some (am_I s0)), M, (am_Z w)) := by
  exact rl_iret (by decide +kernel) rfl
theorem b160_92 {x1 x2 s0 : Int32} {M : am_M} {w : am_W4}  : am_rn call 160 92 [some (am_P (30, 0, 0)), some (am_I x1), some (am_I x2)] [am_I s0] M (am_Z w) = some (.inl (some (am_I s0)), M, (am_Z w)) := by
  exact rl_iret (by decide +kernel) rfl
theorem b160_99 {x1 x2 s0 : Int32} {M : am_M} {w : am_W4}  : am_rn call 160 99 [some (am_P (30, 0, 0)), some (am_I x1), some (am_I x2)] [am_I s0] M (am_Z w) = some (.inl (some (am_I s0)), M, (am_Z w)) := by
  exact rl_iret (by decide +kernel) rfl
theorem b160_105 {x1 x2 s0 : Int32} {M : am_M} {w : am_W4}  : am_rn call 160 105 [some (am_P (30, 0, 0)), some (am_I x1), some (am_I x2)] [am_I s0] M (am_Z w) = some (.inl (some (am_I s0)), M, (am_Z w)) := by
  exact rl_iret (by decide +kernel) rfl
theorem b160_112 {x1 x2 s0 : Int32} {M : am_M} {w : am_W4}  : am_rn call 160 112 [some (am_P (30, 0, 0)), some (am_I x1), some (am_I x2)] [am_I s0] M (am_Z w) = some (.inl (some (am_I s0)), M, (am_Z w)) := by
  exact rl_iret (by decide +kernel) rfl
theorem b160_119 {x1 x2 s0 : Int32} {M : am_M} {w : am_W4}  : am_rn call 160 119 [some (am_P (30, 0, 0)), some (am_I x1), some (am_I x2)] [am_I s0] M (am_Z w) = some (.inl (some (am_I s0)), M, (am_Z w)) := by
  exact rl_iret (by decide +kernel) rfl
theorem b160_127 {x1 x2 s0 : Int32} {M : am_M} {w : am_W4}  : am_rn call 160 127 [some (am_P (30, 0, 0)), some (am_I x1), some (am_I x2)] [am_I s0] M (am_Z w) = some (.inl (some (am_I s0)), M, (am_Z w)) := by
  exact rl_iret (by decide +kernel) rfl
theorem b160_135 {x1 x2 s0 : Int32} {M : am_M} {w : am_W4}  : am_rn call 160 135 [some (am_P (30, 0, 0)), some (am_I x1), some (am_I x2)] [am_I s0] M (am_Z w) = some (.inl (some (am_I s0)), M, (am_Z w)) := by
  exact rl_iret (by decide +kernel) rfl
theorem b160_141 {x1 x2 s0 : Int32} {M : am_M} {w : am_W4}  : am_rn call 160 141 [some (am_P (30, 0, 0)), some (am_I x1), some (am_I x2)] [am_I s0] M (am_Z w) = some (.inl (some (am_I s0)), M, (am_Z w)) := by
  exact rl_iret (by decide +kernel) rfl
theorem e160 {d : Nat} {x1 x2 : Int32} {M : am_M} {w : am_W4}  : am_ev (d + 1) 160 [am_P (30, 0, 0), am_I x1, am_I x2] M (am_Z w) = am_cb ((am_ev d) 127 [am_P (30, 0, 0), am_I x1] (am_set M (30, 0, 0) 20 (nI 0)) (am_Z w)) fun v M' X' => am_rn (am_ev d) 160 10 [some (am_P (30, 0, 0)), some (am_I x1), some (am_I x2)] (v.toList ++ []) M' X' := (am_ev_eq d 160 _ M (am_Z w)).trans (b160_0)
theorem b161_0 {x1 x2 : Int32} {M : am_M} {w : am_W4}  : am_rn call 161 0 [some (am_P (30, 0, 0)), some (am_I x1), some (am_I x2)] [] M (am_Z w) = am_cb (call 127 [am_P (30, 0, 0), am_I x1] (am_set M (30, 0, 0) 20 (nI 0)) (am_Z w)) fun v M' X' => am_rn call 161 10 [some (am_P (30, 0, 0)), some (am_I x1), some (am_I x2)] (v.toList ++ []) M' X' := by
  refine Eq.trans (rl_aloadn (j := 0) (by decide +kernel) rfl) ?_
  refine Eq.trans (rl_iconst (c := 0) (k := (nI 0)) (by decide +kernel) (by decide)) ?_
  refine Eq.trans (rl_put (ix := 39) (ci := 9) (j := 20) (by decide +kernel) (by decide +kernel) (by decide +kernel) (by decide +kernel) ck30) ?_
  refine Eq.trans (rl_aloadn (j := 0) (by decide +kernel) rfl) ?_
  refine Eq.trans (rl_iloadn (j := 1) (by decide +kernel) rfl) ?_
  refine Eq.trans (rl_inv (ix := 116) (n := 1) (o := 9) 127 [am_I x1] [] (by decide +kernel) (by decide +kernel) (by decide +kernel) (by decide +kernel) ⟨rfl, rfl⟩ rfl rfl ck30) ?_
  rfl
theorem b161_10 {x1 x2 s0 : Int32} {M : am_M} {w : am_W4}  : am_rn call 161 10 [some (am_P (30, 0, 0)), some (am_I x1), some (am_I x2)] [am_I s0] M (am_Z w) = if s0 = 0 then am_rn call 161 41 [some (am_P (30, 0, 0)), some (am_I x1), some (am_I x2)] [] M (am_Z w) else am_cb (call 129 [am_P (30, 0, 0), am_I x1, am_I (nI 3)] M (am_Z w)) fun v M' X' => am_rn call 161 21 [some (am_P (30, 0, 0)), some (am_I x1), some (am_I x2)] (v.toList ++ [am_I (nI 0), am_I x2]) M' X' := by
  refine Eq.trans (rl_ifeq (o := 31) 41 (by decide +kernel) (by decide)) ?_
  refine am_ite (fun h_1 => ?_) (fun h_1 => ?_)
  · skip
    rfl
  · skip
    refine Eq.trans (rl_iloadn (j := 2) (by decide +kernel) rfl) ?_
    refine Eq.trans (rl_iconst (c := 0) (k := (nI 0)) (by decide +kernel) (by decide)) ?_
    refine Eq.trans (rl_aloadn (j := 0) (by decide +kernel) rfl) ?_
    refine Eq.trans (rl_iloadn (j := 1) (by decide +kernel) rfl) ?_
    refine Eq.trans (rl_iconst (c := 3) (k := (nI 3)) (by decide +kernel) (by decide)) ?_
    refine Eq.trans (rl_inv (ix := 119) (n := 2) (o := 9) 129 [am_I x1, am_I (nI 3)] [am_I (nI 0), am_I x2] (by decide +kernel) (by decide +kernel) (by decide +kernel) (by decide +kernel) ⟨rfl, rfl⟩ rfl rfl ck30) ?_
    rfl
theorem b161_21 {x1 x2 s0 s2 : Int32} {M : am_M} {w : am_W4}  : am_rn call 161 21 [some (am_P (30, 0, 0)), some (am_I x1), some (am_I x2)] [am_I s0, am_I (nI 0), am_I s2] M (am_Z w) = am_cb (call 116 [am_I s2, am_I (nI 0), am_I (s0 - (nI 1))] M (am_Z w)) fun v M' X' => am_rn call 161 26 [some (am_P (30, 0, 0)), some (am_I x1), some (am_I x2)] (v.toList ++ []) M' X' := by
  refine Eq.trans (rl_iconst (c := 1) (k := (nI 1)) (by decide +kernel) (by decide)) ?_
  refine Eq.trans (rl_isub (by decide +kernel)) ?_
  refine Eq.trans (rl_invS (ix := 67) (n := 3) (k := 1) 116 [am_I s2, am_I (nI 0), am_I (s0 - (nI 1))] [] (by decide +kernel) (by decide +kernel) (by decide) (by decide +kernel) ⟨rfl, rfl⟩ rfl rfl) ?_
  rfl
theorem b161_26 {x1 x2 s0 : Int32} {M : am_M} {w : am_W4}  : am_rn call 161 26 [some (am_P (30, 0, 0)), some (am_I x1), some (am_I x2)] [am_I s0] M (am_Z w) = if s0 = 0 then am_rn call 161 41 [some (am_P (30, 0, 0)), some (am_I x1), some (am_I x2)] [] M (am_Z w) else am_cb (call 129 [am_P (30, 0, 0), am_I x1, am_I ((nI 11) + x2)] M (am_Z w)) fun v M' X' => am_rn call 161 38 [some (am_P (30, 0, 0)), some (am_I x1), some (am_I x2)] (v.toList ++ []) M' X' := by
  refine Eq.trans (rl_ifeq (o := 15) 41 (by decide +kernel) (by decide)) ?_
  refine am_ite (fun h_1 => ?_) (fun h_1 => ?_)
  · skip
    rfl
  · skip
    refine Eq.trans (rl_aloadn (j := 0) (by decide +kernel) rfl) ?_
    refine Eq.trans (rl_iloadn (j := 1) (by decide +kernel) rfl) ?_
    refine Eq.trans (rl_bipush (c := 11) (k := (nI 11)) (by decide +kernel) (by decide)) ?_
    refine Eq.trans (rl_iloadn (j := 2) (by decide +kernel) rfl) ?_
    refine Eq.trans (rl_iadd (by decide +kernel)) ?_
    refine Eq.trans (rl_inv (ix := 119) (n := 2) (o := 9) 129 [am_I x1, am_I ((nI 11) + x2)] [] (by decide +kernel) (by decide +kernel) (by decide +kernel) (by decide +kernel) ⟨rfl, rfl⟩ rfl rfl ck30) ?_
    rfl
theorem b161_38 {x1 x2 s0 : Int32} {M : am_M} {w : am_W4}  : am_rn call 161 38 [some (am_P (30, 0, 0)), some (am_I x1), some (am_I x2)] [am_I s0] M (am_Z w) = am_rn call 161 46 [some (am_P (30, 0, 0)), some (am_I x1), some (am_I x2)] [am_I s0] M (am_Z w) := by
  refine Eq.trans (rl_goto (o := 8) 46 (by decide +kernel) (by decide)) ?_
  rfl
theorem b161_41 {x1 x2 : Int32} {M : am_M} {w : am_W4}  : am_rn call 161 41 [some (am_P (30, 0, 0)), some (am_I x1), some (am_I x2)] [] M (am_Z w) = am_cb (call 115 [am_P (30, 0, 0), am_I (nI 1)] M (am_Z w)) fun v M' X' => am_rn call 161 46 [some (am_P (30, 0, 0)), some (am_I x1), some (am_I x2)] (v.toList ++ []) M' X' := by
  refine Eq.trans (rl_aloadn (j := 0) (by decide +kernel) rfl) ?_
  refine Eq.trans (rl_iconst (c := 1) (k := (nI 1)) (by decide +kernel) (by decide)) ?_
  refine Eq.trans (rl_inv (ix := 64) (n := 1) (o := 9) 115 [am_I (nI 1)] [] (by decide +kernel) (by decide +kernel) (by decide +kernel) (by decide +kernel) ⟨rfl, rfl⟩ rfl rfl ck30) ?_
  rfl
theorem b161_46 {x1 x2 s0 : Int32} {M : am_M} {w : am_W4}  : am_rn call 161 46 [some (am_P (30, 0, 0)), some (am_I x1), some (am_I x2)] [am_I s0] M (am_Z w) = some (.inl (some (am_I s0)), M, (am_Z w)) := by
  exact rl_iret (by decide +kernel) rfl
theorem e161 {d : Nat} {x1 x2 : Int32} {M : am_M} {w : am_W4}  : am_ev (d + 1) 161 [am_P (30, 0, 0), am_I x1, am_I x2] M (am_Z w) = am_cb ((am_ev d) 127 [am_P (30, 0, 0), am_I x1] (am_set M (30, 0, 0) 20 (nI 0)) (am_Z w)) fun v M' X' => am_rn (am_ev d) 161 10 [some (am_P (30, 0, 0)), some (am_I x1), some (am_I x2)] (v.toList ++ []) M' X' := (am_ev_eq d 161 _ M (am_Z w)).trans (b161_0)
theorem b162_0 {x1 : Int32} {M : am_M} {w : am_W4}  : am_rn call 162 0 [some (am_P (30, 0, 0)), some (am_I x1), none, none] [] M (am_Z w) = am_cb (call 127 [am_P (30, 0, 0), am_I x1] (am_set M (30, 0, 0) 20 (nI 0)) (am_Z w)) fun v M' X' => am_rn call 162 10 [some (am_P (30, 0, 0)), some (am_I x1), none, none] (v.toList ++ []) M' X' := by
  refine Eq.trans (rl_aloadn (j := 0) (by decide +kernel) rfl) ?_
  refine Eq.trans (rl_iconst (c := 0) (k := (nI 0)) (by decide +kernel) (by decide)) ?_
  refine Eq.trans (rl_put (ix := 39) (ci := 9) (j := 20) (by decide +kernel) (by decide +kernel) (by decide +kernel) (by decide +kernel) ck30) ?_
  refine Eq.trans (rl_aloadn (j := 0) (by decide +kernel) rfl) ?_
  refine Eq.trans (rl_iloadn (j := 1) (by decide +kernel) rfl) ?_
  refine Eq.trans (rl_inv (ix := 116) (n := 1) (o := 9) 127 [am_I x1] [] (by decide +kernel) (by decide +kernel) (by decide +kernel) (by decide +kernel) ⟨rfl, rfl⟩ rfl rfl ck30) ?_
  rfl
theorem b162_10 {x1 s0 : Int32} {M : am_M} {w : am_W4}  : am_rn call 162 10 [some (am_P (30, 0, 0)), some (am_I x1), none, none] [am_I s0] M (am_Z w) = if s0 = 0 then am_cb (call 115 [am_P (30, 0, 0), am_I (nI 1)] M (am_Z w)) fun v M' X' => am_rn call 162 18 [some (am_P (30, 0, 0)), some (am_I x1), none, none] (v.toList ++ []) M' X' else am_rn call 162 23 [some (am_P (30, 0, 0)), some (am_I x1), some (am_I (nI 0)), some (am_I (nI 0))] [] M (am_Z w) := by
  refine Eq.trans (rl_ifne (o := 9) 19 (by decide +kernel) (by decide)) ?_
  refine am_ite (fun h_1 => ?_) (fun h_1 => ?_)
  · skip
    refine Eq.trans (rl_aloadn (j := 0) (by decide +kernel) rfl) ?_
    refine Eq.trans (rl_iconst (c := 1) (k := (nI 1)) (by decide +kernel) (by decide)) ?_
    refine Eq.trans (rl_inv (ix := 64) (n := 1) (o := 9) 115 [am_I (nI 1)] [] (by decide +kernel) (by decide +kernel) (by decide +kernel) (by decide +kernel) ⟨rfl, rfl⟩ rfl rfl ck30) ?_
    rfl
  · skip
    refine Eq.trans (rl_iconst (c := 0) (k := (nI 0)) (by decide +kernel) (by decide)) ?_
    refine Eq.trans (rl_istoren (j := 2) (ls' := [some (am_P (30, 0, 0)), some (am_I x1), some (am_I (nI 0)), none]) (by decide +kernel) rfl rfl) ?_
    refine Eq.trans (rl_iconst (c := 0) (k := (nI 0)) (by decide +kernel) (by decide)) ?_
    refine Eq.trans (rl_istoren (j := 3) (ls' := [some (am_P (30, 0, 0)), some (am_I x1), some (am_I (nI 0)), some (am_I (nI 0))]) (by decide +kernel) rfl rfl) ?_
    rfl
theorem b162_18 {x1 s0 : Int32} {M : am_M} {w : am_W4}  : am_rn call 162 18 [some (am_P (30, 0, 0)), some (am_I x1), none, none] [am_I s0] M (am_Z w) = some (.inl (some (am_I s0)), M, (am_Z w)) := by
  exact rl_iret (by decide +kernel) rfl
theorem b162_23 {x1 x2 x3 : Int32} {M : am_M} {w : am_W4}  : am_rn call 162 23 [some (am_P (30, 0, 0)), some (am_I x1), some (am_I x2), some (am_I x3)] [] M (am_Z w) = am_cb (call 129 [am_P (30, 0, 0), am_I x1, am_I (nI 3)] M (am_Z w)) fun v M' X' => am_rn call 162 30 [some (am_P (30, 0, 0)), some (am_I x1), some (am_I x2), some (am_I x3)] (v.toList ++ [am_I x3]) M' X' := by
  refine Eq.trans (rl_iloadn (j := 3) (by decide +kernel) rfl) ?_
  refine Eq.trans (rl_aloadn (j := 0) (by decide +kernel) rfl) ?_
  refine Eq.trans (rl_iloadn (j := 1) (by decide +kernel) rfl) ?_
  refine Eq.trans (rl_iconst (c := 3) (k := (nI 3)) (by decide +kernel) (by decide)) ?_
  refine Eq.trans (rl_inv (ix := 119) (n := 2) (o := 9) 129 [am_I x1, am_I (nI 3)] [am_I x3] (by decide +kernel) (by decide +kernel) (by decide +kernel) (by decide +kernel) ⟨rfl, rfl⟩ rfl rfl ck30) ?_
  rfl
theorem b162_30 {x1 x2 x3 s0 s1 : Int32} {M : am_M} {w : am_W4}  : am_rn call 162 30 [some (am_P (30, 0, 0)), some (am_I x1), some (am_I x2), some (am_I x3)] [am_I s0, am_I s1] M (am_Z w) = if s1 < s0 then am_cb (call 129 [am_P (30, 0, 0), am_I x1, am_I ((nI 11) + x3)] M (am_Z w)) fun v M' X' => am_rn call 162 42 [some (am_P (30, 0, 0)), some (am_I x1), some (am_I x2), some (am_I x3)] (v.toList ++ []) M' X' else some (.inl (some (am_I x2)), M, (am_Z w)) := by
  refine Eq.trans (rl_icge (o := 35) 65 (by decide +kernel) (by decide)) ?_
  refine am_ite (fun h_1 => ?_) (fun h_1 => ?_)
  · skip
    refine Eq.trans (rl_aloadn (j := 0) (by decide +kernel) rfl) ?_
    refine Eq.trans (rl_iloadn (j := 1) (by decide +kernel) rfl) ?_
    refine Eq.trans (rl_bipush (c := 11) (k := (nI 11)) (by decide +kernel) (by decide)) ?_
    refine Eq.trans (rl_iloadn (j := 3) (by decide +kernel) rfl) ?_
    refine Eq.trans (rl_iadd (by decide +kernel)) ?_
    refine Eq.trans (rl_inv (ix := 119) (n := 2) (o := 9) 129 [am_I x1, am_I ((nI 11) + x3)] [] (by decide +kernel) (by decide +kernel) (by decide +kernel) (by decide +kernel) ⟨rfl, rfl⟩ rfl rfl ck30) ?_
    rfl
  · skip
    refine Eq.trans (rl_iloadn (j := 2) (by decide +kernel) rfl) ?_
    exact rl_iret (by decide +kernel) rfl
theorem b162_42 {x1 x2 x3 s0 : Int32} {M : am_M} {w : am_W4}  : am_rn call 162 42 [some (am_P (30, 0, 0)), some (am_I x1), some (am_I x2), some (am_I x3)] [am_I s0] M (am_Z w) = if 0 < s0 then am_cb (call 129 [am_P (30, 0, 0), am_I x1, am_I ((nI 11) + x3)] M (am_Z w)) fun v M' X' => am_rn call 162 56 [some (am_P (30, 0, 0)), some (am_I x1), some (am_I x2), some (am_I x3)] (v.toList ++ [am_I (nI 1), am_I x2]) M' X' else am_rn call 162 59 [some (am_P (30, 0, 0)), some (am_I x1), some (am_I x2), some (am_I x3)] [] M (am_Z w) := by
  refine Eq.trans (rl_ifle (o := 17) 59 (by decide +kernel) (by decide)) ?_
  refine am_ite (fun h_1 => ?_) (fun h_1 => ?_)
  · skip
    refine Eq.trans (rl_iloadn (j := 2) (by decide +kernel) rfl) ?_
    refine Eq.trans (rl_iconst (c := 1) (k := (nI 1)) (by decide +kernel) (by decide)) ?_
    refine Eq.trans (rl_aloadn (j := 0) (by decide +kernel) rfl) ?_
    refine Eq.trans (rl_iloadn (j := 1) (by decide +kernel) rfl) ?_
    refine Eq.trans (rl_bipush (c := 11) (k := (nI 11)) (by decide +kernel) (by decide)) ?_
    refine Eq.trans (rl_iloadn (j := 3) (by decide +kernel) rfl) ?_
    refine Eq.trans (rl_iadd (by decide +kernel)) ?_
    refine Eq.trans (rl_inv (ix := 119) (n := 2) (o := 9) 129 [am_I x1, am_I ((nI 11) + x3)] [am_I (nI 1), am_I x2] (by decide +kernel) (by decide +kernel) (by decide +kernel) (by decide +kernel) ⟨rfl, rfl⟩ rfl rfl ck30) ?_
    rfl
  · skip
    rfl
theorem b162_56 {x1 x2 x3 s0 s2 : Int32} {M : am_M} {w : am_W4}  : am_rn call 162 56 [some (am_P (30, 0, 0)), some (am_I x1), some (am_I x2), some (am_I x3)] [am_I s0, am_I (nI 1), am_I s2] M (am_Z w) = am_rn call 162 59 [some (am_P (30, 0, 0)), some (am_I x1), some (am_I (s2 ||| ((nI 1) <<< (s0 &&& 31)))), some (am_I x3)] [] M (am_Z w) := by
  refine Eq.trans (rl_ishl (by decide +kernel)) ?_
  refine Eq.trans (rl_ior (by decide +kernel)) ?_
  refine Eq.trans (rl_istoren (j := 2) (ls' := [some (am_P (30, 0, 0)), some (am_I x1), some (am_I (s2 ||| ((nI 1) <<< (s0 &&& 31)))), some (am_I x3)]) (by decide +kernel) rfl rfl) ?_
  rfl
theorem b162_59 {x1 x2 x3 : Int32} {M : am_M} {w : am_W4}  : am_rn call 162 59 [some (am_P (30, 0, 0)), some (am_I x1), some (am_I x2), some (am_I x3)] [] M (am_Z w) = am_rn call 162 23 [some (am_P (30, 0, 0)), some (am_I x1), some (am_I x2), some (am_I (x3 + (nI 1)))] [] M (am_Z w) := by
  refine Eq.trans (rl_iinc (j := 3) (c := 1) (k := (nI 1)) (ls' := [some (am_P (30, 0, 0)), some (am_I x1), some (am_I x2), some (am_I (x3 + (nI 1)))]) (by decide +kernel) (by decide) rfl rfl) ?_
  refine Eq.trans (rl_goto (o := (-39)) 23 (by decide +kernel) (by decide)) ?_
  rfl
theorem e162 {d : Nat} {x1 : Int32} {M : am_M} {w : am_W4}  : am_ev (d + 1) 162 [am_P (30, 0, 0), am_I x1] M (am_Z w) = am_cb ((am_ev d) 127 [am_P (30, 0, 0), am_I x1] (am_set M (30, 0, 0) 20 (nI 0)) (am_Z w)) fun v M' X' => am_rn (am_ev d) 162 10 [some (am_P (30, 0, 0)), some (am_I x1), none, none] (v.toList ++ []) M' X' := (am_ev_eq d 162 _ M (am_Z w)).trans (b162_0)
theorem b163_0 {x1 x2 : Int32} {M : am_M} {w : am_W4}  : am_rn call 163 0 [some (am_P (30, 0, 0)), some (am_I x1), some (am_I x2), none] [] M (am_Z w) = am_cb (call 125 [am_P (30, 0, 0), am_I x1] (am_set M (30, 0, 0) 20 (nI 0)) (am_Z w)) fun v M' X' => am_rn call 163 10 [some (am_P (30, 0, 0)), some (am_I x1), some (am_I x2), none] (v.toList ++ []) M' X' := by
  refine Eq.trans (rl_aloadn (j := 0) (by decide +kernel) rfl) ?_
  refine Eq.trans (rl_iconst (c := 0) (k := (nI 0)) (by decide +kernel) (by decide)) ?_
  refine Eq.trans (rl_put (ix := 39) (ci := 9) (j := 20) (by decide +kernel) (by decide +kernel) (by decide +kernel) (by decide +kernel) ck30) ?_
  refine Eq.trans (rl_aloadn (j := 0) (by decide +kernel) rfl) ?_
  refine Eq.trans (rl_iloadn (j := 1) (by decide +kernel) rfl) ?_
  refine Eq.trans (rl_inv (ix := 82) (n := 1) (o := 9) 125 [am_I x1] [] (by decide +kernel) (by decide +kernel) (by decide +kernel) (by decide +kernel) ⟨rfl, rfl⟩ rfl rfl ck30) ?_
  rfl
theorem b163_10 {x1 x2 s0 : Int32} {M : am_M} {w : am_W4}  : am_rn call 163 10 [some (am_P (30, 0, 0)), some (am_I x1), some (am_I x2), none] [am_I s0] M (am_Z w) = if s0 = 0 then am_cb (call 115 [am_P (30, 0, 0), am_I (nI 1)] M (am_Z w)) fun v M' X' => am_rn call 163 18 [some (am_P (30, 0, 0)), some (am_I x1), some (am_I x2), none] (v.toList ++ []) M' X' else am_cb (call 146 [am_P (30, 0, 0), am_I x1, am_I x2] M (am_Z w)) fun v M' X' => am_rn call 163 25 [some (am_P (30, 0, 0)), some (am_I x1), some (am_I x2), none] (v.toList ++ []) M' X' := by
  refine Eq.trans (rl_ifne (o := 9) 19 (by decide +kernel) (by decide)) ?_
  refine am_ite (fun h_1 => ?_) (fun h_1 => ?_)
  · skip
    refine Eq.trans (rl_aloadn (j := 0) (by decide +kernel) rfl) ?_
    refine Eq.trans (rl_iconst (c := 1) (k := (nI 1)) (by decide +kernel) (by decide)) ?_
    refine Eq.trans (rl_inv (ix := 64) (n := 1) (o := 9) 115 [am_I (nI 1)] [] (by decide +kernel) (by decide +kernel) (by decide +kernel) (by decide +kernel) ⟨rfl, rfl⟩ rfl rfl ck30) ?_
    rfl
  · skip
    refine Eq.trans (rl_aloadn (j := 0) (by decide +kernel) rfl) ?_
    refine Eq.trans (rl_iloadn (j := 1) (by decide +kernel) rfl) ?_
    refine Eq.trans (rl_iloadn (j := 2) (by decide +kernel) rfl) ?_
    refine Eq.trans (rl_inv (ix := 145) (n := 2) (o := 9) 146 [am_I x1, am_I x2] [] (by decide +kernel) (by decide +kernel) (by decide +kernel) (by decide +kernel) ⟨rfl, rfl⟩ rfl rfl ck30) ?_
    rfl
theorem b163_18 {x1 x2 s0 : Int32} {M : am_M} {w : am_W4}  : am_rn call 163 18 [some (am_P (30, 0, 0)), some (am_I x1), some (am_I x2), none] [am_I s0] M (am_Z w) = some (.inl (some (am_I s0)), M, (am_Z w)) := by
  exact rl_iret (by decide +kernel) rfl
theorem b163_25 {x1 x2 s0 : Int32} {M : am_M} {w : am_W4}  : am_rn call 163 25 [some (am_P (30, 0, 0)), some (am_I x1), some (am_I x2), none] [am_I s0] M (am_Z w) = if s0 < 0 then am_cb (call 115 [am_P (30, 0, 0), am_I (nI 2)] M (am_Z w)) fun v M' X' => am_rn call 163 35 [some (am_P (30, 0, 0)), some (am_I x1), some (am_I x2), some (am_I s0)] (v.toList ++ []) M' X' else some (.inl (some (am_I s0)), M, (am_Z w)) := by
  refine Eq.trans (rl_istoren (j := 3) (ls' := [some (am_P (30, 0, 0)), some (am_I x1), some (am_I x2), some (am_I s0)]) (by decide +kernel) rfl rfl) ?_
  refine Eq.trans (rl_iloadn (j := 3) (by decide +kernel) rfl) ?_
  refine Eq.trans (rl_ifge (o := 11) 38 (by decide +kernel) (by decide)) ?_
  refine am_ite (fun h_1 => ?_) (fun h_1 => ?_)
  · skip
    refine Eq.trans (rl_aloadn (j := 0) (by decide +kernel) rfl) ?_
    refine Eq.trans (rl_iconst (c := 2) (k := (nI 2)) (by decide +kernel) (by decide)) ?_
    refine Eq.trans (rl_inv (ix := 64) (n := 1) (o := 9) 115 [am_I (nI 2)] [] (by decide +kernel) (by decide +kernel) (by decide +kernel) (by decide +kernel) ⟨rfl, rfl⟩ rfl rfl ck30) ?_
    rfl
  · skip
    refine Eq.trans (rl_iloadn (j := 3) (by decide +kernel) rfl) ?_
    exact rl_iret (by decide +kernel) rfl
theorem b163_35 {x1 x2 x3 s0 : Int32} {M : am_M} {w : am_W4}  : am_rn call 163 35 [some (am_P (30, 0, 0)), some (am_I x1), some (am_I x2), some (am_I x3)] [am_I s0] M (am_Z w) = some (.inl (some (am_I s0)), M, (am_Z w)) := by
  refine Eq.trans (rl_goto (o := 4) 39 (by decide +kernel) (by decide)) ?_
  exact rl_iret (by decide +kernel) rfl
theorem e163 {d : Nat} {x1 x2 : Int32} {M : am_M} {w : am_W4}  : am_ev (d + 1) 163 [am_P (30, 0, 0), am_I x1, am_I x2] M (am_Z w) = am_cb ((am_ev d) 125 [am_P (30, 0, 0), am_I x1] (am_set M (30, 0, 0) 20 (nI 0)) (am_Z w)) fun v M' X' => am_rn (am_ev d) 163 10 [some (am_P (30, 0, 0)), some (am_I x1), some (am_I x2), none] (v.toList ++ []) M' X' := (am_ev_eq d 163 _ M (am_Z w)).trans (b163_0)
theorem b164_0 {x1 : Int32} {M : am_M} {w : am_W4}  : am_rn call 164 0 [some (am_P (30, 0, 0)), some (am_I x1), none, none, none] [] M (am_Z w) = am_rn call 164 7 [some (am_P (30, 0, 0)), some (am_I x1), some (am_I (nI 0)), none, none] [] (am_set M (30, 0, 0) 20 (nI 0)) (am_Z w) := by
  refine Eq.trans (rl_aloadn (j := 0) (by decide +kernel) rfl) ?_
  refine Eq.trans (rl_iconst (c := 0) (k := (nI 0)) (by decide +kernel) (by decide)) ?_
  refine Eq.trans (rl_put (ix := 39) (ci := 9) (j := 20) (by decide +kernel) (by decide +kernel) (by decide +kernel) (by decide +kernel) ck30) ?_
  refine Eq.trans (rl_iconst (c := 0) (k := (nI 0)) (by decide +kernel) (by decide)) ?_
  refine Eq.trans (rl_istoren (j := 2) (ls' := [some (am_P (30, 0, 0)), some (am_I x1), some (am_I (nI 0)), none, none]) (by decide +kernel) rfl rfl) ?_
  rfl
theorem b164_7 {x1 x2 : Int32} {x3 x4 : Option am_V} {M : am_M} {w : am_W4}  : am_rn call 164 7 [some (am_P (30, 0, 0)), some (am_I x1), some (am_I x2), x3, x4] [] M (am_Z w) = if x2 < (M (31, 0, 0) 2) then am_cb (call 129 [am_P (30, 0, 0), am_I x2, am_I (nI 6)] M (am_Z w)) fun v M' X' => am_rn call 164 24 [some (am_P (30, 0, 0)), some (am_I x1), some (am_I x2), x3, x4] (v.toList ++ []) M' X' else am_cb (call 115 [am_P (30, 0, 0), am_I (nI 1)] M (am_Z w)) fun v M' X' => am_rn call 164 104 [some (am_P (30, 0, 0)), some (am_I x1), some (am_I x2), x3, x4] (v.toList ++ []) M' X' := by
  refine Eq.trans (rl_iloadn (j := 2) (by decide +kernel) rfl) ?_
  refine Eq.trans (rl_aloadn (j := 0) (by decide +kernel) rfl) ?_
  refine Eq.trans (rl_getP (ix := 9) (ci := 9) (j := 0) (by decide +kernel) (by decide +kernel) (by decide +kernel) ck30 rfl) ?_
  refine Eq.trans (rl_iconst (c := 2) (k := (nI 2)) (by decide +kernel) (by decide)) ?_
  refine Eq.trans (rl_iald' 2 (by decide +kernel) ka31 rfl rfl) ?_
  refine Eq.trans (rl_icge (o := 85) 99 (by decide +kernel) (by decide)) ?_
  refine am_ite (fun h_1 => ?_) (fun h_1 => ?_)
  · skip
    refine Eq.trans (rl_aloadn (j := 0) (by decide +kernel) rfl) ?_
    refine Eq.trans (rl_iloadn (j := 2) (by decide +kernel) rfl) ?_
    refine Eq.trans (rl_bipush (c := 6) (k := (nI 6)) (by decide +kernel) (by decide)) ?_
    refine Eq.trans (rl_inv (ix := 119) (n := 2) (o := 9) 129 [am_I x2, am_I (nI 6)] [] (by decide +kernel) (by decide +kernel) (by decide +kernel) (by decide +kernel) ⟨rfl, rfl⟩ rfl rfl ck30) ?_
    rfl
  · skip
    refine Eq.trans (rl_aloadn (j := 0) (by decide +kernel) rfl) ?_
    refine Eq.trans (rl_iconst (c := 1) (k := (nI 1)) (by decide +kernel) (by decide)) ?_
    refine Eq.trans (rl_inv (ix := 64) (n := 1) (o := 9) 115 [am_I (nI 1)] [] (by decide +kernel) (by decide +kernel) (by decide +kernel) (by decide +kernel) ⟨rfl, rfl⟩ rfl rfl ck30) ?_
    rfl
theorem b164_24 {x1 x2 s0 : Int32} {x3 x4 : Option am_V} {M : am_M} {w : am_W4}  : am_rn call 164 24 [some (am_P (30, 0, 0)), some (am_I x1), some (am_I x2), x3, x4] [am_I s0] M (am_Z w) = if s0 = (nI 1) then am_rn call 164 36 [some (am_P (30, 0, 0)), some (am_I x1), some (am_I x2), some (am_I (nI 0)), some (am_I (nI 0))] [] M (am_Z w) else am_rn call 164 93 [some (am_P (30, 0, 0)), some (am_I x1), some (am_I x2), x3, x4] [] M (am_Z w) := by
  refine Eq.trans (rl_iconst (c := 1) (k := (nI 1)) (by decide +kernel) (by decide)) ?_
  refine Eq.trans (rl_iceq (o := 6) 31 (by decide +kernel) (by decide)) ?_
  refine am_ite (fun h_1 => ?_) (fun h_1 => ?_)
  · skip
    refine Eq.trans (rl_iconst (c := 0) (k := (nI 0)) (by decide +kernel) (by decide)) ?_
    refine Eq.trans (rl_istoren (j := 3) (ls' := [some (am_P (30, 0, 0)), some (am_I x1), some (am_I x2), some (am_I (nI 0)), x4]) (by decide +kernel) rfl rfl) ?_
    refine Eq.trans (rl_iconst (c := 0) (k := (nI 0)) (by decide +kernel) (by decide)) ?_
    refine Eq.trans (rl_istore (j := 4) (ls' := [some (am_P (30, 0, 0)), some (am_I x1), some (am_I x2), some (am_I (nI 0)), some (am_I (nI 0))]) (by decide +kernel) rfl rfl) ?_
    rfl
  · skip
    refine Eq.trans (rl_goto (o := 65) 93 (by decide +kernel) (by decide)) ?_
    rfl
theorem b164_36 {x1 x2 x3 x4 : Int32} {M : am_M} {w : am_W4}  : am_rn call 164 36 [some (am_P (30, 0, 0)), some (am_I x1), some (am_I x2), some (am_I x3), some (am_I x4)] [] M (am_Z w) = if x4 < (M (31, 0, 0) 2) then am_cb (call 129 [am_P (30, 0, 0), am_I x4, am_I (nI 6)] M (am_Z w)) fun v M' X' => am_rn call 164 55 [some (am_P (30, 0, 0)), some (am_I x1), some (am_I x2), some (am_I x3), some (am_I x4)] (v.toList ++ []) M' X' else if x3 = x1 then some (.inl (some (am_I x2)), M, (am_Z w)) else am_rn call 164 93 [some (am_P (30, 0, 0)), some (am_I x1), some (am_I x2), some (am_I x3), some (am_I x4)] [] M (am_Z w) := by
  refine Eq.trans (rl_iload (j := 4) (by decide +kernel) rfl) ?_
  refine Eq.trans (rl_aloadn (j := 0) (by decide +kernel) rfl) ?_
  refine Eq.trans (rl_getP (ix := 9) (ci := 9) (j := 0) (by decide +kernel) (by decide +kernel) (by decide +kernel) ck30 rfl) ?_
  refine Eq.trans (rl_iconst (c := 2) (k := (nI 2)) (by decide +kernel) (by decide)) ?_
  refine Eq.trans (rl_iald' 2 (by decide +kernel) ka31 rfl rfl) ?_
  refine Eq.trans (rl_icge (o := 42) 86 (by decide +kernel) (by decide)) ?_
  refine am_ite (fun h_1 => ?_) (fun h_1 => ?_)
  · skip
    refine Eq.trans (rl_aloadn (j := 0) (by decide +kernel) rfl) ?_
    refine Eq.trans (rl_iload (j := 4) (by decide +kernel) rfl) ?_
    refine Eq.trans (rl_bipush (c := 6) (k := (nI 6)) (by decide +kernel) (by decide)) ?_
    refine Eq.trans (rl_inv (ix := 119) (n := 2) (o := 9) 129 [am_I x4, am_I (nI 6)] [] (by decide +kernel) (by decide +kernel) (by decide +kernel) (by decide +kernel) ⟨rfl, rfl⟩ rfl rfl ck30) ?_
    rfl
  · skip
    refine Eq.trans (rl_iloadn (j := 3) (by decide +kernel) rfl) ?_
    refine Eq.trans (rl_iloadn (j := 1) (by decide +kernel) rfl) ?_
    refine Eq.trans (rl_icne (o := 5) 93 (by decide +kernel) (by decide)) ?_
    refine am_ite (fun h_2 => ?_) (fun h_2 => ?_)
    · skip
      refine Eq.trans (rl_iloadn (j := 2) (by decide +kernel) rfl) ?_
      exact rl_iret (by decide +kernel) rfl
    · skip
      rfl
theorem b164_55 {x1 x2 x3 x4 s0 : Int32} {M : am_M} {w : am_W4}  : am_rn call 164 55 [some (am_P (30, 0, 0)), some (am_I x1), some (am_I x2), some (am_I x3), some (am_I x4)] [am_I s0] M (am_Z w) = if s0 = (nI 1) then am_cb (call 129 [am_P (30, 0, 0), am_I x4, am_I (nI 8)] M (am_Z w)) fun v M' X' => am_rn call 164 67 [some (am_P (30, 0, 0)), some (am_I x1), some (am_I x2), some (am_I x3), some (am_I x4)] (v.toList ++ []) M' X' else am_rn call 164 80 [some (am_P (30, 0, 0)), some (am_I x1), some (am_I x2), some (am_I x3), some (am_I x4)] [] M (am_Z w) := by
  refine Eq.trans (rl_iconst (c := 1) (k := (nI 1)) (by decide +kernel) (by decide)) ?_
  refine Eq.trans (rl_icne (o := 24) 80 (by decide +kernel) (by decide)) ?_
  refine am_ite (fun h_1 => ?_) (fun h_1 => ?_)
  · skip
    refine Eq.trans (rl_aloadn (j := 0) (by decide +kernel) rfl) ?_
    refine Eq.trans (rl_iload (j := 4) (by decide +kernel) rfl) ?_
    refine Eq.trans (rl_bipush (c := 8) (k := (nI 8)) (by decide +kernel) (by decide)) ?_
    refine Eq.trans (rl_inv (ix := 119) (n := 2) (o := 9) 129 [am_I x4, am_I (nI 8)] [] (by decide +kernel) (by decide +kernel) (by decide +kernel) (by decide +kernel) ⟨rfl, rfl⟩ rfl rfl ck30) ?_
    rfl
  · skip
    rfl
theorem b164_67 {x1 x2 x3 x4 s0 : Int32} {M : am_M} {w : am_W4}  : am_rn call 164 67 [some (am_P (30, 0, 0)), some (am_I x1), some (am_I x2), some (am_I x3), some (am_I x4)] [am_I s0] M (am_Z w) = am_cb (call 129 [am_P (30, 0, 0), am_I x2, am_I (nI 8)] M (am_Z w)) fun v M' X' => am_rn call 164 74 [some (am_P (30, 0, 0)), some (am_I x1), some (am_I x2), some (am_I x3), some (am_I x4)] (v.toList ++ [am_I s0]) M' X' := by
  refine Eq.trans (rl_aloadn (j := 0) (by decide +kernel) rfl) ?_
  refine Eq.trans (rl_iloadn (j := 2) (by decide +kernel) rfl) ?_
  refine Eq.trans (rl_bipush (c := 8) (k := (nI 8)) (by decide +kernel) (by decide)) ?_
  refine Eq.trans (rl_inv (ix := 119) (n := 2) (o := 9) 129 [am_I x2, am_I (nI 8)] [am_I s0] (by decide +kernel) (by decide +kernel) (by decide +kernel) (by decide +kernel) ⟨rfl, rfl⟩ rfl rfl ck30) ?_
  rfl
theorem b164_74 {x1 x2 x3 x4 s0 s1 : Int32} {M : am_M} {w : am_W4}  : am_rn call 164 74 [some (am_P (30, 0, 0)), some (am_I x1), some (am_I x2), some (am_I x3), some (am_I x4)] [am_I s0, am_I s1] M (am_Z w) = if s1 < s0 then am_rn call 164 80 [some (am_P (30, 0, 0)), some (am_I x1), some (am_I x2), some (am_I (x3 + (nI 1))), some (am_I x4)] [] M (am_Z w) else am_rn call 164 80 [some (am_P (30, 0, 0)), some (am_I x1), some (am_I x2), some (am_I x3), some (am_I x4)] [] M (am_Z w) := by
  refine Eq.trans (rl_icge (o := 6) 80 (by decide +kernel) (by decide)) ?_
  refine am_ite (fun h_1 => ?_) (fun h_1 => ?_)
  · skip
    refine Eq.trans (rl_iinc (j := 3) (c := 1) (k := (nI 1)) (ls' := [some (am_P (30, 0, 0)), some (am_I x1), some (am_I x2), some (am_I (x3 + (nI 1))), some (am_I x4)]) (by decide +kernel) (by decide) rfl rfl) ?_
    rfl
  · skip
    rfl
theorem b164_80 {x1 x2 x3 x4 : Int32} {M : am_M} {w : am_W4}  : am_rn call 164 80 [some (am_P (30, 0, 0)), some (am_I x1), some (am_I x2), some (am_I x3), some (am_I x4)] [] M (am_Z w) = am_rn call 164 36 [some (am_P (30, 0, 0)), some (am_I x1), some (am_I x2), some (am_I x3), some (am_I (x4 + (nI 1)))] [] M (am_Z w) := by
  refine Eq.trans (rl_iinc (j := 4) (c := 1) (k := (nI 1)) (ls' := [some (am_P (30, 0, 0)), some (am_I x1), some (am_I x2), some (am_I x3), some (am_I (x4 + (nI 1)))]) (by decide +kernel) (by decide) rfl rfl) ?_
  refine Eq.trans (rl_goto (o := (-47)) 36 (by decide +kernel) (by decide)) ?_
  rfl
theorem b164_93 {x1 x2 : Int32} {x3 x4 : Option am_V} {M : am_M} {w : am_W4}  : am_rn call 164 93 [some (am_P (30, 0, 0)), some (am_I x1), some (am_I x2), x3, x4] [] M (am_Z w) = am_rn call 164 7 [some (am_P (30, 0, 0)), some (am_I x1), some (am_I (x2 + (nI 1))), x3, x4] [] M (am_Z w) := by
  refine Eq.trans (rl_iinc (j := 2) (c := 1) (k := (nI 1)) (ls' := [some (am_P (30, 0, 0)), some (am_I x1), some (am_I (x2 + (nI 1))), x3, x4]) (by decide +kernel) (by decide) rfl rfl) ?_
  refine Eq.trans (rl_goto (o := (-89)) 7 (by decide +kernel) (by decide)) ?_
  rfl
theorem b164_104 {x1 x2 s0 : Int32} {x3 x4 : Option am_V} {M : am_M} {w : am_W4}  : am_rn call 164 104 [some (am_P (30, 0, 0)), some (am_I x1), some (am_I x2), x3, x4] [am_I s0] M (am_Z w) = some (.inl (some (am_I s0)), M, (am_Z w)) := by
  exact rl_iret (by decide +kernel) rfl
theorem e164 {d : Nat} {x1 : Int32} {M : am_M} {w : am_W4}  : am_ev (d + 1) 164 [am_P (30, 0, 0), am_I x1] M (am_Z w) = am_rn (am_ev d) 164 7 [some (am_P (30, 0, 0)), some (am_I x1), some (am_I (nI 0)), none, none] [] (am_set M (30, 0, 0) 20 (nI 0)) (am_Z w) := (am_ev_eq d 164 _ M (am_Z w)).trans (b164_0)
theorem b165_0 {x1 x2 : Int32} {M : am_M} {w : am_W4}  : am_rn call 165 0 [some (am_P (30, 0, 0)), some (am_I x1), some (am_I x2), none] [] M (am_Z w) = am_cb (call 125 [am_P (30, 0, 0), am_I x1] (am_set M (30, 0, 0) 20 (nI 0)) (am_Z w)) fun v M' X' => am_rn call 165 10 [some (am_P (30, 0, 0)), some (am_I x1), some (am_I x2), none] (v.toList ++ []) M' X' := by
  refine Eq.trans (rl_aloadn (j := 0) (by decide +kernel) rfl) ?_
  refine Eq.trans (rl_iconst (c := 0) (k := (nI 0)) (by decide +kernel) (by decide)) ?_
  refine Eq.trans (rl_put (ix := 39) (ci := 9) (j := 20) (by decide +kernel) (by decide +kernel) (by decide +kernel) (by decide +kernel) ck30) ?_
  refine Eq.trans (rl_aloadn (j := 0) (by decide +kernel) rfl) ?_
  refine Eq.trans (rl_iloadn (j := 1) (by decide +kernel) rfl) ?_
  refine Eq.trans (rl_inv (ix := 82) (n := 1) (o := 9) 125 [am_I x1] [] (by decide +kernel) (by decide +kernel) (by decide +kernel) (by decide +kernel) ⟨rfl, rfl⟩ rfl rfl ck30) ?_
  rfl
theorem b165_10 {x1 x2 s0 : Int32} {M : am_M} {w : am_W4}  : am_rn call 165 10 [some (am_P (30, 0, 0)), some (am_I x1), some (am_I x2), none] [am_I s0] M (am_Z w) = if s0 = 0 then am_cb (call 115 [am_P (30, 0, 0), am_I (nI 1)] M (am_Z w)) fun v M' X' => am_rn call 165 18 [some (am_P (30, 0, 0)), some (am_I x1), some (am_I x2), none] (v.toList ++ []) M' X' else if x2 = 0 then am_rn call 165 29 [some (am_P (30, 0, 0)), some (am_I x1), some (am_I x2), none] [am_I (-1 : Int32), am_I x1] M (am_Z w) else am_rn call 165 29 [some (am_P (30, 0, 0)), some (am_I x1), some (am_I x2), none] [am_I (nI 1), am_I x1] M (am_Z w) := by
  refine Eq.trans (rl_ifne (o := 9) 19 (by decide +kernel) (by decide)) ?_
  refine am_ite (fun h_1 => ?_) (fun h_1 => ?_)
  · skip
    refine Eq.trans (rl_aloadn (j := 0) (by decide +kernel) rfl) ?_
    refine Eq.trans (rl_iconst (c := 1) (k := (nI 1)) (by decide +kernel) (by decide)) ?_
    refine Eq.trans (rl_inv (ix := 64) (n := 1) (o := 9) 115 [am_I (nI 1)] [] (by decide +kernel) (by decide +kernel) (by decide +kernel) (by decide +kernel) ⟨rfl, rfl⟩ rfl rfl ck30) ?_
    rfl
  · skip
    refine Eq.trans (rl_iloadn (j := 1) (by decide +kernel) rfl) ?_
    refine Eq.trans (rl_iloadn (j := 2) (by decide +kernel) rfl) ?_
    refine Eq.trans (rl_ifeq (o := 7) 28 (by decide +kernel) (by decide)) ?_
    refine am_ite (fun h_2 => ?_) (fun h_2 => ?_)
    · skip
      refine Eq.trans (rl_iconst (c := -1) (k := (-1 : Int32)) (by decide +kernel) (by decide)) ?_
      rfl
    · skip
      refine Eq.trans (rl_iconst (c := 1) (k := (nI 1)) (by decide +kernel) (by decide)) ?_
      refine Eq.trans (rl_goto (o := 4) 29 (by decide +kernel) (by decide)) ?_
      rfl
theorem b165_18 {x1 x2 s0 : Int32} {M : am_M} {w : am_W4}  : am_rn call 165 18 [some (am_P (30, 0, 0)), some (am_I x1), some (am_I x2), none] [am_I s0] M (am_Z w) = some (.inl (some (am_I s0)), M, (am_Z w)) := by
  exact rl_iret (by decide +kernel) rfl
theorem b165_29 {x1 x2 s0 s1 : Int32} {M : am_M} {w : am_W4}  : am_rn call 165 29 [some (am_P (30, 0, 0)), some (am_I x1), some (am_I x2), none] [am_I s0, am_I s1] M (am_Z w) = am_cb (call 125 [am_P (30, 0, 0), am_I (s1 + s0)] M (am_Z w)) fun v M' X' => am_rn call 165 36 [some (am_P (30, 0, 0)), some (am_I x1), some (am_I x2), some (am_I (s1 + s0))] (v.toList ++ []) M' X' := by
  refine Eq.trans (rl_iadd (by decide +kernel)) ?_
  refine Eq.trans (rl_istoren (j := 3) (ls' := [some (am_P (30, 0, 0)), some (am_I x1), some (am_I x2), some (am_I (s1 + s0))]) (by decide +kernel) rfl rfl) ?_
  refine Eq.trans (rl_aloadn (j := 0) (by decide +kernel) rfl) ?_
  refine Eq.trans (rl_iloadn (j := 3) (by decide +kernel) rfl) ?_
  refine Eq.trans (rl_inv (ix := 82) (n := 1) (o := 9) 125 [am_I (s1 + s0)] [] (by decide +kernel) (by decide +kernel) (by decide +kernel) (by decide +kernel) ⟨rfl, rfl⟩ rfl rfl ck30) ?_
  rfl
theorem b165_36 {x1 x2 x3 s0 : Int32} {M : am_M} {w : am_W4}  : am_rn call 165 36 [some (am_P (30, 0, 0)), some (am_I x1), some (am_I x2), some (am_I x3)] [am_I s0] M (am_Z w) = if s0 = 0 then am_cb (call 115 [am_P (30, 0, 0), am_I (nI 2)] M (am_Z w)) fun v M' X' => am_rn call 165 53 [some (am_P (30, 0, 0)), some (am_I x1), some (am_I x2), some (am_I x3)] (v.toList ++ []) M' X' else am_cb (call 147 [am_P (30, 0, 0), am_I x1, am_I x3] M (am_Z w)) fun v M' X' => am_rn call 165 45 [some (am_P (30, 0, 0)), some (am_I x1), some (am_I x2), some (am_I x3)] (v.toList ++ []) M' X' := by
  refine Eq.trans (rl_ifeq (o := 12) 48 (by decide +kernel) (by decide)) ?_
  refine am_ite (fun h_1 => ?_) (fun h_1 => ?_)
  · skip
    refine Eq.trans (rl_aloadn (j := 0) (by decide +kernel) rfl) ?_
    refine Eq.trans (rl_iconst (c := 2) (k := (nI 2)) (by decide +kernel) (by decide)) ?_
    refine Eq.trans (rl_inv (ix := 64) (n := 1) (o := 9) 115 [am_I (nI 2)] [] (by decide +kernel) (by decide +kernel) (by decide +kernel) (by decide +kernel) ⟨rfl, rfl⟩ rfl rfl ck30) ?_
    rfl
  · skip
    refine Eq.trans (rl_aloadn (j := 0) (by decide +kernel) rfl) ?_
    refine Eq.trans (rl_iloadn (j := 1) (by decide +kernel) rfl) ?_
    refine Eq.trans (rl_iloadn (j := 3) (by decide +kernel) rfl) ?_
    refine Eq.trans (rl_inv (ix := 133) (n := 2) (o := 9) 147 [am_I x1, am_I x3] [] (by decide +kernel) (by decide +kernel) (by decide +kernel) (by decide +kernel) ⟨rfl, rfl⟩ rfl rfl ck30) ?_
    rfl
theorem b165_45 {x1 x2 x3 s0 : Int32} {M : am_M} {w : am_W4}  : am_rn call 165 45 [some (am_P (30, 0, 0)), some (am_I x1), some (am_I x2), some (am_I x3)] [am_I s0] M (am_Z w) = am_rn call 165 53 [some (am_P (30, 0, 0)), some (am_I x1), some (am_I x2), some (am_I x3)] [am_I s0] M (am_Z w) := by
  refine Eq.trans (rl_goto (o := 8) 53 (by decide +kernel) (by decide)) ?_
  rfl
theorem b165_53 {x1 x2 x3 s0 : Int32} {M : am_M} {w : am_W4}  : am_rn call 165 53 [some (am_P (30, 0, 0)), some (am_I x1), some (am_I x2), some (am_I x3)] [am_I s0] M (am_Z w) = some (.inl (some (am_I s0)), M, (am_Z w)) := by
  exact rl_iret (by decide +kernel) rfl
theorem e165 {d : Nat} {x1 x2 : Int32} {M : am_M} {w : am_W4}  : am_ev (d + 1) 165 [am_P (30, 0, 0), am_I x1, am_I x2] M (am_Z w) = am_cb ((am_ev d) 125 [am_P (30, 0, 0), am_I x1] (am_set M (30, 0, 0) 20 (nI 0)) (am_Z w)) fun v M' X' => am_rn (am_ev d) 165 10 [some (am_P (30, 0, 0)), some (am_I x1), some (am_I x2), none] (v.toList ++ []) M' X' := (am_ev_eq d 165 _ M (am_Z w)).trans (b165_0)
theorem b166_0 {x1 x2 : Int32} {M : am_M} {w : am_W4}  : am_rn call 166 0 [some (am_P (30, 0, 0)), some (am_I x1), some (am_I x2), none] [] M (am_Z w) = if x2 = 0 then am_rn call 166 15 [some (am_P (30, 0, 0)), some (am_I x1), some (am_I x2), none] [am_I (-1 : Int32), am_I x1] (am_set M (30, 0, 0) 20 (nI 0)) (am_Z w) else am_rn call 166 15 [some (am_P (30, 0, 0)), some (am_I x1), some (am_I x2), none] [am_I (nI 1), am_I x1] (am_set M (30, 0, 0) 20 (nI 0)) (am_Z w) := by
  refine Eq.trans (rl_aloadn (j := 0) (by decide +kernel) rfl) ?_
  refine Eq.trans (rl_iconst (c := 0) (k := (nI 0)) (by decide +kernel) (by decide)) ?_
  refine Eq.trans (rl_put (ix := 39) (ci := 9) (j := 20) (by decide +kernel) (by decide +kernel) (by decide +kernel) (by decide +kernel) ck30) ?_
  refine Eq.trans (rl_iloadn (j := 1) (by decide +kernel) rfl) ?_
  refine Eq.trans (rl_iloadn (j := 2) (by decide +kernel) rfl) ?_
  refine Eq.trans (rl_ifeq (o := 7) 14 (by decide +kernel) (by decide)) ?_
  refine am_ite (fun h_1 => ?_) (fun h_1 => ?_)
  · skip
    refine Eq.trans (rl_iconst (c := -1) (k := (-1 : Int32)) (by decide +kernel) (by decide)) ?_
    rfl
  · skip
    refine Eq.trans (rl_iconst (c := 1) (k := (nI 1)) (by decide +kernel) (by decide)) ?_
    refine Eq.trans (rl_goto (o := 4) 15 (by decide +kernel) (by decide)) ?_
    rfl
theorem b166_15 {x1 x2 s0 s1 : Int32} {M : am_M} {w : am_W4}  : am_rn call 166 15 [some (am_P (30, 0, 0)), some (am_I x1), some (am_I x2), none] [am_I s0, am_I s1] M (am_Z w) = am_cb (call 125 [am_P (30, 0, 0), am_I x1] M (am_Z w)) fun v M' X' => am_rn call 166 22 [some (am_P (30, 0, 0)), some (am_I x1), some (am_I x2), some (am_I (s1 + s0))] (v.toList ++ []) M' X' := by
  refine Eq.trans (rl_iadd (by decide +kernel)) ?_
  refine Eq.trans (rl_istoren (j := 3) (ls' := [some (am_P (30, 0, 0)), some (am_I x1), some (am_I x2), some (am_I (s1 + s0))]) (by decide +kernel) rfl rfl) ?_
  refine Eq.trans (rl_aloadn (j := 0) (by decide +kernel) rfl) ?_
  refine Eq.trans (rl_iloadn (j := 1) (by decide +kernel) rfl) ?_
  refine Eq.trans (rl_inv (ix := 82) (n := 1) (o := 9) 125 [am_I x1] [] (by decide +kernel) (by decide +kernel) (by decide +kernel) (by decide +kernel) ⟨rfl, rfl⟩ rfl rfl ck30) ?_
  rfl
theorem b166_22 {x1 x2 x3 s0 : Int32} {M : am_M} {w : am_W4}  : am_rn call 166 22 [some (am_P (30, 0, 0)), some (am_I x1), some (am_I x2), some (am_I x3)] [am_I s0] M (am_Z w) = if s0 = 0 then am_cb (call 115 [am_P (30, 0, 0), am_I (nI 1)] M (am_Z w)) fun v M' X' => am_rn call 166 30 [some (am_P (30, 0, 0)), some (am_I x1), some (am_I x2), some (am_I x3)] (v.toList ++ []) M' X' else am_cb (call 125 [am_P (30, 0, 0), am_I x3] M (am_Z w)) fun v M' X' => am_rn call 166 44 [some (am_P (30, 0, 0)), some (am_I x1), some (am_I x2), some (am_I x3)] (v.toList ++ []) M' X' := by
  refine Eq.trans (rl_ifne (o := 17) 39 (by decide +kernel) (by decide)) ?_
  refine am_ite (fun h_1 => ?_) (fun h_1 => ?_)
  · skip
    refine Eq.trans (rl_aloadn (j := 0) (by decide +kernel) rfl) ?_
    refine Eq.trans (rl_iconst (c := 1) (k := (nI 1)) (by decide +kernel) (by decide)) ?_
    refine Eq.trans (rl_inv (ix := 64) (n := 1) (o := 9) 115 [am_I (nI 1)] [] (by decide +kernel) (by decide +kernel) (by decide +kernel) (by decide +kernel) ⟨rfl, rfl⟩ rfl rfl ck30) ?_
    rfl
  · skip
    refine Eq.trans (rl_aloadn (j := 0) (by decide +kernel) rfl) ?_
    refine Eq.trans (rl_iloadn (j := 3) (by decide +kernel) rfl) ?_
    refine Eq.trans (rl_inv (ix := 82) (n := 1) (o := 9) 125 [am_I x3] [] (by decide +kernel) (by decide +kernel) (by decide +kernel) (by decide +kernel) ⟨rfl, rfl⟩ rfl rfl ck30) ?_
    rfl
theorem b166_30 {x1 x2 x3 s0 : Int32} {M : am_M} {w : am_W4}  : am_rn call 166 30 [some (am_P (30, 0, 0)), some (am_I x1), some (am_I x2), some (am_I x3)] [am_I s0] M (am_Z w) = if 0 < s0 then some (.inl (some (am_I (nI 1))), M, (am_Z w)) else some (.inl (some (am_I (nI 0))), M, (am_Z w)) := by
  refine Eq.trans (rl_ifle (o := 7) 37 (by decide +kernel) (by decide)) ?_
  refine am_ite (fun h_1 => ?_) (fun h_1 => ?_)
  · skip
    refine Eq.trans (rl_iconst (c := 1) (k := (nI 1)) (by decide +kernel) (by decide)) ?_
    refine Eq.trans (rl_goto (o := 4) 38 (by decide +kernel) (by decide)) ?_
    exact rl_zretk (by decide +kernel) rfl rfl
  · skip
    refine Eq.trans (rl_iconst (c := 0) (k := (nI 0)) (by decide +kernel) (by decide)) ?_
    exact rl_zretk (by decide +kernel) rfl rfl
theorem b166_44 {x1 x2 x3 s0 : Int32} {M : am_M} {w : am_W4}  : am_rn call 166 44 [some (am_P (30, 0, 0)), some (am_I x1), some (am_I x2), some (am_I x3)] [am_I s0] M (am_Z w) = if s0 = 0 then am_cb (call 115 [am_P (30, 0, 0), am_I (nI 2)] M (am_Z w)) fun v M' X' => am_rn call 166 61 [some (am_P (30, 0, 0)), some (am_I x1), some (am_I x2), some (am_I x3)] (v.toList ++ []) M' X' else am_cb (call 148 [am_P (30, 0, 0), am_I x1, am_I x3] M (am_Z w)) fun v M' X' => am_rn call 166 53 [some (am_P (30, 0, 0)), some (am_I x1), some (am_I x2), some (am_I x3)] (v.toList ++ []) M' X' := by
  refine Eq.trans (rl_ifeq (o := 12) 56 (by decide +kernel) (by decide)) ?_
  refine am_ite (fun h_1 => ?_) (fun h_1 => ?_)
  · skip
    refine Eq.trans (rl_aloadn (j := 0) (by decide +kernel) rfl) ?_
    refine Eq.trans (rl_iconst (c := 2) (k := (nI 2)) (by decide +kernel) (by decide)) ?_
    refine Eq.trans (rl_inv (ix := 64) (n := 1) (o := 9) 115 [am_I (nI 2)] [] (by decide +kernel) (by decide +kernel) (by decide +kernel) (by decide +kernel) ⟨rfl, rfl⟩ rfl rfl ck30) ?_
    rfl
  · skip
    refine Eq.trans (rl_aloadn (j := 0) (by decide +kernel) rfl) ?_
    refine Eq.trans (rl_iloadn (j := 1) (by decide +kernel) rfl) ?_
    refine Eq.trans (rl_iloadn (j := 3) (by decide +kernel) rfl) ?_
    refine Eq.trans (rl_inv (ix := 139) (n := 2) (o := 9) 148 [am_I x1, am_I x3] [] (by decide +kernel) (by decide +kernel) (by decide +kernel) (by decide +kernel) ⟨rfl, rfl⟩ rfl rfl ck30) ?_
    rfl
theorem b166_53 {x1 x2 x3 s0 : Int32} {M : am_M} {w : am_W4}  : am_rn call 166 53 [some (am_P (30, 0, 0)), some (am_I x1), some (am_I x2), some (am_I x3)] [am_I s0] M (am_Z w) = if am_pc 1 s0 = true then some (.inl (some (am_I s0)), M, (am_Z w)) else none := by
  refine Eq.trans (rl_goto (o := 16) 69 (by decide +kernel) (by decide)) ?_
  exact rl_zret (by decide +kernel) rfl
theorem b166_61 {x1 x2 x3 s0 : Int32} {M : am_M} {w : am_W4}  : am_rn call 166 61 [some (am_P (30, 0, 0)), some (am_I x1), some (am_I x2), some (am_I x3)] [am_I s0] M (am_Z w) = if 0 < s0 then some (.inl (some (am_I (nI 1))), M, (am_Z w)) else some (.inl (some (am_I (nI 0))), M, (am_Z w)) := by
  refine Eq.trans (rl_ifle (o := 7) 68 (by decide +kernel) (by decide)) ?_
  refine am_ite (fun h_1 => ?_) (fun h_1 => ?_)
  · skip
    refine Eq.trans (rl_iconst (c := 1) (k := (nI 1)) (by decide +kernel) (by decide)) ?_
    refine Eq.trans (rl_goto (o := 4) 69 (by decide +kernel) (by decide)) ?_
    exact rl_zretk (by decide +kernel) rfl rfl
  · skip
    refine Eq.trans (rl_iconst (c := 0) (k := (nI 0)) (by decide +kernel) (by decide)) ?_
    exact rl_zretk (by decide +kernel) rfl rfl
theorem e166 {d : Nat} {x1 x2 : Int32} {M : am_M} {w : am_W4}  : am_ev (d + 1) 166 [am_P (30, 0, 0), am_I x1, am_I x2] M (am_Z w) = if x2 = 0 then am_rn (am_ev d) 166 15 [some (am_P (30, 0, 0)), some (am_I x1), some (am_I x2), none] [am_I (-1 : Int32), am_I x1] (am_set M (30, 0, 0) 20 (nI 0)) (am_Z w) else am_rn (am_ev d) 166 15 [some (am_P (30, 0, 0)), some (am_I x1), some (am_I x2), none] [am_I (nI 1), am_I x1] (am_set M (30, 0, 0) 20 (nI 0)) (am_Z w) := (am_ev_eq d 166 _ M (am_Z w)).trans (b166_0)
theorem b167_0 {x1 x2 : Int32} {M : am_M} {w : am_W4}  : am_rn call 167 0 [some (am_P (30, 0, 0)), some (am_I x1), some (am_I x2), none, none] [] M (am_Z w) = am_cb (call 126 [am_P (30, 0, 0), am_I x1] (am_set M (30, 0, 0) 20 (nI 0)) (am_Z w)) fun v M' X' => am_rn call 167 10 [some (am_P (30, 0, 0)), some (am_I x1), some (am_I x2), none, none] (v.toList ++ []) M' X' := by
  refine Eq.trans (rl_aloadn (j := 0) (by decide +kernel) rfl) ?_
  refine Eq.trans (rl_iconst (c := 0) (k := (nI 0)) (by decide +kernel) (by decide)) ?_
  refine Eq.trans (rl_put (ix := 39) (ci := 9) (j := 20) (by decide +kernel) (by decide +kernel) (by decide +kernel) (by decide +kernel) ck30) ?_
  refine Eq.trans (rl_aloadn (j := 0) (by decide +kernel) rfl) ?_
  refine Eq.trans (rl_iloadn (j := 1) (by decide +kernel) rfl) ?_
  refine Eq.trans (rl_inv (ix := 92) (n := 1) (o := 9) 126 [am_I x1] [] (by decide +kernel) (by decide +kernel) (by decide +kernel) (by decide +kernel) ⟨rfl, rfl⟩ rfl rfl ck30) ?_
  rfl
theorem b167_10 {x1 x2 s0 : Int32} {M : am_M} {w : am_W4}  : am_rn call 167 10 [some (am_P (30, 0, 0)), some (am_I x1), some (am_I x2), none, none] [am_I s0] M (am_Z w) = if s0 = 0 then am_cb (call 115 [am_P (30, 0, 0), am_I (nI 1)] M (am_Z w)) fun v M' X' => am_rn call 167 18 [some (am_P (30, 0, 0)), some (am_I x1), some (am_I x2), none, none] (v.toList ++ []) M' X' else am_cb (call 116 [am_I x2, am_I (nI 0), am_I (nI 200)] M (am_Z w)) fun v M' X' => am_rn call 167 27 [some (am_P (30, 0, 0)), some (am_I x1), some (am_I x2), none, none] (v.toList ++ []) M' X' := by
  refine Eq.trans (rl_ifne (o := 9) 19 (by decide +kernel) (by decide)) ?_
  refine am_ite (fun h_1 => ?_) (fun h_1 => ?_)
  · skip
    refine Eq.trans (rl_aloadn (j := 0) (by decide +kernel) rfl) ?_
    refine Eq.trans (rl_iconst (c := 1) (k := (nI 1)) (by decide +kernel) (by decide)) ?_
    refine Eq.trans (rl_inv (ix := 64) (n := 1) (o := 9) 115 [am_I (nI 1)] [] (by decide +kernel) (by decide +kernel) (by decide +kernel) (by decide +kernel) ⟨rfl, rfl⟩ rfl rfl ck30) ?_
    rfl
  · skip
    refine Eq.trans (rl_iloadn (j := 2) (by decide +kernel) rfl) ?_
    refine Eq.trans (rl_iconst (c := 0) (k := (nI 0)) (by decide +kernel) (by decide)) ?_
    refine Eq.trans (rl_sipush (c := 200) (k := (nI 200)) (by decide +kernel) (by decide)) ?_
    refine Eq.trans (rl_invS (ix := 67) (n := 3) (k := 1) 116 [am_I x2, am_I (nI 0), am_I (nI 200)] [] (by decide +kernel) (by decide +kernel) (by decide) (by decide +kernel) ⟨rfl, rfl⟩ rfl rfl) ?_
    rfl
theorem b167_18 {x1 x2 s0 : Int32} {M : am_M} {w : am_W4}  : am_rn call 167 18 [some (am_P (30, 0, 0)), some (am_I x1), some (am_I x2), none, none] [am_I s0] M (am_Z w) = some (.inl (some (am_I s0)), M, (am_Z w)) := by
  exact rl_iret (by decide +kernel) rfl
theorem b167_27 {x1 x2 s0 : Int32} {M : am_M} {w : am_W4}  : am_rn call 167 27 [some (am_P (30, 0, 0)), some (am_I x1), some (am_I x2), none, none] [am_I s0] M (am_Z w) = if s0 = 0 then am_cb (call 115 [am_P (30, 0, 0), am_I (nI 2)] M (am_Z w)) fun v M' X' => am_rn call 167 35 [some (am_P (30, 0, 0)), some (am_I x1), some (am_I x2), none, none] (v.toList ++ []) M' X' else am_cb (call 131 [am_P (30, 0, 0), am_I x1] M (am_Z w)) fun v M' X' => am_rn call 167 41 [some (am_P (30, 0, 0)), some (am_I x1), some (am_I x2), none, none] (v.toList ++ []) M' X' := by
  refine Eq.trans (rl_ifne (o := 9) 36 (by decide +kernel) (by decide)) ?_
  refine am_ite (fun h_1 => ?_) (fun h_1 => ?_)
  · skip
    refine Eq.trans (rl_aloadn (j := 0) (by decide +kernel) rfl) ?_
    refine Eq.trans (rl_iconst (c := 2) (k := (nI 2)) (by decide +kernel) (by decide)) ?_
    refine Eq.trans (rl_inv (ix := 64) (n := 1) (o := 9) 115 [am_I (nI 2)] [] (by decide +kernel) (by decide +kernel) (by decide +kernel) (by decide +kernel) ⟨rfl, rfl⟩ rfl rfl ck30) ?_
    rfl
  · skip
    refine Eq.trans (rl_aloadn (j := 0) (by decide +kernel) rfl) ?_
    refine Eq.trans (rl_iloadn (j := 1) (by decide +kernel) rfl) ?_
    refine Eq.trans (rl_inv (ix := 95) (n := 1) (o := 9) 131 [am_I x1] [] (by decide +kernel) (by decide +kernel) (by decide +kernel) (by decide +kernel) ⟨rfl, rfl⟩ rfl rfl ck30) ?_
    rfl
theorem b167_35 {x1 x2 s0 : Int32} {M : am_M} {w : am_W4}  : am_rn call 167 35 [some (am_P (30, 0, 0)), some (am_I x1), some (am_I x2), none, none] [am_I s0] M (am_Z w) = some (.inl (some (am_I s0)), M, (am_Z w)) := by
  exact rl_iret (by decide +kernel) rfl
theorem b167_41 {x1 x2 s0 : Int32} {M : am_M} {w : am_W4}  : am_rn call 167 41 [some (am_P (30, 0, 0)), some (am_I x1), some (am_I x2), none, none] [am_I s0] M (am_Z w) = am_rn call 167 45 [some (am_P (30, 0, 0)), some (am_I x1), some (am_I x2), some (am_I s0), some (am_I (nI 1))] [] M (am_Z w) := by
  refine Eq.trans (rl_istoren (j := 3) (ls' := [some (am_P (30, 0, 0)), some (am_I x1), some (am_I x2), some (am_I s0), none]) (by decide +kernel) rfl rfl) ?_
  refine Eq.trans (rl_iconst (c := 1) (k := (nI 1)) (by decide +kernel) (by decide)) ?_
  refine Eq.trans (rl_istore (j := 4) (ls' := [some (am_P (30, 0, 0)), some (am_I x1), some (am_I x2), some (am_I s0), some (am_I (nI 1))]) (by decide +kernel) rfl rfl) ?_
  rfl
theorem b167_45 {x1 x2 x3 x4 : Int32} {M : am_M} {w : am_W4}  : am_rn call 167 45 [some (am_P (30, 0, 0)), some (am_I x1), some (am_I x2), some (am_I x3), some (am_I x4)] [] M (am_Z w) = if x2 < x4 then some (.inl (some (am_I x3)), M, (am_Z w)) else if (((M (31, 0, 0) 0) + x4) - ((M (31, 0, 0) 0) + x4) / (nI 6) * (nI 6)) = 0 then am_cb (call 153 [am_I x1, am_I x3] M (am_Z w)) fun v M' X' => am_rn call 167 71 [some (am_P (30, 0, 0)), some (am_I x1), some (am_I x2), some (am_I x3), some (am_I x4)] (v.toList ++ []) M' X' else am_rn call 167 72 [some (am_P (30, 0, 0)), some (am_I x1), some (am_I x2), some (am_I x3), some (am_I x4)] [] M (am_Z w) := by
  refine Eq.trans (rl_iload (j := 4) (by decide +kernel) rfl) ?_
  refine Eq.trans (rl_iloadn (j := 2) (by decide +kernel) rfl) ?_
  refine Eq.trans (rl_icgt (o := 30) 78 (by decide +kernel) (by decide)) ?_
  refine am_ite (fun h_1 => ?_) (fun h_1 => ?_)
  · skip
    refine Eq.trans (rl_iloadn (j := 3) (by decide +kernel) rfl) ?_
    exact rl_iret (by decide +kernel) rfl
  · skip
    refine Eq.trans (rl_aloadn (j := 0) (by decide +kernel) rfl) ?_
    refine Eq.trans (rl_getP (ix := 9) (ci := 9) (j := 0) (by decide +kernel) (by decide +kernel) (by decide +kernel) ck30 rfl) ?_
    refine Eq.trans (rl_iconst (c := 0) (k := (nI 0)) (by decide +kernel) (by decide)) ?_
    refine Eq.trans (rl_iald' 0 (by decide +kernel) ka31 rfl rfl) ?_
    refine Eq.trans (rl_iload (j := 4) (by decide +kernel) rfl) ?_
    refine Eq.trans (rl_iadd (by decide +kernel)) ?_
    refine Eq.trans (rl_bipush (c := 6) (k := (nI 6)) (by decide +kernel) (by decide)) ?_
    refine Eq.trans (rl_irem (by decide +kernel) rfl) ?_
    refine Eq.trans (rl_ifne (o := 9) 72 (by decide +kernel) (by decide)) ?_
    refine am_ite (fun h_2 => ?_) (fun h_2 => ?_)
    · skip
      refine Eq.trans (rl_iloadn (j := 1) (by decide +kernel) rfl) ?_
      refine Eq.trans (rl_iloadn (j := 3) (by decide +kernel) rfl) ?_
      refine Eq.trans (rl_invS (ix := 152) (n := 2) (k := 1) 153 [am_I x1, am_I x3] [] (by decide +kernel) (by decide +kernel) (by decide) (by decide +kernel) ⟨rfl, rfl⟩ rfl rfl) ?_
      rfl
    · skip
      rfl
theorem b167_71 {x1 x2 x3 x4 s0 : Int32} {M : am_M} {w : am_W4}  : am_rn call 167 71 [some (am_P (30, 0, 0)), some (am_I x1), some (am_I x2), some (am_I x3), some (am_I x4)] [am_I s0] M (am_Z w) = am_rn call 167 72 [some (am_P (30, 0, 0)), some (am_I x1), some (am_I x2), some (am_I s0), some (am_I x4)] [] M (am_Z w) := by
  refine Eq.trans (rl_istoren (j := 3) (ls' := [some (am_P (30, 0, 0)), some (am_I x1), some (am_I x2), some (am_I s0), some (am_I x4)]) (by decide +kernel) rfl rfl) ?_
  rfl
theorem b167_72 {x1 x2 x3 x4 : Int32} {M : am_M} {w : am_W4}  : am_rn call 167 72 [some (am_P (30, 0, 0)), some (am_I x1), some (am_I x2), some (am_I x3), some (am_I x4)] [] M (am_Z w) = am_rn call 167 45 [some (am_P (30, 0, 0)), some (am_I x1), some (am_I x2), some (am_I x3), some (am_I (x4 + (nI 1)))] [] M (am_Z w) := by
  refine Eq.trans (rl_iinc (j := 4) (c := 1) (k := (nI 1)) (ls' := [some (am_P (30, 0, 0)), some (am_I x1), some (am_I x2), some (am_I x3), some (am_I (x4 + (nI 1)))]) (by decide +kernel) (by decide) rfl rfl) ?_
  refine Eq.trans (rl_goto (o := (-30)) 45 (by decide +kernel) (by decide)) ?_
  rfl
theorem e167 {d : Nat} {x1 x2 : Int32} {M : am_M} {w : am_W4}  : am_ev (d + 1) 167 [am_P (30, 0, 0), am_I x1, am_I x2] M (am_Z w) = am_cb ((am_ev d) 126 [am_P (30, 0, 0), am_I x1] (am_set M (30, 0, 0) 20 (nI 0)) (am_Z w)) fun v M' X' => am_rn (am_ev d) 167 10 [some (am_P (30, 0, 0)), some (am_I x1), some (am_I x2), none, none] (v.toList ++ []) M' X' := (am_ev_eq d 167 _ M (am_Z w)).trans (b167_0)
theorem b168_0 {x1 x2 : Int32} {M : am_M} {w : am_W4}  : am_rn call 168 0 [some (am_P (30, 0, 0)), some (am_I x1), some (am_I x2), none, none, none] [] M (am_Z w) = am_cb (call 127 [am_P (30, 0, 0), am_I x1] (am_set M (30, 0, 0) 20 (nI 0)) (am_Z w)) fun v M' X' => am_rn call 168 10 [some (am_P (30, 0, 0)), some (am_I x1), some (am_I x2), none, none, none] (v.toList ++ []) M' X' := by
  refine Eq.trans (rl_aloadn (j := 0) (by decide +kernel) rfl) ?_
  refine Eq.trans (rl_iconst (c := 0) (k := (nI 0)) (by decide +kernel) (by decide)) ?_
  refine Eq.trans (rl_put (ix := 39) (ci := 9) (j := 20) (by decide +kernel) (by decide +kernel) (by decide +kernel) (by decide +kernel) ck30) ?_
  refine Eq.trans (rl_aloadn (j := 0) (by decide +kernel) rfl) ?_
  refine Eq.trans (rl_iloadn (j := 1) (by decide +kernel) rfl) ?_
  refine Eq.trans (rl_inv (ix := 116) (n := 1) (o := 9) 127 [am_I x1] [] (by decide +kernel) (by decide +kernel) (by decide +kernel) (by decide +kernel) ⟨rfl, rfl⟩ rfl rfl ck30) ?_
  rfl
theorem b168_10 {x1 x2 s0 : Int32} {M : am_M} {w : am_W4}  : am_rn call 168 10 [some (am_P (30, 0, 0)), some (am_I x1), some (am_I x2), none, none, none] [am_I s0] M (am_Z w) = if s0 = 0 then am_cb (call 115 [am_P (30, 0, 0), am_I (nI 1)] M (am_Z w)) fun v M' X' => am_rn call 168 18 [some (am_P (30, 0, 0)), some (am_I x1), some (am_I x2), none, none, none] (v.toList ++ []) M' X' else am_cb (call 129 [am_P (30, 0, 0), am_I x1, am_I (nI 6)] M (am_Z w)) fun v M' X' => am_rn call 168 26 [some (am_P (30, 0, 0)), some (am_I x1), some (am_I x2), none, none, none] (v.toList ++ []) M' X' := by
  refine Eq.trans (rl_ifne (o := 9) 19 (by decide +kernel) (by decide)) ?_
  refine am_ite (fun h_1 => ?_) (fun h_1 => ?_)
  · skip
    refine Eq.trans (rl_aloadn (j := 0) (by decide +kernel) rfl) ?_
    refine Eq.trans (rl_iconst (c := 1) (k := (nI 1)) (by decide +kernel) (by decide)) ?_
    refine Eq.trans (rl_inv (ix := 64) (n := 1) (o := 9) 115 [am_I (nI 1)] [] (by decide +kernel) (by decide +kernel) (by decide +kernel) (by decide +kernel) ⟨rfl, rfl⟩ rfl rfl ck30) ?_
    rfl
  · skip
    refine Eq.trans (rl_aloadn (j := 0) (by decide +kernel) rfl) ?_
    refine Eq.trans (rl_iloadn (j := 1) (by decide +kernel) rfl) ?_
    refine Eq.trans (rl_bipush (c := 6) (k := (nI 6)) (by decide +kernel) (by decide)) ?_
    refine Eq.trans (rl_inv (ix := 119) (n := 2) (o := 9) 129 [am_I x1, am_I (nI 6)] [] (by decide +kernel) (by decide +kernel) (by decide +kernel) (by decide +kernel) ⟨rfl, rfl⟩ rfl rfl ck30) ?_
    rfl
theorem b168_18 {x1 x2 s0 : Int32} {M : am_M} {w : am_W4}  : am_rn call 168 18 [some (am_P (30, 0, 0)), some (am_I x1), some (am_I x2), none, none, none] [am_I s0] M (am_Z w) = some (.inl (some (am_I s0)), M, (am_Z w)) := by
  exact rl_iret (by decide +kernel) rfl
theorem b168_26 {x1 x2 s0 : Int32} {M : am_M} {w : am_W4}  : am_rn call 168 26 [some (am_P (30, 0, 0)), some (am_I x1), some (am_I x2), none, none, none] [am_I s0] M (am_Z w) = if s0 = 0 then am_cb (call 119 [am_P (30, 0, 0)] M (am_Z w)) fun v M' X' => am_rn call 168 39 [some (am_P (30, 0, 0)), some (am_I x1), some (am_I x2), none, none, none] (v.toList ++ []) M' X' else am_cb (call 115 [am_P (30, 0, 0), am_I (nI 2)] M (am_Z w)) fun v M' X' => am_rn call 168 34 [some (am_P (30, 0, 0)), some (am_I x1), some (am_I x2), none, none, none] (v.toList ++ []) M' X' := by
  refine Eq.trans (rl_ifeq (o := 9) 35 (by decide +kernel) (by decide)) ?_
  refine am_ite (fun h_1 => ?_) (fun h_1 => ?_)
  · skip
    refine Eq.trans (rl_aloadn (j := 0) (by decide +kernel) rfl) ?_
    refine Eq.trans (rl_inv (ix := 165) (n := 0) (o := 9) 119 [] [] (by decide +kernel) (by decide +kernel) (by decide +kernel) (by decide +kernel) ⟨rfl, rfl⟩ rfl rfl ck30) ?_
    rfl
  · skip
    refine Eq.trans (rl_aloadn (j := 0) (by decide +kernel) rfl) ?_
    refine Eq.trans (rl_iconst (c := 2) (k := (nI 2)) (by decide +kernel) (by decide)) ?_
    refine Eq.trans (rl_inv (ix := 64) (n := 1) (o := 9) 115 [am_I (nI 2)] [] (by decide +kernel) (by decide +kernel) (by decide +kernel) (by decide +kernel) ⟨rfl, rfl⟩ rfl rfl ck30) ?_
    rfl
theorem b168_34 {x1 x2 s0 : Int32} {M : am_M} {w : am_W4}  : am_rn call 168 34 [some (am_P (30, 0, 0)), some (am_I x1), some (am_I x2), none, none, none] [am_I s0] M (am_Z w) = some (.inl (some (am_I s0)), M, (am_Z w)) := by
  exact rl_iret (by decide +kernel) rfl
theorem b168_39 {x1 x2 : Int32} {M : am_M} {w : am_W4}  : am_rn call 168 39 [some (am_P (30, 0, 0)), some (am_I x1), some (am_I x2), none, none, none] [] M (am_Z w) = am_rn call 168 41 [some (am_P (30, 0, 0)), some (am_I x1), some (am_I x2), some (am_I (nI 0)), none, none] [] M (am_Z w) := by
  refine Eq.trans (rl_iconst (c := 0) (k := (nI 0)) (by decide +kernel) (by decide)) ?_
  refine Eq.trans (rl_istoren (j := 3) (ls' := [some (am_P (30, 0, 0)), some (am_I x1), some (am_I x2), some (am_I (nI 0)), none, none]) (by decide +kernel) rfl rfl) ?_
  rfl
theorem b168_41 {x1 x2 x3 : Int32} {x4 : Option am_V} {M : am_M} {w : am_W4}  : am_rn call 168 41 [some (am_P (30, 0, 0)), some (am_I x1), some (am_I x2), some (am_I x3), x4, none] [] M (am_Z w) = if x3 < (nI 400) then am_cb (call 129 [am_P (30, 0, 0), am_I x1, am_I (nI 6)] M (am_Z w)) fun v M' X' => am_rn call 168 55 [some (am_P (30, 0, 0)), some (am_I x1), some (am_I x2), some (am_I x3), x4, none] (v.toList ++ []) M' X' else am_rn call 168 70 [some (am_P (30, 0, 0)), some (am_I x1), some (am_I x2), some (am_I x3), x4, none] [] M (am_Z w) := by
  refine Eq.trans (rl_iloadn (j := 3) (by decide +kernel) rfl) ?_
  refine Eq.trans (rl_sipush (c := 400) (k := (nI 400)) (by decide +kernel) (by decide)) ?_
  refine Eq.trans (rl_icge (o := 25) 70 (by decide +kernel) (by decide)) ?_
  refine am_ite (fun h_1 => ?_) (fun h_1 => ?_)
  · skip
    refine Eq.trans (rl_aloadn (j := 0) (by decide +kernel) rfl) ?_
    refine Eq.trans (rl_iloadn (j := 1) (by decide +kernel) rfl) ?_
    refine Eq.trans (rl_bipush (c := 6) (k := (nI 6)) (by decide +kernel) (by decide)) ?_
    refine Eq.trans (rl_inv (ix := 119) (n := 2) (o := 9) 129 [am_I x1, am_I (nI 6)] [] (by decide +kernel) (by decide +kernel) (by decide +kernel) (by decide +kernel) ⟨rfl, rfl⟩ rfl rfl ck30) ?_
    rfl
  · skip
    rfl
theorem b168_55 {x1 x2 x3 s0 : Int32} {x4 : Option am_V} {M : am_M} {w : am_W4}  : am_rn call 168 55 [some (am_P (30, 0, 0)), some (am_I x1), some (am_I x2), some (am_I x3), x4, none] [am_I s0] M (am_Z w) = if s0 = 0 then am_cb (call 152 [am_P (30, 0, 0)] M (am_Z w)) fun v M' X' => am_rn call 168 62 [some (am_P (30, 0, 0)), some (am_I x1), some (am_I x2), some (am_I x3), x4, none] (v.toList ++ []) M' X' else am_rn call 168 70 [some (am_P (30, 0, 0)), some (am_I x1), some (am_I x2), some (am_I x3), x4, none] [] M (am_Z w) := by
  refine Eq.trans (rl_ifne (o := 15) 70 (by decide +kernel) (by decide)) ?_
  refine am_ite (fun h_1 => ?_) (fun h_1 => ?_)
  · skip
    refine Eq.trans (rl_aloadn (j := 0) (by decide +kernel) rfl) ?_
    refine Eq.trans (rl_inv (ix := 155) (n := 0) (o := 9) 152 [] [] (by decide +kernel) (by decide +kernel) (by decide +kernel) (by decide +kernel) ⟨rfl, rfl⟩ rfl rfl ck30) ?_
    rfl
  · skip
    rfl
theorem b168_62 {x1 x2 x3 s0 : Int32} {x4 : Option am_V} {M : am_M} {w : am_W4}  : am_rn call 168 62 [some (am_P (30, 0, 0)), some (am_I x1), some (am_I x2), some (am_I x3), x4, none] [am_I s0] M (am_Z w) = am_rn call 168 41 [some (am_P (30, 0, 0)), some (am_I x1), some (am_I x2), some (am_I (x3 + (nI 1))), some (am_I s0), none] [] M (am_Z w) := by
  refine Eq.trans (rl_istore (j := 4) (ls' := [some (am_P (30, 0, 0)), some (am_I x1), some (am_I x2), some (am_I x3), some (am_I s0), none]) (by decide +kernel) rfl rfl) ?_
  refine Eq.trans (rl_iinc (j := 3) (c := 1) (k := (nI 1)) (ls' := [some (am_P (30, 0, 0)), some (am_I x1), some (am_I x2), some (am_I (x3 + (nI 1))), some (am_I s0), none]) (by decide +kernel) (by decide) rfl rfl) ?_
  refine Eq.trans (rl_goto (o := (-26)) 41 (by decide +kernel) (by decide)) ?_
  rfl
theorem b168_70 {x1 x2 x3 : Int32} {x4 : Option am_V} {M : am_M} {w : am_W4}  : am_rn call 168 70 [some (am_P (30, 0, 0)), some (am_I x1), some (am_I x2), some (am_I x3), x4, none] [] M (am_Z w) = am_cb (call 129 [am_P (30, 0, 0), am_I x1, am_I (nI 6)] M (am_Z w)) fun v M' X' => am_rn call 168 77 [some (am_P (30, 0, 0)), some (am_I x1), some (am_I x2), some (am_I x3), x4, none] (v.toList ++ []) M' X' := by
  refine Eq.trans (rl_aloadn (j := 0) (by decide +kernel) rfl) ?_
  refine Eq.trans (rl_iloadn (j := 1) (by decide +kernel) rfl) ?_
  refine Eq.trans (rl_bipush (c := 6) (k := (nI 6)) (by decide +kernel) (by decide)) ?_
  refine Eq.trans (rl_inv (ix := 119) (n := 2) (o := 9) 129 [am_I x1, am_I (nI 6)] [] (by decide +kernel) (by decide +kernel) (by decide +kernel) (by decide +kernel) ⟨rfl, rfl⟩ rfl rfl ck30) ?_
  rfl
theorem b168_77 {x1 x2 x3 s0 : Int32} {x4 : Option am_V} {M : am_M} {w : am_W4}  : am_rn call 168 77 [some (am_P (30, 0, 0)), some (am_I x1), some (am_I x2), some (am_I x3), x4, none] [am_I s0] M (am_Z w) = if s0 = (nI 1) then am_rn call 168 86 [some (am_P (30, 0, 0)), some (am_I x1), some (am_I x2), some (am_I x3), x4, none] [am_I (nI 1)] M (am_Z w) else am_rn call 168 86 [some (am_P (30, 0, 0)), some (am_I x1), some (am_I x2), some (am_I x3), x4, none] [am_I (nI 0)] M (am_Z w) := by
  refine Eq.trans (rl_iconst (c := 1) (k := (nI 1)) (by decide +kernel) (by decide)) ?_
  refine Eq.trans (rl_icne (o := 7) 85 (by decide +kernel) (by decide)) ?_
  refine am_ite (fun h_1 => ?_) (fun h_1 => ?_)
  · skip
    refine Eq.trans (rl_iconst (c := 1) (k := (nI 1)) (by decide +kernel) (by decide)) ?_
    refine Eq.trans (rl_goto (o := 4) 86 (by decide +kernel) (by decide)) ?_
    rfl
  · skip
    refine Eq.trans (rl_iconst (c := 0) (k := (nI 0)) (by decide +kernel) (by decide)) ?_
    rfl
theorem b168_86 {x1 x2 x3 s0 : Int32} {x4 : Option am_V} {M : am_M} {w : am_W4}  : am_rn call 168 86 [some (am_P (30, 0, 0)), some (am_I x1), some (am_I x2), some (am_I x3), x4, none] [am_I s0] M (am_Z w) = am_cb (call 149 [am_P (30, 0, 0), am_I x1] M (am_Z w)) fun v M' X' => am_rn call 168 93 [some (am_P (30, 0, 0)), some (am_I x1), some (am_I x2), some (am_I x3), some (am_I s0), none] (v.toList ++ []) M' X' := by
  refine Eq.trans (rl_istore (j := 4) (ls' := [some (am_P (30, 0, 0)), some (am_I x1), some (am_I x2), some (am_I x3), some (am_I s0), none]) (by decide +kernel) rfl rfl) ?_
  refine Eq.trans (rl_aloadn (j := 0) (by decide +kernel) rfl) ?_
  refine Eq.trans (rl_iloadn (j := 1) (by decide +kernel) rfl) ?_
  refine Eq.trans (rl_inv (ix := 162) (n := 1) (o := 9) 149 [am_I x1] [] (by decide +kernel) (by decide +kernel) (by decide +kernel) (by decide +kernel) ⟨rfl, rfl⟩ rfl rfl ck30) ?_
  rfl
theorem b168_93 {x1 x2 x3 x4 s0 : Int32} {M : am_M} {w : am_W4}  : am_rn call 168 93 [some (am_P (30, 0, 0)), some (am_I x1), some (am_I x2), some (am_I x3), some (am_I x4), none] [am_I s0] M (am_Z w) = am_cb (call 120 [am_P (30, 0, 0)] M (am_Z w)) fun v M' X' => am_rn call 168 99 [some (am_P (30, 0, 0)), some (am_I x1), some (am_I x2), some (am_I x3), some (am_I x4), some (am_I s0)] (v.toList ++ []) M' X' := by
  refine Eq.trans (rl_istore (j := 5) (ls' := [some (am_P (30, 0, 0)), some (am_I x1), some (am_I x2), some (am_I x3), some (am_I x4), some (am_I s0)]) (by decide +kernel) rfl rfl) ?_
  refine Eq.trans (rl_aloadn (j := 0) (by decide +kernel) rfl) ?_
  refine Eq.trans (rl_inv (ix := 168) (n := 0) (o := 9) 120 [] [] (by decide +kernel) (by decide +kernel) (by decide +kernel) (by decide +kernel) ⟨rfl, rfl⟩ rfl rfl ck30) ?_
  rfl
theorem b168_99 {x1 x2 x3 x4 x5 : Int32} {M : am_M} {w : am_W4}  : am_rn call 168 99 [some (am_P (30, 0, 0)), some (am_I x1), some (am_I x2), some (am_I x3), some (am_I x4), some (am_I x5)] [] M (am_Z w) = if x4 = 0 then am_cb (call 115 [am_P (30, 0, 0), am_I (nI 2)] M (am_Z w)) fun v M' X' => am_rn call 168 109 [some (am_P (30, 0, 0)), some (am_I x1), some (am_I x2), some (am_I x3), some (am_I x4), some (am_I x5)] (v.toList ++ []) M' X' else if x2 = 0 then some (.inl (some (am_I x3)), M, (am_Z w)) else some (.inl (some (am_I x5)), M, (am_Z w)) := by
  refine Eq.trans (rl_iload (j := 4) (by decide +kernel) rfl) ?_
  refine Eq.trans (rl_ifne (o := 9) 110 (by decide +kernel) (by decide)) ?_
  refine am_ite (fun h_1 => ?_) (fun h_1 => ?_)
  · skip
    refine Eq.trans (rl_aloadn (j := 0) (by decide +kernel) rfl) ?_
    refine Eq.trans (rl_iconst (c := 2) (k := (nI 2)) (by decide +kernel) (by decide)) ?_
    refine Eq.trans (rl_inv (ix := 64) (n := 1) (o := 9) 115 [am_I (nI 2)] [] (by decide +kernel) (by decide +kernel) (by decide +kernel) (by decide +kernel) ⟨rfl, rfl⟩ rfl rfl ck30) ?_
    rfl
  · skip
    refine Eq.trans (rl_iloadn (j := 2) (by decide +kernel) rfl) ?_
    refine Eq.trans (rl_ifne (o := 7) 118 (by decide +kernel) (by decide)) ?_
    refine am_ite (fun h_2 => ?_) (fun h_2 => ?_)
    · skip
      refine Eq.trans (rl_iloadn (j := 3) (by decide +kernel) rfl) ?_
      refine Eq.trans (rl_goto (o := 5) 120 (by decide +kernel) (by decide)) ?_
      exact rl_iret (by decide +kernel) rfl
    · skip
      refine Eq.trans (rl_iload (j := 5) (by decide +kernel) rfl) ?_
      exact rl_iret (by decide +kernel) rfl
theorem b168_109 {x1 x2 x3 x4 x5 s0 : Int32} {M : am_M} {w : am_W4}  : am_rn call 168 109 [some (am_P (30, 0, 0)), some (am_I x1), some (am_I x2), some (am_I x3), some (am_I x4), some (am_I x5)] [am_I s0] M (am_Z w) = some (.inl (some (am_I s0)), M, (am_Z w)) := by
  exact rl_iret (by decide +kernel) rfl
theorem e168 {d : Nat} {x1 x2 : Int32} {M : am_M} {w : am_W4}  : am_ev (d + 1) 168 [am_P (30, 0, 0), am_I x1, am_I x2] M (am_Z w) = am_cb ((am_ev d) 127 [am_P (30, 0, 0), am_I x1] (am_set M (30, 0, 0) 20 (nI 0)) (am_Z w)) fun v M' X' => am_rn (am_ev d) 168 10 [some (am_P (30, 0, 0)), some (am_I x1), some (am_I x2), none, none, none] (v.toList ++ []) M' X' := (am_ev_eq d 168 _ M (am_Z w)).trans (b168_0)
theorem b169_0 {x1 : Int32} {M : am_M} {w : am_W4}  : am_rn call 169 0 [some (am_P (30, 0, 0)), some (am_I x1)] [] M (am_Z w) = am_cb (call 168 [am_P (30, 0, 0), am_I x1, am_I (nI 0)] M (am_Z w)) fun v M' X' => am_rn call 169 6 [some (am_P (30, 0, 0)), some (am_I x1)] (v.toList ++ []) M' X' := by
  refine Eq.trans (rl_aloadn (j := 0) (by decide +kernel) rfl) ?_
  refine Eq.trans (rl_iloadn (j := 1) (by decide +kernel) rfl) ?_
  refine Eq.trans (rl_iconst (c := 0) (k := (nI 0)) (by decide +kernel) (by decide)) ?_
  refine Eq.trans (rl_inv (ix := 171) (n := 2) (o := 9) 168 [am_I x1, am_I (nI 0)] [] (by decide +kernel) (by decide +kernel) (by decide +kernel) (by decide +kernel) ⟨rfl, rfl⟩ rfl rfl ck30) ?_
  rfl
theorem b169_6 {x1 s0 : Int32} {M : am_M} {w : am_W4}  : am_rn call 169 6 [some (am_P (30, 0, 0)), some (am_I x1)] [am_I s0] M (am_Z w) = some (.inl (some (am_I s0)), M, (am_Z w)) := by
  exact rl_iret (by decide +kernel) rfl
theorem e169 {d : Nat} {x1 : Int32} {M : am_M} {w : am_W4}  : am_ev (d + 1) 169 [am_P (30, 0, 0), am_I x1] M (am_Z w) = am_cb ((am_ev d) 168 [am_P (30, 0, 0), am_I x1, am_I (nI 0)] M (am_Z w)) fun v M' X' => am_rn (am_ev d) 169 6 [some (am_P (30, 0, 0)), some (am_I x1)] (v.toList ++ []) M' X' := (am_ev_eq d 169 _ M (am_Z w)).trans (b169_0)
theorem b170_0 {x1 : Int32} {M : am_M} {w : am_W4}  : am_rn call 170 0 [some (am_P (30, 0, 0)), some (am_I x1)] [] M (am_Z w) = am_cb (call 168 [am_P (30, 0, 0), am_I x1, am_I (nI 1)] M (am_Z w)) fun v M' X' => am_rn call 170 6 [some (am_P (30, 0, 0)), some (am_I x1)] (v.toList ++ []) M' X' := by
  refine Eq.trans (rl_aloadn (j := 0) (by decide +kernel) rfl) ?_
  refine Eq.trans (rl_iloadn (j := 1) (by decide +kernel) rfl) ?_
  refine Eq.trans (rl_iconst (c := 1) (k := (nI 1)) (by decide +kernel) (by decide)) ?_
  refine Eq.trans (rl_inv (ix := 171) (n := 2) (o := 9) 168 [am_I x1, am_I (nI 1)] [] (by decide +kernel) (by decide +kernel) (by decide +kernel) (by decide +kernel) ⟨rfl, rfl⟩ rfl rfl ck30) ?_
  rfl
theorem b170_6 {x1 s0 : Int32} {M : am_M} {w : am_W4}  : am_rn call 170 6 [some (am_P (30, 0, 0)), some (am_I x1)] [am_I s0] M (am_Z w) = some (.inl (some (am_I s0)), M, (am_Z w)) := by
  exact rl_iret (by decide +kernel) rfl
theorem e170 {d : Nat} {x1 : Int32} {M : am_M} {w : am_W4}  : am_ev (d + 1) 170 [am_P (30, 0, 0), am_I x1] M (am_Z w) = am_cb ((am_ev d) 168 [am_P (30, 0, 0), am_I x1, am_I (nI 1)] M (am_Z w)) fun v M' X' => am_rn (am_ev d) 170 6 [some (am_P (30, 0, 0)), some (am_I x1)] (v.toList ++ []) M' X' := (am_ev_eq d 170 _ M (am_Z w)).trans (b170_0)
theorem b171_0 {x1 x2 : Int32} {M : am_M} {w : am_W4}  : am_rn call 171 0 [some (am_P (30, 0, 0)), some (am_I x1), some (am_I x2)] [] M (am_Z w) = am_cb (call 149 [am_P (30, 0, 0), am_I x1] M (am_Z w)) fun v M' X' => am_rn call 171 5 [some (am_P (30, 0, 0)), some (am_I x1), some (am_I x2)] (v.toList ++ []) M' X' := by
  refine Eq.trans (rl_aloadn (j := 0) (by decide +kernel) rfl) ?_
  refine Eq.trans (rl_iloadn (j := 1) (by decide +kernel) rfl) ?_
  refine Eq.trans (rl_inv (ix := 162) (n := 1) (o := 9) 149 [am_I x1] [] (by decide +kernel) (by decide +kernel) (by decide +kernel) (by decide +kernel) ⟨rfl, rfl⟩ rfl rfl ck30) ?_
  rfl
theorem b171_5 {x1 x2 s0 : Int32} {M : am_M} {w : am_W4}  : am_rn call 171 5 [some (am_P (30, 0, 0)), some (am_I x1), some (am_I x2)] [am_I s0] M (am_Z w) = am_cb (call 149 [am_P (30, 0, 0), am_I x2] M (am_Z w)) fun v M' X' => am_rn call 171 10 [some (am_P (30, 0, 0)), some (am_I x1), some (am_I x2)] (v.toList ++ [am_I s0]) M' X' := by
  refine Eq.trans (rl_aloadn (j := 0) (by decide +kernel) rfl) ?_
  refine Eq.trans (rl_iloadn (j := 2) (by decide +kernel) rfl) ?_
  refine Eq.trans (rl_inv (ix := 162) (n := 1) (o := 9) 149 [am_I x2] [am_I s0] (by decide +kernel) (by decide +kernel) (by decide +kernel) (by decide +kernel) ⟨rfl, rfl⟩ rfl rfl ck30) ?_
  rfl
theorem b171_10 {x1 x2 s0 s1 : Int32} {M : am_M} {w : am_W4}  : am_rn call 171 10 [some (am_P (30, 0, 0)), some (am_I x1), some (am_I x2)] [am_I s0, am_I s1] M (am_Z w) = if s1 = s0 then am_cb (call 129 [am_P (30, 0, 0), am_I x1, am_I (nI 7)] M (am_Z w)) fun v M' X' => am_rn call 171 39 [some (am_P (30, 0, 0)), some (am_I x1), some (am_I x2)] (v.toList ++ []) M' X' else am_cb (call 149 [am_P (30, 0, 0), am_I x1] M (am_Z w)) fun v M' X' => am_rn call 171 18 [some (am_P (30, 0, 0)), some (am_I x1), some (am_I x2)] (v.toList ++ []) M' X' := by
  refine Eq.trans (rl_iceq (o := 22) 32 (by decide +kernel) (by decide)) ?_
  refine am_ite (fun h_1 => ?_) (fun h_1 => ?_)
  · skip
    refine Eq.trans (rl_aloadn (j := 0) (by decide +kernel) rfl) ?_
    refine Eq.trans (rl_iloadn (j := 1) (by decide +kernel) rfl) ?_
    refine Eq.trans (rl_bipush (c := 7) (k := (nI 7)) (by decide +kernel) (by decide)) ?_
    refine Eq.trans (rl_inv (ix := 119) (n := 2) (o := 9) 129 [am_I x1, am_I (nI 7)] [] (by decide +kernel) (by decide +kernel) (by decide +kernel) (by decide +kernel) ⟨rfl, rfl⟩ rfl rfl ck30) ?_
    rfl
  · skip
    refine Eq.trans (rl_aloadn (j := 0) (by decide +kernel) rfl) ?_
    refine Eq.trans (rl_iloadn (j := 1) (by decide +kernel) rfl) ?_
    refine Eq.trans (rl_inv (ix := 162) (n := 1) (o := 9) 149 [am_I x1] [] (by decide +kernel) (by decide +kernel) (by decide +kernel) (by decide +kernel) ⟨rfl, rfl⟩ rfl rfl ck30) ?_
    rfl
theorem b171_18 {x1 x2 s0 : Int32} {M : am_M} {w : am_W4}  : am_rn call 171 18 [some (am_P (30, 0, 0)), some (am_I x1), some (am_I x2)] [am_I s0] M (am_Z w) = am_cb (call 149 [am_P (30, 0, 0), am_I x2] M (am_Z w)) fun v M' X' => am_rn call 171 23 [some (am_P (30, 0, 0)), some (am_I x1), some (am_I x2)] (v.toList ++ [am_I s0]) M' X' := by
  refine Eq.trans (rl_aloadn (j := 0) (by decide +kernel) rfl) ?_
  refine Eq.trans (rl_iloadn (j := 2) (by decide +kernel) rfl) ?_
  refine Eq.trans (rl_inv (ix := 162) (n := 1) (o := 9) 149 [am_I x2] [am_I s0] (by decide +kernel) (by decide +kernel) (by decide +kernel) (by decide +kernel) ⟨rfl, rfl⟩ rfl rfl ck30) ?_
  rfl
theorem b171_23 {x1 x2 s0 s1 : Int32} {M : am_M} {w : am_W4}  : am_rn call 171 23 [some (am_P (30, 0, 0)), some (am_I x1), some (am_I x2)] [am_I s0, am_I s1] M (am_Z w) = if s0 < s1 then some (.inl (some (am_I (nI 1))), M, (am_Z w)) else some (.inl (some (am_I (nI 0))), M, (am_Z w)) := by
  refine Eq.trans (rl_icle (o := 7) 30 (by decide +kernel) (by decide)) ?_
  refine am_ite (fun h_1 => ?_) (fun h_1 => ?_)
  · skip
    refine Eq.trans (rl_iconst (c := 1) (k := (nI 1)) (by decide +kernel) (by decide)) ?_
    refine Eq.trans (rl_goto (o := 4) 31 (by decide +kernel) (by decide)) ?_
    exact rl_zretk (by decide +kernel) rfl rfl
  · skip
    refine Eq.trans (rl_iconst (c := 0) (k := (nI 0)) (by decide +kernel) (by decide)) ?_
    exact rl_zretk (by decide +kernel) rfl rfl
theorem b171_39 {x1 x2 s0 : Int32} {M : am_M} {w : am_W4}  : am_rn call 171 39 [some (am_P (30, 0, 0)), some (am_I x1), some (am_I x2)] [am_I s0] M (am_Z w) = am_cb (call 129 [am_P (30, 0, 0), am_I x2, am_I (nI 7)] M (am_Z w)) fun v M' X' => am_rn call 171 46 [some (am_P (30, 0, 0)), some (am_I x1), some (am_I x2)] (v.toList ++ [am_I s0]) M' X' := by
  refine Eq.trans (rl_aloadn (j := 0) (by decide +kernel) rfl) ?_
  refine Eq.trans (rl_iloadn (j := 2) (by decide +kernel) rfl) ?_
  refine Eq.trans (rl_bipush (c := 7) (k := (nI 7)) (by decide +kernel) (by decide)) ?_
  refine Eq.trans (rl_inv (ix := 119) (n := 2) (o := 9) 129 [am_I x2, am_I (nI 7)] [am_I s0] (by decide +kernel) (by decide +kernel) (by decide +kernel) (by decide +kernel) ⟨rfl, rfl⟩ rfl rfl ck30) ?_
  rfl
theorem b171_46 {x1 x2 s0 s1 : Int32} {M : am_M} {w : am_W4}  : am_rn call 171 46 [some (am_P (30, 0, 0)), some (am_I x1), some (am_I x2)] [am_I s0, am_I s1] M (am_Z w) = if s1 = s0 then if x1 < x2 then some (.inl (some (am_I (nI 1))), M, (am_Z w)) else some (.inl (some (am_I (nI 0))), M, (am_Z w)) else am_cb (call 129 [am_P (30, 0, 0), am_I x1, am_I (nI 7)] M (am_Z w)) fun v M' X' => am_rn call 171 56 [some (am_P (30, 0, 0)), some (am_I x1), some (am_I x2)] (v.toList ++ []) M' X' := by
  refine Eq.trans (rl_iceq (o := 28) 74 (by decide +kernel) (by decide)) ?_
  refine am_ite (fun h_1 => ?_) (fun h_1 => ?_)
  · skip
    refine Eq.trans (rl_iloadn (j := 1) (by decide +kernel) rfl) ?_
    refine Eq.trans (rl_iloadn (j := 2) (by decide +kernel) rfl) ?_
    refine Eq.trans (rl_icge (o := 7) 83 (by decide +kernel) (by decide)) ?_
    refine am_ite (fun h_2 => ?_) (fun h_2 => ?_)
    · skip
      refine Eq.trans (rl_iconst (c := 1) (k := (nI 1)) (by decide +kernel) (by decide)) ?_
      refine Eq.trans (rl_goto (o := 4) 84 (by decide +kernel) (by decide)) ?_
      exact rl_zretk (by decide +kernel) rfl rfl
    · skip
      refine Eq.trans (rl_iconst (c := 0) (k := (nI 0)) (by decide +kernel) (by decide)) ?_
      exact rl_zretk (by decide +kernel) rfl rfl
  · skip
    refine Eq.trans (rl_aloadn (j := 0) (by decide +kernel) rfl) ?_
    refine Eq.trans (rl_iloadn (j := 1) (by decide +kernel) rfl) ?_
    refine Eq.trans (rl_bipush (c := 7) (k := (nI 7)) (by decide +kernel) (by decide)) ?_
    refine Eq.trans (rl_inv (ix := 119) (n := 2) (o := 9) 129 [am_I x1, am_I (nI 7)] [] (by decide +kernel) (by decide +kernel) (by decide +kernel) (by decide +kernel) ⟨rfl, rfl⟩ rfl rfl ck30) ?_
    rfl
theorem b171_56 {x1 x2 s0 : Int32} {M : am_M} {w : am_W4}  : am_rn call 171 56 [some (am_P (30, 0, 0)), some (am_I x1), some (am_I x2)] [am_I s0] M (am_Z w) = am_cb (call 129 [am_P (30, 0, 0), am_I x2, am_I (nI 7)] M (am_Z w)) fun v M' X' => am_rn call 171 63 [some (am_P (30, 0, 0)), some (am_I x1), some (am_I x2)] (v.toList ++ [am_I s0]) M' X' := by
  refine Eq.trans (rl_aloadn (j := 0) (by decide +kernel) rfl) ?_
  refine Eq.trans (rl_iloadn (j := 2) (by decide +kernel) rfl) ?_
  refine Eq.trans (rl_bipush (c := 7) (k := (nI 7)) (by decide +kernel) (by decide)) ?_
  refine Eq.trans (rl_inv (ix := 119) (n := 2) (o := 9) 129 [am_I x2, am_I (nI 7)] [am_I s0] (by decide +kernel) (by decide +kernel) (by decide +kernel) (by decide +kernel) ⟨rfl, rfl⟩ rfl rfl ck30) ?_
  rfl
theorem b171_63 {x1 x2 s0 s1 : Int32} {M : am_M} {w : am_W4}  : am_rn call 171 63 [some (am_P (30, 0, 0)), some (am_I x1), some (am_I x2)] [am_I s0, am_I s1] M (am_Z w) = if s1 < s0 then some (.inl (some (am_I (nI 1))), M, (am_Z w)) else some (.inl (some (am_I (nI 0))), M, (am_Z w)) := by
  refine Eq.trans (rl_icge (o := 7) 70 (by decide +kernel) (by decide)) ?_
  refine am_ite (fun h_1 => ?_) (fun h_1 => ?_)
  · skip
    refine Eq.trans (rl_iconst (c := 1) (k := (nI 1)) (by decide +kernel) (by decide)) ?_
    refine Eq.trans (rl_goto (o := 17) 84 (by decide +kernel) (by decide)) ?_
    exact rl_zretk (by decide +kernel) rfl rfl
  · skip
    refine Eq.trans (rl_iconst (c := 0) (k := (nI 0)) (by decide +kernel) (by decide)) ?_
    refine Eq.trans (rl_goto (o := 13) 84 (by decide +kernel) (by decide)) ?_
    exact rl_zretk (by decide +kernel) rfl rfl
theorem e171 {d : Nat} {x1 x2 : Int32} {M : am_M} {w : am_W4}  : am_ev (d + 1) 171 [am_P (30, 0, 0), am_I x1, am_I x2] M (am_Z w) = am_cb ((am_ev d) 149 [am_P (30, 0, 0), am_I x1] M (am_Z w)) fun v M' X' => am_rn (am_ev d) 171 5 [some (am_P (30, 0, 0)), some (am_I x1), some (am_I x2)] (v.toList ++ []) M' X' := (am_ev_eq d 171 _ M (am_Z w)).trans (b171_0)
theorem b172_0 {x1 : Int32} {M : am_M} {w : am_W4}  : am_rn call 172 0 [some (am_P (30, 0, 0)), some (am_I x1), none, none, none] [] M (am_Z w) = am_rn call 172 7 [some (am_P (30, 0, 0)), some (am_I x1), some (am_I (nI 0)), none, none] [] (am_set M (30, 0, 0) 20 (nI 0)) (am_Z w) := by
  refine Eq.trans (rl_aloadn (j := 0) (by decide +kernel) rfl) ?_
  refine Eq.trans (rl_iconst (c := 0) (k := (nI 0)) (by decide +kernel) (by decide)) ?_
  refine Eq.trans (rl_put (ix := 39) (ci := 9) (j := 20) (by decide +kernel) (by decide +kernel) (by decide +kernel) (by decide +kernel) ck30) ?_
  refine Eq.trans (rl_iconst (c := 0) (k := (nI 0)) (by decide +kernel) (by decide)) ?_
  refine Eq.trans (rl_istoren (j := 2) (ls' := [some (am_P (30, 0, 0)), some (am_I x1), some (am_I (nI 0)), none, none]) (by decide +kernel) rfl rfl) ?_
  rfl
theorem b172_7 {x1 x2 : Int32} {x3 x4 : Option am_V} {M : am_M} {w : am_W4}  : am_rn call 172 7 [some (am_P (30, 0, 0)), some (am_I x1), some (am_I x2), x3, x4] [] M (am_Z w) = if x2 < (M (31, 0, 0) 2) then am_cb (call 129 [am_P (30, 0, 0), am_I x2, am_I (nI 6)] M (am_Z w)) fun v M' X' => am_rn call 172 24 [some (am_P (30, 0, 0)), some (am_I x1), some (am_I x2), x3, x4] (v.toList ++ []) M' X' else am_cb (call 115 [am_P (30, 0, 0), am_I (nI 1)] M (am_Z w)) fun v M' X' => am_rn call 172 100 [some (am_P (30, 0, 0)), some (am_I x1), some (am_I x2), x3, x4] (v.toList ++ []) M' X' := by
  refine Eq.trans (rl_iloadn (j := 2) (by decide +kernel) rfl) ?_
  refine Eq.trans (rl_aloadn (j := 0) (by decide +kernel) rfl) ?_
  refine Eq.trans (rl_getP (ix := 9) (ci := 9) (j := 0) (by decide +kernel) (by decide +kernel) (by decide +kernel) ck30 rfl) ?_
  refine Eq.trans (rl_iconst (c := 2) (k := (nI 2)) (by decide +kernel) (by decide)) ?_
  refine Eq.trans (rl_iald' 2 (by decide +kernel) ka31 rfl rfl) ?_
  refine Eq.trans (rl_icge (o := 81) 95 (by decide +kernel) (by decide)) ?_
  refine am_ite (fun h_1 => ?_) (fun h_1 => ?_)
  · skip
    refine Eq.trans (rl_aloadn (j := 0) (by decide +kernel) rfl) ?_
    refine Eq.trans (rl_iloadn (j := 2) (by decide +kernel) rfl) ?_
    refine Eq.trans (rl_bipush (c := 6) (k := (nI 6)) (by decide +kernel) (by decide)) ?_
    refine Eq.trans (rl_inv (ix := 119) (n := 2) (o := 9) 129 [am_I x2, am_I (nI 6)] [] (by decide +kernel) (by decide +kernel) (by decide +kernel) (by decide +kernel) ⟨rfl, rfl⟩ rfl rfl ck30) ?_
    rfl
  · skip
    refine Eq.trans (rl_aloadn (j := 0) (by decide +kernel) rfl) ?_
    refine Eq.trans (rl_iconst (c := 1) (k := (nI 1)) (by decide +kernel) (by decide)) ?_
    refine Eq.trans (rl_inv (ix := 64) (n := 1) (o := 9) 115 [am_I (nI 1)] [] (by decide +kernel) (by decide +kernel) (by decide +kernel) (by decide +kernel) ⟨rfl, rfl⟩ rfl rfl ck30) ?_
    rfl
theorem b172_24 {x1 x2 s0 : Int32} {x3 x4 : Option am_V} {M : am_M} {w : am_W4}  : am_rn call 172 24 [some (am_P (30, 0, 0)), some (am_I x1), some (am_I x2), x3, x4] [am_I s0] M (am_Z w) = if s0 = 0 then am_rn call 172 35 [some (am_P (30, 0, 0)), some (am_I x1), some (am_I x2), some (am_I (nI 0)), some (am_I (nI 0))] [] M (am_Z w) else am_rn call 172 89 [some (am_P (30, 0, 0)), some (am_I x1), some (am_I x2), x3, x4] [] M (am_Z w) := by
  refine Eq.trans (rl_ifeq (o := 6) 30 (by decide +kernel) (by decide)) ?_
  refine am_ite (fun h_1 => ?_) (fun h_1 => ?_)
  · skip
    refine Eq.trans (rl_iconst (c := 0) (k := (nI 0)) (by decide +kernel) (by decide)) ?_
    refine Eq.trans (rl_istoren (j := 3) (ls' := [some (am_P (30, 0, 0)), some (am_I x1), some (am_I x2), some (am_I (nI 0)), x4]) (by decide +kernel) rfl rfl) ?_
    refine Eq.trans (rl_iconst (c := 0) (k := (nI 0)) (by decide +kernel) (by decide)) ?_
    refine Eq.trans (rl_istore (j := 4) (ls' := [some (am_P (30, 0, 0)), some (am_I x1), some (am_I x2), some (am_I (nI 0)), some (am_I (nI 0))]) (by decide +kernel) rfl rfl) ?_
    rfl
  · skip
    refine Eq.trans (rl_goto (o := 62) 89 (by decide +kernel) (by decide)) ?_
    rfl
theorem b172_35 {x1 x2 x3 x4 : Int32} {M : am_M} {w : am_W4}  : am_rn call 172 35 [some (am_P (30, 0, 0)), some (am_I x1), some (am_I x2), some (am_I x3), some (am_I x4)] [] M (am_Z w) = if x4 < (M (31, 0, 0) 2) then if x4 = x2 then am_rn call 172 76 [some (am_P (30, 0, 0)), some (am_I x1), some (am_I x2), some (am_I x3), some (am_I x4)] [] M (am_Z w) else am_cb (call 129 [am_P (30, 0, 0), am_I x4, am_I (nI 6)] M (am_Z w)) fun v M' X' => am_rn call 172 60 [some (am_P (30, 0, 0)), some (am_I x1), some (am_I x2), some (am_I x3), some (am_I x4)] (v.toList ++ []) M' X' else if x3 = x1 then some (.inl (some (am_I x2)), M, (am_Z w)) else am_rn call 172 89 [some (am_P (30, 0, 0)), some (am_I x1), some (am_I x2), some (am_I x3), some (am_I x4)] [] M (am_Z w) := by
  refine Eq.trans (rl_iload (j := 4) (by decide +kernel) rfl) ?_
  refine Eq.trans (rl_aloadn (j := 0) (by decide +kernel) rfl) ?_
  refine Eq.trans (rl_getP (ix := 9) (ci := 9) (j := 0) (by decide +kernel) (by decide +kernel) (by decide +kernel) ck30 rfl) ?_
  refine Eq.trans (rl_iconst (c := 2) (k := (nI 2)) (by decide +kernel) (by decide)) ?_
  refine Eq.trans (rl_iald' 2 (by decide +kernel) ka31 rfl rfl) ?_
  refine Eq.trans (rl_icge (o := 39) 82 (by decide +kernel) (by decide)) ?_
  refine am_ite (fun h_1 => ?_) (fun h_1 => ?_)
  · skip
    refine Eq.trans (rl_iload (j := 4) (by decide +kernel) rfl) ?_
    refine Eq.trans (rl_iloadn (j := 2) (by decide +kernel) rfl) ?_
    refine Eq.trans (rl_iceq (o := 27) 76 (by decide +kernel) (by decide)) ?_
    refine am_ite (fun h_2 => ?_) (fun h_2 => ?_)
    · skip
      rfl
    · skip
      refine Eq.trans (rl_aloadn (j := 0) (by decide +kernel) rfl) ?_
      refine Eq.trans (rl_iload (j := 4) (by decide +kernel) rfl) ?_
      refine Eq.trans (rl_bipush (c := 6) (k := (nI 6)) (by decide +kernel) (by decide)) ?_
      refine Eq.trans (rl_inv (ix := 119) (n := 2) (o := 9) 129 [am_I x4, am_I (nI 6)] [] (by decide +kernel) (by decide +kernel) (by decide +kernel) (by decide +kernel) ⟨rfl, rfl⟩ rfl rfl ck30) ?_
      rfl
  · skip
    refine Eq.trans (rl_iloadn (j := 3) (by decide +kernel) rfl) ?_
    refine Eq.trans (rl_iloadn (j := 1) (by decide +kernel) rfl) ?_
    refine Eq.trans (rl_icne (o := 5) 89 (by decide +kernel) (by decide)) ?_
    refine am_ite (fun h_3 => ?_) (fun h_3 => ?_)
    · skip
      refine Eq.trans (rl_iloadn (j := 2) (by decide +kernel) rfl) ?_
      exact rl_iret (by decide +kernel) rfl
    · skip
      rfl
theorem b172_60 {x1 x2 x3 x4 s0 : Int32} {M : am_M} {w : am_W4}  : am_rn call 172 60 [some (am_P (30, 0, 0)), some (am_I x1), some (am_I x2), some (am_I x3), some (am_I x4)] [am_I s0] M (am_Z w) = if s0 = 0 then am_cb (call 171 [am_P (30, 0, 0), am_I x4, am_I x2] M (am_Z w)) fun v M' X' => am_rn call 172 70 [some (am_P (30, 0, 0)), some (am_I x1), some (am_I x2), some (am_I x3), some (am_I x4)] (v.toList ++ []) M' X' else am_rn call 172 76 [some (am_P (30, 0, 0)), some (am_I x1), some (am_I x2), some (am_I x3), some (am_I x4)] [] M (am_Z w) := by
  refine Eq.trans (rl_ifne (o := 16) 76 (by decide +kernel) (by decide)) ?_
  refine am_ite (fun h_1 => ?_) (fun h_1 => ?_)
  · skip
    refine Eq.trans (rl_aloadn (j := 0) (by decide +kernel) rfl) ?_
    refine Eq.trans (rl_iload (j := 4) (by decide +kernel) rfl) ?_
    refine Eq.trans (rl_iloadn (j := 2) (by decide +kernel) rfl) ?_
    refine Eq.trans (rl_inv (ix := 174) (n := 2) (o := 9) 171 [am_I x4, am_I x2] [] (by decide +kernel) (by decide +kernel) (by decide +kernel) (by decide +kernel) ⟨rfl, rfl⟩ rfl rfl ck30) ?_
    rfl
  · skip
    rfl
theorem b172_70 {x1 x2 x3 x4 s0 : Int32} {M : am_M} {w : am_W4}  : am_rn call 172 70 [some (am_P (30, 0, 0)), some (am_I x1), some (am_I x2), some (am_I x3), some (am_I x4)] [am_I s0] M (am_Z w) = if s0 = 0 then am_rn call 172 76 [some (am_P (30, 0, 0)), some (am_I x1), some (am_I x2), some (am_I x3), some (am_I x4)] [] M (am_Z w) else am_rn call 172 76 [some (am_P (30, 0, 0)), some (am_I x1), some (am_I x2), some (am_I (x3 + (nI 1))), some (am_I x4)] [] M (am_Z w) := by
  refine Eq.trans (rl_ifeq (o := 6) 76 (by decide +kernel) (by decide)) ?_
  refine am_ite (fun h_1 => ?_) (fun h_1 => ?_)
  · skip
    rfl
  · skip
    refine Eq.trans (rl_iinc (j := 3) (c := 1) (k := (nI 1)) (ls' := [some (am_P (30, 0, 0)), some (am_I x1), some (am_I x2), some (am_I (x3 + (nI 1))), some (am_I x4)]) (by decide +kernel) (by decide) rfl rfl) ?_
    rfl
theorem b172_76 {x1 x2 x3 x4 : Int32} {M : am_M} {w : am_W4}  : am_rn call 172 76 [some (am_P (30, 0, 0)), some (am_I x1), some (am_I x2), some (am_I x3), some (am_I x4)] [] M (am_Z w) = am_rn call 172 35 [some (am_P (30, 0, 0)), some (am_I x1), some (am_I x2), some (am_I x3), some (am_I (x4 + (nI 1)))] [] M (am_Z w) := by
  refine Eq.trans (rl_iinc (j := 4) (c := 1) (k := (nI 1)) (ls' := [some (am_P (30, 0, 0)), some (am_I x1), some (am_I x2), some (am_I x3), some (am_I (x4 + (nI 1)))]) (by decide +kernel) (by decide) rfl rfl) ?_
  refine Eq.trans (rl_goto (o := (-44)) 35 (by decide +kernel) (by decide)) ?_
  rfl
theorem b172_89 {x1 x2 : Int32} {x3 x4 : Option am_V} {M : am_M} {w : am_W4}  : am_rn call 172 89 [some (am_P (30, 0, 0)), some (am_I x1), some (am_I x2), x3, x4] [] M (am_Z w) = am_rn call 172 7 [some (am_P (30, 0, 0)), some (am_I x1), some (am_I (x2 + (nI 1))), x3, x4] [] M (am_Z w) := by
  refine Eq.trans (rl_iinc (j := 2) (c := 1) (k := (nI 1)) (ls' := [some (am_P (30, 0, 0)), some (am_I x1), some (am_I (x2 + (nI 1))), x3, x4]) (by decide +kernel) (by decide) rfl rfl) ?_
  refine Eq.trans (rl_goto (o := (-85)) 7 (by decide +kernel) (by decide)) ?_
  rfl
theorem b172_100 {x1 x2 s0 : Int32} {x3 x4 : Option am_V} {M : am_M} {w : am_W4}  : am_rn call 172 100 [some (am_P (30, 0, 0)), some (am_I x1), some (am_I x2), x3, x4] [am_I s0] M (am_Z w) = some (.inl (some (am_I s0)), M, (am_Z w)) := by
  exact rl_iret (by decide +kernel) rfl
theorem e172 {d : Nat} {x1 : Int32} {M : am_M} {w : am_W4}  : am_ev (d + 1) 172 [am_P (30, 0, 0), am_I x1] M (am_Z w) = am_rn (am_ev d) 172 7 [some (am_P (30, 0, 0)), some (am_I x1), some (am_I (nI 0)), none, none] [] (am_set M (30, 0, 0) 20 (nI 0)) (am_Z w) := (am_ev_eq d 172 _ M (am_Z w)).trans (b172_0)
theorem b173_0  {M : am_M} {w : am_W4}  : am_rn call 173 0 [some (am_P (30, 0, 0)), none, none] [] M (am_Z w) = am_rn call 173 9 [some (am_P (30, 0, 0)), some (am_I (nI 0)), some (am_I (nI 0))] [] (am_set M (30, 0, 0) 20 (nI 0)) (am_Z w) := by
  refine Eq.trans (rl_aloadn (j := 0) (by decide +kernel) rfl) ?_
  refine Eq.trans (rl_iconst (c := 0) (k := (nI 0)) (by decide +kernel) (by decide)) ?_
  refine Eq.trans (rl_put (ix := 39) (ci := 9) (j := 20) (by decide +kernel) (by decide +kernel) (by decide +kernel) (by decide +kernel) ck30) ?_
  refine Eq.trans (rl_iconst (c := 0) (k := (nI 0)) (by decide +kernel) (by decide)) ?_
  refine Eq.trans (rl_istoren (j := 1) (ls' := [some (am_P (30, 0, 0)), some (am_I (nI 0)), none]) (by decide +kernel) rfl rfl) ?_
  refine Eq.trans (rl_iconst (c := 0) (k := (nI 0)) (by decide +kernel) (by decide)) ?_
  refine Eq.trans (rl_istoren (j := 2) (ls' := [some (am_P (30, 0, 0)), some (am_I (nI 0)), some (am_I (nI 0))]) (by decide +kernel) rfl rfl) ?_
  rfl
theorem b173_9 {x1 x2 : Int32} {M : am_M} {w : am_W4}  : am_rn call 173 9 [some (am_P (30, 0, 0)), some (am_I x1), some (am_I x2)] [] M (am_Z w) = if x2 < (M (31, 0, 0) 1) then am_cb (call 128 [am_P (30, 0, 0), am_I x2, am_I (nI 5)] M (am_Z w)) fun v M' X' => am_rn call 173 26 [some (am_P (30, 0, 0)), some (am_I x1), some (am_I x2)] (v.toList ++ [am_I x1]) M' X' else some (.inl (some (am_I x1)), M, (am_Z w)) := by
  refine Eq.trans (rl_iloadn (j := 2) (by decide +kernel) rfl) ?_
  refine Eq.trans (rl_aloadn (j := 0) (by decide +kernel) rfl) ?_
  refine Eq.trans (rl_getP (ix := 9) (ci := 9) (j := 0) (by decide +kernel) (by decide +kernel) (by decide +kernel) ck30 rfl) ?_
  refine Eq.trans (rl_iconst (c := 1) (k := (nI 1)) (by decide +kernel) (by decide)) ?_
  refine Eq.trans (rl_iald' 1 (by decide +kernel) ka31 rfl rfl) ?_
  refine Eq.trans (rl_icge (o := 18) 34 (by decide +kernel) (by decide)) ?_
  refine am_ite (fun h_1 => ?_) (fun h_1 => ?_)
  · skip
    refine Eq.trans (rl_iloadn (j := 1) (by decide +kernel) rfl) ?_
    refine Eq.trans (rl_aloadn (j := 0) (by decide +kernel) rfl) ?_
    refine Eq.trans (rl_iloadn (j := 2) (by decide +kernel) rfl) ?_
    refine Eq.trans (rl_iconst (c := 5) (k := (nI 5)) (by decide +kernel) (by decide)) ?_
    refine Eq.trans (rl_inv (ix := 101) (n := 2) (o := 9) 128 [am_I x2, am_I (nI 5)] [am_I x1] (by decide +kernel) (by decide +kernel) (by decide +kernel) (by decide +kernel) ⟨rfl, rfl⟩ rfl rfl ck30) ?_
    rfl
  · skip
    refine Eq.trans (rl_iloadn (j := 1) (by decide +kernel) rfl) ?_
    exact rl_iret (by decide +kernel) rfl
theorem b173_26 {x1 x2 s0 s1 : Int32} {M : am_M} {w : am_W4}  : am_rn call 173 26 [some (am_P (30, 0, 0)), some (am_I x1), some (am_I x2)] [am_I s0, am_I s1] M (am_Z w) = am_rn call 173 9 [some (am_P (30, 0, 0)), some (am_I (s1 + s0)), some (am_I (x2 + (nI 1)))] [] M (am_Z w) := by
  refine Eq.trans (rl_iadd (by decide +kernel)) ?_
  refine Eq.trans (rl_istoren (j := 1) (ls' := [some (am_P (30, 0, 0)), some (am_I (s1 + s0)), some (am_I x2)]) (by decide +kernel) rfl rfl) ?_
  refine Eq.trans (rl_iinc (j := 2) (c := 1) (k := (nI 1)) (ls' := [some (am_P (30, 0, 0)), some (am_I (s1 + s0)), some (am_I (x2 + (nI 1)))]) (by decide +kernel) (by decide) rfl rfl) ?_
  refine Eq.trans (rl_goto (o := (-22)) 9 (by decide +kernel) (by decide)) ?_
  rfl
theorem e173 {d : Nat}  {M : am_M} {w : am_W4}  : am_ev (d + 1) 173 [am_P (30, 0, 0)] M (am_Z w) = am_rn (am_ev d) 173 9 [some (am_P (30, 0, 0)), some (am_I (nI 0)), some (am_I (nI 0))] [] (am_set M (30, 0, 0) 20 (nI 0)) (am_Z w) := (am_ev_eq d 173 _ M (am_Z w)).trans (b173_0)
theorem b174_0  {M : am_M} {w : am_W4}  : am_rn call 174 0 [some (am_P (30, 0, 0)), none, none] [] M (am_Z w) = am_rn call 174 4 [some (am_P (30, 0, 0)), some (am_I (nI 0)), some (am_I (nI 0))] [] M (am_Z w) := by
  refine Eq.trans (rl_iconst (c := 0) (k := (nI 0)) (by decide +kernel) (by decide)) ?_
  refine Eq.trans (rl_istoren (j := 1) (ls' := [some (am_P (30, 0, 0)), some (am_I (nI 0)), none]) (by decide +kernel) rfl rfl) ?_
  refine Eq.trans (rl_iconst (c := 0) (k := (nI 0)) (by decide +kernel) (by decide)) ?_
  refine Eq.trans (rl_istoren (j := 2) (ls' := [some (am_P (30, 0, 0)), some (am_I (nI 0)), some (am_I (nI 0))]) (by decide +kernel) rfl rfl) ?_
  rfl
theorem b174_4 {x1 x2 : Int32} {M : am_M} {w : am_W4}  : am_rn call 174 4 [some (am_P (30, 0, 0)), some (am_I x1), some (am_I x2)] [] M (am_Z w) = if x2 < (M (31, 0, 0) 2) then am_cb (call 149 [am_P (30, 0, 0), am_I x2] M (am_Z w)) fun v M' X' => am_rn call 174 20 [some (am_P (30, 0, 0)), some (am_I x1), some (am_I x2)] (v.toList ++ [am_I x1]) M' X' else some (.inl (some (am_I x1)), M, (am_Z w)) := by
  refine Eq.trans (rl_iloadn (j := 2) (by decide +kernel) rfl) ?_
  refine Eq.trans (rl_aloadn (j := 0) (by decide +kernel) rfl) ?_
  refine Eq.trans (rl_getP (ix := 9) (ci := 9) (j := 0) (by decide +kernel) (by decide +kernel) (by decide +kernel) ck30 rfl) ?_
  refine Eq.trans (rl_iconst (c := 2) (k := (nI 2)) (by decide +kernel) (by decide)) ?_
  refine Eq.trans (rl_iald' 2 (by decide +kernel) ka31 rfl rfl) ?_
  refine Eq.trans (rl_icge (o := 17) 28 (by decide +kernel) (by decide)) ?_
  refine am_ite (fun h_1 => ?_) (fun h_1 => ?_)
  · skip
    refine Eq.trans (rl_iloadn (j := 1) (by decide +kernel) rfl) ?_
    refine Eq.trans (rl_aloadn (j := 0) (by decide +kernel) rfl) ?_
    refine Eq.trans (rl_iloadn (j := 2) (by decide +kernel) rfl) ?_
    refine Eq.trans (rl_inv (ix := 162) (n := 1) (o := 9) 149 [am_I x2] [am_I x1] (by decide +kernel) (by decide +kernel) (by decide +kernel) (by decide +kernel) ⟨rfl, rfl⟩ rfl rfl ck30) ?_
    rfl
  · skip
    refine Eq.trans (rl_iloadn (j := 1) (by decide +kernel) rfl) ?_
    exact rl_iret (by decide +kernel) rfl
theorem b174_20 {x1 x2 s0 s1 : Int32} {M : am_M} {w : am_W4}  : am_rn call 174 20 [some (am_P (30, 0, 0)), some (am_I x1), some (am_I x2)] [am_I s0, am_I s1] M (am_Z w) = am_rn call 174 4 [some (am_P (30, 0, 0)), some (am_I (s1 + s0)), some (am_I (x2 + (nI 1)))] [] M (am_Z w) := by
  refine Eq.trans (rl_iadd (by decide +kernel)) ?_
  refine Eq.trans (rl_istoren (j := 1) (ls' := [some (am_P (30, 0, 0)), some (am_I (s1 + s0)), some (am_I x2)]) (by decide +kernel) rfl rfl) ?_
  refine Eq.trans (rl_iinc (j := 2) (c := 1) (k := (nI 1)) (ls' := [some (am_P (30, 0, 0)), some (am_I (s1 + s0)), some (am_I (x2 + (nI 1)))]) (by decide +kernel) (by decide) rfl rfl) ?_
  refine Eq.trans (rl_goto (o := (-21)) 4 (by decide +kernel) (by decide)) ?_
  rfl
theorem e174 {d : Nat}  {M : am_M} {w : am_W4}  : am_ev (d + 1) 174 [am_P (30, 0, 0)] M (am_Z w) = am_rn (am_ev d) 174 4 [some (am_P (30, 0, 0)), some (am_I (nI 0)), some (am_I (nI 0))] [] M (am_Z w) := (am_ev_eq d 174 _ M (am_Z w)).trans (b174_0)
theorem b175_0  {M : am_M} {w : am_W4}  : am_rn call 175 0 [some (am_P (30, 0, 0))] [] M (am_Z w) = am_cb (call 174 [am_P (30, 0, 0)] (am_set M (30, 0, 0) 20 (nI 0)) (am_Z w)) fun v M' X' => am_rn call 175 9 [some (am_P (30, 0, 0))] (v.toList ++ []) M' X' := by
  refine Eq.trans (rl_aloadn (j := 0) (by decide +kernel) rfl) ?_
  refine Eq.trans (rl_iconst (c := 0) (k := (nI 0)) (by decide +kernel) (by decide)) ?_
  refine Eq.trans (rl_put (ix := 39) (ci := 9) (j := 20) (by decide +kernel) (by decide +kernel) (by decide +kernel) (by decide +kernel) ck30) ?_
  refine Eq.trans (rl_aloadn (j := 0) (by decide +kernel) rfl) ?_
  refine Eq.trans (rl_inv (ix := 177) (n := 0) (o := 9) 174 [] [] (by decide +kernel) (by decide +kernel) (by decide +kernel) (by decide +kernel) ⟨rfl, rfl⟩ rfl rfl ck30) ?_
  rfl
theorem b175_9 {s0 : Int32} {M : am_M} {w : am_W4}  : am_rn call 175 9 [some (am_P (30, 0, 0))] [am_I s0] M (am_Z w) = some (.inl (some (am_I s0)), M, (am_Z w)) := by
  exact rl_iret (by decide +kernel) rfl
theorem e175 {d : Nat}  {M : am_M} {w : am_W4}  : am_ev (d + 1) 175 [am_P (30, 0, 0)] M (am_Z w) = am_cb ((am_ev d) 174 [am_P (30, 0, 0)] (am_set M (30, 0, 0) 20 (nI 0)) (am_Z w)) fun v M' X' => am_rn (am_ev d) 175 9 [some (am_P (30, 0, 0))] (v.toList ++ []) M' X' := (am_ev_eq d 175 _ M (am_Z w)).trans (b175_0)
end AmBl
