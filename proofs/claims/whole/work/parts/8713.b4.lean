section AmBl
variable {call : Nat → List am_V → am_M → am_X → Option am_R}
theorem b114_0  {M : am_M} {w : am_W4}  : am_rn call 114 0 [some (am_P (30, 0, 0))] [] M (am_Z w) = some (.inl (some (am_I (M (30, 0, 0) 20))), M, (am_Z w)) := by
  refine Eq.trans (rl_aloadn (j := 0) (by decide +kernel) rfl) ?_
  refine Eq.trans (rl_get (ix := 39) (ci := 9) (j := 20) (by decide +kernel) (by decide +kernel) (by decide +kernel) ck30) ?_
  exact rl_iret (by decide +kernel) rfl
theorem e114 {d : Nat}  {M : am_M} {w : am_W4}  : am_ev (d + 1) 114 [am_P (30, 0, 0)] M (am_Z w) = some (.inl (some (am_I (M (30, 0, 0) 20))), M, (am_Z w)) := (am_ev_eq d 114 _ M (am_Z w)).trans (b114_0)
theorem b115_0 {x1 : Int32} {M : am_M} {w : am_W4}  : am_rn call 115 0 [some (am_P (30, 0, 0)), some (am_I x1)] [] M (am_Z w) = some (.inl (some (am_I (nI 0))), (am_set M (30, 0, 0) 20 x1), (am_Z w)) := by
  refine Eq.trans (rl_aloadn (j := 0) (by decide +kernel) rfl) ?_
  refine Eq.trans (rl_iloadn (j := 1) (by decide +kernel) rfl) ?_
  refine Eq.trans (rl_put (ix := 39) (ci := 9) (j := 20) (by decide +kernel) (by decide +kernel) (by decide +kernel) (by decide +kernel) ck30) ?_
  refine Eq.trans (rl_iconst (c := 0) (k := (nI 0)) (by decide +kernel) (by decide)) ?_
  exact rl_iret (by decide +kernel) rfl
theorem e115 {d : Nat} {x1 : Int32} {M : am_M} {w : am_W4}  : am_ev (d + 1) 115 [am_P (30, 0, 0), am_I x1] M (am_Z w) = some (.inl (some (am_I (nI 0))), (am_set M (30, 0, 0) 20 x1), (am_Z w)) := (am_ev_eq d 115 _ M (am_Z w)).trans (b115_0)
theorem b116_0 {x0 x1 x2 : Int32} {M : am_M} {w : am_W4}  : am_rn call 116 0 [some (am_I x0), some (am_I x1), some (am_I x2)] [] M (am_Z w) = if x0 < x1 then some (.inl (some (am_I (nI 0))), M, (am_Z w)) else if x2 < x0 then some (.inl (some (am_I (nI 0))), M, (am_Z w)) else some (.inl (some (am_I (nI 1))), M, (am_Z w)) := by
  refine Eq.trans (rl_iloadn (j := 0) (by decide +kernel) rfl) ?_
  refine Eq.trans (rl_iloadn (j := 1) (by decide +kernel) rfl) ?_
  refine Eq.trans (rl_iclt (o := 12) 14 (by decide +kernel) (by decide)) ?_
  refine am_ite (fun h_1 => ?_) (fun h_1 => ?_)
  · skip
    refine Eq.trans (rl_iconst (c := 0) (k := (nI 0)) (by decide +kernel) (by decide)) ?_
    exact rl_zretk (by decide +kernel) rfl rfl
  · skip
    refine Eq.trans (rl_iloadn (j := 0) (by decide +kernel) rfl) ?_
    refine Eq.trans (rl_iloadn (j := 2) (by decide +kernel) rfl) ?_
    refine Eq.trans (rl_icgt (o := 7) 14 (by decide +kernel) (by decide)) ?_
    refine am_ite (fun h_2 => ?_) (fun h_2 => ?_)
    · skip
      refine Eq.trans (rl_iconst (c := 0) (k := (nI 0)) (by decide +kernel) (by decide)) ?_
      exact rl_zretk (by decide +kernel) rfl rfl
    · skip
      refine Eq.trans (rl_iconst (c := 1) (k := (nI 1)) (by decide +kernel) (by decide)) ?_
      refine Eq.trans (rl_goto (o := 4) 15 (by decide +kernel) (by decide)) ?_
      exact rl_zretk (by decide +kernel) rfl rfl
theorem e116 {d : Nat} {x0 x1 x2 : Int32} {M : am_M} {w : am_W4}  : am_ev (d + 1) 116 [am_I x0, am_I x1, am_I x2] M (am_Z w) = if x0 < x1 then some (.inl (some (am_I (nI 0))), M, (am_Z w)) else if x2 < x0 then some (.inl (some (am_I (nI 0))), M, (am_Z w)) else some (.inl (some (am_I (nI 1))), M, (am_Z w)) := (am_ev_eq d 116 _ M (am_Z w)).trans (b116_0)
theorem b117_0  {M : am_M} {w : am_W4}  : am_rn call 117 0 [some (am_P (30, 0, 0)), none] [] M (am_Z w) = am_rn call 117 12 [some (am_P (30, 0, 0)), some (am_I (nI 0))] [] (am_set (am_set M (30, 0, 0) 20 (nI 0)) (30, 0, 0) 15 (nI 0)) (am_Z w) := by
  refine Eq.trans (rl_aloadn (j := 0) (by decide +kernel) rfl) ?_
  refine Eq.trans (rl_iconst (c := 0) (k := (nI 0)) (by decide +kernel) (by decide)) ?_
  refine Eq.trans (rl_put (ix := 39) (ci := 9) (j := 20) (by decide +kernel) (by decide +kernel) (by decide +kernel) (by decide +kernel) ck30) ?_
  refine Eq.trans (rl_aloadn (j := 0) (by decide +kernel) rfl) ?_
  refine Eq.trans (rl_iconst (c := 0) (k := (nI 0)) (by decide +kernel) (by decide)) ?_
  refine Eq.trans (rl_put (ix := 42) (ci := 9) (j := 15) (by decide +kernel) (by decide +kernel) (by decide +kernel) (by decide +kernel) ck30) ?_
  refine Eq.trans (rl_iconst (c := 0) (k := (nI 0)) (by decide +kernel) (by decide)) ?_
  refine Eq.trans (rl_istoren (j := 1) (ls' := [some (am_P (30, 0, 0)), some (am_I (nI 0))]) (by decide +kernel) rfl rfl) ?_
  rfl
theorem b117_12 {x1 : Int32} {M : am_M} {w : am_W4}  : am_rn call 117 12 [some (am_P (30, 0, 0)), some (am_I x1)] [] M (am_Z w) = if x1 < (nI 364) then if am_in x1 364 then if am_in x1 364 then am_rn call 117 12 [some (am_P (30, 0, 0)), some (am_I (x1 + (nI 1)))] [] (am_set M (32, 0, 0) x1.toNatClampNeg (M (31, 0, 0) x1.toNatClampNeg)) (am_Z w) else none else none else some (.inl none, M, (am_Z w)) := by
  refine Eq.trans (rl_iloadn (j := 1) (by decide +kernel) rfl) ?_
  refine Eq.trans (rl_sipush (c := 364) (k := (nI 364)) (by decide +kernel) (by decide)) ?_
  refine Eq.trans (rl_icge (o := 21) 37 (by decide +kernel) (by decide)) ?_
  refine am_ite (fun h_1 => ?_) (fun h_1 => ?_)
  · skip
    refine Eq.trans (rl_aloadn (j := 0) (by decide +kernel) rfl) ?_
    refine Eq.trans (rl_getP (ix := 13) (ci := 9) (j := 1) (by decide +kernel) (by decide +kernel) (by decide +kernel) ck30 rfl) ?_
    refine Eq.trans (rl_iloadn (j := 1) (by decide +kernel) rfl) ?_
    refine Eq.trans (rl_aloadn (j := 0) (by decide +kernel) rfl) ?_
    refine Eq.trans (rl_getP (ix := 9) (ci := 9) (j := 0) (by decide +kernel) (by decide +kernel) (by decide +kernel) ck30 rfl) ?_
    refine Eq.trans (rl_iloadn (j := 1) (by decide +kernel) rfl) ?_
    refine Eq.trans (rl_iald (by decide +kernel) ka31) ?_
    refine am_ite (fun h_2 => ?_) (fun _ => rfl)
    refine Eq.trans (rl_iast (by decide +kernel) ka32) ?_
    refine am_ite (fun h_3 => ?_) (fun _ => rfl)
    refine Eq.trans (rl_iinc (j := 1) (c := 1) (k := (nI 1)) (ls' := [some (am_P (30, 0, 0)), some (am_I (x1 + (nI 1)))]) (by decide +kernel) (by decide) rfl rfl) ?_
    refine Eq.trans (rl_goto (o := (-22)) 12 (by decide +kernel) (by decide)) ?_
    rfl
  · skip
    exact rl_ret (by decide +kernel) rfl
theorem e117 {d : Nat}  {M : am_M} {w : am_W4}  : am_ev (d + 1) 117 [am_P (30, 0, 0)] M (am_Z w) = am_rn (am_ev d) 117 12 [some (am_P (30, 0, 0)), some (am_I (nI 0))] [] (am_set (am_set M (30, 0, 0) 20 (nI 0)) (30, 0, 0) 15 (nI 0)) (am_Z w) := (am_ev_eq d 117 _ M (am_Z w)).trans (b117_0)
theorem b118_0  {M : am_M} {w : am_W4}  : am_rn call 118 0 [some (am_P (30, 0, 0)), none] [] M (am_Z w) = am_rn call 118 2 [some (am_P (30, 0, 0)), some (am_I (nI 0))] [] M (am_Z w) := by
  refine Eq.trans (rl_iconst (c := 0) (k := (nI 0)) (by decide +kernel) (by decide)) ?_
  refine Eq.trans (rl_istoren (j := 1) (ls' := [some (am_P (30, 0, 0)), some (am_I (nI 0))]) (by decide +kernel) rfl rfl) ?_
  rfl
theorem b118_2 {x1 : Int32} {M : am_M} {w : am_W4}  : am_rn call 118 2 [some (am_P (30, 0, 0)), some (am_I x1)] [] M (am_Z w) = if x1 < (nI 364) then if am_in x1 364 then if am_in x1 364 then am_rn call 118 2 [some (am_P (30, 0, 0)), some (am_I (x1 + (nI 1)))] [] (am_set M (31, 0, 0) x1.toNatClampNeg (M (32, 0, 0) x1.toNatClampNeg)) (am_Z w) else none else none else some (.inl none, M, (am_Z w)) := by
  refine Eq.trans (rl_iloadn (j := 1) (by decide +kernel) rfl) ?_
  refine Eq.trans (rl_sipush (c := 364) (k := (nI 364)) (by decide +kernel) (by decide)) ?_
  refine Eq.trans (rl_icge (o := 21) 27 (by decide +kernel) (by decide)) ?_
  refine am_ite (fun h_1 => ?_) (fun h_1 => ?_)
  · skip
    refine Eq.trans (rl_aloadn (j := 0) (by decide +kernel) rfl) ?_
    refine Eq.trans (rl_getP (ix := 9) (ci := 9) (j := 0) (by decide +kernel) (by decide +kernel) (by decide +kernel) ck30 rfl) ?_
    refine Eq.trans (rl_iloadn (j := 1) (by decide +kernel) rfl) ?_
    refine Eq.trans (rl_aloadn (j := 0) (by decide +kernel) rfl) ?_
    refine Eq.trans (rl_getP (ix := 13) (ci := 9) (j := 1) (by decide +kernel) (by decide +kernel) (by decide +kernel) ck30 rfl) ?_
    refine Eq.trans (rl_iloadn (j := 1) (by decide +kernel) rfl) ?_
    refine Eq.trans (rl_iald (by decide +kernel) ka32) ?_
    refine am_ite (fun h_2 => ?_) (fun _ => rfl)
    refine Eq.trans (rl_iast (by decide +kernel) ka31) ?_
    refine am_ite (fun h_3 => ?_) (fun _ => rfl)
    refine Eq.trans (rl_iinc (j := 1) (c := 1) (k := (nI 1)) (ls' := [some (am_P (30, 0, 0)), some (am_I (x1 + (nI 1)))]) (by decide +kernel) (by decide) rfl rfl) ?_
    refine Eq.trans (rl_goto (o := (-22)) 2 (by decide +kernel) (by decide)) ?_
    rfl
  · skip
    exact rl_ret (by decide +kernel) rfl
theorem e118 {d : Nat}  {M : am_M} {w : am_W4}  : am_ev (d + 1) 118 [am_P (30, 0, 0)] M (am_Z w) = am_rn (am_ev d) 118 2 [some (am_P (30, 0, 0)), some (am_I (nI 0))] [] M (am_Z w) := (am_ev_eq d 118 _ M (am_Z w)).trans (b118_0)
theorem b119_0  {M : am_M} {w : am_W4}  : am_rn call 119 0 [some (am_P (30, 0, 0)), none] [] M (am_Z w) = am_rn call 119 2 [some (am_P (30, 0, 0)), some (am_I (nI 0))] [] M (am_Z w) := by
  refine Eq.trans (rl_iconst (c := 0) (k := (nI 0)) (by decide +kernel) (by decide)) ?_
  refine Eq.trans (rl_istoren (j := 1) (ls' := [some (am_P (30, 0, 0)), some (am_I (nI 0))]) (by decide +kernel) rfl rfl) ?_
  rfl
theorem b119_2 {x1 : Int32} {M : am_M} {w : am_W4}  : am_rn call 119 2 [some (am_P (30, 0, 0)), some (am_I x1)] [] M (am_Z w) = if x1 < (nI 364) then if am_in x1 364 then if am_in x1 364 then am_rn call 119 2 [some (am_P (30, 0, 0)), some (am_I (x1 + (nI 1)))] [] (am_set M (33, 0, 0) x1.toNatClampNeg (M (31, 0, 0) x1.toNatClampNeg)) (am_Z w) else none else none else some (.inl none, M, (am_Z w)) := by
  refine Eq.trans (rl_iloadn (j := 1) (by decide +kernel) rfl) ?_
  refine Eq.trans (rl_sipush (c := 364) (k := (nI 364)) (by decide +kernel) (by decide)) ?_
  refine Eq.trans (rl_icge (o := 21) 27 (by decide +kernel) (by decide)) ?_
  refine am_ite (fun h_1 => ?_) (fun h_1 => ?_)
  · skip
    refine Eq.trans (rl_aloadn (j := 0) (by decide +kernel) rfl) ?_
    refine Eq.trans (rl_getP (ix := 16) (ci := 9) (j := 2) (by decide +kernel) (by decide +kernel) (by decide +kernel) ck30 rfl) ?_
    refine Eq.trans (rl_iloadn (j := 1) (by decide +kernel) rfl) ?_
    refine Eq.trans (rl_aloadn (j := 0) (by decide +kernel) rfl) ?_
    refine Eq.trans (rl_getP (ix := 9) (ci := 9) (j := 0) (by decide +kernel) (by decide +kernel) (by decide +kernel) ck30 rfl) ?_
    refine Eq.trans (rl_iloadn (j := 1) (by decide +kernel) rfl) ?_
    refine Eq.trans (rl_iald (by decide +kernel) ka31) ?_
    refine am_ite (fun h_2 => ?_) (fun _ => rfl)
    refine Eq.trans (rl_iast (by decide +kernel) ka33) ?_
    refine am_ite (fun h_3 => ?_) (fun _ => rfl)
    refine Eq.trans (rl_iinc (j := 1) (c := 1) (k := (nI 1)) (ls' := [some (am_P (30, 0, 0)), some (am_I (x1 + (nI 1)))]) (by decide +kernel) (by decide) rfl rfl) ?_
    refine Eq.trans (rl_goto (o := (-22)) 2 (by decide +kernel) (by decide)) ?_
    rfl
  · skip
    exact rl_ret (by decide +kernel) rfl
theorem e119 {d : Nat}  {M : am_M} {w : am_W4}  : am_ev (d + 1) 119 [am_P (30, 0, 0)] M (am_Z w) = am_rn (am_ev d) 119 2 [some (am_P (30, 0, 0)), some (am_I (nI 0))] [] M (am_Z w) := (am_ev_eq d 119 _ M (am_Z w)).trans (b119_0)
theorem b120_0  {M : am_M} {w : am_W4}  : am_rn call 120 0 [some (am_P (30, 0, 0)), none] [] M (am_Z w) = am_rn call 120 2 [some (am_P (30, 0, 0)), some (am_I (nI 0))] [] M (am_Z w) := by
  refine Eq.trans (rl_iconst (c := 0) (k := (nI 0)) (by decide +kernel) (by decide)) ?_
  refine Eq.trans (rl_istoren (j := 1) (ls' := [some (am_P (30, 0, 0)), some (am_I (nI 0))]) (by decide +kernel) rfl rfl) ?_
  rfl
theorem b120_2 {x1 : Int32} {M : am_M} {w : am_W4}  : am_rn call 120 2 [some (am_P (30, 0, 0)), some (am_I x1)] [] M (am_Z w) = if x1 < (nI 364) then if am_in x1 364 then if am_in x1 364 then am_rn call 120 2 [some (am_P (30, 0, 0)), some (am_I (x1 + (nI 1)))] [] (am_set M (31, 0, 0) x1.toNatClampNeg (M (33, 0, 0) x1.toNatClampNeg)) (am_Z w) else none else none else some (.inl none, M, (am_Z w)) := by
  refine Eq.trans (rl_iloadn (j := 1) (by decide +kernel) rfl) ?_
  refine Eq.trans (rl_sipush (c := 364) (k := (nI 364)) (by decide +kernel) (by decide)) ?_
  refine Eq.trans (rl_icge (o := 21) 27 (by decide +kernel) (by decide)) ?_
  refine am_ite (fun h_1 => ?_) (fun h_1 => ?_)
  · skip
    refine Eq.trans (rl_aloadn (j := 0) (by decide +kernel) rfl) ?_
    refine Eq.trans (rl_getP (ix := 9) (ci := 9) (j := 0) (by decide +kernel) (by decide +kernel) (by decide +kernel) ck30 rfl) ?_
    refine Eq.trans (rl_iloadn (j := 1) (by decide +kernel) rfl) ?_
    refine Eq.trans (rl_aloadn (j := 0) (by decide +kernel) rfl) ?_
    refine Eq.trans (rl_getP (ix := 16) (ci := 9) (j := 2) (by decide +kernel) (by decide +kernel) (by decide +kernel) ck30 rfl) ?_
    refine Eq.trans (rl_iloadn (j := 1) (by decide +kernel) rfl) ?_
    refine Eq.trans (rl_iald (by decide +kernel) ka33) ?_
    refine am_ite (fun h_2 => ?_) (fun _ => rfl)
    refine Eq.trans (rl_iast (by decide +kernel) ka31) ?_
    refine am_ite (fun h_3 => ?_) (fun _ => rfl)
    refine Eq.trans (rl_iinc (j := 1) (c := 1) (k := (nI 1)) (ls' := [some (am_P (30, 0, 0)), some (am_I (x1 + (nI 1)))]) (by decide +kernel) (by decide) rfl rfl) ?_
    refine Eq.trans (rl_goto (o := (-22)) 2 (by decide +kernel) (by decide)) ?_
    rfl
  · skip
    exact rl_ret (by decide +kernel) rfl
theorem e120 {d : Nat}  {M : am_M} {w : am_W4}  : am_ev (d + 1) 120 [am_P (30, 0, 0)] M (am_Z w) = am_rn (am_ev d) 120 2 [some (am_P (30, 0, 0)), some (am_I (nI 0))] [] M (am_Z w) := (am_ev_eq d 120 _ M (am_Z w)).trans (b120_0)
theorem b121_0 {x1 : Int32} {M : am_M} {w : am_W4}  : am_rn call 121 0 [some (am_P (30, 0, 0)), some (am_I x1), none] [] M (am_Z w) = if (M (30, 0, 0) 4) = (nI 8) then am_rn call 121 11 [some (am_P (30, 0, 0)), some (am_I x1), some (am_I (nI 0))] [] M (am_Z w) else am_rn call 121 50 [some (am_P (30, 0, 0)), some (am_I x1), none] [] M (am_Z w) := by
  refine Eq.trans (rl_aloadn (j := 0) (by decide +kernel) rfl) ?_
  refine Eq.trans (rl_get (ix := 45) (ci := 9) (j := 4) (by decide +kernel) (by decide +kernel) (by decide +kernel) ck30) ?_
  refine Eq.trans (rl_bipush (c := 8) (k := (nI 8)) (by decide +kernel) (by decide)) ?_
  refine Eq.trans (rl_icne (o := 44) 50 (by decide +kernel) (by decide)) ?_
  refine am_ite (fun h_1 => ?_) (fun h_1 => ?_)
  · skip
    refine Eq.trans (rl_iconst (c := 0) (k := (nI 0)) (by decide +kernel) (by decide)) ?_
    refine Eq.trans (rl_istoren (j := 2) (ls' := [some (am_P (30, 0, 0)), some (am_I x1), some (am_I (nI 0))]) (by decide +kernel) rfl rfl) ?_
    rfl
  · skip
    rfl
theorem b121_11 {x1 x2 : Int32} {M : am_M} {w : am_W4}  : am_rn call 121 11 [some (am_P (30, 0, 0)), some (am_I x1), some (am_I x2)] [] M (am_Z w) = if x2 < (nI 2548) then if am_in ((nI 364) + x2) 2912 then if am_in x2 2912 then am_rn call 121 11 [some (am_P (30, 0, 0)), some (am_I x1), some (am_I (x2 + (nI 1)))] [] (am_set M (34, 0, 0) x2.toNatClampNeg (M (34, 0, 0) ((nI 364) + x2).toNatClampNeg)) (am_Z w) else none else none else am_rn call 121 50 [some (am_P (30, 0, 0)), some (am_I x1), some (am_I x2)] [] (am_set M (30, 0, 0) 4 ((M (30, 0, 0) 4) - (nI 1))) (am_Z w) := by
  refine Eq.trans (rl_iloadn (j := 2) (by decide +kernel) rfl) ?_
  refine Eq.trans (rl_sipush (c := 2548) (k := (nI 2548)) (by decide +kernel) (by decide)) ?_
  refine Eq.trans (rl_icge (o := 25) 40 (by decide +kernel) (by decide)) ?_
  refine am_ite (fun h_1 => ?_) (fun h_1 => ?_)
  · skip
    refine Eq.trans (rl_aloadn (j := 0) (by decide +kernel) rfl) ?_
    refine Eq.trans (rl_getP (ix := 19) (ci := 9) (j := 3) (by decide +kernel) (by decide +kernel) (by decide +kernel) ck30 rfl) ?_
    refine Eq.trans (rl_iloadn (j := 2) (by decide +kernel) rfl) ?_
    refine Eq.trans (rl_aloadn (j := 0) (by decide +kernel) rfl) ?_
    refine Eq.trans (rl_getP (ix := 19) (ci := 9) (j := 3) (by decide +kernel) (by decide +kernel) (by decide +kernel) ck30 rfl) ?_
    refine Eq.trans (rl_sipush (c := 364) (k := (nI 364)) (by decide +kernel) (by decide)) ?_
    refine Eq.trans (rl_iloadn (j := 2) (by decide +kernel) rfl) ?_
    refine Eq.trans (rl_iadd (by decide +kernel)) ?_
    refine Eq.trans (rl_iald (by decide +kernel) ka34) ?_
    refine am_ite (fun h_2 => ?_) (fun _ => rfl)
    refine Eq.trans (rl_iast (by decide +kernel) ka34) ?_
    refine am_ite (fun h_3 => ?_) (fun _ => rfl)
    refine Eq.trans (rl_iinc (j := 2) (c := 1) (k := (nI 1)) (ls' := [some (am_P (30, 0, 0)), some (am_I x1), some (am_I (x2 + (nI 1)))]) (by decide +kernel) (by decide) rfl rfl) ?_
    refine Eq.trans (rl_goto (o := (-26)) 11 (by decide +kernel) (by decide)) ?_
    rfl
  · skip
    refine Eq.trans (rl_aloadn (j := 0) (by decide +kernel) rfl) ?_
    refine Eq.trans (rl_dup (by decide +kernel) rfl) ?_
    refine Eq.trans (rl_get (ix := 45) (ci := 9) (j := 4) (by decide +kernel) (by decide +kernel) (by decide +kernel) ck30) ?_
    refine Eq.trans (rl_iconst (c := 1) (k := (nI 1)) (by decide +kernel) (by decide)) ?_
    refine Eq.trans (rl_isub (by decide +kernel)) ?_
    refine Eq.trans (rl_put (ix := 45) (ci := 9) (j := 4) (by decide +kernel) (by decide +kernel) (by decide +kernel) (by decide +kernel) ck30) ?_
    rfl
theorem b121_50 {x1 : Int32} {x2 : Option am_V} {M : am_M} {w : am_W4}  : am_rn call 121 50 [some (am_P (30, 0, 0)), some (am_I x1), x2] [] M (am_Z w) = am_rn call 121 52 [some (am_P (30, 0, 0)), some (am_I x1), some (am_I (nI 0))] [] M (am_Z w) := by
  refine Eq.trans (rl_iconst (c := 0) (k := (nI 0)) (by decide +kernel) (by decide)) ?_
  refine Eq.trans (rl_istoren (j := 2) (ls' := [some (am_P (30, 0, 0)), some (am_I x1), some (am_I (nI 0))]) (by decide +kernel) rfl rfl) ?_
  rfl
theorem b121_52 {x1 x2 : Int32} {M : am_M} {w : am_W4}  : am_rn call 121 52 [some (am_P (30, 0, 0)), some (am_I x1), some (am_I x2)] [] M (am_Z w) = if x2 < (nI 364) then if am_in x2 364 then if am_in (((nI 364) * (M (30, 0, 0) 4)) + x2) 2912 then am_rn call 121 52 [some (am_P (30, 0, 0)), some (am_I x1), some (am_I (x2 + (nI 1)))] [] (am_set M (34, 0, 0) (((nI 364) * (M (30, 0, 0) 4)) + x2).toNatClampNeg (M (32, 0, 0) x2.toNatClampNeg)) (am_Z w) else none else none else some (.inl (some (am_I x1)), (am_set M (30, 0, 0) 4 ((M (30, 0, 0) 4) + (nI 1))), (am_Z w)) := by
  refine Eq.trans (rl_iloadn (j := 2) (by decide +kernel) rfl) ?_
  refine Eq.trans (rl_sipush (c := 364) (k := (nI 364)) (by decide +kernel) (by decide)) ?_
  refine Eq.trans (rl_icge (o := 30) 86 (by decide +kernel) (by decide)) ?_
  refine am_ite (fun h_1 => ?_) (fun h_1 => ?_)
  · skip
    refine Eq.trans (rl_aloadn (j := 0) (by decide +kernel) rfl) ?_
    refine Eq.trans (rl_getP (ix := 19) (ci := 9) (j := 3) (by decide +kernel) (by decide +kernel) (by decide +kernel) ck30 rfl) ?_
    refine Eq.trans (rl_sipush (c := 364) (k := (nI 364)) (by decide +kernel) (by decide)) ?_
    refine Eq.trans (rl_aloadn (j := 0) (by decide +kernel) rfl) ?_
    refine Eq.trans (rl_get (ix := 45) (ci := 9) (j := 4) (by decide +kernel) (by decide +kernel) (by decide +kernel) ck30) ?_
    refine Eq.trans (rl_imul (by decide +kernel)) ?_
    refine Eq.trans (rl_iloadn (j := 2) (by decide +kernel) rfl) ?_
    refine Eq.trans (rl_iadd (by decide +kernel)) ?_
    refine Eq.trans (rl_aloadn (j := 0) (by decide +kernel) rfl) ?_
    refine Eq.trans (rl_getP (ix := 13) (ci := 9) (j := 1) (by decide +kernel) (by decide +kernel) (by decide +kernel) ck30 rfl) ?_
    refine Eq.trans (rl_iloadn (j := 2) (by decide +kernel) rfl) ?_
    refine Eq.trans (rl_iald (by decide +kernel) ka32) ?_
    refine am_ite (fun h_2 => ?_) (fun _ => rfl)
    refine Eq.trans (rl_iast (by decide +kernel) ka34) ?_
    refine am_ite (fun h_3 => ?_) (fun _ => rfl)
    refine Eq.trans (rl_iinc (j := 2) (c := 1) (k := (nI 1)) (ls' := [some (am_P (30, 0, 0)), some (am_I x1), some (am_I (x2 + (nI 1)))]) (by decide +kernel) (by decide) rfl rfl) ?_
    refine Eq.trans (rl_goto (o := (-31)) 52 (by decide +kernel) (by decide)) ?_
    rfl
  · skip
    refine Eq.trans (rl_aloadn (j := 0) (by decide +kernel) rfl) ?_
    refine Eq.trans (rl_dup (by decide +kernel) rfl) ?_
    refine Eq.trans (rl_get (ix := 45) (ci := 9) (j := 4) (by decide +kernel) (by decide +kernel) (by decide +kernel) ck30) ?_
    refine Eq.trans (rl_iconst (c := 1) (k := (nI 1)) (by decide +kernel) (by decide)) ?_
    refine Eq.trans (rl_iadd (by decide +kernel)) ?_
    refine Eq.trans (rl_put (ix := 45) (ci := 9) (j := 4) (by decide +kernel) (by decide +kernel) (by decide +kernel) (by decide +kernel) ck30) ?_
    refine Eq.trans (rl_iloadn (j := 1) (by decide +kernel) rfl) ?_
    exact rl_iret (by decide +kernel) rfl
theorem e121 {d : Nat} {x1 : Int32} {M : am_M} {w : am_W4}  : am_ev (d + 1) 121 [am_P (30, 0, 0), am_I x1] M (am_Z w) = if (M (30, 0, 0) 4) = (nI 8) then am_rn (am_ev d) 121 11 [some (am_P (30, 0, 0)), some (am_I x1), some (am_I (nI 0))] [] M (am_Z w) else am_rn (am_ev d) 121 50 [some (am_P (30, 0, 0)), some (am_I x1), none] [] M (am_Z w) := (am_ev_eq d 121 _ M (am_Z w)).trans (b121_0)
theorem b122_0 {x1 x2 : Int32} {M : am_M} {w : am_W4}  : am_rn call 122 0 [some (am_P (30, 0, 0)), some (am_I x1), some (am_I x2)] [] M (am_Z w) = am_rn call 122 10 [some (am_P (30, 0, 0)), some (am_I x1), some (am_I x2)] [] (am_set (am_set M (30, 0, 0) 16 x1) (30, 0, 0) 17 x2) (am_Z w) := by
  refine Eq.trans (rl_aloadn (j := 0) (by decide +kernel) rfl) ?_
  refine Eq.trans (rl_iloadn (j := 1) (by decide +kernel) rfl) ?_
  refine Eq.trans (rl_put (ix := 48) (ci := 9) (j := 16) (by decide +kernel) (by decide +kernel) (by decide +kernel) (by decide +kernel) ck30) ?_
  refine Eq.trans (rl_aloadn (j := 0) (by decide +kernel) rfl) ?_
  refine Eq.trans (rl_iloadn (j := 2) (by decide +kernel) rfl) ?_
  refine Eq.trans (rl_put (ix := 51) (ci := 9) (j := 17) (by decide +kernel) (by decide +kernel) (by decide +kernel) (by decide +kernel) ck30) ?_
  rfl
theorem b122_10 {x1 x2 : Int32} {M : am_M} {w : am_W4}  : am_rn call 122 10 [some (am_P (30, 0, 0)), some (am_I x1), some (am_I x2)] [] M (am_Z w) = some (.inl (some (am_I (nI 0))), (am_set M (30, 0, 0) 18 (M (30, 0, 0) 15)), (am_Z w)) := by
  refine Eq.trans (rl_aloadn (j := 0) (by decide +kernel) rfl) ?_
  refine Eq.trans (rl_aloadn (j := 0) (by decide +kernel) rfl) ?_
  refine Eq.trans (rl_get (ix := 42) (ci := 9) (j := 15) (by decide +kernel) (by decide +kernel) (by decide +kernel) ck30) ?_
  refine Eq.trans (rl_put (ix := 54) (ci := 9) (j := 18) (by decide +kernel) (by decide +kernel) (by decide +kernel) (by decide +kernel) ck30) ?_
  refine Eq.trans (rl_iconst (c := 0) (k := (nI 0)) (by decide +kernel) (by decide)) ?_
  exact rl_zretk (by decide +kernel) rfl rfl
theorem e122 {d : Nat} {x1 x2 : Int32} {M : am_M} {w : am_W4}  : am_ev (d + 1) 122 [am_P (30, 0, 0), am_I x1, am_I x2] M (am_Z w) = am_rn (am_ev d) 122 10 [some (am_P (30, 0, 0)), some (am_I x1), some (am_I x2)] [] (am_set (am_set M (30, 0, 0) 16 x1) (30, 0, 0) 17 x2) (am_Z w) := (am_ev_eq d 122 _ M (am_Z w)).trans (b122_0)
theorem b123_0 {x1 : Int32} {M : am_M} {w : am_W4}  : am_rn call 123 0 [some (am_P (30, 0, 0)), some (am_I x1)] [] M (am_Z w) = some (.inl (some (am_I (nI 1))), (am_set M (30, 0, 0) 19 x1), (am_Z w)) := by
  refine Eq.trans (rl_aloadn (j := 0) (by decide +kernel) rfl) ?_
  refine Eq.trans (rl_iloadn (j := 1) (by decide +kernel) rfl) ?_
  refine Eq.trans (rl_put (ix := 57) (ci := 9) (j := 19) (by decide +kernel) (by decide +kernel) (by decide +kernel) (by decide +kernel) ck30) ?_
  refine Eq.trans (rl_iconst (c := 1) (k := (nI 1)) (by decide +kernel) (by decide)) ?_
  exact rl_zretk (by decide +kernel) rfl rfl
theorem e123 {d : Nat} {x1 : Int32} {M : am_M} {w : am_W4}  : am_ev (d + 1) 123 [am_P (30, 0, 0), am_I x1] M (am_Z w) = some (.inl (some (am_I (nI 1))), (am_set M (30, 0, 0) 19 x1), (am_Z w)) := (am_ev_eq d 123 _ M (am_Z w)).trans (b123_0)
theorem b124_0 {x1 : Int32} {M : am_M} {w : am_W4}  : am_rn call 124 0 [some (am_P (30, 0, 0)), some (am_I x1)] [] M (am_Z w) = if x1 = 0 then am_cb (call 115 [am_P (30, 0, 0), am_I (nI 1)] M (am_Z w)) fun v M' X' => am_rn call 124 20 [some (am_P (30, 0, 0)), some (am_I x1)] (v.toList ++ []) M' X' else am_cb (call 121 [am_P (30, 0, 0), am_I (M (30, 0, 0) 19)] M (am_Z w)) fun v M' X' => am_rn call 124 12 [some (am_P (30, 0, 0)), some (am_I x1)] (v.toList ++ []) M' X' := by
  refine Eq.trans (rl_iloadn (j := 1) (by decide +kernel) rfl) ?_
  refine Eq.trans (rl_ifeq (o := 14) 15 (by decide +kernel) (by decide)) ?_
  refine am_ite (fun h_1 => ?_) (fun h_1 => ?_)
  · skip
    refine Eq.trans (rl_aloadn (j := 0) (by decide +kernel) rfl) ?_
    refine Eq.trans (rl_iconst (c := 1) (k := (nI 1)) (by decide +kernel) (by decide)) ?_
    refine Eq.trans (rl_inv (ix := 64) (n := 1) (o := 9) 115 [am_I (nI 1)] [] (by decide +kernel) (by decide +kernel) (by decide +kernel) (by decide +kernel) ⟨rfl, rfl⟩ rfl rfl ck30) ?_
    rfl
  · skip
    refine Eq.trans (rl_aloadn (j := 0) (by decide +kernel) rfl) ?_
    refine Eq.trans (rl_aloadn (j := 0) (by decide +kernel) rfl) ?_
    refine Eq.trans (rl_get (ix := 57) (ci := 9) (j := 19) (by decide +kernel) (by decide +kernel) (by decide +kernel) ck30) ?_
    refine Eq.trans (rl_inv (ix := 60) (n := 1) (o := 9) 121 [am_I (M (30, 0, 0) 19)] [] (by decide +kernel) (by decide +kernel) (by decide +kernel) (by decide +kernel) ⟨rfl, rfl⟩ rfl rfl ck30) ?_
    rfl
theorem b124_12 {x1 s0 : Int32} {M : am_M} {w : am_W4}  : am_rn call 124 12 [some (am_P (30, 0, 0)), some (am_I x1)] [am_I s0] M (am_Z w) = am_rn call 124 20 [some (am_P (30, 0, 0)), some (am_I x1)] [am_I s0] M (am_Z w) := by
  refine Eq.trans (rl_goto (o := 8) 20 (by decide +kernel) (by decide)) ?_
  rfl
theorem b124_20 {x1 s0 : Int32} {M : am_M} {w : am_W4}  : am_rn call 124 20 [some (am_P (30, 0, 0)), some (am_I x1)] [am_I s0] M (am_Z w) = some (.inl (some (am_I s0)), M, (am_Z w)) := by
  exact rl_iret (by decide +kernel) rfl
theorem e124 {d : Nat} {x1 : Int32} {M : am_M} {w : am_W4}  : am_ev (d + 1) 124 [am_P (30, 0, 0), am_I x1] M (am_Z w) = if x1 = 0 then am_cb ((am_ev d) 115 [am_P (30, 0, 0), am_I (nI 1)] M (am_Z w)) fun v M' X' => am_rn (am_ev d) 124 20 [some (am_P (30, 0, 0)), some (am_I x1)] (v.toList ++ []) M' X' else am_cb ((am_ev d) 121 [am_P (30, 0, 0), am_I (M (30, 0, 0) 19)] M (am_Z w)) fun v M' X' => am_rn (am_ev d) 124 12 [some (am_P (30, 0, 0)), some (am_I x1)] (v.toList ++ []) M' X' := (am_ev_eq d 124 _ M (am_Z w)).trans (b124_0)
theorem b125_0 {x1 : Int32} {M : am_M} {w : am_W4}  : am_rn call 125 0 [some (am_P (30, 0, 0)), some (am_I x1)] [] M (am_Z w) = am_cb (call 116 [am_I x1, am_I (nI 0), am_I ((M (31, 0, 0) 1) - (nI 1))] M (am_Z w)) fun v M' X' => am_rn call 125 13 [some (am_P (30, 0, 0)), some (am_I x1)] (v.toList ++ []) M' X' := by
  refine Eq.trans (rl_iloadn (j := 1) (by decide +kernel) rfl) ?_
  refine Eq.trans (rl_iconst (c := 0) (k := (nI 0)) (by decide +kernel) (by decide)) ?_
  refine Eq.trans (rl_aloadn (j := 0) (by decide +kernel) rfl) ?_
  refine Eq.trans (rl_getP (ix := 9) (ci := 9) (j := 0) (by decide +kernel) (by decide +kernel) (by decide +kernel) ck30 rfl) ?_
  refine Eq.trans (rl_iconst (c := 1) (k := (nI 1)) (by decide +kernel) (by decide)) ?_
  refine Eq.trans (rl_iald' 1 (by decide +kernel) ka31 rfl rfl) ?_
  refine Eq.trans (rl_iconst (c := 1) (k := (nI 1)) (by decide +kernel) (by decide)) ?_
  refine Eq.trans (rl_isub (by decide +kernel)) ?_
  refine Eq.trans (rl_invS (ix := 67) (n := 3) (k := 1) 116 [am_I x1, am_I (nI 0), am_I ((M (31, 0, 0) 1) - (nI 1))] [] (by decide +kernel) (by decide +kernel) (by decide) (by decide +kernel) ⟨rfl, rfl⟩ rfl rfl) ?_
  rfl
theorem b125_13 {x1 s0 : Int32} {M : am_M} {w : am_W4}  : am_rn call 125 13 [some (am_P (30, 0, 0)), some (am_I x1)] [am_I s0] M (am_Z w) = if am_pc 1 s0 = true then some (.inl (some (am_I s0)), M, (am_Z w)) else none := by
  exact rl_zret (by decide +kernel) rfl
theorem e125 {d : Nat} {x1 : Int32} {M : am_M} {w : am_W4}  : am_ev (d + 1) 125 [am_P (30, 0, 0), am_I x1] M (am_Z w) = am_cb ((am_ev d) 116 [am_I x1, am_I (nI 0), am_I ((M (31, 0, 0) 1) - (nI 1))] M (am_Z w)) fun v M' X' => am_rn (am_ev d) 125 13 [some (am_P (30, 0, 0)), some (am_I x1)] (v.toList ++ []) M' X' := (am_ev_eq d 125 _ M (am_Z w)).trans (b125_0)
theorem b126_0 {x1 : Int32} {M : am_M} {w : am_W4}  : am_rn call 126 0 [some (am_P (30, 0, 0)), some (am_I x1)] [] M (am_Z w) = am_cb (call 116 [am_I x1, am_I (nI 0), am_I ((M (31, 0, 0) 1) - (nI 2))] M (am_Z w)) fun v M' X' => am_rn call 126 13 [some (am_P (30, 0, 0)), some (am_I x1)] (v.toList ++ []) M' X' := by
  refine Eq.trans (rl_iloadn (j := 1) (by decide +kernel) rfl) ?_
  refine Eq.trans (rl_iconst (c := 0) (k := (nI 0)) (by decide +kernel) (by decide)) ?_
  refine Eq.trans (rl_aloadn (j := 0) (by decide +kernel) rfl) ?_
  refine Eq.trans (rl_getP (ix := 9) (ci := 9) (j := 0) (by decide +kernel) (by decide +kernel) (by decide +kernel) ck30 rfl) ?_
  refine Eq.trans (rl_iconst (c := 1) (k := (nI 1)) (by decide +kernel) (by decide)) ?_
  refine Eq.trans (rl_iald' 1 (by decide +kernel) ka31 rfl rfl) ?_
  refine Eq.trans (rl_iconst (c := 2) (k := (nI 2)) (by decide +kernel) (by decide)) ?_
  refine Eq.trans (rl_isub (by decide +kernel)) ?_
  refine Eq.trans (rl_invS (ix := 67) (n := 3) (k := 1) 116 [am_I x1, am_I (nI 0), am_I ((M (31, 0, 0) 1) - (nI 2))] [] (by decide +kernel) (by decide +kernel) (by decide) (by decide +kernel) ⟨rfl, rfl⟩ rfl rfl) ?_
  rfl
theorem b126_13 {x1 s0 : Int32} {M : am_M} {w : am_W4}  : am_rn call 126 13 [some (am_P (30, 0, 0)), some (am_I x1)] [am_I s0] M (am_Z w) = if am_pc 1 s0 = true then some (.inl (some (am_I s0)), M, (am_Z w)) else none := by
  exact rl_zret (by decide +kernel) rfl
theorem e126 {d : Nat} {x1 : Int32} {M : am_M} {w : am_W4}  : am_ev (d + 1) 126 [am_P (30, 0, 0), am_I x1] M (am_Z w) = am_cb ((am_ev d) 116 [am_I x1, am_I (nI 0), am_I ((M (31, 0, 0) 1) - (nI 2))] M (am_Z w)) fun v M' X' => am_rn (am_ev d) 126 13 [some (am_P (30, 0, 0)), some (am_I x1)] (v.toList ++ []) M' X' := (am_ev_eq d 126 _ M (am_Z w)).trans (b126_0)
theorem b127_0 {x1 : Int32} {M : am_M} {w : am_W4}  : am_rn call 127 0 [some (am_P (30, 0, 0)), some (am_I x1)] [] M (am_Z w) = am_cb (call 116 [am_I x1, am_I (nI 0), am_I ((M (31, 0, 0) 2) - (nI 1))] M (am_Z w)) fun v M' X' => am_rn call 127 13 [some (am_P (30, 0, 0)), some (am_I x1)] (v.toList ++ []) M' X' := by
  refine Eq.trans (rl_iloadn (j := 1) (by decide +kernel) rfl) ?_
  refine Eq.trans (rl_iconst (c := 0) (k := (nI 0)) (by decide +kernel) (by decide)) ?_
  refine Eq.trans (rl_aloadn (j := 0) (by decide +kernel) rfl) ?_
  refine Eq.trans (rl_getP (ix := 9) (ci := 9) (j := 0) (by decide +kernel) (by decide +kernel) (by decide +kernel) ck30 rfl) ?_
  refine Eq.trans (rl_iconst (c := 2) (k := (nI 2)) (by decide +kernel) (by decide)) ?_
  refine Eq.trans (rl_iald' 2 (by decide +kernel) ka31 rfl rfl) ?_
  refine Eq.trans (rl_iconst (c := 1) (k := (nI 1)) (by decide +kernel) (by decide)) ?_
  refine Eq.trans (rl_isub (by decide +kernel)) ?_
  refine Eq.trans (rl_invS (ix := 67) (n := 3) (k := 1) 116 [am_I x1, am_I (nI 0), am_I ((M (31, 0, 0) 2) - (nI 1))] [] (by decide +kernel) (by decide +kernel) (by decide) (by decide +kernel) ⟨rfl, rfl⟩ rfl rfl) ?_
  rfl
theorem b127_13 {x1 s0 : Int32} {M : am_M} {w : am_W4}  : am_rn call 127 13 [some (am_P (30, 0, 0)), some (am_I x1)] [am_I s0] M (am_Z w) = if am_pc 1 s0 = true then some (.inl (some (am_I s0)), M, (am_Z w)) else none := by
  exact rl_zret (by decide +kernel) rfl
theorem e127 {d : Nat} {x1 : Int32} {M : am_M} {w : am_W4}  : am_ev (d + 1) 127 [am_P (30, 0, 0), am_I x1] M (am_Z w) = am_cb ((am_ev d) 116 [am_I x1, am_I (nI 0), am_I ((M (31, 0, 0) 2) - (nI 1))] M (am_Z w)) fun v M' X' => am_rn (am_ev d) 127 13 [some (am_P (30, 0, 0)), some (am_I x1)] (v.toList ++ []) M' X' := (am_ev_eq d 127 _ M (am_Z w)).trans (b127_0)
theorem b128_0 {x1 x2 : Int32} {M : am_M} {w : am_W4}  : am_rn call 128 0 [some (am_P (30, 0, 0)), some (am_I x1), some (am_I x2)] [] M (am_Z w) = if am_in (((nI 12) + ((nI 6) * x1)) + x2) 364 then some (.inl (some (am_I (M (31, 0, 0) (((nI 12) + ((nI 6) * x1)) + x2).toNatClampNeg))), M, (am_Z w)) else none := by
  refine Eq.trans (rl_aloadn (j := 0) (by decide +kernel) rfl) ?_
  refine Eq.trans (rl_getP (ix := 9) (ci := 9) (j := 0) (by decide +kernel) (by decide +kernel) (by decide +kernel) ck30 rfl) ?_
  refine Eq.trans (rl_bipush (c := 12) (k := (nI 12)) (by decide +kernel) (by decide)) ?_
  refine Eq.trans (rl_bipush (c := 6) (k := (nI 6)) (by decide +kernel) (by decide)) ?_
  refine Eq.trans (rl_iloadn (j := 1) (by decide +kernel) rfl) ?_
  refine Eq.trans (rl_imul (by decide +kernel)) ?_
  refine Eq.trans (rl_iadd (by decide +kernel)) ?_
  refine Eq.trans (rl_iloadn (j := 2) (by decide +kernel) rfl) ?_
  refine Eq.trans (rl_iadd (by decide +kernel)) ?_
  refine Eq.trans (rl_iald (by decide +kernel) ka31) ?_
  refine am_ite (fun h_1 => ?_) (fun _ => rfl)
  exact rl_iret (by decide +kernel) rfl
theorem e128 {d : Nat} {x1 x2 : Int32} {M : am_M} {w : am_W4}  : am_ev (d + 1) 128 [am_P (30, 0, 0), am_I x1, am_I x2] M (am_Z w) = if am_in (((nI 12) + ((nI 6) * x1)) + x2) 364 then some (.inl (some (am_I (M (31, 0, 0) (((nI 12) + ((nI 6) * x1)) + x2).toNatClampNeg))), M, (am_Z w)) else none := (am_ev_eq d 128 _ M (am_Z w)).trans (b128_0)
theorem b129_0 {x1 x2 : Int32} {M : am_M} {w : am_W4}  : am_rn call 129 0 [some (am_P (30, 0, 0)), some (am_I x1), some (am_I x2)] [] M (am_Z w) = if am_in (((nI 60) + ((nI 19) * x1)) + x2) 364 then some (.inl (some (am_I (M (31, 0, 0) (((nI 60) + ((nI 19) * x1)) + x2).toNatClampNeg))), M, (am_Z w)) else none := by
  refine Eq.trans (rl_aloadn (j := 0) (by decide +kernel) rfl) ?_
  refine Eq.trans (rl_getP (ix := 9) (ci := 9) (j := 0) (by decide +kernel) (by decide +kernel) (by decide +kernel) ck30 rfl) ?_
  refine Eq.trans (rl_bipush (c := 60) (k := (nI 60)) (by decide +kernel) (by decide)) ?_
  refine Eq.trans (rl_bipush (c := 19) (k := (nI 19)) (by decide +kernel) (by decide)) ?_
  refine Eq.trans (rl_iloadn (j := 1) (by decide +kernel) rfl) ?_
  refine Eq.trans (rl_imul (by decide +kernel)) ?_
  refine Eq.trans (rl_iadd (by decide +kernel)) ?_
  refine Eq.trans (rl_iloadn (j := 2) (by decide +kernel) rfl) ?_
  refine Eq.trans (rl_iadd (by decide +kernel)) ?_
  refine Eq.trans (rl_iald (by decide +kernel) ka31) ?_
  refine am_ite (fun h_1 => ?_) (fun _ => rfl)
  exact rl_iret (by decide +kernel) rfl
theorem e129 {d : Nat} {x1 x2 : Int32} {M : am_M} {w : am_W4}  : am_ev (d + 1) 129 [am_P (30, 0, 0), am_I x1, am_I x2] M (am_Z w) = if am_in (((nI 60) + ((nI 19) * x1)) + x2) 364 then some (.inl (some (am_I (M (31, 0, 0) (((nI 60) + ((nI 19) * x1)) + x2).toNatClampNeg))), M, (am_Z w)) else none := (am_ev_eq d 129 _ M (am_Z w)).trans (b129_0)
theorem b130_0 {x1 x2 x3 : Int32} {M : am_M} {w : am_W4}  : am_rn call 130 0 [some (am_P (30, 0, 0)), some (am_I x1), some (am_I x2), some (am_I x3)] [] M (am_Z w) = if am_in (((nI 60) + ((nI 19) * x1)) + x2) 364 then some (.inl none, (am_set M (31, 0, 0) (((nI 60) + ((nI 19) * x1)) + x2).toNatClampNeg x3), (am_Z w)) else none := by
  refine Eq.trans (rl_aloadn (j := 0) (by decide +kernel) rfl) ?_
  refine Eq.trans (rl_getP (ix := 9) (ci := 9) (j := 0) (by decide +kernel) (by decide +kernel) (by decide +kernel) ck30 rfl) ?_
  refine Eq.trans (rl_bipush (c := 60) (k := (nI 60)) (by decide +kernel) (by decide)) ?_
  refine Eq.trans (rl_bipush (c := 19) (k := (nI 19)) (by decide +kernel) (by decide)) ?_
  refine Eq.trans (rl_iloadn (j := 1) (by decide +kernel) rfl) ?_
  refine Eq.trans (rl_imul (by decide +kernel)) ?_
  refine Eq.trans (rl_iadd (by decide +kernel)) ?_
  refine Eq.trans (rl_iloadn (j := 2) (by decide +kernel) rfl) ?_
  refine Eq.trans (rl_iadd (by decide +kernel)) ?_
  refine Eq.trans (rl_iloadn (j := 3) (by decide +kernel) rfl) ?_
  refine Eq.trans (rl_iast (by decide +kernel) ka31) ?_
  refine am_ite (fun h_1 => ?_) (fun _ => rfl)
  exact rl_ret (by decide +kernel) rfl
theorem e130 {d : Nat} {x1 x2 x3 : Int32} {M : am_M} {w : am_W4}  : am_ev (d + 1) 130 [am_P (30, 0, 0), am_I x1, am_I x2, am_I x3] M (am_Z w) = if am_in (((nI 60) + ((nI 19) * x1)) + x2) 364 then some (.inl none, (am_set M (31, 0, 0) (((nI 60) + ((nI 19) * x1)) + x2).toNatClampNeg x3), (am_Z w)) else none := (am_ev_eq d 130 _ M (am_Z w)).trans (b130_0)
theorem b131_0 {x1 : Int32} {M : am_M} {w : am_W4}  : am_rn call 131 0 [some (am_P (30, 0, 0)), some (am_I x1)] [] M (am_Z w) = if am_in (((nI 48) + ((nI 2) * x1)) + (nI 1)) 364 then some (.inl (some (am_I (M (31, 0, 0) (((nI 48) + ((nI 2) * x1)) + (nI 1)).toNatClampNeg))), M, (am_Z w)) else none := by
  refine Eq.trans (rl_aloadn (j := 0) (by decide +kernel) rfl) ?_
  refine Eq.trans (rl_getP (ix := 9) (ci := 9) (j := 0) (by decide +kernel) (by decide +kernel) (by decide +kernel) ck30 rfl) ?_
  refine Eq.trans (rl_bipush (c := 48) (k := (nI 48)) (by decide +kernel) (by decide)) ?_
  refine Eq.trans (rl_iconst (c := 2) (k := (nI 2)) (by decide +kernel) (by decide)) ?_
  refine Eq.trans (rl_iloadn (j := 1) (by decide +kernel) rfl) ?_
  refine Eq.trans (rl_imul (by decide +kernel)) ?_
  refine Eq.trans (rl_iadd (by decide +kernel)) ?_
  refine Eq.trans (rl_iconst (c := 1) (k := (nI 1)) (by decide +kernel) (by decide)) ?_
  refine Eq.trans (rl_iadd (by decide +kernel)) ?_
  refine Eq.trans (rl_iald (by decide +kernel) ka31) ?_
  refine am_ite (fun h_1 => ?_) (fun _ => rfl)
  exact rl_iret (by decide +kernel) rfl
theorem e131 {d : Nat} {x1 : Int32} {M : am_M} {w : am_W4}  : am_ev (d + 1) 131 [am_P (30, 0, 0), am_I x1] M (am_Z w) = if am_in (((nI 48) + ((nI 2) * x1)) + (nI 1)) 364 then some (.inl (some (am_I (M (31, 0, 0) (((nI 48) + ((nI 2) * x1)) + (nI 1)).toNatClampNeg))), M, (am_Z w)) else none := (am_ev_eq d 131 _ M (am_Z w)).trans (b131_0)
theorem b132_0 {x1 x2 x3 : Int32} {M : am_M} {w : am_W4}  : am_rn call 132 0 [some (am_P (30, 0, 0)), some (am_I x1), some (am_I x2), some (am_I x3), none, none] [] M (am_Z w) = am_cb (call 117 [am_P (30, 0, 0)] M (am_Z w)) fun v M' X' => am_rn call 132 4 [some (am_P (30, 0, 0)), some (am_I x1), some (am_I x2), some (am_I x3), none, none] (v.toList ++ []) M' X' := by
  refine Eq.trans (rl_aloadn (j := 0) (by decide +kernel) rfl) ?_
  refine Eq.trans (rl_inv (ix := 71) (n := 0) (o := 9) 117 [] [] (by decide +kernel) (by decide +kernel) (by decide +kernel) (by decide +kernel) ⟨rfl, rfl⟩ rfl rfl ck30) ?_
  rfl
theorem b132_4 {x1 x2 x3 : Int32} {M : am_M} {w : am_W4}  : am_rn call 132 4 [some (am_P (30, 0, 0)), some (am_I x1), some (am_I x2), some (am_I x3), none, none] [] M (am_Z w) = am_cb (call 116 [am_I x1, am_I (nI 0), am_I (nI 9)] M (am_Z w)) fun v M' X' => am_rn call 132 19 [some (am_P (30, 0, 0)), some (am_I x1), some (am_I x2), some (am_I x3), some (am_I (M (31, 0, 0) 1)), none] (v.toList ++ []) M' X' := by
  refine Eq.trans (rl_aloadn (j := 0) (by decide +kernel) rfl) ?_
  refine Eq.trans (rl_getP (ix := 9) (ci := 9) (j := 0) (by decide +kernel) (by decide +kernel) (by decide +kernel) ck30 rfl) ?_
  refine Eq.trans (rl_iconst (c := 1) (k := (nI 1)) (by decide +kernel) (by decide)) ?_
  refine Eq.trans (rl_iald' 1 (by decide +kernel) ka31 rfl rfl) ?_
  refine Eq.trans (rl_istore (j := 4) (ls' := [some (am_P (30, 0, 0)), some (am_I x1), some (am_I x2), some (am_I x3), some (am_I (M (31, 0, 0) 1)), none]) (by decide +kernel) rfl rfl) ?_
  refine Eq.trans (rl_iloadn (j := 1) (by decide +kernel) rfl) ?_
  refine Eq.trans (rl_iconst (c := 0) (k := (nI 0)) (by decide +kernel) (by decide)) ?_
  refine Eq.trans (rl_bipush (c := 9) (k := (nI 9)) (by decide +kernel) (by decide)) ?_
  refine Eq.trans (rl_invS (ix := 67) (n := 3) (k := 1) 116 [am_I x1, am_I (nI 0), am_I (nI 9)] [] (by decide +kernel) (by decide +kernel) (by decide) (by decide +kernel) ⟨rfl, rfl⟩ rfl rfl) ?_
  rfl
theorem b132_19 {x1 x2 x3 x4 s0 : Int32} {M : am_M} {w : am_W4}  : am_rn call 132 19 [some (am_P (30, 0, 0)), some (am_I x1), some (am_I x2), some (am_I x3), some (am_I x4), none] [am_I s0] M (am_Z w) = if s0 = 0 then am_rn call 132 47 [some (am_P (30, 0, 0)), some (am_I x1), some (am_I x2), some (am_I x3), some (am_I x4), none] [] M (am_Z w) else am_cb (call 116 [am_I x2, am_I (nI 0), am_I (nI 9)] M (am_Z w)) fun v M' X' => am_rn call 132 29 [some (am_P (30, 0, 0)), some (am_I x1), some (am_I x2), some (am_I x3), some (am_I x4), none] (v.toList ++ []) M' X' := by
  refine Eq.trans (rl_ifeq (o := 28) 47 (by decide +kernel) (by decide)) ?_
  refine am_ite (fun h_1 => ?_) (fun h_1 => ?_)
  · skip
    rfl
  · skip
    refine Eq.trans (rl_iloadn (j := 2) (by decide +kernel) rfl) ?_
    refine Eq.trans (rl_iconst (c := 0) (k := (nI 0)) (by decide +kernel) (by decide)) ?_
    refine Eq.trans (rl_bipush (c := 9) (k := (nI 9)) (by decide +kernel) (by decide)) ?_
    refine Eq.trans (rl_invS (ix := 67) (n := 3) (k := 1) 116 [am_I x2, am_I (nI 0), am_I (nI 9)] [] (by decide +kernel) (by decide +kernel) (by decide) (by decide +kernel) ⟨rfl, rfl⟩ rfl rfl) ?_
    rfl
theorem b132_29 {x1 x2 x3 x4 s0 : Int32} {M : am_M} {w : am_W4}  : am_rn call 132 29 [some (am_P (30, 0, 0)), some (am_I x1), some (am_I x2), some (am_I x3), some (am_I x4), none] [am_I s0] M (am_Z w) = if s0 = 0 then am_rn call 132 47 [some (am_P (30, 0, 0)), some (am_I x1), some (am_I x2), some (am_I x3), some (am_I x4), none] [] M (am_Z w) else if 0 < x4 then am_cb (call 116 [am_I x3, am_I (nI 1), am_I (nI 9)] M (am_Z w)) fun v M' X' => am_rn call 132 44 [some (am_P (30, 0, 0)), some (am_I x1), some (am_I x2), some (am_I x3), some (am_I x4), none] (v.toList ++ []) M' X' else am_rn call 132 58 [some (am_P (30, 0, 0)), some (am_I x1), some (am_I x2), some (am_I x3), some (am_I x4), none] [] M (am_Z w) := by
  refine Eq.trans (rl_ifeq (o := 18) 47 (by decide +kernel) (by decide)) ?_
  refine am_ite (fun h_1 => ?_) (fun h_1 => ?_)
  · skip
    rfl
  · skip
    refine Eq.trans (rl_iload (j := 4) (by decide +kernel) rfl) ?_
    refine Eq.trans (rl_ifle (o := 24) 58 (by decide +kernel) (by decide)) ?_
    refine am_ite (fun h_2 => ?_) (fun h_2 => ?_)
    · skip
      refine Eq.trans (rl_iloadn (j := 3) (by decide +kernel) rfl) ?_
      refine Eq.trans (rl_iconst (c := 1) (k := (nI 1)) (by decide +kernel) (by decide)) ?_
      refine Eq.trans (rl_bipush (c := 9) (k := (nI 9)) (by decide +kernel) (by decide)) ?_
      refine Eq.trans (rl_invS (ix := 67) (n := 3) (k := 1) 116 [am_I x3, am_I (nI 1), am_I (nI 9)] [] (by decide +kernel) (by decide +kernel) (by decide) (by decide +kernel) ⟨rfl, rfl⟩ rfl rfl) ?_
      rfl
    · skip
      rfl
theorem b132_44 {x1 x2 x3 x4 s0 : Int32} {M : am_M} {w : am_W4}  : am_rn call 132 44 [some (am_P (30, 0, 0)), some (am_I x1), some (am_I x2), some (am_I x3), some (am_I x4), none] [am_I s0] M (am_Z w) = if s0 = 0 then am_rn call 132 47 [some (am_P (30, 0, 0)), some (am_I x1), some (am_I x2), some (am_I x3), some (am_I x4), none] [] M (am_Z w) else am_rn call 132 58 [some (am_P (30, 0, 0)), some (am_I x1), some (am_I x2), some (am_I x3), some (am_I x4), none] [] M (am_Z w) := by
  refine Eq.trans (rl_ifne (o := 14) 58 (by decide +kernel) (by decide)) ?_
  refine am_ite (fun h_1 => ?_) (fun h_1 => ?_)
  · skip
    rfl
  · skip
    rfl
theorem b132_47 {x1 x2 x3 x4 : Int32} {M : am_M} {w : am_W4}  : am_rn call 132 47 [some (am_P (30, 0, 0)), some (am_I x1), some (am_I x2), some (am_I x3), some (am_I x4), none] [] M (am_Z w) = am_cb (call 122 [am_P (30, 0, 0), am_I (nI 1), am_I (nI 0)] M (am_Z w)) fun v M' X' => am_rn call 132 54 [some (am_P (30, 0, 0)), some (am_I x1), some (am_I x2), some (am_I x3), some (am_I x4), none] (v.toList ++ [am_P (30, 0, 0)]) M' X' := by
  refine Eq.trans (rl_aloadn (j := 0) (by decide +kernel) rfl) ?_
  refine Eq.trans (rl_aloadn (j := 0) (by decide +kernel) rfl) ?_
  refine Eq.trans (rl_iconst (c := 1) (k := (nI 1)) (by decide +kernel) (by decide)) ?_
  refine Eq.trans (rl_iconst (c := 0) (k := (nI 0)) (by decide +kernel) (by decide)) ?_
  refine Eq.trans (rl_inv (ix := 74) (n := 2) (o := 9) 122 [am_I (nI 1), am_I (nI 0)] [am_P (30, 0, 0)] (by decide +kernel) (by decide +kernel) (by decide +kernel) (by decide +kernel) ⟨rfl, rfl⟩ rfl rfl ck30) ?_
  rfl
theorem b132_54 {x1 x2 x3 x4 s0 : Int32} {M : am_M} {w : am_W4}  : am_rn call 132 54 [some (am_P (30, 0, 0)), some (am_I x1), some (am_I x2), some (am_I x3), some (am_I x4), none] [am_I s0, am_P (30, 0, 0)] M (am_Z w) = am_cb (call 124 [am_P (30, 0, 0), am_I s0] M (am_Z w)) fun v M' X' => am_rn call 132 57 [some (am_P (30, 0, 0)), some (am_I x1), some (am_I x2), some (am_I x3), some (am_I x4), none] (v.toList ++ []) M' X' := by
  refine Eq.trans (rl_inv (ix := 78) (n := 1) (o := 9) 124 [am_I s0] [] (by decide +kernel) (by decide +kernel) (by decide +kernel) (by decide +kernel) ⟨rfl, rfl⟩ rfl rfl ck30) ?_
  rfl
theorem b132_57 {x1 x2 x3 x4 s0 : Int32} {M : am_M} {w : am_W4}  : am_rn call 132 57 [some (am_P (30, 0, 0)), some (am_I x1), some (am_I x2), some (am_I x3), some (am_I x4), none] [am_I s0] M (am_Z w) = some (.inl (some (am_I s0)), M, (am_Z w)) := by
  exact rl_iret (by decide +kernel) rfl
theorem b132_58 {x1 x2 x3 x4 : Int32} {M : am_M} {w : am_W4}  : am_rn call 132 58 [some (am_P (30, 0, 0)), some (am_I x1), some (am_I x2), some (am_I x3), some (am_I x4), none] [] M (am_Z w) = if x4 = (nI 6) then am_cb (call 122 [am_P (30, 0, 0), am_I (nI 2), am_I (nI 6)] M (am_Z w)) fun v M' X' => am_rn call 132 73 [some (am_P (30, 0, 0)), some (am_I x1), some (am_I x2), some (am_I x3), some (am_I x4), none] (v.toList ++ [am_P (30, 0, 0)]) M' X' else am_rn call 132 80 [some (am_P (30, 0, 0)), some (am_I x1), some (am_I x2), some (am_I x3), some (am_I x4), some (am_I (nI 0))] [] M (am_Z w) := by
  refine Eq.trans (rl_iload (j := 4) (by decide +kernel) rfl) ?_
  refine Eq.trans (rl_bipush (c := 6) (k := (nI 6)) (by decide +kernel) (by decide)) ?_
  refine Eq.trans (rl_icne (o := 15) 77 (by decide +kernel) (by decide)) ?_
  refine am_ite (fun h_1 => ?_) (fun h_1 => ?_)
  · skip
    refine Eq.trans (rl_aloadn (j := 0) (by decide +kernel) rfl) ?_
    refine Eq.trans (rl_aloadn (j := 0) (by decide +kernel) rfl) ?_
    refine Eq.trans (rl_iconst (c := 2) (k := (nI 2)) (by decide +kernel) (by decide)) ?_
    refine Eq.trans (rl_bipush (c := 6) (k := (nI 6)) (by decide +kernel) (by decide)) ?_
    refine Eq.trans (rl_inv (ix := 74) (n := 2) (o := 9) 122 [am_I (nI 2), am_I (nI 6)] [am_P (30, 0, 0)] (by decide +kernel) (by decide +kernel) (by decide +kernel) (by decide +kernel) ⟨rfl, rfl⟩ rfl rfl ck30) ?_
    rfl
  · skip
    refine Eq.trans (rl_iconst (c := 0) (k := (nI 0)) (by decide +kernel) (by decide)) ?_
    refine Eq.trans (rl_istore (j := 5) (ls' := [some (am_P (30, 0, 0)), some (am_I x1), some (am_I x2), some (am_I x3), some (am_I x4), some (am_I (nI 0))]) (by decide +kernel) rfl rfl) ?_
    rfl
theorem b132_73 {x1 x2 x3 x4 s0 : Int32} {M : am_M} {w : am_W4}  : am_rn call 132 73 [some (am_P (30, 0, 0)), some (am_I x1), some (am_I x2), some (am_I x3), some (am_I x4), none] [am_I s0, am_P (30, 0, 0)] M (am_Z w) = am_cb (call 124 [am_P (30, 0, 0), am_I s0] M (am_Z w)) fun v M' X' => am_rn call 132 76 [some (am_P (30, 0, 0)), some (am_I x1), some (am_I x2), some (am_I x3), some (am_I x4), none] (v.toList ++ []) M' X' := by
  refine Eq.trans (rl_inv (ix := 78) (n := 1) (o := 9) 124 [am_I s0] [] (by decide +kernel) (by decide +kernel) (by decide +kernel) (by decide +kernel) ⟨rfl, rfl⟩ rfl rfl ck30) ?_
  rfl
theorem b132_76 {x1 x2 x3 x4 s0 : Int32} {M : am_M} {w : am_W4}  : am_rn call 132 76 [some (am_P (30, 0, 0)), some (am_I x1), some (am_I x2), some (am_I x3), some (am_I x4), none] [am_I s0] M (am_Z w) = some (.inl (some (am_I s0)), M, (am_Z w)) := by
  exact rl_iret (by decide +kernel) rfl
theorem b132_80 {x1 x2 x3 x4 x5 : Int32} {M : am_M} {w : am_W4}  : am_rn call 132 80 [some (am_P (30, 0, 0)), some (am_I x1), some (am_I x2), some (am_I x3), some (am_I x4), some (am_I x5)] [] M (am_Z w) = if x5 < (nI 6) then if am_in (((nI 12) + ((nI 6) * x4)) + x5) 364 then am_rn call 132 80 [some (am_P (30, 0, 0)), some (am_I x1), some (am_I x2), some (am_I x3), some (am_I x4), some (am_I (x5 + (nI 1)))] [] (am_set M (31, 0, 0) (((nI 12) + ((nI 6) * x4)) + x5).toNatClampNeg (nI 0)) (am_Z w) else none else if am_in ((nI 12) + ((nI 6) * x4)) 364 then if am_in (((nI 12) + ((nI 6) * x4)) + (nI 1)) 364 then if 0 < x4 then if am_in ((nI 48) + ((nI 2) * (x4 - (nI 1)))) 364 then if am_in (((nI 48) + ((nI 2) * (x4 - (nI 1)))) + (nI 1)) 364 then am_rn call 132 177 [some (am_P (30, 0, 0)), some (am_I x1), some (am_I x2), some (am_I x3), some (am_I x4), some (am_I x5)] [] (am_set (am_set (am_set (am_set M (31, 0, 0) ((nI 12) + ((nI 6) * x4)).toNatClampNeg x1) (31, 0, 0) (((nI 12) + ((nI 6) * x4)) + (nI 1)).toNatClampNeg x2) (31, 0, 0) ((nI 48) + ((nI 2) * (x4 - (nI 1)))).toNatClampNeg x3) (31, 0, 0) (((nI 48) + ((nI 2) * (x4 - (nI 1)))) + (nI 1)).toNatClampNeg (nI 0)) (am_Z w) else none else none else am_rn call 132 177 [some (am_P (30, 0, 0)), some (am_I x1), some (am_I x2), some (am_I x3), some (am_I x4), some (am_I x5)] [] (am_set (am_set M (31, 0, 0) ((nI 12) + ((nI 6) * x4)).toNatClampNeg x1) (31, 0, 0) (((nI 12) + ((nI 6) * x4)) + (nI 1)).toNatClampNeg x2) (am_Z w) else none else none := by
  refine Eq.trans (rl_iload (j := 5) (by decide +kernel) rfl) ?_
  refine Eq.trans (rl_bipush (c := 6) (k := (nI 6)) (by decide +kernel) (by decide)) ?_
  refine Eq.trans (rl_icge (o := 26) 110 (by decide +kernel) (by decide)) ?_
  refine am_ite (fun h_1 => ?_) (fun h_1 => ?_)
  · skip
    refine Eq.trans (rl_aloadn (j := 0) (by decide +kernel) rfl) ?_
    refine Eq.trans (rl_getP (ix := 9) (ci := 9) (j := 0) (by decide +kernel) (by decide +kernel) (by decide +kernel) ck30 rfl) ?_
    refine Eq.trans (rl_bipush (c := 12) (k := (nI 12)) (by decide +kernel) (by decide)) ?_
    refine Eq.trans (rl_bipush (c := 6) (k := (nI 6)) (by decide +kernel) (by decide)) ?_
    refine Eq.trans (rl_iload (j := 4) (by decide +kernel) rfl) ?_
    refine Eq.trans (rl_imul (by decide +kernel)) ?_
    refine Eq.trans (rl_iadd (by decide +kernel)) ?_
    refine Eq.trans (rl_iload (j := 5) (by decide +kernel) rfl) ?_
    refine Eq.trans (rl_iadd (by decide +kernel)) ?_
    refine Eq.trans (rl_iconst (c := 0) (k := (nI 0)) (by decide +kernel) (by decide)) ?_
    refine Eq.trans (rl_iast (by decide +kernel) ka31) ?_
    refine am_ite (fun h_2 => ?_) (fun _ => rfl)
    refine Eq.trans (rl_iinc (j := 5) (c := 1) (k := (nI 1)) (ls' := [some (am_P (30, 0, 0)), some (am_I x1), some (am_I x2), some (am_I x3), some (am_I x4), some (am_I (x5 + (nI 1)))]) (by decide +kernel) (by decide) rfl rfl) ?_
    refine Eq.trans (rl_goto (o := (-27)) 80 (by decide +kernel) (by decide)) ?_
    rfl
  · skip
    refine Eq.trans (rl_aloadn (j := 0) (by decide +kernel) rfl) ?_
    refine Eq.trans (rl_getP (ix := 9) (ci := 9) (j := 0) (by decide +kernel) (by decide +kernel) (by decide +kernel) ck30 rfl) ?_
    refine Eq.trans (rl_bipush (c := 12) (k := (nI 12)) (by decide +kernel) (by decide)) ?_
    refine Eq.trans (rl_bipush (c := 6) (k := (nI 6)) (by decide +kernel) (by decide)) ?_
    refine Eq.trans (rl_iload (j := 4) (by decide +kernel) rfl) ?_
    refine Eq.trans (rl_imul (by decide +kernel)) ?_
    refine Eq.trans (rl_iadd (by decide +kernel)) ?_
    refine Eq.trans (rl_iloadn (j := 1) (by decide +kernel) rfl) ?_
    refine Eq.trans (rl_iast (by decide +kernel) ka31) ?_
    refine am_ite (fun h_3 => ?_) (fun _ => rfl)
    refine Eq.trans (rl_aloadn (j := 0) (by decide +kernel) rfl) ?_
    refine Eq.trans (rl_getP (ix := 9) (ci := 9) (j := 0) (by decide +kernel) (by decide +kernel) (by decide +kernel) ck30 rfl) ?_
    refine Eq.trans (rl_bipush (c := 12) (k := (nI 12)) (by decide +kernel) (by decide)) ?_
    refine Eq.trans (rl_bipush (c := 6) (k := (nI 6)) (by decide +kernel) (by decide)) ?_
    refine Eq.trans (rl_iload (j := 4) (by decide +kernel) rfl) ?_
    refine Eq.trans (rl_imul (by decide +kernel)) ?_
    refine Eq.trans (rl_iadd (by decide +kernel)) ?_
    refine Eq.trans (rl_iconst (c := 1) (k := (nI 1)) (by decide +kernel) (by decide)) ?_
    refine Eq.trans (rl_iadd (by decide +kernel)) ?_
    refine Eq.trans (rl_iloadn (j := 2) (by decide +kernel) rfl) ?_
    refine Eq.trans (rl_iast (by decide +kernel) ka31) ?_
    refine am_ite (fun h_4 => ?_) (fun _ => rfl)
    refine Eq.trans (rl_iload (j := 4) (by decide +kernel) rfl) ?_
    refine Eq.trans (rl_ifle (o := 35) 177 (by decide +kernel) (by decide)) ?_
    refine am_ite (fun h_5 => ?_) (fun h_5 => ?_)
    · skip
      refine Eq.trans (rl_aloadn (j := 0) (by decide +kernel) rfl) ?_
      refine Eq.trans (rl_getP (ix := 9) (ci := 9) (j := 0) (by decide +kernel) (by decide +kernel) (by decide +kernel) ck30 rfl) ?_
      refine Eq.trans (rl_bipush (c := 48) (k := (nI 48)) (by decide +kernel) (by decide)) ?_
      refine Eq.trans (rl_iconst (c := 2) (k := (nI 2)) (by decide +kernel) (by decide)) ?_
      refine Eq.trans (rl_iload (j := 4) (by decide +kernel) rfl) ?_
      refine Eq.trans (rl_iconst (c := 1) (k := (nI 1)) (by decide +kernel) (by decide)) ?_
      refine Eq.trans (rl_isub (by decide +kernel)) ?_
      refine Eq.trans (rl_imul (by decide +kernel)) ?_
      refine Eq.trans (rl_iadd (by decide +kernel)) ?_
      refine Eq.trans (rl_iloadn (j := 3) (by decide +kernel) rfl) ?_
      refine Eq.trans (rl_iast (by decide +kernel) ka31) ?_
      refine am_ite (fun h_6 => ?_) (fun _ => rfl)
      refine Eq.trans (rl_aloadn (j := 0) (by decide +kernel) rfl) ?_
      refine Eq.trans (rl_getP (ix := 9) (ci := 9) (j := 0) (by decide +kernel) (by decide +kernel) (by decide +kernel) ck30 rfl) ?_
      refine Eq.trans (rl_bipush (c := 48) (k := (nI 48)) (by decide +kernel) (by decide)) ?_
      refine Eq.trans (rl_iconst (c := 2) (k := (nI 2)) (by decide +kernel) (by decide)) ?_
      refine Eq.trans (rl_iload (j := 4) (by decide +kernel) rfl) ?_
      refine Eq.trans (rl_iconst (c := 1) (k := (nI 1)) (by decide +kernel) (by decide)) ?_
      refine Eq.trans (rl_isub (by decide +kernel)) ?_
      refine Eq.trans (rl_imul (by decide +kernel)) ?_
      refine Eq.trans (rl_iadd (by decide +kernel)) ?_
      refine Eq.trans (rl_iconst (c := 1) (k := (nI 1)) (by decide +kernel) (by decide)) ?_
      refine Eq.trans (rl_iadd (by decide +kernel)) ?_
      refine Eq.trans (rl_iconst (c := 0) (k := (nI 0)) (by decide +kernel) (by decide)) ?_
      refine Eq.trans (rl_iast (by decide +kernel) ka31) ?_
      refine am_ite (fun h_7 => ?_) (fun _ => rfl)
      rfl
    · skip
      rfl
theorem b132_177 {x1 x2 x3 x4 x5 : Int32} {M : am_M} {w : am_W4}  : am_rn call 132 177 [some (am_P (30, 0, 0)), some (am_I x1), some (am_I x2), some (am_I x3), some (am_I x4), some (am_I x5)] [] M (am_Z w) = am_cb (call 121 [am_P (30, 0, 0), am_I x4] (am_set M (31, 0, 0) 1 ((M (31, 0, 0) 1) + (nI 1))) (am_Z w)) fun v M' X' => am_rn call 132 193 [some (am_P (30, 0, 0)), some (am_I x1), some (am_I x2), some (am_I x3), some (am_I x4), some (am_I x5)] (v.toList ++ []) M' X' := by
  refine Eq.trans (rl_aloadn (j := 0) (by decide +kernel) rfl) ?_
  refine Eq.trans (rl_getP (ix := 9) (ci := 9) (j := 0) (by decide +kernel) (by decide +kernel) (by decide +kernel) ck30 rfl) ?_
  refine Eq.trans (rl_iconst (c := 1) (k := (nI 1)) (by decide +kernel) (by decide)) ?_
  refine Eq.trans (rl_dup2 (by decide +kernel) rfl rfl) ?_
  refine Eq.trans (rl_iald' 1 (by decide +kernel) ka31 rfl rfl) ?_
  refine Eq.trans (rl_iconst (c := 1) (k := (nI 1)) (by decide +kernel) (by decide)) ?_
  refine Eq.trans (rl_iadd (by decide +kernel)) ?_
  refine Eq.trans (rl_iast' 1 (by decide +kernel) ka31 rfl rfl) ?_
  refine Eq.trans (rl_aloadn (j := 0) (by decide +kernel) rfl) ?_
  refine Eq.trans (rl_iload (j := 4) (by decide +kernel) rfl) ?_
  refine Eq.trans (rl_inv (ix := 60) (n := 1) (o := 9) 121 [am_I x4] [] (by decide +kernel) (by decide +kernel) (by decide +kernel) (by decide +kernel) ⟨rfl, rfl⟩ rfl rfl ck30) ?_
  rfl
theorem b132_193 {x1 x2 x3 x4 x5 s0 : Int32} {M : am_M} {w : am_W4}  : am_rn call 132 193 [some (am_P (30, 0, 0)), some (am_I x1), some (am_I x2), some (am_I x3), some (am_I x4), some (am_I x5)] [am_I s0] M (am_Z w) = some (.inl (some (am_I s0)), M, (am_Z w)) := by
  exact rl_iret (by decide +kernel) rfl
theorem e132 {d : Nat} {x1 x2 x3 : Int32} {M : am_M} {w : am_W4}  : am_ev (d + 1) 132 [am_P (30, 0, 0), am_I x1, am_I x2, am_I x3] M (am_Z w) = am_cb ((am_ev d) 117 [am_P (30, 0, 0)] M (am_Z w)) fun v M' X' => am_rn (am_ev d) 132 4 [some (am_P (30, 0, 0)), some (am_I x1), some (am_I x2), some (am_I x3), none, none] (v.toList ++ []) M' X' := (am_ev_eq d 132 _ M (am_Z w)).trans (b132_0)
theorem b133_0 {x1 x2 : Int32} {M : am_M} {w : am_W4}  : am_rn call 133 0 [some (am_P (30, 0, 0)), some (am_I x1), some (am_I x2), none] [] M (am_Z w) = am_cb (call 117 [am_P (30, 0, 0)] M (am_Z w)) fun v M' X' => am_rn call 133 4 [some (am_P (30, 0, 0)), some (am_I x1), some (am_I x2), none] (v.toList ++ []) M' X' := by
  refine Eq.trans (rl_aloadn (j := 0) (by decide +kernel) rfl) ?_
  refine Eq.trans (rl_inv (ix := 71) (n := 0) (o := 9) 117 [] [] (by decide +kernel) (by decide +kernel) (by decide +kernel) (by decide +kernel) ⟨rfl, rfl⟩ rfl rfl ck30) ?_
  rfl
theorem b133_4 {x1 x2 : Int32} {M : am_M} {w : am_W4}  : am_rn call 133 4 [some (am_P (30, 0, 0)), some (am_I x1), some (am_I x2), none] [] M (am_Z w) = am_cb (call 116 [am_I x1, am_I (nI 1), am_I (nI 8)] M (am_Z w)) fun v M' X' => am_rn call 133 11 [some (am_P (30, 0, 0)), some (am_I x1), some (am_I x2), none] (v.toList ++ []) M' X' := by
  refine Eq.trans (rl_iloadn (j := 1) (by decide +kernel) rfl) ?_
  refine Eq.trans (rl_iconst (c := 1) (k := (nI 1)) (by decide +kernel) (by decide)) ?_
  refine Eq.trans (rl_bipush (c := 8) (k := (nI 8)) (by decide +kernel) (by decide)) ?_
  refine Eq.trans (rl_invS (ix := 67) (n := 3) (k := 1) 116 [am_I x1, am_I (nI 1), am_I (nI 8)] [] (by decide +kernel) (by decide +kernel) (by decide) (by decide +kernel) ⟨rfl, rfl⟩ rfl rfl) ?_
  rfl
theorem b133_11 {x1 x2 s0 : Int32} {M : am_M} {w : am_W4}  : am_rn call 133 11 [some (am_P (30, 0, 0)), some (am_I x1), some (am_I x2), none] [am_I s0] M (am_Z w) = if s0 = 0 then am_rn call 133 25 [some (am_P (30, 0, 0)), some (am_I x1), some (am_I x2), none] [] M (am_Z w) else am_cb (call 116 [am_I x2, am_I (nI 1), am_I (nI 150)] M (am_Z w)) fun v M' X' => am_rn call 133 22 [some (am_P (30, 0, 0)), some (am_I x1), some (am_I x2), none] (v.toList ++ []) M' X' := by
  refine Eq.trans (rl_ifeq (o := 14) 25 (by decide +kernel) (by decide)) ?_
  refine am_ite (fun h_1 => ?_) (fun h_1 => ?_)
  · skip
    rfl
  · skip
    refine Eq.trans (rl_iloadn (j := 2) (by decide +kernel) rfl) ?_
    refine Eq.trans (rl_iconst (c := 1) (k := (nI 1)) (by decide +kernel) (by decide)) ?_
    refine Eq.trans (rl_sipush (c := 150) (k := (nI 150)) (by decide +kernel) (by decide)) ?_
    refine Eq.trans (rl_invS (ix := 67) (n := 3) (k := 1) 116 [am_I x2, am_I (nI 1), am_I (nI 150)] [] (by decide +kernel) (by decide +kernel) (by decide) (by decide +kernel) ⟨rfl, rfl⟩ rfl rfl) ?_
    rfl
theorem b133_22 {x1 x2 s0 : Int32} {M : am_M} {w : am_W4}  : am_rn call 133 22 [some (am_P (30, 0, 0)), some (am_I x1), some (am_I x2), none] [am_I s0] M (am_Z w) = if s0 = 0 then am_rn call 133 25 [some (am_P (30, 0, 0)), some (am_I x1), some (am_I x2), none] [] M (am_Z w) else am_rn call 133 38 [some (am_P (30, 0, 0)), some (am_I x1), some (am_I x2), some (am_I (nI 1))] [] M (am_Z w) := by
  refine Eq.trans (rl_ifne (o := 14) 36 (by decide +kernel) (by decide)) ?_
  refine am_ite (fun h_1 => ?_) (fun h_1 => ?_)
  · skip
    rfl
  · skip
    refine Eq.trans (rl_iconst (c := 1) (k := (nI 1)) (by decide +kernel) (by decide)) ?_
    refine Eq.trans (rl_istoren (j := 3) (ls' := [some (am_P (30, 0, 0)), some (am_I x1), some (am_I x2), some (am_I (nI 1))]) (by decide +kernel) rfl rfl) ?_
    rfl
theorem b133_25 {x1 x2 : Int32} {M : am_M} {w : am_W4}  : am_rn call 133 25 [some (am_P (30, 0, 0)), some (am_I x1), some (am_I x2), none] [] M (am_Z w) = am_cb (call 122 [am_P (30, 0, 0), am_I (nI 1), am_I (nI 0)] M (am_Z w)) fun v M' X' => am_rn call 133 32 [some (am_P (30, 0, 0)), some (am_I x1), some (am_I x2), none] (v.toList ++ [am_P (30, 0, 0)]) M' X' := by
  refine Eq.trans (rl_aloadn (j := 0) (by decide +kernel) rfl) ?_
  refine Eq.trans (rl_aloadn (j := 0) (by decide +kernel) rfl) ?_
  refine Eq.trans (rl_iconst (c := 1) (k := (nI 1)) (by decide +kernel) (by decide)) ?_
  refine Eq.trans (rl_iconst (c := 0) (k := (nI 0)) (by decide +kernel) (by decide)) ?_
  refine Eq.trans (rl_inv (ix := 74) (n := 2) (o := 9) 122 [am_I (nI 1), am_I (nI 0)] [am_P (30, 0, 0)] (by decide +kernel) (by decide +kernel) (by decide +kernel) (by decide +kernel) ⟨rfl, rfl⟩ rfl rfl ck30) ?_
  rfl
theorem b133_32 {x1 x2 s0 : Int32} {M : am_M} {w : am_W4}  : am_rn call 133 32 [some (am_P (30, 0, 0)), some (am_I x1), some (am_I x2), none] [am_I s0, am_P (30, 0, 0)] M (am_Z w) = am_cb (call 124 [am_P (30, 0, 0), am_I s0] M (am_Z w)) fun v M' X' => am_rn call 133 35 [some (am_P (30, 0, 0)), some (am_I x1), some (am_I x2), none] (v.toList ++ []) M' X' := by
  refine Eq.trans (rl_inv (ix := 78) (n := 1) (o := 9) 124 [am_I s0] [] (by decide +kernel) (by decide +kernel) (by decide +kernel) (by decide +kernel) ⟨rfl, rfl⟩ rfl rfl ck30) ?_
  rfl
theorem b133_35 {x1 x2 s0 : Int32} {M : am_M} {w : am_W4}  : am_rn call 133 35 [some (am_P (30, 0, 0)), some (am_I x1), some (am_I x2), none] [am_I s0] M (am_Z w) = some (.inl (some (am_I s0)), M, (am_Z w)) := by
  exact rl_iret (by decide +kernel) rfl
theorem b133_38 {x1 x2 x3 : Int32} {M : am_M} {w : am_W4}  : am_rn call 133 38 [some (am_P (30, 0, 0)), some (am_I x1), some (am_I x2), some (am_I x3)] [] M (am_Z w) = if (nI 8) < x3 then if am_in (((nI 4) + x1) - (nI 1)) 364 then if am_in (((nI 4) + x1) - (nI 1)) 364 then am_cb (call 121 [am_P (30, 0, 0), am_I (M (31, 0, 0) (((nI 4) + x1) - (nI 1)).toNatClampNeg)] (am_set M (31, 0, 0) (((nI 4) + x1) - (nI 1)).toNatClampNeg x2) (am_Z w)) fun v M' X' => am_rn call 133 108 [some (am_P (30, 0, 0)), some (am_I x1), some (am_I x2), some (am_I (M (31, 0, 0) (((nI 4) + x1) - (nI 1)).toNatClampNeg))] (v.toList ++ []) M' X' else none else none else if x3 = x1 then am_rn call 133 75 [some (am_P (30, 0, 0)), some (am_I x1), some (am_I x2), some (am_I x3)] [] M (am_Z w) else if am_in (((nI 4) + x3) - (nI 1)) 364 then if (M (31, 0, 0) (((nI 4) + x3) - (nI 1)).toNatClampNeg) = x2 then am_cb (call 122 [am_P (30, 0, 0), am_I (nI 6), am_I x3] M (am_Z w)) fun v M' X' => am_rn call 133 71 [some (am_P (30, 0, 0)), some (am_I x1), some (am_I x2), some (am_I x3)] (v.toList ++ [am_P (30, 0, 0)]) M' X' else am_rn call 133 75 [some (am_P (30, 0, 0)), some (am_I x1), some (am_I x2), some (am_I x3)] [] M (am_Z w) else none := by
  refine Eq.trans (rl_iloadn (j := 3) (by decide +kernel) rfl) ?_
  refine Eq.trans (rl_bipush (c := 8) (k := (nI 8)) (by decide +kernel) (by decide)) ?_
  refine Eq.trans (rl_icgt (o := 40) 81 (by decide +kernel) (by decide)) ?_
  refine am_ite (fun h_1 => ?_) (fun h_1 => ?_)
  · skip
    refine Eq.trans (rl_aloadn (j := 0) (by decide +kernel) rfl) ?_
    refine Eq.trans (rl_getP (ix := 9) (ci := 9) (j := 0) (by decide +kernel) (by decide +kernel) (by decide +kernel) ck30 rfl) ?_
    refine Eq.trans (rl_iconst (c := 4) (k := (nI 4)) (by decide +kernel) (by decide)) ?_
    refine Eq.trans (rl_iloadn (j := 1) (by decide +kernel) rfl) ?_
    refine Eq.trans (rl_iadd (by decide +kernel)) ?_
    refine Eq.trans (rl_iconst (c := 1) (k := (nI 1)) (by decide +kernel) (by decide)) ?_
    refine Eq.trans (rl_isub (by decide +kernel)) ?_
    refine Eq.trans (rl_iald (by decide +kernel) ka31) ?_
    refine am_ite (fun h_2 => ?_) (fun _ => rfl)
    refine Eq.trans (rl_istoren (j := 3) (ls' := [some (am_P (30, 0, 0)), some (am_I x1), some (am_I x2), some (am_I (M (31, 0, 0) (((nI 4) + x1) - (nI 1)).toNatClampNeg))]) (by decide +kernel) rfl rfl) ?_
    refine Eq.trans (rl_aloadn (j := 0) (by decide +kernel) rfl) ?_
    refine Eq.trans (rl_getP (ix := 9) (ci := 9) (j := 0) (by decide +kernel) (by decide +kernel) (by decide +kernel) ck30 rfl) ?_
    refine Eq.trans (rl_iconst (c := 4) (k := (nI 4)) (by decide +kernel) (by decide)) ?_
    refine Eq.trans (rl_iloadn (j := 1) (by decide +kernel) rfl) ?_
    refine Eq.trans (rl_iadd (by decide +kernel)) ?_
    refine Eq.trans (rl_iconst (c := 1) (k := (nI 1)) (by decide +kernel) (by decide)) ?_
    refine Eq.trans (rl_isub (by decide +kernel)) ?_
    refine Eq.trans (rl_iloadn (j := 2) (by decide +kernel) rfl) ?_
    refine Eq.trans (rl_iast (by decide +kernel) ka31) ?_
    refine am_ite (fun h_3 => ?_) (fun _ => rfl)
    refine Eq.trans (rl_aloadn (j := 0) (by decide +kernel) rfl) ?_
    refine Eq.trans (rl_iloadn (j := 3) (by decide +kernel) rfl) ?_
    refine Eq.trans (rl_inv (ix := 60) (n := 1) (o := 9) 121 [am_I (M (31, 0, 0) (((nI 4) + x1) - (nI 1)).toNatClampNeg)] [] (by decide +kernel) (by decide +kernel) (by decide +kernel) (by decide +kernel) ⟨rfl, rfl⟩ rfl rfl ck30) ?_
    rfl
  · skip
    refine Eq.trans (rl_iloadn (j := 3) (by decide +kernel) rfl) ?_
    refine Eq.trans (rl_iloadn (j := 1) (by decide +kernel) rfl) ?_
    refine Eq.trans (rl_iceq (o := 29) 75 (by decide +kernel) (by decide)) ?_
    refine am_ite (fun h_4 => ?_) (fun h_4 => ?_)
    · skip
      rfl
    · skip
      refine Eq.trans (rl_aloadn (j := 0) (by decide +kernel) rfl) ?_
      refine Eq.trans (rl_getP (ix := 9) (ci := 9) (j := 0) (by decide +kernel) (by decide +kernel) (by decide +kernel) ck30 rfl) ?_
      refine Eq.trans (rl_iconst (c := 4) (k := (nI 4)) (by decide +kernel) (by decide)) ?_
      refine Eq.trans (rl_iloadn (j := 3) (by decide +kernel) rfl) ?_
      refine Eq.trans (rl_iadd (by decide +kernel)) ?_
      refine Eq.trans (rl_iconst (c := 1) (k := (nI 1)) (by decide +kernel) (by decide)) ?_
      refine Eq.trans (rl_isub (by decide +kernel)) ?_
      refine Eq.trans (rl_iald (by decide +kernel) ka31) ?_
      refine am_ite (fun h_5 => ?_) (fun _ => rfl)
      refine Eq.trans (rl_iloadn (j := 2) (by decide +kernel) rfl) ?_
      refine Eq.trans (rl_icne (o := 15) 75 (by decide +kernel) (by decide)) ?_
      refine am_ite (fun h_6 => ?_) (fun h_6 => ?_)
      · skip
        refine Eq.trans (rl_aloadn (j := 0) (by decide +kernel) rfl) ?_
        refine Eq.trans (rl_aloadn (j := 0) (by decide +kernel) rfl) ?_
        refine Eq.trans (rl_bipush (c := 6) (k := (nI 6)) (by decide +kernel) (by decide)) ?_
        refine Eq.trans (rl_iloadn (j := 3) (by decide +kernel) rfl) ?_
        refine Eq.trans (rl_inv (ix := 74) (n := 2) (o := 9) 122 [am_I (nI 6), am_I x3] [am_P (30, 0, 0)] (by decide +kernel) (by decide +kernel) (by decide +kernel) (by decide +kernel) ⟨rfl, rfl⟩ rfl rfl ck30) ?_
        rfl
      · skip
        rfl
theorem b133_71 {x1 x2 x3 s0 : Int32} {M : am_M} {w : am_W4}  : am_rn call 133 71 [some (am_P (30, 0, 0)), some (am_I x1), some (am_I x2), some (am_I x3)] [am_I s0, am_P (30, 0, 0)] M (am_Z w) = am_cb (call 124 [am_P (30, 0, 0), am_I s0] M (am_Z w)) fun v M' X' => am_rn call 133 74 [some (am_P (30, 0, 0)), some (am_I x1), some (am_I x2), some (am_I x3)] (v.toList ++ []) M' X' := by
  refine Eq.trans (rl_inv (ix := 78) (n := 1) (o := 9) 124 [am_I s0] [] (by decide +kernel) (by decide +kernel) (by decide +kernel) (by decide +kernel) ⟨rfl, rfl⟩ rfl rfl ck30) ?_
  rfl
theorem b133_74 {x1 x2 x3 s0 : Int32} {M : am_M} {w : am_W4}  : am_rn call 133 74 [some (am_P (30, 0, 0)), some (am_I x1), some (am_I x2), some (am_I x3)] [am_I s0] M (am_Z w) = some (.inl (some (am_I s0)), M, (am_Z w)) := by
  exact rl_iret (by decide +kernel) rfl
theorem b133_75 {x1 x2 x3 : Int32} {M : am_M} {w : am_W4}  : am_rn call 133 75 [some (am_P (30, 0, 0)), some (am_I x1), some (am_I x2), some (am_I x3)] [] M (am_Z w) = am_rn call 133 38 [some (am_P (30, 0, 0)), some (am_I x1), some (am_I x2), some (am_I (x3 + (nI 1)))] [] M (am_Z w) := by
  refine Eq.trans (rl_iinc (j := 3) (c := 1) (k := (nI 1)) (ls' := [some (am_P (30, 0, 0)), some (am_I x1), some (am_I x2), some (am_I (x3 + (nI 1)))]) (by decide +kernel) (by decide) rfl rfl) ?_
  refine Eq.trans (rl_goto (o := (-40)) 38 (by decide +kernel) (by decide)) ?_
  rfl
theorem b133_108 {x1 x2 x3 s0 : Int32} {M : am_M} {w : am_W4}  : am_rn call 133 108 [some (am_P (30, 0, 0)), some (am_I x1), some (am_I x2), some (am_I x3)] [am_I s0] M (am_Z w) = some (.inl (some (am_I s0)), M, (am_Z w)) := by
  exact rl_iret (by decide +kernel) rfl
theorem e133 {d : Nat} {x1 x2 : Int32} {M : am_M} {w : am_W4}  : am_ev (d + 1) 133 [am_P (30, 0, 0), am_I x1, am_I x2] M (am_Z w) = am_cb ((am_ev d) 117 [am_P (30, 0, 0)] M (am_Z w)) fun v M' X' => am_rn (am_ev d) 133 4 [some (am_P (30, 0, 0)), some (am_I x1), some (am_I x2), none] (v.toList ++ []) M' X' := (am_ev_eq d 133 _ M (am_Z w)).trans (b133_0)
theorem b134_0 {x1 x2 x3 : Int32} {M : am_M} {w : am_W4}  : am_rn call 134 0 [some (am_P (30, 0, 0)), some (am_I x1), some (am_I x2), some (am_I x3)] [] M (am_Z w) = am_cb (call 125 [am_P (30, 0, 0), am_I x1] M (am_Z w)) fun v M' X' => am_rn call 134 5 [some (am_P (30, 0, 0)), some (am_I x1), some (am_I x2), some (am_I x3)] (v.toList ++ []) M' X' := by
  refine Eq.trans (rl_aloadn (j := 0) (by decide +kernel) rfl) ?_
  refine Eq.trans (rl_iloadn (j := 1) (by decide +kernel) rfl) ?_
  refine Eq.trans (rl_inv (ix := 82) (n := 1) (o := 9) 125 [am_I x1] [] (by decide +kernel) (by decide +kernel) (by decide +kernel) (by decide +kernel) ⟨rfl, rfl⟩ rfl rfl ck30) ?_
  rfl
theorem b134_5 {x1 x2 x3 s0 : Int32} {M : am_M} {w : am_W4}  : am_rn call 134 5 [some (am_P (30, 0, 0)), some (am_I x1), some (am_I x2), some (am_I x3)] [am_I s0] M (am_Z w) = if s0 = 0 then am_cb (call 122 [am_P (30, 0, 0), am_I (nI 3), am_I x1] M (am_Z w)) fun v M' X' => am_rn call 134 14 [some (am_P (30, 0, 0)), some (am_I x1), some (am_I x2), some (am_I x3)] (v.toList ++ []) M' X' else am_cb (call 116 [am_I x2, am_I (nI 0), am_I (nI 23)] M (am_Z w)) fun v M' X' => am_rn call 134 22 [some (am_P (30, 0, 0)), some (am_I x1), some (am_I x2), some (am_I x3)] (v.toList ++ []) M' X' := by
  refine Eq.trans (rl_ifne (o := 10) 15 (by decide +kernel) (by decide)) ?_
  refine am_ite (fun h_1 => ?_) (fun h_1 => ?_)
  · skip
    refine Eq.trans (rl_aloadn (j := 0) (by decide +kernel) rfl) ?_
    refine Eq.trans (rl_iconst (c := 3) (k := (nI 3)) (by decide +kernel) (by decide)) ?_
    refine Eq.trans (rl_iloadn (j := 1) (by decide +kernel) rfl) ?_
    refine Eq.trans (rl_inv (ix := 74) (n := 2) (o := 9) 122 [am_I (nI 3), am_I x1] [] (by decide +kernel) (by decide +kernel) (by decide +kernel) (by decide +kernel) ⟨rfl, rfl⟩ rfl rfl ck30) ?_
    rfl
  · skip
    refine Eq.trans (rl_iloadn (j := 2) (by decide +kernel) rfl) ?_
    refine Eq.trans (rl_iconst (c := 0) (k := (nI 0)) (by decide +kernel) (by decide)) ?_
    refine Eq.trans (rl_bipush (c := 23) (k := (nI 23)) (by decide +kernel) (by decide)) ?_
    refine Eq.trans (rl_invS (ix := 67) (n := 3) (k := 1) 116 [am_I x2, am_I (nI 0), am_I (nI 23)] [] (by decide +kernel) (by decide +kernel) (by decide) (by decide +kernel) ⟨rfl, rfl⟩ rfl rfl) ?_
    rfl
theorem b134_14 {x1 x2 x3 s0 : Int32} {M : am_M} {w : am_W4}  : am_rn call 134 14 [some (am_P (30, 0, 0)), some (am_I x1), some (am_I x2), some (am_I x3)] [am_I s0] M (am_Z w) = if am_pc 1 s0 = true then some (.inl (some (am_I s0)), M, (am_Z w)) else none := by
  exact rl_zret (by decide +kernel) rfl
theorem b134_22 {x1 x2 x3 s0 : Int32} {M : am_M} {w : am_W4}  : am_rn call 134 22 [some (am_P (30, 0, 0)), some (am_I x1), some (am_I x2), some (am_I x3)] [am_I s0] M (am_Z w) = if s0 = 0 then am_rn call 134 35 [some (am_P (30, 0, 0)), some (am_I x1), some (am_I x2), some (am_I x3)] [] M (am_Z w) else am_cb (call 116 [am_I x3, am_I (nI 0), am_I (nI 23)] M (am_Z w)) fun v M' X' => am_rn call 134 32 [some (am_P (30, 0, 0)), some (am_I x1), some (am_I x2), some (am_I x3)] (v.toList ++ []) M' X' := by
  refine Eq.trans (rl_ifeq (o := 13) 35 (by decide +kernel) (by decide)) ?_
  refine am_ite (fun h_1 => ?_) (fun h_1 => ?_)
  · skip
    rfl
  · skip
    refine Eq.trans (rl_iloadn (j := 3) (by decide +kernel) rfl) ?_
    refine Eq.trans (rl_iconst (c := 0) (k := (nI 0)) (by decide +kernel) (by decide)) ?_
    refine Eq.trans (rl_bipush (c := 23) (k := (nI 23)) (by decide +kernel) (by decide)) ?_
    refine Eq.trans (rl_invS (ix := 67) (n := 3) (k := 1) 116 [am_I x3, am_I (nI 0), am_I (nI 23)] [] (by decide +kernel) (by decide +kernel) (by decide) (by decide +kernel) ⟨rfl, rfl⟩ rfl rfl) ?_
    rfl
theorem b134_32 {x1 x2 x3 s0 : Int32} {M : am_M} {w : am_W4}  : am_rn call 134 32 [some (am_P (30, 0, 0)), some (am_I x1), some (am_I x2), some (am_I x3)] [am_I s0] M (am_Z w) = if s0 = 0 then am_rn call 134 35 [some (am_P (30, 0, 0)), some (am_I x1), some (am_I x2), some (am_I x3)] [] M (am_Z w) else if am_in (((nI 12) + ((nI 6) * x1)) + (nI 2)) 364 then if am_in (((nI 12) + ((nI 6) * x1)) + (nI 3)) 364 then am_cb (call 123 [am_P (30, 0, 0), am_I (((x3 - x2) + (nI 24)) - ((x3 - x2) + (nI 24)) / (nI 24) * (nI 24))] (am_set (am_set M (31, 0, 0) (((nI 12) + ((nI 6) * x1)) + (nI 2)).toNatClampNeg x2) (31, 0, 0) (((nI 12) + ((nI 6) * x1)) + (nI 3)).toNatClampNeg x3) (am_Z w)) fun v M' X' => am_rn call 134 85 [some (am_P (30, 0, 0)), some (am_I x1), some (am_I x2), some (am_I x3)] (v.toList ++ []) M' X' else none else none := by
  refine Eq.trans (rl_ifne (o := 10) 42 (by decide +kernel) (by decide)) ?_
  refine am_ite (fun h_1 => ?_) (fun h_1 => ?_)
  · skip
    rfl
  · skip
    refine Eq.trans (rl_aloadn (j := 0) (by decide +kernel) rfl) ?_
    refine Eq.trans (rl_getP (ix := 9) (ci := 9) (j := 0) (by decide +kernel) (by decide +kernel) (by decide +kernel) ck30 rfl) ?_
    refine Eq.trans (rl_bipush (c := 12) (k := (nI 12)) (by decide +kernel) (by decide)) ?_
    refine Eq.trans (rl_bipush (c := 6) (k := (nI 6)) (by decide +kernel) (by decide)) ?_
    refine Eq.trans (rl_iloadn (j := 1) (by decide +kernel) rfl) ?_
    refine Eq.trans (rl_imul (by decide +kernel)) ?_
    refine Eq.trans (rl_iadd (by decide +kernel)) ?_
    refine Eq.trans (rl_iconst (c := 2) (k := (nI 2)) (by decide +kernel) (by decide)) ?_
    refine Eq.trans (rl_iadd (by decide +kernel)) ?_
    refine Eq.trans (rl_iloadn (j := 2) (by decide +kernel) rfl) ?_
    refine Eq.trans (rl_iast (by decide +kernel) ka31) ?_
    refine am_ite (fun h_2 => ?_) (fun _ => rfl)
    refine Eq.trans (rl_aloadn (j := 0) (by decide +kernel) rfl) ?_
    refine Eq.trans (rl_getP (ix := 9) (ci := 9) (j := 0) (by decide +kernel) (by decide +kernel) (by decide +kernel) ck30 rfl) ?_
    refine Eq.trans (rl_bipush (c := 12) (k := (nI 12)) (by decide +kernel) (by decide)) ?_
    refine Eq.trans (rl_bipush (c := 6) (k := (nI 6)) (by decide +kernel) (by decide)) ?_
    refine Eq.trans (rl_iloadn (j := 1) (by decide +kernel) rfl) ?_
    refine Eq.trans (rl_imul (by decide +kernel)) ?_
    refine Eq.trans (rl_iadd (by decide +kernel)) ?_
    refine Eq.trans (rl_iconst (c := 3) (k := (nI 3)) (by decide +kernel) (by decide)) ?_
    refine Eq.trans (rl_iadd (by decide +kernel)) ?_
    refine Eq.trans (rl_iloadn (j := 3) (by decide +kernel) rfl) ?_
    refine Eq.trans (rl_iast (by decide +kernel) ka31) ?_
    refine am_ite (fun h_3 => ?_) (fun _ => rfl)
    refine Eq.trans (rl_aloadn (j := 0) (by decide +kernel) rfl) ?_
    refine Eq.trans (rl_iloadn (j := 3) (by decide +kernel) rfl) ?_
    refine Eq.trans (rl_iloadn (j := 2) (by decide +kernel) rfl) ?_
    refine Eq.trans (rl_isub (by decide +kernel)) ?_
    refine Eq.trans (rl_bipush (c := 24) (k := (nI 24)) (by decide +kernel) (by decide)) ?_
    refine Eq.trans (rl_iadd (by decide +kernel)) ?_
    refine Eq.trans (rl_bipush (c := 24) (k := (nI 24)) (by decide +kernel) (by decide)) ?_
    refine Eq.trans (rl_irem (by decide +kernel) rfl) ?_
    refine Eq.trans (rl_inv (ix := 86) (n := 1) (o := 9) 123 [am_I (((x3 - x2) + (nI 24)) - ((x3 - x2) + (nI 24)) / (nI 24) * (nI 24))] [] (by decide +kernel) (by decide +kernel) (by decide +kernel) (by decide +kernel) ⟨rfl, rfl⟩ rfl rfl ck30) ?_
    rfl
theorem b134_35 {x1 x2 x3 : Int32} {M : am_M} {w : am_W4}  : am_rn call 134 35 [some (am_P (30, 0, 0)), some (am_I x1), some (am_I x2), some (am_I x3)] [] M (am_Z w) = am_cb (call 122 [am_P (30, 0, 0), am_I (nI 1), am_I (nI 0)] M (am_Z w)) fun v M' X' => am_rn call 134 41 [some (am_P (30, 0, 0)), some (am_I x1), some (am_I x2), some (am_I x3)] (v.toList ++ []) M' X' := by
  refine Eq.trans (rl_aloadn (j := 0) (by decide +kernel) rfl) ?_
  refine Eq.trans (rl_iconst (c := 1) (k := (nI 1)) (by decide +kernel) (by decide)) ?_
  refine Eq.trans (rl_iconst (c := 0) (k := (nI 0)) (by decide +kernel) (by decide)) ?_
  refine Eq.trans (rl_inv (ix := 74) (n := 2) (o := 9) 122 [am_I (nI 1), am_I (nI 0)] [] (by decide +kernel) (by decide +kernel) (by decide +kernel) (by decide +kernel) ⟨rfl, rfl⟩ rfl rfl ck30) ?_
  rfl
theorem b134_41 {x1 x2 x3 s0 : Int32} {M : am_M} {w : am_W4}  : am_rn call 134 41 [some (am_P (30, 0, 0)), some (am_I x1), some (am_I x2), some (am_I x3)] [am_I s0] M (am_Z w) = if am_pc 1 s0 = true then some (.inl (some (am_I s0)), M, (am_Z w)) else none := by
  exact rl_zret (by decide +kernel) rfl
theorem b134_85 {x1 x2 x3 s0 : Int32} {M : am_M} {w : am_W4}  : am_rn call 134 85 [some (am_P (30, 0, 0)), some (am_I x1), some (am_I x2), some (am_I x3)] [am_I s0] M (am_Z w) = if am_pc 1 s0 = true then some (.inl (some (am_I s0)), M, (am_Z w)) else none := by
  exact rl_zret (by decide +kernel) rfl
theorem e134 {d : Nat} {x1 x2 x3 : Int32} {M : am_M} {w : am_W4}  : am_ev (d + 1) 134 [am_P (30, 0, 0), am_I x1, am_I x2, am_I x3] M (am_Z w) = am_cb ((am_ev d) 125 [am_P (30, 0, 0), am_I x1] M (am_Z w)) fun v M' X' => am_rn (am_ev d) 134 5 [some (am_P (30, 0, 0)), some (am_I x1), some (am_I x2), some (am_I x3)] (v.toList ++ []) M' X' := (am_ev_eq d 134 _ M (am_Z w)).trans (b134_0)
theorem b135_0 {x1 x2 x3 : Int32} {M : am_M} {w : am_W4}  : am_rn call 135 0 [some (am_P (30, 0, 0)), some (am_I x1), some (am_I x2), some (am_I x3)] [] M (am_Z w) = am_cb (call 117 [am_P (30, 0, 0)] M (am_Z w)) fun v M' X' => am_rn call 135 4 [some (am_P (30, 0, 0)), some (am_I x1), some (am_I x2), some (am_I x3)] (v.toList ++ []) M' X' := by
  refine Eq.trans (rl_aloadn (j := 0) (by decide +kernel) rfl) ?_
  refine Eq.trans (rl_inv (ix := 71) (n := 0) (o := 9) 117 [] [] (by decide +kernel) (by decide +kernel) (by decide +kernel) (by decide +kernel) ⟨rfl, rfl⟩ rfl rfl ck30) ?_
  rfl
theorem b135_4 {x1 x2 x3 : Int32} {M : am_M} {w : am_W4}  : am_rn call 135 4 [some (am_P (30, 0, 0)), some (am_I x1), some (am_I x2), some (am_I x3)] [] M (am_Z w) = am_cb (call 134 [am_P (30, 0, 0), am_I x1, am_I x2, am_I x3] M (am_Z w)) fun v M' X' => am_rn call 135 12 [some (am_P (30, 0, 0)), some (am_I x1), some (am_I x2), some (am_I x3)] (v.toList ++ [am_P (30, 0, 0)]) M' X' := by
  refine Eq.trans (rl_aloadn (j := 0) (by decide +kernel) rfl) ?_
  refine Eq.trans (rl_aloadn (j := 0) (by decide +kernel) rfl) ?_
  refine Eq.trans (rl_iloadn (j := 1) (by decide +kernel) rfl) ?_
  refine Eq.trans (rl_iloadn (j := 2) (by decide +kernel) rfl) ?_
  refine Eq.trans (rl_iloadn (j := 3) (by decide +kernel) rfl) ?_
  refine Eq.trans (rl_inv (ix := 89) (n := 3) (o := 9) 134 [am_I x1, am_I x2, am_I x3] [am_P (30, 0, 0)] (by decide +kernel) (by decide +kernel) (by decide +kernel) (by decide +kernel) ⟨rfl, rfl⟩ rfl rfl ck30) ?_
  rfl
theorem b135_12 {x1 x2 x3 s0 : Int32} {M : am_M} {w : am_W4}  : am_rn call 135 12 [some (am_P (30, 0, 0)), some (am_I x1), some (am_I x2), some (am_I x3)] [am_I s0, am_P (30, 0, 0)] M (am_Z w) = am_cb (call 124 [am_P (30, 0, 0), am_I s0] M (am_Z w)) fun v M' X' => am_rn call 135 15 [some (am_P (30, 0, 0)), some (am_I x1), some (am_I x2), some (am_I x3)] (v.toList ++ []) M' X' := by
  refine Eq.trans (rl_inv (ix := 78) (n := 1) (o := 9) 124 [am_I s0] [] (by decide +kernel) (by decide +kernel) (by decide +kernel) (by decide +kernel) ⟨rfl, rfl⟩ rfl rfl ck30) ?_
  rfl
theorem b135_15 {x1 x2 x3 s0 : Int32} {M : am_M} {w : am_W4}  : am_rn call 135 15 [some (am_P (30, 0, 0)), some (am_I x1), some (am_I x2), some (am_I x3)] [am_I s0] M (am_Z w) = some (.inl (some (am_I s0)), M, (am_Z w)) := by
  exact rl_iret (by decide +kernel) rfl
theorem e135 {d : Nat} {x1 x2 x3 : Int32} {M : am_M} {w : am_W4}  : am_ev (d + 1) 135 [am_P (30, 0, 0), am_I x1, am_I x2, am_I x3] M (am_Z w) = am_cb ((am_ev d) 117 [am_P (30, 0, 0)] M (am_Z w)) fun v M' X' => am_rn (am_ev d) 135 4 [some (am_P (30, 0, 0)), some (am_I x1), some (am_I x2), some (am_I x3)] (v.toList ++ []) M' X' := (am_ev_eq d 135 _ M (am_Z w)).trans (b135_0)
theorem b136_0 {x1 x2 : Int32} {M : am_M} {w : am_W4}  : am_rn call 136 0 [some (am_P (30, 0, 0)), some (am_I x1), some (am_I x2), none] [] M (am_Z w) = am_cb (call 126 [am_P (30, 0, 0), am_I x1] M (am_Z w)) fun v M' X' => am_rn call 136 5 [some (am_P (30, 0, 0)), some (am_I x1), some (am_I x2), none] (v.toList ++ []) M' X' := by
  refine Eq.trans (rl_aloadn (j := 0) (by decide +kernel) rfl) ?_
  refine Eq.trans (rl_iloadn (j := 1) (by decide +kernel) rfl) ?_
  refine Eq.trans (rl_inv (ix := 92) (n := 1) (o := 9) 126 [am_I x1] [] (by decide +kernel) (by decide +kernel) (by decide +kernel) (by decide +kernel) ⟨rfl, rfl⟩ rfl rfl ck30) ?_
  rfl
theorem b136_5 {x1 x2 s0 : Int32} {M : am_M} {w : am_W4}  : am_rn call 136 5 [some (am_P (30, 0, 0)), some (am_I x1), some (am_I x2), none] [am_I s0] M (am_Z w) = if s0 = 0 then am_cb (call 122 [am_P (30, 0, 0), am_I (nI 3), am_I x1] M (am_Z w)) fun v M' X' => am_rn call 136 14 [some (am_P (30, 0, 0)), some (am_I x1), some (am_I x2), none] (v.toList ++ []) M' X' else am_cb (call 116 [am_I x2, am_I (nI 0), am_I (nI 9)] M (am_Z w)) fun v M' X' => am_rn call 136 22 [some (am_P (30, 0, 0)), some (am_I x1), some (am_I x2), none] (v.toList ++ []) M' X' := by
  refine Eq.trans (rl_ifne (o := 10) 15 (by decide +kernel) (by decide)) ?_
  refine am_ite (fun h_1 => ?_) (fun h_1 => ?_)
  · skip
    refine Eq.trans (rl_aloadn (j := 0) (by decide +kernel) rfl) ?_
    refine Eq.trans (rl_iconst (c := 3) (k := (nI 3)) (by decide +kernel) (by decide)) ?_
    refine Eq.trans (rl_iloadn (j := 1) (by decide +kernel) rfl) ?_
    refine Eq.trans (rl_inv (ix := 74) (n := 2) (o := 9) 122 [am_I (nI 3), am_I x1] [] (by decide +kernel) (by decide +kernel) (by decide +kernel) (by decide +kernel) ⟨rfl, rfl⟩ rfl rfl ck30) ?_
    rfl
  · skip
    refine Eq.trans (rl_iloadn (j := 2) (by decide +kernel) rfl) ?_
    refine Eq.trans (rl_iconst (c := 0) (k := (nI 0)) (by decide +kernel) (by decide)) ?_
    refine Eq.trans (rl_bipush (c := 9) (k := (nI 9)) (by decide +kernel) (by decide)) ?_
    refine Eq.trans (rl_invS (ix := 67) (n := 3) (k := 1) 116 [am_I x2, am_I (nI 0), am_I (nI 9)] [] (by decide +kernel) (by decide +kernel) (by decide) (by decide +kernel) ⟨rfl, rfl⟩ rfl rfl) ?_
    rfl
theorem b136_14 {x1 x2 s0 : Int32} {M : am_M} {w : am_W4}  : am_rn call 136 14 [some (am_P (30, 0, 0)), some (am_I x1), some (am_I x2), none] [am_I s0] M (am_Z w) = if am_pc 1 s0 = true then some (.inl (some (am_I s0)), M, (am_Z w)) else none := by
  exact rl_zret (by decide +kernel) rfl
theorem b136_22 {x1 x2 s0 : Int32} {M : am_M} {w : am_W4}  : am_rn call 136 22 [some (am_P (30, 0, 0)), some (am_I x1), some (am_I x2), none] [am_I s0] M (am_Z w) = if s0 = 0 then am_cb (call 122 [am_P (30, 0, 0), am_I (nI 1), am_I (nI 0)] M (am_Z w)) fun v M' X' => am_rn call 136 31 [some (am_P (30, 0, 0)), some (am_I x1), some (am_I x2), none] (v.toList ++ []) M' X' else am_cb (call 131 [am_P (30, 0, 0), am_I x1] M (am_Z w)) fun v M' X' => am_rn call 136 37 [some (am_P (30, 0, 0)), some (am_I x1), some (am_I x2), none] (v.toList ++ []) M' X' := by
  refine Eq.trans (rl_ifne (o := 10) 32 (by decide +kernel) (by decide)) ?_
  refine am_ite (fun h_1 => ?_) (fun h_1 => ?_)
  · skip
    refine Eq.trans (rl_aloadn (j := 0) (by decide +kernel) rfl) ?_
    refine Eq.trans (rl_iconst (c := 1) (k := (nI 1)) (by decide +kernel) (by decide)) ?_
    refine Eq.trans (rl_iconst (c := 0) (k := (nI 0)) (by decide +kernel) (by decide)) ?_
    refine Eq.trans (rl_inv (ix := 74) (n := 2) (o := 9) 122 [am_I (nI 1), am_I (nI 0)] [] (by decide +kernel) (by decide +kernel) (by decide +kernel) (by decide +kernel) ⟨rfl, rfl⟩ rfl rfl ck30) ?_
    rfl
  · skip
    refine Eq.trans (rl_aloadn (j := 0) (by decide +kernel) rfl) ?_
    refine Eq.trans (rl_iloadn (j := 1) (by decide +kernel) rfl) ?_
    refine Eq.trans (rl_inv (ix := 95) (n := 1) (o := 9) 131 [am_I x1] [] (by decide +kernel) (by decide +kernel) (by decide +kernel) (by decide +kernel) ⟨rfl, rfl⟩ rfl rfl ck30) ?_
    rfl
theorem b136_31 {x1 x2 s0 : Int32} {M : am_M} {w : am_W4}  : am_rn call 136 31 [some (am_P (30, 0, 0)), some (am_I x1), some (am_I x2), none] [am_I s0] M (am_Z w) = if am_pc 1 s0 = true then some (.inl (some (am_I s0)), M, (am_Z w)) else none := by
  exact rl_zret (by decide +kernel) rfl
theorem b136_37 {x1 x2 s0 : Int32} {M : am_M} {w : am_W4}  : am_rn call 136 37 [some (am_P (30, 0, 0)), some (am_I x1), some (am_I x2), none] [am_I s0] M (am_Z w) = if am_in (((nI 48) + ((nI 2) * x1)) + (nI 1)) 364 then am_cb (call 123 [am_P (30, 0, 0), am_I s0] (am_set M (31, 0, 0) (((nI 48) + ((nI 2) * x1)) + (nI 1)).toNatClampNeg x2) (am_Z w)) fun v M' X' => am_rn call 136 57 [some (am_P (30, 0, 0)), some (am_I x1), some (am_I x2), some (am_I s0)] (v.toList ++ []) M' X' else none := by
  refine Eq.trans (rl_istoren (j := 3) (ls' := [some (am_P (30, 0, 0)), some (am_I x1), some (am_I x2), some (am_I s0)]) (by decide +kernel) rfl rfl) ?_
  refine Eq.trans (rl_aloadn (j := 0) (by decide +kernel) rfl) ?_
  refine Eq.trans (rl_getP (ix := 9) (ci := 9) (j := 0) (by decide +kernel) (by decide +kernel) (by decide +kernel) ck30 rfl) ?_
  refine Eq.trans (rl_bipush (c := 48) (k := (nI 48)) (by decide +kernel) (by decide)) ?_
  refine Eq.trans (rl_iconst (c := 2) (k := (nI 2)) (by decide +kernel) (by decide)) ?_
  refine Eq.trans (rl_iloadn (j := 1) (by decide +kernel) rfl) ?_
  refine Eq.trans (rl_imul (by decide +kernel)) ?_
  refine Eq.trans (rl_iadd (by decide +kernel)) ?_
  refine Eq.trans (rl_iconst (c := 1) (k := (nI 1)) (by decide +kernel) (by decide)) ?_
  refine Eq.trans (rl_iadd (by decide +kernel)) ?_
  refine Eq.trans (rl_iloadn (j := 2) (by decide +kernel) rfl) ?_
  refine Eq.trans (rl_iast (by decide +kernel) ka31) ?_
  refine am_ite (fun h_1 => ?_) (fun _ => rfl)
  refine Eq.trans (rl_aloadn (j := 0) (by decide +kernel) rfl) ?_
  refine Eq.trans (rl_iloadn (j := 3) (by decide +kernel) rfl) ?_
  refine Eq.trans (rl_inv (ix := 86) (n := 1) (o := 9) 123 [am_I s0] [] (by decide +kernel) (by decide +kernel) (by decide +kernel) (by decide +kernel) ⟨rfl, rfl⟩ rfl rfl ck30) ?_
  rfl
theorem b136_57 {x1 x2 x3 s0 : Int32} {M : am_M} {w : am_W4}  : am_rn call 136 57 [some (am_P (30, 0, 0)), some (am_I x1), some (am_I x2), some (am_I x3)] [am_I s0] M (am_Z w) = if am_pc 1 s0 = true then some (.inl (some (am_I s0)), M, (am_Z w)) else none := by
  exact rl_zret (by decide +kernel) rfl
theorem e136 {d : Nat} {x1 x2 : Int32} {M : am_M} {w : am_W4}  : am_ev (d + 1) 136 [am_P (30, 0, 0), am_I x1, am_I x2] M (am_Z w) = am_cb ((am_ev d) 126 [am_P (30, 0, 0), am_I x1] M (am_Z w)) fun v M' X' => am_rn (am_ev d) 136 5 [some (am_P (30, 0, 0)), some (am_I x1), some (am_I x2), none] (v.toList ++ []) M' X' := (am_ev_eq d 136 _ M (am_Z w)).trans (b136_0)
theorem b137_0 {x1 x2 : Int32} {M : am_M} {w : am_W4}  : am_rn call 137 0 [some (am_P (30, 0, 0)), some (am_I x1), some (am_I x2)] [] M (am_Z w) = am_cb (call 117 [am_P (30, 0, 0)] M (am_Z w)) fun v M' X' => am_rn call 137 4 [some (am_P (30, 0, 0)), some (am_I x1), some (am_I x2)] (v.toList ++ []) M' X' := by
  refine Eq.trans (rl_aloadn (j := 0) (by decide +kernel) rfl) ?_
  refine Eq.trans (rl_inv (ix := 71) (n := 0) (o := 9) 117 [] [] (by decide +kernel) (by decide +kernel) (by decide +kernel) (by decide +kernel) ⟨rfl, rfl⟩ rfl rfl ck30) ?_
  rfl
theorem b137_4 {x1 x2 : Int32} {M : am_M} {w : am_W4}  : am_rn call 137 4 [some (am_P (30, 0, 0)), some (am_I x1), some (am_I x2)] [] M (am_Z w) = am_cb (call 136 [am_P (30, 0, 0), am_I x1, am_I x2] M (am_Z w)) fun v M' X' => am_rn call 137 11 [some (am_P (30, 0, 0)), some (am_I x1), some (am_I x2)] (v.toList ++ [am_P (30, 0, 0)]) M' X' := by
  refine Eq.trans (rl_aloadn (j := 0) (by decide +kernel) rfl) ?_
  refine Eq.trans (rl_aloadn (j := 0) (by decide +kernel) rfl) ?_
  refine Eq.trans (rl_iloadn (j := 1) (by decide +kernel) rfl) ?_
  refine Eq.trans (rl_iloadn (j := 2) (by decide +kernel) rfl) ?_
  refine Eq.trans (rl_inv (ix := 98) (n := 2) (o := 9) 136 [am_I x1, am_I x2] [am_P (30, 0, 0)] (by decide +kernel) (by decide +kernel) (by decide +kernel) (by decide +kernel) ⟨rfl, rfl⟩ rfl rfl ck30) ?_
  rfl
theorem b137_11 {x1 x2 s0 : Int32} {M : am_M} {w : am_W4}  : am_rn call 137 11 [some (am_P (30, 0, 0)), some (am_I x1), some (am_I x2)] [am_I s0, am_P (30, 0, 0)] M (am_Z w) = am_cb (call 124 [am_P (30, 0, 0), am_I s0] M (am_Z w)) fun v M' X' => am_rn call 137 14 [some (am_P (30, 0, 0)), some (am_I x1), some (am_I x2)] (v.toList ++ []) M' X' := by
  refine Eq.trans (rl_inv (ix := 78) (n := 1) (o := 9) 124 [am_I s0] [] (by decide +kernel) (by decide +kernel) (by decide +kernel) (by decide +kernel) ⟨rfl, rfl⟩ rfl rfl ck30) ?_
  rfl
theorem b137_14 {x1 x2 s0 : Int32} {M : am_M} {w : am_W4}  : am_rn call 137 14 [some (am_P (30, 0, 0)), some (am_I x1), some (am_I x2)] [am_I s0] M (am_Z w) = some (.inl (some (am_I s0)), M, (am_Z w)) := by
  exact rl_iret (by decide +kernel) rfl
theorem e137 {d : Nat} {x1 x2 : Int32} {M : am_M} {w : am_W4}  : am_ev (d + 1) 137 [am_P (30, 0, 0), am_I x1, am_I x2] M (am_Z w) = am_cb ((am_ev d) 117 [am_P (30, 0, 0)] M (am_Z w)) fun v M' X' => am_rn (am_ev d) 137 4 [some (am_P (30, 0, 0)), some (am_I x1), some (am_I x2)] (v.toList ++ []) M' X' := (am_ev_eq d 137 _ M (am_Z w)).trans (b137_0)
theorem b138_0 {x1 x2 : Int32} {M : am_M} {w : am_W4}  : am_rn call 138 0 [some (am_P (30, 0, 0)), some (am_I x1), some (am_I x2), none] [] M (am_Z w) = am_cb (call 125 [am_P (30, 0, 0), am_I x1] M (am_Z w)) fun v M' X' => am_rn call 138 5 [some (am_P (30, 0, 0)), some (am_I x1), some (am_I x2), none] (v.toList ++ []) M' X' := by
  refine Eq.trans (rl_aloadn (j := 0) (by decide +kernel) rfl) ?_
  refine Eq.trans (rl_iloadn (j := 1) (by decide +kernel) rfl) ?_
  refine Eq.trans (rl_inv (ix := 82) (n := 1) (o := 9) 125 [am_I x1] [] (by decide +kernel) (by decide +kernel) (by decide +kernel) (by decide +kernel) ⟨rfl, rfl⟩ rfl rfl ck30) ?_
  rfl
theorem b138_5 {x1 x2 s0 : Int32} {M : am_M} {w : am_W4}  : am_rn call 138 5 [some (am_P (30, 0, 0)), some (am_I x1), some (am_I x2), none] [am_I s0] M (am_Z w) = if s0 = 0 then am_cb (call 122 [am_P (30, 0, 0), am_I (nI 3), am_I x1] M (am_Z w)) fun v M' X' => am_rn call 138 14 [some (am_P (30, 0, 0)), some (am_I x1), some (am_I x2), none] (v.toList ++ []) M' X' else am_cb (call 116 [am_I x2, am_I (nI 0), am_I (nI 9)] M (am_Z w)) fun v M' X' => am_rn call 138 22 [some (am_P (30, 0, 0)), some (am_I x1), some (am_I x2), none] (v.toList ++ []) M' X' := by
  refine Eq.trans (rl_ifne (o := 10) 15 (by decide +kernel) (by decide)) ?_
  refine am_ite (fun h_1 => ?_) (fun h_1 => ?_)
  · skip
    refine Eq.trans (rl_aloadn (j := 0) (by decide +kernel) rfl) ?_
    refine Eq.trans (rl_iconst (c := 3) (k := (nI 3)) (by decide +kernel) (by decide)) ?_
    refine Eq.trans (rl_iloadn (j := 1) (by decide +kernel) rfl) ?_
    refine Eq.trans (rl_inv (ix := 74) (n := 2) (o := 9) 122 [am_I (nI 3), am_I x1] [] (by decide +kernel) (by decide +kernel) (by decide +kernel) (by decide +kernel) ⟨rfl, rfl⟩ rfl rfl ck30) ?_
    rfl
  · skip
    refine Eq.trans (rl_iloadn (j := 2) (by decide +kernel) rfl) ?_
    refine Eq.trans (rl_iconst (c := 0) (k := (nI 0)) (by decide +kernel) (by decide)) ?_
    refine Eq.trans (rl_bipush (c := 9) (k := (nI 9)) (by decide +kernel) (by decide)) ?_
    refine Eq.trans (rl_invS (ix := 67) (n := 3) (k := 1) 116 [am_I x2, am_I (nI 0), am_I (nI 9)] [] (by decide +kernel) (by decide +kernel) (by decide) (by decide +kernel) ⟨rfl, rfl⟩ rfl rfl) ?_
    rfl
theorem b138_14 {x1 x2 s0 : Int32} {M : am_M} {w : am_W4}  : am_rn call 138 14 [some (am_P (30, 0, 0)), some (am_I x1), some (am_I x2), none] [am_I s0] M (am_Z w) = if am_pc 1 s0 = true then some (.inl (some (am_I s0)), M, (am_Z w)) else none := by
  exact rl_zret (by decide +kernel) rfl
theorem b138_22 {x1 x2 s0 : Int32} {M : am_M} {w : am_W4}  : am_rn call 138 22 [some (am_P (30, 0, 0)), some (am_I x1), some (am_I x2), none] [am_I s0] M (am_Z w) = if s0 = 0 then am_cb (call 122 [am_P (30, 0, 0), am_I (nI 1), am_I (nI 0)] M (am_Z w)) fun v M' X' => am_rn call 138 31 [some (am_P (30, 0, 0)), some (am_I x1), some (am_I x2), none] (v.toList ++ []) M' X' else am_cb (call 128 [am_P (30, 0, 0), am_I x1, am_I (nI 1)] M (am_Z w)) fun v M' X' => am_rn call 138 38 [some (am_P (30, 0, 0)), some (am_I x1), some (am_I x2), none] (v.toList ++ []) M' X' := by
  refine Eq.trans (rl_ifne (o := 10) 32 (by decide +kernel) (by decide)) ?_
  refine am_ite (fun h_1 => ?_) (fun h_1 => ?_)
  · skip
    refine Eq.trans (rl_aloadn (j := 0) (by decide +kernel) rfl) ?_
    refine Eq.trans (rl_iconst (c := 1) (k := (nI 1)) (by decide +kernel) (by decide)) ?_
    refine Eq.trans (rl_iconst (c := 0) (k := (nI 0)) (by decide +kernel) (by decide)) ?_
    refine Eq.trans (rl_inv (ix := 74) (n := 2) (o := 9) 122 [am_I (nI 1), am_I (nI 0)] [] (by decide +kernel) (by decide +kernel) (by decide +kernel) (by decide +kernel) ⟨rfl, rfl⟩ rfl rfl ck30) ?_
    rfl
  · skip
    refine Eq.trans (rl_aloadn (j := 0) (by decide +kernel) rfl) ?_
    refine Eq.trans (rl_iloadn (j := 1) (by decide +kernel) rfl) ?_
    refine Eq.trans (rl_iconst (c := 1) (k := (nI 1)) (by decide +kernel) (by decide)) ?_
    refine Eq.trans (rl_inv (ix := 101) (n := 2) (o := 9) 128 [am_I x1, am_I (nI 1)] [] (by decide +kernel) (by decide +kernel) (by decide +kernel) (by decide +kernel) ⟨rfl, rfl⟩ rfl rfl ck30) ?_
    rfl
theorem b138_31 {x1 x2 s0 : Int32} {M : am_M} {w : am_W4}  : am_rn call 138 31 [some (am_P (30, 0, 0)), some (am_I x1), some (am_I x2), none] [am_I s0] M (am_Z w) = if am_pc 1 s0 = true then some (.inl (some (am_I s0)), M, (am_Z w)) else none := by
  exact rl_zret (by decide +kernel) rfl
theorem b138_38 {x1 x2 s0 : Int32} {M : am_M} {w : am_W4}  : am_rn call 138 38 [some (am_P (30, 0, 0)), some (am_I x1), some (am_I x2), none] [am_I s0] M (am_Z w) = if am_in (((nI 12) + ((nI 6) * x1)) + (nI 1)) 364 then am_cb (call 123 [am_P (30, 0, 0), am_I s0] (am_set M (31, 0, 0) (((nI 12) + ((nI 6) * x1)) + (nI 1)).toNatClampNeg x2) (am_Z w)) fun v M' X' => am_rn call 138 59 [some (am_P (30, 0, 0)), some (am_I x1), some (am_I x2), some (am_I s0)] (v.toList ++ []) M' X' else none := by
  refine Eq.trans (rl_istoren (j := 3) (ls' := [some (am_P (30, 0, 0)), some (am_I x1), some (am_I x2), some (am_I s0)]) (by decide +kernel) rfl rfl) ?_
  refine Eq.trans (rl_aloadn (j := 0) (by decide +kernel) rfl) ?_
  refine Eq.trans (rl_getP (ix := 9) (ci := 9) (j := 0) (by decide +kernel) (by decide +kernel) (by decide +kernel) ck30 rfl) ?_
  refine Eq.trans (rl_bipush (c := 12) (k := (nI 12)) (by decide +kernel) (by decide)) ?_
  refine Eq.trans (rl_bipush (c := 6) (k := (nI 6)) (by decide +kernel) (by decide)) ?_
  refine Eq.trans (rl_iloadn (j := 1) (by decide +kernel) rfl) ?_
  refine Eq.trans (rl_imul (by decide +kernel)) ?_
  refine Eq.trans (rl_iadd (by decide +kernel)) ?_
  refine Eq.trans (rl_iconst (c := 1) (k := (nI 1)) (by decide +kernel) (by decide)) ?_
  refine Eq.trans (rl_iadd (by decide +kernel)) ?_
  refine Eq.trans (rl_iloadn (j := 2) (by decide +kernel) rfl) ?_
  refine Eq.trans (rl_iast (by decide +kernel) ka31) ?_
  refine am_ite (fun h_1 => ?_) (fun _ => rfl)
  refine Eq.trans (rl_aloadn (j := 0) (by decide +kernel) rfl) ?_
  refine Eq.trans (rl_iloadn (j := 3) (by decide +kernel) rfl) ?_
  refine Eq.trans (rl_inv (ix := 86) (n := 1) (o := 9) 123 [am_I s0] [] (by decide +kernel) (by decide +kernel) (by decide +kernel) (by decide +kernel) ⟨rfl, rfl⟩ rfl rfl ck30) ?_
  rfl
theorem b138_59 {x1 x2 x3 s0 : Int32} {M : am_M} {w : am_W4}  : am_rn call 138 59 [some (am_P (30, 0, 0)), some (am_I x1), some (am_I x2), some (am_I x3)] [am_I s0] M (am_Z w) = if am_pc 1 s0 = true then some (.inl (some (am_I s0)), M, (am_Z w)) else none := by
  exact rl_zret (by decide +kernel) rfl
theorem e138 {d : Nat} {x1 x2 : Int32} {M : am_M} {w : am_W4}  : am_ev (d + 1) 138 [am_P (30, 0, 0), am_I x1, am_I x2] M (am_Z w) = am_cb ((am_ev d) 125 [am_P (30, 0, 0), am_I x1] M (am_Z w)) fun v M' X' => am_rn (am_ev d) 138 5 [some (am_P (30, 0, 0)), some (am_I x1), some (am_I x2), none] (v.toList ++ []) M' X' := (am_ev_eq d 138 _ M (am_Z w)).trans (b138_0)
theorem b139_0 {x1 x2 : Int32} {M : am_M} {w : am_W4}  : am_rn call 139 0 [some (am_P (30, 0, 0)), some (am_I x1), some (am_I x2)] [] M (am_Z w) = am_cb (call 117 [am_P (30, 0, 0)] M (am_Z w)) fun v M' X' => am_rn call 139 4 [some (am_P (30, 0, 0)), some (am_I x1), some (am_I x2)] (v.toList ++ []) M' X' := by
  refine Eq.trans (rl_aloadn (j := 0) (by decide +kernel) rfl) ?_
  refine Eq.trans (rl_inv (ix := 71) (n := 0) (o := 9) 117 [] [] (by decide +kernel) (by decide +kernel) (by decide +kernel) (by decide +kernel) ⟨rfl, rfl⟩ rfl rfl ck30) ?_
  rfl
theorem b139_4 {x1 x2 : Int32} {M : am_M} {w : am_W4}  : am_rn call 139 4 [some (am_P (30, 0, 0)), some (am_I x1), some (am_I x2)] [] M (am_Z w) = am_cb (call 138 [am_P (30, 0, 0), am_I x1, am_I x2] M (am_Z w)) fun v M' X' => am_rn call 139 11 [some (am_P (30, 0, 0)), some (am_I x1), some (am_I x2)] (v.toList ++ [am_P (30, 0, 0)]) M' X' := by
  refine Eq.trans (rl_aloadn (j := 0) (by decide +kernel) rfl) ?_
  refine Eq.trans (rl_aloadn (j := 0) (by decide +kernel) rfl) ?_
  refine Eq.trans (rl_iloadn (j := 1) (by decide +kernel) rfl) ?_
  refine Eq.trans (rl_iloadn (j := 2) (by decide +kernel) rfl) ?_
  refine Eq.trans (rl_inv (ix := 105) (n := 2) (o := 9) 138 [am_I x1, am_I x2] [am_P (30, 0, 0)] (by decide +kernel) (by decide +kernel) (by decide +kernel) (by decide +kernel) ⟨rfl, rfl⟩ rfl rfl ck30) ?_
  rfl
theorem b139_11 {x1 x2 s0 : Int32} {M : am_M} {w : am_W4}  : am_rn call 139 11 [some (am_P (30, 0, 0)), some (am_I x1), some (am_I x2)] [am_I s0, am_P (30, 0, 0)] M (am_Z w) = am_cb (call 124 [am_P (30, 0, 0), am_I s0] M (am_Z w)) fun v M' X' => am_rn call 139 14 [some (am_P (30, 0, 0)), some (am_I x1), some (am_I x2)] (v.toList ++ []) M' X' := by
  refine Eq.trans (rl_inv (ix := 78) (n := 1) (o := 9) 124 [am_I s0] [] (by decide +kernel) (by decide +kernel) (by decide +kernel) (by decide +kernel) ⟨rfl, rfl⟩ rfl rfl ck30) ?_
  rfl
theorem b139_14 {x1 x2 s0 : Int32} {M : am_M} {w : am_W4}  : am_rn call 139 14 [some (am_P (30, 0, 0)), some (am_I x1), some (am_I x2)] [am_I s0] M (am_Z w) = some (.inl (some (am_I s0)), M, (am_Z w)) := by
  exact rl_iret (by decide +kernel) rfl
theorem e139 {d : Nat} {x1 x2 : Int32} {M : am_M} {w : am_W4}  : am_ev (d + 1) 139 [am_P (30, 0, 0), am_I x1, am_I x2] M (am_Z w) = am_cb ((am_ev d) 117 [am_P (30, 0, 0)] M (am_Z w)) fun v M' X' => am_rn (am_ev d) 139 4 [some (am_P (30, 0, 0)), some (am_I x1), some (am_I x2)] (v.toList ++ []) M' X' := (am_ev_eq d 139 _ M (am_Z w)).trans (b139_0)
theorem b140_0 {x1 x2 x3 : Int32} {M : am_M} {w : am_W4}  : am_rn call 140 0 [some (am_P (30, 0, 0)), some (am_I x1), some (am_I x2), some (am_I x3), none, none, none, none, none] [] M (am_Z w) = am_cb (call 125 [am_P (30, 0, 0), am_I x1] M (am_Z w)) fun v M' X' => am_rn call 140 5 [some (am_P (30, 0, 0)), some (am_I x1), some (am_I x2), some (am_I x3), none, none, none, none, none] (v.toList ++ []) M' X' := by
  refine Eq.trans (rl_aloadn (j := 0) (by decide +kernel) rfl) ?_
  refine Eq.trans (rl_iloadn (j := 1) (by decide +kernel) rfl) ?_
  refine Eq.trans (rl_inv (ix := 82) (n := 1) (o := 9) 125 [am_I x1] [] (by decide +kernel) (by decide +kernel) (by decide +kernel) (by decide +kernel) ⟨rfl, rfl⟩ rfl rfl ck30) ?_
  rfl
theorem b140_5 {x1 x2 x3 s0 : Int32} {M : am_M} {w : am_W4}  : am_rn call 140 5 [some (am_P (30, 0, 0)), some (am_I x1), some (am_I x2), some (am_I x3), none, none, none, none, none] [am_I s0] M (am_Z w) = if s0 = 0 then am_cb (call 122 [am_P (30, 0, 0), am_I (nI 3), am_I x1] M (am_Z w)) fun v M' X' => am_rn call 140 14 [some (am_P (30, 0, 0)), some (am_I x1), some (am_I x2), some (am_I x3), none, none, none, none, none] (v.toList ++ []) M' X' else am_cb (call 125 [am_P (30, 0, 0), am_I x2] M (am_Z w)) fun v M' X' => am_rn call 140 20 [some (am_P (30, 0, 0)), some (am_I x1), some (am_I x2), some (am_I x3), none, none, none, none, none] (v.toList ++ []) M' X' := by
  refine Eq.trans (rl_ifne (o := 10) 15 (by decide +kernel) (by decide)) ?_
  refine am_ite (fun h_1 => ?_) (fun h_1 => ?_)
  · skip
    refine Eq.trans (rl_aloadn (j := 0) (by decide +kernel) rfl) ?_
    refine Eq.trans (rl_iconst (c := 3) (k := (nI 3)) (by decide +kernel) (by decide)) ?_
    refine Eq.trans (rl_iloadn (j := 1) (by decide +kernel) rfl) ?_
    refine Eq.trans (rl_inv (ix := 74) (n := 2) (o := 9) 122 [am_I (nI 3), am_I x1] [] (by decide +kernel) (by decide +kernel) (by decide +kernel) (by decide +kernel) ⟨rfl, rfl⟩ rfl rfl ck30) ?_
    rfl
  · skip
    refine Eq.trans (rl_aloadn (j := 0) (by decide +kernel) rfl) ?_
    refine Eq.trans (rl_iloadn (j := 2) (by decide +kernel) rfl) ?_
    refine Eq.trans (rl_inv (ix := 82) (n := 1) (o := 9) 125 [am_I x2] [] (by decide +kernel) (by decide +kernel) (by decide +kernel) (by decide +kernel) ⟨rfl, rfl⟩ rfl rfl ck30) ?_
    rfl
theorem b140_14 {x1 x2 x3 s0 : Int32} {M : am_M} {w : am_W4}  : am_rn call 140 14 [some (am_P (30, 0, 0)), some (am_I x1), some (am_I x2), some (am_I x3), none, none, none, none, none] [am_I s0] M (am_Z w) = if am_pc 1 s0 = true then some (.inl (some (am_I s0)), M, (am_Z w)) else none := by
  exact rl_zret (by decide +kernel) rfl
theorem b140_20 {x1 x2 x3 s0 : Int32} {M : am_M} {w : am_W4}  : am_rn call 140 20 [some (am_P (30, 0, 0)), some (am_I x1), some (am_I x2), some (am_I x3), none, none, none, none, none] [am_I s0] M (am_Z w) = if s0 = 0 then am_cb (call 122 [am_P (30, 0, 0), am_I (nI 3), am_I x2] M (am_Z w)) fun v M' X' => am_rn call 140 29 [some (am_P (30, 0, 0)), some (am_I x1), some (am_I x2), some (am_I x3), none, none, none, none, none] (v.toList ++ []) M' X' else if x1 = x2 then am_cb (call 122 [am_P (30, 0, 0), am_I (nI 5), am_I x1] M (am_Z w)) fun v M' X' => am_rn call 140 41 [some (am_P (30, 0, 0)), some (am_I x1), some (am_I x2), some (am_I x3), none, none, none, none, none] (v.toList ++ []) M' X' else am_cb (call 116 [am_I x3, am_I (nI 1), am_I (nI 88888888)] M (am_Z w)) fun v M' X' => am_rn call 140 49 [some (am_P (30, 0, 0)), some (am_I x1), some (am_I x2), some (am_I x3), none, none, none, none, none] (v.toList ++ []) M' X' := by
  refine Eq.trans (rl_ifne (o := 10) 30 (by decide +kernel) (by decide)) ?_
  refine am_ite (fun h_1 => ?_) (fun h_1 => ?_)
  · skip
    refine Eq.trans (rl_aloadn (j := 0) (by decide +kernel) rfl) ?_
    refine Eq.trans (rl_iconst (c := 3) (k := (nI 3)) (by decide +kernel) (by decide)) ?_
    refine Eq.trans (rl_iloadn (j := 2) (by decide +kernel) rfl) ?_
    refine Eq.trans (rl_inv (ix := 74) (n := 2) (o := 9) 122 [am_I (nI 3), am_I x2] [] (by decide +kernel) (by decide +kernel) (by decide +kernel) (by decide +kernel) ⟨rfl, rfl⟩ rfl rfl ck30) ?_
    rfl
  · skip
    refine Eq.trans (rl_iloadn (j := 1) (by decide +kernel) rfl) ?_
    refine Eq.trans (rl_iloadn (j := 2) (by decide +kernel) rfl) ?_
    refine Eq.trans (rl_icne (o := 10) 42 (by decide +kernel) (by decide)) ?_
    refine am_ite (fun h_2 => ?_) (fun h_2 => ?_)
    · skip
      refine Eq.trans (rl_aloadn (j := 0) (by decide +kernel) rfl) ?_
      refine Eq.trans (rl_iconst (c := 5) (k := (nI 5)) (by decide +kernel) (by decide)) ?_
      refine Eq.trans (rl_iloadn (j := 1) (by decide +kernel) rfl) ?_
      refine Eq.trans (rl_inv (ix := 74) (n := 2) (o := 9) 122 [am_I (nI 5), am_I x1] [] (by decide +kernel) (by decide +kernel) (by decide +kernel) (by decide +kernel) ⟨rfl, rfl⟩ rfl rfl ck30) ?_
      rfl
    · skip
      refine Eq.trans (rl_iloadn (j := 3) (by decide +kernel) rfl) ?_
      refine Eq.trans (rl_iconst (c := 1) (k := (nI 1)) (by decide +kernel) (by decide)) ?_
      refine Eq.trans (rl_ldc (ix := 108) (k := (nI 88888888)) (by decide +kernel) (by decide +kernel)) ?_
      refine Eq.trans (rl_invS (ix := 67) (n := 3) (k := 1) 116 [am_I x3, am_I (nI 1), am_I (nI 88888888)] [] (by decide +kernel) (by decide +kernel) (by decide) (by decide +kernel) ⟨rfl, rfl⟩ rfl rfl) ?_
      rfl
theorem b140_29 {x1 x2 x3 s0 : Int32} {M : am_M} {w : am_W4}  : am_rn call 140 29 [some (am_P (30, 0, 0)), some (am_I x1), some (am_I x2), some (am_I x3), none, none, none, none, none] [am_I s0] M (am_Z w) = if am_pc 1 s0 = true then some (.inl (some (am_I s0)), M, (am_Z w)) else none := by
  exact rl_zret (by decide +kernel) rfl
theorem b140_41 {x1 x2 x3 s0 : Int32} {M : am_M} {w : am_W4}  : am_rn call 140 41 [some (am_P (30, 0, 0)), some (am_I x1), some (am_I x2), some (am_I x3), none, none, none, none, none] [am_I s0] M (am_Z w) = if am_pc 1 s0 = true then some (.inl (some (am_I s0)), M, (am_Z w)) else none := by
  exact rl_zret (by decide +kernel) rfl
theorem b140_49 {x1 x2 x3 s0 : Int32} {M : am_M} {w : am_W4}  : am_rn call 140 49 [some (am_P (30, 0, 0)), some (am_I x1), some (am_I x2), some (am_I x3), none, none, none, none, none] [am_I s0] M (am_Z w) = if s0 = 0 then am_cb (call 122 [am_P (30, 0, 0), am_I (nI 1), am_I (nI 0)] M (am_Z w)) fun v M' X' => am_rn call 140 58 [some (am_P (30, 0, 0)), some (am_I x1), some (am_I x2), some (am_I x3), none, none, none, none, none] (v.toList ++ []) M' X' else am_rn call 140 65 [some (am_P (30, 0, 0)), some (am_I x1), some (am_I x2), some (am_I x3), some (am_I (nI 0)), some (am_I x3), none, none, none] [] M (am_Z w) := by
  refine Eq.trans (rl_ifne (o := 10) 59 (by decide +kernel) (by decide)) ?_
  refine am_ite (fun h_1 => ?_) (fun h_1 => ?_)
  · skip
    refine Eq.trans (rl_aloadn (j := 0) (by decide +kernel) rfl) ?_
    refine Eq.trans (rl_iconst (c := 1) (k := (nI 1)) (by decide +kernel) (by decide)) ?_
    refine Eq.trans (rl_iconst (c := 0) (k := (nI 0)) (by decide +kernel) (by decide)) ?_
    refine Eq.trans (rl_inv (ix := 74) (n := 2) (o := 9) 122 [am_I (nI 1), am_I (nI 0)] [] (by decide +kernel) (by decide +kernel) (by decide +kernel) (by decide +kernel) ⟨rfl, rfl⟩ rfl rfl ck30) ?_
    rfl
  · skip
    refine Eq.trans (rl_iconst (c := 0) (k := (nI 0)) (by decide +kernel) (by decide)) ?_
    refine Eq.trans (rl_istore (j := 4) (ls' := [some (am_P (30, 0, 0)), some (am_I x1), some (am_I x2), some (am_I x3), some (am_I (nI 0)), none, none, none, none]) (by decide +kernel) rfl rfl) ?_
    refine Eq.trans (rl_iloadn (j := 3) (by decide +kernel) rfl) ?_
    refine Eq.trans (rl_istore (j := 5) (ls' := [some (am_P (30, 0, 0)), some (am_I x1), some (am_I x2), some (am_I x3), some (am_I (nI 0)), some (am_I x3), none, none, none]) (by decide +kernel) rfl rfl) ?_
    rfl
theorem b140_58 {x1 x2 x3 s0 : Int32} {M : am_M} {w : am_W4}  : am_rn call 140 58 [some (am_P (30, 0, 0)), some (am_I x1), some (am_I x2), some (am_I x3), none, none, none, none, none] [am_I s0] M (am_Z w) = if am_pc 1 s0 = true then some (.inl (some (am_I s0)), M, (am_Z w)) else none := by
  exact rl_zret (by decide +kernel) rfl
theorem b140_65 {x1 x2 x3 x4 x5 : Int32} {M : am_M} {w : am_W4}  : am_rn call 140 65 [some (am_P (30, 0, 0)), some (am_I x1), some (am_I x2), some (am_I x3), some (am_I x4), some (am_I x5), none, none, none] [] M (am_Z w) = if 0 < x5 then am_cb (call 116 [am_I (x5 - x5 / (nI 10) * (nI 10)), am_I (nI 1), am_I (nI 8)] M (am_Z w)) fun v M' X' => am_rn call 140 81 [some (am_P (30, 0, 0)), some (am_I x1), some (am_I x2), some (am_I x3), some (am_I x4), some (am_I x5), none, none, none] (v.toList ++ []) M' X' else am_rn call 140 110 [some (am_P (30, 0, 0)), some (am_I x1), some (am_I x2), some (am_I x3), some (am_I x4), some (am_I (nI 0)), some (am_I x3), none, none] [] M (am_Z w) := by
  refine Eq.trans (rl_iload (j := 5) (by decide +kernel) rfl) ?_
  refine Eq.trans (rl_ifle (o := 37) 104 (by decide +kernel) (by decide)) ?_
  refine am_ite (fun h_1 => ?_) (fun h_1 => ?_)
  · skip
    refine Eq.trans (rl_iload (j := 5) (by decide +kernel) rfl) ?_
    refine Eq.trans (rl_bipush (c := 10) (k := (nI 10)) (by decide +kernel) (by decide)) ?_
    refine Eq.trans (rl_irem (by decide +kernel) rfl) ?_
    refine Eq.trans (rl_iconst (c := 1) (k := (nI 1)) (by decide +kernel) (by decide)) ?_
    refine Eq.trans (rl_bipush (c := 8) (k := (nI 8)) (by decide +kernel) (by decide)) ?_
    refine Eq.trans (rl_invS (ix := 67) (n := 3) (k := 1) 116 [am_I (x5 - x5 / (nI 10) * (nI 10)), am_I (nI 1), am_I (nI 8)] [] (by decide +kernel) (by decide +kernel) (by decide) (by decide +kernel) ⟨rfl, rfl⟩ rfl rfl) ?_
    rfl
  · skip
    refine Eq.trans (rl_iconst (c := 0) (k := (nI 0)) (by decide +kernel) (by decide)) ?_
    refine Eq.trans (rl_istore (j := 5) (ls' := [some (am_P (30, 0, 0)), some (am_I x1), some (am_I x2), some (am_I x3), some (am_I x4), some (am_I (nI 0)), none, none, none]) (by decide +kernel) rfl rfl) ?_
    refine Eq.trans (rl_iloadn (j := 3) (by decide +kernel) rfl) ?_
    refine Eq.trans (rl_istore (j := 6) (ls' := [some (am_P (30, 0, 0)), some (am_I x1), some (am_I x2), some (am_I x3), some (am_I x4), some (am_I (nI 0)), some (am_I x3), none, none]) (by decide +kernel) rfl rfl) ?_
    rfl
theorem b140_81 {x1 x2 x3 x4 x5 s0 : Int32} {M : am_M} {w : am_W4}  : am_rn call 140 81 [some (am_P (30, 0, 0)), some (am_I x1), some (am_I x2), some (am_I x3), some (am_I x4), some (am_I x5), none, none, none] [am_I s0] M (am_Z w) = if s0 = 0 then am_cb (call 122 [am_P (30, 0, 0), am_I (nI 1), am_I (nI 0)] M (am_Z w)) fun v M' X' => am_rn call 140 90 [some (am_P (30, 0, 0)), some (am_I x1), some (am_I x2), some (am_I x3), some (am_I x4), some (am_I x5), none, none, none] (v.toList ++ []) M' X' else am_rn call 140 65 [some (am_P (30, 0, 0)), some (am_I x1), some (am_I x2), some (am_I x3), some (am_I (x4 + (nI 1))), some (am_I (x5 / (nI 10))), none, none, none] [] M (am_Z w) := by
  refine Eq.trans (rl_ifne (o := 10) 91 (by decide +kernel) (by decide)) ?_
  refine am_ite (fun h_1 => ?_) (fun h_1 => ?_)
  · skip
    refine Eq.trans (rl_aloadn (j := 0) (by decide +kernel) rfl) ?_
    refine Eq.trans (rl_iconst (c := 1) (k := (nI 1)) (by decide +kernel) (by decide)) ?_
    refine Eq.trans (rl_iconst (c := 0) (k := (nI 0)) (by decide +kernel) (by decide)) ?_
    refine Eq.trans (rl_inv (ix := 74) (n := 2) (o := 9) 122 [am_I (nI 1), am_I (nI 0)] [] (by decide +kernel) (by decide +kernel) (by decide +kernel) (by decide +kernel) ⟨rfl, rfl⟩ rfl rfl ck30) ?_
    rfl
  · skip
    refine Eq.trans (rl_iinc (j := 4) (c := 1) (k := (nI 1)) (ls' := [some (am_P (30, 0, 0)), some (am_I x1), some (am_I x2), some (am_I x3), some (am_I (x4 + (nI 1))), some (am_I x5), none, none, none]) (by decide +kernel) (by decide) rfl rfl) ?_
    refine Eq.trans (rl_iload (j := 5) (by decide +kernel) rfl) ?_
    refine Eq.trans (rl_bipush (c := 10) (k := (nI 10)) (by decide +kernel) (by decide)) ?_
    refine Eq.trans (rl_idiv (by decide +kernel) rfl) ?_
    refine Eq.trans (rl_istore (j := 5) (ls' := [some (am_P (30, 0, 0)), some (am_I x1), some (am_I x2), some (am_I x3), some (am_I (x4 + (nI 1))), some (am_I (x5 / (nI 10))), none, none, none]) (by decide +kernel) rfl rfl) ?_
    refine Eq.trans (rl_goto (o := (-36)) 65 (by decide +kernel) (by decide)) ?_
    rfl
theorem b140_90 {x1 x2 x3 x4 x5 s0 : Int32} {M : am_M} {w : am_W4}  : am_rn call 140 90 [some (am_P (30, 0, 0)), some (am_I x1), some (am_I x2), some (am_I x3), some (am_I x4), some (am_I x5), none, none, none] [am_I s0] M (am_Z w) = if am_pc 1 s0 = true then some (.inl (some (am_I s0)), M, (am_Z w)) else none := by
  exact rl_zret (by decide +kernel) rfl
theorem b140_110 {x1 x2 x3 x4 x5 x6 : Int32} {M : am_M} {w : am_W4}  : am_rn call 140 110 [some (am_P (30, 0, 0)), some (am_I x1), some (am_I x2), some (am_I x3), some (am_I x4), some (am_I x5), some (am_I x6), none, none] [] M (am_Z w) = if 0 < x6 then if am_in (((nI 4) + (x6 - x6 / (nI 10) * (nI 10))) - (nI 1)) 364 then if (M (31, 0, 0) (((nI 4) + (x6 - x6 / (nI 10) * (nI 10))) - (nI 1)).toNatClampNeg) = 0 then am_rn call 140 139 [some (am_P (30, 0, 0)), some (am_I x1), some (am_I x2), some (am_I x3), some (am_I x4), some (am_I (x6 - x6 / (nI 10) * (nI 10))), some (am_I x6), none, none] [] M (am_Z w) else am_rn call 140 139 [some (am_P (30, 0, 0)), some (am_I x1), some (am_I x2), some (am_I x3), some (am_I x4), some (am_I x5), some (am_I x6), none, none] [] M (am_Z w) else none else if 0 < x5 then am_cb (call 122 [am_P (30, 0, 0), am_I (nI 4), am_I x5] M (am_Z w)) fun v M' X' => am_rn call 140 161 [some (am_P (30, 0, 0)), some (am_I x1), some (am_I x2), some (am_I x3), some (am_I x4), some (am_I x5), some (am_I x6), none, none] (v.toList ++ []) M' X' else if (M (31, 0, 0) 2) = (nI 16) then am_cb (call 122 [am_P (30, 0, 0), am_I (nI 2), am_I (nI 16)] M (am_Z w)) fun v M' X' => am_rn call 140 184 [some (am_P (30, 0, 0)), some (am_I x1), some (am_I x2), some (am_I x3), some (am_I x4), some (am_I x5), some (am_I (M (31, 0, 0) 2)), none, none] (v.toList ++ []) M' X' else am_rn call 140 198 [some (am_P (30, 0, 0)), some (am_I x1), some (am_I x2), some (am_I x3), some (am_I x4), some (am_I x5), some (am_I (M (31, 0, 0) 2)), some (am_I (nI 0)), none] [] (am_set M (31, 0, 0) 2 ((M (31, 0, 0) 2) + (nI 1))) (am_Z w) := by
  refine Eq.trans (rl_iload (j := 6) (by decide +kernel) rfl) ?_
  refine Eq.trans (rl_ifle (o := 37) 149 (by decide +kernel) (by decide)) ?_
  refine am_ite (fun h_1 => ?_) (fun h_1 => ?_)
  · skip
    refine Eq.trans (rl_aloadn (j := 0) (by decide +kernel) rfl) ?_
    refine Eq.trans (rl_getP (ix := 9) (ci := 9) (j := 0) (by decide +kernel) (by decide +kernel) (by decide +kernel) ck30 rfl) ?_
    refine Eq.trans (rl_iconst (c := 4) (k := (nI 4)) (by decide +kernel) (by decide)) ?_
    refine Eq.trans (rl_iload (j := 6) (by decide +kernel) rfl) ?_
    refine Eq.trans (rl_bipush (c := 10) (k := (nI 10)) (by decide +kernel) (by decide)) ?_
    refine Eq.trans (rl_irem (by decide +kernel) rfl) ?_
    refine Eq.trans (rl_iadd (by decide +kernel)) ?_
    refine Eq.trans (rl_iconst (c := 1) (k := (nI 1)) (by decide +kernel) (by decide)) ?_
    refine Eq.trans (rl_isub (by decide +kernel)) ?_
    refine Eq.trans (rl_iald (by decide +kernel) ka31) ?_
    refine am_ite (fun h_2 => ?_) (fun _ => rfl)
    refine Eq.trans (rl_ifne (o := 10) 139 (by decide +kernel) (by decide)) ?_
    refine am_ite (fun h_3 => ?_) (fun h_3 => ?_)
    · skip
      refine Eq.trans (rl_iload (j := 6) (by decide +kernel) rfl) ?_
      refine Eq.trans (rl_bipush (c := 10) (k := (nI 10)) (by decide +kernel) (by decide)) ?_
      refine Eq.trans (rl_irem (by decide +kernel) rfl) ?_
      refine Eq.trans (rl_istore (j := 5) (ls' := [some (am_P (30, 0, 0)), some (am_I x1), some (am_I x2), some (am_I x3), some (am_I x4), some (am_I (x6 - x6 / (nI 10) * (nI 10))), some (am_I x6), none, none]) (by decide +kernel) rfl rfl) ?_
      rfl
    · skip
      rfl
  · skip
    refine Eq.trans (rl_iload (j := 5) (by decide +kernel) rfl) ?_
    refine Eq.trans (rl_ifle (o := 11) 162 (by decide +kernel) (by decide)) ?_
    refine am_ite (fun h_4 => ?_) (fun h_4 => ?_)
    · skip
      refine Eq.trans (rl_aloadn (j := 0) (by decide +kernel) rfl) ?_
      refine Eq.trans (rl_iconst (c := 4) (k := (nI 4)) (by decide +kernel) (by decide)) ?_
      refine Eq.trans (rl_iload (j := 5) (by decide +kernel) rfl) ?_
      refine Eq.trans (rl_inv (ix := 74) (n := 2) (o := 9) 122 [am_I (nI 4), am_I x5] [] (by decide +kernel) (by decide +kernel) (by decide +kernel) (by decide +kernel) ⟨rfl, rfl⟩ rfl rfl ck30) ?_
      rfl
    · skip
      refine Eq.trans (rl_aloadn (j := 0) (by decide +kernel) rfl) ?_
      refine Eq.trans (rl_getP (ix := 9) (ci := 9) (j := 0) (by decide +kernel) (by decide +kernel) (by decide +kernel) ck30 rfl) ?_
      refine Eq.trans (rl_iconst (c := 2) (k := (nI 2)) (by decide +kernel) (by decide)) ?_
      refine Eq.trans (rl_iald' 2 (by decide +kernel) ka31 rfl rfl) ?_
      refine Eq.trans (rl_istore (j := 6) (ls' := [some (am_P (30, 0, 0)), some (am_I x1), some (am_I x2), some (am_I x3), some (am_I x4), some (am_I x5), some (am_I (M (31, 0, 0) 2)), none, none]) (by decide +kernel) rfl rfl) ?_
      refine Eq.trans (rl_iload (j := 6) (by decide +kernel) rfl) ?_
      refine Eq.trans (rl_bipush (c := 16) (k := (nI 16)) (by decide +kernel) (by decide)) ?_
      refine Eq.trans (rl_icne (o := 11) 185 (by decide +kernel) (by decide)) ?_
      refine am_ite (fun h_5 => ?_) (fun h_5 => ?_)
      · skip
        refine Eq.trans (rl_aloadn (j := 0) (by decide +kernel) rfl) ?_
        refine Eq.trans (rl_iconst (c := 2) (k := (nI 2)) (by decide +kernel) (by decide)) ?_
        refine Eq.trans (rl_bipush (c := 16) (k := (nI 16)) (by decide +kernel) (by decide)) ?_
        refine Eq.trans (rl_inv (ix := 74) (n := 2) (o := 9) 122 [am_I (nI 2), am_I (nI 16)] [] (by decide +kernel) (by decide +kernel) (by decide +kernel) (by decide +kernel) ⟨rfl, rfl⟩ rfl rfl ck30) ?_
        rfl
      · skip
        refine Eq.trans (rl_aloadn (j := 0) (by decide +kernel) rfl) ?_
        refine Eq.trans (rl_getP (ix := 9) (ci := 9) (j := 0) (by decide +kernel) (by decide +kernel) (by decide +kernel) ck30 rfl) ?_
        refine Eq.trans (rl_iconst (c := 2) (k := (nI 2)) (by decide +kernel) (by decide)) ?_
        refine Eq.trans (rl_dup2 (by decide +kernel) rfl rfl) ?_
        refine Eq.trans (rl_iald' 2 (by decide +kernel) ka31 rfl rfl) ?_
        refine Eq.trans (rl_iconst (c := 1) (k := (nI 1)) (by decide +kernel) (by decide)) ?_
        refine Eq.trans (rl_iadd (by decide +kernel)) ?_
        refine Eq.trans (rl_iast' 2 (by decide +kernel) ka31 rfl rfl) ?_
        refine Eq.trans (rl_iconst (c := 0) (k := (nI 0)) (by decide +kernel) (by decide)) ?_
        refine Eq.trans (rl_istore (j := 7) (ls' := [some (am_P (30, 0, 0)), some (am_I x1), some (am_I x2), some (am_I x3), some (am_I x4), some (am_I x5), some (am_I (M (31, 0, 0) 2)), some (am_I (nI 0)), none]) (by decide +kernel) rfl rfl) ?_
        rfl
theorem b140_139 {x1 x2 x3 x4 x5 x6 : Int32} {M : am_M} {w : am_W4}  : am_rn call 140 139 [some (am_P (30, 0, 0)), some (am_I x1), some (am_I x2), some (am_I x3), some (am_I x4), some (am_I x5), some (am_I x6), none, none] [] M (am_Z w) = am_rn call 140 110 [some (am_P (30, 0, 0)), some (am_I x1), some (am_I x2), some (am_I x3), some (am_I x4), some (am_I x5), some (am_I (x6 / (nI 10))), none, none] [] M (am_Z w) := by
  refine Eq.trans (rl_iload (j := 6) (by decide +kernel) rfl) ?_
  refine Eq.trans (rl_bipush (c := 10) (k := (nI 10)) (by decide +kernel) (by decide)) ?_
  refine Eq.trans (rl_idiv (by decide +kernel) rfl) ?_
  refine Eq.trans (rl_istore (j := 6) (ls' := [some (am_P (30, 0, 0)), some (am_I x1), some (am_I x2), some (am_I x3), some (am_I x4), some (am_I x5), some (am_I (x6 / (nI 10))), none, none]) (by decide +kernel) rfl rfl) ?_
  refine Eq.trans (rl_goto (o := (-36)) 110 (by decide +kernel) (by decide)) ?_
  rfl
theorem b140_161 {x1 x2 x3 x4 x5 x6 s0 : Int32} {M : am_M} {w : am_W4}  : am_rn call 140 161 [some (am_P (30, 0, 0)), some (am_I x1), some (am_I x2), some (am_I x3), some (am_I x4), some (am_I x5), some (am_I x6), none, none] [am_I s0] M (am_Z w) = if am_pc 1 s0 = true then some (.inl (some (am_I s0)), M, (am_Z w)) else none := by
  exact rl_zret (by decide +kernel) rfl
theorem b140_184 {x1 x2 x3 x4 x5 x6 s0 : Int32} {M : am_M} {w : am_W4}  : am_rn call 140 184 [some (am_P (30, 0, 0)), some (am_I x1), some (am_I x2), some (am_I x3), some (am_I x4), some (am_I x5), some (am_I x6), none, none] [am_I s0] M (am_Z w) = if am_pc 1 s0 = true then some (.inl (some (am_I s0)), M, (am_Z w)) else none := by
  exact rl_zret (by decide +kernel) rfl
theorem b140_198 {x1 x2 x3 x4 x5 x6 x7 : Int32} {M : am_M} {w : am_W4}  : am_rn call 140 198 [some (am_P (30, 0, 0)), some (am_I x1), some (am_I x2), some (am_I x3), some (am_I x4), some (am_I x5), some (am_I x6), some (am_I x7), none] [] M (am_Z w) = if x7 < (nI 19) then am_cb (call 130 [am_P (30, 0, 0), am_I x6, am_I x7, am_I (nI 0)] M (am_Z w)) fun v M' X' => am_rn call 140 214 [some (am_P (30, 0, 0)), some (am_I x1), some (am_I x2), some (am_I x3), some (am_I x4), some (am_I x5), some (am_I x6), some (am_I x7), none] (v.toList ++ []) M' X' else am_cb (call 130 [am_P (30, 0, 0), am_I x6, am_I (nI 0), am_I x1] M (am_Z w)) fun v M' X' => am_rn call 140 228 [some (am_P (30, 0, 0)), some (am_I x1), some (am_I x2), some (am_I x3), some (am_I x4), some (am_I x5), some (am_I x6), some (am_I x7), none] (v.toList ++ []) M' X' := by
  refine Eq.trans (rl_iload (j := 7) (by decide +kernel) rfl) ?_
  refine Eq.trans (rl_bipush (c := 19) (k := (nI 19)) (by decide +kernel) (by decide)) ?_
  refine Eq.trans (rl_icge (o := 18) 220 (by decide +kernel) (by decide)) ?_
  refine am_ite (fun h_1 => ?_) (fun h_1 => ?_)
  · skip
    refine Eq.trans (rl_aloadn (j := 0) (by decide +kernel) rfl) ?_
    refine Eq.trans (rl_iload (j := 6) (by decide +kernel) rfl) ?_
    refine Eq.trans (rl_iload (j := 7) (by decide +kernel) rfl) ?_
    refine Eq.trans (rl_iconst (c := 0) (k := (nI 0)) (by decide +kernel) (by decide)) ?_
    refine Eq.trans (rl_inv (ix := 109) (n := 3) (o := 9) 130 [am_I x6, am_I x7, am_I (nI 0)] [] (by decide +kernel) (by decide +kernel) (by decide +kernel) (by decide +kernel) ⟨rfl, rfl⟩ rfl rfl ck30) ?_
    rfl
  · skip
    refine Eq.trans (rl_aloadn (j := 0) (by decide +kernel) rfl) ?_
    refine Eq.trans (rl_iload (j := 6) (by decide +kernel) rfl) ?_
    refine Eq.trans (rl_iconst (c := 0) (k := (nI 0)) (by decide +kernel) (by decide)) ?_
    refine Eq.trans (rl_iloadn (j := 1) (by decide +kernel) rfl) ?_
    refine Eq.trans (rl_inv (ix := 109) (n := 3) (o := 9) 130 [am_I x6, am_I (nI 0), am_I x1] [] (by decide +kernel) (by decide +kernel) (by decide +kernel) (by decide +kernel) ⟨rfl, rfl⟩ rfl rfl ck30) ?_
    rfl
theorem b140_214 {x1 x2 x3 x4 x5 x6 x7 : Int32} {M : am_M} {w : am_W4}  : am_rn call 140 214 [some (am_P (30, 0, 0)), some (am_I x1), some (am_I x2), some (am_I x3), some (am_I x4), some (am_I x5), some (am_I x6), some (am_I x7), none] [] M (am_Z w) = am_rn call 140 198 [some (am_P (30, 0, 0)), some (am_I x1), some (am_I x2), some (am_I x3), some (am_I x4), some (am_I x5), some (am_I x6), some (am_I (x7 + (nI 1))), none] [] M (am_Z w) := by
  refine Eq.trans (rl_iinc (j := 7) (c := 1) (k := (nI 1)) (ls' := [some (am_P (30, 0, 0)), some (am_I x1), some (am_I x2), some (am_I x3), some (am_I x4), some (am_I x5), some (am_I x6), some (am_I (x7 + (nI 1))), none]) (by decide +kernel) (by decide) rfl rfl) ?_
  refine Eq.trans (rl_goto (o := (-19)) 198 (by decide +kernel) (by decide)) ?_
  rfl
theorem b140_228 {x1 x2 x3 x4 x5 x6 x7 : Int32} {M : am_M} {w : am_W4}  : am_rn call 140 228 [some (am_P (30, 0, 0)), some (am_I x1), some (am_I x2), some (am_I x3), some (am_I x4), some (am_I x5), some (am_I x6), some (am_I x7), none] [] M (am_Z w) = am_cb (call 130 [am_P (30, 0, 0), am_I x6, am_I (nI 1), am_I x2] M (am_Z w)) fun v M' X' => am_rn call 140 236 [some (am_P (30, 0, 0)), some (am_I x1), some (am_I x2), some (am_I x3), some (am_I x4), some (am_I x5), some (am_I x6), some (am_I x7), none] (v.toList ++ []) M' X' := by
  refine Eq.trans (rl_aloadn (j := 0) (by decide +kernel) rfl) ?_
  refine Eq.trans (rl_iload (j := 6) (by decide +kernel) rfl) ?_
  refine Eq.trans (rl_iconst (c := 1) (k := (nI 1)) (by decide +kernel) (by decide)) ?_
  refine Eq.trans (rl_iloadn (j := 2) (by decide +kernel) rfl) ?_
  refine Eq.trans (rl_inv (ix := 109) (n := 3) (o := 9) 130 [am_I x6, am_I (nI 1), am_I x2] [] (by decide +kernel) (by decide +kernel) (by decide +kernel) (by decide +kernel) ⟨rfl, rfl⟩ rfl rfl ck30) ?_
  rfl
theorem b140_236 {x1 x2 x3 x4 x5 x6 x7 : Int32} {M : am_M} {w : am_W4}  : am_rn call 140 236 [some (am_P (30, 0, 0)), some (am_I x1), some (am_I x2), some (am_I x3), some (am_I x4), some (am_I x5), some (am_I x6), some (am_I x7), none] [] M (am_Z w) = am_cb (call 130 [am_P (30, 0, 0), am_I x6, am_I (nI 2), am_I x1] M (am_Z w)) fun v M' X' => am_rn call 140 244 [some (am_P (30, 0, 0)), some (am_I x1), some (am_I x2), some (am_I x3), some (am_I x4), some (am_I x5), some (am_I x6), some (am_I x7), none] (v.toList ++ []) M' X' := by
  refine Eq.trans (rl_aloadn (j := 0) (by decide +kernel) rfl) ?_
  refine Eq.trans (rl_iload (j := 6) (by decide +kernel) rfl) ?_
  refine Eq.trans (rl_iconst (c := 2) (k := (nI 2)) (by decide +kernel) (by decide)) ?_
  refine Eq.trans (rl_iloadn (j := 1) (by decide +kernel) rfl) ?_
  refine Eq.trans (rl_inv (ix := 109) (n := 3) (o := 9) 130 [am_I x6, am_I (nI 2), am_I x1] [] (by decide +kernel) (by decide +kernel) (by decide +kernel) (by decide +kernel) ⟨rfl, rfl⟩ rfl rfl ck30) ?_
  rfl
theorem b140_244 {x1 x2 x3 x4 x5 x6 x7 : Int32} {M : am_M} {w : am_W4}  : am_rn call 140 244 [some (am_P (30, 0, 0)), some (am_I x1), some (am_I x2), some (am_I x3), some (am_I x4), some (am_I x5), some (am_I x6), some (am_I x7), none] [] M (am_Z w) = am_cb (call 130 [am_P (30, 0, 0), am_I x6, am_I (nI 3), am_I x4] M (am_Z w)) fun v M' X' => am_rn call 140 253 [some (am_P (30, 0, 0)), some (am_I x1), some (am_I x2), some (am_I x3), some (am_I x4), some (am_I x5), some (am_I x6), some (am_I x7), none] (v.toList ++ []) M' X' := by
  refine Eq.trans (rl_aloadn (j := 0) (by decide +kernel) rfl) ?_
  refine Eq.trans (rl_iload (j := 6) (by decide +kernel) rfl) ?_
  refine Eq.trans (rl_iconst (c := 3) (k := (nI 3)) (by decide +kernel) (by decide)) ?_
  refine Eq.trans (rl_iload (j := 4) (by decide +kernel) rfl) ?_
  refine Eq.trans (rl_inv (ix := 109) (n := 3) (o := 9) 130 [am_I x6, am_I (nI 3), am_I x4] [] (by decide +kernel) (by decide +kernel) (by decide +kernel) (by decide +kernel) ⟨rfl, rfl⟩ rfl rfl ck30) ?_
  rfl
theorem b140_253 {x1 x2 x3 x4 x5 x6 x7 : Int32} {M : am_M} {w : am_W4}  : am_rn call 140 253 [some (am_P (30, 0, 0)), some (am_I x1), some (am_I x2), some (am_I x3), some (am_I x4), some (am_I x5), some (am_I x6), some (am_I x7), none] [] M (am_Z w) = am_cb (call 130 [am_P (30, 0, 0), am_I x6, am_I (nI 7), am_I (M (31, 0, 0) 0)] M (am_Z w)) fun v M' X' => am_rn call 140 267 [some (am_P (30, 0, 0)), some (am_I x1), some (am_I x2), some (am_I x3), some (am_I x4), some (am_I x5), some (am_I x6), some (am_I x7), none] (v.toList ++ []) M' X' := by
  refine Eq.trans (rl_aloadn (j := 0) (by decide +kernel) rfl) ?_
  refine Eq.trans (rl_iload (j := 6) (by decide +kernel) rfl) ?_
  refine Eq.trans (rl_bipush (c := 7) (k := (nI 7)) (by decide +kernel) (by decide)) ?_
  refine Eq.trans (rl_aloadn (j := 0) (by decide +kernel) rfl) ?_
  refine Eq.trans (rl_getP (ix := 9) (ci := 9) (j := 0) (by decide +kernel) (by decide +kernel) (by decide +kernel) ck30 rfl) ?_
  refine Eq.trans (rl_iconst (c := 0) (k := (nI 0)) (by decide +kernel) (by decide)) ?_
  refine Eq.trans (rl_iald' 0 (by decide +kernel) ka31 rfl rfl) ?_
  refine Eq.trans (rl_inv (ix := 109) (n := 3) (o := 9) 130 [am_I x6, am_I (nI 7), am_I (M (31, 0, 0) 0)] [] (by decide +kernel) (by decide +kernel) (by decide +kernel) (by decide +kernel) ⟨rfl, rfl⟩ rfl rfl ck30) ?_
  rfl
theorem b140_267 {x1 x2 x3 x4 x5 x6 x7 : Int32} {M : am_M} {w : am_W4}  : am_rn call 140 267 [some (am_P (30, 0, 0)), some (am_I x1), some (am_I x2), some (am_I x3), some (am_I x4), some (am_I x5), some (am_I x6), some (am_I x7), none] [] M (am_Z w) = am_cb (call 130 [am_P (30, 0, 0), am_I x6, am_I (nI 8), am_I (M (31, 0, 0) 3)] (am_set M (31, 0, 0) 3 ((M (31, 0, 0) 3) + (nI 1))) (am_Z w)) fun v M' X' => am_rn call 140 286 [some (am_P (30, 0, 0)), some (am_I x1), some (am_I x2), some (am_I x3), some (am_I x4), some (am_I x5), some (am_I x6), some (am_I x7), none] (v.toList ++ []) M' X' := by
  refine Eq.trans (rl_aloadn (j := 0) (by decide +kernel) rfl) ?_
  refine Eq.trans (rl_iload (j := 6) (by decide +kernel) rfl) ?_
  refine Eq.trans (rl_bipush (c := 8) (k := (nI 8)) (by decide +kernel) (by decide)) ?_
  refine Eq.trans (rl_aloadn (j := 0) (by decide +kernel) rfl) ?_
  refine Eq.trans (rl_getP (ix := 9) (ci := 9) (j := 0) (by decide +kernel) (by decide +kernel) (by decide +kernel) ck30 rfl) ?_
  refine Eq.trans (rl_iconst (c := 3) (k := (nI 3)) (by decide +kernel) (by decide)) ?_
  refine Eq.trans (rl_dup2 (by decide +kernel) rfl rfl) ?_
  refine Eq.trans (rl_iald' 3 (by decide +kernel) ka31 rfl rfl) ?_
  refine Eq.trans (rl_dup_x2 (by decide +kernel) rfl rfl rfl) ?_
  refine Eq.trans (rl_iconst (c := 1) (k := (nI 1)) (by decide +kernel) (by decide)) ?_
  refine Eq.trans (rl_iadd (by decide +kernel)) ?_
  refine Eq.trans (rl_iast' 3 (by decide +kernel) ka31 rfl rfl) ?_
  refine Eq.trans (rl_inv (ix := 109) (n := 3) (o := 9) 130 [am_I x6, am_I (nI 8), am_I (M (31, 0, 0) 3)] [] (by decide +kernel) (by decide +kernel) (by decide +kernel) (by decide +kernel) ⟨rfl, rfl⟩ rfl rfl ck30) ?_
  rfl
theorem b140_286 {x1 x2 x3 x4 x5 x6 x7 : Int32} {M : am_M} {w : am_W4}  : am_rn call 140 286 [some (am_P (30, 0, 0)), some (am_I x1), some (am_I x2), some (am_I x3), some (am_I x4), some (am_I x5), some (am_I x6), some (am_I x7), none] [] M (am_Z w) = am_cb (call 130 [am_P (30, 0, 0), am_I x6, am_I (nI 9), am_I (nI 1)] M (am_Z w)) fun v M' X' => am_rn call 140 295 [some (am_P (30, 0, 0)), some (am_I x1), some (am_I x2), some (am_I x3), some (am_I x4), some (am_I x5), some (am_I x6), some (am_I x7), none] (v.toList ++ []) M' X' := by
  refine Eq.trans (rl_aloadn (j := 0) (by decide +kernel) rfl) ?_
  refine Eq.trans (rl_iload (j := 6) (by decide +kernel) rfl) ?_
  refine Eq.trans (rl_bipush (c := 9) (k := (nI 9)) (by decide +kernel) (by decide)) ?_
  refine Eq.trans (rl_iconst (c := 1) (k := (nI 1)) (by decide +kernel) (by decide)) ?_
  refine Eq.trans (rl_inv (ix := 109) (n := 3) (o := 9) 130 [am_I x6, am_I (nI 9), am_I (nI 1)] [] (by decide +kernel) (by decide +kernel) (by decide +kernel) (by decide +kernel) ⟨rfl, rfl⟩ rfl rfl ck30) ?_
  rfl
theorem b140_295 {x1 x2 x3 x4 x5 x6 x7 : Int32} {M : am_M} {w : am_W4}  : am_rn call 140 295 [some (am_P (30, 0, 0)), some (am_I x1), some (am_I x2), some (am_I x3), some (am_I x4), some (am_I x5), some (am_I x6), some (am_I x7), none] [] M (am_Z w) = am_rn call 140 304 [some (am_P (30, 0, 0)), some (am_I x1), some (am_I x2), some (am_I x3), some (am_I x4), some (am_I x5), some (am_I x6), some (am_I x3), some (am_I (x4 - (nI 1)))] [] M (am_Z w) := by
  refine Eq.trans (rl_iloadn (j := 3) (by decide +kernel) rfl) ?_
  refine Eq.trans (rl_istore (j := 7) (ls' := [some (am_P (30, 0, 0)), some (am_I x1), some (am_I x2), some (am_I x3), some (am_I x4), some (am_I x5), some (am_I x6), some (am_I x3), none]) (by decide +kernel) rfl rfl) ?_
  refine Eq.trans (rl_iload (j := 4) (by decide +kernel) rfl) ?_
  refine Eq.trans (rl_iconst (c := 1) (k := (nI 1)) (by decide +kernel) (by decide)) ?_
  refine Eq.trans (rl_isub (by decide +kernel)) ?_
  refine Eq.trans (rl_istore (j := 8) (ls' := [some (am_P (30, 0, 0)), some (am_I x1), some (am_I x2), some (am_I x3), some (am_I x4), some (am_I x5), some (am_I x6), some (am_I x3), some (am_I (x4 - (nI 1)))]) (by decide +kernel) rfl rfl) ?_
  rfl
theorem b140_304 {x1 x2 x3 x4 x5 x6 x7 x8 : Int32} {M : am_M} {w : am_W4}  : am_rn call 140 304 [some (am_P (30, 0, 0)), some (am_I x1), some (am_I x2), some (am_I x3), some (am_I x4), some (am_I x5), some (am_I x6), some (am_I x7), some (am_I x8)] [] M (am_Z w) = if x8 < 0 then am_cb (call 123 [am_P (30, 0, 0), am_I x6] M (am_Z w)) fun v M' X' => am_rn call 140 344 [some (am_P (30, 0, 0)), some (am_I x1), some (am_I x2), some (am_I x3), some (am_I x4), some (am_I x5), some (am_I x6), some (am_I x7), some (am_I x8)] (v.toList ++ []) M' X' else am_cb (call 130 [am_P (30, 0, 0), am_I x6, am_I ((nI 11) + x8), am_I (x7 - x7 / (nI 10) * (nI 10))] M (am_Z w)) fun v M' X' => am_rn call 140 325 [some (am_P (30, 0, 0)), some (am_I x1), some (am_I x2), some (am_I x3), some (am_I x4), some (am_I x5), some (am_I x6), some (am_I x7), some (am_I x8)] (v.toList ++ []) M' X' := by
  refine Eq.trans (rl_iload (j := 8) (by decide +kernel) rfl) ?_
  refine Eq.trans (rl_iflt (o := 32) 338 (by decide +kernel) (by decide)) ?_
  refine am_ite (fun h_1 => ?_) (fun h_1 => ?_)
  · skip
    refine Eq.trans (rl_aloadn (j := 0) (by decide +kernel) rfl) ?_
    refine Eq.trans (rl_iload (j := 6) (by decide +kernel) rfl) ?_
    refine Eq.trans (rl_inv (ix := 86) (n := 1) (o := 9) 123 [am_I x6] [] (by decide +kernel) (by decide +kernel) (by decide +kernel) (by decide +kernel) ⟨rfl, rfl⟩ rfl rfl ck30) ?_
    rfl
  · skip
    refine Eq.trans (rl_aloadn (j := 0) (by decide +kernel) rfl) ?_
    refine Eq.trans (rl_iload (j := 6) (by decide +kernel) rfl) ?_
    refine Eq.trans (rl_bipush (c := 11) (k := (nI 11)) (by decide +kernel) (by decide)) ?_
    refine Eq.trans (rl_iload (j := 8) (by decide +kernel) rfl) ?_
    refine Eq.trans (rl_iadd (by decide +kernel)) ?_
    refine Eq.trans (rl_iload (j := 7) (by decide +kernel) rfl) ?_
    refine Eq.trans (rl_bipush (c := 10) (k := (nI 10)) (by decide +kernel) (by decide)) ?_
    refine Eq.trans (rl_irem (by decide +kernel) rfl) ?_
    refine Eq.trans (rl_inv (ix := 109) (n := 3) (o := 9) 130 [am_I x6, am_I ((nI 11) + x8), am_I (x7 - x7 / (nI 10) * (nI 10))] [] (by decide +kernel) (by decide +kernel) (by decide +kernel) (by decide +kernel) ⟨rfl, rfl⟩ rfl rfl ck30) ?_
    rfl
theorem b140_325 {x1 x2 x3 x4 x5 x6 x7 x8 : Int32} {M : am_M} {w : am_W4}  : am_rn call 140 325 [some (am_P (30, 0, 0)), some (am_I x1), some (am_I x2), some (am_I x3), some (am_I x4), some (am_I x5), some (am_I x6), some (am_I x7), some (am_I x8)] [] M (am_Z w) = am_rn call 140 304 [some (am_P (30, 0, 0)), some (am_I x1), some (am_I x2), some (am_I x3), some (am_I x4), some (am_I x5), some (am_I x6), some (am_I (x7 / (nI 10))), some (am_I (x8 + (-1 : Int32)))] [] M (am_Z w) := by
  refine Eq.trans (rl_iload (j := 7) (by decide +kernel) rfl) ?_
  refine Eq.trans (rl_bipush (c := 10) (k := (nI 10)) (by decide +kernel) (by decide)) ?_
  refine Eq.trans (rl_idiv (by decide +kernel) rfl) ?_
  refine Eq.trans (rl_istore (j := 7) (ls' := [some (am_P (30, 0, 0)), some (am_I x1), some (am_I x2), some (am_I x3), some (am_I x4), some (am_I x5), some (am_I x6), some (am_I (x7 / (nI 10))), some (am_I x8)]) (by decide +kernel) rfl rfl) ?_
  refine Eq.trans (rl_iinc (j := 8) (c := -1) (k := (-1 : Int32)) (ls' := [some (am_P (30, 0, 0)), some (am_I x1), some (am_I x2), some (am_I x3), some (am_I x4), some (am_I x5), some (am_I x6), some (am_I (x7 / (nI 10))), some (am_I (x8 + (-1 : Int32)))]) (by decide +kernel) (by decide) rfl rfl) ?_
  refine Eq.trans (rl_goto (o := (-31)) 304 (by decide +kernel) (by decide)) ?_
  rfl
theorem b140_344 {x1 x2 x3 x4 x5 x6 x7 x8 s0 : Int32} {M : am_M} {w : am_W4}  : am_rn call 140 344 [some (am_P (30, 0, 0)), some (am_I x1), some (am_I x2), some (am_I x3), some (am_I x4), some (am_I x5), some (am_I x6), some (am_I x7), some (am_I x8)] [am_I s0] M (am_Z w) = if am_pc 1 s0 = true then some (.inl (some (am_I s0)), M, (am_Z w)) else none := by
  exact rl_zret (by decide +kernel) rfl
theorem e140 {d : Nat} {x1 x2 x3 : Int32} {M : am_M} {w : am_W4}  : am_ev (d + 1) 140 [am_P (30, 0, 0), am_I x1, am_I x2, am_I x3] M (am_Z w) = am_cb ((am_ev d) 125 [am_P (30, 0, 0), am_I x1] M (am_Z w)) fun v M' X' => am_rn (am_ev d) 140 5 [some (am_P (30, 0, 0)), some (am_I x1), some (am_I x2), some (am_I x3), none, none, none, none, none] (v.toList ++ []) M' X' := (am_ev_eq d 140 _ M (am_Z w)).trans (b140_0)
theorem b141_0 {x1 x2 x3 : Int32} {M : am_M} {w : am_W4}  : am_rn call 141 0 [some (am_P (30, 0, 0)), some (am_I x1), some (am_I x2), some (am_I x3)] [] M (am_Z w) = am_cb (call 117 [am_P (30, 0, 0)] M (am_Z w)) fun v M' X' => am_rn call 141 4 [some (am_P (30, 0, 0)), some (am_I x1), some (am_I x2), some (am_I x3)] (v.toList ++ []) M' X' := by
  refine Eq.trans (rl_aloadn (j := 0) (by decide +kernel) rfl) ?_
  refine Eq.trans (rl_inv (ix := 71) (n := 0) (o := 9) 117 [] [] (by decide +kernel) (by decide +kernel) (by decide +kernel) (by decide +kernel) ⟨rfl, rfl⟩ rfl rfl ck30) ?_
  rfl
theorem b141_4 {x1 x2 x3 : Int32} {M : am_M} {w : am_W4}  : am_rn call 141 4 [some (am_P (30, 0, 0)), some (am_I x1), some (am_I x2), some (am_I x3)] [] M (am_Z w) = am_cb (call 140 [am_P (30, 0, 0), am_I x1, am_I x2, am_I x3] M (am_Z w)) fun v M' X' => am_rn call 141 12 [some (am_P (30, 0, 0)), some (am_I x1), some (am_I x2), some (am_I x3)] (v.toList ++ [am_P (30, 0, 0)]) M' X' := by
  refine Eq.trans (rl_aloadn (j := 0) (by decide +kernel) rfl) ?_
  refine Eq.trans (rl_aloadn (j := 0) (by decide +kernel) rfl) ?_
  refine Eq.trans (rl_iloadn (j := 1) (by decide +kernel) rfl) ?_
  refine Eq.trans (rl_iloadn (j := 2) (by decide +kernel) rfl) ?_
  refine Eq.trans (rl_iloadn (j := 3) (by decide +kernel) rfl) ?_
  refine Eq.trans (rl_inv (ix := 113) (n := 3) (o := 9) 140 [am_I x1, am_I x2, am_I x3] [am_P (30, 0, 0)] (by decide +kernel) (by decide +kernel) (by decide +kernel) (by decide +kernel) ⟨rfl, rfl⟩ rfl rfl ck30) ?_
  rfl
theorem b141_12 {x1 x2 x3 s0 : Int32} {M : am_M} {w : am_W4}  : am_rn call 141 12 [some (am_P (30, 0, 0)), some (am_I x1), some (am_I x2), some (am_I x3)] [am_I s0, am_P (30, 0, 0)] M (am_Z w) = am_cb (call 124 [am_P (30, 0, 0), am_I s0] M (am_Z w)) fun v M' X' => am_rn call 141 15 [some (am_P (30, 0, 0)), some (am_I x1), some (am_I x2), some (am_I x3)] (v.toList ++ []) M' X' := by
  refine Eq.trans (rl_inv (ix := 78) (n := 1) (o := 9) 124 [am_I s0] [] (by decide +kernel) (by decide +kernel) (by decide +kernel) (by decide +kernel) ⟨rfl, rfl⟩ rfl rfl ck30) ?_
  rfl
theorem b141_15 {x1 x2 x3 s0 : Int32} {M : am_M} {w : am_W4}  : am_rn call 141 15 [some (am_P (30, 0, 0)), some (am_I x1), some (am_I x2), some (am_I x3)] [am_I s0] M (am_Z w) = some (.inl (some (am_I s0)), M, (am_Z w)) := by
  exact rl_iret (by decide +kernel) rfl
theorem e141 {d : Nat} {x1 x2 x3 : Int32} {M : am_M} {w : am_W4}  : am_ev (d + 1) 141 [am_P (30, 0, 0), am_I x1, am_I x2, am_I x3] M (am_Z w) = am_cb ((am_ev d) 117 [am_P (30, 0, 0)] M (am_Z w)) fun v M' X' => am_rn (am_ev d) 141 4 [some (am_P (30, 0, 0)), some (am_I x1), some (am_I x2), some (am_I x3)] (v.toList ++ []) M' X' := (am_ev_eq d 141 _ M (am_Z w)).trans (b141_0)
theorem b142_0 {x1 : Int32} {M : am_M} {w : am_W4}  : am_rn call 142 0 [some (am_P (30, 0, 0)), some (am_I x1)] [] M (am_Z w) = am_cb (call 127 [am_P (30, 0, 0), am_I x1] M (am_Z w)) fun v M' X' => am_rn call 142 5 [some (am_P (30, 0, 0)), some (am_I x1)] (v.toList ++ []) M' X' := by
  refine Eq.trans (rl_aloadn (j := 0) (by decide +kernel) rfl) ?_
  refine Eq.trans (rl_iloadn (j := 1) (by decide +kernel) rfl) ?_
  refine Eq.trans (rl_inv (ix := 116) (n := 1) (o := 9) 127 [am_I x1] [] (by decide +kernel) (by decide +kernel) (by decide +kernel) (by decide +kernel) ⟨rfl, rfl⟩ rfl rfl ck30) ?_
  rfl
theorem b142_5 {x1 s0 : Int32} {M : am_M} {w : am_W4}  : am_rn call 142 5 [some (am_P (30, 0, 0)), some (am_I x1)] [am_I s0] M (am_Z w) = if s0 = 0 then am_cb (call 122 [am_P (30, 0, 0), am_I (nI 3), am_I x1] M (am_Z w)) fun v M' X' => am_rn call 142 14 [some (am_P (30, 0, 0)), some (am_I x1)] (v.toList ++ []) M' X' else am_cb (call 129 [am_P (30, 0, 0), am_I x1, am_I (nI 6)] M (am_Z w)) fun v M' X' => am_rn call 142 22 [some (am_P (30, 0, 0)), some (am_I x1)] (v.toList ++ []) M' X' := by
  refine Eq.trans (rl_ifne (o := 10) 15 (by decide +kernel) (by decide)) ?_
  refine am_ite (fun h_1 => ?_) (fun h_1 => ?_)
  · skip
    refine Eq.trans (rl_aloadn (j := 0) (by decide +kernel) rfl) ?_
    refine Eq.trans (rl_iconst (c := 3) (k := (nI 3)) (by decide +kernel) (by decide)) ?_
    refine Eq.trans (rl_iloadn (j := 1) (by decide +kernel) rfl) ?_
    refine Eq.trans (rl_inv (ix := 74) (n := 2) (o := 9) 122 [am_I (nI 3), am_I x1] [] (by decide +kernel) (by decide +kernel) (by decide +kernel) (by decide +kernel) ⟨rfl, rfl⟩ rfl rfl ck30) ?_
    rfl
  · skip
    refine Eq.trans (rl_aloadn (j := 0) (by decide +kernel) rfl) ?_
    refine Eq.trans (rl_iloadn (j := 1) (by decide +kernel) rfl) ?_
    refine Eq.trans (rl_bipush (c := 6) (k := (nI 6)) (by decide +kernel) (by decide)) ?_
    refine Eq.trans (rl_inv (ix := 119) (n := 2) (o := 9) 129 [am_I x1, am_I (nI 6)] [] (by decide +kernel) (by decide +kernel) (by decide +kernel) (by decide +kernel) ⟨rfl, rfl⟩ rfl rfl ck30) ?_
    rfl
theorem b142_14 {x1 s0 : Int32} {M : am_M} {w : am_W4}  : am_rn call 142 14 [some (am_P (30, 0, 0)), some (am_I x1)] [am_I s0] M (am_Z w) = if am_pc 1 s0 = true then some (.inl (some (am_I s0)), M, (am_Z w)) else none := by
  exact rl_zret (by decide +kernel) rfl
theorem b142_22 {x1 s0 : Int32} {M : am_M} {w : am_W4}  : am_rn call 142 22 [some (am_P (30, 0, 0)), some (am_I x1)] [am_I s0] M (am_Z w) = if s0 = 0 then am_cb (call 130 [am_P (30, 0, 0), am_I x1, am_I (nI 6), am_I (nI 2)] M (am_Z w)) fun v M' X' => am_rn call 142 47 [some (am_P (30, 0, 0)), some (am_I x1)] (v.toList ++ []) M' X' else am_cb (call 129 [am_P (30, 0, 0), am_I x1, am_I (nI 6)] M (am_Z w)) fun v M' X' => am_rn call 142 35 [some (am_P (30, 0, 0)), some (am_I x1)] (v.toList ++ [am_I (nI 7), am_P (30, 0, 0)]) M' X' := by
  refine Eq.trans (rl_ifeq (o := 17) 39 (by decide +kernel) (by decide)) ?_
  refine am_ite (fun h_1 => ?_) (fun h_1 => ?_)
  · skip
    refine Eq.trans (rl_aloadn (j := 0) (by decide +kernel) rfl) ?_
    refine Eq.trans (rl_iloadn (j := 1) (by decide +kernel) rfl) ?_
    refine Eq.trans (rl_bipush (c := 6) (k := (nI 6)) (by decide +kernel) (by decide)) ?_
    refine Eq.trans (rl_iconst (c := 2) (k := (nI 2)) (by decide +kernel) (by decide)) ?_
    refine Eq.trans (rl_inv (ix := 109) (n := 3) (o := 9) 130 [am_I x1, am_I (nI 6), am_I (nI 2)] [] (by decide +kernel) (by decide +kernel) (by decide +kernel) (by decide +kernel) ⟨rfl, rfl⟩ rfl rfl ck30) ?_
    rfl
  · skip
    refine Eq.trans (rl_aloadn (j := 0) (by decide +kernel) rfl) ?_
    refine Eq.trans (rl_bipush (c := 7) (k := (nI 7)) (by decide +kernel) (by decide)) ?_
    refine Eq.trans (rl_aloadn (j := 0) (by decide +kernel) rfl) ?_
    refine Eq.trans (rl_iloadn (j := 1) (by decide +kernel) rfl) ?_
    refine Eq.trans (rl_bipush (c := 6) (k := (nI 6)) (by decide +kernel) (by decide)) ?_
    refine Eq.trans (rl_inv (ix := 119) (n := 2) (o := 9) 129 [am_I x1, am_I (nI 6)] [am_I (nI 7), am_P (30, 0, 0)] (by decide +kernel) (by decide +kernel) (by decide +kernel) (by decide +kernel) ⟨rfl, rfl⟩ rfl rfl ck30) ?_
    rfl
theorem b142_35 {x1 s0 : Int32} {M : am_M} {w : am_W4}  : am_rn call 142 35 [some (am_P (30, 0, 0)), some (am_I x1)] [am_I s0, am_I (nI 7), am_P (30, 0, 0)] M (am_Z w) = am_cb (call 122 [am_P (30, 0, 0), am_I (nI 7), am_I s0] M (am_Z w)) fun v M' X' => am_rn call 142 38 [some (am_P (30, 0, 0)), some (am_I x1)] (v.toList ++ []) M' X' := by
  refine Eq.trans (rl_inv (ix := 74) (n := 2) (o := 9) 122 [am_I (nI 7), am_I s0] [] (by decide +kernel) (by decide +kernel) (by decide +kernel) (by decide +kernel) ⟨rfl, rfl⟩ rfl rfl ck30) ?_
  rfl
theorem b142_38 {x1 s0 : Int32} {M : am_M} {w : am_W4}  : am_rn call 142 38 [some (am_P (30, 0, 0)), some (am_I x1)] [am_I s0] M (am_Z w) = if am_pc 1 s0 = true then some (.inl (some (am_I s0)), M, (am_Z w)) else none := by
  exact rl_zret (by decide +kernel) rfl
theorem b142_47 {x1 : Int32} {M : am_M} {w : am_W4}  : am_rn call 142 47 [some (am_P (30, 0, 0)), some (am_I x1)] [] M (am_Z w) = am_cb (call 129 [am_P (30, 0, 0), am_I x1, am_I (nI 2)] M (am_Z w)) fun v M' X' => am_rn call 142 54 [some (am_P (30, 0, 0)), some (am_I x1)] (v.toList ++ [am_P (30, 0, 0)]) M' X' := by
  refine Eq.trans (rl_aloadn (j := 0) (by decide +kernel) rfl) ?_
  refine Eq.trans (rl_aloadn (j := 0) (by decide +kernel) rfl) ?_
  refine Eq.trans (rl_iloadn (j := 1) (by decide +kernel) rfl) ?_
  refine Eq.trans (rl_iconst (c := 2) (k := (nI 2)) (by decide +kernel) (by decide)) ?_
  refine Eq.trans (rl_inv (ix := 119) (n := 2) (o := 9) 129 [am_I x1, am_I (nI 2)] [am_P (30, 0, 0)] (by decide +kernel) (by decide +kernel) (by decide +kernel) (by decide +kernel) ⟨rfl, rfl⟩ rfl rfl ck30) ?_
  rfl
theorem b142_54 {x1 s0 : Int32} {M : am_M} {w : am_W4}  : am_rn call 142 54 [some (am_P (30, 0, 0)), some (am_I x1)] [am_I s0, am_P (30, 0, 0)] M (am_Z w) = am_cb (call 123 [am_P (30, 0, 0), am_I s0] M (am_Z w)) fun v M' X' => am_rn call 142 57 [some (am_P (30, 0, 0)), some (am_I x1)] (v.toList ++ []) M' X' := by
  refine Eq.trans (rl_inv (ix := 86) (n := 1) (o := 9) 123 [am_I s0] [] (by decide +kernel) (by decide +kernel) (by decide +kernel) (by decide +kernel) ⟨rfl, rfl⟩ rfl rfl ck30) ?_
  rfl
theorem b142_57 {x1 s0 : Int32} {M : am_M} {w : am_W4}  : am_rn call 142 57 [some (am_P (30, 0, 0)), some (am_I x1)] [am_I s0] M (am_Z w) = if am_pc 1 s0 = true then some (.inl (some (am_I s0)), M, (am_Z w)) else none := by
  exact rl_zret (by decide +kernel) rfl
theorem e142 {d : Nat} {x1 : Int32} {M : am_M} {w : am_W4}  : am_ev (d + 1) 142 [am_P (30, 0, 0), am_I x1] M (am_Z w) = am_cb ((am_ev d) 127 [am_P (30, 0, 0), am_I x1] M (am_Z w)) fun v M' X' => am_rn (am_ev d) 142 5 [some (am_P (30, 0, 0)), some (am_I x1)] (v.toList ++ []) M' X' := (am_ev_eq d 142 _ M (am_Z w)).trans (b142_0)
theorem b143_0 {x1 : Int32} {M : am_M} {w : am_W4}  : am_rn call 143 0 [some (am_P (30, 0, 0)), some (am_I x1)] [] M (am_Z w) = am_cb (call 117 [am_P (30, 0, 0)] M (am_Z w)) fun v M' X' => am_rn call 143 4 [some (am_P (30, 0, 0)), some (am_I x1)] (v.toList ++ []) M' X' := by
  refine Eq.trans (rl_aloadn (j := 0) (by decide +kernel) rfl) ?_
  refine Eq.trans (rl_inv (ix := 71) (n := 0) (o := 9) 117 [] [] (by decide +kernel) (by decide +kernel) (by decide +kernel) (by decide +kernel) ⟨rfl, rfl⟩ rfl rfl ck30) ?_
  rfl
theorem b143_4 {x1 : Int32} {M : am_M} {w : am_W4}  : am_rn call 143 4 [some (am_P (30, 0, 0)), some (am_I x1)] [] M (am_Z w) = am_cb (call 142 [am_P (30, 0, 0), am_I x1] M (am_Z w)) fun v M' X' => am_rn call 143 10 [some (am_P (30, 0, 0)), some (am_I x1)] (v.toList ++ [am_P (30, 0, 0)]) M' X' := by
  refine Eq.trans (rl_aloadn (j := 0) (by decide +kernel) rfl) ?_
  refine Eq.trans (rl_aloadn (j := 0) (by decide +kernel) rfl) ?_
  refine Eq.trans (rl_iloadn (j := 1) (by decide +kernel) rfl) ?_
  refine Eq.trans (rl_inv (ix := 122) (n := 1) (o := 9) 142 [am_I x1] [am_P (30, 0, 0)] (by decide +kernel) (by decide +kernel) (by decide +kernel) (by decide +kernel) ⟨rfl, rfl⟩ rfl rfl ck30) ?_
  rfl
theorem b143_10 {x1 s0 : Int32} {M : am_M} {w : am_W4}  : am_rn call 143 10 [some (am_P (30, 0, 0)), some (am_I x1)] [am_I s0, am_P (30, 0, 0)] M (am_Z w) = am_cb (call 124 [am_P (30, 0, 0), am_I s0] M (am_Z w)) fun v M' X' => am_rn call 143 13 [some (am_P (30, 0, 0)), some (am_I x1)] (v.toList ++ []) M' X' := by
  refine Eq.trans (rl_inv (ix := 78) (n := 1) (o := 9) 124 [am_I s0] [] (by decide +kernel) (by decide +kernel) (by decide +kernel) (by decide +kernel) ⟨rfl, rfl⟩ rfl rfl ck30) ?_
  rfl
theorem b143_13 {x1 s0 : Int32} {M : am_M} {w : am_W4}  : am_rn call 143 13 [some (am_P (30, 0, 0)), some (am_I x1)] [am_I s0] M (am_Z w) = some (.inl (some (am_I s0)), M, (am_Z w)) := by
  exact rl_iret (by decide +kernel) rfl
theorem e143 {d : Nat} {x1 : Int32} {M : am_M} {w : am_W4}  : am_ev (d + 1) 143 [am_P (30, 0, 0), am_I x1] M (am_Z w) = am_cb ((am_ev d) 117 [am_P (30, 0, 0)] M (am_Z w)) fun v M' X' => am_rn (am_ev d) 143 4 [some (am_P (30, 0, 0)), some (am_I x1)] (v.toList ++ []) M' X' := (am_ev_eq d 143 _ M (am_Z w)).trans (b143_0)
theorem b144_0 {x1 : Int32} {M : am_M} {w : am_W4}  : am_rn call 144 0 [some (am_P (30, 0, 0)), some (am_I x1), none, none, none] [] M (am_Z w) = am_cb (call 128 [am_P (30, 0, 0), am_I x1, am_I (nI 2)] M (am_Z w)) fun v M' X' => am_rn call 144 16 [some (am_P (30, 0, 0)), some (am_I x1), some (am_I ((M (31, 0, 0) 0) - (M (31, 0, 0) 0) / (nI 24) * (nI 24))), none, none] (v.toList ++ []) M' X' := by
  refine Eq.trans (rl_aloadn (j := 0) (by decide +kernel) rfl) ?_
  refine Eq.trans (rl_getP (ix := 9) (ci := 9) (j := 0) (by decide +kernel) (by decide +kernel) (by decide +kernel) ck30 rfl) ?_
  refine Eq.trans (rl_iconst (c := 0) (k := (nI 0)) (by decide +kernel) (by decide)) ?_
  refine Eq.trans (rl_iald' 0 (by decide +kernel) ka31 rfl rfl) ?_
  refine Eq.trans (rl_bipush (c := 24) (k := (nI 24)) (by decide +kernel) (by decide)) ?_
  refine Eq.trans (rl_irem (by decide +kernel) rfl) ?_
  refine Eq.trans (rl_istoren (j := 2) (ls' := [some (am_P (30, 0, 0)), some (am_I x1), some (am_I ((M (31, 0, 0) 0) - (M (31, 0, 0) 0) / (nI 24) * (nI 24))), none, none]) (by decide +kernel) rfl rfl) ?_
  refine Eq.trans (rl_aloadn (j := 0) (by decide +kernel) rfl) ?_
  refine Eq.trans (rl_iloadn (j := 1) (by decide +kernel) rfl) ?_
  refine Eq.trans (rl_iconst (c := 2) (k := (nI 2)) (by decide +kernel) (by decide)) ?_
  refine Eq.trans (rl_inv (ix := 101) (n := 2) (o := 9) 128 [am_I x1, am_I (nI 2)] [] (by decide +kernel) (by decide +kernel) (by decide +kernel) (by decide +kernel) ⟨rfl, rfl⟩ rfl rfl ck30) ?_
  rfl
theorem b144_16 {x1 x2 s0 : Int32} {M : am_M} {w : am_W4}  : am_rn call 144 16 [some (am_P (30, 0, 0)), some (am_I x1), some (am_I x2), none, none] [am_I s0] M (am_Z w) = am_cb (call 128 [am_P (30, 0, 0), am_I x1, am_I (nI 3)] M (am_Z w)) fun v M' X' => am_rn call 144 23 [some (am_P (30, 0, 0)), some (am_I x1), some (am_I x2), some (am_I s0), none] (v.toList ++ []) M' X' := by
  refine Eq.trans (rl_istoren (j := 3) (ls' := [some (am_P (30, 0, 0)), some (am_I x1), some (am_I x2), some (am_I s0), none]) (by decide +kernel) rfl rfl) ?_
  refine Eq.trans (rl_aloadn (j := 0) (by decide +kernel) rfl) ?_
  refine Eq.trans (rl_iloadn (j := 1) (by decide +kernel) rfl) ?_
  refine Eq.trans (rl_iconst (c := 3) (k := (nI 3)) (by decide +kernel) (by decide)) ?_
  refine Eq.trans (rl_inv (ix := 101) (n := 2) (o := 9) 128 [am_I x1, am_I (nI 3)] [] (by decide +kernel) (by decide +kernel) (by decide +kernel) (by decide +kernel) ⟨rfl, rfl⟩ rfl rfl ck30) ?_
  rfl
theorem b144_23 {x1 x2 x3 s0 : Int32} {M : am_M} {w : am_W4}  : am_rn call 144 23 [some (am_P (30, 0, 0)), some (am_I x1), some (am_I x2), some (am_I x3), none] [am_I s0] M (am_Z w) = if x3 = s0 then some (.inl (some (am_I (nI 0))), M, (am_Z w)) else if x3 < s0 then if x2 < x3 then some (.inl (some (am_I (nI 0))), M, (am_Z w)) else if x2 < s0 then some (.inl (some (am_I (nI 1))), M, (am_Z w)) else some (.inl (some (am_I (nI 0))), M, (am_Z w)) else if x2 < x3 then if x2 < s0 then some (.inl (some (am_I (nI 1))), M, (am_Z w)) else some (.inl (some (am_I (nI 0))), M, (am_Z w)) else some (.inl (some (am_I (nI 1))), M, (am_Z w)) := by
  refine Eq.trans (rl_istore (j := 4) (ls' := [some (am_P (30, 0, 0)), some (am_I x1), some (am_I x2), some (am_I x3), some (am_I s0)]) (by decide +kernel) rfl rfl) ?_
  refine Eq.trans (rl_iloadn (j := 3) (by decide +kernel) rfl) ?_
  refine Eq.trans (rl_iload (j := 4) (by decide +kernel) rfl) ?_
  refine Eq.trans (rl_icne (o := 5) 33 (by decide +kernel) (by decide)) ?_
  refine am_ite (fun h_1 => ?_) (fun h_1 => ?_)
  · skip
    refine Eq.trans (rl_iconst (c := 0) (k := (nI 0)) (by decide +kernel) (by decide)) ?_
    exact rl_zretk (by decide +kernel) rfl rfl
  · skip
    refine Eq.trans (rl_iloadn (j := 3) (by decide +kernel) rfl) ?_
    refine Eq.trans (rl_iload (j := 4) (by decide +kernel) rfl) ?_
    refine Eq.trans (rl_icge (o := 22) 58 (by decide +kernel) (by decide)) ?_
    refine am_ite (fun h_2 => ?_) (fun h_2 => ?_)
    · skip
      refine Eq.trans (rl_iloadn (j := 2) (by decide +kernel) rfl) ?_
      refine Eq.trans (rl_iloadn (j := 3) (by decide +kernel) rfl) ?_
      refine Eq.trans (rl_iclt (o := 13) 54 (by decide +kernel) (by decide)) ?_
      refine am_ite (fun h_3 => ?_) (fun h_3 => ?_)
      · skip
        refine Eq.trans (rl_iconst (c := 0) (k := (nI 0)) (by decide +kernel) (by decide)) ?_
        refine Eq.trans (rl_goto (o := 19) 74 (by decide +kernel) (by decide)) ?_
        exact rl_zretk (by decide +kernel) rfl rfl
      · skip
        refine Eq.trans (rl_iloadn (j := 2) (by decide +kernel) rfl) ?_
        refine Eq.trans (rl_iload (j := 4) (by decide +kernel) rfl) ?_
        refine Eq.trans (rl_icge (o := 7) 54 (by decide +kernel) (by decide)) ?_
        refine am_ite (fun h_4 => ?_) (fun h_4 => ?_)
        · skip
          refine Eq.trans (rl_iconst (c := 1) (k := (nI 1)) (by decide +kernel) (by decide)) ?_
          refine Eq.trans (rl_goto (o := 23) 74 (by decide +kernel) (by decide)) ?_
          exact rl_zretk (by decide +kernel) rfl rfl
        · skip
          refine Eq.trans (rl_iconst (c := 0) (k := (nI 0)) (by decide +kernel) (by decide)) ?_
          refine Eq.trans (rl_goto (o := 19) 74 (by decide +kernel) (by decide)) ?_
          exact rl_zretk (by decide +kernel) rfl rfl
    · skip
      refine Eq.trans (rl_iloadn (j := 2) (by decide +kernel) rfl) ?_
      refine Eq.trans (rl_iloadn (j := 3) (by decide +kernel) rfl) ?_
      refine Eq.trans (rl_icge (o := 9) 69 (by decide +kernel) (by decide)) ?_
      refine am_ite (fun h_5 => ?_) (fun h_5 => ?_)
      · skip
        refine Eq.trans (rl_iloadn (j := 2) (by decide +kernel) rfl) ?_
        refine Eq.trans (rl_iload (j := 4) (by decide +kernel) rfl) ?_
        refine Eq.trans (rl_icge (o := 7) 73 (by decide +kernel) (by decide)) ?_
        refine am_ite (fun h_6 => ?_) (fun h_6 => ?_)
        · skip
          refine Eq.trans (rl_iconst (c := 1) (k := (nI 1)) (by decide +kernel) (by decide)) ?_
          refine Eq.trans (rl_goto (o := 4) 74 (by decide +kernel) (by decide)) ?_
          exact rl_zretk (by decide +kernel) rfl rfl
        · skip
          refine Eq.trans (rl_iconst (c := 0) (k := (nI 0)) (by decide +kernel) (by decide)) ?_
          exact rl_zretk (by decide +kernel) rfl rfl
      · skip
        refine Eq.trans (rl_iconst (c := 1) (k := (nI 1)) (by decide +kernel) (by decide)) ?_
        refine Eq.trans (rl_goto (o := 4) 74 (by decide +kernel) (by decide)) ?_
        exact rl_zretk (by decide +kernel) rfl rfl
theorem e144 {d : Nat} {x1 : Int32} {M : am_M} {w : am_W4}  : am_ev (d + 1) 144 [am_P (30, 0, 0), am_I x1] M (am_Z w) = am_cb ((am_ev d) 128 [am_P (30, 0, 0), am_I x1, am_I (nI 2)] M (am_Z w)) fun v M' X' => am_rn (am_ev d) 144 16 [some (am_P (30, 0, 0)), some (am_I x1), some (am_I ((M (31, 0, 0) 0) - (M (31, 0, 0) 0) / (nI 24) * (nI 24))), none, none] (v.toList ++ []) M' X' := (am_ev_eq d 144 _ M (am_Z w)).trans (b144_0)
theorem b145_0 {x1 x2 : Int32} {M : am_M} {w : am_W4}  : am_rn call 145 0 [some (am_P (30, 0, 0)), some (am_I x1), some (am_I x2)] [] M (am_Z w) = am_cb (call 129 [am_P (30, 0, 0), am_I x1, am_I (nI 6)] M (am_Z w)) fun v M' X' => am_rn call 145 7 [some (am_P (30, 0, 0)), some (am_I x1), some (am_I x2)] (v.toList ++ []) M' X' := by
  refine Eq.trans (rl_aloadn (j := 0) (by decide +kernel) rfl) ?_
  refine Eq.trans (rl_iloadn (j := 1) (by decide +kernel) rfl) ?_
  refine Eq.trans (rl_bipush (c := 6) (k := (nI 6)) (by decide +kernel) (by decide)) ?_
  refine Eq.trans (rl_inv (ix := 119) (n := 2) (o := 9) 129 [am_I x1, am_I (nI 6)] [] (by decide +kernel) (by decide +kernel) (by decide +kernel) (by decide +kernel) ⟨rfl, rfl⟩ rfl rfl ck30) ?_
  rfl
theorem b145_7 {x1 x2 s0 : Int32} {M : am_M} {w : am_W4}  : am_rn call 145 7 [some (am_P (30, 0, 0)), some (am_I x1), some (am_I x2)] [am_I s0] M (am_Z w) = if s0 = 0 then am_cb (call 129 [am_P (30, 0, 0), am_I x1, am_I (nI 2)] M (am_Z w)) fun v M' X' => am_rn call 145 16 [some (am_P (30, 0, 0)), some (am_I x1), some (am_I x2)] (v.toList ++ []) M' X' else some (.inl (some (am_I (nI 0))), M, (am_Z w)) := by
  refine Eq.trans (rl_ifne (o := 17) 24 (by decide +kernel) (by decide)) ?_
  refine am_ite (fun h_1 => ?_) (fun h_1 => ?_)
  · skip
    refine Eq.trans (rl_aloadn (j := 0) (by decide +kernel) rfl) ?_
    refine Eq.trans (rl_iloadn (j := 1) (by decide +kernel) rfl) ?_
    refine Eq.trans (rl_iconst (c := 2) (k := (nI 2)) (by decide +kernel) (by decide)) ?_
    refine Eq.trans (rl_inv (ix := 119) (n := 2) (o := 9) 129 [am_I x1, am_I (nI 2)] [] (by decide +kernel) (by decide +kernel) (by decide +kernel) (by decide +kernel) ⟨rfl, rfl⟩ rfl rfl ck30) ?_
    rfl
  · skip
    refine Eq.trans (rl_iconst (c := 0) (k := (nI 0)) (by decide +kernel) (by decide)) ?_
    exact rl_zretk (by decide +kernel) rfl rfl
theorem b145_16 {x1 x2 s0 : Int32} {M : am_M} {w : am_W4}  : am_rn call 145 16 [some (am_P (30, 0, 0)), some (am_I x1), some (am_I x2)] [am_I s0] M (am_Z w) = if s0 = x2 then some (.inl (some (am_I (nI 1))), M, (am_Z w)) else some (.inl (some (am_I (nI 0))), M, (am_Z w)) := by
  refine Eq.trans (rl_iloadn (j := 2) (by decide +kernel) rfl) ?_
  refine Eq.trans (rl_icne (o := 7) 24 (by decide +kernel) (by decide)) ?_
  refine am_ite (fun h_1 => ?_) (fun h_1 => ?_)
  · skip
    refine Eq.trans (rl_iconst (c := 1) (k := (nI 1)) (by decide +kernel) (by decide)) ?_
    refine Eq.trans (rl_goto (o := 4) 25 (by decide +kernel) (by decide)) ?_
    exact rl_zretk (by decide +kernel) rfl rfl
  · skip
    refine Eq.trans (rl_iconst (c := 0) (k := (nI 0)) (by decide +kernel) (by decide)) ?_
    exact rl_zretk (by decide +kernel) rfl rfl
theorem e145 {d : Nat} {x1 x2 : Int32} {M : am_M} {w : am_W4}  : am_ev (d + 1) 145 [am_P (30, 0, 0), am_I x1, am_I x2] M (am_Z w) = am_cb ((am_ev d) 129 [am_P (30, 0, 0), am_I x1, am_I (nI 6)] M (am_Z w)) fun v M' X' => am_rn (am_ev d) 145 7 [some (am_P (30, 0, 0)), some (am_I x1), some (am_I x2)] (v.toList ++ []) M' X' := (am_ev_eq d 145 _ M (am_Z w)).trans (b145_0)
theorem b146_0 {x1 x2 : Int32} {M : am_M} {w : am_W4}  : am_rn call 146 0 [some (am_P (30, 0, 0)), some (am_I x1), some (am_I x2), none, none, none] [] M (am_Z w) = am_rn call 146 2 [some (am_P (30, 0, 0)), some (am_I x1), some (am_I x2), some (am_I (nI 0)), none, none] [] M (am_Z w) := by
  refine Eq.trans (rl_iconst (c := 0) (k := (nI 0)) (by decide +kernel) (by decide)) ?_
  refine Eq.trans (rl_istoren (j := 3) (ls' := [some (am_P (30, 0, 0)), some (am_I x1), some (am_I x2), some (am_I (nI 0)), none, none]) (by decide +kernel) rfl rfl) ?_
  rfl
theorem b146_2 {x1 x2 x3 : Int32} {x4 x5 : Option am_V} {M : am_M} {w : am_W4}  : am_rn call 146 2 [some (am_P (30, 0, 0)), some (am_I x1), some (am_I x2), some (am_I x3), x4, x5] [] M (am_Z w) = if x3 < (M (31, 0, 0) 2) then am_cb (call 145 [am_P (30, 0, 0), am_I x3, am_I x1] M (am_Z w)) fun v M' X' => am_rn call 146 18 [some (am_P (30, 0, 0)), some (am_I x1), some (am_I x2), some (am_I x3), x4, x5] (v.toList ++ []) M' X' else some (.inl (some (am_I (-1 : Int32))), M, (am_Z w)) := by
  refine Eq.trans (rl_iloadn (j := 3) (by decide +kernel) rfl) ?_
  refine Eq.trans (rl_aloadn (j := 0) (by decide +kernel) rfl) ?_
  refine Eq.trans (rl_getP (ix := 9) (ci := 9) (j := 0) (by decide +kernel) (by decide +kernel) (by decide +kernel) ck30 rfl) ?_
  refine Eq.trans (rl_iconst (c := 2) (k := (nI 2)) (by decide +kernel) (by decide)) ?_
  refine Eq.trans (rl_iald' 2 (by decide +kernel) ka31 rfl rfl) ?_
  refine Eq.trans (rl_icge (o := 83) 92 (by decide +kernel) (by decide)) ?_
  refine am_ite (fun h_1 => ?_) (fun h_1 => ?_)
  · skip
    refine Eq.trans (rl_aloadn (j := 0) (by decide +kernel) rfl) ?_
    refine Eq.trans (rl_iloadn (j := 3) (by decide +kernel) rfl) ?_
    refine Eq.trans (rl_iloadn (j := 1) (by decide +kernel) rfl) ?_
    refine Eq.trans (rl_inv (ix := 125) (n := 2) (o := 9) 145 [am_I x3, am_I x1] [] (by decide +kernel) (by decide +kernel) (by decide +kernel) (by decide +kernel) ⟨rfl, rfl⟩ rfl rfl ck30) ?_
    rfl
  · skip
    refine Eq.trans (rl_iconst (c := -1) (k := (-1 : Int32)) (by decide +kernel) (by decide)) ?_
    exact rl_iret (by decide +kernel) rfl
theorem b146_18 {x1 x2 x3 s0 : Int32} {x4 x5 : Option am_V} {M : am_M} {w : am_W4}  : am_rn call 146 18 [some (am_P (30, 0, 0)), some (am_I x1), some (am_I x2), some (am_I x3), x4, x5] [am_I s0] M (am_Z w) = if s0 = 0 then am_rn call 146 86 [some (am_P (30, 0, 0)), some (am_I x1), some (am_I x2), some (am_I x3), x4, x5] [] M (am_Z w) else am_rn call 146 30 [some (am_P (30, 0, 0)), some (am_I x1), some (am_I x2), some (am_I x3), some (am_I (nI 0)), some (am_I (nI 0))] [] M (am_Z w) := by
  refine Eq.trans (rl_ifne (o := 6) 24 (by decide +kernel) (by decide)) ?_
  refine am_ite (fun h_1 => ?_) (fun h_1 => ?_)
  · skip
    refine Eq.trans (rl_goto (o := 65) 86 (by decide +kernel) (by decide)) ?_
    rfl
  · skip
    refine Eq.trans (rl_iconst (c := 0) (k := (nI 0)) (by decide +kernel) (by decide)) ?_
    refine Eq.trans (rl_istore (j := 4) (ls' := [some (am_P (30, 0, 0)), some (am_I x1), some (am_I x2), some (am_I x3), some (am_I (nI 0)), x5]) (by decide +kernel) rfl rfl) ?_
    refine Eq.trans (rl_iconst (c := 0) (k := (nI 0)) (by decide +kernel) (by decide)) ?_
    refine Eq.trans (rl_istore (j := 5) (ls' := [some (am_P (30, 0, 0)), some (am_I x1), some (am_I x2), some (am_I x3), some (am_I (nI 0)), some (am_I (nI 0))]) (by decide +kernel) rfl rfl) ?_
    rfl
theorem b146_30 {x1 x2 x3 x4 x5 : Int32} {M : am_M} {w : am_W4}  : am_rn call 146 30 [some (am_P (30, 0, 0)), some (am_I x1), some (am_I x2), some (am_I x3), some (am_I x4), some (am_I x5)] [] M (am_Z w) = if x5 < (M (31, 0, 0) 2) then am_cb (call 145 [am_P (30, 0, 0), am_I x5, am_I x1] M (am_Z w)) fun v M' X' => am_rn call 146 48 [some (am_P (30, 0, 0)), some (am_I x1), some (am_I x2), some (am_I x3), some (am_I x4), some (am_I x5)] (v.toList ++ []) M' X' else if x4 = x2 then some (.inl (some (am_I x3)), M, (am_Z w)) else am_rn call 146 86 [some (am_P (30, 0, 0)), some (am_I x1), some (am_I x2), some (am_I x3), some (am_I x4), some (am_I x5)] [] M (am_Z w) := by
  refine Eq.trans (rl_iload (j := 5) (by decide +kernel) rfl) ?_
  refine Eq.trans (rl_aloadn (j := 0) (by decide +kernel) rfl) ?_
  refine Eq.trans (rl_getP (ix := 9) (ci := 9) (j := 0) (by decide +kernel) (by decide +kernel) (by decide +kernel) ck30 rfl) ?_
  refine Eq.trans (rl_iconst (c := 2) (k := (nI 2)) (by decide +kernel) (by decide)) ?_
  refine Eq.trans (rl_iald' 2 (by decide +kernel) ka31 rfl rfl) ?_
  refine Eq.trans (rl_icge (o := 40) 78 (by decide +kernel) (by decide)) ?_
  refine am_ite (fun h_1 => ?_) (fun h_1 => ?_)
  · skip
    refine Eq.trans (rl_aloadn (j := 0) (by decide +kernel) rfl) ?_
    refine Eq.trans (rl_iload (j := 5) (by decide +kernel) rfl) ?_
    refine Eq.trans (rl_iloadn (j := 1) (by decide +kernel) rfl) ?_
    refine Eq.trans (rl_inv (ix := 125) (n := 2) (o := 9) 145 [am_I x5, am_I x1] [] (by decide +kernel) (by decide +kernel) (by decide +kernel) (by decide +kernel) ⟨rfl, rfl⟩ rfl rfl ck30) ?_
    rfl
  · skip
    refine Eq.trans (rl_iload (j := 4) (by decide +kernel) rfl) ?_
    refine Eq.trans (rl_iloadn (j := 2) (by decide +kernel) rfl) ?_
    refine Eq.trans (rl_icne (o := 5) 86 (by decide +kernel) (by decide)) ?_
    refine am_ite (fun h_2 => ?_) (fun h_2 => ?_)
    · skip
      refine Eq.trans (rl_iloadn (j := 3) (by decide +kernel) rfl) ?_
      exact rl_iret (by decide +kernel) rfl
    · skip
      rfl
theorem b146_48 {x1 x2 x3 x4 x5 s0 : Int32} {M : am_M} {w : am_W4}  : am_rn call 146 48 [some (am_P (30, 0, 0)), some (am_I x1), some (am_I x2), some (am_I x3), some (am_I x4), some (am_I x5)] [am_I s0] M (am_Z w) = if s0 = 0 then am_rn call 146 72 [some (am_P (30, 0, 0)), some (am_I x1), some (am_I x2), some (am_I x3), some (am_I x4), some (am_I x5)] [] M (am_Z w) else am_cb (call 129 [am_P (30, 0, 0), am_I x5, am_I (nI 8)] M (am_Z w)) fun v M' X' => am_rn call 146 59 [some (am_P (30, 0, 0)), some (am_I x1), some (am_I x2), some (am_I x3), some (am_I x4), some (am_I x5)] (v.toList ++ []) M' X' := by
  refine Eq.trans (rl_ifeq (o := 24) 72 (by decide +kernel) (by decide)) ?_
  refine am_ite (fun h_1 => ?_) (fun h_1 => ?_)
  · skip
    rfl
  · skip
    refine Eq.trans (rl_aloadn (j := 0) (by decide +kernel) rfl) ?_
    refine Eq.trans (rl_iload (j := 5) (by decide +kernel) rfl) ?_
    refine Eq.trans (rl_bipush (c := 8) (k := (nI 8)) (by decide +kernel) (by decide)) ?_
    refine Eq.trans (rl_inv (ix := 119) (n := 2) (o := 9) 129 [am_I x5, am_I (nI 8)] [] (by decide +kernel) (by decide +kernel) (by decide +kernel) (by decide +kernel) ⟨rfl, rfl⟩ rfl rfl ck30) ?_
    rfl
theorem b146_59 {x1 x2 x3 x4 x5 s0 : Int32} {M : am_M} {w : am_W4}  : am_rn call 146 59 [some (am_P (30, 0, 0)), some (am_I x1), some (am_I x2), some (am_I x3), some (am_I x4), some (am_I x5)] [am_I s0] M (am_Z w) = am_cb (call 129 [am_P (30, 0, 0), am_I x3, am_I (nI 8)] M (am_Z w)) fun v M' X' => am_rn call 146 66 [some (am_P (30, 0, 0)), some (am_I x1), some (am_I x2), some (am_I x3), some (am_I x4), some (am_I x5)] (v.toList ++ [am_I s0]) M' X' := by
  refine Eq.trans (rl_aloadn (j := 0) (by decide +kernel) rfl) ?_
  refine Eq.trans (rl_iloadn (j := 3) (by decide +kernel) rfl) ?_
  refine Eq.trans (rl_bipush (c := 8) (k := (nI 8)) (by decide +kernel) (by decide)) ?_
  refine Eq.trans (rl_inv (ix := 119) (n := 2) (o := 9) 129 [am_I x3, am_I (nI 8)] [am_I s0] (by decide +kernel) (by decide +kernel) (by decide +kernel) (by decide +kernel) ⟨rfl, rfl⟩ rfl rfl ck30) ?_
  rfl
theorem b146_66 {x1 x2 x3 x4 x5 s0 s1 : Int32} {M : am_M} {w : am_W4}  : am_rn call 146 66 [some (am_P (30, 0, 0)), some (am_I x1), some (am_I x2), some (am_I x3), some (am_I x4), some (am_I x5)] [am_I s0, am_I s1] M (am_Z w) = if s1 < s0 then am_rn call 146 72 [some (am_P (30, 0, 0)), some (am_I x1), some (am_I x2), some (am_I x3), some (am_I (x4 + (nI 1))), some (am_I x5)] [] M (am_Z w) else am_rn call 146 72 [some (am_P (30, 0, 0)), some (am_I x1), some (am_I x2), some (am_I x3), some (am_I x4), some (am_I x5)] [] M (am_Z w) := by
  refine Eq.trans (rl_icge (o := 6) 72 (by decide +kernel) (by decide)) ?_
  refine am_ite (fun h_1 => ?_) (fun h_1 => ?_)
  · skip
    refine Eq.trans (rl_iinc (j := 4) (c := 1) (k := (nI 1)) (ls' := [some (am_P (30, 0, 0)), some (am_I x1), some (am_I x2), some (am_I x3), some (am_I (x4 + (nI 1))), some (am_I x5)]) (by decide +kernel) (by decide) rfl rfl) ?_
    rfl
  · skip
    rfl
theorem b146_72 {x1 x2 x3 x4 x5 : Int32} {M : am_M} {w : am_W4}  : am_rn call 146 72 [some (am_P (30, 0, 0)), some (am_I x1), some (am_I x2), some (am_I x3), some (am_I x4), some (am_I x5)] [] M (am_Z w) = am_rn call 146 30 [some (am_P (30, 0, 0)), some (am_I x1), some (am_I x2), some (am_I x3), some (am_I x4), some (am_I (x5 + (nI 1)))] [] M (am_Z w) := by
  refine Eq.trans (rl_iinc (j := 5) (c := 1) (k := (nI 1)) (ls' := [some (am_P (30, 0, 0)), some (am_I x1), some (am_I x2), some (am_I x3), some (am_I x4), some (am_I (x5 + (nI 1)))]) (by decide +kernel) (by decide) rfl rfl) ?_
  refine Eq.trans (rl_goto (o := (-45)) 30 (by decide +kernel) (by decide)) ?_
  rfl
theorem b146_86 {x1 x2 x3 : Int32} {x4 x5 : Option am_V} {M : am_M} {w : am_W4}  : am_rn call 146 86 [some (am_P (30, 0, 0)), some (am_I x1), some (am_I x2), some (am_I x3), x4, x5] [] M (am_Z w) = am_rn call 146 2 [some (am_P (30, 0, 0)), some (am_I x1), some (am_I x2), some (am_I (x3 + (nI 1))), x4, x5] [] M (am_Z w) := by
  refine Eq.trans (rl_iinc (j := 3) (c := 1) (k := (nI 1)) (ls' := [some (am_P (30, 0, 0)), some (am_I x1), some (am_I x2), some (am_I (x3 + (nI 1))), x4, x5]) (by decide +kernel) (by decide) rfl rfl) ?_
  refine Eq.trans (rl_goto (o := (-87)) 2 (by decide +kernel) (by decide)) ?_
  rfl
theorem e146 {d : Nat} {x1 x2 : Int32} {M : am_M} {w : am_W4}  : am_ev (d + 1) 146 [am_P (30, 0, 0), am_I x1, am_I x2] M (am_Z w) = am_rn (am_ev d) 146 2 [some (am_P (30, 0, 0)), some (am_I x1), some (am_I x2), some (am_I (nI 0)), none, none] [] M (am_Z w) := (am_ev_eq d 146 _ M (am_Z w)).trans (b146_0)
theorem b147_0 {x1 x2 : Int32} {M : am_M} {w : am_W4}  : am_rn call 147 0 [some (am_P (30, 0, 0)), some (am_I x1), some (am_I x2), none] [] M (am_Z w) = am_cb (call 128 [am_P (30, 0, 0), am_I x1, am_I (nI 0)] M (am_Z w)) fun v M' X' => am_rn call 147 14 [some (am_P (30, 0, 0)), some (am_I x1), some (am_I x2), some (am_I (if x2 < x1 then x2 else x1))] (v.toList ++ [am_I (nI 24)]) M' X' := by
  refine Eq.trans (rl_iloadn (j := 1) (by decide +kernel) rfl) ?_
  refine Eq.trans (rl_iloadn (j := 2) (by decide +kernel) rfl) ?_
  refine Eq.trans (rl_min (ix := 128) (y0 := 0) (by decide +kernel) (by decide +kernel) rfl) ?_
  refine Eq.trans (rl_istoren (j := 3) (ls' := [some (am_P (30, 0, 0)), some (am_I x1), some (am_I x2), some (am_I (if x2 < x1 then x2 else x1))]) (by decide +kernel) rfl rfl) ?_
  refine Eq.trans (rl_bipush (c := 24) (k := (nI 24)) (by decide +kernel) (by decide)) ?_
  refine Eq.trans (rl_aloadn (j := 0) (by decide +kernel) rfl) ?_
  refine Eq.trans (rl_iloadn (j := 1) (by decide +kernel) rfl) ?_
  refine Eq.trans (rl_iconst (c := 0) (k := (nI 0)) (by decide +kernel) (by decide)) ?_
  refine Eq.trans (rl_inv (ix := 101) (n := 2) (o := 9) 128 [am_I x1, am_I (nI 0)] [am_I (nI 24)] (by decide +kernel) (by decide +kernel) (by decide +kernel) (by decide +kernel) ⟨rfl, rfl⟩ rfl rfl ck30) ?_
  rfl
theorem b147_14 {x1 x2 x3 s0 : Int32} {M : am_M} {w : am_W4}  : am_rn call 147 14 [some (am_P (30, 0, 0)), some (am_I x1), some (am_I x2), some (am_I x3)] [am_I s0, am_I (nI 24)] M (am_Z w) = am_cb (call 128 [am_P (30, 0, 0), am_I x2, am_I (nI 1)] M (am_Z w)) fun v M' X' => am_rn call 147 21 [some (am_P (30, 0, 0)), some (am_I x1), some (am_I x2), some (am_I x3)] (v.toList ++ [am_I ((nI 24) - s0)]) M' X' := by
  refine Eq.trans (rl_isub (by decide +kernel)) ?_
  refine Eq.trans (rl_aloadn (j := 0) (by decide +kernel) rfl) ?_
  refine Eq.trans (rl_iloadn (j := 2) (by decide +kernel) rfl) ?_
  refine Eq.trans (rl_iconst (c := 1) (k := (nI 1)) (by decide +kernel) (by decide)) ?_
  refine Eq.trans (rl_inv (ix := 101) (n := 2) (o := 9) 128 [am_I x2, am_I (nI 1)] [am_I ((nI 24) - s0)] (by decide +kernel) (by decide +kernel) (by decide +kernel) (by decide +kernel) ⟨rfl, rfl⟩ rfl rfl ck30) ?_
  rfl
theorem b147_21 {x1 x2 x3 s0 s1 : Int32} {M : am_M} {w : am_W4}  : am_rn call 147 21 [some (am_P (30, 0, 0)), some (am_I x1), some (am_I x2), some (am_I x3)] [am_I s0, am_I s1] M (am_Z w) = if am_in ((nI 48) + ((nI 2) * x3)) 364 then am_cb (call 131 [am_P (30, 0, 0), am_I x3] M (am_Z w)) fun v M' X' => am_rn call 147 41 [some (am_P (30, 0, 0)), some (am_I x1), some (am_I x2), some (am_I x3)] (v.toList ++ [am_I ((s1 + s0) - ((nI 2) * (M (31, 0, 0) ((nI 48) + ((nI 2) * x3)).toNatClampNeg)))]) M' X' else none := by
  refine Eq.trans (rl_iadd (by decide +kernel)) ?_
  refine Eq.trans (rl_iconst (c := 2) (k := (nI 2)) (by decide +kernel) (by decide)) ?_
  refine Eq.trans (rl_aloadn (j := 0) (by decide +kernel) rfl) ?_
  refine Eq.trans (rl_getP (ix := 9) (ci := 9) (j := 0) (by decide +kernel) (by decide +kernel) (by decide +kernel) ck30 rfl) ?_
  refine Eq.trans (rl_bipush (c := 48) (k := (nI 48)) (by decide +kernel) (by decide)) ?_
  refine Eq.trans (rl_iconst (c := 2) (k := (nI 2)) (by decide +kernel) (by decide)) ?_
  refine Eq.trans (rl_iloadn (j := 3) (by decide +kernel) rfl) ?_
  refine Eq.trans (rl_imul (by decide +kernel)) ?_
  refine Eq.trans (rl_iadd (by decide +kernel)) ?_
  refine Eq.trans (rl_iald (by decide +kernel) ka31) ?_
  refine am_ite (fun h_1 => ?_) (fun _ => rfl)
  refine Eq.trans (rl_imul (by decide +kernel)) ?_
  refine Eq.trans (rl_isub (by decide +kernel)) ?_
  refine Eq.trans (rl_aloadn (j := 0) (by decide +kernel) rfl) ?_
  refine Eq.trans (rl_iloadn (j := 3) (by decide +kernel) rfl) ?_
  refine Eq.trans (rl_inv (ix := 95) (n := 1) (o := 9) 131 [am_I x3] [am_I ((s1 + s0) - ((nI 2) * (M (31, 0, 0) ((nI 48) + ((nI 2) * x3)).toNatClampNeg)))] (by decide +kernel) (by decide +kernel) (by decide +kernel) (by decide +kernel) ⟨rfl, rfl⟩ rfl rfl ck30) ?_
  rfl
theorem b147_41 {x1 x2 x3 s0 s1 : Int32} {M : am_M} {w : am_W4}  : am_rn call 147 41 [some (am_P (30, 0, 0)), some (am_I x1), some (am_I x2), some (am_I x3)] [am_I s0, am_I s1] M (am_Z w) = some (.inl (some (am_I (s1 - s0))), M, (am_Z w)) := by
  refine Eq.trans (rl_isub (by decide +kernel)) ?_
  exact rl_iret (by decide +kernel) rfl
theorem e147 {d : Nat} {x1 x2 : Int32} {M : am_M} {w : am_W4}  : am_ev (d + 1) 147 [am_P (30, 0, 0), am_I x1, am_I x2] M (am_Z w) = am_cb ((am_ev d) 128 [am_P (30, 0, 0), am_I x1, am_I (nI 0)] M (am_Z w)) fun v M' X' => am_rn (am_ev d) 147 14 [some (am_P (30, 0, 0)), some (am_I x1), some (am_I x2), some (am_I (if x2 < x1 then x2 else x1))] (v.toList ++ [am_I (nI 24)]) M' X' := (am_ev_eq d 147 _ M (am_Z w)).trans (b147_0)
theorem b148_0 {x1 x2 : Int32} {M : am_M} {w : am_W4}  : am_rn call 148 0 [some (am_P (30, 0, 0)), some (am_I x1), some (am_I x2)] [] M (am_Z w) = am_cb (call 147 [am_P (30, 0, 0), am_I x1, am_I x2] M (am_Z w)) fun v M' X' => am_rn call 148 6 [some (am_P (30, 0, 0)), some (am_I x1), some (am_I x2)] (v.toList ++ []) M' X' := by
  refine Eq.trans (rl_aloadn (j := 0) (by decide +kernel) rfl) ?_
  refine Eq.trans (rl_iloadn (j := 1) (by decide +kernel) rfl) ?_
  refine Eq.trans (rl_iloadn (j := 2) (by decide +kernel) rfl) ?_
  refine Eq.trans (rl_inv (ix := 133) (n := 2) (o := 9) 147 [am_I x1, am_I x2] [] (by decide +kernel) (by decide +kernel) (by decide +kernel) (by decide +kernel) ⟨rfl, rfl⟩ rfl rfl ck30) ?_
  rfl
theorem b148_6 {x1 x2 s0 : Int32} {M : am_M} {w : am_W4}  : am_rn call 148 6 [some (am_P (30, 0, 0)), some (am_I x1), some (am_I x2)] [am_I s0] M (am_Z w) = if s0 < (nI 10) then some (.inl (some (am_I (nI 0))), M, (am_Z w)) else am_cb (call 128 [am_P (30, 0, 0), am_I x2, am_I (nI 1)] M (am_Z w)) fun v M' X' => am_rn call 148 17 [some (am_P (30, 0, 0)), some (am_I x1), some (am_I x2)] (v.toList ++ []) M' X' := by
  refine Eq.trans (rl_bipush (c := 10) (k := (nI 10)) (by decide +kernel) (by decide)) ?_
  refine Eq.trans (rl_iclt (o := 16) 24 (by decide +kernel) (by decide)) ?_
  refine am_ite (fun h_1 => ?_) (fun h_1 => ?_)
  · skip
    refine Eq.trans (rl_iconst (c := 0) (k := (nI 0)) (by decide +kernel) (by decide)) ?_
    exact rl_zretk (by decide +kernel) rfl rfl
  · skip
    refine Eq.trans (rl_aloadn (j := 0) (by decide +kernel) rfl) ?_
    refine Eq.trans (rl_iloadn (j := 2) (by decide +kernel) rfl) ?_
    refine Eq.trans (rl_iconst (c := 1) (k := (nI 1)) (by decide +kernel) (by decide)) ?_
    refine Eq.trans (rl_inv (ix := 101) (n := 2) (o := 9) 128 [am_I x2, am_I (nI 1)] [] (by decide +kernel) (by decide +kernel) (by decide +kernel) (by decide +kernel) ⟨rfl, rfl⟩ rfl rfl ck30) ?_
    rfl
theorem b148_17 {x1 x2 s0 : Int32} {M : am_M} {w : am_W4}  : am_rn call 148 17 [some (am_P (30, 0, 0)), some (am_I x1), some (am_I x2)] [am_I s0] M (am_Z w) = if 0 < s0 then some (.inl (some (am_I (nI 1))), M, (am_Z w)) else some (.inl (some (am_I (nI 0))), M, (am_Z w)) := by
  refine Eq.trans (rl_ifle (o := 7) 24 (by decide +kernel) (by decide)) ?_
  refine am_ite (fun h_1 => ?_) (fun h_1 => ?_)
  · skip
    refine Eq.trans (rl_iconst (c := 1) (k := (nI 1)) (by decide +kernel) (by decide)) ?_
    refine Eq.trans (rl_goto (o := 4) 25 (by decide +kernel) (by decide)) ?_
    exact rl_zretk (by decide +kernel) rfl rfl
  · skip
    refine Eq.trans (rl_iconst (c := 0) (k := (nI 0)) (by decide +kernel) (by decide)) ?_
    exact rl_zretk (by decide +kernel) rfl rfl
theorem e148 {d : Nat} {x1 x2 : Int32} {M : am_M} {w : am_W4}  : am_ev (d + 1) 148 [am_P (30, 0, 0), am_I x1, am_I x2] M (am_Z w) = am_cb ((am_ev d) 147 [am_P (30, 0, 0), am_I x1, am_I x2] M (am_Z w)) fun v M' X' => am_rn (am_ev d) 148 6 [some (am_P (30, 0, 0)), some (am_I x1), some (am_I x2)] (v.toList ++ []) M' X' := (am_ev_eq d 148 _ M (am_Z w)).trans (b148_0)
theorem b149_0 {x1 : Int32} {M : am_M} {w : am_W4}  : am_rn call 149 0 [some (am_P (30, 0, 0)), some (am_I x1), none, none] [] M (am_Z w) = am_rn call 149 4 [some (am_P (30, 0, 0)), some (am_I x1), some (am_I (nI 0)), some (am_I (nI 0))] [] M (am_Z w) := by
  refine Eq.trans (rl_iconst (c := 0) (k := (nI 0)) (by decide +kernel) (by decide)) ?_
  refine Eq.trans (rl_istoren (j := 2) (ls' := [some (am_P (30, 0, 0)), some (am_I x1), some (am_I (nI 0)), none]) (by decide +kernel) rfl rfl) ?_
  refine Eq.trans (rl_iconst (c := 0) (k := (nI 0)) (by decide +kernel) (by decide)) ?_
  refine Eq.trans (rl_istoren (j := 3) (ls' := [some (am_P (30, 0, 0)), some (am_I x1), some (am_I (nI 0)), some (am_I (nI 0))]) (by decide +kernel) rfl rfl) ?_
  rfl
theorem b149_4 {x1 x2 x3 : Int32} {M : am_M} {w : am_W4}  : am_rn call 149 4 [some (am_P (30, 0, 0)), some (am_I x1), some (am_I x2), some (am_I x3)] [] M (am_Z w) = am_cb (call 129 [am_P (30, 0, 0), am_I x1, am_I (nI 3)] M (am_Z w)) fun v M' X' => am_rn call 149 11 [some (am_P (30, 0, 0)), some (am_I x1), some (am_I x2), some (am_I x3)] (v.toList ++ [am_I x3]) M' X' := by
  refine Eq.trans (rl_iloadn (j := 3) (by decide +kernel) rfl) ?_
  refine Eq.trans (rl_aloadn (j := 0) (by decide +kernel) rfl) ?_
  refine Eq.trans (rl_iloadn (j := 1) (by decide +kernel) rfl) ?_
  refine Eq.trans (rl_iconst (c := 3) (k := (nI 3)) (by decide +kernel) (by decide)) ?_
  refine Eq.trans (rl_inv (ix := 119) (n := 2) (o := 9) 129 [am_I x1, am_I (nI 3)] [am_I x3] (by decide +kernel) (by decide +kernel) (by decide +kernel) (by decide +kernel) ⟨rfl, rfl⟩ rfl rfl ck30) ?_
  rfl
theorem b149_11 {x1 x2 x3 s0 s1 : Int32} {M : am_M} {w : am_W4}  : am_rn call 149 11 [some (am_P (30, 0, 0)), some (am_I x1), some (am_I x2), some (am_I x3)] [am_I s0, am_I s1] M (am_Z w) = if s1 < s0 then am_cb (call 129 [am_P (30, 0, 0), am_I x1, am_I ((nI 11) + x3)] M (am_Z w)) fun v M' X' => am_rn call 149 23 [some (am_P (30, 0, 0)), some (am_I x1), some (am_I x2), some (am_I x3)] (v.toList ++ []) M' X' else some (.inl (some (am_I x2)), M, (am_Z w)) := by
  refine Eq.trans (rl_icge (o := 24) 35 (by decide +kernel) (by decide)) ?_
  refine am_ite (fun h_1 => ?_) (fun h_1 => ?_)
  · skip
    refine Eq.trans (rl_aloadn (j := 0) (by decide +kernel) rfl) ?_
    refine Eq.trans (rl_iloadn (j := 1) (by decide +kernel) rfl) ?_
    refine Eq.trans (rl_bipush (c := 11) (k := (nI 11)) (by decide +kernel) (by decide)) ?_
    refine Eq.trans (rl_iloadn (j := 3) (by decide +kernel) rfl) ?_
    refine Eq.trans (rl_iadd (by decide +kernel)) ?_
    refine Eq.trans (rl_inv (ix := 119) (n := 2) (o := 9) 129 [am_I x1, am_I ((nI 11) + x3)] [] (by decide +kernel) (by decide +kernel) (by decide +kernel) (by decide +kernel) ⟨rfl, rfl⟩ rfl rfl ck30) ?_
    rfl
  · skip
    refine Eq.trans (rl_iloadn (j := 2) (by decide +kernel) rfl) ?_
    exact rl_iret (by decide +kernel) rfl
theorem b149_23 {x1 x2 x3 s0 : Int32} {M : am_M} {w : am_W4}  : am_rn call 149 23 [some (am_P (30, 0, 0)), some (am_I x1), some (am_I x2), some (am_I x3)] [am_I s0] M (am_Z w) = if s0 = 0 then am_rn call 149 29 [some (am_P (30, 0, 0)), some (am_I x1), some (am_I (x2 + (nI 1))), some (am_I x3)] [] M (am_Z w) else am_rn call 149 29 [some (am_P (30, 0, 0)), some (am_I x1), some (am_I x2), some (am_I x3)] [] M (am_Z w) := by
  refine Eq.trans (rl_ifne (o := 6) 29 (by decide +kernel) (by decide)) ?_
  refine am_ite (fun h_1 => ?_) (fun h_1 => ?_)
  · skip
    refine Eq.trans (rl_iinc (j := 2) (c := 1) (k := (nI 1)) (ls' := [some (am_P (30, 0, 0)), some (am_I x1), some (am_I (x2 + (nI 1))), some (am_I x3)]) (by decide +kernel) (by decide) rfl rfl) ?_
    rfl
  · skip
    rfl
theorem b149_29 {x1 x2 x3 : Int32} {M : am_M} {w : am_W4}  : am_rn call 149 29 [some (am_P (30, 0, 0)), some (am_I x1), some (am_I x2), some (am_I x3)] [] M (am_Z w) = am_rn call 149 4 [some (am_P (30, 0, 0)), some (am_I x1), some (am_I x2), some (am_I (x3 + (nI 1)))] [] M (am_Z w) := by
  refine Eq.trans (rl_iinc (j := 3) (c := 1) (k := (nI 1)) (ls' := [some (am_P (30, 0, 0)), some (am_I x1), some (am_I x2), some (am_I (x3 + (nI 1)))]) (by decide +kernel) (by decide) rfl rfl) ?_
  refine Eq.trans (rl_goto (o := (-28)) 4 (by decide +kernel) (by decide)) ?_
  rfl
theorem e149 {d : Nat} {x1 : Int32} {M : am_M} {w : am_W4}  : am_ev (d + 1) 149 [am_P (30, 0, 0), am_I x1] M (am_Z w) = am_rn (am_ev d) 149 4 [some (am_P (30, 0, 0)), some (am_I x1), some (am_I (nI 0)), some (am_I (nI 0))] [] M (am_Z w) := (am_ev_eq d 149 _ M (am_Z w)).trans (b149_0)
end AmBl
