section AmBl
variable {call : Nat → List am_V → am_M → am_X → Option am_R}
theorem b1_0 {l : am_L} {x1 x2 x3 x4 : Int32} {M : am_M} {w : am_W4} (hl : am_ck l 0) : am_rn call 1 0 [some (am_P l), some (am_I x1), some (am_I x2), some (am_I x3), some (am_I x4)] [] M (am_Z w) = some (.inl none, (am_set (am_set (am_set (am_set M l 0 x1) l 1 x2) l 2 x3) l 3 x4), (am_Z w)) := by
  refine Eq.trans (rl_aloadn (j := 0) (by decide +kernel) rfl) ?_
  refine Eq.trans (rl_iloadn (j := 1) (by decide +kernel) rfl) ?_
  refine Eq.trans (rl_put (ix := 7) (ci := 0) (j := 0) (by decide +kernel) (by decide +kernel) (by decide +kernel) (by decide +kernel) hl) ?_
  refine Eq.trans (rl_aloadn (j := 0) (by decide +kernel) rfl) ?_
  refine Eq.trans (rl_iloadn (j := 2) (by decide +kernel) rfl) ?_
  refine Eq.trans (rl_put (ix := 13) (ci := 0) (j := 1) (by decide +kernel) (by decide +kernel) (by decide +kernel) (by decide +kernel) hl) ?_
  refine Eq.trans (rl_aloadn (j := 0) (by decide +kernel) rfl) ?_
  refine Eq.trans (rl_iloadn (j := 3) (by decide +kernel) rfl) ?_
  refine Eq.trans (rl_put (ix := 16) (ci := 0) (j := 2) (by decide +kernel) (by decide +kernel) (by decide +kernel) (by decide +kernel) hl) ?_
  refine Eq.trans (rl_aloadn (j := 0) (by decide +kernel) rfl) ?_
  refine Eq.trans (rl_iload (j := 4) (by decide +kernel) rfl) ?_
  refine Eq.trans (rl_put (ix := 19) (ci := 0) (j := 3) (by decide +kernel) (by decide +kernel) (by decide +kernel) (by decide +kernel) hl) ?_
  exact rl_ret (by decide +kernel) rfl
theorem e1 {d : Nat} {l : am_L} {x1 x2 x3 x4 : Int32} {M : am_M} {w : am_W4} (hl : am_ck l 0) : am_ev (d + 1) 1 [am_P l, am_I x1, am_I x2, am_I x3, am_I x4] M (am_Z w) = some (.inl none, (am_set (am_set (am_set (am_set M l 0 x1) l 1 x2) l 2 x3) l 3 x4), (am_Z w)) := (am_ev_eq d 1 _ M (am_Z w)).trans (b1_0 hl)
theorem b3_0 {x1 : Int32} {M : am_M} {w : am_W4}  : am_rn call 3 0 [some (am_P (8, 0, 0)), some (am_I x1)] [] M (am_Z w) = if (M (8, 0, 0) 1) < (nI 60) then if am_in (M (8, 0, 0) 1) 60 then am_rn call 3 19 [some (am_P (8, 0, 0)), some (am_I x1)] [] (am_set M (9, 0, 0) (M (8, 0, 0) 1).toNatClampNeg (vp_nar .char x1)) (am_Z w) else none else some (.inl none, M, (am_Z w)) := by
  refine Eq.trans (rl_aloadn (j := 0) (by decide +kernel) rfl) ?_
  refine Eq.trans (rl_get (ix := 22) (ci := 1) (j := 1) (by decide +kernel) (by decide +kernel) (by decide +kernel) ck8) ?_
  refine Eq.trans (rl_bipush (c := 60) (k := (nI 60)) (by decide +kernel) (by decide)) ?_
  refine Eq.trans (rl_icge (o := 23) 29 (by decide +kernel) (by decide)) ?_
  refine am_ite (fun h_1 => ?_) (fun h_1 => ?_)
  · skip
    refine Eq.trans (rl_aloadn (j := 0) (by decide +kernel) rfl) ?_
    refine Eq.trans (rl_getP (ix := 9) (ci := 1) (j := 0) (by decide +kernel) (by decide +kernel) (by decide +kernel) ck8 rfl) ?_
    refine Eq.trans (rl_aloadn (j := 0) (by decide +kernel) rfl) ?_
    refine Eq.trans (rl_get (ix := 22) (ci := 1) (j := 1) (by decide +kernel) (by decide +kernel) (by decide +kernel) ck8) ?_
    refine Eq.trans (rl_iloadn (j := 1) (by decide +kernel) rfl) ?_
    refine Eq.trans (rl_cast (by decide +kernel) ka9) ?_
    refine am_ite (fun h_2 => ?_) (fun _ => rfl)
    rfl
  · skip
    exact rl_ret (by decide +kernel) rfl
theorem b3_19 {x1 : Int32} {M : am_M} {w : am_W4}  : am_rn call 3 19 [some (am_P (8, 0, 0)), some (am_I x1)] [] M (am_Z w) = some (.inl none, (am_set M (8, 0, 0) 1 ((M (8, 0, 0) 1) + (nI 1))), (am_Z w)) := by
  refine Eq.trans (rl_aloadn (j := 0) (by decide +kernel) rfl) ?_
  refine Eq.trans (rl_dup (by decide +kernel) rfl) ?_
  refine Eq.trans (rl_get (ix := 22) (ci := 1) (j := 1) (by decide +kernel) (by decide +kernel) (by decide +kernel) ck8) ?_
  refine Eq.trans (rl_iconst (c := 1) (k := (nI 1)) (by decide +kernel) (by decide)) ?_
  refine Eq.trans (rl_iadd (by decide +kernel)) ?_
  refine Eq.trans (rl_put (ix := 22) (ci := 1) (j := 1) (by decide +kernel) (by decide +kernel) (by decide +kernel) (by decide +kernel) ck8) ?_
  exact rl_ret (by decide +kernel) rfl
theorem e3 {d : Nat} {x1 : Int32} {M : am_M} {w : am_W4}  : am_ev (d + 1) 3 [am_P (8, 0, 0), am_I x1] M (am_Z w) = if (M (8, 0, 0) 1) < (nI 60) then if am_in (M (8, 0, 0) 1) 60 then am_rn (am_ev d) 3 19 [some (am_P (8, 0, 0)), some (am_I x1)] [] (am_set M (9, 0, 0) (M (8, 0, 0) 1).toNatClampNeg (vp_nar .char x1)) (am_Z w) else none else some (.inl none, M, (am_Z w)) := (am_ev_eq d 3 _ M (am_Z w)).trans (b3_0)
theorem b4_0  {M : am_M} {w : am_W4}  : am_rn call 4 0 [some (am_P (8, 0, 0)), none, none] [] M (am_Z w) = am_cb (call 5 [am_P (8, 0, 0)] (am_set (am_set M (8, 0, 0) 4 (nI 0)) (8, 0, 0) 3 (nI 0)) (am_Z w)) fun v M' X' => am_rn call 4 14 [some (am_P (8, 0, 0)), none, none] (v.toList ++ []) M' X' := by
  refine Eq.trans (rl_aloadn (j := 0) (by decide +kernel) rfl) ?_
  refine Eq.trans (rl_iconst (c := 0) (k := (nI 0)) (by decide +kernel) (by decide)) ?_
  refine Eq.trans (rl_put (ix := 26) (ci := 1) (j := 4) (by decide +kernel) (by decide +kernel) (by decide +kernel) (by decide +kernel) ck8) ?_
  refine Eq.trans (rl_aloadn (j := 0) (by decide +kernel) rfl) ?_
  refine Eq.trans (rl_iconst (c := 0) (k := (nI 0)) (by decide +kernel) (by decide)) ?_
  refine Eq.trans (rl_put (ix := 29) (ci := 1) (j := 3) (by decide +kernel) (by decide +kernel) (by decide +kernel) (by decide +kernel) ck8) ?_
  refine Eq.trans (rl_aloadn (j := 0) (by decide +kernel) rfl) ?_
  refine Eq.trans (rl_inv (ix := 32) (n := 0) (o := 1) 5 [] [] (by decide +kernel) (by decide +kernel) (by decide +kernel) (by decide +kernel) ⟨rfl, rfl⟩ rfl rfl ck8) ?_
  rfl
theorem b4_14 {s0 : Int32} {M : am_M} {w : am_W4}  : am_rn call 4 14 [some (am_P (8, 0, 0)), none, none] [am_I s0] M (am_Z w) = am_rn call 4 17 [some (am_P (8, 0, 0)), some (am_I s0), some (am_I (nI 0))] [] M (am_Z w) := by
  refine Eq.trans (rl_istoren (j := 1) (ls' := [some (am_P (8, 0, 0)), some (am_I s0), none]) (by decide +kernel) rfl rfl) ?_
  refine Eq.trans (rl_iconst (c := 0) (k := (nI 0)) (by decide +kernel) (by decide)) ?_
  refine Eq.trans (rl_istoren (j := 2) (ls' := [some (am_P (8, 0, 0)), some (am_I s0), some (am_I (nI 0))]) (by decide +kernel) rfl rfl) ?_
  rfl
theorem b4_17 {x1 x2 : Int32} {M : am_M} {w : am_W4}  : am_rn call 4 17 [some (am_P (8, 0, 0)), some (am_I x1), some (am_I x2)] [] M (am_Z w) = if x1 = 0 then am_rn call 4 66 [some (am_P (8, 0, 0)), some (am_I x1), some (am_I x2)] [] M (am_Z w) else if (M (8, 0, 0) 4) < (M (8, 0, 0) 1) then if x2 < (nI 60) then am_cb (call 11 [am_P (8, 0, 0), am_I (nI 59)] M (am_Z w)) fun v M' X' => am_rn call 4 44 [some (am_P (8, 0, 0)), some (am_I x1), some (am_I x2)] (v.toList ++ []) M' X' else am_rn call 4 66 [some (am_P (8, 0, 0)), some (am_I x1), some (am_I x2)] [] M (am_Z w) else am_rn call 4 66 [some (am_P (8, 0, 0)), some (am_I x1), some (am_I x2)] [] M (am_Z w) := by
  refine Eq.trans (rl_iloadn (j := 1) (by decide +kernel) rfl) ?_
  refine Eq.trans (rl_ifeq (o := 48) 66 (by decide +kernel) (by decide)) ?_
  refine am_ite (fun h_1 => ?_) (fun h_1 => ?_)
  · skip
    rfl
  · skip
    refine Eq.trans (rl_aloadn (j := 0) (by decide +kernel) rfl) ?_
    refine Eq.trans (rl_get (ix := 26) (ci := 1) (j := 4) (by decide +kernel) (by decide +kernel) (by decide +kernel) ck8) ?_
    refine Eq.trans (rl_aloadn (j := 0) (by decide +kernel) rfl) ?_
    refine Eq.trans (rl_get (ix := 22) (ci := 1) (j := 1) (by decide +kernel) (by decide +kernel) (by decide +kernel) ck8) ?_
    refine Eq.trans (rl_icge (o := 37) 66 (by decide +kernel) (by decide)) ?_
    refine am_ite (fun h_2 => ?_) (fun h_2 => ?_)
    · skip
      refine Eq.trans (rl_iloadn (j := 2) (by decide +kernel) rfl) ?_
      refine Eq.trans (rl_bipush (c := 60) (k := (nI 60)) (by decide +kernel) (by decide)) ?_
      refine Eq.trans (rl_icge (o := 31) 66 (by decide +kernel) (by decide)) ?_
      refine am_ite (fun h_3 => ?_) (fun h_3 => ?_)
      · skip
        refine Eq.trans (rl_aloadn (j := 0) (by decide +kernel) rfl) ?_
        refine Eq.trans (rl_bipush (c := 59) (k := (nI 59)) (by decide +kernel) (by decide)) ?_
        refine Eq.trans (rl_inv (ix := 36) (n := 1) (o := 1) 11 [am_I (nI 59)] [] (by decide +kernel) (by decide +kernel) (by decide +kernel) (by decide +kernel) ⟨rfl, rfl⟩ rfl rfl ck8) ?_
        rfl
      · skip
        rfl
    · skip
      rfl
theorem b4_44 {x1 x2 s0 : Int32} {M : am_M} {w : am_W4}  : am_rn call 4 44 [some (am_P (8, 0, 0)), some (am_I x1), some (am_I x2)] [am_I s0] M (am_Z w) = if s0 = 0 then am_rn call 4 58 [some (am_P (8, 0, 0)), some (am_I x1), some (am_I x2)] [] M (am_Z w) else am_cb (call 5 [am_P (8, 0, 0)] M (am_Z w)) fun v M' X' => am_rn call 4 51 [some (am_P (8, 0, 0)), some (am_I x1), some (am_I x2)] (v.toList ++ []) M' X' := by
  refine Eq.trans (rl_ifeq (o := 14) 58 (by decide +kernel) (by decide)) ?_
  refine am_ite (fun h_1 => ?_) (fun h_1 => ?_)
  · skip
    rfl
  · skip
    refine Eq.trans (rl_aloadn (j := 0) (by decide +kernel) rfl) ?_
    refine Eq.trans (rl_inv (ix := 32) (n := 0) (o := 1) 5 [] [] (by decide +kernel) (by decide +kernel) (by decide +kernel) (by decide +kernel) ⟨rfl, rfl⟩ rfl rfl ck8) ?_
    rfl
theorem b4_51 {x1 x2 s0 : Int32} {M : am_M} {w : am_W4}  : am_rn call 4 51 [some (am_P (8, 0, 0)), some (am_I x1), some (am_I x2)] [am_I s0] M (am_Z w) = if s0 = 0 then am_rn call 4 58 [some (am_P (8, 0, 0)), some (am_I x1), some (am_I x2)] [] M (am_Z w) else am_rn call 4 59 [some (am_P (8, 0, 0)), some (am_I x1), some (am_I x2)] [am_I (nI 1)] M (am_Z w) := by
  refine Eq.trans (rl_ifeq (o := 7) 58 (by decide +kernel) (by decide)) ?_
  refine am_ite (fun h_1 => ?_) (fun h_1 => ?_)
  · skip
    rfl
  · skip
    refine Eq.trans (rl_iconst (c := 1) (k := (nI 1)) (by decide +kernel) (by decide)) ?_
    refine Eq.trans (rl_goto (o := 4) 59 (by decide +kernel) (by decide)) ?_
    rfl
theorem b4_58 {x1 x2 : Int32} {M : am_M} {w : am_W4}  : am_rn call 4 58 [some (am_P (8, 0, 0)), some (am_I x1), some (am_I x2)] [] M (am_Z w) = am_rn call 4 59 [some (am_P (8, 0, 0)), some (am_I x1), some (am_I x2)] [am_I (nI 0)] M (am_Z w) := by
  refine Eq.trans (rl_iconst (c := 0) (k := (nI 0)) (by decide +kernel) (by decide)) ?_
  rfl
theorem b4_59 {x1 x2 s0 : Int32} {M : am_M} {w : am_W4}  : am_rn call 4 59 [some (am_P (8, 0, 0)), some (am_I x1), some (am_I x2)] [am_I s0] M (am_Z w) = am_rn call 4 17 [some (am_P (8, 0, 0)), some (am_I s0), some (am_I (x2 + (nI 1)))] [] M (am_Z w) := by
  refine Eq.trans (rl_istoren (j := 1) (ls' := [some (am_P (8, 0, 0)), some (am_I s0), some (am_I x2)]) (by decide +kernel) rfl rfl) ?_
  refine Eq.trans (rl_iinc (j := 2) (c := 1) (k := (nI 1)) (ls' := [some (am_P (8, 0, 0)), some (am_I s0), some (am_I (x2 + (nI 1)))]) (by decide +kernel) (by decide) rfl rfl) ?_
  refine Eq.trans (rl_goto (o := (-46)) 17 (by decide +kernel) (by decide)) ?_
  rfl
theorem b4_66 {x1 x2 : Int32} {M : am_M} {w : am_W4}  : am_rn call 4 66 [some (am_P (8, 0, 0)), some (am_I x1), some (am_I x2)] [] M (am_Z w) = if x1 = 0 then some (.inl (some (am_I (M (8, 0, 0) 4))), M, (am_Z w)) else some (.inl (some (am_I (-1 : Int32))), M, (am_Z w)) := by
  refine Eq.trans (rl_iloadn (j := 1) (by decide +kernel) rfl) ?_
  refine Eq.trans (rl_ifeq (o := 7) 74 (by decide +kernel) (by decide)) ?_
  refine am_ite (fun h_1 => ?_) (fun h_1 => ?_)
  · skip
    refine Eq.trans (rl_aloadn (j := 0) (by decide +kernel) rfl) ?_
    refine Eq.trans (rl_get (ix := 26) (ci := 1) (j := 4) (by decide +kernel) (by decide +kernel) (by decide +kernel) ck8) ?_
    exact rl_iret (by decide +kernel) rfl
  · skip
    refine Eq.trans (rl_iconst (c := -1) (k := (-1 : Int32)) (by decide +kernel) (by decide)) ?_
    refine Eq.trans (rl_goto (o := 7) 78 (by decide +kernel) (by decide)) ?_
    exact rl_iret (by decide +kernel) rfl
theorem e4 {d : Nat}  {M : am_M} {w : am_W4}  : am_ev (d + 1) 4 [am_P (8, 0, 0)] M (am_Z w) = am_cb ((am_ev d) 5 [am_P (8, 0, 0)] (am_set (am_set M (8, 0, 0) 4 (nI 0)) (8, 0, 0) 3 (nI 0)) (am_Z w)) fun v M' X' => am_rn (am_ev d) 4 14 [some (am_P (8, 0, 0)), none, none] (v.toList ++ []) M' X' := (am_ev_eq d 4 _ M (am_Z w)).trans (b4_0)
theorem b5_0  {M : am_M} {w : am_W4}  : am_rn call 5 0 [some (am_P (8, 0, 0)), none] [] M (am_Z w) = if (M (8, 0, 0) 3) < (nI 20) then if am_in (M (8, 0, 0) 3) 20 then am_cb (call 10 [am_P (8, 0, 0)] (am_set M (8, 0, 0) 3 ((M (8, 0, 0) 3) + (nI 1))) (am_Z w)) fun v M' X' => am_rn call 5 35 [some (am_P (8, 0, 0)), some (am_P (11, 0, (M (8, 0, 0) 3).toNatClampNeg))] (v.toList ++ []) M' X' else none else some (.inl (some (am_I (nI 0))), M, (am_Z w)) := by
  refine Eq.trans (rl_aloadn (j := 0) (by decide +kernel) rfl) ?_
  refine Eq.trans (rl_get (ix := 29) (ci := 1) (j := 3) (by decide +kernel) (by decide +kernel) (by decide +kernel) ck8) ?_
  refine Eq.trans (rl_bipush (c := 20) (k := (nI 20)) (by decide +kernel) (by decide)) ?_
  refine Eq.trans (rl_iclt (o := 5) 11 (by decide +kernel) (by decide)) ?_
  refine am_ite (fun h_1 => ?_) (fun h_1 => ?_)
  · skip
    refine Eq.trans (rl_aloadn (j := 0) (by decide +kernel) rfl) ?_
    refine Eq.trans (rl_getP (ix := 17) (ci := 1) (j := 2) (by decide +kernel) (by decide +kernel) (by decide +kernel) ck8 rfl) ?_
    refine Eq.trans (rl_aloadn (j := 0) (by decide +kernel) rfl) ?_
    refine Eq.trans (rl_get (ix := 29) (ci := 1) (j := 3) (by decide +kernel) (by decide +kernel) (by decide +kernel) ck8) ?_
    refine Eq.trans (rl_aald (v := (11, 0, (M (8, 0, 0) 3).toNatClampNeg)) (by decide +kernel) ka10 (fun h => if_pos (am_in_lt' h))) ?_
    refine am_ite (fun h_2 => ?_) (fun _ => rfl)
    refine Eq.trans (rl_astoren (j := 1) (ls' := [some (am_P (8, 0, 0)), some (am_P (11, 0, (M (8, 0, 0) 3).toNatClampNeg))]) (by decide +kernel) rfl rfl) ?_
    refine Eq.trans (rl_aloadn (j := 0) (by decide +kernel) rfl) ?_
    refine Eq.trans (rl_dup (by decide +kernel) rfl) ?_
    refine Eq.trans (rl_get (ix := 29) (ci := 1) (j := 3) (by decide +kernel) (by decide +kernel) (by decide +kernel) ck8) ?_
    refine Eq.trans (rl_iconst (c := 1) (k := (nI 1)) (by decide +kernel) (by decide)) ?_
    refine Eq.trans (rl_iadd (by decide +kernel)) ?_
    refine Eq.trans (rl_put (ix := 29) (ci := 1) (j := 3) (by decide +kernel) (by decide +kernel) (by decide +kernel) (by decide +kernel) ck8) ?_
    refine Eq.trans (rl_aloadn (j := 0) (by decide +kernel) rfl) ?_
    refine Eq.trans (rl_inv (ix := 40) (n := 0) (o := 1) 10 [] [] (by decide +kernel) (by decide +kernel) (by decide +kernel) (by decide +kernel) ⟨rfl, rfl⟩ rfl rfl ck8) ?_
    rfl
  · skip
    refine Eq.trans (rl_iconst (c := 0) (k := (nI 0)) (by decide +kernel) (by decide)) ?_
    exact rl_zretk (by decide +kernel) rfl rfl
theorem b5_35 {x1 : Nat} {s0 : Int32} {M : am_M} {w : am_W4} (h1 : x1 < 20) : am_rn call 5 35 [some (am_P (8, 0, 0)), some (am_P (11, 0, x1))] [am_I s0] M (am_Z w) = if s0 = (nI 100) then am_cb (call 7 [am_P (8, 0, 0), am_P (11, 0, x1), am_I (nI 6)] M (am_Z w)) fun v M' X' => am_rn call 5 169 [some (am_P (8, 0, 0)), some (am_P (11, 0, x1))] (v.toList ++ []) M' X' else if s0 = (nI 101) then am_cb (call 9 [am_P (8, 0, 0), am_P (11, 0, x1), am_I (nI 4)] M (am_Z w)) fun v M' X' => am_rn call 5 161 [some (am_P (8, 0, 0)), some (am_P (11, 0, x1))] (v.toList ++ []) M' X' else if s0 = (nI 102) then some (.inl (some (am_I (nI 0))), M, (am_Z w)) else if s0 = (nI 103) then some (.inl (some (am_I (nI 0))), M, (am_Z w)) else if s0 = (nI 104) then am_cb (call 7 [am_P (8, 0, 0), am_P (11, 0, x1), am_I (nI 7)] M (am_Z w)) fun v M' X' => am_rn call 5 141 [some (am_P (8, 0, 0)), some (am_P (11, 0, x1))] (v.toList ++ []) M' X' else if s0 = (nI 105) then some (.inl (some (am_I (nI 0))), M, (am_Z w)) else if s0 = (nI 106) then some (.inl (some (am_I (nI 0))), M, (am_Z w)) else if s0 = (nI 107) then some (.inl (some (am_I (nI 0))), M, (am_Z w)) else if s0 = (nI 108) then some (.inl (some (am_I (nI 0))), M, (am_Z w)) else if s0 = (nI 109) then some (.inl (some (am_I (nI 0))), M, (am_Z w)) else if s0 = (nI 110) then some (.inl (some (am_I (nI 0))), M, (am_Z w)) else if s0 = (nI 111) then some (.inl (some (am_I (nI 0))), M, (am_Z w)) else if s0 = (nI 112) then some (.inl (some (am_I (nI 0))), M, (am_Z w)) else if s0 = (nI 113) then am_cb (call 8 [am_P (8, 0, 0), am_P (11, 0, x1)] M (am_Z w)) fun v M' X' => am_rn call 5 147 [some (am_P (8, 0, 0)), some (am_P (11, 0, x1))] (v.toList ++ []) M' X' else if s0 = (nI 114) then some (.inl (some (am_I (nI 0))), M, (am_Z w)) else if s0 = (nI 115) then am_cb (call 6 [am_P (8, 0, 0), am_P (11, 0, x1)] M (am_Z w)) fun v M' X' => am_rn call 5 133 [some (am_P (8, 0, 0)), some (am_P (11, 0, x1))] (v.toList ++ []) M' X' else if s0 = (nI 116) then some (.inl (some (am_I (nI 0))), M, (am_Z w)) else if s0 = (nI 117) then some (.inl (some (am_I (nI 0))), M, (am_Z w)) else if s0 = (nI 118) then some (.inl (some (am_I (nI 0))), M, (am_Z w)) else if s0 = (nI 119) then am_cb (call 9 [am_P (8, 0, 0), am_P (11, 0, x1), am_I (nI 3)] M (am_Z w)) fun v M' X' => am_rn call 5 154 [some (am_P (8, 0, 0)), some (am_P (11, 0, x1))] (v.toList ++ []) M' X' else some (.inl (some (am_I (nI 0))), M, (am_Z w)) := by
  refine Eq.trans (rl_ts (d := 135) (lo := 100) (hi := 119) (os := #[127, 120, 135, 135, 99, 135, 135, 135, 135, 135, 135, 135, 135, 107, 135, 93, 135, 135, 135, 113]) 170 [162, 155, 170, 170, 134, 170, 170, 170, 170, 170, 170, 170, 170, 142, 170, 128, 170, 170, 170, 148] (by decide +kernel) (by decide +kernel)) ?_
  refine Eq.trans (rl_sw (nI 100) (by decide)) ?_
  refine am_ite (fun _ => ?_) (fun _ => ?_)
  · skip
    refine Eq.trans (rl_aloadn (j := 0) (by decide +kernel) rfl) ?_
    refine Eq.trans (rl_aloadn (j := 1) (by decide +kernel) rfl) ?_
    refine Eq.trans (rl_bipush (c := 6) (k := (nI 6)) (by decide +kernel) (by decide)) ?_
    refine Eq.trans (rl_inv (ix := 48) (n := 2) (o := 1) 7 [am_P (11, 0, x1), am_I (nI 6)] [] (by decide +kernel) (by decide +kernel) (by decide +kernel) (by decide +kernel) ⟨rfl, rfl⟩ rfl rfl ck8) ?_
    rfl
  refine Eq.trans (rl_sw (nI 101) (by decide)) ?_
  refine am_ite (fun _ => ?_) (fun _ => ?_)
  · skip
    refine Eq.trans (rl_aloadn (j := 0) (by decide +kernel) rfl) ?_
    refine Eq.trans (rl_aloadn (j := 1) (by decide +kernel) rfl) ?_
    refine Eq.trans (rl_iconst (c := 4) (k := (nI 4)) (by decide +kernel) (by decide)) ?_
    refine Eq.trans (rl_inv (ix := 55) (n := 2) (o := 1) 9 [am_P (11, 0, x1), am_I (nI 4)] [] (by decide +kernel) (by decide +kernel) (by decide +kernel) (by decide +kernel) ⟨rfl, rfl⟩ rfl rfl ck8) ?_
    rfl
  refine Eq.trans (rl_sw (nI 102) (by decide)) ?_
  refine am_ite (fun _ => ?_) (fun _ => ?_)
  · skip
    refine Eq.trans (rl_iconst (c := 0) (k := (nI 0)) (by decide +kernel) (by decide)) ?_
    exact rl_zretk (by decide +kernel) rfl rfl
  refine Eq.trans (rl_sw (nI 103) (by decide)) ?_
  refine am_ite (fun _ => ?_) (fun _ => ?_)
  · skip
    refine Eq.trans (rl_iconst (c := 0) (k := (nI 0)) (by decide +kernel) (by decide)) ?_
    exact rl_zretk (by decide +kernel) rfl rfl
  refine Eq.trans (rl_sw (nI 104) (by decide)) ?_
  refine am_ite (fun _ => ?_) (fun _ => ?_)
  · skip
    refine Eq.trans (rl_aloadn (j := 0) (by decide +kernel) rfl) ?_
    refine Eq.trans (rl_aloadn (j := 1) (by decide +kernel) rfl) ?_
    refine Eq.trans (rl_bipush (c := 7) (k := (nI 7)) (by decide +kernel) (by decide)) ?_
    refine Eq.trans (rl_inv (ix := 48) (n := 2) (o := 1) 7 [am_P (11, 0, x1), am_I (nI 7)] [] (by decide +kernel) (by decide +kernel) (by decide +kernel) (by decide +kernel) ⟨rfl, rfl⟩ rfl rfl ck8) ?_
    rfl
  refine Eq.trans (rl_sw (nI 105) (by decide)) ?_
  refine am_ite (fun _ => ?_) (fun _ => ?_)
  · skip
    refine Eq.trans (rl_iconst (c := 0) (k := (nI 0)) (by decide +kernel) (by decide)) ?_
    exact rl_zretk (by decide +kernel) rfl rfl
  refine Eq.trans (rl_sw (nI 106) (by decide)) ?_
  refine am_ite (fun _ => ?_) (fun _ => ?_)
  · skip
    refine Eq.trans (rl_iconst (c := 0) (k := (nI 0)) (by decide +kernel) (by decide)) ?_
    exact rl_zretk (by decide +kernel) rfl rfl
  refine Eq.trans (rl_sw (nI 107) (by decide)) ?_
  refine am_ite (fun _ => ?_) (fun _ => ?_)
  · skip
    refine Eq.trans (rl_iconst (c := 0) (k := (nI 0)) (by decide +kernel) (by decide)) ?_
    exact rl_zretk (by decide +kernel) rfl rfl
  refine Eq.trans (rl_sw (nI 108) (by decide)) ?_
  refine am_ite (fun _ => ?_) (fun _ => ?_)
  · skip
    refine Eq.trans (rl_iconst (c := 0) (k := (nI 0)) (by decide +kernel) (by decide)) ?_
    exact rl_zretk (by decide +kernel) rfl rfl
  refine Eq.trans (rl_sw (nI 109) (by decide)) ?_
  refine am_ite (fun _ => ?_) (fun _ => ?_)
  · skip
    refine Eq.trans (rl_iconst (c := 0) (k := (nI 0)) (by decide +kernel) (by decide)) ?_
    exact rl_zretk (by decide +kernel) rfl rfl
  refine Eq.trans (rl_sw (nI 110) (by decide)) ?_
  refine am_ite (fun _ => ?_) (fun _ => ?_)
  · skip
    refine Eq.trans (rl_iconst (c := 0) (k := (nI 0)) (by decide +kernel) (by decide)) ?_
    exact rl_zretk (by decide +kernel) rfl rfl
  refine Eq.trans (rl_sw (nI 111) (by decide)) ?_
  refine am_ite (fun _ => ?_) (fun _ => ?_)
  · skip
    refine Eq.trans (rl_iconst (c := 0) (k := (nI 0)) (by decide +kernel) (by decide)) ?_
    exact rl_zretk (by decide +kernel) rfl rfl
  refine Eq.trans (rl_sw (nI 112) (by decide)) ?_
  refine am_ite (fun _ => ?_) (fun _ => ?_)
  · skip
    refine Eq.trans (rl_iconst (c := 0) (k := (nI 0)) (by decide +kernel) (by decide)) ?_
    exact rl_zretk (by decide +kernel) rfl rfl
  refine Eq.trans (rl_sw (nI 113) (by decide)) ?_
  refine am_ite (fun _ => ?_) (fun _ => ?_)
  · skip
    refine Eq.trans (rl_aloadn (j := 0) (by decide +kernel) rfl) ?_
    refine Eq.trans (rl_aloadn (j := 1) (by decide +kernel) rfl) ?_
    refine Eq.trans (rl_inv (ix := 52) (n := 1) (o := 1) 8 [am_P (11, 0, x1)] [] (by decide +kernel) (by decide +kernel) (by decide +kernel) (by decide +kernel) ⟨rfl, rfl⟩ rfl rfl ck8) ?_
    rfl
  refine Eq.trans (rl_sw (nI 114) (by decide)) ?_
  refine am_ite (fun _ => ?_) (fun _ => ?_)
  · skip
    refine Eq.trans (rl_iconst (c := 0) (k := (nI 0)) (by decide +kernel) (by decide)) ?_
    exact rl_zretk (by decide +kernel) rfl rfl
  refine Eq.trans (rl_sw (nI 115) (by decide)) ?_
  refine am_ite (fun _ => ?_) (fun _ => ?_)
  · skip
    refine Eq.trans (rl_aloadn (j := 0) (by decide +kernel) rfl) ?_
    refine Eq.trans (rl_aloadn (j := 1) (by decide +kernel) rfl) ?_
    refine Eq.trans (rl_inv (ix := 44) (n := 1) (o := 1) 6 [am_P (11, 0, x1)] [] (by decide +kernel) (by decide +kernel) (by decide +kernel) (by decide +kernel) ⟨rfl, rfl⟩ rfl rfl ck8) ?_
    rfl
  refine Eq.trans (rl_sw (nI 116) (by decide)) ?_
  refine am_ite (fun _ => ?_) (fun _ => ?_)
  · skip
    refine Eq.trans (rl_iconst (c := 0) (k := (nI 0)) (by decide +kernel) (by decide)) ?_
    exact rl_zretk (by decide +kernel) rfl rfl
  refine Eq.trans (rl_sw (nI 117) (by decide)) ?_
  refine am_ite (fun _ => ?_) (fun _ => ?_)
  · skip
    refine Eq.trans (rl_iconst (c := 0) (k := (nI 0)) (by decide +kernel) (by decide)) ?_
    exact rl_zretk (by decide +kernel) rfl rfl
  refine Eq.trans (rl_sw (nI 118) (by decide)) ?_
  refine am_ite (fun _ => ?_) (fun _ => ?_)
  · skip
    refine Eq.trans (rl_iconst (c := 0) (k := (nI 0)) (by decide +kernel) (by decide)) ?_
    exact rl_zretk (by decide +kernel) rfl rfl
  refine Eq.trans (rl_sw (nI 119) (by decide)) ?_
  refine am_ite (fun _ => ?_) (fun _ => ?_)
  · skip
    refine Eq.trans (rl_aloadn (j := 0) (by decide +kernel) rfl) ?_
    refine Eq.trans (rl_aloadn (j := 1) (by decide +kernel) rfl) ?_
    refine Eq.trans (rl_iconst (c := 3) (k := (nI 3)) (by decide +kernel) (by decide)) ?_
    refine Eq.trans (rl_inv (ix := 55) (n := 2) (o := 1) 9 [am_P (11, 0, x1), am_I (nI 3)] [] (by decide +kernel) (by decide +kernel) (by decide +kernel) (by decide +kernel) ⟨rfl, rfl⟩ rfl rfl ck8) ?_
    rfl
  show am_rn call 5 170 _ _ _ _ = _
  refine Eq.trans (rl_iconst (c := 0) (k := (nI 0)) (by decide +kernel) (by decide)) ?_
  exact rl_zretk (by decide +kernel) rfl rfl
theorem b5_133 {x1 : Nat} {s0 : Int32} {M : am_M} {w : am_W4} (h1 : x1 < 20) : am_rn call 5 133 [some (am_P (8, 0, 0)), some (am_P (11, 0, x1))] [am_I s0] M (am_Z w) = if am_pc 1 s0 = true then some (.inl (some (am_I s0)), M, (am_Z w)) else none := by
  exact rl_zret (by decide +kernel) rfl
theorem b5_141 {x1 : Nat} {s0 : Int32} {M : am_M} {w : am_W4} (h1 : x1 < 20) : am_rn call 5 141 [some (am_P (8, 0, 0)), some (am_P (11, 0, x1))] [am_I s0] M (am_Z w) = if am_pc 1 s0 = true then some (.inl (some (am_I s0)), M, (am_Z w)) else none := by
  exact rl_zret (by decide +kernel) rfl
theorem b5_147 {x1 : Nat} {s0 : Int32} {M : am_M} {w : am_W4} (h1 : x1 < 20) : am_rn call 5 147 [some (am_P (8, 0, 0)), some (am_P (11, 0, x1))] [am_I s0] M (am_Z w) = if am_pc 1 s0 = true then some (.inl (some (am_I s0)), M, (am_Z w)) else none := by
  exact rl_zret (by decide +kernel) rfl
theorem b5_154 {x1 : Nat} {s0 : Int32} {M : am_M} {w : am_W4} (h1 : x1 < 20) : am_rn call 5 154 [some (am_P (8, 0, 0)), some (am_P (11, 0, x1))] [am_I s0] M (am_Z w) = if am_pc 1 s0 = true then some (.inl (some (am_I s0)), M, (am_Z w)) else none := by
  exact rl_zret (by decide +kernel) rfl
theorem b5_161 {x1 : Nat} {s0 : Int32} {M : am_M} {w : am_W4} (h1 : x1 < 20) : am_rn call 5 161 [some (am_P (8, 0, 0)), some (am_P (11, 0, x1))] [am_I s0] M (am_Z w) = if am_pc 1 s0 = true then some (.inl (some (am_I s0)), M, (am_Z w)) else none := by
  exact rl_zret (by decide +kernel) rfl
theorem b5_169 {x1 : Nat} {s0 : Int32} {M : am_M} {w : am_W4} (h1 : x1 < 20) : am_rn call 5 169 [some (am_P (8, 0, 0)), some (am_P (11, 0, x1))] [am_I s0] M (am_Z w) = if am_pc 1 s0 = true then some (.inl (some (am_I s0)), M, (am_Z w)) else none := by
  exact rl_zret (by decide +kernel) rfl
theorem e5 {d : Nat}  {M : am_M} {w : am_W4}  : am_ev (d + 1) 5 [am_P (8, 0, 0)] M (am_Z w) = if (M (8, 0, 0) 3) < (nI 20) then if am_in (M (8, 0, 0) 3) 20 then am_cb ((am_ev d) 10 [am_P (8, 0, 0)] (am_set M (8, 0, 0) 3 ((M (8, 0, 0) 3) + (nI 1))) (am_Z w)) fun v M' X' => am_rn (am_ev d) 5 35 [some (am_P (8, 0, 0)), some (am_P (11, 0, (M (8, 0, 0) 3).toNatClampNeg))] (v.toList ++ []) M' X' else none else some (.inl (some (am_I (nI 0))), M, (am_Z w)) := (am_ev_eq d 5 _ M (am_Z w)).trans (b5_0)
theorem b6_0 {l : am_L} {M : am_M} {w : am_W4} (hl : am_ck l 0) : am_rn call 6 0 [some (am_P (8, 0, 0)), some (am_P l), none, none, none] [] M (am_Z w) = am_cb (call 12 [am_P (8, 0, 0), am_I (nI 0), am_I (nI 9)] (am_set M (8, 0, 0) 4 ((M (8, 0, 0) 4) + (nI 1))) (am_Z w)) fun v M' X' => am_rn call 6 17 [some (am_P (8, 0, 0)), some (am_P l), none, none, none] (v.toList ++ []) M' X' := by
  refine Eq.trans (rl_aloadn (j := 0) (by decide +kernel) rfl) ?_
  refine Eq.trans (rl_dup (by decide +kernel) rfl) ?_
  refine Eq.trans (rl_get (ix := 26) (ci := 1) (j := 4) (by decide +kernel) (by decide +kernel) (by decide +kernel) ck8) ?_
  refine Eq.trans (rl_iconst (c := 1) (k := (nI 1)) (by decide +kernel) (by decide)) ?_
  refine Eq.trans (rl_iadd (by decide +kernel)) ?_
  refine Eq.trans (rl_put (ix := 26) (ci := 1) (j := 4) (by decide +kernel) (by decide +kernel) (by decide +kernel) (by decide +kernel) ck8) ?_
  refine Eq.trans (rl_aloadn (j := 0) (by decide +kernel) rfl) ?_
  refine Eq.trans (rl_iconst (c := 0) (k := (nI 0)) (by decide +kernel) (by decide)) ?_
  refine Eq.trans (rl_bipush (c := 9) (k := (nI 9)) (by decide +kernel) (by decide)) ?_
  refine Eq.trans (rl_inv (ix := 58) (n := 2) (o := 1) 12 [am_I (nI 0), am_I (nI 9)] [] (by decide +kernel) (by decide +kernel) (by decide +kernel) (by decide +kernel) ⟨rfl, rfl⟩ rfl rfl ck8) ?_
  rfl
theorem b6_17 {l : am_L} {s0 : Int32} {M : am_M} {w : am_W4} (hl : am_ck l 0) : am_rn call 6 17 [some (am_P (8, 0, 0)), some (am_P l), none, none, none] [am_I s0] M (am_Z w) = if s0 = (-1 : Int32) then some (.inl (some (am_I (nI 0))), M, (am_Z w)) else am_cb (call 11 [am_P (8, 0, 0), am_I (nI 62)] M (am_Z w)) fun v M' X' => am_rn call 6 29 [some (am_P (8, 0, 0)), some (am_P l), some (am_I s0), none, none] (v.toList ++ []) M' X' := by
  refine Eq.trans (rl_istoren (j := 2) (ls' := [some (am_P (8, 0, 0)), some (am_P l), some (am_I s0), none, none]) (by decide +kernel) rfl rfl) ?_
  refine Eq.trans (rl_iloadn (j := 2) (by decide +kernel) rfl) ?_
  refine Eq.trans (rl_iconst (c := -1) (k := (-1 : Int32)) (by decide +kernel) (by decide)) ?_
  refine Eq.trans (rl_iceq (o := 12) 32 (by decide +kernel) (by decide)) ?_
  refine am_ite (fun h_1 => ?_) (fun h_1 => ?_)
  · skip
    refine Eq.trans (rl_iconst (c := 0) (k := (nI 0)) (by decide +kernel) (by decide)) ?_
    exact rl_zretk (by decide +kernel) rfl rfl
  · skip
    refine Eq.trans (rl_aloadn (j := 0) (by decide +kernel) rfl) ?_
    refine Eq.trans (rl_bipush (c := 62) (k := (nI 62)) (by decide +kernel) (by decide)) ?_
    refine Eq.trans (rl_inv (ix := 36) (n := 1) (o := 1) 11 [am_I (nI 62)] [] (by decide +kernel) (by decide +kernel) (by decide +kernel) (by decide +kernel) ⟨rfl, rfl⟩ rfl rfl ck8) ?_
    rfl
theorem b6_29 {l : am_L} {x2 s0 : Int32} {M : am_M} {w : am_W4} (hl : am_ck l 0) : am_rn call 6 29 [some (am_P (8, 0, 0)), some (am_P l), some (am_I x2), none, none] [am_I s0] M (am_Z w) = if s0 = 0 then some (.inl (some (am_I (nI 0))), M, (am_Z w)) else am_cb (call 12 [am_P (8, 0, 0), am_I (nI 0), am_I (nI 9)] M (am_Z w)) fun v M' X' => am_rn call 6 41 [some (am_P (8, 0, 0)), some (am_P l), some (am_I x2), none, none] (v.toList ++ []) M' X' := by
  refine Eq.trans (rl_ifne (o := 5) 34 (by decide +kernel) (by decide)) ?_
  refine am_ite (fun h_1 => ?_) (fun h_1 => ?_)
  · skip
    refine Eq.trans (rl_iconst (c := 0) (k := (nI 0)) (by decide +kernel) (by decide)) ?_
    exact rl_zretk (by decide +kernel) rfl rfl
  · skip
    refine Eq.trans (rl_aloadn (j := 0) (by decide +kernel) rfl) ?_
    refine Eq.trans (rl_iconst (c := 0) (k := (nI 0)) (by decide +kernel) (by decide)) ?_
    refine Eq.trans (rl_bipush (c := 9) (k := (nI 9)) (by decide +kernel) (by decide)) ?_
    refine Eq.trans (rl_inv (ix := 58) (n := 2) (o := 1) 12 [am_I (nI 0), am_I (nI 9)] [] (by decide +kernel) (by decide +kernel) (by decide +kernel) (by decide +kernel) ⟨rfl, rfl⟩ rfl rfl ck8) ?_
    rfl
theorem b6_41 {l : am_L} {x2 s0 : Int32} {M : am_M} {w : am_W4} (hl : am_ck l 0) : am_rn call 6 41 [some (am_P (8, 0, 0)), some (am_P l), some (am_I x2), none, none] [am_I s0] M (am_Z w) = if s0 = (-1 : Int32) then some (.inl (some (am_I (nI 0))), M, (am_Z w)) else am_cb (call 11 [am_P (8, 0, 0), am_I (nI 58)] M (am_Z w)) fun v M' X' => am_rn call 6 53 [some (am_P (8, 0, 0)), some (am_P l), some (am_I x2), some (am_I s0), none] (v.toList ++ []) M' X' := by
  refine Eq.trans (rl_istoren (j := 3) (ls' := [some (am_P (8, 0, 0)), some (am_P l), some (am_I x2), some (am_I s0), none]) (by decide +kernel) rfl rfl) ?_
  refine Eq.trans (rl_iloadn (j := 3) (by decide +kernel) rfl) ?_
  refine Eq.trans (rl_iconst (c := -1) (k := (-1 : Int32)) (by decide +kernel) (by decide)) ?_
  refine Eq.trans (rl_iceq (o := 12) 56 (by decide +kernel) (by decide)) ?_
  refine am_ite (fun h_1 => ?_) (fun h_1 => ?_)
  · skip
    refine Eq.trans (rl_iconst (c := 0) (k := (nI 0)) (by decide +kernel) (by decide)) ?_
    exact rl_zretk (by decide +kernel) rfl rfl
  · skip
    refine Eq.trans (rl_aloadn (j := 0) (by decide +kernel) rfl) ?_
    refine Eq.trans (rl_bipush (c := 58) (k := (nI 58)) (by decide +kernel) (by decide)) ?_
    refine Eq.trans (rl_inv (ix := 36) (n := 1) (o := 1) 11 [am_I (nI 58)] [] (by decide +kernel) (by decide +kernel) (by decide +kernel) (by decide +kernel) ⟨rfl, rfl⟩ rfl rfl ck8) ?_
    rfl
theorem b6_53 {l : am_L} {x2 x3 s0 : Int32} {M : am_M} {w : am_W4} (hl : am_ck l 0) : am_rn call 6 53 [some (am_P (8, 0, 0)), some (am_P l), some (am_I x2), some (am_I x3), none] [am_I s0] M (am_Z w) = if s0 = 0 then some (.inl (some (am_I (nI 0))), M, (am_Z w)) else am_cb (call 14 [am_P (8, 0, 0)] M (am_Z w)) fun v M' X' => am_rn call 6 62 [some (am_P (8, 0, 0)), some (am_P l), some (am_I x2), some (am_I x3), none] (v.toList ++ []) M' X' := by
  refine Eq.trans (rl_ifne (o := 5) 58 (by decide +kernel) (by decide)) ?_
  refine am_ite (fun h_1 => ?_) (fun h_1 => ?_)
  · skip
    refine Eq.trans (rl_iconst (c := 0) (k := (nI 0)) (by decide +kernel) (by decide)) ?_
    exact rl_zretk (by decide +kernel) rfl rfl
  · skip
    refine Eq.trans (rl_aloadn (j := 0) (by decide +kernel) rfl) ?_
    refine Eq.trans (rl_inv (ix := 62) (n := 0) (o := 1) 14 [] [] (by decide +kernel) (by decide +kernel) (by decide +kernel) (by decide +kernel) ⟨rfl, rfl⟩ rfl rfl ck8) ?_
    rfl
theorem b6_62 {l : am_L} {x2 x3 s0 : Int32} {M : am_M} {w : am_W4} (hl : am_ck l 0) : am_rn call 6 62 [some (am_P (8, 0, 0)), some (am_P l), some (am_I x2), some (am_I x3), none] [am_I s0] M (am_Z w) = am_cb (call 1 [am_P l, am_I (nI 5), am_I x2, am_I x3, am_I s0] M (am_Z w)) fun v M' X' => am_rn call 6 73 [some (am_P (8, 0, 0)), some (am_P l), some (am_I x2), some (am_I x3), some (am_I s0)] (v.toList ++ []) M' X' := by
  refine Eq.trans (rl_istore (j := 4) (ls' := [some (am_P (8, 0, 0)), some (am_P l), some (am_I x2), some (am_I x3), some (am_I s0)]) (by decide +kernel) rfl rfl) ?_
  refine Eq.trans (rl_aloadn (j := 1) (by decide +kernel) rfl) ?_
  refine Eq.trans (rl_iconst (c := 5) (k := (nI 5)) (by decide +kernel) (by decide)) ?_
  refine Eq.trans (rl_iloadn (j := 2) (by decide +kernel) rfl) ?_
  refine Eq.trans (rl_iloadn (j := 3) (by decide +kernel) rfl) ?_
  refine Eq.trans (rl_iload (j := 4) (by decide +kernel) rfl) ?_
  refine Eq.trans (rl_inv (ix := 65) (n := 4) (o := 0) 1 [am_I (nI 5), am_I x2, am_I x3, am_I s0] [] (by decide +kernel) (by decide +kernel) (by decide +kernel) (by decide +kernel) ⟨rfl, rfl⟩ rfl rfl hl) ?_
  rfl
theorem b6_73 {l : am_L} {x2 x3 x4 : Int32} {M : am_M} {w : am_W4} (hl : am_ck l 0) : am_rn call 6 73 [some (am_P (8, 0, 0)), some (am_P l), some (am_I x2), some (am_I x3), some (am_I x4)] [] M (am_Z w) = if x4 = (-1 : Int32) then some (.inl (some (am_I (nI 0))), M, (am_Z w)) else some (.inl (some (am_I (nI 1))), M, (am_Z w)) := by
  refine Eq.trans (rl_iload (j := 4) (by decide +kernel) rfl) ?_
  refine Eq.trans (rl_iconst (c := -1) (k := (-1 : Int32)) (by decide +kernel) (by decide)) ?_
  refine Eq.trans (rl_iceq (o := 7) 83 (by decide +kernel) (by decide)) ?_
  refine am_ite (fun h_1 => ?_) (fun h_1 => ?_)
  · skip
    refine Eq.trans (rl_iconst (c := 0) (k := (nI 0)) (by decide +kernel) (by decide)) ?_
    exact rl_zretk (by decide +kernel) rfl rfl
  · skip
    refine Eq.trans (rl_iconst (c := 1) (k := (nI 1)) (by decide +kernel) (by decide)) ?_
    refine Eq.trans (rl_goto (o := 4) 84 (by decide +kernel) (by decide)) ?_
    exact rl_zretk (by decide +kernel) rfl rfl
theorem e6 {d : Nat} {l : am_L} {M : am_M} {w : am_W4} (hl : am_ck l 0) : am_ev (d + 1) 6 [am_P (8, 0, 0), am_P l] M (am_Z w) = am_cb ((am_ev d) 12 [am_P (8, 0, 0), am_I (nI 0), am_I (nI 9)] (am_set M (8, 0, 0) 4 ((M (8, 0, 0) 4) + (nI 1))) (am_Z w)) fun v M' X' => am_rn (am_ev d) 6 17 [some (am_P (8, 0, 0)), some (am_P l), none, none, none] (v.toList ++ []) M' X' := (am_ev_eq d 6 _ M (am_Z w)).trans (b6_0 hl)
theorem b7_0 {l : am_L} {x2 : Int32} {M : am_M} {w : am_W4} (hl : am_ck l 0) : am_rn call 7 0 [some (am_P (8, 0, 0)), some (am_P l), some (am_I x2), none] [] M (am_Z w) = am_cb (call 13 [am_P (8, 0, 0)] (am_set M (8, 0, 0) 4 ((M (8, 0, 0) 4) + (nI 1))) (am_Z w)) fun v M' X' => am_rn call 7 14 [some (am_P (8, 0, 0)), some (am_P l), some (am_I x2), none] (v.toList ++ []) M' X' := by
  refine Eq.trans (rl_aloadn (j := 0) (by decide +kernel) rfl) ?_
  refine Eq.trans (rl_dup (by decide +kernel) rfl) ?_
  refine Eq.trans (rl_get (ix := 26) (ci := 1) (j := 4) (by decide +kernel) (by decide +kernel) (by decide +kernel) ck8) ?_
  refine Eq.trans (rl_iconst (c := 1) (k := (nI 1)) (by decide +kernel) (by decide)) ?_
  refine Eq.trans (rl_iadd (by decide +kernel)) ?_
  refine Eq.trans (rl_put (ix := 26) (ci := 1) (j := 4) (by decide +kernel) (by decide +kernel) (by decide +kernel) (by decide +kernel) ck8) ?_
  refine Eq.trans (rl_aloadn (j := 0) (by decide +kernel) rfl) ?_
  refine Eq.trans (rl_inv (ix := 69) (n := 0) (o := 1) 13 [] [] (by decide +kernel) (by decide +kernel) (by decide +kernel) (by decide +kernel) ⟨rfl, rfl⟩ rfl rfl ck8) ?_
  rfl
theorem b7_14 {l : am_L} {x2 s0 : Int32} {M : am_M} {w : am_W4} (hl : am_ck l 0) : am_rn call 7 14 [some (am_P (8, 0, 0)), some (am_P l), some (am_I x2), none] [am_I s0] M (am_Z w) = am_cb (call 1 [am_P l, am_I x2, am_I s0, am_I (nI 0), am_I (nI 0)] M (am_Z w)) fun v M' X' => am_rn call 7 23 [some (am_P (8, 0, 0)), some (am_P l), some (am_I x2), some (am_I s0)] (v.toList ++ []) M' X' := by
  refine Eq.trans (rl_istoren (j := 3) (ls' := [some (am_P (8, 0, 0)), some (am_P l), some (am_I x2), some (am_I s0)]) (by decide +kernel) rfl rfl) ?_
  refine Eq.trans (rl_aloadn (j := 1) (by decide +kernel) rfl) ?_
  refine Eq.trans (rl_iloadn (j := 2) (by decide +kernel) rfl) ?_
  refine Eq.trans (rl_iloadn (j := 3) (by decide +kernel) rfl) ?_
  refine Eq.trans (rl_iconst (c := 0) (k := (nI 0)) (by decide +kernel) (by decide)) ?_
  refine Eq.trans (rl_iconst (c := 0) (k := (nI 0)) (by decide +kernel) (by decide)) ?_
  refine Eq.trans (rl_inv (ix := 65) (n := 4) (o := 0) 1 [am_I x2, am_I s0, am_I (nI 0), am_I (nI 0)] [] (by decide +kernel) (by decide +kernel) (by decide +kernel) (by decide +kernel) ⟨rfl, rfl⟩ rfl rfl hl) ?_
  rfl
theorem b7_23 {l : am_L} {x2 x3 : Int32} {M : am_M} {w : am_W4} (hl : am_ck l 0) : am_rn call 7 23 [some (am_P (8, 0, 0)), some (am_P l), some (am_I x2), some (am_I x3)] [] M (am_Z w) = if x3 = (-1 : Int32) then some (.inl (some (am_I (nI 0))), M, (am_Z w)) else some (.inl (some (am_I (nI 1))), M, (am_Z w)) := by
  refine Eq.trans (rl_iloadn (j := 3) (by decide +kernel) rfl) ?_
  refine Eq.trans (rl_iconst (c := -1) (k := (-1 : Int32)) (by decide +kernel) (by decide)) ?_
  refine Eq.trans (rl_iceq (o := 7) 32 (by decide +kernel) (by decide)) ?_
  refine am_ite (fun h_1 => ?_) (fun h_1 => ?_)
  · skip
    refine Eq.trans (rl_iconst (c := 0) (k := (nI 0)) (by decide +kernel) (by decide)) ?_
    exact rl_zretk (by decide +kernel) rfl rfl
  · skip
    refine Eq.trans (rl_iconst (c := 1) (k := (nI 1)) (by decide +kernel) (by decide)) ?_
    refine Eq.trans (rl_goto (o := 4) 33 (by decide +kernel) (by decide)) ?_
    exact rl_zretk (by decide +kernel) rfl rfl
theorem e7 {d : Nat} {l : am_L} {x2 : Int32} {M : am_M} {w : am_W4} (hl : am_ck l 0) : am_ev (d + 1) 7 [am_P (8, 0, 0), am_P l, am_I x2] M (am_Z w) = am_cb ((am_ev d) 13 [am_P (8, 0, 0)] (am_set M (8, 0, 0) 4 ((M (8, 0, 0) 4) + (nI 1))) (am_Z w)) fun v M' X' => am_rn (am_ev d) 7 14 [some (am_P (8, 0, 0)), some (am_P l), some (am_I x2), none] (v.toList ++ []) M' X' := (am_ev_eq d 7 _ M (am_Z w)).trans (b7_0 hl)
theorem b8_0 {l : am_L} {M : am_M} {w : am_W4} (hl : am_ck l 0) : am_rn call 8 0 [some (am_P (8, 0, 0)), some (am_P l), none, none, none] [] M (am_Z w) = am_cb (call 12 [am_P (8, 0, 0), am_I (nI 0), am_I (nI 9)] (am_set M (8, 0, 0) 4 ((M (8, 0, 0) 4) + (nI 1))) (am_Z w)) fun v M' X' => am_rn call 8 17 [some (am_P (8, 0, 0)), some (am_P l), none, none, none] (v.toList ++ []) M' X' := by
  refine Eq.trans (rl_aloadn (j := 0) (by decide +kernel) rfl) ?_
  refine Eq.trans (rl_dup (by decide +kernel) rfl) ?_
  refine Eq.trans (rl_get (ix := 26) (ci := 1) (j := 4) (by decide +kernel) (by decide +kernel) (by decide +kernel) ck8) ?_
  refine Eq.trans (rl_iconst (c := 1) (k := (nI 1)) (by decide +kernel) (by decide)) ?_
  refine Eq.trans (rl_iadd (by decide +kernel)) ?_
  refine Eq.trans (rl_put (ix := 26) (ci := 1) (j := 4) (by decide +kernel) (by decide +kernel) (by decide +kernel) (by decide +kernel) ck8) ?_
  refine Eq.trans (rl_aloadn (j := 0) (by decide +kernel) rfl) ?_
  refine Eq.trans (rl_iconst (c := 0) (k := (nI 0)) (by decide +kernel) (by decide)) ?_
  refine Eq.trans (rl_bipush (c := 9) (k := (nI 9)) (by decide +kernel) (by decide)) ?_
  refine Eq.trans (rl_inv (ix := 58) (n := 2) (o := 1) 12 [am_I (nI 0), am_I (nI 9)] [] (by decide +kernel) (by decide +kernel) (by decide +kernel) (by decide +kernel) ⟨rfl, rfl⟩ rfl rfl ck8) ?_
  rfl
theorem b8_17 {l : am_L} {s0 : Int32} {M : am_M} {w : am_W4} (hl : am_ck l 0) : am_rn call 8 17 [some (am_P (8, 0, 0)), some (am_P l), none, none, none] [am_I s0] M (am_Z w) = if s0 = (-1 : Int32) then some (.inl (some (am_I (nI 0))), M, (am_Z w)) else am_cb (call 11 [am_P (8, 0, 0), am_I (nI 58)] M (am_Z w)) fun v M' X' => am_rn call 8 29 [some (am_P (8, 0, 0)), some (am_P l), some (am_I s0), none, none] (v.toList ++ []) M' X' := by
  refine Eq.trans (rl_istoren (j := 2) (ls' := [some (am_P (8, 0, 0)), some (am_P l), some (am_I s0), none, none]) (by decide +kernel) rfl rfl) ?_
  refine Eq.trans (rl_iloadn (j := 2) (by decide +kernel) rfl) ?_
  refine Eq.trans (rl_iconst (c := -1) (k := (-1 : Int32)) (by decide +kernel) (by decide)) ?_
  refine Eq.trans (rl_iceq (o := 12) 32 (by decide +kernel) (by decide)) ?_
  refine am_ite (fun h_1 => ?_) (fun h_1 => ?_)
  · skip
    refine Eq.trans (rl_iconst (c := 0) (k := (nI 0)) (by decide +kernel) (by decide)) ?_
    exact rl_zretk (by decide +kernel) rfl rfl
  · skip
    refine Eq.trans (rl_aloadn (j := 0) (by decide +kernel) rfl) ?_
    refine Eq.trans (rl_bipush (c := 58) (k := (nI 58)) (by decide +kernel) (by decide)) ?_
    refine Eq.trans (rl_inv (ix := 36) (n := 1) (o := 1) 11 [am_I (nI 58)] [] (by decide +kernel) (by decide +kernel) (by decide +kernel) (by decide +kernel) ⟨rfl, rfl⟩ rfl rfl ck8) ?_
    rfl
theorem b8_29 {l : am_L} {x2 s0 : Int32} {M : am_M} {w : am_W4} (hl : am_ck l 0) : am_rn call 8 29 [some (am_P (8, 0, 0)), some (am_P l), some (am_I x2), none, none] [am_I s0] M (am_Z w) = if s0 = 0 then some (.inl (some (am_I (nI 0))), M, (am_Z w)) else am_cb (call 13 [am_P (8, 0, 0)] M (am_Z w)) fun v M' X' => am_rn call 8 38 [some (am_P (8, 0, 0)), some (am_P l), some (am_I x2), none, none] (v.toList ++ []) M' X' := by
  refine Eq.trans (rl_ifne (o := 5) 34 (by decide +kernel) (by decide)) ?_
  refine am_ite (fun h_1 => ?_) (fun h_1 => ?_)
  · skip
    refine Eq.trans (rl_iconst (c := 0) (k := (nI 0)) (by decide +kernel) (by decide)) ?_
    exact rl_zretk (by decide +kernel) rfl rfl
  · skip
    refine Eq.trans (rl_aloadn (j := 0) (by decide +kernel) rfl) ?_
    refine Eq.trans (rl_inv (ix := 69) (n := 0) (o := 1) 13 [] [] (by decide +kernel) (by decide +kernel) (by decide +kernel) (by decide +kernel) ⟨rfl, rfl⟩ rfl rfl ck8) ?_
    rfl
theorem b8_38 {l : am_L} {x2 s0 : Int32} {M : am_M} {w : am_W4} (hl : am_ck l 0) : am_rn call 8 38 [some (am_P (8, 0, 0)), some (am_P l), some (am_I x2), none, none] [am_I s0] M (am_Z w) = if s0 = (-1 : Int32) then some (.inl (some (am_I (nI 0))), M, (am_Z w)) else am_cb (call 11 [am_P (8, 0, 0), am_I (nI 45)] M (am_Z w)) fun v M' X' => am_rn call 8 50 [some (am_P (8, 0, 0)), some (am_P l), some (am_I x2), some (am_I s0), none] (v.toList ++ []) M' X' := by
  refine Eq.trans (rl_istoren (j := 3) (ls' := [some (am_P (8, 0, 0)), some (am_P l), some (am_I x2), some (am_I s0), none]) (by decide +kernel) rfl rfl) ?_
  refine Eq.trans (rl_iloadn (j := 3) (by decide +kernel) rfl) ?_
  refine Eq.trans (rl_iconst (c := -1) (k := (-1 : Int32)) (by decide +kernel) (by decide)) ?_
  refine Eq.trans (rl_iceq (o := 12) 53 (by decide +kernel) (by decide)) ?_
  refine am_ite (fun h_1 => ?_) (fun h_1 => ?_)
  · skip
    refine Eq.trans (rl_iconst (c := 0) (k := (nI 0)) (by decide +kernel) (by decide)) ?_
    exact rl_zretk (by decide +kernel) rfl rfl
  · skip
    refine Eq.trans (rl_aloadn (j := 0) (by decide +kernel) rfl) ?_
    refine Eq.trans (rl_bipush (c := 45) (k := (nI 45)) (by decide +kernel) (by decide)) ?_
    refine Eq.trans (rl_inv (ix := 36) (n := 1) (o := 1) 11 [am_I (nI 45)] [] (by decide +kernel) (by decide +kernel) (by decide +kernel) (by decide +kernel) ⟨rfl, rfl⟩ rfl rfl ck8) ?_
    rfl
theorem b8_50 {l : am_L} {x2 x3 s0 : Int32} {M : am_M} {w : am_W4} (hl : am_ck l 0) : am_rn call 8 50 [some (am_P (8, 0, 0)), some (am_P l), some (am_I x2), some (am_I x3), none] [am_I s0] M (am_Z w) = if s0 = 0 then some (.inl (some (am_I (nI 0))), M, (am_Z w)) else am_cb (call 13 [am_P (8, 0, 0)] M (am_Z w)) fun v M' X' => am_rn call 8 59 [some (am_P (8, 0, 0)), some (am_P l), some (am_I x2), some (am_I x3), none] (v.toList ++ []) M' X' := by
  refine Eq.trans (rl_ifne (o := 5) 55 (by decide +kernel) (by decide)) ?_
  refine am_ite (fun h_1 => ?_) (fun h_1 => ?_)
  · skip
    refine Eq.trans (rl_iconst (c := 0) (k := (nI 0)) (by decide +kernel) (by decide)) ?_
    exact rl_zretk (by decide +kernel) rfl rfl
  · skip
    refine Eq.trans (rl_aloadn (j := 0) (by decide +kernel) rfl) ?_
    refine Eq.trans (rl_inv (ix := 69) (n := 0) (o := 1) 13 [] [] (by decide +kernel) (by decide +kernel) (by decide +kernel) (by decide +kernel) ⟨rfl, rfl⟩ rfl rfl ck8) ?_
    rfl
theorem b8_59 {l : am_L} {x2 x3 s0 : Int32} {M : am_M} {w : am_W4} (hl : am_ck l 0) : am_rn call 8 59 [some (am_P (8, 0, 0)), some (am_P l), some (am_I x2), some (am_I x3), none] [am_I s0] M (am_Z w) = am_cb (call 1 [am_P l, am_I (nI 2), am_I x2, am_I x3, am_I s0] M (am_Z w)) fun v M' X' => am_rn call 8 70 [some (am_P (8, 0, 0)), some (am_P l), some (am_I x2), some (am_I x3), some (am_I s0)] (v.toList ++ []) M' X' := by
  refine Eq.trans (rl_istore (j := 4) (ls' := [some (am_P (8, 0, 0)), some (am_P l), some (am_I x2), some (am_I x3), some (am_I s0)]) (by decide +kernel) rfl rfl) ?_
  refine Eq.trans (rl_aloadn (j := 1) (by decide +kernel) rfl) ?_
  refine Eq.trans (rl_iconst (c := 2) (k := (nI 2)) (by decide +kernel) (by decide)) ?_
  refine Eq.trans (rl_iloadn (j := 2) (by decide +kernel) rfl) ?_
  refine Eq.trans (rl_iloadn (j := 3) (by decide +kernel) rfl) ?_
  refine Eq.trans (rl_iload (j := 4) (by decide +kernel) rfl) ?_
  refine Eq.trans (rl_inv (ix := 65) (n := 4) (o := 0) 1 [am_I (nI 2), am_I x2, am_I x3, am_I s0] [] (by decide +kernel) (by decide +kernel) (by decide +kernel) (by decide +kernel) ⟨rfl, rfl⟩ rfl rfl hl) ?_
  rfl
theorem b8_70 {l : am_L} {x2 x3 x4 : Int32} {M : am_M} {w : am_W4} (hl : am_ck l 0) : am_rn call 8 70 [some (am_P (8, 0, 0)), some (am_P l), some (am_I x2), some (am_I x3), some (am_I x4)] [] M (am_Z w) = if x4 = (-1 : Int32) then some (.inl (some (am_I (nI 0))), M, (am_Z w)) else some (.inl (some (am_I (nI 1))), M, (am_Z w)) := by
  refine Eq.trans (rl_iload (j := 4) (by decide +kernel) rfl) ?_
  refine Eq.trans (rl_iconst (c := -1) (k := (-1 : Int32)) (by decide +kernel) (by decide)) ?_
  refine Eq.trans (rl_iceq (o := 7) 80 (by decide +kernel) (by decide)) ?_
  refine am_ite (fun h_1 => ?_) (fun h_1 => ?_)
  · skip
    refine Eq.trans (rl_iconst (c := 0) (k := (nI 0)) (by decide +kernel) (by decide)) ?_
    exact rl_zretk (by decide +kernel) rfl rfl
  · skip
    refine Eq.trans (rl_iconst (c := 1) (k := (nI 1)) (by decide +kernel) (by decide)) ?_
    refine Eq.trans (rl_goto (o := 4) 81 (by decide +kernel) (by decide)) ?_
    exact rl_zretk (by decide +kernel) rfl rfl
theorem e8 {d : Nat} {l : am_L} {M : am_M} {w : am_W4} (hl : am_ck l 0) : am_ev (d + 1) 8 [am_P (8, 0, 0), am_P l] M (am_Z w) = am_cb ((am_ev d) 12 [am_P (8, 0, 0), am_I (nI 0), am_I (nI 9)] (am_set M (8, 0, 0) 4 ((M (8, 0, 0) 4) + (nI 1))) (am_Z w)) fun v M' X' => am_rn (am_ev d) 8 17 [some (am_P (8, 0, 0)), some (am_P l), none, none, none] (v.toList ++ []) M' X' := (am_ev_eq d 8 _ M (am_Z w)).trans (b8_0 hl)
theorem b9_0 {l : am_L} {x2 : Int32} {M : am_M} {w : am_W4} (hl : am_ck l 0) : am_rn call 9 0 [some (am_P (8, 0, 0)), some (am_P l), some (am_I x2), none, none] [] M (am_Z w) = am_cb (call 12 [am_P (8, 0, 0), am_I (nI 0), am_I (nI 9)] (am_set M (8, 0, 0) 4 ((M (8, 0, 0) 4) + (nI 1))) (am_Z w)) fun v M' X' => am_rn call 9 17 [some (am_P (8, 0, 0)), some (am_P l), some (am_I x2), none, none] (v.toList ++ []) M' X' := by
  refine Eq.trans (rl_aloadn (j := 0) (by decide +kernel) rfl) ?_
  refine Eq.trans (rl_dup (by decide +kernel) rfl) ?_
  refine Eq.trans (rl_get (ix := 26) (ci := 1) (j := 4) (by decide +kernel) (by decide +kernel) (by decide +kernel) ck8) ?_
  refine Eq.trans (rl_iconst (c := 1) (k := (nI 1)) (by decide +kernel) (by decide)) ?_
  refine Eq.trans (rl_iadd (by decide +kernel)) ?_
  refine Eq.trans (rl_put (ix := 26) (ci := 1) (j := 4) (by decide +kernel) (by decide +kernel) (by decide +kernel) (by decide +kernel) ck8) ?_
  refine Eq.trans (rl_aloadn (j := 0) (by decide +kernel) rfl) ?_
  refine Eq.trans (rl_iconst (c := 0) (k := (nI 0)) (by decide +kernel) (by decide)) ?_
  refine Eq.trans (rl_bipush (c := 9) (k := (nI 9)) (by decide +kernel) (by decide)) ?_
  refine Eq.trans (rl_inv (ix := 58) (n := 2) (o := 1) 12 [am_I (nI 0), am_I (nI 9)] [] (by decide +kernel) (by decide +kernel) (by decide +kernel) (by decide +kernel) ⟨rfl, rfl⟩ rfl rfl ck8) ?_
  rfl
theorem b9_17 {l : am_L} {x2 s0 : Int32} {M : am_M} {w : am_W4} (hl : am_ck l 0) : am_rn call 9 17 [some (am_P (8, 0, 0)), some (am_P l), some (am_I x2), none, none] [am_I s0] M (am_Z w) = if s0 = (-1 : Int32) then some (.inl (some (am_I (nI 0))), M, (am_Z w)) else am_cb (call 11 [am_P (8, 0, 0), am_I (nI 61)] M (am_Z w)) fun v M' X' => am_rn call 9 29 [some (am_P (8, 0, 0)), some (am_P l), some (am_I x2), some (am_I s0), none] (v.toList ++ []) M' X' := by
  refine Eq.trans (rl_istoren (j := 3) (ls' := [some (am_P (8, 0, 0)), some (am_P l), some (am_I x2), some (am_I s0), none]) (by decide +kernel) rfl rfl) ?_
  refine Eq.trans (rl_iloadn (j := 3) (by decide +kernel) rfl) ?_
  refine Eq.trans (rl_iconst (c := -1) (k := (-1 : Int32)) (by decide +kernel) (by decide)) ?_
  refine Eq.trans (rl_iceq (o := 12) 32 (by decide +kernel) (by decide)) ?_
  refine am_ite (fun h_1 => ?_) (fun h_1 => ?_)
  · skip
    refine Eq.trans (rl_iconst (c := 0) (k := (nI 0)) (by decide +kernel) (by decide)) ?_
    exact rl_zretk (by decide +kernel) rfl rfl
  · skip
    refine Eq.trans (rl_aloadn (j := 0) (by decide +kernel) rfl) ?_
    refine Eq.trans (rl_bipush (c := 61) (k := (nI 61)) (by decide +kernel) (by decide)) ?_
    refine Eq.trans (rl_inv (ix := 36) (n := 1) (o := 1) 11 [am_I (nI 61)] [] (by decide +kernel) (by decide +kernel) (by decide +kernel) (by decide +kernel) ⟨rfl, rfl⟩ rfl rfl ck8) ?_
    rfl
theorem b9_29 {l : am_L} {x2 x3 s0 : Int32} {M : am_M} {w : am_W4} (hl : am_ck l 0) : am_rn call 9 29 [some (am_P (8, 0, 0)), some (am_P l), some (am_I x2), some (am_I x3), none] [am_I s0] M (am_Z w) = if s0 = 0 then some (.inl (some (am_I (nI 0))), M, (am_Z w)) else am_cb (call 12 [am_P (8, 0, 0), am_I (nI 0), am_I (nI 9)] M (am_Z w)) fun v M' X' => am_rn call 9 41 [some (am_P (8, 0, 0)), some (am_P l), some (am_I x2), some (am_I x3), none] (v.toList ++ []) M' X' := by
  refine Eq.trans (rl_ifne (o := 5) 34 (by decide +kernel) (by decide)) ?_
  refine am_ite (fun h_1 => ?_) (fun h_1 => ?_)
  · skip
    refine Eq.trans (rl_iconst (c := 0) (k := (nI 0)) (by decide +kernel) (by decide)) ?_
    exact rl_zretk (by decide +kernel) rfl rfl
  · skip
    refine Eq.trans (rl_aloadn (j := 0) (by decide +kernel) rfl) ?_
    refine Eq.trans (rl_iconst (c := 0) (k := (nI 0)) (by decide +kernel) (by decide)) ?_
    refine Eq.trans (rl_bipush (c := 9) (k := (nI 9)) (by decide +kernel) (by decide)) ?_
    refine Eq.trans (rl_inv (ix := 58) (n := 2) (o := 1) 12 [am_I (nI 0), am_I (nI 9)] [] (by decide +kernel) (by decide +kernel) (by decide +kernel) (by decide +kernel) ⟨rfl, rfl⟩ rfl rfl ck8) ?_
    rfl
theorem b9_41 {l : am_L} {x2 x3 s0 : Int32} {M : am_M} {w : am_W4} (hl : am_ck l 0) : am_rn call 9 41 [some (am_P (8, 0, 0)), some (am_P l), some (am_I x2), some (am_I x3), none] [am_I s0] M (am_Z w) = am_cb (call 1 [am_P l, am_I x2, am_I x3, am_I s0, am_I (nI 0)] M (am_Z w)) fun v M' X' => am_rn call 9 52 [some (am_P (8, 0, 0)), some (am_P l), some (am_I x2), some (am_I x3), some (am_I s0)] (v.toList ++ []) M' X' := by
  refine Eq.trans (rl_istore (j := 4) (ls' := [some (am_P (8, 0, 0)), some (am_P l), some (am_I x2), some (am_I x3), some (am_I s0)]) (by decide +kernel) rfl rfl) ?_
  refine Eq.trans (rl_aloadn (j := 1) (by decide +kernel) rfl) ?_
  refine Eq.trans (rl_iloadn (j := 2) (by decide +kernel) rfl) ?_
  refine Eq.trans (rl_iloadn (j := 3) (by decide +kernel) rfl) ?_
  refine Eq.trans (rl_iload (j := 4) (by decide +kernel) rfl) ?_
  refine Eq.trans (rl_iconst (c := 0) (k := (nI 0)) (by decide +kernel) (by decide)) ?_
  refine Eq.trans (rl_inv (ix := 65) (n := 4) (o := 0) 1 [am_I x2, am_I x3, am_I s0, am_I (nI 0)] [] (by decide +kernel) (by decide +kernel) (by decide +kernel) (by decide +kernel) ⟨rfl, rfl⟩ rfl rfl hl) ?_
  rfl
theorem b9_52 {l : am_L} {x2 x3 x4 : Int32} {M : am_M} {w : am_W4} (hl : am_ck l 0) : am_rn call 9 52 [some (am_P (8, 0, 0)), some (am_P l), some (am_I x2), some (am_I x3), some (am_I x4)] [] M (am_Z w) = if x4 = (-1 : Int32) then some (.inl (some (am_I (nI 0))), M, (am_Z w)) else some (.inl (some (am_I (nI 1))), M, (am_Z w)) := by
  refine Eq.trans (rl_iload (j := 4) (by decide +kernel) rfl) ?_
  refine Eq.trans (rl_iconst (c := -1) (k := (-1 : Int32)) (by decide +kernel) (by decide)) ?_
  refine Eq.trans (rl_iceq (o := 7) 62 (by decide +kernel) (by decide)) ?_
  refine am_ite (fun h_1 => ?_) (fun h_1 => ?_)
  · skip
    refine Eq.trans (rl_iconst (c := 0) (k := (nI 0)) (by decide +kernel) (by decide)) ?_
    exact rl_zretk (by decide +kernel) rfl rfl
  · skip
    refine Eq.trans (rl_iconst (c := 1) (k := (nI 1)) (by decide +kernel) (by decide)) ?_
    refine Eq.trans (rl_goto (o := 4) 63 (by decide +kernel) (by decide)) ?_
    exact rl_zretk (by decide +kernel) rfl rfl
theorem e9 {d : Nat} {l : am_L} {x2 : Int32} {M : am_M} {w : am_W4} (hl : am_ck l 0) : am_ev (d + 1) 9 [am_P (8, 0, 0), am_P l, am_I x2] M (am_Z w) = am_cb ((am_ev d) 12 [am_P (8, 0, 0), am_I (nI 0), am_I (nI 9)] (am_set M (8, 0, 0) 4 ((M (8, 0, 0) 4) + (nI 1))) (am_Z w)) fun v M' X' => am_rn (am_ev d) 9 17 [some (am_P (8, 0, 0)), some (am_P l), some (am_I x2), none, none] (v.toList ++ []) M' X' := (am_ev_eq d 9 _ M (am_Z w)).trans (b9_0 hl)
theorem b10_0  {M : am_M} {w : am_W4}  : am_rn call 10 0 [some (am_P (8, 0, 0))] [] M (am_Z w) = if (M (8, 0, 0) 4) < (M (8, 0, 0) 1) then if am_in (M (8, 0, 0) 4) 60 then some (.inl (some (am_I (M (9, 0, 0) (M (8, 0, 0) 4).toNatClampNeg))), M, (am_Z w)) else none else some (.inl (some (am_I (-1 : Int32))), M, (am_Z w)) := by
  refine Eq.trans (rl_aloadn (j := 0) (by decide +kernel) rfl) ?_
  refine Eq.trans (rl_get (ix := 26) (ci := 1) (j := 4) (by decide +kernel) (by decide +kernel) (by decide +kernel) ck8) ?_
  refine Eq.trans (rl_aloadn (j := 0) (by decide +kernel) rfl) ?_
  refine Eq.trans (rl_get (ix := 22) (ci := 1) (j := 1) (by decide +kernel) (by decide +kernel) (by decide +kernel) ck8) ?_
  refine Eq.trans (rl_icge (o := 15) 23 (by decide +kernel) (by decide)) ?_
  refine am_ite (fun h_1 => ?_) (fun h_1 => ?_)
  · skip
    refine Eq.trans (rl_aloadn (j := 0) (by decide +kernel) rfl) ?_
    refine Eq.trans (rl_getP (ix := 9) (ci := 1) (j := 0) (by decide +kernel) (by decide +kernel) (by decide +kernel) ck8 rfl) ?_
    refine Eq.trans (rl_aloadn (j := 0) (by decide +kernel) rfl) ?_
    refine Eq.trans (rl_get (ix := 26) (ci := 1) (j := 4) (by decide +kernel) (by decide +kernel) (by decide +kernel) ck8) ?_
    refine Eq.trans (rl_cald (by decide +kernel) ka9) ?_
    refine am_ite (fun h_2 => ?_) (fun _ => rfl)
    refine Eq.trans (rl_goto (o := 4) 24 (by decide +kernel) (by decide)) ?_
    exact rl_iret (by decide +kernel) rfl
  · skip
    refine Eq.trans (rl_iconst (c := -1) (k := (-1 : Int32)) (by decide +kernel) (by decide)) ?_
    exact rl_iret (by decide +kernel) rfl
theorem e10 {d : Nat}  {M : am_M} {w : am_W4}  : am_ev (d + 1) 10 [am_P (8, 0, 0)] M (am_Z w) = if (M (8, 0, 0) 4) < (M (8, 0, 0) 1) then if am_in (M (8, 0, 0) 4) 60 then some (.inl (some (am_I (M (9, 0, 0) (M (8, 0, 0) 4).toNatClampNeg))), M, (am_Z w)) else none else some (.inl (some (am_I (-1 : Int32))), M, (am_Z w)) := (am_ev_eq d 10 _ M (am_Z w)).trans (b10_0)
theorem b11_0 {x1 : Int32} {M : am_M} {w : am_W4}  : am_rn call 11 0 [some (am_P (8, 0, 0)), some (am_I x1)] [] M (am_Z w) = am_cb (call 10 [am_P (8, 0, 0)] M (am_Z w)) fun v M' X' => am_rn call 11 4 [some (am_P (8, 0, 0)), some (am_I x1)] (v.toList ++ []) M' X' := by
  refine Eq.trans (rl_aloadn (j := 0) (by decide +kernel) rfl) ?_
  refine Eq.trans (rl_inv (ix := 40) (n := 0) (o := 1) 10 [] [] (by decide +kernel) (by decide +kernel) (by decide +kernel) (by decide +kernel) ⟨rfl, rfl⟩ rfl rfl ck8) ?_
  rfl
theorem b11_4 {x1 s0 : Int32} {M : am_M} {w : am_W4}  : am_rn call 11 4 [some (am_P (8, 0, 0)), some (am_I x1)] [am_I s0] M (am_Z w) = if s0 = x1 then some (.inl (some (am_I (nI 1))), (am_set M (8, 0, 0) 4 ((M (8, 0, 0) 4) + (nI 1))), (am_Z w)) else some (.inl (some (am_I (nI 0))), M, (am_Z w)) := by
  refine Eq.trans (rl_iloadn (j := 1) (by decide +kernel) rfl) ?_
  refine Eq.trans (rl_iceq (o := 5) 10 (by decide +kernel) (by decide)) ?_
  refine am_ite (fun h_1 => ?_) (fun h_1 => ?_)
  · skip
    refine Eq.trans (rl_aloadn (j := 0) (by decide +kernel) rfl) ?_
    refine Eq.trans (rl_dup (by decide +kernel) rfl) ?_
    refine Eq.trans (rl_get (ix := 26) (ci := 1) (j := 4) (by decide +kernel) (by decide +kernel) (by decide +kernel) ck8) ?_
    refine Eq.trans (rl_iconst (c := 1) (k := (nI 1)) (by decide +kernel) (by decide)) ?_
    refine Eq.trans (rl_iadd (by decide +kernel)) ?_
    refine Eq.trans (rl_put (ix := 26) (ci := 1) (j := 4) (by decide +kernel) (by decide +kernel) (by decide +kernel) (by decide +kernel) ck8) ?_
    refine Eq.trans (rl_iconst (c := 1) (k := (nI 1)) (by decide +kernel) (by decide)) ?_
    exact rl_zretk (by decide +kernel) rfl rfl
  · skip
    refine Eq.trans (rl_iconst (c := 0) (k := (nI 0)) (by decide +kernel) (by decide)) ?_
    exact rl_zretk (by decide +kernel) rfl rfl
theorem e11 {d : Nat} {x1 : Int32} {M : am_M} {w : am_W4}  : am_ev (d + 1) 11 [am_P (8, 0, 0), am_I x1] M (am_Z w) = am_cb ((am_ev d) 10 [am_P (8, 0, 0)] M (am_Z w)) fun v M' X' => am_rn (am_ev d) 11 4 [some (am_P (8, 0, 0)), some (am_I x1)] (v.toList ++ []) M' X' := (am_ev_eq d 11 _ M (am_Z w)).trans (b11_0)
theorem b12_0 {x1 x2 : Int32} {M : am_M} {w : am_W4}  : am_rn call 12 0 [some (am_P (8, 0, 0)), some (am_I x1), some (am_I x2), none] [] M (am_Z w) = am_cb (call 10 [am_P (8, 0, 0)] M (am_Z w)) fun v M' X' => am_rn call 12 4 [some (am_P (8, 0, 0)), some (am_I x1), some (am_I x2), none] (v.toList ++ []) M' X' := by
  refine Eq.trans (rl_aloadn (j := 0) (by decide +kernel) rfl) ?_
  refine Eq.trans (rl_inv (ix := 40) (n := 0) (o := 1) 10 [] [] (by decide +kernel) (by decide +kernel) (by decide +kernel) (by decide +kernel) ⟨rfl, rfl⟩ rfl rfl ck8) ?_
  rfl
theorem b12_4 {x1 x2 s0 : Int32} {M : am_M} {w : am_W4}  : am_rn call 12 4 [some (am_P (8, 0, 0)), some (am_I x1), some (am_I x2), none] [am_I s0] M (am_Z w) = if (s0 - (nI 48)) < x1 then some (.inl (some (am_I (-1 : Int32))), M, (am_Z w)) else if x2 < (s0 - (nI 48)) then some (.inl (some (am_I (-1 : Int32))), M, (am_Z w)) else some (.inl (some (am_I (s0 - (nI 48)))), (am_set M (8, 0, 0) 4 ((M (8, 0, 0) 4) + (nI 1))), (am_Z w)) := by
  refine Eq.trans (rl_bipush (c := 48) (k := (nI 48)) (by decide +kernel) (by decide)) ?_
  refine Eq.trans (rl_isub (by decide +kernel)) ?_
  refine Eq.trans (rl_istoren (j := 3) (ls' := [some (am_P (8, 0, 0)), some (am_I x1), some (am_I x2), some (am_I (s0 - (nI 48)))]) (by decide +kernel) rfl rfl) ?_
  refine Eq.trans (rl_iloadn (j := 3) (by decide +kernel) rfl) ?_
  refine Eq.trans (rl_iloadn (j := 1) (by decide +kernel) rfl) ?_
  refine Eq.trans (rl_iclt (o := 8) 18 (by decide +kernel) (by decide)) ?_
  refine am_ite (fun h_1 => ?_) (fun h_1 => ?_)
  · skip
    refine Eq.trans (rl_iconst (c := -1) (k := (-1 : Int32)) (by decide +kernel) (by decide)) ?_
    exact rl_iret (by decide +kernel) rfl
  · skip
    refine Eq.trans (rl_iloadn (j := 3) (by decide +kernel) rfl) ?_
    refine Eq.trans (rl_iloadn (j := 2) (by decide +kernel) rfl) ?_
    refine Eq.trans (rl_icle (o := 5) 20 (by decide +kernel) (by decide)) ?_
    refine am_ite (fun h_2 => ?_) (fun h_2 => ?_)
    · skip
      refine Eq.trans (rl_iconst (c := -1) (k := (-1 : Int32)) (by decide +kernel) (by decide)) ?_
      exact rl_iret (by decide +kernel) rfl
    · skip
      refine Eq.trans (rl_aloadn (j := 0) (by decide +kernel) rfl) ?_
      refine Eq.trans (rl_dup (by decide +kernel) rfl) ?_
      refine Eq.trans (rl_get (ix := 26) (ci := 1) (j := 4) (by decide +kernel) (by decide +kernel) (by decide +kernel) ck8) ?_
      refine Eq.trans (rl_iconst (c := 1) (k := (nI 1)) (by decide +kernel) (by decide)) ?_
      refine Eq.trans (rl_iadd (by decide +kernel)) ?_
      refine Eq.trans (rl_put (ix := 26) (ci := 1) (j := 4) (by decide +kernel) (by decide +kernel) (by decide +kernel) (by decide +kernel) ck8) ?_
      refine Eq.trans (rl_iloadn (j := 3) (by decide +kernel) rfl) ?_
      exact rl_iret (by decide +kernel) rfl
theorem e12 {d : Nat} {x1 x2 : Int32} {M : am_M} {w : am_W4}  : am_ev (d + 1) 12 [am_P (8, 0, 0), am_I x1, am_I x2] M (am_Z w) = am_cb ((am_ev d) 10 [am_P (8, 0, 0)] M (am_Z w)) fun v M' X' => am_rn (am_ev d) 12 4 [some (am_P (8, 0, 0)), some (am_I x1), some (am_I x2), none] (v.toList ++ []) M' X' := (am_ev_eq d 12 _ M (am_Z w)).trans (b12_0)
theorem b13_0  {M : am_M} {w : am_W4}  : am_rn call 13 0 [some (am_P (8, 0, 0)), none, none] [] M (am_Z w) = am_cb (call 12 [am_P (8, 0, 0), am_I (nI 0), am_I (nI 9)] M (am_Z w)) fun v M' X' => am_rn call 13 7 [some (am_P (8, 0, 0)), none, none] (v.toList ++ []) M' X' := by
  refine Eq.trans (rl_aloadn (j := 0) (by decide +kernel) rfl) ?_
  refine Eq.trans (rl_iconst (c := 0) (k := (nI 0)) (by decide +kernel) (by decide)) ?_
  refine Eq.trans (rl_bipush (c := 9) (k := (nI 9)) (by decide +kernel) (by decide)) ?_
  refine Eq.trans (rl_inv (ix := 58) (n := 2) (o := 1) 12 [am_I (nI 0), am_I (nI 9)] [] (by decide +kernel) (by decide +kernel) (by decide +kernel) (by decide +kernel) ⟨rfl, rfl⟩ rfl rfl ck8) ?_
  rfl
theorem b13_7 {s0 : Int32} {M : am_M} {w : am_W4}  : am_rn call 13 7 [some (am_P (8, 0, 0)), none, none] [am_I s0] M (am_Z w) = if s0 = (-1 : Int32) then some (.inl (some (am_I (-1 : Int32))), M, (am_Z w)) else am_cb (call 12 [am_P (8, 0, 0), am_I (nI 0), am_I (nI 9)] M (am_Z w)) fun v M' X' => am_rn call 13 22 [some (am_P (8, 0, 0)), some (am_I s0), none] (v.toList ++ []) M' X' := by
  refine Eq.trans (rl_istoren (j := 1) (ls' := [some (am_P (8, 0, 0)), some (am_I s0), none]) (by decide +kernel) rfl rfl) ?_
  refine Eq.trans (rl_iloadn (j := 1) (by decide +kernel) rfl) ?_
  refine Eq.trans (rl_iconst (c := -1) (k := (-1 : Int32)) (by decide +kernel) (by decide)) ?_
  refine Eq.trans (rl_icne (o := 5) 15 (by decide +kernel) (by decide)) ?_
  refine am_ite (fun h_1 => ?_) (fun h_1 => ?_)
  · skip
    refine Eq.trans (rl_iconst (c := -1) (k := (-1 : Int32)) (by decide +kernel) (by decide)) ?_
    exact rl_iret (by decide +kernel) rfl
  · skip
    refine Eq.trans (rl_aloadn (j := 0) (by decide +kernel) rfl) ?_
    refine Eq.trans (rl_iconst (c := 0) (k := (nI 0)) (by decide +kernel) (by decide)) ?_
    refine Eq.trans (rl_bipush (c := 9) (k := (nI 9)) (by decide +kernel) (by decide)) ?_
    refine Eq.trans (rl_inv (ix := 58) (n := 2) (o := 1) 12 [am_I (nI 0), am_I (nI 9)] [] (by decide +kernel) (by decide +kernel) (by decide +kernel) (by decide +kernel) ⟨rfl, rfl⟩ rfl rfl ck8) ?_
    rfl
theorem b13_22 {x1 s0 : Int32} {M : am_M} {w : am_W4}  : am_rn call 13 22 [some (am_P (8, 0, 0)), some (am_I x1), none] [am_I s0] M (am_Z w) = if s0 = (-1 : Int32) then some (.inl (some (am_I x1)), M, (am_Z w)) else some (.inl (some (am_I (((nI 10) * x1) + s0))), M, (am_Z w)) := by
  refine Eq.trans (rl_istoren (j := 2) (ls' := [some (am_P (8, 0, 0)), some (am_I x1), some (am_I s0)]) (by decide +kernel) rfl rfl) ?_
  refine Eq.trans (rl_iloadn (j := 2) (by decide +kernel) rfl) ?_
  refine Eq.trans (rl_iconst (c := -1) (k := (-1 : Int32)) (by decide +kernel) (by decide)) ?_
  refine Eq.trans (rl_icne (o := 7) 32 (by decide +kernel) (by decide)) ?_
  refine am_ite (fun h_1 => ?_) (fun h_1 => ?_)
  · skip
    refine Eq.trans (rl_iloadn (j := 1) (by decide +kernel) rfl) ?_
    refine Eq.trans (rl_goto (o := 9) 38 (by decide +kernel) (by decide)) ?_
    exact rl_iret (by decide +kernel) rfl
  · skip
    refine Eq.trans (rl_bipush (c := 10) (k := (nI 10)) (by decide +kernel) (by decide)) ?_
    refine Eq.trans (rl_iloadn (j := 1) (by decide +kernel) rfl) ?_
    refine Eq.trans (rl_imul (by decide +kernel)) ?_
    refine Eq.trans (rl_iloadn (j := 2) (by decide +kernel) rfl) ?_
    refine Eq.trans (rl_iadd (by decide +kernel)) ?_
    exact rl_iret (by decide +kernel) rfl
theorem e13 {d : Nat}  {M : am_M} {w : am_W4}  : am_ev (d + 1) 13 [am_P (8, 0, 0)] M (am_Z w) = am_cb ((am_ev d) 12 [am_P (8, 0, 0), am_I (nI 0), am_I (nI 9)] M (am_Z w)) fun v M' X' => am_rn (am_ev d) 13 7 [some (am_P (8, 0, 0)), none, none] (v.toList ++ []) M' X' := (am_ev_eq d 13 _ M (am_Z w)).trans (b13_0)
theorem b14_0  {M : am_M} {w : am_W4}  : am_rn call 14 0 [some (am_P (8, 0, 0)), none, none, none] [] M (am_Z w) = am_rn call 14 4 [some (am_P (8, 0, 0)), some (am_I (-1 : Int32)), some (am_I (nI 0)), none] [] M (am_Z w) := by
  refine Eq.trans (rl_iconst (c := -1) (k := (-1 : Int32)) (by decide +kernel) (by decide)) ?_
  refine Eq.trans (rl_istoren (j := 1) (ls' := [some (am_P (8, 0, 0)), some (am_I (-1 : Int32)), none, none]) (by decide +kernel) rfl rfl) ?_
  refine Eq.trans (rl_iconst (c := 0) (k := (nI 0)) (by decide +kernel) (by decide)) ?_
  refine Eq.trans (rl_istoren (j := 2) (ls' := [some (am_P (8, 0, 0)), some (am_I (-1 : Int32)), some (am_I (nI 0)), none]) (by decide +kernel) rfl rfl) ?_
  rfl
theorem b14_4 {x1 x2 : Int32} {x3 : Option am_V} {M : am_M} {w : am_W4}  : am_rn call 14 4 [some (am_P (8, 0, 0)), some (am_I x1), some (am_I x2), x3] [] M (am_Z w) = if x2 < (nI 8) then am_cb (call 12 [am_P (8, 0, 0), am_I (nI 1), am_I (nI 8)] M (am_Z w)) fun v M' X' => am_rn call 14 17 [some (am_P (8, 0, 0)), some (am_I x1), some (am_I x2), x3] (v.toList ++ []) M' X' else some (.inl (some (am_I x1)), M, (am_Z w)) := by
  refine Eq.trans (rl_iloadn (j := 2) (by decide +kernel) rfl) ?_
  refine Eq.trans (rl_bipush (c := 8) (k := (nI 8)) (by decide +kernel) (by decide)) ?_
  refine Eq.trans (rl_icge (o := 39) 46 (by decide +kernel) (by decide)) ?_
  refine am_ite (fun h_1 => ?_) (fun h_1 => ?_)
  · skip
    refine Eq.trans (rl_aloadn (j := 0) (by decide +kernel) rfl) ?_
    refine Eq.trans (rl_iconst (c := 1) (k := (nI 1)) (by decide +kernel) (by decide)) ?_
    refine Eq.trans (rl_bipush (c := 8) (k := (nI 8)) (by decide +kernel) (by decide)) ?_
    refine Eq.trans (rl_inv (ix := 58) (n := 2) (o := 1) 12 [am_I (nI 1), am_I (nI 8)] [] (by decide +kernel) (by decide +kernel) (by decide +kernel) (by decide +kernel) ⟨rfl, rfl⟩ rfl rfl ck8) ?_
    rfl
  · skip
    refine Eq.trans (rl_iloadn (j := 1) (by decide +kernel) rfl) ?_
    exact rl_iret (by decide +kernel) rfl
theorem b14_17 {x1 x2 s0 : Int32} {x3 : Option am_V} {M : am_M} {w : am_W4}  : am_rn call 14 17 [some (am_P (8, 0, 0)), some (am_I x1), some (am_I x2), x3] [am_I s0] M (am_Z w) = if s0 = (-1 : Int32) then some (.inl (some (am_I x1)), M, (am_Z w)) else if x2 = 0 then am_rn call 14 39 [some (am_P (8, 0, 0)), some (am_I x1), some (am_I x2), some (am_I s0)] [am_I s0] M (am_Z w) else am_rn call 14 39 [some (am_P (8, 0, 0)), some (am_I x1), some (am_I x2), some (am_I s0)] [am_I (((nI 10) * x1) + s0)] M (am_Z w) := by
  refine Eq.trans (rl_istoren (j := 3) (ls' := [some (am_P (8, 0, 0)), some (am_I x1), some (am_I x2), some (am_I s0)]) (by decide +kernel) rfl rfl) ?_
  refine Eq.trans (rl_iloadn (j := 3) (by decide +kernel) rfl) ?_
  refine Eq.trans (rl_iconst (c := -1) (k := (-1 : Int32)) (by decide +kernel) (by decide)) ?_
  refine Eq.trans (rl_icne (o := 5) 25 (by decide +kernel) (by decide)) ?_
  refine am_ite (fun h_1 => ?_) (fun h_1 => ?_)
  · skip
    refine Eq.trans (rl_iloadn (j := 1) (by decide +kernel) rfl) ?_
    exact rl_iret (by decide +kernel) rfl
  · skip
    refine Eq.trans (rl_iloadn (j := 2) (by decide +kernel) rfl) ?_
    refine Eq.trans (rl_ifne (o := 7) 33 (by decide +kernel) (by decide)) ?_
    refine am_ite (fun h_2 => ?_) (fun h_2 => ?_)
    · skip
      refine Eq.trans (rl_iloadn (j := 3) (by decide +kernel) rfl) ?_
      refine Eq.trans (rl_goto (o := 9) 39 (by decide +kernel) (by decide)) ?_
      rfl
    · skip
      refine Eq.trans (rl_bipush (c := 10) (k := (nI 10)) (by decide +kernel) (by decide)) ?_
      refine Eq.trans (rl_iloadn (j := 1) (by decide +kernel) rfl) ?_
      refine Eq.trans (rl_imul (by decide +kernel)) ?_
      refine Eq.trans (rl_iloadn (j := 3) (by decide +kernel) rfl) ?_
      refine Eq.trans (rl_iadd (by decide +kernel)) ?_
      rfl
theorem b14_39 {x1 x2 x3 s0 : Int32} {M : am_M} {w : am_W4}  : am_rn call 14 39 [some (am_P (8, 0, 0)), some (am_I x1), some (am_I x2), some (am_I x3)] [am_I s0] M (am_Z w) = am_rn call 14 4 [some (am_P (8, 0, 0)), some (am_I s0), some (am_I (x2 + (nI 1))), some (am_I x3)] [] M (am_Z w) := by
  refine Eq.trans (rl_istoren (j := 1) (ls' := [some (am_P (8, 0, 0)), some (am_I s0), some (am_I x2), some (am_I x3)]) (by decide +kernel) rfl rfl) ?_
  refine Eq.trans (rl_iinc (j := 2) (c := 1) (k := (nI 1)) (ls' := [some (am_P (8, 0, 0)), some (am_I s0), some (am_I (x2 + (nI 1))), some (am_I x3)]) (by decide +kernel) (by decide) rfl rfl) ?_
  refine Eq.trans (rl_goto (o := (-39)) 4 (by decide +kernel) (by decide)) ?_
  rfl
theorem e14 {d : Nat}  {M : am_M} {w : am_W4}  : am_ev (d + 1) 14 [am_P (8, 0, 0)] M (am_Z w) = am_rn (am_ev d) 14 4 [some (am_P (8, 0, 0)), some (am_I (-1 : Int32)), some (am_I (nI 0)), none] [] M (am_Z w) := (am_ev_eq d 14 _ M (am_Z w)).trans (b14_0)
theorem b16_0 {n k : Nat} {x1 x2 : Int32} {M : am_M} {w : am_W4} (hn : n < 12) (hk : k < 6) : am_rn call 16 0 [some (am_P (21, n, k)), some (am_I x1), some (am_I x2)] [] M (am_Z w) = some (.inl none, (am_set (am_set (am_set (am_set (am_set (am_set (am_set M (21, n, k) 0 x1) (21, n, k) 1 x2) (21, n, k) 2 (nI 0)) (21, n, k) 3 (nI 0)) (21, n, k) 4 (nI 0)) (21, n, k) 5 (nI 0)) (21, n, k) 6 (nI 0)), (am_Z w)) := by
  refine Eq.trans (rl_aloadn (j := 0) (by decide +kernel) rfl) ?_
  refine Eq.trans (rl_iloadn (j := 1) (by decide +kernel) rfl) ?_
  refine Eq.trans (rl_put (ix := 15) (ci := 2) (j := 0) (by decide +kernel) (by decide +kernel) (by decide +kernel) (by decide +kernel) (ck21 hn hk)) ?_
  refine Eq.trans (rl_aloadn (j := 0) (by decide +kernel) rfl) ?_
  refine Eq.trans (rl_iloadn (j := 2) (by decide +kernel) rfl) ?_
  refine Eq.trans (rl_put (ix := 19) (ci := 2) (j := 1) (by decide +kernel) (by decide +kernel) (by decide +kernel) (by decide +kernel) (ck21 hn hk)) ?_
  refine Eq.trans (rl_aloadn (j := 0) (by decide +kernel) rfl) ?_
  refine Eq.trans (rl_iconst (c := 0) (k := (nI 0)) (by decide +kernel) (by decide)) ?_
  refine Eq.trans (rl_put (ix := 22) (ci := 2) (j := 2) (by decide +kernel) (by decide +kernel) (by decide +kernel) (by decide +kernel) (ck21 hn hk)) ?_
  refine Eq.trans (rl_aloadn (j := 0) (by decide +kernel) rfl) ?_
  refine Eq.trans (rl_iconst (c := 0) (k := (nI 0)) (by decide +kernel) (by decide)) ?_
  refine Eq.trans (rl_put (ix := 25) (ci := 2) (j := 3) (by decide +kernel) (by decide +kernel) (by decide +kernel) (by decide +kernel) (ck21 hn hk)) ?_
  refine Eq.trans (rl_aloadn (j := 0) (by decide +kernel) rfl) ?_
  refine Eq.trans (rl_iconst (c := 0) (k := (nI 0)) (by decide +kernel) (by decide)) ?_
  refine Eq.trans (rl_put (ix := 28) (ci := 2) (j := 4) (by decide +kernel) (by decide +kernel) (by decide +kernel) (by decide +kernel) (ck21 hn hk)) ?_
  refine Eq.trans (rl_aloadn (j := 0) (by decide +kernel) rfl) ?_
  refine Eq.trans (rl_iconst (c := 0) (k := (nI 0)) (by decide +kernel) (by decide)) ?_
  refine Eq.trans (rl_put (ix := 31) (ci := 2) (j := 5) (by decide +kernel) (by decide +kernel) (by decide +kernel) (by decide +kernel) (ck21 hn hk)) ?_
  refine Eq.trans (rl_aloadn (j := 0) (by decide +kernel) rfl) ?_
  refine Eq.trans (rl_iconst (c := 0) (k := (nI 0)) (by decide +kernel) (by decide)) ?_
  refine Eq.trans (rl_put (ix := 34) (ci := 2) (j := 6) (by decide +kernel) (by decide +kernel) (by decide +kernel) (by decide +kernel) (ck21 hn hk)) ?_
  exact rl_ret (by decide +kernel) rfl
theorem e16 {d : Nat} {n k : Nat} {x1 x2 : Int32} {M : am_M} {w : am_W4} (hn : n < 12) (hk : k < 6) : am_ev (d + 1) 16 [am_P (21, n, k), am_I x1, am_I x2] M (am_Z w) = some (.inl none, (am_set (am_set (am_set (am_set (am_set (am_set (am_set M (21, n, k) 0 x1) (21, n, k) 1 x2) (21, n, k) 2 (nI 0)) (21, n, k) 3 (nI 0)) (21, n, k) 4 (nI 0)) (21, n, k) 5 (nI 0)) (21, n, k) 6 (nI 0)), (am_Z w)) := (am_ev_eq d 16 _ M (am_Z w)).trans (b16_0 hn hk)
theorem b17_0 {n k n2 k2 : Nat} {M : am_M} {w : am_W4} (hn : n < 12) (hk : k < 6) (hn2 : n2 < 12) (hk2 : k2 < 6) : am_rn call 17 0 [some (am_P (21, n, k)), some (am_P (21, n2, k2))] [] M (am_Z w) = am_rn call 17 8 [some (am_P (21, n, k)), some (am_P (21, n2, k2))] [] (am_set M (21, n, k) 0 (M (21, n2, k2) 0)) (am_Z w) := by
  refine Eq.trans (rl_aloadn (j := 0) (by decide +kernel) rfl) ?_
  refine Eq.trans (rl_aloadn (j := 1) (by decide +kernel) rfl) ?_
  refine Eq.trans (rl_get (ix := 15) (ci := 2) (j := 0) (by decide +kernel) (by decide +kernel) (by decide +kernel) (ck21 hn2 hk2)) ?_
  refine Eq.trans (rl_put (ix := 15) (ci := 2) (j := 0) (by decide +kernel) (by decide +kernel) (by decide +kernel) (by decide +kernel) (ck21 hn hk)) ?_
  rfl
theorem b17_8 {n k n2 k2 : Nat} {M : am_M} {w : am_W4} (hn : n < 12) (hk : k < 6) (hn2 : n2 < 12) (hk2 : k2 < 6) : am_rn call 17 8 [some (am_P (21, n, k)), some (am_P (21, n2, k2))] [] M (am_Z w) = am_rn call 17 16 [some (am_P (21, n, k)), some (am_P (21, n2, k2))] [] (am_set M (21, n, k) 1 (M (21, n2, k2) 1)) (am_Z w) := by
  refine Eq.trans (rl_aloadn (j := 0) (by decide +kernel) rfl) ?_
  refine Eq.trans (rl_aloadn (j := 1) (by decide +kernel) rfl) ?_
  refine Eq.trans (rl_get (ix := 19) (ci := 2) (j := 1) (by decide +kernel) (by decide +kernel) (by decide +kernel) (ck21 hn2 hk2)) ?_
  refine Eq.trans (rl_put (ix := 19) (ci := 2) (j := 1) (by decide +kernel) (by decide +kernel) (by decide +kernel) (by decide +kernel) (ck21 hn hk)) ?_
  rfl
theorem b17_16 {n k n2 k2 : Nat} {M : am_M} {w : am_W4} (hn : n < 12) (hk : k < 6) (hn2 : n2 < 12) (hk2 : k2 < 6) : am_rn call 17 16 [some (am_P (21, n, k)), some (am_P (21, n2, k2))] [] M (am_Z w) = am_rn call 17 24 [some (am_P (21, n, k)), some (am_P (21, n2, k2))] [] (am_set M (21, n, k) 2 (M (21, n2, k2) 2)) (am_Z w) := by
  refine Eq.trans (rl_aloadn (j := 0) (by decide +kernel) rfl) ?_
  refine Eq.trans (rl_aloadn (j := 1) (by decide +kernel) rfl) ?_
  refine Eq.trans (rl_get (ix := 22) (ci := 2) (j := 2) (by decide +kernel) (by decide +kernel) (by decide +kernel) (ck21 hn2 hk2)) ?_
  refine Eq.trans (rl_put (ix := 22) (ci := 2) (j := 2) (by decide +kernel) (by decide +kernel) (by decide +kernel) (by decide +kernel) (ck21 hn hk)) ?_
  rfl
theorem b17_24 {n k n2 k2 : Nat} {M : am_M} {w : am_W4} (hn : n < 12) (hk : k < 6) (hn2 : n2 < 12) (hk2 : k2 < 6) : am_rn call 17 24 [some (am_P (21, n, k)), some (am_P (21, n2, k2))] [] M (am_Z w) = am_rn call 17 32 [some (am_P (21, n, k)), some (am_P (21, n2, k2))] [] (am_set M (21, n, k) 3 (M (21, n2, k2) 3)) (am_Z w) := by
  refine Eq.trans (rl_aloadn (j := 0) (by decide +kernel) rfl) ?_
  refine Eq.trans (rl_aloadn (j := 1) (by decide +kernel) rfl) ?_
  refine Eq.trans (rl_get (ix := 25) (ci := 2) (j := 3) (by decide +kernel) (by decide +kernel) (by decide +kernel) (ck21 hn2 hk2)) ?_
  refine Eq.trans (rl_put (ix := 25) (ci := 2) (j := 3) (by decide +kernel) (by decide +kernel) (by decide +kernel) (by decide +kernel) (ck21 hn hk)) ?_
  rfl
theorem b17_32 {n k n2 k2 : Nat} {M : am_M} {w : am_W4} (hn : n < 12) (hk : k < 6) (hn2 : n2 < 12) (hk2 : k2 < 6) : am_rn call 17 32 [some (am_P (21, n, k)), some (am_P (21, n2, k2))] [] M (am_Z w) = am_rn call 17 40 [some (am_P (21, n, k)), some (am_P (21, n2, k2))] [] (am_set M (21, n, k) 4 (M (21, n2, k2) 4)) (am_Z w) := by
  refine Eq.trans (rl_aloadn (j := 0) (by decide +kernel) rfl) ?_
  refine Eq.trans (rl_aloadn (j := 1) (by decide +kernel) rfl) ?_
  refine Eq.trans (rl_get (ix := 28) (ci := 2) (j := 4) (by decide +kernel) (by decide +kernel) (by decide +kernel) (ck21 hn2 hk2)) ?_
  refine Eq.trans (rl_put (ix := 28) (ci := 2) (j := 4) (by decide +kernel) (by decide +kernel) (by decide +kernel) (by decide +kernel) (ck21 hn hk)) ?_
  rfl
theorem b17_40 {n k n2 k2 : Nat} {M : am_M} {w : am_W4} (hn : n < 12) (hk : k < 6) (hn2 : n2 < 12) (hk2 : k2 < 6) : am_rn call 17 40 [some (am_P (21, n, k)), some (am_P (21, n2, k2))] [] M (am_Z w) = am_rn call 17 48 [some (am_P (21, n, k)), some (am_P (21, n2, k2))] [] (am_set M (21, n, k) 5 (M (21, n2, k2) 5)) (am_Z w) := by
  refine Eq.trans (rl_aloadn (j := 0) (by decide +kernel) rfl) ?_
  refine Eq.trans (rl_aloadn (j := 1) (by decide +kernel) rfl) ?_
  refine Eq.trans (rl_get (ix := 31) (ci := 2) (j := 5) (by decide +kernel) (by decide +kernel) (by decide +kernel) (ck21 hn2 hk2)) ?_
  refine Eq.trans (rl_put (ix := 31) (ci := 2) (j := 5) (by decide +kernel) (by decide +kernel) (by decide +kernel) (by decide +kernel) (ck21 hn hk)) ?_
  rfl
theorem b17_48 {n k n2 k2 : Nat} {M : am_M} {w : am_W4} (hn : n < 12) (hk : k < 6) (hn2 : n2 < 12) (hk2 : k2 < 6) (hne : n ≠ n2) : am_rn call 17 48 [some (am_P (21, n, k)), some (am_P (21, n2, k2))] [] M (am_Z w) = some (.inl none, (am_cp (am_set M (21, n, k) 6 (M (21, n2, k2) 6)) (22, n2, k2) (22, n, k) 0 0 16), (am_Z w)) := by
  refine Eq.trans (rl_aloadn (j := 0) (by decide +kernel) rfl) ?_
  refine Eq.trans (rl_aloadn (j := 1) (by decide +kernel) rfl) ?_
  refine Eq.trans (rl_get (ix := 34) (ci := 2) (j := 6) (by decide +kernel) (by decide +kernel) (by decide +kernel) (ck21 hn2 hk2)) ?_
  refine Eq.trans (rl_put (ix := 34) (ci := 2) (j := 6) (by decide +kernel) (by decide +kernel) (by decide +kernel) (by decide +kernel) (ck21 hn hk)) ?_
  refine Eq.trans (rl_aloadn (j := 1) (by decide +kernel) rfl) ?_
  refine Eq.trans (rl_getP (ix := 9) (ci := 2) (j := 7) (by decide +kernel) (by decide +kernel) (by decide +kernel) (ck21 hn2 hk2) rfl) ?_
  refine Eq.trans (rl_iconst (c := 0) (k := (nI 0)) (by decide +kernel) (by decide)) ?_
  refine Eq.trans (rl_aloadn (j := 0) (by decide +kernel) rfl) ?_
  refine Eq.trans (rl_getP (ix := 9) (ci := 2) (j := 7) (by decide +kernel) (by decide +kernel) (by decide +kernel) (ck21 hn hk) rfl) ?_
  refine Eq.trans (rl_iconst (c := 0) (k := (nI 0)) (by decide +kernel) (by decide)) ?_
  refine Eq.trans (rl_bipush (c := 16) (k := (nI 16)) (by decide +kernel) (by decide)) ?_
  refine Eq.trans (rl_copy' (ix := 37) (y0 := 0) 0 0 16 (by decide +kernel) (by decide +kernel) rfl (ka22 hn hk) (ka22 hn2 hk2) (fun e => hne (congrArg (fun l : am_L => l.2.1) e)) rfl rfl rfl rfl) ?_
  exact rl_ret (by decide +kernel) rfl
theorem e17 {d : Nat} {n k n2 k2 : Nat} {M : am_M} {w : am_W4} (hn : n < 12) (hk : k < 6) (hn2 : n2 < 12) (hk2 : k2 < 6) : am_ev (d + 1) 17 [am_P (21, n, k), am_P (21, n2, k2)] M (am_Z w) = am_rn (am_ev d) 17 8 [some (am_P (21, n, k)), some (am_P (21, n2, k2))] [] (am_set M (21, n, k) 0 (M (21, n2, k2) 0)) (am_Z w) := (am_ev_eq d 17 _ M (am_Z w)).trans (b17_0 hn hk hn2 hk2)
theorem b18_0 {n k : Nat} {x1 : Int32} {M : am_M} {w : am_W4} (hn : n < 12) (hk : k < 6) : am_rn call 18 0 [some (am_P (21, n, k)), some (am_I x1)] [] M (am_Z w) = if (M (21, n, k) 3) < (M (21, n, k) 2) then if x1 < (M (21, n, k) 2) then if x1 < (M (21, n, k) 3) then some (.inl (some (am_I (nI 1))), M, (am_Z w)) else some (.inl (some (am_I (nI 0))), M, (am_Z w)) else some (.inl (some (am_I (nI 1))), M, (am_Z w)) else if x1 < (M (21, n, k) 2) then some (.inl (some (am_I (nI 0))), M, (am_Z w)) else if x1 < (M (21, n, k) 3) then some (.inl (some (am_I (nI 1))), M, (am_Z w)) else some (.inl (some (am_I (nI 0))), M, (am_Z w)) := by
  refine Eq.trans (rl_aloadn (j := 0) (by decide +kernel) rfl) ?_
  refine Eq.trans (rl_get (ix := 22) (ci := 2) (j := 2) (by decide +kernel) (by decide +kernel) (by decide +kernel) (ck21 hn hk)) ?_
  refine Eq.trans (rl_aloadn (j := 0) (by decide +kernel) rfl) ?_
  refine Eq.trans (rl_get (ix := 25) (ci := 2) (j := 3) (by decide +kernel) (by decide +kernel) (by decide +kernel) (ck21 hn hk)) ?_
  refine Eq.trans (rl_icgt (o := 25) 33 (by decide +kernel) (by decide)) ?_
  refine am_ite (fun h_1 => ?_) (fun h_1 => ?_)
  · skip
    refine Eq.trans (rl_iloadn (j := 1) (by decide +kernel) rfl) ?_
    refine Eq.trans (rl_aloadn (j := 0) (by decide +kernel) rfl) ?_
    refine Eq.trans (rl_get (ix := 22) (ci := 2) (j := 2) (by decide +kernel) (by decide +kernel) (by decide +kernel) (ck21 hn hk)) ?_
    refine Eq.trans (rl_icge (o := 11) 49 (by decide +kernel) (by decide)) ?_
    refine am_ite (fun h_2 => ?_) (fun h_2 => ?_)
    · skip
      refine Eq.trans (rl_iloadn (j := 1) (by decide +kernel) rfl) ?_
      refine Eq.trans (rl_aloadn (j := 0) (by decide +kernel) rfl) ?_
      refine Eq.trans (rl_get (ix := 25) (ci := 2) (j := 3) (by decide +kernel) (by decide +kernel) (by decide +kernel) (ck21 hn hk)) ?_
      refine Eq.trans (rl_icge (o := 7) 53 (by decide +kernel) (by decide)) ?_
      refine am_ite (fun h_3 => ?_) (fun h_3 => ?_)
      · skip
        refine Eq.trans (rl_iconst (c := 1) (k := (nI 1)) (by decide +kernel) (by decide)) ?_
        refine Eq.trans (rl_goto (o := 4) 54 (by decide +kernel) (by decide)) ?_
        exact rl_zretk (by decide +kernel) rfl rfl
      · skip
        refine Eq.trans (rl_iconst (c := 0) (k := (nI 0)) (by decide +kernel) (by decide)) ?_
        exact rl_zretk (by decide +kernel) rfl rfl
    · skip
      refine Eq.trans (rl_iconst (c := 1) (k := (nI 1)) (by decide +kernel) (by decide)) ?_
      refine Eq.trans (rl_goto (o := 4) 54 (by decide +kernel) (by decide)) ?_
      exact rl_zretk (by decide +kernel) rfl rfl
  · skip
    refine Eq.trans (rl_iloadn (j := 1) (by decide +kernel) rfl) ?_
    refine Eq.trans (rl_aloadn (j := 0) (by decide +kernel) rfl) ?_
    refine Eq.trans (rl_get (ix := 22) (ci := 2) (j := 2) (by decide +kernel) (by decide +kernel) (by decide +kernel) (ck21 hn hk)) ?_
    refine Eq.trans (rl_iclt (o := 15) 31 (by decide +kernel) (by decide)) ?_
    refine am_ite (fun h_4 => ?_) (fun h_4 => ?_)
    · skip
      refine Eq.trans (rl_iconst (c := 0) (k := (nI 0)) (by decide +kernel) (by decide)) ?_
      exact rl_zretk (by decide +kernel) rfl rfl
    · skip
      refine Eq.trans (rl_iloadn (j := 1) (by decide +kernel) rfl) ?_
      refine Eq.trans (rl_aloadn (j := 0) (by decide +kernel) rfl) ?_
      refine Eq.trans (rl_get (ix := 25) (ci := 2) (j := 3) (by decide +kernel) (by decide +kernel) (by decide +kernel) (ck21 hn hk)) ?_
      refine Eq.trans (rl_icge (o := 7) 31 (by decide +kernel) (by decide)) ?_
      refine am_ite (fun h_5 => ?_) (fun h_5 => ?_)
      · skip
        refine Eq.trans (rl_iconst (c := 1) (k := (nI 1)) (by decide +kernel) (by decide)) ?_
        refine Eq.trans (rl_goto (o := 4) 32 (by decide +kernel) (by decide)) ?_
        exact rl_zretk (by decide +kernel) rfl rfl
      · skip
        refine Eq.trans (rl_iconst (c := 0) (k := (nI 0)) (by decide +kernel) (by decide)) ?_
        exact rl_zretk (by decide +kernel) rfl rfl
theorem e18 {d : Nat} {n k : Nat} {x1 : Int32} {M : am_M} {w : am_W4} (hn : n < 12) (hk : k < 6) : am_ev (d + 1) 18 [am_P (21, n, k), am_I x1] M (am_Z w) = if (M (21, n, k) 3) < (M (21, n, k) 2) then if x1 < (M (21, n, k) 2) then if x1 < (M (21, n, k) 3) then some (.inl (some (am_I (nI 1))), M, (am_Z w)) else some (.inl (some (am_I (nI 0))), M, (am_Z w)) else some (.inl (some (am_I (nI 1))), M, (am_Z w)) else if x1 < (M (21, n, k) 2) then some (.inl (some (am_I (nI 0))), M, (am_Z w)) else if x1 < (M (21, n, k) 3) then some (.inl (some (am_I (nI 1))), M, (am_Z w)) else some (.inl (some (am_I (nI 0))), M, (am_Z w)) := (am_ev_eq d 18 _ M (am_Z w)).trans (b18_0 hn hk)
theorem b19_0 {n k : Nat} {x1 : Int32} {M : am_M} {w : am_W4} (hn : n < 12) (hk : k < 6) : am_rn call 19 0 [some (am_P (21, n, k)), some (am_I x1)] [] M (am_Z w) = if (M (21, n, k) 6) < (nI 16) then if am_in (M (21, n, k) 6) 16 then am_rn call 19 19 [some (am_P (21, n, k)), some (am_I x1)] [] (am_set M (22, n, k) (M (21, n, k) 6).toNatClampNeg x1) (am_Z w) else none else some (.inl none, M, (am_Z w)) := by
  refine Eq.trans (rl_aloadn (j := 0) (by decide +kernel) rfl) ?_
  refine Eq.trans (rl_get (ix := 34) (ci := 2) (j := 6) (by decide +kernel) (by decide +kernel) (by decide +kernel) (ck21 hn hk)) ?_
  refine Eq.trans (rl_bipush (c := 16) (k := (nI 16)) (by decide +kernel) (by decide)) ?_
  refine Eq.trans (rl_icge (o := 23) 29 (by decide +kernel) (by decide)) ?_
  refine am_ite (fun h_1 => ?_) (fun h_1 => ?_)
  · skip
    refine Eq.trans (rl_aloadn (j := 0) (by decide +kernel) rfl) ?_
    refine Eq.trans (rl_getP (ix := 9) (ci := 2) (j := 7) (by decide +kernel) (by decide +kernel) (by decide +kernel) (ck21 hn hk) rfl) ?_
    refine Eq.trans (rl_aloadn (j := 0) (by decide +kernel) rfl) ?_
    refine Eq.trans (rl_get (ix := 34) (ci := 2) (j := 6) (by decide +kernel) (by decide +kernel) (by decide +kernel) (ck21 hn hk)) ?_
    refine Eq.trans (rl_iloadn (j := 1) (by decide +kernel) rfl) ?_
    refine Eq.trans (rl_iast (by decide +kernel) (ka22 hn hk)) ?_
    refine am_ite (fun h_2 => ?_) (fun _ => rfl)
    rfl
  · skip
    exact rl_ret (by decide +kernel) rfl
theorem b19_19 {n k : Nat} {x1 : Int32} {M : am_M} {w : am_W4} (hn : n < 12) (hk : k < 6) : am_rn call 19 19 [some (am_P (21, n, k)), some (am_I x1)] [] M (am_Z w) = some (.inl none, (am_set M (21, n, k) 6 ((M (21, n, k) 6) + (nI 1))), (am_Z w)) := by
  refine Eq.trans (rl_aloadn (j := 0) (by decide +kernel) rfl) ?_
  refine Eq.trans (rl_dup (by decide +kernel) rfl) ?_
  refine Eq.trans (rl_get (ix := 34) (ci := 2) (j := 6) (by decide +kernel) (by decide +kernel) (by decide +kernel) (ck21 hn hk)) ?_
  refine Eq.trans (rl_iconst (c := 1) (k := (nI 1)) (by decide +kernel) (by decide)) ?_
  refine Eq.trans (rl_iadd (by decide +kernel)) ?_
  refine Eq.trans (rl_put (ix := 34) (ci := 2) (j := 6) (by decide +kernel) (by decide +kernel) (by decide +kernel) (by decide +kernel) (ck21 hn hk)) ?_
  exact rl_ret (by decide +kernel) rfl
theorem e19 {d : Nat} {n k : Nat} {x1 : Int32} {M : am_M} {w : am_W4} (hn : n < 12) (hk : k < 6) : am_ev (d + 1) 19 [am_P (21, n, k), am_I x1] M (am_Z w) = if (M (21, n, k) 6) < (nI 16) then if am_in (M (21, n, k) 6) 16 then am_rn (am_ev d) 19 19 [some (am_P (21, n, k)), some (am_I x1)] [] (am_set M (22, n, k) (M (21, n, k) 6).toNatClampNeg x1) (am_Z w) else none else some (.inl none, M, (am_Z w)) := (am_ev_eq d 19 _ M (am_Z w)).trans (b19_0 hn hk)
theorem b20_0 {n k : Nat} {x1 : Int32} {M : am_M} {w : am_W4} (hn : n < 12) (hk : k < 6) : am_rn call 20 0 [some (am_P (21, n, k)), some (am_I x1), none, none] [] M (am_Z w) = am_rn call 20 4 [some (am_P (21, n, k)), some (am_I x1), some (am_I (nI 0)), some (am_I (nI 0))] [] M (am_Z w) := by
  refine Eq.trans (rl_iconst (c := 0) (k := (nI 0)) (by decide +kernel) (by decide)) ?_
  refine Eq.trans (rl_istoren (j := 2) (ls' := [some (am_P (21, n, k)), some (am_I x1), some (am_I (nI 0)), none]) (by decide +kernel) rfl rfl) ?_
  refine Eq.trans (rl_iconst (c := 0) (k := (nI 0)) (by decide +kernel) (by decide)) ?_
  refine Eq.trans (rl_istoren (j := 3) (ls' := [some (am_P (21, n, k)), some (am_I x1), some (am_I (nI 0)), some (am_I (nI 0))]) (by decide +kernel) rfl rfl) ?_
  rfl
theorem b20_4 {n k : Nat} {x1 x2 x3 : Int32} {M : am_M} {w : am_W4} (hn : n < 12) (hk : k < 6) : am_rn call 20 4 [some (am_P (21, n, k)), some (am_I x1), some (am_I x2), some (am_I x3)] [] M (am_Z w) = if x3 < (M (21, n, k) 6) then if am_in x3 16 then if (M (22, n, k) x3.toNatClampNeg) = x1 then am_rn call 20 37 [some (am_P (21, n, k)), some (am_I x1), some (am_I x2), some (am_I x3)] [] M (am_Z w) else if am_in x3 16 then if am_in x2 16 then am_rn call 20 37 [some (am_P (21, n, k)), some (am_I x1), some (am_I (x2 + (nI 1))), some (am_I x3)] [] (am_set M (22, n, k) x2.toNatClampNeg (M (22, n, k) x3.toNatClampNeg)) (am_Z w) else none else none else none else some (.inl none, (am_set M (21, n, k) 6 x2), (am_Z w)) := by
  refine Eq.trans (rl_iloadn (j := 3) (by decide +kernel) rfl) ?_
  refine Eq.trans (rl_aloadn (j := 0) (by decide +kernel) rfl) ?_
  refine Eq.trans (rl_get (ix := 34) (ci := 2) (j := 6) (by decide +kernel) (by decide +kernel) (by decide +kernel) (ck21 hn hk)) ?_
  refine Eq.trans (rl_icge (o := 34) 43 (by decide +kernel) (by decide)) ?_
  refine am_ite (fun h_1 => ?_) (fun h_1 => ?_)
  · skip
    refine Eq.trans (rl_aloadn (j := 0) (by decide +kernel) rfl) ?_
    refine Eq.trans (rl_getP (ix := 9) (ci := 2) (j := 7) (by decide +kernel) (by decide +kernel) (by decide +kernel) (ck21 hn hk) rfl) ?_
    refine Eq.trans (rl_iloadn (j := 3) (by decide +kernel) rfl) ?_
    refine Eq.trans (rl_iald (by decide +kernel) (ka22 hn hk)) ?_
    refine am_ite (fun h_2 => ?_) (fun _ => rfl)
    refine Eq.trans (rl_iloadn (j := 1) (by decide +kernel) rfl) ?_
    refine Eq.trans (rl_iceq (o := 18) 37 (by decide +kernel) (by decide)) ?_
    refine am_ite (fun h_3 => ?_) (fun h_3 => ?_)
    · skip
      rfl
    · skip
      refine Eq.trans (rl_aloadn (j := 0) (by decide +kernel) rfl) ?_
      refine Eq.trans (rl_getP (ix := 9) (ci := 2) (j := 7) (by decide +kernel) (by decide +kernel) (by decide +kernel) (ck21 hn hk) rfl) ?_
      refine Eq.trans (rl_iloadn (j := 2) (by decide +kernel) rfl) ?_
      refine Eq.trans (rl_aloadn (j := 0) (by decide +kernel) rfl) ?_
      refine Eq.trans (rl_getP (ix := 9) (ci := 2) (j := 7) (by decide +kernel) (by decide +kernel) (by decide +kernel) (ck21 hn hk) rfl) ?_
      refine Eq.trans (rl_iloadn (j := 3) (by decide +kernel) rfl) ?_
      refine Eq.trans (rl_iald (by decide +kernel) (ka22 hn hk)) ?_
      refine am_ite (fun h_4 => ?_) (fun _ => rfl)
      refine Eq.trans (rl_iast (by decide +kernel) (ka22 hn hk)) ?_
      refine am_ite (fun h_5 => ?_) (fun _ => rfl)
      refine Eq.trans (rl_iinc (j := 2) (c := 1) (k := (nI 1)) (ls' := [some (am_P (21, n, k)), some (am_I x1), some (am_I (x2 + (nI 1))), some (am_I x3)]) (by decide +kernel) (by decide) rfl rfl) ?_
      rfl
  · skip
    refine Eq.trans (rl_aloadn (j := 0) (by decide +kernel) rfl) ?_
    refine Eq.trans (rl_iloadn (j := 2) (by decide +kernel) rfl) ?_
    refine Eq.trans (rl_put (ix := 34) (ci := 2) (j := 6) (by decide +kernel) (by decide +kernel) (by decide +kernel) (by decide +kernel) (ck21 hn hk)) ?_
    exact rl_ret (by decide +kernel) rfl
theorem b20_37 {n k : Nat} {x1 x2 x3 : Int32} {M : am_M} {w : am_W4} (hn : n < 12) (hk : k < 6) : am_rn call 20 37 [some (am_P (21, n, k)), some (am_I x1), some (am_I x2), some (am_I x3)] [] M (am_Z w) = am_rn call 20 4 [some (am_P (21, n, k)), some (am_I x1), some (am_I x2), some (am_I (x3 + (nI 1)))] [] M (am_Z w) := by
  refine Eq.trans (rl_iinc (j := 3) (c := 1) (k := (nI 1)) (ls' := [some (am_P (21, n, k)), some (am_I x1), some (am_I x2), some (am_I (x3 + (nI 1)))]) (by decide +kernel) (by decide) rfl rfl) ?_
  refine Eq.trans (rl_goto (o := (-36)) 4 (by decide +kernel) (by decide)) ?_
  rfl
theorem e20 {d : Nat} {n k : Nat} {x1 : Int32} {M : am_M} {w : am_W4} (hn : n < 12) (hk : k < 6) : am_ev (d + 1) 20 [am_P (21, n, k), am_I x1] M (am_Z w) = am_rn (am_ev d) 20 4 [some (am_P (21, n, k)), some (am_I x1), some (am_I (nI 0)), some (am_I (nI 0))] [] M (am_Z w) := (am_ev_eq d 20 _ M (am_Z w)).trans (b20_0 hn hk)
theorem b22_0  {M : am_M} {w : am_W4}  : am_rn call 22 0 [some (am_P (4, 0, 0))] [] M (am_Z w) = if am_in (M (4, 0, 0) 1) 9 then some (.inl (some (am_P (13, ((M (4, 0, 0) 1).toNatClampNeg + 3), 0))), M, (am_Z w)) else none := by
  refine Eq.trans (rl_aloadn (j := 0) (by decide +kernel) rfl) ?_
  refine Eq.trans (rl_getP (ix := 11) (ci := 3) (j := 0) (by decide +kernel) (by decide +kernel) (by decide +kernel) ck4 rfl) ?_
  refine Eq.trans (rl_aloadn (j := 0) (by decide +kernel) rfl) ?_
  refine Eq.trans (rl_get (ix := 18) (ci := 3) (j := 1) (by decide +kernel) (by decide +kernel) (by decide +kernel) ck4) ?_
  refine Eq.trans (rl_aald (v := (13, ((M (4, 0, 0) 1).toNatClampNeg + 3), 0)) (by decide +kernel) ka5 (fun h => if_pos (am_in_lt' h))) ?_
  refine am_ite (fun h_1 => ?_) (fun _ => rfl)
  exact rl_aret (by decide +kernel) rfl
theorem e22 {d : Nat}  {M : am_M} {w : am_W4}  : am_ev (d + 1) 22 [am_P (4, 0, 0)] M (am_Z w) = if am_in (M (4, 0, 0) 1) 9 then some (.inl (some (am_P (13, ((M (4, 0, 0) 1).toNatClampNeg + 3), 0))), M, (am_Z w)) else none := (am_ev_eq d 22 _ M (am_Z w)).trans (b22_0)
theorem b23_0  {M : am_M} {w : am_W4}  : am_rn call 23 0 [some (am_P (4, 0, 0))] [] M (am_Z w) = am_rn call 23 13 [some (am_P (4, 0, 0))] [] (am_set M (4, 0, 0) 1 (((M (4, 0, 0) 1) + (nI 1)) - ((M (4, 0, 0) 1) + (nI 1)) / (nI 9) * (nI 9))) (am_Z w) := by
  refine Eq.trans (rl_aloadn (j := 0) (by decide +kernel) rfl) ?_
  refine Eq.trans (rl_aloadn (j := 0) (by decide +kernel) rfl) ?_
  refine Eq.trans (rl_get (ix := 18) (ci := 3) (j := 1) (by decide +kernel) (by decide +kernel) (by decide +kernel) ck4) ?_
  refine Eq.trans (rl_iconst (c := 1) (k := (nI 1)) (by decide +kernel) (by decide)) ?_
  refine Eq.trans (rl_iadd (by decide +kernel)) ?_
  refine Eq.trans (rl_bipush (c := 9) (k := (nI 9)) (by decide +kernel) (by decide)) ?_
  refine Eq.trans (rl_irem (by decide +kernel) rfl) ?_
  refine Eq.trans (rl_put (ix := 18) (ci := 3) (j := 1) (by decide +kernel) (by decide +kernel) (by decide +kernel) (by decide +kernel) ck4) ?_
  rfl
theorem b23_13  {M : am_M} {w : am_W4}  : am_rn call 23 13 [some (am_P (4, 0, 0))] [] M (am_Z w) = if (M (4, 0, 0) 2) < (nI 8) then some (.inl none, (am_set M (4, 0, 0) 2 ((M (4, 0, 0) 2) + (nI 1))), (am_Z w)) else some (.inl none, M, (am_Z w)) := by
  refine Eq.trans (rl_aloadn (j := 0) (by decide +kernel) rfl) ?_
  refine Eq.trans (rl_get (ix := 22) (ci := 3) (j := 2) (by decide +kernel) (by decide +kernel) (by decide +kernel) ck4) ?_
  refine Eq.trans (rl_bipush (c := 8) (k := (nI 8)) (by decide +kernel) (by decide)) ?_
  refine Eq.trans (rl_icge (o := 13) 32 (by decide +kernel) (by decide)) ?_
  refine am_ite (fun h_1 => ?_) (fun h_1 => ?_)
  · skip
    refine Eq.trans (rl_aloadn (j := 0) (by decide +kernel) rfl) ?_
    refine Eq.trans (rl_dup (by decide +kernel) rfl) ?_
    refine Eq.trans (rl_get (ix := 22) (ci := 3) (j := 2) (by decide +kernel) (by decide +kernel) (by decide +kernel) ck4) ?_
    refine Eq.trans (rl_iconst (c := 1) (k := (nI 1)) (by decide +kernel) (by decide)) ?_
    refine Eq.trans (rl_iadd (by decide +kernel)) ?_
    refine Eq.trans (rl_put (ix := 22) (ci := 3) (j := 2) (by decide +kernel) (by decide +kernel) (by decide +kernel) (by decide +kernel) ck4) ?_
    exact rl_ret (by decide +kernel) rfl
  · skip
    exact rl_ret (by decide +kernel) rfl
theorem e23 {d : Nat}  {M : am_M} {w : am_W4}  : am_ev (d + 1) 23 [am_P (4, 0, 0)] M (am_Z w) = am_rn (am_ev d) 23 13 [some (am_P (4, 0, 0))] [] (am_set M (4, 0, 0) 1 (((M (4, 0, 0) 1) + (nI 1)) - ((M (4, 0, 0) 1) + (nI 1)) / (nI 9) * (nI 9))) (am_Z w) := (am_ev_eq d 23 _ M (am_Z w)).trans (b23_0)
theorem b24_0  {M : am_M} {w : am_W4}  : am_rn call 24 0 [some (am_P (4, 0, 0))] [] M (am_Z w) = am_rn call 24 14 [some (am_P (4, 0, 0))] [] (am_set M (4, 0, 0) 1 (((M (4, 0, 0) 1) + (nI 8)) - ((M (4, 0, 0) 1) + (nI 8)) / (nI 9) * (nI 9))) (am_Z w) := by
  refine Eq.trans (rl_aloadn (j := 0) (by decide +kernel) rfl) ?_
  refine Eq.trans (rl_aloadn (j := 0) (by decide +kernel) rfl) ?_
  refine Eq.trans (rl_get (ix := 18) (ci := 3) (j := 1) (by decide +kernel) (by decide +kernel) (by decide +kernel) ck4) ?_
  refine Eq.trans (rl_bipush (c := 8) (k := (nI 8)) (by decide +kernel) (by decide)) ?_
  refine Eq.trans (rl_iadd (by decide +kernel)) ?_
  refine Eq.trans (rl_bipush (c := 9) (k := (nI 9)) (by decide +kernel) (by decide)) ?_
  refine Eq.trans (rl_irem (by decide +kernel) rfl) ?_
  refine Eq.trans (rl_put (ix := 18) (ci := 3) (j := 1) (by decide +kernel) (by decide +kernel) (by decide +kernel) (by decide +kernel) ck4) ?_
  rfl
theorem b24_14  {M : am_M} {w : am_W4}  : am_rn call 24 14 [some (am_P (4, 0, 0))] [] M (am_Z w) = am_rn call 24 24 [some (am_P (4, 0, 0))] [] (am_set M (4, 0, 0) 2 ((M (4, 0, 0) 2) - (nI 1))) (am_Z w) := by
  refine Eq.trans (rl_aloadn (j := 0) (by decide +kernel) rfl) ?_
  refine Eq.trans (rl_dup (by decide +kernel) rfl) ?_
  refine Eq.trans (rl_get (ix := 22) (ci := 3) (j := 2) (by decide +kernel) (by decide +kernel) (by decide +kernel) ck4) ?_
  refine Eq.trans (rl_iconst (c := 1) (k := (nI 1)) (by decide +kernel) (by decide)) ?_
  refine Eq.trans (rl_isub (by decide +kernel)) ?_
  refine Eq.trans (rl_put (ix := 22) (ci := 3) (j := 2) (by decide +kernel) (by decide +kernel) (by decide +kernel) (by decide +kernel) ck4) ?_
  rfl
theorem b24_24  {M : am_M} {w : am_W4}  : am_rn call 24 24 [some (am_P (4, 0, 0))] [] M (am_Z w) = if am_in (M (4, 0, 0) 1) 9 then some (.inl (some (am_P (13, ((M (4, 0, 0) 1).toNatClampNeg + 3), 0))), M, (am_Z w)) else none := by
  refine Eq.trans (rl_aloadn (j := 0) (by decide +kernel) rfl) ?_
  refine Eq.trans (rl_getP (ix := 11) (ci := 3) (j := 0) (by decide +kernel) (by decide +kernel) (by decide +kernel) ck4 rfl) ?_
  refine Eq.trans (rl_aloadn (j := 0) (by decide +kernel) rfl) ?_
  refine Eq.trans (rl_get (ix := 18) (ci := 3) (j := 1) (by decide +kernel) (by decide +kernel) (by decide +kernel) ck4) ?_
  refine Eq.trans (rl_aald (v := (13, ((M (4, 0, 0) 1).toNatClampNeg + 3), 0)) (by decide +kernel) ka5 (fun h => if_pos (am_in_lt' h))) ?_
  refine am_ite (fun h_1 => ?_) (fun _ => rfl)
  exact rl_aret (by decide +kernel) rfl
theorem e24 {d : Nat}  {M : am_M} {w : am_W4}  : am_ev (d + 1) 24 [am_P (4, 0, 0)] M (am_Z w) = am_rn (am_ev d) 24 14 [some (am_P (4, 0, 0))] [] (am_set M (4, 0, 0) 1 (((M (4, 0, 0) 1) + (nI 8)) - ((M (4, 0, 0) 1) + (nI 8)) / (nI 9) * (nI 9))) (am_Z w) := (am_ev_eq d 24 _ M (am_Z w)).trans (b24_0)
theorem b26_0 {n k : Nat} {x1 x2 x3 : Int32} {M : am_M} {w : am_W4} (hn : n < 12) (hk : k < 16) : am_rn call 26 0 [some (am_P (24, n, k)), some (am_I x1), some (am_I x2), some (am_I x3)] [] M (am_Z w) = am_cb (call 28 [am_P (24, n, k), am_I (nI 0)] (am_set (am_set (am_set (am_set (am_set M (24, n, k) 0 x1) (24, n, k) 1 x2) (24, n, k) 2 x1) (24, n, k) 3 (nI 0)) (24, n, k) 4 x3) (am_Z w)) fun v M' X' => am_rn call 26 30 [some (am_P (24, n, k)), some (am_I x1), some (am_I x2), some (am_I x3)] (v.toList ++ []) M' X' := by
  refine Eq.trans (rl_aloadn (j := 0) (by decide +kernel) rfl) ?_
  refine Eq.trans (rl_iloadn (j := 1) (by decide +kernel) rfl) ?_
  refine Eq.trans (rl_put (ix := 15) (ci := 4) (j := 0) (by decide +kernel) (by decide +kernel) (by decide +kernel) (by decide +kernel) (ck24 hn hk)) ?_
  refine Eq.trans (rl_aloadn (j := 0) (by decide +kernel) rfl) ?_
  refine Eq.trans (rl_iloadn (j := 2) (by decide +kernel) rfl) ?_
  refine Eq.trans (rl_put (ix := 19) (ci := 4) (j := 1) (by decide +kernel) (by decide +kernel) (by decide +kernel) (by decide +kernel) (ck24 hn hk)) ?_
  refine Eq.trans (rl_aloadn (j := 0) (by decide +kernel) rfl) ?_
  refine Eq.trans (rl_iloadn (j := 1) (by decide +kernel) rfl) ?_
  refine Eq.trans (rl_put (ix := 22) (ci := 4) (j := 2) (by decide +kernel) (by decide +kernel) (by decide +kernel) (by decide +kernel) (ck24 hn hk)) ?_
  refine Eq.trans (rl_aloadn (j := 0) (by decide +kernel) rfl) ?_
  refine Eq.trans (rl_iconst (c := 0) (k := (nI 0)) (by decide +kernel) (by decide)) ?_
  refine Eq.trans (rl_put (ix := 25) (ci := 4) (j := 3) (by decide +kernel) (by decide +kernel) (by decide +kernel) (by decide +kernel) (ck24 hn hk)) ?_
  refine Eq.trans (rl_aloadn (j := 0) (by decide +kernel) rfl) ?_
  refine Eq.trans (rl_iloadn (j := 3) (by decide +kernel) rfl) ?_
  refine Eq.trans (rl_put (ix := 28) (ci := 4) (j := 4) (by decide +kernel) (by decide +kernel) (by decide +kernel) (by decide +kernel) (ck24 hn hk)) ?_
  refine Eq.trans (rl_aloadn (j := 0) (by decide +kernel) rfl) ?_
  refine Eq.trans (rl_iconst (c := 0) (k := (nI 0)) (by decide +kernel) (by decide)) ?_
  refine Eq.trans (rl_inv (ix := 31) (n := 1) (o := 4) 28 [am_I (nI 0)] [] (by decide +kernel) (by decide +kernel) (by decide +kernel) (by decide +kernel) ⟨rfl, rfl⟩ rfl rfl (ck24 hn hk)) ?_
  rfl
theorem b26_30 {n k : Nat} {x1 x2 x3 : Int32} {M : am_M} {w : am_W4} (hn : n < 12) (hk : k < 16) : am_rn call 26 30 [some (am_P (24, n, k)), some (am_I x1), some (am_I x2), some (am_I x3)] [] M (am_Z w) = some (.inl none, M, (am_Z w)) := by
  exact rl_ret (by decide +kernel) rfl
theorem e26 {d : Nat} {n k : Nat} {x1 x2 x3 : Int32} {M : am_M} {w : am_W4} (hn : n < 12) (hk : k < 16) : am_ev (d + 1) 26 [am_P (24, n, k), am_I x1, am_I x2, am_I x3] M (am_Z w) = am_cb ((am_ev d) 28 [am_P (24, n, k), am_I (nI 0)] (am_set (am_set (am_set (am_set (am_set M (24, n, k) 0 x1) (24, n, k) 1 x2) (24, n, k) 2 x1) (24, n, k) 3 (nI 0)) (24, n, k) 4 x3) (am_Z w)) fun v M' X' => am_rn (am_ev d) 26 30 [some (am_P (24, n, k)), some (am_I x1), some (am_I x2), some (am_I x3)] (v.toList ++ []) M' X' := (am_ev_eq d 26 _ M (am_Z w)).trans (b26_0 hn hk)
theorem b27_0 {n k n2 k2 : Nat} {M : am_M} {w : am_W4} (hn : n < 12) (hk : k < 16) (hn2 : n2 < 12) (hk2 : k2 < 16) : am_rn call 27 0 [some (am_P (24, n, k)), some (am_P (24, n2, k2))] [] M (am_Z w) = am_rn call 27 8 [some (am_P (24, n, k)), some (am_P (24, n2, k2))] [] (am_set M (24, n, k) 0 (M (24, n2, k2) 0)) (am_Z w) := by
  refine Eq.trans (rl_aloadn (j := 0) (by decide +kernel) rfl) ?_
  refine Eq.trans (rl_aloadn (j := 1) (by decide +kernel) rfl) ?_
  refine Eq.trans (rl_get (ix := 15) (ci := 4) (j := 0) (by decide +kernel) (by decide +kernel) (by decide +kernel) (ck24 hn2 hk2)) ?_
  refine Eq.trans (rl_put (ix := 15) (ci := 4) (j := 0) (by decide +kernel) (by decide +kernel) (by decide +kernel) (by decide +kernel) (ck24 hn hk)) ?_
  rfl
theorem b27_8 {n k n2 k2 : Nat} {M : am_M} {w : am_W4} (hn : n < 12) (hk : k < 16) (hn2 : n2 < 12) (hk2 : k2 < 16) : am_rn call 27 8 [some (am_P (24, n, k)), some (am_P (24, n2, k2))] [] M (am_Z w) = am_rn call 27 16 [some (am_P (24, n, k)), some (am_P (24, n2, k2))] [] (am_set M (24, n, k) 1 (M (24, n2, k2) 1)) (am_Z w) := by
  refine Eq.trans (rl_aloadn (j := 0) (by decide +kernel) rfl) ?_
  refine Eq.trans (rl_aloadn (j := 1) (by decide +kernel) rfl) ?_
  refine Eq.trans (rl_get (ix := 19) (ci := 4) (j := 1) (by decide +kernel) (by decide +kernel) (by decide +kernel) (ck24 hn2 hk2)) ?_
  refine Eq.trans (rl_put (ix := 19) (ci := 4) (j := 1) (by decide +kernel) (by decide +kernel) (by decide +kernel) (by decide +kernel) (ck24 hn hk)) ?_
  rfl
theorem b27_16 {n k n2 k2 : Nat} {M : am_M} {w : am_W4} (hn : n < 12) (hk : k < 16) (hn2 : n2 < 12) (hk2 : k2 < 16) : am_rn call 27 16 [some (am_P (24, n, k)), some (am_P (24, n2, k2))] [] M (am_Z w) = am_rn call 27 24 [some (am_P (24, n, k)), some (am_P (24, n2, k2))] [] (am_set M (24, n, k) 2 (M (24, n2, k2) 2)) (am_Z w) := by
  refine Eq.trans (rl_aloadn (j := 0) (by decide +kernel) rfl) ?_
  refine Eq.trans (rl_aloadn (j := 1) (by decide +kernel) rfl) ?_
  refine Eq.trans (rl_get (ix := 22) (ci := 4) (j := 2) (by decide +kernel) (by decide +kernel) (by decide +kernel) (ck24 hn2 hk2)) ?_
  refine Eq.trans (rl_put (ix := 22) (ci := 4) (j := 2) (by decide +kernel) (by decide +kernel) (by decide +kernel) (by decide +kernel) (ck24 hn hk)) ?_
  rfl
theorem b27_24 {n k n2 k2 : Nat} {M : am_M} {w : am_W4} (hn : n < 12) (hk : k < 16) (hn2 : n2 < 12) (hk2 : k2 < 16) : am_rn call 27 24 [some (am_P (24, n, k)), some (am_P (24, n2, k2))] [] M (am_Z w) = am_rn call 27 32 [some (am_P (24, n, k)), some (am_P (24, n2, k2))] [] (am_set M (24, n, k) 3 (M (24, n2, k2) 3)) (am_Z w) := by
  refine Eq.trans (rl_aloadn (j := 0) (by decide +kernel) rfl) ?_
  refine Eq.trans (rl_aloadn (j := 1) (by decide +kernel) rfl) ?_
  refine Eq.trans (rl_get (ix := 25) (ci := 4) (j := 3) (by decide +kernel) (by decide +kernel) (by decide +kernel) (ck24 hn2 hk2)) ?_
  refine Eq.trans (rl_put (ix := 25) (ci := 4) (j := 3) (by decide +kernel) (by decide +kernel) (by decide +kernel) (by decide +kernel) (ck24 hn hk)) ?_
  rfl
theorem b27_32 {n k n2 k2 : Nat} {M : am_M} {w : am_W4} (hn : n < 12) (hk : k < 16) (hn2 : n2 < 12) (hk2 : k2 < 16) : am_rn call 27 32 [some (am_P (24, n, k)), some (am_P (24, n2, k2))] [] M (am_Z w) = am_rn call 27 40 [some (am_P (24, n, k)), some (am_P (24, n2, k2))] [] (am_set M (24, n, k) 4 (M (24, n2, k2) 4)) (am_Z w) := by
  refine Eq.trans (rl_aloadn (j := 0) (by decide +kernel) rfl) ?_
  refine Eq.trans (rl_aloadn (j := 1) (by decide +kernel) rfl) ?_
  refine Eq.trans (rl_get (ix := 28) (ci := 4) (j := 4) (by decide +kernel) (by decide +kernel) (by decide +kernel) (ck24 hn2 hk2)) ?_
  refine Eq.trans (rl_put (ix := 28) (ci := 4) (j := 4) (by decide +kernel) (by decide +kernel) (by decide +kernel) (by decide +kernel) (ck24 hn hk)) ?_
  rfl
theorem b27_40 {n k n2 k2 : Nat} {M : am_M} {w : am_W4} (hn : n < 12) (hk : k < 16) (hn2 : n2 < 12) (hk2 : k2 < 16) : am_rn call 27 40 [some (am_P (24, n, k)), some (am_P (24, n2, k2))] [] M (am_Z w) = am_rn call 27 48 [some (am_P (24, n, k)), some (am_P (24, n2, k2))] [] (am_set M (24, n, k) 5 (M (24, n2, k2) 5)) (am_Z w) := by
  refine Eq.trans (rl_aloadn (j := 0) (by decide +kernel) rfl) ?_
  refine Eq.trans (rl_aloadn (j := 1) (by decide +kernel) rfl) ?_
  refine Eq.trans (rl_get (ix := 35) (ci := 4) (j := 5) (by decide +kernel) (by decide +kernel) (by decide +kernel) (ck24 hn2 hk2)) ?_
  refine Eq.trans (rl_put (ix := 35) (ci := 4) (j := 5) (by decide +kernel) (by decide +kernel) (by decide +kernel) (by decide +kernel) (ck24 hn hk)) ?_
  rfl
theorem b27_48 {n k n2 k2 : Nat} {M : am_M} {w : am_W4} (hn : n < 12) (hk : k < 16) (hn2 : n2 < 12) (hk2 : k2 < 16) : am_rn call 27 48 [some (am_P (24, n, k)), some (am_P (24, n2, k2))] [] M (am_Z w) = am_rn call 27 56 [some (am_P (24, n, k)), some (am_P (24, n2, k2))] [] (am_set M (24, n, k) 6 (M (24, n2, k2) 6)) (am_Z w) := by
  refine Eq.trans (rl_aloadn (j := 0) (by decide +kernel) rfl) ?_
  refine Eq.trans (rl_aloadn (j := 1) (by decide +kernel) rfl) ?_
  refine Eq.trans (rl_get (ix := 38) (ci := 4) (j := 6) (by decide +kernel) (by decide +kernel) (by decide +kernel) (ck24 hn2 hk2)) ?_
  refine Eq.trans (rl_put (ix := 38) (ci := 4) (j := 6) (by decide +kernel) (by decide +kernel) (by decide +kernel) (by decide +kernel) (ck24 hn hk)) ?_
  rfl
theorem b27_56 {n k n2 k2 : Nat} {M : am_M} {w : am_W4} (hn : n < 12) (hk : k < 16) (hn2 : n2 < 12) (hk2 : k2 < 16) : am_rn call 27 56 [some (am_P (24, n, k)), some (am_P (24, n2, k2))] [] M (am_Z w) = if am_pc 1 (M (24, n2, k2) 7) = true then am_rn call 27 64 [some (am_P (24, n, k)), some (am_P (24, n2, k2))] [] (am_set M (24, n, k) 7 (M (24, n2, k2) 7)) (am_Z w) else none := by
  refine Eq.trans (rl_aloadn (j := 0) (by decide +kernel) rfl) ?_
  refine Eq.trans (rl_aloadn (j := 1) (by decide +kernel) rfl) ?_
  refine Eq.trans (rl_get (ix := 41) (ci := 4) (j := 7) (by decide +kernel) (by decide +kernel) (by decide +kernel) (ck24 hn2 hk2)) ?_
  refine Eq.trans (rl_putZ (ix := 41) (ci := 4) (j := 7) (by decide +kernel) (by decide +kernel) (by decide +kernel) (by decide +kernel) (ck24 hn hk)) ?_
  refine am_ite (fun h_1 => ?_) (fun _ => rfl)
  rfl
theorem b27_64 {n k n2 k2 : Nat} {M : am_M} {w : am_W4} (hn : n < 12) (hk : k < 16) (hn2 : n2 < 12) (hk2 : k2 < 16) (hne : n ≠ n2) : am_rn call 27 64 [some (am_P (24, n, k)), some (am_P (24, n2, k2))] [] M (am_Z w) = some (.inl none, (am_cp (am_set M (24, n, k) 8 (M (24, n2, k2) 8)) (25, n2, k2) (25, n, k) 0 0 8), (am_Z w)) := by
  refine Eq.trans (rl_aloadn (j := 0) (by decide +kernel) rfl) ?_
  refine Eq.trans (rl_aloadn (j := 1) (by decide +kernel) rfl) ?_
  refine Eq.trans (rl_get (ix := 45) (ci := 4) (j := 8) (by decide +kernel) (by decide +kernel) (by decide +kernel) (ck24 hn2 hk2)) ?_
  refine Eq.trans (rl_put (ix := 45) (ci := 4) (j := 8) (by decide +kernel) (by decide +kernel) (by decide +kernel) (by decide +kernel) (ck24 hn hk)) ?_
  refine Eq.trans (rl_aloadn (j := 1) (by decide +kernel) rfl) ?_
  refine Eq.trans (rl_getP (ix := 9) (ci := 4) (j := 9) (by decide +kernel) (by decide +kernel) (by decide +kernel) (ck24 hn2 hk2) rfl) ?_
  refine Eq.trans (rl_iconst (c := 0) (k := (nI 0)) (by decide +kernel) (by decide)) ?_
  refine Eq.trans (rl_aloadn (j := 0) (by decide +kernel) rfl) ?_
  refine Eq.trans (rl_getP (ix := 9) (ci := 4) (j := 9) (by decide +kernel) (by decide +kernel) (by decide +kernel) (ck24 hn hk) rfl) ?_
  refine Eq.trans (rl_iconst (c := 0) (k := (nI 0)) (by decide +kernel) (by decide)) ?_
  refine Eq.trans (rl_bipush (c := 8) (k := (nI 8)) (by decide +kernel) (by decide)) ?_
  refine Eq.trans (rl_copy' (ix := 48) (y0 := 0) 0 0 8 (by decide +kernel) (by decide +kernel) rfl (ka25 hn hk) (ka25 hn2 hk2) (fun e => hne (congrArg (fun l : am_L => l.2.1) e)) rfl rfl rfl rfl) ?_
  exact rl_ret (by decide +kernel) rfl
theorem e27 {d : Nat} {n k n2 k2 : Nat} {M : am_M} {w : am_W4} (hn : n < 12) (hk : k < 16) (hn2 : n2 < 12) (hk2 : k2 < 16) : am_ev (d + 1) 27 [am_P (24, n, k), am_P (24, n2, k2)] M (am_Z w) = am_rn (am_ev d) 27 8 [some (am_P (24, n, k)), some (am_P (24, n2, k2))] [] (am_set M (24, n, k) 0 (M (24, n2, k2) 0)) (am_Z w) := (am_ev_eq d 27 _ M (am_Z w)).trans (b27_0 hn hk hn2 hk2)
theorem b28_0 {n k : Nat} {x1 : Int32} {M : am_M} {w : am_W4} (hn : n < 12) (hk : k < 16) : am_rn call 28 0 [some (am_P (24, n, k)), some (am_I x1)] [] M (am_Z w) = some (.inl none, (am_set (am_set (am_set M (24, n, k) 5 x1) (24, n, k) 6 (nI 0)) (24, n, k) 7 (nI 1)), (am_Z w)) := by
  refine Eq.trans (rl_aloadn (j := 0) (by decide +kernel) rfl) ?_
  refine Eq.trans (rl_iloadn (j := 1) (by decide +kernel) rfl) ?_
  refine Eq.trans (rl_put (ix := 35) (ci := 4) (j := 5) (by decide +kernel) (by decide +kernel) (by decide +kernel) (by decide +kernel) (ck24 hn hk)) ?_
  refine Eq.trans (rl_aloadn (j := 0) (by decide +kernel) rfl) ?_
  refine Eq.trans (rl_iconst (c := 0) (k := (nI 0)) (by decide +kernel) (by decide)) ?_
  refine Eq.trans (rl_put (ix := 38) (ci := 4) (j := 6) (by decide +kernel) (by decide +kernel) (by decide +kernel) (by decide +kernel) (ck24 hn hk)) ?_
  refine Eq.trans (rl_aloadn (j := 0) (by decide +kernel) rfl) ?_
  refine Eq.trans (rl_iconst (c := 1) (k := (nI 1)) (by decide +kernel) (by decide)) ?_
  refine Eq.trans (rl_putZk (ix := 41) (ci := 4) (j := 7) (by decide +kernel) (by decide +kernel) (by decide +kernel) (by decide +kernel) (ck24 hn hk) rfl) ?_
  exact rl_ret (by decide +kernel) rfl
theorem e28 {d : Nat} {n k : Nat} {x1 : Int32} {M : am_M} {w : am_W4} (hn : n < 12) (hk : k < 16) : am_ev (d + 1) 28 [am_P (24, n, k), am_I x1] M (am_Z w) = some (.inl none, (am_set (am_set (am_set M (24, n, k) 5 x1) (24, n, k) 6 (nI 0)) (24, n, k) 7 (nI 1)), (am_Z w)) := (am_ev_eq d 28 _ M (am_Z w)).trans (b28_0 hn hk)
theorem b29_0 {n k : Nat} {M : am_M} {w : am_W4} (hn : n < 12) (hk : k < 16) : am_rn call 29 0 [some (am_P (24, n, k))] [] M (am_Z w) = if (M (24, n, k) 5) < (M (24, n, k) 8) then some (.inl (some (am_I (nI 0))), M, (am_Z w)) else some (.inl (some (am_I (nI 1))), M, (am_Z w)) := by
  refine Eq.trans (rl_aloadn (j := 0) (by decide +kernel) rfl) ?_
  refine Eq.trans (rl_get (ix := 35) (ci := 4) (j := 5) (by decide +kernel) (by decide +kernel) (by decide +kernel) (ck24 hn hk)) ?_
  refine Eq.trans (rl_aloadn (j := 0) (by decide +kernel) rfl) ?_
  refine Eq.trans (rl_get (ix := 45) (ci := 4) (j := 8) (by decide +kernel) (by decide +kernel) (by decide +kernel) (ck24 hn hk)) ?_
  refine Eq.trans (rl_iclt (o := 7) 15 (by decide +kernel) (by decide)) ?_
  refine am_ite (fun h_1 => ?_) (fun h_1 => ?_)
  · skip
    refine Eq.trans (rl_iconst (c := 0) (k := (nI 0)) (by decide +kernel) (by decide)) ?_
    exact rl_zretk (by decide +kernel) rfl rfl
  · skip
    refine Eq.trans (rl_iconst (c := 1) (k := (nI 1)) (by decide +kernel) (by decide)) ?_
    refine Eq.trans (rl_goto (o := 4) 16 (by decide +kernel) (by decide)) ?_
    exact rl_zretk (by decide +kernel) rfl rfl
theorem e29 {d : Nat} {n k : Nat} {M : am_M} {w : am_W4} (hn : n < 12) (hk : k < 16) : am_ev (d + 1) 29 [am_P (24, n, k)] M (am_Z w) = if (M (24, n, k) 5) < (M (24, n, k) 8) then some (.inl (some (am_I (nI 0))), M, (am_Z w)) else some (.inl (some (am_I (nI 1))), M, (am_Z w)) := (am_ev_eq d 29 _ M (am_Z w)).trans (b29_0 hn hk)
theorem b30_0 {n k : Nat} {M : am_M} {w : am_W4} (hn : n < 12) (hk : k < 16) : am_rn call 30 0 [some (am_P (24, n, k))] [] M (am_Z w) = if (M (24, n, k) 5) < (M (24, n, k) 8) then if am_in (M (24, n, k) 5) 8 then some (.inl (some (am_I (M (25, n, k) (M (24, n, k) 5).toNatClampNeg))), M, (am_Z w)) else none else some (.inl (some (am_I (nI 0))), M, (am_Z w)) := by
  refine Eq.trans (rl_aloadn (j := 0) (by decide +kernel) rfl) ?_
  refine Eq.trans (rl_get (ix := 35) (ci := 4) (j := 5) (by decide +kernel) (by decide +kernel) (by decide +kernel) (ck24 hn hk)) ?_
  refine Eq.trans (rl_aloadn (j := 0) (by decide +kernel) rfl) ?_
  refine Eq.trans (rl_get (ix := 45) (ci := 4) (j := 8) (by decide +kernel) (by decide +kernel) (by decide +kernel) (ck24 hn hk)) ?_
  refine Eq.trans (rl_icge (o := 15) 23 (by decide +kernel) (by decide)) ?_
  refine am_ite (fun h_1 => ?_) (fun h_1 => ?_)
  · skip
    refine Eq.trans (rl_aloadn (j := 0) (by decide +kernel) rfl) ?_
    refine Eq.trans (rl_getP (ix := 9) (ci := 4) (j := 9) (by decide +kernel) (by decide +kernel) (by decide +kernel) (ck24 hn hk) rfl) ?_
    refine Eq.trans (rl_aloadn (j := 0) (by decide +kernel) rfl) ?_
    refine Eq.trans (rl_get (ix := 35) (ci := 4) (j := 5) (by decide +kernel) (by decide +kernel) (by decide +kernel) (ck24 hn hk)) ?_
    refine Eq.trans (rl_iald (by decide +kernel) (ka25 hn hk)) ?_
    refine am_ite (fun h_2 => ?_) (fun _ => rfl)
    refine Eq.trans (rl_goto (o := 4) 24 (by decide +kernel) (by decide)) ?_
    exact rl_iret (by decide +kernel) rfl
  · skip
    refine Eq.trans (rl_iconst (c := 0) (k := (nI 0)) (by decide +kernel) (by decide)) ?_
    exact rl_iret (by decide +kernel) rfl
theorem e30 {d : Nat} {n k : Nat} {M : am_M} {w : am_W4} (hn : n < 12) (hk : k < 16) : am_ev (d + 1) 30 [am_P (24, n, k)] M (am_Z w) = if (M (24, n, k) 5) < (M (24, n, k) 8) then if am_in (M (24, n, k) 5) 8 then some (.inl (some (am_I (M (25, n, k) (M (24, n, k) 5).toNatClampNeg))), M, (am_Z w)) else none else some (.inl (some (am_I (nI 0))), M, (am_Z w)) := (am_ev_eq d 30 _ M (am_Z w)).trans (b30_0 hn hk)
theorem b31_0 {n k : Nat} {x1 : Int32} {M : am_M} {w : am_W4} (hn : n < 12) (hk : k < 16) : am_rn call 31 0 [some (am_P (24, n, k)), some (am_I x1)] [] M (am_Z w) = if x1 < (M (24, n, k) 1) then some (.inl (some (am_I (x1 + (nI 1)))), M, (am_Z w)) else some (.inl (some (am_I (x1 - (nI 1)))), M, (am_Z w)) := by
  refine Eq.trans (rl_aloadn (j := 0) (by decide +kernel) rfl) ?_
  refine Eq.trans (rl_get (ix := 19) (ci := 4) (j := 1) (by decide +kernel) (by decide +kernel) (by decide +kernel) (ck24 hn hk)) ?_
  refine Eq.trans (rl_iloadn (j := 1) (by decide +kernel) rfl) ?_
  refine Eq.trans (rl_icle (o := 9) 14 (by decide +kernel) (by decide)) ?_
  refine am_ite (fun h_1 => ?_) (fun h_1 => ?_)
  · skip
    refine Eq.trans (rl_iloadn (j := 1) (by decide +kernel) rfl) ?_
    refine Eq.trans (rl_iconst (c := 1) (k := (nI 1)) (by decide +kernel) (by decide)) ?_
    refine Eq.trans (rl_iadd (by decide +kernel)) ?_
    refine Eq.trans (rl_goto (o := 6) 17 (by decide +kernel) (by decide)) ?_
    exact rl_iret (by decide +kernel) rfl
  · skip
    refine Eq.trans (rl_iloadn (j := 1) (by decide +kernel) rfl) ?_
    refine Eq.trans (rl_iconst (c := 1) (k := (nI 1)) (by decide +kernel) (by decide)) ?_
    refine Eq.trans (rl_isub (by decide +kernel)) ?_
    exact rl_iret (by decide +kernel) rfl
theorem e31 {d : Nat} {n k : Nat} {x1 : Int32} {M : am_M} {w : am_W4} (hn : n < 12) (hk : k < 16) : am_ev (d + 1) 31 [am_P (24, n, k), am_I x1] M (am_Z w) = if x1 < (M (24, n, k) 1) then some (.inl (some (am_I (x1 + (nI 1)))), M, (am_Z w)) else some (.inl (some (am_I (x1 - (nI 1)))), M, (am_Z w)) := (am_ev_eq d 31 _ M (am_Z w)).trans (b31_0 hn hk)
theorem b32_0 {n k : Nat} {M : am_M} {w : am_W4} (hn : n < 12) (hk : k < 16) : am_rn call 32 0 [some (am_P (24, n, k)), none, none] [] M (am_Z w) = am_rn call 32 4 [some (am_P (24, n, k)), some (am_I (nI 0)), some (am_I (nI 0))] [] M (am_Z w) := by
  refine Eq.trans (rl_iconst (c := 0) (k := (nI 0)) (by decide +kernel) (by decide)) ?_
  refine Eq.trans (rl_istoren (j := 1) (ls' := [some (am_P (24, n, k)), some (am_I (nI 0)), none]) (by decide +kernel) rfl rfl) ?_
  refine Eq.trans (rl_iconst (c := 0) (k := (nI 0)) (by decide +kernel) (by decide)) ?_
  refine Eq.trans (rl_istoren (j := 2) (ls' := [some (am_P (24, n, k)), some (am_I (nI 0)), some (am_I (nI 0))]) (by decide +kernel) rfl rfl) ?_
  rfl
theorem b32_4 {n k : Nat} {x1 x2 : Int32} {M : am_M} {w : am_W4} (hn : n < 12) (hk : k < 16) : am_rn call 32 4 [some (am_P (24, n, k)), some (am_I x1), some (am_I x2)] [] M (am_Z w) = if x2 < (M (24, n, k) 8) then if am_in x2 8 then if (M (25, n, k) x2.toNatClampNeg) = 0 then am_rn call 32 24 [some (am_P (24, n, k)), some (am_I (x1 + (nI 1))), some (am_I x2)] [] M (am_Z w) else am_rn call 32 24 [some (am_P (24, n, k)), some (am_I x1), some (am_I x2)] [] M (am_Z w) else none else some (.inl (some (am_I x1)), M, (am_Z w)) := by
  refine Eq.trans (rl_iloadn (j := 2) (by decide +kernel) rfl) ?_
  refine Eq.trans (rl_aloadn (j := 0) (by decide +kernel) rfl) ?_
  refine Eq.trans (rl_get (ix := 45) (ci := 4) (j := 8) (by decide +kernel) (by decide +kernel) (by decide +kernel) (ck24 hn hk)) ?_
  refine Eq.trans (rl_icge (o := 21) 30 (by decide +kernel) (by decide)) ?_
  refine am_ite (fun h_1 => ?_) (fun h_1 => ?_)
  · skip
    refine Eq.trans (rl_aloadn (j := 0) (by decide +kernel) rfl) ?_
    refine Eq.trans (rl_getP (ix := 9) (ci := 4) (j := 9) (by decide +kernel) (by decide +kernel) (by decide +kernel) (ck24 hn hk) rfl) ?_
    refine Eq.trans (rl_iloadn (j := 2) (by decide +kernel) rfl) ?_
    refine Eq.trans (rl_iald (by decide +kernel) (ka25 hn hk)) ?_
    refine am_ite (fun h_2 => ?_) (fun _ => rfl)
    refine Eq.trans (rl_ifne (o := 6) 24 (by decide +kernel) (by decide)) ?_
    refine am_ite (fun h_3 => ?_) (fun h_3 => ?_)
    · skip
      refine Eq.trans (rl_iinc (j := 1) (c := 1) (k := (nI 1)) (ls' := [some (am_P (24, n, k)), some (am_I (x1 + (nI 1))), some (am_I x2)]) (by decide +kernel) (by decide) rfl rfl) ?_
      rfl
    · skip
      rfl
  · skip
    refine Eq.trans (rl_iloadn (j := 1) (by decide +kernel) rfl) ?_
    exact rl_iret (by decide +kernel) rfl
theorem b32_24 {n k : Nat} {x1 x2 : Int32} {M : am_M} {w : am_W4} (hn : n < 12) (hk : k < 16) : am_rn call 32 24 [some (am_P (24, n, k)), some (am_I x1), some (am_I x2)] [] M (am_Z w) = am_rn call 32 4 [some (am_P (24, n, k)), some (am_I x1), some (am_I (x2 + (nI 1)))] [] M (am_Z w) := by
  refine Eq.trans (rl_iinc (j := 2) (c := 1) (k := (nI 1)) (ls' := [some (am_P (24, n, k)), some (am_I x1), some (am_I (x2 + (nI 1)))]) (by decide +kernel) (by decide) rfl rfl) ?_
  refine Eq.trans (rl_goto (o := (-23)) 4 (by decide +kernel) (by decide)) ?_
  rfl
theorem e32 {d : Nat} {n k : Nat} {M : am_M} {w : am_W4} (hn : n < 12) (hk : k < 16) : am_ev (d + 1) 32 [am_P (24, n, k)] M (am_Z w) = am_rn (am_ev d) 32 4 [some (am_P (24, n, k)), some (am_I (nI 0)), some (am_I (nI 0))] [] M (am_Z w) := (am_ev_eq d 32 _ M (am_Z w)).trans (b32_0 hn hk)
theorem b228_0 {n k : Nat} {M : am_M} {w : am_W4} (hn : n < 12) (hk : k < 6) : am_rn call 228 0 [some (am_P (21, n, k))] [] M (am_Z w) = if 0 < (M (21, n, k) 6) then some (.inl (some (am_I (M (22, n, k) 0))), M, (am_Z w)) else some (.inl (some (am_I (-1 : Int32))), M, (am_Z w)) := by
  refine Eq.trans (rl_aloadn (j := 0) (by decide +kernel) rfl) ?_
  refine Eq.trans (rl_get (ix := 34) (ci := 2) (j := 6) (by decide +kernel) (by decide +kernel) (by decide +kernel) (ck21 hn hk)) ?_
  refine Eq.trans (rl_ifle (o := 12) 16 (by decide +kernel) (by decide)) ?_
  refine am_ite (fun h_1 => ?_) (fun h_1 => ?_)
  · skip
    refine Eq.trans (rl_aloadn (j := 0) (by decide +kernel) rfl) ?_
    refine Eq.trans (rl_getP (ix := 9) (ci := 2) (j := 7) (by decide +kernel) (by decide +kernel) (by decide +kernel) (ck21 hn hk) rfl) ?_
    refine Eq.trans (rl_iconst (c := 0) (k := (nI 0)) (by decide +kernel) (by decide)) ?_
    refine Eq.trans (rl_iald' 0 (by decide +kernel) (ka22 hn hk) rfl rfl) ?_
    refine Eq.trans (rl_goto (o := 4) 17 (by decide +kernel) (by decide)) ?_
    exact rl_iret (by decide +kernel) rfl
  · skip
    refine Eq.trans (rl_iconst (c := -1) (k := (-1 : Int32)) (by decide +kernel) (by decide)) ?_
    exact rl_iret (by decide +kernel) rfl
theorem e228 {d : Nat} {n k : Nat} {M : am_M} {w : am_W4} (hn : n < 12) (hk : k < 6) : am_ev (d + 1) 228 [am_P (21, n, k)] M (am_Z w) = if 0 < (M (21, n, k) 6) then some (.inl (some (am_I (M (22, n, k) 0))), M, (am_Z w)) else some (.inl (some (am_I (-1 : Int32))), M, (am_Z w)) := (am_ev_eq d 228 _ M (am_Z w)).trans (b228_0 hn hk)
theorem b229_0 {n k : Nat} {M : am_M} {w : am_W4} (hn : n < 12) (hk : k < 16) : am_rn call 229 0 [some (am_P (24, n, k))] [] M (am_Z w) = if (M (24, n, k) 5) < (M (24, n, k) 8) then if am_in (M (24, n, k) 5) 8 then some (.inl none, (am_set M (25, n, k) (M (24, n, k) 5).toNatClampNeg (nI 0)), (am_Z w)) else none else some (.inl none, M, (am_Z w)) := by
  refine Eq.trans (rl_aloadn (j := 0) (by decide +kernel) rfl) ?_
  refine Eq.trans (rl_get (ix := 35) (ci := 4) (j := 5) (by decide +kernel) (by decide +kernel) (by decide +kernel) (ck24 hn hk)) ?_
  refine Eq.trans (rl_aloadn (j := 0) (by decide +kernel) rfl) ?_
  refine Eq.trans (rl_get (ix := 45) (ci := 4) (j := 8) (by decide +kernel) (by decide +kernel) (by decide +kernel) (ck24 hn hk)) ?_
  refine Eq.trans (rl_icge (o := 13) 21 (by decide +kernel) (by decide)) ?_
  refine am_ite (fun h_1 => ?_) (fun h_1 => ?_)
  · skip
    refine Eq.trans (rl_aloadn (j := 0) (by decide +kernel) rfl) ?_
    refine Eq.trans (rl_getP (ix := 9) (ci := 4) (j := 9) (by decide +kernel) (by decide +kernel) (by decide +kernel) (ck24 hn hk) rfl) ?_
    refine Eq.trans (rl_aloadn (j := 0) (by decide +kernel) rfl) ?_
    refine Eq.trans (rl_get (ix := 35) (ci := 4) (j := 5) (by decide +kernel) (by decide +kernel) (by decide +kernel) (ck24 hn hk)) ?_
    refine Eq.trans (rl_iconst (c := 0) (k := (nI 0)) (by decide +kernel) (by decide)) ?_
    refine Eq.trans (rl_iast (by decide +kernel) (ka25 hn hk)) ?_
    refine am_ite (fun h_2 => ?_) (fun _ => rfl)
    exact rl_ret (by decide +kernel) rfl
  · skip
    exact rl_ret (by decide +kernel) rfl
theorem e229 {d : Nat} {n k : Nat} {M : am_M} {w : am_W4} (hn : n < 12) (hk : k < 16) : am_ev (d + 1) 229 [am_P (24, n, k)] M (am_Z w) = if (M (24, n, k) 5) < (M (24, n, k) 8) then if am_in (M (24, n, k) 5) 8 then some (.inl none, (am_set M (25, n, k) (M (24, n, k) 5).toNatClampNeg (nI 0)), (am_Z w)) else none else some (.inl none, M, (am_Z w)) := (am_ev_eq d 229 _ M (am_Z w)).trans (b229_0 hn hk)
theorem b230_0 {n : Nat} {x1 : Int32} {M : am_M} {w : am_W4} (hn : n < 12) : am_rn call 230 0 [some (am_P (13, n, 0)), some (am_I x1)] [] M (am_Z w) = if x1 < (nI 1) then some (.inl (some (am_I (nI 1))), M, (am_Z w)) else if (nI 8) < x1 then some (.inl (some (am_I (nI 1))), M, (am_Z w)) else if am_in x1 9 then some (.inl (some (am_I (((M (16, n, 0) x1.toNatClampNeg) - (M (16, n, 0) x1.toNatClampNeg) / (nI 4) * (nI 4)) + (nI 1)))), M, (am_Z w)) else none := by
  refine Eq.trans (rl_iloadn (j := 1) (by decide +kernel) rfl) ?_
  refine Eq.trans (rl_iconst (c := 1) (k := (nI 1)) (by decide +kernel) (by decide)) ?_
  refine Eq.trans (rl_iclt (o := 22) 24 (by decide +kernel) (by decide)) ?_
  refine am_ite (fun h_1 => ?_) (fun h_1 => ?_)
  · skip
    refine Eq.trans (rl_iconst (c := 1) (k := (nI 1)) (by decide +kernel) (by decide)) ?_
    exact rl_iret (by decide +kernel) rfl
  · skip
    refine Eq.trans (rl_iloadn (j := 1) (by decide +kernel) rfl) ?_
    refine Eq.trans (rl_bipush (c := 8) (k := (nI 8)) (by decide +kernel) (by decide)) ?_
    refine Eq.trans (rl_icgt (o := 16) 24 (by decide +kernel) (by decide)) ?_
    refine am_ite (fun h_2 => ?_) (fun h_2 => ?_)
    · skip
      refine Eq.trans (rl_iconst (c := 1) (k := (nI 1)) (by decide +kernel) (by decide)) ?_
      exact rl_iret (by decide +kernel) rfl
    · skip
      refine Eq.trans (rl_aloadn (j := 0) (by decide +kernel) rfl) ?_
      refine Eq.trans (rl_getP (ix := 23) (ci := 5) (j := 4) (by decide +kernel) (by decide +kernel) (by decide +kernel) (ck13 hn) rfl) ?_
      refine Eq.trans (rl_iloadn (j := 1) (by decide +kernel) rfl) ?_
      refine Eq.trans (rl_iald (by decide +kernel) (ka16 hn)) ?_
      refine am_ite (fun h_3 => ?_) (fun _ => rfl)
      refine Eq.trans (rl_iconst (c := 4) (k := (nI 4)) (by decide +kernel) (by decide)) ?_
      refine Eq.trans (rl_irem (by decide +kernel) rfl) ?_
      refine Eq.trans (rl_iconst (c := 1) (k := (nI 1)) (by decide +kernel) (by decide)) ?_
      refine Eq.trans (rl_iadd (by decide +kernel)) ?_
      refine Eq.trans (rl_goto (o := 4) 25 (by decide +kernel) (by decide)) ?_
      exact rl_iret (by decide +kernel) rfl
theorem e230 {d : Nat} {n : Nat} {x1 : Int32} {M : am_M} {w : am_W4} (hn : n < 12) : am_ev (d + 1) 230 [am_P (13, n, 0), am_I x1] M (am_Z w) = if x1 < (nI 1) then some (.inl (some (am_I (nI 1))), M, (am_Z w)) else if (nI 8) < x1 then some (.inl (some (am_I (nI 1))), M, (am_Z w)) else if am_in x1 9 then some (.inl (some (am_I (((M (16, n, 0) x1.toNatClampNeg) - (M (16, n, 0) x1.toNatClampNeg) / (nI 4) * (nI 4)) + (nI 1)))), M, (am_Z w)) else none := (am_ev_eq d 230 _ M (am_Z w)).trans (b230_0 hn)
theorem b231_0 {x0 : Int32} {M : am_M} {w : am_W4}  : am_rn call 231 0 [some (am_I x0)] [] M (am_Z w) = if x0 < (nI 1) then some (.inl (some (am_I (nI 0))), M, (am_Z w)) else if (nI 8) < x0 then some (.inl (some (am_I (nI 0))), M, (am_Z w)) else some (.inl (some (am_I (nI 1))), M, (am_Z w)) := by
  refine Eq.trans (rl_iloadn (j := 0) (by decide +kernel) rfl) ?_
  refine Eq.trans (rl_iconst (c := 1) (k := (nI 1)) (by decide +kernel) (by decide)) ?_
  refine Eq.trans (rl_iclt (o := 13) 15 (by decide +kernel) (by decide)) ?_
  refine am_ite (fun h_1 => ?_) (fun h_1 => ?_)
  · skip
    refine Eq.trans (rl_iconst (c := 0) (k := (nI 0)) (by decide +kernel) (by decide)) ?_
    exact rl_zretk (by decide +kernel) rfl rfl
  · skip
    refine Eq.trans (rl_iloadn (j := 0) (by decide +kernel) rfl) ?_
    refine Eq.trans (rl_bipush (c := 8) (k := (nI 8)) (by decide +kernel) (by decide)) ?_
    refine Eq.trans (rl_icgt (o := 7) 15 (by decide +kernel) (by decide)) ?_
    refine am_ite (fun h_2 => ?_) (fun h_2 => ?_)
    · skip
      refine Eq.trans (rl_iconst (c := 0) (k := (nI 0)) (by decide +kernel) (by decide)) ?_
      exact rl_zretk (by decide +kernel) rfl rfl
    · skip
      refine Eq.trans (rl_iconst (c := 1) (k := (nI 1)) (by decide +kernel) (by decide)) ?_
      refine Eq.trans (rl_goto (o := 4) 16 (by decide +kernel) (by decide)) ?_
      exact rl_zretk (by decide +kernel) rfl rfl
theorem e231 {d : Nat} {x0 : Int32} {M : am_M} {w : am_W4}  : am_ev (d + 1) 231 [am_I x0] M (am_Z w) = if x0 < (nI 1) then some (.inl (some (am_I (nI 0))), M, (am_Z w)) else if (nI 8) < x0 then some (.inl (some (am_I (nI 0))), M, (am_Z w)) else some (.inl (some (am_I (nI 1))), M, (am_Z w)) := (am_ev_eq d 231 _ M (am_Z w)).trans (b231_0)
end AmBl
