section AmBl
variable {call : Nat → List am_V → am_M → am_X → Option am_R}
theorem b176_0 {x1 : Int32} {M : am_M} {w : am_W4}  : am_rn call 176 0 [some (am_P (30, 0, 0)), some (am_I x1)] [] M (am_Z w) = am_rn call 176 5 [some (am_P (30, 0, 0)), some (am_I x1)] [] (am_set M (30, 0, 0) 20 (nI 0)) (am_Z w) := by
  refine Eq.trans (rl_aloadn (j := 0) (by decide +kernel) rfl) ?_
  refine Eq.trans (rl_iconst (c := 0) (k := (nI 0)) (by decide +kernel) (by decide)) ?_
  refine Eq.trans (rl_put (ix := 39) (ci := 9) (j := 20) (by decide +kernel) (by decide +kernel) (by decide +kernel) (by decide +kernel) ck30) ?_
  rfl
theorem b176_5 {x1 : Int32} {M : am_M} {w : am_W4}  : am_rn call 176 5 [some (am_P (30, 0, 0)), some (am_I x1)] [] M (am_Z w) = if (M (30, 0, 0) 10) = (nI 60) then am_cb (call 115 [am_P (30, 0, 0), am_I (nI 1)] M (am_Z w)) fun v M' X' => am_rn call 176 19 [some (am_P (30, 0, 0)), some (am_I x1)] (v.toList ++ []) M' X' else if am_in (M (30, 0, 0) 10) 60 then am_rn call 176 37 [some (am_P (30, 0, 0)), some (am_I x1)] [] (am_set (am_set M (30, 0, 0) 10 ((M (30, 0, 0) 10) + (nI 1))) (37, 0, 0) (M (30, 0, 0) 10).toNatClampNeg (vp_nar .char x1)) (am_Z w) else none := by
  refine Eq.trans (rl_aloadn (j := 0) (by decide +kernel) rfl) ?_
  refine Eq.trans (rl_get (ix := 180) (ci := 9) (j := 10) (by decide +kernel) (by decide +kernel) (by decide +kernel) ck30) ?_
  refine Eq.trans (rl_bipush (c := 60) (k := (nI 60)) (by decide +kernel) (by decide)) ?_
  refine Eq.trans (rl_icne (o := 9) 20 (by decide +kernel) (by decide)) ?_
  refine am_ite (fun h_1 => ?_) (fun h_1 => ?_)
  · skip
    refine Eq.trans (rl_aloadn (j := 0) (by decide +kernel) rfl) ?_
    refine Eq.trans (rl_iconst (c := 1) (k := (nI 1)) (by decide +kernel) (by decide)) ?_
    refine Eq.trans (rl_inv (ix := 64) (n := 1) (o := 9) 115 [am_I (nI 1)] [] (by decide +kernel) (by decide +kernel) (by decide +kernel) (by decide +kernel) ⟨rfl, rfl⟩ rfl rfl ck30) ?_
    rfl
  · skip
    refine Eq.trans (rl_aloadn (j := 0) (by decide +kernel) rfl) ?_
    refine Eq.trans (rl_getP (ix := 29) (ci := 9) (j := 9) (by decide +kernel) (by decide +kernel) (by decide +kernel) ck30 rfl) ?_
    refine Eq.trans (rl_aloadn (j := 0) (by decide +kernel) rfl) ?_
    refine Eq.trans (rl_dup (by decide +kernel) rfl) ?_
    refine Eq.trans (rl_get (ix := 180) (ci := 9) (j := 10) (by decide +kernel) (by decide +kernel) (by decide +kernel) ck30) ?_
    refine Eq.trans (rl_dup_x1 (by decide +kernel) rfl rfl) ?_
    refine Eq.trans (rl_iconst (c := 1) (k := (nI 1)) (by decide +kernel) (by decide)) ?_
    refine Eq.trans (rl_iadd (by decide +kernel)) ?_
    refine Eq.trans (rl_put (ix := 180) (ci := 9) (j := 10) (by decide +kernel) (by decide +kernel) (by decide +kernel) (by decide +kernel) ck30) ?_
    refine Eq.trans (rl_iloadn (j := 1) (by decide +kernel) rfl) ?_
    refine Eq.trans (rl_cast (by decide +kernel) ka37) ?_
    refine am_ite (fun h_2 => ?_) (fun _ => rfl)
    rfl
theorem b176_19 {x1 s0 : Int32} {M : am_M} {w : am_W4}  : am_rn call 176 19 [some (am_P (30, 0, 0)), some (am_I x1)] [am_I s0] M (am_Z w) = some (.inl (some (am_I s0)), M, (am_Z w)) := by
  exact rl_iret (by decide +kernel) rfl
theorem b176_37 {x1 : Int32} {M : am_M} {w : am_W4}  : am_rn call 176 37 [some (am_P (30, 0, 0)), some (am_I x1)] [] M (am_Z w) = some (.inl (some (am_I (M (30, 0, 0) 10))), M, (am_Z w)) := by
  refine Eq.trans (rl_aloadn (j := 0) (by decide +kernel) rfl) ?_
  refine Eq.trans (rl_get (ix := 180) (ci := 9) (j := 10) (by decide +kernel) (by decide +kernel) (by decide +kernel) ck30) ?_
  exact rl_iret (by decide +kernel) rfl
theorem e176 {d : Nat} {x1 : Int32} {M : am_M} {w : am_W4}  : am_ev (d + 1) 176 [am_P (30, 0, 0), am_I x1] M (am_Z w) = am_rn (am_ev d) 176 5 [some (am_P (30, 0, 0)), some (am_I x1)] [] (am_set M (30, 0, 0) 20 (nI 0)) (am_Z w) := (am_ev_eq d 176 _ M (am_Z w)).trans (b176_0)
theorem b177_0 {x1 : Int32} {M : am_M} {w : am_W4}  : am_rn call 177 0 [some (am_P (30, 0, 0)), some (am_I x1)] [] M (am_Z w) = if (M (30, 0, 0) 11) = (M (30, 0, 0) 10) then some (.inl (some (am_I (nI 0))), M, (am_Z w)) else if am_in (M (30, 0, 0) 11) 60 then if (M (37, 0, 0) (M (30, 0, 0) 11).toNatClampNeg) = x1 then some (.inl (some (am_I (nI 1))), (am_set M (30, 0, 0) 11 ((M (30, 0, 0) 11) + (nI 1))), (am_Z w)) else some (.inl (some (am_I (nI 0))), M, (am_Z w)) else none := by
  refine Eq.trans (rl_aloadn (j := 0) (by decide +kernel) rfl) ?_
  refine Eq.trans (rl_get (ix := 183) (ci := 9) (j := 11) (by decide +kernel) (by decide +kernel) (by decide +kernel) ck30) ?_
  refine Eq.trans (rl_aloadn (j := 0) (by decide +kernel) rfl) ?_
  refine Eq.trans (rl_get (ix := 180) (ci := 9) (j := 10) (by decide +kernel) (by decide +kernel) (by decide +kernel) ck30) ?_
  refine Eq.trans (rl_iceq (o := 16) 24 (by decide +kernel) (by decide)) ?_
  refine am_ite (fun h_1 => ?_) (fun h_1 => ?_)
  · skip
    refine Eq.trans (rl_iconst (c := 0) (k := (nI 0)) (by decide +kernel) (by decide)) ?_
    exact rl_zretk (by decide +kernel) rfl rfl
  · skip
    refine Eq.trans (rl_aloadn (j := 0) (by decide +kernel) rfl) ?_
    refine Eq.trans (rl_getP (ix := 29) (ci := 9) (j := 9) (by decide +kernel) (by decide +kernel) (by decide +kernel) ck30 rfl) ?_
    refine Eq.trans (rl_aloadn (j := 0) (by decide +kernel) rfl) ?_
    refine Eq.trans (rl_get (ix := 183) (ci := 9) (j := 11) (by decide +kernel) (by decide +kernel) (by decide +kernel) ck30) ?_
    refine Eq.trans (rl_cald (by decide +kernel) ka37) ?_
    refine am_ite (fun h_2 => ?_) (fun _ => rfl)
    refine Eq.trans (rl_iloadn (j := 1) (by decide +kernel) rfl) ?_
    refine Eq.trans (rl_iceq (o := 5) 26 (by decide +kernel) (by decide)) ?_
    refine am_ite (fun h_3 => ?_) (fun h_3 => ?_)
    · skip
      refine Eq.trans (rl_aloadn (j := 0) (by decide +kernel) rfl) ?_
      refine Eq.trans (rl_dup (by decide +kernel) rfl) ?_
      refine Eq.trans (rl_get (ix := 183) (ci := 9) (j := 11) (by decide +kernel) (by decide +kernel) (by decide +kernel) ck30) ?_
      refine Eq.trans (rl_iconst (c := 1) (k := (nI 1)) (by decide +kernel) (by decide)) ?_
      refine Eq.trans (rl_iadd (by decide +kernel)) ?_
      refine Eq.trans (rl_put (ix := 183) (ci := 9) (j := 11) (by decide +kernel) (by decide +kernel) (by decide +kernel) (by decide +kernel) ck30) ?_
      refine Eq.trans (rl_iconst (c := 1) (k := (nI 1)) (by decide +kernel) (by decide)) ?_
      exact rl_zretk (by decide +kernel) rfl rfl
    · skip
      refine Eq.trans (rl_iconst (c := 0) (k := (nI 0)) (by decide +kernel) (by decide)) ?_
      exact rl_zretk (by decide +kernel) rfl rfl
theorem e177 {d : Nat} {x1 : Int32} {M : am_M} {w : am_W4}  : am_ev (d + 1) 177 [am_P (30, 0, 0), am_I x1] M (am_Z w) = if (M (30, 0, 0) 11) = (M (30, 0, 0) 10) then some (.inl (some (am_I (nI 0))), M, (am_Z w)) else if am_in (M (30, 0, 0) 11) 60 then if (M (37, 0, 0) (M (30, 0, 0) 11).toNatClampNeg) = x1 then some (.inl (some (am_I (nI 1))), (am_set M (30, 0, 0) 11 ((M (30, 0, 0) 11) + (nI 1))), (am_Z w)) else some (.inl (some (am_I (nI 0))), M, (am_Z w)) else none := (am_ev_eq d 177 _ M (am_Z w)).trans (b177_0)
theorem b178_0 {x1 x2 x3 x4 : Int32} {M : am_M} {w : am_W4}  : am_rn call 178 0 [some (am_P (30, 0, 0)), some (am_I x1), some (am_I x2), some (am_I x3), some (am_I x4), none] [] M (am_Z w) = if am_in x1 3 then am_rn call 178 10 [some (am_P (30, 0, 0)), some (am_I x1), some (am_I x2), some (am_I x3), some (am_I x4), some (am_I (nI 0))] [] (am_set M (38, 0, 0) x1.toNatClampNeg (nI 0)) (am_Z w) else none := by
  refine Eq.trans (rl_iconst (c := 0) (k := (nI 0)) (by decide +kernel) (by decide)) ?_
  refine Eq.trans (rl_istore (j := 5) (ls' := [some (am_P (30, 0, 0)), some (am_I x1), some (am_I x2), some (am_I x3), some (am_I x4), some (am_I (nI 0))]) (by decide +kernel) rfl rfl) ?_
  refine Eq.trans (rl_aloadn (j := 0) (by decide +kernel) rfl) ?_
  refine Eq.trans (rl_getP (ix := 32) (ci := 9) (j := 13) (by decide +kernel) (by decide +kernel) (by decide +kernel) ck30 rfl) ?_
  refine Eq.trans (rl_iloadn (j := 1) (by decide +kernel) rfl) ?_
  refine Eq.trans (rl_iconst (c := 0) (k := (nI 0)) (by decide +kernel) (by decide)) ?_
  refine Eq.trans (rl_iast (by decide +kernel) ka38) ?_
  refine am_ite (fun h_1 => ?_) (fun _ => rfl)
  rfl
theorem b178_10 {x1 x2 x3 x4 x5 : Int32} {M : am_M} {w : am_W4}  : am_rn call 178 10 [some (am_P (30, 0, 0)), some (am_I x1), some (am_I x2), some (am_I x3), some (am_I x4), some (am_I x5)] [] M (am_Z w) = if x5 < x2 then if (M (30, 0, 0) 11) < (M (30, 0, 0) 10) then if am_in (M (30, 0, 0) 11) 60 then am_cb (call 116 [am_I (M (37, 0, 0) (M (30, 0, 0) 11).toNatClampNeg), am_I x3, am_I x4] M (am_Z w)) fun v M' X' => am_rn call 178 42 [some (am_P (30, 0, 0)), some (am_I x1), some (am_I x2), some (am_I x3), some (am_I x4), some (am_I x5)] (v.toList ++ []) M' X' else none else am_rn call 178 86 [some (am_P (30, 0, 0)), some (am_I x1), some (am_I x2), some (am_I x3), some (am_I x4), some (am_I x5)] [] M (am_Z w) else am_rn call 178 86 [some (am_P (30, 0, 0)), some (am_I x1), some (am_I x2), some (am_I x3), some (am_I x4), some (am_I x5)] [] M (am_Z w) := by
  refine Eq.trans (rl_iload (j := 5) (by decide +kernel) rfl) ?_
  refine Eq.trans (rl_iloadn (j := 2) (by decide +kernel) rfl) ?_
  refine Eq.trans (rl_icge (o := 73) 86 (by decide +kernel) (by decide)) ?_
  refine am_ite (fun h_1 => ?_) (fun h_1 => ?_)
  · skip
    refine Eq.trans (rl_aloadn (j := 0) (by decide +kernel) rfl) ?_
    refine Eq.trans (rl_get (ix := 183) (ci := 9) (j := 11) (by decide +kernel) (by decide +kernel) (by decide +kernel) ck30) ?_
    refine Eq.trans (rl_aloadn (j := 0) (by decide +kernel) rfl) ?_
    refine Eq.trans (rl_get (ix := 180) (ci := 9) (j := 10) (by decide +kernel) (by decide +kernel) (by decide +kernel) ck30) ?_
    refine Eq.trans (rl_icge (o := 62) 86 (by decide +kernel) (by decide)) ?_
    refine am_ite (fun h_2 => ?_) (fun h_2 => ?_)
    · skip
      refine Eq.trans (rl_aloadn (j := 0) (by decide +kernel) rfl) ?_
      refine Eq.trans (rl_getP (ix := 29) (ci := 9) (j := 9) (by decide +kernel) (by decide +kernel) (by decide +kernel) ck30 rfl) ?_
      refine Eq.trans (rl_aloadn (j := 0) (by decide +kernel) rfl) ?_
      refine Eq.trans (rl_get (ix := 183) (ci := 9) (j := 11) (by decide +kernel) (by decide +kernel) (by decide +kernel) ck30) ?_
      refine Eq.trans (rl_cald (by decide +kernel) ka37) ?_
      refine am_ite (fun h_3 => ?_) (fun _ => rfl)
      refine Eq.trans (rl_iloadn (j := 3) (by decide +kernel) rfl) ?_
      refine Eq.trans (rl_iload (j := 4) (by decide +kernel) rfl) ?_
      refine Eq.trans (rl_invS (ix := 67) (n := 3) (k := 1) 116 [am_I (M (37, 0, 0) (M (30, 0, 0) 11).toNatClampNeg), am_I x3, am_I x4] [] (by decide +kernel) (by decide +kernel) (by decide) (by decide +kernel) ⟨rfl, rfl⟩ rfl rfl) ?_
      rfl
    · skip
      rfl
  · skip
    rfl
theorem b178_42 {x1 x2 x3 x4 x5 s0 : Int32} {M : am_M} {w : am_W4}  : am_rn call 178 42 [some (am_P (30, 0, 0)), some (am_I x1), some (am_I x2), some (am_I x3), some (am_I x4), some (am_I x5)] [am_I s0] M (am_Z w) = if s0 = 0 then am_rn call 178 86 [some (am_P (30, 0, 0)), some (am_I x1), some (am_I x2), some (am_I x3), some (am_I x4), some (am_I x5)] [] M (am_Z w) else if am_in x1 3 then am_rn call 178 74 [some (am_P (30, 0, 0)), some (am_I x1), some (am_I x2), some (am_I x3), some (am_I x4), some (am_I x5)] [am_I (M (30, 0, 0) 11), am_P (37, 0, 0), am_I ((nI 10) * (M (38, 0, 0) x1.toNatClampNeg)), am_I x1, am_P (38, 0, 0)] (am_set M (30, 0, 0) 11 ((M (30, 0, 0) 11) + (nI 1))) (am_Z w) else none := by
  refine Eq.trans (rl_ifeq (o := 44) 86 (by decide +kernel) (by decide)) ?_
  refine am_ite (fun h_1 => ?_) (fun h_1 => ?_)
  · skip
    rfl
  · skip
    refine Eq.trans (rl_aloadn (j := 0) (by decide +kernel) rfl) ?_
    refine Eq.trans (rl_getP (ix := 32) (ci := 9) (j := 13) (by decide +kernel) (by decide +kernel) (by decide +kernel) ck30 rfl) ?_
    refine Eq.trans (rl_iloadn (j := 1) (by decide +kernel) rfl) ?_
    refine Eq.trans (rl_bipush (c := 10) (k := (nI 10)) (by decide +kernel) (by decide)) ?_
    refine Eq.trans (rl_aloadn (j := 0) (by decide +kernel) rfl) ?_
    refine Eq.trans (rl_getP (ix := 32) (ci := 9) (j := 13) (by decide +kernel) (by decide +kernel) (by decide +kernel) ck30 rfl) ?_
    refine Eq.trans (rl_iloadn (j := 1) (by decide +kernel) rfl) ?_
    refine Eq.trans (rl_iald (by decide +kernel) ka38) ?_
    refine am_ite (fun h_2 => ?_) (fun _ => rfl)
    refine Eq.trans (rl_imul (by decide +kernel)) ?_
    refine Eq.trans (rl_aloadn (j := 0) (by decide +kernel) rfl) ?_
    refine Eq.trans (rl_getP (ix := 29) (ci := 9) (j := 9) (by decide +kernel) (by decide +kernel) (by decide +kernel) ck30 rfl) ?_
    refine Eq.trans (rl_aloadn (j := 0) (by decide +kernel) rfl) ?_
    refine Eq.trans (rl_dup (by decide +kernel) rfl) ?_
    refine Eq.trans (rl_get (ix := 183) (ci := 9) (j := 11) (by decide +kernel) (by decide +kernel) (by decide +kernel) ck30) ?_
    refine Eq.trans (rl_dup_x1 (by decide +kernel) rfl rfl) ?_
    refine Eq.trans (rl_iconst (c := 1) (k := (nI 1)) (by decide +kernel) (by decide)) ?_
    refine Eq.trans (rl_iadd (by decide +kernel)) ?_
    refine Eq.trans (rl_put (ix := 183) (ci := 9) (j := 11) (by decide +kernel) (by decide +kernel) (by decide +kernel) (by decide +kernel) ck30) ?_
    rfl
theorem b178_74 {x1 x2 x3 x4 x5 s0 s2 s3 : Int32} {M : am_M} {w : am_W4}  : am_rn call 178 74 [some (am_P (30, 0, 0)), some (am_I x1), some (am_I x2), some (am_I x3), some (am_I x4), some (am_I x5)] [am_I s0, am_P (37, 0, 0), am_I s2, am_I s3, am_P (38, 0, 0)] M (am_Z w) = if am_in s0 60 then if am_in s3 3 then am_rn call 178 10 [some (am_P (30, 0, 0)), some (am_I x1), some (am_I x2), some (am_I x3), some (am_I x4), some (am_I (x5 + (nI 1)))] [] (am_set M (38, 0, 0) s3.toNatClampNeg ((s2 + (M (37, 0, 0) s0.toNatClampNeg)) - (nI 48))) (am_Z w) else none else none := by
  refine Eq.trans (rl_cald (by decide +kernel) ka37) ?_
  refine am_ite (fun h_1 => ?_) (fun _ => rfl)
  refine Eq.trans (rl_iadd (by decide +kernel)) ?_
  refine Eq.trans (rl_bipush (c := 48) (k := (nI 48)) (by decide +kernel) (by decide)) ?_
  refine Eq.trans (rl_isub (by decide +kernel)) ?_
  refine Eq.trans (rl_iast (by decide +kernel) ka38) ?_
  refine am_ite (fun h_2 => ?_) (fun _ => rfl)
  refine Eq.trans (rl_iinc (j := 5) (c := 1) (k := (nI 1)) (ls' := [some (am_P (30, 0, 0)), some (am_I x1), some (am_I x2), some (am_I x3), some (am_I x4), some (am_I (x5 + (nI 1)))]) (by decide +kernel) (by decide) rfl rfl) ?_
  refine Eq.trans (rl_goto (o := (-73)) 10 (by decide +kernel) (by decide)) ?_
  rfl
theorem b178_86 {x1 x2 x3 x4 x5 : Int32} {M : am_M} {w : am_W4}  : am_rn call 178 86 [some (am_P (30, 0, 0)), some (am_I x1), some (am_I x2), some (am_I x3), some (am_I x4), some (am_I x5)] [] M (am_Z w) = if 0 < x5 then some (.inl (some (am_I (nI 1))), M, (am_Z w)) else some (.inl (some (am_I (nI 0))), M, (am_Z w)) := by
  refine Eq.trans (rl_iload (j := 5) (by decide +kernel) rfl) ?_
  refine Eq.trans (rl_ifle (o := 7) 95 (by decide +kernel) (by decide)) ?_
  refine am_ite (fun h_1 => ?_) (fun h_1 => ?_)
  · skip
    refine Eq.trans (rl_iconst (c := 1) (k := (nI 1)) (by decide +kernel) (by decide)) ?_
    refine Eq.trans (rl_goto (o := 4) 96 (by decide +kernel) (by decide)) ?_
    exact rl_zretk (by decide +kernel) rfl rfl
  · skip
    refine Eq.trans (rl_iconst (c := 0) (k := (nI 0)) (by decide +kernel) (by decide)) ?_
    exact rl_zretk (by decide +kernel) rfl rfl
theorem e178 {d : Nat} {x1 x2 x3 x4 : Int32} {M : am_M} {w : am_W4}  : am_ev (d + 1) 178 [am_P (30, 0, 0), am_I x1, am_I x2, am_I x3, am_I x4] M (am_Z w) = if am_in x1 3 then am_rn (am_ev d) 178 10 [some (am_P (30, 0, 0)), some (am_I x1), some (am_I x2), some (am_I x3), some (am_I x4), some (am_I (nI 0))] [] (am_set M (38, 0, 0) x1.toNatClampNeg (nI 0)) (am_Z w) else none := (am_ev_eq d 178 _ M (am_Z w)).trans (b178_0)
theorem b179_0 {x1 : Int32} {M : am_M} {w : am_W4}  : am_rn call 179 0 [some (am_P (30, 0, 0)), some (am_I x1)] [] M (am_Z w) = am_cb (call 178 [am_P (30, 0, 0), am_I x1, am_I (nI 1), am_I (nI 48), am_I (nI 57)] M (am_Z w)) fun v M' X' => am_rn call 179 10 [some (am_P (30, 0, 0)), some (am_I x1)] (v.toList ++ []) M' X' := by
  refine Eq.trans (rl_aloadn (j := 0) (by decide +kernel) rfl) ?_
  refine Eq.trans (rl_iloadn (j := 1) (by decide +kernel) rfl) ?_
  refine Eq.trans (rl_iconst (c := 1) (k := (nI 1)) (by decide +kernel) (by decide)) ?_
  refine Eq.trans (rl_bipush (c := 48) (k := (nI 48)) (by decide +kernel) (by decide)) ?_
  refine Eq.trans (rl_bipush (c := 57) (k := (nI 57)) (by decide +kernel) (by decide)) ?_
  refine Eq.trans (rl_inv (ix := 186) (n := 4) (o := 9) 178 [am_I x1, am_I (nI 1), am_I (nI 48), am_I (nI 57)] [] (by decide +kernel) (by decide +kernel) (by decide +kernel) (by decide +kernel) ⟨rfl, rfl⟩ rfl rfl ck30) ?_
  rfl
theorem b179_10 {x1 s0 : Int32} {M : am_M} {w : am_W4}  : am_rn call 179 10 [some (am_P (30, 0, 0)), some (am_I x1)] [am_I s0] M (am_Z w) = if am_pc 1 s0 = true then some (.inl (some (am_I s0)), M, (am_Z w)) else none := by
  exact rl_zret (by decide +kernel) rfl
theorem e179 {d : Nat} {x1 : Int32} {M : am_M} {w : am_W4}  : am_ev (d + 1) 179 [am_P (30, 0, 0), am_I x1] M (am_Z w) = am_cb ((am_ev d) 178 [am_P (30, 0, 0), am_I x1, am_I (nI 1), am_I (nI 48), am_I (nI 57)] M (am_Z w)) fun v M' X' => am_rn (am_ev d) 179 10 [some (am_P (30, 0, 0)), some (am_I x1)] (v.toList ++ []) M' X' := (am_ev_eq d 179 _ M (am_Z w)).trans (b179_0)
theorem b180_0 {x1 : Int32} {M : am_M} {w : am_W4}  : am_rn call 180 0 [some (am_P (30, 0, 0)), some (am_I x1)] [] M (am_Z w) = am_cb (call 178 [am_P (30, 0, 0), am_I x1, am_I (nI 2), am_I (nI 48), am_I (nI 57)] M (am_Z w)) fun v M' X' => am_rn call 180 10 [some (am_P (30, 0, 0)), some (am_I x1)] (v.toList ++ []) M' X' := by
  refine Eq.trans (rl_aloadn (j := 0) (by decide +kernel) rfl) ?_
  refine Eq.trans (rl_iloadn (j := 1) (by decide +kernel) rfl) ?_
  refine Eq.trans (rl_iconst (c := 2) (k := (nI 2)) (by decide +kernel) (by decide)) ?_
  refine Eq.trans (rl_bipush (c := 48) (k := (nI 48)) (by decide +kernel) (by decide)) ?_
  refine Eq.trans (rl_bipush (c := 57) (k := (nI 57)) (by decide +kernel) (by decide)) ?_
  refine Eq.trans (rl_inv (ix := 186) (n := 4) (o := 9) 178 [am_I x1, am_I (nI 2), am_I (nI 48), am_I (nI 57)] [] (by decide +kernel) (by decide +kernel) (by decide +kernel) (by decide +kernel) ⟨rfl, rfl⟩ rfl rfl ck30) ?_
  rfl
theorem b180_10 {x1 s0 : Int32} {M : am_M} {w : am_W4}  : am_rn call 180 10 [some (am_P (30, 0, 0)), some (am_I x1)] [am_I s0] M (am_Z w) = if am_pc 1 s0 = true then some (.inl (some (am_I s0)), M, (am_Z w)) else none := by
  exact rl_zret (by decide +kernel) rfl
theorem e180 {d : Nat} {x1 : Int32} {M : am_M} {w : am_W4}  : am_ev (d + 1) 180 [am_P (30, 0, 0), am_I x1] M (am_Z w) = am_cb ((am_ev d) 178 [am_P (30, 0, 0), am_I x1, am_I (nI 2), am_I (nI 48), am_I (nI 57)] M (am_Z w)) fun v M' X' => am_rn (am_ev d) 180 10 [some (am_P (30, 0, 0)), some (am_I x1)] (v.toList ++ []) M' X' := (am_ev_eq d 180 _ M (am_Z w)).trans (b180_0)
theorem b181_0  {M : am_M} {w : am_W4}  : am_rn call 181 0 [some (am_P (30, 0, 0))] [] M (am_Z w) = if (M (30, 0, 0) 11) = (M (30, 0, 0) 10) then some (.inl (some (am_I (nI 0))), M, (am_Z w)) else if am_in (M (30, 0, 0) 11) 60 then if am_pc 2 (M (37, 0, 0) (M (30, 0, 0) 11).toNatClampNeg) = true then am_rn call 181 26 [some (am_P (30, 0, 0))] [] (am_set M (30, 0, 0) 12 (M (37, 0, 0) (M (30, 0, 0) 11).toNatClampNeg)) (am_Z w) else none else none := by
  refine Eq.trans (rl_aloadn (j := 0) (by decide +kernel) rfl) ?_
  refine Eq.trans (rl_get (ix := 183) (ci := 9) (j := 11) (by decide +kernel) (by decide +kernel) (by decide +kernel) ck30) ?_
  refine Eq.trans (rl_aloadn (j := 0) (by decide +kernel) rfl) ?_
  refine Eq.trans (rl_get (ix := 180) (ci := 9) (j := 10) (by decide +kernel) (by decide +kernel) (by decide +kernel) ck30) ?_
  refine Eq.trans (rl_icne (o := 5) 13 (by decide +kernel) (by decide)) ?_
  refine am_ite (fun h_1 => ?_) (fun h_1 => ?_)
  · skip
    refine Eq.trans (rl_iconst (c := 0) (k := (nI 0)) (by decide +kernel) (by decide)) ?_
    exact rl_zretk (by decide +kernel) rfl rfl
  · skip
    refine Eq.trans (rl_aloadn (j := 0) (by decide +kernel) rfl) ?_
    refine Eq.trans (rl_aloadn (j := 0) (by decide +kernel) rfl) ?_
    refine Eq.trans (rl_getP (ix := 29) (ci := 9) (j := 9) (by decide +kernel) (by decide +kernel) (by decide +kernel) ck30 rfl) ?_
    refine Eq.trans (rl_aloadn (j := 0) (by decide +kernel) rfl) ?_
    refine Eq.trans (rl_get (ix := 183) (ci := 9) (j := 11) (by decide +kernel) (by decide +kernel) (by decide +kernel) ck30) ?_
    refine Eq.trans (rl_cald (by decide +kernel) ka37) ?_
    refine am_ite (fun h_2 => ?_) (fun _ => rfl)
    refine Eq.trans (rl_putC (ix := 190) (ci := 9) (j := 12) (by decide +kernel) (by decide +kernel) (by decide +kernel) (by decide +kernel) ck30) ?_
    refine am_ite (fun h_3 => ?_) (fun _ => rfl)
    rfl
theorem b181_26  {M : am_M} {w : am_W4}  : am_rn call 181 26 [some (am_P (30, 0, 0))] [] M (am_Z w) = if (M (30, 0, 0) 12) = (nI 100) then am_cb (call 180 [am_P (30, 0, 0), am_I (nI 0)] (am_set M (30, 0, 0) 11 ((M (30, 0, 0) 11) + (nI 1))) (am_Z w)) fun v M' X' => am_rn call 181 203 [some (am_P (30, 0, 0))] (v.toList ++ []) M' X' else if (M (30, 0, 0) 12) = (nI 101) then am_cb (call 179 [am_P (30, 0, 0), am_I (nI 0)] (am_set M (30, 0, 0) 11 ((M (30, 0, 0) 11) + (nI 1))) (am_Z w)) fun v M' X' => am_rn call 181 277 [some (am_P (30, 0, 0))] (v.toList ++ []) M' X' else if (M (30, 0, 0) 12) = (nI 102) then some (.inl (some (am_I (nI 0))), M, (am_Z w)) else if (M (30, 0, 0) 12) = (nI 103) then some (.inl (some (am_I (nI 0))), M, (am_Z w)) else if (M (30, 0, 0) 12) = (nI 104) then am_cb (call 180 [am_P (30, 0, 0), am_I (nI 0)] (am_set M (30, 0, 0) 11 ((M (30, 0, 0) 11) + (nI 1))) (am_Z w)) fun v M' X' => am_rn call 181 203 [some (am_P (30, 0, 0))] (v.toList ++ []) M' X' else if (M (30, 0, 0) 12) = (nI 105) then some (.inl (some (am_I (nI 0))), M, (am_Z w)) else if (M (30, 0, 0) 12) = (nI 106) then some (.inl (some (am_I (nI 0))), M, (am_Z w)) else if (M (30, 0, 0) 12) = (nI 107) then some (.inl (some (am_I (nI 0))), M, (am_Z w)) else if (M (30, 0, 0) 12) = (nI 108) then some (.inl (some (am_I (nI 0))), M, (am_Z w)) else if (M (30, 0, 0) 12) = (nI 109) then some (.inl (some (am_I (nI 0))), M, (am_Z w)) else if (M (30, 0, 0) 12) = (nI 110) then some (.inl (some (am_I (nI 0))), M, (am_Z w)) else if (M (30, 0, 0) 12) = (nI 111) then some (.inl (some (am_I (nI 0))), M, (am_Z w)) else if (M (30, 0, 0) 12) = (nI 112) then some (.inl (some (am_I (nI 0))), M, (am_Z w)) else if (M (30, 0, 0) 12) = (nI 113) then am_cb (call 179 [am_P (30, 0, 0), am_I (nI 0)] (am_set M (30, 0, 0) 11 ((M (30, 0, 0) 11) + (nI 1))) (am_Z w)) fun v M' X' => am_rn call 181 219 [some (am_P (30, 0, 0))] (v.toList ++ []) M' X' else if (M (30, 0, 0) 12) = (nI 114) then some (.inl (some (am_I (nI 0))), M, (am_Z w)) else if (M (30, 0, 0) 12) = (nI 115) then am_cb (call 179 [am_P (30, 0, 0), am_I (nI 0)] (am_set M (30, 0, 0) 11 ((M (30, 0, 0) 11) + (nI 1))) (am_Z w)) fun v M' X' => am_rn call 181 139 [some (am_P (30, 0, 0))] (v.toList ++ []) M' X' else if (M (30, 0, 0) 12) = (nI 116) then some (.inl (some (am_I (nI 0))), M, (am_Z w)) else if (M (30, 0, 0) 12) = (nI 117) then some (.inl (some (am_I (nI 0))), M, (am_Z w)) else if (M (30, 0, 0) 12) = (nI 118) then some (.inl (some (am_I (nI 0))), M, (am_Z w)) else if (M (30, 0, 0) 12) = (nI 119) then am_cb (call 179 [am_P (30, 0, 0), am_I (nI 0)] (am_set M (30, 0, 0) 11 ((M (30, 0, 0) 11) + (nI 1))) (am_Z w)) fun v M' X' => am_rn call 181 277 [some (am_P (30, 0, 0))] (v.toList ++ []) M' X' else some (.inl (some (am_I (nI 0))), M, (am_Z w)) := by
  refine Eq.trans (rl_aloadn (j := 0) (by decide +kernel) rfl) ?_
  refine Eq.trans (rl_get (ix := 190) (ci := 9) (j := 12) (by decide +kernel) (by decide +kernel) (by decide +kernel) ck30) ?_
  refine Eq.trans (rl_ts (d := 273) (lo := 100) (hi := 119) (os := #[158, 232, 273, 273, 158, 273, 273, 273, 273, 273, 273, 273, 273, 174, 273, 94, 273, 273, 273, 232]) 303 [188, 262, 303, 303, 188, 303, 303, 303, 303, 303, 303, 303, 303, 204, 303, 124, 303, 303, 303, 262] (by decide +kernel) (by decide +kernel)) ?_
  refine Eq.trans (rl_sw (nI 100) (by decide)) ?_
  refine am_ite (fun _ => ?_) (fun _ => ?_)
  · skip
    refine Eq.trans (rl_aloadn (j := 0) (by decide +kernel) rfl) ?_
    refine Eq.trans (rl_dup (by decide +kernel) rfl) ?_
    refine Eq.trans (rl_get (ix := 183) (ci := 9) (j := 11) (by decide +kernel) (by decide +kernel) (by decide +kernel) ck30) ?_
    refine Eq.trans (rl_iconst (c := 1) (k := (nI 1)) (by decide +kernel) (by decide)) ?_
    refine Eq.trans (rl_iadd (by decide +kernel)) ?_
    refine Eq.trans (rl_put (ix := 183) (ci := 9) (j := 11) (by decide +kernel) (by decide +kernel) (by decide +kernel) (by decide +kernel) ck30) ?_
    refine Eq.trans (rl_aloadn (j := 0) (by decide +kernel) rfl) ?_
    refine Eq.trans (rl_iconst (c := 0) (k := (nI 0)) (by decide +kernel) (by decide)) ?_
    refine Eq.trans (rl_inv (ix := 201) (n := 1) (o := 9) 180 [am_I (nI 0)] [] (by decide +kernel) (by decide +kernel) (by decide +kernel) (by decide +kernel) ⟨rfl, rfl⟩ rfl rfl ck30) ?_
    rfl
  refine Eq.trans (rl_sw (nI 101) (by decide)) ?_
  refine am_ite (fun _ => ?_) (fun _ => ?_)
  · skip
    refine Eq.trans (rl_aloadn (j := 0) (by decide +kernel) rfl) ?_
    refine Eq.trans (rl_dup (by decide +kernel) rfl) ?_
    refine Eq.trans (rl_get (ix := 183) (ci := 9) (j := 11) (by decide +kernel) (by decide +kernel) (by decide +kernel) ck30) ?_
    refine Eq.trans (rl_iconst (c := 1) (k := (nI 1)) (by decide +kernel) (by decide)) ?_
    refine Eq.trans (rl_iadd (by decide +kernel)) ?_
    refine Eq.trans (rl_put (ix := 183) (ci := 9) (j := 11) (by decide +kernel) (by decide +kernel) (by decide +kernel) (by decide +kernel) ck30) ?_
    refine Eq.trans (rl_aloadn (j := 0) (by decide +kernel) rfl) ?_
    refine Eq.trans (rl_iconst (c := 0) (k := (nI 0)) (by decide +kernel) (by decide)) ?_
    refine Eq.trans (rl_inv (ix := 194) (n := 1) (o := 9) 179 [am_I (nI 0)] [] (by decide +kernel) (by decide +kernel) (by decide +kernel) (by decide +kernel) ⟨rfl, rfl⟩ rfl rfl ck30) ?_
    rfl
  refine Eq.trans (rl_sw (nI 102) (by decide)) ?_
  refine am_ite (fun _ => ?_) (fun _ => ?_)
  · skip
    refine Eq.trans (rl_iconst (c := 0) (k := (nI 0)) (by decide +kernel) (by decide)) ?_
    exact rl_zretk (by decide +kernel) rfl rfl
  refine Eq.trans (rl_sw (nI 103) (by decide)) ?_
  refine am_ite (fun _ => ?_) (fun _ => ?_)
  · skip
    refine Eq.trans (rl_iconst (c := 0) (k := (nI 0)) (by decide +kernel) (by decide)) ?_
    exact rl_zretk (by decide +kernel) rfl rfl
  refine Eq.trans (rl_sw (nI 104) (by decide)) ?_
  refine am_ite (fun _ => ?_) (fun _ => ?_)
  · skip
    refine Eq.trans (rl_aloadn (j := 0) (by decide +kernel) rfl) ?_
    refine Eq.trans (rl_dup (by decide +kernel) rfl) ?_
    refine Eq.trans (rl_get (ix := 183) (ci := 9) (j := 11) (by decide +kernel) (by decide +kernel) (by decide +kernel) ck30) ?_
    refine Eq.trans (rl_iconst (c := 1) (k := (nI 1)) (by decide +kernel) (by decide)) ?_
    refine Eq.trans (rl_iadd (by decide +kernel)) ?_
    refine Eq.trans (rl_put (ix := 183) (ci := 9) (j := 11) (by decide +kernel) (by decide +kernel) (by decide +kernel) (by decide +kernel) ck30) ?_
    refine Eq.trans (rl_aloadn (j := 0) (by decide +kernel) rfl) ?_
    refine Eq.trans (rl_iconst (c := 0) (k := (nI 0)) (by decide +kernel) (by decide)) ?_
    refine Eq.trans (rl_inv (ix := 201) (n := 1) (o := 9) 180 [am_I (nI 0)] [] (by decide +kernel) (by decide +kernel) (by decide +kernel) (by decide +kernel) ⟨rfl, rfl⟩ rfl rfl ck30) ?_
    rfl
  refine Eq.trans (rl_sw (nI 105) (by decide)) ?_
  refine am_ite (fun _ => ?_) (fun _ => ?_)
  · skip
    refine Eq.trans (rl_iconst (c := 0) (k := (nI 0)) (by decide +kernel) (by decide)) ?_
    exact rl_zretk (by decide +kernel) rfl rfl
  refine Eq.trans (rl_sw (nI 106) (by decide)) ?_
  refine am_ite (fun _ => ?_) (fun _ => ?_)
  · skip
    refine Eq.trans (rl_iconst (c := 0) (k := (nI 0)) (by decide +kernel) (by decide)) ?_
    exact rl_zretk (by decide +kernel) rfl rfl
  refine Eq.trans (rl_sw (nI 107) (by decide)) ?_
  refine am_ite (fun _ => ?_) (fun _ => ?_)
  · skip
    refine Eq.trans (rl_iconst (c := 0) (k := (nI 0)) (by decide +kernel) (by decide)) ?_
    exact rl_zretk (by decide +kernel) rfl rfl
  refine Eq.trans (rl_sw (nI 108) (by decide)) ?_
  refine am_ite (fun _ => ?_) (fun _ => ?_)
  · skip
    refine Eq.trans (rl_iconst (c := 0) (k := (nI 0)) (by decide +kernel) (by decide)) ?_
    exact rl_zretk (by decide +kernel) rfl rfl
  refine Eq.trans (rl_sw (nI 109) (by decide)) ?_
  refine am_ite (fun _ => ?_) (fun _ => ?_)
  · skip
    refine Eq.trans (rl_iconst (c := 0) (k := (nI 0)) (by decide +kernel) (by decide)) ?_
    exact rl_zretk (by decide +kernel) rfl rfl
  refine Eq.trans (rl_sw (nI 110) (by decide)) ?_
  refine am_ite (fun _ => ?_) (fun _ => ?_)
  · skip
    refine Eq.trans (rl_iconst (c := 0) (k := (nI 0)) (by decide +kernel) (by decide)) ?_
    exact rl_zretk (by decide +kernel) rfl rfl
  refine Eq.trans (rl_sw (nI 111) (by decide)) ?_
  refine am_ite (fun _ => ?_) (fun _ => ?_)
  · skip
    refine Eq.trans (rl_iconst (c := 0) (k := (nI 0)) (by decide +kernel) (by decide)) ?_
    exact rl_zretk (by decide +kernel) rfl rfl
  refine Eq.trans (rl_sw (nI 112) (by decide)) ?_
  refine am_ite (fun _ => ?_) (fun _ => ?_)
  · skip
    refine Eq.trans (rl_iconst (c := 0) (k := (nI 0)) (by decide +kernel) (by decide)) ?_
    exact rl_zretk (by decide +kernel) rfl rfl
  refine Eq.trans (rl_sw (nI 113) (by decide)) ?_
  refine am_ite (fun _ => ?_) (fun _ => ?_)
  · skip
    refine Eq.trans (rl_aloadn (j := 0) (by decide +kernel) rfl) ?_
    refine Eq.trans (rl_dup (by decide +kernel) rfl) ?_
    refine Eq.trans (rl_get (ix := 183) (ci := 9) (j := 11) (by decide +kernel) (by decide +kernel) (by decide +kernel) ck30) ?_
    refine Eq.trans (rl_iconst (c := 1) (k := (nI 1)) (by decide +kernel) (by decide)) ?_
    refine Eq.trans (rl_iadd (by decide +kernel)) ?_
    refine Eq.trans (rl_put (ix := 183) (ci := 9) (j := 11) (by decide +kernel) (by decide +kernel) (by decide +kernel) (by decide +kernel) ck30) ?_
    refine Eq.trans (rl_aloadn (j := 0) (by decide +kernel) rfl) ?_
    refine Eq.trans (rl_iconst (c := 0) (k := (nI 0)) (by decide +kernel) (by decide)) ?_
    refine Eq.trans (rl_inv (ix := 194) (n := 1) (o := 9) 179 [am_I (nI 0)] [] (by decide +kernel) (by decide +kernel) (by decide +kernel) (by decide +kernel) ⟨rfl, rfl⟩ rfl rfl ck30) ?_
    rfl
  refine Eq.trans (rl_sw (nI 114) (by decide)) ?_
  refine am_ite (fun _ => ?_) (fun _ => ?_)
  · skip
    refine Eq.trans (rl_iconst (c := 0) (k := (nI 0)) (by decide +kernel) (by decide)) ?_
    exact rl_zretk (by decide +kernel) rfl rfl
  refine Eq.trans (rl_sw (nI 115) (by decide)) ?_
  refine am_ite (fun _ => ?_) (fun _ => ?_)
  · skip
    refine Eq.trans (rl_aloadn (j := 0) (by decide +kernel) rfl) ?_
    refine Eq.trans (rl_dup (by decide +kernel) rfl) ?_
    refine Eq.trans (rl_get (ix := 183) (ci := 9) (j := 11) (by decide +kernel) (by decide +kernel) (by decide +kernel) ck30) ?_
    refine Eq.trans (rl_iconst (c := 1) (k := (nI 1)) (by decide +kernel) (by decide)) ?_
    refine Eq.trans (rl_iadd (by decide +kernel)) ?_
    refine Eq.trans (rl_put (ix := 183) (ci := 9) (j := 11) (by decide +kernel) (by decide +kernel) (by decide +kernel) (by decide +kernel) ck30) ?_
    refine Eq.trans (rl_aloadn (j := 0) (by decide +kernel) rfl) ?_
    refine Eq.trans (rl_iconst (c := 0) (k := (nI 0)) (by decide +kernel) (by decide)) ?_
    refine Eq.trans (rl_inv (ix := 194) (n := 1) (o := 9) 179 [am_I (nI 0)] [] (by decide +kernel) (by decide +kernel) (by decide +kernel) (by decide +kernel) ⟨rfl, rfl⟩ rfl rfl ck30) ?_
    rfl
  refine Eq.trans (rl_sw (nI 116) (by decide)) ?_
  refine am_ite (fun _ => ?_) (fun _ => ?_)
  · skip
    refine Eq.trans (rl_iconst (c := 0) (k := (nI 0)) (by decide +kernel) (by decide)) ?_
    exact rl_zretk (by decide +kernel) rfl rfl
  refine Eq.trans (rl_sw (nI 117) (by decide)) ?_
  refine am_ite (fun _ => ?_) (fun _ => ?_)
  · skip
    refine Eq.trans (rl_iconst (c := 0) (k := (nI 0)) (by decide +kernel) (by decide)) ?_
    exact rl_zretk (by decide +kernel) rfl rfl
  refine Eq.trans (rl_sw (nI 118) (by decide)) ?_
  refine am_ite (fun _ => ?_) (fun _ => ?_)
  · skip
    refine Eq.trans (rl_iconst (c := 0) (k := (nI 0)) (by decide +kernel) (by decide)) ?_
    exact rl_zretk (by decide +kernel) rfl rfl
  refine Eq.trans (rl_sw (nI 119) (by decide)) ?_
  refine am_ite (fun _ => ?_) (fun _ => ?_)
  · skip
    refine Eq.trans (rl_aloadn (j := 0) (by decide +kernel) rfl) ?_
    refine Eq.trans (rl_dup (by decide +kernel) rfl) ?_
    refine Eq.trans (rl_get (ix := 183) (ci := 9) (j := 11) (by decide +kernel) (by decide +kernel) (by decide +kernel) ck30) ?_
    refine Eq.trans (rl_iconst (c := 1) (k := (nI 1)) (by decide +kernel) (by decide)) ?_
    refine Eq.trans (rl_iadd (by decide +kernel)) ?_
    refine Eq.trans (rl_put (ix := 183) (ci := 9) (j := 11) (by decide +kernel) (by decide +kernel) (by decide +kernel) (by decide +kernel) ck30) ?_
    refine Eq.trans (rl_aloadn (j := 0) (by decide +kernel) rfl) ?_
    refine Eq.trans (rl_iconst (c := 0) (k := (nI 0)) (by decide +kernel) (by decide)) ?_
    refine Eq.trans (rl_inv (ix := 194) (n := 1) (o := 9) 179 [am_I (nI 0)] [] (by decide +kernel) (by decide +kernel) (by decide +kernel) (by decide +kernel) ⟨rfl, rfl⟩ rfl rfl ck30) ?_
    rfl
  show am_rn call 181 303 _ _ _ _ = _
  refine Eq.trans (rl_iconst (c := 0) (k := (nI 0)) (by decide +kernel) (by decide)) ?_
  exact rl_zretk (by decide +kernel) rfl rfl
theorem b181_139 {s0 : Int32} {M : am_M} {w : am_W4}  : am_rn call 181 139 [some (am_P (30, 0, 0))] [am_I s0] M (am_Z w) = if s0 = 0 then some (.inl (some (am_I (nI 0))), M, (am_Z w)) else am_cb (call 177 [am_P (30, 0, 0), am_I (nI 62)] M (am_Z w)) fun v M' X' => am_rn call 181 148 [some (am_P (30, 0, 0))] (v.toList ++ []) M' X' := by
  refine Eq.trans (rl_ifeq (o := 47) 186 (by decide +kernel) (by decide)) ?_
  refine am_ite (fun h_1 => ?_) (fun h_1 => ?_)
  · skip
    refine Eq.trans (rl_iconst (c := 0) (k := (nI 0)) (by decide +kernel) (by decide)) ?_
    exact rl_zretk (by decide +kernel) rfl rfl
  · skip
    refine Eq.trans (rl_aloadn (j := 0) (by decide +kernel) rfl) ?_
    refine Eq.trans (rl_bipush (c := 62) (k := (nI 62)) (by decide +kernel) (by decide)) ?_
    refine Eq.trans (rl_inv (ix := 197) (n := 1) (o := 9) 177 [am_I (nI 62)] [] (by decide +kernel) (by decide +kernel) (by decide +kernel) (by decide +kernel) ⟨rfl, rfl⟩ rfl rfl ck30) ?_
    rfl
theorem b181_148 {s0 : Int32} {M : am_M} {w : am_W4}  : am_rn call 181 148 [some (am_P (30, 0, 0))] [am_I s0] M (am_Z w) = if s0 = 0 then some (.inl (some (am_I (nI 0))), M, (am_Z w)) else am_cb (call 179 [am_P (30, 0, 0), am_I (nI 1)] M (am_Z w)) fun v M' X' => am_rn call 181 156 [some (am_P (30, 0, 0))] (v.toList ++ []) M' X' := by
  refine Eq.trans (rl_ifeq (o := 38) 186 (by decide +kernel) (by decide)) ?_
  refine am_ite (fun h_1 => ?_) (fun h_1 => ?_)
  · skip
    refine Eq.trans (rl_iconst (c := 0) (k := (nI 0)) (by decide +kernel) (by decide)) ?_
    exact rl_zretk (by decide +kernel) rfl rfl
  · skip
    refine Eq.trans (rl_aloadn (j := 0) (by decide +kernel) rfl) ?_
    refine Eq.trans (rl_iconst (c := 1) (k := (nI 1)) (by decide +kernel) (by decide)) ?_
    refine Eq.trans (rl_inv (ix := 194) (n := 1) (o := 9) 179 [am_I (nI 1)] [] (by decide +kernel) (by decide +kernel) (by decide +kernel) (by decide +kernel) ⟨rfl, rfl⟩ rfl rfl ck30) ?_
    rfl
theorem b181_156 {s0 : Int32} {M : am_M} {w : am_W4}  : am_rn call 181 156 [some (am_P (30, 0, 0))] [am_I s0] M (am_Z w) = if s0 = 0 then some (.inl (some (am_I (nI 0))), M, (am_Z w)) else am_cb (call 177 [am_P (30, 0, 0), am_I (nI 58)] M (am_Z w)) fun v M' X' => am_rn call 181 165 [some (am_P (30, 0, 0))] (v.toList ++ []) M' X' := by
  refine Eq.trans (rl_ifeq (o := 30) 186 (by decide +kernel) (by decide)) ?_
  refine am_ite (fun h_1 => ?_) (fun h_1 => ?_)
  · skip
    refine Eq.trans (rl_iconst (c := 0) (k := (nI 0)) (by decide +kernel) (by decide)) ?_
    exact rl_zretk (by decide +kernel) rfl rfl
  · skip
    refine Eq.trans (rl_aloadn (j := 0) (by decide +kernel) rfl) ?_
    refine Eq.trans (rl_bipush (c := 58) (k := (nI 58)) (by decide +kernel) (by decide)) ?_
    refine Eq.trans (rl_inv (ix := 197) (n := 1) (o := 9) 177 [am_I (nI 58)] [] (by decide +kernel) (by decide +kernel) (by decide +kernel) (by decide +kernel) ⟨rfl, rfl⟩ rfl rfl ck30) ?_
    rfl
theorem b181_165 {s0 : Int32} {M : am_M} {w : am_W4}  : am_rn call 181 165 [some (am_P (30, 0, 0))] [am_I s0] M (am_Z w) = if s0 = 0 then some (.inl (some (am_I (nI 0))), M, (am_Z w)) else am_cb (call 178 [am_P (30, 0, 0), am_I (nI 2), am_I (nI 8), am_I (nI 49), am_I (nI 56)] M (am_Z w)) fun v M' X' => am_rn call 181 179 [some (am_P (30, 0, 0))] (v.toList ++ []) M' X' := by
  refine Eq.trans (rl_ifeq (o := 21) 186 (by decide +kernel) (by decide)) ?_
  refine am_ite (fun h_1 => ?_) (fun h_1 => ?_)
  · skip
    refine Eq.trans (rl_iconst (c := 0) (k := (nI 0)) (by decide +kernel) (by decide)) ?_
    exact rl_zretk (by decide +kernel) rfl rfl
  · skip
    refine Eq.trans (rl_aloadn (j := 0) (by decide +kernel) rfl) ?_
    refine Eq.trans (rl_iconst (c := 2) (k := (nI 2)) (by decide +kernel) (by decide)) ?_
    refine Eq.trans (rl_bipush (c := 8) (k := (nI 8)) (by decide +kernel) (by decide)) ?_
    refine Eq.trans (rl_bipush (c := 49) (k := (nI 49)) (by decide +kernel) (by decide)) ?_
    refine Eq.trans (rl_bipush (c := 56) (k := (nI 56)) (by decide +kernel) (by decide)) ?_
    refine Eq.trans (rl_inv (ix := 186) (n := 4) (o := 9) 178 [am_I (nI 2), am_I (nI 8), am_I (nI 49), am_I (nI 56)] [] (by decide +kernel) (by decide +kernel) (by decide +kernel) (by decide +kernel) ⟨rfl, rfl⟩ rfl rfl ck30) ?_
    rfl
theorem b181_179 {s0 : Int32} {M : am_M} {w : am_W4}  : am_rn call 181 179 [some (am_P (30, 0, 0))] [am_I s0] M (am_Z w) = if s0 = 0 then some (.inl (some (am_I (nI 0))), M, (am_Z w)) else some (.inl (some (am_I (nI 1))), M, (am_Z w)) := by
  refine Eq.trans (rl_ifeq (o := 7) 186 (by decide +kernel) (by decide)) ?_
  refine am_ite (fun h_1 => ?_) (fun h_1 => ?_)
  · skip
    refine Eq.trans (rl_iconst (c := 0) (k := (nI 0)) (by decide +kernel) (by decide)) ?_
    exact rl_zretk (by decide +kernel) rfl rfl
  · skip
    refine Eq.trans (rl_iconst (c := 1) (k := (nI 1)) (by decide +kernel) (by decide)) ?_
    refine Eq.trans (rl_goto (o := 4) 187 (by decide +kernel) (by decide)) ?_
    exact rl_zretk (by decide +kernel) rfl rfl
theorem b181_203 {s0 : Int32} {M : am_M} {w : am_W4}  : am_rn call 181 203 [some (am_P (30, 0, 0))] [am_I s0] M (am_Z w) = if am_pc 1 s0 = true then some (.inl (some (am_I s0)), M, (am_Z w)) else none := by
  exact rl_zret (by decide +kernel) rfl
theorem b181_219 {s0 : Int32} {M : am_M} {w : am_W4}  : am_rn call 181 219 [some (am_P (30, 0, 0))] [am_I s0] M (am_Z w) = if s0 = 0 then some (.inl (some (am_I (nI 0))), M, (am_Z w)) else am_cb (call 177 [am_P (30, 0, 0), am_I (nI 58)] M (am_Z w)) fun v M' X' => am_rn call 181 228 [some (am_P (30, 0, 0))] (v.toList ++ []) M' X' := by
  refine Eq.trans (rl_ifeq (o := 41) 260 (by decide +kernel) (by decide)) ?_
  refine am_ite (fun h_1 => ?_) (fun h_1 => ?_)
  · skip
    refine Eq.trans (rl_iconst (c := 0) (k := (nI 0)) (by decide +kernel) (by decide)) ?_
    exact rl_zretk (by decide +kernel) rfl rfl
  · skip
    refine Eq.trans (rl_aloadn (j := 0) (by decide +kernel) rfl) ?_
    refine Eq.trans (rl_bipush (c := 58) (k := (nI 58)) (by decide +kernel) (by decide)) ?_
    refine Eq.trans (rl_inv (ix := 197) (n := 1) (o := 9) 177 [am_I (nI 58)] [] (by decide +kernel) (by decide +kernel) (by decide +kernel) (by decide +kernel) ⟨rfl, rfl⟩ rfl rfl ck30) ?_
    rfl
theorem b181_228 {s0 : Int32} {M : am_M} {w : am_W4}  : am_rn call 181 228 [some (am_P (30, 0, 0))] [am_I s0] M (am_Z w) = if s0 = 0 then some (.inl (some (am_I (nI 0))), M, (am_Z w)) else am_cb (call 180 [am_P (30, 0, 0), am_I (nI 1)] M (am_Z w)) fun v M' X' => am_rn call 181 236 [some (am_P (30, 0, 0))] (v.toList ++ []) M' X' := by
  refine Eq.trans (rl_ifeq (o := 32) 260 (by decide +kernel) (by decide)) ?_
  refine am_ite (fun h_1 => ?_) (fun h_1 => ?_)
  · skip
    refine Eq.trans (rl_iconst (c := 0) (k := (nI 0)) (by decide +kernel) (by decide)) ?_
    exact rl_zretk (by decide +kernel) rfl rfl
  · skip
    refine Eq.trans (rl_aloadn (j := 0) (by decide +kernel) rfl) ?_
    refine Eq.trans (rl_iconst (c := 1) (k := (nI 1)) (by decide +kernel) (by decide)) ?_
    refine Eq.trans (rl_inv (ix := 201) (n := 1) (o := 9) 180 [am_I (nI 1)] [] (by decide +kernel) (by decide +kernel) (by decide +kernel) (by decide +kernel) ⟨rfl, rfl⟩ rfl rfl ck30) ?_
    rfl
theorem b181_236 {s0 : Int32} {M : am_M} {w : am_W4}  : am_rn call 181 236 [some (am_P (30, 0, 0))] [am_I s0] M (am_Z w) = if s0 = 0 then some (.inl (some (am_I (nI 0))), M, (am_Z w)) else am_cb (call 177 [am_P (30, 0, 0), am_I (nI 45)] M (am_Z w)) fun v M' X' => am_rn call 181 245 [some (am_P (30, 0, 0))] (v.toList ++ []) M' X' := by
  refine Eq.trans (rl_ifeq (o := 24) 260 (by decide +kernel) (by decide)) ?_
  refine am_ite (fun h_1 => ?_) (fun h_1 => ?_)
  · skip
    refine Eq.trans (rl_iconst (c := 0) (k := (nI 0)) (by decide +kernel) (by decide)) ?_
    exact rl_zretk (by decide +kernel) rfl rfl
  · skip
    refine Eq.trans (rl_aloadn (j := 0) (by decide +kernel) rfl) ?_
    refine Eq.trans (rl_bipush (c := 45) (k := (nI 45)) (by decide +kernel) (by decide)) ?_
    refine Eq.trans (rl_inv (ix := 197) (n := 1) (o := 9) 177 [am_I (nI 45)] [] (by decide +kernel) (by decide +kernel) (by decide +kernel) (by decide +kernel) ⟨rfl, rfl⟩ rfl rfl ck30) ?_
    rfl
theorem b181_245 {s0 : Int32} {M : am_M} {w : am_W4}  : am_rn call 181 245 [some (am_P (30, 0, 0))] [am_I s0] M (am_Z w) = if s0 = 0 then some (.inl (some (am_I (nI 0))), M, (am_Z w)) else am_cb (call 180 [am_P (30, 0, 0), am_I (nI 2)] M (am_Z w)) fun v M' X' => am_rn call 181 253 [some (am_P (30, 0, 0))] (v.toList ++ []) M' X' := by
  refine Eq.trans (rl_ifeq (o := 15) 260 (by decide +kernel) (by decide)) ?_
  refine am_ite (fun h_1 => ?_) (fun h_1 => ?_)
  · skip
    refine Eq.trans (rl_iconst (c := 0) (k := (nI 0)) (by decide +kernel) (by decide)) ?_
    exact rl_zretk (by decide +kernel) rfl rfl
  · skip
    refine Eq.trans (rl_aloadn (j := 0) (by decide +kernel) rfl) ?_
    refine Eq.trans (rl_iconst (c := 2) (k := (nI 2)) (by decide +kernel) (by decide)) ?_
    refine Eq.trans (rl_inv (ix := 201) (n := 1) (o := 9) 180 [am_I (nI 2)] [] (by decide +kernel) (by decide +kernel) (by decide +kernel) (by decide +kernel) ⟨rfl, rfl⟩ rfl rfl ck30) ?_
    rfl
theorem b181_253 {s0 : Int32} {M : am_M} {w : am_W4}  : am_rn call 181 253 [some (am_P (30, 0, 0))] [am_I s0] M (am_Z w) = if s0 = 0 then some (.inl (some (am_I (nI 0))), M, (am_Z w)) else some (.inl (some (am_I (nI 1))), M, (am_Z w)) := by
  refine Eq.trans (rl_ifeq (o := 7) 260 (by decide +kernel) (by decide)) ?_
  refine am_ite (fun h_1 => ?_) (fun h_1 => ?_)
  · skip
    refine Eq.trans (rl_iconst (c := 0) (k := (nI 0)) (by decide +kernel) (by decide)) ?_
    exact rl_zretk (by decide +kernel) rfl rfl
  · skip
    refine Eq.trans (rl_iconst (c := 1) (k := (nI 1)) (by decide +kernel) (by decide)) ?_
    refine Eq.trans (rl_goto (o := 4) 261 (by decide +kernel) (by decide)) ?_
    exact rl_zretk (by decide +kernel) rfl rfl
theorem b181_277 {s0 : Int32} {M : am_M} {w : am_W4}  : am_rn call 181 277 [some (am_P (30, 0, 0))] [am_I s0] M (am_Z w) = if s0 = 0 then some (.inl (some (am_I (nI 0))), M, (am_Z w)) else am_cb (call 177 [am_P (30, 0, 0), am_I (nI 61)] M (am_Z w)) fun v M' X' => am_rn call 181 286 [some (am_P (30, 0, 0))] (v.toList ++ []) M' X' := by
  refine Eq.trans (rl_ifeq (o := 24) 301 (by decide +kernel) (by decide)) ?_
  refine am_ite (fun h_1 => ?_) (fun h_1 => ?_)
  · skip
    refine Eq.trans (rl_iconst (c := 0) (k := (nI 0)) (by decide +kernel) (by decide)) ?_
    exact rl_zretk (by decide +kernel) rfl rfl
  · skip
    refine Eq.trans (rl_aloadn (j := 0) (by decide +kernel) rfl) ?_
    refine Eq.trans (rl_bipush (c := 61) (k := (nI 61)) (by decide +kernel) (by decide)) ?_
    refine Eq.trans (rl_inv (ix := 197) (n := 1) (o := 9) 177 [am_I (nI 61)] [] (by decide +kernel) (by decide +kernel) (by decide +kernel) (by decide +kernel) ⟨rfl, rfl⟩ rfl rfl ck30) ?_
    rfl
theorem b181_286 {s0 : Int32} {M : am_M} {w : am_W4}  : am_rn call 181 286 [some (am_P (30, 0, 0))] [am_I s0] M (am_Z w) = if s0 = 0 then some (.inl (some (am_I (nI 0))), M, (am_Z w)) else am_cb (call 179 [am_P (30, 0, 0), am_I (nI 1)] M (am_Z w)) fun v M' X' => am_rn call 181 294 [some (am_P (30, 0, 0))] (v.toList ++ []) M' X' := by
  refine Eq.trans (rl_ifeq (o := 15) 301 (by decide +kernel) (by decide)) ?_
  refine am_ite (fun h_1 => ?_) (fun h_1 => ?_)
  · skip
    refine Eq.trans (rl_iconst (c := 0) (k := (nI 0)) (by decide +kernel) (by decide)) ?_
    exact rl_zretk (by decide +kernel) rfl rfl
  · skip
    refine Eq.trans (rl_aloadn (j := 0) (by decide +kernel) rfl) ?_
    refine Eq.trans (rl_iconst (c := 1) (k := (nI 1)) (by decide +kernel) (by decide)) ?_
    refine Eq.trans (rl_inv (ix := 194) (n := 1) (o := 9) 179 [am_I (nI 1)] [] (by decide +kernel) (by decide +kernel) (by decide +kernel) (by decide +kernel) ⟨rfl, rfl⟩ rfl rfl ck30) ?_
    rfl
theorem b181_294 {s0 : Int32} {M : am_M} {w : am_W4}  : am_rn call 181 294 [some (am_P (30, 0, 0))] [am_I s0] M (am_Z w) = if s0 = 0 then some (.inl (some (am_I (nI 0))), M, (am_Z w)) else some (.inl (some (am_I (nI 1))), M, (am_Z w)) := by
  refine Eq.trans (rl_ifeq (o := 7) 301 (by decide +kernel) (by decide)) ?_
  refine am_ite (fun h_1 => ?_) (fun h_1 => ?_)
  · skip
    refine Eq.trans (rl_iconst (c := 0) (k := (nI 0)) (by decide +kernel) (by decide)) ?_
    exact rl_zretk (by decide +kernel) rfl rfl
  · skip
    refine Eq.trans (rl_iconst (c := 1) (k := (nI 1)) (by decide +kernel) (by decide)) ?_
    refine Eq.trans (rl_goto (o := 4) 302 (by decide +kernel) (by decide)) ?_
    exact rl_zretk (by decide +kernel) rfl rfl
theorem e181 {d : Nat}  {M : am_M} {w : am_W4}  : am_ev (d + 1) 181 [am_P (30, 0, 0)] M (am_Z w) = if (M (30, 0, 0) 11) = (M (30, 0, 0) 10) then some (.inl (some (am_I (nI 0))), M, (am_Z w)) else if am_in (M (30, 0, 0) 11) 60 then if am_pc 2 (M (37, 0, 0) (M (30, 0, 0) 11).toNatClampNeg) = true then am_rn (am_ev d) 181 26 [some (am_P (30, 0, 0))] [] (am_set M (30, 0, 0) 12 (M (37, 0, 0) (M (30, 0, 0) 11).toNatClampNeg)) (am_Z w) else none else none := (am_ev_eq d 181 _ M (am_Z w)).trans (b181_0)
theorem b182_0  {M : am_M} {w : am_W4}  : am_rn call 182 0 [some (am_P (30, 0, 0))] [] M (am_Z w) = if (M (30, 0, 0) 12) = (nI 100) then am_cb (call 142 [am_P (30, 0, 0), am_I (M (38, 0, 0) 0)] M (am_Z w)) fun v M' X' => am_rn call 182 100 [some (am_P (30, 0, 0))] (v.toList ++ []) M' X' else if (M (30, 0, 0) 12) = (nI 104) then am_cb (call 154 [am_P (30, 0, 0), am_I (M (38, 0, 0) 0)] M (am_Z w)) fun v M' X' => am_rn call 182 89 [some (am_P (30, 0, 0))] (v.toList ++ []) M' X' else if (M (30, 0, 0) 12) = (nI 113) then am_cb (call 134 [am_P (30, 0, 0), am_I (M (38, 0, 0) 0), am_I (M (38, 0, 0) 1), am_I (M (38, 0, 0) 2)] M (am_Z w)) fun v M' X' => am_rn call 182 123 [some (am_P (30, 0, 0))] (v.toList ++ []) M' X' else if (M (30, 0, 0) 12) = (nI 115) then am_cb (call 140 [am_P (30, 0, 0), am_I (M (38, 0, 0) 0), am_I (M (38, 0, 0) 1), am_I (M (38, 0, 0) 2)] M (am_Z w)) fun v M' X' => am_rn call 182 78 [some (am_P (30, 0, 0))] (v.toList ++ []) M' X' else if (M (30, 0, 0) 12) = (nI 119) then am_cb (call 136 [am_P (30, 0, 0), am_I (M (38, 0, 0) 0), am_I (M (38, 0, 0) 1)] M (am_Z w)) fun v M' X' => am_rn call 182 140 [some (am_P (30, 0, 0))] (v.toList ++ []) M' X' else am_cb (call 138 [am_P (30, 0, 0), am_I (M (38, 0, 0) 0), am_I (M (38, 0, 0) 1)] M (am_Z w)) fun v M' X' => am_rn call 182 157 [some (am_P (30, 0, 0))] (v.toList ++ []) M' X' := by
  refine Eq.trans (rl_aloadn (j := 0) (by decide +kernel) rfl) ?_
  refine Eq.trans (rl_get (ix := 190) (ci := 9) (j := 12) (by decide +kernel) (by decide +kernel) (by decide +kernel) ck30) ?_
  refine Eq.trans (rl_ls (d := 137) (ps := #[(100, 86), (104, 75), (113, 97), (115, 52), (119, 120)]) 141 [(100, 90), (104, 79), (113, 101), (115, 56), (119, 124)] (by decide +kernel) (by decide +kernel) (by decide) (by decide +kernel)) ?_
  refine Eq.trans (rl_lk (nI 100) (by decide)) ?_
  refine am_ite (fun _ => ?_) (fun _ => ?_)
  · skip
    refine Eq.trans (rl_aloadn (j := 0) (by decide +kernel) rfl) ?_
    refine Eq.trans (rl_aloadn (j := 0) (by decide +kernel) rfl) ?_
    refine Eq.trans (rl_getP (ix := 32) (ci := 9) (j := 13) (by decide +kernel) (by decide +kernel) (by decide +kernel) ck30 rfl) ?_
    refine Eq.trans (rl_iconst (c := 0) (k := (nI 0)) (by decide +kernel) (by decide)) ?_
    refine Eq.trans (rl_iald' 0 (by decide +kernel) ka38 rfl rfl) ?_
    refine Eq.trans (rl_inv (ix := 122) (n := 1) (o := 9) 142 [am_I (M (38, 0, 0) 0)] [] (by decide +kernel) (by decide +kernel) (by decide +kernel) (by decide +kernel) ⟨rfl, rfl⟩ rfl rfl ck30) ?_
    rfl
  refine Eq.trans (rl_lk (nI 104) (by decide)) ?_
  refine am_ite (fun _ => ?_) (fun _ => ?_)
  · skip
    refine Eq.trans (rl_aloadn (j := 0) (by decide +kernel) rfl) ?_
    refine Eq.trans (rl_aloadn (j := 0) (by decide +kernel) rfl) ?_
    refine Eq.trans (rl_getP (ix := 32) (ci := 9) (j := 13) (by decide +kernel) (by decide +kernel) (by decide +kernel) ck30 rfl) ?_
    refine Eq.trans (rl_iconst (c := 0) (k := (nI 0)) (by decide +kernel) (by decide)) ?_
    refine Eq.trans (rl_iald' 0 (by decide +kernel) ka38 rfl rfl) ?_
    refine Eq.trans (rl_inv (ix := 159) (n := 1) (o := 9) 154 [am_I (M (38, 0, 0) 0)] [] (by decide +kernel) (by decide +kernel) (by decide +kernel) (by decide +kernel) ⟨rfl, rfl⟩ rfl rfl ck30) ?_
    rfl
  refine Eq.trans (rl_lk (nI 113) (by decide)) ?_
  refine am_ite (fun _ => ?_) (fun _ => ?_)
  · skip
    refine Eq.trans (rl_aloadn (j := 0) (by decide +kernel) rfl) ?_
    refine Eq.trans (rl_aloadn (j := 0) (by decide +kernel) rfl) ?_
    refine Eq.trans (rl_getP (ix := 32) (ci := 9) (j := 13) (by decide +kernel) (by decide +kernel) (by decide +kernel) ck30 rfl) ?_
    refine Eq.trans (rl_iconst (c := 0) (k := (nI 0)) (by decide +kernel) (by decide)) ?_
    refine Eq.trans (rl_iald' 0 (by decide +kernel) ka38 rfl rfl) ?_
    refine Eq.trans (rl_aloadn (j := 0) (by decide +kernel) rfl) ?_
    refine Eq.trans (rl_getP (ix := 32) (ci := 9) (j := 13) (by decide +kernel) (by decide +kernel) (by decide +kernel) ck30 rfl) ?_
    refine Eq.trans (rl_iconst (c := 1) (k := (nI 1)) (by decide +kernel) (by decide)) ?_
    refine Eq.trans (rl_iald' 1 (by decide +kernel) ka38 rfl rfl) ?_
    refine Eq.trans (rl_aloadn (j := 0) (by decide +kernel) rfl) ?_
    refine Eq.trans (rl_getP (ix := 32) (ci := 9) (j := 13) (by decide +kernel) (by decide +kernel) (by decide +kernel) ck30 rfl) ?_
    refine Eq.trans (rl_iconst (c := 2) (k := (nI 2)) (by decide +kernel) (by decide)) ?_
    refine Eq.trans (rl_iald' 2 (by decide +kernel) ka38 rfl rfl) ?_
    refine Eq.trans (rl_inv (ix := 89) (n := 3) (o := 9) 134 [am_I (M (38, 0, 0) 0), am_I (M (38, 0, 0) 1), am_I (M (38, 0, 0) 2)] [] (by decide +kernel) (by decide +kernel) (by decide +kernel) (by decide +kernel) ⟨rfl, rfl⟩ rfl rfl ck30) ?_
    rfl
  refine Eq.trans (rl_lk (nI 115) (by decide)) ?_
  refine am_ite (fun _ => ?_) (fun _ => ?_)
  · skip
    refine Eq.trans (rl_aloadn (j := 0) (by decide +kernel) rfl) ?_
    refine Eq.trans (rl_aloadn (j := 0) (by decide +kernel) rfl) ?_
    refine Eq.trans (rl_getP (ix := 32) (ci := 9) (j := 13) (by decide +kernel) (by decide +kernel) (by decide +kernel) ck30 rfl) ?_
    refine Eq.trans (rl_iconst (c := 0) (k := (nI 0)) (by decide +kernel) (by decide)) ?_
    refine Eq.trans (rl_iald' 0 (by decide +kernel) ka38 rfl rfl) ?_
    refine Eq.trans (rl_aloadn (j := 0) (by decide +kernel) rfl) ?_
    refine Eq.trans (rl_getP (ix := 32) (ci := 9) (j := 13) (by decide +kernel) (by decide +kernel) (by decide +kernel) ck30 rfl) ?_
    refine Eq.trans (rl_iconst (c := 1) (k := (nI 1)) (by decide +kernel) (by decide)) ?_
    refine Eq.trans (rl_iald' 1 (by decide +kernel) ka38 rfl rfl) ?_
    refine Eq.trans (rl_aloadn (j := 0) (by decide +kernel) rfl) ?_
    refine Eq.trans (rl_getP (ix := 32) (ci := 9) (j := 13) (by decide +kernel) (by decide +kernel) (by decide +kernel) ck30 rfl) ?_
    refine Eq.trans (rl_iconst (c := 2) (k := (nI 2)) (by decide +kernel) (by decide)) ?_
    refine Eq.trans (rl_iald' 2 (by decide +kernel) ka38 rfl rfl) ?_
    refine Eq.trans (rl_inv (ix := 113) (n := 3) (o := 9) 140 [am_I (M (38, 0, 0) 0), am_I (M (38, 0, 0) 1), am_I (M (38, 0, 0) 2)] [] (by decide +kernel) (by decide +kernel) (by decide +kernel) (by decide +kernel) ⟨rfl, rfl⟩ rfl rfl ck30) ?_
    rfl
  refine Eq.trans (rl_lk (nI 119) (by decide)) ?_
  refine am_ite (fun _ => ?_) (fun _ => ?_)
  · skip
    refine Eq.trans (rl_aloadn (j := 0) (by decide +kernel) rfl) ?_
    refine Eq.trans (rl_aloadn (j := 0) (by decide +kernel) rfl) ?_
    refine Eq.trans (rl_getP (ix := 32) (ci := 9) (j := 13) (by decide +kernel) (by decide +kernel) (by decide +kernel) ck30 rfl) ?_
    refine Eq.trans (rl_iconst (c := 0) (k := (nI 0)) (by decide +kernel) (by decide)) ?_
    refine Eq.trans (rl_iald' 0 (by decide +kernel) ka38 rfl rfl) ?_
    refine Eq.trans (rl_aloadn (j := 0) (by decide +kernel) rfl) ?_
    refine Eq.trans (rl_getP (ix := 32) (ci := 9) (j := 13) (by decide +kernel) (by decide +kernel) (by decide +kernel) ck30 rfl) ?_
    refine Eq.trans (rl_iconst (c := 1) (k := (nI 1)) (by decide +kernel) (by decide)) ?_
    refine Eq.trans (rl_iald' 1 (by decide +kernel) ka38 rfl rfl) ?_
    refine Eq.trans (rl_inv (ix := 98) (n := 2) (o := 9) 136 [am_I (M (38, 0, 0) 0), am_I (M (38, 0, 0) 1)] [] (by decide +kernel) (by decide +kernel) (by decide +kernel) (by decide +kernel) ⟨rfl, rfl⟩ rfl rfl ck30) ?_
    rfl
  show am_rn call 182 141 _ _ _ _ = _
  refine Eq.trans (rl_aloadn (j := 0) (by decide +kernel) rfl) ?_
  refine Eq.trans (rl_aloadn (j := 0) (by decide +kernel) rfl) ?_
  refine Eq.trans (rl_getP (ix := 32) (ci := 9) (j := 13) (by decide +kernel) (by decide +kernel) (by decide +kernel) ck30 rfl) ?_
  refine Eq.trans (rl_iconst (c := 0) (k := (nI 0)) (by decide +kernel) (by decide)) ?_
  refine Eq.trans (rl_iald' 0 (by decide +kernel) ka38 rfl rfl) ?_
  refine Eq.trans (rl_aloadn (j := 0) (by decide +kernel) rfl) ?_
  refine Eq.trans (rl_getP (ix := 32) (ci := 9) (j := 13) (by decide +kernel) (by decide +kernel) (by decide +kernel) ck30 rfl) ?_
  refine Eq.trans (rl_iconst (c := 1) (k := (nI 1)) (by decide +kernel) (by decide)) ?_
  refine Eq.trans (rl_iald' 1 (by decide +kernel) ka38 rfl rfl) ?_
  refine Eq.trans (rl_inv (ix := 105) (n := 2) (o := 9) 138 [am_I (M (38, 0, 0) 0), am_I (M (38, 0, 0) 1)] [] (by decide +kernel) (by decide +kernel) (by decide +kernel) (by decide +kernel) ⟨rfl, rfl⟩ rfl rfl ck30) ?_
  rfl
theorem b182_78 {s0 : Int32} {M : am_M} {w : am_W4}  : am_rn call 182 78 [some (am_P (30, 0, 0))] [am_I s0] M (am_Z w) = if am_pc 1 s0 = true then some (.inl (some (am_I s0)), M, (am_Z w)) else none := by
  exact rl_zret (by decide +kernel) rfl
theorem b182_89 {s0 : Int32} {M : am_M} {w : am_W4}  : am_rn call 182 89 [some (am_P (30, 0, 0))] [am_I s0] M (am_Z w) = if am_pc 1 s0 = true then some (.inl (some (am_I s0)), M, (am_Z w)) else none := by
  exact rl_zret (by decide +kernel) rfl
theorem b182_100 {s0 : Int32} {M : am_M} {w : am_W4}  : am_rn call 182 100 [some (am_P (30, 0, 0))] [am_I s0] M (am_Z w) = if am_pc 1 s0 = true then some (.inl (some (am_I s0)), M, (am_Z w)) else none := by
  exact rl_zret (by decide +kernel) rfl
theorem b182_123 {s0 : Int32} {M : am_M} {w : am_W4}  : am_rn call 182 123 [some (am_P (30, 0, 0))] [am_I s0] M (am_Z w) = if am_pc 1 s0 = true then some (.inl (some (am_I s0)), M, (am_Z w)) else none := by
  exact rl_zret (by decide +kernel) rfl
theorem b182_140 {s0 : Int32} {M : am_M} {w : am_W4}  : am_rn call 182 140 [some (am_P (30, 0, 0))] [am_I s0] M (am_Z w) = if am_pc 1 s0 = true then some (.inl (some (am_I s0)), M, (am_Z w)) else none := by
  exact rl_zret (by decide +kernel) rfl
theorem b182_157 {s0 : Int32} {M : am_M} {w : am_W4}  : am_rn call 182 157 [some (am_P (30, 0, 0))] [am_I s0] M (am_Z w) = if am_pc 1 s0 = true then some (.inl (some (am_I s0)), M, (am_Z w)) else none := by
  exact rl_zret (by decide +kernel) rfl
theorem e182 {d : Nat}  {M : am_M} {w : am_W4}  : am_ev (d + 1) 182 [am_P (30, 0, 0)] M (am_Z w) = if (M (30, 0, 0) 12) = (nI 100) then am_cb ((am_ev d) 142 [am_P (30, 0, 0), am_I (M (38, 0, 0) 0)] M (am_Z w)) fun v M' X' => am_rn (am_ev d) 182 100 [some (am_P (30, 0, 0))] (v.toList ++ []) M' X' else if (M (30, 0, 0) 12) = (nI 104) then am_cb ((am_ev d) 154 [am_P (30, 0, 0), am_I (M (38, 0, 0) 0)] M (am_Z w)) fun v M' X' => am_rn (am_ev d) 182 89 [some (am_P (30, 0, 0))] (v.toList ++ []) M' X' else if (M (30, 0, 0) 12) = (nI 113) then am_cb ((am_ev d) 134 [am_P (30, 0, 0), am_I (M (38, 0, 0) 0), am_I (M (38, 0, 0) 1), am_I (M (38, 0, 0) 2)] M (am_Z w)) fun v M' X' => am_rn (am_ev d) 182 123 [some (am_P (30, 0, 0))] (v.toList ++ []) M' X' else if (M (30, 0, 0) 12) = (nI 115) then am_cb ((am_ev d) 140 [am_P (30, 0, 0), am_I (M (38, 0, 0) 0), am_I (M (38, 0, 0) 1), am_I (M (38, 0, 0) 2)] M (am_Z w)) fun v M' X' => am_rn (am_ev d) 182 78 [some (am_P (30, 0, 0))] (v.toList ++ []) M' X' else if (M (30, 0, 0) 12) = (nI 119) then am_cb ((am_ev d) 136 [am_P (30, 0, 0), am_I (M (38, 0, 0) 0), am_I (M (38, 0, 0) 1)] M (am_Z w)) fun v M' X' => am_rn (am_ev d) 182 140 [some (am_P (30, 0, 0))] (v.toList ++ []) M' X' else am_cb ((am_ev d) 138 [am_P (30, 0, 0), am_I (M (38, 0, 0) 0), am_I (M (38, 0, 0) 1)] M (am_Z w)) fun v M' X' => am_rn (am_ev d) 182 157 [some (am_P (30, 0, 0))] (v.toList ++ []) M' X' := (am_ev_eq d 182 _ M (am_Z w)).trans (b182_0)
theorem b183_0  {M : am_M} {w : am_W4}  : am_rn call 183 0 [some (am_P (30, 0, 0)), none, none, none] [] M (am_Z w) = am_cb (call 117 [am_P (30, 0, 0)] M (am_Z w)) fun v M' X' => am_rn call 183 4 [some (am_P (30, 0, 0)), none, none, none] (v.toList ++ []) M' X' := by
  refine Eq.trans (rl_aloadn (j := 0) (by decide +kernel) rfl) ?_
  refine Eq.trans (rl_inv (ix := 71) (n := 0) (o := 9) 117 [] [] (by decide +kernel) (by decide +kernel) (by decide +kernel) (by decide +kernel) ⟨rfl, rfl⟩ rfl rfl ck30) ?_
  rfl
theorem b183_4  {M : am_M} {w : am_W4}  : am_rn call 183 4 [some (am_P (30, 0, 0)), none, none, none] [] M (am_Z w) = am_cb (call 181 [am_P (30, 0, 0)] (am_set M (30, 0, 0) 11 (nI 0)) (am_Z w)) fun v M' X' => am_rn call 183 13 [some (am_P (30, 0, 0)), none, none, none] (v.toList ++ []) M' X' := by
  refine Eq.trans (rl_aloadn (j := 0) (by decide +kernel) rfl) ?_
  refine Eq.trans (rl_iconst (c := 0) (k := (nI 0)) (by decide +kernel) (by decide)) ?_
  refine Eq.trans (rl_put (ix := 183) (ci := 9) (j := 11) (by decide +kernel) (by decide +kernel) (by decide +kernel) (by decide +kernel) ck30) ?_
  refine Eq.trans (rl_aloadn (j := 0) (by decide +kernel) rfl) ?_
  refine Eq.trans (rl_inv (ix := 204) (n := 0) (o := 9) 181 [] [] (by decide +kernel) (by decide +kernel) (by decide +kernel) (by decide +kernel) ⟨rfl, rfl⟩ rfl rfl ck30) ?_
  rfl
theorem b183_13 {s0 : Int32} {M : am_M} {w : am_W4}  : am_rn call 183 13 [some (am_P (30, 0, 0)), none, none, none] [am_I s0] M (am_Z w) = am_rn call 183 14 [some (am_P (30, 0, 0)), some (am_I s0), none, none] [] M (am_Z w) := by
  refine Eq.trans (rl_istoren (j := 1) (ls' := [some (am_P (30, 0, 0)), some (am_I s0), none, none]) (by decide +kernel) rfl rfl) ?_
  rfl
theorem b183_14 {x1 : Int32} {M : am_M} {w : am_W4}  : am_rn call 183 14 [some (am_P (30, 0, 0)), some (am_I x1), none, none] [] M (am_Z w) = if x1 = 0 then am_rn call 183 54 [some (am_P (30, 0, 0)), some (am_I x1), none, none] [] M (am_Z w) else if (M (30, 0, 0) 11) < (M (30, 0, 0) 10) then am_cb (call 177 [am_P (30, 0, 0), am_I (nI 59)] M (am_Z w)) fun v M' X' => am_rn call 183 35 [some (am_P (30, 0, 0)), some (am_I x1), none, none] (v.toList ++ []) M' X' else am_rn call 183 54 [some (am_P (30, 0, 0)), some (am_I x1), none, none] [] M (am_Z w) := by
  refine Eq.trans (rl_iloadn (j := 1) (by decide +kernel) rfl) ?_
  refine Eq.trans (rl_ifeq (o := 39) 54 (by decide +kernel) (by decide)) ?_
  refine am_ite (fun h_1 => ?_) (fun h_1 => ?_)
  · skip
    rfl
  · skip
    refine Eq.trans (rl_aloadn (j := 0) (by decide +kernel) rfl) ?_
    refine Eq.trans (rl_get (ix := 183) (ci := 9) (j := 11) (by decide +kernel) (by decide +kernel) (by decide +kernel) ck30) ?_
    refine Eq.trans (rl_aloadn (j := 0) (by decide +kernel) rfl) ?_
    refine Eq.trans (rl_get (ix := 180) (ci := 9) (j := 10) (by decide +kernel) (by decide +kernel) (by decide +kernel) ck30) ?_
    refine Eq.trans (rl_icge (o := 28) 54 (by decide +kernel) (by decide)) ?_
    refine am_ite (fun h_2 => ?_) (fun h_2 => ?_)
    · skip
      refine Eq.trans (rl_aloadn (j := 0) (by decide +kernel) rfl) ?_
      refine Eq.trans (rl_bipush (c := 59) (k := (nI 59)) (by decide +kernel) (by decide)) ?_
      refine Eq.trans (rl_inv (ix := 197) (n := 1) (o := 9) 177 [am_I (nI 59)] [] (by decide +kernel) (by decide +kernel) (by decide +kernel) (by decide +kernel) ⟨rfl, rfl⟩ rfl rfl ck30) ?_
      rfl
    · skip
      rfl
theorem b183_35 {x1 s0 : Int32} {M : am_M} {w : am_W4}  : am_rn call 183 35 [some (am_P (30, 0, 0)), some (am_I x1), none, none] [am_I s0] M (am_Z w) = if s0 = 0 then am_rn call 183 49 [some (am_P (30, 0, 0)), some (am_I x1), none, none] [] M (am_Z w) else am_cb (call 181 [am_P (30, 0, 0)] M (am_Z w)) fun v M' X' => am_rn call 183 42 [some (am_P (30, 0, 0)), some (am_I x1), none, none] (v.toList ++ []) M' X' := by
  refine Eq.trans (rl_ifeq (o := 14) 49 (by decide +kernel) (by decide)) ?_
  refine am_ite (fun h_1 => ?_) (fun h_1 => ?_)
  · skip
    rfl
  · skip
    refine Eq.trans (rl_aloadn (j := 0) (by decide +kernel) rfl) ?_
    refine Eq.trans (rl_inv (ix := 204) (n := 0) (o := 9) 181 [] [] (by decide +kernel) (by decide +kernel) (by decide +kernel) (by decide +kernel) ⟨rfl, rfl⟩ rfl rfl ck30) ?_
    rfl
theorem b183_42 {x1 s0 : Int32} {M : am_M} {w : am_W4}  : am_rn call 183 42 [some (am_P (30, 0, 0)), some (am_I x1), none, none] [am_I s0] M (am_Z w) = if s0 = 0 then am_rn call 183 49 [some (am_P (30, 0, 0)), some (am_I x1), none, none] [] M (am_Z w) else am_rn call 183 50 [some (am_P (30, 0, 0)), some (am_I x1), none, none] [am_I (nI 1)] M (am_Z w) := by
  refine Eq.trans (rl_ifeq (o := 7) 49 (by decide +kernel) (by decide)) ?_
  refine am_ite (fun h_1 => ?_) (fun h_1 => ?_)
  · skip
    rfl
  · skip
    refine Eq.trans (rl_iconst (c := 1) (k := (nI 1)) (by decide +kernel) (by decide)) ?_
    refine Eq.trans (rl_goto (o := 4) 50 (by decide +kernel) (by decide)) ?_
    rfl
theorem b183_49 {x1 : Int32} {M : am_M} {w : am_W4}  : am_rn call 183 49 [some (am_P (30, 0, 0)), some (am_I x1), none, none] [] M (am_Z w) = am_rn call 183 50 [some (am_P (30, 0, 0)), some (am_I x1), none, none] [am_I (nI 0)] M (am_Z w) := by
  refine Eq.trans (rl_iconst (c := 0) (k := (nI 0)) (by decide +kernel) (by decide)) ?_
  rfl
theorem b183_50 {x1 s0 : Int32} {M : am_M} {w : am_W4}  : am_rn call 183 50 [some (am_P (30, 0, 0)), some (am_I x1), none, none] [am_I s0] M (am_Z w) = am_rn call 183 14 [some (am_P (30, 0, 0)), some (am_I s0), none, none] [] M (am_Z w) := by
  refine Eq.trans (rl_istoren (j := 1) (ls' := [some (am_P (30, 0, 0)), some (am_I s0), none, none]) (by decide +kernel) rfl rfl) ?_
  refine Eq.trans (rl_goto (o := (-37)) 14 (by decide +kernel) (by decide)) ?_
  rfl
theorem b183_54 {x1 : Int32} {M : am_M} {w : am_W4}  : am_rn call 183 54 [some (am_P (30, 0, 0)), some (am_I x1), none, none] [] M (am_Z w) = if x1 = 0 then am_rn call 183 67 [some (am_P (30, 0, 0)), some (am_I x1), none, none] [am_I (M (30, 0, 0) 11), am_P (30, 0, 0)] M (am_Z w) else am_rn call 183 67 [some (am_P (30, 0, 0)), some (am_I x1), none, none] [am_I (-1 : Int32), am_P (30, 0, 0)] M (am_Z w) := by
  refine Eq.trans (rl_aloadn (j := 0) (by decide +kernel) rfl) ?_
  refine Eq.trans (rl_iloadn (j := 1) (by decide +kernel) rfl) ?_
  refine Eq.trans (rl_ifeq (o := 7) 63 (by decide +kernel) (by decide)) ?_
  refine am_ite (fun h_1 => ?_) (fun h_1 => ?_)
  · skip
    refine Eq.trans (rl_aloadn (j := 0) (by decide +kernel) rfl) ?_
    refine Eq.trans (rl_get (ix := 183) (ci := 9) (j := 11) (by decide +kernel) (by decide +kernel) (by decide +kernel) ck30) ?_
    rfl
  · skip
    refine Eq.trans (rl_iconst (c := -1) (k := (-1 : Int32)) (by decide +kernel) (by decide)) ?_
    refine Eq.trans (rl_goto (o := 7) 67 (by decide +kernel) (by decide)) ?_
    rfl
theorem b183_67 {x1 s0 : Int32} {M : am_M} {w : am_W4}  : am_rn call 183 67 [some (am_P (30, 0, 0)), some (am_I x1), none, none] [am_I s0, am_P (30, 0, 0)] M (am_Z w) = if x1 = 0 then am_cb (call 115 [am_P (30, 0, 0), am_I (nI 1)] (am_set (am_set M (30, 0, 0) 14 s0) (30, 0, 0) 10 (nI 0)) (am_Z w)) fun v M' X' => am_rn call 183 84 [some (am_P (30, 0, 0)), some (am_I x1), none, none] (v.toList ++ []) M' X' else am_rn call 183 94 [some (am_P (30, 0, 0)), some (am_I x1), some (am_I (nI 0)), some (am_I (nI 1))] [] (am_set (am_set M (30, 0, 0) 14 s0) (30, 0, 0) 11 (nI 0)) (am_Z w) := by
  refine Eq.trans (rl_put (ix := 35) (ci := 9) (j := 14) (by decide +kernel) (by decide +kernel) (by decide +kernel) (by decide +kernel) ck30) ?_
  refine Eq.trans (rl_iloadn (j := 1) (by decide +kernel) rfl) ?_
  refine Eq.trans (rl_ifne (o := 14) 85 (by decide +kernel) (by decide)) ?_
  refine am_ite (fun h_1 => ?_) (fun h_1 => ?_)
  · skip
    refine Eq.trans (rl_aloadn (j := 0) (by decide +kernel) rfl) ?_
    refine Eq.trans (rl_iconst (c := 0) (k := (nI 0)) (by decide +kernel) (by decide)) ?_
    refine Eq.trans (rl_put (ix := 180) (ci := 9) (j := 10) (by decide +kernel) (by decide +kernel) (by decide +kernel) (by decide +kernel) ck30) ?_
    refine Eq.trans (rl_aloadn (j := 0) (by decide +kernel) rfl) ?_
    refine Eq.trans (rl_iconst (c := 1) (k := (nI 1)) (by decide +kernel) (by decide)) ?_
    refine Eq.trans (rl_inv (ix := 64) (n := 1) (o := 9) 115 [am_I (nI 1)] [] (by decide +kernel) (by decide +kernel) (by decide +kernel) (by decide +kernel) ⟨rfl, rfl⟩ rfl rfl ck30) ?_
    rfl
  · skip
    refine Eq.trans (rl_aloadn (j := 0) (by decide +kernel) rfl) ?_
    refine Eq.trans (rl_iconst (c := 0) (k := (nI 0)) (by decide +kernel) (by decide)) ?_
    refine Eq.trans (rl_put (ix := 183) (ci := 9) (j := 11) (by decide +kernel) (by decide +kernel) (by decide +kernel) (by decide +kernel) ck30) ?_
    refine Eq.trans (rl_iconst (c := 0) (k := (nI 0)) (by decide +kernel) (by decide)) ?_
    refine Eq.trans (rl_istoren (j := 2) (ls' := [some (am_P (30, 0, 0)), some (am_I x1), some (am_I (nI 0)), none]) (by decide +kernel) rfl rfl) ?_
    refine Eq.trans (rl_iconst (c := 1) (k := (nI 1)) (by decide +kernel) (by decide)) ?_
    refine Eq.trans (rl_istoren (j := 3) (ls' := [some (am_P (30, 0, 0)), some (am_I x1), some (am_I (nI 0)), some (am_I (nI 1))]) (by decide +kernel) rfl rfl) ?_
    rfl
theorem b183_84 {x1 s0 : Int32} {M : am_M} {w : am_W4}  : am_rn call 183 84 [some (am_P (30, 0, 0)), some (am_I x1), none, none] [am_I s0] M (am_Z w) = some (.inl (some (am_I s0)), M, (am_Z w)) := by
  exact rl_iret (by decide +kernel) rfl
theorem b183_94 {x1 x2 x3 : Int32} {M : am_M} {w : am_W4}  : am_rn call 183 94 [some (am_P (30, 0, 0)), some (am_I x1), some (am_I x2), some (am_I x3)] [] M (am_Z w) = if x3 = 0 then if x1 = 0 then am_cb (call 118 [am_P (30, 0, 0)] (am_set M (30, 0, 0) 10 (nI 0)) (am_Z w)) fun v M' X' => am_rn call 183 161 [some (am_P (30, 0, 0)), some (am_I x1), some (am_I x2), some (am_I x3)] (v.toList ++ []) M' X' else am_cb (call 121 [am_P (30, 0, 0), am_I x2] (am_set M (30, 0, 0) 10 (nI 0)) (am_Z w)) fun v M' X' => am_rn call 183 156 [some (am_P (30, 0, 0)), some (am_I x1), some (am_I x2), some (am_I x3)] (v.toList ++ []) M' X' else am_cb (call 181 [am_P (30, 0, 0)] M (am_Z w)) fun v M' X' => am_rn call 183 102 [some (am_P (30, 0, 0)), some (am_I x1), some (am_I x2), some (am_I x3)] (v.toList ++ []) M' X' := by
  refine Eq.trans (rl_iloadn (j := 3) (by decide +kernel) rfl) ?_
  refine Eq.trans (rl_ifeq (o := 47) 142 (by decide +kernel) (by decide)) ?_
  refine am_ite (fun h_1 => ?_) (fun h_1 => ?_)
  · skip
    refine Eq.trans (rl_aloadn (j := 0) (by decide +kernel) rfl) ?_
    refine Eq.trans (rl_iconst (c := 0) (k := (nI 0)) (by decide +kernel) (by decide)) ?_
    refine Eq.trans (rl_put (ix := 180) (ci := 9) (j := 10) (by decide +kernel) (by decide +kernel) (by decide +kernel) (by decide +kernel) ck30) ?_
    refine Eq.trans (rl_iloadn (j := 1) (by decide +kernel) rfl) ?_
    refine Eq.trans (rl_ifeq (o := 9) 157 (by decide +kernel) (by decide)) ?_
    refine am_ite (fun h_2 => ?_) (fun h_2 => ?_)
    · skip
      refine Eq.trans (rl_aloadn (j := 0) (by decide +kernel) rfl) ?_
      refine Eq.trans (rl_inv (ix := 211) (n := 0) (o := 9) 118 [] [] (by decide +kernel) (by decide +kernel) (by decide +kernel) (by decide +kernel) ⟨rfl, rfl⟩ rfl rfl ck30) ?_
      rfl
    · skip
      refine Eq.trans (rl_aloadn (j := 0) (by decide +kernel) rfl) ?_
      refine Eq.trans (rl_iloadn (j := 2) (by decide +kernel) rfl) ?_
      refine Eq.trans (rl_inv (ix := 60) (n := 1) (o := 9) 121 [am_I x2] [] (by decide +kernel) (by decide +kernel) (by decide +kernel) (by decide +kernel) ⟨rfl, rfl⟩ rfl rfl ck30) ?_
      rfl
  · skip
    refine Eq.trans (rl_aloadn (j := 0) (by decide +kernel) rfl) ?_
    refine Eq.trans (rl_inv (ix := 204) (n := 0) (o := 9) 181 [] [] (by decide +kernel) (by decide +kernel) (by decide +kernel) (by decide +kernel) ⟨rfl, rfl⟩ rfl rfl ck30) ?_
    rfl
theorem b183_102 {x1 x2 x3 s0 : Int32} {M : am_M} {w : am_W4}  : am_rn call 183 102 [some (am_P (30, 0, 0)), some (am_I x1), some (am_I x2), some (am_I x3)] [am_I s0] M (am_Z w) = am_cb (call 182 [am_P (30, 0, 0)] (am_set M (30, 0, 0) 15 x2) (am_Z w)) fun v M' X' => am_rn call 183 112 [some (am_P (30, 0, 0)), some (am_I s0), some (am_I x2), some (am_I x3)] (v.toList ++ []) M' X' := by
  refine Eq.trans (rl_istoren (j := 1) (ls' := [some (am_P (30, 0, 0)), some (am_I s0), some (am_I x2), some (am_I x3)]) (by decide +kernel) rfl rfl) ?_
  refine Eq.trans (rl_aloadn (j := 0) (by decide +kernel) rfl) ?_
  refine Eq.trans (rl_iloadn (j := 2) (by decide +kernel) rfl) ?_
  refine Eq.trans (rl_put (ix := 42) (ci := 9) (j := 15) (by decide +kernel) (by decide +kernel) (by decide +kernel) (by decide +kernel) ck30) ?_
  refine Eq.trans (rl_aloadn (j := 0) (by decide +kernel) rfl) ?_
  refine Eq.trans (rl_inv (ix := 208) (n := 0) (o := 9) 182 [] [] (by decide +kernel) (by decide +kernel) (by decide +kernel) (by decide +kernel) ⟨rfl, rfl⟩ rfl rfl ck30) ?_
  rfl
theorem b183_112 {x1 x2 x3 s0 : Int32} {M : am_M} {w : am_W4}  : am_rn call 183 112 [some (am_P (30, 0, 0)), some (am_I x1), some (am_I x2), some (am_I x3)] [am_I s0] M (am_Z w) = if s0 = 0 then am_rn call 183 120 [some (am_P (30, 0, 0)), some (am_I s0), some (am_I x2), some (am_I x3)] [] M (am_Z w) else am_rn call 183 120 [some (am_P (30, 0, 0)), some (am_I s0), some (am_I (x2 + (nI 1))), some (am_I x3)] [] M (am_Z w) := by
  refine Eq.trans (rl_istoren (j := 1) (ls' := [some (am_P (30, 0, 0)), some (am_I s0), some (am_I x2), some (am_I x3)]) (by decide +kernel) rfl rfl) ?_
  refine Eq.trans (rl_iloadn (j := 1) (by decide +kernel) rfl) ?_
  refine Eq.trans (rl_ifeq (o := 6) 120 (by decide +kernel) (by decide)) ?_
  refine am_ite (fun h_1 => ?_) (fun h_1 => ?_)
  · skip
    rfl
  · skip
    refine Eq.trans (rl_iinc (j := 2) (c := 1) (k := (nI 1)) (ls' := [some (am_P (30, 0, 0)), some (am_I s0), some (am_I (x2 + (nI 1))), some (am_I x3)]) (by decide +kernel) (by decide) rfl rfl) ?_
    rfl
theorem b183_120 {x1 x2 x3 : Int32} {M : am_M} {w : am_W4}  : am_rn call 183 120 [some (am_P (30, 0, 0)), some (am_I x1), some (am_I x2), some (am_I x3)] [] M (am_Z w) = if x1 = 0 then am_rn call 183 137 [some (am_P (30, 0, 0)), some (am_I x1), some (am_I x2), some (am_I x3)] [] M (am_Z w) else am_cb (call 177 [am_P (30, 0, 0), am_I (nI 59)] M (am_Z w)) fun v M' X' => am_rn call 183 130 [some (am_P (30, 0, 0)), some (am_I x1), some (am_I x2), some (am_I x3)] (v.toList ++ []) M' X' := by
  refine Eq.trans (rl_iloadn (j := 1) (by decide +kernel) rfl) ?_
  refine Eq.trans (rl_ifeq (o := 16) 137 (by decide +kernel) (by decide)) ?_
  refine am_ite (fun h_1 => ?_) (fun h_1 => ?_)
  · skip
    rfl
  · skip
    refine Eq.trans (rl_aloadn (j := 0) (by decide +kernel) rfl) ?_
    refine Eq.trans (rl_bipush (c := 59) (k := (nI 59)) (by decide +kernel) (by decide)) ?_
    refine Eq.trans (rl_inv (ix := 197) (n := 1) (o := 9) 177 [am_I (nI 59)] [] (by decide +kernel) (by decide +kernel) (by decide +kernel) (by decide +kernel) ⟨rfl, rfl⟩ rfl rfl ck30) ?_
    rfl
theorem b183_130 {x1 x2 x3 s0 : Int32} {M : am_M} {w : am_W4}  : am_rn call 183 130 [some (am_P (30, 0, 0)), some (am_I x1), some (am_I x2), some (am_I x3)] [am_I s0] M (am_Z w) = if s0 = 0 then am_rn call 183 137 [some (am_P (30, 0, 0)), some (am_I x1), some (am_I x2), some (am_I x3)] [] M (am_Z w) else am_rn call 183 138 [some (am_P (30, 0, 0)), some (am_I x1), some (am_I x2), some (am_I x3)] [am_I (nI 1)] M (am_Z w) := by
  refine Eq.trans (rl_ifeq (o := 7) 137 (by decide +kernel) (by decide)) ?_
  refine am_ite (fun h_1 => ?_) (fun h_1 => ?_)
  · skip
    rfl
  · skip
    refine Eq.trans (rl_iconst (c := 1) (k := (nI 1)) (by decide +kernel) (by decide)) ?_
    refine Eq.trans (rl_goto (o := 4) 138 (by decide +kernel) (by decide)) ?_
    rfl
theorem b183_137 {x1 x2 x3 : Int32} {M : am_M} {w : am_W4}  : am_rn call 183 137 [some (am_P (30, 0, 0)), some (am_I x1), some (am_I x2), some (am_I x3)] [] M (am_Z w) = am_rn call 183 138 [some (am_P (30, 0, 0)), some (am_I x1), some (am_I x2), some (am_I x3)] [am_I (nI 0)] M (am_Z w) := by
  refine Eq.trans (rl_iconst (c := 0) (k := (nI 0)) (by decide +kernel) (by decide)) ?_
  rfl
theorem b183_138 {x1 x2 x3 s0 : Int32} {M : am_M} {w : am_W4}  : am_rn call 183 138 [some (am_P (30, 0, 0)), some (am_I x1), some (am_I x2), some (am_I x3)] [am_I s0] M (am_Z w) = am_rn call 183 94 [some (am_P (30, 0, 0)), some (am_I x1), some (am_I x2), some (am_I s0)] [] M (am_Z w) := by
  refine Eq.trans (rl_istoren (j := 3) (ls' := [some (am_P (30, 0, 0)), some (am_I x1), some (am_I x2), some (am_I s0)]) (by decide +kernel) rfl rfl) ?_
  refine Eq.trans (rl_goto (o := (-45)) 94 (by decide +kernel) (by decide)) ?_
  rfl
theorem b183_156 {x1 x2 x3 s0 : Int32} {M : am_M} {w : am_W4}  : am_rn call 183 156 [some (am_P (30, 0, 0)), some (am_I x1), some (am_I x2), some (am_I x3)] [am_I s0] M (am_Z w) = some (.inl (some (am_I s0)), M, (am_Z w)) := by
  exact rl_iret (by decide +kernel) rfl
theorem b183_161 {x1 x2 x3 : Int32} {M : am_M} {w : am_W4}  : am_rn call 183 161 [some (am_P (30, 0, 0)), some (am_I x1), some (am_I x2), some (am_I x3)] [] M (am_Z w) = am_cb (call 115 [am_P (30, 0, 0), am_I (nI 2)] M (am_Z w)) fun v M' X' => am_rn call 183 166 [some (am_P (30, 0, 0)), some (am_I x1), some (am_I x2), some (am_I x3)] (v.toList ++ []) M' X' := by
  refine Eq.trans (rl_aloadn (j := 0) (by decide +kernel) rfl) ?_
  refine Eq.trans (rl_iconst (c := 2) (k := (nI 2)) (by decide +kernel) (by decide)) ?_
  refine Eq.trans (rl_inv (ix := 64) (n := 1) (o := 9) 115 [am_I (nI 2)] [] (by decide +kernel) (by decide +kernel) (by decide +kernel) (by decide +kernel) ⟨rfl, rfl⟩ rfl rfl ck30) ?_
  rfl
theorem b183_166 {x1 x2 x3 s0 : Int32} {M : am_M} {w : am_W4}  : am_rn call 183 166 [some (am_P (30, 0, 0)), some (am_I x1), some (am_I x2), some (am_I x3)] [am_I s0] M (am_Z w) = some (.inl (some (am_I s0)), M, (am_Z w)) := by
  exact rl_iret (by decide +kernel) rfl
theorem e183 {d : Nat}  {M : am_M} {w : am_W4}  : am_ev (d + 1) 183 [am_P (30, 0, 0)] M (am_Z w) = am_cb ((am_ev d) 117 [am_P (30, 0, 0)] M (am_Z w)) fun v M' X' => am_rn (am_ev d) 183 4 [some (am_P (30, 0, 0)), none, none, none] (v.toList ++ []) M' X' := (am_ev_eq d 183 _ M (am_Z w)).trans (b183_0)
theorem b184_0  {M : am_M} {w : am_W4}  : am_rn call 184 0 [some (am_P (30, 0, 0))] [] M (am_Z w) = am_rn call 184 5 [some (am_P (30, 0, 0))] [] (am_set M (30, 0, 0) 20 (nI 0)) (am_Z w) := by
  refine Eq.trans (rl_aloadn (j := 0) (by decide +kernel) rfl) ?_
  refine Eq.trans (rl_iconst (c := 0) (k := (nI 0)) (by decide +kernel) (by decide)) ?_
  refine Eq.trans (rl_put (ix := 39) (ci := 9) (j := 20) (by decide +kernel) (by decide +kernel) (by decide +kernel) (by decide +kernel) ck30) ?_
  rfl
theorem b184_5  {M : am_M} {w : am_W4}  : am_rn call 184 5 [some (am_P (30, 0, 0))] [] M (am_Z w) = some (.inl (some (am_I (M (30, 0, 0) 14))), M, (am_Z w)) := by
  refine Eq.trans (rl_aloadn (j := 0) (by decide +kernel) rfl) ?_
  refine Eq.trans (rl_get (ix := 35) (ci := 9) (j := 14) (by decide +kernel) (by decide +kernel) (by decide +kernel) ck30) ?_
  exact rl_iret (by decide +kernel) rfl
theorem e184 {d : Nat}  {M : am_M} {w : am_W4}  : am_ev (d + 1) 184 [am_P (30, 0, 0)] M (am_Z w) = am_rn (am_ev d) 184 5 [some (am_P (30, 0, 0))] [] (am_set M (30, 0, 0) 20 (nI 0)) (am_Z w) := (am_ev_eq d 184 _ M (am_Z w)).trans (b184_0)
theorem b185_0 {x1 : Int32} {M : am_M} {w : am_W4}  : am_rn call 185 0 [some (am_P (30, 0, 0)), some (am_I x1)] [] M (am_Z w) = am_cb (call 116 [am_I x1, am_I (nI 0), am_I (nI 2)] (am_set M (30, 0, 0) 20 (nI 0)) (am_Z w)) fun v M' X' => am_rn call 185 11 [some (am_P (30, 0, 0)), some (am_I x1)] (v.toList ++ []) M' X' := by
  refine Eq.trans (rl_aloadn (j := 0) (by decide +kernel) rfl) ?_
  refine Eq.trans (rl_iconst (c := 0) (k := (nI 0)) (by decide +kernel) (by decide)) ?_
  refine Eq.trans (rl_put (ix := 39) (ci := 9) (j := 20) (by decide +kernel) (by decide +kernel) (by decide +kernel) (by decide +kernel) ck30) ?_
  refine Eq.trans (rl_iloadn (j := 1) (by decide +kernel) rfl) ?_
  refine Eq.trans (rl_iconst (c := 0) (k := (nI 0)) (by decide +kernel) (by decide)) ?_
  refine Eq.trans (rl_iconst (c := 2) (k := (nI 2)) (by decide +kernel) (by decide)) ?_
  refine Eq.trans (rl_invS (ix := 67) (n := 3) (k := 1) 116 [am_I x1, am_I (nI 0), am_I (nI 2)] [] (by decide +kernel) (by decide +kernel) (by decide) (by decide +kernel) ⟨rfl, rfl⟩ rfl rfl) ?_
  rfl
theorem b185_11 {x1 s0 : Int32} {M : am_M} {w : am_W4}  : am_rn call 185 11 [some (am_P (30, 0, 0)), some (am_I x1)] [am_I s0] M (am_Z w) = if s0 = 0 then am_cb (call 115 [am_P (30, 0, 0), am_I (nI 1)] M (am_Z w)) fun v M' X' => am_rn call 185 19 [some (am_P (30, 0, 0)), some (am_I x1)] (v.toList ++ []) M' X' else if (M (30, 0, 0) 16) = 0 then am_cb (call 115 [am_P (30, 0, 0), am_I (nI 2)] M (am_Z w)) fun v M' X' => am_rn call 185 32 [some (am_P (30, 0, 0)), some (am_I x1)] (v.toList ++ []) M' X' else if x1 = 0 then some (.inl (some (am_I (M (30, 0, 0) 16))), M, (am_Z w)) else if x1 = (nI 1) then some (.inl (some (am_I (M (30, 0, 0) 17))), M, (am_Z w)) else some (.inl (some (am_I (M (30, 0, 0) 18))), M, (am_Z w)) := by
  refine Eq.trans (rl_ifne (o := 9) 20 (by decide +kernel) (by decide)) ?_
  refine am_ite (fun h_1 => ?_) (fun h_1 => ?_)
  · skip
    refine Eq.trans (rl_aloadn (j := 0) (by decide +kernel) rfl) ?_
    refine Eq.trans (rl_iconst (c := 1) (k := (nI 1)) (by decide +kernel) (by decide)) ?_
    refine Eq.trans (rl_inv (ix := 64) (n := 1) (o := 9) 115 [am_I (nI 1)] [] (by decide +kernel) (by decide +kernel) (by decide +kernel) (by decide +kernel) ⟨rfl, rfl⟩ rfl rfl ck30) ?_
    rfl
  · skip
    refine Eq.trans (rl_aloadn (j := 0) (by decide +kernel) rfl) ?_
    refine Eq.trans (rl_get (ix := 48) (ci := 9) (j := 16) (by decide +kernel) (by decide +kernel) (by decide +kernel) ck30) ?_
    refine Eq.trans (rl_ifne (o := 9) 33 (by decide +kernel) (by decide)) ?_
    refine am_ite (fun h_2 => ?_) (fun h_2 => ?_)
    · skip
      refine Eq.trans (rl_aloadn (j := 0) (by decide +kernel) rfl) ?_
      refine Eq.trans (rl_iconst (c := 2) (k := (nI 2)) (by decide +kernel) (by decide)) ?_
      refine Eq.trans (rl_inv (ix := 64) (n := 1) (o := 9) 115 [am_I (nI 2)] [] (by decide +kernel) (by decide +kernel) (by decide +kernel) (by decide +kernel) ⟨rfl, rfl⟩ rfl rfl ck30) ?_
      rfl
    · skip
      refine Eq.trans (rl_iloadn (j := 1) (by decide +kernel) rfl) ?_
      refine Eq.trans (rl_ifne (o := 10) 44 (by decide +kernel) (by decide)) ?_
      refine am_ite (fun h_3 => ?_) (fun h_3 => ?_)
      · skip
        refine Eq.trans (rl_aloadn (j := 0) (by decide +kernel) rfl) ?_
        refine Eq.trans (rl_get (ix := 48) (ci := 9) (j := 16) (by decide +kernel) (by decide +kernel) (by decide +kernel) ck30) ?_
        refine Eq.trans (rl_goto (o := 19) 60 (by decide +kernel) (by decide)) ?_
        exact rl_iret (by decide +kernel) rfl
      · skip
        refine Eq.trans (rl_iloadn (j := 1) (by decide +kernel) rfl) ?_
        refine Eq.trans (rl_iconst (c := 1) (k := (nI 1)) (by decide +kernel) (by decide)) ?_
        refine Eq.trans (rl_icne (o := 10) 56 (by decide +kernel) (by decide)) ?_
        refine am_ite (fun h_4 => ?_) (fun h_4 => ?_)
        · skip
          refine Eq.trans (rl_aloadn (j := 0) (by decide +kernel) rfl) ?_
          refine Eq.trans (rl_get (ix := 51) (ci := 9) (j := 17) (by decide +kernel) (by decide +kernel) (by decide +kernel) ck30) ?_
          refine Eq.trans (rl_goto (o := 7) 60 (by decide +kernel) (by decide)) ?_
          exact rl_iret (by decide +kernel) rfl
        · skip
          refine Eq.trans (rl_aloadn (j := 0) (by decide +kernel) rfl) ?_
          refine Eq.trans (rl_get (ix := 54) (ci := 9) (j := 18) (by decide +kernel) (by decide +kernel) (by decide +kernel) ck30) ?_
          exact rl_iret (by decide +kernel) rfl
theorem b185_19 {x1 s0 : Int32} {M : am_M} {w : am_W4}  : am_rn call 185 19 [some (am_P (30, 0, 0)), some (am_I x1)] [am_I s0] M (am_Z w) = some (.inl (some (am_I s0)), M, (am_Z w)) := by
  exact rl_iret (by decide +kernel) rfl
theorem b185_32 {x1 s0 : Int32} {M : am_M} {w : am_W4}  : am_rn call 185 32 [some (am_P (30, 0, 0)), some (am_I x1)] [am_I s0] M (am_Z w) = some (.inl (some (am_I s0)), M, (am_Z w)) := by
  exact rl_iret (by decide +kernel) rfl
theorem e185 {d : Nat} {x1 : Int32} {M : am_M} {w : am_W4}  : am_ev (d + 1) 185 [am_P (30, 0, 0), am_I x1] M (am_Z w) = am_cb ((am_ev d) 116 [am_I x1, am_I (nI 0), am_I (nI 2)] (am_set M (30, 0, 0) 20 (nI 0)) (am_Z w)) fun v M' X' => am_rn (am_ev d) 185 11 [some (am_P (30, 0, 0)), some (am_I x1)] (v.toList ++ []) M' X' := (am_ev_eq d 185 _ M (am_Z w)).trans (b185_0)
theorem b186_0 {x1 : Int32} {M : am_M} {w : am_W4}  : am_rn call 186 0 [some (am_P (30, 0, 0)), some (am_I x1)] [] M (am_Z w) = if am_in (M (30, 0, 0) 8) 20 then some (.inl none, (am_set (am_set M (30, 0, 0) 8 ((M (30, 0, 0) 8) + (nI 1))) (36, 0, 0) (M (30, 0, 0) 8).toNatClampNeg (vp_nar .char x1)), (am_Z w)) else none := by
  refine Eq.trans (rl_aloadn (j := 0) (by decide +kernel) rfl) ?_
  refine Eq.trans (rl_getP (ix := 25) (ci := 9) (j := 7) (by decide +kernel) (by decide +kernel) (by decide +kernel) ck30 rfl) ?_
  refine Eq.trans (rl_aloadn (j := 0) (by decide +kernel) rfl) ?_
  refine Eq.trans (rl_dup (by decide +kernel) rfl) ?_
  refine Eq.trans (rl_get (ix := 214) (ci := 9) (j := 8) (by decide +kernel) (by decide +kernel) (by decide +kernel) ck30) ?_
  refine Eq.trans (rl_dup_x1 (by decide +kernel) rfl rfl) ?_
  refine Eq.trans (rl_iconst (c := 1) (k := (nI 1)) (by decide +kernel) (by decide)) ?_
  refine Eq.trans (rl_iadd (by decide +kernel)) ?_
  refine Eq.trans (rl_put (ix := 214) (ci := 9) (j := 8) (by decide +kernel) (by decide +kernel) (by decide +kernel) (by decide +kernel) ck30) ?_
  refine Eq.trans (rl_iloadn (j := 1) (by decide +kernel) rfl) ?_
  refine Eq.trans (rl_cast (by decide +kernel) ka36) ?_
  refine am_ite (fun h_1 => ?_) (fun _ => rfl)
  exact rl_ret (by decide +kernel) rfl
theorem e186 {d : Nat} {x1 : Int32} {M : am_M} {w : am_W4}  : am_ev (d + 1) 186 [am_P (30, 0, 0), am_I x1] M (am_Z w) = if am_in (M (30, 0, 0) 8) 20 then some (.inl none, (am_set (am_set M (30, 0, 0) 8 ((M (30, 0, 0) 8) + (nI 1))) (36, 0, 0) (M (30, 0, 0) 8).toNatClampNeg (vp_nar .char x1)), (am_Z w)) else none := (am_ev_eq d 186 _ M (am_Z w)).trans (b186_0)
theorem b187_0 {x1 : Int32} {M : am_M} {w : am_W4}  : am_rn call 187 0 [some (am_P (30, 0, 0)), some (am_I x1), none] [] M (am_Z w) = am_cb (call 127 [am_P (30, 0, 0), am_I x1] (am_set M (30, 0, 0) 20 (nI 0)) (am_Z w)) fun v M' X' => am_rn call 187 10 [some (am_P (30, 0, 0)), some (am_I x1), none] (v.toList ++ []) M' X' := by
  refine Eq.trans (rl_aloadn (j := 0) (by decide +kernel) rfl) ?_
  refine Eq.trans (rl_iconst (c := 0) (k := (nI 0)) (by decide +kernel) (by decide)) ?_
  refine Eq.trans (rl_put (ix := 39) (ci := 9) (j := 20) (by decide +kernel) (by decide +kernel) (by decide +kernel) (by decide +kernel) ck30) ?_
  refine Eq.trans (rl_aloadn (j := 0) (by decide +kernel) rfl) ?_
  refine Eq.trans (rl_iloadn (j := 1) (by decide +kernel) rfl) ?_
  refine Eq.trans (rl_inv (ix := 116) (n := 1) (o := 9) 127 [am_I x1] [] (by decide +kernel) (by decide +kernel) (by decide +kernel) (by decide +kernel) ⟨rfl, rfl⟩ rfl rfl ck30) ?_
  rfl
theorem b187_10 {x1 s0 : Int32} {M : am_M} {w : am_W4}  : am_rn call 187 10 [some (am_P (30, 0, 0)), some (am_I x1), none] [am_I s0] M (am_Z w) = if s0 = 0 then am_cb (call 115 [am_P (30, 0, 0), am_I (nI 1)] M (am_Z w)) fun v M' X' => am_rn call 187 18 [some (am_P (30, 0, 0)), some (am_I x1), none] (v.toList ++ []) M' X' else am_cb (call 129 [am_P (30, 0, 0), am_I x1, am_I (nI 0)] (am_set M (30, 0, 0) 8 (nI 0)) (am_Z w)) fun v M' X' => am_rn call 187 33 [some (am_P (30, 0, 0)), some (am_I x1), none] (v.toList ++ [am_I (nI 48), am_P (30, 0, 0)]) M' X' := by
  refine Eq.trans (rl_ifne (o := 9) 19 (by decide +kernel) (by decide)) ?_
  refine am_ite (fun h_1 => ?_) (fun h_1 => ?_)
  · skip
    refine Eq.trans (rl_aloadn (j := 0) (by decide +kernel) rfl) ?_
    refine Eq.trans (rl_iconst (c := 1) (k := (nI 1)) (by decide +kernel) (by decide)) ?_
    refine Eq.trans (rl_inv (ix := 64) (n := 1) (o := 9) 115 [am_I (nI 1)] [] (by decide +kernel) (by decide +kernel) (by decide +kernel) (by decide +kernel) ⟨rfl, rfl⟩ rfl rfl ck30) ?_
    rfl
  · skip
    refine Eq.trans (rl_aloadn (j := 0) (by decide +kernel) rfl) ?_
    refine Eq.trans (rl_iconst (c := 0) (k := (nI 0)) (by decide +kernel) (by decide)) ?_
    refine Eq.trans (rl_put (ix := 214) (ci := 9) (j := 8) (by decide +kernel) (by decide +kernel) (by decide +kernel) (by decide +kernel) ck30) ?_
    refine Eq.trans (rl_aloadn (j := 0) (by decide +kernel) rfl) ?_
    refine Eq.trans (rl_bipush (c := 48) (k := (nI 48)) (by decide +kernel) (by decide)) ?_
    refine Eq.trans (rl_aloadn (j := 0) (by decide +kernel) rfl) ?_
    refine Eq.trans (rl_iloadn (j := 1) (by decide +kernel) rfl) ?_
    refine Eq.trans (rl_iconst (c := 0) (k := (nI 0)) (by decide +kernel) (by decide)) ?_
    refine Eq.trans (rl_inv (ix := 119) (n := 2) (o := 9) 129 [am_I x1, am_I (nI 0)] [am_I (nI 48), am_P (30, 0, 0)] (by decide +kernel) (by decide +kernel) (by decide +kernel) (by decide +kernel) ⟨rfl, rfl⟩ rfl rfl ck30) ?_
    rfl
theorem b187_18 {x1 s0 : Int32} {M : am_M} {w : am_W4}  : am_rn call 187 18 [some (am_P (30, 0, 0)), some (am_I x1), none] [am_I s0] M (am_Z w) = some (.inl (some (am_I s0)), M, (am_Z w)) := by
  exact rl_iret (by decide +kernel) rfl
theorem b187_33 {x1 s0 : Int32} {M : am_M} {w : am_W4}  : am_rn call 187 33 [some (am_P (30, 0, 0)), some (am_I x1), none] [am_I s0, am_I (nI 48), am_P (30, 0, 0)] M (am_Z w) = am_cb (call 186 [am_P (30, 0, 0), am_I (((nI 48) + s0).toUInt32 % 65536).toInt32] M (am_Z w)) fun v M' X' => am_rn call 187 38 [some (am_P (30, 0, 0)), some (am_I x1), none] (v.toList ++ []) M' X' := by
  refine Eq.trans (rl_iadd (by decide +kernel)) ?_
  refine Eq.trans (rl_i2c (by decide +kernel)) ?_
  refine Eq.trans (rl_inv (ix := 217) (n := 1) (o := 9) 186 [am_I (((nI 48) + s0).toUInt32 % 65536).toInt32] [] (by decide +kernel) (by decide +kernel) (by decide +kernel) (by decide +kernel) ⟨rfl, rfl⟩ rfl rfl ck30) ?_
  rfl
theorem b187_38 {x1 : Int32} {M : am_M} {w : am_W4}  : am_rn call 187 38 [some (am_P (30, 0, 0)), some (am_I x1), none] [] M (am_Z w) = am_cb (call 186 [am_P (30, 0, 0), am_I (nI 62)] M (am_Z w)) fun v M' X' => am_rn call 187 44 [some (am_P (30, 0, 0)), some (am_I x1), none] (v.toList ++ []) M' X' := by
  refine Eq.trans (rl_aloadn (j := 0) (by decide +kernel) rfl) ?_
  refine Eq.trans (rl_bipush (c := 62) (k := (nI 62)) (by decide +kernel) (by decide)) ?_
  refine Eq.trans (rl_inv (ix := 217) (n := 1) (o := 9) 186 [am_I (nI 62)] [] (by decide +kernel) (by decide +kernel) (by decide +kernel) (by decide +kernel) ⟨rfl, rfl⟩ rfl rfl ck30) ?_
  rfl
theorem b187_44 {x1 : Int32} {M : am_M} {w : am_W4}  : am_rn call 187 44 [some (am_P (30, 0, 0)), some (am_I x1), none] [] M (am_Z w) = am_cb (call 129 [am_P (30, 0, 0), am_I x1, am_I (nI 1)] M (am_Z w)) fun v M' X' => am_rn call 187 53 [some (am_P (30, 0, 0)), some (am_I x1), none] (v.toList ++ [am_I (nI 48), am_P (30, 0, 0)]) M' X' := by
  refine Eq.trans (rl_aloadn (j := 0) (by decide +kernel) rfl) ?_
  refine Eq.trans (rl_bipush (c := 48) (k := (nI 48)) (by decide +kernel) (by decide)) ?_
  refine Eq.trans (rl_aloadn (j := 0) (by decide +kernel) rfl) ?_
  refine Eq.trans (rl_iloadn (j := 1) (by decide +kernel) rfl) ?_
  refine Eq.trans (rl_iconst (c := 1) (k := (nI 1)) (by decide +kernel) (by decide)) ?_
  refine Eq.trans (rl_inv (ix := 119) (n := 2) (o := 9) 129 [am_I x1, am_I (nI 1)] [am_I (nI 48), am_P (30, 0, 0)] (by decide +kernel) (by decide +kernel) (by decide +kernel) (by decide +kernel) ⟨rfl, rfl⟩ rfl rfl ck30) ?_
  rfl
theorem b187_53 {x1 s0 : Int32} {M : am_M} {w : am_W4}  : am_rn call 187 53 [some (am_P (30, 0, 0)), some (am_I x1), none] [am_I s0, am_I (nI 48), am_P (30, 0, 0)] M (am_Z w) = am_cb (call 186 [am_P (30, 0, 0), am_I (((nI 48) + s0).toUInt32 % 65536).toInt32] M (am_Z w)) fun v M' X' => am_rn call 187 58 [some (am_P (30, 0, 0)), some (am_I x1), none] (v.toList ++ []) M' X' := by
  refine Eq.trans (rl_iadd (by decide +kernel)) ?_
  refine Eq.trans (rl_i2c (by decide +kernel)) ?_
  refine Eq.trans (rl_inv (ix := 217) (n := 1) (o := 9) 186 [am_I (((nI 48) + s0).toUInt32 % 65536).toInt32] [] (by decide +kernel) (by decide +kernel) (by decide +kernel) (by decide +kernel) ⟨rfl, rfl⟩ rfl rfl ck30) ?_
  rfl
theorem b187_58 {x1 : Int32} {M : am_M} {w : am_W4}  : am_rn call 187 58 [some (am_P (30, 0, 0)), some (am_I x1), none] [] M (am_Z w) = am_cb (call 186 [am_P (30, 0, 0), am_I (nI 58)] M (am_Z w)) fun v M' X' => am_rn call 187 64 [some (am_P (30, 0, 0)), some (am_I x1), none] (v.toList ++ []) M' X' := by
  refine Eq.trans (rl_aloadn (j := 0) (by decide +kernel) rfl) ?_
  refine Eq.trans (rl_bipush (c := 58) (k := (nI 58)) (by decide +kernel) (by decide)) ?_
  refine Eq.trans (rl_inv (ix := 217) (n := 1) (o := 9) 186 [am_I (nI 58)] [] (by decide +kernel) (by decide +kernel) (by decide +kernel) (by decide +kernel) ⟨rfl, rfl⟩ rfl rfl ck30) ?_
  rfl
theorem b187_64 {x1 : Int32} {M : am_M} {w : am_W4}  : am_rn call 187 64 [some (am_P (30, 0, 0)), some (am_I x1), none] [] M (am_Z w) = am_rn call 187 66 [some (am_P (30, 0, 0)), some (am_I x1), some (am_I (nI 0))] [] M (am_Z w) := by
  refine Eq.trans (rl_iconst (c := 0) (k := (nI 0)) (by decide +kernel) (by decide)) ?_
  refine Eq.trans (rl_istoren (j := 2) (ls' := [some (am_P (30, 0, 0)), some (am_I x1), some (am_I (nI 0))]) (by decide +kernel) rfl rfl) ?_
  rfl
theorem b187_66 {x1 x2 : Int32} {M : am_M} {w : am_W4}  : am_rn call 187 66 [some (am_P (30, 0, 0)), some (am_I x1), some (am_I x2)] [] M (am_Z w) = am_cb (call 129 [am_P (30, 0, 0), am_I x1, am_I (nI 3)] M (am_Z w)) fun v M' X' => am_rn call 187 73 [some (am_P (30, 0, 0)), some (am_I x1), some (am_I x2)] (v.toList ++ [am_I x2]) M' X' := by
  refine Eq.trans (rl_iloadn (j := 2) (by decide +kernel) rfl) ?_
  refine Eq.trans (rl_aloadn (j := 0) (by decide +kernel) rfl) ?_
  refine Eq.trans (rl_iloadn (j := 1) (by decide +kernel) rfl) ?_
  refine Eq.trans (rl_iconst (c := 3) (k := (nI 3)) (by decide +kernel) (by decide)) ?_
  refine Eq.trans (rl_inv (ix := 119) (n := 2) (o := 9) 129 [am_I x1, am_I (nI 3)] [am_I x2] (by decide +kernel) (by decide +kernel) (by decide +kernel) (by decide +kernel) ⟨rfl, rfl⟩ rfl rfl ck30) ?_
  rfl
theorem b187_73 {x1 x2 s0 s1 : Int32} {M : am_M} {w : am_W4}  : am_rn call 187 73 [some (am_P (30, 0, 0)), some (am_I x1), some (am_I x2)] [am_I s0, am_I s1] M (am_Z w) = if s1 < s0 then am_cb (call 129 [am_P (30, 0, 0), am_I x1, am_I ((nI 11) + x2)] M (am_Z w)) fun v M' X' => am_rn call 187 86 [some (am_P (30, 0, 0)), some (am_I x1), some (am_I x2)] (v.toList ++ [am_P (30, 0, 0)]) M' X' else am_cb (call 129 [am_P (30, 0, 0), am_I x1, am_I (nI 6)] M (am_Z w)) fun v M' X' => am_rn call 187 123 [some (am_P (30, 0, 0)), some (am_I x1), some (am_I x2)] (v.toList ++ []) M' X' := by
  refine Eq.trans (rl_icge (o := 43) 116 (by decide +kernel) (by decide)) ?_
  refine am_ite (fun h_1 => ?_) (fun h_1 => ?_)
  · skip
    refine Eq.trans (rl_aloadn (j := 0) (by decide +kernel) rfl) ?_
    refine Eq.trans (rl_aloadn (j := 0) (by decide +kernel) rfl) ?_
    refine Eq.trans (rl_iloadn (j := 1) (by decide +kernel) rfl) ?_
    refine Eq.trans (rl_bipush (c := 11) (k := (nI 11)) (by decide +kernel) (by decide)) ?_
    refine Eq.trans (rl_iloadn (j := 2) (by decide +kernel) rfl) ?_
    refine Eq.trans (rl_iadd (by decide +kernel)) ?_
    refine Eq.trans (rl_inv (ix := 119) (n := 2) (o := 9) 129 [am_I x1, am_I ((nI 11) + x2)] [am_P (30, 0, 0)] (by decide +kernel) (by decide +kernel) (by decide +kernel) (by decide +kernel) ⟨rfl, rfl⟩ rfl rfl ck30) ?_
    rfl
  · skip
    refine Eq.trans (rl_aloadn (j := 0) (by decide +kernel) rfl) ?_
    refine Eq.trans (rl_iloadn (j := 1) (by decide +kernel) rfl) ?_
    refine Eq.trans (rl_bipush (c := 6) (k := (nI 6)) (by decide +kernel) (by decide)) ?_
    refine Eq.trans (rl_inv (ix := 119) (n := 2) (o := 9) 129 [am_I x1, am_I (nI 6)] [] (by decide +kernel) (by decide +kernel) (by decide +kernel) (by decide +kernel) ⟨rfl, rfl⟩ rfl rfl ck30) ?_
    rfl
theorem b187_86 {x1 x2 s0 : Int32} {M : am_M} {w : am_W4}  : am_rn call 187 86 [some (am_P (30, 0, 0)), some (am_I x1), some (am_I x2)] [am_I s0, am_P (30, 0, 0)] M (am_Z w) = if s0 = 0 then am_rn call 187 107 [some (am_P (30, 0, 0)), some (am_I x1), some (am_I x2)] [am_I (nI 63), am_P (30, 0, 0)] M (am_Z w) else am_cb (call 129 [am_P (30, 0, 0), am_I x1, am_I ((nI 11) + x2)] M (am_Z w)) fun v M' X' => am_rn call 187 105 [some (am_P (30, 0, 0)), some (am_I x1), some (am_I x2)] (v.toList ++ [am_I (nI 48), am_P (30, 0, 0)]) M' X' := by
  refine Eq.trans (rl_ifne (o := 8) 94 (by decide +kernel) (by decide)) ?_
  refine am_ite (fun h_1 => ?_) (fun h_1 => ?_)
  · skip
    refine Eq.trans (rl_bipush (c := 63) (k := (nI 63)) (by decide +kernel) (by decide)) ?_
    refine Eq.trans (rl_goto (o := 16) 107 (by decide +kernel) (by decide)) ?_
    rfl
  · skip
    refine Eq.trans (rl_bipush (c := 48) (k := (nI 48)) (by decide +kernel) (by decide)) ?_
    refine Eq.trans (rl_aloadn (j := 0) (by decide +kernel) rfl) ?_
    refine Eq.trans (rl_iloadn (j := 1) (by decide +kernel) rfl) ?_
    refine Eq.trans (rl_bipush (c := 11) (k := (nI 11)) (by decide +kernel) (by decide)) ?_
    refine Eq.trans (rl_iloadn (j := 2) (by decide +kernel) rfl) ?_
    refine Eq.trans (rl_iadd (by decide +kernel)) ?_
    refine Eq.trans (rl_inv (ix := 119) (n := 2) (o := 9) 129 [am_I x1, am_I ((nI 11) + x2)] [am_I (nI 48), am_P (30, 0, 0)] (by decide +kernel) (by decide +kernel) (by decide +kernel) (by decide +kernel) ⟨rfl, rfl⟩ rfl rfl ck30) ?_
    rfl
theorem b187_105 {x1 x2 s0 : Int32} {M : am_M} {w : am_W4}  : am_rn call 187 105 [some (am_P (30, 0, 0)), some (am_I x1), some (am_I x2)] [am_I s0, am_I (nI 48), am_P (30, 0, 0)] M (am_Z w) = am_rn call 187 107 [some (am_P (30, 0, 0)), some (am_I x1), some (am_I x2)] [am_I (((nI 48) + s0).toUInt32 % 65536).toInt32, am_P (30, 0, 0)] M (am_Z w) := by
  refine Eq.trans (rl_iadd (by decide +kernel)) ?_
  refine Eq.trans (rl_i2c (by decide +kernel)) ?_
  rfl
theorem b187_107 {x1 x2 s0 : Int32} {M : am_M} {w : am_W4}  : am_rn call 187 107 [some (am_P (30, 0, 0)), some (am_I x1), some (am_I x2)] [am_I s0, am_P (30, 0, 0)] M (am_Z w) = am_cb (call 186 [am_P (30, 0, 0), am_I s0] M (am_Z w)) fun v M' X' => am_rn call 187 110 [some (am_P (30, 0, 0)), some (am_I x1), some (am_I x2)] (v.toList ++ []) M' X' := by
  refine Eq.trans (rl_inv (ix := 217) (n := 1) (o := 9) 186 [am_I s0] [] (by decide +kernel) (by decide +kernel) (by decide +kernel) (by decide +kernel) ⟨rfl, rfl⟩ rfl rfl ck30) ?_
  rfl
theorem b187_110 {x1 x2 : Int32} {M : am_M} {w : am_W4}  : am_rn call 187 110 [some (am_P (30, 0, 0)), some (am_I x1), some (am_I x2)] [] M (am_Z w) = am_rn call 187 66 [some (am_P (30, 0, 0)), some (am_I x1), some (am_I (x2 + (nI 1)))] [] M (am_Z w) := by
  refine Eq.trans (rl_iinc (j := 2) (c := 1) (k := (nI 1)) (ls' := [some (am_P (30, 0, 0)), some (am_I x1), some (am_I (x2 + (nI 1)))]) (by decide +kernel) (by decide) rfl rfl) ?_
  refine Eq.trans (rl_goto (o := (-47)) 66 (by decide +kernel) (by decide)) ?_
  rfl
theorem b187_123 {x1 x2 s0 : Int32} {M : am_M} {w : am_W4}  : am_rn call 187 123 [some (am_P (30, 0, 0)), some (am_I x1), some (am_I x2)] [am_I s0] M (am_Z w) = if s0 = (nI 2) then am_cb (call 186 [am_P (30, 0, 0), am_I (nI 120)] M (am_Z w)) fun v M' X' => am_rn call 187 133 [some (am_P (30, 0, 0)), some (am_I x1), some (am_I x2)] (v.toList ++ []) M' X' else am_rn call 187 133 [some (am_P (30, 0, 0)), some (am_I x1), some (am_I x2)] [] M (am_Z w) := by
  refine Eq.trans (rl_iconst (c := 2) (k := (nI 2)) (by decide +kernel) (by decide)) ?_
  refine Eq.trans (rl_icne (o := 9) 133 (by decide +kernel) (by decide)) ?_
  refine am_ite (fun h_1 => ?_) (fun h_1 => ?_)
  · skip
    refine Eq.trans (rl_aloadn (j := 0) (by decide +kernel) rfl) ?_
    refine Eq.trans (rl_bipush (c := 120) (k := (nI 120)) (by decide +kernel) (by decide)) ?_
    refine Eq.trans (rl_inv (ix := 217) (n := 1) (o := 9) 186 [am_I (nI 120)] [] (by decide +kernel) (by decide +kernel) (by decide +kernel) (by decide +kernel) ⟨rfl, rfl⟩ rfl rfl ck30) ?_
    rfl
  · skip
    rfl
theorem b187_133 {x1 x2 : Int32} {M : am_M} {w : am_W4}  : am_rn call 187 133 [some (am_P (30, 0, 0)), some (am_I x1), some (am_I x2)] [] M (am_Z w) = am_cb (call 129 [am_P (30, 0, 0), am_I x1, am_I (nI 6)] M (am_Z w)) fun v M' X' => am_rn call 187 140 [some (am_P (30, 0, 0)), some (am_I x1), some (am_I x2)] (v.toList ++ []) M' X' := by
  refine Eq.trans (rl_aloadn (j := 0) (by decide +kernel) rfl) ?_
  refine Eq.trans (rl_iloadn (j := 1) (by decide +kernel) rfl) ?_
  refine Eq.trans (rl_bipush (c := 6) (k := (nI 6)) (by decide +kernel) (by decide)) ?_
  refine Eq.trans (rl_inv (ix := 119) (n := 2) (o := 9) 129 [am_I x1, am_I (nI 6)] [] (by decide +kernel) (by decide +kernel) (by decide +kernel) (by decide +kernel) ⟨rfl, rfl⟩ rfl rfl ck30) ?_
  rfl
theorem b187_140 {x1 x2 s0 : Int32} {M : am_M} {w : am_W4}  : am_rn call 187 140 [some (am_P (30, 0, 0)), some (am_I x1), some (am_I x2)] [am_I s0] M (am_Z w) = if s0 = 0 then am_cb (call 186 [am_P (30, 0, 0), am_I (nI 64)] M (am_Z w)) fun v M' X' => am_rn call 187 149 [some (am_P (30, 0, 0)), some (am_I x1), some (am_I x2)] (v.toList ++ []) M' X' else am_rn call 187 163 [some (am_P (30, 0, 0)), some (am_I x1), some (am_I x2)] [] M (am_Z w) := by
  refine Eq.trans (rl_ifne (o := 23) 163 (by decide +kernel) (by decide)) ?_
  refine am_ite (fun h_1 => ?_) (fun h_1 => ?_)
  · skip
    refine Eq.trans (rl_aloadn (j := 0) (by decide +kernel) rfl) ?_
    refine Eq.trans (rl_bipush (c := 64) (k := (nI 64)) (by decide +kernel) (by decide)) ?_
    refine Eq.trans (rl_inv (ix := 217) (n := 1) (o := 9) 186 [am_I (nI 64)] [] (by decide +kernel) (by decide +kernel) (by decide +kernel) (by decide +kernel) ⟨rfl, rfl⟩ rfl rfl ck30) ?_
    rfl
  · skip
    rfl
theorem b187_149 {x1 x2 : Int32} {M : am_M} {w : am_W4}  : am_rn call 187 149 [some (am_P (30, 0, 0)), some (am_I x1), some (am_I x2)] [] M (am_Z w) = am_cb (call 129 [am_P (30, 0, 0), am_I x1, am_I (nI 2)] M (am_Z w)) fun v M' X' => am_rn call 187 158 [some (am_P (30, 0, 0)), some (am_I x1), some (am_I x2)] (v.toList ++ [am_I (nI 48), am_P (30, 0, 0)]) M' X' := by
  refine Eq.trans (rl_aloadn (j := 0) (by decide +kernel) rfl) ?_
  refine Eq.trans (rl_bipush (c := 48) (k := (nI 48)) (by decide +kernel) (by decide)) ?_
  refine Eq.trans (rl_aloadn (j := 0) (by decide +kernel) rfl) ?_
  refine Eq.trans (rl_iloadn (j := 1) (by decide +kernel) rfl) ?_
  refine Eq.trans (rl_iconst (c := 2) (k := (nI 2)) (by decide +kernel) (by decide)) ?_
  refine Eq.trans (rl_inv (ix := 119) (n := 2) (o := 9) 129 [am_I x1, am_I (nI 2)] [am_I (nI 48), am_P (30, 0, 0)] (by decide +kernel) (by decide +kernel) (by decide +kernel) (by decide +kernel) ⟨rfl, rfl⟩ rfl rfl ck30) ?_
  rfl
theorem b187_158 {x1 x2 s0 : Int32} {M : am_M} {w : am_W4}  : am_rn call 187 158 [some (am_P (30, 0, 0)), some (am_I x1), some (am_I x2)] [am_I s0, am_I (nI 48), am_P (30, 0, 0)] M (am_Z w) = am_cb (call 186 [am_P (30, 0, 0), am_I (((nI 48) + s0).toUInt32 % 65536).toInt32] M (am_Z w)) fun v M' X' => am_rn call 187 163 [some (am_P (30, 0, 0)), some (am_I x1), some (am_I x2)] (v.toList ++ []) M' X' := by
  refine Eq.trans (rl_iadd (by decide +kernel)) ?_
  refine Eq.trans (rl_i2c (by decide +kernel)) ?_
  refine Eq.trans (rl_inv (ix := 217) (n := 1) (o := 9) 186 [am_I (((nI 48) + s0).toUInt32 % 65536).toInt32] [] (by decide +kernel) (by decide +kernel) (by decide +kernel) (by decide +kernel) ⟨rfl, rfl⟩ rfl rfl ck30) ?_
  rfl
theorem b187_163 {x1 x2 : Int32} {M : am_M} {w : am_W4}  : am_rn call 187 163 [some (am_P (30, 0, 0)), some (am_I x1), some (am_I x2)] [] M (am_Z w) = some (.inl (some (am_I (M (30, 0, 0) 8))), M, (am_Z w)) := by
  refine Eq.trans (rl_aloadn (j := 0) (by decide +kernel) rfl) ?_
  refine Eq.trans (rl_get (ix := 214) (ci := 9) (j := 8) (by decide +kernel) (by decide +kernel) (by decide +kernel) ck30) ?_
  exact rl_iret (by decide +kernel) rfl
theorem e187 {d : Nat} {x1 : Int32} {M : am_M} {w : am_W4}  : am_ev (d + 1) 187 [am_P (30, 0, 0), am_I x1] M (am_Z w) = am_cb ((am_ev d) 127 [am_P (30, 0, 0), am_I x1] (am_set M (30, 0, 0) 20 (nI 0)) (am_Z w)) fun v M' X' => am_rn (am_ev d) 187 10 [some (am_P (30, 0, 0)), some (am_I x1), none] (v.toList ++ []) M' X' := (am_ev_eq d 187 _ M (am_Z w)).trans (b187_0)
theorem b188_0 {x1 : Int32} {M : am_M} {w : am_W4}  : am_rn call 188 0 [some (am_P (30, 0, 0)), some (am_I x1)] [] M (am_Z w) = am_rn call 188 5 [some (am_P (30, 0, 0)), some (am_I x1)] [] (am_set M (30, 0, 0) 20 (nI 0)) (am_Z w) := by
  refine Eq.trans (rl_aloadn (j := 0) (by decide +kernel) rfl) ?_
  refine Eq.trans (rl_iconst (c := 0) (k := (nI 0)) (by decide +kernel) (by decide)) ?_
  refine Eq.trans (rl_put (ix := 39) (ci := 9) (j := 20) (by decide +kernel) (by decide +kernel) (by decide +kernel) (by decide +kernel) ck30) ?_
  rfl
theorem b188_5 {x1 : Int32} {M : am_M} {w : am_W4}  : am_rn call 188 5 [some (am_P (30, 0, 0)), some (am_I x1)] [] M (am_Z w) = am_cb (call 116 [am_I x1, am_I (nI 0), am_I ((M (30, 0, 0) 8) - (nI 1))] M (am_Z w)) fun v M' X' => am_rn call 188 16 [some (am_P (30, 0, 0)), some (am_I x1)] (v.toList ++ []) M' X' := by
  refine Eq.trans (rl_iloadn (j := 1) (by decide +kernel) rfl) ?_
  refine Eq.trans (rl_iconst (c := 0) (k := (nI 0)) (by decide +kernel) (by decide)) ?_
  refine Eq.trans (rl_aloadn (j := 0) (by decide +kernel) rfl) ?_
  refine Eq.trans (rl_get (ix := 214) (ci := 9) (j := 8) (by decide +kernel) (by decide +kernel) (by decide +kernel) ck30) ?_
  refine Eq.trans (rl_iconst (c := 1) (k := (nI 1)) (by decide +kernel) (by decide)) ?_
  refine Eq.trans (rl_isub (by decide +kernel)) ?_
  refine Eq.trans (rl_invS (ix := 67) (n := 3) (k := 1) 116 [am_I x1, am_I (nI 0), am_I ((M (30, 0, 0) 8) - (nI 1))] [] (by decide +kernel) (by decide +kernel) (by decide) (by decide +kernel) ⟨rfl, rfl⟩ rfl rfl) ?_
  rfl
theorem b188_16 {x1 s0 : Int32} {M : am_M} {w : am_W4}  : am_rn call 188 16 [some (am_P (30, 0, 0)), some (am_I x1)] [am_I s0] M (am_Z w) = if s0 = 0 then am_cb (call 115 [am_P (30, 0, 0), am_I (nI 1)] M (am_Z w)) fun v M' X' => am_rn call 188 33 [some (am_P (30, 0, 0)), some (am_I x1)] (v.toList ++ []) M' X' else if am_in x1 20 then if am_pc 2 (M (36, 0, 0) x1.toNatClampNeg) = true then some (.inl (some (am_I (M (36, 0, 0) x1.toNatClampNeg))), M, (am_Z w)) else none else none := by
  refine Eq.trans (rl_ifeq (o := 12) 28 (by decide +kernel) (by decide)) ?_
  refine am_ite (fun h_1 => ?_) (fun h_1 => ?_)
  · skip
    refine Eq.trans (rl_aloadn (j := 0) (by decide +kernel) rfl) ?_
    refine Eq.trans (rl_iconst (c := 1) (k := (nI 1)) (by decide +kernel) (by decide)) ?_
    refine Eq.trans (rl_inv (ix := 64) (n := 1) (o := 9) 115 [am_I (nI 1)] [] (by decide +kernel) (by decide +kernel) (by decide +kernel) (by decide +kernel) ⟨rfl, rfl⟩ rfl rfl ck30) ?_
    rfl
  · skip
    refine Eq.trans (rl_aloadn (j := 0) (by decide +kernel) rfl) ?_
    refine Eq.trans (rl_getP (ix := 25) (ci := 9) (j := 7) (by decide +kernel) (by decide +kernel) (by decide +kernel) ck30 rfl) ?_
    refine Eq.trans (rl_iloadn (j := 1) (by decide +kernel) rfl) ?_
    refine Eq.trans (rl_cald (by decide +kernel) ka36) ?_
    refine am_ite (fun h_2 => ?_) (fun _ => rfl)
    refine Eq.trans (rl_goto (o := 9) 34 (by decide +kernel) (by decide)) ?_
    exact rl_cret (by decide +kernel) rfl
theorem b188_33 {x1 s0 : Int32} {M : am_M} {w : am_W4}  : am_rn call 188 33 [some (am_P (30, 0, 0)), some (am_I x1)] [am_I s0] M (am_Z w) = if am_pc 2 (s0.toUInt32 % 65536).toInt32 = true then some (.inl (some (am_I (s0.toUInt32 % 65536).toInt32)), M, (am_Z w)) else none := by
  refine Eq.trans (rl_i2c (by decide +kernel)) ?_
  exact rl_cret (by decide +kernel) rfl
theorem e188 {d : Nat} {x1 : Int32} {M : am_M} {w : am_W4}  : am_ev (d + 1) 188 [am_P (30, 0, 0), am_I x1] M (am_Z w) = am_rn (am_ev d) 188 5 [some (am_P (30, 0, 0)), some (am_I x1)] [] (am_set M (30, 0, 0) 20 (nI 0)) (am_Z w) := (am_ev_eq d 188 _ M (am_Z w)).trans (b188_0)
theorem b189_0  {M : am_M} {w : am_W4}  : am_rn call 189 0 [some (am_P (30, 0, 0)), none, none, none] [] M (am_Z w) = am_rn call 189 5 [some (am_P (30, 0, 0)), none, none, none] [] (am_set M (30, 0, 0) 20 (nI 0)) (am_Z w) := by
  refine Eq.trans (rl_aloadn (j := 0) (by decide +kernel) rfl) ?_
  refine Eq.trans (rl_iconst (c := 0) (k := (nI 0)) (by decide +kernel) (by decide)) ?_
  refine Eq.trans (rl_put (ix := 39) (ci := 9) (j := 20) (by decide +kernel) (by decide +kernel) (by decide +kernel) (by decide +kernel) ck30) ?_
  rfl
theorem b189_5  {M : am_M} {w : am_W4}  : am_rn call 189 5 [some (am_P (30, 0, 0)), none, none, none] [] M (am_Z w) = if (M (31, 0, 0) 1) = 0 then am_cb (call 115 [am_P (30, 0, 0), am_I (nI 1)] M (am_Z w)) fun v M' X' => am_rn call 189 21 [some (am_P (30, 0, 0)), some (am_I (M (31, 0, 0) 1)), none, none] (v.toList ++ []) M' X' else am_rn call 189 27 [some (am_P (30, 0, 0)), some (am_I (M (31, 0, 0) 1)), some (am_I (nI 0)), some (am_I (nI 0))] [] M (am_Z w) := by
  refine Eq.trans (rl_aloadn (j := 0) (by decide +kernel) rfl) ?_
  refine Eq.trans (rl_getP (ix := 9) (ci := 9) (j := 0) (by decide +kernel) (by decide +kernel) (by decide +kernel) ck30 rfl) ?_
  refine Eq.trans (rl_iconst (c := 1) (k := (nI 1)) (by decide +kernel) (by decide)) ?_
  refine Eq.trans (rl_iald' 1 (by decide +kernel) ka31 rfl rfl) ?_
  refine Eq.trans (rl_istoren (j := 1) (ls' := [some (am_P (30, 0, 0)), some (am_I (M (31, 0, 0) 1)), none, none]) (by decide +kernel) rfl rfl) ?_
  refine Eq.trans (rl_iloadn (j := 1) (by decide +kernel) rfl) ?_
  refine Eq.trans (rl_ifne (o := 10) 23 (by decide +kernel) (by decide)) ?_
  refine am_ite (fun h_1 => ?_) (fun h_1 => ?_)
  · skip
    refine Eq.trans (rl_aloadn (j := 0) (by decide +kernel) rfl) ?_
    refine Eq.trans (rl_iconst (c := 1) (k := (nI 1)) (by decide +kernel) (by decide)) ?_
    refine Eq.trans (rl_inv (ix := 64) (n := 1) (o := 9) 115 [am_I (nI 1)] [] (by decide +kernel) (by decide +kernel) (by decide +kernel) (by decide +kernel) ⟨rfl, rfl⟩ rfl rfl ck30) ?_
    rfl
  · skip
    refine Eq.trans (rl_iconst (c := 0) (k := (nI 0)) (by decide +kernel) (by decide)) ?_
    refine Eq.trans (rl_istoren (j := 2) (ls' := [some (am_P (30, 0, 0)), some (am_I (M (31, 0, 0) 1)), some (am_I (nI 0)), none]) (by decide +kernel) rfl rfl) ?_
    refine Eq.trans (rl_iconst (c := 0) (k := (nI 0)) (by decide +kernel) (by decide)) ?_
    refine Eq.trans (rl_istoren (j := 3) (ls' := [some (am_P (30, 0, 0)), some (am_I (M (31, 0, 0) 1)), some (am_I (nI 0)), some (am_I (nI 0))]) (by decide +kernel) rfl rfl) ?_
    rfl
theorem b189_21 {x1 s0 : Int32} {M : am_M} {w : am_W4}  : am_rn call 189 21 [some (am_P (30, 0, 0)), some (am_I x1), none, none] [am_I s0] M (am_Z w) = some (.inl (some (.inl (.float (FP.i2f s0)))), M, (am_Z w)) := by
  refine Eq.trans (rl_i2f (by decide +kernel)) ?_
  exact rl_fret (by decide +kernel) rfl
theorem b189_27 {x1 x2 x3 : Int32} {M : am_M} {w : am_W4}  : am_rn call 189 27 [some (am_P (30, 0, 0)), some (am_I x1), some (am_I x2), some (am_I x3)] [] M (am_Z w) = if x3 < x1 then am_cb (call 128 [am_P (30, 0, 0), am_I x3, am_I (nI 1)] M (am_Z w)) fun v M' X' => am_rn call 189 39 [some (am_P (30, 0, 0)), some (am_I x1), some (am_I x2), some (am_I x3)] (v.toList ++ [am_I x2]) M' X' else if FP.fdiv (FP.i2f x2) (FP.i2f x1) &&& 0x7fffffff ≤ 0x7f800000 then some (.inl (some (.inl (.float (FP.fdiv (FP.i2f x2) (FP.i2f x1))))), M, (am_Z w)) else none := by
  refine Eq.trans (rl_iloadn (j := 3) (by decide +kernel) rfl) ?_
  refine Eq.trans (rl_iloadn (j := 1) (by decide +kernel) rfl) ?_
  refine Eq.trans (rl_icge (o := 18) 47 (by decide +kernel) (by decide)) ?_
  refine am_ite (fun h_1 => ?_) (fun h_1 => ?_)
  · skip
    refine Eq.trans (rl_iloadn (j := 2) (by decide +kernel) rfl) ?_
    refine Eq.trans (rl_aloadn (j := 0) (by decide +kernel) rfl) ?_
    refine Eq.trans (rl_iloadn (j := 3) (by decide +kernel) rfl) ?_
    refine Eq.trans (rl_iconst (c := 1) (k := (nI 1)) (by decide +kernel) (by decide)) ?_
    refine Eq.trans (rl_inv (ix := 101) (n := 2) (o := 9) 128 [am_I x3, am_I (nI 1)] [am_I x2] (by decide +kernel) (by decide +kernel) (by decide +kernel) (by decide +kernel) ⟨rfl, rfl⟩ rfl rfl ck30) ?_
    rfl
  · skip
    refine Eq.trans (rl_iloadn (j := 2) (by decide +kernel) rfl) ?_
    refine Eq.trans (rl_i2f (by decide +kernel)) ?_
    refine Eq.trans (rl_iloadn (j := 1) (by decide +kernel) rfl) ?_
    refine Eq.trans (rl_i2f (by decide +kernel)) ?_
    refine Eq.trans (rl_fdiv (by decide +kernel)) ?_
    refine am_ite (fun h_2 => ?_) (fun _ => rfl)
    exact rl_fret (by decide +kernel) rfl
theorem b189_39 {x1 x2 x3 s0 s1 : Int32} {M : am_M} {w : am_W4}  : am_rn call 189 39 [some (am_P (30, 0, 0)), some (am_I x1), some (am_I x2), some (am_I x3)] [am_I s0, am_I s1] M (am_Z w) = am_rn call 189 27 [some (am_P (30, 0, 0)), some (am_I x1), some (am_I (s1 + s0)), some (am_I (x3 + (nI 1)))] [] M (am_Z w) := by
  refine Eq.trans (rl_iadd (by decide +kernel)) ?_
  refine Eq.trans (rl_istoren (j := 2) (ls' := [some (am_P (30, 0, 0)), some (am_I x1), some (am_I (s1 + s0)), some (am_I x3)]) (by decide +kernel) rfl rfl) ?_
  refine Eq.trans (rl_iinc (j := 3) (c := 1) (k := (nI 1)) (ls' := [some (am_P (30, 0, 0)), some (am_I x1), some (am_I (s1 + s0)), some (am_I (x3 + (nI 1)))]) (by decide +kernel) (by decide) rfl rfl) ?_
  refine Eq.trans (rl_goto (o := (-17)) 27 (by decide +kernel) (by decide)) ?_
  rfl
theorem e189 {d : Nat}  {M : am_M} {w : am_W4}  : am_ev (d + 1) 189 [am_P (30, 0, 0)] M (am_Z w) = am_rn (am_ev d) 189 5 [some (am_P (30, 0, 0)), none, none, none] [] (am_set M (30, 0, 0) 20 (nI 0)) (am_Z w) := (am_ev_eq d 189 _ M (am_Z w)).trans (b189_0)
theorem b190_0  {M : am_M} {w : am_W4}  : am_rn call 190 0 [some (am_P (30, 0, 0)), none, none] [] M (am_Z w) = am_rn call 190 9 [some (am_P (30, 0, 0)), some (am_I (nI 0)), some (am_I (nI 0))] [] (am_set M (30, 0, 0) 20 (nI 0)) (am_Z w) := by
  refine Eq.trans (rl_aloadn (j := 0) (by decide +kernel) rfl) ?_
  refine Eq.trans (rl_iconst (c := 0) (k := (nI 0)) (by decide +kernel) (by decide)) ?_
  refine Eq.trans (rl_put (ix := 39) (ci := 9) (j := 20) (by decide +kernel) (by decide +kernel) (by decide +kernel) (by decide +kernel) ck30) ?_
  refine Eq.trans (rl_iconst (c := 0) (k := (nI 0)) (by decide +kernel) (by decide)) ?_
  refine Eq.trans (rl_istoren (j := 1) (ls' := [some (am_P (30, 0, 0)), some (am_I (nI 0)), none]) (by decide +kernel) rfl rfl) ?_
  refine Eq.trans (rl_iconst (c := 0) (k := (nI 0)) (by decide +kernel) (by decide)) ?_
  refine Eq.trans (rl_istoren (j := 2) (ls' := [some (am_P (30, 0, 0)), some (am_I (nI 0)), some (am_I (nI 0))]) (by decide +kernel) rfl rfl) ?_
  rfl
theorem b190_9 {x1 x2 : Int32} {M : am_M} {w : am_W4}  : am_rn call 190 9 [some (am_P (30, 0, 0)), some (am_I x1), some (am_I x2)] [] M (am_Z w) = if x2 < (M (31, 0, 0) 2) then am_cb (call 129 [am_P (30, 0, 0), am_I x2, am_I (nI 3)] M (am_Z w)) fun v M' X' => am_rn call 190 26 [some (am_P (30, 0, 0)), some (am_I x1), some (am_I x2)] (v.toList ++ [am_I x1]) M' X' else if x1 = 0 then am_cb (call 115 [am_P (30, 0, 0), am_I (nI 1)] M (am_Z w)) fun v M' X' => am_rn call 190 43 [some (am_P (30, 0, 0)), some (am_I x1), some (am_I x2)] (v.toList ++ []) M' X' else am_cb (call 174 [am_P (30, 0, 0)] M (am_Z w)) fun v M' X' => am_rn call 190 51 [some (am_P (30, 0, 0)), some (am_I x1), some (am_I x2)] (v.toList ++ []) M' X' := by
  refine Eq.trans (rl_iloadn (j := 2) (by decide +kernel) rfl) ?_
  refine Eq.trans (rl_aloadn (j := 0) (by decide +kernel) rfl) ?_
  refine Eq.trans (rl_getP (ix := 9) (ci := 9) (j := 0) (by decide +kernel) (by decide +kernel) (by decide +kernel) ck30 rfl) ?_
  refine Eq.trans (rl_iconst (c := 2) (k := (nI 2)) (by decide +kernel) (by decide)) ?_
  refine Eq.trans (rl_iald' 2 (by decide +kernel) ka31 rfl rfl) ?_
  refine Eq.trans (rl_icge (o := 18) 34 (by decide +kernel) (by decide)) ?_
  refine am_ite (fun h_1 => ?_) (fun h_1 => ?_)
  · skip
    refine Eq.trans (rl_iloadn (j := 1) (by decide +kernel) rfl) ?_
    refine Eq.trans (rl_aloadn (j := 0) (by decide +kernel) rfl) ?_
    refine Eq.trans (rl_iloadn (j := 2) (by decide +kernel) rfl) ?_
    refine Eq.trans (rl_iconst (c := 3) (k := (nI 3)) (by decide +kernel) (by decide)) ?_
    refine Eq.trans (rl_inv (ix := 119) (n := 2) (o := 9) 129 [am_I x2, am_I (nI 3)] [am_I x1] (by decide +kernel) (by decide +kernel) (by decide +kernel) (by decide +kernel) ⟨rfl, rfl⟩ rfl rfl ck30) ?_
    rfl
  · skip
    refine Eq.trans (rl_iloadn (j := 1) (by decide +kernel) rfl) ?_
    refine Eq.trans (rl_ifne (o := 12) 47 (by decide +kernel) (by decide)) ?_
    refine am_ite (fun h_2 => ?_) (fun h_2 => ?_)
    · skip
      refine Eq.trans (rl_aloadn (j := 0) (by decide +kernel) rfl) ?_
      refine Eq.trans (rl_iconst (c := 1) (k := (nI 1)) (by decide +kernel) (by decide)) ?_
      refine Eq.trans (rl_inv (ix := 64) (n := 1) (o := 9) 115 [am_I (nI 1)] [] (by decide +kernel) (by decide +kernel) (by decide +kernel) (by decide +kernel) ⟨rfl, rfl⟩ rfl rfl ck30) ?_
      rfl
    · skip
      refine Eq.trans (rl_aloadn (j := 0) (by decide +kernel) rfl) ?_
      refine Eq.trans (rl_inv (ix := 177) (n := 0) (o := 9) 174 [] [] (by decide +kernel) (by decide +kernel) (by decide +kernel) (by decide +kernel) ⟨rfl, rfl⟩ rfl rfl ck30) ?_
      rfl
theorem b190_26 {x1 x2 s0 s1 : Int32} {M : am_M} {w : am_W4}  : am_rn call 190 26 [some (am_P (30, 0, 0)), some (am_I x1), some (am_I x2)] [am_I s0, am_I s1] M (am_Z w) = am_rn call 190 9 [some (am_P (30, 0, 0)), some (am_I (s1 + s0)), some (am_I (x2 + (nI 1)))] [] M (am_Z w) := by
  refine Eq.trans (rl_iadd (by decide +kernel)) ?_
  refine Eq.trans (rl_istoren (j := 1) (ls' := [some (am_P (30, 0, 0)), some (am_I (s1 + s0)), some (am_I x2)]) (by decide +kernel) rfl rfl) ?_
  refine Eq.trans (rl_iinc (j := 2) (c := 1) (k := (nI 1)) (ls' := [some (am_P (30, 0, 0)), some (am_I (s1 + s0)), some (am_I (x2 + (nI 1)))]) (by decide +kernel) (by decide) rfl rfl) ?_
  refine Eq.trans (rl_goto (o := (-22)) 9 (by decide +kernel) (by decide)) ?_
  rfl
theorem b190_43 {x1 x2 s0 : Int32} {M : am_M} {w : am_W4}  : am_rn call 190 43 [some (am_P (30, 0, 0)), some (am_I x1), some (am_I x2)] [am_I s0] M (am_Z w) = some (.inl (some (.inl (.double (FP.i2d s0)))), M, (am_Z w)) := by
  refine Eq.trans (rl_i2d (by decide +kernel)) ?_
  refine Eq.trans (rl_goto (o := 11) 55 (by decide +kernel) (by decide)) ?_
  exact rl_dret (by decide +kernel) rfl
theorem b190_51 {x1 x2 s0 : Int32} {M : am_M} {w : am_W4}  : am_rn call 190 51 [some (am_P (30, 0, 0)), some (am_I x1), some (am_I x2)] [am_I s0] M (am_Z w) = if FP.ddiv (FP.i2d s0) (FP.i2d x1) &&& 0x7fffffffffffffff ≤ 0x7ff0000000000000 then some (.inl (some (.inl (.double (FP.ddiv (FP.i2d s0) (FP.i2d x1))))), M, (am_Z w)) else none := by
  refine Eq.trans (rl_i2d (by decide +kernel)) ?_
  refine Eq.trans (rl_iloadn (j := 1) (by decide +kernel) rfl) ?_
  refine Eq.trans (rl_i2d (by decide +kernel)) ?_
  refine Eq.trans (rl_ddiv (by decide +kernel)) ?_
  refine am_ite (fun h_1 => ?_) (fun _ => rfl)
  exact rl_dret (by decide +kernel) rfl
theorem e190 {d : Nat}  {M : am_M} {w : am_W4}  : am_ev (d + 1) 190 [am_P (30, 0, 0)] M (am_Z w) = am_rn (am_ev d) 190 9 [some (am_P (30, 0, 0)), some (am_I (nI 0)), some (am_I (nI 0))] [] (am_set M (30, 0, 0) 20 (nI 0)) (am_Z w) := (am_ev_eq d 190 _ M (am_Z w)).trans (b190_0)
theorem b191_0 {x1 : Int32} {M : am_M} {w : am_W4}  : am_rn call 191 0 [some (am_P (30, 0, 0)), some (am_I x1), none, none] [] M (am_Z w) = am_rn call 191 5 [some (am_P (30, 0, 0)), some (am_I x1), none, none] [] (am_set M (30, 0, 0) 20 (nI 0)) (am_Z w) := by
  refine Eq.trans (rl_aloadn (j := 0) (by decide +kernel) rfl) ?_
  refine Eq.trans (rl_iconst (c := 0) (k := (nI 0)) (by decide +kernel) (by decide)) ?_
  refine Eq.trans (rl_put (ix := 39) (ci := 9) (j := 20) (by decide +kernel) (by decide +kernel) (by decide +kernel) (by decide +kernel) ck30) ?_
  rfl
theorem b191_5 {x1 : Int32} {M : am_M} {w : am_W4}  : am_rn call 191 5 [some (am_P (30, 0, 0)), some (am_I x1), none, none] [] M (am_Z w) = if x1 = (nI 0) then some (.inl (some (am_I (M (31, 0, 0) 0))), M, (am_Z w)) else if x1 = (nI 1) then some (.inl (some (am_I ((M (31, 0, 0) 0) - (M (31, 0, 0) 0) / (nI 24) * (nI 24)))), M, (am_Z w)) else if x1 = (nI 2) then some (.inl (some (am_I (M (31, 0, 0) 1))), M, (am_Z w)) else if x1 = (nI 3) then am_rn call 191 98 [some (am_P (30, 0, 0)), some (am_I x1), some (am_I (nI 0)), some (am_I (nI 0))] [] M (am_Z w) else if x1 = (nI 4) then some (.inl (some (am_I (M (31, 0, 0) 2))), M, (am_Z w)) else if x1 = (nI 5) then am_cb (call 156 [am_P (30, 0, 0), am_I (x1 - (nI 5))] M (am_Z w)) fun v M' X' => am_rn call 191 140 [some (am_P (30, 0, 0)), some (am_I x1), some (am_I (nI 0)), none] (v.toList ++ []) M' X' else if x1 = (nI 6) then am_cb (call 156 [am_P (30, 0, 0), am_I (x1 - (nI 5))] M (am_Z w)) fun v M' X' => am_rn call 191 140 [some (am_P (30, 0, 0)), some (am_I x1), some (am_I (nI 0)), none] (v.toList ++ []) M' X' else if x1 = (nI 7) then am_cb (call 156 [am_P (30, 0, 0), am_I (x1 - (nI 5))] M (am_Z w)) fun v M' X' => am_rn call 191 140 [some (am_P (30, 0, 0)), some (am_I x1), some (am_I (nI 0)), none] (v.toList ++ []) M' X' else if x1 = (nI 8) then am_rn call 191 143 [some (am_P (30, 0, 0)), some (am_I x1), some (am_I (nI 0)), some (am_I (nI 0))] [] M (am_Z w) else if x1 = (nI 9) then am_rn call 191 172 [some (am_P (30, 0, 0)), some (am_I x1), some (am_I (nI 0)), some (am_I (nI 0))] [] M (am_Z w) else if x1 = (nI 10) then some (.inl (some (am_I (M (30, 0, 0) 4))), M, (am_Z w)) else if x1 = (nI 11) then some (.inl (some (am_I (M (30, 0, 0) 10))), M, (am_Z w)) else am_cb (call 115 [am_P (30, 0, 0), am_I (nI 1)] M (am_Z w)) fun v M' X' => am_rn call 191 216 [some (am_P (30, 0, 0)), some (am_I x1), some (am_I (nI 0)), none] (v.toList ++ []) M' X' := by
  refine Eq.trans (rl_iconst (c := 0) (k := (nI 0)) (by decide +kernel) (by decide)) ?_
  refine Eq.trans (rl_istoren (j := 2) (ls' := [some (am_P (30, 0, 0)), some (am_I x1), some (am_I (nI 0)), none]) (by decide +kernel) rfl rfl) ?_
  refine Eq.trans (rl_iloadn (j := 1) (by decide +kernel) rfl) ?_
  refine Eq.trans (rl_ts (d := 203) (lo := 0) (hi := 11) (os := #[64, 71, 81, 88, 118, 125, 125, 125, 133, 162, 193, 198]) 211 [72, 79, 89, 96, 126, 133, 133, 133, 141, 170, 201, 206] (by decide +kernel) (by decide +kernel)) ?_
  refine Eq.trans (rl_sw (nI 0) (by decide)) ?_
  refine am_ite (fun _ => ?_) (fun _ => ?_)
  · skip
    refine Eq.trans (rl_aloadn (j := 0) (by decide +kernel) rfl) ?_
    refine Eq.trans (rl_getP (ix := 9) (ci := 9) (j := 0) (by decide +kernel) (by decide +kernel) (by decide +kernel) ck30 rfl) ?_
    refine Eq.trans (rl_iconst (c := 0) (k := (nI 0)) (by decide +kernel) (by decide)) ?_
    refine Eq.trans (rl_iald' 0 (by decide +kernel) ka31 rfl rfl) ?_
    exact rl_iret (by decide +kernel) rfl
  refine Eq.trans (rl_sw (nI 1) (by decide)) ?_
  refine am_ite (fun _ => ?_) (fun _ => ?_)
  · skip
    refine Eq.trans (rl_aloadn (j := 0) (by decide +kernel) rfl) ?_
    refine Eq.trans (rl_getP (ix := 9) (ci := 9) (j := 0) (by decide +kernel) (by decide +kernel) (by decide +kernel) ck30 rfl) ?_
    refine Eq.trans (rl_iconst (c := 0) (k := (nI 0)) (by decide +kernel) (by decide)) ?_
    refine Eq.trans (rl_iald' 0 (by decide +kernel) ka31 rfl rfl) ?_
    refine Eq.trans (rl_bipush (c := 24) (k := (nI 24)) (by decide +kernel) (by decide)) ?_
    refine Eq.trans (rl_irem (by decide +kernel) rfl) ?_
    exact rl_iret (by decide +kernel) rfl
  refine Eq.trans (rl_sw (nI 2) (by decide)) ?_
  refine am_ite (fun _ => ?_) (fun _ => ?_)
  · skip
    refine Eq.trans (rl_aloadn (j := 0) (by decide +kernel) rfl) ?_
    refine Eq.trans (rl_getP (ix := 9) (ci := 9) (j := 0) (by decide +kernel) (by decide +kernel) (by decide +kernel) ck30 rfl) ?_
    refine Eq.trans (rl_iconst (c := 1) (k := (nI 1)) (by decide +kernel) (by decide)) ?_
    refine Eq.trans (rl_iald' 1 (by decide +kernel) ka31 rfl rfl) ?_
    exact rl_iret (by decide +kernel) rfl
  refine Eq.trans (rl_sw (nI 3) (by decide)) ?_
  refine am_ite (fun _ => ?_) (fun _ => ?_)
  · skip
    refine Eq.trans (rl_iconst (c := 0) (k := (nI 0)) (by decide +kernel) (by decide)) ?_
    refine Eq.trans (rl_istoren (j := 3) (ls' := [some (am_P (30, 0, 0)), some (am_I x1), some (am_I (nI 0)), some (am_I (nI 0))]) (by decide +kernel) rfl rfl) ?_
    rfl
  refine Eq.trans (rl_sw (nI 4) (by decide)) ?_
  refine am_ite (fun _ => ?_) (fun _ => ?_)
  · skip
    refine Eq.trans (rl_aloadn (j := 0) (by decide +kernel) rfl) ?_
    refine Eq.trans (rl_getP (ix := 9) (ci := 9) (j := 0) (by decide +kernel) (by decide +kernel) (by decide +kernel) ck30 rfl) ?_
    refine Eq.trans (rl_iconst (c := 2) (k := (nI 2)) (by decide +kernel) (by decide)) ?_
    refine Eq.trans (rl_iald' 2 (by decide +kernel) ka31 rfl rfl) ?_
    exact rl_iret (by decide +kernel) rfl
  refine Eq.trans (rl_sw (nI 5) (by decide)) ?_
  refine am_ite (fun _ => ?_) (fun _ => ?_)
  · skip
    refine Eq.trans (rl_aloadn (j := 0) (by decide +kernel) rfl) ?_
    refine Eq.trans (rl_iloadn (j := 1) (by decide +kernel) rfl) ?_
    refine Eq.trans (rl_iconst (c := 5) (k := (nI 5)) (by decide +kernel) (by decide)) ?_
    refine Eq.trans (rl_isub (by decide +kernel)) ?_
    refine Eq.trans (rl_inv (ix := 221) (n := 1) (o := 9) 156 [am_I (x1 - (nI 5))] [] (by decide +kernel) (by decide +kernel) (by decide +kernel) (by decide +kernel) ⟨rfl, rfl⟩ rfl rfl ck30) ?_
    rfl
  refine Eq.trans (rl_sw (nI 6) (by decide)) ?_
  refine am_ite (fun _ => ?_) (fun _ => ?_)
  · skip
    refine Eq.trans (rl_aloadn (j := 0) (by decide +kernel) rfl) ?_
    refine Eq.trans (rl_iloadn (j := 1) (by decide +kernel) rfl) ?_
    refine Eq.trans (rl_iconst (c := 5) (k := (nI 5)) (by decide +kernel) (by decide)) ?_
    refine Eq.trans (rl_isub (by decide +kernel)) ?_
    refine Eq.trans (rl_inv (ix := 221) (n := 1) (o := 9) 156 [am_I (x1 - (nI 5))] [] (by decide +kernel) (by decide +kernel) (by decide +kernel) (by decide +kernel) ⟨rfl, rfl⟩ rfl rfl ck30) ?_
    rfl
  refine Eq.trans (rl_sw (nI 7) (by decide)) ?_
  refine am_ite (fun _ => ?_) (fun _ => ?_)
  · skip
    refine Eq.trans (rl_aloadn (j := 0) (by decide +kernel) rfl) ?_
    refine Eq.trans (rl_iloadn (j := 1) (by decide +kernel) rfl) ?_
    refine Eq.trans (rl_iconst (c := 5) (k := (nI 5)) (by decide +kernel) (by decide)) ?_
    refine Eq.trans (rl_isub (by decide +kernel)) ?_
    refine Eq.trans (rl_inv (ix := 221) (n := 1) (o := 9) 156 [am_I (x1 - (nI 5))] [] (by decide +kernel) (by decide +kernel) (by decide +kernel) (by decide +kernel) ⟨rfl, rfl⟩ rfl rfl ck30) ?_
    rfl
  refine Eq.trans (rl_sw (nI 8) (by decide)) ?_
  refine am_ite (fun _ => ?_) (fun _ => ?_)
  · skip
    refine Eq.trans (rl_iconst (c := 0) (k := (nI 0)) (by decide +kernel) (by decide)) ?_
    refine Eq.trans (rl_istoren (j := 3) (ls' := [some (am_P (30, 0, 0)), some (am_I x1), some (am_I (nI 0)), some (am_I (nI 0))]) (by decide +kernel) rfl rfl) ?_
    rfl
  refine Eq.trans (rl_sw (nI 9) (by decide)) ?_
  refine am_ite (fun _ => ?_) (fun _ => ?_)
  · skip
    refine Eq.trans (rl_iconst (c := 0) (k := (nI 0)) (by decide +kernel) (by decide)) ?_
    refine Eq.trans (rl_istoren (j := 3) (ls' := [some (am_P (30, 0, 0)), some (am_I x1), some (am_I (nI 0)), some (am_I (nI 0))]) (by decide +kernel) rfl rfl) ?_
    rfl
  refine Eq.trans (rl_sw (nI 10) (by decide)) ?_
  refine am_ite (fun _ => ?_) (fun _ => ?_)
  · skip
    refine Eq.trans (rl_aloadn (j := 0) (by decide +kernel) rfl) ?_
    refine Eq.trans (rl_get (ix := 45) (ci := 9) (j := 4) (by decide +kernel) (by decide +kernel) (by decide +kernel) ck30) ?_
    exact rl_iret (by decide +kernel) rfl
  refine Eq.trans (rl_sw (nI 11) (by decide)) ?_
  refine am_ite (fun _ => ?_) (fun _ => ?_)
  · skip
    refine Eq.trans (rl_aloadn (j := 0) (by decide +kernel) rfl) ?_
    refine Eq.trans (rl_get (ix := 180) (ci := 9) (j := 10) (by decide +kernel) (by decide +kernel) (by decide +kernel) ck30) ?_
    exact rl_iret (by decide +kernel) rfl
  show am_rn call 191 211 _ _ _ _ = _
  refine Eq.trans (rl_aloadn (j := 0) (by decide +kernel) rfl) ?_
  refine Eq.trans (rl_iconst (c := 1) (k := (nI 1)) (by decide +kernel) (by decide)) ?_
  refine Eq.trans (rl_inv (ix := 64) (n := 1) (o := 9) 115 [am_I (nI 1)] [] (by decide +kernel) (by decide +kernel) (by decide +kernel) (by decide +kernel) ⟨rfl, rfl⟩ rfl rfl ck30) ?_
  rfl
theorem b191_98 {x1 x2 x3 : Int32} {M : am_M} {w : am_W4}  : am_rn call 191 98 [some (am_P (30, 0, 0)), some (am_I x1), some (am_I x2), some (am_I x3)] [] M (am_Z w) = if x3 < (nI 8) then if am_in ((nI 4) + x3) 364 then if 0 < (M (31, 0, 0) ((nI 4) + x3).toNatClampNeg) then am_rn call 191 118 [some (am_P (30, 0, 0)), some (am_I x1), some (am_I (x2 + (nI 1))), some (am_I x3)] [] M (am_Z w) else am_rn call 191 118 [some (am_P (30, 0, 0)), some (am_I x1), some (am_I x2), some (am_I x3)] [] M (am_Z w) else none else some (.inl (some (am_I x2)), M, (am_Z w)) := by
  refine Eq.trans (rl_iloadn (j := 3) (by decide +kernel) rfl) ?_
  refine Eq.trans (rl_bipush (c := 8) (k := (nI 8)) (by decide +kernel) (by decide)) ?_
  refine Eq.trans (rl_icge (o := 23) 124 (by decide +kernel) (by decide)) ?_
  refine am_ite (fun h_1 => ?_) (fun h_1 => ?_)
  · skip
    refine Eq.trans (rl_aloadn (j := 0) (by decide +kernel) rfl) ?_
    refine Eq.trans (rl_getP (ix := 9) (ci := 9) (j := 0) (by decide +kernel) (by decide +kernel) (by decide +kernel) ck30 rfl) ?_
    refine Eq.trans (rl_iconst (c := 4) (k := (nI 4)) (by decide +kernel) (by decide)) ?_
    refine Eq.trans (rl_iloadn (j := 3) (by decide +kernel) rfl) ?_
    refine Eq.trans (rl_iadd (by decide +kernel)) ?_
    refine Eq.trans (rl_iald (by decide +kernel) ka31) ?_
    refine am_ite (fun h_2 => ?_) (fun _ => rfl)
    refine Eq.trans (rl_ifle (o := 6) 118 (by decide +kernel) (by decide)) ?_
    refine am_ite (fun h_3 => ?_) (fun h_3 => ?_)
    · skip
      refine Eq.trans (rl_iinc (j := 2) (c := 1) (k := (nI 1)) (ls' := [some (am_P (30, 0, 0)), some (am_I x1), some (am_I (x2 + (nI 1))), some (am_I x3)]) (by decide +kernel) (by decide) rfl rfl) ?_
      rfl
    · skip
      rfl
  · skip
    refine Eq.trans (rl_iloadn (j := 2) (by decide +kernel) rfl) ?_
    exact rl_iret (by decide +kernel) rfl
theorem b191_118 {x1 x2 x3 : Int32} {M : am_M} {w : am_W4}  : am_rn call 191 118 [some (am_P (30, 0, 0)), some (am_I x1), some (am_I x2), some (am_I x3)] [] M (am_Z w) = am_rn call 191 98 [some (am_P (30, 0, 0)), some (am_I x1), some (am_I x2), some (am_I (x3 + (nI 1)))] [] M (am_Z w) := by
  refine Eq.trans (rl_iinc (j := 3) (c := 1) (k := (nI 1)) (ls' := [some (am_P (30, 0, 0)), some (am_I x1), some (am_I x2), some (am_I (x3 + (nI 1)))]) (by decide +kernel) (by decide) rfl rfl) ?_
  refine Eq.trans (rl_goto (o := (-23)) 98 (by decide +kernel) (by decide)) ?_
  rfl
theorem b191_140 {x1 x2 s0 : Int32} {M : am_M} {w : am_W4}  : am_rn call 191 140 [some (am_P (30, 0, 0)), some (am_I x1), some (am_I x2), none] [am_I s0] M (am_Z w) = some (.inl (some (am_I s0)), M, (am_Z w)) := by
  exact rl_iret (by decide +kernel) rfl
theorem b191_143 {x1 x2 x3 : Int32} {M : am_M} {w : am_W4}  : am_rn call 191 143 [some (am_P (30, 0, 0)), some (am_I x1), some (am_I x2), some (am_I x3)] [] M (am_Z w) = if x3 < (M (31, 0, 0) 1) then am_cb (call 128 [am_P (30, 0, 0), am_I x3, am_I (nI 4)] M (am_Z w)) fun v M' X' => am_rn call 191 160 [some (am_P (30, 0, 0)), some (am_I x1), some (am_I x2), some (am_I x3)] (v.toList ++ [am_I x2]) M' X' else some (.inl (some (am_I x2)), M, (am_Z w)) := by
  refine Eq.trans (rl_iloadn (j := 3) (by decide +kernel) rfl) ?_
  refine Eq.trans (rl_aloadn (j := 0) (by decide +kernel) rfl) ?_
  refine Eq.trans (rl_getP (ix := 9) (ci := 9) (j := 0) (by decide +kernel) (by decide +kernel) (by decide +kernel) ck30 rfl) ?_
  refine Eq.trans (rl_iconst (c := 1) (k := (nI 1)) (by decide +kernel) (by decide)) ?_
  refine Eq.trans (rl_iald' 1 (by decide +kernel) ka31 rfl rfl) ?_
  refine Eq.trans (rl_icge (o := 18) 168 (by decide +kernel) (by decide)) ?_
  refine am_ite (fun h_1 => ?_) (fun h_1 => ?_)
  · skip
    refine Eq.trans (rl_iloadn (j := 2) (by decide +kernel) rfl) ?_
    refine Eq.trans (rl_aloadn (j := 0) (by decide +kernel) rfl) ?_
    refine Eq.trans (rl_iloadn (j := 3) (by decide +kernel) rfl) ?_
    refine Eq.trans (rl_iconst (c := 4) (k := (nI 4)) (by decide +kernel) (by decide)) ?_
    refine Eq.trans (rl_inv (ix := 101) (n := 2) (o := 9) 128 [am_I x3, am_I (nI 4)] [am_I x2] (by decide +kernel) (by decide +kernel) (by decide +kernel) (by decide +kernel) ⟨rfl, rfl⟩ rfl rfl ck30) ?_
    rfl
  · skip
    refine Eq.trans (rl_iloadn (j := 2) (by decide +kernel) rfl) ?_
    exact rl_iret (by decide +kernel) rfl
theorem b191_160 {x1 x2 x3 s0 s1 : Int32} {M : am_M} {w : am_W4}  : am_rn call 191 160 [some (am_P (30, 0, 0)), some (am_I x1), some (am_I x2), some (am_I x3)] [am_I s0, am_I s1] M (am_Z w) = am_rn call 191 143 [some (am_P (30, 0, 0)), some (am_I x1), some (am_I (s1 + s0)), some (am_I (x3 + (nI 1)))] [] M (am_Z w) := by
  refine Eq.trans (rl_iadd (by decide +kernel)) ?_
  refine Eq.trans (rl_istoren (j := 2) (ls' := [some (am_P (30, 0, 0)), some (am_I x1), some (am_I (s1 + s0)), some (am_I x3)]) (by decide +kernel) rfl rfl) ?_
  refine Eq.trans (rl_iinc (j := 3) (c := 1) (k := (nI 1)) (ls' := [some (am_P (30, 0, 0)), some (am_I x1), some (am_I (s1 + s0)), some (am_I (x3 + (nI 1)))]) (by decide +kernel) (by decide) rfl rfl) ?_
  refine Eq.trans (rl_goto (o := (-22)) 143 (by decide +kernel) (by decide)) ?_
  rfl
theorem b191_172 {x1 x2 x3 : Int32} {M : am_M} {w : am_W4}  : am_rn call 191 172 [some (am_P (30, 0, 0)), some (am_I x1), some (am_I x2), some (am_I x3)] [] M (am_Z w) = if x3 < (M (31, 0, 0) 1) then am_cb (call 144 [am_P (30, 0, 0), am_I x3] M (am_Z w)) fun v M' X' => am_rn call 191 187 [some (am_P (30, 0, 0)), some (am_I x1), some (am_I x2), some (am_I x3)] (v.toList ++ []) M' X' else some (.inl (some (am_I x2)), M, (am_Z w)) := by
  refine Eq.trans (rl_iloadn (j := 3) (by decide +kernel) rfl) ?_
  refine Eq.trans (rl_aloadn (j := 0) (by decide +kernel) rfl) ?_
  refine Eq.trans (rl_getP (ix := 9) (ci := 9) (j := 0) (by decide +kernel) (by decide +kernel) (by decide +kernel) ck30 rfl) ?_
  refine Eq.trans (rl_iconst (c := 1) (k := (nI 1)) (by decide +kernel) (by decide)) ?_
  refine Eq.trans (rl_iald' 1 (by decide +kernel) ka31 rfl rfl) ?_
  refine Eq.trans (rl_icge (o := 20) 199 (by decide +kernel) (by decide)) ?_
  refine am_ite (fun h_1 => ?_) (fun h_1 => ?_)
  · skip
    refine Eq.trans (rl_aloadn (j := 0) (by decide +kernel) rfl) ?_
    refine Eq.trans (rl_iloadn (j := 3) (by decide +kernel) rfl) ?_
    refine Eq.trans (rl_inv (ix := 142) (n := 1) (o := 9) 144 [am_I x3] [] (by decide +kernel) (by decide +kernel) (by decide +kernel) (by decide +kernel) ⟨rfl, rfl⟩ rfl rfl ck30) ?_
    rfl
  · skip
    refine Eq.trans (rl_iloadn (j := 2) (by decide +kernel) rfl) ?_
    exact rl_iret (by decide +kernel) rfl
theorem b191_187 {x1 x2 x3 s0 : Int32} {M : am_M} {w : am_W4}  : am_rn call 191 187 [some (am_P (30, 0, 0)), some (am_I x1), some (am_I x2), some (am_I x3)] [am_I s0] M (am_Z w) = if s0 = 0 then am_rn call 191 193 [some (am_P (30, 0, 0)), some (am_I x1), some (am_I x2), some (am_I x3)] [] M (am_Z w) else am_rn call 191 193 [some (am_P (30, 0, 0)), some (am_I x1), some (am_I (x2 + (nI 1))), some (am_I x3)] [] M (am_Z w) := by
  refine Eq.trans (rl_ifeq (o := 6) 193 (by decide +kernel) (by decide)) ?_
  refine am_ite (fun h_1 => ?_) (fun h_1 => ?_)
  · skip
    rfl
  · skip
    refine Eq.trans (rl_iinc (j := 2) (c := 1) (k := (nI 1)) (ls' := [some (am_P (30, 0, 0)), some (am_I x1), some (am_I (x2 + (nI 1))), some (am_I x3)]) (by decide +kernel) (by decide) rfl rfl) ?_
    rfl
theorem b191_193 {x1 x2 x3 : Int32} {M : am_M} {w : am_W4}  : am_rn call 191 193 [some (am_P (30, 0, 0)), some (am_I x1), some (am_I x2), some (am_I x3)] [] M (am_Z w) = am_rn call 191 172 [some (am_P (30, 0, 0)), some (am_I x1), some (am_I x2), some (am_I (x3 + (nI 1)))] [] M (am_Z w) := by
  refine Eq.trans (rl_iinc (j := 3) (c := 1) (k := (nI 1)) (ls' := [some (am_P (30, 0, 0)), some (am_I x1), some (am_I x2), some (am_I (x3 + (nI 1)))]) (by decide +kernel) (by decide) rfl rfl) ?_
  refine Eq.trans (rl_goto (o := (-24)) 172 (by decide +kernel) (by decide)) ?_
  rfl
theorem b191_216 {x1 x2 s0 : Int32} {M : am_M} {w : am_W4}  : am_rn call 191 216 [some (am_P (30, 0, 0)), some (am_I x1), some (am_I x2), none] [am_I s0] M (am_Z w) = some (.inl (some (am_I s0)), M, (am_Z w)) := by
  exact rl_iret (by decide +kernel) rfl
theorem e191 {d : Nat} {x1 : Int32} {M : am_M} {w : am_W4}  : am_ev (d + 1) 191 [am_P (30, 0, 0), am_I x1] M (am_Z w) = am_rn (am_ev d) 191 5 [some (am_P (30, 0, 0)), some (am_I x1), none, none] [] (am_set M (30, 0, 0) 20 (nI 0)) (am_Z w) := (am_ev_eq d 191 _ M (am_Z w)).trans (b191_0)
theorem b192_0  {M : am_M} {w : am_W4}  : am_rn call 192 0 [some (am_P (30, 0, 0)), none] [] M (am_Z w) = am_rn call 192 5 [some (am_P (30, 0, 0)), none] [] (am_set M (30, 0, 0) 20 (nI 0)) (am_Z w) := by
  refine Eq.trans (rl_aloadn (j := 0) (by decide +kernel) rfl) ?_
  refine Eq.trans (rl_iconst (c := 0) (k := (nI 0)) (by decide +kernel) (by decide)) ?_
  refine Eq.trans (rl_put (ix := 39) (ci := 9) (j := 20) (by decide +kernel) (by decide +kernel) (by decide +kernel) (by decide +kernel) ck30) ?_
  rfl
theorem b192_5  {M : am_M} {w : am_W4}  : am_rn call 192 5 [some (am_P (30, 0, 0)), none] [] M (am_Z w) = if (M (30, 0, 0) 4) = 0 then am_cb (call 115 [am_P (30, 0, 0), am_I (nI 1)] M (am_Z w)) fun v M' X' => am_rn call 192 17 [some (am_P (30, 0, 0)), none] (v.toList ++ []) M' X' else am_rn call 192 30 [some (am_P (30, 0, 0)), some (am_I (nI 0))] [] (am_set M (30, 0, 0) 4 ((M (30, 0, 0) 4) - (nI 1))) (am_Z w) := by
  refine Eq.trans (rl_aloadn (j := 0) (by decide +kernel) rfl) ?_
  refine Eq.trans (rl_get (ix := 45) (ci := 9) (j := 4) (by decide +kernel) (by decide +kernel) (by decide +kernel) ck30) ?_
  refine Eq.trans (rl_ifne (o := 9) 18 (by decide +kernel) (by decide)) ?_
  refine am_ite (fun h_1 => ?_) (fun h_1 => ?_)
  · skip
    refine Eq.trans (rl_aloadn (j := 0) (by decide +kernel) rfl) ?_
    refine Eq.trans (rl_iconst (c := 1) (k := (nI 1)) (by decide +kernel) (by decide)) ?_
    refine Eq.trans (rl_inv (ix := 64) (n := 1) (o := 9) 115 [am_I (nI 1)] [] (by decide +kernel) (by decide +kernel) (by decide +kernel) (by decide +kernel) ⟨rfl, rfl⟩ rfl rfl ck30) ?_
    rfl
  · skip
    refine Eq.trans (rl_aloadn (j := 0) (by decide +kernel) rfl) ?_
    refine Eq.trans (rl_dup (by decide +kernel) rfl) ?_
    refine Eq.trans (rl_get (ix := 45) (ci := 9) (j := 4) (by decide +kernel) (by decide +kernel) (by decide +kernel) ck30) ?_
    refine Eq.trans (rl_iconst (c := 1) (k := (nI 1)) (by decide +kernel) (by decide)) ?_
    refine Eq.trans (rl_isub (by decide +kernel)) ?_
    refine Eq.trans (rl_put (ix := 45) (ci := 9) (j := 4) (by decide +kernel) (by decide +kernel) (by decide +kernel) (by decide +kernel) ck30) ?_
    refine Eq.trans (rl_iconst (c := 0) (k := (nI 0)) (by decide +kernel) (by decide)) ?_
    refine Eq.trans (rl_istoren (j := 1) (ls' := [some (am_P (30, 0, 0)), some (am_I (nI 0))]) (by decide +kernel) rfl rfl) ?_
    rfl
theorem b192_17 {s0 : Int32} {M : am_M} {w : am_W4}  : am_rn call 192 17 [some (am_P (30, 0, 0)), none] [am_I s0] M (am_Z w) = some (.inl (some (am_I s0)), M, (am_Z w)) := by
  exact rl_iret (by decide +kernel) rfl
theorem b192_30 {x1 : Int32} {M : am_M} {w : am_W4}  : am_rn call 192 30 [some (am_P (30, 0, 0)), some (am_I x1)] [] M (am_Z w) = if x1 < (nI 364) then if am_in (((nI 364) * (M (30, 0, 0) 4)) + x1) 2912 then if am_in x1 364 then am_rn call 192 30 [some (am_P (30, 0, 0)), some (am_I (x1 + (nI 1)))] [] (am_set M (31, 0, 0) x1.toNatClampNeg (M (34, 0, 0) (((nI 364) * (M (30, 0, 0) 4)) + x1).toNatClampNeg)) (am_Z w) else none else none else some (.inl (some (am_I (M (30, 0, 0) 4))), M, (am_Z w)) := by
  refine Eq.trans (rl_iloadn (j := 1) (by decide +kernel) rfl) ?_
  refine Eq.trans (rl_sipush (c := 364) (k := (nI 364)) (by decide +kernel) (by decide)) ?_
  refine Eq.trans (rl_icge (o := 30) 64 (by decide +kernel) (by decide)) ?_
  refine am_ite (fun h_1 => ?_) (fun h_1 => ?_)
  · skip
    refine Eq.trans (rl_aloadn (j := 0) (by decide +kernel) rfl) ?_
    refine Eq.trans (rl_getP (ix := 9) (ci := 9) (j := 0) (by decide +kernel) (by decide +kernel) (by decide +kernel) ck30 rfl) ?_
    refine Eq.trans (rl_iloadn (j := 1) (by decide +kernel) rfl) ?_
    refine Eq.trans (rl_aloadn (j := 0) (by decide +kernel) rfl) ?_
    refine Eq.trans (rl_getP (ix := 19) (ci := 9) (j := 3) (by decide +kernel) (by decide +kernel) (by decide +kernel) ck30 rfl) ?_
    refine Eq.trans (rl_sipush (c := 364) (k := (nI 364)) (by decide +kernel) (by decide)) ?_
    refine Eq.trans (rl_aloadn (j := 0) (by decide +kernel) rfl) ?_
    refine Eq.trans (rl_get (ix := 45) (ci := 9) (j := 4) (by decide +kernel) (by decide +kernel) (by decide +kernel) ck30) ?_
    refine Eq.trans (rl_imul (by decide +kernel)) ?_
    refine Eq.trans (rl_iloadn (j := 1) (by decide +kernel) rfl) ?_
    refine Eq.trans (rl_iadd (by decide +kernel)) ?_
    refine Eq.trans (rl_iald (by decide +kernel) ka34) ?_
    refine am_ite (fun h_2 => ?_) (fun _ => rfl)
    refine Eq.trans (rl_iast (by decide +kernel) ka31) ?_
    refine am_ite (fun h_3 => ?_) (fun _ => rfl)
    refine Eq.trans (rl_iinc (j := 1) (c := 1) (k := (nI 1)) (ls' := [some (am_P (30, 0, 0)), some (am_I (x1 + (nI 1)))]) (by decide +kernel) (by decide) rfl rfl) ?_
    refine Eq.trans (rl_goto (o := (-31)) 30 (by decide +kernel) (by decide)) ?_
    rfl
  · skip
    refine Eq.trans (rl_aloadn (j := 0) (by decide +kernel) rfl) ?_
    refine Eq.trans (rl_get (ix := 45) (ci := 9) (j := 4) (by decide +kernel) (by decide +kernel) (by decide +kernel) ck30) ?_
    exact rl_iret (by decide +kernel) rfl
theorem e192 {d : Nat}  {M : am_M} {w : am_W4}  : am_ev (d + 1) 192 [am_P (30, 0, 0)] M (am_Z w) = am_rn (am_ev d) 192 5 [some (am_P (30, 0, 0)), none] [] (am_set M (30, 0, 0) 20 (nI 0)) (am_Z w) := (am_ev_eq d 192 _ M (am_Z w)).trans (b192_0)
theorem b193_0  {M : am_M} {w : am_W4}  : am_rn call 193 0 [some (am_P (30, 0, 0)), none] [] M (am_Z w) = am_rn call 193 12 [some (am_P (30, 0, 0)), some (am_I (nI 0))] [] (am_set (am_set M (30, 0, 0) 20 (nI 0)) (30, 0, 0) 6 (nI 1)) (am_Z w) := by
  refine Eq.trans (rl_aloadn (j := 0) (by decide +kernel) rfl) ?_
  refine Eq.trans (rl_iconst (c := 0) (k := (nI 0)) (by decide +kernel) (by decide)) ?_
  refine Eq.trans (rl_put (ix := 39) (ci := 9) (j := 20) (by decide +kernel) (by decide +kernel) (by decide +kernel) (by decide +kernel) ck30) ?_
  refine Eq.trans (rl_aloadn (j := 0) (by decide +kernel) rfl) ?_
  refine Eq.trans (rl_iconst (c := 1) (k := (nI 1)) (by decide +kernel) (by decide)) ?_
  refine Eq.trans (rl_putZk (ix := 224) (ci := 9) (j := 6) (by decide +kernel) (by decide +kernel) (by decide +kernel) (by decide +kernel) ck30 rfl) ?_
  refine Eq.trans (rl_iconst (c := 0) (k := (nI 0)) (by decide +kernel) (by decide)) ?_
  refine Eq.trans (rl_istoren (j := 1) (ls' := [some (am_P (30, 0, 0)), some (am_I (nI 0))]) (by decide +kernel) rfl rfl) ?_
  rfl
theorem b193_12 {x1 : Int32} {M : am_M} {w : am_W4}  : am_rn call 193 12 [some (am_P (30, 0, 0)), some (am_I x1)] [] M (am_Z w) = if x1 < (nI 364) then if am_in x1 364 then if am_in x1 364 then am_rn call 193 12 [some (am_P (30, 0, 0)), some (am_I (x1 + (nI 1)))] [] (am_set M (35, 0, 0) x1.toNatClampNeg (M (31, 0, 0) x1.toNatClampNeg)) (am_Z w) else none else none else some (.inl (some (am_I (M (31, 0, 0) 0))), M, (am_Z w)) := by
  refine Eq.trans (rl_iloadn (j := 1) (by decide +kernel) rfl) ?_
  refine Eq.trans (rl_sipush (c := 364) (k := (nI 364)) (by decide +kernel) (by decide)) ?_
  refine Eq.trans (rl_icge (o := 21) 37 (by decide +kernel) (by decide)) ?_
  refine am_ite (fun h_1 => ?_) (fun h_1 => ?_)
  · skip
    refine Eq.trans (rl_aloadn (j := 0) (by decide +kernel) rfl) ?_
    refine Eq.trans (rl_getP (ix := 22) (ci := 9) (j := 5) (by decide +kernel) (by decide +kernel) (by decide +kernel) ck30 rfl) ?_
    refine Eq.trans (rl_iloadn (j := 1) (by decide +kernel) rfl) ?_
    refine Eq.trans (rl_aloadn (j := 0) (by decide +kernel) rfl) ?_
    refine Eq.trans (rl_getP (ix := 9) (ci := 9) (j := 0) (by decide +kernel) (by decide +kernel) (by decide +kernel) ck30 rfl) ?_
    refine Eq.trans (rl_iloadn (j := 1) (by decide +kernel) rfl) ?_
    refine Eq.trans (rl_iald (by decide +kernel) ka31) ?_
    refine am_ite (fun h_2 => ?_) (fun _ => rfl)
    refine Eq.trans (rl_iast (by decide +kernel) ka35) ?_
    refine am_ite (fun h_3 => ?_) (fun _ => rfl)
    refine Eq.trans (rl_iinc (j := 1) (c := 1) (k := (nI 1)) (ls' := [some (am_P (30, 0, 0)), some (am_I (x1 + (nI 1)))]) (by decide +kernel) (by decide) rfl rfl) ?_
    refine Eq.trans (rl_goto (o := (-22)) 12 (by decide +kernel) (by decide)) ?_
    rfl
  · skip
    refine Eq.trans (rl_aloadn (j := 0) (by decide +kernel) rfl) ?_
    refine Eq.trans (rl_getP (ix := 9) (ci := 9) (j := 0) (by decide +kernel) (by decide +kernel) (by decide +kernel) ck30 rfl) ?_
    refine Eq.trans (rl_iconst (c := 0) (k := (nI 0)) (by decide +kernel) (by decide)) ?_
    refine Eq.trans (rl_iald' 0 (by decide +kernel) ka31 rfl rfl) ?_
    exact rl_iret (by decide +kernel) rfl
theorem e193 {d : Nat}  {M : am_M} {w : am_W4}  : am_ev (d + 1) 193 [am_P (30, 0, 0)] M (am_Z w) = am_rn (am_ev d) 193 12 [some (am_P (30, 0, 0)), some (am_I (nI 0))] [] (am_set (am_set M (30, 0, 0) 20 (nI 0)) (30, 0, 0) 6 (nI 1)) (am_Z w) := (am_ev_eq d 193 _ M (am_Z w)).trans (b193_0)
theorem b194_0  {M : am_M} {w : am_W4}  : am_rn call 194 0 [some (am_P (30, 0, 0)), none] [] M (am_Z w) = am_rn call 194 5 [some (am_P (30, 0, 0)), none] [] (am_set M (30, 0, 0) 20 (nI 0)) (am_Z w) := by
  refine Eq.trans (rl_aloadn (j := 0) (by decide +kernel) rfl) ?_
  refine Eq.trans (rl_iconst (c := 0) (k := (nI 0)) (by decide +kernel) (by decide)) ?_
  refine Eq.trans (rl_put (ix := 39) (ci := 9) (j := 20) (by decide +kernel) (by decide +kernel) (by decide +kernel) (by decide +kernel) ck30) ?_
  rfl
theorem b194_5  {M : am_M} {w : am_W4}  : am_rn call 194 5 [some (am_P (30, 0, 0)), none] [] M (am_Z w) = if (M (30, 0, 0) 6) = 0 then am_cb (call 115 [am_P (30, 0, 0), am_I (nI 1)] M (am_Z w)) fun v M' X' => am_rn call 194 17 [some (am_P (30, 0, 0)), none] (v.toList ++ []) M' X' else am_rn call 194 20 [some (am_P (30, 0, 0)), some (am_I (nI 0))] [] M (am_Z w) := by
  refine Eq.trans (rl_aloadn (j := 0) (by decide +kernel) rfl) ?_
  refine Eq.trans (rl_get (ix := 224) (ci := 9) (j := 6) (by decide +kernel) (by decide +kernel) (by decide +kernel) ck30) ?_
  refine Eq.trans (rl_ifne (o := 9) 18 (by decide +kernel) (by decide)) ?_
  refine am_ite (fun h_1 => ?_) (fun h_1 => ?_)
  · skip
    refine Eq.trans (rl_aloadn (j := 0) (by decide +kernel) rfl) ?_
    refine Eq.trans (rl_iconst (c := 1) (k := (nI 1)) (by decide +kernel) (by decide)) ?_
    refine Eq.trans (rl_inv (ix := 64) (n := 1) (o := 9) 115 [am_I (nI 1)] [] (by decide +kernel) (by decide +kernel) (by decide +kernel) (by decide +kernel) ⟨rfl, rfl⟩ rfl rfl ck30) ?_
    rfl
  · skip
    refine Eq.trans (rl_iconst (c := 0) (k := (nI 0)) (by decide +kernel) (by decide)) ?_
    refine Eq.trans (rl_istoren (j := 1) (ls' := [some (am_P (30, 0, 0)), some (am_I (nI 0))]) (by decide +kernel) rfl rfl) ?_
    rfl
theorem b194_17 {s0 : Int32} {M : am_M} {w : am_W4}  : am_rn call 194 17 [some (am_P (30, 0, 0)), none] [am_I s0] M (am_Z w) = some (.inl (some (am_I s0)), M, (am_Z w)) := by
  exact rl_iret (by decide +kernel) rfl
theorem b194_20 {x1 : Int32} {M : am_M} {w : am_W4}  : am_rn call 194 20 [some (am_P (30, 0, 0)), some (am_I x1)] [] M (am_Z w) = if x1 < (nI 364) then if am_in x1 364 then if am_in x1 364 then am_rn call 194 20 [some (am_P (30, 0, 0)), some (am_I (x1 + (nI 1)))] [] (am_set M (31, 0, 0) x1.toNatClampNeg (M (35, 0, 0) x1.toNatClampNeg)) (am_Z w) else none else none else am_rn call 194 50 [some (am_P (30, 0, 0)), some (am_I x1)] [] (am_set M (30, 0, 0) 4 (nI 0)) (am_Z w) := by
  refine Eq.trans (rl_iloadn (j := 1) (by decide +kernel) rfl) ?_
  refine Eq.trans (rl_sipush (c := 364) (k := (nI 364)) (by decide +kernel) (by decide)) ?_
  refine Eq.trans (rl_icge (o := 21) 45 (by decide +kernel) (by decide)) ?_
  refine am_ite (fun h_1 => ?_) (fun h_1 => ?_)
  · skip
    refine Eq.trans (rl_aloadn (j := 0) (by decide +kernel) rfl) ?_
    refine Eq.trans (rl_getP (ix := 9) (ci := 9) (j := 0) (by decide +kernel) (by decide +kernel) (by decide +kernel) ck30 rfl) ?_
    refine Eq.trans (rl_iloadn (j := 1) (by decide +kernel) rfl) ?_
    refine Eq.trans (rl_aloadn (j := 0) (by decide +kernel) rfl) ?_
    refine Eq.trans (rl_getP (ix := 22) (ci := 9) (j := 5) (by decide +kernel) (by decide +kernel) (by decide +kernel) ck30 rfl) ?_
    refine Eq.trans (rl_iloadn (j := 1) (by decide +kernel) rfl) ?_
    refine Eq.trans (rl_iald (by decide +kernel) ka35) ?_
    refine am_ite (fun h_2 => ?_) (fun _ => rfl)
    refine Eq.trans (rl_iast (by decide +kernel) ka31) ?_
    refine am_ite (fun h_3 => ?_) (fun _ => rfl)
    refine Eq.trans (rl_iinc (j := 1) (c := 1) (k := (nI 1)) (ls' := [some (am_P (30, 0, 0)), some (am_I (x1 + (nI 1)))]) (by decide +kernel) (by decide) rfl rfl) ?_
    refine Eq.trans (rl_goto (o := (-22)) 20 (by decide +kernel) (by decide)) ?_
    rfl
  · skip
    refine Eq.trans (rl_aloadn (j := 0) (by decide +kernel) rfl) ?_
    refine Eq.trans (rl_iconst (c := 0) (k := (nI 0)) (by decide +kernel) (by decide)) ?_
    refine Eq.trans (rl_put (ix := 45) (ci := 9) (j := 4) (by decide +kernel) (by decide +kernel) (by decide +kernel) (by decide +kernel) ck30) ?_
    rfl
theorem b194_50 {x1 : Int32} {M : am_M} {w : am_W4}  : am_rn call 194 50 [some (am_P (30, 0, 0)), some (am_I x1)] [] M (am_Z w) = some (.inl (some (am_I (M (31, 0, 0) 0))), M, (am_Z w)) := by
  refine Eq.trans (rl_aloadn (j := 0) (by decide +kernel) rfl) ?_
  refine Eq.trans (rl_getP (ix := 9) (ci := 9) (j := 0) (by decide +kernel) (by decide +kernel) (by decide +kernel) ck30 rfl) ?_
  refine Eq.trans (rl_iconst (c := 0) (k := (nI 0)) (by decide +kernel) (by decide)) ?_
  refine Eq.trans (rl_iald' 0 (by decide +kernel) ka31 rfl rfl) ?_
  exact rl_iret (by decide +kernel) rfl
theorem e194 {d : Nat}  {M : am_M} {w : am_W4}  : am_ev (d + 1) 194 [am_P (30, 0, 0)] M (am_Z w) = am_rn (am_ev d) 194 5 [some (am_P (30, 0, 0)), none] [] (am_set M (30, 0, 0) 20 (nI 0)) (am_Z w) := (am_ev_eq d 194 _ M (am_Z w)).trans (b194_0)
end AmBl
