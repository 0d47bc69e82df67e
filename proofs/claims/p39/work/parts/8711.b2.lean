section AmBl
variable {call : Nat → List am_V → am_M → am_X → Option am_R}
theorem b34_0 {n n2 : Nat} {M : am_M} {w : am_W4} (hn : n < 12) (hn2 : n2 < 12) : am_rn call 34 0 [some (am_P (13, n, 0)), some (am_P (13, n2, 0)), none] [] M (am_Z w) = am_rn call 34 8 [some (am_P (13, n, 0)), some (am_P (13, n2, 0)), none] [] (am_set M (13, n, 0) 0 (M (13, n2, 0) 0)) (am_Z w) := by
  refine Eq.trans (rl_aloadn (j := 0) (by decide +kernel) rfl) ?_
  refine Eq.trans (rl_aloadn (j := 1) (by decide +kernel) rfl) ?_
  refine Eq.trans (rl_get (ix := 42) (ci := 5) (j := 0) (by decide +kernel) (by decide +kernel) (by decide +kernel) (ck13 hn2)) ?_
  refine Eq.trans (rl_put (ix := 42) (ci := 5) (j := 0) (by decide +kernel) (by decide +kernel) (by decide +kernel) (by decide +kernel) (ck13 hn)) ?_
  rfl
theorem b34_8 {n n2 : Nat} {M : am_M} {w : am_W4} (hn : n < 12) (hn2 : n2 < 12) : am_rn call 34 8 [some (am_P (13, n, 0)), some (am_P (13, n2, 0)), none] [] M (am_Z w) = am_rn call 34 18 [some (am_P (13, n, 0)), some (am_P (13, n2, 0)), some (am_I (nI 0))] [] (am_set M (13, n, 0) 1 (M (13, n2, 0) 1)) (am_Z w) := by
  refine Eq.trans (rl_aloadn (j := 0) (by decide +kernel) rfl) ?_
  refine Eq.trans (rl_aloadn (j := 1) (by decide +kernel) rfl) ?_
  refine Eq.trans (rl_get (ix := 46) (ci := 5) (j := 1) (by decide +kernel) (by decide +kernel) (by decide +kernel) (ck13 hn2)) ?_
  refine Eq.trans (rl_put (ix := 46) (ci := 5) (j := 1) (by decide +kernel) (by decide +kernel) (by decide +kernel) (by decide +kernel) (ck13 hn)) ?_
  refine Eq.trans (rl_iconst (c := 0) (k := (nI 0)) (by decide +kernel) (by decide)) ?_
  refine Eq.trans (rl_istoren (j := 2) (ls' := [some (am_P (13, n, 0)), some (am_P (13, n2, 0)), some (am_I (nI 0))]) (by decide +kernel) rfl rfl) ?_
  rfl
theorem b34_18 {n n2 : Nat} {x2 : Int32} {M : am_M} {w : am_W4} (hn : n < 12) (hn2 : n2 < 12) : am_rn call 34 18 [some (am_P (13, n, 0)), some (am_P (13, n2, 0)), some (am_I x2)] [] M (am_Z w) = if x2 < (M (13, n, 0) 1) then if am_in x2 6 then if am_in x2 6 then am_cb (call 17 [am_P (21, n, x2.toNatClampNeg), am_P (21, n2, x2.toNatClampNeg)] M (am_Z w)) fun v M' X' => am_rn call 34 41 [some (am_P (13, n, 0)), some (am_P (13, n2, 0)), some (am_I x2)] (v.toList ++ []) M' X' else none else none else am_rn call 34 49 [some (am_P (13, n, 0)), some (am_P (13, n2, 0)), some (am_I (nI 0))] [] M (am_Z w) := by
  refine Eq.trans (rl_iloadn (j := 2) (by decide +kernel) rfl) ?_
  refine Eq.trans (rl_aloadn (j := 0) (by decide +kernel) rfl) ?_
  refine Eq.trans (rl_get (ix := 46) (ci := 5) (j := 1) (by decide +kernel) (by decide +kernel) (by decide +kernel) (ck13 hn)) ?_
  refine Eq.trans (rl_icge (o := 24) 47 (by decide +kernel) (by decide)) ?_
  refine am_ite (fun h_1 => ?_) (fun h_1 => ?_)
  · skip
    refine Eq.trans (rl_aloadn (j := 0) (by decide +kernel) rfl) ?_
    refine Eq.trans (rl_getP (ix := 11) (ci := 5) (j := 2) (by decide +kernel) (by decide +kernel) (by decide +kernel) (ck13 hn) rfl) ?_
    refine Eq.trans (rl_iloadn (j := 2) (by decide +kernel) rfl) ?_
    refine Eq.trans (rl_aald (v := (21, n, x2.toNatClampNeg)) (by decide +kernel) (ka14 hn) (fun h => if_pos (am_in_lt' h))) ?_
    refine am_ite (fun h_2 => ?_) (fun _ => rfl)
    refine Eq.trans (rl_aloadn (j := 1) (by decide +kernel) rfl) ?_
    refine Eq.trans (rl_getP (ix := 11) (ci := 5) (j := 2) (by decide +kernel) (by decide +kernel) (by decide +kernel) (ck13 hn2) rfl) ?_
    refine Eq.trans (rl_iloadn (j := 2) (by decide +kernel) rfl) ?_
    refine Eq.trans (rl_aald (v := (21, n2, x2.toNatClampNeg)) (by decide +kernel) (ka14 hn2) (fun h => if_pos (am_in_lt' h))) ?_
    refine am_ite (fun h_3 => ?_) (fun _ => rfl)
    refine Eq.trans (rl_inv (ix := 49) (n := 1) (o := 2) 17 [am_P (21, n2, x2.toNatClampNeg)] [] (by decide +kernel) (by decide +kernel) (by decide +kernel) (by decide +kernel) ⟨rfl, rfl⟩ rfl rfl (ck21 hn (am_in_lt' h_2))) ?_
    rfl
  · skip
    refine Eq.trans (rl_iconst (c := 0) (k := (nI 0)) (by decide +kernel) (by decide)) ?_
    refine Eq.trans (rl_istoren (j := 2) (ls' := [some (am_P (13, n, 0)), some (am_P (13, n2, 0)), some (am_I (nI 0))]) (by decide +kernel) rfl rfl) ?_
    rfl
theorem b34_41 {n n2 : Nat} {x2 : Int32} {M : am_M} {w : am_W4} (hn : n < 12) (hn2 : n2 < 12) : am_rn call 34 41 [some (am_P (13, n, 0)), some (am_P (13, n2, 0)), some (am_I x2)] [] M (am_Z w) = am_rn call 34 18 [some (am_P (13, n, 0)), some (am_P (13, n2, 0)), some (am_I (x2 + (nI 1)))] [] M (am_Z w) := by
  refine Eq.trans (rl_iinc (j := 2) (c := 1) (k := (nI 1)) (ls' := [some (am_P (13, n, 0)), some (am_P (13, n2, 0)), some (am_I (x2 + (nI 1)))]) (by decide +kernel) (by decide) rfl rfl) ?_
  refine Eq.trans (rl_goto (o := (-26)) 18 (by decide +kernel) (by decide)) ?_
  rfl
theorem b34_49 {n n2 : Nat} {x2 : Int32} {M : am_M} {w : am_W4} (hn : n < 12) (hn2 : n2 < 12) (hne : n ≠ n2) : am_rn call 34 49 [some (am_P (13, n, 0)), some (am_P (13, n2, 0)), some (am_I x2)] [] M (am_Z w) = if x2 < (nI 5) then if am_in x2 5 then if am_in x2 5 then am_rn call 34 72 [some (am_P (13, n, 0)), some (am_P (13, n2, 0)), some (am_I x2)] [] (am_set M (23, n, x2.toNatClampNeg) 0 (M (23, n2, x2.toNatClampNeg) 0)) (am_Z w) else none else none else am_rn call 34 111 [some (am_P (13, n, 0)), some (am_P (13, n2, 0)), some (am_I x2)] [] (am_cp M (16, n2, 0) (16, n, 0) 0 0 9) (am_Z w) := by
  refine Eq.trans (rl_iloadn (j := 2) (by decide +kernel) rfl) ?_
  refine Eq.trans (rl_iconst (c := 5) (k := (nI 5)) (by decide +kernel) (by decide)) ?_
  refine Eq.trans (rl_icge (o := 45) 96 (by decide +kernel) (by decide)) ?_
  refine am_ite (fun h_1 => ?_) (fun h_1 => ?_)
  · skip
    refine Eq.trans (rl_aloadn (j := 0) (by decide +kernel) rfl) ?_
    refine Eq.trans (rl_getP (ix := 19) (ci := 5) (j := 3) (by decide +kernel) (by decide +kernel) (by decide +kernel) (ck13 hn) rfl) ?_
    refine Eq.trans (rl_iloadn (j := 2) (by decide +kernel) rfl) ?_
    refine Eq.trans (rl_aald (v := (23, n, x2.toNatClampNeg)) (by decide +kernel) (ka15 hn) (fun h => if_pos (am_in_lt' h))) ?_
    refine am_ite (fun h_2 => ?_) (fun _ => rfl)
    refine Eq.trans (rl_aloadn (j := 1) (by decide +kernel) rfl) ?_
    refine Eq.trans (rl_getP (ix := 19) (ci := 5) (j := 3) (by decide +kernel) (by decide +kernel) (by decide +kernel) (ck13 hn2) rfl) ?_
    refine Eq.trans (rl_iloadn (j := 2) (by decide +kernel) rfl) ?_
    refine Eq.trans (rl_aald (v := (23, n2, x2.toNatClampNeg)) (by decide +kernel) (ka15 hn2) (fun h => if_pos (am_in_lt' h))) ?_
    refine am_ite (fun h_3 => ?_) (fun _ => rfl)
    refine Eq.trans (rl_get (ix := 53) (ci := 7) (j := 0) (by decide +kernel) (by decide +kernel) (by decide +kernel) (ck23 hn2 (am_in_lt' h_3))) ?_
    refine Eq.trans (rl_put (ix := 53) (ci := 7) (j := 0) (by decide +kernel) (by decide +kernel) (by decide +kernel) (by decide +kernel) (ck23 hn (am_in_lt' h_2))) ?_
    rfl
  · skip
    refine Eq.trans (rl_aloadn (j := 1) (by decide +kernel) rfl) ?_
    refine Eq.trans (rl_getP (ix := 23) (ci := 5) (j := 4) (by decide +kernel) (by decide +kernel) (by decide +kernel) (ck13 hn2) rfl) ?_
    refine Eq.trans (rl_iconst (c := 0) (k := (nI 0)) (by decide +kernel) (by decide)) ?_
    refine Eq.trans (rl_aloadn (j := 0) (by decide +kernel) rfl) ?_
    refine Eq.trans (rl_getP (ix := 23) (ci := 5) (j := 4) (by decide +kernel) (by decide +kernel) (by decide +kernel) (ck13 hn) rfl) ?_
    refine Eq.trans (rl_iconst (c := 0) (k := (nI 0)) (by decide +kernel) (by decide)) ?_
    refine Eq.trans (rl_bipush (c := 9) (k := (nI 9)) (by decide +kernel) (by decide)) ?_
    refine Eq.trans (rl_copy' (ix := 59) (y0 := 0) 0 0 9 (by decide +kernel) (by decide +kernel) rfl (ka16 hn) (ka16 hn2) (fun e => hne (congrArg (fun l : am_L => l.2.1) e)) rfl rfl rfl rfl) ?_
    rfl
theorem b34_72 {n n2 : Nat} {x2 : Int32} {M : am_M} {w : am_W4} (hn : n < 12) (hn2 : n2 < 12) : am_rn call 34 72 [some (am_P (13, n, 0)), some (am_P (13, n2, 0)), some (am_I x2)] [] M (am_Z w) = if am_in x2 5 then if am_in x2 5 then am_rn call 34 49 [some (am_P (13, n, 0)), some (am_P (13, n2, 0)), some (am_I (x2 + (nI 1)))] [] (am_set M (23, n, x2.toNatClampNeg) 1 (M (23, n2, x2.toNatClampNeg) 1)) (am_Z w) else none else none := by
  refine Eq.trans (rl_aloadn (j := 0) (by decide +kernel) rfl) ?_
  refine Eq.trans (rl_getP (ix := 19) (ci := 5) (j := 3) (by decide +kernel) (by decide +kernel) (by decide +kernel) (ck13 hn) rfl) ?_
  refine Eq.trans (rl_iloadn (j := 2) (by decide +kernel) rfl) ?_
  refine Eq.trans (rl_aald (v := (23, n, x2.toNatClampNeg)) (by decide +kernel) (ka15 hn) (fun h => if_pos (am_in_lt' h))) ?_
  refine am_ite (fun h_1 => ?_) (fun _ => rfl)
  refine Eq.trans (rl_aloadn (j := 1) (by decide +kernel) rfl) ?_
  refine Eq.trans (rl_getP (ix := 19) (ci := 5) (j := 3) (by decide +kernel) (by decide +kernel) (by decide +kernel) (ck13 hn2) rfl) ?_
  refine Eq.trans (rl_iloadn (j := 2) (by decide +kernel) rfl) ?_
  refine Eq.trans (rl_aald (v := (23, n2, x2.toNatClampNeg)) (by decide +kernel) (ka15 hn2) (fun h => if_pos (am_in_lt' h))) ?_
  refine am_ite (fun h_2 => ?_) (fun _ => rfl)
  refine Eq.trans (rl_get (ix := 56) (ci := 7) (j := 1) (by decide +kernel) (by decide +kernel) (by decide +kernel) (ck23 hn2 (am_in_lt' h_2))) ?_
  refine Eq.trans (rl_put (ix := 56) (ci := 7) (j := 1) (by decide +kernel) (by decide +kernel) (by decide +kernel) (by decide +kernel) (ck23 hn (am_in_lt' h_1))) ?_
  refine Eq.trans (rl_iinc (j := 2) (c := 1) (k := (nI 1)) (ls' := [some (am_P (13, n, 0)), some (am_P (13, n2, 0)), some (am_I (x2 + (nI 1)))]) (by decide +kernel) (by decide) rfl rfl) ?_
  refine Eq.trans (rl_goto (o := (-44)) 49 (by decide +kernel) (by decide)) ?_
  rfl
theorem b34_111 {n n2 : Nat} {x2 : Int32} {M : am_M} {w : am_W4} (hn : n < 12) (hn2 : n2 < 12) : am_rn call 34 111 [some (am_P (13, n, 0)), some (am_P (13, n2, 0)), some (am_I x2)] [] M (am_Z w) = am_rn call 34 121 [some (am_P (13, n, 0)), some (am_P (13, n2, 0)), some (am_I (nI 0))] [] (am_set M (13, n, 0) 5 (M (13, n2, 0) 5)) (am_Z w) := by
  refine Eq.trans (rl_aloadn (j := 0) (by decide +kernel) rfl) ?_
  refine Eq.trans (rl_aloadn (j := 1) (by decide +kernel) rfl) ?_
  refine Eq.trans (rl_get (ix := 65) (ci := 5) (j := 5) (by decide +kernel) (by decide +kernel) (by decide +kernel) (ck13 hn2)) ?_
  refine Eq.trans (rl_put (ix := 65) (ci := 5) (j := 5) (by decide +kernel) (by decide +kernel) (by decide +kernel) (by decide +kernel) (ck13 hn)) ?_
  refine Eq.trans (rl_iconst (c := 0) (k := (nI 0)) (by decide +kernel) (by decide)) ?_
  refine Eq.trans (rl_istoren (j := 2) (ls' := [some (am_P (13, n, 0)), some (am_P (13, n2, 0)), some (am_I (nI 0))]) (by decide +kernel) rfl rfl) ?_
  rfl
theorem b34_121 {n n2 : Nat} {x2 : Int32} {M : am_M} {w : am_W4} (hn : n < 12) (hn2 : n2 < 12) (hne : n ≠ n2) : am_rn call 34 121 [some (am_P (13, n, 0)), some (am_P (13, n2, 0)), some (am_I x2)] [] M (am_Z w) = if x2 < (M (13, n, 0) 5) then if am_in x2 16 then if am_in x2 16 then am_cb (call 27 [am_P (24, n, x2.toNatClampNeg), am_P (24, n2, x2.toNatClampNeg)] M (am_Z w)) fun v M' X' => am_rn call 34 144 [some (am_P (13, n, 0)), some (am_P (13, n2, 0)), some (am_I x2)] (v.toList ++ []) M' X' else none else none else some (.inl none, (am_cp (am_set M (13, n, 0) 7 (M (13, n2, 0) 7)) (18, n2, 0) (18, n, 0) 0 0 16), (am_Z w)) := by
  refine Eq.trans (rl_iloadn (j := 2) (by decide +kernel) rfl) ?_
  refine Eq.trans (rl_aloadn (j := 0) (by decide +kernel) rfl) ?_
  refine Eq.trans (rl_get (ix := 65) (ci := 5) (j := 5) (by decide +kernel) (by decide +kernel) (by decide +kernel) (ck13 hn)) ?_
  refine Eq.trans (rl_icge (o := 24) 150 (by decide +kernel) (by decide)) ?_
  refine am_ite (fun h_1 => ?_) (fun h_1 => ?_)
  · skip
    refine Eq.trans (rl_aloadn (j := 0) (by decide +kernel) rfl) ?_
    refine Eq.trans (rl_getP (ix := 29) (ci := 5) (j := 6) (by decide +kernel) (by decide +kernel) (by decide +kernel) (ck13 hn) rfl) ?_
    refine Eq.trans (rl_iloadn (j := 2) (by decide +kernel) rfl) ?_
    refine Eq.trans (rl_aald (v := (24, n, x2.toNatClampNeg)) (by decide +kernel) (ka17 hn) (fun h => if_pos (am_in_lt' h))) ?_
    refine am_ite (fun h_2 => ?_) (fun _ => rfl)
    refine Eq.trans (rl_aloadn (j := 1) (by decide +kernel) rfl) ?_
    refine Eq.trans (rl_getP (ix := 29) (ci := 5) (j := 6) (by decide +kernel) (by decide +kernel) (by decide +kernel) (ck13 hn2) rfl) ?_
    refine Eq.trans (rl_iloadn (j := 2) (by decide +kernel) rfl) ?_
    refine Eq.trans (rl_aald (v := (24, n2, x2.toNatClampNeg)) (by decide +kernel) (ka17 hn2) (fun h => if_pos (am_in_lt' h))) ?_
    refine am_ite (fun h_3 => ?_) (fun _ => rfl)
    refine Eq.trans (rl_inv (ix := 68) (n := 1) (o := 4) 27 [am_P (24, n2, x2.toNatClampNeg)] [] (by decide +kernel) (by decide +kernel) (by decide +kernel) (by decide +kernel) ⟨rfl, rfl⟩ rfl rfl (ck24 hn (am_in_lt' h_2))) ?_
    rfl
  · skip
    refine Eq.trans (rl_aloadn (j := 0) (by decide +kernel) rfl) ?_
    refine Eq.trans (rl_aloadn (j := 1) (by decide +kernel) rfl) ?_
    refine Eq.trans (rl_get (ix := 71) (ci := 5) (j := 7) (by decide +kernel) (by decide +kernel) (by decide +kernel) (ck13 hn2)) ?_
    refine Eq.trans (rl_put (ix := 71) (ci := 5) (j := 7) (by decide +kernel) (by decide +kernel) (by decide +kernel) (by decide +kernel) (ck13 hn)) ?_
    refine Eq.trans (rl_aloadn (j := 1) (by decide +kernel) rfl) ?_
    refine Eq.trans (rl_getP (ix := 33) (ci := 5) (j := 8) (by decide +kernel) (by decide +kernel) (by decide +kernel) (ck13 hn2) rfl) ?_
    refine Eq.trans (rl_iconst (c := 0) (k := (nI 0)) (by decide +kernel) (by decide)) ?_
    refine Eq.trans (rl_aloadn (j := 0) (by decide +kernel) rfl) ?_
    refine Eq.trans (rl_getP (ix := 33) (ci := 5) (j := 8) (by decide +kernel) (by decide +kernel) (by decide +kernel) (ck13 hn) rfl) ?_
    refine Eq.trans (rl_iconst (c := 0) (k := (nI 0)) (by decide +kernel) (by decide)) ?_
    refine Eq.trans (rl_bipush (c := 16) (k := (nI 16)) (by decide +kernel) (by decide)) ?_
    refine Eq.trans (rl_copy' (ix := 59) (y0 := 0) 0 0 16 (by decide +kernel) (by decide +kernel) rfl (ka18 hn) (ka18 hn2) (fun e => hne (congrArg (fun l : am_L => l.2.1) e)) rfl rfl rfl rfl) ?_
    exact rl_ret (by decide +kernel) rfl
theorem b34_144 {n n2 : Nat} {x2 : Int32} {M : am_M} {w : am_W4} (hn : n < 12) (hn2 : n2 < 12) : am_rn call 34 144 [some (am_P (13, n, 0)), some (am_P (13, n2, 0)), some (am_I x2)] [] M (am_Z w) = am_rn call 34 121 [some (am_P (13, n, 0)), some (am_P (13, n2, 0)), some (am_I (x2 + (nI 1)))] [] M (am_Z w) := by
  refine Eq.trans (rl_iinc (j := 2) (c := 1) (k := (nI 1)) (ls' := [some (am_P (13, n, 0)), some (am_P (13, n2, 0)), some (am_I (x2 + (nI 1)))]) (by decide +kernel) (by decide) rfl rfl) ?_
  refine Eq.trans (rl_goto (o := (-26)) 121 (by decide +kernel) (by decide)) ?_
  rfl
theorem e34 {d : Nat} {n n2 : Nat} {M : am_M} {w : am_W4} (hn : n < 12) (hn2 : n2 < 12) : am_ev (d + 1) 34 [am_P (13, n, 0), am_P (13, n2, 0)] M (am_Z w) = am_rn (am_ev d) 34 8 [some (am_P (13, n, 0)), some (am_P (13, n2, 0)), none] [] (am_set M (13, n, 0) 0 (M (13, n2, 0) 0)) (am_Z w) := (am_ev_eq d 34 _ M (am_Z w)).trans (b34_0 hn hn2)
theorem b35_0 {n : Nat} {x1 : Int32} {M : am_M} {w : am_W4} (hn : n < 12) : am_rn call 35 0 [some (am_P (13, n, 0)), some (am_I x1)] [] M (am_Z w) = if x1 < 0 then some (.inl (some (am_I (nI 0))), M, (am_Z w)) else if x1 < (M (13, n, 0) 1) then some (.inl (some (am_I (nI 1))), M, (am_Z w)) else some (.inl (some (am_I (nI 0))), M, (am_Z w)) := by
  refine Eq.trans (rl_iloadn (j := 1) (by decide +kernel) rfl) ?_
  refine Eq.trans (rl_iflt (o := 15) 16 (by decide +kernel) (by decide)) ?_
  refine am_ite (fun h_1 => ?_) (fun h_1 => ?_)
  · skip
    refine Eq.trans (rl_iconst (c := 0) (k := (nI 0)) (by decide +kernel) (by decide)) ?_
    exact rl_zretk (by decide +kernel) rfl rfl
  · skip
    refine Eq.trans (rl_iloadn (j := 1) (by decide +kernel) rfl) ?_
    refine Eq.trans (rl_aloadn (j := 0) (by decide +kernel) rfl) ?_
    refine Eq.trans (rl_get (ix := 46) (ci := 5) (j := 1) (by decide +kernel) (by decide +kernel) (by decide +kernel) (ck13 hn)) ?_
    refine Eq.trans (rl_icge (o := 7) 16 (by decide +kernel) (by decide)) ?_
    refine am_ite (fun h_2 => ?_) (fun h_2 => ?_)
    · skip
      refine Eq.trans (rl_iconst (c := 1) (k := (nI 1)) (by decide +kernel) (by decide)) ?_
      refine Eq.trans (rl_goto (o := 4) 17 (by decide +kernel) (by decide)) ?_
      exact rl_zretk (by decide +kernel) rfl rfl
    · skip
      refine Eq.trans (rl_iconst (c := 0) (k := (nI 0)) (by decide +kernel) (by decide)) ?_
      exact rl_zretk (by decide +kernel) rfl rfl
theorem e35 {d : Nat} {n : Nat} {x1 : Int32} {M : am_M} {w : am_W4} (hn : n < 12) : am_ev (d + 1) 35 [am_P (13, n, 0), am_I x1] M (am_Z w) = if x1 < 0 then some (.inl (some (am_I (nI 0))), M, (am_Z w)) else if x1 < (M (13, n, 0) 1) then some (.inl (some (am_I (nI 1))), M, (am_Z w)) else some (.inl (some (am_I (nI 0))), M, (am_Z w)) := (am_ev_eq d 35 _ M (am_Z w)).trans (b35_0 hn)
theorem b36_0 {n : Nat} {x1 : Int32} {M : am_M} {w : am_W4} (hn : n < 12) : am_rn call 36 0 [some (am_P (13, n, 0)), some (am_I x1)] [] M (am_Z w) = if x1 < 0 then some (.inl (some (am_I (nI 0))), M, (am_Z w)) else if x1 < ((M (13, n, 0) 1) - (nI 1)) then some (.inl (some (am_I (nI 1))), M, (am_Z w)) else some (.inl (some (am_I (nI 0))), M, (am_Z w)) := by
  refine Eq.trans (rl_iloadn (j := 1) (by decide +kernel) rfl) ?_
  refine Eq.trans (rl_iflt (o := 17) 18 (by decide +kernel) (by decide)) ?_
  refine am_ite (fun h_1 => ?_) (fun h_1 => ?_)
  · skip
    refine Eq.trans (rl_iconst (c := 0) (k := (nI 0)) (by decide +kernel) (by decide)) ?_
    exact rl_zretk (by decide +kernel) rfl rfl
  · skip
    refine Eq.trans (rl_iloadn (j := 1) (by decide +kernel) rfl) ?_
    refine Eq.trans (rl_aloadn (j := 0) (by decide +kernel) rfl) ?_
    refine Eq.trans (rl_get (ix := 46) (ci := 5) (j := 1) (by decide +kernel) (by decide +kernel) (by decide +kernel) (ck13 hn)) ?_
    refine Eq.trans (rl_iconst (c := 1) (k := (nI 1)) (by decide +kernel) (by decide)) ?_
    refine Eq.trans (rl_isub (by decide +kernel)) ?_
    refine Eq.trans (rl_icge (o := 7) 18 (by decide +kernel) (by decide)) ?_
    refine am_ite (fun h_2 => ?_) (fun h_2 => ?_)
    · skip
      refine Eq.trans (rl_iconst (c := 1) (k := (nI 1)) (by decide +kernel) (by decide)) ?_
      refine Eq.trans (rl_goto (o := 4) 19 (by decide +kernel) (by decide)) ?_
      exact rl_zretk (by decide +kernel) rfl rfl
    · skip
      refine Eq.trans (rl_iconst (c := 0) (k := (nI 0)) (by decide +kernel) (by decide)) ?_
      exact rl_zretk (by decide +kernel) rfl rfl
theorem e36 {d : Nat} {n : Nat} {x1 : Int32} {M : am_M} {w : am_W4} (hn : n < 12) : am_ev (d + 1) 36 [am_P (13, n, 0), am_I x1] M (am_Z w) = if x1 < 0 then some (.inl (some (am_I (nI 0))), M, (am_Z w)) else if x1 < ((M (13, n, 0) 1) - (nI 1)) then some (.inl (some (am_I (nI 1))), M, (am_Z w)) else some (.inl (some (am_I (nI 0))), M, (am_Z w)) := (am_ev_eq d 36 _ M (am_Z w)).trans (b36_0 hn)
theorem b37_0 {n : Nat} {x1 : Int32} {M : am_M} {w : am_W4} (hn : n < 12) : am_rn call 37 0 [some (am_P (13, n, 0)), some (am_I x1)] [] M (am_Z w) = if x1 < 0 then some (.inl (some (am_I (nI 0))), M, (am_Z w)) else if x1 < (M (13, n, 0) 5) then some (.inl (some (am_I (nI 1))), M, (am_Z w)) else some (.inl (some (am_I (nI 0))), M, (am_Z w)) := by
  refine Eq.trans (rl_iloadn (j := 1) (by decide +kernel) rfl) ?_
  refine Eq.trans (rl_iflt (o := 15) 16 (by decide +kernel) (by decide)) ?_
  refine am_ite (fun h_1 => ?_) (fun h_1 => ?_)
  · skip
    refine Eq.trans (rl_iconst (c := 0) (k := (nI 0)) (by decide +kernel) (by decide)) ?_
    exact rl_zretk (by decide +kernel) rfl rfl
  · skip
    refine Eq.trans (rl_iloadn (j := 1) (by decide +kernel) rfl) ?_
    refine Eq.trans (rl_aloadn (j := 0) (by decide +kernel) rfl) ?_
    refine Eq.trans (rl_get (ix := 65) (ci := 5) (j := 5) (by decide +kernel) (by decide +kernel) (by decide +kernel) (ck13 hn)) ?_
    refine Eq.trans (rl_icge (o := 7) 16 (by decide +kernel) (by decide)) ?_
    refine am_ite (fun h_2 => ?_) (fun h_2 => ?_)
    · skip
      refine Eq.trans (rl_iconst (c := 1) (k := (nI 1)) (by decide +kernel) (by decide)) ?_
      refine Eq.trans (rl_goto (o := 4) 17 (by decide +kernel) (by decide)) ?_
      exact rl_zretk (by decide +kernel) rfl rfl
    · skip
      refine Eq.trans (rl_iconst (c := 0) (k := (nI 0)) (by decide +kernel) (by decide)) ?_
      exact rl_zretk (by decide +kernel) rfl rfl
theorem e37 {d : Nat} {n : Nat} {x1 : Int32} {M : am_M} {w : am_W4} (hn : n < 12) : am_ev (d + 1) 37 [am_P (13, n, 0), am_I x1] M (am_Z w) = if x1 < 0 then some (.inl (some (am_I (nI 0))), M, (am_Z w)) else if x1 < (M (13, n, 0) 5) then some (.inl (some (am_I (nI 1))), M, (am_Z w)) else some (.inl (some (am_I (nI 0))), M, (am_Z w)) := (am_ev_eq d 37 _ M (am_Z w)).trans (b37_0 hn)
theorem b38_0 {n : Nat} {M : am_M} {w : am_W4} (hn : n < 12) : am_rn call 38 0 [some (am_P (13, n, 0))] [] M (am_Z w) = some (.inl (some (am_I ((M (13, n, 0) 0) - (M (13, n, 0) 0) / (nI 24) * (nI 24)))), M, (am_Z w)) := by
  refine Eq.trans (rl_aloadn (j := 0) (by decide +kernel) rfl) ?_
  refine Eq.trans (rl_get (ix := 42) (ci := 5) (j := 0) (by decide +kernel) (by decide +kernel) (by decide +kernel) (ck13 hn)) ?_
  refine Eq.trans (rl_bipush (c := 24) (k := (nI 24)) (by decide +kernel) (by decide)) ?_
  refine Eq.trans (rl_irem (by decide +kernel) rfl) ?_
  exact rl_iret (by decide +kernel) rfl
theorem e38 {d : Nat} {n : Nat} {M : am_M} {w : am_W4} (hn : n < 12) : am_ev (d + 1) 38 [am_P (13, n, 0)] M (am_Z w) = some (.inl (some (am_I ((M (13, n, 0) 0) - (M (13, n, 0) 0) / (nI 24) * (nI 24)))), M, (am_Z w)) := (am_ev_eq d 38 _ M (am_Z w)).trans (b38_0 hn)
theorem b39_0 {n : Nat} {l : am_L} {M : am_M} {w : am_W4} (hn : n < 12) (hl : am_ck l 0) : am_rn call 39 0 [some (am_P (13, n, 0)), some (am_P l), some (am_P (6, 0, 0))] [] M (am_Z w) = if (M l 0) = (nI 0) then am_cb (call 40 [am_P (13, n, 0), am_I (M l 1), am_I (M l 2), am_I (M l 3), am_P (6, 0, 0)] M (am_Z w)) fun v M' X' => am_rn call 39 65 [some (am_P (13, n, 0)), some (am_P l), some (am_P (6, 0, 0))] (v.toList ++ []) M' X' else if (M l 0) = (nI 1) then am_cb (call 41 [am_P (13, n, 0), am_I (M l 1), am_I (M l 2), am_P (6, 0, 0)] M (am_Z w)) fun v M' X' => am_rn call 39 79 [some (am_P (13, n, 0)), some (am_P l), some (am_P (6, 0, 0))] (v.toList ++ []) M' X' else if (M l 0) = (nI 2) then am_cb (call 42 [am_P (13, n, 0), am_I (M l 1), am_I (M l 2), am_I (M l 3), am_P (6, 0, 0)] M (am_Z w)) fun v M' X' => am_rn call 39 97 [some (am_P (13, n, 0)), some (am_P l), some (am_P (6, 0, 0))] (v.toList ++ []) M' X' else if (M l 0) = (nI 3) then am_cb (call 43 [am_P (13, n, 0), am_I (M l 1), am_I (M l 2), am_P (6, 0, 0)] M (am_Z w)) fun v M' X' => am_rn call 39 111 [some (am_P (13, n, 0)), some (am_P l), some (am_P (6, 0, 0))] (v.toList ++ []) M' X' else if (M l 0) = (nI 4) then am_cb (call 44 [am_P (13, n, 0), am_I (M l 1), am_I (M l 2), am_P (6, 0, 0)] M (am_Z w)) fun v M' X' => am_rn call 39 125 [some (am_P (13, n, 0)), some (am_P l), some (am_P (6, 0, 0))] (v.toList ++ []) M' X' else if (M l 0) = (nI 5) then am_cb (call 45 [am_P (13, n, 0), am_I (M l 1), am_I (M l 2), am_I (M l 3), am_P (6, 0, 0)] M (am_Z w)) fun v M' X' => am_rn call 39 143 [some (am_P (13, n, 0)), some (am_P l), some (am_P (6, 0, 0))] (v.toList ++ []) M' X' else if (M l 0) = (nI 6) then am_cb (call 47 [am_P (13, n, 0), am_I (M l 1), am_P (6, 0, 0)] M (am_Z w)) fun v M' X' => am_rn call 39 153 [some (am_P (13, n, 0)), some (am_P l), some (am_P (6, 0, 0))] (v.toList ++ []) M' X' else am_cb (call 48 [am_P (13, n, 0), am_I (M l 1), am_P (6, 0, 0)] M (am_Z w)) fun v M' X' => am_rn call 39 163 [some (am_P (13, n, 0)), some (am_P l), some (am_P (6, 0, 0))] (v.toList ++ []) M' X' := by
  refine Eq.trans (rl_aloadn (j := 1) (by decide +kernel) rfl) ?_
  refine Eq.trans (rl_get (ix := 74) (ci := 0) (j := 0) (by decide +kernel) (by decide +kernel) (by decide +kernel) hl) ?_
  refine Eq.trans (rl_ts (d := 150) (lo := 0) (hi := 6) (os := #[44, 62, 76, 94, 108, 122, 140]) 154 [48, 66, 80, 98, 112, 126, 144] (by decide +kernel) (by decide +kernel)) ?_
  refine Eq.trans (rl_sw (nI 0) (by decide)) ?_
  refine am_ite (fun _ => ?_) (fun _ => ?_)
  · skip
    refine Eq.trans (rl_aloadn (j := 0) (by decide +kernel) rfl) ?_
    refine Eq.trans (rl_aloadn (j := 1) (by decide +kernel) rfl) ?_
    refine Eq.trans (rl_get (ix := 79) (ci := 0) (j := 1) (by decide +kernel) (by decide +kernel) (by decide +kernel) hl) ?_
    refine Eq.trans (rl_aloadn (j := 1) (by decide +kernel) rfl) ?_
    refine Eq.trans (rl_get (ix := 82) (ci := 0) (j := 2) (by decide +kernel) (by decide +kernel) (by decide +kernel) hl) ?_
    refine Eq.trans (rl_aloadn (j := 1) (by decide +kernel) rfl) ?_
    refine Eq.trans (rl_get (ix := 85) (ci := 0) (j := 3) (by decide +kernel) (by decide +kernel) (by decide +kernel) hl) ?_
    refine Eq.trans (rl_aloadn (j := 2) (by decide +kernel) rfl) ?_
    refine Eq.trans (rl_inv (ix := 88) (n := 4) (o := 5) 40 [am_I (M l 1), am_I (M l 2), am_I (M l 3), am_P (6, 0, 0)] [] (by decide +kernel) (by decide +kernel) (by decide +kernel) (by decide +kernel) ⟨rfl, rfl⟩ rfl rfl (ck13 hn)) ?_
    rfl
  refine Eq.trans (rl_sw (nI 1) (by decide)) ?_
  refine am_ite (fun _ => ?_) (fun _ => ?_)
  · skip
    refine Eq.trans (rl_aloadn (j := 0) (by decide +kernel) rfl) ?_
    refine Eq.trans (rl_aloadn (j := 1) (by decide +kernel) rfl) ?_
    refine Eq.trans (rl_get (ix := 79) (ci := 0) (j := 1) (by decide +kernel) (by decide +kernel) (by decide +kernel) hl) ?_
    refine Eq.trans (rl_aloadn (j := 1) (by decide +kernel) rfl) ?_
    refine Eq.trans (rl_get (ix := 82) (ci := 0) (j := 2) (by decide +kernel) (by decide +kernel) (by decide +kernel) hl) ?_
    refine Eq.trans (rl_aloadn (j := 2) (by decide +kernel) rfl) ?_
    refine Eq.trans (rl_inv (ix := 92) (n := 3) (o := 5) 41 [am_I (M l 1), am_I (M l 2), am_P (6, 0, 0)] [] (by decide +kernel) (by decide +kernel) (by decide +kernel) (by decide +kernel) ⟨rfl, rfl⟩ rfl rfl (ck13 hn)) ?_
    rfl
  refine Eq.trans (rl_sw (nI 2) (by decide)) ?_
  refine am_ite (fun _ => ?_) (fun _ => ?_)
  · skip
    refine Eq.trans (rl_aloadn (j := 0) (by decide +kernel) rfl) ?_
    refine Eq.trans (rl_aloadn (j := 1) (by decide +kernel) rfl) ?_
    refine Eq.trans (rl_get (ix := 79) (ci := 0) (j := 1) (by decide +kernel) (by decide +kernel) (by decide +kernel) hl) ?_
    refine Eq.trans (rl_aloadn (j := 1) (by decide +kernel) rfl) ?_
    refine Eq.trans (rl_get (ix := 82) (ci := 0) (j := 2) (by decide +kernel) (by decide +kernel) (by decide +kernel) hl) ?_
    refine Eq.trans (rl_aloadn (j := 1) (by decide +kernel) rfl) ?_
    refine Eq.trans (rl_get (ix := 85) (ci := 0) (j := 3) (by decide +kernel) (by decide +kernel) (by decide +kernel) hl) ?_
    refine Eq.trans (rl_aloadn (j := 2) (by decide +kernel) rfl) ?_
    refine Eq.trans (rl_inv (ix := 96) (n := 4) (o := 5) 42 [am_I (M l 1), am_I (M l 2), am_I (M l 3), am_P (6, 0, 0)] [] (by decide +kernel) (by decide +kernel) (by decide +kernel) (by decide +kernel) ⟨rfl, rfl⟩ rfl rfl (ck13 hn)) ?_
    rfl
  refine Eq.trans (rl_sw (nI 3) (by decide)) ?_
  refine am_ite (fun _ => ?_) (fun _ => ?_)
  · skip
    refine Eq.trans (rl_aloadn (j := 0) (by decide +kernel) rfl) ?_
    refine Eq.trans (rl_aloadn (j := 1) (by decide +kernel) rfl) ?_
    refine Eq.trans (rl_get (ix := 79) (ci := 0) (j := 1) (by decide +kernel) (by decide +kernel) (by decide +kernel) hl) ?_
    refine Eq.trans (rl_aloadn (j := 1) (by decide +kernel) rfl) ?_
    refine Eq.trans (rl_get (ix := 82) (ci := 0) (j := 2) (by decide +kernel) (by decide +kernel) (by decide +kernel) hl) ?_
    refine Eq.trans (rl_aloadn (j := 2) (by decide +kernel) rfl) ?_
    refine Eq.trans (rl_inv (ix := 99) (n := 3) (o := 5) 43 [am_I (M l 1), am_I (M l 2), am_P (6, 0, 0)] [] (by decide +kernel) (by decide +kernel) (by decide +kernel) (by decide +kernel) ⟨rfl, rfl⟩ rfl rfl (ck13 hn)) ?_
    rfl
  refine Eq.trans (rl_sw (nI 4) (by decide)) ?_
  refine am_ite (fun _ => ?_) (fun _ => ?_)
  · skip
    refine Eq.trans (rl_aloadn (j := 0) (by decide +kernel) rfl) ?_
    refine Eq.trans (rl_aloadn (j := 1) (by decide +kernel) rfl) ?_
    refine Eq.trans (rl_get (ix := 79) (ci := 0) (j := 1) (by decide +kernel) (by decide +kernel) (by decide +kernel) hl) ?_
    refine Eq.trans (rl_aloadn (j := 1) (by decide +kernel) rfl) ?_
    refine Eq.trans (rl_get (ix := 82) (ci := 0) (j := 2) (by decide +kernel) (by decide +kernel) (by decide +kernel) hl) ?_
    refine Eq.trans (rl_aloadn (j := 2) (by decide +kernel) rfl) ?_
    refine Eq.trans (rl_inv (ix := 102) (n := 3) (o := 5) 44 [am_I (M l 1), am_I (M l 2), am_P (6, 0, 0)] [] (by decide +kernel) (by decide +kernel) (by decide +kernel) (by decide +kernel) ⟨rfl, rfl⟩ rfl rfl (ck13 hn)) ?_
    rfl
  refine Eq.trans (rl_sw (nI 5) (by decide)) ?_
  refine am_ite (fun _ => ?_) (fun _ => ?_)
  · skip
    refine Eq.trans (rl_aloadn (j := 0) (by decide +kernel) rfl) ?_
    refine Eq.trans (rl_aloadn (j := 1) (by decide +kernel) rfl) ?_
    refine Eq.trans (rl_get (ix := 79) (ci := 0) (j := 1) (by decide +kernel) (by decide +kernel) (by decide +kernel) hl) ?_
    refine Eq.trans (rl_aloadn (j := 1) (by decide +kernel) rfl) ?_
    refine Eq.trans (rl_get (ix := 82) (ci := 0) (j := 2) (by decide +kernel) (by decide +kernel) (by decide +kernel) hl) ?_
    refine Eq.trans (rl_aloadn (j := 1) (by decide +kernel) rfl) ?_
    refine Eq.trans (rl_get (ix := 85) (ci := 0) (j := 3) (by decide +kernel) (by decide +kernel) (by decide +kernel) hl) ?_
    refine Eq.trans (rl_aloadn (j := 2) (by decide +kernel) rfl) ?_
    refine Eq.trans (rl_inv (ix := 105) (n := 4) (o := 5) 45 [am_I (M l 1), am_I (M l 2), am_I (M l 3), am_P (6, 0, 0)] [] (by decide +kernel) (by decide +kernel) (by decide +kernel) (by decide +kernel) ⟨rfl, rfl⟩ rfl rfl (ck13 hn)) ?_
    rfl
  refine Eq.trans (rl_sw (nI 6) (by decide)) ?_
  refine am_ite (fun _ => ?_) (fun _ => ?_)
  · skip
    refine Eq.trans (rl_aloadn (j := 0) (by decide +kernel) rfl) ?_
    refine Eq.trans (rl_aloadn (j := 1) (by decide +kernel) rfl) ?_
    refine Eq.trans (rl_get (ix := 79) (ci := 0) (j := 1) (by decide +kernel) (by decide +kernel) (by decide +kernel) hl) ?_
    refine Eq.trans (rl_aloadn (j := 2) (by decide +kernel) rfl) ?_
    refine Eq.trans (rl_inv (ix := 108) (n := 2) (o := 5) 47 [am_I (M l 1), am_P (6, 0, 0)] [] (by decide +kernel) (by decide +kernel) (by decide +kernel) (by decide +kernel) ⟨rfl, rfl⟩ rfl rfl (ck13 hn)) ?_
    rfl
  show am_rn call 39 154 _ _ _ _ = _
  refine Eq.trans (rl_aloadn (j := 0) (by decide +kernel) rfl) ?_
  refine Eq.trans (rl_aloadn (j := 1) (by decide +kernel) rfl) ?_
  refine Eq.trans (rl_get (ix := 79) (ci := 0) (j := 1) (by decide +kernel) (by decide +kernel) (by decide +kernel) hl) ?_
  refine Eq.trans (rl_aloadn (j := 2) (by decide +kernel) rfl) ?_
  refine Eq.trans (rl_inv (ix := 112) (n := 2) (o := 5) 48 [am_I (M l 1), am_P (6, 0, 0)] [] (by decide +kernel) (by decide +kernel) (by decide +kernel) (by decide +kernel) ⟨rfl, rfl⟩ rfl rfl (ck13 hn)) ?_
  rfl
theorem b39_65 {n : Nat} {l : am_L} {s0 : Int32} {M : am_M} {w : am_W4} (hn : n < 12) (hl : am_ck l 0) : am_rn call 39 65 [some (am_P (13, n, 0)), some (am_P l), some (am_P (6, 0, 0))] [am_I s0] M (am_Z w) = some (.inl (some (am_I s0)), M, (am_Z w)) := by
  exact rl_iret (by decide +kernel) rfl
theorem b39_79 {n : Nat} {l : am_L} {s0 : Int32} {M : am_M} {w : am_W4} (hn : n < 12) (hl : am_ck l 0) : am_rn call 39 79 [some (am_P (13, n, 0)), some (am_P l), some (am_P (6, 0, 0))] [am_I s0] M (am_Z w) = some (.inl (some (am_I s0)), M, (am_Z w)) := by
  exact rl_iret (by decide +kernel) rfl
theorem b39_97 {n : Nat} {l : am_L} {s0 : Int32} {M : am_M} {w : am_W4} (hn : n < 12) (hl : am_ck l 0) : am_rn call 39 97 [some (am_P (13, n, 0)), some (am_P l), some (am_P (6, 0, 0))] [am_I s0] M (am_Z w) = some (.inl (some (am_I s0)), M, (am_Z w)) := by
  exact rl_iret (by decide +kernel) rfl
theorem b39_111 {n : Nat} {l : am_L} {s0 : Int32} {M : am_M} {w : am_W4} (hn : n < 12) (hl : am_ck l 0) : am_rn call 39 111 [some (am_P (13, n, 0)), some (am_P l), some (am_P (6, 0, 0))] [am_I s0] M (am_Z w) = some (.inl (some (am_I s0)), M, (am_Z w)) := by
  exact rl_iret (by decide +kernel) rfl
theorem b39_125 {n : Nat} {l : am_L} {s0 : Int32} {M : am_M} {w : am_W4} (hn : n < 12) (hl : am_ck l 0) : am_rn call 39 125 [some (am_P (13, n, 0)), some (am_P l), some (am_P (6, 0, 0))] [am_I s0] M (am_Z w) = some (.inl (some (am_I s0)), M, (am_Z w)) := by
  exact rl_iret (by decide +kernel) rfl
theorem b39_143 {n : Nat} {l : am_L} {s0 : Int32} {M : am_M} {w : am_W4} (hn : n < 12) (hl : am_ck l 0) : am_rn call 39 143 [some (am_P (13, n, 0)), some (am_P l), some (am_P (6, 0, 0))] [am_I s0] M (am_Z w) = some (.inl (some (am_I s0)), M, (am_Z w)) := by
  exact rl_iret (by decide +kernel) rfl
theorem b39_153 {n : Nat} {l : am_L} {s0 : Int32} {M : am_M} {w : am_W4} (hn : n < 12) (hl : am_ck l 0) : am_rn call 39 153 [some (am_P (13, n, 0)), some (am_P l), some (am_P (6, 0, 0))] [am_I s0] M (am_Z w) = some (.inl (some (am_I s0)), M, (am_Z w)) := by
  exact rl_iret (by decide +kernel) rfl
theorem b39_163 {n : Nat} {l : am_L} {s0 : Int32} {M : am_M} {w : am_W4} (hn : n < 12) (hl : am_ck l 0) : am_rn call 39 163 [some (am_P (13, n, 0)), some (am_P l), some (am_P (6, 0, 0))] [am_I s0] M (am_Z w) = some (.inl (some (am_I s0)), M, (am_Z w)) := by
  exact rl_iret (by decide +kernel) rfl
theorem e39 {d : Nat} {n : Nat} {l : am_L} {M : am_M} {w : am_W4} (hn : n < 12) (hl : am_ck l 0) : am_ev (d + 1) 39 [am_P (13, n, 0), am_P l, am_P (6, 0, 0)] M (am_Z w) = if (M l 0) = (nI 0) then am_cb ((am_ev d) 40 [am_P (13, n, 0), am_I (M l 1), am_I (M l 2), am_I (M l 3), am_P (6, 0, 0)] M (am_Z w)) fun v M' X' => am_rn (am_ev d) 39 65 [some (am_P (13, n, 0)), some (am_P l), some (am_P (6, 0, 0))] (v.toList ++ []) M' X' else if (M l 0) = (nI 1) then am_cb ((am_ev d) 41 [am_P (13, n, 0), am_I (M l 1), am_I (M l 2), am_P (6, 0, 0)] M (am_Z w)) fun v M' X' => am_rn (am_ev d) 39 79 [some (am_P (13, n, 0)), some (am_P l), some (am_P (6, 0, 0))] (v.toList ++ []) M' X' else if (M l 0) = (nI 2) then am_cb ((am_ev d) 42 [am_P (13, n, 0), am_I (M l 1), am_I (M l 2), am_I (M l 3), am_P (6, 0, 0)] M (am_Z w)) fun v M' X' => am_rn (am_ev d) 39 97 [some (am_P (13, n, 0)), some (am_P l), some (am_P (6, 0, 0))] (v.toList ++ []) M' X' else if (M l 0) = (nI 3) then am_cb ((am_ev d) 43 [am_P (13, n, 0), am_I (M l 1), am_I (M l 2), am_P (6, 0, 0)] M (am_Z w)) fun v M' X' => am_rn (am_ev d) 39 111 [some (am_P (13, n, 0)), some (am_P l), some (am_P (6, 0, 0))] (v.toList ++ []) M' X' else if (M l 0) = (nI 4) then am_cb ((am_ev d) 44 [am_P (13, n, 0), am_I (M l 1), am_I (M l 2), am_P (6, 0, 0)] M (am_Z w)) fun v M' X' => am_rn (am_ev d) 39 125 [some (am_P (13, n, 0)), some (am_P l), some (am_P (6, 0, 0))] (v.toList ++ []) M' X' else if (M l 0) = (nI 5) then am_cb ((am_ev d) 45 [am_P (13, n, 0), am_I (M l 1), am_I (M l 2), am_I (M l 3), am_P (6, 0, 0)] M (am_Z w)) fun v M' X' => am_rn (am_ev d) 39 143 [some (am_P (13, n, 0)), some (am_P l), some (am_P (6, 0, 0))] (v.toList ++ []) M' X' else if (M l 0) = (nI 6) then am_cb ((am_ev d) 47 [am_P (13, n, 0), am_I (M l 1), am_P (6, 0, 0)] M (am_Z w)) fun v M' X' => am_rn (am_ev d) 39 153 [some (am_P (13, n, 0)), some (am_P l), some (am_P (6, 0, 0))] (v.toList ++ []) M' X' else am_cb ((am_ev d) 48 [am_P (13, n, 0), am_I (M l 1), am_P (6, 0, 0)] M (am_Z w)) fun v M' X' => am_rn (am_ev d) 39 163 [some (am_P (13, n, 0)), some (am_P l), some (am_P (6, 0, 0))] (v.toList ++ []) M' X' := (am_ev_eq d 39 _ M (am_Z w)).trans (b39_0 hn hl)
theorem b40_0 {n : Nat} {x1 x2 x3 : Int32} {M : am_M} {w : am_W4} (hn : n < 12) : am_rn call 40 0 [some (am_P (13, n, 0)), some (am_I x1), some (am_I x2), some (am_I x3), some (am_P (6, 0, 0)), none, none] [] M (am_Z w) = if (M (13, n, 0) 1) = 0 then am_rn call 40 18 [some (am_P (13, n, 0)), some (am_I x1), some (am_I x2), some (am_I x3), some (am_P (6, 0, 0)), none, none] [] M (am_Z w) else if x3 < (nI 1) then am_rn call 40 22 [some (am_P (13, n, 0)), some (am_I x1), some (am_I x2), some (am_I x3), some (am_P (6, 0, 0)), none, none] [] M (am_Z w) else if (nI 9) < x3 then am_rn call 40 22 [some (am_P (13, n, 0)), some (am_I x1), some (am_I x2), some (am_I x3), some (am_P (6, 0, 0)), none, none] [] M (am_Z w) else am_rn call 40 18 [some (am_P (13, n, 0)), some (am_I x1), some (am_I x2), some (am_I x3), some (am_P (6, 0, 0)), none, none] [] M (am_Z w) := by
  refine Eq.trans (rl_aloadn (j := 0) (by decide +kernel) rfl) ?_
  refine Eq.trans (rl_get (ix := 46) (ci := 5) (j := 1) (by decide +kernel) (by decide +kernel) (by decide +kernel) (ck13 hn)) ?_
  refine Eq.trans (rl_ifeq (o := 14) 18 (by decide +kernel) (by decide)) ?_
  refine am_ite (fun h_1 => ?_) (fun h_1 => ?_)
  · skip
    rfl
  · skip
    refine Eq.trans (rl_iloadn (j := 3) (by decide +kernel) rfl) ?_
    refine Eq.trans (rl_iconst (c := 1) (k := (nI 1)) (by decide +kernel) (by decide)) ?_
    refine Eq.trans (rl_iclt (o := 13) 22 (by decide +kernel) (by decide)) ?_
    refine am_ite (fun h_2 => ?_) (fun h_2 => ?_)
    · skip
      rfl
    · skip
      refine Eq.trans (rl_iloadn (j := 3) (by decide +kernel) rfl) ?_
      refine Eq.trans (rl_bipush (c := 9) (k := (nI 9)) (by decide +kernel) (by decide)) ?_
      refine Eq.trans (rl_icgt (o := 7) 22 (by decide +kernel) (by decide)) ?_
      refine am_ite (fun h_3 => ?_) (fun h_3 => ?_)
      · skip
        rfl
      · skip
        rfl
theorem b40_18 {n : Nat} {x1 x2 x3 : Int32} {M : am_M} {w : am_W4} (hn : n < 12) : am_rn call 40 18 [some (am_P (13, n, 0)), some (am_I x1), some (am_I x2), some (am_I x3), some (am_P (6, 0, 0)), none, none] [] M (am_Z w) = am_rn call 40 23 [some (am_P (13, n, 0)), some (am_I x1), some (am_I x2), some (am_I x3), some (am_P (6, 0, 0)), none, none] [am_I (nI 1)] M (am_Z w) := by
  refine Eq.trans (rl_iconst (c := 1) (k := (nI 1)) (by decide +kernel) (by decide)) ?_
  refine Eq.trans (rl_goto (o := 4) 23 (by decide +kernel) (by decide)) ?_
  rfl
theorem b40_22 {n : Nat} {x1 x2 x3 : Int32} {M : am_M} {w : am_W4} (hn : n < 12) : am_rn call 40 22 [some (am_P (13, n, 0)), some (am_I x1), some (am_I x2), some (am_I x3), some (am_P (6, 0, 0)), none, none] [] M (am_Z w) = am_rn call 40 23 [some (am_P (13, n, 0)), some (am_I x1), some (am_I x2), some (am_I x3), some (am_P (6, 0, 0)), none, none] [am_I (nI 0)] M (am_Z w) := by
  refine Eq.trans (rl_iconst (c := 0) (k := (nI 0)) (by decide +kernel) (by decide)) ?_
  rfl
theorem b40_23 {n : Nat} {x1 x2 x3 s0 : Int32} {M : am_M} {w : am_W4} (hn : n < 12) : am_rn call 40 23 [some (am_P (13, n, 0)), some (am_I x1), some (am_I x2), some (am_I x3), some (am_P (6, 0, 0)), none, none] [am_I s0] M (am_Z w) = am_cb (call 110 [am_I x1] M (am_Z w)) fun v M' X' => am_rn call 40 29 [some (am_P (13, n, 0)), some (am_I x1), some (am_I x2), some (am_I x3), some (am_P (6, 0, 0)), some (am_I s0), none] (v.toList ++ []) M' X' := by
  refine Eq.trans (rl_istore (j := 5) (ls' := [some (am_P (13, n, 0)), some (am_I x1), some (am_I x2), some (am_I x3), some (am_P (6, 0, 0)), some (am_I s0), none]) (by decide +kernel) rfl rfl) ?_
  refine Eq.trans (rl_iloadn (j := 1) (by decide +kernel) rfl) ?_
  refine Eq.trans (rl_invS (ix := 115) (n := 1) (k := 4) 110 [am_I x1] [] (by decide +kernel) (by decide +kernel) (by decide) (by decide +kernel) ⟨rfl, rfl⟩ rfl rfl) ?_
  rfl
theorem b40_29 {n : Nat} {x1 x2 x3 x5 s0 : Int32} {M : am_M} {w : am_W4} (hn : n < 12) : am_rn call 40 29 [some (am_P (13, n, 0)), some (am_I x1), some (am_I x2), some (am_I x3), some (am_P (6, 0, 0)), some (am_I x5), none] [am_I s0] M (am_Z w) = if s0 = 0 then am_rn call 40 44 [some (am_P (13, n, 0)), some (am_I x1), some (am_I x2), some (am_I x3), some (am_P (6, 0, 0)), some (am_I x5), none] [] M (am_Z w) else am_cb (call 110 [am_I x2] M (am_Z w)) fun v M' X' => am_rn call 40 36 [some (am_P (13, n, 0)), some (am_I x1), some (am_I x2), some (am_I x3), some (am_P (6, 0, 0)), some (am_I x5), none] (v.toList ++ []) M' X' := by
  refine Eq.trans (rl_ifeq (o := 15) 44 (by decide +kernel) (by decide)) ?_
  refine am_ite (fun h_1 => ?_) (fun h_1 => ?_)
  · skip
    rfl
  · skip
    refine Eq.trans (rl_iloadn (j := 2) (by decide +kernel) rfl) ?_
    refine Eq.trans (rl_invS (ix := 115) (n := 1) (k := 4) 110 [am_I x2] [] (by decide +kernel) (by decide +kernel) (by decide) (by decide +kernel) ⟨rfl, rfl⟩ rfl rfl) ?_
    rfl
theorem b40_36 {n : Nat} {x1 x2 x3 x5 s0 : Int32} {M : am_M} {w : am_W4} (hn : n < 12) : am_rn call 40 36 [some (am_P (13, n, 0)), some (am_I x1), some (am_I x2), some (am_I x3), some (am_P (6, 0, 0)), some (am_I x5), none] [am_I s0] M (am_Z w) = if s0 = 0 then am_rn call 40 44 [some (am_P (13, n, 0)), some (am_I x1), some (am_I x2), some (am_I x3), some (am_P (6, 0, 0)), some (am_I x5), none] [] M (am_Z w) else if x5 = 0 then am_rn call 40 44 [some (am_P (13, n, 0)), some (am_I x1), some (am_I x2), some (am_I x3), some (am_P (6, 0, 0)), some (am_I x5), none] [] M (am_Z w) else if (M (13, n, 0) 1) < (nI 6) then if 0 < (M (13, n, 0) 1) then if am_in ((M (13, n, 0) 1) - (nI 1)) 5 then am_rn call 40 102 [some (am_P (13, n, 0)), some (am_I x1), some (am_I x2), some (am_I x3), some (am_P (6, 0, 0)), some (am_I x5), some (am_P (23, n, ((M (13, n, 0) 1) - (nI 1)).toNatClampNeg))] [] (am_set (am_set M (23, n, ((M (13, n, 0) 1) - (nI 1)).toNatClampNeg) 0 x3) (23, n, ((M (13, n, 0) 1) - (nI 1)).toNatClampNeg) 1 (nI 0)) (am_Z w) else none else am_rn call 40 102 [some (am_P (13, n, 0)), some (am_I x1), some (am_I x2), some (am_I x3), some (am_P (6, 0, 0)), some (am_I x5), none] [] M (am_Z w) else am_cb (call 63 [am_P (6, 0, 0), am_I (nI 2), am_I (nI 6)] M (am_Z w)) fun v M' X' => am_rn call 40 69 [some (am_P (13, n, 0)), some (am_I x1), some (am_I x2), some (am_I x3), some (am_P (6, 0, 0)), some (am_I x5), none] (v.toList ++ []) M' X' := by
  refine Eq.trans (rl_ifeq (o := 8) 44 (by decide +kernel) (by decide)) ?_
  refine am_ite (fun h_1 => ?_) (fun h_1 => ?_)
  · skip
    rfl
  · skip
    refine Eq.trans (rl_iload (j := 5) (by decide +kernel) rfl) ?_
    refine Eq.trans (rl_ifne (o := 11) 52 (by decide +kernel) (by decide)) ?_
    refine am_ite (fun h_2 => ?_) (fun h_2 => ?_)
    · skip
      rfl
    · skip
      refine Eq.trans (rl_aloadn (j := 0) (by decide +kernel) rfl) ?_
      refine Eq.trans (rl_get (ix := 46) (ci := 5) (j := 1) (by decide +kernel) (by decide +kernel) (by decide +kernel) (ck13 hn)) ?_
      refine Eq.trans (rl_bipush (c := 6) (k := (nI 6)) (by decide +kernel) (by decide)) ?_
      refine Eq.trans (rl_iclt (o := 12) 70 (by decide +kernel) (by decide)) ?_
      refine am_ite (fun h_3 => ?_) (fun h_3 => ?_)
      · skip
        refine Eq.trans (rl_aloadn (j := 0) (by decide +kernel) rfl) ?_
        refine Eq.trans (rl_get (ix := 46) (ci := 5) (j := 1) (by decide +kernel) (by decide +kernel) (by decide +kernel) (ck13 hn)) ?_
        refine Eq.trans (rl_ifle (o := 28) 102 (by decide +kernel) (by decide)) ?_
        refine am_ite (fun h_4 => ?_) (fun h_4 => ?_)
        · skip
          refine Eq.trans (rl_aloadn (j := 0) (by decide +kernel) rfl) ?_
          refine Eq.trans (rl_getP (ix := 19) (ci := 5) (j := 3) (by decide +kernel) (by decide +kernel) (by decide +kernel) (ck13 hn) rfl) ?_
          refine Eq.trans (rl_aloadn (j := 0) (by decide +kernel) rfl) ?_
          refine Eq.trans (rl_get (ix := 46) (ci := 5) (j := 1) (by decide +kernel) (by decide +kernel) (by decide +kernel) (ck13 hn)) ?_
          refine Eq.trans (rl_iconst (c := 1) (k := (nI 1)) (by decide +kernel) (by decide)) ?_
          refine Eq.trans (rl_isub (by decide +kernel)) ?_
          refine Eq.trans (rl_aald (v := (23, n, ((M (13, n, 0) 1) - (nI 1)).toNatClampNeg)) (by decide +kernel) (ka15 hn) (fun h => if_pos (am_in_lt' h))) ?_
          refine am_ite (fun h_5 => ?_) (fun _ => rfl)
          refine Eq.trans (rl_astore (j := 6) (ls' := [some (am_P (13, n, 0)), some (am_I x1), some (am_I x2), some (am_I x3), some (am_P (6, 0, 0)), some (am_I x5), some (am_P (23, n, ((M (13, n, 0) 1) - (nI 1)).toNatClampNeg))]) (by decide +kernel) rfl rfl) ?_
          refine Eq.trans (rl_aload (j := 6) (by decide +kernel) rfl) ?_
          refine Eq.trans (rl_iloadn (j := 3) (by decide +kernel) rfl) ?_
          refine Eq.trans (rl_put (ix := 53) (ci := 7) (j := 0) (by decide +kernel) (by decide +kernel) (by decide +kernel) (by decide +kernel) (ck23 hn (am_in_lt' h_5))) ?_
          refine Eq.trans (rl_aload (j := 6) (by decide +kernel) rfl) ?_
          refine Eq.trans (rl_iconst (c := 0) (k := (nI 0)) (by decide +kernel) (by decide)) ?_
          refine Eq.trans (rl_put (ix := 56) (ci := 7) (j := 1) (by decide +kernel) (by decide +kernel) (by decide +kernel) (by decide +kernel) (ck23 hn (am_in_lt' h_5))) ?_
          rfl
        · skip
          rfl
      · skip
        refine Eq.trans (rl_aload (j := 4) (by decide +kernel) rfl) ?_
        refine Eq.trans (rl_iconst (c := 2) (k := (nI 2)) (by decide +kernel) (by decide)) ?_
        refine Eq.trans (rl_bipush (c := 6) (k := (nI 6)) (by decide +kernel) (by decide)) ?_
        refine Eq.trans (rl_inv (ix := 119) (n := 2) (o := 6) 63 [am_I (nI 2), am_I (nI 6)] [] (by decide +kernel) (by decide +kernel) (by decide +kernel) (by decide +kernel) ⟨rfl, rfl⟩ rfl rfl ck6) ?_
        rfl
theorem b40_44 {n : Nat} {x1 x2 x3 x5 : Int32} {M : am_M} {w : am_W4} (hn : n < 12) : am_rn call 40 44 [some (am_P (13, n, 0)), some (am_I x1), some (am_I x2), some (am_I x3), some (am_P (6, 0, 0)), some (am_I x5), none] [] M (am_Z w) = am_cb (call 63 [am_P (6, 0, 0), am_I (nI 1), am_I (nI 0)] M (am_Z w)) fun v M' X' => am_rn call 40 51 [some (am_P (13, n, 0)), some (am_I x1), some (am_I x2), some (am_I x3), some (am_P (6, 0, 0)), some (am_I x5), none] (v.toList ++ []) M' X' := by
  refine Eq.trans (rl_aload (j := 4) (by decide +kernel) rfl) ?_
  refine Eq.trans (rl_iconst (c := 1) (k := (nI 1)) (by decide +kernel) (by decide)) ?_
  refine Eq.trans (rl_iconst (c := 0) (k := (nI 0)) (by decide +kernel) (by decide)) ?_
  refine Eq.trans (rl_inv (ix := 119) (n := 2) (o := 6) 63 [am_I (nI 1), am_I (nI 0)] [] (by decide +kernel) (by decide +kernel) (by decide +kernel) (by decide +kernel) ⟨rfl, rfl⟩ rfl rfl ck6) ?_
  rfl
theorem b40_51 {n : Nat} {x1 x2 x3 x5 s0 : Int32} {M : am_M} {w : am_W4} (hn : n < 12) : am_rn call 40 51 [some (am_P (13, n, 0)), some (am_I x1), some (am_I x2), some (am_I x3), some (am_P (6, 0, 0)), some (am_I x5), none] [am_I s0] M (am_Z w) = some (.inl (some (am_I s0)), M, (am_Z w)) := by
  exact rl_iret (by decide +kernel) rfl
theorem b40_69 {n : Nat} {x1 x2 x3 x5 s0 : Int32} {M : am_M} {w : am_W4} (hn : n < 12) : am_rn call 40 69 [some (am_P (13, n, 0)), some (am_I x1), some (am_I x2), some (am_I x3), some (am_P (6, 0, 0)), some (am_I x5), none] [am_I s0] M (am_Z w) = some (.inl (some (am_I s0)), M, (am_Z w)) := by
  exact rl_iret (by decide +kernel) rfl
theorem b40_102 {n : Nat} {x1 x2 x3 x5 : Int32} {x6 : Option am_V} {M : am_M} {w : am_W4} (hn : n < 12) : am_rn call 40 102 [some (am_P (13, n, 0)), some (am_I x1), some (am_I x2), some (am_I x3), some (am_P (6, 0, 0)), some (am_I x5), x6] [] M (am_Z w) = if am_in (M (13, n, 0) 1) 6 then am_cb (call 16 [am_P (21, n, (M (13, n, 0) 1).toNatClampNeg), am_I x1, am_I x2] M (am_Z w)) fun v M' X' => am_rn call 40 116 [some (am_P (13, n, 0)), some (am_I x1), some (am_I x2), some (am_I x3), some (am_P (6, 0, 0)), some (am_I x5), x6] (v.toList ++ []) M' X' else none := by
  refine Eq.trans (rl_aloadn (j := 0) (by decide +kernel) rfl) ?_
  refine Eq.trans (rl_getP (ix := 11) (ci := 5) (j := 2) (by decide +kernel) (by decide +kernel) (by decide +kernel) (ck13 hn) rfl) ?_
  refine Eq.trans (rl_aloadn (j := 0) (by decide +kernel) rfl) ?_
  refine Eq.trans (rl_get (ix := 46) (ci := 5) (j := 1) (by decide +kernel) (by decide +kernel) (by decide +kernel) (ck13 hn)) ?_
  refine Eq.trans (rl_aald (v := (21, n, (M (13, n, 0) 1).toNatClampNeg)) (by decide +kernel) (ka14 hn) (fun h => if_pos (am_in_lt' h))) ?_
  refine am_ite (fun h_1 => ?_) (fun _ => rfl)
  refine Eq.trans (rl_iloadn (j := 1) (by decide +kernel) rfl) ?_
  refine Eq.trans (rl_iloadn (j := 2) (by decide +kernel) rfl) ?_
  refine Eq.trans (rl_inv (ix := 125) (n := 2) (o := 2) 16 [am_I x1, am_I x2] [] (by decide +kernel) (by decide +kernel) (by decide +kernel) (by decide +kernel) ⟨rfl, rfl⟩ rfl rfl (ck21 hn (am_in_lt' h_1))) ?_
  rfl
theorem b40_116 {n : Nat} {x1 x2 x3 x5 : Int32} {x6 : Option am_V} {M : am_M} {w : am_W4} (hn : n < 12) : am_rn call 40 116 [some (am_P (13, n, 0)), some (am_I x1), some (am_I x2), some (am_I x3), some (am_P (6, 0, 0)), some (am_I x5), x6] [] M (am_Z w) = am_rn call 40 126 [some (am_P (13, n, 0)), some (am_I x1), some (am_I x2), some (am_I x3), some (am_P (6, 0, 0)), some (am_I x5), x6] [] (am_set M (13, n, 0) 1 ((M (13, n, 0) 1) + (nI 1))) (am_Z w) := by
  refine Eq.trans (rl_aloadn (j := 0) (by decide +kernel) rfl) ?_
  refine Eq.trans (rl_dup (by decide +kernel) rfl) ?_
  refine Eq.trans (rl_get (ix := 46) (ci := 5) (j := 1) (by decide +kernel) (by decide +kernel) (by decide +kernel) (ck13 hn)) ?_
  refine Eq.trans (rl_iconst (c := 1) (k := (nI 1)) (by decide +kernel) (by decide)) ?_
  refine Eq.trans (rl_iadd (by decide +kernel)) ?_
  refine Eq.trans (rl_put (ix := 46) (ci := 5) (j := 1) (by decide +kernel) (by decide +kernel) (by decide +kernel) (by decide +kernel) (ck13 hn)) ?_
  rfl
theorem b40_126 {n : Nat} {x1 x2 x3 x5 : Int32} {x6 : Option am_V} {M : am_M} {w : am_W4} (hn : n < 12) : am_rn call 40 126 [some (am_P (13, n, 0)), some (am_I x1), some (am_I x2), some (am_I x3), some (am_P (6, 0, 0)), some (am_I x5), x6] [] M (am_Z w) = some (.inl (some (am_I ((M (13, n, 0) 1) - (nI 1)))), M, (am_Z w)) := by
  refine Eq.trans (rl_aloadn (j := 0) (by decide +kernel) rfl) ?_
  refine Eq.trans (rl_get (ix := 46) (ci := 5) (j := 1) (by decide +kernel) (by decide +kernel) (by decide +kernel) (ck13 hn)) ?_
  refine Eq.trans (rl_iconst (c := 1) (k := (nI 1)) (by decide +kernel) (by decide)) ?_
  refine Eq.trans (rl_isub (by decide +kernel)) ?_
  exact rl_iret (by decide +kernel) rfl
theorem e40 {d : Nat} {n : Nat} {x1 x2 x3 : Int32} {M : am_M} {w : am_W4} (hn : n < 12) : am_ev (d + 1) 40 [am_P (13, n, 0), am_I x1, am_I x2, am_I x3, am_P (6, 0, 0)] M (am_Z w) = if (M (13, n, 0) 1) = 0 then am_rn (am_ev d) 40 18 [some (am_P (13, n, 0)), some (am_I x1), some (am_I x2), some (am_I x3), some (am_P (6, 0, 0)), none, none] [] M (am_Z w) else if x3 < (nI 1) then am_rn (am_ev d) 40 22 [some (am_P (13, n, 0)), some (am_I x1), some (am_I x2), some (am_I x3), some (am_P (6, 0, 0)), none, none] [] M (am_Z w) else if (nI 9) < x3 then am_rn (am_ev d) 40 22 [some (am_P (13, n, 0)), some (am_I x1), some (am_I x2), some (am_I x3), some (am_P (6, 0, 0)), none, none] [] M (am_Z w) else am_rn (am_ev d) 40 18 [some (am_P (13, n, 0)), some (am_I x1), some (am_I x2), some (am_I x3), some (am_P (6, 0, 0)), none, none] [] M (am_Z w) := (am_ev_eq d 40 _ M (am_Z w)).trans (b40_0 hn)
theorem b41_0 {n : Nat} {x1 x2 : Int32} {M : am_M} {w : am_W4} (hn : n < 12) : am_rn call 41 0 [some (am_P (13, n, 0)), some (am_I x1), some (am_I x2), some (am_P (6, 0, 0)), none] [] M (am_Z w) = am_cb (call 231 [am_I x1] M (am_Z w)) fun v M' X' => am_rn call 41 4 [some (am_P (13, n, 0)), some (am_I x1), some (am_I x2), some (am_P (6, 0, 0)), none] (v.toList ++ []) M' X' := by
  refine Eq.trans (rl_iloadn (j := 1) (by decide +kernel) rfl) ?_
  refine Eq.trans (rl_invS (ix := 129) (n := 1) (k := 4) 231 [am_I x1] [] (by decide +kernel) (by decide +kernel) (by decide) (by decide +kernel) ⟨rfl, rfl⟩ rfl rfl) ?_
  rfl
theorem b41_4 {n : Nat} {x1 x2 s0 : Int32} {M : am_M} {w : am_W4} (hn : n < 12) : am_rn call 41 4 [some (am_P (13, n, 0)), some (am_I x1), some (am_I x2), some (am_P (6, 0, 0)), none] [am_I s0] M (am_Z w) = if s0 = 0 then am_rn call 41 19 [some (am_P (13, n, 0)), some (am_I x1), some (am_I x2), some (am_P (6, 0, 0)), none] [] M (am_Z w) else if x2 < (nI 1) then am_rn call 41 19 [some (am_P (13, n, 0)), some (am_I x1), some (am_I x2), some (am_P (6, 0, 0)), none] [] M (am_Z w) else if (nI 150) < x2 then am_rn call 41 19 [some (am_P (13, n, 0)), some (am_I x1), some (am_I x2), some (am_P (6, 0, 0)), none] [] M (am_Z w) else am_rn call 41 29 [some (am_P (13, n, 0)), some (am_I x1), some (am_I x2), some (am_P (6, 0, 0)), some (am_I (nI 1))] [] M (am_Z w) := by
  refine Eq.trans (rl_ifeq (o := 15) 19 (by decide +kernel) (by decide)) ?_
  refine am_ite (fun h_1 => ?_) (fun h_1 => ?_)
  · skip
    rfl
  · skip
    refine Eq.trans (rl_iloadn (j := 2) (by decide +kernel) rfl) ?_
    refine Eq.trans (rl_iconst (c := 1) (k := (nI 1)) (by decide +kernel) (by decide)) ?_
    refine Eq.trans (rl_iclt (o := 10) 19 (by decide +kernel) (by decide)) ?_
    refine am_ite (fun h_2 => ?_) (fun h_2 => ?_)
    · skip
      rfl
    · skip
      refine Eq.trans (rl_iloadn (j := 2) (by decide +kernel) rfl) ?_
      refine Eq.trans (rl_sipush (c := 150) (k := (nI 150)) (by decide +kernel) (by decide)) ?_
      refine Eq.trans (rl_icle (o := 10) 26 (by decide +kernel) (by decide)) ?_
      refine am_ite (fun h_3 => ?_) (fun h_3 => ?_)
      · skip
        rfl
      · skip
        refine Eq.trans (rl_iconst (c := 1) (k := (nI 1)) (by decide +kernel) (by decide)) ?_
        refine Eq.trans (rl_istore (j := 4) (ls' := [some (am_P (13, n, 0)), some (am_I x1), some (am_I x2), some (am_P (6, 0, 0)), some (am_I (nI 1))]) (by decide +kernel) rfl rfl) ?_
        rfl
theorem b41_19 {n : Nat} {x1 x2 : Int32} {M : am_M} {w : am_W4} (hn : n < 12) : am_rn call 41 19 [some (am_P (13, n, 0)), some (am_I x1), some (am_I x2), some (am_P (6, 0, 0)), none] [] M (am_Z w) = am_cb (call 63 [am_P (6, 0, 0), am_I (nI 1), am_I (nI 0)] M (am_Z w)) fun v M' X' => am_rn call 41 25 [some (am_P (13, n, 0)), some (am_I x1), some (am_I x2), some (am_P (6, 0, 0)), none] (v.toList ++ []) M' X' := by
  refine Eq.trans (rl_aloadn (j := 3) (by decide +kernel) rfl) ?_
  refine Eq.trans (rl_iconst (c := 1) (k := (nI 1)) (by decide +kernel) (by decide)) ?_
  refine Eq.trans (rl_iconst (c := 0) (k := (nI 0)) (by decide +kernel) (by decide)) ?_
  refine Eq.trans (rl_inv (ix := 119) (n := 2) (o := 6) 63 [am_I (nI 1), am_I (nI 0)] [] (by decide +kernel) (by decide +kernel) (by decide +kernel) (by decide +kernel) ⟨rfl, rfl⟩ rfl rfl ck6) ?_
  rfl
theorem b41_25 {n : Nat} {x1 x2 s0 : Int32} {M : am_M} {w : am_W4} (hn : n < 12) : am_rn call 41 25 [some (am_P (13, n, 0)), some (am_I x1), some (am_I x2), some (am_P (6, 0, 0)), none] [am_I s0] M (am_Z w) = some (.inl (some (am_I s0)), M, (am_Z w)) := by
  exact rl_iret (by decide +kernel) rfl
theorem b41_29 {n : Nat} {x1 x2 x4 : Int32} {M : am_M} {w : am_W4} (hn : n < 12) : am_rn call 41 29 [some (am_P (13, n, 0)), some (am_I x1), some (am_I x2), some (am_P (6, 0, 0)), some (am_I x4)] [] M (am_Z w) = if (nI 8) < x4 then if am_in x1 9 then if am_in x1 9 then some (.inl (some (am_I (M (16, n, 0) x1.toNatClampNeg))), (am_set M (16, n, 0) x1.toNatClampNeg x2), (am_Z w)) else none else none else if x4 = x1 then am_rn call 41 62 [some (am_P (13, n, 0)), some (am_I x1), some (am_I x2), some (am_P (6, 0, 0)), some (am_I x4)] [] M (am_Z w) else if am_in x4 9 then if (M (16, n, 0) x4.toNatClampNeg) = x2 then am_cb (call 63 [am_P (6, 0, 0), am_I (nI 6), am_I x4] M (am_Z w)) fun v M' X' => am_rn call 41 61 [some (am_P (13, n, 0)), some (am_I x1), some (am_I x2), some (am_P (6, 0, 0)), some (am_I x4)] (v.toList ++ []) M' X' else am_rn call 41 62 [some (am_P (13, n, 0)), some (am_I x1), some (am_I x2), some (am_P (6, 0, 0)), some (am_I x4)] [] M (am_Z w) else none := by
  refine Eq.trans (rl_iload (j := 4) (by decide +kernel) rfl) ?_
  refine Eq.trans (rl_bipush (c := 8) (k := (nI 8)) (by decide +kernel) (by decide)) ?_
  refine Eq.trans (rl_icgt (o := 35) 68 (by decide +kernel) (by decide)) ?_
  refine am_ite (fun h_1 => ?_) (fun h_1 => ?_)
  · skip
    refine Eq.trans (rl_aloadn (j := 0) (by decide +kernel) rfl) ?_
    refine Eq.trans (rl_getP (ix := 23) (ci := 5) (j := 4) (by decide +kernel) (by decide +kernel) (by decide +kernel) (ck13 hn) rfl) ?_
    refine Eq.trans (rl_iloadn (j := 1) (by decide +kernel) rfl) ?_
    refine Eq.trans (rl_iald (by decide +kernel) (ka16 hn)) ?_
    refine am_ite (fun h_2 => ?_) (fun _ => rfl)
    refine Eq.trans (rl_istore (j := 4) (ls' := [some (am_P (13, n, 0)), some (am_I x1), some (am_I x2), some (am_P (6, 0, 0)), some (am_I (M (16, n, 0) x1.toNatClampNeg))]) (by decide +kernel) rfl rfl) ?_
    refine Eq.trans (rl_aloadn (j := 0) (by decide +kernel) rfl) ?_
    refine Eq.trans (rl_getP (ix := 23) (ci := 5) (j := 4) (by decide +kernel) (by decide +kernel) (by decide +kernel) (ck13 hn) rfl) ?_
    refine Eq.trans (rl_iloadn (j := 1) (by decide +kernel) rfl) ?_
    refine Eq.trans (rl_iloadn (j := 2) (by decide +kernel) rfl) ?_
    refine Eq.trans (rl_iast (by decide +kernel) (ka16 hn)) ?_
    refine am_ite (fun h_3 => ?_) (fun _ => rfl)
    refine Eq.trans (rl_iload (j := 4) (by decide +kernel) rfl) ?_
    exact rl_iret (by decide +kernel) rfl
  · skip
    refine Eq.trans (rl_iload (j := 4) (by decide +kernel) rfl) ?_
    refine Eq.trans (rl_iloadn (j := 1) (by decide +kernel) rfl) ?_
    refine Eq.trans (rl_iceq (o := 23) 62 (by decide +kernel) (by decide)) ?_
    refine am_ite (fun h_4 => ?_) (fun h_4 => ?_)
    · skip
      rfl
    · skip
      refine Eq.trans (rl_aloadn (j := 0) (by decide +kernel) rfl) ?_
      refine Eq.trans (rl_getP (ix := 23) (ci := 5) (j := 4) (by decide +kernel) (by decide +kernel) (by decide +kernel) (ck13 hn) rfl) ?_
      refine Eq.trans (rl_iload (j := 4) (by decide +kernel) rfl) ?_
      refine Eq.trans (rl_iald (by decide +kernel) (ka16 hn)) ?_
      refine am_ite (fun h_5 => ?_) (fun _ => rfl)
      refine Eq.trans (rl_iloadn (j := 2) (by decide +kernel) rfl) ?_
      refine Eq.trans (rl_icne (o := 12) 62 (by decide +kernel) (by decide)) ?_
      refine am_ite (fun h_6 => ?_) (fun h_6 => ?_)
      · skip
        refine Eq.trans (rl_aloadn (j := 3) (by decide +kernel) rfl) ?_
        refine Eq.trans (rl_bipush (c := 6) (k := (nI 6)) (by decide +kernel) (by decide)) ?_
        refine Eq.trans (rl_iload (j := 4) (by decide +kernel) rfl) ?_
        refine Eq.trans (rl_inv (ix := 119) (n := 2) (o := 6) 63 [am_I (nI 6), am_I x4] [] (by decide +kernel) (by decide +kernel) (by decide +kernel) (by decide +kernel) ⟨rfl, rfl⟩ rfl rfl ck6) ?_
        rfl
      · skip
        rfl
theorem b41_61 {n : Nat} {x1 x2 x4 s0 : Int32} {M : am_M} {w : am_W4} (hn : n < 12) : am_rn call 41 61 [some (am_P (13, n, 0)), some (am_I x1), some (am_I x2), some (am_P (6, 0, 0)), some (am_I x4)] [am_I s0] M (am_Z w) = some (.inl (some (am_I s0)), M, (am_Z w)) := by
  exact rl_iret (by decide +kernel) rfl
theorem b41_62 {n : Nat} {x1 x2 x4 : Int32} {M : am_M} {w : am_W4} (hn : n < 12) : am_rn call 41 62 [some (am_P (13, n, 0)), some (am_I x1), some (am_I x2), some (am_P (6, 0, 0)), some (am_I x4)] [] M (am_Z w) = am_rn call 41 29 [some (am_P (13, n, 0)), some (am_I x1), some (am_I x2), some (am_P (6, 0, 0)), some (am_I (x4 + (nI 1)))] [] M (am_Z w) := by
  refine Eq.trans (rl_iinc (j := 4) (c := 1) (k := (nI 1)) (ls' := [some (am_P (13, n, 0)), some (am_I x1), some (am_I x2), some (am_P (6, 0, 0)), some (am_I (x4 + (nI 1)))]) (by decide +kernel) (by decide) rfl rfl) ?_
  refine Eq.trans (rl_goto (o := (-36)) 29 (by decide +kernel) (by decide)) ?_
  rfl
theorem e41 {d : Nat} {n : Nat} {x1 x2 : Int32} {M : am_M} {w : am_W4} (hn : n < 12) : am_ev (d + 1) 41 [am_P (13, n, 0), am_I x1, am_I x2, am_P (6, 0, 0)] M (am_Z w) = am_cb ((am_ev d) 231 [am_I x1] M (am_Z w)) fun v M' X' => am_rn (am_ev d) 41 4 [some (am_P (13, n, 0)), some (am_I x1), some (am_I x2), some (am_P (6, 0, 0)), none] (v.toList ++ []) M' X' := (am_ev_eq d 41 _ M (am_Z w)).trans (b41_0 hn)
theorem b42_0 {n : Nat} {x1 x2 x3 : Int32} {M : am_M} {w : am_W4} (hn : n < 12) : am_rn call 42 0 [some (am_P (13, n, 0)), some (am_I x1), some (am_I x2), some (am_I x3), some (am_P (6, 0, 0))] [] M (am_Z w) = am_cb (call 35 [am_P (13, n, 0), am_I x1] M (am_Z w)) fun v M' X' => am_rn call 42 5 [some (am_P (13, n, 0)), some (am_I x1), some (am_I x2), some (am_I x3), some (am_P (6, 0, 0))] (v.toList ++ []) M' X' := by
  refine Eq.trans (rl_aloadn (j := 0) (by decide +kernel) rfl) ?_
  refine Eq.trans (rl_iloadn (j := 1) (by decide +kernel) rfl) ?_
  refine Eq.trans (rl_inv (ix := 132) (n := 1) (o := 5) 35 [am_I x1] [] (by decide +kernel) (by decide +kernel) (by decide +kernel) (by decide +kernel) ⟨rfl, rfl⟩ rfl rfl (ck13 hn)) ?_
  rfl
theorem b42_5 {n : Nat} {x1 x2 x3 s0 : Int32} {M : am_M} {w : am_W4} (hn : n < 12) : am_rn call 42 5 [some (am_P (13, n, 0)), some (am_I x1), some (am_I x2), some (am_I x3), some (am_P (6, 0, 0))] [am_I s0] M (am_Z w) = if s0 = 0 then am_cb (call 63 [am_P (6, 0, 0), am_I (nI 3), am_I x1] M (am_Z w)) fun v M' X' => am_rn call 42 15 [some (am_P (13, n, 0)), some (am_I x1), some (am_I x2), some (am_I x3), some (am_P (6, 0, 0))] (v.toList ++ []) M' X' else am_cb (call 111 [am_I x2] M (am_Z w)) fun v M' X' => am_rn call 42 20 [some (am_P (13, n, 0)), some (am_I x1), some (am_I x2), some (am_I x3), some (am_P (6, 0, 0))] (v.toList ++ []) M' X' := by
  refine Eq.trans (rl_ifne (o := 11) 16 (by decide +kernel) (by decide)) ?_
  refine am_ite (fun h_1 => ?_) (fun h_1 => ?_)
  · skip
    refine Eq.trans (rl_aload (j := 4) (by decide +kernel) rfl) ?_
    refine Eq.trans (rl_iconst (c := 3) (k := (nI 3)) (by decide +kernel) (by decide)) ?_
    refine Eq.trans (rl_iloadn (j := 1) (by decide +kernel) rfl) ?_
    refine Eq.trans (rl_inv (ix := 119) (n := 2) (o := 6) 63 [am_I (nI 3), am_I x1] [] (by decide +kernel) (by decide +kernel) (by decide +kernel) (by decide +kernel) ⟨rfl, rfl⟩ rfl rfl ck6) ?_
    rfl
  · skip
    refine Eq.trans (rl_iloadn (j := 2) (by decide +kernel) rfl) ?_
    refine Eq.trans (rl_invS (ix := 135) (n := 1) (k := 4) 111 [am_I x2] [] (by decide +kernel) (by decide +kernel) (by decide) (by decide +kernel) ⟨rfl, rfl⟩ rfl rfl) ?_
    rfl
theorem b42_15 {n : Nat} {x1 x2 x3 s0 : Int32} {M : am_M} {w : am_W4} (hn : n < 12) : am_rn call 42 15 [some (am_P (13, n, 0)), some (am_I x1), some (am_I x2), some (am_I x3), some (am_P (6, 0, 0))] [am_I s0] M (am_Z w) = some (.inl (some (am_I s0)), M, (am_Z w)) := by
  exact rl_iret (by decide +kernel) rfl
theorem b42_20 {n : Nat} {x1 x2 x3 s0 : Int32} {M : am_M} {w : am_W4} (hn : n < 12) : am_rn call 42 20 [some (am_P (13, n, 0)), some (am_I x1), some (am_I x2), some (am_I x3), some (am_P (6, 0, 0))] [am_I s0] M (am_Z w) = if s0 = 0 then am_rn call 42 30 [some (am_P (13, n, 0)), some (am_I x1), some (am_I x2), some (am_I x3), some (am_P (6, 0, 0))] [] M (am_Z w) else am_cb (call 111 [am_I x3] M (am_Z w)) fun v M' X' => am_rn call 42 27 [some (am_P (13, n, 0)), some (am_I x1), some (am_I x2), some (am_I x3), some (am_P (6, 0, 0))] (v.toList ++ []) M' X' := by
  refine Eq.trans (rl_ifeq (o := 10) 30 (by decide +kernel) (by decide)) ?_
  refine am_ite (fun h_1 => ?_) (fun h_1 => ?_)
  · skip
    rfl
  · skip
    refine Eq.trans (rl_iloadn (j := 3) (by decide +kernel) rfl) ?_
    refine Eq.trans (rl_invS (ix := 135) (n := 1) (k := 4) 111 [am_I x3] [] (by decide +kernel) (by decide +kernel) (by decide) (by decide +kernel) ⟨rfl, rfl⟩ rfl rfl) ?_
    rfl
theorem b42_27 {n : Nat} {x1 x2 x3 s0 : Int32} {M : am_M} {w : am_W4} (hn : n < 12) : am_rn call 42 27 [some (am_P (13, n, 0)), some (am_I x1), some (am_I x2), some (am_I x3), some (am_P (6, 0, 0))] [am_I s0] M (am_Z w) = if s0 = 0 then am_rn call 42 30 [some (am_P (13, n, 0)), some (am_I x1), some (am_I x2), some (am_I x3), some (am_P (6, 0, 0))] [] M (am_Z w) else if am_in x1 6 then if am_in x1 6 then some (.inl (some (am_I (((x3 - x2) + (nI 24)) - ((x3 - x2) + (nI 24)) / (nI 24) * (nI 24)))), (am_set (am_set M (21, n, x1.toNatClampNeg) 2 x2) (21, n, x1.toNatClampNeg) 3 x3), (am_Z w)) else none else none := by
  refine Eq.trans (rl_ifne (o := 11) 38 (by decide +kernel) (by decide)) ?_
  refine am_ite (fun h_1 => ?_) (fun h_1 => ?_)
  · skip
    rfl
  · skip
    refine Eq.trans (rl_aloadn (j := 0) (by decide +kernel) rfl) ?_
    refine Eq.trans (rl_getP (ix := 11) (ci := 5) (j := 2) (by decide +kernel) (by decide +kernel) (by decide +kernel) (ck13 hn) rfl) ?_
    refine Eq.trans (rl_iloadn (j := 1) (by decide +kernel) rfl) ?_
    refine Eq.trans (rl_aald (v := (21, n, x1.toNatClampNeg)) (by decide +kernel) (ka14 hn) (fun h => if_pos (am_in_lt' h))) ?_
    refine am_ite (fun h_2 => ?_) (fun _ => rfl)
    refine Eq.trans (rl_iloadn (j := 2) (by decide +kernel) rfl) ?_
    refine Eq.trans (rl_put (ix := 138) (ci := 2) (j := 2) (by decide +kernel) (by decide +kernel) (by decide +kernel) (by decide +kernel) (ck21 hn (am_in_lt' h_2))) ?_
    refine Eq.trans (rl_aloadn (j := 0) (by decide +kernel) rfl) ?_
    refine Eq.trans (rl_getP (ix := 11) (ci := 5) (j := 2) (by decide +kernel) (by decide +kernel) (by decide +kernel) (ck13 hn) rfl) ?_
    refine Eq.trans (rl_iloadn (j := 1) (by decide +kernel) rfl) ?_
    refine Eq.trans (rl_aald (v := (21, n, x1.toNatClampNeg)) (by decide +kernel) (ka14 hn) (fun h => if_pos (am_in_lt' h))) ?_
    refine am_ite (fun h_3 => ?_) (fun _ => rfl)
    refine Eq.trans (rl_iloadn (j := 3) (by decide +kernel) rfl) ?_
    refine Eq.trans (rl_put (ix := 141) (ci := 2) (j := 3) (by decide +kernel) (by decide +kernel) (by decide +kernel) (by decide +kernel) (ck21 hn (am_in_lt' h_3))) ?_
    refine Eq.trans (rl_iloadn (j := 3) (by decide +kernel) rfl) ?_
    refine Eq.trans (rl_iloadn (j := 2) (by decide +kernel) rfl) ?_
    refine Eq.trans (rl_isub (by decide +kernel)) ?_
    refine Eq.trans (rl_bipush (c := 24) (k := (nI 24)) (by decide +kernel) (by decide)) ?_
    refine Eq.trans (rl_iadd (by decide +kernel)) ?_
    refine Eq.trans (rl_bipush (c := 24) (k := (nI 24)) (by decide +kernel) (by decide)) ?_
    refine Eq.trans (rl_irem (by decide +kernel) rfl) ?_
    exact rl_iret (by decide +kernel) rfl
theorem b42_30 {n : Nat} {x1 x2 x3 : Int32} {M : am_M} {w : am_W4} (hn : n < 12) : am_rn call 42 30 [some (am_P (13, n, 0)), some (am_I x1), some (am_I x2), some (am_I x3), some (am_P (6, 0, 0))] [] M (am_Z w) = am_cb (call 63 [am_P (6, 0, 0), am_I (nI 1), am_I (nI 0)] M (am_Z w)) fun v M' X' => am_rn call 42 37 [some (am_P (13, n, 0)), some (am_I x1), some (am_I x2), some (am_I x3), some (am_P (6, 0, 0))] (v.toList ++ []) M' X' := by
  refine Eq.trans (rl_aload (j := 4) (by decide +kernel) rfl) ?_
  refine Eq.trans (rl_iconst (c := 1) (k := (nI 1)) (by decide +kernel) (by decide)) ?_
  refine Eq.trans (rl_iconst (c := 0) (k := (nI 0)) (by decide +kernel) (by decide)) ?_
  refine Eq.trans (rl_inv (ix := 119) (n := 2) (o := 6) 63 [am_I (nI 1), am_I (nI 0)] [] (by decide +kernel) (by decide +kernel) (by decide +kernel) (by decide +kernel) ⟨rfl, rfl⟩ rfl rfl ck6) ?_
  rfl
theorem b42_37 {n : Nat} {x1 x2 x3 s0 : Int32} {M : am_M} {w : am_W4} (hn : n < 12) : am_rn call 42 37 [some (am_P (13, n, 0)), some (am_I x1), some (am_I x2), some (am_I x3), some (am_P (6, 0, 0))] [am_I s0] M (am_Z w) = some (.inl (some (am_I s0)), M, (am_Z w)) := by
  exact rl_iret (by decide +kernel) rfl
theorem e42 {d : Nat} {n : Nat} {x1 x2 x3 : Int32} {M : am_M} {w : am_W4} (hn : n < 12) : am_ev (d + 1) 42 [am_P (13, n, 0), am_I x1, am_I x2, am_I x3, am_P (6, 0, 0)] M (am_Z w) = am_cb ((am_ev d) 35 [am_P (13, n, 0), am_I x1] M (am_Z w)) fun v M' X' => am_rn (am_ev d) 42 5 [some (am_P (13, n, 0)), some (am_I x1), some (am_I x2), some (am_I x3), some (am_P (6, 0, 0))] (v.toList ++ []) M' X' := (am_ev_eq d 42 _ M (am_Z w)).trans (b42_0 hn)
theorem b43_0 {n : Nat} {x1 x2 : Int32} {M : am_M} {w : am_W4} (hn : n < 12) : am_rn call 43 0 [some (am_P (13, n, 0)), some (am_I x1), some (am_I x2), some (am_P (6, 0, 0)), none] [] M (am_Z w) = am_cb (call 36 [am_P (13, n, 0), am_I x1] M (am_Z w)) fun v M' X' => am_rn call 43 5 [some (am_P (13, n, 0)), some (am_I x1), some (am_I x2), some (am_P (6, 0, 0)), none] (v.toList ++ []) M' X' := by
  refine Eq.trans (rl_aloadn (j := 0) (by decide +kernel) rfl) ?_
  refine Eq.trans (rl_iloadn (j := 1) (by decide +kernel) rfl) ?_
  refine Eq.trans (rl_inv (ix := 144) (n := 1) (o := 5) 36 [am_I x1] [] (by decide +kernel) (by decide +kernel) (by decide +kernel) (by decide +kernel) ⟨rfl, rfl⟩ rfl rfl (ck13 hn)) ?_
  rfl
theorem b43_5 {n : Nat} {x1 x2 s0 : Int32} {M : am_M} {w : am_W4} (hn : n < 12) : am_rn call 43 5 [some (am_P (13, n, 0)), some (am_I x1), some (am_I x2), some (am_P (6, 0, 0)), none] [am_I s0] M (am_Z w) = if s0 = 0 then am_cb (call 63 [am_P (6, 0, 0), am_I (nI 3), am_I x1] M (am_Z w)) fun v M' X' => am_rn call 43 14 [some (am_P (13, n, 0)), some (am_I x1), some (am_I x2), some (am_P (6, 0, 0)), none] (v.toList ++ []) M' X' else am_cb (call 110 [am_I x2] M (am_Z w)) fun v M' X' => am_rn call 43 19 [some (am_P (13, n, 0)), some (am_I x1), some (am_I x2), some (am_P (6, 0, 0)), none] (v.toList ++ []) M' X' := by
  refine Eq.trans (rl_ifne (o := 10) 15 (by decide +kernel) (by decide)) ?_
  refine am_ite (fun h_1 => ?_) (fun h_1 => ?_)
  · skip
    refine Eq.trans (rl_aloadn (j := 3) (by decide +kernel) rfl) ?_
    refine Eq.trans (rl_iconst (c := 3) (k := (nI 3)) (by decide +kernel) (by decide)) ?_
    refine Eq.trans (rl_iloadn (j := 1) (by decide +kernel) rfl) ?_
    refine Eq.trans (rl_inv (ix := 119) (n := 2) (o := 6) 63 [am_I (nI 3), am_I x1] [] (by decide +kernel) (by decide +kernel) (by decide +kernel) (by decide +kernel) ⟨rfl, rfl⟩ rfl rfl ck6) ?_
    rfl
  · skip
    refine Eq.trans (rl_iloadn (j := 2) (by decide +kernel) rfl) ?_
    refine Eq.trans (rl_invS (ix := 115) (n := 1) (k := 4) 110 [am_I x2] [] (by decide +kernel) (by decide +kernel) (by decide) (by decide +kernel) ⟨rfl, rfl⟩ rfl rfl) ?_
    rfl
theorem b43_14 {n : Nat} {x1 x2 s0 : Int32} {M : am_M} {w : am_W4} (hn : n < 12) : am_rn call 43 14 [some (am_P (13, n, 0)), some (am_I x1), some (am_I x2), some (am_P (6, 0, 0)), none] [am_I s0] M (am_Z w) = some (.inl (some (am_I s0)), M, (am_Z w)) := by
  exact rl_iret (by decide +kernel) rfl
theorem b43_19 {n : Nat} {x1 x2 s0 : Int32} {M : am_M} {w : am_W4} (hn : n < 12) : am_rn call 43 19 [some (am_P (13, n, 0)), some (am_I x1), some (am_I x2), some (am_P (6, 0, 0)), none] [am_I s0] M (am_Z w) = if s0 = 0 then am_cb (call 63 [am_P (6, 0, 0), am_I (nI 1), am_I (nI 0)] M (am_Z w)) fun v M' X' => am_rn call 43 28 [some (am_P (13, n, 0)), some (am_I x1), some (am_I x2), some (am_P (6, 0, 0)), none] (v.toList ++ []) M' X' else if am_in x1 5 then if am_in x1 5 then some (.inl (some (am_I (M (23, n, x1.toNatClampNeg) 1))), (am_set M (23, n, x1.toNatClampNeg) 1 x2), (am_Z w)) else none else none := by
  refine Eq.trans (rl_ifne (o := 10) 29 (by decide +kernel) (by decide)) ?_
  refine am_ite (fun h_1 => ?_) (fun h_1 => ?_)
  · skip
    refine Eq.trans (rl_aloadn (j := 3) (by decide +kernel) rfl) ?_
    refine Eq.trans (rl_iconst (c := 1) (k := (nI 1)) (by decide +kernel) (by decide)) ?_
    refine Eq.trans (rl_iconst (c := 0) (k := (nI 0)) (by decide +kernel) (by decide)) ?_
    refine Eq.trans (rl_inv (ix := 119) (n := 2) (o := 6) 63 [am_I (nI 1), am_I (nI 0)] [] (by decide +kernel) (by decide +kernel) (by decide +kernel) (by decide +kernel) ⟨rfl, rfl⟩ rfl rfl ck6) ?_
    rfl
  · skip
    refine Eq.trans (rl_aloadn (j := 0) (by decide +kernel) rfl) ?_
    refine Eq.trans (rl_getP (ix := 19) (ci := 5) (j := 3) (by decide +kernel) (by decide +kernel) (by decide +kernel) (ck13 hn) rfl) ?_
    refine Eq.trans (rl_iloadn (j := 1) (by decide +kernel) rfl) ?_
    refine Eq.trans (rl_aald (v := (23, n, x1.toNatClampNeg)) (by decide +kernel) (ka15 hn) (fun h => if_pos (am_in_lt' h))) ?_
    refine am_ite (fun h_2 => ?_) (fun _ => rfl)
    refine Eq.trans (rl_get (ix := 56) (ci := 7) (j := 1) (by decide +kernel) (by decide +kernel) (by decide +kernel) (ck23 hn (am_in_lt' h_2))) ?_
    refine Eq.trans (rl_istore (j := 4) (ls' := [some (am_P (13, n, 0)), some (am_I x1), some (am_I x2), some (am_P (6, 0, 0)), some (am_I (M (23, n, x1.toNatClampNeg) 1))]) (by decide +kernel) rfl rfl) ?_
    refine Eq.trans (rl_aloadn (j := 0) (by decide +kernel) rfl) ?_
    refine Eq.trans (rl_getP (ix := 19) (ci := 5) (j := 3) (by decide +kernel) (by decide +kernel) (by decide +kernel) (ck13 hn) rfl) ?_
    refine Eq.trans (rl_iloadn (j := 1) (by decide +kernel) rfl) ?_
    refine Eq.trans (rl_aald (v := (23, n, x1.toNatClampNeg)) (by decide +kernel) (ka15 hn) (fun h => if_pos (am_in_lt' h))) ?_
    refine am_ite (fun h_3 => ?_) (fun _ => rfl)
    refine Eq.trans (rl_iloadn (j := 2) (by decide +kernel) rfl) ?_
    refine Eq.trans (rl_put (ix := 56) (ci := 7) (j := 1) (by decide +kernel) (by decide +kernel) (by decide +kernel) (by decide +kernel) (ck23 hn (am_in_lt' h_3))) ?_
    refine Eq.trans (rl_iload (j := 4) (by decide +kernel) rfl) ?_
    exact rl_iret (by decide +kernel) rfl
theorem b43_28 {n : Nat} {x1 x2 s0 : Int32} {M : am_M} {w : am_W4} (hn : n < 12) : am_rn call 43 28 [some (am_P (13, n, 0)), some (am_I x1), some (am_I x2), some (am_P (6, 0, 0)), none] [am_I s0] M (am_Z w) = some (.inl (some (am_I s0)), M, (am_Z w)) := by
  exact rl_iret (by decide +kernel) rfl
theorem e43 {d : Nat} {n : Nat} {x1 x2 : Int32} {M : am_M} {w : am_W4} (hn : n < 12) : am_ev (d + 1) 43 [am_P (13, n, 0), am_I x1, am_I x2, am_P (6, 0, 0)] M (am_Z w) = am_cb ((am_ev d) 36 [am_P (13, n, 0), am_I x1] M (am_Z w)) fun v M' X' => am_rn (am_ev d) 43 5 [some (am_P (13, n, 0)), some (am_I x1), some (am_I x2), some (am_P (6, 0, 0)), none] (v.toList ++ []) M' X' := (am_ev_eq d 43 _ M (am_Z w)).trans (b43_0 hn)
theorem b44_0 {n : Nat} {x1 x2 : Int32} {M : am_M} {w : am_W4} (hn : n < 12) : am_rn call 44 0 [some (am_P (13, n, 0)), some (am_I x1), some (am_I x2), some (am_P (6, 0, 0)), none] [] M (am_Z w) = am_cb (call 35 [am_P (13, n, 0), am_I x1] M (am_Z w)) fun v M' X' => am_rn call 44 5 [some (am_P (13, n, 0)), some (am_I x1), some (am_I x2), some (am_P (6, 0, 0)), none] (v.toList ++ []) M' X' := by
  refine Eq.trans (rl_aloadn (j := 0) (by decide +kernel) rfl) ?_
  refine Eq.trans (rl_iloadn (j := 1) (by decide +kernel) rfl) ?_
  refine Eq.trans (rl_inv (ix := 132) (n := 1) (o := 5) 35 [am_I x1] [] (by decide +kernel) (by decide +kernel) (by decide +kernel) (by decide +kernel) ⟨rfl, rfl⟩ rfl rfl (ck13 hn)) ?_
  rfl
theorem b44_5 {n : Nat} {x1 x2 s0 : Int32} {M : am_M} {w : am_W4} (hn : n < 12) : am_rn call 44 5 [some (am_P (13, n, 0)), some (am_I x1), some (am_I x2), some (am_P (6, 0, 0)), none] [am_I s0] M (am_Z w) = if s0 = 0 then am_cb (call 63 [am_P (6, 0, 0), am_I (nI 3), am_I x1] M (am_Z w)) fun v M' X' => am_rn call 44 14 [some (am_P (13, n, 0)), some (am_I x1), some (am_I x2), some (am_P (6, 0, 0)), none] (v.toList ++ []) M' X' else am_cb (call 110 [am_I x2] M (am_Z w)) fun v M' X' => am_rn call 44 19 [some (am_P (13, n, 0)), some (am_I x1), some (am_I x2), some (am_P (6, 0, 0)), none] (v.toList ++ []) M' X' := by
  refine Eq.trans (rl_ifne (o := 10) 15 (by decide +kernel) (by decide)) ?_
  refine am_ite (fun h_1 => ?_) (fun h_1 => ?_)
  · skip
    refine Eq.trans (rl_aloadn (j := 3) (by decide +kernel) rfl) ?_
    refine Eq.trans (rl_iconst (c := 3) (k := (nI 3)) (by decide +kernel) (by decide)) ?_
    refine Eq.trans (rl_iloadn (j := 1) (by decide +kernel) rfl) ?_
    refine Eq.trans (rl_inv (ix := 119) (n := 2) (o := 6) 63 [am_I (nI 3), am_I x1] [] (by decide +kernel) (by decide +kernel) (by decide +kernel) (by decide +kernel) ⟨rfl, rfl⟩ rfl rfl ck6) ?_
    rfl
  · skip
    refine Eq.trans (rl_iloadn (j := 2) (by decide +kernel) rfl) ?_
    refine Eq.trans (rl_invS (ix := 115) (n := 1) (k := 4) 110 [am_I x2] [] (by decide +kernel) (by decide +kernel) (by decide) (by decide +kernel) ⟨rfl, rfl⟩ rfl rfl) ?_
    rfl
theorem b44_14 {n : Nat} {x1 x2 s0 : Int32} {M : am_M} {w : am_W4} (hn : n < 12) : am_rn call 44 14 [some (am_P (13, n, 0)), some (am_I x1), some (am_I x2), some (am_P (6, 0, 0)), none] [am_I s0] M (am_Z w) = some (.inl (some (am_I s0)), M, (am_Z w)) := by
  exact rl_iret (by decide +kernel) rfl
theorem b44_19 {n : Nat} {x1 x2 s0 : Int32} {M : am_M} {w : am_W4} (hn : n < 12) : am_rn call 44 19 [some (am_P (13, n, 0)), some (am_I x1), some (am_I x2), some (am_P (6, 0, 0)), none] [am_I s0] M (am_Z w) = if s0 = 0 then am_cb (call 63 [am_P (6, 0, 0), am_I (nI 1), am_I (nI 0)] M (am_Z w)) fun v M' X' => am_rn call 44 28 [some (am_P (13, n, 0)), some (am_I x1), some (am_I x2), some (am_P (6, 0, 0)), none] (v.toList ++ []) M' X' else if am_in x1 6 then if am_in x1 6 then some (.inl (some (am_I (M (21, n, x1.toNatClampNeg) 1))), (am_set M (21, n, x1.toNatClampNeg) 1 x2), (am_Z w)) else none else none := by
  refine Eq.trans (rl_ifne (o := 10) 29 (by decide +kernel) (by decide)) ?_
  refine am_ite (fun h_1 => ?_) (fun h_1 => ?_)
  · skip
    refine Eq.trans (rl_aloadn (j := 3) (by decide +kernel) rfl) ?_
    refine Eq.trans (rl_iconst (c := 1) (k := (nI 1)) (by decide +kernel) (by decide)) ?_
    refine Eq.trans (rl_iconst (c := 0) (k := (nI 0)) (by decide +kernel) (by decide)) ?_
    refine Eq.trans (rl_inv (ix := 119) (n := 2) (o := 6) 63 [am_I (nI 1), am_I (nI 0)] [] (by decide +kernel) (by decide +kernel) (by decide +kernel) (by decide +kernel) ⟨rfl, rfl⟩ rfl rfl ck6) ?_
    rfl
  · skip
    refine Eq.trans (rl_aloadn (j := 0) (by decide +kernel) rfl) ?_
    refine Eq.trans (rl_getP (ix := 11) (ci := 5) (j := 2) (by decide +kernel) (by decide +kernel) (by decide +kernel) (ck13 hn) rfl) ?_
    refine Eq.trans (rl_iloadn (j := 1) (by decide +kernel) rfl) ?_
    refine Eq.trans (rl_aald (v := (21, n, x1.toNatClampNeg)) (by decide +kernel) (ka14 hn) (fun h => if_pos (am_in_lt' h))) ?_
    refine am_ite (fun h_2 => ?_) (fun _ => rfl)
    refine Eq.trans (rl_get (ix := 147) (ci := 2) (j := 1) (by decide +kernel) (by decide +kernel) (by decide +kernel) (ck21 hn (am_in_lt' h_2))) ?_
    refine Eq.trans (rl_istore (j := 4) (ls' := [some (am_P (13, n, 0)), some (am_I x1), some (am_I x2), some (am_P (6, 0, 0)), some (am_I (M (21, n, x1.toNatClampNeg) 1))]) (by decide +kernel) rfl rfl) ?_
    refine Eq.trans (rl_aloadn (j := 0) (by decide +kernel) rfl) ?_
    refine Eq.trans (rl_getP (ix := 11) (ci := 5) (j := 2) (by decide +kernel) (by decide +kernel) (by decide +kernel) (ck13 hn) rfl) ?_
    refine Eq.trans (rl_iloadn (j := 1) (by decide +kernel) rfl) ?_
    refine Eq.trans (rl_aald (v := (21, n, x1.toNatClampNeg)) (by decide +kernel) (ka14 hn) (fun h => if_pos (am_in_lt' h))) ?_
    refine am_ite (fun h_3 => ?_) (fun _ => rfl)
    refine Eq.trans (rl_iloadn (j := 2) (by decide +kernel) rfl) ?_
    refine Eq.trans (rl_put (ix := 147) (ci := 2) (j := 1) (by decide +kernel) (by decide +kernel) (by decide +kernel) (by decide +kernel) (ck21 hn (am_in_lt' h_3))) ?_
    refine Eq.trans (rl_iload (j := 4) (by decide +kernel) rfl) ?_
    exact rl_iret (by decide +kernel) rfl
theorem b44_28 {n : Nat} {x1 x2 s0 : Int32} {M : am_M} {w : am_W4} (hn : n < 12) : am_rn call 44 28 [some (am_P (13, n, 0)), some (am_I x1), some (am_I x2), some (am_P (6, 0, 0)), none] [am_I s0] M (am_Z w) = some (.inl (some (am_I s0)), M, (am_Z w)) := by
  exact rl_iret (by decide +kernel) rfl
theorem e44 {d : Nat} {n : Nat} {x1 x2 : Int32} {M : am_M} {w : am_W4} (hn : n < 12) : am_ev (d + 1) 44 [am_P (13, n, 0), am_I x1, am_I x2, am_P (6, 0, 0)] M (am_Z w) = am_cb ((am_ev d) 35 [am_P (13, n, 0), am_I x1] M (am_Z w)) fun v M' X' => am_rn (am_ev d) 44 5 [some (am_P (13, n, 0)), some (am_I x1), some (am_I x2), some (am_P (6, 0, 0)), none] (v.toList ++ []) M' X' := (am_ev_eq d 44 _ M (am_Z w)).trans (b44_0 hn)
theorem b45_0 {n : Nat} {x1 x2 x3 : Int32} {M : am_M} {w : am_W4} (hn : n < 12) : am_rn call 45 0 [some (am_P (13, n, 0)), some (am_I x1), some (am_I x2), some (am_I x3), some (am_P (6, 0, 0)), none, none] [] M (am_Z w) = am_cb (call 35 [am_P (13, n, 0), am_I x1] M (am_Z w)) fun v M' X' => am_rn call 45 5 [some (am_P (13, n, 0)), some (am_I x1), some (am_I x2), some (am_I x3), some (am_P (6, 0, 0)), none, none] (v.toList ++ []) M' X' := by
  refine Eq.trans (rl_aloadn (j := 0) (by decide +kernel) rfl) ?_
  refine Eq.trans (rl_iloadn (j := 1) (by decide +kernel) rfl) ?_
  refine Eq.trans (rl_inv (ix := 132) (n := 1) (o := 5) 35 [am_I x1] [] (by decide +kernel) (by decide +kernel) (by decide +kernel) (by decide +kernel) ⟨rfl, rfl⟩ rfl rfl (ck13 hn)) ?_
  rfl
theorem b45_5 {n : Nat} {x1 x2 x3 s0 : Int32} {M : am_M} {w : am_W4} (hn : n < 12) : am_rn call 45 5 [some (am_P (13, n, 0)), some (am_I x1), some (am_I x2), some (am_I x3), some (am_P (6, 0, 0)), none, none] [am_I s0] M (am_Z w) = if s0 = 0 then am_cb (call 63 [am_P (6, 0, 0), am_I (nI 3), am_I x1] M (am_Z w)) fun v M' X' => am_rn call 45 15 [some (am_P (13, n, 0)), some (am_I x1), some (am_I x2), some (am_I x3), some (am_P (6, 0, 0)), none, none] (v.toList ++ []) M' X' else am_cb (call 35 [am_P (13, n, 0), am_I x2] M (am_Z w)) fun v M' X' => am_rn call 45 21 [some (am_P (13, n, 0)), some (am_I x1), some (am_I x2), some (am_I x3), some (am_P (6, 0, 0)), none, none] (v.toList ++ []) M' X' := by
  refine Eq.trans (rl_ifne (o := 11) 16 (by decide +kernel) (by decide)) ?_
  refine am_ite (fun h_1 => ?_) (fun h_1 => ?_)
  · skip
    refine Eq.trans (rl_aload (j := 4) (by decide +kernel) rfl) ?_
    refine Eq.trans (rl_iconst (c := 3) (k := (nI 3)) (by decide +kernel) (by decide)) ?_
    refine Eq.trans (rl_iloadn (j := 1) (by decide +kernel) rfl) ?_
    refine Eq.trans (rl_inv (ix := 119) (n := 2) (o := 6) 63 [am_I (nI 3), am_I x1] [] (by decide +kernel) (by decide +kernel) (by decide +kernel) (by decide +kernel) ⟨rfl, rfl⟩ rfl rfl ck6) ?_
    rfl
  · skip
    refine Eq.trans (rl_aloadn (j := 0) (by decide +kernel) rfl) ?_
    refine Eq.trans (rl_iloadn (j := 2) (by decide +kernel) rfl) ?_
    refine Eq.trans (rl_inv (ix := 132) (n := 1) (o := 5) 35 [am_I x2] [] (by decide +kernel) (by decide +kernel) (by decide +kernel) (by decide +kernel) ⟨rfl, rfl⟩ rfl rfl (ck13 hn)) ?_
    rfl
theorem b45_15 {n : Nat} {x1 x2 x3 s0 : Int32} {M : am_M} {w : am_W4} (hn : n < 12) : am_rn call 45 15 [some (am_P (13, n, 0)), some (am_I x1), some (am_I x2), some (am_I x3), some (am_P (6, 0, 0)), none, none] [am_I s0] M (am_Z w) = some (.inl (some (am_I s0)), M, (am_Z w)) := by
  exact rl_iret (by decide +kernel) rfl
theorem b45_21 {n : Nat} {x1 x2 x3 s0 : Int32} {M : am_M} {w : am_W4} (hn : n < 12) : am_rn call 45 21 [some (am_P (13, n, 0)), some (am_I x1), some (am_I x2), some (am_I x3), some (am_P (6, 0, 0)), none, none] [am_I s0] M (am_Z w) = if s0 = 0 then am_cb (call 63 [am_P (6, 0, 0), am_I (nI 3), am_I x2] M (am_Z w)) fun v M' X' => am_rn call 45 31 [some (am_P (13, n, 0)), some (am_I x1), some (am_I x2), some (am_I x3), some (am_P (6, 0, 0)), none, none] (v.toList ++ []) M' X' else if x1 = x2 then am_cb (call 63 [am_P (6, 0, 0), am_I (nI 5), am_I x1] M (am_Z w)) fun v M' X' => am_rn call 45 44 [some (am_P (13, n, 0)), some (am_I x1), some (am_I x2), some (am_I x3), some (am_P (6, 0, 0)), none, none] (v.toList ++ []) M' X' else am_cb (call 46 [am_P (13, n, 0), am_I x3] M (am_Z w)) fun v M' X' => am_rn call 45 50 [some (am_P (13, n, 0)), some (am_I x1), some (am_I x2), some (am_I x3), some (am_P (6, 0, 0)), none, none] (v.toList ++ []) M' X' := by
  refine Eq.trans (rl_ifne (o := 11) 32 (by decide +kernel) (by decide)) ?_
  refine am_ite (fun h_1 => ?_) (fun h_1 => ?_)
  · skip
    refine Eq.trans (rl_aload (j := 4) (by decide +kernel) rfl) ?_
    refine Eq.trans (rl_iconst (c := 3) (k := (nI 3)) (by decide +kernel) (by decide)) ?_
    refine Eq.trans (rl_iloadn (j := 2) (by decide +kernel) rfl) ?_
    refine Eq.trans (rl_inv (ix := 119) (n := 2) (o := 6) 63 [am_I (nI 3), am_I x2] [] (by decide +kernel) (by decide +kernel) (by decide +kernel) (by decide +kernel) ⟨rfl, rfl⟩ rfl rfl ck6) ?_
    rfl
  · skip
    refine Eq.trans (rl_iloadn (j := 1) (by decide +kernel) rfl) ?_
    refine Eq.trans (rl_iloadn (j := 2) (by decide +kernel) rfl) ?_
    refine Eq.trans (rl_icne (o := 11) 45 (by decide +kernel) (by decide)) ?_
    refine am_ite (fun h_2 => ?_) (fun h_2 => ?_)
    · skip
      refine Eq.trans (rl_aload (j := 4) (by decide +kernel) rfl) ?_
      refine Eq.trans (rl_iconst (c := 5) (k := (nI 5)) (by decide +kernel) (by decide)) ?_
      refine Eq.trans (rl_iloadn (j := 1) (by decide +kernel) rfl) ?_
      refine Eq.trans (rl_inv (ix := 119) (n := 2) (o := 6) 63 [am_I (nI 5), am_I x1] [] (by decide +kernel) (by decide +kernel) (by decide +kernel) (by decide +kernel) ⟨rfl, rfl⟩ rfl rfl ck6) ?_
      rfl
    · skip
      refine Eq.trans (rl_aloadn (j := 0) (by decide +kernel) rfl) ?_
      refine Eq.trans (rl_iloadn (j := 3) (by decide +kernel) rfl) ?_
      refine Eq.trans (rl_inv (ix := 150) (n := 1) (o := 5) 46 [am_I x3] [] (by decide +kernel) (by decide +kernel) (by decide +kernel) (by decide +kernel) ⟨rfl, rfl⟩ rfl rfl (ck13 hn)) ?_
      rfl
theorem b45_31 {n : Nat} {x1 x2 x3 s0 : Int32} {M : am_M} {w : am_W4} (hn : n < 12) : am_rn call 45 31 [some (am_P (13, n, 0)), some (am_I x1), some (am_I x2), some (am_I x3), some (am_P (6, 0, 0)), none, none] [am_I s0] M (am_Z w) = some (.inl (some (am_I s0)), M, (am_Z w)) := by
  exact rl_iret (by decide +kernel) rfl
theorem b45_44 {n : Nat} {x1 x2 x3 s0 : Int32} {M : am_M} {w : am_W4} (hn : n < 12) : am_rn call 45 44 [some (am_P (13, n, 0)), some (am_I x1), some (am_I x2), some (am_I x3), some (am_P (6, 0, 0)), none, none] [am_I s0] M (am_Z w) = some (.inl (some (am_I s0)), M, (am_Z w)) := by
  exact rl_iret (by decide +kernel) rfl
theorem b45_50 {n : Nat} {x1 x2 x3 s0 : Int32} {M : am_M} {w : am_W4} (hn : n < 12) : am_rn call 45 50 [some (am_P (13, n, 0)), some (am_I x1), some (am_I x2), some (am_I x3), some (am_P (6, 0, 0)), none, none] [am_I s0] M (am_Z w) = if s0 = 0 then am_cb (call 63 [am_P (6, 0, 0), am_I (nI 1), am_I (nI 0)] M (am_Z w)) fun v M' X' => am_rn call 45 64 [some (am_P (13, n, 0)), some (am_I x1), some (am_I x2), some (am_I x3), some (am_P (6, 0, 0)), some (am_I s0), none] (v.toList ++ []) M' X' else am_rn call 45 68 [some (am_P (13, n, 0)), some (am_I x1), some (am_I x2), some (am_I x3), some (am_P (6, 0, 0)), some (am_I s0), some (am_I (nI 0))] [] M (am_Z w) := by
  refine Eq.trans (rl_istore (j := 5) (ls' := [some (am_P (13, n, 0)), some (am_I x1), some (am_I x2), some (am_I x3), some (am_P (6, 0, 0)), some (am_I s0), none]) (by decide +kernel) rfl rfl) ?_
  refine Eq.trans (rl_iload (j := 5) (by decide +kernel) rfl) ?_
  refine Eq.trans (rl_ifne (o := 11) 65 (by decide +kernel) (by decide)) ?_
  refine am_ite (fun h_1 => ?_) (fun h_1 => ?_)
  · skip
    refine Eq.trans (rl_aload (j := 4) (by decide +kernel) rfl) ?_
    refine Eq.trans (rl_iconst (c := 1) (k := (nI 1)) (by decide +kernel) (by decide)) ?_
    refine Eq.trans (rl_iconst (c := 0) (k := (nI 0)) (by decide +kernel) (by decide)) ?_
    refine Eq.trans (rl_inv (ix := 119) (n := 2) (o := 6) 63 [am_I (nI 1), am_I (nI 0)] [] (by decide +kernel) (by decide +kernel) (by decide +kernel) (by decide +kernel) ⟨rfl, rfl⟩ rfl rfl ck6) ?_
    rfl
  · skip
    refine Eq.trans (rl_iconst (c := 0) (k := (nI 0)) (by decide +kernel) (by decide)) ?_
    refine Eq.trans (rl_istore (j := 6) (ls' := [some (am_P (13, n, 0)), some (am_I x1), some (am_I x2), some (am_I x3), some (am_P (6, 0, 0)), some (am_I s0), some (am_I (nI 0))]) (by decide +kernel) rfl rfl) ?_
    rfl
theorem b45_64 {n : Nat} {x1 x2 x3 x5 s0 : Int32} {M : am_M} {w : am_W4} (hn : n < 12) : am_rn call 45 64 [some (am_P (13, n, 0)), some (am_I x1), some (am_I x2), some (am_I x3), some (am_P (6, 0, 0)), some (am_I x5), none] [am_I s0] M (am_Z w) = some (.inl (some (am_I s0)), M, (am_Z w)) := by
  exact rl_iret (by decide +kernel) rfl
theorem b45_68 {n : Nat} {x1 x2 x3 x5 x6 : Int32} {M : am_M} {w : am_W4} (hn : n < 12) : am_rn call 45 68 [some (am_P (13, n, 0)), some (am_I x1), some (am_I x2), some (am_I x3), some (am_P (6, 0, 0)), some (am_I x5), some (am_I x6)] [] M (am_Z w) = if x6 < x5 then if am_in x6 8 then if am_in (M (20, n, 0) x6.toNatClampNeg) 9 then if (M (16, n, 0) (M (20, n, 0) x6.toNatClampNeg).toNatClampNeg) = 0 then if am_in x6 8 then am_cb (call 63 [am_P (6, 0, 0), am_I (nI 4), am_I (M (20, n, 0) x6.toNatClampNeg)] M (am_Z w)) fun v M' X' => am_rn call 45 103 [some (am_P (13, n, 0)), some (am_I x1), some (am_I x2), some (am_I x3), some (am_P (6, 0, 0)), some (am_I x5), some (am_I x6)] (v.toList ++ []) M' X' else none else am_rn call 45 68 [some (am_P (13, n, 0)), some (am_I x1), some (am_I x2), some (am_I x3), some (am_P (6, 0, 0)), some (am_I x5), some (am_I (x6 + (nI 1)))] [] M (am_Z w) else none else none else if (M (13, n, 0) 5) < (nI 16) then if am_in (M (13, n, 0) 5) 16 then am_cb (call 26 [am_P (24, n, (M (13, n, 0) 5).toNatClampNeg), am_I x1, am_I x2, am_I (M (13, n, 0) 0)] M (am_Z w)) fun v M' X' => am_rn call 45 150 [some (am_P (13, n, 0)), some (am_I x1), some (am_I x2), some (am_I x3), some (am_P (6, 0, 0)), some (am_I x5), some (am_P (24, n, (M (13, n, 0) 5).toNatClampNeg))] (v.toList ++ []) M' X' else none else am_cb (call 63 [am_P (6, 0, 0), am_I (nI 2), am_I (nI 16)] M (am_Z w)) fun v M' X' => am_rn call 45 127 [some (am_P (13, n, 0)), some (am_I x1), some (am_I x2), some (am_I x3), some (am_P (6, 0, 0)), some (am_I x5), some (am_I x6)] (v.toList ++ []) M' X' := by
  refine Eq.trans (rl_iload (j := 6) (by decide +kernel) rfl) ?_
  refine Eq.trans (rl_iload (j := 5) (by decide +kernel) rfl) ?_
  refine Eq.trans (rl_icge (o := 38) 110 (by decide +kernel) (by decide)) ?_
  refine am_ite (fun h_1 => ?_) (fun h_1 => ?_)
  · skip
    refine Eq.trans (rl_aloadn (j := 0) (by decide +kernel) rfl) ?_
    refine Eq.trans (rl_getP (ix := 23) (ci := 5) (j := 4) (by decide +kernel) (by decide +kernel) (by decide +kernel) (ck13 hn) rfl) ?_
    refine Eq.trans (rl_aloadn (j := 0) (by decide +kernel) rfl) ?_
    refine Eq.trans (rl_getP (ix := 36) (ci := 5) (j := 9) (by decide +kernel) (by decide +kernel) (by decide +kernel) (ck13 hn) rfl) ?_
    refine Eq.trans (rl_iload (j := 6) (by decide +kernel) rfl) ?_
    refine Eq.trans (rl_iald (by decide +kernel) (ka20 hn)) ?_
    refine am_ite (fun h_2 => ?_) (fun _ => rfl)
    refine Eq.trans (rl_iald (by decide +kernel) (ka16 hn)) ?_
    refine am_ite (fun h_3 => ?_) (fun _ => rfl)
    refine Eq.trans (rl_ifne (o := 17) 104 (by decide +kernel) (by decide)) ?_
    refine am_ite (fun h_4 => ?_) (fun h_4 => ?_)
    · skip
      refine Eq.trans (rl_aload (j := 4) (by decide +kernel) rfl) ?_
      refine Eq.trans (rl_iconst (c := 4) (k := (nI 4)) (by decide +kernel) (by decide)) ?_
      refine Eq.trans (rl_aloadn (j := 0) (by decide +kernel) rfl) ?_
      refine Eq.trans (rl_getP (ix := 36) (ci := 5) (j := 9) (by decide +kernel) (by decide +kernel) (by decide +kernel) (ck13 hn) rfl) ?_
      refine Eq.trans (rl_iload (j := 6) (by decide +kernel) rfl) ?_
      refine Eq.trans (rl_iald (by decide +kernel) (ka20 hn)) ?_
      refine am_ite (fun h_5 => ?_) (fun _ => rfl)
      refine Eq.trans (rl_inv (ix := 119) (n := 2) (o := 6) 63 [am_I (nI 4), am_I (M (20, n, 0) x6.toNatClampNeg)] [] (by decide +kernel) (by decide +kernel) (by decide +kernel) (by decide +kernel) ⟨rfl, rfl⟩ rfl rfl ck6) ?_
      rfl
    · skip
      refine Eq.trans (rl_iinc (j := 6) (c := 1) (k := (nI 1)) (ls' := [some (am_P (13, n, 0)), some (am_I x1), some (am_I x2), some (am_I x3), some (am_P (6, 0, 0)), some (am_I x5), some (am_I (x6 + (nI 1)))]) (by decide +kernel) (by decide) rfl rfl) ?_
      refine Eq.trans (rl_goto (o := (-39)) 68 (by decide +kernel) (by decide)) ?_
      rfl
  · skip
    refine Eq.trans (rl_aloadn (j := 0) (by decide +kernel) rfl) ?_
    refine Eq.trans (rl_get (ix := 65) (ci := 5) (j := 5) (by decide +kernel) (by decide +kernel) (by decide +kernel) (ck13 hn)) ?_
    refine Eq.trans (rl_bipush (c := 16) (k := (nI 16)) (by decide +kernel) (by decide)) ?_
    refine Eq.trans (rl_iclt (o := 12) 128 (by decide +kernel) (by decide)) ?_
    refine am_ite (fun h_6 => ?_) (fun h_6 => ?_)
    · skip
      refine Eq.trans (rl_aloadn (j := 0) (by decide +kernel) rfl) ?_
      refine Eq.trans (rl_getP (ix := 29) (ci := 5) (j := 6) (by decide +kernel) (by decide +kernel) (by decide +kernel) (ck13 hn) rfl) ?_
      refine Eq.trans (rl_aloadn (j := 0) (by decide +kernel) rfl) ?_
      refine Eq.trans (rl_get (ix := 65) (ci := 5) (j := 5) (by decide +kernel) (by decide +kernel) (by decide +kernel) (ck13 hn)) ?_
      refine Eq.trans (rl_aald (v := (24, n, (M (13, n, 0) 5).toNatClampNeg)) (by decide +kernel) (ka17 hn) (fun h => if_pos (am_in_lt' h))) ?_
      refine am_ite (fun h_7 => ?_) (fun _ => rfl)
      refine Eq.trans (rl_astore (j := 6) (ls' := [some (am_P (13, n, 0)), some (am_I x1), some (am_I x2), some (am_I x3), some (am_P (6, 0, 0)), some (am_I x5), some (am_P (24, n, (M (13, n, 0) 5).toNatClampNeg))]) (by decide +kernel) rfl rfl) ?_
      refine Eq.trans (rl_aload (j := 6) (by decide +kernel) rfl) ?_
      refine Eq.trans (rl_iloadn (j := 1) (by decide +kernel) rfl) ?_
      refine Eq.trans (rl_iloadn (j := 2) (by decide +kernel) rfl) ?_
      refine Eq.trans (rl_aloadn (j := 0) (by decide +kernel) rfl) ?_
      refine Eq.trans (rl_get (ix := 42) (ci := 5) (j := 0) (by decide +kernel) (by decide +kernel) (by decide +kernel) (ck13 hn)) ?_
      refine Eq.trans (rl_inv (ix := 154) (n := 3) (o := 4) 26 [am_I x1, am_I x2, am_I (M (13, n, 0) 0)] [] (by decide +kernel) (by decide +kernel) (by decide +kernel) (by decide +kernel) ⟨rfl, rfl⟩ rfl rfl (ck24 hn (am_in_lt' h_7))) ?_
      rfl
    · skip
      refine Eq.trans (rl_aload (j := 4) (by decide +kernel) rfl) ?_
      refine Eq.trans (rl_iconst (c := 2) (k := (nI 2)) (by decide +kernel) (by decide)) ?_
      refine Eq.trans (rl_bipush (c := 16) (k := (nI 16)) (by decide +kernel) (by decide)) ?_
      refine Eq.trans (rl_inv (ix := 119) (n := 2) (o := 6) 63 [am_I (nI 2), am_I (nI 16)] [] (by decide +kernel) (by decide +kernel) (by decide +kernel) (by decide +kernel) ⟨rfl, rfl⟩ rfl rfl ck6) ?_
      rfl
theorem b45_103 {n : Nat} {x1 x2 x3 x5 x6 s0 : Int32} {M : am_M} {w : am_W4} (hn : n < 12) : am_rn call 45 103 [some (am_P (13, n, 0)), some (am_I x1), some (am_I x2), some (am_I x3), some (am_P (6, 0, 0)), some (am_I x5), some (am_I x6)] [am_I s0] M (am_Z w) = some (.inl (some (am_I s0)), M, (am_Z w)) := by
  exact rl_iret (by decide +kernel) rfl
theorem b45_127 {n : Nat} {x1 x2 x3 x5 x6 s0 : Int32} {M : am_M} {w : am_W4} (hn : n < 12) : am_rn call 45 127 [some (am_P (13, n, 0)), some (am_I x1), some (am_I x2), some (am_I x3), some (am_P (6, 0, 0)), some (am_I x5), some (am_I x6)] [am_I s0] M (am_Z w) = some (.inl (some (am_I s0)), M, (am_Z w)) := by
  exact rl_iret (by decide +kernel) rfl
theorem b45_150 {n x6 : Nat} {x1 x2 x3 x5 : Int32} {M : am_M} {w : am_W4} (hn : n < 12) (h6 : x6 < 16) : am_rn call 45 150 [some (am_P (13, n, 0)), some (am_I x1), some (am_I x2), some (am_I x3), some (am_P (6, 0, 0)), some (am_I x5), some (am_P (24, n, x6))] [] M (am_Z w) = am_rn call 45 157 [some (am_P (13, n, 0)), some (am_I x1), some (am_I x2), some (am_I x3), some (am_P (6, 0, 0)), some (am_I x5), some (am_P (24, n, x6))] [] (am_set M (24, n, x6) 8 x5) (am_Z w) := by
  refine Eq.trans (rl_aload (j := 6) (by decide +kernel) rfl) ?_
  refine Eq.trans (rl_iload (j := 5) (by decide +kernel) rfl) ?_
  refine Eq.trans (rl_put (ix := 157) (ci := 4) (j := 8) (by decide +kernel) (by decide +kernel) (by decide +kernel) (by decide +kernel) (ck24 hn h6)) ?_
  rfl
theorem b45_157 {n x6 : Nat} {x1 x2 x3 x5 : Int32} {M : am_M} {w : am_W4} (hn : n < 12) (h6 : x6 < 16) : am_rn call 45 157 [some (am_P (13, n, 0)), some (am_I x1), some (am_I x2), some (am_I x3), some (am_P (6, 0, 0)), some (am_I x5), some (am_P (24, n, x6))] [] M (am_Z w) = if am_cpk (nI 0) (nI 0) x5 8 8 then am_rn call 45 173 [some (am_P (13, n, 0)), some (am_I x1), some (am_I x2), some (am_I x3), some (am_P (6, 0, 0)), some (am_I x5), some (am_P (24, n, x6))] [] (am_cp M (20, n, 0) (25, n, x6) (nI 0).toNatClampNeg (nI 0).toNatClampNeg x5.toNatClampNeg) (am_Z w) else none := by
  refine Eq.trans (rl_aloadn (j := 0) (by decide +kernel) rfl) ?_
  refine Eq.trans (rl_getP (ix := 36) (ci := 5) (j := 9) (by decide +kernel) (by decide +kernel) (by decide +kernel) (ck13 hn) rfl) ?_
  refine Eq.trans (rl_iconst (c := 0) (k := (nI 0)) (by decide +kernel) (by decide)) ?_
  refine Eq.trans (rl_aload (j := 6) (by decide +kernel) rfl) ?_
  refine Eq.trans (rl_getP (ix := 160) (ci := 4) (j := 9) (by decide +kernel) (by decide +kernel) (by decide +kernel) (ck24 hn h6) rfl) ?_
  refine Eq.trans (rl_iconst (c := 0) (k := (nI 0)) (by decide +kernel) (by decide)) ?_
  refine Eq.trans (rl_iload (j := 5) (by decide +kernel) rfl) ?_
  refine Eq.trans (rl_copy (ix := 59) (y0 := 0) (by decide +kernel) (by decide +kernel) rfl (ka25 hn h6) (ka20 hn) (by simp)) ?_
  refine am_ite (fun h_1 => ?_) (fun _ => rfl)
  rfl
theorem b45_173 {n x6 : Nat} {x1 x2 x3 x5 : Int32} {M : am_M} {w : am_W4} (hn : n < 12) (h6 : x6 < 16) : am_rn call 45 173 [some (am_P (13, n, 0)), some (am_I x1), some (am_I x2), some (am_I x3), some (am_P (6, 0, 0)), some (am_I x5), some (am_P (24, n, x6))] [] M (am_Z w) = if am_in x1 6 then am_cb (call 19 [am_P (21, n, x1.toNatClampNeg), am_I (M (13, n, 0) 5)] M (am_Z w)) fun v M' X' => am_rn call 45 186 [some (am_P (13, n, 0)), some (am_I x1), some (am_I x2), some (am_I x3), some (am_P (6, 0, 0)), some (am_I x5), some (am_P (24, n, x6))] (v.toList ++ []) M' X' else none := by
  refine Eq.trans (rl_aloadn (j := 0) (by decide +kernel) rfl) ?_
  refine Eq.trans (rl_getP (ix := 11) (ci := 5) (j := 2) (by decide +kernel) (by decide +kernel) (by decide +kernel) (ck13 hn) rfl) ?_
  refine Eq.trans (rl_iloadn (j := 1) (by decide +kernel) rfl) ?_
  refine Eq.trans (rl_aald (v := (21, n, x1.toNatClampNeg)) (by decide +kernel) (ka14 hn) (fun h => if_pos (am_in_lt' h))) ?_
  refine am_ite (fun h_1 => ?_) (fun _ => rfl)
  refine Eq.trans (rl_aloadn (j := 0) (by decide +kernel) rfl) ?_
  refine Eq.trans (rl_get (ix := 65) (ci := 5) (j := 5) (by decide +kernel) (by decide +kernel) (by decide +kernel) (ck13 hn)) ?_
  refine Eq.trans (rl_inv (ix := 163) (n := 1) (o := 2) 19 [am_I (M (13, n, 0) 5)] [] (by decide +kernel) (by decide +kernel) (by decide +kernel) (by decide +kernel) ⟨rfl, rfl⟩ rfl rfl (ck21 hn (am_in_lt' h_1))) ?_
  rfl
theorem b45_186 {n x6 : Nat} {x1 x2 x3 x5 : Int32} {M : am_M} {w : am_W4} (hn : n < 12) (h6 : x6 < 16) : am_rn call 45 186 [some (am_P (13, n, 0)), some (am_I x1), some (am_I x2), some (am_I x3), some (am_P (6, 0, 0)), some (am_I x5), some (am_P (24, n, x6))] [] M (am_Z w) = am_rn call 45 196 [some (am_P (13, n, 0)), some (am_I x1), some (am_I x2), some (am_I x3), some (am_P (6, 0, 0)), some (am_I x5), some (am_P (24, n, x6))] [] (am_set M (13, n, 0) 5 ((M (13, n, 0) 5) + (nI 1))) (am_Z w) := by
  refine Eq.trans (rl_aloadn (j := 0) (by decide +kernel) rfl) ?_
  refine Eq.trans (rl_dup (by decide +kernel) rfl) ?_
  refine Eq.trans (rl_get (ix := 65) (ci := 5) (j := 5) (by decide +kernel) (by decide +kernel) (by decide +kernel) (ck13 hn)) ?_
  refine Eq.trans (rl_iconst (c := 1) (k := (nI 1)) (by decide +kernel) (by decide)) ?_
  refine Eq.trans (rl_iadd (by decide +kernel)) ?_
  refine Eq.trans (rl_put (ix := 65) (ci := 5) (j := 5) (by decide +kernel) (by decide +kernel) (by decide +kernel) (by decide +kernel) (ck13 hn)) ?_
  rfl
theorem b45_196 {n x6 : Nat} {x1 x2 x3 x5 : Int32} {M : am_M} {w : am_W4} (hn : n < 12) (h6 : x6 < 16) : am_rn call 45 196 [some (am_P (13, n, 0)), some (am_I x1), some (am_I x2), some (am_I x3), some (am_P (6, 0, 0)), some (am_I x5), some (am_P (24, n, x6))] [] M (am_Z w) = some (.inl (some (am_I ((M (13, n, 0) 5) - (nI 1)))), M, (am_Z w)) := by
  refine Eq.trans (rl_aloadn (j := 0) (by decide +kernel) rfl) ?_
  refine Eq.trans (rl_get (ix := 65) (ci := 5) (j := 5) (by decide +kernel) (by decide +kernel) (by decide +kernel) (ck13 hn)) ?_
  refine Eq.trans (rl_iconst (c := 1) (k := (nI 1)) (by decide +kernel) (by decide)) ?_
  refine Eq.trans (rl_isub (by decide +kernel)) ?_
  exact rl_iret (by decide +kernel) rfl
theorem e45 {d : Nat} {n : Nat} {x1 x2 x3 : Int32} {M : am_M} {w : am_W4} (hn : n < 12) : am_ev (d + 1) 45 [am_P (13, n, 0), am_I x1, am_I x2, am_I x3, am_P (6, 0, 0)] M (am_Z w) = am_cb ((am_ev d) 35 [am_P (13, n, 0), am_I x1] M (am_Z w)) fun v M' X' => am_rn (am_ev d) 45 5 [some (am_P (13, n, 0)), some (am_I x1), some (am_I x2), some (am_I x3), some (am_P (6, 0, 0)), none, none] (v.toList ++ []) M' X' := (am_ev_eq d 45 _ M (am_Z w)).trans (b45_0 hn)
theorem b46_0 {n : Nat} {x1 : Int32} {M : am_M} {w : am_W4} (hn : n < 12) : am_rn call 46 0 [some (am_P (13, n, 0)), some (am_I x1), none, none, none, none, none] [] M (am_Z w) = if x1 < (nI 1) then some (.inl (some (am_I (nI 0))), M, (am_Z w)) else if (nI 88888888) < x1 then some (.inl (some (am_I (nI 0))), M, (am_Z w)) else am_rn call 46 18 [some (am_P (13, n, 0)), some (am_I x1), some (am_I (nI 1)), some (am_I (nI 10)), none, none, none] [] M (am_Z w) := by
  refine Eq.trans (rl_iloadn (j := 1) (by decide +kernel) rfl) ?_
  refine Eq.trans (rl_iconst (c := 1) (k := (nI 1)) (by decide +kernel) (by decide)) ?_
  refine Eq.trans (rl_iclt (o := 9) 11 (by decide +kernel) (by decide)) ?_
  refine am_ite (fun h_1 => ?_) (fun h_1 => ?_)
  · skip
    refine Eq.trans (rl_iconst (c := 0) (k := (nI 0)) (by decide +kernel) (by decide)) ?_
    exact rl_iret (by decide +kernel) rfl
  · skip
    refine Eq.trans (rl_iloadn (j := 1) (by decide +kernel) rfl) ?_
    refine Eq.trans (rl_ldc (ix := 167) (k := (nI 88888888)) (by decide +kernel) (by decide +kernel)) ?_
    refine Eq.trans (rl_icle (o := 5) 13 (by decide +kernel) (by decide)) ?_
    refine am_ite (fun h_2 => ?_) (fun h_2 => ?_)
    · skip
      refine Eq.trans (rl_iconst (c := 0) (k := (nI 0)) (by decide +kernel) (by decide)) ?_
      exact rl_iret (by decide +kernel) rfl
    · skip
      refine Eq.trans (rl_iconst (c := 1) (k := (nI 1)) (by decide +kernel) (by decide)) ?_
      refine Eq.trans (rl_istoren (j := 2) (ls' := [some (am_P (13, n, 0)), some (am_I x1), some (am_I (nI 1)), none, none, none, none]) (by decide +kernel) rfl rfl) ?_
      refine Eq.trans (rl_bipush (c := 10) (k := (nI 10)) (by decide +kernel) (by decide)) ?_
      refine Eq.trans (rl_istoren (j := 3) (ls' := [some (am_P (13, n, 0)), some (am_I x1), some (am_I (nI 1)), some (am_I (nI 10)), none, none, none]) (by decide +kernel) rfl rfl) ?_
      rfl
theorem b46_18 {n : Nat} {x1 x2 x3 : Int32} {M : am_M} {w : am_W4} (hn : n < 12) : am_rn call 46 18 [some (am_P (13, n, 0)), some (am_I x1), some (am_I x2), some (am_I x3), none, none, none] [] M (am_Z w) = if x2 < (nI 8) then if x1 < x3 then am_rn call 46 40 [some (am_P (13, n, 0)), some (am_I x1), some (am_I x2), some (am_I x3), none, none, none] [] M (am_Z w) else am_rn call 46 18 [some (am_P (13, n, 0)), some (am_I x1), some (am_I (x2 + (nI 1))), some (am_I (x3 * (nI 10))), none, none, none] [] M (am_Z w) else am_rn call 46 40 [some (am_P (13, n, 0)), some (am_I x1), some (am_I x2), some (am_I x3), none, none, none] [] M (am_Z w) := by
  refine Eq.trans (rl_iloadn (j := 2) (by decide +kernel) rfl) ?_
  refine Eq.trans (rl_bipush (c := 8) (k := (nI 8)) (by decide +kernel) (by decide)) ?_
  refine Eq.trans (rl_icge (o := 19) 40 (by decide +kernel) (by decide)) ?_
  refine am_ite (fun h_1 => ?_) (fun h_1 => ?_)
  · skip
    refine Eq.trans (rl_iloadn (j := 1) (by decide +kernel) rfl) ?_
    refine Eq.trans (rl_iloadn (j := 3) (by decide +kernel) rfl) ?_
    refine Eq.trans (rl_iclt (o := 14) 40 (by decide +kernel) (by decide)) ?_
    refine am_ite (fun h_2 => ?_) (fun h_2 => ?_)
    · skip
      rfl
    · skip
      refine Eq.trans (rl_iinc (j := 2) (c := 1) (k := (nI 1)) (ls' := [some (am_P (13, n, 0)), some (am_I x1), some (am_I (x2 + (nI 1))), some (am_I x3), none, none, none]) (by decide +kernel) (by decide) rfl rfl) ?_
      refine Eq.trans (rl_iloadn (j := 3) (by decide +kernel) rfl) ?_
      refine Eq.trans (rl_bipush (c := 10) (k := (nI 10)) (by decide +kernel) (by decide)) ?_
      refine Eq.trans (rl_imul (by decide +kernel)) ?_
      refine Eq.trans (rl_istoren (j := 3) (ls' := [some (am_P (13, n, 0)), some (am_I x1), some (am_I (x2 + (nI 1))), some (am_I (x3 * (nI 10))), none, none, none]) (by decide +kernel) rfl rfl) ?_
      refine Eq.trans (rl_goto (o := (-19)) 18 (by decide +kernel) (by decide)) ?_
      rfl
  · skip
    rfl
theorem b46_40 {n : Nat} {x1 x2 x3 : Int32} {M : am_M} {w : am_W4} (hn : n < 12) : am_rn call 46 40 [some (am_P (13, n, 0)), some (am_I x1), some (am_I x2), some (am_I x3), none, none, none] [] M (am_Z w) = am_rn call 46 48 [some (am_P (13, n, 0)), some (am_I x1), some (am_I x2), some (am_I x3), some (am_I x1), some (am_I (x2 - (nI 1))), none] [] M (am_Z w) := by
  refine Eq.trans (rl_iloadn (j := 1) (by decide +kernel) rfl) ?_
  refine Eq.trans (rl_istore (j := 4) (ls' := [some (am_P (13, n, 0)), some (am_I x1), some (am_I x2), some (am_I x3), some (am_I x1), none, none]) (by decide +kernel) rfl rfl) ?_
  refine Eq.trans (rl_iloadn (j := 2) (by decide +kernel) rfl) ?_
  refine Eq.trans (rl_iconst (c := 1) (k := (nI 1)) (by decide +kernel) (by decide)) ?_
  refine Eq.trans (rl_isub (by decide +kernel)) ?_
  refine Eq.trans (rl_istore (j := 5) (ls' := [some (am_P (13, n, 0)), some (am_I x1), some (am_I x2), some (am_I x3), some (am_I x1), some (am_I (x2 - (nI 1))), none]) (by decide +kernel) rfl rfl) ?_
  rfl
theorem b46_48 {n : Nat} {x1 x2 x3 x4 x5 : Int32} {x6 : Option am_V} {M : am_M} {w : am_W4} (hn : n < 12) : am_rn call 46 48 [some (am_P (13, n, 0)), some (am_I x1), some (am_I x2), some (am_I x3), some (am_I x4), some (am_I x5), x6] [] M (am_Z w) = if x5 < 0 then some (.inl (some (am_I x2)), M, (am_Z w)) else am_cb (call 231 [am_I (x4 - x4 / (nI 10) * (nI 10))] M (am_Z w)) fun v M' X' => am_rn call 46 65 [some (am_P (13, n, 0)), some (am_I x1), some (am_I x2), some (am_I x3), some (am_I x4), some (am_I x5), some (am_I (x4 - x4 / (nI 10) * (nI 10)))] (v.toList ++ []) M' X' := by
  refine Eq.trans (rl_iload (j := 5) (by decide +kernel) rfl) ?_
  refine Eq.trans (rl_iflt (o := 42) 92 (by decide +kernel) (by decide)) ?_
  refine am_ite (fun h_1 => ?_) (fun h_1 => ?_)
  · skip
    refine Eq.trans (rl_iloadn (j := 2) (by decide +kernel) rfl) ?_
    exact rl_iret (by decide +kernel) rfl
  · skip
    refine Eq.trans (rl_iload (j := 4) (by decide +kernel) rfl) ?_
    refine Eq.trans (rl_bipush (c := 10) (k := (nI 10)) (by decide +kernel) (by decide)) ?_
    refine Eq.trans (rl_irem (by decide +kernel) rfl) ?_
    refine Eq.trans (rl_istore (j := 6) (ls' := [some (am_P (13, n, 0)), some (am_I x1), some (am_I x2), some (am_I x3), some (am_I x4), some (am_I x5), some (am_I (x4 - x4 / (nI 10) * (nI 10)))]) (by decide +kernel) rfl rfl) ?_
    refine Eq.trans (rl_iload (j := 6) (by decide +kernel) rfl) ?_
    refine Eq.trans (rl_invS (ix := 129) (n := 1) (k := 4) 231 [am_I (x4 - x4 / (nI 10) * (nI 10))] [] (by decide +kernel) (by decide +kernel) (by decide) (by decide +kernel) ⟨rfl, rfl⟩ rfl rfl) ?_
    rfl
theorem b46_65 {n : Nat} {x1 x2 x3 x4 x5 x6 s0 : Int32} {M : am_M} {w : am_W4} (hn : n < 12) : am_rn call 46 65 [some (am_P (13, n, 0)), some (am_I x1), some (am_I x2), some (am_I x3), some (am_I x4), some (am_I x5), some (am_I x6)] [am_I s0] M (am_Z w) = if s0 = 0 then some (.inl (some (am_I (nI 0))), M, (am_Z w)) else if am_in x5 8 then am_rn call 46 48 [some (am_P (13, n, 0)), some (am_I x1), some (am_I x2), some (am_I x3), some (am_I (x4 / (nI 10))), some (am_I (x5 + (-1 : Int32))), some (am_I x6)] [] (am_set M (20, n, 0) x5.toNatClampNeg x6) (am_Z w) else none := by
  refine Eq.trans (rl_ifne (o := 5) 70 (by decide +kernel) (by decide)) ?_
  refine am_ite (fun h_1 => ?_) (fun h_1 => ?_)
  · skip
    refine Eq.trans (rl_iconst (c := 0) (k := (nI 0)) (by decide +kernel) (by decide)) ?_
    exact rl_iret (by decide +kernel) rfl
  · skip
    refine Eq.trans (rl_aloadn (j := 0) (by decide +kernel) rfl) ?_
    refine Eq.trans (rl_getP (ix := 36) (ci := 5) (j := 9) (by decide +kernel) (by decide +kernel) (by decide +kernel) (ck13 hn) rfl) ?_
    refine Eq.trans (rl_iload (j := 5) (by decide +kernel) rfl) ?_
    refine Eq.trans (rl_iload (j := 6) (by decide +kernel) rfl) ?_
    refine Eq.trans (rl_iast (by decide +kernel) (ka20 hn)) ?_
    refine am_ite (fun h_2 => ?_) (fun _ => rfl)
    refine Eq.trans (rl_iload (j := 4) (by decide +kernel) rfl) ?_
    refine Eq.trans (rl_bipush (c := 10) (k := (nI 10)) (by decide +kernel) (by decide)) ?_
    refine Eq.trans (rl_idiv (by decide +kernel) rfl) ?_
    refine Eq.trans (rl_istore (j := 4) (ls' := [some (am_P (13, n, 0)), some (am_I x1), some (am_I x2), some (am_I x3), some (am_I (x4 / (nI 10))), some (am_I x5), some (am_I x6)]) (by decide +kernel) rfl rfl) ?_
    refine Eq.trans (rl_iinc (j := 5) (c := -1) (k := (-1 : Int32)) (ls' := [some (am_P (13, n, 0)), some (am_I x1), some (am_I x2), some (am_I x3), some (am_I (x4 / (nI 10))), some (am_I (x5 + (-1 : Int32))), some (am_I x6)]) (by decide +kernel) (by decide) rfl rfl) ?_
    refine Eq.trans (rl_goto (o := (-41)) 48 (by decide +kernel) (by decide)) ?_
    rfl
theorem e46 {d : Nat} {n : Nat} {x1 : Int32} {M : am_M} {w : am_W4} (hn : n < 12) : am_ev (d + 1) 46 [am_P (13, n, 0), am_I x1] M (am_Z w) = if x1 < (nI 1) then some (.inl (some (am_I (nI 0))), M, (am_Z w)) else if (nI 88888888) < x1 then some (.inl (some (am_I (nI 0))), M, (am_Z w)) else am_rn (am_ev d) 46 18 [some (am_P (13, n, 0)), some (am_I x1), some (am_I (nI 1)), some (am_I (nI 10)), none, none, none] [] M (am_Z w) := (am_ev_eq d 46 _ M (am_Z w)).trans (b46_0 hn)
theorem b47_0 {n : Nat} {x1 : Int32} {M : am_M} {w : am_W4} (hn : n < 12) : am_rn call 47 0 [some (am_P (13, n, 0)), some (am_I x1), some (am_P (6, 0, 0)), none] [] M (am_Z w) = am_cb (call 37 [am_P (13, n, 0), am_I x1] M (am_Z w)) fun v M' X' => am_rn call 47 5 [some (am_P (13, n, 0)), some (am_I x1), some (am_P (6, 0, 0)), none] (v.toList ++ []) M' X' := by
  refine Eq.trans (rl_aloadn (j := 0) (by decide +kernel) rfl) ?_
  refine Eq.trans (rl_iloadn (j := 1) (by decide +kernel) rfl) ?_
  refine Eq.trans (rl_inv (ix := 168) (n := 1) (o := 5) 37 [am_I x1] [] (by decide +kernel) (by decide +kernel) (by decide +kernel) (by decide +kernel) ⟨rfl, rfl⟩ rfl rfl (ck13 hn)) ?_
  rfl
theorem b47_5 {n : Nat} {x1 s0 : Int32} {M : am_M} {w : am_W4} (hn : n < 12) : am_rn call 47 5 [some (am_P (13, n, 0)), some (am_I x1), some (am_P (6, 0, 0)), none] [am_I s0] M (am_Z w) = if s0 = 0 then am_cb (call 63 [am_P (6, 0, 0), am_I (nI 3), am_I x1] M (am_Z w)) fun v M' X' => am_rn call 47 14 [some (am_P (13, n, 0)), some (am_I x1), some (am_P (6, 0, 0)), none] (v.toList ++ []) M' X' else if am_in x1 16 then if (M (24, n, x1.toNatClampNeg) 3) = 0 then am_rn call 47 45 [some (am_P (13, n, 0)), some (am_I x1), some (am_P (6, 0, 0)), some (am_P (24, n, x1.toNatClampNeg))] [] (am_set M (24, n, x1.toNatClampNeg) 3 (nI 2)) (am_Z w) else am_cb (call 63 [am_P (6, 0, 0), am_I (nI 7), am_I (M (24, n, x1.toNatClampNeg) 3)] M (am_Z w)) fun v M' X' => am_rn call 47 39 [some (am_P (13, n, 0)), some (am_I x1), some (am_P (6, 0, 0)), some (am_P (24, n, x1.toNatClampNeg))] (v.toList ++ []) M' X' else none := by
  refine Eq.trans (rl_ifne (o := 10) 15 (by decide +kernel) (by decide)) ?_
  refine am_ite (fun h_1 => ?_) (fun h_1 => ?_)
  · skip
    refine Eq.trans (rl_aloadn (j := 2) (by decide +kernel) rfl) ?_
    refine Eq.trans (rl_iconst (c := 3) (k := (nI 3)) (by decide +kernel) (by decide)) ?_
    refine Eq.trans (rl_iloadn (j := 1) (by decide +kernel) rfl) ?_
    refine Eq.trans (rl_inv (ix := 119) (n := 2) (o := 6) 63 [am_I (nI 3), am_I x1] [] (by decide +kernel) (by decide +kernel) (by decide +kernel) (by decide +kernel) ⟨rfl, rfl⟩ rfl rfl ck6) ?_
    rfl
  · skip
    refine Eq.trans (rl_aloadn (j := 0) (by decide +kernel) rfl) ?_
    refine Eq.trans (rl_getP (ix := 29) (ci := 5) (j := 6) (by decide +kernel) (by decide +kernel) (by decide +kernel) (ck13 hn) rfl) ?_
    refine Eq.trans (rl_iloadn (j := 1) (by decide +kernel) rfl) ?_
    refine Eq.trans (rl_aald (v := (24, n, x1.toNatClampNeg)) (by decide +kernel) (ka17 hn) (fun h => if_pos (am_in_lt' h))) ?_
    refine am_ite (fun h_2 => ?_) (fun _ => rfl)
    refine Eq.trans (rl_astoren (j := 3) (ls' := [some (am_P (13, n, 0)), some (am_I x1), some (am_P (6, 0, 0)), some (am_P (24, n, x1.toNatClampNeg))]) (by decide +kernel) rfl rfl) ?_
    refine Eq.trans (rl_aloadn (j := 3) (by decide +kernel) rfl) ?_
    refine Eq.trans (rl_get (ix := 171) (ci := 4) (j := 3) (by decide +kernel) (by decide +kernel) (by decide +kernel) (ck24 hn (am_in_lt' h_2))) ?_
    refine Eq.trans (rl_ifeq (o := 14) 40 (by decide +kernel) (by decide)) ?_
    refine am_ite (fun h_3 => ?_) (fun h_3 => ?_)
    · skip
      refine Eq.trans (rl_aloadn (j := 3) (by decide +kernel) rfl) ?_
      refine Eq.trans (rl_iconst (c := 2) (k := (nI 2)) (by decide +kernel) (by decide)) ?_
      refine Eq.trans (rl_put (ix := 171) (ci := 4) (j := 3) (by decide +kernel) (by decide +kernel) (by decide +kernel) (by decide +kernel) (ck24 hn (am_in_lt' h_2))) ?_
      rfl
    · skip
      refine Eq.trans (rl_aloadn (j := 2) (by decide +kernel) rfl) ?_
      refine Eq.trans (rl_bipush (c := 7) (k := (nI 7)) (by decide +kernel) (by decide)) ?_
      refine Eq.trans (rl_aloadn (j := 3) (by decide +kernel) rfl) ?_
      refine Eq.trans (rl_get (ix := 171) (ci := 4) (j := 3) (by decide +kernel) (by decide +kernel) (by decide +kernel) (ck24 hn (am_in_lt' h_2))) ?_
      refine Eq.trans (rl_inv (ix := 119) (n := 2) (o := 6) 63 [am_I (nI 7), am_I (M (24, n, x1.toNatClampNeg) 3)] [] (by decide +kernel) (by decide +kernel) (by decide +kernel) (by decide +kernel) ⟨rfl, rfl⟩ rfl rfl ck6) ?_
      rfl
theorem b47_14 {n : Nat} {x1 s0 : Int32} {M : am_M} {w : am_W4} (hn : n < 12) : am_rn call 47 14 [some (am_P (13, n, 0)), some (am_I x1), some (am_P (6, 0, 0)), none] [am_I s0] M (am_Z w) = some (.inl (some (am_I s0)), M, (am_Z w)) := by
  exact rl_iret (by decide +kernel) rfl
theorem b47_39 {n x3 : Nat} {x1 s0 : Int32} {M : am_M} {w : am_W4} (hn : n < 12) (h3 : x3 < 16) : am_rn call 47 39 [some (am_P (13, n, 0)), some (am_I x1), some (am_P (6, 0, 0)), some (am_P (24, n, x3))] [am_I s0] M (am_Z w) = some (.inl (some (am_I s0)), M, (am_Z w)) := by
  exact rl_iret (by decide +kernel) rfl
theorem b47_45 {n x3 : Nat} {x1 : Int32} {M : am_M} {w : am_W4} (hn : n < 12) (h3 : x3 < 16) : am_rn call 47 45 [some (am_P (13, n, 0)), some (am_I x1), some (am_P (6, 0, 0)), some (am_P (24, n, x3))] [] M (am_Z w) = am_cb (call 35 [am_P (13, n, 0), am_I (M (24, n, x3) 2)] M (am_Z w)) fun v M' X' => am_rn call 47 53 [some (am_P (13, n, 0)), some (am_I x1), some (am_P (6, 0, 0)), some (am_P (24, n, x3))] (v.toList ++ []) M' X' := by
  refine Eq.trans (rl_aloadn (j := 0) (by decide +kernel) rfl) ?_
  refine Eq.trans (rl_aloadn (j := 3) (by decide +kernel) rfl) ?_
  refine Eq.trans (rl_get (ix := 174) (ci := 4) (j := 2) (by decide +kernel) (by decide +kernel) (by decide +kernel) (ck24 hn h3)) ?_
  refine Eq.trans (rl_inv (ix := 132) (n := 1) (o := 5) 35 [am_I (M (24, n, x3) 2)] [] (by decide +kernel) (by decide +kernel) (by decide +kernel) (by decide +kernel) ⟨rfl, rfl⟩ rfl rfl (ck13 hn)) ?_
  rfl
theorem b47_53 {n x3 : Nat} {x1 s0 : Int32} {M : am_M} {w : am_W4} (hn : n < 12) (h3 : x3 < 16) : am_rn call 47 53 [some (am_P (13, n, 0)), some (am_I x1), some (am_P (6, 0, 0)), some (am_P (24, n, x3))] [am_I s0] M (am_Z w) = if s0 = 0 then am_rn call 47 69 [some (am_P (13, n, 0)), some (am_I x1), some (am_P (6, 0, 0)), some (am_P (24, n, x3))] [] M (am_Z w) else if am_in (M (24, n, x3) 2) 6 then am_cb (call 20 [am_P (21, n, (M (24, n, x3) 2).toNatClampNeg), am_I x1] M (am_Z w)) fun v M' X' => am_rn call 47 69 [some (am_P (13, n, 0)), some (am_I x1), some (am_P (6, 0, 0)), some (am_P (24, n, x3))] (v.toList ++ []) M' X' else none := by
  refine Eq.trans (rl_ifeq (o := 16) 69 (by decide +kernel) (by decide)) ?_
  refine am_ite (fun h_1 => ?_) (fun h_1 => ?_)
  · skip
    rfl
  · skip
    refine Eq.trans (rl_aloadn (j := 0) (by decide +kernel) rfl) ?_
    refine Eq.trans (rl_getP (ix := 11) (ci := 5) (j := 2) (by decide +kernel) (by decide +kernel) (by decide +kernel) (ck13 hn) rfl) ?_
    refine Eq.trans (rl_aloadn (j := 3) (by decide +kernel) rfl) ?_
    refine Eq.trans (rl_get (ix := 174) (ci := 4) (j := 2) (by decide +kernel) (by decide +kernel) (by decide +kernel) (ck24 hn h3)) ?_
    refine Eq.trans (rl_aald (v := (21, n, (M (24, n, x3) 2).toNatClampNeg)) (by decide +kernel) (ka14 hn) (fun h => if_pos (am_in_lt' h))) ?_
    refine am_ite (fun h_2 => ?_) (fun _ => rfl)
    refine Eq.trans (rl_iloadn (j := 1) (by decide +kernel) rfl) ?_
    refine Eq.trans (rl_inv (ix := 177) (n := 1) (o := 2) 20 [am_I x1] [] (by decide +kernel) (by decide +kernel) (by decide +kernel) (by decide +kernel) ⟨rfl, rfl⟩ rfl rfl (ck21 hn (am_in_lt' h_2))) ?_
    rfl
theorem b47_69 {n x3 : Nat} {x1 : Int32} {M : am_M} {w : am_W4} (hn : n < 12) (h3 : x3 < 16) : am_rn call 47 69 [some (am_P (13, n, 0)), some (am_I x1), some (am_P (6, 0, 0)), some (am_P (24, n, x3))] [] M (am_Z w) = some (.inl (some (am_I (M (24, n, x3) 2))), M, (am_Z w)) := by
  refine Eq.trans (rl_aloadn (j := 3) (by decide +kernel) rfl) ?_
  refine Eq.trans (rl_get (ix := 174) (ci := 4) (j := 2) (by decide +kernel) (by decide +kernel) (by decide +kernel) (ck24 hn h3)) ?_
  exact rl_iret (by decide +kernel) rfl
theorem e47 {d : Nat} {n : Nat} {x1 : Int32} {M : am_M} {w : am_W4} (hn : n < 12) : am_ev (d + 1) 47 [am_P (13, n, 0), am_I x1, am_P (6, 0, 0)] M (am_Z w) = am_cb ((am_ev d) 37 [am_P (13, n, 0), am_I x1] M (am_Z w)) fun v M' X' => am_rn (am_ev d) 47 5 [some (am_P (13, n, 0)), some (am_I x1), some (am_P (6, 0, 0)), none] (v.toList ++ []) M' X' := (am_ev_eq d 47 _ M (am_Z w)).trans (b47_0 hn)
theorem b48_0 {n : Nat} {x1 : Int32} {M : am_M} {w : am_W4} (hn : n < 12) : am_rn call 48 0 [some (am_P (13, n, 0)), some (am_I x1), some (am_P (6, 0, 0)), none, none] [] M (am_Z w) = if x1 < (nI 1) then am_rn call 48 11 [some (am_P (13, n, 0)), some (am_I x1), some (am_P (6, 0, 0)), none, none] [] M (am_Z w) else if (nI 96) < x1 then am_rn call 48 11 [some (am_P (13, n, 0)), some (am_I x1), some (am_P (6, 0, 0)), none, none] [] M (am_Z w) else am_rn call 48 26 [some (am_P (13, n, 0)), some (am_I x1), some (am_P (6, 0, 0)), some (am_I (M (13, n, 0) 7)), some (am_I (nI 0))] [] M (am_Z w) := by
  refine Eq.trans (rl_iloadn (j := 1) (by decide +kernel) rfl) ?_
  refine Eq.trans (rl_iconst (c := 1) (k := (nI 1)) (by decide +kernel) (by decide)) ?_
  refine Eq.trans (rl_iclt (o := 9) 11 (by decide +kernel) (by decide)) ?_
  refine am_ite (fun h_1 => ?_) (fun h_1 => ?_)
  · skip
    rfl
  · skip
    refine Eq.trans (rl_iloadn (j := 1) (by decide +kernel) rfl) ?_
    refine Eq.trans (rl_bipush (c := 96) (k := (nI 96)) (by decide +kernel) (by decide)) ?_
    refine Eq.trans (rl_icle (o := 10) 18 (by decide +kernel) (by decide)) ?_
    refine am_ite (fun h_2 => ?_) (fun h_2 => ?_)
    · skip
      rfl
    · skip
      refine Eq.trans (rl_aloadn (j := 0) (by decide +kernel) rfl) ?_
      refine Eq.trans (rl_get (ix := 71) (ci := 5) (j := 7) (by decide +kernel) (by decide +kernel) (by decide +kernel) (ck13 hn)) ?_
      refine Eq.trans (rl_istoren (j := 3) (ls' := [some (am_P (13, n, 0)), some (am_I x1), some (am_P (6, 0, 0)), some (am_I (M (13, n, 0) 7)), none]) (by decide +kernel) rfl rfl) ?_
      refine Eq.trans (rl_iconst (c := 0) (k := (nI 0)) (by decide +kernel) (by decide)) ?_
      refine Eq.trans (rl_istore (j := 4) (ls' := [some (am_P (13, n, 0)), some (am_I x1), some (am_P (6, 0, 0)), some (am_I (M (13, n, 0) 7)), some (am_I (nI 0))]) (by decide +kernel) rfl rfl) ?_
      rfl
theorem b48_11 {n : Nat} {x1 : Int32} {M : am_M} {w : am_W4} (hn : n < 12) : am_rn call 48 11 [some (am_P (13, n, 0)), some (am_I x1), some (am_P (6, 0, 0)), none, none] [] M (am_Z w) = am_cb (call 63 [am_P (6, 0, 0), am_I (nI 1), am_I (nI 0)] M (am_Z w)) fun v M' X' => am_rn call 48 17 [some (am_P (13, n, 0)), some (am_I x1), some (am_P (6, 0, 0)), none, none] (v.toList ++ []) M' X' := by
  refine Eq.trans (rl_aloadn (j := 2) (by decide +kernel) rfl) ?_
  refine Eq.trans (rl_iconst (c := 1) (k := (nI 1)) (by decide +kernel) (by decide)) ?_
  refine Eq.trans (rl_iconst (c := 0) (k := (nI 0)) (by decide +kernel) (by decide)) ?_
  refine Eq.trans (rl_inv (ix := 119) (n := 2) (o := 6) 63 [am_I (nI 1), am_I (nI 0)] [] (by decide +kernel) (by decide +kernel) (by decide +kernel) (by decide +kernel) ⟨rfl, rfl⟩ rfl rfl ck6) ?_
  rfl
theorem b48_17 {n : Nat} {x1 s0 : Int32} {M : am_M} {w : am_W4} (hn : n < 12) : am_rn call 48 17 [some (am_P (13, n, 0)), some (am_I x1), some (am_P (6, 0, 0)), none, none] [am_I s0] M (am_Z w) = some (.inl (some (am_I s0)), M, (am_Z w)) := by
  exact rl_iret (by decide +kernel) rfl
theorem b48_26 {n : Nat} {x1 x3 x4 : Int32} {M : am_M} {w : am_W4} (hn : n < 12) : am_rn call 48 26 [some (am_P (13, n, 0)), some (am_I x1), some (am_P (6, 0, 0)), some (am_I x3), some (am_I x4)] [] M (am_Z w) = if x4 < x1 then am_cb (call 49 [am_P (13, n, 0)] M (am_Z w)) fun v M' X' => am_rn call 48 36 [some (am_P (13, n, 0)), some (am_I x1), some (am_P (6, 0, 0)), some (am_I x3), some (am_I x4)] (v.toList ++ []) M' X' else some (.inl (some (am_I ((M (13, n, 0) 7) - x3))), M, (am_Z w)) := by
  refine Eq.trans (rl_iload (j := 4) (by decide +kernel) rfl) ?_
  refine Eq.trans (rl_iloadn (j := 1) (by decide +kernel) rfl) ?_
  refine Eq.trans (rl_icge (o := 13) 42 (by decide +kernel) (by decide)) ?_
  refine am_ite (fun h_1 => ?_) (fun h_1 => ?_)
  · skip
    refine Eq.trans (rl_aloadn (j := 0) (by decide +kernel) rfl) ?_
    refine Eq.trans (rl_inv (ix := 180) (n := 0) (o := 5) 49 [] [] (by decide +kernel) (by decide +kernel) (by decide +kernel) (by decide +kernel) ⟨rfl, rfl⟩ rfl rfl (ck13 hn)) ?_
    rfl
  · skip
    refine Eq.trans (rl_aloadn (j := 0) (by decide +kernel) rfl) ?_
    refine Eq.trans (rl_get (ix := 71) (ci := 5) (j := 7) (by decide +kernel) (by decide +kernel) (by decide +kernel) (ck13 hn)) ?_
    refine Eq.trans (rl_iloadn (j := 3) (by decide +kernel) rfl) ?_
    refine Eq.trans (rl_isub (by decide +kernel)) ?_
    exact rl_iret (by decide +kernel) rfl
theorem b48_36 {n : Nat} {x1 x3 x4 : Int32} {M : am_M} {w : am_W4} (hn : n < 12) : am_rn call 48 36 [some (am_P (13, n, 0)), some (am_I x1), some (am_P (6, 0, 0)), some (am_I x3), some (am_I x4)] [] M (am_Z w) = am_rn call 48 26 [some (am_P (13, n, 0)), some (am_I x1), some (am_P (6, 0, 0)), some (am_I x3), some (am_I (x4 + (nI 1)))] [] M (am_Z w) := by
  refine Eq.trans (rl_iinc (j := 4) (c := 1) (k := (nI 1)) (ls' := [some (am_P (13, n, 0)), some (am_I x1), some (am_P (6, 0, 0)), some (am_I x3), some (am_I (x4 + (nI 1)))]) (by decide +kernel) (by decide) rfl rfl) ?_
  refine Eq.trans (rl_goto (o := (-13)) 26 (by decide +kernel) (by decide)) ?_
  rfl
theorem e48 {d : Nat} {n : Nat} {x1 : Int32} {M : am_M} {w : am_W4} (hn : n < 12) : am_ev (d + 1) 48 [am_P (13, n, 0), am_I x1, am_P (6, 0, 0)] M (am_Z w) = if x1 < (nI 1) then am_rn (am_ev d) 48 11 [some (am_P (13, n, 0)), some (am_I x1), some (am_P (6, 0, 0)), none, none] [] M (am_Z w) else if (nI 96) < x1 then am_rn (am_ev d) 48 11 [some (am_P (13, n, 0)), some (am_I x1), some (am_P (6, 0, 0)), none, none] [] M (am_Z w) else am_rn (am_ev d) 48 26 [some (am_P (13, n, 0)), some (am_I x1), some (am_P (6, 0, 0)), some (am_I (M (13, n, 0) 7)), some (am_I (nI 0))] [] M (am_Z w) := (am_ev_eq d 48 _ M (am_Z w)).trans (b48_0 hn)
theorem b49_0 {n : Nat} {M : am_M} {w : am_W4} (hn : n < 12) : am_rn call 49 0 [some (am_P (13, n, 0)), none, none, none, none, none, none] [] M (am_Z w) = am_cb (call 38 [am_P (13, n, 0)] M (am_Z w)) fun v M' X' => am_rn call 49 6 [some (am_P (13, n, 0)), some (am_I (nI 0)), none, none, none, none, none] (v.toList ++ []) M' X' := by
  refine Eq.trans (rl_iconst (c := 0) (k := (nI 0)) (by decide +kernel) (by decide)) ?_
  refine Eq.trans (rl_istoren (j := 1) (ls' := [some (am_P (13, n, 0)), some (am_I (nI 0)), none, none, none, none, none]) (by decide +kernel) rfl rfl) ?_
  refine Eq.trans (rl_aloadn (j := 0) (by decide +kernel) rfl) ?_
  refine Eq.trans (rl_inv (ix := 183) (n := 0) (o := 5) 38 [] [] (by decide +kernel) (by decide +kernel) (by decide +kernel) (by decide +kernel) ⟨rfl, rfl⟩ rfl rfl (ck13 hn)) ?_
  rfl
theorem b49_6 {n : Nat} {x1 s0 : Int32} {M : am_M} {w : am_W4} (hn : n < 12) : am_rn call 49 6 [some (am_P (13, n, 0)), some (am_I x1), none, none, none, none, none] [am_I s0] M (am_Z w) = am_rn call 49 9 [some (am_P (13, n, 0)), some (am_I x1), some (am_I s0), some (am_I (nI 0)), none, none, none] [] M (am_Z w) := by
  refine Eq.trans (rl_istoren (j := 2) (ls' := [some (am_P (13, n, 0)), some (am_I x1), some (am_I s0), none, none, none, none]) (by decide +kernel) rfl rfl) ?_
  refine Eq.trans (rl_iconst (c := 0) (k := (nI 0)) (by decide +kernel) (by decide)) ?_
  refine Eq.trans (rl_istoren (j := 3) (ls' := [some (am_P (13, n, 0)), some (am_I x1), some (am_I s0), some (am_I (nI 0)), none, none, none]) (by decide +kernel) rfl rfl) ?_
  rfl
theorem b49_9 {n : Nat} {x1 x2 x3 : Int32} {x4 x5 x6 : Option am_V} {M : am_M} {w : am_W4} (hn : n < 12) : am_rn call 49 9 [some (am_P (13, n, 0)), some (am_I x1), some (am_I x2), some (am_I x3), x4, x5, x6] [] M (am_Z w) = if x3 < (M (13, n, 0) 1) then if am_in x3 6 then am_cb (call 228 [am_P (21, n, x3.toNatClampNeg)] M (am_Z w)) fun v M' X' => am_rn call 49 26 [some (am_P (13, n, 0)), some (am_I x1), some (am_I x2), some (am_I x3), x4, x5, x6] (v.toList ++ []) M' X' else none else am_rn call 49 142 [some (am_P (13, n, 0)), some (am_I x1), some (am_I x2), some (am_I (nI 0)), x4, x5, x6] [] M (am_Z w) := by
  refine Eq.trans (rl_iloadn (j := 3) (by decide +kernel) rfl) ?_
  refine Eq.trans (rl_aloadn (j := 0) (by decide +kernel) rfl) ?_
  refine Eq.trans (rl_get (ix := 46) (ci := 5) (j := 1) (by decide +kernel) (by decide +kernel) (by decide +kernel) (ck13 hn)) ?_
  refine Eq.trans (rl_icge (o := 126) 140 (by decide +kernel) (by decide)) ?_
  refine am_ite (fun h_1 => ?_) (fun h_1 => ?_)
  · skip
    refine Eq.trans (rl_aloadn (j := 0) (by decide +kernel) rfl) ?_
    refine Eq.trans (rl_getP (ix := 11) (ci := 5) (j := 2) (by decide +kernel) (by decide +kernel) (by decide +kernel) (ck13 hn) rfl) ?_
    refine Eq.trans (rl_iloadn (j := 3) (by decide +kernel) rfl) ?_
    refine Eq.trans (rl_aald (v := (21, n, x3.toNatClampNeg)) (by decide +kernel) (ka14 hn) (fun h => if_pos (am_in_lt' h))) ?_
    refine am_ite (fun h_2 => ?_) (fun _ => rfl)
    refine Eq.trans (rl_inv (ix := 187) (n := 0) (o := 2) 228 [] [] (by decide +kernel) (by decide +kernel) (by decide +kernel) (by decide +kernel) ⟨rfl, rfl⟩ rfl rfl (ck21 hn (am_in_lt' h_2))) ?_
    rfl
  · skip
    refine Eq.trans (rl_iconst (c := 0) (k := (nI 0)) (by decide +kernel) (by decide)) ?_
    refine Eq.trans (rl_istoren (j := 3) (ls' := [some (am_P (13, n, 0)), some (am_I x1), some (am_I x2), some (am_I (nI 0)), x4, x5, x6]) (by decide +kernel) rfl rfl) ?_
    rfl
theorem b49_26 {n : Nat} {x1 x2 x3 s0 : Int32} {x4 x5 x6 : Option am_V} {M : am_M} {w : am_W4} (hn : n < 12) : am_rn call 49 26 [some (am_P (13, n, 0)), some (am_I x1), some (am_I x2), some (am_I x3), x4, x5, x6] [am_I s0] M (am_Z w) = am_cb (call 37 [am_P (13, n, 0), am_I s0] M (am_Z w)) fun v M' X' => am_rn call 49 34 [some (am_P (13, n, 0)), some (am_I x1), some (am_I x2), some (am_I x3), some (am_I s0), x5, x6] (v.toList ++ []) M' X' := by
  refine Eq.trans (rl_istore (j := 4) (ls' := [some (am_P (13, n, 0)), some (am_I x1), some (am_I x2), some (am_I x3), some (am_I s0), x5, x6]) (by decide +kernel) rfl rfl) ?_
  refine Eq.trans (rl_aloadn (j := 0) (by decide +kernel) rfl) ?_
  refine Eq.trans (rl_iload (j := 4) (by decide +kernel) rfl) ?_
  refine Eq.trans (rl_inv (ix := 168) (n := 1) (o := 5) 37 [am_I s0] [] (by decide +kernel) (by decide +kernel) (by decide +kernel) (by decide +kernel) ⟨rfl, rfl⟩ rfl rfl (ck13 hn)) ?_
  rfl
theorem b49_34 {n : Nat} {x1 x2 x3 x4 s0 : Int32} {x5 x6 : Option am_V} {M : am_M} {w : am_W4} (hn : n < 12) : am_rn call 49 34 [some (am_P (13, n, 0)), some (am_I x1), some (am_I x2), some (am_I x3), some (am_I x4), x5, x6] [am_I s0] M (am_Z w) = if s0 = 0 then am_rn call 49 134 [some (am_P (13, n, 0)), some (am_I x1), some (am_I x2), some (am_I x3), some (am_I x4), x5, x6] [] M (am_Z w) else if am_in x3 6 then am_cb (call 18 [am_P (21, n, x3.toNatClampNeg), am_I x2] M (am_Z w)) fun v M' X' => am_rn call 49 47 [some (am_P (13, n, 0)), some (am_I x1), some (am_I x2), some (am_I x3), some (am_I x4), x5, x6] (v.toList ++ []) M' X' else none := by
  refine Eq.trans (rl_ifeq (o := 100) 134 (by decide +kernel) (by decide)) ?_
  refine am_ite (fun h_1 => ?_) (fun h_1 => ?_)
  · skip
    rfl
  · skip
    refine Eq.trans (rl_aloadn (j := 0) (by decide +kernel) rfl) ?_
    refine Eq.trans (rl_getP (ix := 11) (ci := 5) (j := 2) (by decide +kernel) (by decide +kernel) (by decide +kernel) (ck13 hn) rfl) ?_
    refine Eq.trans (rl_iloadn (j := 3) (by decide +kernel) rfl) ?_
    refine Eq.trans (rl_aald (v := (21, n, x3.toNatClampNeg)) (by decide +kernel) (ka14 hn) (fun h => if_pos (am_in_lt' h))) ?_
    refine am_ite (fun h_2 => ?_) (fun _ => rfl)
    refine Eq.trans (rl_iloadn (j := 2) (by decide +kernel) rfl) ?_
    refine Eq.trans (rl_inv (ix := 190) (n := 1) (o := 2) 18 [am_I x2] [] (by decide +kernel) (by decide +kernel) (by decide +kernel) (by decide +kernel) ⟨rfl, rfl⟩ rfl rfl (ck21 hn (am_in_lt' h_2))) ?_
    rfl
theorem b49_47 {n : Nat} {x1 x2 x3 x4 s0 : Int32} {x5 x6 : Option am_V} {M : am_M} {w : am_W4} (hn : n < 12) : am_rn call 49 47 [some (am_P (13, n, 0)), some (am_I x1), some (am_I x2), some (am_I x3), some (am_I x4), x5, x6] [am_I s0] M (am_Z w) = if s0 = 0 then if am_in x4 16 then am_cb (call 31 [am_P (24, n, x4.toNatClampNeg), am_I x3] M (am_Z w)) fun v M' X' => am_rn call 49 61 [some (am_P (13, n, 0)), some (am_I x1), some (am_I x2), some (am_I x3), some (am_I x4), x5, x6] (v.toList ++ []) M' X' else none else am_rn call 49 134 [some (am_P (13, n, 0)), some (am_I x1), some (am_I x2), some (am_I x3), some (am_I x4), x5, x6] [] M (am_Z w) := by
  refine Eq.trans (rl_ifne (o := 87) 134 (by decide +kernel) (by decide)) ?_
  refine am_ite (fun h_1 => ?_) (fun h_1 => ?_)
  · skip
    refine Eq.trans (rl_aloadn (j := 0) (by decide +kernel) rfl) ?_
    refine Eq.trans (rl_getP (ix := 29) (ci := 5) (j := 6) (by decide +kernel) (by decide +kernel) (by decide +kernel) (ck13 hn) rfl) ?_
    refine Eq.trans (rl_iload (j := 4) (by decide +kernel) rfl) ?_
    refine Eq.trans (rl_aald (v := (24, n, x4.toNatClampNeg)) (by decide +kernel) (ka17 hn) (fun h => if_pos (am_in_lt' h))) ?_
    refine am_ite (fun h_2 => ?_) (fun _ => rfl)
    refine Eq.trans (rl_iloadn (j := 3) (by decide +kernel) rfl) ?_
    refine Eq.trans (rl_inv (ix := 193) (n := 1) (o := 4) 31 [am_I x3] [] (by decide +kernel) (by decide +kernel) (by decide +kernel) (by decide +kernel) ⟨rfl, rfl⟩ rfl rfl (ck24 hn (am_in_lt' h_2))) ?_
    rfl
  · skip
    rfl
theorem b49_61 {n : Nat} {x1 x2 x3 x4 s0 : Int32} {x5 x6 : Option am_V} {M : am_M} {w : am_W4} (hn : n < 12) : am_rn call 49 61 [some (am_P (13, n, 0)), some (am_I x1), some (am_I x2), some (am_I x3), some (am_I x4), x5, x6] [am_I s0] M (am_Z w) = if ((x1 >>> (s0 &&& 31)) &&& (nI 1)) = 0 then am_rn call 49 77 [some (am_P (13, n, 0)), some (am_I x1), some (am_I x2), some (am_I x3), some (am_I x4), some (am_I s0), x6] [am_I (nI 1)] M (am_Z w) else am_rn call 49 77 [some (am_P (13, n, 0)), some (am_I x1), some (am_I x2), some (am_I x3), some (am_I x4), some (am_I s0), x6] [am_I (nI 0)] M (am_Z w) := by
  refine Eq.trans (rl_istore (j := 5) (ls' := [some (am_P (13, n, 0)), some (am_I x1), some (am_I x2), some (am_I x3), some (am_I x4), some (am_I s0), x6]) (by decide +kernel) rfl rfl) ?_
  refine Eq.trans (rl_iloadn (j := 1) (by decide +kernel) rfl) ?_
  refine Eq.trans (rl_iload (j := 5) (by decide +kernel) rfl) ?_
  refine Eq.trans (rl_ishr (by decide +kernel)) ?_
  refine Eq.trans (rl_iconst (c := 1) (k := (nI 1)) (by decide +kernel) (by decide)) ?_
  refine Eq.trans (rl_iand (by decide +kernel)) ?_
  refine Eq.trans (rl_ifne (o := 7) 76 (by decide +kernel) (by decide)) ?_
  refine am_ite (fun h_1 => ?_) (fun h_1 => ?_)
  · skip
    refine Eq.trans (rl_iconst (c := 1) (k := (nI 1)) (by decide +kernel) (by decide)) ?_
    refine Eq.trans (rl_goto (o := 4) 77 (by decide +kernel) (by decide)) ?_
    rfl
  · skip
    refine Eq.trans (rl_iconst (c := 0) (k := (nI 0)) (by decide +kernel) (by decide)) ?_
    rfl
theorem b49_77 {n : Nat} {x1 x2 x3 x4 x5 s0 : Int32} {x6 : Option am_V} {M : am_M} {w : am_W4} (hn : n < 12) : am_rn call 49 77 [some (am_P (13, n, 0)), some (am_I x1), some (am_I x2), some (am_I x3), some (am_I x4), some (am_I x5), x6] [am_I s0] M (am_Z w) = if am_in x3 6 then if am_in x4 16 then if s0 = 0 then am_rn call 49 130 [some (am_P (13, n, 0)), some (am_I (x1 ||| ((nI 1) <<< (x5 &&& 31)))), some (am_I x2), some (am_I x3), some (am_I x4), some (am_I x5), some (am_I s0)] [am_I x5, am_P (24, n, x4.toNatClampNeg), am_P (13, n, 0)] (am_set M (21, n, x3.toNatClampNeg) 4 ((M (21, n, x3.toNatClampNeg) 4) + (nI 1))) (am_Z w) else am_cb (call 55 [am_P (13, n, 0), am_I x3, am_I x5] (am_set M (21, n, x3.toNatClampNeg) 4 ((M (21, n, x3.toNatClampNeg) 4) + (nI 1))) (am_Z w)) fun v M' X' => am_rn call 49 123 [some (am_P (13, n, 0)), some (am_I (x1 ||| ((nI 1) <<< (x5 &&& 31)))), some (am_I x2), some (am_I x3), some (am_I x4), some (am_I x5), some (am_I s0)] (v.toList ++ [am_I x5, am_P (24, n, x4.toNatClampNeg), am_P (13, n, 0)]) M' X' else none else none := by
  refine Eq.trans (rl_istore (j := 6) (ls' := [some (am_P (13, n, 0)), some (am_I x1), some (am_I x2), some (am_I x3), some (am_I x4), some (am_I x5), some (am_I s0)]) (by decide +kernel) rfl rfl) ?_
  refine Eq.trans (rl_iloadn (j := 1) (by decide +kernel) rfl) ?_
  refine Eq.trans (rl_iconst (c := 1) (k := (nI 1)) (by decide +kernel) (by decide)) ?_
  refine Eq.trans (rl_iload (j := 5) (by decide +kernel) rfl) ?_
  refine Eq.trans (rl_ishl (by decide +kernel)) ?_
  refine Eq.trans (rl_ior (by decide +kernel)) ?_
  refine Eq.trans (rl_istoren (j := 1) (ls' := [some (am_P (13, n, 0)), some (am_I (x1 ||| ((nI 1) <<< (x5 &&& 31)))), some (am_I x2), some (am_I x3), some (am_I x4), some (am_I x5), some (am_I s0)]) (by decide +kernel) rfl rfl) ?_
  refine Eq.trans (rl_aloadn (j := 0) (by decide +kernel) rfl) ?_
  refine Eq.trans (rl_getP (ix := 11) (ci := 5) (j := 2) (by decide +kernel) (by decide +kernel) (by decide +kernel) (ck13 hn) rfl) ?_
  refine Eq.trans (rl_iloadn (j := 3) (by decide +kernel) rfl) ?_
  refine Eq.trans (rl_aald (v := (21, n, x3.toNatClampNeg)) (by decide +kernel) (ka14 hn) (fun h => if_pos (am_in_lt' h))) ?_
  refine am_ite (fun h_1 => ?_) (fun _ => rfl)
  refine Eq.trans (rl_dup (by decide +kernel) rfl) ?_
  refine Eq.trans (rl_get (ix := 196) (ci := 2) (j := 4) (by decide +kernel) (by decide +kernel) (by decide +kernel) (ck21 hn (am_in_lt' h_1))) ?_
  refine Eq.trans (rl_iconst (c := 1) (k := (nI 1)) (by decide +kernel) (by decide)) ?_
  refine Eq.trans (rl_iadd (by decide +kernel)) ?_
  refine Eq.trans (rl_put (ix := 196) (ci := 2) (j := 4) (by decide +kernel) (by decide +kernel) (by decide +kernel) (by decide +kernel) (ck21 hn (am_in_lt' h_1))) ?_
  refine Eq.trans (rl_aloadn (j := 0) (by decide +kernel) rfl) ?_
  refine Eq.trans (rl_aloadn (j := 0) (by decide +kernel) rfl) ?_
  refine Eq.trans (rl_getP (ix := 29) (ci := 5) (j := 6) (by decide +kernel) (by decide +kernel) (by decide +kernel) (ck13 hn) rfl) ?_
  refine Eq.trans (rl_iload (j := 4) (by decide +kernel) rfl) ?_
  refine Eq.trans (rl_aald (v := (24, n, x4.toNatClampNeg)) (by decide +kernel) (ka17 hn) (fun h => if_pos (am_in_lt' h))) ?_
  refine am_ite (fun h_2 => ?_) (fun _ => rfl)
  refine Eq.trans (rl_iload (j := 5) (by decide +kernel) rfl) ?_
  refine Eq.trans (rl_iload (j := 6) (by decide +kernel) rfl) ?_
  refine Eq.trans (rl_ifeq (o := 17) 130 (by decide +kernel) (by decide)) ?_
  refine am_ite (fun h_3 => ?_) (fun h_3 => ?_)
  · skip
    rfl
  · skip
    refine Eq.trans (rl_aloadn (j := 0) (by decide +kernel) rfl) ?_
    refine Eq.trans (rl_iloadn (j := 3) (by decide +kernel) rfl) ?_
    refine Eq.trans (rl_iload (j := 5) (by decide +kernel) rfl) ?_
    refine Eq.trans (rl_inv (ix := 199) (n := 2) (o := 5) 55 [am_I x3, am_I x5] [am_I x5, am_P (24, n, x4.toNatClampNeg), am_P (13, n, 0)] (by decide +kernel) (by decide +kernel) (by decide +kernel) (by decide +kernel) ⟨rfl, rfl⟩ rfl rfl (ck13 hn)) ?_
    rfl
theorem b49_123 {n s2 : Nat} {x1 x2 x3 x4 x5 x6 s0 s1 : Int32} {M : am_M} {w : am_W4} (hn : n < 12) (hs2 : s2 < 16) : am_rn call 49 123 [some (am_P (13, n, 0)), some (am_I x1), some (am_I x2), some (am_I x3), some (am_I x4), some (am_I x5), some (am_I x6)] [am_I s0, am_I s1, am_P (24, n, s2), am_P (13, n, 0)] M (am_Z w) = if s0 = 0 then am_rn call 49 130 [some (am_P (13, n, 0)), some (am_I x1), some (am_I x2), some (am_I x3), some (am_I x4), some (am_I x5), some (am_I x6)] [am_I s1, am_P (24, n, s2), am_P (13, n, 0)] M (am_Z w) else am_rn call 49 131 [some (am_P (13, n, 0)), some (am_I x1), some (am_I x2), some (am_I x3), some (am_I x4), some (am_I x5), some (am_I x6)] [am_I (nI 1), am_I s1, am_P (24, n, s2), am_P (13, n, 0)] M (am_Z w) := by
  refine Eq.trans (rl_ifeq (o := 7) 130 (by decide +kernel) (by decide)) ?_
  refine am_ite (fun h_1 => ?_) (fun h_1 => ?_)
  · skip
    rfl
  · skip
    refine Eq.trans (rl_iconst (c := 1) (k := (nI 1)) (by decide +kernel) (by decide)) ?_
    refine Eq.trans (rl_goto (o := 4) 131 (by decide +kernel) (by decide)) ?_
    rfl
theorem b49_130 {n s1 : Nat} {x1 x2 x3 x4 x5 x6 s0 : Int32} {M : am_M} {w : am_W4} (hn : n < 12) (hs1 : s1 < 16) : am_rn call 49 130 [some (am_P (13, n, 0)), some (am_I x1), some (am_I x2), some (am_I x3), some (am_I x4), some (am_I x5), some (am_I x6)] [am_I s0, am_P (24, n, s1), am_P (13, n, 0)] M (am_Z w) = am_rn call 49 131 [some (am_P (13, n, 0)), some (am_I x1), some (am_I x2), some (am_I x3), some (am_I x4), some (am_I x5), some (am_I x6)] [am_I (nI 0), am_I s0, am_P (24, n, s1), am_P (13, n, 0)] M (am_Z w) := by
  refine Eq.trans (rl_iconst (c := 0) (k := (nI 0)) (by decide +kernel) (by decide)) ?_
  rfl
theorem b49_131 {n s2 : Nat} {x1 x2 x3 x4 x5 x6 s0 s1 : Int32} {M : am_M} {w : am_W4} (hn : n < 12) (hs2 : s2 < 16) : am_rn call 49 131 [some (am_P (13, n, 0)), some (am_I x1), some (am_I x2), some (am_I x3), some (am_I x4), some (am_I x5), some (am_I x6)] [am_I s0, am_I s1, am_P (24, n, s2), am_P (13, n, 0)] M (am_Z w) = am_cb (call 50 [am_P (13, n, 0), am_P (24, n, s2), am_I s1, am_I s0] M (am_Z w)) fun v M' X' => am_rn call 49 134 [some (am_P (13, n, 0)), some (am_I x1), some (am_I x2), some (am_I x3), some (am_I x4), some (am_I x5), some (am_I x6)] (v.toList ++ []) M' X' := by
  refine Eq.trans (rl_inv (ix := 203) (n := 3) (o := 5) 50 [am_P (24, n, s2), am_I s1, am_I s0] [] (by decide +kernel) (by decide +kernel) (by decide +kernel) (by decide +kernel) ⟨rfl, rfl⟩ rfl rfl (ck13 hn)) ?_
  rfl
theorem b49_134 {n : Nat} {x1 x2 x3 x4 : Int32} {x5 x6 : Option am_V} {M : am_M} {w : am_W4} (hn : n < 12) : am_rn call 49 134 [some (am_P (13, n, 0)), some (am_I x1), some (am_I x2), some (am_I x3), some (am_I x4), x5, x6] [] M (am_Z w) = am_rn call 49 9 [some (am_P (13, n, 0)), some (am_I x1), some (am_I x2), some (am_I (x3 + (nI 1))), some (am_I x4), x5, x6] [] M (am_Z w) := by
  refine Eq.trans (rl_iinc (j := 3) (c := 1) (k := (nI 1)) (ls' := [some (am_P (13, n, 0)), some (am_I x1), some (am_I x2), some (am_I (x3 + (nI 1))), some (am_I x4), x5, x6]) (by decide +kernel) (by decide) rfl rfl) ?_
  refine Eq.trans (rl_goto (o := (-128)) 9 (by decide +kernel) (by decide)) ?_
  rfl
theorem b49_142 {n : Nat} {x1 x2 x3 : Int32} {x4 x5 x6 : Option am_V} {M : am_M} {w : am_W4} (hn : n < 12) : am_rn call 49 142 [some (am_P (13, n, 0)), some (am_I x1), some (am_I x2), some (am_I x3), x4, x5, x6] [] M (am_Z w) = if x3 < (M (13, n, 0) 1) then if am_in x3 6 then am_cb (call 228 [am_P (21, n, x3.toNatClampNeg)] M (am_Z w)) fun v M' X' => am_rn call 49 159 [some (am_P (13, n, 0)), some (am_I x1), some (am_I x2), some (am_I x3), x4, x5, x6] (v.toList ++ []) M' X' else none else am_cb (call 53 [am_P (13, n, 0)] M (am_Z w)) fun v M' X' => am_rn call 49 207 [some (am_P (13, n, 0)), some (am_I x1), some (am_I x2), some (am_I x3), x4, x5, x6] (v.toList ++ []) M' X' := by
  refine Eq.trans (rl_iloadn (j := 3) (by decide +kernel) rfl) ?_
  refine Eq.trans (rl_aloadn (j := 0) (by decide +kernel) rfl) ?_
  refine Eq.trans (rl_get (ix := 46) (ci := 5) (j := 1) (by decide +kernel) (by decide +kernel) (by decide +kernel) (ck13 hn)) ?_
  refine Eq.trans (rl_icge (o := 56) 203 (by decide +kernel) (by decide)) ?_
  refine am_ite (fun h_1 => ?_) (fun h_1 => ?_)
  · skip
    refine Eq.trans (rl_aloadn (j := 0) (by decide +kernel) rfl) ?_
    refine Eq.trans (rl_getP (ix := 11) (ci := 5) (j := 2) (by decide +kernel) (by decide +kernel) (by decide +kernel) (ck13 hn) rfl) ?_
    refine Eq.trans (rl_iloadn (j := 3) (by decide +kernel) rfl) ?_
    refine Eq.trans (rl_aald (v := (21, n, x3.toNatClampNeg)) (by decide +kernel) (ka14 hn) (fun h => if_pos (am_in_lt' h))) ?_
    refine am_ite (fun h_2 => ?_) (fun _ => rfl)
    refine Eq.trans (rl_inv (ix := 187) (n := 0) (o := 2) 228 [] [] (by decide +kernel) (by decide +kernel) (by decide +kernel) (by decide +kernel) ⟨rfl, rfl⟩ rfl rfl (ck21 hn (am_in_lt' h_2))) ?_
    rfl
  · skip
    refine Eq.trans (rl_aloadn (j := 0) (by decide +kernel) rfl) ?_
    refine Eq.trans (rl_inv (ix := 215) (n := 0) (o := 5) 53 [] [] (by decide +kernel) (by decide +kernel) (by decide +kernel) (by decide +kernel) ⟨rfl, rfl⟩ rfl rfl (ck13 hn)) ?_
    rfl
theorem b49_159 {n : Nat} {x1 x2 x3 s0 : Int32} {x4 x5 x6 : Option am_V} {M : am_M} {w : am_W4} (hn : n < 12) : am_rn call 49 159 [some (am_P (13, n, 0)), some (am_I x1), some (am_I x2), some (am_I x3), x4, x5, x6] [am_I s0] M (am_Z w) = am_cb (call 37 [am_P (13, n, 0), am_I s0] M (am_Z w)) fun v M' X' => am_rn call 49 167 [some (am_P (13, n, 0)), some (am_I x1), some (am_I x2), some (am_I x3), some (am_I s0), x5, x6] (v.toList ++ []) M' X' := by
  refine Eq.trans (rl_istore (j := 4) (ls' := [some (am_P (13, n, 0)), some (am_I x1), some (am_I x2), some (am_I x3), some (am_I s0), x5, x6]) (by decide +kernel) rfl rfl) ?_
  refine Eq.trans (rl_aloadn (j := 0) (by decide +kernel) rfl) ?_
  refine Eq.trans (rl_iload (j := 4) (by decide +kernel) rfl) ?_
  refine Eq.trans (rl_inv (ix := 168) (n := 1) (o := 5) 37 [am_I s0] [] (by decide +kernel) (by decide +kernel) (by decide +kernel) (by decide +kernel) ⟨rfl, rfl⟩ rfl rfl (ck13 hn)) ?_
  rfl
theorem b49_167 {n : Nat} {x1 x2 x3 x4 s0 : Int32} {x5 x6 : Option am_V} {M : am_M} {w : am_W4} (hn : n < 12) : am_rn call 49 167 [some (am_P (13, n, 0)), some (am_I x1), some (am_I x2), some (am_I x3), some (am_I x4), x5, x6] [am_I s0] M (am_Z w) = if s0 = 0 then am_rn call 49 197 [some (am_P (13, n, 0)), some (am_I x1), some (am_I x2), some (am_I x3), some (am_I x4), x5, x6] [] M (am_Z w) else if am_in x4 16 then am_cb (call 29 [am_P (24, n, x4.toNatClampNeg)] M (am_Z w)) fun v M' X' => am_rn call 49 180 [some (am_P (13, n, 0)), some (am_I x1), some (am_I x2), some (am_I x3), some (am_I x4), x5, x6] (v.toList ++ []) M' X' else none := by
  refine Eq.trans (rl_ifeq (o := 30) 197 (by decide +kernel) (by decide)) ?_
  refine am_ite (fun h_1 => ?_) (fun h_1 => ?_)
  · skip
    rfl
  · skip
    refine Eq.trans (rl_aloadn (j := 0) (by decide +kernel) rfl) ?_
    refine Eq.trans (rl_getP (ix := 29) (ci := 5) (j := 6) (by decide +kernel) (by decide +kernel) (by decide +kernel) (ck13 hn) rfl) ?_
    refine Eq.trans (rl_iload (j := 4) (by decide +kernel) rfl) ?_
    refine Eq.trans (rl_aald (v := (24, n, x4.toNatClampNeg)) (by decide +kernel) (ka17 hn) (fun h => if_pos (am_in_lt' h))) ?_
    refine am_ite (fun h_2 => ?_) (fun _ => rfl)
    refine Eq.trans (rl_inv (ix := 207) (n := 0) (o := 4) 29 [] [] (by decide +kernel) (by decide +kernel) (by decide +kernel) (by decide +kernel) ⟨rfl, rfl⟩ rfl rfl (ck24 hn (am_in_lt' h_2))) ?_
    rfl
theorem b49_180 {n : Nat} {x1 x2 x3 x4 s0 : Int32} {x5 x6 : Option am_V} {M : am_M} {w : am_W4} (hn : n < 12) : am_rn call 49 180 [some (am_P (13, n, 0)), some (am_I x1), some (am_I x2), some (am_I x3), some (am_I x4), x5, x6] [am_I s0] M (am_Z w) = if s0 = 0 then am_rn call 49 197 [some (am_P (13, n, 0)), some (am_I x1), some (am_I x2), some (am_I x3), some (am_I x4), x5, x6] [] M (am_Z w) else if am_in x4 16 then am_cb (call 51 [am_P (13, n, 0), am_P (24, n, x4.toNatClampNeg), am_I x4, am_I x3] M (am_Z w)) fun v M' X' => am_rn call 49 197 [some (am_P (13, n, 0)), some (am_I x1), some (am_I x2), some (am_I x3), some (am_I x4), x5, x6] (v.toList ++ []) M' X' else none := by
  refine Eq.trans (rl_ifeq (o := 17) 197 (by decide +kernel) (by decide)) ?_
  refine am_ite (fun h_1 => ?_) (fun h_1 => ?_)
  · skip
    rfl
  · skip
    refine Eq.trans (rl_aloadn (j := 0) (by decide +kernel) rfl) ?_
    refine Eq.trans (rl_aloadn (j := 0) (by decide +kernel) rfl) ?_
    refine Eq.trans (rl_getP (ix := 29) (ci := 5) (j := 6) (by decide +kernel) (by decide +kernel) (by decide +kernel) (ck13 hn) rfl) ?_
    refine Eq.trans (rl_iload (j := 4) (by decide +kernel) rfl) ?_
    refine Eq.trans (rl_aald (v := (24, n, x4.toNatClampNeg)) (by decide +kernel) (ka17 hn) (fun h => if_pos (am_in_lt' h))) ?_
    refine am_ite (fun h_2 => ?_) (fun _ => rfl)
    refine Eq.trans (rl_iload (j := 4) (by decide +kernel) rfl) ?_
    refine Eq.trans (rl_iloadn (j := 3) (by decide +kernel) rfl) ?_
    refine Eq.trans (rl_inv (ix := 211) (n := 3) (o := 5) 51 [am_P (24, n, x4.toNatClampNeg), am_I x4, am_I x3] [] (by decide +kernel) (by decide +kernel) (by decide +kernel) (by decide +kernel) ⟨rfl, rfl⟩ rfl rfl (ck13 hn)) ?_
    rfl
theorem b49_197 {n : Nat} {x1 x2 x3 x4 : Int32} {x5 x6 : Option am_V} {M : am_M} {w : am_W4} (hn : n < 12) : am_rn call 49 197 [some (am_P (13, n, 0)), some (am_I x1), some (am_I x2), some (am_I x3), some (am_I x4), x5, x6] [] M (am_Z w) = am_rn call 49 142 [some (am_P (13, n, 0)), some (am_I x1), some (am_I x2), some (am_I (x3 + (nI 1))), some (am_I x4), x5, x6] [] M (am_Z w) := by
  refine Eq.trans (rl_iinc (j := 3) (c := 1) (k := (nI 1)) (ls' := [some (am_P (13, n, 0)), some (am_I x1), some (am_I x2), some (am_I (x3 + (nI 1))), some (am_I x4), x5, x6]) (by decide +kernel) (by decide) rfl rfl) ?_
  refine Eq.trans (rl_goto (o := (-58)) 142 (by decide +kernel) (by decide)) ?_
  rfl
theorem b49_207 {n : Nat} {x1 x2 x3 : Int32} {x4 x5 x6 : Option am_V} {M : am_M} {w : am_W4} (hn : n < 12) : am_rn call 49 207 [some (am_P (13, n, 0)), some (am_I x1), some (am_I x2), some (am_I x3), x4, x5, x6] [] M (am_Z w) = some (.inl none, M, (am_Z w)) := by
  exact rl_ret (by decide +kernel) rfl
theorem e49 {d : Nat} {n : Nat} {M : am_M} {w : am_W4} (hn : n < 12) : am_ev (d + 1) 49 [am_P (13, n, 0)] M (am_Z w) = am_cb ((am_ev d) 38 [am_P (13, n, 0)] M (am_Z w)) fun v M' X' => am_rn (am_ev d) 49 6 [some (am_P (13, n, 0)), some (am_I (nI 0)), none, none, none, none, none] (v.toList ++ []) M' X' := (am_ev_eq d 49 _ M (am_Z w)).trans (b49_0 hn)
theorem b50_0 {n k1 : Nat} {x2 x3 : Int32} {M : am_M} {w : am_W4} (hn : n < 12) (hk1 : k1 < 16) : am_rn call 50 0 [some (am_P (13, n, 0)), some (am_P (24, n, k1)), some (am_I x2), some (am_I x3), none] [] M (am_Z w) = am_cb (call 30 [am_P (24, n, k1)] M (am_Z w)) fun v M' X' => am_rn call 50 4 [some (am_P (13, n, 0)), some (am_P (24, n, k1)), some (am_I x2), some (am_I x3), none] (v.toList ++ []) M' X' := by
  refine Eq.trans (rl_aloadn (j := 1) (by decide +kernel) rfl) ?_
  refine Eq.trans (rl_inv (ix := 218) (n := 0) (o := 4) 30 [] [] (by decide +kernel) (by decide +kernel) (by decide +kernel) (by decide +kernel) ⟨rfl, rfl⟩ rfl rfl (ck24 hn hk1)) ?_
  rfl
theorem b50_4 {n k1 : Nat} {x2 x3 s0 : Int32} {M : am_M} {w : am_W4} (hn : n < 12) (hk1 : k1 < 16) : am_rn call 50 4 [some (am_P (13, n, 0)), some (am_P (24, n, k1)), some (am_I x2), some (am_I x3), none] [am_I s0] M (am_Z w) = am_rn call 50 16 [some (am_P (13, n, 0)), some (am_P (24, n, k1)), some (am_I x2), some (am_I x3), some (am_I s0)] [] (am_set M (24, n, k1) 6 ((M (24, n, k1) 6) + (nI 1))) (am_Z w) := by
  refine Eq.trans (rl_istore (j := 4) (ls' := [some (am_P (13, n, 0)), some (am_P (24, n, k1)), some (am_I x2), some (am_I x3), some (am_I s0)]) (by decide +kernel) rfl rfl) ?_
  refine Eq.trans (rl_aloadn (j := 1) (by decide +kernel) rfl) ?_
  refine Eq.trans (rl_dup (by decide +kernel) rfl) ?_
  refine Eq.trans (rl_get (ix := 221) (ci := 4) (j := 6) (by decide +kernel) (by decide +kernel) (by decide +kernel) (ck24 hn hk1)) ?_
  refine Eq.trans (rl_iconst (c := 1) (k := (nI 1)) (by decide +kernel) (by decide)) ?_
  refine Eq.trans (rl_iadd (by decide +kernel)) ?_
  refine Eq.trans (rl_put (ix := 221) (ci := 4) (j := 6) (by decide +kernel) (by decide +kernel) (by decide +kernel) (by decide +kernel) (ck24 hn hk1)) ?_
  rfl
theorem b50_16 {n k1 : Nat} {x2 x3 x4 : Int32} {M : am_M} {w : am_W4} (hn : n < 12) (hk1 : k1 < 16) : am_rn call 50 16 [some (am_P (13, n, 0)), some (am_P (24, n, k1)), some (am_I x2), some (am_I x3), some (am_I x4)] [] M (am_Z w) = if (M (24, n, k1) 7) = 0 then am_rn call 50 32 [some (am_P (13, n, 0)), some (am_P (24, n, k1)), some (am_I x2), some (am_I x3), some (am_I x4)] [am_P (24, n, k1)] M (am_Z w) else if x3 = 0 then am_rn call 50 32 [some (am_P (13, n, 0)), some (am_P (24, n, k1)), some (am_I x2), some (am_I x3), some (am_I x4)] [am_P (24, n, k1)] M (am_Z w) else am_rn call 50 33 [some (am_P (13, n, 0)), some (am_P (24, n, k1)), some (am_I x2), some (am_I x3), some (am_I x4)] [am_I (nI 1), am_P (24, n, k1)] M (am_Z w) := by
  refine Eq.trans (rl_aloadn (j := 1) (by decide +kernel) rfl) ?_
  refine Eq.trans (rl_aloadn (j := 1) (by decide +kernel) rfl) ?_
  refine Eq.trans (rl_get (ix := 222) (ci := 4) (j := 7) (by decide +kernel) (by decide +kernel) (by decide +kernel) (ck24 hn hk1)) ?_
  refine Eq.trans (rl_ifeq (o := 11) 32 (by decide +kernel) (by decide)) ?_
  refine am_ite (fun h_1 => ?_) (fun h_1 => ?_)
  · skip
    rfl
  · skip
    refine Eq.trans (rl_iloadn (j := 3) (by decide +kernel) rfl) ?_
    refine Eq.trans (rl_ifeq (o := 7) 32 (by decide +kernel) (by decide)) ?_
    refine am_ite (fun h_2 => ?_) (fun h_2 => ?_)
    · skip
      rfl
    · skip
      refine Eq.trans (rl_iconst (c := 1) (k := (nI 1)) (by decide +kernel) (by decide)) ?_
      refine Eq.trans (rl_goto (o := 4) 33 (by decide +kernel) (by decide)) ?_
      rfl
theorem b50_32 {n k1 : Nat} {x2 x3 x4 : Int32} {M : am_M} {w : am_W4} (hn : n < 12) (hk1 : k1 < 16) : am_rn call 50 32 [some (am_P (13, n, 0)), some (am_P (24, n, k1)), some (am_I x2), some (am_I x3), some (am_I x4)] [am_P (24, n, k1)] M (am_Z w) = am_rn call 50 33 [some (am_P (13, n, 0)), some (am_P (24, n, k1)), some (am_I x2), some (am_I x3), some (am_I x4)] [am_I (nI 0), am_P (24, n, k1)] M (am_Z w) := by
  refine Eq.trans (rl_iconst (c := 0) (k := (nI 0)) (by decide +kernel) (by decide)) ?_
  rfl
theorem b50_33 {n k1 : Nat} {x2 x3 x4 s0 : Int32} {M : am_M} {w : am_W4} (hn : n < 12) (hk1 : k1 < 16) : am_rn call 50 33 [some (am_P (13, n, 0)), some (am_P (24, n, k1)), some (am_I x2), some (am_I x3), some (am_I x4)] [am_I s0, am_P (24, n, k1)] M (am_Z w) = if am_pc 1 s0 = true then am_rn call 50 36 [some (am_P (13, n, 0)), some (am_P (24, n, k1)), some (am_I x2), some (am_I x3), some (am_I x4)] [] (am_set M (24, n, k1) 7 s0) (am_Z w) else none := by
  refine Eq.trans (rl_putZ (ix := 222) (ci := 4) (j := 7) (by decide +kernel) (by decide +kernel) (by decide +kernel) (by decide +kernel) (ck24 hn hk1)) ?_
  refine am_ite (fun h_1 => ?_) (fun _ => rfl)
  rfl
theorem b50_36 {n k1 : Nat} {x2 x3 x4 : Int32} {M : am_M} {w : am_W4} (hn : n < 12) (hk1 : k1 < 16) : am_rn call 50 36 [some (am_P (13, n, 0)), some (am_P (24, n, k1)), some (am_I x2), some (am_I x3), some (am_I x4)] [] M (am_Z w) = am_cb (call 230 [am_P (13, n, 0), am_I x4] M (am_Z w)) fun v M' X' => am_rn call 50 46 [some (am_P (13, n, 0)), some (am_P (24, n, k1)), some (am_I x2), some (am_I x3), some (am_I x4)] (v.toList ++ [am_I (M (24, n, k1) 6)]) M' X' := by
  refine Eq.trans (rl_aloadn (j := 1) (by decide +kernel) rfl) ?_
  refine Eq.trans (rl_get (ix := 221) (ci := 4) (j := 6) (by decide +kernel) (by decide +kernel) (by decide +kernel) (ck24 hn hk1)) ?_
  refine Eq.trans (rl_aloadn (j := 0) (by decide +kernel) rfl) ?_
  refine Eq.trans (rl_iload (j := 4) (by decide +kernel) rfl) ?_
  refine Eq.trans (rl_inv (ix := 226) (n := 1) (o := 5) 230 [am_I x4] [am_I (M (24, n, k1) 6)] (by decide +kernel) (by decide +kernel) (by decide +kernel) (by decide +kernel) ⟨rfl, rfl⟩ rfl rfl (ck13 hn)) ?_
  rfl
theorem b50_46 {n k1 : Nat} {x2 x3 x4 s0 s1 : Int32} {M : am_M} {w : am_W4} (hn : n < 12) (hk1 : k1 < 16) : am_rn call 50 46 [some (am_P (13, n, 0)), some (am_P (24, n, k1)), some (am_I x2), some (am_I x3), some (am_I x4)] [am_I s0, am_I s1] M (am_Z w) = if s1 < s0 then some (.inl none, M, (am_Z w)) else am_cb (call 231 [am_I x4] M (am_Z w)) fun v M' X' => am_rn call 50 55 [some (am_P (13, n, 0)), some (am_P (24, n, k1)), some (am_I x2), some (am_I x3), some (am_I x4)] (v.toList ++ []) M' X' := by
  refine Eq.trans (rl_icge (o := 4) 50 (by decide +kernel) (by decide)) ?_
  refine am_ite (fun h_1 => ?_) (fun h_1 => ?_)
  · skip
    exact rl_ret (by decide +kernel) rfl
  · skip
    refine Eq.trans (rl_iload (j := 4) (by decide +kernel) rfl) ?_
    refine Eq.trans (rl_invS (ix := 129) (n := 1) (k := 4) 231 [am_I x4] [] (by decide +kernel) (by decide +kernel) (by decide) (by decide +kernel) ⟨rfl, rfl⟩ rfl rfl) ?_
    rfl
theorem b50_55 {n k1 : Nat} {x2 x3 x4 s0 : Int32} {M : am_M} {w : am_W4} (hn : n < 12) (hk1 : k1 < 16) : am_rn call 50 55 [some (am_P (13, n, 0)), some (am_P (24, n, k1)), some (am_I x2), some (am_I x3), some (am_I x4)] [am_I s0] M (am_Z w) = if s0 = 0 then am_rn call 50 92 [some (am_P (13, n, 0)), some (am_P (24, n, k1)), some (am_I x2), some (am_I x3), some (am_I x4)] [] M (am_Z w) else if (M (24, n, k1) 7) = 0 then am_cb (call 229 [am_P (24, n, k1)] M (am_Z w)) fun v M' X' => am_rn call 50 69 [some (am_P (13, n, 0)), some (am_P (24, n, k1)), some (am_I x2), some (am_I x3), some (am_I x4)] (v.toList ++ []) M' X' else am_rn call 50 92 [some (am_P (13, n, 0)), some (am_P (24, n, k1)), some (am_I x2), some (am_I x3), some (am_I x4)] [] M (am_Z w) := by
  refine Eq.trans (rl_ifeq (o := 37) 92 (by decide +kernel) (by decide)) ?_
  refine am_ite (fun h_1 => ?_) (fun h_1 => ?_)
  · skip
    rfl
  · skip
    refine Eq.trans (rl_aloadn (j := 1) (by decide +kernel) rfl) ?_
    refine Eq.trans (rl_get (ix := 222) (ci := 4) (j := 7) (by decide +kernel) (by decide +kernel) (by decide +kernel) (ck24 hn hk1)) ?_
    refine Eq.trans (rl_ifne (o := 30) 92 (by decide +kernel) (by decide)) ?_
    refine am_ite (fun h_2 => ?_) (fun h_2 => ?_)
    · skip
      refine Eq.trans (rl_aloadn (j := 1) (by decide +kernel) rfl) ?_
      refine Eq.trans (rl_inv (ix := 229) (n := 0) (o := 4) 229 [] [] (by decide +kernel) (by decide +kernel) (by decide +kernel) (by decide +kernel) ⟨rfl, rfl⟩ rfl rfl (ck24 hn hk1)) ?_
      rfl
    · skip
      rfl
theorem b50_69 {n k1 : Nat} {x2 x3 x4 : Int32} {M : am_M} {w : am_W4} (hn : n < 12) (hk1 : k1 < 16) : am_rn call 50 69 [some (am_P (13, n, 0)), some (am_P (24, n, k1)), some (am_I x2), some (am_I x3), some (am_I x4)] [] M (am_Z w) = am_cb (call 35 [am_P (13, n, 0), am_I x2] M (am_Z w)) fun v M' X' => am_rn call 50 74 [some (am_P (13, n, 0)), some (am_P (24, n, k1)), some (am_I x2), some (am_I x3), some (am_I x4)] (v.toList ++ []) M' X' := by
  refine Eq.trans (rl_aloadn (j := 0) (by decide +kernel) rfl) ?_
  refine Eq.trans (rl_iloadn (j := 2) (by decide +kernel) rfl) ?_
  refine Eq.trans (rl_inv (ix := 132) (n := 1) (o := 5) 35 [am_I x2] [] (by decide +kernel) (by decide +kernel) (by decide +kernel) (by decide +kernel) ⟨rfl, rfl⟩ rfl rfl (ck13 hn)) ?_
  rfl
theorem b50_74 {n k1 : Nat} {x2 x3 x4 s0 : Int32} {M : am_M} {w : am_W4} (hn : n < 12) (hk1 : k1 < 16) : am_rn call 50 74 [some (am_P (13, n, 0)), some (am_P (24, n, k1)), some (am_I x2), some (am_I x3), some (am_I x4)] [am_I s0] M (am_Z w) = if s0 = 0 then am_rn call 50 92 [some (am_P (13, n, 0)), some (am_P (24, n, k1)), some (am_I x2), some (am_I x3), some (am_I x4)] [] M (am_Z w) else if am_in x2 6 then am_rn call 50 92 [some (am_P (13, n, 0)), some (am_P (24, n, k1)), some (am_I x2), some (am_I x3), some (am_I x4)] [] (am_set M (21, n, x2.toNatClampNeg) 5 ((M (21, n, x2.toNatClampNeg) 5) + (nI 1))) (am_Z w) else none := by
  refine Eq.trans (rl_ifeq (o := 18) 92 (by decide +kernel) (by decide)) ?_
  refine am_ite (fun h_1 => ?_) (fun h_1 => ?_)
  · skip
    rfl
  · skip
    refine Eq.trans (rl_aloadn (j := 0) (by decide +kernel) rfl) ?_
    refine Eq.trans (rl_getP (ix := 11) (ci := 5) (j := 2) (by decide +kernel) (by decide +kernel) (by decide +kernel) (ck13 hn) rfl) ?_
    refine Eq.trans (rl_iloadn (j := 2) (by decide +kernel) rfl) ?_
    refine Eq.trans (rl_aald (v := (21, n, x2.toNatClampNeg)) (by decide +kernel) (ka14 hn) (fun h => if_pos (am_in_lt' h))) ?_
    refine am_ite (fun h_2 => ?_) (fun _ => rfl)
    refine Eq.trans (rl_dup (by decide +kernel) rfl) ?_
    refine Eq.trans (rl_get (ix := 232) (ci := 2) (j := 5) (by decide +kernel) (by decide +kernel) (by decide +kernel) (ck21 hn (am_in_lt' h_2))) ?_
    refine Eq.trans (rl_iconst (c := 1) (k := (nI 1)) (by decide +kernel) (by decide)) ?_
    refine Eq.trans (rl_iadd (by decide +kernel)) ?_
    refine Eq.trans (rl_put (ix := 232) (ci := 2) (j := 5) (by decide +kernel) (by decide +kernel) (by decide +kernel) (by decide +kernel) (ck21 hn (am_in_lt' h_2))) ?_
    rfl
theorem b50_92 {n k1 : Nat} {x2 x3 x4 : Int32} {M : am_M} {w : am_W4} (hn : n < 12) (hk1 : k1 < 16) : am_rn call 50 92 [some (am_P (13, n, 0)), some (am_P (24, n, k1)), some (am_I x2), some (am_I x3), some (am_I x4)] [] M (am_Z w) = am_cb (call 28 [am_P (24, n, k1), am_I ((M (24, n, k1) 5) + (nI 1))] M (am_Z w)) fun v M' X' => am_rn call 50 102 [some (am_P (13, n, 0)), some (am_P (24, n, k1)), some (am_I x2), some (am_I x3), some (am_I x4)] (v.toList ++ []) M' X' := by
  refine Eq.trans (rl_aloadn (j := 1) (by decide +kernel) rfl) ?_
  refine Eq.trans (rl_aloadn (j := 1) (by decide +kernel) rfl) ?_
  refine Eq.trans (rl_get (ix := 235) (ci := 4) (j := 5) (by decide +kernel) (by decide +kernel) (by decide +kernel) (ck24 hn hk1)) ?_
  refine Eq.trans (rl_iconst (c := 1) (k := (nI 1)) (by decide +kernel) (by decide)) ?_
  refine Eq.trans (rl_iadd (by decide +kernel)) ?_
  refine Eq.trans (rl_inv (ix := 238) (n := 1) (o := 4) 28 [am_I ((M (24, n, k1) 5) + (nI 1))] [] (by decide +kernel) (by decide +kernel) (by decide +kernel) (by decide +kernel) ⟨rfl, rfl⟩ rfl rfl (ck24 hn hk1)) ?_
  rfl
theorem b50_102 {n k1 : Nat} {x2 x3 x4 : Int32} {M : am_M} {w : am_W4} (hn : n < 12) (hk1 : k1 < 16) : am_rn call 50 102 [some (am_P (13, n, 0)), some (am_P (24, n, k1)), some (am_I x2), some (am_I x3), some (am_I x4)] [] M (am_Z w) = some (.inl none, M, (am_Z w)) := by
  exact rl_ret (by decide +kernel) rfl
theorem e50 {d : Nat} {n k1 : Nat} {x2 x3 : Int32} {M : am_M} {w : am_W4} (hn : n < 12) (hk1 : k1 < 16) : am_ev (d + 1) 50 [am_P (13, n, 0), am_P (24, n, k1), am_I x2, am_I x3] M (am_Z w) = am_cb ((am_ev d) 30 [am_P (24, n, k1)] M (am_Z w)) fun v M' X' => am_rn (am_ev d) 50 4 [some (am_P (13, n, 0)), some (am_P (24, n, k1)), some (am_I x2), some (am_I x3), none] (v.toList ++ []) M' X' := (am_ev_eq d 50 _ M (am_Z w)).trans (b50_0 hn hk1)
theorem b51_0 {n k1 : Nat} {x2 x3 : Int32} {M : am_M} {w : am_W4} (hn : n < 12) (hk1 : k1 < 16) : am_rn call 51 0 [some (am_P (13, n, 0)), some (am_P (24, n, k1)), some (am_I x2), some (am_I x3)] [] M (am_Z w) = if am_in x3 6 then am_cb (call 20 [am_P (21, n, x3.toNatClampNeg), am_I x2] M (am_Z w)) fun v M' X' => am_rn call 51 10 [some (am_P (13, n, 0)), some (am_P (24, n, k1)), some (am_I x2), some (am_I x3)] (v.toList ++ []) M' X' else none := by
  refine Eq.trans (rl_aloadn (j := 0) (by decide +kernel) rfl) ?_
  refine Eq.trans (rl_getP (ix := 11) (ci := 5) (j := 2) (by decide +kernel) (by decide +kernel) (by decide +kernel) (ck13 hn) rfl) ?_
  refine Eq.trans (rl_iloadn (j := 3) (by decide +kernel) rfl) ?_
  refine Eq.trans (rl_aald (v := (21, n, x3.toNatClampNeg)) (by decide +kernel) (ka14 hn) (fun h => if_pos (am_in_lt' h))) ?_
  refine am_ite (fun h_1 => ?_) (fun _ => rfl)
  refine Eq.trans (rl_iloadn (j := 2) (by decide +kernel) rfl) ?_
  refine Eq.trans (rl_inv (ix := 177) (n := 1) (o := 2) 20 [am_I x2] [] (by decide +kernel) (by decide +kernel) (by decide +kernel) (by decide +kernel) ⟨rfl, rfl⟩ rfl rfl (ck21 hn (am_in_lt' h_1))) ?_
  rfl
theorem b51_10 {n k1 : Nat} {x2 x3 : Int32} {M : am_M} {w : am_W4} (hn : n < 12) (hk1 : k1 < 16) : am_rn call 51 10 [some (am_P (13, n, 0)), some (am_P (24, n, k1)), some (am_I x2), some (am_I x3)] [] M (am_Z w) = am_cb (call 31 [am_P (24, n, k1), am_I x3] M (am_Z w)) fun v M' X' => am_rn call 51 16 [some (am_P (13, n, 0)), some (am_P (24, n, k1)), some (am_I x2), some (am_I x3)] (v.toList ++ [am_P (24, n, k1)]) M' X' := by
  refine Eq.trans (rl_aloadn (j := 1) (by decide +kernel) rfl) ?_
  refine Eq.trans (rl_aloadn (j := 1) (by decide +kernel) rfl) ?_
  refine Eq.trans (rl_iloadn (j := 3) (by decide +kernel) rfl) ?_
  refine Eq.trans (rl_inv (ix := 193) (n := 1) (o := 4) 31 [am_I x3] [am_P (24, n, k1)] (by decide +kernel) (by decide +kernel) (by decide +kernel) (by decide +kernel) ⟨rfl, rfl⟩ rfl rfl (ck24 hn hk1)) ?_
  rfl
theorem b51_16 {n k1 : Nat} {x2 x3 s0 : Int32} {M : am_M} {w : am_W4} (hn : n < 12) (hk1 : k1 < 16) : am_rn call 51 16 [some (am_P (13, n, 0)), some (am_P (24, n, k1)), some (am_I x2), some (am_I x3)] [am_I s0, am_P (24, n, k1)] M (am_Z w) = am_cb (call 28 [am_P (24, n, k1), am_I (nI 0)] (am_set M (24, n, k1) 2 s0) (am_Z w)) fun v M' X' => am_rn call 51 24 [some (am_P (13, n, 0)), some (am_P (24, n, k1)), some (am_I x2), some (am_I x3)] (v.toList ++ []) M' X' := by
  refine Eq.trans (rl_put (ix := 174) (ci := 4) (j := 2) (by decide +kernel) (by decide +kernel) (by decide +kernel) (by decide +kernel) (ck24 hn hk1)) ?_
  refine Eq.trans (rl_aloadn (j := 1) (by decide +kernel) rfl) ?_
  refine Eq.trans (rl_iconst (c := 0) (k := (nI 0)) (by decide +kernel) (by decide)) ?_
  refine Eq.trans (rl_inv (ix := 238) (n := 1) (o := 4) 28 [am_I (nI 0)] [] (by decide +kernel) (by decide +kernel) (by decide +kernel) (by decide +kernel) ⟨rfl, rfl⟩ rfl rfl (ck24 hn hk1)) ?_
  rfl
theorem b51_24 {n k1 : Nat} {x2 x3 : Int32} {M : am_M} {w : am_W4} (hn : n < 12) (hk1 : k1 < 16) : am_rn call 51 24 [some (am_P (13, n, 0)), some (am_P (24, n, k1)), some (am_I x2), some (am_I x3)] [] M (am_Z w) = if (M (24, n, k1) 2) = (M (24, n, k1) 1) then am_cb (call 52 [am_P (13, n, 0), am_P (24, n, k1), am_I x2] M (am_Z w)) fun v M' X' => am_rn call 51 41 [some (am_P (13, n, 0)), some (am_P (24, n, k1)), some (am_I x2), some (am_I x3)] (v.toList ++ []) M' X' else am_cb (call 35 [am_P (13, n, 0), am_I (M (24, n, k1) 2)] M (am_Z w)) fun v M' X' => am_rn call 51 52 [some (am_P (13, n, 0)), some (am_P (24, n, k1)), some (am_I x2), some (am_I x3)] (v.toList ++ []) M' X' := by
  refine Eq.trans (rl_aloadn (j := 1) (by decide +kernel) rfl) ?_
  refine Eq.trans (rl_get (ix := 174) (ci := 4) (j := 2) (by decide +kernel) (by decide +kernel) (by decide +kernel) (ck24 hn hk1)) ?_
  refine Eq.trans (rl_aloadn (j := 1) (by decide +kernel) rfl) ?_
  refine Eq.trans (rl_get (ix := 241) (ci := 4) (j := 1) (by decide +kernel) (by decide +kernel) (by decide +kernel) (ck24 hn hk1)) ?_
  refine Eq.trans (rl_icne (o := 12) 44 (by decide +kernel) (by decide)) ?_
  refine am_ite (fun h_1 => ?_) (fun h_1 => ?_)
  · skip
    refine Eq.trans (rl_aloadn (j := 0) (by decide +kernel) rfl) ?_
    refine Eq.trans (rl_aloadn (j := 1) (by decide +kernel) rfl) ?_
    refine Eq.trans (rl_iloadn (j := 2) (by decide +kernel) rfl) ?_
    refine Eq.trans (rl_inv (ix := 244) (n := 2) (o := 5) 52 [am_P (24, n, k1), am_I x2] [] (by decide +kernel) (by decide +kernel) (by decide +kernel) (by decide +kernel) ⟨rfl, rfl⟩ rfl rfl (ck13 hn)) ?_
    rfl
  · skip
    refine Eq.trans (rl_aloadn (j := 0) (by decide +kernel) rfl) ?_
    refine Eq.trans (rl_aloadn (j := 1) (by decide +kernel) rfl) ?_
    refine Eq.trans (rl_get (ix := 174) (ci := 4) (j := 2) (by decide +kernel) (by decide +kernel) (by decide +kernel) (ck24 hn hk1)) ?_
    refine Eq.trans (rl_inv (ix := 132) (n := 1) (o := 5) 35 [am_I (M (24, n, k1) 2)] [] (by decide +kernel) (by decide +kernel) (by decide +kernel) (by decide +kernel) ⟨rfl, rfl⟩ rfl rfl (ck13 hn)) ?_
    rfl
theorem b51_41 {n k1 : Nat} {x2 x3 : Int32} {M : am_M} {w : am_W4} (hn : n < 12) (hk1 : k1 < 16) : am_rn call 51 41 [some (am_P (13, n, 0)), some (am_P (24, n, k1)), some (am_I x2), some (am_I x3)] [] M (am_Z w) = am_rn call 51 68 [some (am_P (13, n, 0)), some (am_P (24, n, k1)), some (am_I x2), some (am_I x3)] [] M (am_Z w) := by
  refine Eq.trans (rl_goto (o := 27) 68 (by decide +kernel) (by decide)) ?_
  rfl
theorem b51_52 {n k1 : Nat} {x2 x3 s0 : Int32} {M : am_M} {w : am_W4} (hn : n < 12) (hk1 : k1 < 16) : am_rn call 51 52 [some (am_P (13, n, 0)), some (am_P (24, n, k1)), some (am_I x2), some (am_I x3)] [am_I s0] M (am_Z w) = if s0 = 0 then am_rn call 51 68 [some (am_P (13, n, 0)), some (am_P (24, n, k1)), some (am_I x2), some (am_I x3)] [] M (am_Z w) else if am_in (M (24, n, k1) 2) 6 then am_cb (call 19 [am_P (21, n, (M (24, n, k1) 2).toNatClampNeg), am_I x2] M (am_Z w)) fun v M' X' => am_rn call 51 68 [some (am_P (13, n, 0)), some (am_P (24, n, k1)), some (am_I x2), some (am_I x3)] (v.toList ++ []) M' X' else none := by
  refine Eq.trans (rl_ifeq (o := 16) 68 (by decide +kernel) (by decide)) ?_
  refine am_ite (fun h_1 => ?_) (fun h_1 => ?_)
  · skip
    rfl
  · skip
    refine Eq.trans (rl_aloadn (j := 0) (by decide +kernel) rfl) ?_
    refine Eq.trans (rl_getP (ix := 11) (ci := 5) (j := 2) (by decide +kernel) (by decide +kernel) (by decide +kernel) (ck13 hn) rfl) ?_
    refine Eq.trans (rl_aloadn (j := 1) (by decide +kernel) rfl) ?_
    refine Eq.trans (rl_get (ix := 174) (ci := 4) (j := 2) (by decide +kernel) (by decide +kernel) (by decide +kernel) (ck24 hn hk1)) ?_
    refine Eq.trans (rl_aald (v := (21, n, (M (24, n, k1) 2).toNatClampNeg)) (by decide +kernel) (ka14 hn) (fun h => if_pos (am_in_lt' h))) ?_
    refine am_ite (fun h_2 => ?_) (fun _ => rfl)
    refine Eq.trans (rl_iloadn (j := 2) (by decide +kernel) rfl) ?_
    refine Eq.trans (rl_inv (ix := 163) (n := 1) (o := 2) 19 [am_I x2] [] (by decide +kernel) (by decide +kernel) (by decide +kernel) (by decide +kernel) ⟨rfl, rfl⟩ rfl rfl (ck21 hn (am_in_lt' h_2))) ?_
    rfl
theorem b51_68 {n k1 : Nat} {x2 x3 : Int32} {M : am_M} {w : am_W4} (hn : n < 12) (hk1 : k1 < 16) : am_rn call 51 68 [some (am_P (13, n, 0)), some (am_P (24, n, k1)), some (am_I x2), some (am_I x3)] [] M (am_Z w) = some (.inl none, M, (am_Z w)) := by
  exact rl_ret (by decide +kernel) rfl
theorem e51 {d : Nat} {n k1 : Nat} {x2 x3 : Int32} {M : am_M} {w : am_W4} (hn : n < 12) (hk1 : k1 < 16) : am_ev (d + 1) 51 [am_P (13, n, 0), am_P (24, n, k1), am_I x2, am_I x3] M (am_Z w) = if am_in x3 6 then am_cb ((am_ev d) 20 [am_P (21, n, x3.toNatClampNeg), am_I x2] M (am_Z w)) fun v M' X' => am_rn (am_ev d) 51 10 [some (am_P (13, n, 0)), some (am_P (24, n, k1)), some (am_I x2), some (am_I x3)] (v.toList ++ []) M' X' else none := (am_ev_eq d 51 _ M (am_Z w)).trans (b51_0 hn hk1)
theorem b52_0 {n k1 : Nat} {x2 : Int32} {M : am_M} {w : am_W4} (hn : n < 12) (hk1 : k1 < 16) : am_rn call 52 0 [some (am_P (13, n, 0)), some (am_P (24, n, k1)), some (am_I x2)] [] M (am_Z w) = am_rn call 52 5 [some (am_P (13, n, 0)), some (am_P (24, n, k1)), some (am_I x2)] [] (am_set M (24, n, k1) 3 (nI 1)) (am_Z w) := by
  refine Eq.trans (rl_aloadn (j := 1) (by decide +kernel) rfl) ?_
  refine Eq.trans (rl_iconst (c := 1) (k := (nI 1)) (by decide +kernel) (by decide)) ?_
  refine Eq.trans (rl_put (ix := 171) (ci := 4) (j := 3) (by decide +kernel) (by decide +kernel) (by decide +kernel) (by decide +kernel) (ck24 hn hk1)) ?_
  rfl
theorem b52_5 {n k1 : Nat} {x2 : Int32} {M : am_M} {w : am_W4} (hn : n < 12) (hk1 : k1 < 16) : am_rn call 52 5 [some (am_P (13, n, 0)), some (am_P (24, n, k1)), some (am_I x2)] [] M (am_Z w) = if (M (13, n, 0) 7) < (nI 16) then if am_in (M (13, n, 0) 7) 16 then am_rn call 52 24 [some (am_P (13, n, 0)), some (am_P (24, n, k1)), some (am_I x2)] [] (am_set M (18, n, 0) (M (13, n, 0) 7).toNatClampNeg x2) (am_Z w) else none else some (.inl none, M, (am_Z w)) := by
  refine Eq.trans (rl_aloadn (j := 0) (by decide +kernel) rfl) ?_
  refine Eq.trans (rl_get (ix := 71) (ci := 5) (j := 7) (by decide +kernel) (by decide +kernel) (by decide +kernel) (ck13 hn)) ?_
  refine Eq.trans (rl_bipush (c := 16) (k := (nI 16)) (by decide +kernel) (by decide)) ?_
  refine Eq.trans (rl_icge (o := 23) 34 (by decide +kernel) (by decide)) ?_
  refine am_ite (fun h_1 => ?_) (fun h_1 => ?_)
  · skip
    refine Eq.trans (rl_aloadn (j := 0) (by decide +kernel) rfl) ?_
    refine Eq.trans (rl_getP (ix := 33) (ci := 5) (j := 8) (by decide +kernel) (by decide +kernel) (by decide +kernel) (ck13 hn) rfl) ?_
    refine Eq.trans (rl_aloadn (j := 0) (by decide +kernel) rfl) ?_
    refine Eq.trans (rl_get (ix := 71) (ci := 5) (j := 7) (by decide +kernel) (by decide +kernel) (by decide +kernel) (ck13 hn)) ?_
    refine Eq.trans (rl_iloadn (j := 2) (by decide +kernel) rfl) ?_
    refine Eq.trans (rl_iast (by decide +kernel) (ka18 hn)) ?_
    refine am_ite (fun h_2 => ?_) (fun _ => rfl)
    rfl
  · skip
    exact rl_ret (by decide +kernel) rfl
theorem b52_24 {n k1 : Nat} {x2 : Int32} {M : am_M} {w : am_W4} (hn : n < 12) (hk1 : k1 < 16) : am_rn call 52 24 [some (am_P (13, n, 0)), some (am_P (24, n, k1)), some (am_I x2)] [] M (am_Z w) = some (.inl none, (am_set M (13, n, 0) 7 ((M (13, n, 0) 7) + (nI 1))), (am_Z w)) := by
  refine Eq.trans (rl_aloadn (j := 0) (by decide +kernel) rfl) ?_
  refine Eq.trans (rl_dup (by decide +kernel) rfl) ?_
  refine Eq.trans (rl_get (ix := 71) (ci := 5) (j := 7) (by decide +kernel) (by decide +kernel) (by decide +kernel) (ck13 hn)) ?_
  refine Eq.trans (rl_iconst (c := 1) (k := (nI 1)) (by decide +kernel) (by decide)) ?_
  refine Eq.trans (rl_iadd (by decide +kernel)) ?_
  refine Eq.trans (rl_put (ix := 71) (ci := 5) (j := 7) (by decide +kernel) (by decide +kernel) (by decide +kernel) (by decide +kernel) (ck13 hn)) ?_
  exact rl_ret (by decide +kernel) rfl
theorem e52 {d : Nat} {n k1 : Nat} {x2 : Int32} {M : am_M} {w : am_W4} (hn : n < 12) (hk1 : k1 < 16) : am_ev (d + 1) 52 [am_P (13, n, 0), am_P (24, n, k1), am_I x2] M (am_Z w) = am_rn (am_ev d) 52 5 [some (am_P (13, n, 0)), some (am_P (24, n, k1)), some (am_I x2)] [] (am_set M (24, n, k1) 3 (nI 1)) (am_Z w) := (am_ev_eq d 52 _ M (am_Z w)).trans (b52_0 hn hk1)
theorem b53_0 {n : Nat} {M : am_M} {w : am_W4} (hn : n < 12) : am_rn call 53 0 [some (am_P (13, n, 0)), none] [] M (am_Z w) = am_rn call 53 10 [some (am_P (13, n, 0)), none] [] (am_set M (13, n, 0) 0 ((M (13, n, 0) 0) + (nI 1))) (am_Z w) := by
  refine Eq.trans (rl_aloadn (j := 0) (by decide +kernel) rfl) ?_
  refine Eq.trans (rl_dup (by decide +kernel) rfl) ?_
  refine Eq.trans (rl_get (ix := 42) (ci := 5) (j := 0) (by decide +kernel) (by decide +kernel) (by decide +kernel) (ck13 hn)) ?_
  refine Eq.trans (rl_iconst (c := 1) (k := (nI 1)) (by decide +kernel) (by decide)) ?_
  refine Eq.trans (rl_iadd (by decide +kernel)) ?_
  refine Eq.trans (rl_put (ix := 42) (ci := 5) (j := 0) (by decide +kernel) (by decide +kernel) (by decide +kernel) (by decide +kernel) (ck13 hn)) ?_
  rfl
theorem b53_10 {n : Nat} {M : am_M} {w : am_W4} (hn : n < 12) : am_rn call 53 10 [some (am_P (13, n, 0)), none] [] M (am_Z w) = if ((M (13, n, 0) 0) - (M (13, n, 0) 0) / (nI 6) * (nI 6)) = 0 then am_rn call 53 22 [some (am_P (13, n, 0)), some (am_I (nI 0))] [] M (am_Z w) else some (.inl none, M, (am_Z w)) := by
  refine Eq.trans (rl_aloadn (j := 0) (by decide +kernel) rfl) ?_
  refine Eq.trans (rl_get (ix := 42) (ci := 5) (j := 0) (by decide +kernel) (by decide +kernel) (by decide +kernel) (ck13 hn)) ?_
  refine Eq.trans (rl_bipush (c := 6) (k := (nI 6)) (by decide +kernel) (by decide)) ?_
  refine Eq.trans (rl_irem (by decide +kernel) rfl) ?_
  refine Eq.trans (rl_ifne (o := 38) 55 (by decide +kernel) (by decide)) ?_
  refine am_ite (fun h_1 => ?_) (fun h_1 => ?_)
  · skip
    refine Eq.trans (rl_iconst (c := 0) (k := (nI 0)) (by decide +kernel) (by decide)) ?_
    refine Eq.trans (rl_istoren (j := 1) (ls' := [some (am_P (13, n, 0)), some (am_I (nI 0))]) (by decide +kernel) rfl rfl) ?_
    rfl
  · skip
    exact rl_ret (by decide +kernel) rfl
theorem b53_22 {n : Nat} {x1 : Int32} {M : am_M} {w : am_W4} (hn : n < 12) : am_rn call 53 22 [some (am_P (13, n, 0)), some (am_I x1)] [] M (am_Z w) = if x1 < (nI 5) then if am_in x1 5 then if am_in x1 5 then am_cb (call 112 [am_I (M (23, n, x1.toNatClampNeg) 1), am_I x1] M (am_Z w)) fun v M' X' => am_rn call 53 46 [some (am_P (13, n, 0)), some (am_I x1)] (v.toList ++ [am_P (23, n, x1.toNatClampNeg)]) M' X' else none else none else some (.inl none, M, (am_Z w)) := by
  refine Eq.trans (rl_iloadn (j := 1) (by decide +kernel) rfl) ?_
  refine Eq.trans (rl_iconst (c := 5) (k := (nI 5)) (by decide +kernel) (by decide)) ?_
  refine Eq.trans (rl_icge (o := 31) 55 (by decide +kernel) (by decide)) ?_
  refine am_ite (fun h_1 => ?_) (fun h_1 => ?_)
  · skip
    refine Eq.trans (rl_aloadn (j := 0) (by decide +kernel) rfl) ?_
    refine Eq.trans (rl_getP (ix := 19) (ci := 5) (j := 3) (by decide +kernel) (by decide +kernel) (by decide +kernel) (ck13 hn) rfl) ?_
    refine Eq.trans (rl_iloadn (j := 1) (by decide +kernel) rfl) ?_
    refine Eq.trans (rl_aald (v := (23, n, x1.toNatClampNeg)) (by decide +kernel) (ka15 hn) (fun h => if_pos (am_in_lt' h))) ?_
    refine am_ite (fun h_2 => ?_) (fun _ => rfl)
    refine Eq.trans (rl_aloadn (j := 0) (by decide +kernel) rfl) ?_
    refine Eq.trans (rl_getP (ix := 19) (ci := 5) (j := 3) (by decide +kernel) (by decide +kernel) (by decide +kernel) (ck13 hn) rfl) ?_
    refine Eq.trans (rl_iloadn (j := 1) (by decide +kernel) rfl) ?_
    refine Eq.trans (rl_aald (v := (23, n, x1.toNatClampNeg)) (by decide +kernel) (ka15 hn) (fun h => if_pos (am_in_lt' h))) ?_
    refine am_ite (fun h_3 => ?_) (fun _ => rfl)
    refine Eq.trans (rl_get (ix := 56) (ci := 7) (j := 1) (by decide +kernel) (by decide +kernel) (by decide +kernel) (ck23 hn (am_in_lt' h_3))) ?_
    refine Eq.trans (rl_iloadn (j := 1) (by decide +kernel) rfl) ?_
    refine Eq.trans (rl_invS (ix := 248) (n := 2) (k := 4) 112 [am_I (M (23, n, x1.toNatClampNeg) 1), am_I x1] [am_P (23, n, x1.toNatClampNeg)] (by decide +kernel) (by decide +kernel) (by decide) (by decide +kernel) ⟨rfl, rfl⟩ rfl rfl) ?_
    rfl
  · skip
    exact rl_ret (by decide +kernel) rfl
theorem b53_46 {n s1 : Nat} {x1 s0 : Int32} {M : am_M} {w : am_W4} (hn : n < 12) (hs1 : s1 < 5) : am_rn call 53 46 [some (am_P (13, n, 0)), some (am_I x1)] [am_I s0, am_P (23, n, s1)] M (am_Z w) = am_rn call 53 22 [some (am_P (13, n, 0)), some (am_I (x1 + (nI 1)))] [] (am_set M (23, n, s1) 1 s0) (am_Z w) := by
  refine Eq.trans (rl_put (ix := 56) (ci := 7) (j := 1) (by decide +kernel) (by decide +kernel) (by decide +kernel) (by decide +kernel) (ck23 hn hs1)) ?_
  refine Eq.trans (rl_iinc (j := 1) (c := 1) (k := (nI 1)) (ls' := [some (am_P (13, n, 0)), some (am_I (x1 + (nI 1)))]) (by decide +kernel) (by decide) rfl rfl) ?_
  refine Eq.trans (rl_goto (o := (-30)) 22 (by decide +kernel) (by decide)) ?_
  rfl
theorem e53 {d : Nat} {n : Nat} {M : am_M} {w : am_W4} (hn : n < 12) : am_ev (d + 1) 53 [am_P (13, n, 0)] M (am_Z w) = am_rn (am_ev d) 53 10 [some (am_P (13, n, 0)), none] [] (am_set M (13, n, 0) 0 ((M (13, n, 0) 0) + (nI 1))) (am_Z w) := (am_ev_eq d 53 _ M (am_Z w)).trans (b53_0 hn)
theorem b54_0 {n : Nat} {x1 x2 : Int32} {M : am_M} {w : am_W4} (hn : n < 12) : am_rn call 54 0 [some (am_P (13, n, 0)), some (am_I x1), some (am_I x2), none] [] M (am_Z w) = if x1 < x2 then am_rn call 54 14 [some (am_P (13, n, 0)), some (am_I x1), some (am_I x2), none] [am_I x1, am_P (15, n, 0)] M (am_Z w) else am_rn call 54 14 [some (am_P (13, n, 0)), some (am_I x1), some (am_I x2), none] [am_I x2, am_P (15, n, 0)] M (am_Z w) := by
  refine Eq.trans (rl_aloadn (j := 0) (by decide +kernel) rfl) ?_
  refine Eq.trans (rl_getP (ix := 19) (ci := 5) (j := 3) (by decide +kernel) (by decide +kernel) (by decide +kernel) (ck13 hn) rfl) ?_
  refine Eq.trans (rl_iloadn (j := 1) (by decide +kernel) rfl) ?_
  refine Eq.trans (rl_iloadn (j := 2) (by decide +kernel) rfl) ?_
  refine Eq.trans (rl_icge (o := 7) 13 (by decide +kernel) (by decide)) ?_
  refine am_ite (fun h_1 => ?_) (fun h_1 => ?_)
  · skip
    refine Eq.trans (rl_iloadn (j := 1) (by decide +kernel) rfl) ?_
    refine Eq.trans (rl_goto (o := 4) 14 (by decide +kernel) (by decide)) ?_
    rfl
  · skip
    refine Eq.trans (rl_iloadn (j := 2) (by decide +kernel) rfl) ?_
    rfl
theorem b54_14 {n : Nat} {x1 x2 s0 : Int32} {M : am_M} {w : am_W4} (hn : n < 12) : am_rn call 54 14 [some (am_P (13, n, 0)), some (am_I x1), some (am_I x2), none] [am_I s0, am_P (15, n, 0)] M (am_Z w) = if am_in s0 5 then if am_in x1 6 then if am_in x2 6 then some (.inl (some (am_I (((((nI 24) - (M (21, n, x1.toNatClampNeg) 0)) + (M (21, n, x2.toNatClampNeg) 1)) - ((nI 2) * (M (23, n, s0.toNatClampNeg) 0))) - (M (23, n, s0.toNatClampNeg) 1)))), M, (am_Z w)) else none else none else none := by
  refine Eq.trans (rl_aald (v := (23, n, s0.toNatClampNeg)) (by decide +kernel) (ka15 hn) (fun h => if_pos (am_in_lt' h))) ?_
  refine am_ite (fun h_1 => ?_) (fun _ => rfl)
  refine Eq.trans (rl_astoren (j := 3) (ls' := [some (am_P (13, n, 0)), some (am_I x1), some (am_I x2), some (am_P (23, n, s0.toNatClampNeg))]) (by decide +kernel) rfl rfl) ?_
  refine Eq.trans (rl_bipush (c := 24) (k := (nI 24)) (by decide +kernel) (by decide)) ?_
  refine Eq.trans (rl_aloadn (j := 0) (by decide +kernel) rfl) ?_
  refine Eq.trans (rl_getP (ix := 11) (ci := 5) (j := 2) (by decide +kernel) (by decide +kernel) (by decide +kernel) (ck13 hn) rfl) ?_
  refine Eq.trans (rl_iloadn (j := 1) (by decide +kernel) rfl) ?_
  refine Eq.trans (rl_aald (v := (21, n, x1.toNatClampNeg)) (by decide +kernel) (ka14 hn) (fun h => if_pos (am_in_lt' h))) ?_
  refine am_ite (fun h_2 => ?_) (fun _ => rfl)
  refine Eq.trans (rl_get (ix := 251) (ci := 2) (j := 0) (by decide +kernel) (by decide +kernel) (by decide +kernel) (ck21 hn (am_in_lt' h_2))) ?_
  refine Eq.trans (rl_isub (by decide +kernel)) ?_
  refine Eq.trans (rl_aloadn (j := 0) (by decide +kernel) rfl) ?_
  refine Eq.trans (rl_getP (ix := 11) (ci := 5) (j := 2) (by decide +kernel) (by decide +kernel) (by decide +kernel) (ck13 hn) rfl) ?_
  refine Eq.trans (rl_iloadn (j := 2) (by decide +kernel) rfl) ?_
  refine Eq.trans (rl_aald (v := (21, n, x2.toNatClampNeg)) (by decide +kernel) (ka14 hn) (fun h => if_pos (am_in_lt' h))) ?_
  refine am_ite (fun h_3 => ?_) (fun _ => rfl)
  refine Eq.trans (rl_get (ix := 147) (ci := 2) (j := 1) (by decide +kernel) (by decide +kernel) (by decide +kernel) (ck21 hn (am_in_lt' h_3))) ?_
  refine Eq.trans (rl_iadd (by decide +kernel)) ?_
  refine Eq.trans (rl_iconst (c := 2) (k := (nI 2)) (by decide +kernel) (by decide)) ?_
  refine Eq.trans (rl_aloadn (j := 3) (by decide +kernel) rfl) ?_
  refine Eq.trans (rl_get (ix := 53) (ci := 7) (j := 0) (by decide +kernel) (by decide +kernel) (by decide +kernel) (ck23 hn (am_in_lt' h_1))) ?_
  refine Eq.trans (rl_imul (by decide +kernel)) ?_
  refine Eq.trans (rl_isub (by decide +kernel)) ?_
  refine Eq.trans (rl_aloadn (j := 3) (by decide +kernel) rfl) ?_
  refine Eq.trans (rl_get (ix := 56) (ci := 7) (j := 1) (by decide +kernel) (by decide +kernel) (by decide +kernel) (ck23 hn (am_in_lt' h_1))) ?_
  refine Eq.trans (rl_isub (by decide +kernel)) ?_
  exact rl_iret (by decide +kernel) rfl
theorem e54 {d : Nat} {n : Nat} {x1 x2 : Int32} {M : am_M} {w : am_W4} (hn : n < 12) : am_ev (d + 1) 54 [am_P (13, n, 0), am_I x1, am_I x2] M (am_Z w) = if x1 < x2 then am_rn (am_ev d) 54 14 [some (am_P (13, n, 0)), some (am_I x1), some (am_I x2), none] [am_I x1, am_P (15, n, 0)] M (am_Z w) else am_rn (am_ev d) 54 14 [some (am_P (13, n, 0)), some (am_I x1), some (am_I x2), none] [am_I x2, am_P (15, n, 0)] M (am_Z w) := (am_ev_eq d 54 _ M (am_Z w)).trans (b54_0 hn)
theorem b55_0 {n : Nat} {x1 x2 : Int32} {M : am_M} {w : am_W4} (hn : n < 12) : am_rn call 55 0 [some (am_P (13, n, 0)), some (am_I x1), some (am_I x2)] [] M (am_Z w) = am_cb (call 35 [am_P (13, n, 0), am_I x2] M (am_Z w)) fun v M' X' => am_rn call 55 5 [some (am_P (13, n, 0)), some (am_I x1), some (am_I x2)] (v.toList ++ []) M' X' := by
  refine Eq.trans (rl_aloadn (j := 0) (by decide +kernel) rfl) ?_
  refine Eq.trans (rl_iloadn (j := 2) (by decide +kernel) rfl) ?_
  refine Eq.trans (rl_inv (ix := 132) (n := 1) (o := 5) 35 [am_I x2] [] (by decide +kernel) (by decide +kernel) (by decide +kernel) (by decide +kernel) ⟨rfl, rfl⟩ rfl rfl (ck13 hn)) ?_
  rfl
theorem b55_5 {n : Nat} {x1 x2 s0 : Int32} {M : am_M} {w : am_W4} (hn : n < 12) : am_rn call 55 5 [some (am_P (13, n, 0)), some (am_I x1), some (am_I x2)] [am_I s0] M (am_Z w) = if s0 = 0 then some (.inl (some (am_I (nI 0))), M, (am_Z w)) else if am_in x2 6 then if (M (21, n, x2.toNatClampNeg) 1) = 0 then some (.inl (some (am_I (nI 0))), M, (am_Z w)) else am_cb (call 54 [am_P (13, n, 0), am_I x1, am_I x2] M (am_Z w)) fun v M' X' => am_rn call 55 26 [some (am_P (13, n, 0)), some (am_I x1), some (am_I x2)] (v.toList ++ []) M' X' else none := by
  refine Eq.trans (rl_ifeq (o := 30) 35 (by decide +kernel) (by decide)) ?_
  refine am_ite (fun h_1 => ?_) (fun h_1 => ?_)
  · skip
    refine Eq.trans (rl_iconst (c := 0) (k := (nI 0)) (by decide +kernel) (by decide)) ?_
    exact rl_zretk (by decide +kernel) rfl rfl
  · skip
    refine Eq.trans (rl_aloadn (j := 0) (by decide +kernel) rfl) ?_
    refine Eq.trans (rl_getP (ix := 11) (ci := 5) (j := 2) (by decide +kernel) (by decide +kernel) (by decide +kernel) (ck13 hn) rfl) ?_
    refine Eq.trans (rl_iloadn (j := 2) (by decide +kernel) rfl) ?_
    refine Eq.trans (rl_aald (v := (21, n, x2.toNatClampNeg)) (by decide +kernel) (ka14 hn) (fun h => if_pos (am_in_lt' h))) ?_
    refine am_ite (fun h_2 => ?_) (fun _ => rfl)
    refine Eq.trans (rl_get (ix := 147) (ci := 2) (j := 1) (by decide +kernel) (by decide +kernel) (by decide +kernel) (ck21 hn (am_in_lt' h_2))) ?_
    refine Eq.trans (rl_ifeq (o := 18) 35 (by decide +kernel) (by decide)) ?_
    refine am_ite (fun h_3 => ?_) (fun h_3 => ?_)
    · skip
      refine Eq.trans (rl_iconst (c := 0) (k := (nI 0)) (by decide +kernel) (by decide)) ?_
      exact rl_zretk (by decide +kernel) rfl rfl
    · skip
      refine Eq.trans (rl_aloadn (j := 0) (by decide +kernel) rfl) ?_
      refine Eq.trans (rl_iloadn (j := 1) (by decide +kernel) rfl) ?_
      refine Eq.trans (rl_iloadn (j := 2) (by decide +kernel) rfl) ?_
      refine Eq.trans (rl_inv (ix := 254) (n := 2) (o := 5) 54 [am_I x1, am_I x2] [] (by decide +kernel) (by decide +kernel) (by decide +kernel) (by decide +kernel) ⟨rfl, rfl⟩ rfl rfl (ck13 hn)) ?_
      rfl
theorem b55_26 {n : Nat} {x1 x2 s0 : Int32} {M : am_M} {w : am_W4} (hn : n < 12) : am_rn call 55 26 [some (am_P (13, n, 0)), some (am_I x1), some (am_I x2)] [am_I s0] M (am_Z w) = if s0 < (nI 10) then some (.inl (some (am_I (nI 0))), M, (am_Z w)) else some (.inl (some (am_I (nI 1))), M, (am_Z w)) := by
  refine Eq.trans (rl_bipush (c := 10) (k := (nI 10)) (by decide +kernel) (by decide)) ?_
  refine Eq.trans (rl_iclt (o := 7) 35 (by decide +kernel) (by decide)) ?_
  refine am_ite (fun h_1 => ?_) (fun h_1 => ?_)
  · skip
    refine Eq.trans (rl_iconst (c := 0) (k := (nI 0)) (by decide +kernel) (by decide)) ?_
    exact rl_zretk (by decide +kernel) rfl rfl
  · skip
    refine Eq.trans (rl_iconst (c := 1) (k := (nI 1)) (by decide +kernel) (by decide)) ?_
    refine Eq.trans (rl_goto (o := 4) 36 (by decide +kernel) (by decide)) ?_
    exact rl_zretk (by decide +kernel) rfl rfl
theorem e55 {d : Nat} {n : Nat} {x1 x2 : Int32} {M : am_M} {w : am_W4} (hn : n < 12) : am_ev (d + 1) 55 [am_P (13, n, 0), am_I x1, am_I x2] M (am_Z w) = am_cb ((am_ev d) 35 [am_P (13, n, 0), am_I x2] M (am_Z w)) fun v M' X' => am_rn (am_ev d) 55 5 [some (am_P (13, n, 0)), some (am_I x1), some (am_I x2)] (v.toList ++ []) M' X' := (am_ev_eq d 55 _ M (am_Z w)).trans (b55_0 hn)
theorem b56_0 {n : Nat} {x1 : Int32} {M : am_M} {w : am_W4} (hn : n < 12) : am_rn call 56 0 [some (am_P (13, n, 0)), some (am_I x1), none, none] [] M (am_Z w) = am_rn call 56 4 [some (am_P (13, n, 0)), some (am_I x1), some (am_I (nI 0)), some (am_I (nI 0))] [] M (am_Z w) := by
  refine Eq.trans (rl_iconst (c := 0) (k := (nI 0)) (by decide +kernel) (by decide)) ?_
  refine Eq.trans (rl_istoren (j := 2) (ls' := [some (am_P (13, n, 0)), some (am_I x1), some (am_I (nI 0)), none]) (by decide +kernel) rfl rfl) ?_
  refine Eq.trans (rl_iconst (c := 0) (k := (nI 0)) (by decide +kernel) (by decide)) ?_
  refine Eq.trans (rl_istoren (j := 3) (ls' := [some (am_P (13, n, 0)), some (am_I x1), some (am_I (nI 0)), some (am_I (nI 0))]) (by decide +kernel) rfl rfl) ?_
  rfl
theorem b56_4 {n : Nat} {x1 x2 x3 : Int32} {M : am_M} {w : am_W4} (hn : n < 12) : am_rn call 56 4 [some (am_P (13, n, 0)), some (am_I x1), some (am_I x2), some (am_I x3)] [] M (am_Z w) = if x3 < (M (13, n, 0) 5) then if am_in x3 16 then if (M (24, n, x3.toNatClampNeg) 3) = 0 then am_cb (call 57 [am_P (13, n, 0), am_I x3, am_I x1] M (am_Z w)) fun v M' X' => am_rn call 56 30 [some (am_P (13, n, 0)), some (am_I x1), some (am_I x2), some (am_I x3)] (v.toList ++ []) M' X' else am_rn call 56 36 [some (am_P (13, n, 0)), some (am_I x1), some (am_I x2), some (am_I x3)] [] M (am_Z w) else none else some (.inl (some (am_I x2)), M, (am_Z w)) := by
  refine Eq.trans (rl_iloadn (j := 3) (by decide +kernel) rfl) ?_
  refine Eq.trans (rl_aloadn (j := 0) (by decide +kernel) rfl) ?_
  refine Eq.trans (rl_get (ix := 65) (ci := 5) (j := 5) (by decide +kernel) (by decide +kernel) (by decide +kernel) (ck13 hn)) ?_
  refine Eq.trans (rl_icge (o := 33) 42 (by decide +kernel) (by decide)) ?_
  refine am_ite (fun h_1 => ?_) (fun h_1 => ?_)
  · skip
    refine Eq.trans (rl_aloadn (j := 0) (by decide +kernel) rfl) ?_
    refine Eq.trans (rl_getP (ix := 29) (ci := 5) (j := 6) (by decide +kernel) (by decide +kernel) (by decide +kernel) (ck13 hn) rfl) ?_
    refine Eq.trans (rl_iloadn (j := 3) (by decide +kernel) rfl) ?_
    refine Eq.trans (rl_aald (v := (24, n, x3.toNatClampNeg)) (by decide +kernel) (ka17 hn) (fun h => if_pos (am_in_lt' h))) ?_
    refine am_ite (fun h_2 => ?_) (fun _ => rfl)
    refine Eq.trans (rl_get (ix := 171) (ci := 4) (j := 3) (by decide +kernel) (by decide +kernel) (by decide +kernel) (ck24 hn (am_in_lt' h_2))) ?_
    refine Eq.trans (rl_ifne (o := 15) 36 (by decide +kernel) (by decide)) ?_
    refine am_ite (fun h_3 => ?_) (fun h_3 => ?_)
    · skip
      refine Eq.trans (rl_aloadn (j := 0) (by decide +kernel) rfl) ?_
      refine Eq.trans (rl_iloadn (j := 3) (by decide +kernel) rfl) ?_
      refine Eq.trans (rl_iloadn (j := 1) (by decide +kernel) rfl) ?_
      refine Eq.trans (rl_inv (ix := 257) (n := 2) (o := 5) 57 [am_I x3, am_I x1] [] (by decide +kernel) (by decide +kernel) (by decide +kernel) (by decide +kernel) ⟨rfl, rfl⟩ rfl rfl (ck13 hn)) ?_
      rfl
    · skip
      rfl
  · skip
    refine Eq.trans (rl_iloadn (j := 2) (by decide +kernel) rfl) ?_
    exact rl_iret (by decide +kernel) rfl
theorem b56_30 {n : Nat} {x1 x2 x3 s0 : Int32} {M : am_M} {w : am_W4} (hn : n < 12) : am_rn call 56 30 [some (am_P (13, n, 0)), some (am_I x1), some (am_I x2), some (am_I x3)] [am_I s0] M (am_Z w) = if s0 = 0 then am_rn call 56 36 [some (am_P (13, n, 0)), some (am_I x1), some (am_I x2), some (am_I x3)] [] M (am_Z w) else am_rn call 56 36 [some (am_P (13, n, 0)), some (am_I x1), some (am_I (x2 + (nI 1))), some (am_I x3)] [] M (am_Z w) := by
  refine Eq.trans (rl_ifeq (o := 6) 36 (by decide +kernel) (by decide)) ?_
  refine am_ite (fun h_1 => ?_) (fun h_1 => ?_)
  · skip
    rfl
  · skip
    refine Eq.trans (rl_iinc (j := 2) (c := 1) (k := (nI 1)) (ls' := [some (am_P (13, n, 0)), some (am_I x1), some (am_I (x2 + (nI 1))), some (am_I x3)]) (by decide +kernel) (by decide) rfl rfl) ?_
    rfl
theorem b56_36 {n : Nat} {x1 x2 x3 : Int32} {M : am_M} {w : am_W4} (hn : n < 12) : am_rn call 56 36 [some (am_P (13, n, 0)), some (am_I x1), some (am_I x2), some (am_I x3)] [] M (am_Z w) = am_rn call 56 4 [some (am_P (13, n, 0)), some (am_I x1), some (am_I x2), some (am_I (x3 + (nI 1)))] [] M (am_Z w) := by
  refine Eq.trans (rl_iinc (j := 3) (c := 1) (k := (nI 1)) (ls' := [some (am_P (13, n, 0)), some (am_I x1), some (am_I x2), some (am_I (x3 + (nI 1)))]) (by decide +kernel) (by decide) rfl rfl) ?_
  refine Eq.trans (rl_goto (o := (-35)) 4 (by decide +kernel) (by decide)) ?_
  rfl
theorem e56 {d : Nat} {n : Nat} {x1 : Int32} {M : am_M} {w : am_W4} (hn : n < 12) : am_ev (d + 1) 56 [am_P (13, n, 0), am_I x1] M (am_Z w) = am_rn (am_ev d) 56 4 [some (am_P (13, n, 0)), some (am_I x1), some (am_I (nI 0)), some (am_I (nI 0))] [] M (am_Z w) := (am_ev_eq d 56 _ M (am_Z w)).trans (b56_0 hn)
theorem b57_0 {n : Nat} {x1 x2 : Int32} {M : am_M} {w : am_W4} (hn : n < 12) : am_rn call 57 0 [some (am_P (13, n, 0)), some (am_I x1), some (am_I x2), none, none] [] M (am_Z w) = if am_in x1 16 then am_cb (call 32 [am_P (24, n, x1.toNatClampNeg)] M (am_Z w)) fun v M' X' => am_rn call 57 9 [some (am_P (13, n, 0)), some (am_I x1), some (am_I x2), none, none] (v.toList ++ []) M' X' else none := by
  refine Eq.trans (rl_aloadn (j := 0) (by decide +kernel) rfl) ?_
  refine Eq.trans (rl_getP (ix := 29) (ci := 5) (j := 6) (by decide +kernel) (by decide +kernel) (by decide +kernel) (ck13 hn) rfl) ?_
  refine Eq.trans (rl_iloadn (j := 1) (by decide +kernel) rfl) ?_
  refine Eq.trans (rl_aald (v := (24, n, x1.toNatClampNeg)) (by decide +kernel) (ka17 hn) (fun h => if_pos (am_in_lt' h))) ?_
  refine am_ite (fun h_1 => ?_) (fun _ => rfl)
  refine Eq.trans (rl_inv (ix := 260) (n := 0) (o := 4) 32 [] [] (by decide +kernel) (by decide +kernel) (by decide +kernel) (by decide +kernel) ⟨rfl, rfl⟩ rfl rfl (ck24 hn (am_in_lt' h_1))) ?_
  rfl
theorem b57_9 {n : Nat} {x1 x2 s0 : Int32} {M : am_M} {w : am_W4} (hn : n < 12) : am_rn call 57 9 [some (am_P (13, n, 0)), some (am_I x1), some (am_I x2), none, none] [am_I s0] M (am_Z w) = if am_in x2 16 then am_cb (call 32 [am_P (24, n, x2.toNatClampNeg)] M (am_Z w)) fun v M' X' => am_rn call 57 19 [some (am_P (13, n, 0)), some (am_I x1), some (am_I x2), some (am_I s0), none] (v.toList ++ []) M' X' else none := by
  refine Eq.trans (rl_istoren (j := 3) (ls' := [some (am_P (13, n, 0)), some (am_I x1), some (am_I x2), some (am_I s0), none]) (by decide +kernel) rfl rfl) ?_
  refine Eq.trans (rl_aloadn (j := 0) (by decide +kernel) rfl) ?_
  refine Eq.trans (rl_getP (ix := 29) (ci := 5) (j := 6) (by decide +kernel) (by decide +kernel) (by decide +kernel) (ck13 hn) rfl) ?_
  refine Eq.trans (rl_iloadn (j := 2) (by decide +kernel) rfl) ?_
  refine Eq.trans (rl_aald (v := (24, n, x2.toNatClampNeg)) (by decide +kernel) (ka17 hn) (fun h => if_pos (am_in_lt' h))) ?_
  refine am_ite (fun h_1 => ?_) (fun _ => rfl)
  refine Eq.trans (rl_inv (ix := 260) (n := 0) (o := 4) 32 [] [] (by decide +kernel) (by decide +kernel) (by decide +kernel) (by decide +kernel) ⟨rfl, rfl⟩ rfl rfl (ck24 hn (am_in_lt' h_1))) ?_
  rfl
theorem b57_19 {n : Nat} {x1 x2 x3 s0 : Int32} {M : am_M} {w : am_W4} (hn : n < 12) : am_rn call 57 19 [some (am_P (13, n, 0)), some (am_I x1), some (am_I x2), some (am_I x3), none] [am_I s0] M (am_Z w) = if x3 = s0 then if am_in x1 16 then if am_in x2 16 then if (M (24, n, x1.toNatClampNeg) 4) = (M (24, n, x2.toNatClampNeg) 4) then if x1 < x2 then some (.inl (some (am_I (nI 1))), M, (am_Z w)) else some (.inl (some (am_I (nI 0))), M, (am_Z w)) else if am_in x1 16 then if am_in x2 16 then if (M (24, n, x1.toNatClampNeg) 4) < (M (24, n, x2.toNatClampNeg) 4) then some (.inl (some (am_I (nI 1))), M, (am_Z w)) else some (.inl (some (am_I (nI 0))), M, (am_Z w)) else none else none else none else none else if s0 < x3 then some (.inl (some (am_I (nI 1))), M, (am_Z w)) else some (.inl (some (am_I (nI 0))), M, (am_Z w)) := by
  refine Eq.trans (rl_istore (j := 4) (ls' := [some (am_P (13, n, 0)), some (am_I x1), some (am_I x2), some (am_I x3), some (am_I s0)]) (by decide +kernel) rfl rfl) ?_
  refine Eq.trans (rl_iloadn (j := 3) (by decide +kernel) rfl) ?_
  refine Eq.trans (rl_iload (j := 4) (by decide +kernel) rfl) ?_
  refine Eq.trans (rl_iceq (o := 15) 39 (by decide +kernel) (by decide)) ?_
  refine am_ite (fun h_1 => ?_) (fun h_1 => ?_)
  · skip
    refine Eq.trans (rl_aloadn (j := 0) (by decide +kernel) rfl) ?_
    refine Eq.trans (rl_getP (ix := 29) (ci := 5) (j := 6) (by decide +kernel) (by decide +kernel) (by decide +kernel) (ck13 hn) rfl) ?_
    refine Eq.trans (rl_iloadn (j := 1) (by decide +kernel) rfl) ?_
    refine Eq.trans (rl_aald (v := (24, n, x1.toNatClampNeg)) (by decide +kernel) (ka17 hn) (fun h => if_pos (am_in_lt' h))) ?_
    refine am_ite (fun h_2 => ?_) (fun _ => rfl)
    refine Eq.trans (rl_get (ix := 263) (ci := 4) (j := 4) (by decide +kernel) (by decide +kernel) (by decide +kernel) (ck24 hn (am_in_lt' h_2))) ?_
    refine Eq.trans (rl_aloadn (j := 0) (by decide +kernel) rfl) ?_
    refine Eq.trans (rl_getP (ix := 29) (ci := 5) (j := 6) (by decide +kernel) (by decide +kernel) (by decide +kernel) (ck13 hn) rfl) ?_
    refine Eq.trans (rl_iloadn (j := 2) (by decide +kernel) rfl) ?_
    refine Eq.trans (rl_aald (v := (24, n, x2.toNatClampNeg)) (by decide +kernel) (ka17 hn) (fun h => if_pos (am_in_lt' h))) ?_
    refine am_ite (fun h_3 => ?_) (fun _ => rfl)
    refine Eq.trans (rl_get (ix := 263) (ci := 4) (j := 4) (by decide +kernel) (by decide +kernel) (by decide +kernel) (ck24 hn (am_in_lt' h_3))) ?_
    refine Eq.trans (rl_iceq (o := 30) 87 (by decide +kernel) (by decide)) ?_
    refine am_ite (fun h_4 => ?_) (fun h_4 => ?_)
    · skip
      refine Eq.trans (rl_iloadn (j := 1) (by decide +kernel) rfl) ?_
      refine Eq.trans (rl_iloadn (j := 2) (by decide +kernel) rfl) ?_
      refine Eq.trans (rl_icge (o := 7) 96 (by decide +kernel) (by decide)) ?_
      refine am_ite (fun h_5 => ?_) (fun h_5 => ?_)
      · skip
        refine Eq.trans (rl_iconst (c := 1) (k := (nI 1)) (by decide +kernel) (by decide)) ?_
        refine Eq.trans (rl_goto (o := 4) 97 (by decide +kernel) (by decide)) ?_
        exact rl_zretk (by decide +kernel) rfl rfl
      · skip
        refine Eq.trans (rl_iconst (c := 0) (k := (nI 0)) (by decide +kernel) (by decide)) ?_
        exact rl_zretk (by decide +kernel) rfl rfl
    · skip
      refine Eq.trans (rl_aloadn (j := 0) (by decide +kernel) rfl) ?_
      refine Eq.trans (rl_getP (ix := 29) (ci := 5) (j := 6) (by decide +kernel) (by decide +kernel) (by decide +kernel) (ck13 hn) rfl) ?_
      refine Eq.trans (rl_iloadn (j := 1) (by decide +kernel) rfl) ?_
      refine Eq.trans (rl_aald (v := (24, n, x1.toNatClampNeg)) (by decide +kernel) (ka17 hn) (fun h => if_pos (am_in_lt' h))) ?_
      refine am_ite (fun h_6 => ?_) (fun _ => rfl)
      refine Eq.trans (rl_get (ix := 263) (ci := 4) (j := 4) (by decide +kernel) (by decide +kernel) (by decide +kernel) (ck24 hn (am_in_lt' h_6))) ?_
      refine Eq.trans (rl_aloadn (j := 0) (by decide +kernel) rfl) ?_
      refine Eq.trans (rl_getP (ix := 29) (ci := 5) (j := 6) (by decide +kernel) (by decide +kernel) (by decide +kernel) (ck13 hn) rfl) ?_
      refine Eq.trans (rl_iloadn (j := 2) (by decide +kernel) rfl) ?_
      refine Eq.trans (rl_aald (v := (24, n, x2.toNatClampNeg)) (by decide +kernel) (ka17 hn) (fun h => if_pos (am_in_lt' h))) ?_
      refine am_ite (fun h_7 => ?_) (fun _ => rfl)
      refine Eq.trans (rl_get (ix := 263) (ci := 4) (j := 4) (by decide +kernel) (by decide +kernel) (by decide +kernel) (ck24 hn (am_in_lt' h_7))) ?_
      refine Eq.trans (rl_icge (o := 7) 85 (by decide +kernel) (by decide)) ?_
      refine am_ite (fun h_8 => ?_) (fun h_8 => ?_)
      · skip
        refine Eq.trans (rl_iconst (c := 1) (k := (nI 1)) (by decide +kernel) (by decide)) ?_
        refine Eq.trans (rl_goto (o := 4) 86 (by decide +kernel) (by decide)) ?_
        exact rl_zretk (by decide +kernel) rfl rfl
      · skip
        refine Eq.trans (rl_iconst (c := 0) (k := (nI 0)) (by decide +kernel) (by decide)) ?_
        exact rl_zretk (by decide +kernel) rfl rfl
  · skip
    refine Eq.trans (rl_iloadn (j := 3) (by decide +kernel) rfl) ?_
    refine Eq.trans (rl_iload (j := 4) (by decide +kernel) rfl) ?_
    refine Eq.trans (rl_icle (o := 7) 37 (by decide +kernel) (by decide)) ?_
    refine am_ite (fun h_9 => ?_) (fun h_9 => ?_)
    · skip
      refine Eq.trans (rl_iconst (c := 1) (k := (nI 1)) (by decide +kernel) (by decide)) ?_
      refine Eq.trans (rl_goto (o := 4) 38 (by decide +kernel) (by decide)) ?_
      exact rl_zretk (by decide +kernel) rfl rfl
    · skip
      refine Eq.trans (rl_iconst (c := 0) (k := (nI 0)) (by decide +kernel) (by decide)) ?_
      exact rl_zretk (by decide +kernel) rfl rfl
theorem e57 {d : Nat} {n : Nat} {x1 x2 : Int32} {M : am_M} {w : am_W4} (hn : n < 12) : am_ev (d + 1) 57 [am_P (13, n, 0), am_I x1, am_I x2] M (am_Z w) = if am_in x1 16 then am_cb ((am_ev d) 32 [am_P (24, n, x1.toNatClampNeg)] M (am_Z w)) fun v M' X' => am_rn (am_ev d) 57 9 [some (am_P (13, n, 0)), some (am_I x1), some (am_I x2), none, none] (v.toList ++ []) M' X' else none := (am_ev_eq d 57 _ M (am_Z w)).trans (b57_0 hn)
theorem b58_0 {n : Nat} {M : am_M} {w : am_W4} (hn : n < 12) : am_rn call 58 0 [some (am_P (13, n, 0)), none, none] [] M (am_Z w) = am_rn call 58 4 [some (am_P (13, n, 0)), some (am_I (nI 0)), some (am_I (nI 1))] [] M (am_Z w) := by
  refine Eq.trans (rl_iconst (c := 0) (k := (nI 0)) (by decide +kernel) (by decide)) ?_
  refine Eq.trans (rl_istoren (j := 1) (ls' := [some (am_P (13, n, 0)), some (am_I (nI 0)), none]) (by decide +kernel) rfl rfl) ?_
  refine Eq.trans (rl_iconst (c := 1) (k := (nI 1)) (by decide +kernel) (by decide)) ?_
  refine Eq.trans (rl_istoren (j := 2) (ls' := [some (am_P (13, n, 0)), some (am_I (nI 0)), some (am_I (nI 1))]) (by decide +kernel) rfl rfl) ?_
  rfl
theorem b58_4 {n : Nat} {x1 x2 : Int32} {M : am_M} {w : am_W4} (hn : n < 12) : am_rn call 58 4 [some (am_P (13, n, 0)), some (am_I x1), some (am_I x2)] [] M (am_Z w) = if (nI 8) < x2 then some (.inl (some (am_I x1)), M, (am_Z w)) else if am_in x2 9 then if (M (16, n, 0) x2.toNatClampNeg) = 0 then am_rn call 58 22 [some (am_P (13, n, 0)), some (am_I x1), some (am_I x2)] [] M (am_Z w) else am_rn call 58 22 [some (am_P (13, n, 0)), some (am_I (x1 + (nI 1))), some (am_I x2)] [] M (am_Z w) else none := by
  refine Eq.trans (rl_iloadn (j := 2) (by decide +kernel) rfl) ?_
  refine Eq.trans (rl_bipush (c := 8) (k := (nI 8)) (by decide +kernel) (by decide)) ?_
  refine Eq.trans (rl_icgt (o := 21) 28 (by decide +kernel) (by decide)) ?_
  refine am_ite (fun h_1 => ?_) (fun h_1 => ?_)
  · skip
    refine Eq.trans (rl_iloadn (j := 1) (by decide +kernel) rfl) ?_
    exact rl_iret (by decide +kernel) rfl
  · skip
    refine Eq.trans (rl_aloadn (j := 0) (by decide +kernel) rfl) ?_
    refine Eq.trans (rl_getP (ix := 23) (ci := 5) (j := 4) (by decide +kernel) (by decide +kernel) (by decide +kernel) (ck13 hn) rfl) ?_
    refine Eq.trans (rl_iloadn (j := 2) (by decide +kernel) rfl) ?_
    refine Eq.trans (rl_iald (by decide +kernel) (ka16 hn)) ?_
    refine am_ite (fun h_2 => ?_) (fun _ => rfl)
    refine Eq.trans (rl_ifeq (o := 6) 22 (by decide +kernel) (by decide)) ?_
    refine am_ite (fun h_3 => ?_) (fun h_3 => ?_)
    · skip
      rfl
    · skip
      refine Eq.trans (rl_iinc (j := 1) (c := 1) (k := (nI 1)) (ls' := [some (am_P (13, n, 0)), some (am_I (x1 + (nI 1))), some (am_I x2)]) (by decide +kernel) (by decide) rfl rfl) ?_
      rfl
theorem b58_22 {n : Nat} {x1 x2 : Int32} {M : am_M} {w : am_W4} (hn : n < 12) : am_rn call 58 22 [some (am_P (13, n, 0)), some (am_I x1), some (am_I x2)] [] M (am_Z w) = am_rn call 58 4 [some (am_P (13, n, 0)), some (am_I x1), some (am_I (x2 + (nI 1)))] [] M (am_Z w) := by
  refine Eq.trans (rl_iinc (j := 2) (c := 1) (k := (nI 1)) (ls' := [some (am_P (13, n, 0)), some (am_I x1), some (am_I (x2 + (nI 1)))]) (by decide +kernel) (by decide) rfl rfl) ?_
  refine Eq.trans (rl_goto (o := (-21)) 4 (by decide +kernel) (by decide)) ?_
  rfl
theorem e58 {d : Nat} {n : Nat} {M : am_M} {w : am_W4} (hn : n < 12) : am_ev (d + 1) 58 [am_P (13, n, 0)] M (am_Z w) = am_rn (am_ev d) 58 4 [some (am_P (13, n, 0)), some (am_I (nI 0)), some (am_I (nI 1))] [] M (am_Z w) := (am_ev_eq d 58 _ M (am_Z w)).trans (b58_0 hn)
theorem b59_0 {n : Nat} {x1 : Int32} {M : am_M} {w : am_W4} (hn : n < 12) : am_rn call 59 0 [some (am_P (13, n, 0)), some (am_I x1), none, none] [] M (am_Z w) = am_rn call 59 4 [some (am_P (13, n, 0)), some (am_I x1), some (am_I (nI 0)), some (am_I (nI 0))] [] M (am_Z w) := by
  refine Eq.trans (rl_iconst (c := 0) (k := (nI 0)) (by decide +kernel) (by decide)) ?_
  refine Eq.trans (rl_istoren (j := 2) (ls' := [some (am_P (13, n, 0)), some (am_I x1), some (am_I (nI 0)), none]) (by decide +kernel) rfl rfl) ?_
  refine Eq.trans (rl_iconst (c := 0) (k := (nI 0)) (by decide +kernel) (by decide)) ?_
  refine Eq.trans (rl_istoren (j := 3) (ls' := [some (am_P (13, n, 0)), some (am_I x1), some (am_I (nI 0)), some (am_I (nI 0))]) (by decide +kernel) rfl rfl) ?_
  rfl
theorem b59_4 {n : Nat} {x1 x2 x3 : Int32} {M : am_M} {w : am_W4} (hn : n < 12) : am_rn call 59 4 [some (am_P (13, n, 0)), some (am_I x1), some (am_I x2), some (am_I x3)] [] M (am_Z w) = if x3 < (M (13, n, 0) 5) then if am_in x3 16 then if (M (24, n, x3.toNatClampNeg) 3) = x1 then am_rn call 59 28 [some (am_P (13, n, 0)), some (am_I x1), some (am_I (x2 + (nI 1))), some (am_I x3)] [] M (am_Z w) else am_rn call 59 28 [some (am_P (13, n, 0)), some (am_I x1), some (am_I x2), some (am_I x3)] [] M (am_Z w) else none else some (.inl (some (am_I x2)), M, (am_Z w)) := by
  refine Eq.trans (rl_iloadn (j := 3) (by decide +kernel) rfl) ?_
  refine Eq.trans (rl_aloadn (j := 0) (by decide +kernel) rfl) ?_
  refine Eq.trans (rl_get (ix := 65) (ci := 5) (j := 5) (by decide +kernel) (by decide +kernel) (by decide +kernel) (ck13 hn)) ?_
  refine Eq.trans (rl_icge (o := 25) 34 (by decide +kernel) (by decide)) ?_
  refine am_ite (fun h_1 => ?_) (fun h_1 => ?_)
  · skip
    refine Eq.trans (rl_aloadn (j := 0) (by decide +kernel) rfl) ?_
    refine Eq.trans (rl_getP (ix := 29) (ci := 5) (j := 6) (by decide +kernel) (by decide +kernel) (by decide +kernel) (ck13 hn) rfl) ?_
    refine Eq.trans (rl_iloadn (j := 3) (by decide +kernel) rfl) ?_
    refine Eq.trans (rl_aald (v := (24, n, x3.toNatClampNeg)) (by decide +kernel) (ka17 hn) (fun h => if_pos (am_in_lt' h))) ?_
    refine am_ite (fun h_2 => ?_) (fun _ => rfl)
    refine Eq.trans (rl_get (ix := 171) (ci := 4) (j := 3) (by decide +kernel) (by decide +kernel) (by decide +kernel) (ck24 hn (am_in_lt' h_2))) ?_
    refine Eq.trans (rl_iloadn (j := 1) (by decide +kernel) rfl) ?_
    refine Eq.trans (rl_icne (o := 6) 28 (by decide +kernel) (by decide)) ?_
    refine am_ite (fun h_3 => ?_) (fun h_3 => ?_)
    · skip
      refine Eq.trans (rl_iinc (j := 2) (c := 1) (k := (nI 1)) (ls' := [some (am_P (13, n, 0)), some (am_I x1), some (am_I (x2 + (nI 1))), some (am_I x3)]) (by decide +kernel) (by decide) rfl rfl) ?_
      rfl
    · skip
      rfl
  · skip
    refine Eq.trans (rl_iloadn (j := 2) (by decide +kernel) rfl) ?_
    exact rl_iret (by decide +kernel) rfl
theorem b59_28 {n : Nat} {x1 x2 x3 : Int32} {M : am_M} {w : am_W4} (hn : n < 12) : am_rn call 59 28 [some (am_P (13, n, 0)), some (am_I x1), some (am_I x2), some (am_I x3)] [] M (am_Z w) = am_rn call 59 4 [some (am_P (13, n, 0)), some (am_I x1), some (am_I x2), some (am_I (x3 + (nI 1)))] [] M (am_Z w) := by
  refine Eq.trans (rl_iinc (j := 3) (c := 1) (k := (nI 1)) (ls' := [some (am_P (13, n, 0)), some (am_I x1), some (am_I x2), some (am_I (x3 + (nI 1)))]) (by decide +kernel) (by decide) rfl rfl) ?_
  refine Eq.trans (rl_goto (o := (-27)) 4 (by decide +kernel) (by decide)) ?_
  rfl
theorem e59 {d : Nat} {n : Nat} {x1 : Int32} {M : am_M} {w : am_W4} (hn : n < 12) : am_ev (d + 1) 59 [am_P (13, n, 0), am_I x1] M (am_Z w) = am_rn (am_ev d) 59 4 [some (am_P (13, n, 0)), some (am_I x1), some (am_I (nI 0)), some (am_I (nI 0))] [] M (am_Z w) := (am_ev_eq d 59 _ M (am_Z w)).trans (b59_0 hn)
theorem b60_0 {n : Nat} {M : am_M} {w : am_W4} (hn : n < 12) : am_rn call 60 0 [some (am_P (13, n, 0)), none, none] [] M (am_Z w) = am_rn call 60 4 [some (am_P (13, n, 0)), some (am_I (nI 0)), some (am_I (nI 0))] [] M (am_Z w) := by
  refine Eq.trans (rl_iconst (c := 0) (k := (nI 0)) (by decide +kernel) (by decide)) ?_
  refine Eq.trans (rl_istoren (j := 1) (ls' := [some (am_P (13, n, 0)), some (am_I (nI 0)), none]) (by decide +kernel) rfl rfl) ?_
  refine Eq.trans (rl_iconst (c := 0) (k := (nI 0)) (by decide +kernel) (by decide)) ?_
  refine Eq.trans (rl_istoren (j := 2) (ls' := [some (am_P (13, n, 0)), some (am_I (nI 0)), some (am_I (nI 0))]) (by decide +kernel) rfl rfl) ?_
  rfl
theorem b60_4 {n : Nat} {x1 x2 : Int32} {M : am_M} {w : am_W4} (hn : n < 12) : am_rn call 60 4 [some (am_P (13, n, 0)), some (am_I x1), some (am_I x2)] [] M (am_Z w) = if x2 < (M (13, n, 0) 1) then if am_in x2 6 then am_rn call 60 4 [some (am_P (13, n, 0)), some (am_I (x1 + (M (21, n, x2.toNatClampNeg) 4))), some (am_I (x2 + (nI 1)))] [] M (am_Z w) else none else some (.inl (some (am_I x1)), M, (am_Z w)) := by
  refine Eq.trans (rl_iloadn (j := 2) (by decide +kernel) rfl) ?_
  refine Eq.trans (rl_aloadn (j := 0) (by decide +kernel) rfl) ?_
  refine Eq.trans (rl_get (ix := 46) (ci := 5) (j := 1) (by decide +kernel) (by decide +kernel) (by decide +kernel) (ck13 hn)) ?_
  refine Eq.trans (rl_icge (o := 21) 30 (by decide +kernel) (by decide)) ?_
  refine am_ite (fun h_1 => ?_) (fun h_1 => ?_)
  · skip
    refine Eq.trans (rl_iloadn (j := 1) (by decide +kernel) rfl) ?_
    refine Eq.trans (rl_aloadn (j := 0) (by decide +kernel) rfl) ?_
    refine Eq.trans (rl_getP (ix := 11) (ci := 5) (j := 2) (by decide +kernel) (by decide +kernel) (by decide +kernel) (ck13 hn) rfl) ?_
    refine Eq.trans (rl_iloadn (j := 2) (by decide +kernel) rfl) ?_
    refine Eq.trans (rl_aald (v := (21, n, x2.toNatClampNeg)) (by decide +kernel) (ka14 hn) (fun h => if_pos (am_in_lt' h))) ?_
    refine am_ite (fun h_2 => ?_) (fun _ => rfl)
    refine Eq.trans (rl_get (ix := 196) (ci := 2) (j := 4) (by decide +kernel) (by decide +kernel) (by decide +kernel) (ck21 hn (am_in_lt' h_2))) ?_
    refine Eq.trans (rl_iadd (by decide +kernel)) ?_
    refine Eq.trans (rl_istoren (j := 1) (ls' := [some (am_P (13, n, 0)), some (am_I (x1 + (M (21, n, x2.toNatClampNeg) 4))), some (am_I x2)]) (by decide +kernel) rfl rfl) ?_
    refine Eq.trans (rl_iinc (j := 2) (c := 1) (k := (nI 1)) (ls' := [some (am_P (13, n, 0)), some (am_I (x1 + (M (21, n, x2.toNatClampNeg) 4))), some (am_I (x2 + (nI 1)))]) (by decide +kernel) (by decide) rfl rfl) ?_
    refine Eq.trans (rl_goto (o := (-23)) 4 (by decide +kernel) (by decide)) ?_
    rfl
  · skip
    refine Eq.trans (rl_iloadn (j := 1) (by decide +kernel) rfl) ?_
    exact rl_iret (by decide +kernel) rfl
theorem e60 {d : Nat} {n : Nat} {M : am_M} {w : am_W4} (hn : n < 12) : am_ev (d + 1) 60 [am_P (13, n, 0)] M (am_Z w) = am_rn (am_ev d) 60 4 [some (am_P (13, n, 0)), some (am_I (nI 0)), some (am_I (nI 0))] [] M (am_Z w) := (am_ev_eq d 60 _ M (am_Z w)).trans (b60_0 hn)
theorem b61_0 {n : Nat} {M : am_M} {w : am_W4} (hn : n < 12) : am_rn call 61 0 [some (am_P (13, n, 0)), none, none] [] M (am_Z w) = am_rn call 61 4 [some (am_P (13, n, 0)), some (am_I (nI 0)), some (am_I (nI 0))] [] M (am_Z w) := by
  refine Eq.trans (rl_iconst (c := 0) (k := (nI 0)) (by decide +kernel) (by decide)) ?_
  refine Eq.trans (rl_istoren (j := 1) (ls' := [some (am_P (13, n, 0)), some (am_I (nI 0)), none]) (by decide +kernel) rfl rfl) ?_
  refine Eq.trans (rl_iconst (c := 0) (k := (nI 0)) (by decide +kernel) (by decide)) ?_
  refine Eq.trans (rl_istoren (j := 2) (ls' := [some (am_P (13, n, 0)), some (am_I (nI 0)), some (am_I (nI 0))]) (by decide +kernel) rfl rfl) ?_
  rfl
theorem b61_4 {n : Nat} {x1 x2 : Int32} {M : am_M} {w : am_W4} (hn : n < 12) : am_rn call 61 4 [some (am_P (13, n, 0)), some (am_I x1), some (am_I x2)] [] M (am_Z w) = if x2 < (M (13, n, 0) 1) then if am_in x2 6 then am_cb (call 38 [am_P (13, n, 0)] M (am_Z w)) fun v M' X' => am_rn call 61 22 [some (am_P (13, n, 0)), some (am_I x1), some (am_I x2)] (v.toList ++ [am_P (21, n, x2.toNatClampNeg)]) M' X' else none else some (.inl (some (am_I x1)), M, (am_Z w)) := by
  refine Eq.trans (rl_iloadn (j := 2) (by decide +kernel) rfl) ?_
  refine Eq.trans (rl_aloadn (j := 0) (by decide +kernel) rfl) ?_
  refine Eq.trans (rl_get (ix := 46) (ci := 5) (j := 1) (by decide +kernel) (by decide +kernel) (by decide +kernel) (ck13 hn)) ?_
  refine Eq.trans (rl_icge (o := 28) 37 (by decide +kernel) (by decide)) ?_
  refine am_ite (fun h_1 => ?_) (fun h_1 => ?_)
  · skip
    refine Eq.trans (rl_aloadn (j := 0) (by decide +kernel) rfl) ?_
    refine Eq.trans (rl_getP (ix := 11) (ci := 5) (j := 2) (by decide +kernel) (by decide +kernel) (by decide +kernel) (ck13 hn) rfl) ?_
    refine Eq.trans (rl_iloadn (j := 2) (by decide +kernel) rfl) ?_
    refine Eq.trans (rl_aald (v := (21, n, x2.toNatClampNeg)) (by decide +kernel) (ka14 hn) (fun h => if_pos (am_in_lt' h))) ?_
    refine am_ite (fun h_2 => ?_) (fun _ => rfl)
    refine Eq.trans (rl_aloadn (j := 0) (by decide +kernel) rfl) ?_
    refine Eq.trans (rl_inv (ix := 183) (n := 0) (o := 5) 38 [] [am_P (21, n, x2.toNatClampNeg)] (by decide +kernel) (by decide +kernel) (by decide +kernel) (by decide +kernel) ⟨rfl, rfl⟩ rfl rfl (ck13 hn)) ?_
    rfl
  · skip
    refine Eq.trans (rl_iloadn (j := 1) (by decide +kernel) rfl) ?_
    exact rl_iret (by decide +kernel) rfl
theorem b61_22 {n s1 : Nat} {x1 x2 s0 : Int32} {M : am_M} {w : am_W4} (hn : n < 12) (hs1 : s1 < 6) : am_rn call 61 22 [some (am_P (13, n, 0)), some (am_I x1), some (am_I x2)] [am_I s0, am_P (21, n, s1)] M (am_Z w) = am_cb (call 18 [am_P (21, n, s1), am_I s0] M (am_Z w)) fun v M' X' => am_rn call 61 25 [some (am_P (13, n, 0)), some (am_I x1), some (am_I x2)] (v.toList ++ []) M' X' := by
  refine Eq.trans (rl_inv (ix := 190) (n := 1) (o := 2) 18 [am_I s0] [] (by decide +kernel) (by decide +kernel) (by decide +kernel) (by decide +kernel) ⟨rfl, rfl⟩ rfl rfl (ck21 hn hs1)) ?_
  rfl
theorem b61_25 {n : Nat} {x1 x2 s0 : Int32} {M : am_M} {w : am_W4} (hn : n < 12) : am_rn call 61 25 [some (am_P (13, n, 0)), some (am_I x1), some (am_I x2)] [am_I s0] M (am_Z w) = if s0 = 0 then am_rn call 61 31 [some (am_P (13, n, 0)), some (am_I x1), some (am_I x2)] [] M (am_Z w) else am_rn call 61 31 [some (am_P (13, n, 0)), some (am_I (x1 + (nI 1))), some (am_I x2)] [] M (am_Z w) := by
  refine Eq.trans (rl_ifeq (o := 6) 31 (by decide +kernel) (by decide)) ?_
  refine am_ite (fun h_1 => ?_) (fun h_1 => ?_)
  · skip
    rfl
  · skip
    refine Eq.trans (rl_iinc (j := 1) (c := 1) (k := (nI 1)) (ls' := [some (am_P (13, n, 0)), some (am_I (x1 + (nI 1))), some (am_I x2)]) (by decide +kernel) (by decide) rfl rfl) ?_
    rfl
theorem b61_31 {n : Nat} {x1 x2 : Int32} {M : am_M} {w : am_W4} (hn : n < 12) : am_rn call 61 31 [some (am_P (13, n, 0)), some (am_I x1), some (am_I x2)] [] M (am_Z w) = am_rn call 61 4 [some (am_P (13, n, 0)), some (am_I x1), some (am_I (x2 + (nI 1)))] [] M (am_Z w) := by
  refine Eq.trans (rl_iinc (j := 2) (c := 1) (k := (nI 1)) (ls' := [some (am_P (13, n, 0)), some (am_I x1), some (am_I (x2 + (nI 1)))]) (by decide +kernel) (by decide) rfl rfl) ?_
  refine Eq.trans (rl_goto (o := (-30)) 4 (by decide +kernel) (by decide)) ?_
  rfl
theorem e61 {d : Nat} {n : Nat} {M : am_M} {w : am_W4} (hn : n < 12) : am_ev (d + 1) 61 [am_P (13, n, 0)] M (am_Z w) = am_rn (am_ev d) 61 4 [some (am_P (13, n, 0)), some (am_I (nI 0)), some (am_I (nI 0))] [] M (am_Z w) := (am_ev_eq d 61 _ M (am_Z w)).trans (b61_0 hn)
theorem b63_0 {x1 x2 : Int32} {M : am_M} {w : am_W4}  : am_rn call 63 0 [some (am_P (6, 0, 0)), some (am_I x1), some (am_I x2)] [] M (am_Z w) = some (.inl (some (am_I (-1 : Int32))), (am_set (am_set M (6, 0, 0) 0 x1) (6, 0, 0) 1 x2), (am_Z w)) := by
  refine Eq.trans (rl_aloadn (j := 0) (by decide +kernel) rfl) ?_
  refine Eq.trans (rl_iloadn (j := 1) (by decide +kernel) rfl) ?_
  refine Eq.trans (rl_put (ix := 9) (ci := 6) (j := 0) (by decide +kernel) (by decide +kernel) (by decide +kernel) (by decide +kernel) ck6) ?_
  refine Eq.trans (rl_aloadn (j := 0) (by decide +kernel) rfl) ?_
  refine Eq.trans (rl_iloadn (j := 2) (by decide +kernel) rfl) ?_
  refine Eq.trans (rl_put (ix := 15) (ci := 6) (j := 1) (by decide +kernel) (by decide +kernel) (by decide +kernel) (by decide +kernel) ck6) ?_
  refine Eq.trans (rl_iconst (c := -1) (k := (-1 : Int32)) (by decide +kernel) (by decide)) ?_
  exact rl_iret (by decide +kernel) rfl
theorem e63 {d : Nat} {x1 x2 : Int32} {M : am_M} {w : am_W4}  : am_ev (d + 1) 63 [am_P (6, 0, 0), am_I x1, am_I x2] M (am_Z w) = some (.inl (some (am_I (-1 : Int32))), (am_set (am_set M (6, 0, 0) 0 x1) (6, 0, 0) 1 x2), (am_Z w)) := (am_ev_eq d 63 _ M (am_Z w)).trans (b63_0)
end AmBl
