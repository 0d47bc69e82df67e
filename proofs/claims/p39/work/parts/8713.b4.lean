section AmBl
variable {call : Nat → List am_V → am_M → am_X → Option am_R}
theorem b113_0 {x1 : Int32} {M : am_M} {w : am_W4}  : am_rn call 113 0 [some (am_P (0, 0, 0)), some (am_I x1)] [] M (am_Z w) = if x1 < (M (0, 0, 1) 0) then if am_in x1 (M (0, 0, 1) 0).toNatClampNeg then some (.inl (some (am_I (M (0, 0, 0) x1.toNatClampNeg))), M, (am_Z w)) else none else some (.inl (some (am_I (nI 0))), M, (am_Z w)) := by
  refine Eq.trans (rl_iloadn (j := 1) (by decide +kernel) rfl) ?_
  refine Eq.trans (rl_aloadn (j := 0) (by decide +kernel) rfl) ?_
  refine Eq.trans (rl_alen (by decide +kernel)) ?_
  refine Eq.trans (rl_icge (o := 9) 12 (by decide +kernel) (by decide)) ?_
  refine am_ite (fun h_1 => ?_) (fun h_1 => ?_)
  · skip
    refine Eq.trans (rl_aloadn (j := 0) (by decide +kernel) rfl) ?_
    refine Eq.trans (rl_iloadn (j := 1) (by decide +kernel) rfl) ?_
    refine Eq.trans (rl_sald (by decide +kernel)) ?_
    refine am_ite (fun h_2 => ?_) (fun _ => rfl)
    refine Eq.trans (rl_goto (o := 4) 13 (by decide +kernel) (by decide)) ?_
    exact rl_iret (by decide +kernel) rfl
  · skip
    refine Eq.trans (rl_iconst (c := 0) (k := (nI 0)) (by decide +kernel) (by decide)) ?_
    exact rl_iret (by decide +kernel) rfl
theorem e113 {d : Nat} {x1 : Int32} {M : am_M} {w : am_W4}  : am_ev (d + 1) 113 [am_P (0, 0, 0), am_I x1] M (am_Z w) = if x1 < (M (0, 0, 1) 0) then if am_in x1 (M (0, 0, 1) 0).toNatClampNeg then some (.inl (some (am_I (M (0, 0, 0) x1.toNatClampNeg))), M, (am_Z w)) else none else some (.inl (some (am_I (nI 0))), M, (am_Z w)) := (am_ev_eq d 113 _ M (am_Z w)).trans (b113_0)
theorem b114_0 {x0 x1 : Int32} {M : am_M} {w : am_W4} (h0 : decide (x1 = 0) = false) : am_rn call 114 0 [some (am_I x0), some (am_I x1), none] [] M (am_Z w) = if (x0 - x0 / x1 * x1) < 0 then some (.inl (some (am_I ((x0 - x0 / x1 * x1) + x1))), M, (am_Z w)) else some (.inl (some (am_I (x0 - x0 / x1 * x1))), M, (am_Z w)) := by
  refine Eq.trans (rl_iloadn (j := 0) (by decide +kernel) rfl) ?_
  refine Eq.trans (rl_iloadn (j := 1) (by decide +kernel) rfl) ?_
  refine Eq.trans (rl_irem (by decide +kernel) h0) ?_
  refine Eq.trans (rl_istoren (j := 2) (ls' := [some (am_I x0), some (am_I x1), some (am_I (x0 - x0 / x1 * x1))]) (by decide +kernel) rfl rfl) ?_
  refine Eq.trans (rl_iloadn (j := 2) (by decide +kernel) rfl) ?_
  refine Eq.trans (rl_ifge (o := 9) 14 (by decide +kernel) (by decide)) ?_
  refine am_ite (fun h_1 => ?_) (fun h_1 => ?_)
  · skip
    refine Eq.trans (rl_iloadn (j := 2) (by decide +kernel) rfl) ?_
    refine Eq.trans (rl_iloadn (j := 1) (by decide +kernel) rfl) ?_
    refine Eq.trans (rl_iadd (by decide +kernel)) ?_
    refine Eq.trans (rl_goto (o := 4) 15 (by decide +kernel) (by decide)) ?_
    exact rl_iret (by decide +kernel) rfl
  · skip
    refine Eq.trans (rl_iloadn (j := 2) (by decide +kernel) rfl) ?_
    exact rl_iret (by decide +kernel) rfl
theorem e114 {d : Nat} {x0 x1 : Int32} {M : am_M} {w : am_W4} (h0 : decide (x1 = 0) = false) : am_ev (d + 1) 114 [am_I x0, am_I x1] M (am_Z w) = if (x0 - x0 / x1 * x1) < 0 then some (.inl (some (am_I ((x0 - x0 / x1 * x1) + x1))), M, (am_Z w)) else some (.inl (some (am_I (x0 - x0 / x1 * x1))), M, (am_Z w)) := (am_ev_eq d 114 _ M (am_Z w)).trans (b114_0 h0)
theorem b115_0 {x1 x2 x3 : Int32} {M : am_M} {w : am_W4}  : am_rn call 115 0 [some (am_P (3, 0, 0)), some (am_I x1), some (am_I x2), some (am_I x3), none] [] M (am_Z w) = am_bk 115 4 [some (am_P (3, 0, 0)), some (am_I x1), some (am_I x2), some (am_I x3), none] [] (call 66 [am_P (3, 0, 0), am_I x1, am_I x2, am_I x3] M (am_Z w)) (am_rn call 115) some := by
  refine Eq.trans (rl_aloadn (j := 0) (by decide +kernel) rfl) ?_
  refine Eq.trans (rl_iloadn (j := 1) (by decide +kernel) rfl) ?_
  refine Eq.trans (rl_iloadn (j := 2) (by decide +kernel) rfl) ?_
  refine Eq.trans (rl_iloadn (j := 3) (by decide +kernel) rfl) ?_
  refine Eq.trans (rl_invH (ix := 7) (n := 3) (o := 8) 66 [am_I x1, am_I x2, am_I x3] [] (by decide +kernel) (by decide +kernel) (by decide +kernel) (by decide +kernel) rfl rfl ck3) ?_
  rfl
theorem b115_7 {x1 x2 x3 s0 : Int32} {M : am_M} {w : am_W4}  : am_rn call 115 7 [some (am_P (3, 0, 0)), some (am_I x1), some (am_I x2), some (am_I x3), none] [am_I s0] M (am_Z w) = some (.inl (some (am_I s0)), M, (am_Z w)) := by
  exact rl_iret (by decide +kernel) rfl
theorem b115_10 {x1 x2 x3 : Int32} {x4 : Option am_V} {M : am_M} {w : am_W4}  : am_rn call 115 10 [some (am_P (3, 0, 0)), some (am_I x1), some (am_I x2), some (am_I x3), x4] [] M (am_Z w) = some (.inl (some (am_I (-1001 : Int32))), M, (am_Z w)) := by
  refine Eq.trans (rl_sipush (c := -1001) (k := (-1001 : Int32)) (by decide +kernel) (by decide)) ?_
  exact rl_iret (by decide +kernel) rfl
theorem e115 {d : Nat} {x1 x2 x3 : Int32} {M : am_M} {w : am_W4}  : am_ev (d + 1) 115 [am_P (3, 0, 0), am_I x1, am_I x2, am_I x3] M (am_Z w) = am_bk 115 4 [some (am_P (3, 0, 0)), some (am_I x1), some (am_I x2), some (am_I x3), none] [] ((am_ev d) 66 [am_P (3, 0, 0), am_I x1, am_I x2, am_I x3] M (am_Z w)) (am_rn (am_ev d) 115) some := (am_ev_eq d 115 _ M (am_Z w)).trans (b115_0)
theorem b116_0 {x1 x2 : Int32} {M : am_M} {w : am_W4}  : am_rn call 116 0 [some (am_P (3, 0, 0)), some (am_I x1), some (am_I x2), none] [] M (am_Z w) = am_bk 116 3 [some (am_P (3, 0, 0)), some (am_I x1), some (am_I x2), none] [] (call 67 [am_P (3, 0, 0), am_I x1, am_I x2] M (am_Z w)) (am_rn call 116) some := by
  refine Eq.trans (rl_aloadn (j := 0) (by decide +kernel) rfl) ?_
  refine Eq.trans (rl_iloadn (j := 1) (by decide +kernel) rfl) ?_
  refine Eq.trans (rl_iloadn (j := 2) (by decide +kernel) rfl) ?_
  refine Eq.trans (rl_invH (ix := 15) (n := 2) (o := 8) 67 [am_I x1, am_I x2] [] (by decide +kernel) (by decide +kernel) (by decide +kernel) (by decide +kernel) rfl rfl ck3) ?_
  rfl
theorem b116_6 {x1 x2 s0 : Int32} {M : am_M} {w : am_W4}  : am_rn call 116 6 [some (am_P (3, 0, 0)), some (am_I x1), some (am_I x2), none] [am_I s0] M (am_Z w) = some (.inl (some (am_I s0)), M, (am_Z w)) := by
  exact rl_iret (by decide +kernel) rfl
theorem b116_8 {x1 x2 : Int32} {x3 : Option am_V} {M : am_M} {w : am_W4}  : am_rn call 116 8 [some (am_P (3, 0, 0)), some (am_I x1), some (am_I x2), x3] [] M (am_Z w) = some (.inl (some (am_I (-1001 : Int32))), M, (am_Z w)) := by
  refine Eq.trans (rl_sipush (c := -1001) (k := (-1001 : Int32)) (by decide +kernel) (by decide)) ?_
  exact rl_iret (by decide +kernel) rfl
theorem e116 {d : Nat} {x1 x2 : Int32} {M : am_M} {w : am_W4}  : am_ev (d + 1) 116 [am_P (3, 0, 0), am_I x1, am_I x2] M (am_Z w) = am_bk 116 3 [some (am_P (3, 0, 0)), some (am_I x1), some (am_I x2), none] [] ((am_ev d) 67 [am_P (3, 0, 0), am_I x1, am_I x2] M (am_Z w)) (am_rn (am_ev d) 116) some := (am_ev_eq d 116 _ M (am_Z w)).trans (b116_0)
theorem b117_0 {x1 x2 x3 : Int32} {M : am_M} {w : am_W4}  : am_rn call 117 0 [some (am_P (3, 0, 0)), some (am_I x1), some (am_I x2), some (am_I x3), none] [] M (am_Z w) = am_bk 117 4 [some (am_P (3, 0, 0)), some (am_I x1), some (am_I x2), some (am_I x3), none] [] (call 68 [am_P (3, 0, 0), am_I x1, am_I x2, am_I x3] M (am_Z w)) (am_rn call 117) some := by
  refine Eq.trans (rl_aloadn (j := 0) (by decide +kernel) rfl) ?_
  refine Eq.trans (rl_iloadn (j := 1) (by decide +kernel) rfl) ?_
  refine Eq.trans (rl_iloadn (j := 2) (by decide +kernel) rfl) ?_
  refine Eq.trans (rl_iloadn (j := 3) (by decide +kernel) rfl) ?_
  refine Eq.trans (rl_invH (ix := 19) (n := 3) (o := 8) 68 [am_I x1, am_I x2, am_I x3] [] (by decide +kernel) (by decide +kernel) (by decide +kernel) (by decide +kernel) rfl rfl ck3) ?_
  rfl
theorem b117_7 {x1 x2 x3 s0 : Int32} {M : am_M} {w : am_W4}  : am_rn call 117 7 [some (am_P (3, 0, 0)), some (am_I x1), some (am_I x2), some (am_I x3), none] [am_I s0] M (am_Z w) = some (.inl (some (am_I s0)), M, (am_Z w)) := by
  exact rl_iret (by decide +kernel) rfl
theorem b117_10 {x1 x2 x3 : Int32} {x4 : Option am_V} {M : am_M} {w : am_W4}  : am_rn call 117 10 [some (am_P (3, 0, 0)), some (am_I x1), some (am_I x2), some (am_I x3), x4] [] M (am_Z w) = some (.inl (some (am_I (-1001 : Int32))), M, (am_Z w)) := by
  refine Eq.trans (rl_sipush (c := -1001) (k := (-1001 : Int32)) (by decide +kernel) (by decide)) ?_
  exact rl_iret (by decide +kernel) rfl
theorem e117 {d : Nat} {x1 x2 x3 : Int32} {M : am_M} {w : am_W4}  : am_ev (d + 1) 117 [am_P (3, 0, 0), am_I x1, am_I x2, am_I x3] M (am_Z w) = am_bk 117 4 [some (am_P (3, 0, 0)), some (am_I x1), some (am_I x2), some (am_I x3), none] [] ((am_ev d) 68 [am_P (3, 0, 0), am_I x1, am_I x2, am_I x3] M (am_Z w)) (am_rn (am_ev d) 117) some := (am_ev_eq d 117 _ M (am_Z w)).trans (b117_0)
theorem b118_0 {x1 x2 : Int32} {M : am_M} {w : am_W4}  : am_rn call 118 0 [some (am_P (3, 0, 0)), some (am_I x1), some (am_I x2), none] [] M (am_Z w) = am_bk 118 3 [some (am_P (3, 0, 0)), some (am_I x1), some (am_I x2), none] [] (call 69 [am_P (3, 0, 0), am_I x1, am_I x2] M (am_Z w)) (am_rn call 118) some := by
  refine Eq.trans (rl_aloadn (j := 0) (by decide +kernel) rfl) ?_
  refine Eq.trans (rl_iloadn (j := 1) (by decide +kernel) rfl) ?_
  refine Eq.trans (rl_iloadn (j := 2) (by decide +kernel) rfl) ?_
  refine Eq.trans (rl_invH (ix := 22) (n := 2) (o := 8) 69 [am_I x1, am_I x2] [] (by decide +kernel) (by decide +kernel) (by decide +kernel) (by decide +kernel) rfl rfl ck3) ?_
  rfl
theorem b118_6 {x1 x2 s0 : Int32} {M : am_M} {w : am_W4}  : am_rn call 118 6 [some (am_P (3, 0, 0)), some (am_I x1), some (am_I x2), none] [am_I s0] M (am_Z w) = some (.inl (some (am_I s0)), M, (am_Z w)) := by
  exact rl_iret (by decide +kernel) rfl
theorem b118_8 {x1 x2 : Int32} {x3 : Option am_V} {M : am_M} {w : am_W4}  : am_rn call 118 8 [some (am_P (3, 0, 0)), some (am_I x1), some (am_I x2), x3] [] M (am_Z w) = some (.inl (some (am_I (-1001 : Int32))), M, (am_Z w)) := by
  refine Eq.trans (rl_sipush (c := -1001) (k := (-1001 : Int32)) (by decide +kernel) (by decide)) ?_
  exact rl_iret (by decide +kernel) rfl
theorem e118 {d : Nat} {x1 x2 : Int32} {M : am_M} {w : am_W4}  : am_ev (d + 1) 118 [am_P (3, 0, 0), am_I x1, am_I x2] M (am_Z w) = am_bk 118 3 [some (am_P (3, 0, 0)), some (am_I x1), some (am_I x2), none] [] ((am_ev d) 69 [am_P (3, 0, 0), am_I x1, am_I x2] M (am_Z w)) (am_rn (am_ev d) 118) some := (am_ev_eq d 118 _ M (am_Z w)).trans (b118_0)
theorem b119_0 {x1 x2 : Int32} {M : am_M} {w : am_W4}  : am_rn call 119 0 [some (am_P (3, 0, 0)), some (am_I x1), some (am_I x2), none] [] M (am_Z w) = am_bk 119 3 [some (am_P (3, 0, 0)), some (am_I x1), some (am_I x2), none] [] (call 70 [am_P (3, 0, 0), am_I x1, am_I x2] M (am_Z w)) (am_rn call 119) some := by
  refine Eq.trans (rl_aloadn (j := 0) (by decide +kernel) rfl) ?_
  refine Eq.trans (rl_iloadn (j := 1) (by decide +kernel) rfl) ?_
  refine Eq.trans (rl_iloadn (j := 2) (by decide +kernel) rfl) ?_
  refine Eq.trans (rl_invH (ix := 25) (n := 2) (o := 8) 70 [am_I x1, am_I x2] [] (by decide +kernel) (by decide +kernel) (by decide +kernel) (by decide +kernel) rfl rfl ck3) ?_
  rfl
theorem b119_6 {x1 x2 s0 : Int32} {M : am_M} {w : am_W4}  : am_rn call 119 6 [some (am_P (3, 0, 0)), some (am_I x1), some (am_I x2), none] [am_I s0] M (am_Z w) = some (.inl (some (am_I s0)), M, (am_Z w)) := by
  exact rl_iret (by decide +kernel) rfl
theorem b119_8 {x1 x2 : Int32} {x3 : Option am_V} {M : am_M} {w : am_W4}  : am_rn call 119 8 [some (am_P (3, 0, 0)), some (am_I x1), some (am_I x2), x3] [] M (am_Z w) = some (.inl (some (am_I (-1001 : Int32))), M, (am_Z w)) := by
  refine Eq.trans (rl_sipush (c := -1001) (k := (-1001 : Int32)) (by decide +kernel) (by decide)) ?_
  exact rl_iret (by decide +kernel) rfl
theorem e119 {d : Nat} {x1 x2 : Int32} {M : am_M} {w : am_W4}  : am_ev (d + 1) 119 [am_P (3, 0, 0), am_I x1, am_I x2] M (am_Z w) = am_bk 119 3 [some (am_P (3, 0, 0)), some (am_I x1), some (am_I x2), none] [] ((am_ev d) 70 [am_P (3, 0, 0), am_I x1, am_I x2] M (am_Z w)) (am_rn (am_ev d) 119) some := (am_ev_eq d 119 _ M (am_Z w)).trans (b119_0)
theorem b120_0 {x1 x2 x3 : Int32} {M : am_M} {w : am_W4}  : am_rn call 120 0 [some (am_P (3, 0, 0)), some (am_I x1), some (am_I x2), some (am_I x3), none] [] M (am_Z w) = am_bk 120 4 [some (am_P (3, 0, 0)), some (am_I x1), some (am_I x2), some (am_I x3), none] [] (call 71 [am_P (3, 0, 0), am_I x1, am_I x2, am_I x3] M (am_Z w)) (am_rn call 120) some := by
  refine Eq.trans (rl_aloadn (j := 0) (by decide +kernel) rfl) ?_
  refine Eq.trans (rl_iloadn (j := 1) (by decide +kernel) rfl) ?_
  refine Eq.trans (rl_iloadn (j := 2) (by decide +kernel) rfl) ?_
  refine Eq.trans (rl_iloadn (j := 3) (by decide +kernel) rfl) ?_
  refine Eq.trans (rl_invH (ix := 28) (n := 3) (o := 8) 71 [am_I x1, am_I x2, am_I x3] [] (by decide +kernel) (by decide +kernel) (by decide +kernel) (by decide +kernel) rfl rfl ck3) ?_
  rfl
theorem b120_7 {x1 x2 x3 s0 : Int32} {M : am_M} {w : am_W4}  : am_rn call 120 7 [some (am_P (3, 0, 0)), some (am_I x1), some (am_I x2), some (am_I x3), none] [am_I s0] M (am_Z w) = some (.inl (some (am_I s0)), M, (am_Z w)) := by
  exact rl_iret (by decide +kernel) rfl
theorem b120_10 {x1 x2 x3 : Int32} {x4 : Option am_V} {M : am_M} {w : am_W4}  : am_rn call 120 10 [some (am_P (3, 0, 0)), some (am_I x1), some (am_I x2), some (am_I x3), x4] [] M (am_Z w) = some (.inl (some (am_I (-1001 : Int32))), M, (am_Z w)) := by
  refine Eq.trans (rl_sipush (c := -1001) (k := (-1001 : Int32)) (by decide +kernel) (by decide)) ?_
  exact rl_iret (by decide +kernel) rfl
theorem e120 {d : Nat} {x1 x2 x3 : Int32} {M : am_M} {w : am_W4}  : am_ev (d + 1) 120 [am_P (3, 0, 0), am_I x1, am_I x2, am_I x3] M (am_Z w) = am_bk 120 4 [some (am_P (3, 0, 0)), some (am_I x1), some (am_I x2), some (am_I x3), none] [] ((am_ev d) 71 [am_P (3, 0, 0), am_I x1, am_I x2, am_I x3] M (am_Z w)) (am_rn (am_ev d) 120) some := (am_ev_eq d 120 _ M (am_Z w)).trans (b120_0)
theorem b121_0 {x1 : Int32} {M : am_M} {w : am_W4}  : am_rn call 121 0 [some (am_P (3, 0, 0)), some (am_I x1), none] [] M (am_Z w) = am_bk 121 2 [some (am_P (3, 0, 0)), some (am_I x1), none] [] (call 72 [am_P (3, 0, 0), am_I x1] M (am_Z w)) (am_rn call 121) some := by
  refine Eq.trans (rl_aloadn (j := 0) (by decide +kernel) rfl) ?_
  refine Eq.trans (rl_iloadn (j := 1) (by decide +kernel) rfl) ?_
  refine Eq.trans (rl_invH (ix := 31) (n := 1) (o := 8) 72 [am_I x1] [] (by decide +kernel) (by decide +kernel) (by decide +kernel) (by decide +kernel) rfl rfl ck3) ?_
  rfl
theorem b121_5 {x1 s0 : Int32} {M : am_M} {w : am_W4}  : am_rn call 121 5 [some (am_P (3, 0, 0)), some (am_I x1), none] [am_I s0] M (am_Z w) = some (.inl (some (am_I s0)), M, (am_Z w)) := by
  exact rl_iret (by decide +kernel) rfl
theorem b121_7 {x1 : Int32} {x2 : Option am_V} {M : am_M} {w : am_W4}  : am_rn call 121 7 [some (am_P (3, 0, 0)), some (am_I x1), x2] [] M (am_Z w) = some (.inl (some (am_I (-1001 : Int32))), M, (am_Z w)) := by
  refine Eq.trans (rl_sipush (c := -1001) (k := (-1001 : Int32)) (by decide +kernel) (by decide)) ?_
  exact rl_iret (by decide +kernel) rfl
theorem e121 {d : Nat} {x1 : Int32} {M : am_M} {w : am_W4}  : am_ev (d + 1) 121 [am_P (3, 0, 0), am_I x1] M (am_Z w) = am_bk 121 2 [some (am_P (3, 0, 0)), some (am_I x1), none] [] ((am_ev d) 72 [am_P (3, 0, 0), am_I x1] M (am_Z w)) (am_rn (am_ev d) 121) some := (am_ev_eq d 121 _ M (am_Z w)).trans (b121_0)
theorem b122_0 {x1 : Int32} {M : am_M} {w : am_W4}  : am_rn call 122 0 [some (am_P (3, 0, 0)), some (am_I x1), none] [] M (am_Z w) = am_bk 122 2 [some (am_P (3, 0, 0)), some (am_I x1), none] [] (call 73 [am_P (3, 0, 0), am_I x1] M (am_Z w)) (am_rn call 122) some := by
  refine Eq.trans (rl_aloadn (j := 0) (by decide +kernel) rfl) ?_
  refine Eq.trans (rl_iloadn (j := 1) (by decide +kernel) rfl) ?_
  refine Eq.trans (rl_invH (ix := 35) (n := 1) (o := 8) 73 [am_I x1] [] (by decide +kernel) (by decide +kernel) (by decide +kernel) (by decide +kernel) rfl rfl ck3) ?_
  rfl
theorem b122_5 {x1 s0 : Int32} {M : am_M} {w : am_W4}  : am_rn call 122 5 [some (am_P (3, 0, 0)), some (am_I x1), none] [am_I s0] M (am_Z w) = some (.inl (some (am_I s0)), M, (am_Z w)) := by
  exact rl_iret (by decide +kernel) rfl
theorem b122_7 {x1 : Int32} {x2 : Option am_V} {M : am_M} {w : am_W4}  : am_rn call 122 7 [some (am_P (3, 0, 0)), some (am_I x1), x2] [] M (am_Z w) = some (.inl (some (am_I (-1001 : Int32))), M, (am_Z w)) := by
  refine Eq.trans (rl_sipush (c := -1001) (k := (-1001 : Int32)) (by decide +kernel) (by decide)) ?_
  exact rl_iret (by decide +kernel) rfl
theorem e122 {d : Nat} {x1 : Int32} {M : am_M} {w : am_W4}  : am_ev (d + 1) 122 [am_P (3, 0, 0), am_I x1] M (am_Z w) = am_bk 122 2 [some (am_P (3, 0, 0)), some (am_I x1), none] [] ((am_ev d) 73 [am_P (3, 0, 0), am_I x1] M (am_Z w)) (am_rn (am_ev d) 122) some := (am_ev_eq d 122 _ M (am_Z w)).trans (b122_0)
theorem b123_0 {x1 x2 : Int32} {M : am_M} {w : am_W4}  : am_rn call 123 0 [some (am_P (3, 0, 0)), some (am_I x1), some (am_I x2), none] [] M (am_Z w) = am_bk 123 3 [some (am_P (3, 0, 0)), some (am_I x1), some (am_I x2), none] [] (call 75 [am_P (3, 0, 0), am_I x1, am_I x2] M (am_Z w)) (am_rn call 123) some := by
  refine Eq.trans (rl_aloadn (j := 0) (by decide +kernel) rfl) ?_
  refine Eq.trans (rl_iloadn (j := 1) (by decide +kernel) rfl) ?_
  refine Eq.trans (rl_iloadn (j := 2) (by decide +kernel) rfl) ?_
  refine Eq.trans (rl_invH (ix := 38) (n := 2) (o := 8) 75 [am_I x1, am_I x2] [] (by decide +kernel) (by decide +kernel) (by decide +kernel) (by decide +kernel) rfl rfl ck3) ?_
  rfl
theorem b123_6 {x1 x2 s0 : Int32} {M : am_M} {w : am_W4}  : am_rn call 123 6 [some (am_P (3, 0, 0)), some (am_I x1), some (am_I x2), none] [am_I s0] M (am_Z w) = some (.inl (some (am_I s0)), M, (am_Z w)) := by
  exact rl_iret (by decide +kernel) rfl
theorem b123_8 {x1 x2 : Int32} {x3 : Option am_V} {M : am_M} {w : am_W4}  : am_rn call 123 8 [some (am_P (3, 0, 0)), some (am_I x1), some (am_I x2), x3] [] M (am_Z w) = some (.inl (some (am_I (-1001 : Int32))), M, (am_Z w)) := by
  refine Eq.trans (rl_sipush (c := -1001) (k := (-1001 : Int32)) (by decide +kernel) (by decide)) ?_
  exact rl_iret (by decide +kernel) rfl
theorem b123_13 {x1 x2 : Int32} {x3 : Option am_V} {M : am_M} {w : am_W4}  : am_rn call 123 13 [some (am_P (3, 0, 0)), some (am_I x1), some (am_I x2), x3] [] M (am_Z w) = some (.inl (some (am_I (-1002 : Int32))), M, (am_Z w)) := by
  refine Eq.trans (rl_sipush (c := -1002) (k := (-1002 : Int32)) (by decide +kernel) (by decide)) ?_
  exact rl_iret (by decide +kernel) rfl
theorem e123 {d : Nat} {x1 x2 : Int32} {M : am_M} {w : am_W4}  : am_ev (d + 1) 123 [am_P (3, 0, 0), am_I x1, am_I x2] M (am_Z w) = am_bk 123 3 [some (am_P (3, 0, 0)), some (am_I x1), some (am_I x2), none] [] ((am_ev d) 75 [am_P (3, 0, 0), am_I x1, am_I x2] M (am_Z w)) (am_rn (am_ev d) 123) some := (am_ev_eq d 123 _ M (am_Z w)).trans (b123_0)
theorem b124_0 {x1 x2 : Int32} {M : am_M} {w : am_W4}  : am_rn call 124 0 [some (am_P (3, 0, 0)), some (am_I x1), some (am_I x2), none] [] M (am_Z w) = am_bk 124 3 [some (am_P (3, 0, 0)), some (am_I x1), some (am_I x2), none] [] (call 76 [am_P (3, 0, 0), am_I x1, am_I x2] M (am_Z w)) (am_rn call 124) some := by
  refine Eq.trans (rl_aloadn (j := 0) (by decide +kernel) rfl) ?_
  refine Eq.trans (rl_iloadn (j := 1) (by decide +kernel) rfl) ?_
  refine Eq.trans (rl_iloadn (j := 2) (by decide +kernel) rfl) ?_
  refine Eq.trans (rl_invH (ix := 45) (n := 2) (o := 8) 76 [am_I x1, am_I x2] [] (by decide +kernel) (by decide +kernel) (by decide +kernel) (by decide +kernel) rfl rfl ck3) ?_
  rfl
theorem b124_6 {x1 x2 s0 : Int32} {M : am_M} {w : am_W4}  : am_rn call 124 6 [some (am_P (3, 0, 0)), some (am_I x1), some (am_I x2), none] [am_I s0] M (am_Z w) = some (.inl (some (am_I s0)), M, (am_Z w)) := by
  exact rl_iret (by decide +kernel) rfl
theorem b124_8 {x1 x2 : Int32} {x3 : Option am_V} {M : am_M} {w : am_W4}  : am_rn call 124 8 [some (am_P (3, 0, 0)), some (am_I x1), some (am_I x2), x3] [] M (am_Z w) = some (.inl (some (am_I (-1001 : Int32))), M, (am_Z w)) := by
  refine Eq.trans (rl_sipush (c := -1001) (k := (-1001 : Int32)) (by decide +kernel) (by decide)) ?_
  exact rl_iret (by decide +kernel) rfl
theorem b124_13 {x1 x2 : Int32} {x3 : Option am_V} {M : am_M} {w : am_W4}  : am_rn call 124 13 [some (am_P (3, 0, 0)), some (am_I x1), some (am_I x2), x3] [] M (am_Z w) = some (.inl (some (am_I (-1002 : Int32))), M, (am_Z w)) := by
  refine Eq.trans (rl_sipush (c := -1002) (k := (-1002 : Int32)) (by decide +kernel) (by decide)) ?_
  exact rl_iret (by decide +kernel) rfl
theorem e124 {d : Nat} {x1 x2 : Int32} {M : am_M} {w : am_W4}  : am_ev (d + 1) 124 [am_P (3, 0, 0), am_I x1, am_I x2] M (am_Z w) = am_bk 124 3 [some (am_P (3, 0, 0)), some (am_I x1), some (am_I x2), none] [] ((am_ev d) 76 [am_P (3, 0, 0), am_I x1, am_I x2] M (am_Z w)) (am_rn (am_ev d) 124) some := (am_ev_eq d 124 _ M (am_Z w)).trans (b124_0)
theorem b125_0 {x1 : Int32} {M : am_M} {w : am_W4}  : am_rn call 125 0 [some (am_P (3, 0, 0)), some (am_I x1), none] [] M (am_Z w) = am_bk 125 2 [some (am_P (3, 0, 0)), some (am_I x1), none] [] (call 77 [am_P (3, 0, 0), am_I x1] M (am_Z w)) (am_rn call 125) some := by
  refine Eq.trans (rl_aloadn (j := 0) (by decide +kernel) rfl) ?_
  refine Eq.trans (rl_iloadn (j := 1) (by decide +kernel) rfl) ?_
  refine Eq.trans (rl_invH (ix := 48) (n := 1) (o := 8) 77 [am_I x1] [] (by decide +kernel) (by decide +kernel) (by decide +kernel) (by decide +kernel) rfl rfl ck3) ?_
  rfl
theorem b125_5 {x1 s0 : Int32} {M : am_M} {w : am_W4}  : am_rn call 125 5 [some (am_P (3, 0, 0)), some (am_I x1), none] [am_I s0] M (am_Z w) = some (.inl (some (am_I s0)), M, (am_Z w)) := by
  exact rl_iret (by decide +kernel) rfl
theorem b125_7 {x1 : Int32} {x2 : Option am_V} {M : am_M} {w : am_W4}  : am_rn call 125 7 [some (am_P (3, 0, 0)), some (am_I x1), x2] [] M (am_Z w) = some (.inl (some (am_I (-1001 : Int32))), M, (am_Z w)) := by
  refine Eq.trans (rl_sipush (c := -1001) (k := (-1001 : Int32)) (by decide +kernel) (by decide)) ?_
  exact rl_iret (by decide +kernel) rfl
theorem e125 {d : Nat} {x1 : Int32} {M : am_M} {w : am_W4}  : am_ev (d + 1) 125 [am_P (3, 0, 0), am_I x1] M (am_Z w) = am_bk 125 2 [some (am_P (3, 0, 0)), some (am_I x1), none] [] ((am_ev d) 77 [am_P (3, 0, 0), am_I x1] M (am_Z w)) (am_rn (am_ev d) 125) some := (am_ev_eq d 125 _ M (am_Z w)).trans (b125_0)
theorem b126_0 {x1 x2 : Int32} {M : am_M} {w : am_W4}  : am_rn call 126 0 [some (am_P (3, 0, 0)), some (am_I x1), some (am_I x2), none] [] M (am_Z w) = am_bk 126 3 [some (am_P (3, 0, 0)), some (am_I x1), some (am_I x2), none] [] (call 85 [am_P (3, 0, 0), am_I x1, am_I x2] M (am_Z w)) (am_rn call 126) some := by
  refine Eq.trans (rl_aloadn (j := 0) (by decide +kernel) rfl) ?_
  refine Eq.trans (rl_iloadn (j := 1) (by decide +kernel) rfl) ?_
  refine Eq.trans (rl_iloadn (j := 2) (by decide +kernel) rfl) ?_
  refine Eq.trans (rl_invH (ix := 51) (n := 2) (o := 8) 85 [am_I x1, am_I x2] [] (by decide +kernel) (by decide +kernel) (by decide +kernel) (by decide +kernel) rfl rfl ck3) ?_
  rfl
theorem b126_6 {x1 x2 s0 : Int32} {M : am_M} {w : am_W4}  : am_rn call 126 6 [some (am_P (3, 0, 0)), some (am_I x1), some (am_I x2), none] [am_I s0] M (am_Z w) = some (.inl (some (am_I s0)), M, (am_Z w)) := by
  exact rl_iret (by decide +kernel) rfl
theorem b126_8 {x1 x2 : Int32} {x3 : Option am_V} {M : am_M} {w : am_W4}  : am_rn call 126 8 [some (am_P (3, 0, 0)), some (am_I x1), some (am_I x2), x3] [] M (am_Z w) = some (.inl (some (am_I (-1001 : Int32))), M, (am_Z w)) := by
  refine Eq.trans (rl_sipush (c := -1001) (k := (-1001 : Int32)) (by decide +kernel) (by decide)) ?_
  exact rl_iret (by decide +kernel) rfl
theorem b126_13 {x1 x2 : Int32} {x3 : Option am_V} {M : am_M} {w : am_W4}  : am_rn call 126 13 [some (am_P (3, 0, 0)), some (am_I x1), some (am_I x2), x3] [] M (am_Z w) = some (.inl (some (am_I (-1002 : Int32))), M, (am_Z w)) := by
  refine Eq.trans (rl_sipush (c := -1002) (k := (-1002 : Int32)) (by decide +kernel) (by decide)) ?_
  exact rl_iret (by decide +kernel) rfl
theorem e126 {d : Nat} {x1 x2 : Int32} {M : am_M} {w : am_W4}  : am_ev (d + 1) 126 [am_P (3, 0, 0), am_I x1, am_I x2] M (am_Z w) = am_bk 126 3 [some (am_P (3, 0, 0)), some (am_I x1), some (am_I x2), none] [] ((am_ev d) 85 [am_P (3, 0, 0), am_I x1, am_I x2] M (am_Z w)) (am_rn (am_ev d) 126) some := (am_ev_eq d 126 _ M (am_Z w)).trans (b126_0)
theorem b127_0 {x1 x2 : Int32} {M : am_M} {w : am_W4}  : am_rn call 127 0 [some (am_P (3, 0, 0)), some (am_I x1), some (am_I x2), none] [] M (am_Z w) = am_bk 127 3 [some (am_P (3, 0, 0)), some (am_I x1), some (am_I x2), none] [] (call 86 [am_P (3, 0, 0), am_I x1, am_I x2] M (am_Z w)) (am_rn call 127) some := by
  refine Eq.trans (rl_aloadn (j := 0) (by decide +kernel) rfl) ?_
  refine Eq.trans (rl_iloadn (j := 1) (by decide +kernel) rfl) ?_
  refine Eq.trans (rl_iloadn (j := 2) (by decide +kernel) rfl) ?_
  refine Eq.trans (rl_invH (ix := 54) (n := 2) (o := 8) 86 [am_I x1, am_I x2] [] (by decide +kernel) (by decide +kernel) (by decide +kernel) (by decide +kernel) rfl rfl ck3) ?_
  rfl
theorem b127_6 {x1 x2 s0 : Int32} {M : am_M} {w : am_W4}  : am_rn call 127 6 [some (am_P (3, 0, 0)), some (am_I x1), some (am_I x2), none] [am_I s0] M (am_Z w) = some (.inl (some (am_I s0)), M, (am_Z w)) := by
  exact rl_iret (by decide +kernel) rfl
theorem b127_8 {x1 x2 : Int32} {x3 : Option am_V} {M : am_M} {w : am_W4}  : am_rn call 127 8 [some (am_P (3, 0, 0)), some (am_I x1), some (am_I x2), x3] [] M (am_Z w) = some (.inl (some (am_I (-1001 : Int32))), M, (am_Z w)) := by
  refine Eq.trans (rl_sipush (c := -1001) (k := (-1001 : Int32)) (by decide +kernel) (by decide)) ?_
  exact rl_iret (by decide +kernel) rfl
theorem e127 {d : Nat} {x1 x2 : Int32} {M : am_M} {w : am_W4}  : am_ev (d + 1) 127 [am_P (3, 0, 0), am_I x1, am_I x2] M (am_Z w) = am_bk 127 3 [some (am_P (3, 0, 0)), some (am_I x1), some (am_I x2), none] [] ((am_ev d) 86 [am_P (3, 0, 0), am_I x1, am_I x2] M (am_Z w)) (am_rn (am_ev d) 127) some := (am_ev_eq d 127 _ M (am_Z w)).trans (b127_0)
theorem b128_0 {x1 : Int32} {M : am_M} {w : am_W4}  : am_rn call 128 0 [some (am_P (3, 0, 0)), some (am_I x1), none] [] M (am_Z w) = am_bk 128 2 [some (am_P (3, 0, 0)), some (am_I x1), none] [] (call 87 [am_P (3, 0, 0), am_I x1] M (am_Z w)) (am_rn call 128) some := by
  refine Eq.trans (rl_aloadn (j := 0) (by decide +kernel) rfl) ?_
  refine Eq.trans (rl_iloadn (j := 1) (by decide +kernel) rfl) ?_
  refine Eq.trans (rl_invH (ix := 57) (n := 1) (o := 8) 87 [am_I x1] [] (by decide +kernel) (by decide +kernel) (by decide +kernel) (by decide +kernel) rfl rfl ck3) ?_
  rfl
theorem b128_5 {x1 s0 : Int32} {M : am_M} {w : am_W4}  : am_rn call 128 5 [some (am_P (3, 0, 0)), some (am_I x1), none] [am_I s0] M (am_Z w) = some (.inl (some (am_I s0)), M, (am_Z w)) := by
  exact rl_iret (by decide +kernel) rfl
theorem b128_7 {x1 : Int32} {x2 : Option am_V} {M : am_M} {w : am_W4}  : am_rn call 128 7 [some (am_P (3, 0, 0)), some (am_I x1), x2] [] M (am_Z w) = some (.inl (some (am_I (-1001 : Int32))), M, (am_Z w)) := by
  refine Eq.trans (rl_sipush (c := -1001) (k := (-1001 : Int32)) (by decide +kernel) (by decide)) ?_
  exact rl_iret (by decide +kernel) rfl
theorem e128 {d : Nat} {x1 : Int32} {M : am_M} {w : am_W4}  : am_ev (d + 1) 128 [am_P (3, 0, 0), am_I x1] M (am_Z w) = am_bk 128 2 [some (am_P (3, 0, 0)), some (am_I x1), none] [] ((am_ev d) 87 [am_P (3, 0, 0), am_I x1] M (am_Z w)) (am_rn (am_ev d) 128) some := (am_ev_eq d 128 _ M (am_Z w)).trans (b128_0)
theorem b129_0 {x1 x2 : Int32} {M : am_M} {w : am_W4}  : am_rn call 129 0 [some (am_P (3, 0, 0)), some (am_I x1), some (am_I x2), none] [] M (am_Z w) = am_bk 129 3 [some (am_P (3, 0, 0)), some (am_I x1), some (am_I x2), none] [] (call 88 [am_P (3, 0, 0), am_I x1, am_I x2] M (am_Z w)) (am_rn call 129) some := by
  refine Eq.trans (rl_aloadn (j := 0) (by decide +kernel) rfl) ?_
  refine Eq.trans (rl_iloadn (j := 1) (by decide +kernel) rfl) ?_
  refine Eq.trans (rl_iloadn (j := 2) (by decide +kernel) rfl) ?_
  refine Eq.trans (rl_invH (ix := 60) (n := 2) (o := 8) 88 [am_I x1, am_I x2] [] (by decide +kernel) (by decide +kernel) (by decide +kernel) (by decide +kernel) rfl rfl ck3) ?_
  rfl
theorem b129_6 {x1 x2 s0 : Int32} {M : am_M} {w : am_W4}  : am_rn call 129 6 [some (am_P (3, 0, 0)), some (am_I x1), some (am_I x2), none] [am_I s0] M (am_Z w) = some (.inl (some (am_I s0)), M, (am_Z w)) := by
  exact rl_iret (by decide +kernel) rfl
theorem b129_8 {x1 x2 : Int32} {x3 : Option am_V} {M : am_M} {w : am_W4}  : am_rn call 129 8 [some (am_P (3, 0, 0)), some (am_I x1), some (am_I x2), x3] [] M (am_Z w) = some (.inl (some (am_I (-1001 : Int32))), M, (am_Z w)) := by
  refine Eq.trans (rl_sipush (c := -1001) (k := (-1001 : Int32)) (by decide +kernel) (by decide)) ?_
  exact rl_iret (by decide +kernel) rfl
theorem b129_13 {x1 x2 : Int32} {x3 : Option am_V} {M : am_M} {w : am_W4}  : am_rn call 129 13 [some (am_P (3, 0, 0)), some (am_I x1), some (am_I x2), x3] [] M (am_Z w) = some (.inl (some (am_I (-1002 : Int32))), M, (am_Z w)) := by
  refine Eq.trans (rl_sipush (c := -1002) (k := (-1002 : Int32)) (by decide +kernel) (by decide)) ?_
  exact rl_iret (by decide +kernel) rfl
theorem e129 {d : Nat} {x1 x2 : Int32} {M : am_M} {w : am_W4}  : am_ev (d + 1) 129 [am_P (3, 0, 0), am_I x1, am_I x2] M (am_Z w) = am_bk 129 3 [some (am_P (3, 0, 0)), some (am_I x1), some (am_I x2), none] [] ((am_ev d) 88 [am_P (3, 0, 0), am_I x1, am_I x2] M (am_Z w)) (am_rn (am_ev d) 129) some := (am_ev_eq d 129 _ M (am_Z w)).trans (b129_0)
theorem b130_0 {x1 : Int32} {M : am_M} {w : am_W4}  : am_rn call 130 0 [some (am_P (3, 0, 0)), some (am_I x1), none] [] M (am_Z w) = am_bk 130 2 [some (am_P (3, 0, 0)), some (am_I x1), none] [] (call 89 [am_P (3, 0, 0), am_I x1] M (am_Z w)) (am_rn call 130) some := by
  refine Eq.trans (rl_aloadn (j := 0) (by decide +kernel) rfl) ?_
  refine Eq.trans (rl_iloadn (j := 1) (by decide +kernel) rfl) ?_
  refine Eq.trans (rl_invH (ix := 65) (n := 1) (o := 8) 89 [am_I x1] [] (by decide +kernel) (by decide +kernel) (by decide +kernel) (by decide +kernel) rfl rfl ck3) ?_
  rfl
theorem b130_5 {x1 s0 : Int32} {M : am_M} {w : am_W4}  : am_rn call 130 5 [some (am_P (3, 0, 0)), some (am_I x1), none] [am_I s0] M (am_Z w) = some (.inl (some (am_I s0)), M, (am_Z w)) := by
  exact rl_iret (by decide +kernel) rfl
theorem b130_7 {x1 : Int32} {x2 : Option am_V} {M : am_M} {w : am_W4}  : am_rn call 130 7 [some (am_P (3, 0, 0)), some (am_I x1), x2] [] M (am_Z w) = some (.inl (some (am_I (-1001 : Int32))), M, (am_Z w)) := by
  refine Eq.trans (rl_sipush (c := -1001) (k := (-1001 : Int32)) (by decide +kernel) (by decide)) ?_
  exact rl_iret (by decide +kernel) rfl
theorem e130 {d : Nat} {x1 : Int32} {M : am_M} {w : am_W4}  : am_ev (d + 1) 130 [am_P (3, 0, 0), am_I x1] M (am_Z w) = am_bk 130 2 [some (am_P (3, 0, 0)), some (am_I x1), none] [] ((am_ev d) 89 [am_P (3, 0, 0), am_I x1] M (am_Z w)) (am_rn (am_ev d) 130) some := (am_ev_eq d 130 _ M (am_Z w)).trans (b130_0)
theorem b131_0 {x1 x2 : Int32} {M : am_M} {w : am_W4}  : am_rn call 131 0 [some (am_P (3, 0, 0)), some (am_I x1), some (am_I x2), none] [] M (am_Z w) = am_bk 131 3 [some (am_P (3, 0, 0)), some (am_I x1), some (am_I x2), none] [] (call 78 [am_P (3, 0, 0), am_I x1, am_I x2] M (am_Z w)) (am_rn call 131) some := by
  refine Eq.trans (rl_aloadn (j := 0) (by decide +kernel) rfl) ?_
  refine Eq.trans (rl_iloadn (j := 1) (by decide +kernel) rfl) ?_
  refine Eq.trans (rl_iloadn (j := 2) (by decide +kernel) rfl) ?_
  refine Eq.trans (rl_invH (ix := 68) (n := 2) (o := 8) 78 [am_I x1, am_I x2] [] (by decide +kernel) (by decide +kernel) (by decide +kernel) (by decide +kernel) rfl rfl ck3) ?_
  rfl
theorem b131_6 {x1 x2 s0 : Int32} {M : am_M} {w : am_W4}  : am_rn call 131 6 [some (am_P (3, 0, 0)), some (am_I x1), some (am_I x2), none] [am_I s0] M (am_Z w) = some (.inl (some (am_I s0)), M, (am_Z w)) := by
  exact rl_iret (by decide +kernel) rfl
theorem b131_8 {x1 x2 : Int32} {x3 : Option am_V} {M : am_M} {w : am_W4}  : am_rn call 131 8 [some (am_P (3, 0, 0)), some (am_I x1), some (am_I x2), x3] [] M (am_Z w) = some (.inl (some (am_I (-1001 : Int32))), M, (am_Z w)) := by
  refine Eq.trans (rl_sipush (c := -1001) (k := (-1001 : Int32)) (by decide +kernel) (by decide)) ?_
  exact rl_iret (by decide +kernel) rfl
theorem b131_13 {x1 x2 : Int32} {x3 : Option am_V} {M : am_M} {w : am_W4}  : am_rn call 131 13 [some (am_P (3, 0, 0)), some (am_I x1), some (am_I x2), x3] [] M (am_Z w) = some (.inl (some (am_I (-1002 : Int32))), M, (am_Z w)) := by
  refine Eq.trans (rl_sipush (c := -1002) (k := (-1002 : Int32)) (by decide +kernel) (by decide)) ?_
  exact rl_iret (by decide +kernel) rfl
theorem e131 {d : Nat} {x1 x2 : Int32} {M : am_M} {w : am_W4}  : am_ev (d + 1) 131 [am_P (3, 0, 0), am_I x1, am_I x2] M (am_Z w) = am_bk 131 3 [some (am_P (3, 0, 0)), some (am_I x1), some (am_I x2), none] [] ((am_ev d) 78 [am_P (3, 0, 0), am_I x1, am_I x2] M (am_Z w)) (am_rn (am_ev d) 131) some := (am_ev_eq d 131 _ M (am_Z w)).trans (b131_0)
theorem b132_0 {x1 x2 : Int32} {M : am_M} {w : am_W4}  : am_rn call 132 0 [some (am_P (3, 0, 0)), some (am_I x1), some (am_I x2), none] [] M (am_Z w) = am_bk 132 3 [some (am_P (3, 0, 0)), some (am_I x1), some (am_I x2), none] [] (call 80 [am_P (3, 0, 0), am_I x1, am_I x2] M (am_Z w)) (am_rn call 132) some := by
  refine Eq.trans (rl_aloadn (j := 0) (by decide +kernel) rfl) ?_
  refine Eq.trans (rl_iloadn (j := 1) (by decide +kernel) rfl) ?_
  refine Eq.trans (rl_iloadn (j := 2) (by decide +kernel) rfl) ?_
  refine Eq.trans (rl_invH (ix := 72) (n := 2) (o := 8) 80 [am_I x1, am_I x2] [] (by decide +kernel) (by decide +kernel) (by decide +kernel) (by decide +kernel) rfl rfl ck3) ?_
  rfl
theorem b132_6 {x1 x2 s0 : Int32} {M : am_M} {w : am_W4}  : am_rn call 132 6 [some (am_P (3, 0, 0)), some (am_I x1), some (am_I x2), none] [am_I s0] M (am_Z w) = some (.inl (some (am_I s0)), M, (am_Z w)) := by
  exact rl_iret (by decide +kernel) rfl
theorem b132_8 {x1 x2 : Int32} {x3 : Option am_V} {M : am_M} {w : am_W4}  : am_rn call 132 8 [some (am_P (3, 0, 0)), some (am_I x1), some (am_I x2), x3] [] M (am_Z w) = some (.inl (some (am_I (-1001 : Int32))), M, (am_Z w)) := by
  refine Eq.trans (rl_sipush (c := -1001) (k := (-1001 : Int32)) (by decide +kernel) (by decide)) ?_
  exact rl_iret (by decide +kernel) rfl
theorem b132_13 {x1 x2 : Int32} {x3 : Option am_V} {M : am_M} {w : am_W4}  : am_rn call 132 13 [some (am_P (3, 0, 0)), some (am_I x1), some (am_I x2), x3] [] M (am_Z w) = some (.inl (some (am_I (-1002 : Int32))), M, (am_Z w)) := by
  refine Eq.trans (rl_sipush (c := -1002) (k := (-1002 : Int32)) (by decide +kernel) (by decide)) ?_
  exact rl_iret (by decide +kernel) rfl
theorem e132 {d : Nat} {x1 x2 : Int32} {M : am_M} {w : am_W4}  : am_ev (d + 1) 132 [am_P (3, 0, 0), am_I x1, am_I x2] M (am_Z w) = am_bk 132 3 [some (am_P (3, 0, 0)), some (am_I x1), some (am_I x2), none] [] ((am_ev d) 80 [am_P (3, 0, 0), am_I x1, am_I x2] M (am_Z w)) (am_rn (am_ev d) 132) some := (am_ev_eq d 132 _ M (am_Z w)).trans (b132_0)
theorem b133_0 {x1 : Int32} {M : am_M} {w : am_W4}  : am_rn call 133 0 [some (am_P (3, 0, 0)), some (am_I x1), none] [] M (am_Z w) = am_bk 133 2 [some (am_P (3, 0, 0)), some (am_I x1), none] [] (call 90 [am_P (3, 0, 0), am_I x1] M (am_Z w)) (am_rn call 133) some := by
  refine Eq.trans (rl_aloadn (j := 0) (by decide +kernel) rfl) ?_
  refine Eq.trans (rl_iloadn (j := 1) (by decide +kernel) rfl) ?_
  refine Eq.trans (rl_invH (ix := 75) (n := 1) (o := 8) 90 [am_I x1] [] (by decide +kernel) (by decide +kernel) (by decide +kernel) (by decide +kernel) rfl rfl ck3) ?_
  rfl
theorem b133_5 {x1 s0 : Int32} {M : am_M} {w : am_W4}  : am_rn call 133 5 [some (am_P (3, 0, 0)), some (am_I x1), none] [am_I s0] M (am_Z w) = some (.inl (some (am_I s0)), M, (am_Z w)) := by
  exact rl_iret (by decide +kernel) rfl
theorem b133_7 {x1 : Int32} {x2 : Option am_V} {M : am_M} {w : am_W4}  : am_rn call 133 7 [some (am_P (3, 0, 0)), some (am_I x1), x2] [] M (am_Z w) = some (.inl (some (am_I (-1001 : Int32))), M, (am_Z w)) := by
  refine Eq.trans (rl_sipush (c := -1001) (k := (-1001 : Int32)) (by decide +kernel) (by decide)) ?_
  exact rl_iret (by decide +kernel) rfl
theorem b133_12 {x1 : Int32} {x2 : Option am_V} {M : am_M} {w : am_W4}  : am_rn call 133 12 [some (am_P (3, 0, 0)), some (am_I x1), x2] [] M (am_Z w) = some (.inl (some (am_I (-1002 : Int32))), M, (am_Z w)) := by
  refine Eq.trans (rl_sipush (c := -1002) (k := (-1002 : Int32)) (by decide +kernel) (by decide)) ?_
  exact rl_iret (by decide +kernel) rfl
theorem e133 {d : Nat} {x1 : Int32} {M : am_M} {w : am_W4}  : am_ev (d + 1) 133 [am_P (3, 0, 0), am_I x1] M (am_Z w) = am_bk 133 2 [some (am_P (3, 0, 0)), some (am_I x1), none] [] ((am_ev d) 90 [am_P (3, 0, 0), am_I x1] M (am_Z w)) (am_rn (am_ev d) 133) some := (am_ev_eq d 133 _ M (am_Z w)).trans (b133_0)
theorem b134_0 {x1 : Int32} {M : am_M} {w : am_W4}  : am_rn call 134 0 [some (am_P (3, 0, 0)), some (am_I x1), none] [] M (am_Z w) = am_bk 134 2 [some (am_P (3, 0, 0)), some (am_I x1), none] [] (call 91 [am_P (3, 0, 0), am_I x1] M (am_Z w)) (am_rn call 134) some := by
  refine Eq.trans (rl_aloadn (j := 0) (by decide +kernel) rfl) ?_
  refine Eq.trans (rl_iloadn (j := 1) (by decide +kernel) rfl) ?_
  refine Eq.trans (rl_invH (ix := 78) (n := 1) (o := 8) 91 [am_I x1] [] (by decide +kernel) (by decide +kernel) (by decide +kernel) (by decide +kernel) rfl rfl ck3) ?_
  rfl
theorem b134_5 {x1 s0 : Int32} {M : am_M} {w : am_W4}  : am_rn call 134 5 [some (am_P (3, 0, 0)), some (am_I x1), none] [am_I s0] M (am_Z w) = some (.inl (some (am_I s0)), M, (am_Z w)) := by
  exact rl_iret (by decide +kernel) rfl
theorem b134_7 {x1 : Int32} {x2 : Option am_V} {M : am_M} {w : am_W4}  : am_rn call 134 7 [some (am_P (3, 0, 0)), some (am_I x1), x2] [] M (am_Z w) = some (.inl (some (am_I (-1001 : Int32))), M, (am_Z w)) := by
  refine Eq.trans (rl_sipush (c := -1001) (k := (-1001 : Int32)) (by decide +kernel) (by decide)) ?_
  exact rl_iret (by decide +kernel) rfl
theorem b134_12 {x1 : Int32} {x2 : Option am_V} {M : am_M} {w : am_W4}  : am_rn call 134 12 [some (am_P (3, 0, 0)), some (am_I x1), x2] [] M (am_Z w) = some (.inl (some (am_I (-1002 : Int32))), M, (am_Z w)) := by
  refine Eq.trans (rl_sipush (c := -1002) (k := (-1002 : Int32)) (by decide +kernel) (by decide)) ?_
  exact rl_iret (by decide +kernel) rfl
theorem e134 {d : Nat} {x1 : Int32} {M : am_M} {w : am_W4}  : am_ev (d + 1) 134 [am_P (3, 0, 0), am_I x1] M (am_Z w) = am_bk 134 2 [some (am_P (3, 0, 0)), some (am_I x1), none] [] ((am_ev d) 91 [am_P (3, 0, 0), am_I x1] M (am_Z w)) (am_rn (am_ev d) 134) some := (am_ev_eq d 134 _ M (am_Z w)).trans (b134_0)
theorem b135_0 {x1 : Int32} {M : am_M} {w : am_W4}  : am_rn call 135 0 [some (am_P (3, 0, 0)), some (am_I x1), none] [] M (am_Z w) = am_bk 135 2 [some (am_P (3, 0, 0)), some (am_I x1), none] [] (call 94 [am_P (3, 0, 0), am_I x1] M (am_Z w)) (am_rn call 135) some := by
  refine Eq.trans (rl_aloadn (j := 0) (by decide +kernel) rfl) ?_
  refine Eq.trans (rl_iloadn (j := 1) (by decide +kernel) rfl) ?_
  refine Eq.trans (rl_invH (ix := 81) (n := 1) (o := 8) 94 [am_I x1] [] (by decide +kernel) (by decide +kernel) (by decide +kernel) (by decide +kernel) rfl rfl ck3) ?_
  rfl
theorem b135_5 {x1 s0 : Int32} {M : am_M} {w : am_W4}  : am_rn call 135 5 [some (am_P (3, 0, 0)), some (am_I x1), none] [am_I s0] M (am_Z w) = some (.inl (some (am_I s0)), M, (am_Z w)) := by
  exact rl_iret (by decide +kernel) rfl
theorem b135_7 {x1 : Int32} {x2 : Option am_V} {M : am_M} {w : am_W4}  : am_rn call 135 7 [some (am_P (3, 0, 0)), some (am_I x1), x2] [] M (am_Z w) = some (.inl (some (am_I (-1001 : Int32))), M, (am_Z w)) := by
  refine Eq.trans (rl_sipush (c := -1001) (k := (-1001 : Int32)) (by decide +kernel) (by decide)) ?_
  exact rl_iret (by decide +kernel) rfl
theorem e135 {d : Nat} {x1 : Int32} {M : am_M} {w : am_W4}  : am_ev (d + 1) 135 [am_P (3, 0, 0), am_I x1] M (am_Z w) = am_bk 135 2 [some (am_P (3, 0, 0)), some (am_I x1), none] [] ((am_ev d) 94 [am_P (3, 0, 0), am_I x1] M (am_Z w)) (am_rn (am_ev d) 135) some := (am_ev_eq d 135 _ M (am_Z w)).trans (b135_0)
theorem b136_0 {x1 : Int32} {M : am_M} {w : am_W4}  : am_rn call 136 0 [some (am_P (3, 0, 0)), some (am_I x1), none] [] M (am_Z w) = am_bk 136 2 [some (am_P (3, 0, 0)), some (am_I x1), none] [] (call 98 [am_P (3, 0, 0), am_I x1] M (am_Z w)) (am_rn call 136) some := by
  refine Eq.trans (rl_aloadn (j := 0) (by decide +kernel) rfl) ?_
  refine Eq.trans (rl_iloadn (j := 1) (by decide +kernel) rfl) ?_
  refine Eq.trans (rl_invH (ix := 84) (n := 1) (o := 8) 98 [am_I x1] [] (by decide +kernel) (by decide +kernel) (by decide +kernel) (by decide +kernel) rfl rfl ck3) ?_
  rfl
theorem b136_5 {x1 s0 : Int32} {M : am_M} {w : am_W4}  : am_rn call 136 5 [some (am_P (3, 0, 0)), some (am_I x1), none] [am_I s0] M (am_Z w) = some (.inl (some (am_I s0)), M, (am_Z w)) := by
  exact rl_iret (by decide +kernel) rfl
theorem b136_7 {x1 : Int32} {x2 : Option am_V} {M : am_M} {w : am_W4}  : am_rn call 136 7 [some (am_P (3, 0, 0)), some (am_I x1), x2] [] M (am_Z w) = some (.inl (some (am_I (-1001 : Int32))), M, (am_Z w)) := by
  refine Eq.trans (rl_sipush (c := -1001) (k := (-1001 : Int32)) (by decide +kernel) (by decide)) ?_
  exact rl_iret (by decide +kernel) rfl
theorem e136 {d : Nat} {x1 : Int32} {M : am_M} {w : am_W4}  : am_ev (d + 1) 136 [am_P (3, 0, 0), am_I x1] M (am_Z w) = am_bk 136 2 [some (am_P (3, 0, 0)), some (am_I x1), none] [] ((am_ev d) 98 [am_P (3, 0, 0), am_I x1] M (am_Z w)) (am_rn (am_ev d) 136) some := (am_ev_eq d 136 _ M (am_Z w)).trans (b136_0)
theorem b137_0  {M : am_M} {w : am_W4}  : am_rn call 137 0 [some (am_P (3, 0, 0)), none] [] M (am_Z w) = am_bk 137 1 [some (am_P (3, 0, 0)), none] [] (call 99 [am_P (3, 0, 0)] M (am_Z w)) (am_rn call 137) some := by
  refine Eq.trans (rl_aloadn (j := 0) (by decide +kernel) rfl) ?_
  refine Eq.trans (rl_invH (ix := 90) (n := 0) (o := 8) 99 [] [] (by decide +kernel) (by decide +kernel) (by decide +kernel) (by decide +kernel) rfl rfl ck3) ?_
  rfl
theorem b137_4 {s0 : Int32} {M : am_M} {w : am_W4}  : am_rn call 137 4 [some (am_P (3, 0, 0)), none] [am_I s0] M (am_Z w) = some (.inl (some (am_I s0)), M, (am_Z w)) := by
  exact rl_iret (by decide +kernel) rfl
theorem b137_6 {x1 : Option am_V} {M : am_M} {w : am_W4}  : am_rn call 137 6 [some (am_P (3, 0, 0)), x1] [] M (am_Z w) = some (.inl (some (am_I (-1001 : Int32))), M, (am_Z w)) := by
  refine Eq.trans (rl_sipush (c := -1001) (k := (-1001 : Int32)) (by decide +kernel) (by decide)) ?_
  exact rl_iret (by decide +kernel) rfl
theorem b137_11 {x1 : Option am_V} {M : am_M} {w : am_W4}  : am_rn call 137 11 [some (am_P (3, 0, 0)), x1] [] M (am_Z w) = some (.inl (some (am_I (-1002 : Int32))), M, (am_Z w)) := by
  refine Eq.trans (rl_sipush (c := -1002) (k := (-1002 : Int32)) (by decide +kernel) (by decide)) ?_
  exact rl_iret (by decide +kernel) rfl
theorem e137 {d : Nat}  {M : am_M} {w : am_W4}  : am_ev (d + 1) 137 [am_P (3, 0, 0)] M (am_Z w) = am_bk 137 1 [some (am_P (3, 0, 0)), none] [] ((am_ev d) 99 [am_P (3, 0, 0)] M (am_Z w)) (am_rn (am_ev d) 137) some := (am_ev_eq d 137 _ M (am_Z w)).trans (b137_0)
theorem b138_0 {x1 : Int32} {M : am_M} {w : am_W4}  : am_rn call 138 0 [some (am_P (3, 0, 0)), some (am_I x1), none] [] M (am_Z w) = am_bk 138 2 [some (am_P (3, 0, 0)), some (am_I x1), none] [] (call 101 [am_P (3, 0, 0), am_I x1] M (am_Z w)) (am_rn call 138) some := by
  refine Eq.trans (rl_aloadn (j := 0) (by decide +kernel) rfl) ?_
  refine Eq.trans (rl_iloadn (j := 1) (by decide +kernel) rfl) ?_
  refine Eq.trans (rl_invH (ix := 94) (n := 1) (o := 8) 101 [am_I x1] [] (by decide +kernel) (by decide +kernel) (by decide +kernel) (by decide +kernel) rfl rfl ck3) ?_
  rfl
theorem b138_5 {x1 s0 : Int32} {M : am_M} {w : am_W4}  : am_rn call 138 5 [some (am_P (3, 0, 0)), some (am_I x1), none] [am_I s0] M (am_Z w) = some (.inl (some (am_I s0)), M, (am_Z w)) := by
  exact rl_iret (by decide +kernel) rfl
theorem b138_7 {x1 : Int32} {x2 : Option am_V} {M : am_M} {w : am_W4}  : am_rn call 138 7 [some (am_P (3, 0, 0)), some (am_I x1), x2] [] M (am_Z w) = some (.inl (some (am_I (-1001 : Int32))), M, (am_Z w)) := by
  refine Eq.trans (rl_sipush (c := -1001) (k := (-1001 : Int32)) (by decide +kernel) (by decide)) ?_
  exact rl_iret (by decide +kernel) rfl
theorem b138_12 {x1 : Int32} {x2 : Option am_V} {M : am_M} {w : am_W4}  : am_rn call 138 12 [some (am_P (3, 0, 0)), some (am_I x1), x2] [] M (am_Z w) = some (.inl (some (am_I (-1002 : Int32))), M, (am_Z w)) := by
  refine Eq.trans (rl_sipush (c := -1002) (k := (-1002 : Int32)) (by decide +kernel) (by decide)) ?_
  exact rl_iret (by decide +kernel) rfl
theorem e138 {d : Nat} {x1 : Int32} {M : am_M} {w : am_W4}  : am_ev (d + 1) 138 [am_P (3, 0, 0), am_I x1] M (am_Z w) = am_bk 138 2 [some (am_P (3, 0, 0)), some (am_I x1), none] [] ((am_ev d) 101 [am_P (3, 0, 0), am_I x1] M (am_Z w)) (am_rn (am_ev d) 138) some := (am_ev_eq d 138 _ M (am_Z w)).trans (b138_0)
theorem b139_0 {x1 : Int32} {M : am_M} {w : am_W4}  : am_rn call 139 0 [some (am_P (3, 0, 0)), some (am_I x1), none] [] M (am_Z w) = am_bk 139 2 [some (am_P (3, 0, 0)), some (am_I x1), none] [] (call 102 [am_P (3, 0, 0), am_I x1] M (am_Z w)) (am_rn call 139) some := by
  refine Eq.trans (rl_aloadn (j := 0) (by decide +kernel) rfl) ?_
  refine Eq.trans (rl_iloadn (j := 1) (by decide +kernel) rfl) ?_
  refine Eq.trans (rl_invH (ix := 97) (n := 1) (o := 8) 102 [am_I x1] [] (by decide +kernel) (by decide +kernel) (by decide +kernel) (by decide +kernel) rfl rfl ck3) ?_
  rfl
theorem b139_5 {x1 s0 : Int32} {M : am_M} {w : am_W4}  : am_rn call 139 5 [some (am_P (3, 0, 0)), some (am_I x1), none] [am_I s0] M (am_Z w) = some (.inl (some (am_I s0)), M, (am_Z w)) := by
  exact rl_iret (by decide +kernel) rfl
theorem b139_7 {x1 : Int32} {x2 : Option am_V} {M : am_M} {w : am_W4}  : am_rn call 139 7 [some (am_P (3, 0, 0)), some (am_I x1), x2] [] M (am_Z w) = some (.inl (some (am_I (-1001 : Int32))), M, (am_Z w)) := by
  refine Eq.trans (rl_sipush (c := -1001) (k := (-1001 : Int32)) (by decide +kernel) (by decide)) ?_
  exact rl_iret (by decide +kernel) rfl
theorem e139 {d : Nat} {x1 : Int32} {M : am_M} {w : am_W4}  : am_ev (d + 1) 139 [am_P (3, 0, 0), am_I x1] M (am_Z w) = am_bk 139 2 [some (am_P (3, 0, 0)), some (am_I x1), none] [] ((am_ev d) 102 [am_P (3, 0, 0), am_I x1] M (am_Z w)) (am_rn (am_ev d) 139) some := (am_ev_eq d 139 _ M (am_Z w)).trans (b139_0)
theorem b140_0 {x1 : Int32} {M : am_M} {w : am_W4}  : am_rn call 140 0 [some (am_P (3, 0, 0)), some (am_I x1), none] [] M (am_Z w) = am_bk 140 2 [some (am_P (3, 0, 0)), some (am_I x1), none] [] (call 105 [am_P (3, 0, 0), am_I x1] M (am_Z w)) (am_rn call 140) some := by
  refine Eq.trans (rl_aloadn (j := 0) (by decide +kernel) rfl) ?_
  refine Eq.trans (rl_iloadn (j := 1) (by decide +kernel) rfl) ?_
  refine Eq.trans (rl_invH (ix := 100) (n := 1) (o := 8) 105 [am_I x1] [] (by decide +kernel) (by decide +kernel) (by decide +kernel) (by decide +kernel) rfl rfl ck3) ?_
  rfl
theorem b140_5 {x1 s0 : Int32} {M : am_M} {w : am_W4}  : am_rn call 140 5 [some (am_P (3, 0, 0)), some (am_I x1), none] [am_I s0] M (am_Z w) = some (.inl (some (am_I s0)), M, (am_Z w)) := by
  exact rl_iret (by decide +kernel) rfl
theorem b140_7 {x1 : Int32} {x2 : Option am_V} {M : am_M} {w : am_W4}  : am_rn call 140 7 [some (am_P (3, 0, 0)), some (am_I x1), x2] [] M (am_Z w) = some (.inl (some (am_I (-1001 : Int32))), M, (am_Z w)) := by
  refine Eq.trans (rl_sipush (c := -1001) (k := (-1001 : Int32)) (by decide +kernel) (by decide)) ?_
  exact rl_iret (by decide +kernel) rfl
theorem e140 {d : Nat} {x1 : Int32} {M : am_M} {w : am_W4}  : am_ev (d + 1) 140 [am_P (3, 0, 0), am_I x1] M (am_Z w) = am_bk 140 2 [some (am_P (3, 0, 0)), some (am_I x1), none] [] ((am_ev d) 105 [am_P (3, 0, 0), am_I x1] M (am_Z w)) (am_rn (am_ev d) 140) some := (am_ev_eq d 140 _ M (am_Z w)).trans (b140_0)
theorem b141_0  {M : am_M} {w : am_W4}  : am_rn call 141 0 [some (am_P (3, 0, 0)), none] [] M (am_Z w) = am_bk 141 1 [some (am_P (3, 0, 0)), none] [] (call 81 [am_P (3, 0, 0)] M (am_Z w)) (am_rn call 141) some := by
  refine Eq.trans (rl_aloadn (j := 0) (by decide +kernel) rfl) ?_
  refine Eq.trans (rl_invH (ix := 104) (n := 0) (o := 8) 81 [] [] (by decide +kernel) (by decide +kernel) (by decide +kernel) (by decide +kernel) rfl rfl ck3) ?_
  rfl
theorem b141_4 {s0 : UInt32} {M : am_M} {w : am_W4}  : am_rn call 141 4 [some (am_P (3, 0, 0)), none] [.inl (.float s0)] M (am_Z w) = some (.inl (some (.inl (.float s0))), M, (am_Z w)) := by
  exact rl_fret (by decide +kernel) rfl
theorem b141_6 {x1 : Option am_V} {M : am_M} {w : am_W4}  : am_rn call 141 6 [some (am_P (3, 0, 0)), x1] [] M (am_Z w) = some (.inl (some (.inl (.float (3296346112 : UInt32)))), M, (am_Z w)) := by
  refine Eq.trans (rl_ldcf (ix := 110) (k := (3296346112 : UInt32)) (by decide +kernel) (by decide +kernel) (by decide +kernel)) ?_
  exact rl_fret (by decide +kernel) rfl
theorem e141 {d : Nat}  {M : am_M} {w : am_W4}  : am_ev (d + 1) 141 [am_P (3, 0, 0)] M (am_Z w) = am_bk 141 1 [some (am_P (3, 0, 0)), none] [] ((am_ev d) 81 [am_P (3, 0, 0)] M (am_Z w)) (am_rn (am_ev d) 141) some := (am_ev_eq d 141 _ M (am_Z w)).trans (b141_0)
theorem b142_0  {M : am_M} {w : am_W4}  : am_rn call 142 0 [some (am_P (3, 0, 0)), none] [] M (am_Z w) = am_bk 142 1 [some (am_P (3, 0, 0)), none] [] (call 97 [am_P (3, 0, 0)] M (am_Z w)) (am_rn call 142) some := by
  refine Eq.trans (rl_aloadn (j := 0) (by decide +kernel) rfl) ?_
  refine Eq.trans (rl_invH (ix := 111) (n := 0) (o := 8) 97 [] [] (by decide +kernel) (by decide +kernel) (by decide +kernel) (by decide +kernel) rfl rfl ck3) ?_
  rfl
theorem b142_4 {s0 : UInt64} {M : am_M} {w : am_W4}  : am_rn call 142 4 [some (am_P (3, 0, 0)), none] [.inl (.double s0)] M (am_Z w) = some (.inl (some (.inl (.double s0))), M, (am_Z w)) := by
  exact rl_dret (by decide +kernel) rfl
theorem b142_6 {x1 : Option am_V} {M : am_M} {w : am_W4}  : am_rn call 142 6 [some (am_P (3, 0, 0)), x1] [] M (am_Z w) = some (.inl (some (.inl (.double (13875388141788987392 : UInt64)))), M, (am_Z w)) := by
  refine Eq.trans (rl_ldc2d (ix := 115) (k := (13875388141788987392 : UInt64)) (by decide +kernel) (by decide +kernel) (by decide +kernel)) ?_
  exact rl_dret (by decide +kernel) rfl
theorem e142 {d : Nat}  {M : am_M} {w : am_W4}  : am_ev (d + 1) 142 [am_P (3, 0, 0)] M (am_Z w) = am_bk 142 1 [some (am_P (3, 0, 0)), none] [] ((am_ev d) 97 [am_P (3, 0, 0)] M (am_Z w)) (am_rn (am_ev d) 142) some := (am_ev_eq d 142 _ M (am_Z w)).trans (b142_0)
theorem b143_0 {x1 : Int32} {M : am_M} {w : am_W4}  : am_rn call 143 0 [some (am_P (3, 0, 0)), some (am_I x1), none] [] M (am_Z w) = am_bk 143 2 [some (am_P (3, 0, 0)), some (am_I x1), none] [] (call 106 [am_P (3, 0, 0), am_I x1] M (am_Z w)) (am_rn call 143) some := by
  refine Eq.trans (rl_aloadn (j := 0) (by decide +kernel) rfl) ?_
  refine Eq.trans (rl_iloadn (j := 1) (by decide +kernel) rfl) ?_
  refine Eq.trans (rl_invH (ix := 117) (n := 1) (o := 8) 106 [am_I x1] [] (by decide +kernel) (by decide +kernel) (by decide +kernel) (by decide +kernel) rfl rfl ck3) ?_
  rfl
theorem b143_5 {x1 s0 : Int32} {M : am_M} {w : am_W4}  : am_rn call 143 5 [some (am_P (3, 0, 0)), some (am_I x1), none] [am_I s0] M (am_Z w) = some (.inl (some (am_I s0)), M, (am_Z w)) := by
  exact rl_iret (by decide +kernel) rfl
theorem b143_7 {x1 : Int32} {x2 : Option am_V} {M : am_M} {w : am_W4}  : am_rn call 143 7 [some (am_P (3, 0, 0)), some (am_I x1), x2] [] M (am_Z w) = some (.inl (some (am_I (-1001 : Int32))), M, (am_Z w)) := by
  refine Eq.trans (rl_sipush (c := -1001) (k := (-1001 : Int32)) (by decide +kernel) (by decide)) ?_
  exact rl_iret (by decide +kernel) rfl
theorem e143 {d : Nat} {x1 : Int32} {M : am_M} {w : am_W4}  : am_ev (d + 1) 143 [am_P (3, 0, 0), am_I x1] M (am_Z w) = am_bk 143 2 [some (am_P (3, 0, 0)), some (am_I x1), none] [] ((am_ev d) 106 [am_P (3, 0, 0), am_I x1] M (am_Z w)) (am_rn (am_ev d) 143) some := (am_ev_eq d 143 _ M (am_Z w)).trans (b143_0)
theorem b144_0  {M : am_M} {w : am_W4}  : am_rn call 144 0 [some (am_P (3, 0, 0)), none] [] M (am_Z w) = am_bk 144 1 [some (am_P (3, 0, 0)), none] [] (call 107 [am_P (3, 0, 0)] M (am_Z w)) (am_rn call 144) some := by
  refine Eq.trans (rl_aloadn (j := 0) (by decide +kernel) rfl) ?_
  refine Eq.trans (rl_invH (ix := 120) (n := 0) (o := 8) 107 [] [] (by decide +kernel) (by decide +kernel) (by decide +kernel) (by decide +kernel) rfl rfl ck3) ?_
  rfl
theorem b144_4 {s0 : Int32} {M : am_M} {w : am_W4}  : am_rn call 144 4 [some (am_P (3, 0, 0)), none] [am_I s0] M (am_Z w) = some (.inl (some (am_I s0)), M, (am_Z w)) := by
  exact rl_iret (by decide +kernel) rfl
theorem b144_6 {x1 : Option am_V} {M : am_M} {w : am_W4}  : am_rn call 144 6 [some (am_P (3, 0, 0)), x1] [] M (am_Z w) = some (.inl (some (am_I (-1001 : Int32))), M, (am_Z w)) := by
  refine Eq.trans (rl_sipush (c := -1001) (k := (-1001 : Int32)) (by decide +kernel) (by decide)) ?_
  exact rl_iret (by decide +kernel) rfl
theorem e144 {d : Nat}  {M : am_M} {w : am_W4}  : am_ev (d + 1) 144 [am_P (3, 0, 0)] M (am_Z w) = am_bk 144 1 [some (am_P (3, 0, 0)), none] [] ((am_ev d) 107 [am_P (3, 0, 0)] M (am_Z w)) (am_rn (am_ev d) 144) some := (am_ev_eq d 144 _ M (am_Z w)).trans (b144_0)
theorem b145_0  {M : am_M} {w : am_W4}  : am_rn call 145 0 [some (am_P (3, 0, 0)), none] [] M (am_Z w) = am_bk 145 1 [some (am_P (3, 0, 0)), none] [] (call 109 [am_P (3, 0, 0)] M (am_Z w)) (am_rn call 145) some := by
  refine Eq.trans (rl_aloadn (j := 0) (by decide +kernel) rfl) ?_
  refine Eq.trans (rl_invH (ix := 123) (n := 0) (o := 8) 109 [] [] (by decide +kernel) (by decide +kernel) (by decide +kernel) (by decide +kernel) rfl rfl ck3) ?_
  rfl
theorem b145_4 {s0 : Int32} {M : am_M} {w : am_W4}  : am_rn call 145 4 [some (am_P (3, 0, 0)), none] [am_I s0] M (am_Z w) = some (.inl (some (am_I s0)), M, (am_Z w)) := by
  exact rl_iret (by decide +kernel) rfl
theorem b145_6 {x1 : Option am_V} {M : am_M} {w : am_W4}  : am_rn call 145 6 [some (am_P (3, 0, 0)), x1] [] M (am_Z w) = some (.inl (some (am_I (-1001 : Int32))), M, (am_Z w)) := by
  refine Eq.trans (rl_sipush (c := -1001) (k := (-1001 : Int32)) (by decide +kernel) (by decide)) ?_
  exact rl_iret (by decide +kernel) rfl
theorem e145 {d : Nat}  {M : am_M} {w : am_W4}  : am_ev (d + 1) 145 [am_P (3, 0, 0)] M (am_Z w) = am_bk 145 1 [some (am_P (3, 0, 0)), none] [] ((am_ev d) 109 [am_P (3, 0, 0)] M (am_Z w)) (am_rn (am_ev d) 145) some := (am_ev_eq d 145 _ M (am_Z w)).trans (b145_0)
theorem b146_0 {x1 x2 : Int32} {M : am_M} {w : am_W4}  : am_rn call 146 0 [some (am_P (3, 0, 0)), some (am_I x1), some (am_I x2), none] [] M (am_Z w) = am_bk 146 3 [some (am_P (3, 0, 0)), some (am_I x1), some (am_I x2), none] [] (call 79 [am_P (3, 0, 0), am_I x1, am_I x2] M (am_Z w)) (am_rn call 146) some := by
  refine Eq.trans (rl_aloadn (j := 0) (by decide +kernel) rfl) ?_
  refine Eq.trans (rl_iloadn (j := 1) (by decide +kernel) rfl) ?_
  refine Eq.trans (rl_iloadn (j := 2) (by decide +kernel) rfl) ?_
  refine Eq.trans (rl_invH (ix := 126) (n := 2) (o := 8) 79 [am_I x1, am_I x2] [] (by decide +kernel) (by decide +kernel) (by decide +kernel) (by decide +kernel) rfl rfl ck3) ?_
  rfl
theorem b146_6 {x1 x2 s0 : Int32} {M : am_M} {w : am_W4}  : am_rn call 146 6 [some (am_P (3, 0, 0)), some (am_I x1), some (am_I x2), none] [am_I s0] M (am_Z w) = if s0 = 0 then some (.inl (some (am_I (nI 0))), M, (am_Z w)) else some (.inl (some (am_I (nI 1))), M, (am_Z w)) := by
  refine Eq.trans (rl_ifeq (o := 7) 13 (by decide +kernel) (by decide)) ?_
  refine am_ite (fun h_1 => ?_) (fun h_1 => ?_)
  · skip
    refine Eq.trans (rl_iconst (c := 0) (k := (nI 0)) (by decide +kernel) (by decide)) ?_
    exact rl_iret (by decide +kernel) rfl
  · skip
    refine Eq.trans (rl_iconst (c := 1) (k := (nI 1)) (by decide +kernel) (by decide)) ?_
    refine Eq.trans (rl_goto (o := 4) 14 (by decide +kernel) (by decide)) ?_
    exact rl_iret (by decide +kernel) rfl
theorem b146_16 {x1 x2 : Int32} {x3 : Option am_V} {M : am_M} {w : am_W4}  : am_rn call 146 16 [some (am_P (3, 0, 0)), some (am_I x1), some (am_I x2), x3] [] M (am_Z w) = some (.inl (some (am_I (-1001 : Int32))), M, (am_Z w)) := by
  refine Eq.trans (rl_sipush (c := -1001) (k := (-1001 : Int32)) (by decide +kernel) (by decide)) ?_
  exact rl_iret (by decide +kernel) rfl
theorem b146_21 {x1 x2 : Int32} {x3 : Option am_V} {M : am_M} {w : am_W4}  : am_rn call 146 21 [some (am_P (3, 0, 0)), some (am_I x1), some (am_I x2), x3] [] M (am_Z w) = some (.inl (some (am_I (-1002 : Int32))), M, (am_Z w)) := by
  refine Eq.trans (rl_sipush (c := -1002) (k := (-1002 : Int32)) (by decide +kernel) (by decide)) ?_
  exact rl_iret (by decide +kernel) rfl
theorem e146 {d : Nat} {x1 x2 : Int32} {M : am_M} {w : am_W4}  : am_ev (d + 1) 146 [am_P (3, 0, 0), am_I x1, am_I x2] M (am_Z w) = am_bk 146 3 [some (am_P (3, 0, 0)), some (am_I x1), some (am_I x2), none] [] ((am_ev d) 79 [am_P (3, 0, 0), am_I x1, am_I x2] M (am_Z w)) (am_rn (am_ev d) 146) some := (am_ev_eq d 146 _ M (am_Z w)).trans (b146_0)
end AmBl
