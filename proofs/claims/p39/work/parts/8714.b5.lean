section AmBl
variable {call : Nat → List am_V → am_M → am_X → Option am_R}
theorem b147_0  {M : am_M} {w : am_W4}  : am_rn call 147 0 [some (am_P (3, 0, 0)), some (am_P (50, 0, 0)), none] [] M (am_Z w) = am_rn call 147 2 [some (am_P (3, 0, 0)), some (am_P (50, 0, 0)), some (am_I (nI 0))] [] M (am_Z w) := by
  refine Eq.trans (rl_iconst (c := 0) (k := (nI 0)) (by decide +kernel) (by decide)) ?_
  refine Eq.trans (rl_istoren (j := 2) (ls' := [some (am_P (3, 0, 0)), some (am_P (50, 0, 0)), some (am_I (nI 0))]) (by decide +kernel) rfl rfl) ?_
  rfl
theorem b147_2 {x2 : Int32} {t : List Nat} {M : am_M} {w : am_W4} (hT : w.2.2.2 = some t) : am_rn call 147 2 [some (am_P (3, 0, 0)), some (am_P (50, 0, 0)), some (am_I x2)] [] M (am_Z w) = if x2 < (nI t.length) then if am_in x2 t.length then am_cb (call 136 [am_P (3, 0, 0), am_I (nI (t.getD x2.toNatClampNeg 0))] M (am_Z w)) fun v M' X' => am_rn call 147 19 [some (am_P (3, 0, 0)), some (am_P (50, 0, 0)), some (am_I x2)] (v.toList ++ []) M' X' else none else am_cb (call 137 [am_P (3, 0, 0)] M (am_Z w)) fun v M' X' => am_rn call 147 38 [some (am_P (3, 0, 0)), some (am_P (50, 0, 0)), some (am_I x2)] (v.toList ++ []) M' X' := by
  refine Eq.trans (rl_iloadn (j := 2) (by decide +kernel) rfl) ?_
  refine Eq.trans (rl_aloadn (j := 1) (by decide +kernel) rfl) ?_
  refine Eq.trans (rl_slen2 (ix := 130) (y0 := 0) (by decide +kernel) (by decide +kernel) rfl hT) ?_
  refine Eq.trans (rl_icge (o := 27) 34 (by decide +kernel) (by decide)) ?_
  refine am_ite (fun h_1 => ?_) (fun h_1 => ?_)
  · skip
    refine Eq.trans (rl_aloadn (j := 0) (by decide +kernel) rfl) ?_
    refine Eq.trans (rl_aloadn (j := 1) (by decide +kernel) rfl) ?_
    refine Eq.trans (rl_iloadn (j := 2) (by decide +kernel) rfl) ?_
    refine Eq.trans (rl_schr2 (ix := 135) (y0 := 0) (by decide +kernel) (by decide +kernel) rfl hT) ?_
    refine am_ite (fun h_2 => ?_) (fun _ => rfl)
    refine Eq.trans (rl_invS (ix := 138) (n := 2) (k := 1) 136 [am_P (3, 0, 0), am_I (nI (t.getD x2.toNatClampNeg 0))] [] (by decide +kernel) (by decide +kernel) (by decide) (by decide +kernel) ⟨rfl, rfl⟩ rfl rfl) ?_
    rfl
  · skip
    refine Eq.trans (rl_aloadn (j := 0) (by decide +kernel) rfl) ?_
    refine Eq.trans (rl_invS (ix := 143) (n := 1) (k := 1) 137 [am_P (3, 0, 0)] [] (by decide +kernel) (by decide +kernel) (by decide) (by decide +kernel) ⟨rfl, rfl⟩ rfl rfl) ?_
    rfl
theorem b147_19 {x2 s0 : Int32} {M : am_M} {w : am_W4}  : am_rn call 147 19 [some (am_P (3, 0, 0)), some (am_P (50, 0, 0)), some (am_I x2)] [am_I s0] M (am_Z w) = if s0 = (x2 + (nI 1)) then am_rn call 147 2 [some (am_P (3, 0, 0)), some (am_P (50, 0, 0)), some (am_I (x2 + (nI 1)))] [] M (am_Z w) else some (.inl (some (am_I (-99 : Int32))), M, (am_Z w)) := by
  refine Eq.trans (rl_iloadn (j := 2) (by decide +kernel) rfl) ?_
  refine Eq.trans (rl_iconst (c := 1) (k := (nI 1)) (by decide +kernel) (by decide)) ?_
  refine Eq.trans (rl_iadd (by decide +kernel)) ?_
  refine Eq.trans (rl_iceq (o := 6) 28 (by decide +kernel) (by decide)) ?_
  refine am_ite (fun h_1 => ?_) (fun h_1 => ?_)
  · skip
    refine Eq.trans (rl_iinc (j := 2) (c := 1) (k := (nI 1)) (ls' := [some (am_P (3, 0, 0)), some (am_P (50, 0, 0)), some (am_I (x2 + (nI 1)))]) (by decide +kernel) (by decide) rfl rfl) ?_
    refine Eq.trans (rl_goto (o := (-29)) 2 (by decide +kernel) (by decide)) ?_
    rfl
  · skip
    refine Eq.trans (rl_bipush (c := -99) (k := (-99 : Int32)) (by decide +kernel) (by decide)) ?_
    exact rl_iret (by decide +kernel) rfl
theorem b147_38 {x2 s0 : Int32} {M : am_M} {w : am_W4}  : am_rn call 147 38 [some (am_P (3, 0, 0)), some (am_P (50, 0, 0)), some (am_I x2)] [am_I s0] M (am_Z w) = some (.inl (some (am_I s0)), M, (am_Z w)) := by
  exact rl_iret (by decide +kernel) rfl
theorem e147 {d : Nat}  {M : am_M} {w : am_W4}  : am_ev (d + 1) 147 [am_P (3, 0, 0), am_P (50, 0, 0)] M (am_Z w) = am_rn (am_ev d) 147 2 [some (am_P (3, 0, 0)), some (am_P (50, 0, 0)), some (am_I (nI 0))] [] M (am_Z w) := (am_ev_eq d 147 _ M (am_Z w)).trans (b147_0)
theorem b148_0 {x1 x2 x3 : Int32} {M : am_M} {w : am_W4}  : am_rn call 148 0 [some (am_P (3, 0, 0)), some (am_I x1), some (am_I x2), some (am_I x3)] [] M (am_Z w) = am_cb (call 138 [am_P (3, 0, 0), am_I (nI 0)] M (am_Z w)) fun v M' X' => am_rn call 148 5 [some (am_P (3, 0, 0)), some (am_I x1), some (am_I x2), some (am_I x3)] (v.toList ++ []) M' X' := by
  refine Eq.trans (rl_aloadn (j := 0) (by decide +kernel) rfl) ?_
  refine Eq.trans (rl_iconst (c := 0) (k := (nI 0)) (by decide +kernel) (by decide)) ?_
  refine Eq.trans (rl_invS (ix := 146) (n := 2) (k := 1) 138 [am_P (3, 0, 0), am_I (nI 0)] [] (by decide +kernel) (by decide +kernel) (by decide) (by decide +kernel) ⟨rfl, rfl⟩ rfl rfl) ?_
  rfl
theorem b148_5 {x1 x2 x3 s0 : Int32} {M : am_M} {w : am_W4}  : am_rn call 148 5 [some (am_P (3, 0, 0)), some (am_I x1), some (am_I x2), some (am_I x3)] [am_I s0] M (am_Z w) = if s0 = x1 then am_cb (call 138 [am_P (3, 0, 0), am_I (nI 1)] M (am_Z w)) fun v M' X' => am_rn call 148 14 [some (am_P (3, 0, 0)), some (am_I x1), some (am_I x2), some (am_I x3)] (v.toList ++ []) M' X' else some (.inl (some (am_I (nI 0))), M, (am_Z w)) := by
  refine Eq.trans (rl_iloadn (j := 1) (by decide +kernel) rfl) ?_
  refine Eq.trans (rl_icne (o := 25) 31 (by decide +kernel) (by decide)) ?_
  refine am_ite (fun h_1 => ?_) (fun h_1 => ?_)
  · skip
    refine Eq.trans (rl_aloadn (j := 0) (by decide +kernel) rfl) ?_
    refine Eq.trans (rl_iconst (c := 1) (k := (nI 1)) (by decide +kernel) (by decide)) ?_
    refine Eq.trans (rl_invS (ix := 146) (n := 2) (k := 1) 138 [am_P (3, 0, 0), am_I (nI 1)] [] (by decide +kernel) (by decide +kernel) (by decide) (by decide +kernel) ⟨rfl, rfl⟩ rfl rfl) ?_
    rfl
  · skip
    refine Eq.trans (rl_iconst (c := 0) (k := (nI 0)) (by decide +kernel) (by decide)) ?_
    exact rl_zretk (by decide +kernel) rfl rfl
theorem b148_14 {x1 x2 x3 s0 : Int32} {M : am_M} {w : am_W4}  : am_rn call 148 14 [some (am_P (3, 0, 0)), some (am_I x1), some (am_I x2), some (am_I x3)] [am_I s0] M (am_Z w) = if s0 = x2 then am_cb (call 138 [am_P (3, 0, 0), am_I (nI 2)] M (am_Z w)) fun v M' X' => am_rn call 148 23 [some (am_P (3, 0, 0)), some (am_I x1), some (am_I x2), some (am_I x3)] (v.toList ++ []) M' X' else some (.inl (some (am_I (nI 0))), M, (am_Z w)) := by
  refine Eq.trans (rl_iloadn (j := 2) (by decide +kernel) rfl) ?_
  refine Eq.trans (rl_icne (o := 16) 31 (by decide +kernel) (by decide)) ?_
  refine am_ite (fun h_1 => ?_) (fun h_1 => ?_)
  · skip
    refine Eq.trans (rl_aloadn (j := 0) (by decide +kernel) rfl) ?_
    refine Eq.trans (rl_iconst (c := 2) (k := (nI 2)) (by decide +kernel) (by decide)) ?_
    refine Eq.trans (rl_invS (ix := 146) (n := 2) (k := 1) 138 [am_P (3, 0, 0), am_I (nI 2)] [] (by decide +kernel) (by decide +kernel) (by decide) (by decide +kernel) ⟨rfl, rfl⟩ rfl rfl) ?_
    rfl
  · skip
    refine Eq.trans (rl_iconst (c := 0) (k := (nI 0)) (by decide +kernel) (by decide)) ?_
    exact rl_zretk (by decide +kernel) rfl rfl
theorem b148_23 {x1 x2 x3 s0 : Int32} {M : am_M} {w : am_W4}  : am_rn call 148 23 [some (am_P (3, 0, 0)), some (am_I x1), some (am_I x2), some (am_I x3)] [am_I s0] M (am_Z w) = if s0 = x3 then some (.inl (some (am_I (nI 1))), M, (am_Z w)) else some (.inl (some (am_I (nI 0))), M, (am_Z w)) := by
  refine Eq.trans (rl_iloadn (j := 3) (by decide +kernel) rfl) ?_
  refine Eq.trans (rl_icne (o := 7) 31 (by decide +kernel) (by decide)) ?_
  refine am_ite (fun h_1 => ?_) (fun h_1 => ?_)
  · skip
    refine Eq.trans (rl_iconst (c := 1) (k := (nI 1)) (by decide +kernel) (by decide)) ?_
    refine Eq.trans (rl_goto (o := 4) 32 (by decide +kernel) (by decide)) ?_
    exact rl_zretk (by decide +kernel) rfl rfl
  · skip
    refine Eq.trans (rl_iconst (c := 0) (k := (nI 0)) (by decide +kernel) (by decide)) ?_
    exact rl_zretk (by decide +kernel) rfl rfl
theorem e148 {d : Nat} {x1 x2 x3 : Int32} {M : am_M} {w : am_W4}  : am_ev (d + 1) 148 [am_P (3, 0, 0), am_I x1, am_I x2, am_I x3] M (am_Z w) = am_cb ((am_ev d) 138 [am_P (3, 0, 0), am_I (nI 0)] M (am_Z w)) fun v M' X' => am_rn (am_ev d) 148 5 [some (am_P (3, 0, 0)), some (am_I x1), some (am_I x2), some (am_I x3)] (v.toList ++ []) M' X' := (am_ev_eq d 148 _ M (am_Z w)).trans (b148_0)
theorem b149_0 {x1 : Int32} {M : am_M} {w : am_W4}  : am_rn call 149 0 [some (am_P (3, 0, 0)), some (am_I x1), some (am_P (50, 0, 0)), none] [] M (am_Z w) = am_cb (call 139 [am_P (3, 0, 0), am_I x1] M (am_Z w)) fun v M' X' => am_rn call 149 5 [some (am_P (3, 0, 0)), some (am_I x1), some (am_P (50, 0, 0)), none] (v.toList ++ []) M' X' := by
  refine Eq.trans (rl_aloadn (j := 0) (by decide +kernel) rfl) ?_
  refine Eq.trans (rl_iloadn (j := 1) (by decide +kernel) rfl) ?_
  refine Eq.trans (rl_invS (ix := 149) (n := 2) (k := 1) 139 [am_P (3, 0, 0), am_I x1] [] (by decide +kernel) (by decide +kernel) (by decide) (by decide +kernel) ⟨rfl, rfl⟩ rfl rfl) ?_
  rfl
theorem b149_5 {x1 s0 : Int32} {t : List Nat} {M : am_M} {w : am_W4} (hT : w.2.2.2 = some t) : am_rn call 149 5 [some (am_P (3, 0, 0)), some (am_I x1), some (am_P (50, 0, 0)), none] [am_I s0] M (am_Z w) = if s0 = (nI t.length) then am_rn call 149 16 [some (am_P (3, 0, 0)), some (am_I x1), some (am_P (50, 0, 0)), some (am_I (nI 0))] [] M (am_Z w) else some (.inl (some (am_I (nI 0))), M, (am_Z w)) := by
  refine Eq.trans (rl_aloadn (j := 2) (by decide +kernel) rfl) ?_
  refine Eq.trans (rl_slen2 (ix := 130) (y0 := 0) (by decide +kernel) (by decide +kernel) rfl hT) ?_
  refine Eq.trans (rl_iceq (o := 5) 14 (by decide +kernel) (by decide)) ?_
  refine am_ite (fun h_1 => ?_) (fun h_1 => ?_)
  · skip
    refine Eq.trans (rl_iconst (c := 0) (k := (nI 0)) (by decide +kernel) (by decide)) ?_
    refine Eq.trans (rl_istoren (j := 3) (ls' := [some (am_P (3, 0, 0)), some (am_I x1), some (am_P (50, 0, 0)), some (am_I (nI 0))]) (by decide +kernel) rfl rfl) ?_
    rfl
  · skip
    refine Eq.trans (rl_iconst (c := 0) (k := (nI 0)) (by decide +kernel) (by decide)) ?_
    exact rl_zretk (by decide +kernel) rfl rfl
theorem b149_16 {x1 x3 : Int32} {t : List Nat} {M : am_M} {w : am_W4} (hT : w.2.2.2 = some t) : am_rn call 149 16 [some (am_P (3, 0, 0)), some (am_I x1), some (am_P (50, 0, 0)), some (am_I x3)] [] M (am_Z w) = if x3 < (nI t.length) then am_cb (call 140 [am_P (3, 0, 0), am_I x3] M (am_Z w)) fun v M' X' => am_rn call 149 29 [some (am_P (3, 0, 0)), some (am_I x1), some (am_P (50, 0, 0)), some (am_I x3)] (v.toList ++ []) M' X' else am_cb (call 140 [am_P (3, 0, 0), am_I (nI t.length)] M (am_Z w)) fun v M' X' => am_rn call 149 53 [some (am_P (3, 0, 0)), some (am_I x1), some (am_P (50, 0, 0)), some (am_I x3)] (v.toList ++ []) M' X' := by
  refine Eq.trans (rl_iloadn (j := 3) (by decide +kernel) rfl) ?_
  refine Eq.trans (rl_aloadn (j := 2) (by decide +kernel) rfl) ?_
  refine Eq.trans (rl_slen2 (ix := 130) (y0 := 0) (by decide +kernel) (by decide +kernel) rfl hT) ?_
  refine Eq.trans (rl_icge (o := 24) 45 (by decide +kernel) (by decide)) ?_
  refine am_ite (fun h_1 => ?_) (fun h_1 => ?_)
  · skip
    refine Eq.trans (rl_aloadn (j := 0) (by decide +kernel) rfl) ?_
    refine Eq.trans (rl_iloadn (j := 3) (by decide +kernel) rfl) ?_
    refine Eq.trans (rl_invS (ix := 151) (n := 2) (k := 1) 140 [am_P (3, 0, 0), am_I x3] [] (by decide +kernel) (by decide +kernel) (by decide) (by decide +kernel) ⟨rfl, rfl⟩ rfl rfl) ?_
    rfl
  · skip
    refine Eq.trans (rl_aloadn (j := 0) (by decide +kernel) rfl) ?_
    refine Eq.trans (rl_aloadn (j := 2) (by decide +kernel) rfl) ?_
    refine Eq.trans (rl_slen2 (ix := 130) (y0 := 0) (by decide +kernel) (by decide +kernel) rfl hT) ?_
    refine Eq.trans (rl_invS (ix := 151) (n := 2) (k := 1) 140 [am_P (3, 0, 0), am_I (nI t.length)] [] (by decide +kernel) (by decide +kernel) (by decide) (by decide +kernel) ⟨rfl, rfl⟩ rfl rfl) ?_
    rfl
theorem b149_29 {x1 x3 s0 : Int32} {t : List Nat} {M : am_M} {w : am_W4} (hT : w.2.2.2 = some t) : am_rn call 149 29 [some (am_P (3, 0, 0)), some (am_I x1), some (am_P (50, 0, 0)), some (am_I x3)] [am_I s0] M (am_Z w) = if am_in x3 t.length then if s0 = (nI (t.getD x3.toNatClampNeg 0)) then am_rn call 149 16 [some (am_P (3, 0, 0)), some (am_I x1), some (am_P (50, 0, 0)), some (am_I (x3 + (nI 1)))] [] M (am_Z w) else some (.inl (some (am_I (nI 0))), M, (am_Z w)) else none := by
  refine Eq.trans (rl_aloadn (j := 2) (by decide +kernel) rfl) ?_
  refine Eq.trans (rl_iloadn (j := 3) (by decide +kernel) rfl) ?_
  refine Eq.trans (rl_schr2 (ix := 135) (y0 := 0) (by decide +kernel) (by decide +kernel) rfl hT) ?_
  refine am_ite (fun h_1 => ?_) (fun _ => rfl)
  refine Eq.trans (rl_iceq (o := 5) 39 (by decide +kernel) (by decide)) ?_
  refine am_ite (fun h_2 => ?_) (fun h_2 => ?_)
  · skip
    refine Eq.trans (rl_iinc (j := 3) (c := 1) (k := (nI 1)) (ls' := [some (am_P (3, 0, 0)), some (am_I x1), some (am_P (50, 0, 0)), some (am_I (x3 + (nI 1)))]) (by decide +kernel) (by decide) rfl rfl) ?_
    refine Eq.trans (rl_goto (o := (-26)) 16 (by decide +kernel) (by decide)) ?_
    rfl
  · skip
    refine Eq.trans (rl_iconst (c := 0) (k := (nI 0)) (by decide +kernel) (by decide)) ?_
    exact rl_zretk (by decide +kernel) rfl rfl
theorem b149_53 {x1 x3 s0 : Int32} {M : am_M} {w : am_W4}  : am_rn call 149 53 [some (am_P (3, 0, 0)), some (am_I x1), some (am_P (50, 0, 0)), some (am_I x3)] [am_I s0] M (am_Z w) = if s0 = (-1001 : Int32) then some (.inl (some (am_I (nI 1))), M, (am_Z w)) else some (.inl (some (am_I (nI 0))), M, (am_Z w)) := by
  refine Eq.trans (rl_sipush (c := -1001) (k := (-1001 : Int32)) (by decide +kernel) (by decide)) ?_
  refine Eq.trans (rl_icne (o := 7) 63 (by decide +kernel) (by decide)) ?_
  refine am_ite (fun h_1 => ?_) (fun h_1 => ?_)
  · skip
    refine Eq.trans (rl_iconst (c := 1) (k := (nI 1)) (by decide +kernel) (by decide)) ?_
    refine Eq.trans (rl_goto (o := 4) 64 (by decide +kernel) (by decide)) ?_
    exact rl_zretk (by decide +kernel) rfl rfl
  · skip
    refine Eq.trans (rl_iconst (c := 0) (k := (nI 0)) (by decide +kernel) (by decide)) ?_
    exact rl_zretk (by decide +kernel) rfl rfl
theorem e149 {d : Nat} {x1 : Int32} {M : am_M} {w : am_W4}  : am_ev (d + 1) 149 [am_P (3, 0, 0), am_I x1, am_P (50, 0, 0)] M (am_Z w) = am_cb ((am_ev d) 139 [am_P (3, 0, 0), am_I x1] M (am_Z w)) fun v M' X' => am_rn (am_ev d) 149 5 [some (am_P (3, 0, 0)), some (am_I x1), some (am_P (50, 0, 0)), none] (v.toList ++ []) M' X' := (am_ev_eq d 149 _ M (am_Z w)).trans (b149_0)
theorem b150_0  {M : am_M} {w : am_W4}  : am_rn call 150 0 [some (am_P (3, 0, 0)), some (am_P (0, 0, 0)), none] [] M (am_Z w) = am_rn call 150 2 [some (am_P (3, 0, 0)), some (am_P (0, 0, 0)), some (am_I (nI 0))] [] M (am_Z w) := by
  refine Eq.trans (rl_iconst (c := 0) (k := (nI 0)) (by decide +kernel) (by decide)) ?_
  refine Eq.trans (rl_istoren (j := 2) (ls' := [some (am_P (3, 0, 0)), some (am_P (0, 0, 0)), some (am_I (nI 0))]) (by decide +kernel) rfl rfl) ?_
  rfl
theorem b150_2 {x2 : Int32} {M : am_M} {w : am_W4}  : am_rn call 150 2 [some (am_P (3, 0, 0)), some (am_P (0, 0, 0)), some (am_I x2)] [] M (am_Z w) = if x2 < (nI 5) then am_cb (call 113 [am_P (0, 0, 0), am_I x2] M (am_Z w)) fun v M' X' => am_rn call 150 13 [some (am_P (3, 0, 0)), some (am_P (0, 0, 0)), some (am_I x2)] (v.toList ++ [am_P (3, 0, 0)]) M' X' else am_rn call 150 62 [some (am_P (3, 0, 0)), some (am_P (0, 0, 0)), some (am_I (nI 1))] [] M (am_Z w) := by
  refine Eq.trans (rl_iloadn (j := 2) (by decide +kernel) rfl) ?_
  refine Eq.trans (rl_iconst (c := 5) (k := (nI 5)) (by decide +kernel) (by decide)) ?_
  refine Eq.trans (rl_icge (o := 56) 60 (by decide +kernel) (by decide)) ?_
  refine am_ite (fun h_1 => ?_) (fun h_1 => ?_)
  · skip
    refine Eq.trans (rl_aloadn (j := 0) (by decide +kernel) rfl) ?_
    refine Eq.trans (rl_aloadn (j := 1) (by decide +kernel) rfl) ?_
    refine Eq.trans (rl_iloadn (j := 2) (by decide +kernel) rfl) ?_
    refine Eq.trans (rl_invS (ix := 153) (n := 2) (k := 1) 113 [am_P (0, 0, 0), am_I x2] [am_P (3, 0, 0)] (by decide +kernel) (by decide +kernel) (by decide) (by decide +kernel) ⟨rfl, rfl⟩ rfl rfl) ?_
    rfl
  · skip
    refine Eq.trans (rl_iconst (c := 1) (k := (nI 1)) (by decide +kernel) (by decide)) ?_
    refine Eq.trans (rl_istoren (j := 2) (ls' := [some (am_P (3, 0, 0)), some (am_P (0, 0, 0)), some (am_I (nI 1))]) (by decide +kernel) rfl rfl) ?_
    rfl
theorem b150_13 {x2 s0 : Int32} {M : am_M} {w : am_W4}  : am_rn call 150 13 [some (am_P (3, 0, 0)), some (am_P (0, 0, 0)), some (am_I x2)] [am_I s0, am_P (3, 0, 0)] M (am_Z w) = am_cb (call 114 [am_I s0, am_I (nI 10)] M (am_Z w)) fun v M' X' => am_rn call 150 18 [some (am_P (3, 0, 0)), some (am_P (0, 0, 0)), some (am_I x2)] (v.toList ++ [am_P (3, 0, 0)]) M' X' := by
  refine Eq.trans (rl_bipush (c := 10) (k := (nI 10)) (by decide +kernel) (by decide)) ?_
  refine Eq.trans (rl_invS (ix := 157) (n := 2) (k := 1) 114 [am_I s0, am_I (nI 10)] [am_P (3, 0, 0)] (by decide +kernel) (by decide +kernel) (by decide) (by decide +kernel) ⟨rfl, rfl⟩ rfl rfl) ?_
  rfl
theorem b150_18 {x2 s0 : Int32} {M : am_M} {w : am_W4}  : am_rn call 150 18 [some (am_P (3, 0, 0)), some (am_P (0, 0, 0)), some (am_I x2)] [am_I s0, am_P (3, 0, 0)] M (am_Z w) = am_cb (call 113 [am_P (0, 0, 0), am_I x2] M (am_Z w)) fun v M' X' => am_rn call 150 23 [some (am_P (3, 0, 0)), some (am_P (0, 0, 0)), some (am_I x2)] (v.toList ++ [am_I s0, am_P (3, 0, 0)]) M' X' := by
  refine Eq.trans (rl_aloadn (j := 1) (by decide +kernel) rfl) ?_
  refine Eq.trans (rl_iloadn (j := 2) (by decide +kernel) rfl) ?_
  refine Eq.trans (rl_invS (ix := 153) (n := 2) (k := 1) 113 [am_P (0, 0, 0), am_I x2] [am_I s0, am_P (3, 0, 0)] (by decide +kernel) (by decide +kernel) (by decide) (by decide +kernel) ⟨rfl, rfl⟩ rfl rfl) ?_
  rfl
theorem b150_23 {x2 s0 s1 : Int32} {M : am_M} {w : am_W4}  : am_rn call 150 23 [some (am_P (3, 0, 0)), some (am_P (0, 0, 0)), some (am_I x2)] [am_I s0, am_I s1, am_P (3, 0, 0)] M (am_Z w) = am_cb (call 114 [am_I (s0 >>> ((nI 5) &&& 31)), am_I (nI 10)] M (am_Z w)) fun v M' X' => am_rn call 150 30 [some (am_P (3, 0, 0)), some (am_P (0, 0, 0)), some (am_I x2)] (v.toList ++ [am_I s1, am_P (3, 0, 0)]) M' X' := by
  refine Eq.trans (rl_iconst (c := 5) (k := (nI 5)) (by decide +kernel) (by decide)) ?_
  refine Eq.trans (rl_ishr (by decide +kernel)) ?_
  refine Eq.trans (rl_bipush (c := 10) (k := (nI 10)) (by decide +kernel) (by decide)) ?_
  refine Eq.trans (rl_invS (ix := 157) (n := 2) (k := 1) 114 [am_I (s0 >>> ((nI 5) &&& 31)), am_I (nI 10)] [am_I s1, am_P (3, 0, 0)] (by decide +kernel) (by decide +kernel) (by decide) (by decide +kernel) ⟨rfl, rfl⟩ rfl rfl) ?_
  rfl
theorem b150_30 {x2 s0 s1 : Int32} {M : am_M} {w : am_W4}  : am_rn call 150 30 [some (am_P (3, 0, 0)), some (am_P (0, 0, 0)), some (am_I x2)] [am_I s0, am_I s1, am_P (3, 0, 0)] M (am_Z w) = am_cb (call 113 [am_P (0, 0, 0), am_I x2] M (am_Z w)) fun v M' X' => am_rn call 150 36 [some (am_P (3, 0, 0)), some (am_P (0, 0, 0)), some (am_I x2)] (v.toList ++ [am_I (nI 1), am_I s0, am_I s1, am_P (3, 0, 0)]) M' X' := by
  refine Eq.trans (rl_iconst (c := 1) (k := (nI 1)) (by decide +kernel) (by decide)) ?_
  refine Eq.trans (rl_aloadn (j := 1) (by decide +kernel) rfl) ?_
  refine Eq.trans (rl_iloadn (j := 2) (by decide +kernel) rfl) ?_
  refine Eq.trans (rl_invS (ix := 153) (n := 2) (k := 1) 113 [am_P (0, 0, 0), am_I x2] [am_I (nI 1), am_I s0, am_I s1, am_P (3, 0, 0)] (by decide +kernel) (by decide +kernel) (by decide) (by decide +kernel) ⟨rfl, rfl⟩ rfl rfl) ?_
  rfl
theorem b150_36 {x2 s0 s2 s3 : Int32} {M : am_M} {w : am_W4}  : am_rn call 150 36 [some (am_P (3, 0, 0)), some (am_P (0, 0, 0)), some (am_I x2)] [am_I s0, am_I (nI 1), am_I s2, am_I s3, am_P (3, 0, 0)] M (am_Z w) = am_cb (call 114 [am_I (s0 >>> ((nI 8) &&& 31)), am_I (nI 6)] M (am_Z w)) fun v M' X' => am_rn call 150 44 [some (am_P (3, 0, 0)), some (am_P (0, 0, 0)), some (am_I x2)] (v.toList ++ [am_I (nI 1), am_I s2, am_I s3, am_P (3, 0, 0)]) M' X' := by
  refine Eq.trans (rl_bipush (c := 8) (k := (nI 8)) (by decide +kernel) (by decide)) ?_
  refine Eq.trans (rl_ishr (by decide +kernel)) ?_
  refine Eq.trans (rl_bipush (c := 6) (k := (nI 6)) (by decide +kernel) (by decide)) ?_
  refine Eq.trans (rl_invS (ix := 157) (n := 2) (k := 1) 114 [am_I (s0 >>> ((nI 8) &&& 31)), am_I (nI 6)] [am_I (nI 1), am_I s2, am_I s3, am_P (3, 0, 0)] (by decide +kernel) (by decide +kernel) (by decide) (by decide +kernel) ⟨rfl, rfl⟩ rfl rfl) ?_
  rfl
theorem b150_44 {x2 s0 s2 s3 : Int32} {M : am_M} {w : am_W4}  : am_rn call 150 44 [some (am_P (3, 0, 0)), some (am_P (0, 0, 0)), some (am_I x2)] [am_I s0, am_I (nI 1), am_I s2, am_I s3, am_P (3, 0, 0)] M (am_Z w) = am_cb (call 115 [am_P (3, 0, 0), am_I s3, am_I s2, am_I ((nI 1) + s0)] M (am_Z w)) fun v M' X' => am_rn call 150 48 [some (am_P (3, 0, 0)), some (am_P (0, 0, 0)), some (am_I x2)] (v.toList ++ []) M' X' := by
  refine Eq.trans (rl_iadd (by decide +kernel)) ?_
  refine Eq.trans (rl_invS (ix := 160) (n := 4) (k := 1) 115 [am_P (3, 0, 0), am_I s3, am_I s2, am_I ((nI 1) + s0)] [] (by decide +kernel) (by decide +kernel) (by decide) (by decide +kernel) ⟨rfl, rfl⟩ rfl rfl) ?_
  rfl
theorem b150_48 {x2 s0 : Int32} {M : am_M} {w : am_W4}  : am_rn call 150 48 [some (am_P (3, 0, 0)), some (am_P (0, 0, 0)), some (am_I x2)] [am_I s0] M (am_Z w) = if s0 = x2 then am_rn call 150 2 [some (am_P (3, 0, 0)), some (am_P (0, 0, 0)), some (am_I (x2 + (nI 1)))] [] M (am_Z w) else some (.inl (some (am_I (nI 0))), M, (am_Z w)) := by
  refine Eq.trans (rl_iloadn (j := 2) (by decide +kernel) rfl) ?_
  refine Eq.trans (rl_iceq (o := 5) 54 (by decide +kernel) (by decide)) ?_
  refine am_ite (fun h_1 => ?_) (fun h_1 => ?_)
  · skip
    refine Eq.trans (rl_iinc (j := 2) (c := 1) (k := (nI 1)) (ls' := [some (am_P (3, 0, 0)), some (am_P (0, 0, 0)), some (am_I (x2 + (nI 1)))]) (by decide +kernel) (by decide) rfl rfl) ?_
    refine Eq.trans (rl_goto (o := (-55)) 2 (by decide +kernel) (by decide)) ?_
    rfl
  · skip
    refine Eq.trans (rl_iconst (c := 0) (k := (nI 0)) (by decide +kernel) (by decide)) ?_
    exact rl_zretk (by decide +kernel) rfl rfl
theorem b150_62 {x2 : Int32} {M : am_M} {w : am_W4}  : am_rn call 150 62 [some (am_P (3, 0, 0)), some (am_P (0, 0, 0)), some (am_I x2)] [] M (am_Z w) = if x2 < (nI 9) then am_cb (call 113 [am_P (0, 0, 0), am_I ((nI 5) + x2)] M (am_Z w)) fun v M' X' => am_rn call 150 81 [some (am_P (3, 0, 0)), some (am_P (0, 0, 0)), some (am_I x2)] (v.toList ++ [am_I ((nI 18) * x2), am_I x2, am_P (3, 0, 0)]) M' X' else am_rn call 150 103 [some (am_P (3, 0, 0)), some (am_P (0, 0, 0)), some (am_I (nI 0))] [] M (am_Z w) := by
  refine Eq.trans (rl_iloadn (j := 2) (by decide +kernel) rfl) ?_
  refine Eq.trans (rl_bipush (c := 9) (k := (nI 9)) (by decide +kernel) (by decide)) ?_
  refine Eq.trans (rl_icge (o := 36) 101 (by decide +kernel) (by decide)) ?_
  refine am_ite (fun h_1 => ?_) (fun h_1 => ?_)
  · skip
    refine Eq.trans (rl_aloadn (j := 0) (by decide +kernel) rfl) ?_
    refine Eq.trans (rl_iloadn (j := 2) (by decide +kernel) rfl) ?_
    refine Eq.trans (rl_bipush (c := 18) (k := (nI 18)) (by decide +kernel) (by decide)) ?_
    refine Eq.trans (rl_iloadn (j := 2) (by decide +kernel) rfl) ?_
    refine Eq.trans (rl_imul (by decide +kernel)) ?_
    refine Eq.trans (rl_aloadn (j := 1) (by decide +kernel) rfl) ?_
    refine Eq.trans (rl_iconst (c := 5) (k := (nI 5)) (by decide +kernel) (by decide)) ?_
    refine Eq.trans (rl_iloadn (j := 2) (by decide +kernel) rfl) ?_
    refine Eq.trans (rl_iadd (by decide +kernel)) ?_
    refine Eq.trans (rl_invS (ix := 153) (n := 2) (k := 1) 113 [am_P (0, 0, 0), am_I ((nI 5) + x2)] [am_I ((nI 18) * x2), am_I x2, am_P (3, 0, 0)] (by decide +kernel) (by decide +kernel) (by decide) (by decide +kernel) ⟨rfl, rfl⟩ rfl rfl) ?_
    rfl
  · skip
    refine Eq.trans (rl_iconst (c := 0) (k := (nI 0)) (by decide +kernel) (by decide)) ?_
    refine Eq.trans (rl_istoren (j := 2) (ls' := [some (am_P (3, 0, 0)), some (am_P (0, 0, 0)), some (am_I (nI 0))]) (by decide +kernel) rfl rfl) ?_
    rfl
theorem b150_81 {x2 s0 s1 s2 : Int32} {M : am_M} {w : am_W4}  : am_rn call 150 81 [some (am_P (3, 0, 0)), some (am_P (0, 0, 0)), some (am_I x2)] [am_I s0, am_I s1, am_I s2, am_P (3, 0, 0)] M (am_Z w) = am_cb (call 114 [am_I s0, am_I (nI 18)] M (am_Z w)) fun v M' X' => am_rn call 150 86 [some (am_P (3, 0, 0)), some (am_P (0, 0, 0)), some (am_I x2)] (v.toList ++ [am_I s1, am_I s2, am_P (3, 0, 0)]) M' X' := by
  refine Eq.trans (rl_bipush (c := 18) (k := (nI 18)) (by decide +kernel) (by decide)) ?_
  refine Eq.trans (rl_invS (ix := 157) (n := 2) (k := 1) 114 [am_I s0, am_I (nI 18)] [am_I s1, am_I s2, am_P (3, 0, 0)] (by decide +kernel) (by decide +kernel) (by decide) (by decide +kernel) ⟨rfl, rfl⟩ rfl rfl) ?_
  rfl
theorem b150_86 {x2 s0 s1 s2 : Int32} {M : am_M} {w : am_W4}  : am_rn call 150 86 [some (am_P (3, 0, 0)), some (am_P (0, 0, 0)), some (am_I x2)] [am_I s0, am_I s1, am_I s2, am_P (3, 0, 0)] M (am_Z w) = am_cb (call 116 [am_P (3, 0, 0), am_I s2, am_I (s1 - s0)] M (am_Z w)) fun v M' X' => am_rn call 150 90 [some (am_P (3, 0, 0)), some (am_P (0, 0, 0)), some (am_I x2)] (v.toList ++ []) M' X' := by
  refine Eq.trans (rl_isub (by decide +kernel)) ?_
  refine Eq.trans (rl_invS (ix := 163) (n := 3) (k := 1) 116 [am_P (3, 0, 0), am_I s2, am_I (s1 - s0)] [] (by decide +kernel) (by decide +kernel) (by decide) (by decide +kernel) ⟨rfl, rfl⟩ rfl rfl) ?_
  rfl
theorem b150_90 {x2 s0 : Int32} {M : am_M} {w : am_W4}  : am_rn call 150 90 [some (am_P (3, 0, 0)), some (am_P (0, 0, 0)), some (am_I x2)] [am_I s0] M (am_Z w) = if s0 = 0 then am_rn call 150 62 [some (am_P (3, 0, 0)), some (am_P (0, 0, 0)), some (am_I (x2 + (nI 1)))] [] M (am_Z w) else some (.inl (some (am_I (nI 0))), M, (am_Z w)) := by
  refine Eq.trans (rl_ifeq (o := 5) 95 (by decide +kernel) (by decide)) ?_
  refine am_ite (fun h_1 => ?_) (fun h_1 => ?_)
  · skip
    refine Eq.trans (rl_iinc (j := 2) (c := 1) (k := (nI 1)) (ls' := [some (am_P (3, 0, 0)), some (am_P (0, 0, 0)), some (am_I (x2 + (nI 1)))]) (by decide +kernel) (by decide) rfl rfl) ?_
    refine Eq.trans (rl_goto (o := (-36)) 62 (by decide +kernel) (by decide)) ?_
    rfl
  · skip
    refine Eq.trans (rl_iconst (c := 0) (k := (nI 0)) (by decide +kernel) (by decide)) ?_
    exact rl_zretk (by decide +kernel) rfl rfl
theorem b150_103 {x2 : Int32} {M : am_M} {w : am_W4}  : am_rn call 150 103 [some (am_P (3, 0, 0)), some (am_P (0, 0, 0)), some (am_I x2)] [] M (am_Z w) = if x2 < (nI 4) then am_cb (call 113 [am_P (0, 0, 0), am_I ((nI 14) + x2)] M (am_Z w)) fun v M' X' => am_rn call 150 118 [some (am_P (3, 0, 0)), some (am_P (0, 0, 0)), some (am_I x2)] (v.toList ++ [am_I x2, am_P (3, 0, 0)]) M' X' else am_cb (call 113 [am_P (0, 0, 0), am_I (nI 18)] M (am_Z w)) fun v M' X' => am_rn call 150 143 [some (am_P (3, 0, 0)), some (am_P (0, 0, 0)), some (am_I x2)] (v.toList ++ []) M' X' := by
  refine Eq.trans (rl_iloadn (j := 2) (by decide +kernel) rfl) ?_
  refine Eq.trans (rl_iconst (c := 4) (k := (nI 4)) (by decide +kernel) (by decide)) ?_
  refine Eq.trans (rl_icge (o := 32) 137 (by decide +kernel) (by decide)) ?_
  refine am_ite (fun h_1 => ?_) (fun h_1 => ?_)
  · skip
    refine Eq.trans (rl_aloadn (j := 0) (by decide +kernel) rfl) ?_
    refine Eq.trans (rl_iloadn (j := 2) (by decide +kernel) rfl) ?_
    refine Eq.trans (rl_aloadn (j := 1) (by decide +kernel) rfl) ?_
    refine Eq.trans (rl_bipush (c := 14) (k := (nI 14)) (by decide +kernel) (by decide)) ?_
    refine Eq.trans (rl_iloadn (j := 2) (by decide +kernel) rfl) ?_
    refine Eq.trans (rl_iadd (by decide +kernel)) ?_
    refine Eq.trans (rl_invS (ix := 153) (n := 2) (k := 1) 113 [am_P (0, 0, 0), am_I ((nI 14) + x2)] [am_I x2, am_P (3, 0, 0)] (by decide +kernel) (by decide +kernel) (by decide) (by decide +kernel) ⟨rfl, rfl⟩ rfl rfl) ?_
    rfl
  · skip
    refine Eq.trans (rl_aloadn (j := 1) (by decide +kernel) rfl) ?_
    refine Eq.trans (rl_bipush (c := 18) (k := (nI 18)) (by decide +kernel) (by decide)) ?_
    refine Eq.trans (rl_invS (ix := 153) (n := 2) (k := 1) 113 [am_P (0, 0, 0), am_I (nI 18)] [] (by decide +kernel) (by decide +kernel) (by decide) (by decide +kernel) ⟨rfl, rfl⟩ rfl rfl) ?_
    rfl
theorem b150_118 {x2 s0 s1 : Int32} {M : am_M} {w : am_W4}  : am_rn call 150 118 [some (am_P (3, 0, 0)), some (am_P (0, 0, 0)), some (am_I x2)] [am_I s0, am_I s1, am_P (3, 0, 0)] M (am_Z w) = am_cb (call 114 [am_I s0, am_I (nI 10)] M (am_Z w)) fun v M' X' => am_rn call 150 123 [some (am_P (3, 0, 0)), some (am_P (0, 0, 0)), some (am_I x2)] (v.toList ++ [am_I s1, am_P (3, 0, 0)]) M' X' := by
  refine Eq.trans (rl_bipush (c := 10) (k := (nI 10)) (by decide +kernel) (by decide)) ?_
  refine Eq.trans (rl_invS (ix := 157) (n := 2) (k := 1) 114 [am_I s0, am_I (nI 10)] [am_I s1, am_P (3, 0, 0)] (by decide +kernel) (by decide +kernel) (by decide) (by decide +kernel) ⟨rfl, rfl⟩ rfl rfl) ?_
  rfl
theorem b150_123 {x2 s0 s1 : Int32} {M : am_M} {w : am_W4}  : am_rn call 150 123 [some (am_P (3, 0, 0)), some (am_P (0, 0, 0)), some (am_I x2)] [am_I s0, am_I s1, am_P (3, 0, 0)] M (am_Z w) = am_cb (call 118 [am_P (3, 0, 0), am_I s1, am_I s0] M (am_Z w)) fun v M' X' => am_rn call 150 126 [some (am_P (3, 0, 0)), some (am_P (0, 0, 0)), some (am_I x2)] (v.toList ++ []) M' X' := by
  refine Eq.trans (rl_invS (ix := 166) (n := 3) (k := 1) 118 [am_P (3, 0, 0), am_I s1, am_I s0] [] (by decide +kernel) (by decide +kernel) (by decide) (by decide +kernel) ⟨rfl, rfl⟩ rfl rfl) ?_
  rfl
theorem b150_126 {x2 s0 : Int32} {M : am_M} {w : am_W4}  : am_rn call 150 126 [some (am_P (3, 0, 0)), some (am_P (0, 0, 0)), some (am_I x2)] [am_I s0] M (am_Z w) = if s0 = 0 then am_rn call 150 103 [some (am_P (3, 0, 0)), some (am_P (0, 0, 0)), some (am_I (x2 + (nI 1)))] [] M (am_Z w) else some (.inl (some (am_I (nI 0))), M, (am_Z w)) := by
  refine Eq.trans (rl_ifeq (o := 5) 131 (by decide +kernel) (by decide)) ?_
  refine am_ite (fun h_1 => ?_) (fun h_1 => ?_)
  · skip
    refine Eq.trans (rl_iinc (j := 2) (c := 1) (k := (nI 1)) (ls' := [some (am_P (3, 0, 0)), some (am_P (0, 0, 0)), some (am_I (x2 + (nI 1)))]) (by decide +kernel) (by decide) rfl rfl) ?_
    refine Eq.trans (rl_goto (o := (-31)) 103 (by decide +kernel) (by decide)) ?_
    rfl
  · skip
    refine Eq.trans (rl_iconst (c := 0) (k := (nI 0)) (by decide +kernel) (by decide)) ?_
    exact rl_zretk (by decide +kernel) rfl rfl
theorem b150_143 {x2 s0 : Int32} {M : am_M} {w : am_W4}  : am_rn call 150 143 [some (am_P (3, 0, 0)), some (am_P (0, 0, 0)), some (am_I x2)] [am_I s0] M (am_Z w) = am_cb (call 114 [am_I s0, am_I (nI 24)] M (am_Z w)) fun v M' X' => am_rn call 150 148 [some (am_P (3, 0, 0)), some (am_P (0, 0, 0)), some (am_I x2)] (v.toList ++ []) M' X' := by
  refine Eq.trans (rl_bipush (c := 24) (k := (nI 24)) (by decide +kernel) (by decide)) ?_
  refine Eq.trans (rl_invS (ix := 157) (n := 2) (k := 1) 114 [am_I s0, am_I (nI 24)] [] (by decide +kernel) (by decide +kernel) (by decide) (by decide +kernel) ⟨rfl, rfl⟩ rfl rfl) ?_
  rfl
theorem b150_148 {x2 s0 : Int32} {M : am_M} {w : am_W4}  : am_rn call 150 148 [some (am_P (3, 0, 0)), some (am_P (0, 0, 0)), some (am_I x2)] [am_I s0] M (am_Z w) = am_cb (call 113 [am_P (0, 0, 0), am_I (nI 19)] M (am_Z w)) fun v M' X' => am_rn call 150 159 [some (am_P (3, 0, 0)), some (am_P (0, 0, 0)), some (am_I s0)] (v.toList ++ [am_I s0, am_I s0, am_I (nI 2), am_P (3, 0, 0)]) M' X' := by
  refine Eq.trans (rl_istoren (j := 2) (ls' := [some (am_P (3, 0, 0)), some (am_P (0, 0, 0)), some (am_I s0)]) (by decide +kernel) rfl rfl) ?_
  refine Eq.trans (rl_aloadn (j := 0) (by decide +kernel) rfl) ?_
  refine Eq.trans (rl_iconst (c := 2) (k := (nI 2)) (by decide +kernel) (by decide)) ?_
  refine Eq.trans (rl_iloadn (j := 2) (by decide +kernel) rfl) ?_
  refine Eq.trans (rl_iloadn (j := 2) (by decide +kernel) rfl) ?_
  refine Eq.trans (rl_aloadn (j := 1) (by decide +kernel) rfl) ?_
  refine Eq.trans (rl_bipush (c := 19) (k := (nI 19)) (by decide +kernel) (by decide)) ?_
  refine Eq.trans (rl_invS (ix := 153) (n := 2) (k := 1) 113 [am_P (0, 0, 0), am_I (nI 19)] [am_I s0, am_I s0, am_I (nI 2), am_P (3, 0, 0)] (by decide +kernel) (by decide +kernel) (by decide) (by decide +kernel) ⟨rfl, rfl⟩ rfl rfl) ?_
  rfl
theorem b150_159 {x2 s0 s1 s2 : Int32} {M : am_M} {w : am_W4}  : am_rn call 150 159 [some (am_P (3, 0, 0)), some (am_P (0, 0, 0)), some (am_I x2)] [am_I s0, am_I s1, am_I s2, am_I (nI 2), am_P (3, 0, 0)] M (am_Z w) = am_cb (call 114 [am_I s0, am_I (nI 9)] M (am_Z w)) fun v M' X' => am_rn call 150 164 [some (am_P (3, 0, 0)), some (am_P (0, 0, 0)), some (am_I x2)] (v.toList ++ [am_I s1, am_I s2, am_I (nI 2), am_P (3, 0, 0)]) M' X' := by
  refine Eq.trans (rl_bipush (c := 9) (k := (nI 9)) (by decide +kernel) (by decide)) ?_
  refine Eq.trans (rl_invS (ix := 157) (n := 2) (k := 1) 114 [am_I s0, am_I (nI 9)] [am_I s1, am_I s2, am_I (nI 2), am_P (3, 0, 0)] (by decide +kernel) (by decide +kernel) (by decide) (by decide +kernel) ⟨rfl, rfl⟩ rfl rfl) ?_
  rfl
theorem b150_164 {x2 s0 s1 s2 : Int32} {M : am_M} {w : am_W4}  : am_rn call 150 164 [some (am_P (3, 0, 0)), some (am_P (0, 0, 0)), some (am_I x2)] [am_I s0, am_I s1, am_I s2, am_I (nI 2), am_P (3, 0, 0)] M (am_Z w) = am_cb (call 117 [am_P (3, 0, 0), am_I (nI 2), am_I s2, am_I ((s1 + s0) - (s1 + s0) / (nI 24) * (nI 24))] M (am_Z w)) fun v M' X' => am_rn call 150 171 [some (am_P (3, 0, 0)), some (am_P (0, 0, 0)), some (am_I x2)] (v.toList ++ []) M' X' := by
  refine Eq.trans (rl_iadd (by decide +kernel)) ?_
  refine Eq.trans (rl_bipush (c := 24) (k := (nI 24)) (by decide +kernel) (by decide)) ?_
  refine Eq.trans (rl_irem (by decide +kernel) rfl) ?_
  refine Eq.trans (rl_invS (ix := 168) (n := 4) (k := 1) 117 [am_P (3, 0, 0), am_I (nI 2), am_I s2, am_I ((s1 + s0) - (s1 + s0) / (nI 24) * (nI 24))] [] (by decide +kernel) (by decide +kernel) (by decide) (by decide +kernel) ⟨rfl, rfl⟩ rfl rfl) ?_
  rfl
theorem b150_171 {x2 s0 : Int32} {M : am_M} {w : am_W4}  : am_rn call 150 171 [some (am_P (3, 0, 0)), some (am_P (0, 0, 0)), some (am_I x2)] [am_I s0] M (am_Z w) = if s0 < 0 then some (.inl (some (am_I (nI 0))), M, (am_Z w)) else some (.inl (some (am_I (nI 1))), M, (am_Z w)) := by
  refine Eq.trans (rl_iflt (o := 7) 178 (by decide +kernel) (by decide)) ?_
  refine am_ite (fun h_1 => ?_) (fun h_1 => ?_)
  · skip
    refine Eq.trans (rl_iconst (c := 0) (k := (nI 0)) (by decide +kernel) (by decide)) ?_
    exact rl_zretk (by decide +kernel) rfl rfl
  · skip
    refine Eq.trans (rl_iconst (c := 1) (k := (nI 1)) (by decide +kernel) (by decide)) ?_
    refine Eq.trans (rl_goto (o := 4) 179 (by decide +kernel) (by decide)) ?_
    exact rl_zretk (by decide +kernel) rfl rfl
theorem e150 {d : Nat}  {M : am_M} {w : am_W4}  : am_ev (d + 1) 150 [am_P (3, 0, 0), am_P (0, 0, 0)] M (am_Z w) = am_rn (am_ev d) 150 2 [some (am_P (3, 0, 0)), some (am_P (0, 0, 0)), some (am_I (nI 0))] [] M (am_Z w) := (am_ev_eq d 150 _ M (am_Z w)).trans (b150_0)
theorem b151_0 {x0 : Int32} {M : am_M} {w : am_W4}  : am_rn call 151 0 [some (am_I x0), none, none] [] M (am_Z w) = am_cb (call 114 [am_I x0, am_I (nI 8)] M (am_Z w)) fun v M' X' => am_rn call 151 7 [some (am_I x0), none, none] (v.toList ++ [am_I (nI 1)]) M' X' := by
  refine Eq.trans (rl_iconst (c := 1) (k := (nI 1)) (by decide +kernel) (by decide)) ?_
  refine Eq.trans (rl_iloadn (j := 0) (by decide +kernel) rfl) ?_
  refine Eq.trans (rl_bipush (c := 8) (k := (nI 8)) (by decide +kernel) (by decide)) ?_
  refine Eq.trans (rl_invS (ix := 157) (n := 2) (k := 1) 114 [am_I x0, am_I (nI 8)] [am_I (nI 1)] (by decide +kernel) (by decide +kernel) (by decide) (by decide +kernel) ⟨rfl, rfl⟩ rfl rfl) ?_
  rfl
theorem b151_7 {x0 s0 : Int32} {M : am_M} {w : am_W4}  : am_rn call 151 7 [some (am_I x0), none, none] [am_I s0, am_I (nI 1)] M (am_Z w) = am_cb (call 114 [am_I (x0 >>> ((nI 3) &&& 31)), am_I (nI 8)] M (am_Z w)) fun v M' X' => am_rn call 151 17 [some (am_I x0), some (am_I ((nI 1) + s0)), none] (v.toList ++ []) M' X' := by
  refine Eq.trans (rl_iadd (by decide +kernel)) ?_
  refine Eq.trans (rl_istoren (j := 1) (ls' := [some (am_I x0), some (am_I ((nI 1) + s0)), none]) (by decide +kernel) rfl rfl) ?_
  refine Eq.trans (rl_iloadn (j := 0) (by decide +kernel) rfl) ?_
  refine Eq.trans (rl_iconst (c := 3) (k := (nI 3)) (by decide +kernel) (by decide)) ?_
  refine Eq.trans (rl_ishr (by decide +kernel)) ?_
  refine Eq.trans (rl_bipush (c := 8) (k := (nI 8)) (by decide +kernel) (by decide)) ?_
  refine Eq.trans (rl_invS (ix := 157) (n := 2) (k := 1) 114 [am_I (x0 >>> ((nI 3) &&& 31)), am_I (nI 8)] [] (by decide +kernel) (by decide +kernel) (by decide) (by decide +kernel) ⟨rfl, rfl⟩ rfl rfl) ?_
  rfl
theorem b151_17 {x0 x1 s0 : Int32} {M : am_M} {w : am_W4}  : am_rn call 151 17 [some (am_I x0), some (am_I x1), none] [am_I s0] M (am_Z w) = am_rn call 151 18 [some (am_I x0), some (am_I x1), some (am_I s0)] [] M (am_Z w) := by
  refine Eq.trans (rl_istoren (j := 2) (ls' := [some (am_I x0), some (am_I x1), some (am_I s0)]) (by decide +kernel) rfl rfl) ?_
  rfl
theorem b151_18 {x0 x1 x2 : Int32} {M : am_M} {w : am_W4}  : am_rn call 151 18 [some (am_I x0), some (am_I x1), some (am_I x2)] [] M (am_Z w) = if 0 < x2 then am_cb (call 114 [am_I ((x0 >>> (x2 &&& 31)) ^^^ (x2 * (nI 37))), am_I (nI 8)] M (am_Z w)) fun v M' X' => am_rn call 151 41 [some (am_I x0), some (am_I x1), some (am_I x2)] (v.toList ++ [am_I (((nI 10) * x1) + (nI 1))]) M' X' else some (.inl (some (am_I x1)), M, (am_Z w)) := by
  refine Eq.trans (rl_iloadn (j := 2) (by decide +kernel) rfl) ?_
  refine Eq.trans (rl_ifle (o := 30) 49 (by decide +kernel) (by decide)) ?_
  refine am_ite (fun h_1 => ?_) (fun h_1 => ?_)
  · skip
    refine Eq.trans (rl_bipush (c := 10) (k := (nI 10)) (by decide +kernel) (by decide)) ?_
    refine Eq.trans (rl_iloadn (j := 1) (by decide +kernel) rfl) ?_
    refine Eq.trans (rl_imul (by decide +kernel)) ?_
    refine Eq.trans (rl_iconst (c := 1) (k := (nI 1)) (by decide +kernel) (by decide)) ?_
    refine Eq.trans (rl_iadd (by decide +kernel)) ?_
    refine Eq.trans (rl_iloadn (j := 0) (by decide +kernel) rfl) ?_
    refine Eq.trans (rl_iloadn (j := 2) (by decide +kernel) rfl) ?_
    refine Eq.trans (rl_ishr (by decide +kernel)) ?_
    refine Eq.trans (rl_iloadn (j := 2) (by decide +kernel) rfl) ?_
    refine Eq.trans (rl_bipush (c := 37) (k := (nI 37)) (by decide +kernel) (by decide)) ?_
    refine Eq.trans (rl_imul (by decide +kernel)) ?_
    refine Eq.trans (rl_ixor (by decide +kernel)) ?_
    refine Eq.trans (rl_bipush (c := 8) (k := (nI 8)) (by decide +kernel) (by decide)) ?_
    refine Eq.trans (rl_invS (ix := 157) (n := 2) (k := 1) 114 [am_I ((x0 >>> (x2 &&& 31)) ^^^ (x2 * (nI 37))), am_I (nI 8)] [am_I (((nI 10) * x1) + (nI 1))] (by decide +kernel) (by decide +kernel) (by decide) (by decide +kernel) ⟨rfl, rfl⟩ rfl rfl) ?_
    rfl
  · skip
    refine Eq.trans (rl_iloadn (j := 1) (by decide +kernel) rfl) ?_
    exact rl_iret (by decide +kernel) rfl
theorem b151_41 {x0 x1 x2 s0 s1 : Int32} {M : am_M} {w : am_W4}  : am_rn call 151 41 [some (am_I x0), some (am_I x1), some (am_I x2)] [am_I s0, am_I s1] M (am_Z w) = am_rn call 151 18 [some (am_I x0), some (am_I (s1 + s0)), some (am_I (x2 + (-1 : Int32)))] [] M (am_Z w) := by
  refine Eq.trans (rl_iadd (by decide +kernel)) ?_
  refine Eq.trans (rl_istoren (j := 1) (ls' := [some (am_I x0), some (am_I (s1 + s0)), some (am_I x2)]) (by decide +kernel) rfl rfl) ?_
  refine Eq.trans (rl_iinc (j := 2) (c := -1) (k := (-1 : Int32)) (ls' := [some (am_I x0), some (am_I (s1 + s0)), some (am_I (x2 + (-1 : Int32)))]) (by decide +kernel) (by decide) rfl rfl) ?_
  refine Eq.trans (rl_goto (o := (-28)) 18 (by decide +kernel) (by decide)) ?_
  rfl
theorem e151 {d : Nat} {x0 : Int32} {M : am_M} {w : am_W4}  : am_ev (d + 1) 151 [am_I x0] M (am_Z w) = am_cb ((am_ev d) 114 [am_I x0, am_I (nI 8)] M (am_Z w)) fun v M' X' => am_rn (am_ev d) 151 7 [some (am_I x0), none, none] (v.toList ++ [am_I (nI 1)]) M' X' := (am_ev_eq d 151 _ M (am_Z w)).trans (b151_0)
theorem b152_0  {M : am_M} {w : am_W4}  : am_rn call 152 0 [some (am_P (3, 0, 0)), none, none, none, none, none] [] M (am_Z w) = am_cb (call 142 [am_P (3, 0, 0)] M (am_Z w)) fun v M' X' => am_rn call 152 7 [some (am_P (3, 0, 0)), none, none, none, none, none] (v.toList ++ [.inl (.long (31 : Int64))]) M' X' := by
  refine Eq.trans (rl_ldc2l (ix := 170) (k := (31 : Int64)) (by decide +kernel) (by decide +kernel)) ?_
  refine Eq.trans (rl_aloadn (j := 0) (by decide +kernel) rfl) ?_
  refine Eq.trans (rl_invS (ix := 172) (n := 1) (k := 1) 142 [am_P (3, 0, 0)] [.inl (.long (31 : Int64))] (by decide +kernel) (by decide +kernel) (by decide) (by decide +kernel) ⟨rfl, rfl⟩ rfl rfl) ?_
  rfl
theorem b152_7 {s0 : UInt64} {s1 : Int64} {M : am_M} {w : am_W4}  : am_rn call 152 7 [some (am_P (3, 0, 0)), none, none, none, none, none] [.inl (.double s0), .inl (.long s1)] M (am_Z w) = if s0 &&& 0x7fffffffffffffff ≤ 0x7ff0000000000000 then am_cb (call 141 [am_P (3, 0, 0)] M (am_Z w)) fun v M' X' => am_rn call 152 15 [some (am_P (3, 0, 0)), none, none, none, none, none] (v.toList ++ [.inl (.long (s1 * s0.toInt64))]) M' X' else none := by
  refine Eq.trans (rl_dbits (ix := 175) (y0 := 0) (by decide +kernel) (by decide +kernel) rfl) ?_
  refine am_ite (fun h_1 => ?_) (fun _ => rfl)
  refine Eq.trans (rl_lmul (by decide +kernel)) ?_
  refine Eq.trans (rl_aloadn (j := 0) (by decide +kernel) rfl) ?_
  refine Eq.trans (rl_invS (ix := 181) (n := 1) (k := 1) 141 [am_P (3, 0, 0)] [.inl (.long (s1 * s0.toInt64))] (by decide +kernel) (by decide +kernel) (by decide) (by decide +kernel) ⟨rfl, rfl⟩ rfl rfl) ?_
  rfl
theorem b152_15 {s0 : UInt32} {s1 : Int64} {M : am_M} {w : am_W4}  : am_rn call 152 15 [some (am_P (3, 0, 0)), none, none, none, none, none] [.inl (.float s0), .inl (.long s1)] M (am_Z w) = if s0 &&& 0x7fffffff ≤ 0x7f800000 then am_rn call 152 23 [some (am_P (3, 0, 0)), some (.inl (.long (s1 + s0.toInt32.toInt64))), none, some (am_I (nI 0)), none, none] [] M (am_Z w) else none := by
  refine Eq.trans (rl_fbits (ix := 184) (y0 := 0) (by decide +kernel) (by decide +kernel) rfl) ?_
  refine am_ite (fun h_1 => ?_) (fun _ => rfl)
  refine Eq.trans (rl_i2l (by decide +kernel)) ?_
  refine Eq.trans (rl_ladd (by decide +kernel)) ?_
  refine Eq.trans (rl_lstoren (j := 1) (ls' := [some (am_P (3, 0, 0)), some (.inl (.long (s1 + s0.toInt32.toInt64))), none, none, none, none]) (by decide +kernel) rfl rfl) ?_
  refine Eq.trans (rl_iconst (c := 0) (k := (nI 0)) (by decide +kernel) (by decide)) ?_
  refine Eq.trans (rl_istoren (j := 3) (ls' := [some (am_P (3, 0, 0)), some (.inl (.long (s1 + s0.toInt32.toInt64))), none, some (am_I (nI 0)), none, none]) (by decide +kernel) rfl rfl) ?_
  rfl
theorem b152_23 {x1 : Int64} {x3 : Int32} {M : am_M} {w : am_W4}  : am_rn call 152 23 [some (am_P (3, 0, 0)), some (.inl (.long x1)), none, some (am_I x3), none, none] [] M (am_Z w) = if x3 < (nI 10) then am_cb (call 143 [am_P (3, 0, 0), am_I x3] M (am_Z w)) fun v M' X' => am_rn call 152 39 [some (am_P (3, 0, 0)), some (.inl (.long x1)), none, some (am_I x3), none, none] (v.toList ++ [.inl (.long ((31 : Int64) * x1))]) M' X' else am_rn call 152 50 [some (am_P (3, 0, 0)), some (.inl (.long x1)), none, some (am_I (nI 0)), none, none] [] M (am_Z w) := by
  refine Eq.trans (rl_iloadn (j := 3) (by decide +kernel) rfl) ?_
  refine Eq.trans (rl_bipush (c := 10) (k := (nI 10)) (by decide +kernel) (by decide)) ?_
  refine Eq.trans (rl_icge (o := 22) 48 (by decide +kernel) (by decide)) ?_
  refine am_ite (fun h_1 => ?_) (fun h_1 => ?_)
  · skip
    refine Eq.trans (rl_ldc2l (ix := 170) (k := (31 : Int64)) (by decide +kernel) (by decide +kernel)) ?_
    refine Eq.trans (rl_lloadn (j := 1) (by decide +kernel) rfl) ?_
    refine Eq.trans (rl_lmul (by decide +kernel)) ?_
    refine Eq.trans (rl_aloadn (j := 0) (by decide +kernel) rfl) ?_
    refine Eq.trans (rl_iloadn (j := 3) (by decide +kernel) rfl) ?_
    refine Eq.trans (rl_invS (ix := 190) (n := 2) (k := 1) 143 [am_P (3, 0, 0), am_I x3] [.inl (.long ((31 : Int64) * x1))] (by decide +kernel) (by decide +kernel) (by decide) (by decide +kernel) ⟨rfl, rfl⟩ rfl rfl) ?_
    rfl
  · skip
    refine Eq.trans (rl_iconst (c := 0) (k := (nI 0)) (by decide +kernel) (by decide)) ?_
    refine Eq.trans (rl_istoren (j := 3) (ls' := [some (am_P (3, 0, 0)), some (.inl (.long x1)), none, some (am_I (nI 0)), none, none]) (by decide +kernel) rfl rfl) ?_
    rfl
theorem b152_39 {x1 s1 : Int64} {x3 s0 : Int32} {M : am_M} {w : am_W4}  : am_rn call 152 39 [some (am_P (3, 0, 0)), some (.inl (.long x1)), none, some (am_I x3), none, none] [am_I s0, .inl (.long s1)] M (am_Z w) = am_rn call 152 23 [some (am_P (3, 0, 0)), some (.inl (.long (s1 + s0.toInt64))), none, some (am_I (x3 + (nI 1))), none, none] [] M (am_Z w) := by
  refine Eq.trans (rl_i2l (by decide +kernel)) ?_
  refine Eq.trans (rl_ladd (by decide +kernel)) ?_
  refine Eq.trans (rl_lstoren (j := 1) (ls' := [some (am_P (3, 0, 0)), some (.inl (.long (s1 + s0.toInt64))), none, some (am_I x3), none, none]) (by decide +kernel) rfl rfl) ?_
  refine Eq.trans (rl_iinc (j := 3) (c := 1) (k := (nI 1)) (ls' := [some (am_P (3, 0, 0)), some (.inl (.long (s1 + s0.toInt64))), none, some (am_I (x3 + (nI 1))), none, none]) (by decide +kernel) (by decide) rfl rfl) ?_
  refine Eq.trans (rl_goto (o := (-22)) 23 (by decide +kernel) (by decide)) ?_
  rfl
theorem b152_50 {x1 : Int64} {x3 : Int32} {x4 : Option am_V} {M : am_M} {w : am_W4}  : am_rn call 152 50 [some (am_P (3, 0, 0)), some (.inl (.long x1)), none, some (am_I x3), x4, none] [] M (am_Z w) = am_cb (call 143 [am_P (3, 0, 0), am_I (nI 2)] M (am_Z w)) fun v M' X' => am_rn call 152 56 [some (am_P (3, 0, 0)), some (.inl (.long x1)), none, some (am_I x3), x4, none] (v.toList ++ [am_I x3]) M' X' := by
  refine Eq.trans (rl_iloadn (j := 3) (by decide +kernel) rfl) ?_
  refine Eq.trans (rl_aloadn (j := 0) (by decide +kernel) rfl) ?_
  refine Eq.trans (rl_iconst (c := 2) (k := (nI 2)) (by decide +kernel) (by decide)) ?_
  refine Eq.trans (rl_invS (ix := 190) (n := 2) (k := 1) 143 [am_P (3, 0, 0), am_I (nI 2)] [am_I x3] (by decide +kernel) (by decide +kernel) (by decide) (by decide +kernel) ⟨rfl, rfl⟩ rfl rfl) ?_
  rfl
theorem b152_56 {x1 : Int64} {x3 s0 s1 : Int32} {x4 : Option am_V} {M : am_M} {w : am_W4}  : am_rn call 152 56 [some (am_P (3, 0, 0)), some (.inl (.long x1)), none, some (am_I x3), x4, none] [am_I s0, am_I s1] M (am_Z w) = if s1 < s0 then am_rn call 152 62 [some (am_P (3, 0, 0)), some (.inl (.long x1)), none, some (am_I x3), some (am_I (nI 0)), none] [] M (am_Z w) else am_rn call 152 222 [some (am_P (3, 0, 0)), some (.inl (.long x1)), none, some (am_I (nI 1)), x4, none] [] M (am_Z w) := by
  refine Eq.trans (rl_icge (o := 164) 220 (by decide +kernel) (by decide)) ?_
  refine am_ite (fun h_1 => ?_) (fun h_1 => ?_)
  · skip
    refine Eq.trans (rl_iconst (c := 0) (k := (nI 0)) (by decide +kernel) (by decide)) ?_
    refine Eq.trans (rl_istore (j := 4) (ls' := [some (am_P (3, 0, 0)), some (.inl (.long x1)), none, some (am_I x3), some (am_I (nI 0)), none]) (by decide +kernel) rfl rfl) ?_
    rfl
  · skip
    refine Eq.trans (rl_iconst (c := 1) (k := (nI 1)) (by decide +kernel) (by decide)) ?_
    refine Eq.trans (rl_istoren (j := 3) (ls' := [some (am_P (3, 0, 0)), some (.inl (.long x1)), none, some (am_I (nI 1)), x4, none]) (by decide +kernel) rfl rfl) ?_
    rfl
theorem b152_62 {x1 : Int64} {x3 x4 : Int32} {M : am_M} {w : am_W4}  : am_rn call 152 62 [some (am_P (3, 0, 0)), some (.inl (.long x1)), none, some (am_I x3), some (am_I x4), none] [] M (am_Z w) = if x4 < (nI 8) then am_cb (call 123 [am_P (3, 0, 0), am_I x3, am_I x4] M (am_Z w)) fun v M' X' => am_rn call 152 81 [some (am_P (3, 0, 0)), some (.inl (.long x1)), none, some (am_I x3), some (am_I x4), none] (v.toList ++ [.inl (.long ((31 : Int64) * x1))]) M' X' else am_rn call 152 93 [some (am_P (3, 0, 0)), some (.inl (.long x1)), none, some (am_I x3), some (am_I (nI 0)), none] [] M (am_Z w) := by
  refine Eq.trans (rl_iload (j := 4) (by decide +kernel) rfl) ?_
  refine Eq.trans (rl_bipush (c := 8) (k := (nI 8)) (by decide +kernel) (by decide)) ?_
  refine Eq.trans (rl_icge (o := 24) 90 (by decide +kernel) (by decide)) ?_
  refine am_ite (fun h_1 => ?_) (fun h_1 => ?_)
  · skip
    refine Eq.trans (rl_ldc2l (ix := 170) (k := (31 : Int64)) (by decide +kernel) (by decide +kernel)) ?_
    refine Eq.trans (rl_lloadn (j := 1) (by decide +kernel) rfl) ?_
    refine Eq.trans (rl_lmul (by decide +kernel)) ?_
    refine Eq.trans (rl_aloadn (j := 0) (by decide +kernel) rfl) ?_
    refine Eq.trans (rl_iloadn (j := 3) (by decide +kernel) rfl) ?_
    refine Eq.trans (rl_iload (j := 4) (by decide +kernel) rfl) ?_
    refine Eq.trans (rl_invS (ix := 192) (n := 3) (k := 1) 123 [am_P (3, 0, 0), am_I x3, am_I x4] [.inl (.long ((31 : Int64) * x1))] (by decide +kernel) (by decide +kernel) (by decide) (by decide +kernel) ⟨rfl, rfl⟩ rfl rfl) ?_
    rfl
  · skip
    refine Eq.trans (rl_iconst (c := 0) (k := (nI 0)) (by decide +kernel) (by decide)) ?_
    refine Eq.trans (rl_istore (j := 4) (ls' := [some (am_P (3, 0, 0)), some (.inl (.long x1)), none, some (am_I x3), some (am_I (nI 0)), none]) (by decide +kernel) rfl rfl) ?_
    rfl
theorem b152_81 {x1 s1 : Int64} {x3 x4 s0 : Int32} {M : am_M} {w : am_W4}  : am_rn call 152 81 [some (am_P (3, 0, 0)), some (.inl (.long x1)), none, some (am_I x3), some (am_I x4), none] [am_I s0, .inl (.long s1)] M (am_Z w) = am_rn call 152 62 [some (am_P (3, 0, 0)), some (.inl (.long (s1 + s0.toInt64))), none, some (am_I x3), some (am_I (x4 + (nI 1))), none] [] M (am_Z w) := by
  refine Eq.trans (rl_i2l (by decide +kernel)) ?_
  refine Eq.trans (rl_ladd (by decide +kernel)) ?_
  refine Eq.trans (rl_lstoren (j := 1) (ls' := [some (am_P (3, 0, 0)), some (.inl (.long (s1 + s0.toInt64))), none, some (am_I x3), some (am_I x4), none]) (by decide +kernel) rfl rfl) ?_
  refine Eq.trans (rl_iinc (j := 4) (c := 1) (k := (nI 1)) (ls' := [some (am_P (3, 0, 0)), some (.inl (.long (s1 + s0.toInt64))), none, some (am_I x3), some (am_I (x4 + (nI 1))), none]) (by decide +kernel) (by decide) rfl rfl) ?_
  refine Eq.trans (rl_goto (o := (-25)) 62 (by decide +kernel) (by decide)) ?_
  rfl
theorem b152_93 {x1 : Int64} {x3 x4 : Int32} {M : am_M} {w : am_W4}  : am_rn call 152 93 [some (am_P (3, 0, 0)), some (.inl (.long x1)), none, some (am_I x3), some (am_I x4), none] [] M (am_Z w) = am_cb (call 123 [am_P (3, 0, 0), am_I x3, am_I (nI 4)] M (am_Z w)) fun v M' X' => am_rn call 152 101 [some (am_P (3, 0, 0)), some (.inl (.long x1)), none, some (am_I x3), some (am_I x4), none] (v.toList ++ [am_I x4]) M' X' := by
  refine Eq.trans (rl_iload (j := 4) (by decide +kernel) rfl) ?_
  refine Eq.trans (rl_aloadn (j := 0) (by decide +kernel) rfl) ?_
  refine Eq.trans (rl_iloadn (j := 3) (by decide +kernel) rfl) ?_
  refine Eq.trans (rl_iconst (c := 4) (k := (nI 4)) (by decide +kernel) (by decide)) ?_
  refine Eq.trans (rl_invS (ix := 192) (n := 3) (k := 1) 123 [am_P (3, 0, 0), am_I x3, am_I (nI 4)] [am_I x4] (by decide +kernel) (by decide +kernel) (by decide) (by decide +kernel) ⟨rfl, rfl⟩ rfl rfl) ?_
  rfl
theorem b152_101 {x1 : Int64} {x3 x4 s0 s1 : Int32} {M : am_M} {w : am_W4}  : am_rn call 152 101 [some (am_P (3, 0, 0)), some (.inl (.long x1)), none, some (am_I x3), some (am_I x4), none] [am_I s0, am_I s1] M (am_Z w) = if s0 < s1 then am_cb (call 131 [am_P (3, 0, 0), am_I x3, am_I (nI 1)] M (am_Z w)) fun v M' X' => am_rn call 152 145 [some (am_P (3, 0, 0)), some (.inl (.long x1)), none, some (am_I x3), some (am_I x4), none] (v.toList ++ [.inl (.long ((31 : Int64) * x1)), .inl (.long (31 : Int64)), .inl (.long (31 : Int64)), .inl (.long (31 : Int64))]) M' X' else am_cb (call 129 [am_P (3, 0, 0), am_I x3, am_I x4] M (am_Z w)) fun v M' X' => am_rn call 152 116 [some (am_P (3, 0, 0)), some (.inl (.long x1)), none, some (am_I x3), some (am_I x4), none] (v.toList ++ [.inl (.long ((31 : Int64) * x1))]) M' X' := by
  refine Eq.trans (rl_icgt (o := 24) 125 (by decide +kernel) (by decide)) ?_
  refine am_ite (fun h_1 => ?_) (fun h_1 => ?_)
  · skip
    refine Eq.trans (rl_ldc2l (ix := 170) (k := (31 : Int64)) (by decide +kernel) (by decide +kernel)) ?_
    refine Eq.trans (rl_ldc2l (ix := 170) (k := (31 : Int64)) (by decide +kernel) (by decide +kernel)) ?_
    refine Eq.trans (rl_ldc2l (ix := 170) (k := (31 : Int64)) (by decide +kernel) (by decide +kernel)) ?_
    refine Eq.trans (rl_ldc2l (ix := 170) (k := (31 : Int64)) (by decide +kernel) (by decide +kernel)) ?_
    refine Eq.trans (rl_lloadn (j := 1) (by decide +kernel) rfl) ?_
    refine Eq.trans (rl_lmul (by decide +kernel)) ?_
    refine Eq.trans (rl_aloadn (j := 0) (by decide +kernel) rfl) ?_
    refine Eq.trans (rl_iloadn (j := 3) (by decide +kernel) rfl) ?_
    refine Eq.trans (rl_iconst (c := 1) (k := (nI 1)) (by decide +kernel) (by decide)) ?_
    refine Eq.trans (rl_invS (ix := 196) (n := 3) (k := 1) 131 [am_P (3, 0, 0), am_I x3, am_I (nI 1)] [.inl (.long ((31 : Int64) * x1)), .inl (.long (31 : Int64)), .inl (.long (31 : Int64)), .inl (.long (31 : Int64))] (by decide +kernel) (by decide +kernel) (by decide) (by decide +kernel) ⟨rfl, rfl⟩ rfl rfl) ?_
    rfl
  · skip
    refine Eq.trans (rl_ldc2l (ix := 170) (k := (31 : Int64)) (by decide +kernel) (by decide +kernel)) ?_
    refine Eq.trans (rl_lloadn (j := 1) (by decide +kernel) rfl) ?_
    refine Eq.trans (rl_lmul (by decide +kernel)) ?_
    refine Eq.trans (rl_aloadn (j := 0) (by decide +kernel) rfl) ?_
    refine Eq.trans (rl_iloadn (j := 3) (by decide +kernel) rfl) ?_
    refine Eq.trans (rl_iload (j := 4) (by decide +kernel) rfl) ?_
    refine Eq.trans (rl_invS (ix := 194) (n := 3) (k := 1) 129 [am_P (3, 0, 0), am_I x3, am_I x4] [.inl (.long ((31 : Int64) * x1))] (by decide +kernel) (by decide +kernel) (by decide) (by decide +kernel) ⟨rfl, rfl⟩ rfl rfl) ?_
    rfl
theorem b152_116 {x1 s1 : Int64} {x3 x4 s0 : Int32} {M : am_M} {w : am_W4}  : am_rn call 152 116 [some (am_P (3, 0, 0)), some (.inl (.long x1)), none, some (am_I x3), some (am_I x4), none] [am_I s0, .inl (.long s1)] M (am_Z w) = am_rn call 152 93 [some (am_P (3, 0, 0)), some (.inl (.long (s1 + s0.toInt64))), none, some (am_I x3), some (am_I (x4 + (nI 1))), none] [] M (am_Z w) := by
  refine Eq.trans (rl_i2l (by decide +kernel)) ?_
  refine Eq.trans (rl_ladd (by decide +kernel)) ?_
  refine Eq.trans (rl_lstoren (j := 1) (ls' := [some (am_P (3, 0, 0)), some (.inl (.long (s1 + s0.toInt64))), none, some (am_I x3), some (am_I x4), none]) (by decide +kernel) rfl rfl) ?_
  refine Eq.trans (rl_iinc (j := 4) (c := 1) (k := (nI 1)) (ls' := [some (am_P (3, 0, 0)), some (.inl (.long (s1 + s0.toInt64))), none, some (am_I x3), some (am_I (x4 + (nI 1))), none]) (by decide +kernel) (by decide) rfl rfl) ?_
  refine Eq.trans (rl_goto (o := (-29)) 93 (by decide +kernel) (by decide)) ?_
  rfl
theorem b152_145 {x1 s1 s2 s3 s4 : Int64} {x3 x4 s0 : Int32} {M : am_M} {w : am_W4}  : am_rn call 152 145 [some (am_P (3, 0, 0)), some (.inl (.long x1)), none, some (am_I x3), some (am_I x4), none] [am_I s0, .inl (.long s1), .inl (.long s2), .inl (.long s3), .inl (.long s4)] M (am_Z w) = am_cb (call 131 [am_P (3, 0, 0), am_I x3, am_I (nI 0)] M (am_Z w)) fun v M' X' => am_rn call 152 154 [some (am_P (3, 0, 0)), some (.inl (.long x1)), none, some (am_I x3), some (am_I x4), none] (v.toList ++ [.inl (.long (s2 * (s1 + s0.toInt64))), .inl (.long s3), .inl (.long s4)]) M' X' := by
  refine Eq.trans (rl_i2l (by decide +kernel)) ?_
  refine Eq.trans (rl_ladd (by decide +kernel)) ?_
  refine Eq.trans (rl_lmul (by decide +kernel)) ?_
  refine Eq.trans (rl_aloadn (j := 0) (by decide +kernel) rfl) ?_
  refine Eq.trans (rl_iloadn (j := 3) (by decide +kernel) rfl) ?_
  refine Eq.trans (rl_iconst (c := 0) (k := (nI 0)) (by decide +kernel) (by decide)) ?_
  refine Eq.trans (rl_invS (ix := 196) (n := 3) (k := 1) 131 [am_P (3, 0, 0), am_I x3, am_I (nI 0)] [.inl (.long (s2 * (s1 + s0.toInt64))), .inl (.long s3), .inl (.long s4)] (by decide +kernel) (by decide +kernel) (by decide) (by decide +kernel) ⟨rfl, rfl⟩ rfl rfl) ?_
  rfl
theorem b152_154 {x1 s1 s2 s3 : Int64} {x3 x4 s0 : Int32} {M : am_M} {w : am_W4}  : am_rn call 152 154 [some (am_P (3, 0, 0)), some (.inl (.long x1)), none, some (am_I x3), some (am_I x4), none] [am_I s0, .inl (.long s1), .inl (.long s2), .inl (.long s3)] M (am_Z w) = am_cb (call 146 [am_P (3, 0, 0), am_I x3, am_I (nI 1)] M (am_Z w)) fun v M' X' => am_rn call 152 163 [some (am_P (3, 0, 0)), some (.inl (.long x1)), none, some (am_I x3), some (am_I x4), none] (v.toList ++ [.inl (.long (s2 * (s1 + s0.toInt64))), .inl (.long s3)]) M' X' := by
  refine Eq.trans (rl_i2l (by decide +kernel)) ?_
  refine Eq.trans (rl_ladd (by decide +kernel)) ?_
  refine Eq.trans (rl_lmul (by decide +kernel)) ?_
  refine Eq.trans (rl_aloadn (j := 0) (by decide +kernel) rfl) ?_
  refine Eq.trans (rl_iloadn (j := 3) (by decide +kernel) rfl) ?_
  refine Eq.trans (rl_iconst (c := 1) (k := (nI 1)) (by decide +kernel) (by decide)) ?_
  refine Eq.trans (rl_invS (ix := 199) (n := 3) (k := 1) 146 [am_P (3, 0, 0), am_I x3, am_I (nI 1)] [.inl (.long (s2 * (s1 + s0.toInt64))), .inl (.long s3)] (by decide +kernel) (by decide +kernel) (by decide) (by decide +kernel) ⟨rfl, rfl⟩ rfl rfl) ?_
  rfl
theorem b152_163 {x1 s1 s2 : Int64} {x3 x4 s0 : Int32} {M : am_M} {w : am_W4}  : am_rn call 152 163 [some (am_P (3, 0, 0)), some (.inl (.long x1)), none, some (am_I x3), some (am_I x4), none] [am_I s0, .inl (.long s1), .inl (.long s2)] M (am_Z w) = am_cb (call 146 [am_P (3, 0, 0), am_I x3, am_I (nI 0)] M (am_Z w)) fun v M' X' => am_rn call 152 172 [some (am_P (3, 0, 0)), some (.inl (.long x1)), none, some (am_I x3), some (am_I x4), none] (v.toList ++ [.inl (.long (s2 * (s1 + s0.toInt64)))]) M' X' := by
  refine Eq.trans (rl_i2l (by decide +kernel)) ?_
  refine Eq.trans (rl_ladd (by decide +kernel)) ?_
  refine Eq.trans (rl_lmul (by decide +kernel)) ?_
  refine Eq.trans (rl_aloadn (j := 0) (by decide +kernel) rfl) ?_
  refine Eq.trans (rl_iloadn (j := 3) (by decide +kernel) rfl) ?_
  refine Eq.trans (rl_iconst (c := 0) (k := (nI 0)) (by decide +kernel) (by decide)) ?_
  refine Eq.trans (rl_invS (ix := 199) (n := 3) (k := 1) 146 [am_P (3, 0, 0), am_I x3, am_I (nI 0)] [.inl (.long (s2 * (s1 + s0.toInt64)))] (by decide +kernel) (by decide +kernel) (by decide) (by decide +kernel) ⟨rfl, rfl⟩ rfl rfl) ?_
  rfl
theorem b152_172 {x1 s1 : Int64} {x3 x4 s0 : Int32} {M : am_M} {w : am_W4}  : am_rn call 152 172 [some (am_P (3, 0, 0)), some (.inl (.long x1)), none, some (am_I x3), some (am_I x4), none] [am_I s0, .inl (.long s1)] M (am_Z w) = am_cb (call 124 [am_P (3, 0, 0), am_I x3, am_I (nI 0)] M (am_Z w)) fun v M' X' => am_rn call 152 192 [some (am_P (3, 0, 0)), some (.inl (.long (s1 + s0.toInt64))), none, some (am_I x3), some (am_I x4), none] (v.toList ++ [.inl (.long ((31 : Int64) * (s1 + s0.toInt64))), .inl (.long (31 : Int64)), .inl (.long (31 : Int64))]) M' X' := by
  refine Eq.trans (rl_i2l (by decide +kernel)) ?_
  refine Eq.trans (rl_ladd (by decide +kernel)) ?_
  refine Eq.trans (rl_lstoren (j := 1) (ls' := [some (am_P (3, 0, 0)), some (.inl (.long (s1 + s0.toInt64))), none, some (am_I x3), some (am_I x4), none]) (by decide +kernel) rfl rfl) ?_
  refine Eq.trans (rl_ldc2l (ix := 170) (k := (31 : Int64)) (by decide +kernel) (by decide +kernel)) ?_
  refine Eq.trans (rl_ldc2l (ix := 170) (k := (31 : Int64)) (by decide +kernel) (by decide +kernel)) ?_
  refine Eq.trans (rl_ldc2l (ix := 170) (k := (31 : Int64)) (by decide +kernel) (by decide +kernel)) ?_
  refine Eq.trans (rl_lloadn (j := 1) (by decide +kernel) rfl) ?_
  refine Eq.trans (rl_lmul (by decide +kernel)) ?_
  refine Eq.trans (rl_aloadn (j := 0) (by decide +kernel) rfl) ?_
  refine Eq.trans (rl_iloadn (j := 3) (by decide +kernel) rfl) ?_
  refine Eq.trans (rl_iconst (c := 0) (k := (nI 0)) (by decide +kernel) (by decide)) ?_
  refine Eq.trans (rl_invS (ix := 201) (n := 3) (k := 1) 124 [am_P (3, 0, 0), am_I x3, am_I (nI 0)] [.inl (.long ((31 : Int64) * (s1 + s0.toInt64))), .inl (.long (31 : Int64)), .inl (.long (31 : Int64))] (by decide +kernel) (by decide +kernel) (by decide) (by decide +kernel) ⟨rfl, rfl⟩ rfl rfl) ?_
  rfl
theorem b152_192 {x1 s1 s2 s3 : Int64} {x3 x4 s0 : Int32} {M : am_M} {w : am_W4}  : am_rn call 152 192 [some (am_P (3, 0, 0)), some (.inl (.long x1)), none, some (am_I x3), some (am_I x4), none] [am_I s0, .inl (.long s1), .inl (.long s2), .inl (.long s3)] M (am_Z w) = am_cb (call 124 [am_P (3, 0, 0), am_I x3, am_I (nI 1)] M (am_Z w)) fun v M' X' => am_rn call 152 201 [some (am_P (3, 0, 0)), some (.inl (.long x1)), none, some (am_I x3), some (am_I x4), none] (v.toList ++ [.inl (.long (s2 * (s1 + s0.toInt64))), .inl (.long s3)]) M' X' := by
  refine Eq.trans (rl_i2l (by decide +kernel)) ?_
  refine Eq.trans (rl_ladd (by decide +kernel)) ?_
  refine Eq.trans (rl_lmul (by decide +kernel)) ?_
  refine Eq.trans (rl_aloadn (j := 0) (by decide +kernel) rfl) ?_
  refine Eq.trans (rl_iloadn (j := 3) (by decide +kernel) rfl) ?_
  refine Eq.trans (rl_iconst (c := 1) (k := (nI 1)) (by decide +kernel) (by decide)) ?_
  refine Eq.trans (rl_invS (ix := 201) (n := 3) (k := 1) 124 [am_P (3, 0, 0), am_I x3, am_I (nI 1)] [.inl (.long (s2 * (s1 + s0.toInt64))), .inl (.long s3)] (by decide +kernel) (by decide +kernel) (by decide) (by decide +kernel) ⟨rfl, rfl⟩ rfl rfl) ?_
  rfl
theorem b152_201 {x1 s1 s2 : Int64} {x3 x4 s0 : Int32} {M : am_M} {w : am_W4}  : am_rn call 152 201 [some (am_P (3, 0, 0)), some (.inl (.long x1)), none, some (am_I x3), some (am_I x4), none] [am_I s0, .inl (.long s1), .inl (.long s2)] M (am_Z w) = am_cb (call 132 [am_P (3, 0, 0), am_I x3, am_I (nI 31)] M (am_Z w)) fun v M' X' => am_rn call 152 211 [some (am_P (3, 0, 0)), some (.inl (.long x1)), none, some (am_I x3), some (am_I x4), none] (v.toList ++ [.inl (.long (s2 * (s1 + s0.toInt64)))]) M' X' := by
  refine Eq.trans (rl_i2l (by decide +kernel)) ?_
  refine Eq.trans (rl_ladd (by decide +kernel)) ?_
  refine Eq.trans (rl_lmul (by decide +kernel)) ?_
  refine Eq.trans (rl_aloadn (j := 0) (by decide +kernel) rfl) ?_
  refine Eq.trans (rl_iloadn (j := 3) (by decide +kernel) rfl) ?_
  refine Eq.trans (rl_bipush (c := 31) (k := (nI 31)) (by decide +kernel) (by decide)) ?_
  refine Eq.trans (rl_invS (ix := 203) (n := 3) (k := 1) 132 [am_P (3, 0, 0), am_I x3, am_I (nI 31)] [.inl (.long (s2 * (s1 + s0.toInt64)))] (by decide +kernel) (by decide +kernel) (by decide) (by decide +kernel) ⟨rfl, rfl⟩ rfl rfl) ?_
  rfl
theorem b152_211 {x1 s1 : Int64} {x3 x4 s0 : Int32} {M : am_M} {w : am_W4}  : am_rn call 152 211 [some (am_P (3, 0, 0)), some (.inl (.long x1)), none, some (am_I x3), some (am_I x4), none] [am_I s0, .inl (.long s1)] M (am_Z w) = am_rn call 152 50 [some (am_P (3, 0, 0)), some (.inl (.long (s1 + s0.toInt64))), none, some (am_I (x3 + (nI 1))), some (am_I x4), none] [] M (am_Z w) := by
  refine Eq.trans (rl_i2l (by decide +kernel)) ?_
  refine Eq.trans (rl_ladd (by decide +kernel)) ?_
  refine Eq.trans (rl_lstoren (j := 1) (ls' := [some (am_P (3, 0, 0)), some (.inl (.long (s1 + s0.toInt64))), none, some (am_I x3), some (am_I x4), none]) (by decide +kernel) rfl rfl) ?_
  refine Eq.trans (rl_iinc (j := 3) (c := 1) (k := (nI 1)) (ls' := [some (am_P (3, 0, 0)), some (.inl (.long (s1 + s0.toInt64))), none, some (am_I (x3 + (nI 1))), some (am_I x4), none]) (by decide +kernel) (by decide) rfl rfl) ?_
  refine Eq.trans (rl_goto (o := (-167)) 50 (by decide +kernel) (by decide)) ?_
  rfl
theorem b152_222 {x1 : Int64} {x3 : Int32} {x4 : Option am_V} {M : am_M} {w : am_W4}  : am_rn call 152 222 [some (am_P (3, 0, 0)), some (.inl (.long x1)), none, some (am_I x3), x4, none] [] M (am_Z w) = if x3 < (nI 9) then am_cb (call 125 [am_P (3, 0, 0), am_I x3] M (am_Z w)) fun v M' X' => am_rn call 152 238 [some (am_P (3, 0, 0)), some (.inl (.long x1)), none, some (am_I x3), x4, none] (v.toList ++ [.inl (.long ((31 : Int64) * x1))]) M' X' else am_rn call 152 249 [some (am_P (3, 0, 0)), some (.inl (.long x1)), none, some (am_I (nI 0)), x4, none] [] M (am_Z w) := by
  refine Eq.trans (rl_iloadn (j := 3) (by decide +kernel) rfl) ?_
  refine Eq.trans (rl_bipush (c := 9) (k := (nI 9)) (by decide +kernel) (by decide)) ?_
  refine Eq.trans (rl_icge (o := 22) 247 (by decide +kernel) (by decide)) ?_
  refine am_ite (fun h_1 => ?_) (fun h_1 => ?_)
  · skip
    refine Eq.trans (rl_ldc2l (ix := 170) (k := (31 : Int64)) (by decide +kernel) (by decide +kernel)) ?_
    refine Eq.trans (rl_lloadn (j := 1) (by decide +kernel) rfl) ?_
    refine Eq.trans (rl_lmul (by decide +kernel)) ?_
    refine Eq.trans (rl_aloadn (j := 0) (by decide +kernel) rfl) ?_
    refine Eq.trans (rl_iloadn (j := 3) (by decide +kernel) rfl) ?_
    refine Eq.trans (rl_invS (ix := 205) (n := 2) (k := 1) 125 [am_P (3, 0, 0), am_I x3] [.inl (.long ((31 : Int64) * x1))] (by decide +kernel) (by decide +kernel) (by decide) (by decide +kernel) ⟨rfl, rfl⟩ rfl rfl) ?_
    rfl
  · skip
    refine Eq.trans (rl_iconst (c := 0) (k := (nI 0)) (by decide +kernel) (by decide)) ?_
    refine Eq.trans (rl_istoren (j := 3) (ls' := [some (am_P (3, 0, 0)), some (.inl (.long x1)), none, some (am_I (nI 0)), x4, none]) (by decide +kernel) rfl rfl) ?_
    rfl
theorem b152_238 {x1 s1 : Int64} {x3 s0 : Int32} {x4 : Option am_V} {M : am_M} {w : am_W4}  : am_rn call 152 238 [some (am_P (3, 0, 0)), some (.inl (.long x1)), none, some (am_I x3), x4, none] [am_I s0, .inl (.long s1)] M (am_Z w) = am_rn call 152 222 [some (am_P (3, 0, 0)), some (.inl (.long (s1 + s0.toInt64))), none, some (am_I (x3 + (nI 1))), x4, none] [] M (am_Z w) := by
  refine Eq.trans (rl_i2l (by decide +kernel)) ?_
  refine Eq.trans (rl_ladd (by decide +kernel)) ?_
  refine Eq.trans (rl_lstoren (j := 1) (ls' := [some (am_P (3, 0, 0)), some (.inl (.long (s1 + s0.toInt64))), none, some (am_I x3), x4, none]) (by decide +kernel) rfl rfl) ?_
  refine Eq.trans (rl_iinc (j := 3) (c := 1) (k := (nI 1)) (ls' := [some (am_P (3, 0, 0)), some (.inl (.long (s1 + s0.toInt64))), none, some (am_I (x3 + (nI 1))), x4, none]) (by decide +kernel) (by decide) rfl rfl) ?_
  refine Eq.trans (rl_goto (o := (-22)) 222 (by decide +kernel) (by decide)) ?_
  rfl
theorem b152_249 {x1 : Int64} {x3 : Int32} {x4 x5 : Option am_V} {M : am_M} {w : am_W4}  : am_rn call 152 249 [some (am_P (3, 0, 0)), some (.inl (.long x1)), none, some (am_I x3), x4, x5] [] M (am_Z w) = am_cb (call 143 [am_P (3, 0, 0), am_I (nI 4)] M (am_Z w)) fun v M' X' => am_rn call 152 255 [some (am_P (3, 0, 0)), some (.inl (.long x1)), none, some (am_I x3), x4, x5] (v.toList ++ [am_I x3]) M' X' := by
  refine Eq.trans (rl_iloadn (j := 3) (by decide +kernel) rfl) ?_
  refine Eq.trans (rl_aloadn (j := 0) (by decide +kernel) rfl) ?_
  refine Eq.trans (rl_iconst (c := 4) (k := (nI 4)) (by decide +kernel) (by decide)) ?_
  refine Eq.trans (rl_invS (ix := 190) (n := 2) (k := 1) 143 [am_P (3, 0, 0), am_I (nI 4)] [am_I x3] (by decide +kernel) (by decide +kernel) (by decide) (by decide +kernel) ⟨rfl, rfl⟩ rfl rfl) ?_
  rfl
theorem b152_255 {x1 : Int64} {x3 s0 s1 : Int32} {x4 x5 : Option am_V} {M : am_M} {w : am_W4}  : am_rn call 152 255 [some (am_P (3, 0, 0)), some (.inl (.long x1)), none, some (am_I x3), x4, x5] [am_I s0, am_I s1] M (am_Z w) = if s1 < s0 then am_rn call 152 261 [some (am_P (3, 0, 0)), some (.inl (.long x1)), none, some (am_I x3), some (am_I (nI 0)), x5] [] M (am_Z w) else am_cb (call 143 [am_P (3, 0, 0), am_I (nI 4)] M (am_Z w)) fun v M' X' => am_rn call 152 403 [some (am_P (3, 0, 0)), some (.inl (.long x1)), none, some (am_I x3), x4, x5] (v.toList ++ []) M' X' := by
  refine Eq.trans (rl_icge (o := 143) 398 (by decide +kernel) (by decide)) ?_
  refine am_ite (fun h_1 => ?_) (fun h_1 => ?_)
  · skip
    refine Eq.trans (rl_iconst (c := 0) (k := (nI 0)) (by decide +kernel) (by decide)) ?_
    refine Eq.trans (rl_istore (j := 4) (ls' := [some (am_P (3, 0, 0)), some (.inl (.long x1)), none, some (am_I x3), some (am_I (nI 0)), x5]) (by decide +kernel) rfl rfl) ?_
    rfl
  · skip
    refine Eq.trans (rl_aloadn (j := 0) (by decide +kernel) rfl) ?_
    refine Eq.trans (rl_iconst (c := 4) (k := (nI 4)) (by decide +kernel) (by decide)) ?_
    refine Eq.trans (rl_invS (ix := 190) (n := 2) (k := 1) 143 [am_P (3, 0, 0), am_I (nI 4)] [] (by decide +kernel) (by decide +kernel) (by decide) (by decide +kernel) ⟨rfl, rfl⟩ rfl rfl) ?_
    rfl
theorem b152_261 {x1 : Int64} {x3 x4 : Int32} {x5 : Option am_V} {M : am_M} {w : am_W4}  : am_rn call 152 261 [some (am_P (3, 0, 0)), some (.inl (.long x1)), none, some (am_I x3), some (am_I x4), x5] [] M (am_Z w) = if x4 < (nI 9) then am_cb (call 126 [am_P (3, 0, 0), am_I x3, am_I x4] M (am_Z w)) fun v M' X' => am_rn call 152 280 [some (am_P (3, 0, 0)), some (.inl (.long x1)), none, some (am_I x3), some (am_I x4), x5] (v.toList ++ [.inl (.long ((31 : Int64) * x1))]) M' X' else am_rn call 152 292 [some (am_P (3, 0, 0)), some (.inl (.long x1)), none, some (am_I x3), some (am_I (nI 0)), x5] [] M (am_Z w) := by
  refine Eq.trans (rl_iload (j := 4) (by decide +kernel) rfl) ?_
  refine Eq.trans (rl_bipush (c := 9) (k := (nI 9)) (by decide +kernel) (by decide)) ?_
  refine Eq.trans (rl_icge (o := 24) 289 (by decide +kernel) (by decide)) ?_
  refine am_ite (fun h_1 => ?_) (fun h_1 => ?_)
  · skip
    refine Eq.trans (rl_ldc2l (ix := 170) (k := (31 : Int64)) (by decide +kernel) (by decide +kernel)) ?_
    refine Eq.trans (rl_lloadn (j := 1) (by decide +kernel) rfl) ?_
    refine Eq.trans (rl_lmul (by decide +kernel)) ?_
    refine Eq.trans (rl_aloadn (j := 0) (by decide +kernel) rfl) ?_
    refine Eq.trans (rl_iloadn (j := 3) (by decide +kernel) rfl) ?_
    refine Eq.trans (rl_iload (j := 4) (by decide +kernel) rfl) ?_
    refine Eq.trans (rl_invS (ix := 207) (n := 3) (k := 1) 126 [am_P (3, 0, 0), am_I x3, am_I x4] [.inl (.long ((31 : Int64) * x1))] (by decide +kernel) (by decide +kernel) (by decide) (by decide +kernel) ⟨rfl, rfl⟩ rfl rfl) ?_
    rfl
  · skip
    refine Eq.trans (rl_iconst (c := 0) (k := (nI 0)) (by decide +kernel) (by decide)) ?_
    refine Eq.trans (rl_istore (j := 4) (ls' := [some (am_P (3, 0, 0)), some (.inl (.long x1)), none, some (am_I x3), some (am_I (nI 0)), x5]) (by decide +kernel) rfl rfl) ?_
    rfl
theorem b152_280 {x1 s1 : Int64} {x3 x4 s0 : Int32} {x5 : Option am_V} {M : am_M} {w : am_W4}  : am_rn call 152 280 [some (am_P (3, 0, 0)), some (.inl (.long x1)), none, some (am_I x3), some (am_I x4), x5] [am_I s0, .inl (.long s1)] M (am_Z w) = am_rn call 152 261 [some (am_P (3, 0, 0)), some (.inl (.long (s1 + s0.toInt64))), none, some (am_I x3), some (am_I (x4 + (nI 1))), x5] [] M (am_Z w) := by
  refine Eq.trans (rl_i2l (by decide +kernel)) ?_
  refine Eq.trans (rl_ladd (by decide +kernel)) ?_
  refine Eq.trans (rl_lstoren (j := 1) (ls' := [some (am_P (3, 0, 0)), some (.inl (.long (s1 + s0.toInt64))), none, some (am_I x3), some (am_I x4), x5]) (by decide +kernel) rfl rfl) ?_
  refine Eq.trans (rl_iinc (j := 4) (c := 1) (k := (nI 1)) (ls' := [some (am_P (3, 0, 0)), some (.inl (.long (s1 + s0.toInt64))), none, some (am_I x3), some (am_I (x4 + (nI 1))), x5]) (by decide +kernel) (by decide) rfl rfl) ?_
  refine Eq.trans (rl_goto (o := (-25)) 261 (by decide +kernel) (by decide)) ?_
  rfl
theorem b152_292 {x1 : Int64} {x3 x4 : Int32} {x5 : Option am_V} {M : am_M} {w : am_W4}  : am_rn call 152 292 [some (am_P (3, 0, 0)), some (.inl (.long x1)), none, some (am_I x3), some (am_I x4), x5] [] M (am_Z w) = if x4 < (nI 8) then am_cb (call 127 [am_P (3, 0, 0), am_I x3, am_I x4] M (am_Z w)) fun v M' X' => am_rn call 152 311 [some (am_P (3, 0, 0)), some (.inl (.long x1)), none, some (am_I x3), some (am_I x4), x5] (v.toList ++ [.inl (.long ((31 : Int64) * x1))]) M' X' else am_cb (call 128 [am_P (3, 0, 0), am_I x3] M (am_Z w)) fun v M' X' => am_rn call 152 336 [some (am_P (3, 0, 0)), some (.inl (.long x1)), none, some (am_I x3), some (am_I x4), x5] (v.toList ++ [.inl (.long ((31 : Int64) * x1)), .inl (.long (31 : Int64)), .inl (.long (31 : Int64))]) M' X' := by
  refine Eq.trans (rl_iload (j := 4) (by decide +kernel) rfl) ?_
  refine Eq.trans (rl_bipush (c := 8) (k := (nI 8)) (by decide +kernel) (by decide)) ?_
  refine Eq.trans (rl_icge (o := 24) 320 (by decide +kernel) (by decide)) ?_
  refine am_ite (fun h_1 => ?_) (fun h_1 => ?_)
  · skip
    refine Eq.trans (rl_ldc2l (ix := 170) (k := (31 : Int64)) (by decide +kernel) (by decide +kernel)) ?_
    refine Eq.trans (rl_lloadn (j := 1) (by decide +kernel) rfl) ?_
    refine Eq.trans (rl_lmul (by decide +kernel)) ?_
    refine Eq.trans (rl_aloadn (j := 0) (by decide +kernel) rfl) ?_
    refine Eq.trans (rl_iloadn (j := 3) (by decide +kernel) rfl) ?_
    refine Eq.trans (rl_iload (j := 4) (by decide +kernel) rfl) ?_
    refine Eq.trans (rl_invS (ix := 209) (n := 3) (k := 1) 127 [am_P (3, 0, 0), am_I x3, am_I x4] [.inl (.long ((31 : Int64) * x1))] (by decide +kernel) (by decide +kernel) (by decide) (by decide +kernel) ⟨rfl, rfl⟩ rfl rfl) ?_
    rfl
  · skip
    refine Eq.trans (rl_ldc2l (ix := 170) (k := (31 : Int64)) (by decide +kernel) (by decide +kernel)) ?_
    refine Eq.trans (rl_ldc2l (ix := 170) (k := (31 : Int64)) (by decide +kernel) (by decide +kernel)) ?_
    refine Eq.trans (rl_ldc2l (ix := 170) (k := (31 : Int64)) (by decide +kernel) (by decide +kernel)) ?_
    refine Eq.trans (rl_lloadn (j := 1) (by decide +kernel) rfl) ?_
    refine Eq.trans (rl_lmul (by decide +kernel)) ?_
    refine Eq.trans (rl_aloadn (j := 0) (by decide +kernel) rfl) ?_
    refine Eq.trans (rl_iloadn (j := 3) (by decide +kernel) rfl) ?_
    refine Eq.trans (rl_invS (ix := 211) (n := 2) (k := 1) 128 [am_P (3, 0, 0), am_I x3] [.inl (.long ((31 : Int64) * x1)), .inl (.long (31 : Int64)), .inl (.long (31 : Int64))] (by decide +kernel) (by decide +kernel) (by decide) (by decide +kernel) ⟨rfl, rfl⟩ rfl rfl) ?_
    rfl
theorem b152_311 {x1 s1 : Int64} {x3 x4 s0 : Int32} {x5 : Option am_V} {M : am_M} {w : am_W4}  : am_rn call 152 311 [some (am_P (3, 0, 0)), some (.inl (.long x1)), none, some (am_I x3), some (am_I x4), x5] [am_I s0, .inl (.long s1)] M (am_Z w) = am_rn call 152 292 [some (am_P (3, 0, 0)), some (.inl (.long (s1 + s0.toInt64))), none, some (am_I x3), some (am_I (x4 + (nI 1))), x5] [] M (am_Z w) := by
  refine Eq.trans (rl_i2l (by decide +kernel)) ?_
  refine Eq.trans (rl_ladd (by decide +kernel)) ?_
  refine Eq.trans (rl_lstoren (j := 1) (ls' := [some (am_P (3, 0, 0)), some (.inl (.long (s1 + s0.toInt64))), none, some (am_I x3), some (am_I x4), x5]) (by decide +kernel) rfl rfl) ?_
  refine Eq.trans (rl_iinc (j := 4) (c := 1) (k := (nI 1)) (ls' := [some (am_P (3, 0, 0)), some (.inl (.long (s1 + s0.toInt64))), none, some (am_I x3), some (am_I (x4 + (nI 1))), x5]) (by decide +kernel) (by decide) rfl rfl) ?_
  refine Eq.trans (rl_goto (o := (-25)) 292 (by decide +kernel) (by decide)) ?_
  rfl
theorem b152_336 {x1 s1 s2 s3 : Int64} {x3 x4 s0 : Int32} {x5 : Option am_V} {M : am_M} {w : am_W4}  : am_rn call 152 336 [some (am_P (3, 0, 0)), some (.inl (.long x1)), none, some (am_I x3), some (am_I x4), x5] [am_I s0, .inl (.long s1), .inl (.long s2), .inl (.long s3)] M (am_Z w) = am_cb (call 135 [am_P (3, 0, 0), am_I x3] M (am_Z w)) fun v M' X' => am_rn call 152 344 [some (am_P (3, 0, 0)), some (.inl (.long x1)), none, some (am_I x3), some (am_I x4), x5] (v.toList ++ [.inl (.long (s2 * (s1 + s0.toInt64))), .inl (.long s3)]) M' X' := by
  refine Eq.trans (rl_i2l (by decide +kernel)) ?_
  refine Eq.trans (rl_ladd (by decide +kernel)) ?_
  refine Eq.trans (rl_lmul (by decide +kernel)) ?_
  refine Eq.trans (rl_aloadn (j := 0) (by decide +kernel) rfl) ?_
  refine Eq.trans (rl_iloadn (j := 3) (by decide +kernel) rfl) ?_
  refine Eq.trans (rl_invS (ix := 213) (n := 2) (k := 1) 135 [am_P (3, 0, 0), am_I x3] [.inl (.long (s2 * (s1 + s0.toInt64))), .inl (.long s3)] (by decide +kernel) (by decide +kernel) (by decide) (by decide +kernel) ⟨rfl, rfl⟩ rfl rfl) ?_
  rfl
theorem b152_344 {x1 s1 s2 : Int64} {x3 x4 s0 : Int32} {x5 : Option am_V} {M : am_M} {w : am_W4}  : am_rn call 152 344 [some (am_P (3, 0, 0)), some (.inl (.long x1)), none, some (am_I x3), some (am_I x4), x5] [am_I s0, .inl (.long s1), .inl (.long s2)] M (am_Z w) = am_cb (call 130 [am_P (3, 0, 0), am_I x3] M (am_Z w)) fun v M' X' => am_rn call 152 352 [some (am_P (3, 0, 0)), some (.inl (.long x1)), none, some (am_I x3), some (am_I x4), x5] (v.toList ++ [.inl (.long (s2 * (s1 + s0.toInt64)))]) M' X' := by
  refine Eq.trans (rl_i2l (by decide +kernel)) ?_
  refine Eq.trans (rl_ladd (by decide +kernel)) ?_
  refine Eq.trans (rl_lmul (by decide +kernel)) ?_
  refine Eq.trans (rl_aloadn (j := 0) (by decide +kernel) rfl) ?_
  refine Eq.trans (rl_iloadn (j := 3) (by decide +kernel) rfl) ?_
  refine Eq.trans (rl_invS (ix := 215) (n := 2) (k := 1) 130 [am_P (3, 0, 0), am_I x3] [.inl (.long (s2 * (s1 + s0.toInt64)))] (by decide +kernel) (by decide +kernel) (by decide) (by decide +kernel) ⟨rfl, rfl⟩ rfl rfl) ?_
  rfl
theorem b152_352 {x1 s1 : Int64} {x3 x4 s0 : Int32} {x5 : Option am_V} {M : am_M} {w : am_W4}  : am_rn call 152 352 [some (am_P (3, 0, 0)), some (.inl (.long x1)), none, some (am_I x3), some (am_I x4), x5] [am_I s0, .inl (.long s1)] M (am_Z w) = am_cb (call 139 [am_P (3, 0, 0), am_I x3] M (am_Z w)) fun v M' X' => am_rn call 152 360 [some (am_P (3, 0, 0)), some (.inl (.long (s1 + s0.toInt64))), none, some (am_I x3), some (am_I x4), x5] (v.toList ++ []) M' X' := by
  refine Eq.trans (rl_i2l (by decide +kernel)) ?_
  refine Eq.trans (rl_ladd (by decide +kernel)) ?_
  refine Eq.trans (rl_lstoren (j := 1) (ls' := [some (am_P (3, 0, 0)), some (.inl (.long (s1 + s0.toInt64))), none, some (am_I x3), some (am_I x4), x5]) (by decide +kernel) rfl rfl) ?_
  refine Eq.trans (rl_aloadn (j := 0) (by decide +kernel) rfl) ?_
  refine Eq.trans (rl_iloadn (j := 3) (by decide +kernel) rfl) ?_
  refine Eq.trans (rl_invS (ix := 149) (n := 2) (k := 1) 139 [am_P (3, 0, 0), am_I x3] [] (by decide +kernel) (by decide +kernel) (by decide) (by decide +kernel) ⟨rfl, rfl⟩ rfl rfl) ?_
  rfl
theorem b152_360 {x1 : Int64} {x3 x4 s0 : Int32} {x5 : Option am_V} {M : am_M} {w : am_W4}  : am_rn call 152 360 [some (am_P (3, 0, 0)), some (.inl (.long x1)), none, some (am_I x3), some (am_I x4), x5] [am_I s0] M (am_Z w) = am_rn call 152 365 [some (am_P (3, 0, 0)), some (.inl (.long x1)), none, some (am_I x3), some (am_I s0), some (am_I (nI 0))] [] M (am_Z w) := by
  refine Eq.trans (rl_istore (j := 4) (ls' := [some (am_P (3, 0, 0)), some (.inl (.long x1)), none, some (am_I x3), some (am_I s0), x5]) (by decide +kernel) rfl rfl) ?_
  refine Eq.trans (rl_iconst (c := 0) (k := (nI 0)) (by decide +kernel) (by decide)) ?_
  refine Eq.trans (rl_istore (j := 5) (ls' := [some (am_P (3, 0, 0)), some (.inl (.long x1)), none, some (am_I x3), some (am_I s0), some (am_I (nI 0))]) (by decide +kernel) rfl rfl) ?_
  rfl
theorem b152_365 {x1 : Int64} {x3 x4 x5 : Int32} {M : am_M} {w : am_W4}  : am_rn call 152 365 [some (am_P (3, 0, 0)), some (.inl (.long x1)), none, some (am_I x3), some (am_I x4), some (am_I x5)] [] M (am_Z w) = if x5 < x4 then am_cb (call 140 [am_P (3, 0, 0), am_I x5] M (am_Z w)) fun v M' X' => am_rn call 152 383 [some (am_P (3, 0, 0)), some (.inl (.long x1)), none, some (am_I x3), some (am_I x4), some (am_I x5)] (v.toList ++ [.inl (.long ((31 : Int64) * x1))]) M' X' else am_rn call 152 249 [some (am_P (3, 0, 0)), some (.inl (.long x1)), none, some (am_I (x3 + (nI 1))), some (am_I x4), some (am_I x5)] [] M (am_Z w) := by
  refine Eq.trans (rl_iload (j := 5) (by decide +kernel) rfl) ?_
  refine Eq.trans (rl_iload (j := 4) (by decide +kernel) rfl) ?_
  refine Eq.trans (rl_icge (o := 23) 392 (by decide +kernel) (by decide)) ?_
  refine am_ite (fun h_1 => ?_) (fun h_1 => ?_)
  · skip
    refine Eq.trans (rl_ldc2l (ix := 170) (k := (31 : Int64)) (by decide +kernel) (by decide +kernel)) ?_
    refine Eq.trans (rl_lloadn (j := 1) (by decide +kernel) rfl) ?_
    refine Eq.trans (rl_lmul (by decide +kernel)) ?_
    refine Eq.trans (rl_aloadn (j := 0) (by decide +kernel) rfl) ?_
    refine Eq.trans (rl_iload (j := 5) (by decide +kernel) rfl) ?_
    refine Eq.trans (rl_invS (ix := 151) (n := 2) (k := 1) 140 [am_P (3, 0, 0), am_I x5] [.inl (.long ((31 : Int64) * x1))] (by decide +kernel) (by decide +kernel) (by decide) (by decide +kernel) ⟨rfl, rfl⟩ rfl rfl) ?_
    rfl
  · skip
    refine Eq.trans (rl_iinc (j := 3) (c := 1) (k := (nI 1)) (ls' := [some (am_P (3, 0, 0)), some (.inl (.long x1)), none, some (am_I (x3 + (nI 1))), some (am_I x4), some (am_I x5)]) (by decide +kernel) (by decide) rfl rfl) ?_
    refine Eq.trans (rl_goto (o := (-146)) 249 (by decide +kernel) (by decide)) ?_
    rfl
theorem b152_383 {x1 s1 : Int64} {x3 x4 x5 s0 : Int32} {M : am_M} {w : am_W4}  : am_rn call 152 383 [some (am_P (3, 0, 0)), some (.inl (.long x1)), none, some (am_I x3), some (am_I x4), some (am_I x5)] [am_I s0, .inl (.long s1)] M (am_Z w) = am_rn call 152 365 [some (am_P (3, 0, 0)), some (.inl (.long (s1 + s0.toInt64))), none, some (am_I x3), some (am_I x4), some (am_I (x5 + (nI 1)))] [] M (am_Z w) := by
  refine Eq.trans (rl_i2l (by decide +kernel)) ?_
  refine Eq.trans (rl_ladd (by decide +kernel)) ?_
  refine Eq.trans (rl_lstoren (j := 1) (ls' := [some (am_P (3, 0, 0)), some (.inl (.long (s1 + s0.toInt64))), none, some (am_I x3), some (am_I x4), some (am_I x5)]) (by decide +kernel) rfl rfl) ?_
  refine Eq.trans (rl_iinc (j := 5) (c := 1) (k := (nI 1)) (ls' := [some (am_P (3, 0, 0)), some (.inl (.long (s1 + s0.toInt64))), none, some (am_I x3), some (am_I x4), some (am_I (x5 + (nI 1)))]) (by decide +kernel) (by decide) rfl rfl) ?_
  refine Eq.trans (rl_goto (o := (-24)) 365 (by decide +kernel) (by decide)) ?_
  rfl
theorem b152_403 {x1 : Int64} {x3 s0 : Int32} {x4 x5 : Option am_V} {M : am_M} {w : am_W4}  : am_rn call 152 403 [some (am_P (3, 0, 0)), some (.inl (.long x1)), none, some (am_I x3), x4, x5] [am_I s0] M (am_Z w) = if 0 < s0 then am_cb (call 133 [am_P (3, 0, 0), am_I (s0 - (nI 1))] M (am_Z w)) fun v M' X' => am_rn call 152 423 [some (am_P (3, 0, 0)), some (.inl (.long x1)), none, some (am_I s0), x4, x5] (v.toList ++ [.inl (.long ((31 : Int64) * x1)), .inl (.long (31 : Int64))]) M' X' else am_rn call 152 436 [some (am_P (3, 0, 0)), some (.inl (.long x1)), none, some (am_I s0), x4, x5] [] M (am_Z w) := by
  refine Eq.trans (rl_istoren (j := 3) (ls' := [some (am_P (3, 0, 0)), some (.inl (.long x1)), none, some (am_I s0), x4, x5]) (by decide +kernel) rfl rfl) ?_
  refine Eq.trans (rl_iloadn (j := 3) (by decide +kernel) rfl) ?_
  refine Eq.trans (rl_ifle (o := 31) 436 (by decide +kernel) (by decide)) ?_
  refine am_ite (fun h_1 => ?_) (fun h_1 => ?_)
  · skip
    refine Eq.trans (rl_ldc2l (ix := 170) (k := (31 : Int64)) (by decide +kernel) (by decide +kernel)) ?_
    refine Eq.trans (rl_ldc2l (ix := 170) (k := (31 : Int64)) (by decide +kernel) (by decide +kernel)) ?_
    refine Eq.trans (rl_lloadn (j := 1) (by decide +kernel) rfl) ?_
    refine Eq.trans (rl_lmul (by decide +kernel)) ?_
    refine Eq.trans (rl_aloadn (j := 0) (by decide +kernel) rfl) ?_
    refine Eq.trans (rl_iloadn (j := 3) (by decide +kernel) rfl) ?_
    refine Eq.trans (rl_iconst (c := 1) (k := (nI 1)) (by decide +kernel) (by decide)) ?_
    refine Eq.trans (rl_isub (by decide +kernel)) ?_
    refine Eq.trans (rl_invS (ix := 217) (n := 2) (k := 1) 133 [am_P (3, 0, 0), am_I (s0 - (nI 1))] [.inl (.long ((31 : Int64) * x1)), .inl (.long (31 : Int64))] (by decide +kernel) (by decide +kernel) (by decide) (by decide +kernel) ⟨rfl, rfl⟩ rfl rfl) ?_
    rfl
  · skip
    rfl
theorem b152_423 {x1 s1 s2 : Int64} {x3 s0 : Int32} {x4 x5 : Option am_V} {M : am_M} {w : am_W4}  : am_rn call 152 423 [some (am_P (3, 0, 0)), some (.inl (.long x1)), none, some (am_I x3), x4, x5] [am_I s0, .inl (.long s1), .inl (.long s2)] M (am_Z w) = am_cb (call 134 [am_P (3, 0, 0), am_I (x3 - (nI 1))] M (am_Z w)) fun v M' X' => am_rn call 152 433 [some (am_P (3, 0, 0)), some (.inl (.long x1)), none, some (am_I x3), x4, x5] (v.toList ++ [.inl (.long (s2 * (s1 + s0.toInt64)))]) M' X' := by
  refine Eq.trans (rl_i2l (by decide +kernel)) ?_
  refine Eq.trans (rl_ladd (by decide +kernel)) ?_
  refine Eq.trans (rl_lmul (by decide +kernel)) ?_
  refine Eq.trans (rl_aloadn (j := 0) (by decide +kernel) rfl) ?_
  refine Eq.trans (rl_iloadn (j := 3) (by decide +kernel) rfl) ?_
  refine Eq.trans (rl_iconst (c := 1) (k := (nI 1)) (by decide +kernel) (by decide)) ?_
  refine Eq.trans (rl_isub (by decide +kernel)) ?_
  refine Eq.trans (rl_invS (ix := 219) (n := 2) (k := 1) 134 [am_P (3, 0, 0), am_I (x3 - (nI 1))] [.inl (.long (s2 * (s1 + s0.toInt64)))] (by decide +kernel) (by decide +kernel) (by decide) (by decide +kernel) ⟨rfl, rfl⟩ rfl rfl) ?_
  rfl
theorem b152_433 {x1 s1 : Int64} {x3 s0 : Int32} {x4 x5 : Option am_V} {M : am_M} {w : am_W4}  : am_rn call 152 433 [some (am_P (3, 0, 0)), some (.inl (.long x1)), none, some (am_I x3), x4, x5] [am_I s0, .inl (.long s1)] M (am_Z w) = am_rn call 152 436 [some (am_P (3, 0, 0)), some (.inl (.long (s1 + s0.toInt64))), none, some (am_I x3), x4, x5] [] M (am_Z w) := by
  refine Eq.trans (rl_i2l (by decide +kernel)) ?_
  refine Eq.trans (rl_ladd (by decide +kernel)) ?_
  refine Eq.trans (rl_lstoren (j := 1) (ls' := [some (am_P (3, 0, 0)), some (.inl (.long (s1 + s0.toInt64))), none, some (am_I x3), x4, x5]) (by decide +kernel) rfl rfl) ?_
  rfl
theorem b152_436 {x1 : Int64} {x3 : Int32} {x4 x5 : Option am_V} {M : am_M} {w : am_W4}  : am_rn call 152 436 [some (am_P (3, 0, 0)), some (.inl (.long x1)), none, some (am_I x3), x4, x5] [] M (am_Z w) = am_cb (call 95 [am_P (3, 0, 0)] M (am_Z w)) fun v M' X' => am_rn call 152 448 [some (am_P (3, 0, 0)), some (.inl (.long x1)), none, some (am_I x3), x4, x5] (v.toList ++ [.inl (.long ((31 : Int64) * x1)), .inl (.long (31 : Int64))]) M' X' := by
  refine Eq.trans (rl_ldc2l (ix := 170) (k := (31 : Int64)) (by decide +kernel) (by decide +kernel)) ?_
  refine Eq.trans (rl_ldc2l (ix := 170) (k := (31 : Int64)) (by decide +kernel) (by decide +kernel)) ?_
  refine Eq.trans (rl_lloadn (j := 1) (by decide +kernel) rfl) ?_
  refine Eq.trans (rl_lmul (by decide +kernel)) ?_
  refine Eq.trans (rl_aloadn (j := 0) (by decide +kernel) rfl) ?_
  refine Eq.trans (rl_inv (ix := 221) (n := 0) (o := 8) 95 [] [.inl (.long ((31 : Int64) * x1)), .inl (.long (31 : Int64))] (by decide +kernel) (by decide +kernel) (by decide +kernel) (by decide +kernel) ⟨rfl, rfl⟩ rfl rfl ck3) ?_
  rfl
theorem b152_448 {x1 s1 s2 : Int64} {x3 s0 : Int32} {x4 x5 : Option am_V} {M : am_M} {w : am_W4}  : am_rn call 152 448 [some (am_P (3, 0, 0)), some (.inl (.long x1)), none, some (am_I x3), x4, x5] [am_I s0, .inl (.long s1), .inl (.long s2)] M (am_Z w) = am_cb (call 96 [am_P (3, 0, 0)] M (am_Z w)) fun v M' X' => am_rn call 152 455 [some (am_P (3, 0, 0)), some (.inl (.long x1)), none, some (am_I x3), x4, x5] (v.toList ++ [.inl (.long (s2 * (s1 + s0.toInt64)))]) M' X' := by
  refine Eq.trans (rl_i2l (by decide +kernel)) ?_
  refine Eq.trans (rl_ladd (by decide +kernel)) ?_
  refine Eq.trans (rl_lmul (by decide +kernel)) ?_
  refine Eq.trans (rl_aloadn (j := 0) (by decide +kernel) rfl) ?_
  refine Eq.trans (rl_inv (ix := 224) (n := 0) (o := 8) 96 [] [.inl (.long (s2 * (s1 + s0.toInt64)))] (by decide +kernel) (by decide +kernel) (by decide +kernel) (by decide +kernel) ⟨rfl, rfl⟩ rfl rfl ck3) ?_
  rfl
theorem b152_455 {x1 s1 : Int64} {x3 s0 : Int32} {x4 x5 : Option am_V} {M : am_M} {w : am_W4}  : am_rn call 152 455 [some (am_P (3, 0, 0)), some (.inl (.long x1)), none, some (am_I x3), x4, x5] [am_I s0, .inl (.long s1)] M (am_Z w) = some (.inl (some (.inl (.long (s1 + s0.toInt64)))), M, (am_Z w)) := by
  refine Eq.trans (rl_i2l (by decide +kernel)) ?_
  refine Eq.trans (rl_ladd (by decide +kernel)) ?_
  exact rl_lret (by decide +kernel) rfl
theorem e152 {d : Nat}  {M : am_M} {w : am_W4}  : am_ev (d + 1) 152 [am_P (3, 0, 0)] M (am_Z w) = am_cb ((am_ev d) 142 [am_P (3, 0, 0)] M (am_Z w)) fun v M' X' => am_rn (am_ev d) 152 7 [some (am_P (3, 0, 0)), none, none, none, none, none] (v.toList ++ [.inl (.long (31 : Int64))]) M' X' := (am_ev_eq d 152 _ M (am_Z w)).trans (b152_0)
theorem b153_0 {x1 : Int32} {M : am_M} {w : am_W4}  : am_rn call 153 0 [some (am_P (3, 0, 0)), some (am_I x1), none] [] M (am_Z w) = am_cb (call 143 [am_P (3, 0, 0), am_I (nI 2)] M (am_Z w)) fun v M' X' => am_rn call 153 8 [some (am_P (3, 0, 0)), some (am_I x1), none] (v.toList ++ [am_I (x1 >>> ((nI 4) &&& 31))]) M' X' := by
  refine Eq.trans (rl_iloadn (j := 1) (by decide +kernel) rfl) ?_
  refine Eq.trans (rl_iconst (c := 4) (k := (nI 4)) (by decide +kernel) (by decide)) ?_
  refine Eq.trans (rl_ishr (by decide +kernel)) ?_
  refine Eq.trans (rl_aloadn (j := 0) (by decide +kernel) rfl) ?_
  refine Eq.trans (rl_iconst (c := 2) (k := (nI 2)) (by decide +kernel) (by decide)) ?_
  refine Eq.trans (rl_invS (ix := 190) (n := 2) (k := 1) 143 [am_P (3, 0, 0), am_I (nI 2)] [am_I (x1 >>> ((nI 4) &&& 31))] (by decide +kernel) (by decide +kernel) (by decide) (by decide +kernel) ⟨rfl, rfl⟩ rfl rfl) ?_
  rfl
theorem b153_8 {x1 s0 s1 : Int32} {M : am_M} {w : am_W4}  : am_rn call 153 8 [some (am_P (3, 0, 0)), some (am_I x1), none] [am_I s0, am_I s1] M (am_Z w) = am_cb (call 114 [am_I s1, am_I (s0 + (nI 1))] M (am_Z w)) fun v M' X' => am_rn call 153 13 [some (am_P (3, 0, 0)), some (am_I x1), none] (v.toList ++ []) M' X' := by
  refine Eq.trans (rl_iconst (c := 1) (k := (nI 1)) (by decide +kernel) (by decide)) ?_
  refine Eq.trans (rl_iadd (by decide +kernel)) ?_
  refine Eq.trans (rl_invS (ix := 157) (n := 2) (k := 1) 114 [am_I s1, am_I (s0 + (nI 1))] [] (by decide +kernel) (by decide +kernel) (by decide) (by decide +kernel) ⟨rfl, rfl⟩ rfl rfl) ?_
  rfl
theorem b153_13 {x1 s0 : Int32} {M : am_M} {w : am_W4}  : am_rn call 153 13 [some (am_P (3, 0, 0)), some (am_I x1), none] [am_I s0] M (am_Z w) = am_cb (call 114 [am_I x1, am_I (nI 14)] M (am_Z w)) fun v M' X' => am_rn call 153 20 [some (am_P (3, 0, 0)), some (am_I x1), some (am_I s0)] (v.toList ++ []) M' X' := by
  refine Eq.trans (rl_istoren (j := 2) (ls' := [some (am_P (3, 0, 0)), some (am_I x1), some (am_I s0)]) (by decide +kernel) rfl rfl) ?_
  refine Eq.trans (rl_iloadn (j := 1) (by decide +kernel) rfl) ?_
  refine Eq.trans (rl_bipush (c := 14) (k := (nI 14)) (by decide +kernel) (by decide)) ?_
  refine Eq.trans (rl_invS (ix := 157) (n := 2) (k := 1) 114 [am_I x1, am_I (nI 14)] [] (by decide +kernel) (by decide +kernel) (by decide) (by decide +kernel) ⟨rfl, rfl⟩ rfl rfl) ?_
  rfl
theorem b153_20 {x1 x2 s0 : Int32} {M : am_M} {w : am_W4} (hw : w.2.2.2 = none) : am_rn call 153 20 [some (am_P (3, 0, 0)), some (am_I x1), some (am_I x2)] [am_I s0] M (am_Z w) = if s0 = (nI 0) then am_cb (call 114 [am_I (x1 >>> ((nI 4) &&& 31)), am_I (nI 11)] M (am_Z w)) fun v M' X' => am_rn call 153 93 [some (am_P (3, 0, 0)), some (am_I x1), some (am_I x2)] (v.toList ++ [am_P (3, 0, 0)]) M' X' else if s0 = (nI 1) then am_cb (call 114 [am_I (x1 >>> ((nI 4) &&& 31)), am_I (nI 9)] M (am_Z w)) fun v M' X' => am_rn call 153 135 [some (am_P (3, 0, 0)), some (am_I x1), some (am_I x2)] (v.toList ++ [am_I (nI 1), am_P (3, 0, 0)]) M' X' else if s0 = (nI 2) then am_cb (call 114 [am_I (x1 >>> ((nI 6) &&& 31)), am_I (nI 25)] M (am_Z w)) fun v M' X' => am_rn call 153 171 [some (am_P (3, 0, 0)), some (am_I x1), some (am_I x2)] (v.toList ++ [am_I x2, am_P (3, 0, 0)]) M' X' else if s0 = (nI 3) then am_cb (call 114 [am_I (x1 >>> ((nI 6) &&& 31)), am_I (nI 11)] M (am_Z w)) fun v M' X' => am_rn call 153 203 [some (am_P (3, 0, 0)), some (am_I x1), some (am_I x2)] (v.toList ++ [am_I x2, am_P (3, 0, 0)]) M' X' else if s0 = (nI 4) then am_cb (call 114 [am_I (x1 >>> ((nI 6) &&& 31)), am_I (nI 11)] M (am_Z w)) fun v M' X' => am_rn call 153 226 [some (am_P (3, 0, 0)), some (am_I x1), some (am_I x2)] (v.toList ++ [am_I x2, am_P (3, 0, 0)]) M' X' else if s0 = (nI 5) then am_cb (call 114 [am_I (x1 >>> ((nI 6) &&& 31)), am_I (nI 6)] M (am_Z w)) fun v M' X' => am_rn call 153 249 [some (am_P (3, 0, 0)), some (am_I x1), some (am_I x2)] (v.toList ++ [am_I x2, am_P (3, 0, 0)]) M' X' else if s0 = (nI 6) then am_cb (call 114 [am_I (x1 >>> ((nI 6) &&& 31)), am_I (nI 6)] M (am_Z w)) fun v M' X' => am_rn call 153 249 [some (am_P (3, 0, 0)), some (am_I x1), some (am_I x2)] (v.toList ++ [am_I x2, am_P (3, 0, 0)]) M' X' else if s0 = (nI 7) then am_cb (call 114 [am_I (x1 >>> ((nI 6) &&& 31)), am_I (nI 6)] M (am_Z w)) fun v M' X' => am_rn call 153 249 [some (am_P (3, 0, 0)), some (am_I x1), some (am_I x2)] (v.toList ++ [am_I x2, am_P (3, 0, 0)]) M' X' else if s0 = (nI 8) then am_cb (call 143 [am_P (3, 0, 0), am_I (nI 4)] M (am_Z w)) fun v M' X' => am_rn call 153 276 [some (am_P (3, 0, 0)), some (am_I x1), some (am_I x2)] (v.toList ++ [am_I (x1 >>> ((nI 4) &&& 31)), am_P (3, 0, 0)]) M' X' else if s0 = (nI 9) then am_cb (call 114 [am_I (x1 >>> ((nI 4) &&& 31)), am_I (nI 30)] M (am_Z w)) fun v M' X' => am_rn call 153 302 [some (am_P (3, 0, 0)), some (am_I x1), some (am_I x2)] (v.toList ++ [am_P (3, 0, 0)]) M' X' else if s0 = (nI 10) then am_cb (call 114 [am_I (x1 >>> ((nI 4) &&& 31)), am_I (nI 30)] M (am_Z w)) fun v M' X' => am_rn call 153 302 [some (am_P (3, 0, 0)), some (am_I x1), some (am_I x2)] (v.toList ++ [am_P (3, 0, 0)]) M' X' else if s0 = (nI 11) then am_cb (call 114 [am_I (x1 >>> ((nI 4) &&& 31)), am_I (nI 30)] M (am_Z w)) fun v M' X' => am_rn call 153 302 [some (am_P (3, 0, 0)), some (am_I x1), some (am_I x2)] (v.toList ++ [am_P (3, 0, 0)]) M' X' else if ((x1 >>> ((nI 6) &&& 31)) &&& (nI 1)) = 0 then am_bs 449 [some (am_P (3, 0, 0)), some (am_I x1), some (am_I x2)] [] (call am_rdz [am_P (3, 0, 0), am_P (50, 0, 0)] M (am_Z (w.1, w.2.1, w.2.2.1, some (am_tx 324 x1)))) (10, 2400) (am_rn call am_chz) else am_bs 449 [some (am_P (3, 0, 0)), some (am_I x1), some (am_I x2)] [] (call am_rdz [am_P (3, 0, 0), am_P (50, 0, 0)] M (am_Z (w.1, w.2.1, w.2.2.1, some (am_tx 386 x1)))) (10, 2400) (am_rn call am_chz) := by
  refine Eq.trans (rl_ts (d := 294) (lo := 0) (hi := 11) (os := #[64, 105, 140, 172, 195, 218, 218, 218, 247, 273, 273, 273]) 314 [84, 125, 160, 192, 215, 238, 238, 238, 267, 293, 293, 293] (by decide +kernel) (by decide +kernel)) ?_
  refine Eq.trans (rl_sw (nI 0) (by decide)) ?_
  refine am_ite (fun _ => ?_) (fun _ => ?_)
  · skip
    refine Eq.trans (rl_aloadn (j := 0) (by decide +kernel) rfl) ?_
    refine Eq.trans (rl_iloadn (j := 1) (by decide +kernel) rfl) ?_
    refine Eq.trans (rl_iconst (c := 4) (k := (nI 4)) (by decide +kernel) (by decide)) ?_
    refine Eq.trans (rl_ishr (by decide +kernel)) ?_
    refine Eq.trans (rl_bipush (c := 11) (k := (nI 11)) (by decide +kernel) (by decide)) ?_
    refine Eq.trans (rl_invS (ix := 157) (n := 2) (k := 1) 114 [am_I (x1 >>> ((nI 4) &&& 31)), am_I (nI 11)] [am_P (3, 0, 0)] (by decide +kernel) (by decide +kernel) (by decide) (by decide +kernel) ⟨rfl, rfl⟩ rfl rfl) ?_
    rfl
  refine Eq.trans (rl_sw (nI 1) (by decide)) ?_
  refine am_ite (fun _ => ?_) (fun _ => ?_)
  · skip
    refine Eq.trans (rl_aloadn (j := 0) (by decide +kernel) rfl) ?_
    refine Eq.trans (rl_iconst (c := 1) (k := (nI 1)) (by decide +kernel) (by decide)) ?_
    refine Eq.trans (rl_iloadn (j := 1) (by decide +kernel) rfl) ?_
    refine Eq.trans (rl_iconst (c := 4) (k := (nI 4)) (by decide +kernel) (by decide)) ?_
    refine Eq.trans (rl_ishr (by decide +kernel)) ?_
    refine Eq.trans (rl_bipush (c := 9) (k := (nI 9)) (by decide +kernel) (by decide)) ?_
    refine Eq.trans (rl_invS (ix := 157) (n := 2) (k := 1) 114 [am_I (x1 >>> ((nI 4) &&& 31)), am_I (nI 9)] [am_I (nI 1), am_P (3, 0, 0)] (by decide +kernel) (by decide +kernel) (by decide) (by decide +kernel) ⟨rfl, rfl⟩ rfl rfl) ?_
    rfl
  refine Eq.trans (rl_sw (nI 2) (by decide)) ?_
  refine am_ite (fun _ => ?_) (fun _ => ?_)
  · skip
    refine Eq.trans (rl_aloadn (j := 0) (by decide +kernel) rfl) ?_
    refine Eq.trans (rl_iloadn (j := 2) (by decide +kernel) rfl) ?_
    refine Eq.trans (rl_iloadn (j := 1) (by decide +kernel) rfl) ?_
    refine Eq.trans (rl_bipush (c := 6) (k := (nI 6)) (by decide +kernel) (by decide)) ?_
    refine Eq.trans (rl_ishr (by decide +kernel)) ?_
    refine Eq.trans (rl_bipush (c := 25) (k := (nI 25)) (by decide +kernel) (by decide)) ?_
    refine Eq.trans (rl_invS (ix := 157) (n := 2) (k := 1) 114 [am_I (x1 >>> ((nI 6) &&& 31)), am_I (nI 25)] [am_I x2, am_P (3, 0, 0)] (by decide +kernel) (by decide +kernel) (by decide) (by decide +kernel) ⟨rfl, rfl⟩ rfl rfl) ?_
    rfl
  refine Eq.trans (rl_sw (nI 3) (by decide)) ?_
  refine am_ite (fun _ => ?_) (fun _ => ?_)
  · skip
    refine Eq.trans (rl_aloadn (j := 0) (by decide +kernel) rfl) ?_
    refine Eq.trans (rl_iloadn (j := 2) (by decide +kernel) rfl) ?_
    refine Eq.trans (rl_iloadn (j := 1) (by decide +kernel) rfl) ?_
    refine Eq.trans (rl_bipush (c := 6) (k := (nI 6)) (by decide +kernel) (by decide)) ?_
    refine Eq.trans (rl_ishr (by decide +kernel)) ?_
    refine Eq.trans (rl_bipush (c := 11) (k := (nI 11)) (by decide +kernel) (by decide)) ?_
    refine Eq.trans (rl_invS (ix := 157) (n := 2) (k := 1) 114 [am_I (x1 >>> ((nI 6) &&& 31)), am_I (nI 11)] [am_I x2, am_P (3, 0, 0)] (by decide +kernel) (by decide +kernel) (by decide) (by decide +kernel) ⟨rfl, rfl⟩ rfl rfl) ?_
    rfl
  refine Eq.trans (rl_sw (nI 4) (by decide)) ?_
  refine am_ite (fun _ => ?_) (fun _ => ?_)
  · skip
    refine Eq.trans (rl_aloadn (j := 0) (by decide +kernel) rfl) ?_
    refine Eq.trans (rl_iloadn (j := 2) (by decide +kernel) rfl) ?_
    refine Eq.trans (rl_iloadn (j := 1) (by decide +kernel) rfl) ?_
    refine Eq.trans (rl_bipush (c := 6) (k := (nI 6)) (by decide +kernel) (by decide)) ?_
    refine Eq.trans (rl_ishr (by decide +kernel)) ?_
    refine Eq.trans (rl_bipush (c := 11) (k := (nI 11)) (by decide +kernel) (by decide)) ?_
    refine Eq.trans (rl_invS (ix := 157) (n := 2) (k := 1) 114 [am_I (x1 >>> ((nI 6) &&& 31)), am_I (nI 11)] [am_I x2, am_P (3, 0, 0)] (by decide +kernel) (by decide +kernel) (by decide) (by decide +kernel) ⟨rfl, rfl⟩ rfl rfl) ?_
    rfl
  refine Eq.trans (rl_sw (nI 5) (by decide)) ?_
  refine am_ite (fun _ => ?_) (fun _ => ?_)
  · skip
    refine Eq.trans (rl_aloadn (j := 0) (by decide +kernel) rfl) ?_
    refine Eq.trans (rl_iloadn (j := 2) (by decide +kernel) rfl) ?_
    refine Eq.trans (rl_iloadn (j := 1) (by decide +kernel) rfl) ?_
    refine Eq.trans (rl_bipush (c := 6) (k := (nI 6)) (by decide +kernel) (by decide)) ?_
    refine Eq.trans (rl_ishr (by decide +kernel)) ?_
    refine Eq.trans (rl_bipush (c := 6) (k := (nI 6)) (by decide +kernel) (by decide)) ?_
    refine Eq.trans (rl_invS (ix := 157) (n := 2) (k := 1) 114 [am_I (x1 >>> ((nI 6) &&& 31)), am_I (nI 6)] [am_I x2, am_P (3, 0, 0)] (by decide +kernel) (by decide +kernel) (by decide) (by decide +kernel) ⟨rfl, rfl⟩ rfl rfl) ?_
    rfl
  refine Eq.trans (rl_sw (nI 6) (by decide)) ?_
  refine am_ite (fun _ => ?_) (fun _ => ?_)
  · skip
    refine Eq.trans (rl_aloadn (j := 0) (by decide +kernel) rfl) ?_
    refine Eq.trans (rl_iloadn (j := 2) (by decide +kernel) rfl) ?_
    refine Eq.trans (rl_iloadn (j := 1) (by decide +kernel) rfl) ?_
    refine Eq.trans (rl_bipush (c := 6) (k := (nI 6)) (by decide +kernel) (by decide)) ?_
    refine Eq.trans (rl_ishr (by decide +kernel)) ?_
    refine Eq.trans (rl_bipush (c := 6) (k := (nI 6)) (by decide +kernel) (by decide)) ?_
    refine Eq.trans (rl_invS (ix := 157) (n := 2) (k := 1) 114 [am_I (x1 >>> ((nI 6) &&& 31)), am_I (nI 6)] [am_I x2, am_P (3, 0, 0)] (by decide +kernel) (by decide +kernel) (by decide) (by decide +kernel) ⟨rfl, rfl⟩ rfl rfl) ?_
    rfl
  refine Eq.trans (rl_sw (nI 7) (by decide)) ?_
  refine am_ite (fun _ => ?_) (fun _ => ?_)
  · skip
    refine Eq.trans (rl_aloadn (j := 0) (by decide +kernel) rfl) ?_
    refine Eq.trans (rl_iloadn (j := 2) (by decide +kernel) rfl) ?_
    refine Eq.trans (rl_iloadn (j := 1) (by decide +kernel) rfl) ?_
    refine Eq.trans (rl_bipush (c := 6) (k := (nI 6)) (by decide +kernel) (by decide)) ?_
    refine Eq.trans (rl_ishr (by decide +kernel)) ?_
    refine Eq.trans (rl_bipush (c := 6) (k := (nI 6)) (by decide +kernel) (by decide)) ?_
    refine Eq.trans (rl_invS (ix := 157) (n := 2) (k := 1) 114 [am_I (x1 >>> ((nI 6) &&& 31)), am_I (nI 6)] [am_I x2, am_P (3, 0, 0)] (by decide +kernel) (by decide +kernel) (by decide) (by decide +kernel) ⟨rfl, rfl⟩ rfl rfl) ?_
    rfl
  refine Eq.trans (rl_sw (nI 8) (by decide)) ?_
  refine am_ite (fun _ => ?_) (fun _ => ?_)
  · skip
    refine Eq.trans (rl_aloadn (j := 0) (by decide +kernel) rfl) ?_
    refine Eq.trans (rl_iloadn (j := 1) (by decide +kernel) rfl) ?_
    refine Eq.trans (rl_iconst (c := 4) (k := (nI 4)) (by decide +kernel) (by decide)) ?_
    refine Eq.trans (rl_ishr (by decide +kernel)) ?_
    refine Eq.trans (rl_aloadn (j := 0) (by decide +kernel) rfl) ?_
    refine Eq.trans (rl_iconst (c := 4) (k := (nI 4)) (by decide +kernel) (by decide)) ?_
    refine Eq.trans (rl_invS (ix := 190) (n := 2) (k := 1) 143 [am_P (3, 0, 0), am_I (nI 4)] [am_I (x1 >>> ((nI 4) &&& 31)), am_P (3, 0, 0)] (by decide +kernel) (by decide +kernel) (by decide) (by decide +kernel) ⟨rfl, rfl⟩ rfl rfl) ?_
    rfl
  refine Eq.trans (rl_sw (nI 9) (by decide)) ?_
  refine am_ite (fun _ => ?_) (fun _ => ?_)
  · skip
    refine Eq.trans (rl_aloadn (j := 0) (by decide +kernel) rfl) ?_
    refine Eq.trans (rl_iloadn (j := 1) (by decide +kernel) rfl) ?_
    refine Eq.trans (rl_iconst (c := 4) (k := (nI 4)) (by decide +kernel) (by decide)) ?_
    refine Eq.trans (rl_ishr (by decide +kernel)) ?_
    refine Eq.trans (rl_bipush (c := 30) (k := (nI 30)) (by decide +kernel) (by decide)) ?_
    refine Eq.trans (rl_invS (ix := 157) (n := 2) (k := 1) 114 [am_I (x1 >>> ((nI 4) &&& 31)), am_I (nI 30)] [am_P (3, 0, 0)] (by decide +kernel) (by decide +kernel) (by decide) (by decide +kernel) ⟨rfl, rfl⟩ rfl rfl) ?_
    rfl
  refine Eq.trans (rl_sw (nI 10) (by decide)) ?_
  refine am_ite (fun _ => ?_) (fun _ => ?_)
  · skip
    refine Eq.trans (rl_aloadn (j := 0) (by decide +kernel) rfl) ?_
    refine Eq.trans (rl_iloadn (j := 1) (by decide +kernel) rfl) ?_
    refine Eq.trans (rl_iconst (c := 4) (k := (nI 4)) (by decide +kernel) (by decide)) ?_
    refine Eq.trans (rl_ishr (by decide +kernel)) ?_
    refine Eq.trans (rl_bipush (c := 30) (k := (nI 30)) (by decide +kernel) (by decide)) ?_
    refine Eq.trans (rl_invS (ix := 157) (n := 2) (k := 1) 114 [am_I (x1 >>> ((nI 4) &&& 31)), am_I (nI 30)] [am_P (3, 0, 0)] (by decide +kernel) (by decide +kernel) (by decide) (by decide +kernel) ⟨rfl, rfl⟩ rfl rfl) ?_
    rfl
  refine Eq.trans (rl_sw (nI 11) (by decide)) ?_
  refine am_ite (fun _ => ?_) (fun _ => ?_)
  · skip
    refine Eq.trans (rl_aloadn (j := 0) (by decide +kernel) rfl) ?_
    refine Eq.trans (rl_iloadn (j := 1) (by decide +kernel) rfl) ?_
    refine Eq.trans (rl_iconst (c := 4) (k := (nI 4)) (by decide +kernel) (by decide)) ?_
    refine Eq.trans (rl_ishr (by decide +kernel)) ?_
    refine Eq.trans (rl_bipush (c := 30) (k := (nI 30)) (by decide +kernel) (by decide)) ?_
    refine Eq.trans (rl_invS (ix := 157) (n := 2) (k := 1) 114 [am_I (x1 >>> ((nI 4) &&& 31)), am_I (nI 30)] [am_P (3, 0, 0)] (by decide +kernel) (by decide +kernel) (by decide) (by decide +kernel) ⟨rfl, rfl⟩ rfl rfl) ?_
    rfl
  show am_rn call 153 314 _ _ _ _ = _
  refine Eq.trans (rl_aloadn (j := 0) (by decide +kernel) rfl) ?_
  refine Eq.trans (rl_iloadn (j := 1) (by decide +kernel) rfl) ?_
  refine Eq.trans (rl_bipush (c := 6) (k := (nI 6)) (by decide +kernel) (by decide)) ?_
  refine Eq.trans (rl_ishr (by decide +kernel)) ?_
  refine Eq.trans (rl_iconst (c := 1) (k := (nI 1)) (by decide +kernel) (by decide)) ?_
  refine Eq.trans (rl_iand (by decide +kernel)) ?_
  refine Eq.trans (rl_ifne (o := 65) 386 (by decide +kernel) (by decide)) ?_
  refine am_ite (fun h_1 => ?_) (fun h_1 => ?_)
  · skip
    refine Eq.trans (rl_ca (ix := 238) (by decide +kernel) (by decide +kernel) (Or.inl rfl) rfl rfl) ?_
    exact if_pos hw
  · skip
    refine Eq.trans (rl_ca (ix := 238) (by decide +kernel) (by decide +kernel) (Or.inr rfl) rfl rfl) ?_
    exact if_pos hw
theorem b153_93 {x1 x2 s0 : Int32} {M : am_M} {w : am_W4}  : am_rn call 153 93 [some (am_P (3, 0, 0)), some (am_I x1), some (am_I x2)] [am_I s0, am_P (3, 0, 0)] M (am_Z w) = am_cb (call 114 [am_I (x1 >>> ((nI 6) &&& 31)), am_I (nI 11)] M (am_Z w)) fun v M' X' => am_rn call 153 102 [some (am_P (3, 0, 0)), some (am_I x1), some (am_I x2)] (v.toList ++ [am_I s0, am_P (3, 0, 0)]) M' X' := by
  refine Eq.trans (rl_iloadn (j := 1) (by decide +kernel) rfl) ?_
  refine Eq.trans (rl_bipush (c := 6) (k := (nI 6)) (by decide +kernel) (by decide)) ?_
  refine Eq.trans (rl_ishr (by decide +kernel)) ?_
  refine Eq.trans (rl_bipush (c := 11) (k := (nI 11)) (by decide +kernel) (by decide)) ?_
  refine Eq.trans (rl_invS (ix := 157) (n := 2) (k := 1) 114 [am_I (x1 >>> ((nI 6) &&& 31)), am_I (nI 11)] [am_I s0, am_P (3, 0, 0)] (by decide +kernel) (by decide +kernel) (by decide) (by decide +kernel) ⟨rfl, rfl⟩ rfl rfl) ?_
  rfl
theorem b153_102 {x1 x2 s0 s1 : Int32} {M : am_M} {w : am_W4}  : am_rn call 153 102 [some (am_P (3, 0, 0)), some (am_I x1), some (am_I x2)] [am_I s0, am_I s1, am_P (3, 0, 0)] M (am_Z w) = am_cb (call 114 [am_I (x1 >>> ((nI 8) &&& 31)), am_I (nI 9)] M (am_Z w)) fun v M' X' => am_rn call 153 112 [some (am_P (3, 0, 0)), some (am_I x1), some (am_I x2)] (v.toList ++ [am_I (nI 1), am_I s0, am_I s1, am_P (3, 0, 0)]) M' X' := by
  refine Eq.trans (rl_iconst (c := 1) (k := (nI 1)) (by decide +kernel) (by decide)) ?_
  refine Eq.trans (rl_iloadn (j := 1) (by decide +kernel) rfl) ?_
  refine Eq.trans (rl_bipush (c := 8) (k := (nI 8)) (by decide +kernel) (by decide)) ?_
  refine Eq.trans (rl_ishr (by decide +kernel)) ?_
  refine Eq.trans (rl_bipush (c := 9) (k := (nI 9)) (by decide +kernel) (by decide)) ?_
  refine Eq.trans (rl_invS (ix := 157) (n := 2) (k := 1) 114 [am_I (x1 >>> ((nI 8) &&& 31)), am_I (nI 9)] [am_I (nI 1), am_I s0, am_I s1, am_P (3, 0, 0)] (by decide +kernel) (by decide +kernel) (by decide) (by decide +kernel) ⟨rfl, rfl⟩ rfl rfl) ?_
  rfl
theorem b153_112 {x1 x2 s0 s2 s3 : Int32} {M : am_M} {w : am_W4}  : am_rn call 153 112 [some (am_P (3, 0, 0)), some (am_I x1), some (am_I x2)] [am_I s0, am_I (nI 1), am_I s2, am_I s3, am_P (3, 0, 0)] M (am_Z w) = am_cb (call 115 [am_P (3, 0, 0), am_I s3, am_I s2, am_I ((nI 1) + s0)] M (am_Z w)) fun v M' X' => am_rn call 153 116 [some (am_P (3, 0, 0)), some (am_I x1), some (am_I x2)] (v.toList ++ []) M' X' := by
  refine Eq.trans (rl_iadd (by decide +kernel)) ?_
  refine Eq.trans (rl_invS (ix := 160) (n := 4) (k := 1) 115 [am_P (3, 0, 0), am_I s3, am_I s2, am_I ((nI 1) + s0)] [] (by decide +kernel) (by decide +kernel) (by decide) (by decide +kernel) ⟨rfl, rfl⟩ rfl rfl) ?_
  rfl
theorem b153_116 {x1 x2 s0 : Int32} {M : am_M} {w : am_W4}  : am_rn call 153 116 [some (am_P (3, 0, 0)), some (am_I x1), some (am_I x2)] [am_I s0] M (am_Z w) = if s0 < 0 then some (.inl (some (am_I (nI 0))), M, (am_Z w)) else some (.inl (some (am_I (nI 1))), M, (am_Z w)) := by
  refine Eq.trans (rl_iflt (o := 7) 123 (by decide +kernel) (by decide)) ?_
  refine am_ite (fun h_1 => ?_) (fun h_1 => ?_)
  · skip
    refine Eq.trans (rl_iconst (c := 0) (k := (nI 0)) (by decide +kernel) (by decide)) ?_
    exact rl_zretk (by decide +kernel) rfl rfl
  · skip
    refine Eq.trans (rl_iconst (c := 1) (k := (nI 1)) (by decide +kernel) (by decide)) ?_
    refine Eq.trans (rl_goto (o := 4) 124 (by decide +kernel) (by decide)) ?_
    exact rl_zretk (by decide +kernel) rfl rfl
theorem b153_135 {x1 x2 s0 : Int32} {M : am_M} {w : am_W4}  : am_rn call 153 135 [some (am_P (3, 0, 0)), some (am_I x1), some (am_I x2)] [am_I s0, am_I (nI 1), am_P (3, 0, 0)] M (am_Z w) = am_cb (call 114 [am_I (x1 >>> ((nI 6) &&& 31)), am_I (nI 151)] M (am_Z w)) fun v M' X' => am_rn call 153 147 [some (am_P (3, 0, 0)), some (am_I x1), some (am_I x2)] (v.toList ++ [am_I (nI 1), am_I ((nI 1) + s0), am_P (3, 0, 0)]) M' X' := by
  refine Eq.trans (rl_iadd (by decide +kernel)) ?_
  refine Eq.trans (rl_iconst (c := 1) (k := (nI 1)) (by decide +kernel) (by decide)) ?_
  refine Eq.trans (rl_iloadn (j := 1) (by decide +kernel) rfl) ?_
  refine Eq.trans (rl_bipush (c := 6) (k := (nI 6)) (by decide +kernel) (by decide)) ?_
  refine Eq.trans (rl_ishr (by decide +kernel)) ?_
  refine Eq.trans (rl_sipush (c := 151) (k := (nI 151)) (by decide +kernel) (by decide)) ?_
  refine Eq.trans (rl_invS (ix := 157) (n := 2) (k := 1) 114 [am_I (x1 >>> ((nI 6) &&& 31)), am_I (nI 151)] [am_I (nI 1), am_I ((nI 1) + s0), am_P (3, 0, 0)] (by decide +kernel) (by decide +kernel) (by decide) (by decide +kernel) ⟨rfl, rfl⟩ rfl rfl) ?_
  rfl
theorem b153_147 {x1 x2 s0 s2 : Int32} {M : am_M} {w : am_W4}  : am_rn call 153 147 [some (am_P (3, 0, 0)), some (am_I x1), some (am_I x2)] [am_I s0, am_I (nI 1), am_I s2, am_P (3, 0, 0)] M (am_Z w) = am_cb (call 116 [am_P (3, 0, 0), am_I s2, am_I ((nI 1) + s0)] M (am_Z w)) fun v M' X' => am_rn call 153 151 [some (am_P (3, 0, 0)), some (am_I x1), some (am_I x2)] (v.toList ++ []) M' X' := by
  refine Eq.trans (rl_iadd (by decide +kernel)) ?_
  refine Eq.trans (rl_invS (ix := 163) (n := 3) (k := 1) 116 [am_P (3, 0, 0), am_I s2, am_I ((nI 1) + s0)] [] (by decide +kernel) (by decide +kernel) (by decide) (by decide +kernel) ⟨rfl, rfl⟩ rfl rfl) ?_
  rfl
theorem b153_151 {x1 x2 s0 : Int32} {M : am_M} {w : am_W4}  : am_rn call 153 151 [some (am_P (3, 0, 0)), some (am_I x1), some (am_I x2)] [am_I s0] M (am_Z w) = if s0 < 0 then some (.inl (some (am_I (nI 0))), M, (am_Z w)) else some (.inl (some (am_I (nI 1))), M, (am_Z w)) := by
  refine Eq.trans (rl_iflt (o := 7) 158 (by decide +kernel) (by decide)) ?_
  refine am_ite (fun h_1 => ?_) (fun h_1 => ?_)
  · skip
    refine Eq.trans (rl_iconst (c := 0) (k := (nI 0)) (by decide +kernel) (by decide)) ?_
    exact rl_zretk (by decide +kernel) rfl rfl
  · skip
    refine Eq.trans (rl_iconst (c := 1) (k := (nI 1)) (by decide +kernel) (by decide)) ?_
    refine Eq.trans (rl_goto (o := 4) 159 (by decide +kernel) (by decide)) ?_
    exact rl_zretk (by decide +kernel) rfl rfl
theorem b153_171 {x1 x2 s0 s1 : Int32} {M : am_M} {w : am_W4}  : am_rn call 153 171 [some (am_P (3, 0, 0)), some (am_I x1), some (am_I x2)] [am_I s0, am_I s1, am_P (3, 0, 0)] M (am_Z w) = am_cb (call 114 [am_I (x1 >>> ((nI 8) &&& 31)), am_I (nI 24)] M (am_Z w)) fun v M' X' => am_rn call 153 180 [some (am_P (3, 0, 0)), some (am_I x1), some (am_I x2)] (v.toList ++ [am_I s0, am_I s1, am_P (3, 0, 0)]) M' X' := by
  refine Eq.trans (rl_iloadn (j := 1) (by decide +kernel) rfl) ?_
  refine Eq.trans (rl_bipush (c := 8) (k := (nI 8)) (by decide +kernel) (by decide)) ?_
  refine Eq.trans (rl_ishr (by decide +kernel)) ?_
  refine Eq.trans (rl_bipush (c := 24) (k := (nI 24)) (by decide +kernel) (by decide)) ?_
  refine Eq.trans (rl_invS (ix := 157) (n := 2) (k := 1) 114 [am_I (x1 >>> ((nI 8) &&& 31)), am_I (nI 24)] [am_I s0, am_I s1, am_P (3, 0, 0)] (by decide +kernel) (by decide +kernel) (by decide) (by decide +kernel) ⟨rfl, rfl⟩ rfl rfl) ?_
  rfl
theorem b153_180 {x1 x2 s0 s1 s2 : Int32} {M : am_M} {w : am_W4}  : am_rn call 153 180 [some (am_P (3, 0, 0)), some (am_I x1), some (am_I x2)] [am_I s0, am_I s1, am_I s2, am_P (3, 0, 0)] M (am_Z w) = am_cb (call 117 [am_P (3, 0, 0), am_I s2, am_I s1, am_I s0] M (am_Z w)) fun v M' X' => am_rn call 153 183 [some (am_P (3, 0, 0)), some (am_I x1), some (am_I x2)] (v.toList ++ []) M' X' := by
  refine Eq.trans (rl_invS (ix := 168) (n := 4) (k := 1) 117 [am_P (3, 0, 0), am_I s2, am_I s1, am_I s0] [] (by decide +kernel) (by decide +kernel) (by decide) (by decide +kernel) ⟨rfl, rfl⟩ rfl rfl) ?_
  rfl
theorem b153_183 {x1 x2 s0 : Int32} {M : am_M} {w : am_W4}  : am_rn call 153 183 [some (am_P (3, 0, 0)), some (am_I x1), some (am_I x2)] [am_I s0] M (am_Z w) = if s0 < 0 then some (.inl (some (am_I (nI 0))), M, (am_Z w)) else some (.inl (some (am_I (nI 1))), M, (am_Z w)) := by
  refine Eq.trans (rl_iflt (o := 7) 190 (by decide +kernel) (by decide)) ?_
  refine am_ite (fun h_1 => ?_) (fun h_1 => ?_)
  · skip
    refine Eq.trans (rl_iconst (c := 0) (k := (nI 0)) (by decide +kernel) (by decide)) ?_
    exact rl_zretk (by decide +kernel) rfl rfl
  · skip
    refine Eq.trans (rl_iconst (c := 1) (k := (nI 1)) (by decide +kernel) (by decide)) ?_
    refine Eq.trans (rl_goto (o := 4) 191 (by decide +kernel) (by decide)) ?_
    exact rl_zretk (by decide +kernel) rfl rfl
theorem b153_203 {x1 x2 s0 s1 : Int32} {M : am_M} {w : am_W4}  : am_rn call 153 203 [some (am_P (3, 0, 0)), some (am_I x1), some (am_I x2)] [am_I s0, am_I s1, am_P (3, 0, 0)] M (am_Z w) = am_cb (call 118 [am_P (3, 0, 0), am_I s1, am_I s0] M (am_Z w)) fun v M' X' => am_rn call 153 206 [some (am_P (3, 0, 0)), some (am_I x1), some (am_I x2)] (v.toList ++ []) M' X' := by
  refine Eq.trans (rl_invS (ix := 166) (n := 3) (k := 1) 118 [am_P (3, 0, 0), am_I s1, am_I s0] [] (by decide +kernel) (by decide +kernel) (by decide) (by decide +kernel) ⟨rfl, rfl⟩ rfl rfl) ?_
  rfl
theorem b153_206 {x1 x2 s0 : Int32} {M : am_M} {w : am_W4}  : am_rn call 153 206 [some (am_P (3, 0, 0)), some (am_I x1), some (am_I x2)] [am_I s0] M (am_Z w) = if s0 < 0 then some (.inl (some (am_I (nI 0))), M, (am_Z w)) else some (.inl (some (am_I (nI 1))), M, (am_Z w)) := by
  refine Eq.trans (rl_iflt (o := 7) 213 (by decide +kernel) (by decide)) ?_
  refine am_ite (fun h_1 => ?_) (fun h_1 => ?_)
  · skip
    refine Eq.trans (rl_iconst (c := 0) (k := (nI 0)) (by decide +kernel) (by decide)) ?_
    exact rl_zretk (by decide +kernel) rfl rfl
  · skip
    refine Eq.trans (rl_iconst (c := 1) (k := (nI 1)) (by decide +kernel) (by decide)) ?_
    refine Eq.trans (rl_goto (o := 4) 214 (by decide +kernel) (by decide)) ?_
    exact rl_zretk (by decide +kernel) rfl rfl
theorem b153_226 {x1 x2 s0 s1 : Int32} {M : am_M} {w : am_W4}  : am_rn call 153 226 [some (am_P (3, 0, 0)), some (am_I x1), some (am_I x2)] [am_I s0, am_I s1, am_P (3, 0, 0)] M (am_Z w) = am_cb (call 119 [am_P (3, 0, 0), am_I s1, am_I s0] M (am_Z w)) fun v M' X' => am_rn call 153 229 [some (am_P (3, 0, 0)), some (am_I x1), some (am_I x2)] (v.toList ++ []) M' X' := by
  refine Eq.trans (rl_invS (ix := 227) (n := 3) (k := 1) 119 [am_P (3, 0, 0), am_I s1, am_I s0] [] (by decide +kernel) (by decide +kernel) (by decide) (by decide +kernel) ⟨rfl, rfl⟩ rfl rfl) ?_
  rfl
theorem b153_229 {x1 x2 s0 : Int32} {M : am_M} {w : am_W4}  : am_rn call 153 229 [some (am_P (3, 0, 0)), some (am_I x1), some (am_I x2)] [am_I s0] M (am_Z w) = if s0 < 0 then some (.inl (some (am_I (nI 0))), M, (am_Z w)) else some (.inl (some (am_I (nI 1))), M, (am_Z w)) := by
  refine Eq.trans (rl_iflt (o := 7) 236 (by decide +kernel) (by decide)) ?_
  refine am_ite (fun h_1 => ?_) (fun h_1 => ?_)
  · skip
    refine Eq.trans (rl_iconst (c := 0) (k := (nI 0)) (by decide +kernel) (by decide)) ?_
    exact rl_zretk (by decide +kernel) rfl rfl
  · skip
    refine Eq.trans (rl_iconst (c := 1) (k := (nI 1)) (by decide +kernel) (by decide)) ?_
    refine Eq.trans (rl_goto (o := 4) 237 (by decide +kernel) (by decide)) ?_
    exact rl_zretk (by decide +kernel) rfl rfl
theorem b153_249 {x1 x2 s0 s1 : Int32} {M : am_M} {w : am_W4}  : am_rn call 153 249 [some (am_P (3, 0, 0)), some (am_I x1), some (am_I x2)] [am_I s0, am_I s1, am_P (3, 0, 0)] M (am_Z w) = am_cb (call 151 [am_I (x1 >>> ((nI 5) &&& 31))] M (am_Z w)) fun v M' X' => am_rn call 153 255 [some (am_P (3, 0, 0)), some (am_I x1), some (am_I x2)] (v.toList ++ [am_I s0, am_I s1, am_P (3, 0, 0)]) M' X' := by
  refine Eq.trans (rl_iloadn (j := 1) (by decide +kernel) rfl) ?_
  refine Eq.trans (rl_iconst (c := 5) (k := (nI 5)) (by decide +kernel) (by decide)) ?_
  refine Eq.trans (rl_ishr (by decide +kernel)) ?_
  refine Eq.trans (rl_invS (ix := 229) (n := 1) (k := 1) 151 [am_I (x1 >>> ((nI 5) &&& 31))] [am_I s0, am_I s1, am_P (3, 0, 0)] (by decide +kernel) (by decide +kernel) (by decide) (by decide +kernel) ⟨rfl, rfl⟩ rfl rfl) ?_
  rfl
theorem b153_255 {x1 x2 s0 s1 s2 : Int32} {M : am_M} {w : am_W4}  : am_rn call 153 255 [some (am_P (3, 0, 0)), some (am_I x1), some (am_I x2)] [am_I s0, am_I s1, am_I s2, am_P (3, 0, 0)] M (am_Z w) = am_cb (call 120 [am_P (3, 0, 0), am_I s2, am_I s1, am_I s0] M (am_Z w)) fun v M' X' => am_rn call 153 258 [some (am_P (3, 0, 0)), some (am_I x1), some (am_I x2)] (v.toList ++ []) M' X' := by
  refine Eq.trans (rl_invS (ix := 232) (n := 4) (k := 1) 120 [am_P (3, 0, 0), am_I s2, am_I s1, am_I s0] [] (by decide +kernel) (by decide +kernel) (by decide) (by decide +kernel) ⟨rfl, rfl⟩ rfl rfl) ?_
  rfl
theorem b153_258 {x1 x2 s0 : Int32} {M : am_M} {w : am_W4}  : am_rn call 153 258 [some (am_P (3, 0, 0)), some (am_I x1), some (am_I x2)] [am_I s0] M (am_Z w) = if s0 < 0 then some (.inl (some (am_I (nI 0))), M, (am_Z w)) else some (.inl (some (am_I (nI 1))), M, (am_Z w)) := by
  refine Eq.trans (rl_iflt (o := 7) 265 (by decide +kernel) (by decide)) ?_
  refine am_ite (fun h_1 => ?_) (fun h_1 => ?_)
  · skip
    refine Eq.trans (rl_iconst (c := 0) (k := (nI 0)) (by decide +kernel) (by decide)) ?_
    exact rl_zretk (by decide +kernel) rfl rfl
  · skip
    refine Eq.trans (rl_iconst (c := 1) (k := (nI 1)) (by decide +kernel) (by decide)) ?_
    refine Eq.trans (rl_goto (o := 4) 266 (by decide +kernel) (by decide)) ?_
    exact rl_zretk (by decide +kernel) rfl rfl
theorem b153_276 {x1 x2 s0 s1 : Int32} {M : am_M} {w : am_W4}  : am_rn call 153 276 [some (am_P (3, 0, 0)), some (am_I x1), some (am_I x2)] [am_I s0, am_I s1, am_P (3, 0, 0)] M (am_Z w) = am_cb (call 114 [am_I s1, am_I (s0 + (nI 1))] M (am_Z w)) fun v M' X' => am_rn call 153 281 [some (am_P (3, 0, 0)), some (am_I x1), some (am_I x2)] (v.toList ++ [am_P (3, 0, 0)]) M' X' := by
  refine Eq.trans (rl_iconst (c := 1) (k := (nI 1)) (by decide +kernel) (by decide)) ?_
  refine Eq.trans (rl_iadd (by decide +kernel)) ?_
  refine Eq.trans (rl_invS (ix := 157) (n := 2) (k := 1) 114 [am_I s1, am_I (s0 + (nI 1))] [am_P (3, 0, 0)] (by decide +kernel) (by decide +kernel) (by decide) (by decide +kernel) ⟨rfl, rfl⟩ rfl rfl) ?_
  rfl
theorem b153_281 {x1 x2 s0 : Int32} {M : am_M} {w : am_W4}  : am_rn call 153 281 [some (am_P (3, 0, 0)), some (am_I x1), some (am_I x2)] [am_I s0, am_P (3, 0, 0)] M (am_Z w) = am_cb (call 121 [am_P (3, 0, 0), am_I s0] M (am_Z w)) fun v M' X' => am_rn call 153 284 [some (am_P (3, 0, 0)), some (am_I x1), some (am_I x2)] (v.toList ++ []) M' X' := by
  refine Eq.trans (rl_invS (ix := 234) (n := 2) (k := 1) 121 [am_P (3, 0, 0), am_I s0] [] (by decide +kernel) (by decide +kernel) (by decide) (by decide +kernel) ⟨rfl, rfl⟩ rfl rfl) ?_
  rfl
theorem b153_284 {x1 x2 s0 : Int32} {M : am_M} {w : am_W4}  : am_rn call 153 284 [some (am_P (3, 0, 0)), some (am_I x1), some (am_I x2)] [am_I s0] M (am_Z w) = if s0 < 0 then some (.inl (some (am_I (nI 0))), M, (am_Z w)) else some (.inl (some (am_I (nI 1))), M, (am_Z w)) := by
  refine Eq.trans (rl_iflt (o := 7) 291 (by decide +kernel) (by decide)) ?_
  refine am_ite (fun h_1 => ?_) (fun h_1 => ?_)
  · skip
    refine Eq.trans (rl_iconst (c := 0) (k := (nI 0)) (by decide +kernel) (by decide)) ?_
    exact rl_zretk (by decide +kernel) rfl rfl
  · skip
    refine Eq.trans (rl_iconst (c := 1) (k := (nI 1)) (by decide +kernel) (by decide)) ?_
    refine Eq.trans (rl_goto (o := 4) 292 (by decide +kernel) (by decide)) ?_
    exact rl_zretk (by decide +kernel) rfl rfl
theorem b153_302 {x1 x2 s0 : Int32} {M : am_M} {w : am_W4}  : am_rn call 153 302 [some (am_P (3, 0, 0)), some (am_I x1), some (am_I x2)] [am_I s0, am_P (3, 0, 0)] M (am_Z w) = am_cb (call 122 [am_P (3, 0, 0), am_I s0] M (am_Z w)) fun v M' X' => am_rn call 153 305 [some (am_P (3, 0, 0)), some (am_I x1), some (am_I x2)] (v.toList ++ []) M' X' := by
  refine Eq.trans (rl_invS (ix := 236) (n := 2) (k := 1) 122 [am_P (3, 0, 0), am_I s0] [] (by decide +kernel) (by decide +kernel) (by decide) (by decide +kernel) ⟨rfl, rfl⟩ rfl rfl) ?_
  rfl
theorem b153_305 {x1 x2 s0 : Int32} {M : am_M} {w : am_W4}  : am_rn call 153 305 [some (am_P (3, 0, 0)), some (am_I x1), some (am_I x2)] [am_I s0] M (am_Z w) = if s0 < 0 then some (.inl (some (am_I (nI 0))), M, (am_Z w)) else some (.inl (some (am_I (nI 1))), M, (am_Z w)) := by
  refine Eq.trans (rl_iflt (o := 7) 312 (by decide +kernel) (by decide)) ?_
  refine am_ite (fun h_1 => ?_) (fun h_1 => ?_)
  · skip
    refine Eq.trans (rl_iconst (c := 0) (k := (nI 0)) (by decide +kernel) (by decide)) ?_
    exact rl_zretk (by decide +kernel) rfl rfl
  · skip
    refine Eq.trans (rl_iconst (c := 1) (k := (nI 1)) (by decide +kernel) (by decide)) ?_
    refine Eq.trans (rl_goto (o := 4) 313 (by decide +kernel) (by decide)) ?_
    exact rl_zretk (by decide +kernel) rfl rfl
theorem b153_449 {x1 x2 s0 : Int32} {M : am_M} {w : am_W4}  : am_rn call 153 449 [some (am_P (3, 0, 0)), some (am_I x1), some (am_I x2)] [am_I s0] M (am_Z w) = if s0 < 0 then some (.inl (some (am_I (nI 0))), M, (am_Z w)) else some (.inl (some (am_I (nI 1))), M, (am_Z w)) := by
  refine Eq.trans (rl_iflt (o := 7) 456 (by decide +kernel) (by decide)) ?_
  refine am_ite (fun h_1 => ?_) (fun h_1 => ?_)
  · skip
    refine Eq.trans (rl_iconst (c := 0) (k := (nI 0)) (by decide +kernel) (by decide)) ?_
    exact rl_zretk (by decide +kernel) rfl rfl
  · skip
    refine Eq.trans (rl_iconst (c := 1) (k := (nI 1)) (by decide +kernel) (by decide)) ?_
    refine Eq.trans (rl_goto (o := 4) 457 (by decide +kernel) (by decide)) ?_
    exact rl_zretk (by decide +kernel) rfl rfl
theorem e153 {d : Nat} {x1 : Int32} {M : am_M} {w : am_W4}  : am_ev (d + 1) 153 [am_P (3, 0, 0), am_I x1] M (am_Z w) = am_cb ((am_ev d) 143 [am_P (3, 0, 0), am_I (nI 2)] M (am_Z w)) fun v M' X' => am_rn (am_ev d) 153 8 [some (am_P (3, 0, 0)), some (am_I x1), none] (v.toList ++ [am_I (x1 >>> ((nI 4) &&& 31))]) M' X' := (am_ev_eq d 153 _ M (am_Z w)).trans (b153_0)
theorem b154_0  {M : am_M} {w : am_W4}  : am_rn call 154 0 [some (am_P (3, 0, 0)), none, none, none, none, none] [] M (am_Z w) = am_cb (call 152 [am_P (3, 0, 0)] M (am_Z w)) fun v M' X' => am_rn call 154 4 [some (am_P (3, 0, 0)), none, none, none, none, none] (v.toList ++ []) M' X' := by
  refine Eq.trans (rl_aloadn (j := 0) (by decide +kernel) rfl) ?_
  refine Eq.trans (rl_invS (ix := 267) (n := 1) (k := 1) 152 [am_P (3, 0, 0)] [] (by decide +kernel) (by decide +kernel) (by decide) (by decide +kernel) ⟨rfl, rfl⟩ rfl rfl) ?_
  rfl
theorem b154_4 {s0 : Int64} {M : am_M} {w : am_W4}  : am_rn call 154 4 [some (am_P (3, 0, 0)), none, none, none, none, none] [.inl (.long s0)] M (am_Z w) = am_cb (call 143 [am_P (3, 0, 0), am_I (nI 2)] M (am_Z w)) fun v M' X' => am_rn call 154 10 [some (am_P (3, 0, 0)), some (.inl (.long s0)), none, none, none, none] (v.toList ++ []) M' X' := by
  refine Eq.trans (rl_lstoren (j := 1) (ls' := [some (am_P (3, 0, 0)), some (.inl (.long s0)), none, none, none, none]) (by decide +kernel) rfl rfl) ?_
  refine Eq.trans (rl_aloadn (j := 0) (by decide +kernel) rfl) ?_
  refine Eq.trans (rl_iconst (c := 2) (k := (nI 2)) (by decide +kernel) (by decide)) ?_
  refine Eq.trans (rl_invS (ix := 190) (n := 2) (k := 1) 143 [am_P (3, 0, 0), am_I (nI 2)] [] (by decide +kernel) (by decide +kernel) (by decide) (by decide +kernel) ⟨rfl, rfl⟩ rfl rfl) ?_
  rfl
theorem b154_10 {x1 : Int64} {s0 : Int32} {M : am_M} {w : am_W4}  : am_rn call 154 10 [some (am_P (3, 0, 0)), some (.inl (.long x1)), none, none, none, none] [am_I s0] M (am_Z w) = am_cb (call 143 [am_P (3, 0, 0), am_I (nI 4)] M (am_Z w)) fun v M' X' => am_rn call 154 16 [some (am_P (3, 0, 0)), some (.inl (.long x1)), none, some (am_I s0), none, none] (v.toList ++ []) M' X' := by
  refine Eq.trans (rl_istoren (j := 3) (ls' := [some (am_P (3, 0, 0)), some (.inl (.long x1)), none, some (am_I s0), none, none]) (by decide +kernel) rfl rfl) ?_
  refine Eq.trans (rl_aloadn (j := 0) (by decide +kernel) rfl) ?_
  refine Eq.trans (rl_iconst (c := 4) (k := (nI 4)) (by decide +kernel) (by decide)) ?_
  refine Eq.trans (rl_invS (ix := 190) (n := 2) (k := 1) 143 [am_P (3, 0, 0), am_I (nI 4)] [] (by decide +kernel) (by decide +kernel) (by decide) (by decide +kernel) ⟨rfl, rfl⟩ rfl rfl) ?_
  rfl
theorem b154_16 {x1 : Int64} {x3 s0 : Int32} {M : am_M} {w : am_W4}  : am_rn call 154 16 [some (am_P (3, 0, 0)), some (.inl (.long x1)), none, some (am_I x3), none, none] [am_I s0] M (am_Z w) = am_cb (call 115 [am_P (3, 0, 0), am_I (-1 : Int32), am_I (nI 0), am_I (nI 1)] M (am_Z w)) fun v M' X' => am_rn call 154 25 [some (am_P (3, 0, 0)), some (.inl (.long x1)), none, some (am_I x3), some (am_I s0), none] (v.toList ++ []) M' X' := by
  refine Eq.trans (rl_istore (j := 4) (ls' := [some (am_P (3, 0, 0)), some (.inl (.long x1)), none, some (am_I x3), some (am_I s0), none]) (by decide +kernel) rfl rfl) ?_
  refine Eq.trans (rl_aloadn (j := 0) (by decide +kernel) rfl) ?_
  refine Eq.trans (rl_iconst (c := -1) (k := (-1 : Int32)) (by decide +kernel) (by decide)) ?_
  refine Eq.trans (rl_iconst (c := 0) (k := (nI 0)) (by decide +kernel) (by decide)) ?_
  refine Eq.trans (rl_iconst (c := 1) (k := (nI 1)) (by decide +kernel) (by decide)) ?_
  refine Eq.trans (rl_invS (ix := 160) (n := 4) (k := 1) 115 [am_P (3, 0, 0), am_I (-1 : Int32), am_I (nI 0), am_I (nI 1)] [] (by decide +kernel) (by decide +kernel) (by decide) (by decide +kernel) ⟨rfl, rfl⟩ rfl rfl) ?_
  rfl
theorem b154_25 {x1 : Int64} {x3 x4 s0 : Int32} {M : am_M} {w : am_W4}  : am_rn call 154 25 [some (am_P (3, 0, 0)), some (.inl (.long x1)), none, some (am_I x3), some (am_I x4), none] [am_I s0] M (am_Z w) = if s0 = (-1001 : Int32) then am_cb (call 115 [am_P (3, 0, 0), am_I (nI 10), am_I (nI 0), am_I (nI 1)] M (am_Z w)) fun v M' X' => am_rn call 154 39 [some (am_P (3, 0, 0)), some (.inl (.long x1)), none, some (am_I x3), some (am_I x4), none] (v.toList ++ []) M' X' else am_rn call 154 381 [some (am_P (3, 0, 0)), some (.inl (.long x1)), none, some (am_I x3), some (am_I x4), none] [] M (am_Z w) := by
  refine Eq.trans (rl_sipush (c := -1001) (k := (-1001 : Int32)) (by decide +kernel) (by decide)) ?_
  refine Eq.trans (rl_icne (o := 353) 381 (by decide +kernel) (by decide)) ?_
  refine am_ite (fun h_1 => ?_) (fun h_1 => ?_)
  · skip
    refine Eq.trans (rl_aloadn (j := 0) (by decide +kernel) rfl) ?_
    refine Eq.trans (rl_bipush (c := 10) (k := (nI 10)) (by decide +kernel) (by decide)) ?_
    refine Eq.trans (rl_iconst (c := 0) (k := (nI 0)) (by decide +kernel) (by decide)) ?_
    refine Eq.trans (rl_iconst (c := 1) (k := (nI 1)) (by decide +kernel) (by decide)) ?_
    refine Eq.trans (rl_invS (ix := 160) (n := 4) (k := 1) 115 [am_P (3, 0, 0), am_I (nI 10), am_I (nI 0), am_I (nI 1)] [] (by decide +kernel) (by decide +kernel) (by decide) (by decide +kernel) ⟨rfl, rfl⟩ rfl rfl) ?_
    rfl
  · skip
    rfl
theorem b154_39 {x1 : Int64} {x3 x4 s0 : Int32} {M : am_M} {w : am_W4}  : am_rn call 154 39 [some (am_P (3, 0, 0)), some (.inl (.long x1)), none, some (am_I x3), some (am_I x4), none] [am_I s0] M (am_Z w) = if s0 = (-1001 : Int32) then am_cb (call 115 [am_P (3, 0, 0), am_I (nI 0), am_I (nI 10), am_I (nI 1)] M (am_Z w)) fun v M' X' => am_rn call 154 53 [some (am_P (3, 0, 0)), some (.inl (.long x1)), none, some (am_I x3), some (am_I x4), none] (v.toList ++ []) M' X' else am_rn call 154 381 [some (am_P (3, 0, 0)), some (.inl (.long x1)), none, some (am_I x3), some (am_I x4), none] [] M (am_Z w) := by
  refine Eq.trans (rl_sipush (c := -1001) (k := (-1001 : Int32)) (by decide +kernel) (by decide)) ?_
  refine Eq.trans (rl_icne (o := 339) 381 (by decide +kernel) (by decide)) ?_
  refine am_ite (fun h_1 => ?_) (fun h_1 => ?_)
  · skip
    refine Eq.trans (rl_aloadn (j := 0) (by decide +kernel) rfl) ?_
    refine Eq.trans (rl_iconst (c := 0) (k := (nI 0)) (by decide +kernel) (by decide)) ?_
    refine Eq.trans (rl_bipush (c := 10) (k := (nI 10)) (by decide +kernel) (by decide)) ?_
    refine Eq.trans (rl_iconst (c := 1) (k := (nI 1)) (by decide +kernel) (by decide)) ?_
    refine Eq.trans (rl_invS (ix := 160) (n := 4) (k := 1) 115 [am_P (3, 0, 0), am_I (nI 0), am_I (nI 10), am_I (nI 1)] [] (by decide +kernel) (by decide +kernel) (by decide) (by decide +kernel) ⟨rfl, rfl⟩ rfl rfl) ?_
    rfl
  · skip
    rfl
theorem b154_53 {x1 : Int64} {x3 x4 s0 : Int32} {M : am_M} {w : am_W4}  : am_rn call 154 53 [some (am_P (3, 0, 0)), some (.inl (.long x1)), none, some (am_I x3), some (am_I x4), none] [am_I s0] M (am_Z w) = if s0 = (-1001 : Int32) then am_cb (call 115 [am_P (3, 0, 0), am_I (nI 0), am_I (nI 0), am_I (nI 0)] M (am_Z w)) fun v M' X' => am_rn call 154 66 [some (am_P (3, 0, 0)), some (.inl (.long x1)), none, some (am_I x3), some (am_I x4), none] (v.toList ++ []) M' X' else am_rn call 154 381 [some (am_P (3, 0, 0)), some (.inl (.long x1)), none, some (am_I x3), some (am_I x4), none] [] M (am_Z w) := by
  refine Eq.trans (rl_sipush (c := -1001) (k := (-1001 : Int32)) (by decide +kernel) (by decide)) ?_
  refine Eq.trans (rl_icne (o := 325) 381 (by decide +kernel) (by decide)) ?_
  refine am_ite (fun h_1 => ?_) (fun h_1 => ?_)
  · skip
    refine Eq.trans (rl_aloadn (j := 0) (by decide +kernel) rfl) ?_
    refine Eq.trans (rl_iconst (c := 0) (k := (nI 0)) (by decide +kernel) (by decide)) ?_
    refine Eq.trans (rl_iconst (c := 0) (k := (nI 0)) (by decide +kernel) (by decide)) ?_
    refine Eq.trans (rl_iconst (c := 0) (k := (nI 0)) (by decide +kernel) (by decide)) ?_
    refine Eq.trans (rl_invS (ix := 160) (n := 4) (k := 1) 115 [am_P (3, 0, 0), am_I (nI 0), am_I (nI 0), am_I (nI 0)] [] (by decide +kernel) (by decide +kernel) (by decide) (by decide +kernel) ⟨rfl, rfl⟩ rfl rfl) ?_
    rfl
  · skip
    rfl
theorem b154_66 {x1 : Int64} {x3 x4 s0 : Int32} {M : am_M} {w : am_W4}  : am_rn call 154 66 [some (am_P (3, 0, 0)), some (.inl (.long x1)), none, some (am_I x3), some (am_I x4), none] [am_I s0] M (am_Z w) = if s0 = (-1001 : Int32) then am_cb (call 148 [am_P (3, 0, 0), am_I (nI 1), am_I (nI 0), am_I (nI 0)] M (am_Z w)) fun v M' X' => am_rn call 154 79 [some (am_P (3, 0, 0)), some (.inl (.long x1)), none, some (am_I x3), some (am_I x4), none] (v.toList ++ []) M' X' else am_rn call 154 381 [some (am_P (3, 0, 0)), some (.inl (.long x1)), none, some (am_I x3), some (am_I x4), none] [] M (am_Z w) := by
  refine Eq.trans (rl_sipush (c := -1001) (k := (-1001 : Int32)) (by decide +kernel) (by decide)) ?_
  refine Eq.trans (rl_icne (o := 312) 381 (by decide +kernel) (by decide)) ?_
  refine am_ite (fun h_1 => ?_) (fun h_1 => ?_)
  · skip
    refine Eq.trans (rl_aloadn (j := 0) (by decide +kernel) rfl) ?_
    refine Eq.trans (rl_iconst (c := 1) (k := (nI 1)) (by decide +kernel) (by decide)) ?_
    refine Eq.trans (rl_iconst (c := 0) (k := (nI 0)) (by decide +kernel) (by decide)) ?_
    refine Eq.trans (rl_iconst (c := 0) (k := (nI 0)) (by decide +kernel) (by decide)) ?_
    refine Eq.trans (rl_invS (ix := 271) (n := 4) (k := 1) 148 [am_P (3, 0, 0), am_I (nI 1), am_I (nI 0), am_I (nI 0)] [] (by decide +kernel) (by decide +kernel) (by decide) (by decide +kernel) ⟨rfl, rfl⟩ rfl rfl) ?_
    rfl
  · skip
    rfl
theorem b154_79 {x1 : Int64} {x3 x4 s0 : Int32} {M : am_M} {w : am_W4}  : am_rn call 154 79 [some (am_P (3, 0, 0)), some (.inl (.long x1)), none, some (am_I x3), some (am_I x4), none] [am_I s0] M (am_Z w) = if s0 = 0 then am_rn call 154 381 [some (am_P (3, 0, 0)), some (.inl (.long x1)), none, some (am_I x3), some (am_I x4), none] [] M (am_Z w) else am_cb (call 116 [am_P (3, 0, 0), am_I (nI 0), am_I (nI 1)] M (am_Z w)) fun v M' X' => am_rn call 154 88 [some (am_P (3, 0, 0)), some (.inl (.long x1)), none, some (am_I x3), some (am_I x4), none] (v.toList ++ []) M' X' := by
  refine Eq.trans (rl_ifeq (o := 302) 381 (by decide +kernel) (by decide)) ?_
  refine am_ite (fun h_1 => ?_) (fun h_1 => ?_)
  · skip
    rfl
  · skip
    refine Eq.trans (rl_aloadn (j := 0) (by decide +kernel) rfl) ?_
    refine Eq.trans (rl_iconst (c := 0) (k := (nI 0)) (by decide +kernel) (by decide)) ?_
    refine Eq.trans (rl_iconst (c := 1) (k := (nI 1)) (by decide +kernel) (by decide)) ?_
    refine Eq.trans (rl_invS (ix := 163) (n := 3) (k := 1) 116 [am_P (3, 0, 0), am_I (nI 0), am_I (nI 1)] [] (by decide +kernel) (by decide +kernel) (by decide) (by decide +kernel) ⟨rfl, rfl⟩ rfl rfl) ?_
    rfl
theorem b154_88 {x1 : Int64} {x3 x4 s0 : Int32} {M : am_M} {w : am_W4}  : am_rn call 154 88 [some (am_P (3, 0, 0)), some (.inl (.long x1)), none, some (am_I x3), some (am_I x4), none] [am_I s0] M (am_Z w) = if s0 = (-1001 : Int32) then am_cb (call 116 [am_P (3, 0, 0), am_I (nI 9), am_I (nI 1)] M (am_Z w)) fun v M' X' => am_rn call 154 101 [some (am_P (3, 0, 0)), some (.inl (.long x1)), none, some (am_I x3), some (am_I x4), none] (v.toList ++ []) M' X' else am_rn call 154 381 [some (am_P (3, 0, 0)), some (.inl (.long x1)), none, some (am_I x3), some (am_I x4), none] [] M (am_Z w) := by
  refine Eq.trans (rl_sipush (c := -1001) (k := (-1001 : Int32)) (by decide +kernel) (by decide)) ?_
  refine Eq.trans (rl_icne (o := 290) 381 (by decide +kernel) (by decide)) ?_
  refine am_ite (fun h_1 => ?_) (fun h_1 => ?_)
  · skip
    refine Eq.trans (rl_aloadn (j := 0) (by decide +kernel) rfl) ?_
    refine Eq.trans (rl_bipush (c := 9) (k := (nI 9)) (by decide +kernel) (by decide)) ?_
    refine Eq.trans (rl_iconst (c := 1) (k := (nI 1)) (by decide +kernel) (by decide)) ?_
    refine Eq.trans (rl_invS (ix := 163) (n := 3) (k := 1) 116 [am_P (3, 0, 0), am_I (nI 9), am_I (nI 1)] [] (by decide +kernel) (by decide +kernel) (by decide) (by decide +kernel) ⟨rfl, rfl⟩ rfl rfl) ?_
    rfl
  · skip
    rfl
theorem b154_101 {x1 : Int64} {x3 x4 s0 : Int32} {M : am_M} {w : am_W4}  : am_rn call 154 101 [some (am_P (3, 0, 0)), some (.inl (.long x1)), none, some (am_I x3), some (am_I x4), none] [am_I s0] M (am_Z w) = if s0 = (-1001 : Int32) then am_cb (call 116 [am_P (3, 0, 0), am_I (nI 1), am_I (nI 0)] M (am_Z w)) fun v M' X' => am_rn call 154 113 [some (am_P (3, 0, 0)), some (.inl (.long x1)), none, some (am_I x3), some (am_I x4), none] (v.toList ++ []) M' X' else am_rn call 154 381 [some (am_P (3, 0, 0)), some (.inl (.long x1)), none, some (am_I x3), some (am_I x4), none] [] M (am_Z w) := by
  refine Eq.trans (rl_sipush (c := -1001) (k := (-1001 : Int32)) (by decide +kernel) (by decide)) ?_
  refine Eq.trans (rl_icne (o := 277) 381 (by decide +kernel) (by decide)) ?_
  refine am_ite (fun h_1 => ?_) (fun h_1 => ?_)
  · skip
    refine Eq.trans (rl_aloadn (j := 0) (by decide +kernel) rfl) ?_
    refine Eq.trans (rl_iconst (c := 1) (k := (nI 1)) (by decide +kernel) (by decide)) ?_
    refine Eq.trans (rl_iconst (c := 0) (k := (nI 0)) (by decide +kernel) (by decide)) ?_
    refine Eq.trans (rl_invS (ix := 163) (n := 3) (k := 1) 116 [am_P (3, 0, 0), am_I (nI 1), am_I (nI 0)] [] (by decide +kernel) (by decide +kernel) (by decide) (by decide +kernel) ⟨rfl, rfl⟩ rfl rfl) ?_
    rfl
  · skip
    rfl
theorem b154_113 {x1 : Int64} {x3 x4 s0 : Int32} {M : am_M} {w : am_W4}  : am_rn call 154 113 [some (am_P (3, 0, 0)), some (.inl (.long x1)), none, some (am_I x3), some (am_I x4), none] [am_I s0] M (am_Z w) = if s0 = (-1001 : Int32) then am_cb (call 116 [am_P (3, 0, 0), am_I (nI 1), am_I (nI 151)] M (am_Z w)) fun v M' X' => am_rn call 154 127 [some (am_P (3, 0, 0)), some (.inl (.long x1)), none, some (am_I x3), some (am_I x4), none] (v.toList ++ []) M' X' else am_rn call 154 381 [some (am_P (3, 0, 0)), some (.inl (.long x1)), none, some (am_I x3), some (am_I x4), none] [] M (am_Z w) := by
  refine Eq.trans (rl_sipush (c := -1001) (k := (-1001 : Int32)) (by decide +kernel) (by decide)) ?_
  refine Eq.trans (rl_icne (o := 265) 381 (by decide +kernel) (by decide)) ?_
  refine am_ite (fun h_1 => ?_) (fun h_1 => ?_)
  · skip
    refine Eq.trans (rl_aloadn (j := 0) (by decide +kernel) rfl) ?_
    refine Eq.trans (rl_iconst (c := 1) (k := (nI 1)) (by decide +kernel) (by decide)) ?_
    refine Eq.trans (rl_sipush (c := 151) (k := (nI 151)) (by decide +kernel) (by decide)) ?_
    refine Eq.trans (rl_invS (ix := 163) (n := 3) (k := 1) 116 [am_P (3, 0, 0), am_I (nI 1), am_I (nI 151)] [] (by decide +kernel) (by decide +kernel) (by decide) (by decide +kernel) ⟨rfl, rfl⟩ rfl rfl) ?_
    rfl
  · skip
    rfl
theorem b154_127 {x1 : Int64} {x3 x4 s0 : Int32} {M : am_M} {w : am_W4}  : am_rn call 154 127 [some (am_P (3, 0, 0)), some (.inl (.long x1)), none, some (am_I x3), some (am_I x4), none] [am_I s0] M (am_Z w) = if s0 = (-1001 : Int32) then am_cb (call 117 [am_P (3, 0, 0), am_I x3, am_I (nI 24), am_I (nI 0)] M (am_Z w)) fun v M' X' => am_rn call 154 141 [some (am_P (3, 0, 0)), some (.inl (.long x1)), none, some (am_I x3), some (am_I x4), none] (v.toList ++ []) M' X' else am_rn call 154 381 [some (am_P (3, 0, 0)), some (.inl (.long x1)), none, some (am_I x3), some (am_I x4), none] [] M (am_Z w) := by
  refine Eq.trans (rl_sipush (c := -1001) (k := (-1001 : Int32)) (by decide +kernel) (by decide)) ?_
  refine Eq.trans (rl_icne (o := 251) 381 (by decide +kernel) (by decide)) ?_
  refine am_ite (fun h_1 => ?_) (fun h_1 => ?_)
  · skip
    refine Eq.trans (rl_aloadn (j := 0) (by decide +kernel) rfl) ?_
    refine Eq.trans (rl_iloadn (j := 3) (by decide +kernel) rfl) ?_
    refine Eq.trans (rl_bipush (c := 24) (k := (nI 24)) (by decide +kernel) (by decide)) ?_
    refine Eq.trans (rl_iconst (c := 0) (k := (nI 0)) (by decide +kernel) (by decide)) ?_
    refine Eq.trans (rl_invS (ix := 168) (n := 4) (k := 1) 117 [am_P (3, 0, 0), am_I x3, am_I (nI 24), am_I (nI 0)] [] (by decide +kernel) (by decide +kernel) (by decide) (by decide +kernel) ⟨rfl, rfl⟩ rfl rfl) ?_
    rfl
  · skip
    rfl
theorem b154_141 {x1 : Int64} {x3 x4 s0 : Int32} {M : am_M} {w : am_W4}  : am_rn call 154 141 [some (am_P (3, 0, 0)), some (.inl (.long x1)), none, some (am_I x3), some (am_I x4), none] [am_I s0] M (am_Z w) = if s0 = (-1001 : Int32) then am_cb (call 148 [am_P (3, 0, 0), am_I (nI 3), am_I x3, am_I (nI 0)] M (am_Z w)) fun v M' X' => am_rn call 154 154 [some (am_P (3, 0, 0)), some (.inl (.long x1)), none, some (am_I x3), some (am_I x4), none] (v.toList ++ []) M' X' else am_rn call 154 381 [some (am_P (3, 0, 0)), some (.inl (.long x1)), none, some (am_I x3), some (am_I x4), none] [] M (am_Z w) := by
  refine Eq.trans (rl_sipush (c := -1001) (k := (-1001 : Int32)) (by decide +kernel) (by decide)) ?_
  refine Eq.trans (rl_icne (o := 237) 381 (by decide +kernel) (by decide)) ?_
  refine am_ite (fun h_1 => ?_) (fun h_1 => ?_)
  · skip
    refine Eq.trans (rl_aloadn (j := 0) (by decide +kernel) rfl) ?_
    refine Eq.trans (rl_iconst (c := 3) (k := (nI 3)) (by decide +kernel) (by decide)) ?_
    refine Eq.trans (rl_iloadn (j := 3) (by decide +kernel) rfl) ?_
    refine Eq.trans (rl_iconst (c := 0) (k := (nI 0)) (by decide +kernel) (by decide)) ?_
    refine Eq.trans (rl_invS (ix := 271) (n := 4) (k := 1) 148 [am_P (3, 0, 0), am_I (nI 3), am_I x3, am_I (nI 0)] [] (by decide +kernel) (by decide +kernel) (by decide) (by decide +kernel) ⟨rfl, rfl⟩ rfl rfl) ?_
    rfl
  · skip
    rfl
theorem b154_154 {x1 : Int64} {x3 x4 s0 : Int32} {M : am_M} {w : am_W4}  : am_rn call 154 154 [some (am_P (3, 0, 0)), some (.inl (.long x1)), none, some (am_I x3), some (am_I x4), none] [am_I s0] M (am_Z w) = if s0 = 0 then am_rn call 154 381 [some (am_P (3, 0, 0)), some (.inl (.long x1)), none, some (am_I x3), some (am_I x4), none] [] M (am_Z w) else am_cb (call 117 [am_P (3, 0, 0), am_I (nI 0), am_I (nI 24), am_I (nI 0)] M (am_Z w)) fun v M' X' => am_rn call 154 165 [some (am_P (3, 0, 0)), some (.inl (.long x1)), none, some (am_I x3), some (am_I x4), none] (v.toList ++ []) M' X' := by
  refine Eq.trans (rl_ifeq (o := 227) 381 (by decide +kernel) (by decide)) ?_
  refine am_ite (fun h_1 => ?_) (fun h_1 => ?_)
  · skip
    rfl
  · skip
    refine Eq.trans (rl_aloadn (j := 0) (by decide +kernel) rfl) ?_
    refine Eq.trans (rl_iconst (c := 0) (k := (nI 0)) (by decide +kernel) (by decide)) ?_
    refine Eq.trans (rl_bipush (c := 24) (k := (nI 24)) (by decide +kernel) (by decide)) ?_
    refine Eq.trans (rl_iconst (c := 0) (k := (nI 0)) (by decide +kernel) (by decide)) ?_
    refine Eq.trans (rl_invS (ix := 168) (n := 4) (k := 1) 117 [am_P (3, 0, 0), am_I (nI 0), am_I (nI 24), am_I (nI 0)] [] (by decide +kernel) (by decide +kernel) (by decide) (by decide +kernel) ⟨rfl, rfl⟩ rfl rfl) ?_
    rfl
theorem b154_165 {x1 : Int64} {x3 x4 s0 : Int32} {M : am_M} {w : am_W4}  : am_rn call 154 165 [some (am_P (3, 0, 0)), some (.inl (.long x1)), none, some (am_I x3), some (am_I x4), none] [am_I s0] M (am_Z w) = if s0 = (-1001 : Int32) then am_cb (call 117 [am_P (3, 0, 0), am_I (nI 0), am_I (nI 0), am_I (-1 : Int32)] M (am_Z w)) fun v M' X' => am_rn call 154 178 [some (am_P (3, 0, 0)), some (.inl (.long x1)), none, some (am_I x3), some (am_I x4), none] (v.toList ++ []) M' X' else am_rn call 154 381 [some (am_P (3, 0, 0)), some (.inl (.long x1)), none, some (am_I x3), some (am_I x4), none] [] M (am_Z w) := by
  refine Eq.trans (rl_sipush (c := -1001) (k := (-1001 : Int32)) (by decide +kernel) (by decide)) ?_
  refine Eq.trans (rl_icne (o := 213) 381 (by decide +kernel) (by decide)) ?_
  refine am_ite (fun h_1 => ?_) (fun h_1 => ?_)
  · skip
    refine Eq.trans (rl_aloadn (j := 0) (by decide +kernel) rfl) ?_
    refine Eq.trans (rl_iconst (c := 0) (k := (nI 0)) (by decide +kernel) (by decide)) ?_
    refine Eq.trans (rl_iconst (c := 0) (k := (nI 0)) (by decide +kernel) (by decide)) ?_
    refine Eq.trans (rl_iconst (c := -1) (k := (-1 : Int32)) (by decide +kernel) (by decide)) ?_
    refine Eq.trans (rl_invS (ix := 168) (n := 4) (k := 1) 117 [am_P (3, 0, 0), am_I (nI 0), am_I (nI 0), am_I (-1 : Int32)] [] (by decide +kernel) (by decide +kernel) (by decide) (by decide +kernel) ⟨rfl, rfl⟩ rfl rfl) ?_
    rfl
  · skip
    rfl
theorem b154_178 {x1 : Int64} {x3 x4 s0 : Int32} {M : am_M} {w : am_W4}  : am_rn call 154 178 [some (am_P (3, 0, 0)), some (.inl (.long x1)), none, some (am_I x3), some (am_I x4), none] [am_I s0] M (am_Z w) = if s0 = (-1001 : Int32) then am_cb (call 118 [am_P (3, 0, 0), am_I (x3 - (nI 1)), am_I (nI 0)] M (am_Z w)) fun v M' X' => am_rn call 154 192 [some (am_P (3, 0, 0)), some (.inl (.long x1)), none, some (am_I x3), some (am_I x4), none] (v.toList ++ []) M' X' else am_rn call 154 381 [some (am_P (3, 0, 0)), some (.inl (.long x1)), none, some (am_I x3), some (am_I x4), none] [] M (am_Z w) := by
  refine Eq.trans (rl_sipush (c := -1001) (k := (-1001 : Int32)) (by decide +kernel) (by decide)) ?_
  refine Eq.trans (rl_icne (o := 200) 381 (by decide +kernel) (by decide)) ?_
  refine am_ite (fun h_1 => ?_) (fun h_1 => ?_)
  · skip
    refine Eq.trans (rl_aloadn (j := 0) (by decide +kernel) rfl) ?_
    refine Eq.trans (rl_iloadn (j := 3) (by decide +kernel) rfl) ?_
    refine Eq.trans (rl_iconst (c := 1) (k := (nI 1)) (by decide +kernel) (by decide)) ?_
    refine Eq.trans (rl_isub (by decide +kernel)) ?_
    refine Eq.trans (rl_iconst (c := 0) (k := (nI 0)) (by decide +kernel) (by decide)) ?_
    refine Eq.trans (rl_invS (ix := 166) (n := 3) (k := 1) 118 [am_P (3, 0, 0), am_I (x3 - (nI 1)), am_I (nI 0)] [] (by decide +kernel) (by decide +kernel) (by decide) (by decide +kernel) ⟨rfl, rfl⟩ rfl rfl) ?_
    rfl
  · skip
    rfl
theorem b154_192 {x1 : Int64} {x3 x4 s0 : Int32} {M : am_M} {w : am_W4}  : am_rn call 154 192 [some (am_P (3, 0, 0)), some (.inl (.long x1)), none, some (am_I x3), some (am_I x4), none] [am_I s0] M (am_Z w) = if s0 = (-1001 : Int32) then am_cb (call 148 [am_P (3, 0, 0), am_I (nI 3), am_I (x3 - (nI 1)), am_I (nI 0)] M (am_Z w)) fun v M' X' => am_rn call 154 207 [some (am_P (3, 0, 0)), some (.inl (.long x1)), none, some (am_I x3), some (am_I x4), none] (v.toList ++ []) M' X' else am_rn call 154 381 [some (am_P (3, 0, 0)), some (.inl (.long x1)), none, some (am_I x3), some (am_I x4), none] [] M (am_Z w) := by
  refine Eq.trans (rl_sipush (c := -1001) (k := (-1001 : Int32)) (by decide +kernel) (by decide)) ?_
  refine Eq.trans (rl_icne (o := 186) 381 (by decide +kernel) (by decide)) ?_
  refine am_ite (fun h_1 => ?_) (fun h_1 => ?_)
  · skip
    refine Eq.trans (rl_aloadn (j := 0) (by decide +kernel) rfl) ?_
    refine Eq.trans (rl_iconst (c := 3) (k := (nI 3)) (by decide +kernel) (by decide)) ?_
    refine Eq.trans (rl_iloadn (j := 3) (by decide +kernel) rfl) ?_
    refine Eq.trans (rl_iconst (c := 1) (k := (nI 1)) (by decide +kernel) (by decide)) ?_
    refine Eq.trans (rl_isub (by decide +kernel)) ?_
    refine Eq.trans (rl_iconst (c := 0) (k := (nI 0)) (by decide +kernel) (by decide)) ?_
    refine Eq.trans (rl_invS (ix := 271) (n := 4) (k := 1) 148 [am_P (3, 0, 0), am_I (nI 3), am_I (x3 - (nI 1)), am_I (nI 0)] [] (by decide +kernel) (by decide +kernel) (by decide) (by decide +kernel) ⟨rfl, rfl⟩ rfl rfl) ?_
    rfl
  · skip
    rfl
theorem b154_207 {x1 : Int64} {x3 x4 s0 : Int32} {M : am_M} {w : am_W4}  : am_rn call 154 207 [some (am_P (3, 0, 0)), some (.inl (.long x1)), none, some (am_I x3), some (am_I x4), none] [am_I s0] M (am_Z w) = if s0 = 0 then am_rn call 154 381 [some (am_P (3, 0, 0)), some (.inl (.long x1)), none, some (am_I x3), some (am_I x4), none] [] M (am_Z w) else am_cb (call 118 [am_P (3, 0, 0), am_I (nI 0), am_I (nI 10)] M (am_Z w)) fun v M' X' => am_rn call 154 217 [some (am_P (3, 0, 0)), some (.inl (.long x1)), none, some (am_I x3), some (am_I x4), none] (v.toList ++ []) M' X' := by
  refine Eq.trans (rl_ifeq (o := 174) 381 (by decide +kernel) (by decide)) ?_
  refine am_ite (fun h_1 => ?_) (fun h_1 => ?_)
  · skip
    rfl
  · skip
    refine Eq.trans (rl_aloadn (j := 0) (by decide +kernel) rfl) ?_
    refine Eq.trans (rl_iconst (c := 0) (k := (nI 0)) (by decide +kernel) (by decide)) ?_
    refine Eq.trans (rl_bipush (c := 10) (k := (nI 10)) (by decide +kernel) (by decide)) ?_
    refine Eq.trans (rl_invS (ix := 166) (n := 3) (k := 1) 118 [am_P (3, 0, 0), am_I (nI 0), am_I (nI 10)] [] (by decide +kernel) (by decide +kernel) (by decide) (by decide +kernel) ⟨rfl, rfl⟩ rfl rfl) ?_
    rfl
theorem b154_217 {x1 : Int64} {x3 x4 s0 : Int32} {M : am_M} {w : am_W4}  : am_rn call 154 217 [some (am_P (3, 0, 0)), some (.inl (.long x1)), none, some (am_I x3), some (am_I x4), none] [am_I s0] M (am_Z w) = if s0 = (-1001 : Int32) then am_cb (call 118 [am_P (3, 0, 0), am_I (-1 : Int32), am_I (nI 0)] M (am_Z w)) fun v M' X' => am_rn call 154 229 [some (am_P (3, 0, 0)), some (.inl (.long x1)), none, some (am_I x3), some (am_I x4), none] (v.toList ++ []) M' X' else am_rn call 154 381 [some (am_P (3, 0, 0)), some (.inl (.long x1)), none, some (am_I x3), some (am_I x4), none] [] M (am_Z w) := by
  refine Eq.trans (rl_sipush (c := -1001) (k := (-1001 : Int32)) (by decide +kernel) (by decide)) ?_
  refine Eq.trans (rl_icne (o := 161) 381 (by decide +kernel) (by decide)) ?_
  refine am_ite (fun h_1 => ?_) (fun h_1 => ?_)
  · skip
    refine Eq.trans (rl_aloadn (j := 0) (by decide +kernel) rfl) ?_
    refine Eq.trans (rl_iconst (c := -1) (k := (-1 : Int32)) (by decide +kernel) (by decide)) ?_
    refine Eq.trans (rl_iconst (c := 0) (k := (nI 0)) (by decide +kernel) (by decide)) ?_
    refine Eq.trans (rl_invS (ix := 166) (n := 3) (k := 1) 118 [am_P (3, 0, 0), am_I (-1 : Int32), am_I (nI 0)] [] (by decide +kernel) (by decide +kernel) (by decide) (by decide +kernel) ⟨rfl, rfl⟩ rfl rfl) ?_
    rfl
  · skip
    rfl
theorem b154_229 {x1 : Int64} {x3 x4 s0 : Int32} {M : am_M} {w : am_W4}  : am_rn call 154 229 [some (am_P (3, 0, 0)), some (.inl (.long x1)), none, some (am_I x3), some (am_I x4), none] [am_I s0] M (am_Z w) = if s0 = (-1001 : Int32) then am_cb (call 119 [am_P (3, 0, 0), am_I x3, am_I (nI 10)] M (am_Z w)) fun v M' X' => am_rn call 154 242 [some (am_P (3, 0, 0)), some (.inl (.long x1)), none, some (am_I x3), some (am_I x4), none] (v.toList ++ []) M' X' else am_rn call 154 381 [some (am_P (3, 0, 0)), some (.inl (.long x1)), none, some (am_I x3), some (am_I x4), none] [] M (am_Z w) := by
  refine Eq.trans (rl_sipush (c := -1001) (k := (-1001 : Int32)) (by decide +kernel) (by decide)) ?_
  refine Eq.trans (rl_icne (o := 149) 381 (by decide +kernel) (by decide)) ?_
  refine am_ite (fun h_1 => ?_) (fun h_1 => ?_)
  · skip
    refine Eq.trans (rl_aloadn (j := 0) (by decide +kernel) rfl) ?_
    refine Eq.trans (rl_iloadn (j := 3) (by decide +kernel) rfl) ?_
    refine Eq.trans (rl_bipush (c := 10) (k := (nI 10)) (by decide +kernel) (by decide)) ?_
    refine Eq.trans (rl_invS (ix := 227) (n := 3) (k := 1) 119 [am_P (3, 0, 0), am_I x3, am_I (nI 10)] [] (by decide +kernel) (by decide +kernel) (by decide) (by decide +kernel) ⟨rfl, rfl⟩ rfl rfl) ?_
    rfl
  · skip
    rfl
theorem b154_242 {x1 : Int64} {x3 x4 s0 : Int32} {M : am_M} {w : am_W4}  : am_rn call 154 242 [some (am_P (3, 0, 0)), some (.inl (.long x1)), none, some (am_I x3), some (am_I x4), none] [am_I s0] M (am_Z w) = if s0 = (-1001 : Int32) then am_cb (call 119 [am_P (3, 0, 0), am_I (nI 0), am_I (nI 10)] M (am_Z w)) fun v M' X' => am_rn call 154 255 [some (am_P (3, 0, 0)), some (.inl (.long x1)), none, some (am_I x3), some (am_I x4), none] (v.toList ++ []) M' X' else am_rn call 154 381 [some (am_P (3, 0, 0)), some (.inl (.long x1)), none, some (am_I x3), some (am_I x4), none] [] M (am_Z w) := by
  refine Eq.trans (rl_sipush (c := -1001) (k := (-1001 : Int32)) (by decide +kernel) (by decide)) ?_
  refine Eq.trans (rl_icne (o := 136) 381 (by decide +kernel) (by decide)) ?_
  refine am_ite (fun h_1 => ?_) (fun h_1 => ?_)
  · skip
    refine Eq.trans (rl_aloadn (j := 0) (by decide +kernel) rfl) ?_
    refine Eq.trans (rl_iconst (c := 0) (k := (nI 0)) (by decide +kernel) (by decide)) ?_
    refine Eq.trans (rl_bipush (c := 10) (k := (nI 10)) (by decide +kernel) (by decide)) ?_
    refine Eq.trans (rl_invS (ix := 227) (n := 3) (k := 1) 119 [am_P (3, 0, 0), am_I (nI 0), am_I (nI 10)] [] (by decide +kernel) (by decide +kernel) (by decide) (by decide +kernel) ⟨rfl, rfl⟩ rfl rfl) ?_
    rfl
  · skip
    rfl
theorem b154_255 {x1 : Int64} {x3 x4 s0 : Int32} {M : am_M} {w : am_W4}  : am_rn call 154 255 [some (am_P (3, 0, 0)), some (.inl (.long x1)), none, some (am_I x3), some (am_I x4), none] [am_I s0] M (am_Z w) = if s0 = (-1001 : Int32) then am_cb (call 120 [am_P (3, 0, 0), am_I x3, am_I (nI 0), am_I (nI 1)] M (am_Z w)) fun v M' X' => am_rn call 154 268 [some (am_P (3, 0, 0)), some (.inl (.long x1)), none, some (am_I x3), some (am_I x4), none] (v.toList ++ []) M' X' else am_rn call 154 381 [some (am_P (3, 0, 0)), some (.inl (.long x1)), none, some (am_I x3), some (am_I x4), none] [] M (am_Z w) := by
  refine Eq.trans (rl_sipush (c := -1001) (k := (-1001 : Int32)) (by decide +kernel) (by decide)) ?_
  refine Eq.trans (rl_icne (o := 123) 381 (by decide +kernel) (by decide)) ?_
  refine am_ite (fun h_1 => ?_) (fun h_1 => ?_)
  · skip
    refine Eq.trans (rl_aloadn (j := 0) (by decide +kernel) rfl) ?_
    refine Eq.trans (rl_iloadn (j := 3) (by decide +kernel) rfl) ?_
    refine Eq.trans (rl_iconst (c := 0) (k := (nI 0)) (by decide +kernel) (by decide)) ?_
    refine Eq.trans (rl_iconst (c := 1) (k := (nI 1)) (by decide +kernel) (by decide)) ?_
    refine Eq.trans (rl_invS (ix := 232) (n := 4) (k := 1) 120 [am_P (3, 0, 0), am_I x3, am_I (nI 0), am_I (nI 1)] [] (by decide +kernel) (by decide +kernel) (by decide) (by decide +kernel) ⟨rfl, rfl⟩ rfl rfl) ?_
    rfl
  · skip
    rfl
theorem b154_268 {x1 : Int64} {x3 x4 s0 : Int32} {M : am_M} {w : am_W4}  : am_rn call 154 268 [some (am_P (3, 0, 0)), some (.inl (.long x1)), none, some (am_I x3), some (am_I x4), none] [am_I s0] M (am_Z w) = if s0 = (-1001 : Int32) then am_cb (call 120 [am_P (3, 0, 0), am_I (nI 0), am_I x3, am_I (nI 0)] M (am_Z w)) fun v M' X' => am_rn call 154 281 [some (am_P (3, 0, 0)), some (.inl (.long x1)), none, some (am_I x3), some (am_I x4), none] (v.toList ++ []) M' X' else am_rn call 154 381 [some (am_P (3, 0, 0)), some (.inl (.long x1)), none, some (am_I x3), some (am_I x4), none] [] M (am_Z w) := by
  refine Eq.trans (rl_sipush (c := -1001) (k := (-1001 : Int32)) (by decide +kernel) (by decide)) ?_
  refine Eq.trans (rl_icne (o := 110) 381 (by decide +kernel) (by decide)) ?_
  refine am_ite (fun h_1 => ?_) (fun h_1 => ?_)
  · skip
    refine Eq.trans (rl_aloadn (j := 0) (by decide +kernel) rfl) ?_
    refine Eq.trans (rl_iconst (c := 0) (k := (nI 0)) (by decide +kernel) (by decide)) ?_
    refine Eq.trans (rl_iloadn (j := 3) (by decide +kernel) rfl) ?_
    refine Eq.trans (rl_iconst (c := 0) (k := (nI 0)) (by decide +kernel) (by decide)) ?_
    refine Eq.trans (rl_invS (ix := 232) (n := 4) (k := 1) 120 [am_P (3, 0, 0), am_I (nI 0), am_I x3, am_I (nI 0)] [] (by decide +kernel) (by decide +kernel) (by decide) (by decide +kernel) ⟨rfl, rfl⟩ rfl rfl) ?_
    rfl
  · skip
    rfl
theorem b154_281 {x1 : Int64} {x3 x4 s0 : Int32} {M : am_M} {w : am_W4}  : am_rn call 154 281 [some (am_P (3, 0, 0)), some (.inl (.long x1)), none, some (am_I x3), some (am_I x4), none] [am_I s0] M (am_Z w) = if s0 = (-1001 : Int32) then am_cb (call 148 [am_P (3, 0, 0), am_I (nI 3), am_I x3, am_I (nI 0)] M (am_Z w)) fun v M' X' => am_rn call 154 294 [some (am_P (3, 0, 0)), some (.inl (.long x1)), none, some (am_I x3), some (am_I x4), none] (v.toList ++ []) M' X' else am_rn call 154 381 [some (am_P (3, 0, 0)), some (.inl (.long x1)), none, some (am_I x3), some (am_I x4), none] [] M (am_Z w) := by
  refine Eq.trans (rl_sipush (c := -1001) (k := (-1001 : Int32)) (by decide +kernel) (by decide)) ?_
  refine Eq.trans (rl_icne (o := 97) 381 (by decide +kernel) (by decide)) ?_
  refine am_ite (fun h_1 => ?_) (fun h_1 => ?_)
  · skip
    refine Eq.trans (rl_aloadn (j := 0) (by decide +kernel) rfl) ?_
    refine Eq.trans (rl_iconst (c := 3) (k := (nI 3)) (by decide +kernel) (by decide)) ?_
    refine Eq.trans (rl_iloadn (j := 3) (by decide +kernel) rfl) ?_
    refine Eq.trans (rl_iconst (c := 0) (k := (nI 0)) (by decide +kernel) (by decide)) ?_
    refine Eq.trans (rl_invS (ix := 271) (n := 4) (k := 1) 148 [am_P (3, 0, 0), am_I (nI 3), am_I x3, am_I (nI 0)] [] (by decide +kernel) (by decide +kernel) (by decide) (by decide +kernel) ⟨rfl, rfl⟩ rfl rfl) ?_
    rfl
  · skip
    rfl
theorem b154_294 {x1 : Int64} {x3 x4 s0 : Int32} {M : am_M} {w : am_W4}  : am_rn call 154 294 [some (am_P (3, 0, 0)), some (.inl (.long x1)), none, some (am_I x3), some (am_I x4), none] [am_I s0] M (am_Z w) = if s0 = 0 then am_rn call 154 381 [some (am_P (3, 0, 0)), some (.inl (.long x1)), none, some (am_I x3), some (am_I x4), none] [] M (am_Z w) else am_cb (call 120 [am_P (3, 0, 0), am_I (nI 0), am_I (nI 1), am_I (-5 : Int32)] M (am_Z w)) fun v M' X' => am_rn call 154 305 [some (am_P (3, 0, 0)), some (.inl (.long x1)), none, some (am_I x3), some (am_I x4), none] (v.toList ++ []) M' X' := by
  refine Eq.trans (rl_ifeq (o := 87) 381 (by decide +kernel) (by decide)) ?_
  refine am_ite (fun h_1 => ?_) (fun h_1 => ?_)
  · skip
    rfl
  · skip
    refine Eq.trans (rl_aloadn (j := 0) (by decide +kernel) rfl) ?_
    refine Eq.trans (rl_iconst (c := 0) (k := (nI 0)) (by decide +kernel) (by decide)) ?_
    refine Eq.trans (rl_iconst (c := 1) (k := (nI 1)) (by decide +kernel) (by decide)) ?_
    refine Eq.trans (rl_bipush (c := -5) (k := (-5 : Int32)) (by decide +kernel) (by decide)) ?_
    refine Eq.trans (rl_invS (ix := 232) (n := 4) (k := 1) 120 [am_P (3, 0, 0), am_I (nI 0), am_I (nI 1), am_I (-5 : Int32)] [] (by decide +kernel) (by decide +kernel) (by decide) (by decide +kernel) ⟨rfl, rfl⟩ rfl rfl) ?_
    rfl
theorem b154_305 {x1 : Int64} {x3 x4 s0 : Int32} {M : am_M} {w : am_W4}  : am_rn call 154 305 [some (am_P (3, 0, 0)), some (.inl (.long x1)), none, some (am_I x3), some (am_I x4), none] [am_I s0] M (am_Z w) = if s0 = (-1001 : Int32) then am_cb (call 148 [am_P (3, 0, 0), am_I (nI 1), am_I (nI 0), am_I (nI 0)] M (am_Z w)) fun v M' X' => am_rn call 154 318 [some (am_P (3, 0, 0)), some (.inl (.long x1)), none, some (am_I x3), some (am_I x4), none] (v.toList ++ []) M' X' else am_rn call 154 381 [some (am_P (3, 0, 0)), some (.inl (.long x1)), none, some (am_I x3), some (am_I x4), none] [] M (am_Z w) := by
  refine Eq.trans (rl_sipush (c := -1001) (k := (-1001 : Int32)) (by decide +kernel) (by decide)) ?_
  refine Eq.trans (rl_icne (o := 73) 381 (by decide +kernel) (by decide)) ?_
  refine am_ite (fun h_1 => ?_) (fun h_1 => ?_)
  · skip
    refine Eq.trans (rl_aloadn (j := 0) (by decide +kernel) rfl) ?_
    refine Eq.trans (rl_iconst (c := 1) (k := (nI 1)) (by decide +kernel) (by decide)) ?_
    refine Eq.trans (rl_iconst (c := 0) (k := (nI 0)) (by decide +kernel) (by decide)) ?_
    refine Eq.trans (rl_iconst (c := 0) (k := (nI 0)) (by decide +kernel) (by decide)) ?_
    refine Eq.trans (rl_invS (ix := 271) (n := 4) (k := 1) 148 [am_P (3, 0, 0), am_I (nI 1), am_I (nI 0), am_I (nI 0)] [] (by decide +kernel) (by decide +kernel) (by decide) (by decide +kernel) ⟨rfl, rfl⟩ rfl rfl) ?_
    rfl
  · skip
    rfl
theorem b154_318 {x1 : Int64} {x3 x4 s0 : Int32} {M : am_M} {w : am_W4}  : am_rn call 154 318 [some (am_P (3, 0, 0)), some (.inl (.long x1)), none, some (am_I x3), some (am_I x4), none] [am_I s0] M (am_Z w) = if s0 = 0 then am_rn call 154 381 [some (am_P (3, 0, 0)), some (.inl (.long x1)), none, some (am_I x3), some (am_I x4), none] [] M (am_Z w) else am_cb (call 121 [am_P (3, 0, 0), am_I x4] M (am_Z w)) fun v M' X' => am_rn call 154 327 [some (am_P (3, 0, 0)), some (.inl (.long x1)), none, some (am_I x3), some (am_I x4), none] (v.toList ++ []) M' X' := by
  refine Eq.trans (rl_ifeq (o := 63) 381 (by decide +kernel) (by decide)) ?_
  refine am_ite (fun h_1 => ?_) (fun h_1 => ?_)
  · skip
    rfl
  · skip
    refine Eq.trans (rl_aloadn (j := 0) (by decide +kernel) rfl) ?_
    refine Eq.trans (rl_iload (j := 4) (by decide +kernel) rfl) ?_
    refine Eq.trans (rl_invS (ix := 234) (n := 2) (k := 1) 121 [am_P (3, 0, 0), am_I x4] [] (by decide +kernel) (by decide +kernel) (by decide) (by decide +kernel) ⟨rfl, rfl⟩ rfl rfl) ?_
    rfl
theorem b154_327 {x1 : Int64} {x3 x4 s0 : Int32} {M : am_M} {w : am_W4}  : am_rn call 154 327 [some (am_P (3, 0, 0)), some (.inl (.long x1)), none, some (am_I x3), some (am_I x4), none] [am_I s0] M (am_Z w) = if s0 = (-1001 : Int32) then am_cb (call 148 [am_P (3, 0, 0), am_I (nI 3), am_I x4, am_I (nI 0)] M (am_Z w)) fun v M' X' => am_rn call 154 341 [some (am_P (3, 0, 0)), some (.inl (.long x1)), none, some (am_I x3), some (am_I x4), none] (v.toList ++ []) M' X' else am_rn call 154 381 [some (am_P (3, 0, 0)), some (.inl (.long x1)), none, some (am_I x3), some (am_I x4), none] [] M (am_Z w) := by
  refine Eq.trans (rl_sipush (c := -1001) (k := (-1001 : Int32)) (by decide +kernel) (by decide)) ?_
  refine Eq.trans (rl_icne (o := 51) 381 (by decide +kernel) (by decide)) ?_
  refine am_ite (fun h_1 => ?_) (fun h_1 => ?_)
  · skip
    refine Eq.trans (rl_aloadn (j := 0) (by decide +kernel) rfl) ?_
    refine Eq.trans (rl_iconst (c := 3) (k := (nI 3)) (by decide +kernel) (by decide)) ?_
    refine Eq.trans (rl_iload (j := 4) (by decide +kernel) rfl) ?_
    refine Eq.trans (rl_iconst (c := 0) (k := (nI 0)) (by decide +kernel) (by decide)) ?_
    refine Eq.trans (rl_invS (ix := 271) (n := 4) (k := 1) 148 [am_P (3, 0, 0), am_I (nI 3), am_I x4, am_I (nI 0)] [] (by decide +kernel) (by decide +kernel) (by decide) (by decide +kernel) ⟨rfl, rfl⟩ rfl rfl) ?_
    rfl
  · skip
    rfl
theorem b154_341 {x1 : Int64} {x3 x4 s0 : Int32} {M : am_M} {w : am_W4}  : am_rn call 154 341 [some (am_P (3, 0, 0)), some (.inl (.long x1)), none, some (am_I x3), some (am_I x4), none] [am_I s0] M (am_Z w) = if s0 = 0 then am_rn call 154 381 [some (am_P (3, 0, 0)), some (.inl (.long x1)), none, some (am_I x3), some (am_I x4), none] [] M (am_Z w) else am_cb (call 122 [am_P (3, 0, 0), am_I (nI 0)] M (am_Z w)) fun v M' X' => am_rn call 154 349 [some (am_P (3, 0, 0)), some (.inl (.long x1)), none, some (am_I x3), some (am_I x4), none] (v.toList ++ []) M' X' := by
  refine Eq.trans (rl_ifeq (o := 40) 381 (by decide +kernel) (by decide)) ?_
  refine am_ite (fun h_1 => ?_) (fun h_1 => ?_)
  · skip
    rfl
  · skip
    refine Eq.trans (rl_aloadn (j := 0) (by decide +kernel) rfl) ?_
    refine Eq.trans (rl_iconst (c := 0) (k := (nI 0)) (by decide +kernel) (by decide)) ?_
    refine Eq.trans (rl_invS (ix := 236) (n := 2) (k := 1) 122 [am_P (3, 0, 0), am_I (nI 0)] [] (by decide +kernel) (by decide +kernel) (by decide) (by decide +kernel) ⟨rfl, rfl⟩ rfl rfl) ?_
    rfl
theorem b154_349 {x1 : Int64} {x3 x4 s0 : Int32} {M : am_M} {w : am_W4}  : am_rn call 154 349 [some (am_P (3, 0, 0)), some (.inl (.long x1)), none, some (am_I x3), some (am_I x4), none] [am_I s0] M (am_Z w) = if s0 = (-1001 : Int32) then am_cb (call 122 [am_P (3, 0, 0), am_I (nI 97)] M (am_Z w)) fun v M' X' => am_rn call 154 361 [some (am_P (3, 0, 0)), some (.inl (.long x1)), none, some (am_I x3), some (am_I x4), none] (v.toList ++ []) M' X' else am_rn call 154 381 [some (am_P (3, 0, 0)), some (.inl (.long x1)), none, some (am_I x3), some (am_I x4), none] [] M (am_Z w) := by
  refine Eq.trans (rl_sipush (c := -1001) (k := (-1001 : Int32)) (by decide +kernel) (by decide)) ?_
  refine Eq.trans (rl_icne (o := 29) 381 (by decide +kernel) (by decide)) ?_
  refine am_ite (fun h_1 => ?_) (fun h_1 => ?_)
  · skip
    refine Eq.trans (rl_aloadn (j := 0) (by decide +kernel) rfl) ?_
    refine Eq.trans (rl_bipush (c := 97) (k := (nI 97)) (by decide +kernel) (by decide)) ?_
    refine Eq.trans (rl_invS (ix := 236) (n := 2) (k := 1) 122 [am_P (3, 0, 0), am_I (nI 97)] [] (by decide +kernel) (by decide +kernel) (by decide) (by decide +kernel) ⟨rfl, rfl⟩ rfl rfl) ?_
    rfl
  · skip
    rfl
theorem b154_361 {x1 : Int64} {x3 x4 s0 : Int32} {M : am_M} {w : am_W4}  : am_rn call 154 361 [some (am_P (3, 0, 0)), some (.inl (.long x1)), none, some (am_I x3), some (am_I x4), none] [am_I s0] M (am_Z w) = if s0 = (-1001 : Int32) then am_cb (call 148 [am_P (3, 0, 0), am_I (nI 1), am_I (nI 0), am_I (nI 0)] M (am_Z w)) fun v M' X' => am_rn call 154 374 [some (am_P (3, 0, 0)), some (.inl (.long x1)), none, some (am_I x3), some (am_I x4), none] (v.toList ++ []) M' X' else am_rn call 154 381 [some (am_P (3, 0, 0)), some (.inl (.long x1)), none, some (am_I x3), some (am_I x4), none] [] M (am_Z w) := by
  refine Eq.trans (rl_sipush (c := -1001) (k := (-1001 : Int32)) (by decide +kernel) (by decide)) ?_
  refine Eq.trans (rl_icne (o := 17) 381 (by decide +kernel) (by decide)) ?_
  refine am_ite (fun h_1 => ?_) (fun h_1 => ?_)
  · skip
    refine Eq.trans (rl_aloadn (j := 0) (by decide +kernel) rfl) ?_
    refine Eq.trans (rl_iconst (c := 1) (k := (nI 1)) (by decide +kernel) (by decide)) ?_
    refine Eq.trans (rl_iconst (c := 0) (k := (nI 0)) (by decide +kernel) (by decide)) ?_
    refine Eq.trans (rl_iconst (c := 0) (k := (nI 0)) (by decide +kernel) (by decide)) ?_
    refine Eq.trans (rl_invS (ix := 271) (n := 4) (k := 1) 148 [am_P (3, 0, 0), am_I (nI 1), am_I (nI 0), am_I (nI 0)] [] (by decide +kernel) (by decide +kernel) (by decide) (by decide +kernel) ⟨rfl, rfl⟩ rfl rfl) ?_
    rfl
  · skip
    rfl
theorem b154_374 {x1 : Int64} {x3 x4 s0 : Int32} {M : am_M} {w : am_W4}  : am_rn call 154 374 [some (am_P (3, 0, 0)), some (.inl (.long x1)), none, some (am_I x3), some (am_I x4), none] [am_I s0] M (am_Z w) = if s0 = 0 then am_rn call 154 381 [some (am_P (3, 0, 0)), some (.inl (.long x1)), none, some (am_I x3), some (am_I x4), none] [] M (am_Z w) else am_rn call 154 382 [some (am_P (3, 0, 0)), some (.inl (.long x1)), none, some (am_I x3), some (am_I x4), none] [am_I (nI 1)] M (am_Z w) := by
  refine Eq.trans (rl_ifeq (o := 7) 381 (by decide +kernel) (by decide)) ?_
  refine am_ite (fun h_1 => ?_) (fun h_1 => ?_)
  · skip
    rfl
  · skip
    refine Eq.trans (rl_iconst (c := 1) (k := (nI 1)) (by decide +kernel) (by decide)) ?_
    refine Eq.trans (rl_goto (o := 4) 382 (by decide +kernel) (by decide)) ?_
    rfl
theorem b154_381 {x1 : Int64} {x3 x4 : Int32} {M : am_M} {w : am_W4}  : am_rn call 154 381 [some (am_P (3, 0, 0)), some (.inl (.long x1)), none, some (am_I x3), some (am_I x4), none] [] M (am_Z w) = am_rn call 154 382 [some (am_P (3, 0, 0)), some (.inl (.long x1)), none, some (am_I x3), some (am_I x4), none] [am_I (nI 0)] M (am_Z w) := by
  refine Eq.trans (rl_iconst (c := 0) (k := (nI 0)) (by decide +kernel) (by decide)) ?_
  rfl
theorem b154_382 {x1 : Int64} {x3 x4 s0 : Int32} {M : am_M} {w : am_W4}  : am_rn call 154 382 [some (am_P (3, 0, 0)), some (.inl (.long x1)), none, some (am_I x3), some (am_I x4), none] [am_I s0] M (am_Z w) = if s0 = 0 then am_rn call 154 798 [some (am_P (3, 0, 0)), some (.inl (.long x1)), none, some (am_I x3), some (am_I x4), some (am_I s0)] [] M (am_Z w) else am_cb (call 123 [am_P (3, 0, 0), am_I x3, am_I (nI 9)] M (am_Z w)) fun v M' X' => am_rn call 154 396 [some (am_P (3, 0, 0)), some (.inl (.long x1)), none, some (am_I x3), some (am_I x4), some (am_I s0)] (v.toList ++ []) M' X' := by
  refine Eq.trans (rl_istore (j := 5) (ls' := [some (am_P (3, 0, 0)), some (.inl (.long x1)), none, some (am_I x3), some (am_I x4), some (am_I s0)]) (by decide +kernel) rfl rfl) ?_
  refine Eq.trans (rl_iload (j := 5) (by decide +kernel) rfl) ?_
  refine Eq.trans (rl_ifeq (o := 412) 798 (by decide +kernel) (by decide)) ?_
  refine am_ite (fun h_1 => ?_) (fun h_1 => ?_)
  · skip
    rfl
  · skip
    refine Eq.trans (rl_aloadn (j := 0) (by decide +kernel) rfl) ?_
    refine Eq.trans (rl_iloadn (j := 3) (by decide +kernel) rfl) ?_
    refine Eq.trans (rl_bipush (c := 9) (k := (nI 9)) (by decide +kernel) (by decide)) ?_
    refine Eq.trans (rl_invS (ix := 192) (n := 3) (k := 1) 123 [am_P (3, 0, 0), am_I x3, am_I (nI 9)] [] (by decide +kernel) (by decide +kernel) (by decide) (by decide +kernel) ⟨rfl, rfl⟩ rfl rfl) ?_
    rfl
theorem b154_396 {x1 : Int64} {x3 x4 x5 s0 : Int32} {M : am_M} {w : am_W4}  : am_rn call 154 396 [some (am_P (3, 0, 0)), some (.inl (.long x1)), none, some (am_I x3), some (am_I x4), some (am_I x5)] [am_I s0] M (am_Z w) = if s0 = (-1001 : Int32) then am_cb (call 123 [am_P (3, 0, 0), am_I (nI 0), am_I (nI 8)] M (am_Z w)) fun v M' X' => am_rn call 154 409 [some (am_P (3, 0, 0)), some (.inl (.long x1)), none, some (am_I x3), some (am_I x4), some (am_I x5)] (v.toList ++ []) M' X' else am_rn call 154 798 [some (am_P (3, 0, 0)), some (.inl (.long x1)), none, some (am_I x3), some (am_I x4), some (am_I x5)] [] M (am_Z w) := by
  refine Eq.trans (rl_sipush (c := -1001) (k := (-1001 : Int32)) (by decide +kernel) (by decide)) ?_
  refine Eq.trans (rl_icne (o := 399) 798 (by decide +kernel) (by decide)) ?_
  refine am_ite (fun h_1 => ?_) (fun h_1 => ?_)
  · skip
    refine Eq.trans (rl_aloadn (j := 0) (by decide +kernel) rfl) ?_
    refine Eq.trans (rl_iconst (c := 0) (k := (nI 0)) (by decide +kernel) (by decide)) ?_
    refine Eq.trans (rl_bipush (c := 8) (k := (nI 8)) (by decide +kernel) (by decide)) ?_
    refine Eq.trans (rl_invS (ix := 192) (n := 3) (k := 1) 123 [am_P (3, 0, 0), am_I (nI 0), am_I (nI 8)] [] (by decide +kernel) (by decide +kernel) (by decide) (by decide +kernel) ⟨rfl, rfl⟩ rfl rfl) ?_
    rfl
  · skip
    rfl
theorem b154_409 {x1 : Int64} {x3 x4 x5 s0 : Int32} {M : am_M} {w : am_W4}  : am_rn call 154 409 [some (am_P (3, 0, 0)), some (.inl (.long x1)), none, some (am_I x3), some (am_I x4), some (am_I x5)] [am_I s0] M (am_Z w) = if s0 = (-1002 : Int32) then am_cb (call 123 [am_P (3, 0, 0), am_I (nI 0), am_I (-1 : Int32)] M (am_Z w)) fun v M' X' => am_rn call 154 421 [some (am_P (3, 0, 0)), some (.inl (.long x1)), none, some (am_I x3), some (am_I x4), some (am_I x5)] (v.toList ++ []) M' X' else am_rn call 154 798 [some (am_P (3, 0, 0)), some (.inl (.long x1)), none, some (am_I x3), some (am_I x4), some (am_I x5)] [] M (am_Z w) := by
  refine Eq.trans (rl_sipush (c := -1002) (k := (-1002 : Int32)) (by decide +kernel) (by decide)) ?_
  refine Eq.trans (rl_icne (o := 386) 798 (by decide +kernel) (by decide)) ?_
  refine am_ite (fun h_1 => ?_) (fun h_1 => ?_)
  · skip
    refine Eq.trans (rl_aloadn (j := 0) (by decide +kernel) rfl) ?_
    refine Eq.trans (rl_iconst (c := 0) (k := (nI 0)) (by decide +kernel) (by decide)) ?_
    refine Eq.trans (rl_iconst (c := -1) (k := (-1 : Int32)) (by decide +kernel) (by decide)) ?_
    refine Eq.trans (rl_invS (ix := 192) (n := 3) (k := 1) 123 [am_P (3, 0, 0), am_I (nI 0), am_I (-1 : Int32)] [] (by decide +kernel) (by decide +kernel) (by decide) (by decide +kernel) ⟨rfl, rfl⟩ rfl rfl) ?_
    rfl
  · skip
    rfl
theorem b154_421 {x1 : Int64} {x3 x4 x5 s0 : Int32} {M : am_M} {w : am_W4}  : am_rn call 154 421 [some (am_P (3, 0, 0)), some (.inl (.long x1)), none, some (am_I x3), some (am_I x4), some (am_I x5)] [am_I s0] M (am_Z w) = if s0 = (-1002 : Int32) then am_cb (call 124 [am_P (3, 0, 0), am_I (x3 - (nI 1)), am_I (nI 9)] M (am_Z w)) fun v M' X' => am_rn call 154 436 [some (am_P (3, 0, 0)), some (.inl (.long x1)), none, some (am_I x3), some (am_I x4), some (am_I x5)] (v.toList ++ []) M' X' else am_rn call 154 798 [some (am_P (3, 0, 0)), some (.inl (.long x1)), none, some (am_I x3), some (am_I x4), some (am_I x5)] [] M (am_Z w) := by
  refine Eq.trans (rl_sipush (c := -1002) (k := (-1002 : Int32)) (by decide +kernel) (by decide)) ?_
  refine Eq.trans (rl_icne (o := 374) 798 (by decide +kernel) (by decide)) ?_
  refine am_ite (fun h_1 => ?_) (fun h_1 => ?_)
  · skip
    refine Eq.trans (rl_aloadn (j := 0) (by decide +kernel) rfl) ?_
    refine Eq.trans (rl_iloadn (j := 3) (by decide +kernel) rfl) ?_
    refine Eq.trans (rl_iconst (c := 1) (k := (nI 1)) (by decide +kernel) (by decide)) ?_
    refine Eq.trans (rl_isub (by decide +kernel)) ?_
    refine Eq.trans (rl_bipush (c := 9) (k := (nI 9)) (by decide +kernel) (by decide)) ?_
    refine Eq.trans (rl_invS (ix := 201) (n := 3) (k := 1) 124 [am_P (3, 0, 0), am_I (x3 - (nI 1)), am_I (nI 9)] [] (by decide +kernel) (by decide +kernel) (by decide) (by decide +kernel) ⟨rfl, rfl⟩ rfl rfl) ?_
    rfl
  · skip
    rfl
theorem b154_436 {x1 : Int64} {x3 x4 x5 s0 : Int32} {M : am_M} {w : am_W4}  : am_rn call 154 436 [some (am_P (3, 0, 0)), some (.inl (.long x1)), none, some (am_I x3), some (am_I x4), some (am_I x5)] [am_I s0] M (am_Z w) = if s0 = (-1001 : Int32) then am_cb (call 124 [am_P (3, 0, 0), am_I (nI 0), am_I (nI 2)] M (am_Z w)) fun v M' X' => am_rn call 154 448 [some (am_P (3, 0, 0)), some (.inl (.long x1)), none, some (am_I x3), some (am_I x4), some (am_I x5)] (v.toList ++ []) M' X' else am_rn call 154 798 [some (am_P (3, 0, 0)), some (.inl (.long x1)), none, some (am_I x3), some (am_I x4), some (am_I x5)] [] M (am_Z w) := by
  refine Eq.trans (rl_sipush (c := -1001) (k := (-1001 : Int32)) (by decide +kernel) (by decide)) ?_
  refine Eq.trans (rl_icne (o := 359) 798 (by decide +kernel) (by decide)) ?_
  refine am_ite (fun h_1 => ?_) (fun h_1 => ?_)
  · skip
    refine Eq.trans (rl_aloadn (j := 0) (by decide +kernel) rfl) ?_
    refine Eq.trans (rl_iconst (c := 0) (k := (nI 0)) (by decide +kernel) (by decide)) ?_
    refine Eq.trans (rl_iconst (c := 2) (k := (nI 2)) (by decide +kernel) (by decide)) ?_
    refine Eq.trans (rl_invS (ix := 201) (n := 3) (k := 1) 124 [am_P (3, 0, 0), am_I (nI 0), am_I (nI 2)] [] (by decide +kernel) (by decide +kernel) (by decide) (by decide +kernel) ⟨rfl, rfl⟩ rfl rfl) ?_
    rfl
  · skip
    rfl
theorem b154_448 {x1 : Int64} {x3 x4 x5 s0 : Int32} {M : am_M} {w : am_W4}  : am_rn call 154 448 [some (am_P (3, 0, 0)), some (.inl (.long x1)), none, some (am_I x3), some (am_I x4), some (am_I x5)] [am_I s0] M (am_Z w) = if s0 = (-1002 : Int32) then am_cb (call 125 [am_P (3, 0, 0), am_I (nI 9)] M (am_Z w)) fun v M' X' => am_rn call 154 460 [some (am_P (3, 0, 0)), some (.inl (.long x1)), none, some (am_I x3), some (am_I x4), some (am_I x5)] (v.toList ++ []) M' X' else am_rn call 154 798 [some (am_P (3, 0, 0)), some (.inl (.long x1)), none, some (am_I x3), some (am_I x4), some (am_I x5)] [] M (am_Z w) := by
  refine Eq.trans (rl_sipush (c := -1002) (k := (-1002 : Int32)) (by decide +kernel) (by decide)) ?_
  refine Eq.trans (rl_icne (o := 347) 798 (by decide +kernel) (by decide)) ?_
  refine am_ite (fun h_1 => ?_) (fun h_1 => ?_)
  · skip
    refine Eq.trans (rl_aloadn (j := 0) (by decide +kernel) rfl) ?_
    refine Eq.trans (rl_bipush (c := 9) (k := (nI 9)) (by decide +kernel) (by decide)) ?_
    refine Eq.trans (rl_invS (ix := 205) (n := 2) (k := 1) 125 [am_P (3, 0, 0), am_I (nI 9)] [] (by decide +kernel) (by decide +kernel) (by decide) (by decide +kernel) ⟨rfl, rfl⟩ rfl rfl) ?_
    rfl
  · skip
    rfl
theorem b154_460 {x1 : Int64} {x3 x4 x5 s0 : Int32} {M : am_M} {w : am_W4}  : am_rn call 154 460 [some (am_P (3, 0, 0)), some (.inl (.long x1)), none, some (am_I x3), some (am_I x4), some (am_I x5)] [am_I s0] M (am_Z w) = if s0 = (-1001 : Int32) then am_cb (call 125 [am_P (3, 0, 0), am_I (nI 0)] M (am_Z w)) fun v M' X' => am_rn call 154 471 [some (am_P (3, 0, 0)), some (.inl (.long x1)), none, some (am_I x3), some (am_I x4), some (am_I x5)] (v.toList ++ []) M' X' else am_rn call 154 798 [some (am_P (3, 0, 0)), some (.inl (.long x1)), none, some (am_I x3), some (am_I x4), some (am_I x5)] [] M (am_Z w) := by
  refine Eq.trans (rl_sipush (c := -1001) (k := (-1001 : Int32)) (by decide +kernel) (by decide)) ?_
  refine Eq.trans (rl_icne (o := 335) 798 (by decide +kernel) (by decide)) ?_
  refine am_ite (fun h_1 => ?_) (fun h_1 => ?_)
  · skip
    refine Eq.trans (rl_aloadn (j := 0) (by decide +kernel) rfl) ?_
    refine Eq.trans (rl_iconst (c := 0) (k := (nI 0)) (by decide +kernel) (by decide)) ?_
    refine Eq.trans (rl_invS (ix := 205) (n := 2) (k := 1) 125 [am_P (3, 0, 0), am_I (nI 0)] [] (by decide +kernel) (by decide +kernel) (by decide) (by decide +kernel) ⟨rfl, rfl⟩ rfl rfl) ?_
    rfl
  · skip
    rfl
theorem b154_471 {x1 : Int64} {x3 x4 x5 s0 : Int32} {M : am_M} {w : am_W4}  : am_rn call 154 471 [some (am_P (3, 0, 0)), some (.inl (.long x1)), none, some (am_I x3), some (am_I x4), some (am_I x5)] [am_I s0] M (am_Z w) = if s0 = (-1001 : Int32) then am_cb (call 126 [am_P (3, 0, 0), am_I x4, am_I (nI 9)] M (am_Z w)) fun v M' X' => am_rn call 154 485 [some (am_P (3, 0, 0)), some (.inl (.long x1)), none, some (am_I x3), some (am_I x4), some (am_I x5)] (v.toList ++ []) M' X' else am_rn call 154 798 [some (am_P (3, 0, 0)), some (.inl (.long x1)), none, some (am_I x3), some (am_I x4), some (am_I x5)] [] M (am_Z w) := by
  refine Eq.trans (rl_sipush (c := -1001) (k := (-1001 : Int32)) (by decide +kernel) (by decide)) ?_
  refine Eq.trans (rl_icne (o := 324) 798 (by decide +kernel) (by decide)) ?_
  refine am_ite (fun h_1 => ?_) (fun h_1 => ?_)
  · skip
    refine Eq.trans (rl_aloadn (j := 0) (by decide +kernel) rfl) ?_
    refine Eq.trans (rl_iload (j := 4) (by decide +kernel) rfl) ?_
    refine Eq.trans (rl_bipush (c := 9) (k := (nI 9)) (by decide +kernel) (by decide)) ?_
    refine Eq.trans (rl_invS (ix := 207) (n := 3) (k := 1) 126 [am_P (3, 0, 0), am_I x4, am_I (nI 9)] [] (by decide +kernel) (by decide +kernel) (by decide) (by decide +kernel) ⟨rfl, rfl⟩ rfl rfl) ?_
    rfl
  · skip
    rfl
theorem b154_485 {x1 : Int64} {x3 x4 x5 s0 : Int32} {M : am_M} {w : am_W4}  : am_rn call 154 485 [some (am_P (3, 0, 0)), some (.inl (.long x1)), none, some (am_I x3), some (am_I x4), some (am_I x5)] [am_I s0] M (am_Z w) = if s0 = (-1001 : Int32) then am_cb (call 126 [am_P (3, 0, 0), am_I (nI 0), am_I (nI 9)] M (am_Z w)) fun v M' X' => am_rn call 154 498 [some (am_P (3, 0, 0)), some (.inl (.long x1)), none, some (am_I x3), some (am_I x4), some (am_I x5)] (v.toList ++ []) M' X' else am_rn call 154 798 [some (am_P (3, 0, 0)), some (.inl (.long x1)), none, some (am_I x3), some (am_I x4), some (am_I x5)] [] M (am_Z w) := by
  refine Eq.trans (rl_sipush (c := -1001) (k := (-1001 : Int32)) (by decide +kernel) (by decide)) ?_
  refine Eq.trans (rl_icne (o := 310) 798 (by decide +kernel) (by decide)) ?_
  refine am_ite (fun h_1 => ?_) (fun h_1 => ?_)
  · skip
    refine Eq.trans (rl_aloadn (j := 0) (by decide +kernel) rfl) ?_
    refine Eq.trans (rl_iconst (c := 0) (k := (nI 0)) (by decide +kernel) (by decide)) ?_
    refine Eq.trans (rl_bipush (c := 9) (k := (nI 9)) (by decide +kernel) (by decide)) ?_
    refine Eq.trans (rl_invS (ix := 207) (n := 3) (k := 1) 126 [am_P (3, 0, 0), am_I (nI 0), am_I (nI 9)] [] (by decide +kernel) (by decide +kernel) (by decide) (by decide +kernel) ⟨rfl, rfl⟩ rfl rfl) ?_
    rfl
  · skip
    rfl
theorem b154_498 {x1 : Int64} {x3 x4 x5 s0 : Int32} {M : am_M} {w : am_W4}  : am_rn call 154 498 [some (am_P (3, 0, 0)), some (.inl (.long x1)), none, some (am_I x3), some (am_I x4), some (am_I x5)] [am_I s0] M (am_Z w) = if s0 = (-1002 : Int32) then am_cb (call 126 [am_P (3, 0, 0), am_I (nI 0), am_I (-1 : Int32)] M (am_Z w)) fun v M' X' => am_rn call 154 510 [some (am_P (3, 0, 0)), some (.inl (.long x1)), none, some (am_I x3), some (am_I x4), some (am_I x5)] (v.toList ++ []) M' X' else am_rn call 154 798 [some (am_P (3, 0, 0)), some (.inl (.long x1)), none, some (am_I x3), some (am_I x4), some (am_I x5)] [] M (am_Z w) := by
  refine Eq.trans (rl_sipush (c := -1002) (k := (-1002 : Int32)) (by decide +kernel) (by decide)) ?_
  refine Eq.trans (rl_icne (o := 297) 798 (by decide +kernel) (by decide)) ?_
  refine am_ite (fun h_1 => ?_) (fun h_1 => ?_)
  · skip
    refine Eq.trans (rl_aloadn (j := 0) (by decide +kernel) rfl) ?_
    refine Eq.trans (rl_iconst (c := 0) (k := (nI 0)) (by decide +kernel) (by decide)) ?_
    refine Eq.trans (rl_iconst (c := -1) (k := (-1 : Int32)) (by decide +kernel) (by decide)) ?_
    refine Eq.trans (rl_invS (ix := 207) (n := 3) (k := 1) 126 [am_P (3, 0, 0), am_I (nI 0), am_I (-1 : Int32)] [] (by decide +kernel) (by decide +kernel) (by decide) (by decide +kernel) ⟨rfl, rfl⟩ rfl rfl) ?_
    rfl
  · skip
    rfl
theorem b154_510 {x1 : Int64} {x3 x4 x5 s0 : Int32} {M : am_M} {w : am_W4}  : am_rn call 154 510 [some (am_P (3, 0, 0)), some (.inl (.long x1)), none, some (am_I x3), some (am_I x4), some (am_I x5)] [am_I s0] M (am_Z w) = if s0 = (-1002 : Int32) then am_cb (call 127 [am_P (3, 0, 0), am_I x4, am_I (nI 0)] M (am_Z w)) fun v M' X' => am_rn call 154 523 [some (am_P (3, 0, 0)), some (.inl (.long x1)), none, some (am_I x3), some (am_I x4), some (am_I x5)] (v.toList ++ []) M' X' else am_rn call 154 798 [some (am_P (3, 0, 0)), some (.inl (.long x1)), none, some (am_I x3), some (am_I x4), some (am_I x5)] [] M (am_Z w) := by
  refine Eq.trans (rl_sipush (c := -1002) (k := (-1002 : Int32)) (by decide +kernel) (by decide)) ?_
  refine Eq.trans (rl_icne (o := 285) 798 (by decide +kernel) (by decide)) ?_
  refine am_ite (fun h_1 => ?_) (fun h_1 => ?_)
  · skip
    refine Eq.trans (rl_aloadn (j := 0) (by decide +kernel) rfl) ?_
    refine Eq.trans (rl_iload (j := 4) (by decide +kernel) rfl) ?_
    refine Eq.trans (rl_iconst (c := 0) (k := (nI 0)) (by decide +kernel) (by decide)) ?_
    refine Eq.trans (rl_invS (ix := 209) (n := 3) (k := 1) 127 [am_P (3, 0, 0), am_I x4, am_I (nI 0)] [] (by decide +kernel) (by decide +kernel) (by decide) (by decide +kernel) ⟨rfl, rfl⟩ rfl rfl) ?_
    rfl
  · skip
    rfl
theorem b154_523 {x1 : Int64} {x3 x4 x5 s0 : Int32} {M : am_M} {w : am_W4}  : am_rn call 154 523 [some (am_P (3, 0, 0)), some (.inl (.long x1)), none, some (am_I x3), some (am_I x4), some (am_I x5)] [am_I s0] M (am_Z w) = if s0 = (-1001 : Int32) then am_cb (call 127 [am_P (3, 0, 0), am_I (nI 0), am_I (nI 8)] M (am_Z w)) fun v M' X' => am_rn call 154 536 [some (am_P (3, 0, 0)), some (.inl (.long x1)), none, some (am_I x3), some (am_I x4), some (am_I x5)] (v.toList ++ []) M' X' else am_rn call 154 798 [some (am_P (3, 0, 0)), some (.inl (.long x1)), none, some (am_I x3), some (am_I x4), some (am_I x5)] [] M (am_Z w) := by
  refine Eq.trans (rl_sipush (c := -1001) (k := (-1001 : Int32)) (by decide +kernel) (by decide)) ?_
  refine Eq.trans (rl_icne (o := 272) 798 (by decide +kernel) (by decide)) ?_
  refine am_ite (fun h_1 => ?_) (fun h_1 => ?_)
  · skip
    refine Eq.trans (rl_aloadn (j := 0) (by decide +kernel) rfl) ?_
    refine Eq.trans (rl_iconst (c := 0) (k := (nI 0)) (by decide +kernel) (by decide)) ?_
    refine Eq.trans (rl_bipush (c := 8) (k := (nI 8)) (by decide +kernel) (by decide)) ?_
    refine Eq.trans (rl_invS (ix := 209) (n := 3) (k := 1) 127 [am_P (3, 0, 0), am_I (nI 0), am_I (nI 8)] [] (by decide +kernel) (by decide +kernel) (by decide) (by decide +kernel) ⟨rfl, rfl⟩ rfl rfl) ?_
    rfl
  · skip
    rfl
theorem b154_536 {x1 : Int64} {x3 x4 x5 s0 : Int32} {M : am_M} {w : am_W4}  : am_rn call 154 536 [some (am_P (3, 0, 0)), some (.inl (.long x1)), none, some (am_I x3), some (am_I x4), some (am_I x5)] [am_I s0] M (am_Z w) = if s0 = (-1001 : Int32) then am_cb (call 127 [am_P (3, 0, 0), am_I (nI 0), am_I (-1 : Int32)] M (am_Z w)) fun v M' X' => am_rn call 154 548 [some (am_P (3, 0, 0)), some (.inl (.long x1)), none, some (am_I x3), some (am_I x4), some (am_I x5)] (v.toList ++ []) M' X' else am_rn call 154 798 [some (am_P (3, 0, 0)), some (.inl (.long x1)), none, some (am_I x3), some (am_I x4), some (am_I x5)] [] M (am_Z w) := by
  refine Eq.trans (rl_sipush (c := -1001) (k := (-1001 : Int32)) (by decide +kernel) (by decide)) ?_
  refine Eq.trans (rl_icne (o := 259) 798 (by decide +kernel) (by decide)) ?_
  refine am_ite (fun h_1 => ?_) (fun h_1 => ?_)
  · skip
    refine Eq.trans (rl_aloadn (j := 0) (by decide +kernel) rfl) ?_
    refine Eq.trans (rl_iconst (c := 0) (k := (nI 0)) (by decide +kernel) (by decide)) ?_
    refine Eq.trans (rl_iconst (c := -1) (k := (-1 : Int32)) (by decide +kernel) (by decide)) ?_
    refine Eq.trans (rl_invS (ix := 209) (n := 3) (k := 1) 127 [am_P (3, 0, 0), am_I (nI 0), am_I (-1 : Int32)] [] (by decide +kernel) (by decide +kernel) (by decide) (by decide +kernel) ⟨rfl, rfl⟩ rfl rfl) ?_
    rfl
  · skip
    rfl
theorem b154_548 {x1 : Int64} {x3 x4 x5 s0 : Int32} {M : am_M} {w : am_W4}  : am_rn call 154 548 [some (am_P (3, 0, 0)), some (.inl (.long x1)), none, some (am_I x3), some (am_I x4), some (am_I x5)] [am_I s0] M (am_Z w) = if s0 = (-1001 : Int32) then am_cb (call 128 [am_P (3, 0, 0), am_I x4] M (am_Z w)) fun v M' X' => am_rn call 154 560 [some (am_P (3, 0, 0)), some (.inl (.long x1)), none, some (am_I x3), some (am_I x4), some (am_I x5)] (v.toList ++ []) M' X' else am_rn call 154 798 [some (am_P (3, 0, 0)), some (.inl (.long x1)), none, some (am_I x3), some (am_I x4), some (am_I x5)] [] M (am_Z w) := by
  refine Eq.trans (rl_sipush (c := -1001) (k := (-1001 : Int32)) (by decide +kernel) (by decide)) ?_
  refine Eq.trans (rl_icne (o := 247) 798 (by decide +kernel) (by decide)) ?_
  refine am_ite (fun h_1 => ?_) (fun h_1 => ?_)
  · skip
    refine Eq.trans (rl_aloadn (j := 0) (by decide +kernel) rfl) ?_
    refine Eq.trans (rl_iload (j := 4) (by decide +kernel) rfl) ?_
    refine Eq.trans (rl_invS (ix := 211) (n := 2) (k := 1) 128 [am_P (3, 0, 0), am_I x4] [] (by decide +kernel) (by decide +kernel) (by decide) (by decide +kernel) ⟨rfl, rfl⟩ rfl rfl) ?_
    rfl
  · skip
    rfl
theorem b154_560 {x1 : Int64} {x3 x4 x5 s0 : Int32} {M : am_M} {w : am_W4}  : am_rn call 154 560 [some (am_P (3, 0, 0)), some (.inl (.long x1)), none, some (am_I x3), some (am_I x4), some (am_I x5)] [am_I s0] M (am_Z w) = if s0 = (-1001 : Int32) then am_cb (call 129 [am_P (3, 0, 0), am_I x3, am_I (nI 0)] M (am_Z w)) fun v M' X' => am_rn call 154 572 [some (am_P (3, 0, 0)), some (.inl (.long x1)), none, some (am_I x3), some (am_I x4), some (am_I x5)] (v.toList ++ []) M' X' else am_rn call 154 798 [some (am_P (3, 0, 0)), some (.inl (.long x1)), none, some (am_I x3), some (am_I x4), some (am_I x5)] [] M (am_Z w) := by
  refine Eq.trans (rl_sipush (c := -1001) (k := (-1001 : Int32)) (by decide +kernel) (by decide)) ?_
  refine Eq.trans (rl_icne (o := 235) 798 (by decide +kernel) (by decide)) ?_
  refine am_ite (fun h_1 => ?_) (fun h_1 => ?_)
  · skip
    refine Eq.trans (rl_aloadn (j := 0) (by decide +kernel) rfl) ?_
    refine Eq.trans (rl_iloadn (j := 3) (by decide +kernel) rfl) ?_
    refine Eq.trans (rl_iconst (c := 0) (k := (nI 0)) (by decide +kernel) (by decide)) ?_
    refine Eq.trans (rl_invS (ix := 194) (n := 3) (k := 1) 129 [am_P (3, 0, 0), am_I x3, am_I (nI 0)] [] (by decide +kernel) (by decide +kernel) (by decide) (by decide +kernel) ⟨rfl, rfl⟩ rfl rfl) ?_
    rfl
  · skip
    rfl
theorem b154_572 {x1 : Int64} {x3 x4 x5 s0 : Int32} {M : am_M} {w : am_W4}  : am_rn call 154 572 [some (am_P (3, 0, 0)), some (.inl (.long x1)), none, some (am_I x3), some (am_I x4), some (am_I x5)] [am_I s0] M (am_Z w) = if s0 = (-1001 : Int32) then am_cb (call 129 [am_P (3, 0, 0), am_I (nI 0), am_I (nI 16)] M (am_Z w)) fun v M' X' => am_rn call 154 585 [some (am_P (3, 0, 0)), some (.inl (.long x1)), none, some (am_I x3), some (am_I x4), some (am_I x5)] (v.toList ++ []) M' X' else am_rn call 154 798 [some (am_P (3, 0, 0)), some (.inl (.long x1)), none, some (am_I x3), some (am_I x4), some (am_I x5)] [] M (am_Z w) := by
  refine Eq.trans (rl_sipush (c := -1001) (k := (-1001 : Int32)) (by decide +kernel) (by decide)) ?_
  refine Eq.trans (rl_icne (o := 223) 798 (by decide +kernel) (by decide)) ?_
  refine am_ite (fun h_1 => ?_) (fun h_1 => ?_)
  · skip
    refine Eq.trans (rl_aloadn (j := 0) (by decide +kernel) rfl) ?_
    refine Eq.trans (rl_iconst (c := 0) (k := (nI 0)) (by decide +kernel) (by decide)) ?_
    refine Eq.trans (rl_bipush (c := 16) (k := (nI 16)) (by decide +kernel) (by decide)) ?_
    refine Eq.trans (rl_invS (ix := 194) (n := 3) (k := 1) 129 [am_P (3, 0, 0), am_I (nI 0), am_I (nI 16)] [] (by decide +kernel) (by decide +kernel) (by decide) (by decide +kernel) ⟨rfl, rfl⟩ rfl rfl) ?_
    rfl
  · skip
    rfl
theorem b154_585 {x1 : Int64} {x3 x4 x5 s0 : Int32} {M : am_M} {w : am_W4}  : am_rn call 154 585 [some (am_P (3, 0, 0)), some (.inl (.long x1)), none, some (am_I x3), some (am_I x4), some (am_I x5)] [am_I s0] M (am_Z w) = if s0 = (-1002 : Int32) then am_cb (call 129 [am_P (3, 0, 0), am_I (nI 0), am_I (-1 : Int32)] M (am_Z w)) fun v M' X' => am_rn call 154 597 [some (am_P (3, 0, 0)), some (.inl (.long x1)), none, some (am_I x3), some (am_I x4), some (am_I x5)] (v.toList ++ []) M' X' else am_rn call 154 798 [some (am_P (3, 0, 0)), some (.inl (.long x1)), none, some (am_I x3), some (am_I x4), some (am_I x5)] [] M (am_Z w) := by
  refine Eq.trans (rl_sipush (c := -1002) (k := (-1002 : Int32)) (by decide +kernel) (by decide)) ?_
  refine Eq.trans (rl_icne (o := 210) 798 (by decide +kernel) (by decide)) ?_
  refine am_ite (fun h_1 => ?_) (fun h_1 => ?_)
  · skip
    refine Eq.trans (rl_aloadn (j := 0) (by decide +kernel) rfl) ?_
    refine Eq.trans (rl_iconst (c := 0) (k := (nI 0)) (by decide +kernel) (by decide)) ?_
    refine Eq.trans (rl_iconst (c := -1) (k := (-1 : Int32)) (by decide +kernel) (by decide)) ?_
    refine Eq.trans (rl_invS (ix := 194) (n := 3) (k := 1) 129 [am_P (3, 0, 0), am_I (nI 0), am_I (-1 : Int32)] [] (by decide +kernel) (by decide +kernel) (by decide) (by decide +kernel) ⟨rfl, rfl⟩ rfl rfl) ?_
    rfl
  · skip
    rfl
theorem b154_597 {x1 : Int64} {x3 x4 x5 s0 : Int32} {M : am_M} {w : am_W4}  : am_rn call 154 597 [some (am_P (3, 0, 0)), some (.inl (.long x1)), none, some (am_I x3), some (am_I x4), some (am_I x5)] [am_I s0] M (am_Z w) = if s0 = (-1002 : Int32) then am_cb (call 130 [am_P (3, 0, 0), am_I (nI 16)] M (am_Z w)) fun v M' X' => am_rn call 154 609 [some (am_P (3, 0, 0)), some (.inl (.long x1)), none, some (am_I x3), some (am_I x4), some (am_I x5)] (v.toList ++ []) M' X' else am_rn call 154 798 [some (am_P (3, 0, 0)), some (.inl (.long x1)), none, some (am_I x3), some (am_I x4), some (am_I x5)] [] M (am_Z w) := by
  refine Eq.trans (rl_sipush (c := -1002) (k := (-1002 : Int32)) (by decide +kernel) (by decide)) ?_
  refine Eq.trans (rl_icne (o := 198) 798 (by decide +kernel) (by decide)) ?_
  refine am_ite (fun h_1 => ?_) (fun h_1 => ?_)
  · skip
    refine Eq.trans (rl_aloadn (j := 0) (by decide +kernel) rfl) ?_
    refine Eq.trans (rl_bipush (c := 16) (k := (nI 16)) (by decide +kernel) (by decide)) ?_
    refine Eq.trans (rl_invS (ix := 215) (n := 2) (k := 1) 130 [am_P (3, 0, 0), am_I (nI 16)] [] (by decide +kernel) (by decide +kernel) (by decide) (by decide +kernel) ⟨rfl, rfl⟩ rfl rfl) ?_
    rfl
  · skip
    rfl
theorem b154_609 {x1 : Int64} {x3 x4 x5 s0 : Int32} {M : am_M} {w : am_W4}  : am_rn call 154 609 [some (am_P (3, 0, 0)), some (.inl (.long x1)), none, some (am_I x3), some (am_I x4), some (am_I x5)] [am_I s0] M (am_Z w) = if s0 = (-1001 : Int32) then am_cb (call 131 [am_P (3, 0, 0), am_I x3, am_I (nI 1)] M (am_Z w)) fun v M' X' => am_rn call 154 621 [some (am_P (3, 0, 0)), some (.inl (.long x1)), none, some (am_I x3), some (am_I x4), some (am_I x5)] (v.toList ++ []) M' X' else am_rn call 154 798 [some (am_P (3, 0, 0)), some (.inl (.long x1)), none, some (am_I x3), some (am_I x4), some (am_I x5)] [] M (am_Z w) := by
  refine Eq.trans (rl_sipush (c := -1001) (k := (-1001 : Int32)) (by decide +kernel) (by decide)) ?_
  refine Eq.trans (rl_icne (o := 186) 798 (by decide +kernel) (by decide)) ?_
  refine am_ite (fun h_1 => ?_) (fun h_1 => ?_)
  · skip
    refine Eq.trans (rl_aloadn (j := 0) (by decide +kernel) rfl) ?_
    refine Eq.trans (rl_iloadn (j := 3) (by decide +kernel) rfl) ?_
    refine Eq.trans (rl_iconst (c := 1) (k := (nI 1)) (by decide +kernel) (by decide)) ?_
    refine Eq.trans (rl_invS (ix := 196) (n := 3) (k := 1) 131 [am_P (3, 0, 0), am_I x3, am_I (nI 1)] [] (by decide +kernel) (by decide +kernel) (by decide) (by decide +kernel) ⟨rfl, rfl⟩ rfl rfl) ?_
    rfl
  · skip
    rfl
theorem b154_621 {x1 : Int64} {x3 x4 x5 s0 : Int32} {M : am_M} {w : am_W4}  : am_rn call 154 621 [some (am_P (3, 0, 0)), some (.inl (.long x1)), none, some (am_I x3), some (am_I x4), some (am_I x5)] [am_I s0] M (am_Z w) = if s0 = (-1001 : Int32) then am_cb (call 146 [am_P (3, 0, 0), am_I (-1 : Int32), am_I (nI 1)] M (am_Z w)) fun v M' X' => am_rn call 154 633 [some (am_P (3, 0, 0)), some (.inl (.long x1)), none, some (am_I x3), some (am_I x4), some (am_I x5)] (v.toList ++ []) M' X' else am_rn call 154 798 [some (am_P (3, 0, 0)), some (.inl (.long x1)), none, some (am_I x3), some (am_I x4), some (am_I x5)] [] M (am_Z w) := by
  refine Eq.trans (rl_sipush (c := -1001) (k := (-1001 : Int32)) (by decide +kernel) (by decide)) ?_
  refine Eq.trans (rl_icne (o := 174) 798 (by decide +kernel) (by decide)) ?_
  refine am_ite (fun h_1 => ?_) (fun h_1 => ?_)
  · skip
    refine Eq.trans (rl_aloadn (j := 0) (by decide +kernel) rfl) ?_
    refine Eq.trans (rl_iconst (c := -1) (k := (-1 : Int32)) (by decide +kernel) (by decide)) ?_
    refine Eq.trans (rl_iconst (c := 1) (k := (nI 1)) (by decide +kernel) (by decide)) ?_
    refine Eq.trans (rl_invS (ix := 199) (n := 3) (k := 1) 146 [am_P (3, 0, 0), am_I (-1 : Int32), am_I (nI 1)] [] (by decide +kernel) (by decide +kernel) (by decide) (by decide +kernel) ⟨rfl, rfl⟩ rfl rfl) ?_
    rfl
  · skip
    rfl
theorem b154_633 {x1 : Int64} {x3 x4 x5 s0 : Int32} {M : am_M} {w : am_W4}  : am_rn call 154 633 [some (am_P (3, 0, 0)), some (.inl (.long x1)), none, some (am_I x3), some (am_I x4), some (am_I x5)] [am_I s0] M (am_Z w) = if s0 = (-1001 : Int32) then am_cb (call 132 [am_P (3, 0, 0), am_I (x3 - (nI 1)), am_I (nI 0)] M (am_Z w)) fun v M' X' => am_rn call 154 647 [some (am_P (3, 0, 0)), some (.inl (.long x1)), none, some (am_I x3), some (am_I x4), some (am_I x5)] (v.toList ++ []) M' X' else am_rn call 154 798 [some (am_P (3, 0, 0)), some (.inl (.long x1)), none, some (am_I x3), some (am_I x4), some (am_I x5)] [] M (am_Z w) := by
  refine Eq.trans (rl_sipush (c := -1001) (k := (-1001 : Int32)) (by decide +kernel) (by decide)) ?_
  refine Eq.trans (rl_icne (o := 162) 798 (by decide +kernel) (by decide)) ?_
  refine am_ite (fun h_1 => ?_) (fun h_1 => ?_)
  · skip
    refine Eq.trans (rl_aloadn (j := 0) (by decide +kernel) rfl) ?_
    refine Eq.trans (rl_iloadn (j := 3) (by decide +kernel) rfl) ?_
    refine Eq.trans (rl_iconst (c := 1) (k := (nI 1)) (by decide +kernel) (by decide)) ?_
    refine Eq.trans (rl_isub (by decide +kernel)) ?_
    refine Eq.trans (rl_iconst (c := 0) (k := (nI 0)) (by decide +kernel) (by decide)) ?_
    refine Eq.trans (rl_invS (ix := 203) (n := 3) (k := 1) 132 [am_P (3, 0, 0), am_I (x3 - (nI 1)), am_I (nI 0)] [] (by decide +kernel) (by decide +kernel) (by decide) (by decide +kernel) ⟨rfl, rfl⟩ rfl rfl) ?_
    rfl
  · skip
    rfl
theorem b154_647 {x1 : Int64} {x3 x4 x5 s0 : Int32} {M : am_M} {w : am_W4}  : am_rn call 154 647 [some (am_P (3, 0, 0)), some (.inl (.long x1)), none, some (am_I x3), some (am_I x4), some (am_I x5)] [am_I s0] M (am_Z w) = if s0 = (-1001 : Int32) then am_cb (call 132 [am_P (3, 0, 0), am_I (nI 0), am_I (nI 201)] M (am_Z w)) fun v M' X' => am_rn call 154 661 [some (am_P (3, 0, 0)), some (.inl (.long x1)), none, some (am_I x3), some (am_I x4), some (am_I x5)] (v.toList ++ []) M' X' else am_rn call 154 798 [some (am_P (3, 0, 0)), some (.inl (.long x1)), none, some (am_I x3), some (am_I x4), some (am_I x5)] [] M (am_Z w) := by
  refine Eq.trans (rl_sipush (c := -1001) (k := (-1001 : Int32)) (by decide +kernel) (by decide)) ?_
  refine Eq.trans (rl_icne (o := 148) 798 (by decide +kernel) (by decide)) ?_
  refine am_ite (fun h_1 => ?_) (fun h_1 => ?_)
  · skip
    refine Eq.trans (rl_aloadn (j := 0) (by decide +kernel) rfl) ?_
    refine Eq.trans (rl_iconst (c := 0) (k := (nI 0)) (by decide +kernel) (by decide)) ?_
    refine Eq.trans (rl_sipush (c := 201) (k := (nI 201)) (by decide +kernel) (by decide)) ?_
    refine Eq.trans (rl_invS (ix := 203) (n := 3) (k := 1) 132 [am_P (3, 0, 0), am_I (nI 0), am_I (nI 201)] [] (by decide +kernel) (by decide +kernel) (by decide) (by decide +kernel) ⟨rfl, rfl⟩ rfl rfl) ?_
    rfl
  · skip
    rfl
theorem b154_661 {x1 : Int64} {x3 x4 x5 s0 : Int32} {M : am_M} {w : am_W4}  : am_rn call 154 661 [some (am_P (3, 0, 0)), some (.inl (.long x1)), none, some (am_I x3), some (am_I x4), some (am_I x5)] [am_I s0] M (am_Z w) = if s0 = (-1002 : Int32) then am_cb (call 132 [am_P (3, 0, 0), am_I (nI 0), am_I (-1 : Int32)] M (am_Z w)) fun v M' X' => am_rn call 154 673 [some (am_P (3, 0, 0)), some (.inl (.long x1)), none, some (am_I x3), some (am_I x4), some (am_I x5)] (v.toList ++ []) M' X' else am_rn call 154 798 [some (am_P (3, 0, 0)), some (.inl (.long x1)), none, some (am_I x3), some (am_I x4), some (am_I x5)] [] M (am_Z w) := by
  refine Eq.trans (rl_sipush (c := -1002) (k := (-1002 : Int32)) (by decide +kernel) (by decide)) ?_
  refine Eq.trans (rl_icne (o := 134) 798 (by decide +kernel) (by decide)) ?_
  refine am_ite (fun h_1 => ?_) (fun h_1 => ?_)
  · skip
    refine Eq.trans (rl_aloadn (j := 0) (by decide +kernel) rfl) ?_
    refine Eq.trans (rl_iconst (c := 0) (k := (nI 0)) (by decide +kernel) (by decide)) ?_
    refine Eq.trans (rl_iconst (c := -1) (k := (-1 : Int32)) (by decide +kernel) (by decide)) ?_
    refine Eq.trans (rl_invS (ix := 203) (n := 3) (k := 1) 132 [am_P (3, 0, 0), am_I (nI 0), am_I (-1 : Int32)] [] (by decide +kernel) (by decide +kernel) (by decide) (by decide +kernel) ⟨rfl, rfl⟩ rfl rfl) ?_
    rfl
  · skip
    rfl
theorem b154_673 {x1 : Int64} {x3 x4 x5 s0 : Int32} {M : am_M} {w : am_W4}  : am_rn call 154 673 [some (am_P (3, 0, 0)), some (.inl (.long x1)), none, some (am_I x3), some (am_I x4), some (am_I x5)] [am_I s0] M (am_Z w) = if s0 = (-1002 : Int32) then am_cb (call 133 [am_P (3, 0, 0), am_I x4] M (am_Z w)) fun v M' X' => am_rn call 154 685 [some (am_P (3, 0, 0)), some (.inl (.long x1)), none, some (am_I x3), some (am_I x4), some (am_I x5)] (v.toList ++ []) M' X' else am_rn call 154 798 [some (am_P (3, 0, 0)), some (.inl (.long x1)), none, some (am_I x3), some (am_I x4), some (am_I x5)] [] M (am_Z w) := by
  refine Eq.trans (rl_sipush (c := -1002) (k := (-1002 : Int32)) (by decide +kernel) (by decide)) ?_
  refine Eq.trans (rl_icne (o := 122) 798 (by decide +kernel) (by decide)) ?_
  refine am_ite (fun h_1 => ?_) (fun h_1 => ?_)
  · skip
    refine Eq.trans (rl_aloadn (j := 0) (by decide +kernel) rfl) ?_
    refine Eq.trans (rl_iload (j := 4) (by decide +kernel) rfl) ?_
    refine Eq.trans (rl_invS (ix := 217) (n := 2) (k := 1) 133 [am_P (3, 0, 0), am_I x4] [] (by decide +kernel) (by decide +kernel) (by decide) (by decide +kernel) ⟨rfl, rfl⟩ rfl rfl) ?_
    rfl
  · skip
    rfl
theorem b154_685 {x1 : Int64} {x3 x4 x5 s0 : Int32} {M : am_M} {w : am_W4}  : am_rn call 154 685 [some (am_P (3, 0, 0)), some (.inl (.long x1)), none, some (am_I x3), some (am_I x4), some (am_I x5)] [am_I s0] M (am_Z w) = if s0 = (-1001 : Int32) then am_cb (call 134 [am_P (3, 0, 0), am_I (-1 : Int32)] M (am_Z w)) fun v M' X' => am_rn call 154 696 [some (am_P (3, 0, 0)), some (.inl (.long x1)), none, some (am_I x3), some (am_I x4), some (am_I x5)] (v.toList ++ []) M' X' else am_rn call 154 798 [some (am_P (3, 0, 0)), some (.inl (.long x1)), none, some (am_I x3), some (am_I x4), some (am_I x5)] [] M (am_Z w) := by
  refine Eq.trans (rl_sipush (c := -1001) (k := (-1001 : Int32)) (by decide +kernel) (by decide)) ?_
  refine Eq.trans (rl_icne (o := 110) 798 (by decide +kernel) (by decide)) ?_
  refine am_ite (fun h_1 => ?_) (fun h_1 => ?_)
  · skip
    refine Eq.trans (rl_aloadn (j := 0) (by decide +kernel) rfl) ?_
    refine Eq.trans (rl_iconst (c := -1) (k := (-1 : Int32)) (by decide +kernel) (by decide)) ?_
    refine Eq.trans (rl_invS (ix := 219) (n := 2) (k := 1) 134 [am_P (3, 0, 0), am_I (-1 : Int32)] [] (by decide +kernel) (by decide +kernel) (by decide) (by decide +kernel) ⟨rfl, rfl⟩ rfl rfl) ?_
    rfl
  · skip
    rfl
theorem b154_696 {x1 : Int64} {x3 x4 x5 s0 : Int32} {M : am_M} {w : am_W4}  : am_rn call 154 696 [some (am_P (3, 0, 0)), some (.inl (.long x1)), none, some (am_I x3), some (am_I x4), some (am_I x5)] [am_I s0] M (am_Z w) = if s0 = (-1001 : Int32) then am_cb (call 135 [am_P (3, 0, 0), am_I (nI 16)] M (am_Z w)) fun v M' X' => am_rn call 154 708 [some (am_P (3, 0, 0)), some (.inl (.long x1)), none, some (am_I x3), some (am_I x4), some (am_I x5)] (v.toList ++ []) M' X' else am_rn call 154 798 [some (am_P (3, 0, 0)), some (.inl (.long x1)), none, some (am_I x3), some (am_I x4), some (am_I x5)] [] M (am_Z w) := by
  refine Eq.trans (rl_sipush (c := -1001) (k := (-1001 : Int32)) (by decide +kernel) (by decide)) ?_
  refine Eq.trans (rl_icne (o := 99) 798 (by decide +kernel) (by decide)) ?_
  refine am_ite (fun h_1 => ?_) (fun h_1 => ?_)
  · skip
    refine Eq.trans (rl_aloadn (j := 0) (by decide +kernel) rfl) ?_
    refine Eq.trans (rl_bipush (c := 16) (k := (nI 16)) (by decide +kernel) (by decide)) ?_
    refine Eq.trans (rl_invS (ix := 213) (n := 2) (k := 1) 135 [am_P (3, 0, 0), am_I (nI 16)] [] (by decide +kernel) (by decide +kernel) (by decide) (by decide +kernel) ⟨rfl, rfl⟩ rfl rfl) ?_
    rfl
  · skip
    rfl
theorem b154_708 {x1 : Int64} {x3 x4 x5 s0 : Int32} {M : am_M} {w : am_W4}  : am_rn call 154 708 [some (am_P (3, 0, 0)), some (.inl (.long x1)), none, some (am_I x3), some (am_I x4), some (am_I x5)] [am_I s0] M (am_Z w) = if s0 = (-1001 : Int32) then am_cb (call 138 [am_P (3, 0, 0), am_I (-1 : Int32)] M (am_Z w)) fun v M' X' => am_rn call 154 719 [some (am_P (3, 0, 0)), some (.inl (.long x1)), none, some (am_I x3), some (am_I x4), some (am_I x5)] (v.toList ++ []) M' X' else am_rn call 154 798 [some (am_P (3, 0, 0)), some (.inl (.long x1)), none, some (am_I x3), some (am_I x4), some (am_I x5)] [] M (am_Z w) := by
  refine Eq.trans (rl_sipush (c := -1001) (k := (-1001 : Int32)) (by decide +kernel) (by decide)) ?_
  refine Eq.trans (rl_icne (o := 87) 798 (by decide +kernel) (by decide)) ?_
  refine am_ite (fun h_1 => ?_) (fun h_1 => ?_)
  · skip
    refine Eq.trans (rl_aloadn (j := 0) (by decide +kernel) rfl) ?_
    refine Eq.trans (rl_iconst (c := -1) (k := (-1 : Int32)) (by decide +kernel) (by decide)) ?_
    refine Eq.trans (rl_invS (ix := 146) (n := 2) (k := 1) 138 [am_P (3, 0, 0), am_I (-1 : Int32)] [] (by decide +kernel) (by decide +kernel) (by decide) (by decide +kernel) ⟨rfl, rfl⟩ rfl rfl) ?_
    rfl
  · skip
    rfl
theorem b154_719 {x1 : Int64} {x3 x4 x5 s0 : Int32} {M : am_M} {w : am_W4}  : am_rn call 154 719 [some (am_P (3, 0, 0)), some (.inl (.long x1)), none, some (am_I x3), some (am_I x4), some (am_I x5)] [am_I s0] M (am_Z w) = if s0 = (-1001 : Int32) then am_cb (call 138 [am_P (3, 0, 0), am_I (nI 3)] M (am_Z w)) fun v M' X' => am_rn call 154 730 [some (am_P (3, 0, 0)), some (.inl (.long x1)), none, some (am_I x3), some (am_I x4), some (am_I x5)] (v.toList ++ []) M' X' else am_rn call 154 798 [some (am_P (3, 0, 0)), some (.inl (.long x1)), none, some (am_I x3), some (am_I x4), some (am_I x5)] [] M (am_Z w) := by
  refine Eq.trans (rl_sipush (c := -1001) (k := (-1001 : Int32)) (by decide +kernel) (by decide)) ?_
  refine Eq.trans (rl_icne (o := 76) 798 (by decide +kernel) (by decide)) ?_
  refine am_ite (fun h_1 => ?_) (fun h_1 => ?_)
  · skip
    refine Eq.trans (rl_aloadn (j := 0) (by decide +kernel) rfl) ?_
    refine Eq.trans (rl_iconst (c := 3) (k := (nI 3)) (by decide +kernel) (by decide)) ?_
    refine Eq.trans (rl_invS (ix := 146) (n := 2) (k := 1) 138 [am_P (3, 0, 0), am_I (nI 3)] [] (by decide +kernel) (by decide +kernel) (by decide) (by decide +kernel) ⟨rfl, rfl⟩ rfl rfl) ?_
    rfl
  · skip
    rfl
theorem b154_730 {x1 : Int64} {x3 x4 x5 s0 : Int32} {M : am_M} {w : am_W4}  : am_rn call 154 730 [some (am_P (3, 0, 0)), some (.inl (.long x1)), none, some (am_I x3), some (am_I x4), some (am_I x5)] [am_I s0] M (am_Z w) = if s0 = (-1001 : Int32) then am_cb (call 139 [am_P (3, 0, 0), am_I x4] M (am_Z w)) fun v M' X' => am_rn call 154 742 [some (am_P (3, 0, 0)), some (.inl (.long x1)), none, some (am_I x3), some (am_I x4), some (am_I x5)] (v.toList ++ []) M' X' else am_rn call 154 798 [some (am_P (3, 0, 0)), some (.inl (.long x1)), none, some (am_I x3), some (am_I x4), some (am_I x5)] [] M (am_Z w) := by
  refine Eq.trans (rl_sipush (c := -1001) (k := (-1001 : Int32)) (by decide +kernel) (by decide)) ?_
  refine Eq.trans (rl_icne (o := 65) 798 (by decide +kernel) (by decide)) ?_
  refine am_ite (fun h_1 => ?_) (fun h_1 => ?_)
  · skip
    refine Eq.trans (rl_aloadn (j := 0) (by decide +kernel) rfl) ?_
    refine Eq.trans (rl_iload (j := 4) (by decide +kernel) rfl) ?_
    refine Eq.trans (rl_invS (ix := 149) (n := 2) (k := 1) 139 [am_P (3, 0, 0), am_I x4] [] (by decide +kernel) (by decide +kernel) (by decide) (by decide +kernel) ⟨rfl, rfl⟩ rfl rfl) ?_
    rfl
  · skip
    rfl
theorem b154_742 {x1 : Int64} {x3 x4 x5 s0 : Int32} {M : am_M} {w : am_W4}  : am_rn call 154 742 [some (am_P (3, 0, 0)), some (.inl (.long x1)), none, some (am_I x3), some (am_I x4), some (am_I x5)] [am_I s0] M (am_Z w) = if s0 = (-1001 : Int32) then am_cb (call 140 [am_P (3, 0, 0), am_I (-1 : Int32)] M (am_Z w)) fun v M' X' => am_rn call 154 753 [some (am_P (3, 0, 0)), some (.inl (.long x1)), none, some (am_I x3), some (am_I x4), some (am_I x5)] (v.toList ++ []) M' X' else am_rn call 154 798 [some (am_P (3, 0, 0)), some (.inl (.long x1)), none, some (am_I x3), some (am_I x4), some (am_I x5)] [] M (am_Z w) := by
  refine Eq.trans (rl_sipush (c := -1001) (k := (-1001 : Int32)) (by decide +kernel) (by decide)) ?_
  refine Eq.trans (rl_icne (o := 53) 798 (by decide +kernel) (by decide)) ?_
  refine am_ite (fun h_1 => ?_) (fun h_1 => ?_)
  · skip
    refine Eq.trans (rl_aloadn (j := 0) (by decide +kernel) rfl) ?_
    refine Eq.trans (rl_iconst (c := -1) (k := (-1 : Int32)) (by decide +kernel) (by decide)) ?_
    refine Eq.trans (rl_invS (ix := 151) (n := 2) (k := 1) 140 [am_P (3, 0, 0), am_I (-1 : Int32)] [] (by decide +kernel) (by decide +kernel) (by decide) (by decide +kernel) ⟨rfl, rfl⟩ rfl rfl) ?_
    rfl
  · skip
    rfl
theorem b154_753 {x1 : Int64} {x3 x4 x5 s0 : Int32} {M : am_M} {w : am_W4}  : am_rn call 154 753 [some (am_P (3, 0, 0)), some (.inl (.long x1)), none, some (am_I x3), some (am_I x4), some (am_I x5)] [am_I s0] M (am_Z w) = if s0 = (-1001 : Int32) then am_cb (call 140 [am_P (3, 0, 0), am_I (nI 20)] M (am_Z w)) fun v M' X' => am_rn call 154 765 [some (am_P (3, 0, 0)), some (.inl (.long x1)), none, some (am_I x3), some (am_I x4), some (am_I x5)] (v.toList ++ []) M' X' else am_rn call 154 798 [some (am_P (3, 0, 0)), some (.inl (.long x1)), none, some (am_I x3), some (am_I x4), some (am_I x5)] [] M (am_Z w) := by
  refine Eq.trans (rl_sipush (c := -1001) (k := (-1001 : Int32)) (by decide +kernel) (by decide)) ?_
  refine Eq.trans (rl_icne (o := 42) 798 (by decide +kernel) (by decide)) ?_
  refine am_ite (fun h_1 => ?_) (fun h_1 => ?_)
  · skip
    refine Eq.trans (rl_aloadn (j := 0) (by decide +kernel) rfl) ?_
    refine Eq.trans (rl_bipush (c := 20) (k := (nI 20)) (by decide +kernel) (by decide)) ?_
    refine Eq.trans (rl_invS (ix := 151) (n := 2) (k := 1) 140 [am_P (3, 0, 0), am_I (nI 20)] [] (by decide +kernel) (by decide +kernel) (by decide) (by decide +kernel) ⟨rfl, rfl⟩ rfl rfl) ?_
    rfl
  · skip
    rfl
theorem b154_765 {x1 : Int64} {x3 x4 x5 s0 : Int32} {M : am_M} {w : am_W4}  : am_rn call 154 765 [some (am_P (3, 0, 0)), some (.inl (.long x1)), none, some (am_I x3), some (am_I x4), some (am_I x5)] [am_I s0] M (am_Z w) = if s0 = (-1001 : Int32) then am_cb (call 143 [am_P (3, 0, 0), am_I (nI 12)] M (am_Z w)) fun v M' X' => am_rn call 154 777 [some (am_P (3, 0, 0)), some (.inl (.long x1)), none, some (am_I x3), some (am_I x4), some (am_I x5)] (v.toList ++ []) M' X' else am_rn call 154 798 [some (am_P (3, 0, 0)), some (.inl (.long x1)), none, some (am_I x3), some (am_I x4), some (am_I x5)] [] M (am_Z w) := by
  refine Eq.trans (rl_sipush (c := -1001) (k := (-1001 : Int32)) (by decide +kernel) (by decide)) ?_
  refine Eq.trans (rl_icne (o := 30) 798 (by decide +kernel) (by decide)) ?_
  refine am_ite (fun h_1 => ?_) (fun h_1 => ?_)
  · skip
    refine Eq.trans (rl_aloadn (j := 0) (by decide +kernel) rfl) ?_
    refine Eq.trans (rl_bipush (c := 12) (k := (nI 12)) (by decide +kernel) (by decide)) ?_
    refine Eq.trans (rl_invS (ix := 190) (n := 2) (k := 1) 143 [am_P (3, 0, 0), am_I (nI 12)] [] (by decide +kernel) (by decide +kernel) (by decide) (by decide +kernel) ⟨rfl, rfl⟩ rfl rfl) ?_
    rfl
  · skip
    rfl
theorem b154_777 {x1 : Int64} {x3 x4 x5 s0 : Int32} {M : am_M} {w : am_W4}  : am_rn call 154 777 [some (am_P (3, 0, 0)), some (.inl (.long x1)), none, some (am_I x3), some (am_I x4), some (am_I x5)] [am_I s0] M (am_Z w) = if s0 = (-1001 : Int32) then am_cb (call 143 [am_P (3, 0, 0), am_I (-1 : Int32)] M (am_Z w)) fun v M' X' => am_rn call 154 788 [some (am_P (3, 0, 0)), some (.inl (.long x1)), none, some (am_I x3), some (am_I x4), some (am_I x5)] (v.toList ++ []) M' X' else am_rn call 154 798 [some (am_P (3, 0, 0)), some (.inl (.long x1)), none, some (am_I x3), some (am_I x4), some (am_I x5)] [] M (am_Z w) := by
  refine Eq.trans (rl_sipush (c := -1001) (k := (-1001 : Int32)) (by decide +kernel) (by decide)) ?_
  refine Eq.trans (rl_icne (o := 18) 798 (by decide +kernel) (by decide)) ?_
  refine am_ite (fun h_1 => ?_) (fun h_1 => ?_)
  · skip
    refine Eq.trans (rl_aloadn (j := 0) (by decide +kernel) rfl) ?_
    refine Eq.trans (rl_iconst (c := -1) (k := (-1 : Int32)) (by decide +kernel) (by decide)) ?_
    refine Eq.trans (rl_invS (ix := 190) (n := 2) (k := 1) 143 [am_P (3, 0, 0), am_I (-1 : Int32)] [] (by decide +kernel) (by decide +kernel) (by decide) (by decide +kernel) ⟨rfl, rfl⟩ rfl rfl) ?_
    rfl
  · skip
    rfl
theorem b154_788 {x1 : Int64} {x3 x4 x5 s0 : Int32} {M : am_M} {w : am_W4}  : am_rn call 154 788 [some (am_P (3, 0, 0)), some (.inl (.long x1)), none, some (am_I x3), some (am_I x4), some (am_I x5)] [am_I s0] M (am_Z w) = if s0 = (-1001 : Int32) then am_rn call 154 799 [some (am_P (3, 0, 0)), some (.inl (.long x1)), none, some (am_I x3), some (am_I x4), some (am_I x5)] [am_I (nI 1)] M (am_Z w) else am_rn call 154 798 [some (am_P (3, 0, 0)), some (.inl (.long x1)), none, some (am_I x3), some (am_I x4), some (am_I x5)] [] M (am_Z w) := by
  refine Eq.trans (rl_sipush (c := -1001) (k := (-1001 : Int32)) (by decide +kernel) (by decide)) ?_
  refine Eq.trans (rl_icne (o := 7) 798 (by decide +kernel) (by decide)) ?_
  refine am_ite (fun h_1 => ?_) (fun h_1 => ?_)
  · skip
    refine Eq.trans (rl_iconst (c := 1) (k := (nI 1)) (by decide +kernel) (by decide)) ?_
    refine Eq.trans (rl_goto (o := 4) 799 (by decide +kernel) (by decide)) ?_
    rfl
  · skip
    rfl
theorem b154_798 {x1 : Int64} {x3 x4 x5 : Int32} {M : am_M} {w : am_W4}  : am_rn call 154 798 [some (am_P (3, 0, 0)), some (.inl (.long x1)), none, some (am_I x3), some (am_I x4), some (am_I x5)] [] M (am_Z w) = am_rn call 154 799 [some (am_P (3, 0, 0)), some (.inl (.long x1)), none, some (am_I x3), some (am_I x4), some (am_I x5)] [am_I (nI 0)] M (am_Z w) := by
  refine Eq.trans (rl_iconst (c := 0) (k := (nI 0)) (by decide +kernel) (by decide)) ?_
  rfl
theorem b154_799 {x1 : Int64} {x3 x4 x5 s0 : Int32} {M : am_M} {w : am_W4} (hw : w.2.2.2 = none) : am_rn call 154 799 [some (am_P (3, 0, 0)), some (.inl (.long x1)), none, some (am_I x3), some (am_I x4), some (am_I x5)] [am_I s0] M (am_Z w) = if s0 = 0 then some (.inl (some (am_I (nI 0))), M, (am_Z w)) else am_bs 813 [some (am_P (3, 0, 0)), some (.inl (.long x1)), none, some (am_I x3), some (am_I x4), some (am_I s0)] [] (call 147 [am_P (3, 0, 0), am_P (50, 0, 0)] M (am_Z (w.1, w.2.1, w.2.2.1, some (am_lit 6)))) (0, 0) (am_rn call 154) := by
  refine Eq.trans (rl_istore (j := 5) (ls' := [some (am_P (3, 0, 0)), some (.inl (.long x1)), none, some (am_I x3), some (am_I x4), some (am_I s0)]) (by decide +kernel) rfl rfl) ?_
  refine Eq.trans (rl_iload (j := 5) (by decide +kernel) rfl) ?_
  refine Eq.trans (rl_ifeq (o := 67) 870 (by decide +kernel) (by decide)) ?_
  refine am_ite (fun h_1 => ?_) (fun h_1 => ?_)
  · skip
    refine Eq.trans (rl_iconst (c := 0) (k := (nI 0)) (by decide +kernel) (by decide)) ?_
    exact rl_zretk (by decide +kernel) rfl rfl
  · skip
    refine Eq.trans (rl_aloadn (j := 0) (by decide +kernel) rfl) ?_
    refine Eq.trans (rl_sc (ix := 275) (ix2 := 263) (k := 6) (y := 147) (n := 1) [am_P (3, 0, 0)] [] (by decide +kernel) (by decide +kernel) (by decide +kernel) (by decide +kernel) (by decide +kernel) (by decide +kernel) (by decide +kernel) rfl rfl ⟨rfl, rfl⟩) ?_
    exact if_pos hw
theorem b154_813 {x1 : Int64} {x3 x4 x5 s0 : Int32} {M : am_M} {w : am_W4}  : am_rn call 154 813 [some (am_P (3, 0, 0)), some (.inl (.long x1)), none, some (am_I x3), some (am_I x4), some (am_I x5)] [am_I s0] M (am_Z w) = if s0 = (-1001 : Int32) then am_cb (call 100 [am_P (3, 0, 0)] M (am_Z w)) fun v M' X' => am_rn call 154 823 [some (am_P (3, 0, 0)), some (.inl (.long x1)), none, some (am_I x3), some (am_I x4), some (am_I x5)] (v.toList ++ []) M' X' else some (.inl (some (am_I (nI 0))), M, (am_Z w)) := by
  refine Eq.trans (rl_sipush (c := -1001) (k := (-1001 : Int32)) (by decide +kernel) (by decide)) ?_
  refine Eq.trans (rl_icne (o := 54) 870 (by decide +kernel) (by decide)) ?_
  refine am_ite (fun h_1 => ?_) (fun h_1 => ?_)
  · skip
    refine Eq.trans (rl_aloadn (j := 0) (by decide +kernel) rfl) ?_
    refine Eq.trans (rl_inv (ix := 277) (n := 0) (o := 8) 100 [] [] (by decide +kernel) (by decide +kernel) (by decide +kernel) (by decide +kernel) ⟨rfl, rfl⟩ rfl rfl ck3) ?_
    rfl
  · skip
    refine Eq.trans (rl_iconst (c := 0) (k := (nI 0)) (by decide +kernel) (by decide)) ?_
    exact rl_zretk (by decide +kernel) rfl rfl
theorem b154_823 {x1 : Int64} {x3 x4 x5 s0 : Int32} {M : am_M} {w : am_W4} (hw : w.2.2.2 = none) : am_rn call 154 823 [some (am_P (3, 0, 0)), some (.inl (.long x1)), none, some (am_I x3), some (am_I x4), some (am_I x5)] [am_I s0] M (am_Z w) = if s0 = 0 then am_bs 833 [some (am_P (3, 0, 0)), some (.inl (.long x1)), none, some (am_I x3), some (am_I x4), some (am_I x5)] [] (call 147 [am_P (3, 0, 0), am_P (50, 0, 0)] M (am_Z (w.1, w.2.1, w.2.2.1, some (am_lit 7)))) (0, 0) (am_rn call 154) else some (.inl (some (am_I (nI 0))), M, (am_Z w)) := by
  refine Eq.trans (rl_ifne (o := 47) 870 (by decide +kernel) (by decide)) ?_
  refine am_ite (fun h_1 => ?_) (fun h_1 => ?_)
  · skip
    refine Eq.trans (rl_aloadn (j := 0) (by decide +kernel) rfl) ?_
    refine Eq.trans (rl_sc (ix := 280) (ix2 := 263) (k := 7) (y := 147) (n := 1) [am_P (3, 0, 0)] [] (by decide +kernel) (by decide +kernel) (by decide +kernel) (by decide +kernel) (by decide +kernel) (by decide +kernel) (by decide +kernel) rfl rfl ⟨rfl, rfl⟩) ?_
    exact if_pos hw
  · skip
    refine Eq.trans (rl_iconst (c := 0) (k := (nI 0)) (by decide +kernel) (by decide)) ?_
    exact rl_zretk (by decide +kernel) rfl rfl
theorem b154_833 {x1 : Int64} {x3 x4 x5 s0 : Int32} {M : am_M} {w : am_W4}  : am_rn call 154 833 [some (am_P (3, 0, 0)), some (.inl (.long x1)), none, some (am_I x3), some (am_I x4), some (am_I x5)] [am_I s0] M (am_Z w) = if s0 = (-1002 : Int32) then am_cb (call 148 [am_P (3, 0, 0), am_I (nI 1), am_I (nI 0), am_I (nI 1)] M (am_Z w)) fun v M' X' => am_rn call 154 846 [some (am_P (3, 0, 0)), some (.inl (.long x1)), none, some (am_I x3), some (am_I x4), some (am_I x5)] (v.toList ++ []) M' X' else some (.inl (some (am_I (nI 0))), M, (am_Z w)) := by
  refine Eq.trans (rl_sipush (c := -1002) (k := (-1002 : Int32)) (by decide +kernel) (by decide)) ?_
  refine Eq.trans (rl_icne (o := 34) 870 (by decide +kernel) (by decide)) ?_
  refine am_ite (fun h_1 => ?_) (fun h_1 => ?_)
  · skip
    refine Eq.trans (rl_aloadn (j := 0) (by decide +kernel) rfl) ?_
    refine Eq.trans (rl_iconst (c := 1) (k := (nI 1)) (by decide +kernel) (by decide)) ?_
    refine Eq.trans (rl_iconst (c := 0) (k := (nI 0)) (by decide +kernel) (by decide)) ?_
    refine Eq.trans (rl_iconst (c := 1) (k := (nI 1)) (by decide +kernel) (by decide)) ?_
    refine Eq.trans (rl_invS (ix := 271) (n := 4) (k := 1) 148 [am_P (3, 0, 0), am_I (nI 1), am_I (nI 0), am_I (nI 1)] [] (by decide +kernel) (by decide +kernel) (by decide) (by decide +kernel) ⟨rfl, rfl⟩ rfl rfl) ?_
    rfl
  · skip
    refine Eq.trans (rl_iconst (c := 0) (k := (nI 0)) (by decide +kernel) (by decide)) ?_
    exact rl_zretk (by decide +kernel) rfl rfl
theorem b154_846 {x1 : Int64} {x3 x4 x5 s0 : Int32} {M : am_M} {w : am_W4}  : am_rn call 154 846 [some (am_P (3, 0, 0)), some (.inl (.long x1)), none, some (am_I x3), some (am_I x4), some (am_I x5)] [am_I s0] M (am_Z w) = if s0 = 0 then some (.inl (some (am_I (nI 0))), M, (am_Z w)) else am_cb (call 100 [am_P (3, 0, 0)] M (am_Z w)) fun v M' X' => am_rn call 154 853 [some (am_P (3, 0, 0)), some (.inl (.long x1)), none, some (am_I x3), some (am_I x4), some (am_I x5)] (v.toList ++ []) M' X' := by
  refine Eq.trans (rl_ifeq (o := 24) 870 (by decide +kernel) (by decide)) ?_
  refine am_ite (fun h_1 => ?_) (fun h_1 => ?_)
  · skip
    refine Eq.trans (rl_iconst (c := 0) (k := (nI 0)) (by decide +kernel) (by decide)) ?_
    exact rl_zretk (by decide +kernel) rfl rfl
  · skip
    refine Eq.trans (rl_aloadn (j := 0) (by decide +kernel) rfl) ?_
    refine Eq.trans (rl_inv (ix := 277) (n := 0) (o := 8) 100 [] [] (by decide +kernel) (by decide +kernel) (by decide +kernel) (by decide +kernel) ⟨rfl, rfl⟩ rfl rfl ck3) ?_
    rfl
theorem b154_853 {x1 : Int64} {x3 x4 x5 s0 : Int32} {M : am_M} {w : am_W4}  : am_rn call 154 853 [some (am_P (3, 0, 0)), some (.inl (.long x1)), none, some (am_I x3), some (am_I x4), some (am_I x5)] [am_I s0] M (am_Z w) = if s0 = (-1 : Int32) then am_cb (call 152 [am_P (3, 0, 0)] M (am_Z w)) fun v M' X' => am_rn call 154 861 [some (am_P (3, 0, 0)), some (.inl (.long x1)), none, some (am_I x3), some (am_I x4), some (am_I x5)] (v.toList ++ []) M' X' else some (.inl (some (am_I (nI 0))), M, (am_Z w)) := by
  refine Eq.trans (rl_iconst (c := -1) (k := (-1 : Int32)) (by decide +kernel) (by decide)) ?_
  refine Eq.trans (rl_icne (o := 16) 870 (by decide +kernel) (by decide)) ?_
  refine am_ite (fun h_1 => ?_) (fun h_1 => ?_)
  · skip
    refine Eq.trans (rl_aloadn (j := 0) (by decide +kernel) rfl) ?_
    refine Eq.trans (rl_invS (ix := 267) (n := 1) (k := 1) 152 [am_P (3, 0, 0)] [] (by decide +kernel) (by decide +kernel) (by decide) (by decide +kernel) ⟨rfl, rfl⟩ rfl rfl) ?_
    rfl
  · skip
    refine Eq.trans (rl_iconst (c := 0) (k := (nI 0)) (by decide +kernel) (by decide)) ?_
    exact rl_zretk (by decide +kernel) rfl rfl
theorem b154_861 {x1 s0 : Int64} {x3 x4 x5 : Int32} {M : am_M} {w : am_W4}  : am_rn call 154 861 [some (am_P (3, 0, 0)), some (.inl (.long x1)), none, some (am_I x3), some (am_I x4), some (am_I x5)] [.inl (.long s0)] M (am_Z w) = if (lg_cmp s0 x1) = 0 then some (.inl (some (am_I (nI 1))), M, (am_Z w)) else some (.inl (some (am_I (nI 0))), M, (am_Z w)) := by
  refine Eq.trans (rl_lloadn (j := 1) (by decide +kernel) rfl) ?_
  refine Eq.trans (rl_lcmp (by decide +kernel)) ?_
  refine Eq.trans (rl_ifne (o := 7) 870 (by decide +kernel) (by decide)) ?_
  refine am_ite (fun h_1 => ?_) (fun h_1 => ?_)
  · skip
    refine Eq.trans (rl_iconst (c := 1) (k := (nI 1)) (by decide +kernel) (by decide)) ?_
    refine Eq.trans (rl_goto (o := 4) 871 (by decide +kernel) (by decide)) ?_
    exact rl_zretk (by decide +kernel) rfl rfl
  · skip
    refine Eq.trans (rl_iconst (c := 0) (k := (nI 0)) (by decide +kernel) (by decide)) ?_
    exact rl_zretk (by decide +kernel) rfl rfl
theorem e154 {d : Nat}  {M : am_M} {w : am_W4}  : am_ev (d + 1) 154 [am_P (3, 0, 0)] M (am_Z w) = am_cb ((am_ev d) 152 [am_P (3, 0, 0)] M (am_Z w)) fun v M' X' => am_rn (am_ev d) 154 4 [some (am_P (3, 0, 0)), none, none, none, none, none] (v.toList ++ []) M' X' := (am_ev_eq d 154 _ M (am_Z w)).trans (b154_0)
end AmBl
