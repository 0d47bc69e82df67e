section AmBl
variable {call : Nat → List am_V → am_M → am_X → Option am_R}
theorem b227_8  {M : am_M} {w : am_W4}  : am_rn call 227 8 [some (am_P (0, 0, 0)), some (am_P (3, 0, 0)), none, none, none, none, none, none, none, none, none] [] M (am_Z w) = am_cb (call 144 [am_P (3, 0, 0)] M (am_Z w)) fun v M' X' => am_rn call 227 12 [some (am_P (0, 0, 0)), some (am_P (3, 0, 0)), none, none, none, none, none, none, none, none, none] (v.toList ++ []) M' X' := by
  refine Eq.trans (rl_aloadn (j := 1) (by decide +kernel) rfl) ?_
  refine Eq.trans (rl_invS (ix := 283) (n := 1) (k := 1) 144 [am_P (3, 0, 0)] [] (by decide +kernel) (by decide +kernel) (by decide) (by decide +kernel) ⟨rfl, rfl⟩ rfl rfl) ?_
  rfl
theorem b227_12 {s0 : Int32} {M : am_M} {w : am_W4}  : am_rn call 227 12 [some (am_P (0, 0, 0)), some (am_P (3, 0, 0)), none, none, none, none, none, none, none, none, none] [am_I s0] M (am_Z w) = if s0 = (-1001 : Int32) then am_cb (call 145 [am_P (3, 0, 0)] M (am_Z w)) fun v M' X' => am_rn call 227 22 [some (am_P (0, 0, 0)), some (am_P (3, 0, 0)), none, none, none, none, none, none, none, none, none] (v.toList ++ []) M' X' else some (.inl (some (am_I (nI 0))), M, (am_Z w)) := by
  refine Eq.trans (rl_sipush (c := -1001) (k := (-1001 : Int32)) (by decide +kernel) (by decide)) ?_
  refine Eq.trans (rl_icne (o := 47) 62 (by decide +kernel) (by decide)) ?_
  refine am_ite (fun h_1 => ?_) (fun h_1 => ?_)
  · skip
    refine Eq.trans (rl_aloadn (j := 1) (by decide +kernel) rfl) ?_
    refine Eq.trans (rl_invS (ix := 285) (n := 1) (k := 1) 145 [am_P (3, 0, 0)] [] (by decide +kernel) (by decide +kernel) (by decide) (by decide +kernel) ⟨rfl, rfl⟩ rfl rfl) ?_
    rfl
  · skip
    refine Eq.trans (rl_iconst (c := 0) (k := (nI 0)) (by decide +kernel) (by decide)) ?_
    exact rl_zretk (by decide +kernel) rfl rfl
theorem b227_22 {s0 : Int32} {M : am_M} {w : am_W4}  : am_rn call 227 22 [some (am_P (0, 0, 0)), some (am_P (3, 0, 0)), none, none, none, none, none, none, none, none, none] [am_I s0] M (am_Z w) = if s0 = (-1001 : Int32) then am_cb (call 108 [am_P (3, 0, 0)] M (am_Z w)) fun v M' X' => am_rn call 227 32 [some (am_P (0, 0, 0)), some (am_P (3, 0, 0)), none, none, none, none, none, none, none, none, none] (v.toList ++ []) M' X' else some (.inl (some (am_I (nI 0))), M, (am_Z w)) := by
  refine Eq.trans (rl_sipush (c := -1001) (k := (-1001 : Int32)) (by decide +kernel) (by decide)) ?_
  refine Eq.trans (rl_icne (o := 37) 62 (by decide +kernel) (by decide)) ?_
  refine am_ite (fun h_1 => ?_) (fun h_1 => ?_)
  · skip
    refine Eq.trans (rl_aloadn (j := 1) (by decide +kernel) rfl) ?_
    refine Eq.trans (rl_inv (ix := 287) (n := 0) (o := 8) 108 [] [] (by decide +kernel) (by decide +kernel) (by decide +kernel) (by decide +kernel) ⟨rfl, rfl⟩ rfl rfl ck3) ?_
    rfl
  · skip
    refine Eq.trans (rl_iconst (c := 0) (k := (nI 0)) (by decide +kernel) (by decide)) ?_
    exact rl_zretk (by decide +kernel) rfl rfl
theorem b227_32 {s0 : Int32} {M : am_M} {w : am_W4}  : am_rn call 227 32 [some (am_P (0, 0, 0)), some (am_P (3, 0, 0)), none, none, none, none, none, none, none, none, none] [am_I s0] M (am_Z w) = if s0 = 0 then am_cb (call 122 [am_P (3, 0, 0), am_I (nI 96)] M (am_Z w)) fun v M' X' => am_rn call 227 41 [some (am_P (0, 0, 0)), some (am_P (3, 0, 0)), none, none, none, none, none, none, none, none, none] (v.toList ++ []) M' X' else some (.inl (some (am_I (nI 0))), M, (am_Z w)) := by
  refine Eq.trans (rl_ifne (o := 30) 62 (by decide +kernel) (by decide)) ?_
  refine am_ite (fun h_1 => ?_) (fun h_1 => ?_)
  · skip
    refine Eq.trans (rl_aloadn (j := 1) (by decide +kernel) rfl) ?_
    refine Eq.trans (rl_bipush (c := 96) (k := (nI 96)) (by decide +kernel) (by decide)) ?_
    refine Eq.trans (rl_invS (ix := 236) (n := 2) (k := 1) 122 [am_P (3, 0, 0), am_I (nI 96)] [] (by decide +kernel) (by decide +kernel) (by decide) (by decide +kernel) ⟨rfl, rfl⟩ rfl rfl) ?_
    rfl
  · skip
    refine Eq.trans (rl_iconst (c := 0) (k := (nI 0)) (by decide +kernel) (by decide)) ?_
    exact rl_zretk (by decide +kernel) rfl rfl
theorem b227_41 {s0 : Int32} {M : am_M} {w : am_W4}  : am_rn call 227 41 [some (am_P (0, 0, 0)), some (am_P (3, 0, 0)), none, none, none, none, none, none, none, none, none] [am_I s0] M (am_Z w) = if s0 = 0 then am_cb (call 143 [am_P (3, 0, 0), am_I (nI 0)] M (am_Z w)) fun v M' X' => am_rn call 227 49 [some (am_P (0, 0, 0)), some (am_P (3, 0, 0)), none, none, none, none, none, none, none, none, none] (v.toList ++ []) M' X' else some (.inl (some (am_I (nI 0))), M, (am_Z w)) := by
  refine Eq.trans (rl_ifne (o := 21) 62 (by decide +kernel) (by decide)) ?_
  refine am_ite (fun h_1 => ?_) (fun h_1 => ?_)
  · skip
    refine Eq.trans (rl_aloadn (j := 1) (by decide +kernel) rfl) ?_
    refine Eq.trans (rl_iconst (c := 0) (k := (nI 0)) (by decide +kernel) (by decide)) ?_
    refine Eq.trans (rl_invS (ix := 190) (n := 2) (k := 1) 143 [am_P (3, 0, 0), am_I (nI 0)] [] (by decide +kernel) (by decide +kernel) (by decide) (by decide +kernel) ⟨rfl, rfl⟩ rfl rfl) ?_
    rfl
  · skip
    refine Eq.trans (rl_iconst (c := 0) (k := (nI 0)) (by decide +kernel) (by decide)) ?_
    exact rl_zretk (by decide +kernel) rfl rfl
theorem b227_49 {s0 : Int32} {M : am_M} {w : am_W4}  : am_rn call 227 49 [some (am_P (0, 0, 0)), some (am_P (3, 0, 0)), none, none, none, none, none, none, none, none, none] [am_I s0] M (am_Z w) = if s0 = (nI 96) then am_cb (call 143 [am_P (3, 0, 0), am_I (nI 1)] M (am_Z w)) fun v M' X' => am_rn call 227 59 [some (am_P (0, 0, 0)), some (am_P (3, 0, 0)), none, none, none, none, none, none, none, none, none] (v.toList ++ []) M' X' else some (.inl (some (am_I (nI 0))), M, (am_Z w)) := by
  refine Eq.trans (rl_bipush (c := 96) (k := (nI 96)) (by decide +kernel) (by decide)) ?_
  refine Eq.trans (rl_icne (o := 11) 62 (by decide +kernel) (by decide)) ?_
  refine am_ite (fun h_1 => ?_) (fun h_1 => ?_)
  · skip
    refine Eq.trans (rl_aloadn (j := 1) (by decide +kernel) rfl) ?_
    refine Eq.trans (rl_iconst (c := 1) (k := (nI 1)) (by decide +kernel) (by decide)) ?_
    refine Eq.trans (rl_invS (ix := 190) (n := 2) (k := 1) 143 [am_P (3, 0, 0), am_I (nI 1)] [] (by decide +kernel) (by decide +kernel) (by decide) (by decide +kernel) ⟨rfl, rfl⟩ rfl rfl) ?_
    rfl
  · skip
    refine Eq.trans (rl_iconst (c := 0) (k := (nI 0)) (by decide +kernel) (by decide)) ?_
    exact rl_zretk (by decide +kernel) rfl rfl
theorem b227_59 {s0 : Int32} {M : am_M} {w : am_W4}  : am_rn call 227 59 [some (am_P (0, 0, 0)), some (am_P (3, 0, 0)), none, none, none, none, none, none, none, none, none] [am_I s0] M (am_Z w) = if s0 = 0 then am_rn call 227 66 [some (am_P (0, 0, 0)), some (am_P (3, 0, 0)), some (am_I (nI 0)), none, none, none, none, none, none, none, none] [] M (am_Z w) else some (.inl (some (am_I (nI 0))), M, (am_Z w)) := by
  refine Eq.trans (rl_ifeq (o := 5) 64 (by decide +kernel) (by decide)) ?_
  refine am_ite (fun h_1 => ?_) (fun h_1 => ?_)
  · skip
    refine Eq.trans (rl_iconst (c := 0) (k := (nI 0)) (by decide +kernel) (by decide)) ?_
    refine Eq.trans (rl_istoren (j := 2) (ls' := [some (am_P (0, 0, 0)), some (am_P (3, 0, 0)), some (am_I (nI 0)), none, none, none, none, none, none, none, none]) (by decide +kernel) rfl rfl) ?_
    rfl
  · skip
    refine Eq.trans (rl_iconst (c := 0) (k := (nI 0)) (by decide +kernel) (by decide)) ?_
    exact rl_zretk (by decide +kernel) rfl rfl
theorem b227_66 {x2 : Int32} {M : am_M} {w : am_W4}  : am_rn call 227 66 [some (am_P (0, 0, 0)), some (am_P (3, 0, 0)), some (am_I x2), none, none, none, none, none, none, none, none] [] M (am_Z w) = if x2 < (nI 60) then am_cb (call 136 [am_P (3, 0, 0), am_I (((nI 300) + x2).toUInt32 % 65536).toInt32] M (am_Z w)) fun v M' X' => am_rn call 227 82 [some (am_P (0, 0, 0)), some (am_P (3, 0, 0)), some (am_I x2), none, none, none, none, none, none, none, none] (v.toList ++ []) M' X' else am_cb (call 136 [am_P (3, 0, 0), am_I (nI 104)] M (am_Z w)) fun v M' X' => am_rn call 227 102 [some (am_P (0, 0, 0)), some (am_P (3, 0, 0)), some (am_I x2), none, none, none, none, none, none, none, none] (v.toList ++ []) M' X' := by
  refine Eq.trans (rl_iloadn (j := 2) (by decide +kernel) rfl) ?_
  refine Eq.trans (rl_bipush (c := 60) (k := (nI 60)) (by decide +kernel) (by decide)) ?_
  refine Eq.trans (rl_icge (o := 27) 96 (by decide +kernel) (by decide)) ?_
  refine am_ite (fun h_1 => ?_) (fun h_1 => ?_)
  · skip
    refine Eq.trans (rl_aloadn (j := 1) (by decide +kernel) rfl) ?_
    refine Eq.trans (rl_sipush (c := 300) (k := (nI 300)) (by decide +kernel) (by decide)) ?_
    refine Eq.trans (rl_iloadn (j := 2) (by decide +kernel) rfl) ?_
    refine Eq.trans (rl_iadd (by decide +kernel)) ?_
    refine Eq.trans (rl_i2c (by decide +kernel)) ?_
    refine Eq.trans (rl_invS (ix := 138) (n := 2) (k := 1) 136 [am_P (3, 0, 0), am_I (((nI 300) + x2).toUInt32 % 65536).toInt32] [] (by decide +kernel) (by decide +kernel) (by decide) (by decide +kernel) ⟨rfl, rfl⟩ rfl rfl) ?_
    rfl
  · skip
    refine Eq.trans (rl_aloadn (j := 1) (by decide +kernel) rfl) ?_
    refine Eq.trans (rl_bipush (c := 104) (k := (nI 104)) (by decide +kernel) (by decide)) ?_
    refine Eq.trans (rl_invS (ix := 138) (n := 2) (k := 1) 136 [am_P (3, 0, 0), am_I (nI 104)] [] (by decide +kernel) (by decide +kernel) (by decide) (by decide +kernel) ⟨rfl, rfl⟩ rfl rfl) ?_
    rfl
theorem b227_82 {x2 s0 : Int32} {M : am_M} {w : am_W4}  : am_rn call 227 82 [some (am_P (0, 0, 0)), some (am_P (3, 0, 0)), some (am_I x2), none, none, none, none, none, none, none, none] [am_I s0] M (am_Z w) = if s0 = (x2 + (nI 1)) then am_rn call 227 66 [some (am_P (0, 0, 0)), some (am_P (3, 0, 0)), some (am_I (x2 + (nI 1))), none, none, none, none, none, none, none, none] [] M (am_Z w) else some (.inl (some (am_I (nI 0))), M, (am_Z w)) := by
  refine Eq.trans (rl_iloadn (j := 2) (by decide +kernel) rfl) ?_
  refine Eq.trans (rl_iconst (c := 1) (k := (nI 1)) (by decide +kernel) (by decide)) ?_
  refine Eq.trans (rl_iadd (by decide +kernel)) ?_
  refine Eq.trans (rl_iceq (o := 5) 90 (by decide +kernel) (by decide)) ?_
  refine am_ite (fun h_1 => ?_) (fun h_1 => ?_)
  · skip
    refine Eq.trans (rl_iinc (j := 2) (c := 1) (k := (nI 1)) (ls' := [some (am_P (0, 0, 0)), some (am_P (3, 0, 0)), some (am_I (x2 + (nI 1))), none, none, none, none, none, none, none, none]) (by decide +kernel) (by decide) rfl rfl) ?_
    refine Eq.trans (rl_goto (o := (-27)) 66 (by decide +kernel) (by decide)) ?_
    rfl
  · skip
    refine Eq.trans (rl_iconst (c := 0) (k := (nI 0)) (by decide +kernel) (by decide)) ?_
    exact rl_zretk (by decide +kernel) rfl rfl
theorem b227_102 {x2 s0 : Int32} {M : am_M} {w : am_W4}  : am_rn call 227 102 [some (am_P (0, 0, 0)), some (am_P (3, 0, 0)), some (am_I x2), none, none, none, none, none, none, none, none] [am_I s0] M (am_Z w) = if s0 = (-1001 : Int32) then am_cb (call 137 [am_P (3, 0, 0)] M (am_Z w)) fun v M' X' => am_rn call 227 112 [some (am_P (0, 0, 0)), some (am_P (3, 0, 0)), some (am_I x2), none, none, none, none, none, none, none, none] (v.toList ++ []) M' X' else some (.inl (some (am_I (nI 0))), M, (am_Z w)) := by
  refine Eq.trans (rl_sipush (c := -1001) (k := (-1001 : Int32)) (by decide +kernel) (by decide)) ?_
  refine Eq.trans (rl_icne (o := 29) 134 (by decide +kernel) (by decide)) ?_
  refine am_ite (fun h_1 => ?_) (fun h_1 => ?_)
  · skip
    refine Eq.trans (rl_aloadn (j := 1) (by decide +kernel) rfl) ?_
    refine Eq.trans (rl_invS (ix := 143) (n := 1) (k := 1) 137 [am_P (3, 0, 0)] [] (by decide +kernel) (by decide +kernel) (by decide) (by decide +kernel) ⟨rfl, rfl⟩ rfl rfl) ?_
    rfl
  · skip
    refine Eq.trans (rl_iconst (c := 0) (k := (nI 0)) (by decide +kernel) (by decide)) ?_
    exact rl_zretk (by decide +kernel) rfl rfl
theorem b227_112 {x2 s0 : Int32} {M : am_M} {w : am_W4}  : am_rn call 227 112 [some (am_P (0, 0, 0)), some (am_P (3, 0, 0)), some (am_I x2), none, none, none, none, none, none, none, none] [am_I s0] M (am_Z w) = if s0 = (-1001 : Int32) then am_cb (call 100 [am_P (3, 0, 0)] M (am_Z w)) fun v M' X' => am_rn call 227 122 [some (am_P (0, 0, 0)), some (am_P (3, 0, 0)), some (am_I x2), none, none, none, none, none, none, none, none] (v.toList ++ []) M' X' else some (.inl (some (am_I (nI 0))), M, (am_Z w)) := by
  refine Eq.trans (rl_sipush (c := -1001) (k := (-1001 : Int32)) (by decide +kernel) (by decide)) ?_
  refine Eq.trans (rl_icne (o := 19) 134 (by decide +kernel) (by decide)) ?_
  refine am_ite (fun h_1 => ?_) (fun h_1 => ?_)
  · skip
    refine Eq.trans (rl_aloadn (j := 1) (by decide +kernel) rfl) ?_
    refine Eq.trans (rl_inv (ix := 277) (n := 0) (o := 8) 100 [] [] (by decide +kernel) (by decide +kernel) (by decide +kernel) (by decide +kernel) ⟨rfl, rfl⟩ rfl rfl ck3) ?_
    rfl
  · skip
    refine Eq.trans (rl_iconst (c := 0) (k := (nI 0)) (by decide +kernel) (by decide)) ?_
    exact rl_zretk (by decide +kernel) rfl rfl
theorem b227_122 {x2 s0 : Int32} {M : am_M} {w : am_W4}  : am_rn call 227 122 [some (am_P (0, 0, 0)), some (am_P (3, 0, 0)), some (am_I x2), none, none, none, none, none, none, none, none] [am_I s0] M (am_Z w) = if s0 = 0 then am_cb (call 143 [am_P (3, 0, 0), am_I (nI 11)] M (am_Z w)) fun v M' X' => am_rn call 227 131 [some (am_P (0, 0, 0)), some (am_P (3, 0, 0)), some (am_I x2), none, none, none, none, none, none, none, none] (v.toList ++ []) M' X' else some (.inl (some (am_I (nI 0))), M, (am_Z w)) := by
  refine Eq.trans (rl_ifne (o := 12) 134 (by decide +kernel) (by decide)) ?_
  refine am_ite (fun h_1 => ?_) (fun h_1 => ?_)
  · skip
    refine Eq.trans (rl_aloadn (j := 1) (by decide +kernel) rfl) ?_
    refine Eq.trans (rl_bipush (c := 11) (k := (nI 11)) (by decide +kernel) (by decide)) ?_
    refine Eq.trans (rl_invS (ix := 190) (n := 2) (k := 1) 143 [am_P (3, 0, 0), am_I (nI 11)] [] (by decide +kernel) (by decide +kernel) (by decide) (by decide +kernel) ⟨rfl, rfl⟩ rfl rfl) ?_
    rfl
  · skip
    refine Eq.trans (rl_iconst (c := 0) (k := (nI 0)) (by decide +kernel) (by decide)) ?_
    exact rl_zretk (by decide +kernel) rfl rfl
theorem b227_131 {x2 s0 : Int32} {M : am_M} {w : am_W4}  : am_rn call 227 131 [some (am_P (0, 0, 0)), some (am_P (3, 0, 0)), some (am_I x2), none, none, none, none, none, none, none, none] [am_I s0] M (am_Z w) = if s0 = 0 then am_rn call 227 138 [some (am_P (0, 0, 0)), some (am_P (3, 0, 0)), some (am_I (nI 0)), none, none, none, none, none, none, none, none] [] M (am_Z w) else some (.inl (some (am_I (nI 0))), M, (am_Z w)) := by
  refine Eq.trans (rl_ifeq (o := 5) 136 (by decide +kernel) (by decide)) ?_
  refine am_ite (fun h_1 => ?_) (fun h_1 => ?_)
  · skip
    refine Eq.trans (rl_iconst (c := 0) (k := (nI 0)) (by decide +kernel) (by decide)) ?_
    refine Eq.trans (rl_istoren (j := 2) (ls' := [some (am_P (0, 0, 0)), some (am_P (3, 0, 0)), some (am_I (nI 0)), none, none, none, none, none, none, none, none]) (by decide +kernel) rfl rfl) ?_
    rfl
  · skip
    refine Eq.trans (rl_iconst (c := 0) (k := (nI 0)) (by decide +kernel) (by decide)) ?_
    exact rl_zretk (by decide +kernel) rfl rfl
theorem b227_138 {x2 : Int32} {M : am_M} {w : am_W4}  : am_rn call 227 138 [some (am_P (0, 0, 0)), some (am_P (3, 0, 0)), some (am_I x2), none, none, none, none, none, none, none, none] [] M (am_Z w) = if x2 < (nI 6) then am_cb (call 115 [am_P (3, 0, 0), am_I (nI 9), am_I (nI 0), am_I (nI 9)] M (am_Z w)) fun v M' X' => am_rn call 227 153 [some (am_P (0, 0, 0)), some (am_P (3, 0, 0)), some (am_I x2), none, none, none, none, none, none, none, none] (v.toList ++ []) M' X' else am_cb (call 116 [am_P (3, 0, 0), am_I (nI 7), am_I (nI 150)] M (am_Z w)) fun v M' X' => am_rn call 227 174 [some (am_P (0, 0, 0)), some (am_P (3, 0, 0)), some (am_I x2), none, none, none, none, none, none, none, none] (v.toList ++ []) M' X' := by
  refine Eq.trans (rl_iloadn (j := 2) (by decide +kernel) rfl) ?_
  refine Eq.trans (rl_bipush (c := 6) (k := (nI 6)) (by decide +kernel) (by decide)) ?_
  refine Eq.trans (rl_icge (o := 24) 165 (by decide +kernel) (by decide)) ?_
  refine am_ite (fun h_1 => ?_) (fun h_1 => ?_)
  · skip
    refine Eq.trans (rl_aloadn (j := 1) (by decide +kernel) rfl) ?_
    refine Eq.trans (rl_bipush (c := 9) (k := (nI 9)) (by decide +kernel) (by decide)) ?_
    refine Eq.trans (rl_iconst (c := 0) (k := (nI 0)) (by decide +kernel) (by decide)) ?_
    refine Eq.trans (rl_bipush (c := 9) (k := (nI 9)) (by decide +kernel) (by decide)) ?_
    refine Eq.trans (rl_invS (ix := 160) (n := 4) (k := 1) 115 [am_P (3, 0, 0), am_I (nI 9), am_I (nI 0), am_I (nI 9)] [] (by decide +kernel) (by decide +kernel) (by decide) (by decide +kernel) ⟨rfl, rfl⟩ rfl rfl) ?_
    rfl
  · skip
    refine Eq.trans (rl_aloadn (j := 1) (by decide +kernel) rfl) ?_
    refine Eq.trans (rl_bipush (c := 7) (k := (nI 7)) (by decide +kernel) (by decide)) ?_
    refine Eq.trans (rl_sipush (c := 150) (k := (nI 150)) (by decide +kernel) (by decide)) ?_
    refine Eq.trans (rl_invS (ix := 163) (n := 3) (k := 1) 116 [am_P (3, 0, 0), am_I (nI 7), am_I (nI 150)] [] (by decide +kernel) (by decide +kernel) (by decide) (by decide +kernel) ⟨rfl, rfl⟩ rfl rfl) ?_
    rfl
theorem b227_153 {x2 s0 : Int32} {M : am_M} {w : am_W4}  : am_rn call 227 153 [some (am_P (0, 0, 0)), some (am_P (3, 0, 0)), some (am_I x2), none, none, none, none, none, none, none, none] [am_I s0] M (am_Z w) = if s0 = x2 then am_rn call 227 138 [some (am_P (0, 0, 0)), some (am_P (3, 0, 0)), some (am_I (x2 + (nI 1))), none, none, none, none, none, none, none, none] [] M (am_Z w) else some (.inl (some (am_I (nI 0))), M, (am_Z w)) := by
  refine Eq.trans (rl_iloadn (j := 2) (by decide +kernel) rfl) ?_
  refine Eq.trans (rl_iceq (o := 5) 159 (by decide +kernel) (by decide)) ?_
  refine am_ite (fun h_1 => ?_) (fun h_1 => ?_)
  · skip
    refine Eq.trans (rl_iinc (j := 2) (c := 1) (k := (nI 1)) (ls' := [some (am_P (0, 0, 0)), some (am_P (3, 0, 0)), some (am_I (x2 + (nI 1))), none, none, none, none, none, none, none, none]) (by decide +kernel) (by decide) rfl rfl) ?_
    refine Eq.trans (rl_goto (o := (-24)) 138 (by decide +kernel) (by decide)) ?_
    rfl
  · skip
    refine Eq.trans (rl_iconst (c := 0) (k := (nI 0)) (by decide +kernel) (by decide)) ?_
    exact rl_zretk (by decide +kernel) rfl rfl
theorem b227_174 {x2 s0 : Int32} {M : am_M} {w : am_W4}  : am_rn call 227 174 [some (am_P (0, 0, 0)), some (am_P (3, 0, 0)), some (am_I x2), none, none, none, none, none, none, none, none] [am_I s0] M (am_Z w) = if s0 = 0 then am_rn call 227 181 [some (am_P (0, 0, 0)), some (am_P (3, 0, 0)), some (am_I (nI 0)), none, none, none, none, none, none, none, none] [] M (am_Z w) else some (.inl (some (am_I (nI 0))), M, (am_Z w)) := by
  refine Eq.trans (rl_ifeq (o := 5) 179 (by decide +kernel) (by decide)) ?_
  refine am_ite (fun h_1 => ?_) (fun h_1 => ?_)
  · skip
    refine Eq.trans (rl_iconst (c := 0) (k := (nI 0)) (by decide +kernel) (by decide)) ?_
    refine Eq.trans (rl_istoren (j := 2) (ls' := [some (am_P (0, 0, 0)), some (am_P (3, 0, 0)), some (am_I (nI 0)), none, none, none, none, none, none, none, none]) (by decide +kernel) rfl rfl) ?_
    rfl
  · skip
    refine Eq.trans (rl_iconst (c := 0) (k := (nI 0)) (by decide +kernel) (by decide)) ?_
    exact rl_zretk (by decide +kernel) rfl rfl
theorem b227_181 {x2 : Int32} {M : am_M} {w : am_W4}  : am_rn call 227 181 [some (am_P (0, 0, 0)), some (am_P (3, 0, 0)), some (am_I x2), none, none, none, none, none, none, none, none] [] M (am_Z w) = if x2 < (nI 16) then am_cb (call 120 [am_P (3, 0, 0), am_I (nI 0), am_I (nI 5), am_I (nI 77777777)] M (am_Z w)) fun v M' X' => am_rn call 227 196 [some (am_P (0, 0, 0)), some (am_P (3, 0, 0)), some (am_I x2), none, none, none, none, none, none, none, none] (v.toList ++ []) M' X' else am_cb (call 115 [am_P (3, 0, 0), am_I (nI 0), am_I (nI 0), am_I (nI 1)] M (am_Z w)) fun v M' X' => am_rn call 227 215 [some (am_P (0, 0, 0)), some (am_P (3, 0, 0)), some (am_I x2), none, none, none, none, none, none, none, none] (v.toList ++ []) M' X' := by
  refine Eq.trans (rl_iloadn (j := 2) (by decide +kernel) rfl) ?_
  refine Eq.trans (rl_bipush (c := 16) (k := (nI 16)) (by decide +kernel) (by decide)) ?_
  refine Eq.trans (rl_icge (o := 24) 208 (by decide +kernel) (by decide)) ?_
  refine am_ite (fun h_1 => ?_) (fun h_1 => ?_)
  · skip
    refine Eq.trans (rl_aloadn (j := 1) (by decide +kernel) rfl) ?_
    refine Eq.trans (rl_iconst (c := 0) (k := (nI 0)) (by decide +kernel) (by decide)) ?_
    refine Eq.trans (rl_iconst (c := 5) (k := (nI 5)) (by decide +kernel) (by decide)) ?_
    refine Eq.trans (rl_ldcw (ix := 290) (k := (nI 77777777)) (by decide +kernel) (by decide +kernel)) ?_
    refine Eq.trans (rl_invS (ix := 232) (n := 4) (k := 1) 120 [am_P (3, 0, 0), am_I (nI 0), am_I (nI 5), am_I (nI 77777777)] [] (by decide +kernel) (by decide +kernel) (by decide) (by decide +kernel) ⟨rfl, rfl⟩ rfl rfl) ?_
    rfl
  · skip
    refine Eq.trans (rl_aloadn (j := 1) (by decide +kernel) rfl) ?_
    refine Eq.trans (rl_iconst (c := 0) (k := (nI 0)) (by decide +kernel) (by decide)) ?_
    refine Eq.trans (rl_iconst (c := 0) (k := (nI 0)) (by decide +kernel) (by decide)) ?_
    refine Eq.trans (rl_iconst (c := 1) (k := (nI 1)) (by decide +kernel) (by decide)) ?_
    refine Eq.trans (rl_invS (ix := 160) (n := 4) (k := 1) 115 [am_P (3, 0, 0), am_I (nI 0), am_I (nI 0), am_I (nI 1)] [] (by decide +kernel) (by decide +kernel) (by decide) (by decide +kernel) ⟨rfl, rfl⟩ rfl rfl) ?_
    rfl
theorem b227_196 {x2 s0 : Int32} {M : am_M} {w : am_W4}  : am_rn call 227 196 [some (am_P (0, 0, 0)), some (am_P (3, 0, 0)), some (am_I x2), none, none, none, none, none, none, none, none] [am_I s0] M (am_Z w) = if s0 = x2 then am_rn call 227 181 [some (am_P (0, 0, 0)), some (am_P (3, 0, 0)), some (am_I (x2 + (nI 1))), none, none, none, none, none, none, none, none] [] M (am_Z w) else some (.inl (some (am_I (nI 0))), M, (am_Z w)) := by
  refine Eq.trans (rl_iloadn (j := 2) (by decide +kernel) rfl) ?_
  refine Eq.trans (rl_iceq (o := 5) 202 (by decide +kernel) (by decide)) ?_
  refine am_ite (fun h_1 => ?_) (fun h_1 => ?_)
  · skip
    refine Eq.trans (rl_iinc (j := 2) (c := 1) (k := (nI 1)) (ls' := [some (am_P (0, 0, 0)), some (am_P (3, 0, 0)), some (am_I (x2 + (nI 1))), none, none, none, none, none, none, none, none]) (by decide +kernel) (by decide) rfl rfl) ?_
    refine Eq.trans (rl_goto (o := (-24)) 181 (by decide +kernel) (by decide)) ?_
    rfl
  · skip
    refine Eq.trans (rl_iconst (c := 0) (k := (nI 0)) (by decide +kernel) (by decide)) ?_
    exact rl_zretk (by decide +kernel) rfl rfl
theorem b227_215 {x2 s0 : Int32} {M : am_M} {w : am_W4}  : am_rn call 227 215 [some (am_P (0, 0, 0)), some (am_P (3, 0, 0)), some (am_I x2), none, none, none, none, none, none, none, none] [am_I s0] M (am_Z w) = if s0 = (-1001 : Int32) then am_cb (call 148 [am_P (3, 0, 0), am_I (nI 2), am_I (nI 6), am_I (nI 0)] M (am_Z w)) fun v M' X' => am_rn call 227 229 [some (am_P (0, 0, 0)), some (am_P (3, 0, 0)), some (am_I x2), none, none, none, none, none, none, none, none] (v.toList ++ []) M' X' else some (.inl (some (am_I (nI 0))), M, (am_Z w)) := by
  refine Eq.trans (rl_sipush (c := -1001) (k := (-1001 : Int32)) (by decide +kernel) (by decide)) ?_
  refine Eq.trans (rl_icne (o := 93) 311 (by decide +kernel) (by decide)) ?_
  refine am_ite (fun h_1 => ?_) (fun h_1 => ?_)
  · skip
    refine Eq.trans (rl_aloadn (j := 1) (by decide +kernel) rfl) ?_
    refine Eq.trans (rl_iconst (c := 2) (k := (nI 2)) (by decide +kernel) (by decide)) ?_
    refine Eq.trans (rl_bipush (c := 6) (k := (nI 6)) (by decide +kernel) (by decide)) ?_
    refine Eq.trans (rl_iconst (c := 0) (k := (nI 0)) (by decide +kernel) (by decide)) ?_
    refine Eq.trans (rl_invS (ix := 271) (n := 4) (k := 1) 148 [am_P (3, 0, 0), am_I (nI 2), am_I (nI 6), am_I (nI 0)] [] (by decide +kernel) (by decide +kernel) (by decide) (by decide +kernel) ⟨rfl, rfl⟩ rfl rfl) ?_
    rfl
  · skip
    refine Eq.trans (rl_iconst (c := 0) (k := (nI 0)) (by decide +kernel) (by decide)) ?_
    exact rl_zretk (by decide +kernel) rfl rfl
theorem b227_229 {x2 s0 : Int32} {M : am_M} {w : am_W4}  : am_rn call 227 229 [some (am_P (0, 0, 0)), some (am_P (3, 0, 0)), some (am_I x2), none, none, none, none, none, none, none, none] [am_I s0] M (am_Z w) = if s0 = 0 then some (.inl (some (am_I (nI 0))), M, (am_Z w)) else am_cb (call 120 [am_P (3, 0, 0), am_I (nI 0), am_I (nI 1), am_I (nI 7)] M (am_Z w)) fun v M' X' => am_rn call 227 240 [some (am_P (0, 0, 0)), some (am_P (3, 0, 0)), some (am_I x2), none, none, none, none, none, none, none, none] (v.toList ++ []) M' X' := by
  refine Eq.trans (rl_ifeq (o := 82) 311 (by decide +kernel) (by decide)) ?_
  refine am_ite (fun h_1 => ?_) (fun h_1 => ?_)
  · skip
    refine Eq.trans (rl_iconst (c := 0) (k := (nI 0)) (by decide +kernel) (by decide)) ?_
    exact rl_zretk (by decide +kernel) rfl rfl
  · skip
    refine Eq.trans (rl_aloadn (j := 1) (by decide +kernel) rfl) ?_
    refine Eq.trans (rl_iconst (c := 0) (k := (nI 0)) (by decide +kernel) (by decide)) ?_
    refine Eq.trans (rl_iconst (c := 1) (k := (nI 1)) (by decide +kernel) (by decide)) ?_
    refine Eq.trans (rl_bipush (c := 7) (k := (nI 7)) (by decide +kernel) (by decide)) ?_
    refine Eq.trans (rl_invS (ix := 232) (n := 4) (k := 1) 120 [am_P (3, 0, 0), am_I (nI 0), am_I (nI 1), am_I (nI 7)] [] (by decide +kernel) (by decide +kernel) (by decide) (by decide +kernel) ⟨rfl, rfl⟩ rfl rfl) ?_
    rfl
theorem b227_240 {x2 s0 : Int32} {M : am_M} {w : am_W4}  : am_rn call 227 240 [some (am_P (0, 0, 0)), some (am_P (3, 0, 0)), some (am_I x2), none, none, none, none, none, none, none, none] [am_I s0] M (am_Z w) = if s0 = (-1001 : Int32) then am_cb (call 148 [am_P (3, 0, 0), am_I (nI 2), am_I (nI 16), am_I (nI 0)] M (am_Z w)) fun v M' X' => am_rn call 227 254 [some (am_P (0, 0, 0)), some (am_P (3, 0, 0)), some (am_I x2), none, none, none, none, none, none, none, none] (v.toList ++ []) M' X' else some (.inl (some (am_I (nI 0))), M, (am_Z w)) := by
  refine Eq.trans (rl_sipush (c := -1001) (k := (-1001 : Int32)) (by decide +kernel) (by decide)) ?_
  refine Eq.trans (rl_icne (o := 68) 311 (by decide +kernel) (by decide)) ?_
  refine am_ite (fun h_1 => ?_) (fun h_1 => ?_)
  · skip
    refine Eq.trans (rl_aloadn (j := 1) (by decide +kernel) rfl) ?_
    refine Eq.trans (rl_iconst (c := 2) (k := (nI 2)) (by decide +kernel) (by decide)) ?_
    refine Eq.trans (rl_bipush (c := 16) (k := (nI 16)) (by decide +kernel) (by decide)) ?_
    refine Eq.trans (rl_iconst (c := 0) (k := (nI 0)) (by decide +kernel) (by decide)) ?_
    refine Eq.trans (rl_invS (ix := 271) (n := 4) (k := 1) 148 [am_P (3, 0, 0), am_I (nI 2), am_I (nI 16), am_I (nI 0)] [] (by decide +kernel) (by decide +kernel) (by decide) (by decide +kernel) ⟨rfl, rfl⟩ rfl rfl) ?_
    rfl
  · skip
    refine Eq.trans (rl_iconst (c := 0) (k := (nI 0)) (by decide +kernel) (by decide)) ?_
    exact rl_zretk (by decide +kernel) rfl rfl
theorem b227_254 {x2 s0 : Int32} {M : am_M} {w : am_W4}  : am_rn call 227 254 [some (am_P (0, 0, 0)), some (am_P (3, 0, 0)), some (am_I x2), none, none, none, none, none, none, none, none] [am_I s0] M (am_Z w) = if s0 = 0 then some (.inl (some (am_I (nI 0))), M, (am_Z w)) else am_cb (call 143 [am_P (3, 0, 0), am_I (nI 10)] M (am_Z w)) fun v M' X' => am_rn call 227 263 [some (am_P (0, 0, 0)), some (am_P (3, 0, 0)), some (am_I x2), none, none, none, none, none, none, none, none] (v.toList ++ []) M' X' := by
  refine Eq.trans (rl_ifeq (o := 57) 311 (by decide +kernel) (by decide)) ?_
  refine am_ite (fun h_1 => ?_) (fun h_1 => ?_)
  · skip
    refine Eq.trans (rl_iconst (c := 0) (k := (nI 0)) (by decide +kernel) (by decide)) ?_
    exact rl_zretk (by decide +kernel) rfl rfl
  · skip
    refine Eq.trans (rl_aloadn (j := 1) (by decide +kernel) rfl) ?_
    refine Eq.trans (rl_bipush (c := 10) (k := (nI 10)) (by decide +kernel) (by decide)) ?_
    refine Eq.trans (rl_invS (ix := 190) (n := 2) (k := 1) 143 [am_P (3, 0, 0), am_I (nI 10)] [] (by decide +kernel) (by decide +kernel) (by decide) (by decide +kernel) ⟨rfl, rfl⟩ rfl rfl) ?_
    rfl
theorem b227_263 {x2 s0 : Int32} {M : am_M} {w : am_W4}  : am_rn call 227 263 [some (am_P (0, 0, 0)), some (am_P (3, 0, 0)), some (am_I x2), none, none, none, none, none, none, none, none] [am_I s0] M (am_Z w) = if s0 = (nI 8) then am_cb (call 131 [am_P (3, 0, 0), am_I (nI 0), am_I (nI 1)] M (am_Z w)) fun v M' X' => am_rn call 227 274 [some (am_P (0, 0, 0)), some (am_P (3, 0, 0)), some (am_I x2), none, none, none, none, none, none, none, none] (v.toList ++ []) M' X' else some (.inl (some (am_I (nI 0))), M, (am_Z w)) := by
  refine Eq.trans (rl_bipush (c := 8) (k := (nI 8)) (by decide +kernel) (by decide)) ?_
  refine Eq.trans (rl_icne (o := 46) 311 (by decide +kernel) (by decide)) ?_
  refine am_ite (fun h_1 => ?_) (fun h_1 => ?_)
  · skip
    refine Eq.trans (rl_aloadn (j := 1) (by decide +kernel) rfl) ?_
    refine Eq.trans (rl_iconst (c := 0) (k := (nI 0)) (by decide +kernel) (by decide)) ?_
    refine Eq.trans (rl_iconst (c := 1) (k := (nI 1)) (by decide +kernel) (by decide)) ?_
    refine Eq.trans (rl_invS (ix := 196) (n := 3) (k := 1) 131 [am_P (3, 0, 0), am_I (nI 0), am_I (nI 1)] [] (by decide +kernel) (by decide +kernel) (by decide) (by decide +kernel) ⟨rfl, rfl⟩ rfl rfl) ?_
    rfl
  · skip
    refine Eq.trans (rl_iconst (c := 0) (k := (nI 0)) (by decide +kernel) (by decide)) ?_
    exact rl_zretk (by decide +kernel) rfl rfl
theorem b227_274 {x2 s0 : Int32} {M : am_M} {w : am_W4}  : am_rn call 227 274 [some (am_P (0, 0, 0)), some (am_P (3, 0, 0)), some (am_I x2), none, none, none, none, none, none, none, none] [am_I s0] M (am_Z w) = if s0 = (-3 : Int32) then am_cb (call 146 [am_P (3, 0, 0), am_I (nI 0), am_I (nI 1)] M (am_Z w)) fun v M' X' => am_rn call 227 285 [some (am_P (0, 0, 0)), some (am_P (3, 0, 0)), some (am_I x2), none, none, none, none, none, none, none, none] (v.toList ++ []) M' X' else some (.inl (some (am_I (nI 0))), M, (am_Z w)) := by
  refine Eq.trans (rl_bipush (c := -3) (k := (-3 : Int32)) (by decide +kernel) (by decide)) ?_
  refine Eq.trans (rl_icne (o := 35) 311 (by decide +kernel) (by decide)) ?_
  refine am_ite (fun h_1 => ?_) (fun h_1 => ?_)
  · skip
    refine Eq.trans (rl_aloadn (j := 1) (by decide +kernel) rfl) ?_
    refine Eq.trans (rl_iconst (c := 0) (k := (nI 0)) (by decide +kernel) (by decide)) ?_
    refine Eq.trans (rl_iconst (c := 1) (k := (nI 1)) (by decide +kernel) (by decide)) ?_
    refine Eq.trans (rl_invS (ix := 199) (n := 3) (k := 1) 146 [am_P (3, 0, 0), am_I (nI 0), am_I (nI 1)] [] (by decide +kernel) (by decide +kernel) (by decide) (by decide +kernel) ⟨rfl, rfl⟩ rfl rfl) ?_
    rfl
  · skip
    refine Eq.trans (rl_iconst (c := 0) (k := (nI 0)) (by decide +kernel) (by decide)) ?_
    exact rl_zretk (by decide +kernel) rfl rfl
theorem b227_285 {x2 s0 : Int32} {M : am_M} {w : am_W4}  : am_rn call 227 285 [some (am_P (0, 0, 0)), some (am_P (3, 0, 0)), some (am_I x2), none, none, none, none, none, none, none, none] [am_I s0] M (am_Z w) = if s0 = 0 then am_cb (call 123 [am_P (3, 0, 0), am_I (nI 0), am_I (nI 4)] M (am_Z w)) fun v M' X' => am_rn call 227 294 [some (am_P (0, 0, 0)), some (am_P (3, 0, 0)), some (am_I x2), none, none, none, none, none, none, none, none] (v.toList ++ []) M' X' else some (.inl (some (am_I (nI 0))), M, (am_Z w)) := by
  refine Eq.trans (rl_ifne (o := 26) 311 (by decide +kernel) (by decide)) ?_
  refine am_ite (fun h_1 => ?_) (fun h_1 => ?_)
  · skip
    refine Eq.trans (rl_aloadn (j := 1) (by decide +kernel) rfl) ?_
    refine Eq.trans (rl_iconst (c := 0) (k := (nI 0)) (by decide +kernel) (by decide)) ?_
    refine Eq.trans (rl_iconst (c := 4) (k := (nI 4)) (by decide +kernel) (by decide)) ?_
    refine Eq.trans (rl_invS (ix := 192) (n := 3) (k := 1) 123 [am_P (3, 0, 0), am_I (nI 0), am_I (nI 4)] [] (by decide +kernel) (by decide +kernel) (by decide) (by decide +kernel) ⟨rfl, rfl⟩ rfl rfl) ?_
    rfl
  · skip
    refine Eq.trans (rl_iconst (c := 0) (k := (nI 0)) (by decide +kernel) (by decide)) ?_
    exact rl_zretk (by decide +kernel) rfl rfl
theorem b227_294 {x2 s0 : Int32} {M : am_M} {w : am_W4}  : am_rn call 227 294 [some (am_P (0, 0, 0)), some (am_P (3, 0, 0)), some (am_I x2), none, none, none, none, none, none, none, none] [am_I s0] M (am_Z w) = if s0 = (nI 16) then am_cb (call 129 [am_P (3, 0, 0), am_I (nI 0), am_I (nI 15)] M (am_Z w)) fun v M' X' => am_rn call 227 306 [some (am_P (0, 0, 0)), some (am_P (3, 0, 0)), some (am_I x2), none, none, none, none, none, none, none, none] (v.toList ++ []) M' X' else some (.inl (some (am_I (nI 0))), M, (am_Z w)) := by
  refine Eq.trans (rl_bipush (c := 16) (k := (nI 16)) (by decide +kernel) (by decide)) ?_
  refine Eq.trans (rl_icne (o := 15) 311 (by decide +kernel) (by decide)) ?_
  refine am_ite (fun h_1 => ?_) (fun h_1 => ?_)
  · skip
    refine Eq.trans (rl_aloadn (j := 1) (by decide +kernel) rfl) ?_
    refine Eq.trans (rl_iconst (c := 0) (k := (nI 0)) (by decide +kernel) (by decide)) ?_
    refine Eq.trans (rl_bipush (c := 15) (k := (nI 15)) (by decide +kernel) (by decide)) ?_
    refine Eq.trans (rl_invS (ix := 194) (n := 3) (k := 1) 129 [am_P (3, 0, 0), am_I (nI 0), am_I (nI 15)] [] (by decide +kernel) (by decide +kernel) (by decide) (by decide +kernel) ⟨rfl, rfl⟩ rfl rfl) ?_
    rfl
  · skip
    refine Eq.trans (rl_iconst (c := 0) (k := (nI 0)) (by decide +kernel) (by decide)) ?_
    exact rl_zretk (by decide +kernel) rfl rfl
theorem b227_306 {x2 s0 : Int32} {M : am_M} {w : am_W4}  : am_rn call 227 306 [some (am_P (0, 0, 0)), some (am_P (3, 0, 0)), some (am_I x2), none, none, none, none, none, none, none, none] [am_I s0] M (am_Z w) = if s0 = (nI 15) then am_cb (call 122 [am_P (3, 0, 0), am_I (nI 24)] M (am_Z w)) fun v M' X' => am_rn call 227 319 [some (am_P (0, 0, 0)), some (am_P (3, 0, 0)), some (am_I x2), none, none, none, none, none, none, none, none] (v.toList ++ []) M' X' else some (.inl (some (am_I (nI 0))), M, (am_Z w)) := by
  refine Eq.trans (rl_bipush (c := 15) (k := (nI 15)) (by decide +kernel) (by decide)) ?_
  refine Eq.trans (rl_iceq (o := 5) 313 (by decide +kernel) (by decide)) ?_
  refine am_ite (fun h_1 => ?_) (fun h_1 => ?_)
  · skip
    refine Eq.trans (rl_aloadn (j := 1) (by decide +kernel) rfl) ?_
    refine Eq.trans (rl_bipush (c := 24) (k := (nI 24)) (by decide +kernel) (by decide)) ?_
    refine Eq.trans (rl_invS (ix := 236) (n := 2) (k := 1) 122 [am_P (3, 0, 0), am_I (nI 24)] [] (by decide +kernel) (by decide +kernel) (by decide) (by decide +kernel) ⟨rfl, rfl⟩ rfl rfl) ?_
    rfl
  · skip
    refine Eq.trans (rl_iconst (c := 0) (k := (nI 0)) (by decide +kernel) (by decide)) ?_
    exact rl_zretk (by decide +kernel) rfl rfl
theorem b227_319 {x2 s0 : Int32} {M : am_M} {w : am_W4}  : am_rn call 227 319 [some (am_P (0, 0, 0)), some (am_P (3, 0, 0)), some (am_I x2), none, none, none, none, none, none, none, none] [am_I s0] M (am_Z w) = if s0 = 0 then am_cb (call 126 [am_P (3, 0, 0), am_I (nI 0), am_I (nI 2)] M (am_Z w)) fun v M' X' => am_rn call 227 328 [some (am_P (0, 0, 0)), some (am_P (3, 0, 0)), some (am_I x2), none, none, none, none, none, none, none, none] (v.toList ++ []) M' X' else some (.inl (some (am_I (nI 0))), M, (am_Z w)) := by
  refine Eq.trans (rl_ifne (o := 155) 474 (by decide +kernel) (by decide)) ?_
  refine am_ite (fun h_1 => ?_) (fun h_1 => ?_)
  · skip
    refine Eq.trans (rl_aloadn (j := 1) (by decide +kernel) rfl) ?_
    refine Eq.trans (rl_iconst (c := 0) (k := (nI 0)) (by decide +kernel) (by decide)) ?_
    refine Eq.trans (rl_iconst (c := 2) (k := (nI 2)) (by decide +kernel) (by decide)) ?_
    refine Eq.trans (rl_invS (ix := 207) (n := 3) (k := 1) 126 [am_P (3, 0, 0), am_I (nI 0), am_I (nI 2)] [] (by decide +kernel) (by decide +kernel) (by decide) (by decide +kernel) ⟨rfl, rfl⟩ rfl rfl) ?_
    rfl
  · skip
    refine Eq.trans (rl_iconst (c := 0) (k := (nI 0)) (by decide +kernel) (by decide)) ?_
    exact rl_zretk (by decide +kernel) rfl rfl
theorem b227_328 {x2 s0 : Int32} {M : am_M} {w : am_W4}  : am_rn call 227 328 [some (am_P (0, 0, 0)), some (am_P (3, 0, 0)), some (am_I x2), none, none, none, none, none, none, none, none] [am_I s0] M (am_Z w) = if s0 = (nI 1) then am_cb (call 126 [am_P (3, 0, 0), am_I (nI 0), am_I (nI 4)] M (am_Z w)) fun v M' X' => am_rn call 227 338 [some (am_P (0, 0, 0)), some (am_P (3, 0, 0)), some (am_I x2), none, none, none, none, none, none, none, none] (v.toList ++ []) M' X' else some (.inl (some (am_I (nI 0))), M, (am_Z w)) := by
  refine Eq.trans (rl_iconst (c := 1) (k := (nI 1)) (by decide +kernel) (by decide)) ?_
  refine Eq.trans (rl_icne (o := 145) 474 (by decide +kernel) (by decide)) ?_
  refine am_ite (fun h_1 => ?_) (fun h_1 => ?_)
  · skip
    refine Eq.trans (rl_aloadn (j := 1) (by decide +kernel) rfl) ?_
    refine Eq.trans (rl_iconst (c := 0) (k := (nI 0)) (by decide +kernel) (by decide)) ?_
    refine Eq.trans (rl_iconst (c := 4) (k := (nI 4)) (by decide +kernel) (by decide)) ?_
    refine Eq.trans (rl_invS (ix := 207) (n := 3) (k := 1) 126 [am_P (3, 0, 0), am_I (nI 0), am_I (nI 4)] [] (by decide +kernel) (by decide +kernel) (by decide) (by decide +kernel) ⟨rfl, rfl⟩ rfl rfl) ?_
    rfl
  · skip
    refine Eq.trans (rl_iconst (c := 0) (k := (nI 0)) (by decide +kernel) (by decide)) ?_
    exact rl_zretk (by decide +kernel) rfl rfl
theorem b227_338 {x2 s0 : Int32} {M : am_M} {w : am_W4}  : am_rn call 227 338 [some (am_P (0, 0, 0)), some (am_P (3, 0, 0)), some (am_I x2), none, none, none, none, none, none, none, none] [am_I s0] M (am_Z w) = if s0 = (nI 8) then am_cb (call 95 [am_P (3, 0, 0)] M (am_Z w)) fun v M' X' => am_rn call 227 347 [some (am_P (0, 0, 0)), some (am_P (3, 0, 0)), some (am_I x2), none, none, none, none, none, none, none, none] (v.toList ++ []) M' X' else some (.inl (some (am_I (nI 0))), M, (am_Z w)) := by
  refine Eq.trans (rl_bipush (c := 8) (k := (nI 8)) (by decide +kernel) (by decide)) ?_
  refine Eq.trans (rl_icne (o := 134) 474 (by decide +kernel) (by decide)) ?_
  refine am_ite (fun h_1 => ?_) (fun h_1 => ?_)
  · skip
    refine Eq.trans (rl_aloadn (j := 1) (by decide +kernel) rfl) ?_
    refine Eq.trans (rl_inv (ix := 221) (n := 0) (o := 8) 95 [] [] (by decide +kernel) (by decide +kernel) (by decide +kernel) (by decide +kernel) ⟨rfl, rfl⟩ rfl rfl ck3) ?_
    rfl
  · skip
    refine Eq.trans (rl_iconst (c := 0) (k := (nI 0)) (by decide +kernel) (by decide)) ?_
    exact rl_zretk (by decide +kernel) rfl rfl
theorem b227_347 {x2 s0 : Int32} {M : am_M} {w : am_W4}  : am_rn call 227 347 [some (am_P (0, 0, 0)), some (am_P (3, 0, 0)), some (am_I x2), none, none, none, none, none, none, none, none] [am_I s0] M (am_Z w) = if s0 = (nI 8) then am_cb (call 123 [am_P (3, 0, 0), am_I (nI 1), am_I (nI 6)] M (am_Z w)) fun v M' X' => am_rn call 227 359 [some (am_P (0, 0, 0)), some (am_P (3, 0, 0)), some (am_I x2), none, none, none, none, none, none, none, none] (v.toList ++ []) M' X' else some (.inl (some (am_I (nI 0))), M, (am_Z w)) := by
  refine Eq.trans (rl_bipush (c := 8) (k := (nI 8)) (by decide +kernel) (by decide)) ?_
  refine Eq.trans (rl_icne (o := 125) 474 (by decide +kernel) (by decide)) ?_
  refine am_ite (fun h_1 => ?_) (fun h_1 => ?_)
  · skip
    refine Eq.trans (rl_aloadn (j := 1) (by decide +kernel) rfl) ?_
    refine Eq.trans (rl_iconst (c := 1) (k := (nI 1)) (by decide +kernel) (by decide)) ?_
    refine Eq.trans (rl_bipush (c := 6) (k := (nI 6)) (by decide +kernel) (by decide)) ?_
    refine Eq.trans (rl_invS (ix := 192) (n := 3) (k := 1) 123 [am_P (3, 0, 0), am_I (nI 1), am_I (nI 6)] [] (by decide +kernel) (by decide +kernel) (by decide) (by decide +kernel) ⟨rfl, rfl⟩ rfl rfl) ?_
    rfl
  · skip
    refine Eq.trans (rl_iconst (c := 0) (k := (nI 0)) (by decide +kernel) (by decide)) ?_
    exact rl_zretk (by decide +kernel) rfl rfl
theorem b227_359 {x2 s0 : Int32} {M : am_M} {w : am_W4}  : am_rn call 227 359 [some (am_P (0, 0, 0)), some (am_P (3, 0, 0)), some (am_I x2), none, none, none, none, none, none, none, none] [am_I s0] M (am_Z w) = if s0 = (nI 8) then am_cb (call 133 [am_P (3, 0, 0), am_I (nI 0)] M (am_Z w)) fun v M' X' => am_rn call 227 369 [some (am_P (0, 0, 0)), some (am_P (3, 0, 0)), some (am_I x2), none, none, none, none, none, none, none, none] (v.toList ++ []) M' X' else some (.inl (some (am_I (nI 0))), M, (am_Z w)) := by
  refine Eq.trans (rl_bipush (c := 8) (k := (nI 8)) (by decide +kernel) (by decide)) ?_
  refine Eq.trans (rl_icne (o := 113) 474 (by decide +kernel) (by decide)) ?_
  refine am_ite (fun h_1 => ?_) (fun h_1 => ?_)
  · skip
    refine Eq.trans (rl_aloadn (j := 1) (by decide +kernel) rfl) ?_
    refine Eq.trans (rl_iconst (c := 0) (k := (nI 0)) (by decide +kernel) (by decide)) ?_
    refine Eq.trans (rl_invS (ix := 217) (n := 2) (k := 1) 133 [am_P (3, 0, 0), am_I (nI 0)] [] (by decide +kernel) (by decide +kernel) (by decide) (by decide +kernel) ⟨rfl, rfl⟩ rfl rfl) ?_
    rfl
  · skip
    refine Eq.trans (rl_iconst (c := 0) (k := (nI 0)) (by decide +kernel) (by decide)) ?_
    exact rl_zretk (by decide +kernel) rfl rfl
theorem b227_369 {x2 s0 : Int32} {M : am_M} {w : am_W4}  : am_rn call 227 369 [some (am_P (0, 0, 0)), some (am_P (3, 0, 0)), some (am_I x2), none, none, none, none, none, none, none, none] [am_I s0] M (am_Z w) = if s0 = (nI 32) then am_cb (call 134 [am_P (3, 0, 0), am_I (nI 1)] M (am_Z w)) fun v M' X' => am_rn call 227 379 [some (am_P (0, 0, 0)), some (am_P (3, 0, 0)), some (am_I x2), none, none, none, none, none, none, none, none] (v.toList ++ []) M' X' else some (.inl (some (am_I (nI 0))), M, (am_Z w)) := by
  refine Eq.trans (rl_bipush (c := 32) (k := (nI 32)) (by decide +kernel) (by decide)) ?_
  refine Eq.trans (rl_icne (o := 103) 474 (by decide +kernel) (by decide)) ?_
  refine am_ite (fun h_1 => ?_) (fun h_1 => ?_)
  · skip
    refine Eq.trans (rl_aloadn (j := 1) (by decide +kernel) rfl) ?_
    refine Eq.trans (rl_iconst (c := 1) (k := (nI 1)) (by decide +kernel) (by decide)) ?_
    refine Eq.trans (rl_invS (ix := 219) (n := 2) (k := 1) 134 [am_P (3, 0, 0), am_I (nI 1)] [] (by decide +kernel) (by decide +kernel) (by decide) (by decide +kernel) ⟨rfl, rfl⟩ rfl rfl) ?_
    rfl
  · skip
    refine Eq.trans (rl_iconst (c := 0) (k := (nI 0)) (by decide +kernel) (by decide)) ?_
    exact rl_zretk (by decide +kernel) rfl rfl
theorem b227_379 {x2 s0 : Int32} {M : am_M} {w : am_W4}  : am_rn call 227 379 [some (am_P (0, 0, 0)), some (am_P (3, 0, 0)), some (am_I x2), none, none, none, none, none, none, none, none] [am_I s0] M (am_Z w) = if s0 = (nI 8) then am_cb (call 122 [am_P (3, 0, 0), am_I (nI 32)] M (am_Z w)) fun v M' X' => am_rn call 227 390 [some (am_P (0, 0, 0)), some (am_P (3, 0, 0)), some (am_I x2), none, none, none, none, none, none, none, none] (v.toList ++ []) M' X' else some (.inl (some (am_I (nI 0))), M, (am_Z w)) := by
  refine Eq.trans (rl_bipush (c := 8) (k := (nI 8)) (by decide +kernel) (by decide)) ?_
  refine Eq.trans (rl_icne (o := 93) 474 (by decide +kernel) (by decide)) ?_
  refine am_ite (fun h_1 => ?_) (fun h_1 => ?_)
  · skip
    refine Eq.trans (rl_aloadn (j := 1) (by decide +kernel) rfl) ?_
    refine Eq.trans (rl_bipush (c := 32) (k := (nI 32)) (by decide +kernel) (by decide)) ?_
    refine Eq.trans (rl_invS (ix := 236) (n := 2) (k := 1) 122 [am_P (3, 0, 0), am_I (nI 32)] [] (by decide +kernel) (by decide +kernel) (by decide) (by decide +kernel) ⟨rfl, rfl⟩ rfl rfl) ?_
    rfl
  · skip
    refine Eq.trans (rl_iconst (c := 0) (k := (nI 0)) (by decide +kernel) (by decide)) ?_
    exact rl_zretk (by decide +kernel) rfl rfl
theorem b227_390 {x2 s0 : Int32} {M : am_M} {w : am_W4}  : am_rn call 227 390 [some (am_P (0, 0, 0)), some (am_P (3, 0, 0)), some (am_I x2), none, none, none, none, none, none, none, none] [am_I s0] M (am_Z w) = if s0 = (nI 1) then am_cb (call 130 [am_P (3, 0, 0), am_I (nI 0)] M (am_Z w)) fun v M' X' => am_rn call 227 399 [some (am_P (0, 0, 0)), some (am_P (3, 0, 0)), some (am_I x2), none, none, none, none, none, none, none, none] (v.toList ++ []) M' X' else some (.inl (some (am_I (nI 0))), M, (am_Z w)) := by
  refine Eq.trans (rl_iconst (c := 1) (k := (nI 1)) (by decide +kernel) (by decide)) ?_
  refine Eq.trans (rl_icne (o := 83) 474 (by decide +kernel) (by decide)) ?_
  refine am_ite (fun h_1 => ?_) (fun h_1 => ?_)
  · skip
    refine Eq.trans (rl_aloadn (j := 1) (by decide +kernel) rfl) ?_
    refine Eq.trans (rl_iconst (c := 0) (k := (nI 0)) (by decide +kernel) (by decide)) ?_
    refine Eq.trans (rl_invS (ix := 215) (n := 2) (k := 1) 130 [am_P (3, 0, 0), am_I (nI 0)] [] (by decide +kernel) (by decide +kernel) (by decide) (by decide +kernel) ⟨rfl, rfl⟩ rfl rfl) ?_
    rfl
  · skip
    refine Eq.trans (rl_iconst (c := 0) (k := (nI 0)) (by decide +kernel) (by decide)) ?_
    exact rl_zretk (by decide +kernel) rfl rfl
theorem b227_399 {x2 s0 : Int32} {M : am_M} {w : am_W4} (hw : w.2.2.2 = none) : am_rn call 227 399 [some (am_P (0, 0, 0)), some (am_P (3, 0, 0)), some (am_I x2), none, none, none, none, none, none, none, none] [am_I s0] M (am_Z w) = if s0 = 0 then am_bs 410 [some (am_P (0, 0, 0)), some (am_P (3, 0, 0)), some (am_I x2), none, none, none, none, none, none, none, none] [] (call 149 [am_P (3, 0, 0), am_I (nI 0), am_P (50, 0, 0)] M (am_Z (w.1, w.2.1, w.2.2.1, some (am_lit 8)))) (0, 0) (am_rn call 227) else some (.inl (some (am_I (nI 0))), M, (am_Z w)) := by
  refine Eq.trans (rl_ifne (o := 75) 474 (by decide +kernel) (by decide)) ?_
  refine am_ite (fun h_1 => ?_) (fun h_1 => ?_)
  · skip
    refine Eq.trans (rl_aloadn (j := 1) (by decide +kernel) rfl) ?_
    refine Eq.trans (rl_iconst (c := 0) (k := (nI 0)) (by decide +kernel) (by decide)) ?_
    refine Eq.trans (rl_sc (ix := 291) (ix2 := 293) (k := 8) (y := 149) (n := 2) [am_P (3, 0, 0), am_I (nI 0)] [] (by decide +kernel) (by decide +kernel) (by decide +kernel) (by decide +kernel) (by decide +kernel) (by decide +kernel) (by decide +kernel) rfl rfl ⟨rfl, rfl⟩) ?_
    exact if_pos hw
  · skip
    refine Eq.trans (rl_iconst (c := 0) (k := (nI 0)) (by decide +kernel) (by decide)) ?_
    exact rl_zretk (by decide +kernel) rfl rfl
theorem b227_410 {x2 s0 : Int32} {M : am_M} {w : am_W4}  : am_rn call 227 410 [some (am_P (0, 0, 0)), some (am_P (3, 0, 0)), some (am_I x2), none, none, none, none, none, none, none, none] [am_I s0] M (am_Z w) = if s0 = 0 then some (.inl (some (am_I (nI 0))), M, (am_Z w)) else am_cb (call 123 [am_P (3, 0, 0), am_I (nI 2), am_I (nI 6)] M (am_Z w)) fun v M' X' => am_rn call 227 420 [some (am_P (0, 0, 0)), some (am_P (3, 0, 0)), some (am_I x2), none, none, none, none, none, none, none, none] (v.toList ++ []) M' X' := by
  refine Eq.trans (rl_ifeq (o := 64) 474 (by decide +kernel) (by decide)) ?_
  refine am_ite (fun h_1 => ?_) (fun h_1 => ?_)
  · skip
    refine Eq.trans (rl_iconst (c := 0) (k := (nI 0)) (by decide +kernel) (by decide)) ?_
    exact rl_zretk (by decide +kernel) rfl rfl
  · skip
    refine Eq.trans (rl_aloadn (j := 1) (by decide +kernel) rfl) ?_
    refine Eq.trans (rl_iconst (c := 2) (k := (nI 2)) (by decide +kernel) (by decide)) ?_
    refine Eq.trans (rl_bipush (c := 6) (k := (nI 6)) (by decide +kernel) (by decide)) ?_
    refine Eq.trans (rl_invS (ix := 192) (n := 3) (k := 1) 123 [am_P (3, 0, 0), am_I (nI 2), am_I (nI 6)] [] (by decide +kernel) (by decide +kernel) (by decide) (by decide +kernel) ⟨rfl, rfl⟩ rfl rfl) ?_
    rfl
theorem b227_420 {x2 s0 : Int32} {M : am_M} {w : am_W4}  : am_rn call 227 420 [some (am_P (0, 0, 0)), some (am_P (3, 0, 0)), some (am_I x2), none, none, none, none, none, none, none, none] [am_I s0] M (am_Z w) = if s0 = 0 then am_cb (call 142 [am_P (3, 0, 0)] M (am_Z w)) fun v M' X' => am_rn call 227 427 [some (am_P (0, 0, 0)), some (am_P (3, 0, 0)), some (am_I x2), none, none, none, none, none, none, none, none] (v.toList ++ []) M' X' else some (.inl (some (am_I (nI 0))), M, (am_Z w)) := by
  refine Eq.trans (rl_ifne (o := 54) 474 (by decide +kernel) (by decide)) ?_
  refine am_ite (fun h_1 => ?_) (fun h_1 => ?_)
  · skip
    refine Eq.trans (rl_aloadn (j := 1) (by decide +kernel) rfl) ?_
    refine Eq.trans (rl_invS (ix := 172) (n := 1) (k := 1) 142 [am_P (3, 0, 0)] [] (by decide +kernel) (by decide +kernel) (by decide) (by decide +kernel) ⟨rfl, rfl⟩ rfl rfl) ?_
    rfl
  · skip
    refine Eq.trans (rl_iconst (c := 0) (k := (nI 0)) (by decide +kernel) (by decide)) ?_
    exact rl_zretk (by decide +kernel) rfl rfl
theorem b227_427 {x2 : Int32} {s0 : UInt64} {M : am_M} {w : am_W4}  : am_rn call 227 427 [some (am_P (0, 0, 0)), some (am_P (3, 0, 0)), some (am_I x2), none, none, none, none, none, none, none, none] [.inl (.double s0)] M (am_Z w) = if (Op.cmpValue (FP.dcmp s0 (4594234569871327232 : UInt64)) .l) = 0 then am_cb (call 126 [am_P (3, 0, 0), am_I (nI 1), am_I (nI 2)] M (am_Z w)) fun v M' X' => am_rn call 227 440 [some (am_P (0, 0, 0)), some (am_P (3, 0, 0)), some (am_I x2), none, none, none, none, none, none, none, none] (v.toList ++ []) M' X' else some (.inl (some (am_I (nI 0))), M, (am_Z w)) := by
  refine Eq.trans (rl_ldc2d (ix := 297) (k := (4594234569871327232 : UInt64)) (by decide +kernel) (by decide +kernel) (by decide +kernel)) ?_
  refine Eq.trans (rl_dcmp (op := .l) (by decide +kernel)) ?_
  refine Eq.trans (rl_ifne (o := 43) 474 (by decide +kernel) (by decide)) ?_
  refine am_ite (fun h_1 => ?_) (fun h_1 => ?_)
  · skip
    refine Eq.trans (rl_aloadn (j := 1) (by decide +kernel) rfl) ?_
    refine Eq.trans (rl_iconst (c := 1) (k := (nI 1)) (by decide +kernel) (by decide)) ?_
    refine Eq.trans (rl_iconst (c := 2) (k := (nI 2)) (by decide +kernel) (by decide)) ?_
    refine Eq.trans (rl_invS (ix := 207) (n := 3) (k := 1) 126 [am_P (3, 0, 0), am_I (nI 1), am_I (nI 2)] [] (by decide +kernel) (by decide +kernel) (by decide) (by decide +kernel) ⟨rfl, rfl⟩ rfl rfl) ?_
    rfl
  · skip
    refine Eq.trans (rl_iconst (c := 0) (k := (nI 0)) (by decide +kernel) (by decide)) ?_
    exact rl_zretk (by decide +kernel) rfl rfl
theorem b227_440 {x2 s0 : Int32} {M : am_M} {w : am_W4}  : am_rn call 227 440 [some (am_P (0, 0, 0)), some (am_P (3, 0, 0)), some (am_I x2), none, none, none, none, none, none, none, none] [am_I s0] M (am_Z w) = if s0 = (nI 2) then am_cb (call 126 [am_P (3, 0, 0), am_I (nI 2), am_I (nI 4)] M (am_Z w)) fun v M' X' => am_rn call 227 450 [some (am_P (0, 0, 0)), some (am_P (3, 0, 0)), some (am_I x2), none, none, none, none, none, none, none, none] (v.toList ++ []) M' X' else some (.inl (some (am_I (nI 0))), M, (am_Z w)) := by
  refine Eq.trans (rl_iconst (c := 2) (k := (nI 2)) (by decide +kernel) (by decide)) ?_
  refine Eq.trans (rl_icne (o := 33) 474 (by decide +kernel) (by decide)) ?_
  refine am_ite (fun h_1 => ?_) (fun h_1 => ?_)
  · skip
    refine Eq.trans (rl_aloadn (j := 1) (by decide +kernel) rfl) ?_
    refine Eq.trans (rl_iconst (c := 2) (k := (nI 2)) (by decide +kernel) (by decide)) ?_
    refine Eq.trans (rl_iconst (c := 4) (k := (nI 4)) (by decide +kernel) (by decide)) ?_
    refine Eq.trans (rl_invS (ix := 207) (n := 3) (k := 1) 126 [am_P (3, 0, 0), am_I (nI 2), am_I (nI 4)] [] (by decide +kernel) (by decide +kernel) (by decide) (by decide +kernel) ⟨rfl, rfl⟩ rfl rfl) ?_
    rfl
  · skip
    refine Eq.trans (rl_iconst (c := 0) (k := (nI 0)) (by decide +kernel) (by decide)) ?_
    exact rl_zretk (by decide +kernel) rfl rfl
theorem b227_450 {x2 s0 : Int32} {M : am_M} {w : am_W4}  : am_rn call 227 450 [some (am_P (0, 0, 0)), some (am_P (3, 0, 0)), some (am_I x2), none, none, none, none, none, none, none, none] [am_I s0] M (am_Z w) = if s0 = (nI 2) then am_cb (call 126 [am_P (3, 0, 0), am_I (nI 2), am_I (nI 6)] M (am_Z w)) fun v M' X' => am_rn call 227 461 [some (am_P (0, 0, 0)), some (am_P (3, 0, 0)), some (am_I x2), none, none, none, none, none, none, none, none] (v.toList ++ []) M' X' else some (.inl (some (am_I (nI 0))), M, (am_Z w)) := by
  refine Eq.trans (rl_iconst (c := 2) (k := (nI 2)) (by decide +kernel) (by decide)) ?_
  refine Eq.trans (rl_icne (o := 23) 474 (by decide +kernel) (by decide)) ?_
  refine am_ite (fun h_1 => ?_) (fun h_1 => ?_)
  · skip
    refine Eq.trans (rl_aloadn (j := 1) (by decide +kernel) rfl) ?_
    refine Eq.trans (rl_iconst (c := 2) (k := (nI 2)) (by decide +kernel) (by decide)) ?_
    refine Eq.trans (rl_bipush (c := 6) (k := (nI 6)) (by decide +kernel) (by decide)) ?_
    refine Eq.trans (rl_invS (ix := 207) (n := 3) (k := 1) 126 [am_P (3, 0, 0), am_I (nI 2), am_I (nI 6)] [] (by decide +kernel) (by decide +kernel) (by decide) (by decide +kernel) ⟨rfl, rfl⟩ rfl rfl) ?_
    rfl
  · skip
    refine Eq.trans (rl_iconst (c := 0) (k := (nI 0)) (by decide +kernel) (by decide)) ?_
    exact rl_zretk (by decide +kernel) rfl rfl
theorem b227_461 {x2 s0 : Int32} {M : am_M} {w : am_W4}  : am_rn call 227 461 [some (am_P (0, 0, 0)), some (am_P (3, 0, 0)), some (am_I x2), none, none, none, none, none, none, none, none] [am_I s0] M (am_Z w) = if s0 = (nI 2) then am_cb (call 135 [am_P (3, 0, 0), am_I (nI 0)] M (am_Z w)) fun v M' X' => am_rn call 227 470 [some (am_P (0, 0, 0)), some (am_P (3, 0, 0)), some (am_I x2), none, none, none, none, none, none, none, none] (v.toList ++ []) M' X' else some (.inl (some (am_I (nI 0))), M, (am_Z w)) := by
  refine Eq.trans (rl_iconst (c := 2) (k := (nI 2)) (by decide +kernel) (by decide)) ?_
  refine Eq.trans (rl_icne (o := 12) 474 (by decide +kernel) (by decide)) ?_
  refine am_ite (fun h_1 => ?_) (fun h_1 => ?_)
  · skip
    refine Eq.trans (rl_aloadn (j := 1) (by decide +kernel) rfl) ?_
    refine Eq.trans (rl_iconst (c := 0) (k := (nI 0)) (by decide +kernel) (by decide)) ?_
    refine Eq.trans (rl_invS (ix := 213) (n := 2) (k := 1) 135 [am_P (3, 0, 0), am_I (nI 0)] [] (by decide +kernel) (by decide +kernel) (by decide) (by decide +kernel) ⟨rfl, rfl⟩ rfl rfl) ?_
    rfl
  · skip
    refine Eq.trans (rl_iconst (c := 0) (k := (nI 0)) (by decide +kernel) (by decide)) ?_
    exact rl_zretk (by decide +kernel) rfl rfl
theorem b227_470 {x2 s0 : Int32} {M : am_M} {w : am_W4}  : am_rn call 227 470 [some (am_P (0, 0, 0)), some (am_P (3, 0, 0)), some (am_I x2), none, none, none, none, none, none, none, none] [am_I s0] M (am_Z w) = if s0 = (nI 1) then am_cb (call 145 [am_P (3, 0, 0)] M (am_Z w)) fun v M' X' => am_rn call 227 480 [some (am_P (0, 0, 0)), some (am_P (3, 0, 0)), some (am_I x2), none, none, none, none, none, none, none, none] (v.toList ++ []) M' X' else some (.inl (some (am_I (nI 0))), M, (am_Z w)) := by
  refine Eq.trans (rl_iconst (c := 1) (k := (nI 1)) (by decide +kernel) (by decide)) ?_
  refine Eq.trans (rl_iceq (o := 5) 476 (by decide +kernel) (by decide)) ?_
  refine am_ite (fun h_1 => ?_) (fun h_1 => ?_)
  · skip
    refine Eq.trans (rl_aloadn (j := 1) (by decide +kernel) rfl) ?_
    refine Eq.trans (rl_invS (ix := 285) (n := 1) (k := 1) 145 [am_P (3, 0, 0)] [] (by decide +kernel) (by decide +kernel) (by decide) (by decide +kernel) ⟨rfl, rfl⟩ rfl rfl) ?_
    rfl
  · skip
    refine Eq.trans (rl_iconst (c := 0) (k := (nI 0)) (by decide +kernel) (by decide)) ?_
    exact rl_zretk (by decide +kernel) rfl rfl
theorem b227_480 {x2 s0 : Int32} {M : am_M} {w : am_W4}  : am_rn call 227 480 [some (am_P (0, 0, 0)), some (am_P (3, 0, 0)), some (am_I x2), none, none, none, none, none, none, none, none] [am_I s0] M (am_Z w) = if s0 = 0 then am_cb (call 143 [am_P (3, 0, 0), am_I (nI 0)] M (am_Z w)) fun v M' X' => am_rn call 227 488 [some (am_P (0, 0, 0)), some (am_P (3, 0, 0)), some (am_I x2), none, none, none, none, none, none, none, none] (v.toList ++ []) M' X' else some (.inl (some (am_I (nI 0))), M, (am_Z w)) := by
  refine Eq.trans (rl_ifne (o := 29) 509 (by decide +kernel) (by decide)) ?_
  refine am_ite (fun h_1 => ?_) (fun h_1 => ?_)
  · skip
    refine Eq.trans (rl_aloadn (j := 1) (by decide +kernel) rfl) ?_
    refine Eq.trans (rl_iconst (c := 0) (k := (nI 0)) (by decide +kernel) (by decide)) ?_
    refine Eq.trans (rl_invS (ix := 190) (n := 2) (k := 1) 143 [am_P (3, 0, 0), am_I (nI 0)] [] (by decide +kernel) (by decide +kernel) (by decide) (by decide +kernel) ⟨rfl, rfl⟩ rfl rfl) ?_
    rfl
  · skip
    refine Eq.trans (rl_iconst (c := 0) (k := (nI 0)) (by decide +kernel) (by decide)) ?_
    exact rl_zretk (by decide +kernel) rfl rfl
theorem b227_488 {x2 s0 : Int32} {M : am_M} {w : am_W4}  : am_rn call 227 488 [some (am_P (0, 0, 0)), some (am_P (3, 0, 0)), some (am_I x2), none, none, none, none, none, none, none, none] [am_I s0] M (am_Z w) = if s0 = 0 then am_cb (call 143 [am_P (3, 0, 0), am_I (nI 2)] M (am_Z w)) fun v M' X' => am_rn call 227 496 [some (am_P (0, 0, 0)), some (am_P (3, 0, 0)), some (am_I x2), none, none, none, none, none, none, none, none] (v.toList ++ []) M' X' else some (.inl (some (am_I (nI 0))), M, (am_Z w)) := by
  refine Eq.trans (rl_ifne (o := 21) 509 (by decide +kernel) (by decide)) ?_
  refine am_ite (fun h_1 => ?_) (fun h_1 => ?_)
  · skip
    refine Eq.trans (rl_aloadn (j := 1) (by decide +kernel) rfl) ?_
    refine Eq.trans (rl_iconst (c := 2) (k := (nI 2)) (by decide +kernel) (by decide)) ?_
    refine Eq.trans (rl_invS (ix := 190) (n := 2) (k := 1) 143 [am_P (3, 0, 0), am_I (nI 2)] [] (by decide +kernel) (by decide +kernel) (by decide) (by decide +kernel) ⟨rfl, rfl⟩ rfl rfl) ?_
    rfl
  · skip
    refine Eq.trans (rl_iconst (c := 0) (k := (nI 0)) (by decide +kernel) (by decide)) ?_
    exact rl_zretk (by decide +kernel) rfl rfl
theorem b227_496 {x2 s0 : Int32} {M : am_M} {w : am_W4}  : am_rn call 227 496 [some (am_P (0, 0, 0)), some (am_P (3, 0, 0)), some (am_I x2), none, none, none, none, none, none, none, none] [am_I s0] M (am_Z w) = if s0 = 0 then am_cb (call 144 [am_P (3, 0, 0)] M (am_Z w)) fun v M' X' => am_rn call 227 503 [some (am_P (0, 0, 0)), some (am_P (3, 0, 0)), some (am_I x2), none, none, none, none, none, none, none, none] (v.toList ++ []) M' X' else some (.inl (some (am_I (nI 0))), M, (am_Z w)) := by
  refine Eq.trans (rl_ifne (o := 13) 509 (by decide +kernel) (by decide)) ?_
  refine am_ite (fun h_1 => ?_) (fun h_1 => ?_)
  · skip
    refine Eq.trans (rl_aloadn (j := 1) (by decide +kernel) rfl) ?_
    refine Eq.trans (rl_invS (ix := 283) (n := 1) (k := 1) 144 [am_P (3, 0, 0)] [] (by decide +kernel) (by decide +kernel) (by decide) (by decide +kernel) ⟨rfl, rfl⟩ rfl rfl) ?_
    rfl
  · skip
    refine Eq.trans (rl_iconst (c := 0) (k := (nI 0)) (by decide +kernel) (by decide)) ?_
    exact rl_zretk (by decide +kernel) rfl rfl
theorem b227_503 {x2 s0 : Int32} {M : am_M} {w : am_W4}  : am_rn call 227 503 [some (am_P (0, 0, 0)), some (am_P (3, 0, 0)), some (am_I x2), none, none, none, none, none, none, none, none] [am_I s0] M (am_Z w) = if s0 = (-1001 : Int32) then am_rn call 227 511 [some (am_P (0, 0, 0)), some (am_P (3, 0, 0)), some (am_I x2), none, none, none, none, none, none, none, none] [] M (am_Z w) else some (.inl (some (am_I (nI 0))), M, (am_Z w)) := by
  refine Eq.trans (rl_sipush (c := -1001) (k := (-1001 : Int32)) (by decide +kernel) (by decide)) ?_
  refine Eq.trans (rl_iceq (o := 5) 511 (by decide +kernel) (by decide)) ?_
  refine am_ite (fun h_1 => ?_) (fun h_1 => ?_)
  · skip
    rfl
  · skip
    refine Eq.trans (rl_iconst (c := 0) (k := (nI 0)) (by decide +kernel) (by decide)) ?_
    exact rl_zretk (by decide +kernel) rfl rfl
theorem b227_519  {M : am_M} {w : am_W4}  : am_rn call 227 519 [some (am_P (0, 0, 0)), none, some (am_P (3, 0, 0)), none, none, none, none, none, none, none, none] [] M (am_Z w) = am_cb (call 150 [am_P (3, 0, 0), am_P (0, 0, 0)] M (am_Z w)) fun v M' X' => am_rn call 227 524 [some (am_P (0, 0, 0)), none, some (am_P (3, 0, 0)), none, none, none, none, none, none, none, none] (v.toList ++ []) M' X' := by
  refine Eq.trans (rl_aloadn (j := 2) (by decide +kernel) rfl) ?_
  refine Eq.trans (rl_aloadn (j := 0) (by decide +kernel) rfl) ?_
  refine Eq.trans (rl_invS (ix := 299) (n := 2) (k := 1) 150 [am_P (3, 0, 0), am_P (0, 0, 0)] [] (by decide +kernel) (by decide +kernel) (by decide) (by decide +kernel) ⟨rfl, rfl⟩ rfl rfl) ?_
  rfl
theorem b227_524 {s0 : Int32} {M : am_M} {w : am_W4}  : am_rn call 227 524 [some (am_P (0, 0, 0)), none, some (am_P (3, 0, 0)), none, none, none, none, none, none, none, none] [am_I s0] M (am_Z w) = if s0 = 0 then some (.inl (some (am_I (nI 0))), M, (am_Z w)) else am_rn call 227 531 [some (am_P (0, 0, 0)), none, some (am_P (3, 0, 0)), some (am_I (nI 0)), none, none, none, none, none, none, none] [] M (am_Z w) := by
  refine Eq.trans (rl_ifne (o := 5) 529 (by decide +kernel) (by decide)) ?_
  refine am_ite (fun h_1 => ?_) (fun h_1 => ?_)
  · skip
    refine Eq.trans (rl_iconst (c := 0) (k := (nI 0)) (by decide +kernel) (by decide)) ?_
    exact rl_zretk (by decide +kernel) rfl rfl
  · skip
    refine Eq.trans (rl_iconst (c := 0) (k := (nI 0)) (by decide +kernel) (by decide)) ?_
    refine Eq.trans (rl_istoren (j := 3) (ls' := [some (am_P (0, 0, 0)), none, some (am_P (3, 0, 0)), some (am_I (nI 0)), none, none, none, none, none, none, none]) (by decide +kernel) rfl rfl) ?_
    rfl
theorem b227_531 {x3 : Int32} {M : am_M} {w : am_W4}  : am_rn call 227 531 [some (am_P (0, 0, 0)), none, some (am_P (3, 0, 0)), some (am_I x3), none, none, none, none, none, none, none] [] M (am_Z w) = if x3 < (nI 4) then am_cb (call 113 [am_P (0, 0, 0), am_I ((nI 24) + x3)] M (am_Z w)) fun v M' X' => am_rn call 227 549 [some (am_P (0, 0, 0)), none, some (am_P (3, 0, 0)), some (am_I x3), none, none, none, none, none, none, none] (v.toList ++ [am_I (x3 + (nI 1)), am_I x3, am_P (3, 0, 0)]) M' X' else am_cb (call 113 [am_P (0, 0, 0), am_I (nI 28)] M (am_Z w)) fun v M' X' => am_rn call 227 575 [some (am_P (0, 0, 0)), none, some (am_P (3, 0, 0)), some (am_I x3), none, none, none, none, none, none, none] (v.toList ++ [am_I (nI 1), am_P (3, 0, 0)]) M' X' := by
  refine Eq.trans (rl_iloadn (j := 3) (by decide +kernel) rfl) ?_
  refine Eq.trans (rl_iconst (c := 4) (k := (nI 4)) (by decide +kernel) (by decide)) ?_
  refine Eq.trans (rl_icge (o := 34) 567 (by decide +kernel) (by decide)) ?_
  refine am_ite (fun h_1 => ?_) (fun h_1 => ?_)
  · skip
    refine Eq.trans (rl_aloadn (j := 2) (by decide +kernel) rfl) ?_
    refine Eq.trans (rl_iloadn (j := 3) (by decide +kernel) rfl) ?_
    refine Eq.trans (rl_iloadn (j := 3) (by decide +kernel) rfl) ?_
    refine Eq.trans (rl_iconst (c := 1) (k := (nI 1)) (by decide +kernel) (by decide)) ?_
    refine Eq.trans (rl_iadd (by decide +kernel)) ?_
    refine Eq.trans (rl_aloadn (j := 0) (by decide +kernel) rfl) ?_
    refine Eq.trans (rl_bipush (c := 24) (k := (nI 24)) (by decide +kernel) (by decide)) ?_
    refine Eq.trans (rl_iloadn (j := 3) (by decide +kernel) rfl) ?_
    refine Eq.trans (rl_iadd (by decide +kernel)) ?_
    refine Eq.trans (rl_invS (ix := 153) (n := 2) (k := 1) 113 [am_P (0, 0, 0), am_I ((nI 24) + x3)] [am_I (x3 + (nI 1)), am_I x3, am_P (3, 0, 0)] (by decide +kernel) (by decide +kernel) (by decide) (by decide +kernel) ⟨rfl, rfl⟩ rfl rfl) ?_
    rfl
  · skip
    refine Eq.trans (rl_aloadn (j := 2) (by decide +kernel) rfl) ?_
    refine Eq.trans (rl_iconst (c := 1) (k := (nI 1)) (by decide +kernel) (by decide)) ?_
    refine Eq.trans (rl_aloadn (j := 0) (by decide +kernel) rfl) ?_
    refine Eq.trans (rl_bipush (c := 28) (k := (nI 28)) (by decide +kernel) (by decide)) ?_
    refine Eq.trans (rl_invS (ix := 153) (n := 2) (k := 1) 113 [am_P (0, 0, 0), am_I (nI 28)] [am_I (nI 1), am_P (3, 0, 0)] (by decide +kernel) (by decide +kernel) (by decide) (by decide +kernel) ⟨rfl, rfl⟩ rfl rfl) ?_
    rfl
theorem b227_549 {x3 s0 s1 s2 : Int32} {M : am_M} {w : am_W4}  : am_rn call 227 549 [some (am_P (0, 0, 0)), none, some (am_P (3, 0, 0)), some (am_I x3), none, none, none, none, none, none, none] [am_I s0, am_I s1, am_I s2, am_P (3, 0, 0)] M (am_Z w) = am_cb (call 151 [am_I s0] M (am_Z w)) fun v M' X' => am_rn call 227 552 [some (am_P (0, 0, 0)), none, some (am_P (3, 0, 0)), some (am_I x3), none, none, none, none, none, none, none] (v.toList ++ [am_I s1, am_I s2, am_P (3, 0, 0)]) M' X' := by
  refine Eq.trans (rl_invS (ix := 229) (n := 1) (k := 1) 151 [am_I s0] [am_I s1, am_I s2, am_P (3, 0, 0)] (by decide +kernel) (by decide +kernel) (by decide) (by decide +kernel) ⟨rfl, rfl⟩ rfl rfl) ?_
  rfl
theorem b227_552 {x3 s0 s1 s2 : Int32} {M : am_M} {w : am_W4}  : am_rn call 227 552 [some (am_P (0, 0, 0)), none, some (am_P (3, 0, 0)), some (am_I x3), none, none, none, none, none, none, none] [am_I s0, am_I s1, am_I s2, am_P (3, 0, 0)] M (am_Z w) = am_cb (call 120 [am_P (3, 0, 0), am_I s2, am_I s1, am_I s0] M (am_Z w)) fun v M' X' => am_rn call 227 555 [some (am_P (0, 0, 0)), none, some (am_P (3, 0, 0)), some (am_I x3), none, none, none, none, none, none, none] (v.toList ++ []) M' X' := by
  refine Eq.trans (rl_invS (ix := 232) (n := 4) (k := 1) 120 [am_P (3, 0, 0), am_I s2, am_I s1, am_I s0] [] (by decide +kernel) (by decide +kernel) (by decide) (by decide +kernel) ⟨rfl, rfl⟩ rfl rfl) ?_
  rfl
theorem b227_555 {x3 s0 : Int32} {M : am_M} {w : am_W4}  : am_rn call 227 555 [some (am_P (0, 0, 0)), none, some (am_P (3, 0, 0)), some (am_I x3), none, none, none, none, none, none, none] [am_I s0] M (am_Z w) = if s0 = x3 then am_rn call 227 531 [some (am_P (0, 0, 0)), none, some (am_P (3, 0, 0)), some (am_I (x3 + (nI 1))), none, none, none, none, none, none, none] [] M (am_Z w) else some (.inl (some (am_I (nI 0))), M, (am_Z w)) := by
  refine Eq.trans (rl_iloadn (j := 3) (by decide +kernel) rfl) ?_
  refine Eq.trans (rl_iceq (o := 5) 561 (by decide +kernel) (by decide)) ?_
  refine am_ite (fun h_1 => ?_) (fun h_1 => ?_)
  · skip
    refine Eq.trans (rl_iinc (j := 3) (c := 1) (k := (nI 1)) (ls' := [some (am_P (0, 0, 0)), none, some (am_P (3, 0, 0)), some (am_I (x3 + (nI 1))), none, none, none, none, none, none, none]) (by decide +kernel) (by decide) rfl rfl) ?_
    refine Eq.trans (rl_goto (o := (-33)) 531 (by decide +kernel) (by decide)) ?_
    rfl
  · skip
    refine Eq.trans (rl_iconst (c := 0) (k := (nI 0)) (by decide +kernel) (by decide)) ?_
    exact rl_zretk (by decide +kernel) rfl rfl
theorem b227_575 {x3 s0 : Int32} {M : am_M} {w : am_W4}  : am_rn call 227 575 [some (am_P (0, 0, 0)), none, some (am_P (3, 0, 0)), some (am_I x3), none, none, none, none, none, none, none] [am_I s0, am_I (nI 1), am_P (3, 0, 0)] M (am_Z w) = am_cb (call 114 [am_I s0, am_I (nI 20)] M (am_Z w)) fun v M' X' => am_rn call 227 580 [some (am_P (0, 0, 0)), none, some (am_P (3, 0, 0)), some (am_I x3), none, none, none, none, none, none, none] (v.toList ++ [am_I (nI 1), am_P (3, 0, 0)]) M' X' := by
  refine Eq.trans (rl_bipush (c := 20) (k := (nI 20)) (by decide +kernel) (by decide)) ?_
  refine Eq.trans (rl_invS (ix := 157) (n := 2) (k := 1) 114 [am_I s0, am_I (nI 20)] [am_I (nI 1), am_P (3, 0, 0)] (by decide +kernel) (by decide +kernel) (by decide) (by decide +kernel) ⟨rfl, rfl⟩ rfl rfl) ?_
  rfl
theorem b227_580 {x3 s0 : Int32} {M : am_M} {w : am_W4}  : am_rn call 227 580 [some (am_P (0, 0, 0)), none, some (am_P (3, 0, 0)), some (am_I x3), none, none, none, none, none, none, none] [am_I s0, am_I (nI 1), am_P (3, 0, 0)] M (am_Z w) = am_cb (call 122 [am_P (3, 0, 0), am_I ((nI 1) + s0)] M (am_Z w)) fun v M' X' => am_rn call 227 584 [some (am_P (0, 0, 0)), none, some (am_P (3, 0, 0)), some (am_I x3), none, none, none, none, none, none, none] (v.toList ++ []) M' X' := by
  refine Eq.trans (rl_iadd (by decide +kernel)) ?_
  refine Eq.trans (rl_invS (ix := 236) (n := 2) (k := 1) 122 [am_P (3, 0, 0), am_I ((nI 1) + s0)] [] (by decide +kernel) (by decide +kernel) (by decide) (by decide +kernel) ⟨rfl, rfl⟩ rfl rfl) ?_
  rfl
theorem b227_584 {x3 s0 : Int32} {M : am_M} {w : am_W4}  : am_rn call 227 584 [some (am_P (0, 0, 0)), none, some (am_P (3, 0, 0)), some (am_I x3), none, none, none, none, none, none, none] [am_I s0] M (am_Z w) = if s0 < 0 then some (.inl (some (am_I (nI 0))), M, (am_Z w)) else am_cb (call 152 [am_P (3, 0, 0)] M (am_Z w)) fun v M' X' => am_rn call 227 593 [some (am_P (0, 0, 0)), none, some (am_P (3, 0, 0)), some (am_I x3), none, none, none, none, none, none, none] (v.toList ++ []) M' X' := by
  refine Eq.trans (rl_ifge (o := 5) 589 (by decide +kernel) (by decide)) ?_
  refine am_ite (fun h_1 => ?_) (fun h_1 => ?_)
  · skip
    refine Eq.trans (rl_iconst (c := 0) (k := (nI 0)) (by decide +kernel) (by decide)) ?_
    exact rl_zretk (by decide +kernel) rfl rfl
  · skip
    refine Eq.trans (rl_aloadn (j := 2) (by decide +kernel) rfl) ?_
    refine Eq.trans (rl_invS (ix := 267) (n := 1) (k := 1) 152 [am_P (3, 0, 0)] [] (by decide +kernel) (by decide +kernel) (by decide) (by decide +kernel) ⟨rfl, rfl⟩ rfl rfl) ?_
    rfl
theorem b227_593 {x3 : Int32} {s0 : Int64} {M : am_M} {w : am_W4}  : am_rn call 227 593 [some (am_P (0, 0, 0)), none, some (am_P (3, 0, 0)), some (am_I x3), none, none, none, none, none, none, none] [.inl (.long s0)] M (am_Z w) = am_cb (call 152 [am_P (3, 0, 0)] M (am_Z w)) fun v M' X' => am_rn call 227 598 [some (am_P (0, 0, 0)), none, some (am_P (3, 0, 0)), some (.inl (.long s0)), none, none, none, none, none, none, none] (v.toList ++ []) M' X' := by
  refine Eq.trans (rl_lstoren (j := 3) (ls' := [some (am_P (0, 0, 0)), none, some (am_P (3, 0, 0)), some (.inl (.long s0)), none, none, none, none, none, none, none]) (by decide +kernel) rfl rfl) ?_
  refine Eq.trans (rl_aloadn (j := 2) (by decide +kernel) rfl) ?_
  refine Eq.trans (rl_invS (ix := 267) (n := 1) (k := 1) 152 [am_P (3, 0, 0)] [] (by decide +kernel) (by decide +kernel) (by decide) (by decide +kernel) ⟨rfl, rfl⟩ rfl rfl) ?_
  rfl
theorem b227_598 {x3 s0 : Int64} {M : am_M} {w : am_W4}  : am_rn call 227 598 [some (am_P (0, 0, 0)), none, some (am_P (3, 0, 0)), some (.inl (.long x3)), none, none, none, none, none, none, none] [.inl (.long s0)] M (am_Z w) = if (lg_cmp s0 x3) = 0 then am_cb (call 154 [am_P (3, 0, 0)] M (am_Z w)) fun v M' X' => am_rn call 227 607 [some (am_P (0, 0, 0)), none, some (am_P (3, 0, 0)), some (.inl (.long x3)), none, none, none, none, none, none, none] (v.toList ++ []) M' X' else some (.inl (some (am_I (nI 0))), M, (am_Z w)) := by
  refine Eq.trans (rl_lloadn (j := 3) (by decide +kernel) rfl) ?_
  refine Eq.trans (rl_lcmp (by decide +kernel)) ?_
  refine Eq.trans (rl_ifne (o := 10) 610 (by decide +kernel) (by decide)) ?_
  refine am_ite (fun h_1 => ?_) (fun h_1 => ?_)
  · skip
    refine Eq.trans (rl_aloadn (j := 2) (by decide +kernel) rfl) ?_
    refine Eq.trans (rl_invS (ix := 303) (n := 1) (k := 1) 154 [am_P (3, 0, 0)] [] (by decide +kernel) (by decide +kernel) (by decide) (by decide +kernel) ⟨rfl, rfl⟩ rfl rfl) ?_
    rfl
  · skip
    refine Eq.trans (rl_iconst (c := 0) (k := (nI 0)) (by decide +kernel) (by decide)) ?_
    exact rl_zretk (by decide +kernel) rfl rfl
theorem b227_607 {x3 : Int64} {s0 : Int32} {M : am_M} {w : am_W4}  : am_rn call 227 607 [some (am_P (0, 0, 0)), none, some (am_P (3, 0, 0)), some (.inl (.long x3)), none, none, none, none, none, none, none] [am_I s0] M (am_Z w) = if s0 = 0 then some (.inl (some (am_I (nI 0))), M, (am_Z w)) else am_cb (call 108 [am_P (3, 0, 0)] M (am_Z w)) fun v M' X' => am_rn call 227 616 [some (am_P (0, 0, 0)), none, some (am_P (3, 0, 0)), some (.inl (.long x3)), none, none, none, none, none, none, none] (v.toList ++ []) M' X' := by
  refine Eq.trans (rl_ifne (o := 5) 612 (by decide +kernel) (by decide)) ?_
  refine am_ite (fun h_1 => ?_) (fun h_1 => ?_)
  · skip
    refine Eq.trans (rl_iconst (c := 0) (k := (nI 0)) (by decide +kernel) (by decide)) ?_
    exact rl_zretk (by decide +kernel) rfl rfl
  · skip
    refine Eq.trans (rl_aloadn (j := 2) (by decide +kernel) rfl) ?_
    refine Eq.trans (rl_inv (ix := 287) (n := 0) (o := 8) 108 [] [] (by decide +kernel) (by decide +kernel) (by decide +kernel) (by decide +kernel) ⟨rfl, rfl⟩ rfl rfl ck3) ?_
    rfl
theorem b227_616 {x3 : Int64} {s0 : Int32} {M : am_M} {w : am_W4}  : am_rn call 227 616 [some (am_P (0, 0, 0)), none, some (am_P (3, 0, 0)), some (.inl (.long x3)), none, none, none, none, none, none, none] [am_I s0] M (am_Z w) = am_cb (call 143 [am_P (3, 0, 0), am_I (nI 0)] M (am_Z w)) fun v M' X' => am_rn call 227 625 [some (am_P (0, 0, 0)), none, some (am_P (3, 0, 0)), some (.inl (.long x3)), none, some (am_I s0), none, none, none, none, none] (v.toList ++ [am_I s0]) M' X' := by
  refine Eq.trans (rl_istore (j := 5) (ls' := [some (am_P (0, 0, 0)), none, some (am_P (3, 0, 0)), some (.inl (.long x3)), none, some (am_I s0), none, none, none, none, none]) (by decide +kernel) rfl rfl) ?_
  refine Eq.trans (rl_iload (j := 5) (by decide +kernel) rfl) ?_
  refine Eq.trans (rl_aloadn (j := 2) (by decide +kernel) rfl) ?_
  refine Eq.trans (rl_iconst (c := 0) (k := (nI 0)) (by decide +kernel) (by decide)) ?_
  refine Eq.trans (rl_invS (ix := 190) (n := 2) (k := 1) 143 [am_P (3, 0, 0), am_I (nI 0)] [am_I s0] (by decide +kernel) (by decide +kernel) (by decide) (by decide +kernel) ⟨rfl, rfl⟩ rfl rfl) ?_
  rfl
theorem b227_625 {x3 : Int64} {x5 s0 s1 : Int32} {M : am_M} {w : am_W4}  : am_rn call 227 625 [some (am_P (0, 0, 0)), none, some (am_P (3, 0, 0)), some (.inl (.long x3)), none, some (am_I x5), none, none, none, none, none] [am_I s0, am_I s1] M (am_Z w) = if s1 = s0 then am_cb (call 152 [am_P (3, 0, 0)] M (am_Z w)) fun v M' X' => am_rn call 227 632 [some (am_P (0, 0, 0)), none, some (am_P (3, 0, 0)), some (.inl (.long x3)), none, some (am_I x5), none, none, none, none, none] (v.toList ++ []) M' X' else some (.inl (some (am_I (nI 0))), M, (am_Z w)) := by
  refine Eq.trans (rl_icne (o := 12) 637 (by decide +kernel) (by decide)) ?_
  refine am_ite (fun h_1 => ?_) (fun h_1 => ?_)
  · skip
    refine Eq.trans (rl_aloadn (j := 2) (by decide +kernel) rfl) ?_
    refine Eq.trans (rl_invS (ix := 267) (n := 1) (k := 1) 152 [am_P (3, 0, 0)] [] (by decide +kernel) (by decide +kernel) (by decide) (by decide +kernel) ⟨rfl, rfl⟩ rfl rfl) ?_
    rfl
  · skip
    refine Eq.trans (rl_iconst (c := 0) (k := (nI 0)) (by decide +kernel) (by decide)) ?_
    exact rl_zretk (by decide +kernel) rfl rfl
theorem b227_632 {x3 s0 : Int64} {x5 : Int32} {M : am_M} {w : am_W4}  : am_rn call 227 632 [some (am_P (0, 0, 0)), none, some (am_P (3, 0, 0)), some (.inl (.long x3)), none, some (am_I x5), none, none, none, none, none] [.inl (.long s0)] M (am_Z w) = if (lg_cmp s0 x3) = 0 then am_rn call 227 641 [some (am_P (0, 0, 0)), none, some (am_P (3, 0, 0)), some (.inl (.long x3)), none, some (am_I x5), none, none, none, none, none] [am_I (nI 13)] M (am_Z w) else some (.inl (some (am_I (nI 0))), M, (am_Z w)) := by
  refine Eq.trans (rl_lloadn (j := 3) (by decide +kernel) rfl) ?_
  refine Eq.trans (rl_lcmp (by decide +kernel)) ?_
  refine Eq.trans (rl_ifeq (o := 5) 639 (by decide +kernel) (by decide)) ?_
  refine am_ite (fun h_1 => ?_) (fun h_1 => ?_)
  · skip
    refine Eq.trans (rl_bipush (c := 13) (k := (nI 13)) (by decide +kernel) (by decide)) ?_
    rfl
  · skip
    refine Eq.trans (rl_iconst (c := 0) (k := (nI 0)) (by decide +kernel) (by decide)) ?_
    exact rl_zretk (by decide +kernel) rfl rfl
theorem b227_643 {x3 : Int64} {x5 : Int32} {M : am_M} {w : am_W4}  : am_rn call 227 643 [some (am_P (0, 0, 0)), none, some (am_P (3, 0, 0)), some (.inl (.long x3)), none, some (am_I x5), none, none, none, none, none] [am_P (1, 0, 0)] M (am_Z w) = am_rn call 227 651 [some (am_P (0, 0, 0)), none, some (am_P (3, 0, 0)), some (.inl (.long x3)), none, some (am_I x5), some (am_P (1, 0, 0)), some (am_I (nI 0)), some (am_I (nI 0)), none, none] [] M (am_Z w) := by
  refine Eq.trans (rl_astore (j := 6) (ls' := [some (am_P (0, 0, 0)), none, some (am_P (3, 0, 0)), some (.inl (.long x3)), none, some (am_I x5), some (am_P (1, 0, 0)), none, none, none, none]) (by decide +kernel) rfl rfl) ?_
  refine Eq.trans (rl_iconst (c := 0) (k := (nI 0)) (by decide +kernel) (by decide)) ?_
  refine Eq.trans (rl_istore (j := 7) (ls' := [some (am_P (0, 0, 0)), none, some (am_P (3, 0, 0)), some (.inl (.long x3)), none, some (am_I x5), some (am_P (1, 0, 0)), some (am_I (nI 0)), none, none, none]) (by decide +kernel) rfl rfl) ?_
  refine Eq.trans (rl_iconst (c := 0) (k := (nI 0)) (by decide +kernel) (by decide)) ?_
  refine Eq.trans (rl_istore (j := 8) (ls' := [some (am_P (0, 0, 0)), none, some (am_P (3, 0, 0)), some (.inl (.long x3)), none, some (am_I x5), some (am_P (1, 0, 0)), some (am_I (nI 0)), some (am_I (nI 0)), none, none]) (by decide +kernel) rfl rfl) ?_
  rfl
theorem b227_651 {x3 : Int64} {x5 x7 x8 : Int32} {x9 : Option am_V} {M : am_M} {w : am_W4}  : am_rn call 227 651 [some (am_P (0, 0, 0)), none, some (am_P (3, 0, 0)), some (.inl (.long x3)), none, some (am_I x5), some (am_P (1, 0, 0)), some (am_I x7), some (am_I x8), x9, none] [] M (am_Z w) = if x8 < (nI 12) then am_cb (call 152 [am_P (3, 0, 0)] M (am_Z w)) fun v M' X' => am_rn call 227 662 [some (am_P (0, 0, 0)), none, some (am_P (3, 0, 0)), some (.inl (.long x3)), none, some (am_I x5), some (am_P (1, 0, 0)), some (am_I x7), some (am_I x8), x9, none] (v.toList ++ []) M' X' else am_rn call 227 730 [some (am_P (0, 0, 0)), none, some (am_P (3, 0, 0)), some (.inl (.long x3)), none, some (am_I x5), some (am_P (1, 0, 0)), some (am_I x7), some (am_I (if x7 < (nI 8) then x7 else (nI 8))), some (am_I (nI 1)), none] [] M (am_Z w) := by
  refine Eq.trans (rl_iload (j := 8) (by decide +kernel) rfl) ?_
  refine Eq.trans (rl_bipush (c := 12) (k := (nI 12)) (by decide +kernel) (by decide)) ?_
  refine Eq.trans (rl_icge (o := 63) 718 (by decide +kernel) (by decide)) ?_
  refine am_ite (fun h_1 => ?_) (fun h_1 => ?_)
  · skip
    refine Eq.trans (rl_aloadn (j := 2) (by decide +kernel) rfl) ?_
    refine Eq.trans (rl_invS (ix := 267) (n := 1) (k := 1) 152 [am_P (3, 0, 0)] [] (by decide +kernel) (by decide +kernel) (by decide) (by decide +kernel) ⟨rfl, rfl⟩ rfl rfl) ?_
    rfl
  · skip
    refine Eq.trans (rl_bipush (c := 8) (k := (nI 8)) (by decide +kernel) (by decide)) ?_
    refine Eq.trans (rl_iload (j := 7) (by decide +kernel) rfl) ?_
    refine Eq.trans (rl_min (ix := 311) (y0 := 0) (by decide +kernel) (by decide +kernel) rfl) ?_
    refine Eq.trans (rl_istore (j := 8) (ls' := [some (am_P (0, 0, 0)), none, some (am_P (3, 0, 0)), some (.inl (.long x3)), none, some (am_I x5), some (am_P (1, 0, 0)), some (am_I x7), some (am_I (if x7 < (nI 8) then x7 else (nI 8))), x9, none]) (by decide +kernel) rfl rfl) ?_
    refine Eq.trans (rl_iconst (c := 1) (k := (nI 1)) (by decide +kernel) (by decide)) ?_
    refine Eq.trans (rl_istore (j := 9) (ls' := [some (am_P (0, 0, 0)), none, some (am_P (3, 0, 0)), some (.inl (.long x3)), none, some (am_I x5), some (am_P (1, 0, 0)), some (am_I x7), some (am_I (if x7 < (nI 8) then x7 else (nI 8))), some (am_I (nI 1)), none]) (by decide +kernel) rfl rfl) ?_
    rfl
theorem b227_662 {x3 s0 : Int64} {x5 x7 x8 : Int32} {x9 : Option am_V} {M : am_M} {w : am_W4}  : am_rn call 227 662 [some (am_P (0, 0, 0)), none, some (am_P (3, 0, 0)), some (.inl (.long x3)), none, some (am_I x5), some (am_P (1, 0, 0)), some (am_I x7), some (am_I x8), x9, none] [.inl (.long s0)] M (am_Z w) = am_cb (call 113 [am_P (0, 0, 0), am_I ((nI 20) + x8)] M (am_Z w)) fun v M' X' => am_rn call 227 674 [some (am_P (0, 0, 0)), none, some (am_P (3, 0, 0)), some (.inl (.long x3)), none, some (am_I x5), some (am_P (1, 0, 0)), some (am_I x7), some (am_I x8), some (.inl (.long s0)), none] (v.toList ++ [am_P (3, 0, 0)]) M' X' := by
  refine Eq.trans (rl_lstore (j := 9) (ls' := [some (am_P (0, 0, 0)), none, some (am_P (3, 0, 0)), some (.inl (.long x3)), none, some (am_I x5), some (am_P (1, 0, 0)), some (am_I x7), some (am_I x8), some (.inl (.long s0)), none]) (by decide +kernel) rfl rfl) ?_
  refine Eq.trans (rl_aloadn (j := 2) (by decide +kernel) rfl) ?_
  refine Eq.trans (rl_aloadn (j := 0) (by decide +kernel) rfl) ?_
  refine Eq.trans (rl_bipush (c := 20) (k := (nI 20)) (by decide +kernel) (by decide)) ?_
  refine Eq.trans (rl_iload (j := 8) (by decide +kernel) rfl) ?_
  refine Eq.trans (rl_iadd (by decide +kernel)) ?_
  refine Eq.trans (rl_invS (ix := 153) (n := 2) (k := 1) 113 [am_P (0, 0, 0), am_I ((nI 20) + x8)] [am_P (3, 0, 0)] (by decide +kernel) (by decide +kernel) (by decide) (by decide +kernel) ⟨rfl, rfl⟩ rfl rfl) ?_
  rfl
theorem b227_674 {x3 x9 : Int64} {x5 x7 x8 s0 : Int32} {M : am_M} {w : am_W4}  : am_rn call 227 674 [some (am_P (0, 0, 0)), none, some (am_P (3, 0, 0)), some (.inl (.long x3)), none, some (am_I x5), some (am_P (1, 0, 0)), some (am_I x7), some (am_I x8), some (.inl (.long x9)), none] [am_I s0, am_P (3, 0, 0)] M (am_Z w) = am_cb (call 153 [am_P (3, 0, 0), am_I (s0 ^^^ (x8 * (nI 977)))] M (am_Z w)) fun v M' X' => am_rn call 227 684 [some (am_P (0, 0, 0)), none, some (am_P (3, 0, 0)), some (.inl (.long x3)), none, some (am_I x5), some (am_P (1, 0, 0)), some (am_I x7), some (am_I x8), some (.inl (.long x9)), none] (v.toList ++ []) M' X' := by
  refine Eq.trans (rl_iload (j := 8) (by decide +kernel) rfl) ?_
  refine Eq.trans (rl_sipush (c := 977) (k := (nI 977)) (by decide +kernel) (by decide)) ?_
  refine Eq.trans (rl_imul (by decide +kernel)) ?_
  refine Eq.trans (rl_ixor (by decide +kernel)) ?_
  refine Eq.trans (rl_invS (ix := 307) (n := 2) (k := 1) 153 [am_P (3, 0, 0), am_I (s0 ^^^ (x8 * (nI 977)))] [] (by decide +kernel) (by decide +kernel) (by decide) (by decide +kernel) ⟨rfl, rfl⟩ rfl rfl) ?_
  rfl
theorem b227_684 {x3 x9 : Int64} {x5 x7 x8 s0 : Int32} {M : am_M} {w : am_W4}  : am_rn call 227 684 [some (am_P (0, 0, 0)), none, some (am_P (3, 0, 0)), some (.inl (.long x3)), none, some (am_I x5), some (am_P (1, 0, 0)), some (am_I x7), some (am_I x8), some (.inl (.long x9)), none] [am_I s0] M (am_Z w) = if s0 = 0 then am_cb (call 152 [am_P (3, 0, 0)] M (am_Z w)) fun v M' X' => am_rn call 227 704 [some (am_P (0, 0, 0)), none, some (am_P (3, 0, 0)), some (.inl (.long x3)), none, some (am_I x5), some (am_P (1, 0, 0)), some (am_I x7), some (am_I x8), some (.inl (.long x9)), none] (v.toList ++ []) M' X' else am_rn call 227 696 [some (am_P (0, 0, 0)), none, some (am_P (3, 0, 0)), some (.inl (.long x3)), none, some (am_I x5), some (am_P (1, 0, 0)), some (am_I (x7 + (nI 1))), some (am_I x8), some (.inl (.long x9)), none] [.inl (.long x9), am_I x7, am_P (1, 0, 0)] M (am_Z w) := by
  refine Eq.trans (rl_ifeq (o := 16) 700 (by decide +kernel) (by decide)) ?_
  refine am_ite (fun h_1 => ?_) (fun h_1 => ?_)
  · skip
    refine Eq.trans (rl_aloadn (j := 2) (by decide +kernel) rfl) ?_
    refine Eq.trans (rl_invS (ix := 267) (n := 1) (k := 1) 152 [am_P (3, 0, 0)] [] (by decide +kernel) (by decide +kernel) (by decide) (by decide +kernel) ⟨rfl, rfl⟩ rfl rfl) ?_
    rfl
  · skip
    refine Eq.trans (rl_aload (j := 6) (by decide +kernel) rfl) ?_
    refine Eq.trans (rl_iload (j := 7) (by decide +kernel) rfl) ?_
    refine Eq.trans (rl_iinc (j := 7) (c := 1) (k := (nI 1)) (ls' := [some (am_P (0, 0, 0)), none, some (am_P (3, 0, 0)), some (.inl (.long x3)), none, some (am_I x5), some (am_P (1, 0, 0)), some (am_I (x7 + (nI 1))), some (am_I x8), some (.inl (.long x9)), none]) (by decide +kernel) (by decide) rfl rfl) ?_
    refine Eq.trans (rl_lload (j := 9) (by decide +kernel) rfl) ?_
    rfl
theorem b227_697 {x3 x9 : Int64} {x5 x7 x8 : Int32} {M : am_M} {w : am_W4}  : am_rn call 227 697 [some (am_P (0, 0, 0)), none, some (am_P (3, 0, 0)), some (.inl (.long x3)), none, some (am_I x5), some (am_P (1, 0, 0)), some (am_I x7), some (am_I x8), some (.inl (.long x9)), none] [] M (am_Z w) = am_rn call 227 712 [some (am_P (0, 0, 0)), none, some (am_P (3, 0, 0)), some (.inl (.long x3)), none, some (am_I x5), some (am_P (1, 0, 0)), some (am_I x7), some (am_I x8), some (.inl (.long x9)), none] [] M (am_Z w) := by
  refine Eq.trans (rl_goto (o := 15) 712 (by decide +kernel) (by decide)) ?_
  rfl
theorem b227_704 {x3 x9 s0 : Int64} {x5 x7 x8 : Int32} {M : am_M} {w : am_W4}  : am_rn call 227 704 [some (am_P (0, 0, 0)), none, some (am_P (3, 0, 0)), some (.inl (.long x3)), none, some (am_I x5), some (am_P (1, 0, 0)), some (am_I x7), some (am_I x8), some (.inl (.long x9)), none] [.inl (.long s0)] M (am_Z w) = if (lg_cmp s0 x9) = 0 then am_rn call 227 712 [some (am_P (0, 0, 0)), none, some (am_P (3, 0, 0)), some (.inl (.long x3)), none, some (am_I x5), some (am_P (1, 0, 0)), some (am_I x7), some (am_I x8), some (.inl (.long x9)), none] [] M (am_Z w) else some (.inl (some (am_I (nI 0))), M, (am_Z w)) := by
  refine Eq.trans (rl_lload (j := 9) (by decide +kernel) rfl) ?_
  refine Eq.trans (rl_lcmp (by decide +kernel)) ?_
  refine Eq.trans (rl_ifeq (o := 5) 712 (by decide +kernel) (by decide)) ?_
  refine am_ite (fun h_1 => ?_) (fun h_1 => ?_)
  · skip
    rfl
  · skip
    refine Eq.trans (rl_iconst (c := 0) (k := (nI 0)) (by decide +kernel) (by decide)) ?_
    exact rl_zretk (by decide +kernel) rfl rfl
theorem b227_712 {x3 x9 : Int64} {x5 x7 x8 : Int32} {M : am_M} {w : am_W4}  : am_rn call 227 712 [some (am_P (0, 0, 0)), none, some (am_P (3, 0, 0)), some (.inl (.long x3)), none, some (am_I x5), some (am_P (1, 0, 0)), some (am_I x7), some (am_I x8), some (.inl (.long x9)), none] [] M (am_Z w) = am_rn call 227 651 [some (am_P (0, 0, 0)), none, some (am_P (3, 0, 0)), some (.inl (.long x3)), none, some (am_I x5), some (am_P (1, 0, 0)), some (am_I x7), some (am_I (x8 + (nI 1))), some (.inl (.long x9)), none] [] M (am_Z w) := by
  refine Eq.trans (rl_iinc (j := 8) (c := 1) (k := (nI 1)) (ls' := [some (am_P (0, 0, 0)), none, some (am_P (3, 0, 0)), some (.inl (.long x3)), none, some (am_I x5), some (am_P (1, 0, 0)), some (am_I x7), some (am_I (x8 + (nI 1))), some (.inl (.long x9)), none]) (by decide +kernel) (by decide) rfl rfl) ?_
  refine Eq.trans (rl_goto (o := (-64)) 651 (by decide +kernel) (by decide)) ?_
  rfl
theorem b227_730 {x3 : Int64} {x5 x7 x8 x9 : Int32} {x10 : Option am_V} {M : am_M} {w : am_W4}  : am_rn call 227 730 [some (am_P (0, 0, 0)), none, some (am_P (3, 0, 0)), some (.inl (.long x3)), none, some (am_I x5), some (am_P (1, 0, 0)), some (am_I x7), some (am_I x8), some (am_I x9), x10] [] M (am_Z w) = if x8 < x9 then am_cb (call 145 [am_P (3, 0, 0)] M (am_Z w)) fun v M' X' => am_rn call 227 791 [some (am_P (0, 0, 0)), none, some (am_P (3, 0, 0)), some (.inl (.long x3)), none, some (am_I x5), some (am_P (1, 0, 0)), some (am_I x7), some (am_I x8), some (am_I x9), x10] (v.toList ++ []) M' X' else am_cb (call 144 [am_P (3, 0, 0)] M (am_Z w)) fun v M' X' => am_rn call 227 741 [some (am_P (0, 0, 0)), none, some (am_P (3, 0, 0)), some (.inl (.long x3)), none, some (am_I x5), some (am_P (1, 0, 0)), some (am_I x7), some (am_I x8), some (am_I x9), x10] (v.toList ++ []) M' X' := by
  refine Eq.trans (rl_iload (j := 9) (by decide +kernel) rfl) ?_
  refine Eq.trans (rl_iload (j := 8) (by decide +kernel) rfl) ?_
  refine Eq.trans (rl_icgt (o := 53) 787 (by decide +kernel) (by decide)) ?_
  refine am_ite (fun h_1 => ?_) (fun h_1 => ?_)
  · skip
    refine Eq.trans (rl_aloadn (j := 2) (by decide +kernel) rfl) ?_
    refine Eq.trans (rl_invS (ix := 285) (n := 1) (k := 1) 145 [am_P (3, 0, 0)] [] (by decide +kernel) (by decide +kernel) (by decide) (by decide +kernel) ⟨rfl, rfl⟩ rfl rfl) ?_
    rfl
  · skip
    refine Eq.trans (rl_aloadn (j := 2) (by decide +kernel) rfl) ?_
    refine Eq.trans (rl_invS (ix := 283) (n := 1) (k := 1) 144 [am_P (3, 0, 0)] [] (by decide +kernel) (by decide +kernel) (by decide) (by decide +kernel) ⟨rfl, rfl⟩ rfl rfl) ?_
    rfl
theorem b227_741 {x3 : Int64} {x5 x7 x8 x9 s0 : Int32} {x10 : Option am_V} {M : am_M} {w : am_W4}  : am_rn call 227 741 [some (am_P (0, 0, 0)), none, some (am_P (3, 0, 0)), some (.inl (.long x3)), none, some (am_I x5), some (am_P (1, 0, 0)), some (am_I x7), some (am_I x8), some (am_I x9), x10] [am_I s0] M (am_Z w) = if s0 < (x8 - x9) then some (.inl (some (am_I (nI 0))), M, (am_Z w)) else if ((nI 8) - x9) < s0 then some (.inl (some (am_I (nI 0))), M, (am_Z w)) else am_cb (call 152 [am_P (3, 0, 0)] M (am_Z w)) fun v M' X' => am_rn call 227 767 [some (am_P (0, 0, 0)), none, some (am_P (3, 0, 0)), some (.inl (.long x3)), none, some (am_I x5), some (am_P (1, 0, 0)), some (am_I x7), some (am_I x8), some (am_I x9), some (am_I s0)] (v.toList ++ []) M' X' := by
  refine Eq.trans (rl_istore (j := 10) (ls' := [some (am_P (0, 0, 0)), none, some (am_P (3, 0, 0)), some (.inl (.long x3)), none, some (am_I x5), some (am_P (1, 0, 0)), some (am_I x7), some (am_I x8), some (am_I x9), some (am_I s0)]) (by decide +kernel) rfl rfl) ?_
  refine Eq.trans (rl_iload (j := 10) (by decide +kernel) rfl) ?_
  refine Eq.trans (rl_iload (j := 8) (by decide +kernel) rfl) ?_
  refine Eq.trans (rl_iload (j := 9) (by decide +kernel) rfl) ?_
  refine Eq.trans (rl_isub (by decide +kernel)) ?_
  refine Eq.trans (rl_iclt (o := 29) 779 (by decide +kernel) (by decide)) ?_
  refine am_ite (fun h_1 => ?_) (fun h_1 => ?_)
  · skip
    refine Eq.trans (rl_iconst (c := 0) (k := (nI 0)) (by decide +kernel) (by decide)) ?_
    exact rl_zretk (by decide +kernel) rfl rfl
  · skip
    refine Eq.trans (rl_iload (j := 10) (by decide +kernel) rfl) ?_
    refine Eq.trans (rl_bipush (c := 8) (k := (nI 8)) (by decide +kernel) (by decide)) ?_
    refine Eq.trans (rl_iload (j := 9) (by decide +kernel) rfl) ?_
    refine Eq.trans (rl_isub (by decide +kernel)) ?_
    refine Eq.trans (rl_icgt (o := 19) 779 (by decide +kernel) (by decide)) ?_
    refine am_ite (fun h_2 => ?_) (fun h_2 => ?_)
    · skip
      refine Eq.trans (rl_iconst (c := 0) (k := (nI 0)) (by decide +kernel) (by decide)) ?_
      exact rl_zretk (by decide +kernel) rfl rfl
    · skip
      refine Eq.trans (rl_aloadn (j := 2) (by decide +kernel) rfl) ?_
      refine Eq.trans (rl_invS (ix := 267) (n := 1) (k := 1) 152 [am_P (3, 0, 0)] [] (by decide +kernel) (by decide +kernel) (by decide) (by decide +kernel) ⟨rfl, rfl⟩ rfl rfl) ?_
      rfl
theorem b227_767 {x3 s0 : Int64} {x5 x7 x8 x9 x10 : Int32} {M : am_M} {w : am_W4}  : am_rn call 227 767 [some (am_P (0, 0, 0)), none, some (am_P (3, 0, 0)), some (.inl (.long x3)), none, some (am_I x5), some (am_P (1, 0, 0)), some (am_I x7), some (am_I x8), some (am_I x9), some (am_I x10)] [.inl (.long s0)] M (am_Z w) = am_rn call 227 774 [some (am_P (0, 0, 0)), none, some (am_P (3, 0, 0)), some (.inl (.long x3)), none, some (am_I x5), some (am_P (1, 0, 0)), some (am_I x7), some (am_I x8), some (am_I x9), some (am_I x10)] [am_I (x7 - x9), am_P (1, 0, 0), .inl (.long s0)] M (am_Z w) := by
  refine Eq.trans (rl_aload (j := 6) (by decide +kernel) rfl) ?_
  refine Eq.trans (rl_iload (j := 7) (by decide +kernel) rfl) ?_
  refine Eq.trans (rl_iload (j := 9) (by decide +kernel) rfl) ?_
  refine Eq.trans (rl_isub (by decide +kernel)) ?_
  rfl
theorem b227_775 {x3 s0 s1 : Int64} {x5 x7 x8 x9 x10 : Int32} {M : am_M} {w : am_W4}  : am_rn call 227 775 [some (am_P (0, 0, 0)), none, some (am_P (3, 0, 0)), some (.inl (.long x3)), none, some (am_I x5), some (am_P (1, 0, 0)), some (am_I x7), some (am_I x8), some (am_I x9), some (am_I x10)] [.inl (.long s0), .inl (.long s1)] M (am_Z w) = if (lg_cmp s1 s0) = 0 then am_rn call 227 730 [some (am_P (0, 0, 0)), none, some (am_P (3, 0, 0)), some (.inl (.long x3)), none, some (am_I x5), some (am_P (1, 0, 0)), some (am_I x7), some (am_I x8), some (am_I (x9 + (nI 1))), some (am_I x10)] [] M (am_Z w) else some (.inl (some (am_I (nI 0))), M, (am_Z w)) := by
  refine Eq.trans (rl_lcmp (by decide +kernel)) ?_
  refine Eq.trans (rl_ifeq (o := 5) 781 (by decide +kernel) (by decide)) ?_
  refine am_ite (fun h_1 => ?_) (fun h_1 => ?_)
  · skip
    refine Eq.trans (rl_iinc (j := 9) (c := 1) (k := (nI 1)) (ls' := [some (am_P (0, 0, 0)), none, some (am_P (3, 0, 0)), some (.inl (.long x3)), none, some (am_I x5), some (am_P (1, 0, 0)), some (am_I x7), some (am_I x8), some (am_I (x9 + (nI 1))), some (am_I x10)]) (by decide +kernel) (by decide) rfl rfl) ?_
    refine Eq.trans (rl_goto (o := (-54)) 730 (by decide +kernel) (by decide)) ?_
    rfl
  · skip
    refine Eq.trans (rl_iconst (c := 0) (k := (nI 0)) (by decide +kernel) (by decide)) ?_
    exact rl_zretk (by decide +kernel) rfl rfl
theorem b227_791 {x3 : Int64} {x5 x7 x8 x9 s0 : Int32} {x10 : Option am_V} {M : am_M} {w : am_W4}  : am_rn call 227 791 [some (am_P (0, 0, 0)), none, some (am_P (3, 0, 0)), some (.inl (.long x3)), none, some (am_I x5), some (am_P (1, 0, 0)), some (am_I x7), some (am_I x8), some (am_I x9), x10] [am_I s0] M (am_Z w) = if s0 = x5 then am_cb (call 144 [am_P (3, 0, 0)] M (am_Z w)) fun v M' X' => am_rn call 227 800 [some (am_P (0, 0, 0)), none, some (am_P (3, 0, 0)), some (.inl (.long x3)), none, some (am_I x5), some (am_P (1, 0, 0)), some (am_I x7), some (am_I x8), some (am_I x9), x10] (v.toList ++ []) M' X' else some (.inl (some (am_I (nI 0))), M, (am_Z w)) := by
  refine Eq.trans (rl_iload (j := 5) (by decide +kernel) rfl) ?_
  refine Eq.trans (rl_icne (o := 44) 837 (by decide +kernel) (by decide)) ?_
  refine am_ite (fun h_1 => ?_) (fun h_1 => ?_)
  · skip
    refine Eq.trans (rl_aloadn (j := 2) (by decide +kernel) rfl) ?_
    refine Eq.trans (rl_invS (ix := 283) (n := 1) (k := 1) 144 [am_P (3, 0, 0)] [] (by decide +kernel) (by decide +kernel) (by decide) (by decide +kernel) ⟨rfl, rfl⟩ rfl rfl) ?_
    rfl
  · skip
    refine Eq.trans (rl_iconst (c := 0) (k := (nI 0)) (by decide +kernel) (by decide)) ?_
    exact rl_zretk (by decide +kernel) rfl rfl
theorem b227_800 {x3 : Int64} {x5 x7 x8 x9 s0 : Int32} {x10 : Option am_V} {M : am_M} {w : am_W4}  : am_rn call 227 800 [some (am_P (0, 0, 0)), none, some (am_P (3, 0, 0)), some (.inl (.long x3)), none, some (am_I x5), some (am_P (1, 0, 0)), some (am_I x7), some (am_I x8), some (am_I x9), x10] [am_I s0] M (am_Z w) = if s0 = (-1001 : Int32) then am_cb (call 152 [am_P (3, 0, 0)] M (am_Z w)) fun v M' X' => am_rn call 227 810 [some (am_P (0, 0, 0)), none, some (am_P (3, 0, 0)), some (.inl (.long x3)), none, some (am_I x5), some (am_P (1, 0, 0)), some (am_I x7), some (am_I x8), some (am_I x9), x10] (v.toList ++ []) M' X' else some (.inl (some (am_I (nI 0))), M, (am_Z w)) := by
  refine Eq.trans (rl_sipush (c := -1001) (k := (-1001 : Int32)) (by decide +kernel) (by decide)) ?_
  refine Eq.trans (rl_icne (o := 34) 837 (by decide +kernel) (by decide)) ?_
  refine am_ite (fun h_1 => ?_) (fun h_1 => ?_)
  · skip
    refine Eq.trans (rl_aloadn (j := 2) (by decide +kernel) rfl) ?_
    refine Eq.trans (rl_invS (ix := 267) (n := 1) (k := 1) 152 [am_P (3, 0, 0)] [] (by decide +kernel) (by decide +kernel) (by decide) (by decide +kernel) ⟨rfl, rfl⟩ rfl rfl) ?_
    rfl
  · skip
    refine Eq.trans (rl_iconst (c := 0) (k := (nI 0)) (by decide +kernel) (by decide)) ?_
    exact rl_zretk (by decide +kernel) rfl rfl
theorem b227_810 {x3 s0 : Int64} {x5 x7 x8 x9 : Int32} {x10 : Option am_V} {M : am_M} {w : am_W4}  : am_rn call 227 810 [some (am_P (0, 0, 0)), none, some (am_P (3, 0, 0)), some (.inl (.long x3)), none, some (am_I x5), some (am_P (1, 0, 0)), some (am_I x7), some (am_I x8), some (am_I x9), x10] [.inl (.long s0)] M (am_Z w) = if (lg_cmp s0 x3) = 0 then am_cb (call 145 [am_P (3, 0, 0)] M (am_Z w)) fun v M' X' => am_rn call 227 819 [some (am_P (0, 0, 0)), none, some (am_P (3, 0, 0)), some (.inl (.long x3)), none, some (am_I x5), some (am_P (1, 0, 0)), some (am_I x7), some (am_I x8), some (am_I x9), x10] (v.toList ++ []) M' X' else some (.inl (some (am_I (nI 0))), M, (am_Z w)) := by
  refine Eq.trans (rl_lloadn (j := 3) (by decide +kernel) rfl) ?_
  refine Eq.trans (rl_lcmp (by decide +kernel)) ?_
  refine Eq.trans (rl_ifne (o := 25) 837 (by decide +kernel) (by decide)) ?_
  refine am_ite (fun h_1 => ?_) (fun h_1 => ?_)
  · skip
    refine Eq.trans (rl_aloadn (j := 2) (by decide +kernel) rfl) ?_
    refine Eq.trans (rl_invS (ix := 285) (n := 1) (k := 1) 145 [am_P (3, 0, 0)] [] (by decide +kernel) (by decide +kernel) (by decide) (by decide +kernel) ⟨rfl, rfl⟩ rfl rfl) ?_
    rfl
  · skip
    refine Eq.trans (rl_iconst (c := 0) (k := (nI 0)) (by decide +kernel) (by decide)) ?_
    exact rl_zretk (by decide +kernel) rfl rfl
theorem b227_819 {x3 : Int64} {x5 x7 x8 x9 s0 : Int32} {x10 : Option am_V} {M : am_M} {w : am_W4}  : am_rn call 227 819 [some (am_P (0, 0, 0)), none, some (am_P (3, 0, 0)), some (.inl (.long x3)), none, some (am_I x5), some (am_P (1, 0, 0)), some (am_I x7), some (am_I x8), some (am_I x9), x10] [am_I s0] M (am_Z w) = if s0 = x5 then am_cb (call 152 [am_P (3, 0, 0)] M (am_Z w)) fun v M' X' => am_rn call 227 828 [some (am_P (0, 0, 0)), none, some (am_P (3, 0, 0)), some (.inl (.long x3)), none, some (am_I x5), some (am_P (1, 0, 0)), some (am_I x7), some (am_I x8), some (am_I x9), x10] (v.toList ++ []) M' X' else some (.inl (some (am_I (nI 0))), M, (am_Z w)) := by
  refine Eq.trans (rl_iload (j := 5) (by decide +kernel) rfl) ?_
  refine Eq.trans (rl_icne (o := 16) 837 (by decide +kernel) (by decide)) ?_
  refine am_ite (fun h_1 => ?_) (fun h_1 => ?_)
  · skip
    refine Eq.trans (rl_aloadn (j := 2) (by decide +kernel) rfl) ?_
    refine Eq.trans (rl_invS (ix := 267) (n := 1) (k := 1) 152 [am_P (3, 0, 0)] [] (by decide +kernel) (by decide +kernel) (by decide) (by decide +kernel) ⟨rfl, rfl⟩ rfl rfl) ?_
    rfl
  · skip
    refine Eq.trans (rl_iconst (c := 0) (k := (nI 0)) (by decide +kernel) (by decide)) ?_
    exact rl_zretk (by decide +kernel) rfl rfl
theorem b227_828 {x3 s0 : Int64} {x5 x7 x8 x9 : Int32} {x10 : Option am_V} {M : am_M} {w : am_W4}  : am_rn call 227 828 [some (am_P (0, 0, 0)), none, some (am_P (3, 0, 0)), some (.inl (.long x3)), none, some (am_I x5), some (am_P (1, 0, 0)), some (am_I x7), some (am_I x8), some (am_I x9), x10] [.inl (.long s0)] M (am_Z w) = if (lg_cmp s0 x3) = 0 then some (.inl (some (am_I (nI 1))), M, (am_Z w)) else some (.inl (some (am_I (nI 0))), M, (am_Z w)) := by
  refine Eq.trans (rl_lloadn (j := 3) (by decide +kernel) rfl) ?_
  refine Eq.trans (rl_lcmp (by decide +kernel)) ?_
  refine Eq.trans (rl_ifne (o := 7) 837 (by decide +kernel) (by decide)) ?_
  refine am_ite (fun h_1 => ?_) (fun h_1 => ?_)
  · skip
    refine Eq.trans (rl_iconst (c := 1) (k := (nI 1)) (by decide +kernel) (by decide)) ?_
    refine Eq.trans (rl_goto (o := 4) 838 (by decide +kernel) (by decide)) ?_
    exact rl_zretk (by decide +kernel) rfl rfl
  · skip
    refine Eq.trans (rl_iconst (c := 0) (k := (nI 0)) (by decide +kernel) (by decide)) ?_
    exact rl_zretk (by decide +kernel) rfl rfl
end AmBl
