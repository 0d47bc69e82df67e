section AmBl
variable {call : Nat → List am_V → am_M → am_X → Option am_R}
theorem b195_0 {x1 x2 x3 : Int32} {M : am_M} {w : am_W4}  : am_rn call 195 0 [some (am_P (3, 0, 0)), some (am_I x1), some (am_I x2), some (am_I x3), some (am_P (1, 0, 0)), none] [] M (am_Z w) = am_bk 195 7 [some (am_P (3, 0, 0)), some (am_I x1), some (am_I x2), some (am_I x3), some (am_P (1, 0, 0)), none] [am_I (nI 0), am_P (1, 0, 0)] (call 66 [am_P (3, 0, 0), am_I x1, am_I x2, am_I x3] M (am_Z w)) (am_rn call 195) some := by
  refine Eq.trans (rl_aload (j := 4) (by decide +kernel) rfl) ?_
  refine Eq.trans (rl_iconst (c := 0) (k := (nI 0)) (by decide +kernel) (by decide)) ?_
  refine Eq.trans (rl_aloadn (j := 0) (by decide +kernel) rfl) ?_
  refine Eq.trans (rl_iloadn (j := 1) (by decide +kernel) rfl) ?_
  refine Eq.trans (rl_iloadn (j := 2) (by decide +kernel) rfl) ?_
  refine Eq.trans (rl_iloadn (j := 3) (by decide +kernel) rfl) ?_
  refine Eq.trans (rl_invH (ix := 7) (n := 3) (o := 8) 66 [am_I x1, am_I x2, am_I x3] [am_I (nI 0), am_P (1, 0, 0)] (by decide +kernel) (by decide +kernel) (by decide +kernel) (by decide +kernel) rfl rfl ck3) ?_
  rfl
theorem b195_10 {x1 x2 x3 s0 : Int32} {M : am_M} {w : am_W4}  : am_rn call 195 10 [some (am_P (3, 0, 0)), some (am_I x1), some (am_I x2), some (am_I x3), some (am_P (1, 0, 0)), none] [am_I s0, am_I (nI 0), am_P (1, 0, 0)] M (am_Z w) = some (.inl (some (am_I (nI 0))), M, (am_Z (w.1, w.2.1, s0.toInt64, w.2.2.2))) := by
  refine Eq.trans (rl_i2l (by decide +kernel)) ?_
  refine Eq.trans (rl_last (by decide +kernel)) ?_
  refine Eq.trans (rl_goto (o := 7) 19 (by decide +kernel) (by decide)) ?_
  refine Eq.trans (rl_iconst (c := 0) (k := (nI 0)) (by decide +kernel) (by decide)) ?_
  exact rl_iret (by decide +kernel) rfl
theorem b195_17 {x1 x2 x3 : Int32} {x5 : Option am_V} {M : am_M} {w : am_W4}  : am_rn call 195 17 [some (am_P (3, 0, 0)), some (am_I x1), some (am_I x2), some (am_I x3), some (am_P (1, 0, 0)), x5] [] M (am_Z w) = some (.inl (some (am_I (nI 1))), M, (am_Z w)) := by
  refine Eq.trans (rl_iconst (c := 1) (k := (nI 1)) (by decide +kernel) (by decide)) ?_
  exact rl_iret (by decide +kernel) rfl
theorem e195 {d : Nat} {x1 x2 x3 : Int32} {M : am_M} {w : am_W4}  : am_ev (d + 1) 195 [am_P (3, 0, 0), am_I x1, am_I x2, am_I x3, am_P (1, 0, 0)] M (am_Z w) = am_bk 195 7 [some (am_P (3, 0, 0)), some (am_I x1), some (am_I x2), some (am_I x3), some (am_P (1, 0, 0)), none] [am_I (nI 0), am_P (1, 0, 0)] ((am_ev d) 66 [am_P (3, 0, 0), am_I x1, am_I x2, am_I x3] M (am_Z w)) (am_rn (am_ev d) 195) some := (am_ev_eq d 195 _ M (am_Z w)).trans (b195_0)
theorem b196_0 {x1 x2 : Int32} {M : am_M} {w : am_W4}  : am_rn call 196 0 [some (am_P (3, 0, 0)), some (am_I x1), some (am_I x2), some (am_P (1, 0, 0)), none] [] M (am_Z w) = am_bk 196 5 [some (am_P (3, 0, 0)), some (am_I x1), some (am_I x2), some (am_P (1, 0, 0)), none] [am_I (nI 0), am_P (1, 0, 0)] (call 67 [am_P (3, 0, 0), am_I x1, am_I x2] M (am_Z w)) (am_rn call 196) some := by
  refine Eq.trans (rl_aloadn (j := 3) (by decide +kernel) rfl) ?_
  refine Eq.trans (rl_iconst (c := 0) (k := (nI 0)) (by decide +kernel) (by decide)) ?_
  refine Eq.trans (rl_aloadn (j := 0) (by decide +kernel) rfl) ?_
  refine Eq.trans (rl_iloadn (j := 1) (by decide +kernel) rfl) ?_
  refine Eq.trans (rl_iloadn (j := 2) (by decide +kernel) rfl) ?_
  refine Eq.trans (rl_invH (ix := 15) (n := 2) (o := 8) 67 [am_I x1, am_I x2] [am_I (nI 0), am_P (1, 0, 0)] (by decide +kernel) (by decide +kernel) (by decide +kernel) (by decide +kernel) rfl rfl ck3) ?_
  rfl
theorem b196_8 {x1 x2 s0 : Int32} {M : am_M} {w : am_W4}  : am_rn call 196 8 [some (am_P (3, 0, 0)), some (am_I x1), some (am_I x2), some (am_P (1, 0, 0)), none] [am_I s0, am_I (nI 0), am_P (1, 0, 0)] M (am_Z w) = some (.inl (some (am_I (nI 0))), M, (am_Z (w.1, w.2.1, s0.toInt64, w.2.2.2))) := by
  refine Eq.trans (rl_i2l (by decide +kernel)) ?_
  refine Eq.trans (rl_last (by decide +kernel)) ?_
  refine Eq.trans (rl_goto (o := 7) 17 (by decide +kernel) (by decide)) ?_
  refine Eq.trans (rl_iconst (c := 0) (k := (nI 0)) (by decide +kernel) (by decide)) ?_
  exact rl_iret (by decide +kernel) rfl
theorem b196_15 {x1 x2 : Int32} {x4 : Option am_V} {M : am_M} {w : am_W4}  : am_rn call 196 15 [some (am_P (3, 0, 0)), some (am_I x1), some (am_I x2), some (am_P (1, 0, 0)), x4] [] M (am_Z w) = some (.inl (some (am_I (nI 1))), M, (am_Z w)) := by
  refine Eq.trans (rl_iconst (c := 1) (k := (nI 1)) (by decide +kernel) (by decide)) ?_
  exact rl_iret (by decide +kernel) rfl
theorem e196 {d : Nat} {x1 x2 : Int32} {M : am_M} {w : am_W4}  : am_ev (d + 1) 196 [am_P (3, 0, 0), am_I x1, am_I x2, am_P (1, 0, 0)] M (am_Z w) = am_bk 196 5 [some (am_P (3, 0, 0)), some (am_I x1), some (am_I x2), some (am_P (1, 0, 0)), none] [am_I (nI 0), am_P (1, 0, 0)] ((am_ev d) 67 [am_P (3, 0, 0), am_I x1, am_I x2] M (am_Z w)) (am_rn (am_ev d) 196) some := (am_ev_eq d 196 _ M (am_Z w)).trans (b196_0)
theorem b197_0 {x1 x2 x3 : Int32} {M : am_M} {w : am_W4}  : am_rn call 197 0 [some (am_P (3, 0, 0)), some (am_I x1), some (am_I x2), some (am_I x3), some (am_P (1, 0, 0)), none] [] M (am_Z w) = am_bk 197 7 [some (am_P (3, 0, 0)), some (am_I x1), some (am_I x2), some (am_I x3), some (am_P (1, 0, 0)), none] [am_I (nI 0), am_P (1, 0, 0)] (call 68 [am_P (3, 0, 0), am_I x1, am_I x2, am_I x3] M (am_Z w)) (am_rn call 197) some := by
  refine Eq.trans (rl_aload (j := 4) (by decide +kernel) rfl) ?_
  refine Eq.trans (rl_iconst (c := 0) (k := (nI 0)) (by decide +kernel) (by decide)) ?_
  refine Eq.trans (rl_aloadn (j := 0) (by decide +kernel) rfl) ?_
  refine Eq.trans (rl_iloadn (j := 1) (by decide +kernel) rfl) ?_
  refine Eq.trans (rl_iloadn (j := 2) (by decide +kernel) rfl) ?_
  refine Eq.trans (rl_iloadn (j := 3) (by decide +kernel) rfl) ?_
  refine Eq.trans (rl_invH (ix := 19) (n := 3) (o := 8) 68 [am_I x1, am_I x2, am_I x3] [am_I (nI 0), am_P (1, 0, 0)] (by decide +kernel) (by decide +kernel) (by decide +kernel) (by decide +kernel) rfl rfl ck3) ?_
  rfl
theorem b197_10 {x1 x2 x3 s0 : Int32} {M : am_M} {w : am_W4}  : am_rn call 197 10 [some (am_P (3, 0, 0)), some (am_I x1), some (am_I x2), some (am_I x3), some (am_P (1, 0, 0)), none] [am_I s0, am_I (nI 0), am_P (1, 0, 0)] M (am_Z w) = some (.inl (some (am_I (nI 0))), M, (am_Z (w.1, w.2.1, s0.toInt64, w.2.2.2))) := by
  refine Eq.trans (rl_i2l (by decide +kernel)) ?_
  refine Eq.trans (rl_last (by decide +kernel)) ?_
  refine Eq.trans (rl_goto (o := 7) 19 (by decide +kernel) (by decide)) ?_
  refine Eq.trans (rl_iconst (c := 0) (k := (nI 0)) (by decide +kernel) (by decide)) ?_
  exact rl_iret (by decide +kernel) rfl
theorem b197_17 {x1 x2 x3 : Int32} {x5 : Option am_V} {M : am_M} {w : am_W4}  : am_rn call 197 17 [some (am_P (3, 0, 0)), some (am_I x1), some (am_I x2), some (am_I x3), some (am_P (1, 0, 0)), x5] [] M (am_Z w) = some (.inl (some (am_I (nI 1))), M, (am_Z w)) := by
  refine Eq.trans (rl_iconst (c := 1) (k := (nI 1)) (by decide +kernel) (by decide)) ?_
  exact rl_iret (by decide +kernel) rfl
theorem e197 {d : Nat} {x1 x2 x3 : Int32} {M : am_M} {w : am_W4}  : am_ev (d + 1) 197 [am_P (3, 0, 0), am_I x1, am_I x2, am_I x3, am_P (1, 0, 0)] M (am_Z w) = am_bk 197 7 [some (am_P (3, 0, 0)), some (am_I x1), some (am_I x2), some (am_I x3), some (am_P (1, 0, 0)), none] [am_I (nI 0), am_P (1, 0, 0)] ((am_ev d) 68 [am_P (3, 0, 0), am_I x1, am_I x2, am_I x3] M (am_Z w)) (am_rn (am_ev d) 197) some := (am_ev_eq d 197 _ M (am_Z w)).trans (b197_0)
theorem b198_0 {x1 x2 : Int32} {M : am_M} {w : am_W4}  : am_rn call 198 0 [some (am_P (3, 0, 0)), some (am_I x1), some (am_I x2), some (am_P (1, 0, 0)), none] [] M (am_Z w) = am_bk 198 5 [some (am_P (3, 0, 0)), some (am_I x1), some (am_I x2), some (am_P (1, 0, 0)), none] [am_I (nI 0), am_P (1, 0, 0)] (call 69 [am_P (3, 0, 0), am_I x1, am_I x2] M (am_Z w)) (am_rn call 198) some := by
  refine Eq.trans (rl_aloadn (j := 3) (by decide +kernel) rfl) ?_
  refine Eq.trans (rl_iconst (c := 0) (k := (nI 0)) (by decide +kernel) (by decide)) ?_
  refine Eq.trans (rl_aloadn (j := 0) (by decide +kernel) rfl) ?_
  refine Eq.trans (rl_iloadn (j := 1) (by decide +kernel) rfl) ?_
  refine Eq.trans (rl_iloadn (j := 2) (by decide +kernel) rfl) ?_
  refine Eq.trans (rl_invH (ix := 22) (n := 2) (o := 8) 69 [am_I x1, am_I x2] [am_I (nI 0), am_P (1, 0, 0)] (by decide +kernel) (by decide +kernel) (by decide +kernel) (by decide +kernel) rfl rfl ck3) ?_
  rfl
theorem b198_8 {x1 x2 s0 : Int32} {M : am_M} {w : am_W4}  : am_rn call 198 8 [some (am_P (3, 0, 0)), some (am_I x1), some (am_I x2), some (am_P (1, 0, 0)), none] [am_I s0, am_I (nI 0), am_P (1, 0, 0)] M (am_Z w) = some (.inl (some (am_I (nI 0))), M, (am_Z (w.1, w.2.1, s0.toInt64, w.2.2.2))) := by
  refine Eq.trans (rl_i2l (by decide +kernel)) ?_
  refine Eq.trans (rl_last (by decide +kernel)) ?_
  refine Eq.trans (rl_goto (o := 7) 17 (by decide +kernel) (by decide)) ?_
  refine Eq.trans (rl_iconst (c := 0) (k := (nI 0)) (by decide +kernel) (by decide)) ?_
  exact rl_iret (by decide +kernel) rfl
theorem b198_15 {x1 x2 : Int32} {x4 : Option am_V} {M : am_M} {w : am_W4}  : am_rn call 198 15 [some (am_P (3, 0, 0)), some (am_I x1), some (am_I x2), some (am_P (1, 0, 0)), x4] [] M (am_Z w) = some (.inl (some (am_I (nI 1))), M, (am_Z w)) := by
  refine Eq.trans (rl_iconst (c := 1) (k := (nI 1)) (by decide +kernel) (by decide)) ?_
  exact rl_iret (by decide +kernel) rfl
theorem e198 {d : Nat} {x1 x2 : Int32} {M : am_M} {w : am_W4}  : am_ev (d + 1) 198 [am_P (3, 0, 0), am_I x1, am_I x2, am_P (1, 0, 0)] M (am_Z w) = am_bk 198 5 [some (am_P (3, 0, 0)), some (am_I x1), some (am_I x2), some (am_P (1, 0, 0)), none] [am_I (nI 0), am_P (1, 0, 0)] ((am_ev d) 69 [am_P (3, 0, 0), am_I x1, am_I x2] M (am_Z w)) (am_rn (am_ev d) 198) some := (am_ev_eq d 198 _ M (am_Z w)).trans (b198_0)
theorem b199_0 {x1 x2 : Int32} {M : am_M} {w : am_W4}  : am_rn call 199 0 [some (am_P (3, 0, 0)), some (am_I x1), some (am_I x2), some (am_P (1, 0, 0)), none] [] M (am_Z w) = am_bk 199 5 [some (am_P (3, 0, 0)), some (am_I x1), some (am_I x2), some (am_P (1, 0, 0)), none] [am_I (nI 0), am_P (1, 0, 0)] (call 70 [am_P (3, 0, 0), am_I x1, am_I x2] M (am_Z w)) (am_rn call 199) some := by
  refine Eq.trans (rl_aloadn (j := 3) (by decide +kernel) rfl) ?_
  refine Eq.trans (rl_iconst (c := 0) (k := (nI 0)) (by decide +kernel) (by decide)) ?_
  refine Eq.trans (rl_aloadn (j := 0) (by decide +kernel) rfl) ?_
  refine Eq.trans (rl_iloadn (j := 1) (by decide +kernel) rfl) ?_
  refine Eq.trans (rl_iloadn (j := 2) (by decide +kernel) rfl) ?_
  refine Eq.trans (rl_invH (ix := 25) (n := 2) (o := 8) 70 [am_I x1, am_I x2] [am_I (nI 0), am_P (1, 0, 0)] (by decide +kernel) (by decide +kernel) (by decide +kernel) (by decide +kernel) rfl rfl ck3) ?_
  rfl
theorem b199_8 {x1 x2 s0 : Int32} {M : am_M} {w : am_W4}  : am_rn call 199 8 [some (am_P (3, 0, 0)), some (am_I x1), some (am_I x2), some (am_P (1, 0, 0)), none] [am_I s0, am_I (nI 0), am_P (1, 0, 0)] M (am_Z w) = some (.inl (some (am_I (nI 0))), M, (am_Z (w.1, w.2.1, s0.toInt64, w.2.2.2))) := by
  refine Eq.trans (rl_i2l (by decide +kernel)) ?_
  refine Eq.trans (rl_last (by decide +kernel)) ?_
  refine Eq.trans (rl_goto (o := 7) 17 (by decide +kernel) (by decide)) ?_
  refine Eq.trans (rl_iconst (c := 0) (k := (nI 0)) (by decide +kernel) (by decide)) ?_
  exact rl_iret (by decide +kernel) rfl
theorem b199_15 {x1 x2 : Int32} {x4 : Option am_V} {M : am_M} {w : am_W4}  : am_rn call 199 15 [some (am_P (3, 0, 0)), some (am_I x1), some (am_I x2), some (am_P (1, 0, 0)), x4] [] M (am_Z w) = some (.inl (some (am_I (nI 1))), M, (am_Z w)) := by
  refine Eq.trans (rl_iconst (c := 1) (k := (nI 1)) (by decide +kernel) (by decide)) ?_
  exact rl_iret (by decide +kernel) rfl
theorem e199 {d : Nat} {x1 x2 : Int32} {M : am_M} {w : am_W4}  : am_ev (d + 1) 199 [am_P (3, 0, 0), am_I x1, am_I x2, am_P (1, 0, 0)] M (am_Z w) = am_bk 199 5 [some (am_P (3, 0, 0)), some (am_I x1), some (am_I x2), some (am_P (1, 0, 0)), none] [am_I (nI 0), am_P (1, 0, 0)] ((am_ev d) 70 [am_P (3, 0, 0), am_I x1, am_I x2] M (am_Z w)) (am_rn (am_ev d) 199) some := (am_ev_eq d 199 _ M (am_Z w)).trans (b199_0)
theorem b200_0 {x1 x2 x3 : Int32} {M : am_M} {w : am_W4}  : am_rn call 200 0 [some (am_P (3, 0, 0)), some (am_I x1), some (am_I x2), some (am_I x3), some (am_P (1, 0, 0)), none] [] M (am_Z w) = am_bk 200 7 [some (am_P (3, 0, 0)), some (am_I x1), some (am_I x2), some (am_I x3), some (am_P (1, 0, 0)), none] [am_I (nI 0), am_P (1, 0, 0)] (call 71 [am_P (3, 0, 0), am_I x1, am_I x2, am_I x3] M (am_Z w)) (am_rn call 200) some := by
  refine Eq.trans (rl_aload (j := 4) (by decide +kernel) rfl) ?_
  refine Eq.trans (rl_iconst (c := 0) (k := (nI 0)) (by decide +kernel) (by decide)) ?_
  refine Eq.trans (rl_aloadn (j := 0) (by decide +kernel) rfl) ?_
  refine Eq.trans (rl_iloadn (j := 1) (by decide +kernel) rfl) ?_
  refine Eq.trans (rl_iloadn (j := 2) (by decide +kernel) rfl) ?_
  refine Eq.trans (rl_iloadn (j := 3) (by decide +kernel) rfl) ?_
  refine Eq.trans (rl_invH (ix := 28) (n := 3) (o := 8) 71 [am_I x1, am_I x2, am_I x3] [am_I (nI 0), am_P (1, 0, 0)] (by decide +kernel) (by decide +kernel) (by decide +kernel) (by decide +kernel) rfl rfl ck3) ?_
  rfl
theorem b200_10 {x1 x2 x3 s0 : Int32} {M : am_M} {w : am_W4}  : am_rn call 200 10 [some (am_P (3, 0, 0)), some (am_I x1), some (am_I x2), some (am_I x3), some (am_P (1, 0, 0)), none] [am_I s0, am_I (nI 0), am_P (1, 0, 0)] M (am_Z w) = some (.inl (some (am_I (nI 0))), M, (am_Z (w.1, w.2.1, s0.toInt64, w.2.2.2))) := by
  refine Eq.trans (rl_i2l (by decide +kernel)) ?_
  refine Eq.trans (rl_last (by decide +kernel)) ?_
  refine Eq.trans (rl_goto (o := 7) 19 (by decide +kernel) (by decide)) ?_
  refine Eq.trans (rl_iconst (c := 0) (k := (nI 0)) (by decide +kernel) (by decide)) ?_
  exact rl_iret (by decide +kernel) rfl
theorem b200_17 {x1 x2 x3 : Int32} {x5 : Option am_V} {M : am_M} {w : am_W4}  : am_rn call 200 17 [some (am_P (3, 0, 0)), some (am_I x1), some (am_I x2), some (am_I x3), some (am_P (1, 0, 0)), x5] [] M (am_Z w) = some (.inl (some (am_I (nI 1))), M, (am_Z w)) := by
  refine Eq.trans (rl_iconst (c := 1) (k := (nI 1)) (by decide +kernel) (by decide)) ?_
  exact rl_iret (by decide +kernel) rfl
theorem e200 {d : Nat} {x1 x2 x3 : Int32} {M : am_M} {w : am_W4}  : am_ev (d + 1) 200 [am_P (3, 0, 0), am_I x1, am_I x2, am_I x3, am_P (1, 0, 0)] M (am_Z w) = am_bk 200 7 [some (am_P (3, 0, 0)), some (am_I x1), some (am_I x2), some (am_I x3), some (am_P (1, 0, 0)), none] [am_I (nI 0), am_P (1, 0, 0)] ((am_ev d) 71 [am_P (3, 0, 0), am_I x1, am_I x2, am_I x3] M (am_Z w)) (am_rn (am_ev d) 200) some := (am_ev_eq d 200 _ M (am_Z w)).trans (b200_0)
theorem b201_0 {x1 : Int32} {M : am_M} {w : am_W4}  : am_rn call 201 0 [some (am_P (3, 0, 0)), some (am_I x1), some (am_P (1, 0, 0)), none] [] M (am_Z w) = am_bk 201 4 [some (am_P (3, 0, 0)), some (am_I x1), some (am_P (1, 0, 0)), none] [am_I (nI 0), am_P (1, 0, 0)] (call 72 [am_P (3, 0, 0), am_I x1] M (am_Z w)) (am_rn call 201) some := by
  refine Eq.trans (rl_aloadn (j := 2) (by decide +kernel) rfl) ?_
  refine Eq.trans (rl_iconst (c := 0) (k := (nI 0)) (by decide +kernel) (by decide)) ?_
  refine Eq.trans (rl_aloadn (j := 0) (by decide +kernel) rfl) ?_
  refine Eq.trans (rl_iloadn (j := 1) (by decide +kernel) rfl) ?_
  refine Eq.trans (rl_invH (ix := 31) (n := 1) (o := 8) 72 [am_I x1] [am_I (nI 0), am_P (1, 0, 0)] (by decide +kernel) (by decide +kernel) (by decide +kernel) (by decide +kernel) rfl rfl ck3) ?_
  rfl
theorem b201_7 {x1 s0 : Int32} {M : am_M} {w : am_W4}  : am_rn call 201 7 [some (am_P (3, 0, 0)), some (am_I x1), some (am_P (1, 0, 0)), none] [am_I s0, am_I (nI 0), am_P (1, 0, 0)] M (am_Z w) = some (.inl (some (am_I (nI 0))), M, (am_Z (w.1, w.2.1, s0.toInt64, w.2.2.2))) := by
  refine Eq.trans (rl_i2l (by decide +kernel)) ?_
  refine Eq.trans (rl_last (by decide +kernel)) ?_
  refine Eq.trans (rl_goto (o := 6) 15 (by decide +kernel) (by decide)) ?_
  refine Eq.trans (rl_iconst (c := 0) (k := (nI 0)) (by decide +kernel) (by decide)) ?_
  exact rl_iret (by decide +kernel) rfl
theorem b201_13 {x1 : Int32} {x3 : Option am_V} {M : am_M} {w : am_W4}  : am_rn call 201 13 [some (am_P (3, 0, 0)), some (am_I x1), some (am_P (1, 0, 0)), x3] [] M (am_Z w) = some (.inl (some (am_I (nI 1))), M, (am_Z w)) := by
  refine Eq.trans (rl_iconst (c := 1) (k := (nI 1)) (by decide +kernel) (by decide)) ?_
  exact rl_iret (by decide +kernel) rfl
theorem e201 {d : Nat} {x1 : Int32} {M : am_M} {w : am_W4}  : am_ev (d + 1) 201 [am_P (3, 0, 0), am_I x1, am_P (1, 0, 0)] M (am_Z w) = am_bk 201 4 [some (am_P (3, 0, 0)), some (am_I x1), some (am_P (1, 0, 0)), none] [am_I (nI 0), am_P (1, 0, 0)] ((am_ev d) 72 [am_P (3, 0, 0), am_I x1] M (am_Z w)) (am_rn (am_ev d) 201) some := (am_ev_eq d 201 _ M (am_Z w)).trans (b201_0)
theorem b202_0 {x1 : Int32} {M : am_M} {w : am_W4}  : am_rn call 202 0 [some (am_P (3, 0, 0)), some (am_I x1), some (am_P (1, 0, 0)), none] [] M (am_Z w) = am_bk 202 4 [some (am_P (3, 0, 0)), some (am_I x1), some (am_P (1, 0, 0)), none] [am_I (nI 0), am_P (1, 0, 0)] (call 73 [am_P (3, 0, 0), am_I x1] M (am_Z w)) (am_rn call 202) some := by
  refine Eq.trans (rl_aloadn (j := 2) (by decide +kernel) rfl) ?_
  refine Eq.trans (rl_iconst (c := 0) (k := (nI 0)) (by decide +kernel) (by decide)) ?_
  refine Eq.trans (rl_aloadn (j := 0) (by decide +kernel) rfl) ?_
  refine Eq.trans (rl_iloadn (j := 1) (by decide +kernel) rfl) ?_
  refine Eq.trans (rl_invH (ix := 35) (n := 1) (o := 8) 73 [am_I x1] [am_I (nI 0), am_P (1, 0, 0)] (by decide +kernel) (by decide +kernel) (by decide +kernel) (by decide +kernel) rfl rfl ck3) ?_
  rfl
theorem b202_7 {x1 s0 : Int32} {M : am_M} {w : am_W4}  : am_rn call 202 7 [some (am_P (3, 0, 0)), some (am_I x1), some (am_P (1, 0, 0)), none] [am_I s0, am_I (nI 0), am_P (1, 0, 0)] M (am_Z w) = some (.inl (some (am_I (nI 0))), M, (am_Z (w.1, w.2.1, s0.toInt64, w.2.2.2))) := by
  refine Eq.trans (rl_i2l (by decide +kernel)) ?_
  refine Eq.trans (rl_last (by decide +kernel)) ?_
  refine Eq.trans (rl_goto (o := 6) 15 (by decide +kernel) (by decide)) ?_
  refine Eq.trans (rl_iconst (c := 0) (k := (nI 0)) (by decide +kernel) (by decide)) ?_
  exact rl_iret (by decide +kernel) rfl
theorem b202_13 {x1 : Int32} {x3 : Option am_V} {M : am_M} {w : am_W4}  : am_rn call 202 13 [some (am_P (3, 0, 0)), some (am_I x1), some (am_P (1, 0, 0)), x3] [] M (am_Z w) = some (.inl (some (am_I (nI 1))), M, (am_Z w)) := by
  refine Eq.trans (rl_iconst (c := 1) (k := (nI 1)) (by decide +kernel) (by decide)) ?_
  exact rl_iret (by decide +kernel) rfl
theorem e202 {d : Nat} {x1 : Int32} {M : am_M} {w : am_W4}  : am_ev (d + 1) 202 [am_P (3, 0, 0), am_I x1, am_P (1, 0, 0)] M (am_Z w) = am_bk 202 4 [some (am_P (3, 0, 0)), some (am_I x1), some (am_P (1, 0, 0)), none] [am_I (nI 0), am_P (1, 0, 0)] ((am_ev d) 73 [am_P (3, 0, 0), am_I x1] M (am_Z w)) (am_rn (am_ev d) 202) some := (am_ev_eq d 202 _ M (am_Z w)).trans (b202_0)
theorem b203_0 {x1 x2 : Int32} {M : am_M} {w : am_W4}  : am_rn call 203 0 [some (am_P (3, 0, 0)), some (am_I x1), some (am_I x2), some (am_P (1, 0, 0)), none] [] M (am_Z w) = am_bk 203 5 [some (am_P (3, 0, 0)), some (am_I x1), some (am_I x2), some (am_P (1, 0, 0)), none] [am_I (nI 0), am_P (1, 0, 0)] (call 75 [am_P (3, 0, 0), am_I x1, am_I x2] M (am_Z w)) (am_rn call 203) some := by
  refine Eq.trans (rl_aloadn (j := 3) (by decide +kernel) rfl) ?_
  refine Eq.trans (rl_iconst (c := 0) (k := (nI 0)) (by decide +kernel) (by decide)) ?_
  refine Eq.trans (rl_aloadn (j := 0) (by decide +kernel) rfl) ?_
  refine Eq.trans (rl_iloadn (j := 1) (by decide +kernel) rfl) ?_
  refine Eq.trans (rl_iloadn (j := 2) (by decide +kernel) rfl) ?_
  refine Eq.trans (rl_invH (ix := 38) (n := 2) (o := 8) 75 [am_I x1, am_I x2] [am_I (nI 0), am_P (1, 0, 0)] (by decide +kernel) (by decide +kernel) (by decide +kernel) (by decide +kernel) rfl rfl ck3) ?_
  rfl
theorem b203_8 {x1 x2 s0 : Int32} {M : am_M} {w : am_W4}  : am_rn call 203 8 [some (am_P (3, 0, 0)), some (am_I x1), some (am_I x2), some (am_P (1, 0, 0)), none] [am_I s0, am_I (nI 0), am_P (1, 0, 0)] M (am_Z w) = some (.inl (some (am_I (nI 0))), M, (am_Z (w.1, w.2.1, s0.toInt64, w.2.2.2))) := by
  refine Eq.trans (rl_i2l (by decide +kernel)) ?_
  refine Eq.trans (rl_last (by decide +kernel)) ?_
  refine Eq.trans (rl_goto (o := 11) 21 (by decide +kernel) (by decide)) ?_
  refine Eq.trans (rl_iconst (c := 0) (k := (nI 0)) (by decide +kernel) (by decide)) ?_
  exact rl_iret (by decide +kernel) rfl
theorem b203_15 {x1 x2 : Int32} {x4 : Option am_V} {M : am_M} {w : am_W4}  : am_rn call 203 15 [some (am_P (3, 0, 0)), some (am_I x1), some (am_I x2), some (am_P (1, 0, 0)), x4] [] M (am_Z w) = some (.inl (some (am_I (nI 1))), M, (am_Z w)) := by
  refine Eq.trans (rl_iconst (c := 1) (k := (nI 1)) (by decide +kernel) (by decide)) ?_
  exact rl_iret (by decide +kernel) rfl
theorem b203_19 {x1 x2 : Int32} {x4 : Option am_V} {M : am_M} {w : am_W4}  : am_rn call 203 19 [some (am_P (3, 0, 0)), some (am_I x1), some (am_I x2), some (am_P (1, 0, 0)), x4] [] M (am_Z w) = some (.inl (some (am_I (nI 2))), M, (am_Z w)) := by
  refine Eq.trans (rl_iconst (c := 2) (k := (nI 2)) (by decide +kernel) (by decide)) ?_
  exact rl_iret (by decide +kernel) rfl
theorem e203 {d : Nat} {x1 x2 : Int32} {M : am_M} {w : am_W4}  : am_ev (d + 1) 203 [am_P (3, 0, 0), am_I x1, am_I x2, am_P (1, 0, 0)] M (am_Z w) = am_bk 203 5 [some (am_P (3, 0, 0)), some (am_I x1), some (am_I x2), some (am_P (1, 0, 0)), none] [am_I (nI 0), am_P (1, 0, 0)] ((am_ev d) 75 [am_P (3, 0, 0), am_I x1, am_I x2] M (am_Z w)) (am_rn (am_ev d) 203) some := (am_ev_eq d 203 _ M (am_Z w)).trans (b203_0)
theorem b204_0 {x1 x2 : Int32} {M : am_M} {w : am_W4}  : am_rn call 204 0 [some (am_P (3, 0, 0)), some (am_I x1), some (am_I x2), some (am_P (1, 0, 0)), none] [] M (am_Z w) = am_bk 204 5 [some (am_P (3, 0, 0)), some (am_I x1), some (am_I x2), some (am_P (1, 0, 0)), none] [am_I (nI 0), am_P (1, 0, 0)] (call 76 [am_P (3, 0, 0), am_I x1, am_I x2] M (am_Z w)) (am_rn call 204) some := by
  refine Eq.trans (rl_aloadn (j := 3) (by decide +kernel) rfl) ?_
  refine Eq.trans (rl_iconst (c := 0) (k := (nI 0)) (by decide +kernel) (by decide)) ?_
  refine Eq.trans (rl_aloadn (j := 0) (by decide +kernel) rfl) ?_
  refine Eq.trans (rl_iloadn (j := 1) (by decide +kernel) rfl) ?_
  refine Eq.trans (rl_iloadn (j := 2) (by decide +kernel) rfl) ?_
  refine Eq.trans (rl_invH (ix := 45) (n := 2) (o := 8) 76 [am_I x1, am_I x2] [am_I (nI 0), am_P (1, 0, 0)] (by decide +kernel) (by decide +kernel) (by decide +kernel) (by decide +kernel) rfl rfl ck3) ?_
  rfl
theorem b204_8 {x1 x2 s0 : Int32} {M : am_M} {w : am_W4}  : am_rn call 204 8 [some (am_P (3, 0, 0)), some (am_I x1), some (am_I x2), some (am_P (1, 0, 0)), none] [am_I s0, am_I (nI 0), am_P (1, 0, 0)] M (am_Z w) = some (.inl (some (am_I (nI 0))), M, (am_Z (w.1, w.2.1, s0.toInt64, w.2.2.2))) := by
  refine Eq.trans (rl_i2l (by decide +kernel)) ?_
  refine Eq.trans (rl_last (by decide +kernel)) ?_
  refine Eq.trans (rl_goto (o := 11) 21 (by decide +kernel) (by decide)) ?_
  refine Eq.trans (rl_iconst (c := 0) (k := (nI 0)) (by decide +kernel) (by decide)) ?_
  exact rl_iret (by decide +kernel) rfl
theorem b204_15 {x1 x2 : Int32} {x4 : Option am_V} {M : am_M} {w : am_W4}  : am_rn call 204 15 [some (am_P (3, 0, 0)), some (am_I x1), some (am_I x2), some (am_P (1, 0, 0)), x4] [] M (am_Z w) = some (.inl (some (am_I (nI 1))), M, (am_Z w)) := by
  refine Eq.trans (rl_iconst (c := 1) (k := (nI 1)) (by decide +kernel) (by decide)) ?_
  exact rl_iret (by decide +kernel) rfl
theorem b204_19 {x1 x2 : Int32} {x4 : Option am_V} {M : am_M} {w : am_W4}  : am_rn call 204 19 [some (am_P (3, 0, 0)), some (am_I x1), some (am_I x2), some (am_P (1, 0, 0)), x4] [] M (am_Z w) = some (.inl (some (am_I (nI 2))), M, (am_Z w)) := by
  refine Eq.trans (rl_iconst (c := 2) (k := (nI 2)) (by decide +kernel) (by decide)) ?_
  exact rl_iret (by decide +kernel) rfl
theorem e204 {d : Nat} {x1 x2 : Int32} {M : am_M} {w : am_W4}  : am_ev (d + 1) 204 [am_P (3, 0, 0), am_I x1, am_I x2, am_P (1, 0, 0)] M (am_Z w) = am_bk 204 5 [some (am_P (3, 0, 0)), some (am_I x1), some (am_I x2), some (am_P (1, 0, 0)), none] [am_I (nI 0), am_P (1, 0, 0)] ((am_ev d) 76 [am_P (3, 0, 0), am_I x1, am_I x2] M (am_Z w)) (am_rn (am_ev d) 204) some := (am_ev_eq d 204 _ M (am_Z w)).trans (b204_0)
theorem b205_0 {x1 : Int32} {M : am_M} {w : am_W4}  : am_rn call 205 0 [some (am_P (3, 0, 0)), some (am_I x1), some (am_P (1, 0, 0)), none] [] M (am_Z w) = am_bk 205 4 [some (am_P (3, 0, 0)), some (am_I x1), some (am_P (1, 0, 0)), none] [am_I (nI 0), am_P (1, 0, 0)] (call 77 [am_P (3, 0, 0), am_I x1] M (am_Z w)) (am_rn call 205) some := by
  refine Eq.trans (rl_aloadn (j := 2) (by decide +kernel) rfl) ?_
  refine Eq.trans (rl_iconst (c := 0) (k := (nI 0)) (by decide +kernel) (by decide)) ?_
  refine Eq.trans (rl_aloadn (j := 0) (by decide +kernel) rfl) ?_
  refine Eq.trans (rl_iloadn (j := 1) (by decide +kernel) rfl) ?_
  refine Eq.trans (rl_invH (ix := 48) (n := 1) (o := 8) 77 [am_I x1] [am_I (nI 0), am_P (1, 0, 0)] (by decide +kernel) (by decide +kernel) (by decide +kernel) (by decide +kernel) rfl rfl ck3) ?_
  rfl
theorem b205_7 {x1 s0 : Int32} {M : am_M} {w : am_W4}  : am_rn call 205 7 [some (am_P (3, 0, 0)), some (am_I x1), some (am_P (1, 0, 0)), none] [am_I s0, am_I (nI 0), am_P (1, 0, 0)] M (am_Z w) = some (.inl (some (am_I (nI 0))), M, (am_Z (w.1, w.2.1, s0.toInt64, w.2.2.2))) := by
  refine Eq.trans (rl_i2l (by decide +kernel)) ?_
  refine Eq.trans (rl_last (by decide +kernel)) ?_
  refine Eq.trans (rl_goto (o := 6) 15 (by decide +kernel) (by decide)) ?_
  refine Eq.trans (rl_iconst (c := 0) (k := (nI 0)) (by decide +kernel) (by decide)) ?_
  exact rl_iret (by decide +kernel) rfl
theorem b205_13 {x1 : Int32} {x3 : Option am_V} {M : am_M} {w : am_W4}  : am_rn call 205 13 [some (am_P (3, 0, 0)), some (am_I x1), some (am_P (1, 0, 0)), x3] [] M (am_Z w) = some (.inl (some (am_I (nI 1))), M, (am_Z w)) := by
  refine Eq.trans (rl_iconst (c := 1) (k := (nI 1)) (by decide +kernel) (by decide)) ?_
  exact rl_iret (by decide +kernel) rfl
theorem e205 {d : Nat} {x1 : Int32} {M : am_M} {w : am_W4}  : am_ev (d + 1) 205 [am_P (3, 0, 0), am_I x1, am_P (1, 0, 0)] M (am_Z w) = am_bk 205 4 [some (am_P (3, 0, 0)), some (am_I x1), some (am_P (1, 0, 0)), none] [am_I (nI 0), am_P (1, 0, 0)] ((am_ev d) 77 [am_P (3, 0, 0), am_I x1] M (am_Z w)) (am_rn (am_ev d) 205) some := (am_ev_eq d 205 _ M (am_Z w)).trans (b205_0)
theorem b206_0 {x1 x2 : Int32} {M : am_M} {w : am_W4}  : am_rn call 206 0 [some (am_P (3, 0, 0)), some (am_I x1), some (am_I x2), some (am_P (1, 0, 0)), none] [] M (am_Z w) = am_bk 206 5 [some (am_P (3, 0, 0)), some (am_I x1), some (am_I x2), some (am_P (1, 0, 0)), none] [am_I (nI 0), am_P (1, 0, 0)] (call 85 [am_P (3, 0, 0), am_I x1, am_I x2] M (am_Z w)) (am_rn call 206) some := by
  refine Eq.trans (rl_aloadn (j := 3) (by decide +kernel) rfl) ?_
  refine Eq.trans (rl_iconst (c := 0) (k := (nI 0)) (by decide +kernel) (by decide)) ?_
  refine Eq.trans (rl_aloadn (j := 0) (by decide +kernel) rfl) ?_
  refine Eq.trans (rl_iloadn (j := 1) (by decide +kernel) rfl) ?_
  refine Eq.trans (rl_iloadn (j := 2) (by decide +kernel) rfl) ?_
  refine Eq.trans (rl_invH (ix := 51) (n := 2) (o := 8) 85 [am_I x1, am_I x2] [am_I (nI 0), am_P (1, 0, 0)] (by decide +kernel) (by decide +kernel) (by decide +kernel) (by decide +kernel) rfl rfl ck3) ?_
  rfl
theorem b206_8 {x1 x2 s0 : Int32} {M : am_M} {w : am_W4}  : am_rn call 206 8 [some (am_P (3, 0, 0)), some (am_I x1), some (am_I x2), some (am_P (1, 0, 0)), none] [am_I s0, am_I (nI 0), am_P (1, 0, 0)] M (am_Z w) = some (.inl (some (am_I (nI 0))), M, (am_Z (w.1, w.2.1, s0.toInt64, w.2.2.2))) := by
  refine Eq.trans (rl_i2l (by decide +kernel)) ?_
  refine Eq.trans (rl_last (by decide +kernel)) ?_
  refine Eq.trans (rl_goto (o := 11) 21 (by decide +kernel) (by decide)) ?_
  refine Eq.trans (rl_iconst (c := 0) (k := (nI 0)) (by decide +kernel) (by decide)) ?_
  exact rl_iret (by decide +kernel) rfl
theorem b206_15 {x1 x2 : Int32} {x4 : Option am_V} {M : am_M} {w : am_W4}  : am_rn call 206 15 [some (am_P (3, 0, 0)), some (am_I x1), some (am_I x2), some (am_P (1, 0, 0)), x4] [] M (am_Z w) = some (.inl (some (am_I (nI 1))), M, (am_Z w)) := by
  refine Eq.trans (rl_iconst (c := 1) (k := (nI 1)) (by decide +kernel) (by decide)) ?_
  exact rl_iret (by decide +kernel) rfl
theorem b206_19 {x1 x2 : Int32} {x4 : Option am_V} {M : am_M} {w : am_W4}  : am_rn call 206 19 [some (am_P (3, 0, 0)), some (am_I x1), some (am_I x2), some (am_P (1, 0, 0)), x4] [] M (am_Z w) = some (.inl (some (am_I (nI 2))), M, (am_Z w)) := by
  refine Eq.trans (rl_iconst (c := 2) (k := (nI 2)) (by decide +kernel) (by decide)) ?_
  exact rl_iret (by decide +kernel) rfl
theorem e206 {d : Nat} {x1 x2 : Int32} {M : am_M} {w : am_W4}  : am_ev (d + 1) 206 [am_P (3, 0, 0), am_I x1, am_I x2, am_P (1, 0, 0)] M (am_Z w) = am_bk 206 5 [some (am_P (3, 0, 0)), some (am_I x1), some (am_I x2), some (am_P (1, 0, 0)), none] [am_I (nI 0), am_P (1, 0, 0)] ((am_ev d) 85 [am_P (3, 0, 0), am_I x1, am_I x2] M (am_Z w)) (am_rn (am_ev d) 206) some := (am_ev_eq d 206 _ M (am_Z w)).trans (b206_0)
theorem b207_0 {x1 x2 : Int32} {M : am_M} {w : am_W4}  : am_rn call 207 0 [some (am_P (3, 0, 0)), some (am_I x1), some (am_I x2), some (am_P (1, 0, 0)), none] [] M (am_Z w) = am_bk 207 5 [some (am_P (3, 0, 0)), some (am_I x1), some (am_I x2), some (am_P (1, 0, 0)), none] [am_I (nI 0), am_P (1, 0, 0)] (call 86 [am_P (3, 0, 0), am_I x1, am_I x2] M (am_Z w)) (am_rn call 207) some := by
  refine Eq.trans (rl_aloadn (j := 3) (by decide +kernel) rfl) ?_
  refine Eq.trans (rl_iconst (c := 0) (k := (nI 0)) (by decide +kernel) (by decide)) ?_
  refine Eq.trans (rl_aloadn (j := 0) (by decide +kernel) rfl) ?_
  refine Eq.trans (rl_iloadn (j := 1) (by decide +kernel) rfl) ?_
  refine Eq.trans (rl_iloadn (j := 2) (by decide +kernel) rfl) ?_
  refine Eq.trans (rl_invH (ix := 54) (n := 2) (o := 8) 86 [am_I x1, am_I x2] [am_I (nI 0), am_P (1, 0, 0)] (by decide +kernel) (by decide +kernel) (by decide +kernel) (by decide +kernel) rfl rfl ck3) ?_
  rfl
theorem b207_8 {x1 x2 s0 : Int32} {M : am_M} {w : am_W4}  : am_rn call 207 8 [some (am_P (3, 0, 0)), some (am_I x1), some (am_I x2), some (am_P (1, 0, 0)), none] [am_I s0, am_I (nI 0), am_P (1, 0, 0)] M (am_Z w) = some (.inl (some (am_I (nI 0))), M, (am_Z (w.1, w.2.1, s0.toInt64, w.2.2.2))) := by
  refine Eq.trans (rl_i2l (by decide +kernel)) ?_
  refine Eq.trans (rl_last (by decide +kernel)) ?_
  refine Eq.trans (rl_goto (o := 7) 17 (by decide +kernel) (by decide)) ?_
  refine Eq.trans (rl_iconst (c := 0) (k := (nI 0)) (by decide +kernel) (by decide)) ?_
  exact rl_iret (by decide +kernel) rfl
theorem b207_15 {x1 x2 : Int32} {x4 : Option am_V} {M : am_M} {w : am_W4}  : am_rn call 207 15 [some (am_P (3, 0, 0)), some (am_I x1), some (am_I x2), some (am_P (1, 0, 0)), x4] [] M (am_Z w) = some (.inl (some (am_I (nI 1))), M, (am_Z w)) := by
  refine Eq.trans (rl_iconst (c := 1) (k := (nI 1)) (by decide +kernel) (by decide)) ?_
  exact rl_iret (by decide +kernel) rfl
theorem e207 {d : Nat} {x1 x2 : Int32} {M : am_M} {w : am_W4}  : am_ev (d + 1) 207 [am_P (3, 0, 0), am_I x1, am_I x2, am_P (1, 0, 0)] M (am_Z w) = am_bk 207 5 [some (am_P (3, 0, 0)), some (am_I x1), some (am_I x2), some (am_P (1, 0, 0)), none] [am_I (nI 0), am_P (1, 0, 0)] ((am_ev d) 86 [am_P (3, 0, 0), am_I x1, am_I x2] M (am_Z w)) (am_rn (am_ev d) 207) some := (am_ev_eq d 207 _ M (am_Z w)).trans (b207_0)
theorem b208_0 {x1 : Int32} {M : am_M} {w : am_W4}  : am_rn call 208 0 [some (am_P (3, 0, 0)), some (am_I x1), some (am_P (1, 0, 0)), none] [] M (am_Z w) = am_bk 208 4 [some (am_P (3, 0, 0)), some (am_I x1), some (am_P (1, 0, 0)), none] [am_I (nI 0), am_P (1, 0, 0)] (call 87 [am_P (3, 0, 0), am_I x1] M (am_Z w)) (am_rn call 208) some := by
  refine Eq.trans (rl_aloadn (j := 2) (by decide +kernel) rfl) ?_
  refine Eq.trans (rl_iconst (c := 0) (k := (nI 0)) (by decide +kernel) (by decide)) ?_
  refine Eq.trans (rl_aloadn (j := 0) (by decide +kernel) rfl) ?_
  refine Eq.trans (rl_iloadn (j := 1) (by decide +kernel) rfl) ?_
  refine Eq.trans (rl_invH (ix := 57) (n := 1) (o := 8) 87 [am_I x1] [am_I (nI 0), am_P (1, 0, 0)] (by decide +kernel) (by decide +kernel) (by decide +kernel) (by decide +kernel) rfl rfl ck3) ?_
  rfl
theorem b208_7 {x1 s0 : Int32} {M : am_M} {w : am_W4}  : am_rn call 208 7 [some (am_P (3, 0, 0)), some (am_I x1), some (am_P (1, 0, 0)), none] [am_I s0, am_I (nI 0), am_P (1, 0, 0)] M (am_Z w) = some (.inl (some (am_I (nI 0))), M, (am_Z (w.1, w.2.1, s0.toInt64, w.2.2.2))) := by
  refine Eq.trans (rl_i2l (by decide +kernel)) ?_
  refine Eq.trans (rl_last (by decide +kernel)) ?_
  refine Eq.trans (rl_goto (o := 6) 15 (by decide +kernel) (by decide)) ?_
  refine Eq.trans (rl_iconst (c := 0) (k := (nI 0)) (by decide +kernel) (by decide)) ?_
  exact rl_iret (by decide +kernel) rfl
theorem b208_13 {x1 : Int32} {x3 : Option am_V} {M : am_M} {w : am_W4}  : am_rn call 208 13 [some (am_P (3, 0, 0)), some (am_I x1), some (am_P (1, 0, 0)), x3] [] M (am_Z w) = some (.inl (some (am_I (nI 1))), M, (am_Z w)) := by
  refine Eq.trans (rl_iconst (c := 1) (k := (nI 1)) (by decide +kernel) (by decide)) ?_
  exact rl_iret (by decide +kernel) rfl
theorem e208 {d : Nat} {x1 : Int32} {M : am_M} {w : am_W4}  : am_ev (d + 1) 208 [am_P (3, 0, 0), am_I x1, am_P (1, 0, 0)] M (am_Z w) = am_bk 208 4 [some (am_P (3, 0, 0)), some (am_I x1), some (am_P (1, 0, 0)), none] [am_I (nI 0), am_P (1, 0, 0)] ((am_ev d) 87 [am_P (3, 0, 0), am_I x1] M (am_Z w)) (am_rn (am_ev d) 208) some := (am_ev_eq d 208 _ M (am_Z w)).trans (b208_0)
theorem b209_0 {x1 x2 : Int32} {M : am_M} {w : am_W4}  : am_rn call 209 0 [some (am_P (3, 0, 0)), some (am_I x1), some (am_I x2), some (am_P (1, 0, 0)), none] [] M (am_Z w) = am_bk 209 5 [some (am_P (3, 0, 0)), some (am_I x1), some (am_I x2), some (am_P (1, 0, 0)), none] [am_I (nI 0), am_P (1, 0, 0)] (call 88 [am_P (3, 0, 0), am_I x1, am_I x2] M (am_Z w)) (am_rn call 209) some := by
  refine Eq.trans (rl_aloadn (j := 3) (by decide +kernel) rfl) ?_
  refine Eq.trans (rl_iconst (c := 0) (k := (nI 0)) (by decide +kernel) (by decide)) ?_
  refine Eq.trans (rl_aloadn (j := 0) (by decide +kernel) rfl) ?_
  refine Eq.trans (rl_iloadn (j := 1) (by decide +kernel) rfl) ?_
  refine Eq.trans (rl_iloadn (j := 2) (by decide +kernel) rfl) ?_
  refine Eq.trans (rl_invH (ix := 60) (n := 2) (o := 8) 88 [am_I x1, am_I x2] [am_I (nI 0), am_P (1, 0, 0)] (by decide +kernel) (by decide +kernel) (by decide +kernel) (by decide +kernel) rfl rfl ck3) ?_
  rfl
theorem b209_8 {x1 x2 s0 : Int32} {M : am_M} {w : am_W4}  : am_rn call 209 8 [some (am_P (3, 0, 0)), some (am_I x1), some (am_I x2), some (am_P (1, 0, 0)), none] [am_I s0, am_I (nI 0), am_P (1, 0, 0)] M (am_Z w) = some (.inl (some (am_I (nI 0))), M, (am_Z (w.1, w.2.1, s0.toInt64, w.2.2.2))) := by
  refine Eq.trans (rl_i2l (by decide +kernel)) ?_
  refine Eq.trans (rl_last (by decide +kernel)) ?_
  refine Eq.trans (rl_goto (o := 11) 21 (by decide +kernel) (by decide)) ?_
  refine Eq.trans (rl_iconst (c := 0) (k := (nI 0)) (by decide +kernel) (by decide)) ?_
  exact rl_iret (by decide +kernel) rfl
theorem b209_15 {x1 x2 : Int32} {x4 : Option am_V} {M : am_M} {w : am_W4}  : am_rn call 209 15 [some (am_P (3, 0, 0)), some (am_I x1), some (am_I x2), some (am_P (1, 0, 0)), x4] [] M (am_Z w) = some (.inl (some (am_I (nI 1))), M, (am_Z w)) := by
  refine Eq.trans (rl_iconst (c := 1) (k := (nI 1)) (by decide +kernel) (by decide)) ?_
  exact rl_iret (by decide +kernel) rfl
theorem b209_19 {x1 x2 : Int32} {x4 : Option am_V} {M : am_M} {w : am_W4}  : am_rn call 209 19 [some (am_P (3, 0, 0)), some (am_I x1), some (am_I x2), some (am_P (1, 0, 0)), x4] [] M (am_Z w) = some (.inl (some (am_I (nI 2))), M, (am_Z w)) := by
  refine Eq.trans (rl_iconst (c := 2) (k := (nI 2)) (by decide +kernel) (by decide)) ?_
  exact rl_iret (by decide +kernel) rfl
theorem e209 {d : Nat} {x1 x2 : Int32} {M : am_M} {w : am_W4}  : am_ev (d + 1) 209 [am_P (3, 0, 0), am_I x1, am_I x2, am_P (1, 0, 0)] M (am_Z w) = am_bk 209 5 [some (am_P (3, 0, 0)), some (am_I x1), some (am_I x2), some (am_P (1, 0, 0)), none] [am_I (nI 0), am_P (1, 0, 0)] ((am_ev d) 88 [am_P (3, 0, 0), am_I x1, am_I x2] M (am_Z w)) (am_rn (am_ev d) 209) some := (am_ev_eq d 209 _ M (am_Z w)).trans (b209_0)
theorem b210_0 {x1 : Int32} {M : am_M} {w : am_W4}  : am_rn call 210 0 [some (am_P (3, 0, 0)), some (am_I x1), some (am_P (1, 0, 0)), none] [] M (am_Z w) = am_bk 210 4 [some (am_P (3, 0, 0)), some (am_I x1), some (am_P (1, 0, 0)), none] [am_I (nI 0), am_P (1, 0, 0)] (call 89 [am_P (3, 0, 0), am_I x1] M (am_Z w)) (am_rn call 210) some := by
  refine Eq.trans (rl_aloadn (j := 2) (by decide +kernel) rfl) ?_
  refine Eq.trans (rl_iconst (c := 0) (k := (nI 0)) (by decide +kernel) (by decide)) ?_
  refine Eq.trans (rl_aloadn (j := 0) (by decide +kernel) rfl) ?_
  refine Eq.trans (rl_iloadn (j := 1) (by decide +kernel) rfl) ?_
  refine Eq.trans (rl_invH (ix := 65) (n := 1) (o := 8) 89 [am_I x1] [am_I (nI 0), am_P (1, 0, 0)] (by decide +kernel) (by decide +kernel) (by decide +kernel) (by decide +kernel) rfl rfl ck3) ?_
  rfl
theorem b210_7 {x1 s0 : Int32} {M : am_M} {w : am_W4}  : am_rn call 210 7 [some (am_P (3, 0, 0)), some (am_I x1), some (am_P (1, 0, 0)), none] [am_I s0, am_I (nI 0), am_P (1, 0, 0)] M (am_Z w) = some (.inl (some (am_I (nI 0))), M, (am_Z (w.1, w.2.1, s0.toInt64, w.2.2.2))) := by
  refine Eq.trans (rl_i2l (by decide +kernel)) ?_
  refine Eq.trans (rl_last (by decide +kernel)) ?_
  refine Eq.trans (rl_goto (o := 6) 15 (by decide +kernel) (by decide)) ?_
  refine Eq.trans (rl_iconst (c := 0) (k := (nI 0)) (by decide +kernel) (by decide)) ?_
  exact rl_iret (by decide +kernel) rfl
theorem b210_13 {x1 : Int32} {x3 : Option am_V} {M : am_M} {w : am_W4}  : am_rn call 210 13 [some (am_P (3, 0, 0)), some (am_I x1), some (am_P (1, 0, 0)), x3] [] M (am_Z w) = some (.inl (some (am_I (nI 1))), M, (am_Z w)) := by
  refine Eq.trans (rl_iconst (c := 1) (k := (nI 1)) (by decide +kernel) (by decide)) ?_
  exact rl_iret (by decide +kernel) rfl
theorem e210 {d : Nat} {x1 : Int32} {M : am_M} {w : am_W4}  : am_ev (d + 1) 210 [am_P (3, 0, 0), am_I x1, am_P (1, 0, 0)] M (am_Z w) = am_bk 210 4 [some (am_P (3, 0, 0)), some (am_I x1), some (am_P (1, 0, 0)), none] [am_I (nI 0), am_P (1, 0, 0)] ((am_ev d) 89 [am_P (3, 0, 0), am_I x1] M (am_Z w)) (am_rn (am_ev d) 210) some := (am_ev_eq d 210 _ M (am_Z w)).trans (b210_0)
theorem b211_0 {x1 x2 : Int32} {M : am_M} {w : am_W4}  : am_rn call 211 0 [some (am_P (3, 0, 0)), some (am_I x1), some (am_I x2), some (am_P (1, 0, 0)), none] [] M (am_Z w) = am_bk 211 5 [some (am_P (3, 0, 0)), some (am_I x1), some (am_I x2), some (am_P (1, 0, 0)), none] [am_I (nI 0), am_P (1, 0, 0)] (call 78 [am_P (3, 0, 0), am_I x1, am_I x2] M (am_Z w)) (am_rn call 211) some := by
  refine Eq.trans (rl_aloadn (j := 3) (by decide +kernel) rfl) ?_
  refine Eq.trans (rl_iconst (c := 0) (k := (nI 0)) (by decide +kernel) (by decide)) ?_
  refine Eq.trans (rl_aloadn (j := 0) (by decide +kernel) rfl) ?_
  refine Eq.trans (rl_iloadn (j := 1) (by decide +kernel) rfl) ?_
  refine Eq.trans (rl_iloadn (j := 2) (by decide +kernel) rfl) ?_
  refine Eq.trans (rl_invH (ix := 68) (n := 2) (o := 8) 78 [am_I x1, am_I x2] [am_I (nI 0), am_P (1, 0, 0)] (by decide +kernel) (by decide +kernel) (by decide +kernel) (by decide +kernel) rfl rfl ck3) ?_
  rfl
theorem b211_8 {x1 x2 s0 : Int32} {M : am_M} {w : am_W4}  : am_rn call 211 8 [some (am_P (3, 0, 0)), some (am_I x1), some (am_I x2), some (am_P (1, 0, 0)), none] [am_I s0, am_I (nI 0), am_P (1, 0, 0)] M (am_Z w) = some (.inl (some (am_I (nI 0))), M, (am_Z (w.1, w.2.1, s0.toInt64, w.2.2.2))) := by
  refine Eq.trans (rl_i2l (by decide +kernel)) ?_
  refine Eq.trans (rl_last (by decide +kernel)) ?_
  refine Eq.trans (rl_goto (o := 11) 21 (by decide +kernel) (by decide)) ?_
  refine Eq.trans (rl_iconst (c := 0) (k := (nI 0)) (by decide +kernel) (by decide)) ?_
  exact rl_iret (by decide +kernel) rfl
theorem b211_15 {x1 x2 : Int32} {x4 : Option am_V} {M : am_M} {w : am_W4}  : am_rn call 211 15 [some (am_P (3, 0, 0)), some (am_I x1), some (am_I x2), some (am_P (1, 0, 0)), x4] [] M (am_Z w) = some (.inl (some (am_I (nI 1))), M, (am_Z w)) := by
  refine Eq.trans (rl_iconst (c := 1) (k := (nI 1)) (by decide +kernel) (by decide)) ?_
  exact rl_iret (by decide +kernel) rfl
theorem b211_19 {x1 x2 : Int32} {x4 : Option am_V} {M : am_M} {w : am_W4}  : am_rn call 211 19 [some (am_P (3, 0, 0)), some (am_I x1), some (am_I x2), some (am_P (1, 0, 0)), x4] [] M (am_Z w) = some (.inl (some (am_I (nI 2))), M, (am_Z w)) := by
  refine Eq.trans (rl_iconst (c := 2) (k := (nI 2)) (by decide +kernel) (by decide)) ?_
  exact rl_iret (by decide +kernel) rfl
theorem e211 {d : Nat} {x1 x2 : Int32} {M : am_M} {w : am_W4}  : am_ev (d + 1) 211 [am_P (3, 0, 0), am_I x1, am_I x2, am_P (1, 0, 0)] M (am_Z w) = am_bk 211 5 [some (am_P (3, 0, 0)), some (am_I x1), some (am_I x2), some (am_P (1, 0, 0)), none] [am_I (nI 0), am_P (1, 0, 0)] ((am_ev d) 78 [am_P (3, 0, 0), am_I x1, am_I x2] M (am_Z w)) (am_rn (am_ev d) 211) some := (am_ev_eq d 211 _ M (am_Z w)).trans (b211_0)
theorem b212_0 {x1 x2 : Int32} {M : am_M} {w : am_W4}  : am_rn call 212 0 [some (am_P (3, 0, 0)), some (am_I x1), some (am_I x2), some (am_P (1, 0, 0)), none] [] M (am_Z w) = am_bk 212 5 [some (am_P (3, 0, 0)), some (am_I x1), some (am_I x2), some (am_P (1, 0, 0)), none] [am_I (nI 0), am_P (1, 0, 0)] (call 79 [am_P (3, 0, 0), am_I x1, am_I x2] M (am_Z w)) (am_rn call 212) some := by
  refine Eq.trans (rl_aloadn (j := 3) (by decide +kernel) rfl) ?_
  refine Eq.trans (rl_iconst (c := 0) (k := (nI 0)) (by decide +kernel) (by decide)) ?_
  refine Eq.trans (rl_aloadn (j := 0) (by decide +kernel) rfl) ?_
  refine Eq.trans (rl_iloadn (j := 1) (by decide +kernel) rfl) ?_
  refine Eq.trans (rl_iloadn (j := 2) (by decide +kernel) rfl) ?_
  refine Eq.trans (rl_invH (ix := 72) (n := 2) (o := 8) 79 [am_I x1, am_I x2] [am_I (nI 0), am_P (1, 0, 0)] (by decide +kernel) (by decide +kernel) (by decide +kernel) (by decide +kernel) rfl rfl ck3) ?_
  rfl
theorem b212_8 {x1 x2 s0 : Int32} {M : am_M} {w : am_W4}  : am_rn call 212 8 [some (am_P (3, 0, 0)), some (am_I x1), some (am_I x2), some (am_P (1, 0, 0)), none] [am_I s0, am_I (nI 0), am_P (1, 0, 0)] M (am_Z w) = if s0 = 0 then some (.inl (some (am_I (nI 0))), M, (am_Z (w.1, w.2.1, (0 : Int64), w.2.2.2))) else some (.inl (some (am_I (nI 0))), M, (am_Z (w.1, w.2.1, (1 : Int64), w.2.2.2))) := by
  refine Eq.trans (rl_ifeq (o := 7) 15 (by decide +kernel) (by decide)) ?_
  refine am_ite (fun h_1 => ?_) (fun h_1 => ?_)
  · skip
    refine Eq.trans (rl_lconst (c := 0) (k := (0 : Int64)) (by decide +kernel) rfl) ?_
    refine Eq.trans (rl_last (by decide +kernel)) ?_
    refine Eq.trans (rl_goto (o := 11) 28 (by decide +kernel) (by decide)) ?_
    refine Eq.trans (rl_iconst (c := 0) (k := (nI 0)) (by decide +kernel) (by decide)) ?_
    exact rl_iret (by decide +kernel) rfl
  · skip
    refine Eq.trans (rl_lconst (c := 1) (k := (1 : Int64)) (by decide +kernel) rfl) ?_
    refine Eq.trans (rl_goto (o := 4) 16 (by decide +kernel) (by decide)) ?_
    refine Eq.trans (rl_last (by decide +kernel)) ?_
    refine Eq.trans (rl_goto (o := 11) 28 (by decide +kernel) (by decide)) ?_
    refine Eq.trans (rl_iconst (c := 0) (k := (nI 0)) (by decide +kernel) (by decide)) ?_
    exact rl_iret (by decide +kernel) rfl
theorem b212_22 {x1 x2 : Int32} {x4 : Option am_V} {M : am_M} {w : am_W4}  : am_rn call 212 22 [some (am_P (3, 0, 0)), some (am_I x1), some (am_I x2), some (am_P (1, 0, 0)), x4] [] M (am_Z w) = some (.inl (some (am_I (nI 1))), M, (am_Z w)) := by
  refine Eq.trans (rl_iconst (c := 1) (k := (nI 1)) (by decide +kernel) (by decide)) ?_
  exact rl_iret (by decide +kernel) rfl
theorem b212_26 {x1 x2 : Int32} {x4 : Option am_V} {M : am_M} {w : am_W4}  : am_rn call 212 26 [some (am_P (3, 0, 0)), some (am_I x1), some (am_I x2), some (am_P (1, 0, 0)), x4] [] M (am_Z w) = some (.inl (some (am_I (nI 2))), M, (am_Z w)) := by
  refine Eq.trans (rl_iconst (c := 2) (k := (nI 2)) (by decide +kernel) (by decide)) ?_
  exact rl_iret (by decide +kernel) rfl
theorem e212 {d : Nat} {x1 x2 : Int32} {M : am_M} {w : am_W4}  : am_ev (d + 1) 212 [am_P (3, 0, 0), am_I x1, am_I x2, am_P (1, 0, 0)] M (am_Z w) = am_bk 212 5 [some (am_P (3, 0, 0)), some (am_I x1), some (am_I x2), some (am_P (1, 0, 0)), none] [am_I (nI 0), am_P (1, 0, 0)] ((am_ev d) 79 [am_P (3, 0, 0), am_I x1, am_I x2] M (am_Z w)) (am_rn (am_ev d) 212) some := (am_ev_eq d 212 _ M (am_Z w)).trans (b212_0)
theorem b213_0 {x1 x2 : Int32} {M : am_M} {w : am_W4}  : am_rn call 213 0 [some (am_P (3, 0, 0)), some (am_I x1), some (am_I x2), some (am_P (1, 0, 0)), none] [] M (am_Z w) = am_bk 213 5 [some (am_P (3, 0, 0)), some (am_I x1), some (am_I x2), some (am_P (1, 0, 0)), none] [am_I (nI 0), am_P (1, 0, 0)] (call 80 [am_P (3, 0, 0), am_I x1, am_I x2] M (am_Z w)) (am_rn call 213) some := by
  refine Eq.trans (rl_aloadn (j := 3) (by decide +kernel) rfl) ?_
  refine Eq.trans (rl_iconst (c := 0) (k := (nI 0)) (by decide +kernel) (by decide)) ?_
  refine Eq.trans (rl_aloadn (j := 0) (by decide +kernel) rfl) ?_
  refine Eq.trans (rl_iloadn (j := 1) (by decide +kernel) rfl) ?_
  refine Eq.trans (rl_iloadn (j := 2) (by decide +kernel) rfl) ?_
  refine Eq.trans (rl_invH (ix := 76) (n := 2) (o := 8) 80 [am_I x1, am_I x2] [am_I (nI 0), am_P (1, 0, 0)] (by decide +kernel) (by decide +kernel) (by decide +kernel) (by decide +kernel) rfl rfl ck3) ?_
  rfl
theorem b213_8 {x1 x2 s0 : Int32} {M : am_M} {w : am_W4}  : am_rn call 213 8 [some (am_P (3, 0, 0)), some (am_I x1), some (am_I x2), some (am_P (1, 0, 0)), none] [am_I s0, am_I (nI 0), am_P (1, 0, 0)] M (am_Z w) = some (.inl (some (am_I (nI 0))), M, (am_Z (w.1, w.2.1, s0.toInt64, w.2.2.2))) := by
  refine Eq.trans (rl_i2l (by decide +kernel)) ?_
  refine Eq.trans (rl_last (by decide +kernel)) ?_
  refine Eq.trans (rl_goto (o := 11) 21 (by decide +kernel) (by decide)) ?_
  refine Eq.trans (rl_iconst (c := 0) (k := (nI 0)) (by decide +kernel) (by decide)) ?_
  exact rl_iret (by decide +kernel) rfl
theorem b213_15 {x1 x2 : Int32} {x4 : Option am_V} {M : am_M} {w : am_W4}  : am_rn call 213 15 [some (am_P (3, 0, 0)), some (am_I x1), some (am_I x2), some (am_P (1, 0, 0)), x4] [] M (am_Z w) = some (.inl (some (am_I (nI 1))), M, (am_Z w)) := by
  refine Eq.trans (rl_iconst (c := 1) (k := (nI 1)) (by decide +kernel) (by decide)) ?_
  exact rl_iret (by decide +kernel) rfl
theorem b213_19 {x1 x2 : Int32} {x4 : Option am_V} {M : am_M} {w : am_W4}  : am_rn call 213 19 [some (am_P (3, 0, 0)), some (am_I x1), some (am_I x2), some (am_P (1, 0, 0)), x4] [] M (am_Z w) = some (.inl (some (am_I (nI 2))), M, (am_Z w)) := by
  refine Eq.trans (rl_iconst (c := 2) (k := (nI 2)) (by decide +kernel) (by decide)) ?_
  exact rl_iret (by decide +kernel) rfl
theorem e213 {d : Nat} {x1 x2 : Int32} {M : am_M} {w : am_W4}  : am_ev (d + 1) 213 [am_P (3, 0, 0), am_I x1, am_I x2, am_P (1, 0, 0)] M (am_Z w) = am_bk 213 5 [some (am_P (3, 0, 0)), some (am_I x1), some (am_I x2), some (am_P (1, 0, 0)), none] [am_I (nI 0), am_P (1, 0, 0)] ((am_ev d) 80 [am_P (3, 0, 0), am_I x1, am_I x2] M (am_Z w)) (am_rn (am_ev d) 213) some := (am_ev_eq d 213 _ M (am_Z w)).trans (b213_0)
theorem b214_0 {x1 : Int32} {M : am_M} {w : am_W4}  : am_rn call 214 0 [some (am_P (3, 0, 0)), some (am_I x1), some (am_P (1, 0, 0)), none] [] M (am_Z w) = am_bk 214 4 [some (am_P (3, 0, 0)), some (am_I x1), some (am_P (1, 0, 0)), none] [am_I (nI 0), am_P (1, 0, 0)] (call 90 [am_P (3, 0, 0), am_I x1] M (am_Z w)) (am_rn call 214) some := by
  refine Eq.trans (rl_aloadn (j := 2) (by decide +kernel) rfl) ?_
  refine Eq.trans (rl_iconst (c := 0) (k := (nI 0)) (by decide +kernel) (by decide)) ?_
  refine Eq.trans (rl_aloadn (j := 0) (by decide +kernel) rfl) ?_
  refine Eq.trans (rl_iloadn (j := 1) (by decide +kernel) rfl) ?_
  refine Eq.trans (rl_invH (ix := 79) (n := 1) (o := 8) 90 [am_I x1] [am_I (nI 0), am_P (1, 0, 0)] (by decide +kernel) (by decide +kernel) (by decide +kernel) (by decide +kernel) rfl rfl ck3) ?_
  rfl
theorem b214_7 {x1 s0 : Int32} {M : am_M} {w : am_W4}  : am_rn call 214 7 [some (am_P (3, 0, 0)), some (am_I x1), some (am_P (1, 0, 0)), none] [am_I s0, am_I (nI 0), am_P (1, 0, 0)] M (am_Z w) = some (.inl (some (am_I (nI 0))), M, (am_Z (w.1, w.2.1, s0.toInt64, w.2.2.2))) := by
  refine Eq.trans (rl_i2l (by decide +kernel)) ?_
  refine Eq.trans (rl_last (by decide +kernel)) ?_
  refine Eq.trans (rl_goto (o := 9) 18 (by decide +kernel) (by decide)) ?_
  refine Eq.trans (rl_iconst (c := 0) (k := (nI 0)) (by decide +kernel) (by decide)) ?_
  exact rl_iret (by decide +kernel) rfl
theorem b214_13 {x1 : Int32} {x3 : Option am_V} {M : am_M} {w : am_W4}  : am_rn call 214 13 [some (am_P (3, 0, 0)), some (am_I x1), some (am_P (1, 0, 0)), x3] [] M (am_Z w) = some (.inl (some (am_I (nI 1))), M, (am_Z w)) := by
  refine Eq.trans (rl_iconst (c := 1) (k := (nI 1)) (by decide +kernel) (by decide)) ?_
  exact rl_iret (by decide +kernel) rfl
theorem b214_16 {x1 : Int32} {x3 : Option am_V} {M : am_M} {w : am_W4}  : am_rn call 214 16 [some (am_P (3, 0, 0)), some (am_I x1), some (am_P (1, 0, 0)), x3] [] M (am_Z w) = some (.inl (some (am_I (nI 2))), M, (am_Z w)) := by
  refine Eq.trans (rl_iconst (c := 2) (k := (nI 2)) (by decide +kernel) (by decide)) ?_
  exact rl_iret (by decide +kernel) rfl
theorem e214 {d : Nat} {x1 : Int32} {M : am_M} {w : am_W4}  : am_ev (d + 1) 214 [am_P (3, 0, 0), am_I x1, am_P (1, 0, 0)] M (am_Z w) = am_bk 214 4 [some (am_P (3, 0, 0)), some (am_I x1), some (am_P (1, 0, 0)), none] [am_I (nI 0), am_P (1, 0, 0)] ((am_ev d) 90 [am_P (3, 0, 0), am_I x1] M (am_Z w)) (am_rn (am_ev d) 214) some := (am_ev_eq d 214 _ M (am_Z w)).trans (b214_0)
theorem b215_0 {x1 : Int32} {M : am_M} {w : am_W4}  : am_rn call 215 0 [some (am_P (3, 0, 0)), some (am_I x1), some (am_P (1, 0, 0)), none] [] M (am_Z w) = am_bk 215 4 [some (am_P (3, 0, 0)), some (am_I x1), some (am_P (1, 0, 0)), none] [am_I (nI 0), am_P (1, 0, 0)] (call 91 [am_P (3, 0, 0), am_I x1] M (am_Z w)) (am_rn call 215) some := by
  refine Eq.trans (rl_aloadn (j := 2) (by decide +kernel) rfl) ?_
  refine Eq.trans (rl_iconst (c := 0) (k := (nI 0)) (by decide +kernel) (by decide)) ?_
  refine Eq.trans (rl_aloadn (j := 0) (by decide +kernel) rfl) ?_
  refine Eq.trans (rl_iloadn (j := 1) (by decide +kernel) rfl) ?_
  refine Eq.trans (rl_invH (ix := 82) (n := 1) (o := 8) 91 [am_I x1] [am_I (nI 0), am_P (1, 0, 0)] (by decide +kernel) (by decide +kernel) (by decide +kernel) (by decide +kernel) rfl rfl ck3) ?_
  rfl
theorem b215_7 {x1 s0 : Int32} {M : am_M} {w : am_W4}  : am_rn call 215 7 [some (am_P (3, 0, 0)), some (am_I x1), some (am_P (1, 0, 0)), none] [am_I s0, am_I (nI 0), am_P (1, 0, 0)] M (am_Z w) = some (.inl (some (am_I (nI 0))), M, (am_Z (w.1, w.2.1, s0.toInt64, w.2.2.2))) := by
  refine Eq.trans (rl_i2l (by decide +kernel)) ?_
  refine Eq.trans (rl_last (by decide +kernel)) ?_
  refine Eq.trans (rl_goto (o := 9) 18 (by decide +kernel) (by decide)) ?_
  refine Eq.trans (rl_iconst (c := 0) (k := (nI 0)) (by decide +kernel) (by decide)) ?_
  exact rl_iret (by decide +kernel) rfl
theorem b215_13 {x1 : Int32} {x3 : Option am_V} {M : am_M} {w : am_W4}  : am_rn call 215 13 [some (am_P (3, 0, 0)), some (am_I x1), some (am_P (1, 0, 0)), x3] [] M (am_Z w) = some (.inl (some (am_I (nI 1))), M, (am_Z w)) := by
  refine Eq.trans (rl_iconst (c := 1) (k := (nI 1)) (by decide +kernel) (by decide)) ?_
  exact rl_iret (by decide +kernel) rfl
theorem b215_16 {x1 : Int32} {x3 : Option am_V} {M : am_M} {w : am_W4}  : am_rn call 215 16 [some (am_P (3, 0, 0)), some (am_I x1), some (am_P (1, 0, 0)), x3] [] M (am_Z w) = some (.inl (some (am_I (nI 2))), M, (am_Z w)) := by
  refine Eq.trans (rl_iconst (c := 2) (k := (nI 2)) (by decide +kernel) (by decide)) ?_
  exact rl_iret (by decide +kernel) rfl
theorem e215 {d : Nat} {x1 : Int32} {M : am_M} {w : am_W4}  : am_ev (d + 1) 215 [am_P (3, 0, 0), am_I x1, am_P (1, 0, 0)] M (am_Z w) = am_bk 215 4 [some (am_P (3, 0, 0)), some (am_I x1), some (am_P (1, 0, 0)), none] [am_I (nI 0), am_P (1, 0, 0)] ((am_ev d) 91 [am_P (3, 0, 0), am_I x1] M (am_Z w)) (am_rn (am_ev d) 215) some := (am_ev_eq d 215 _ M (am_Z w)).trans (b215_0)
theorem b216_0 {x1 : Int32} {M : am_M} {w : am_W4}  : am_rn call 216 0 [some (am_P (3, 0, 0)), some (am_I x1), some (am_P (1, 0, 0)), none] [] M (am_Z w) = am_bk 216 4 [some (am_P (3, 0, 0)), some (am_I x1), some (am_P (1, 0, 0)), none] [am_I (nI 0), am_P (1, 0, 0)] (call 94 [am_P (3, 0, 0), am_I x1] M (am_Z w)) (am_rn call 216) some := by
  refine Eq.trans (rl_aloadn (j := 2) (by decide +kernel) rfl) ?_
  refine Eq.trans (rl_iconst (c := 0) (k := (nI 0)) (by decide +kernel) (by decide)) ?_
  refine Eq.trans (rl_aloadn (j := 0) (by decide +kernel) rfl) ?_
  refine Eq.trans (rl_iloadn (j := 1) (by decide +kernel) rfl) ?_
  refine Eq.trans (rl_invH (ix := 85) (n := 1) (o := 8) 94 [am_I x1] [am_I (nI 0), am_P (1, 0, 0)] (by decide +kernel) (by decide +kernel) (by decide +kernel) (by decide +kernel) rfl rfl ck3) ?_
  rfl
theorem b216_7 {x1 s0 : Int32} {M : am_M} {w : am_W4}  : am_rn call 216 7 [some (am_P (3, 0, 0)), some (am_I x1), some (am_P (1, 0, 0)), none] [am_I s0, am_I (nI 0), am_P (1, 0, 0)] M (am_Z w) = some (.inl (some (am_I (nI 0))), M, (am_Z (w.1, w.2.1, s0.toInt64, w.2.2.2))) := by
  refine Eq.trans (rl_i2l (by decide +kernel)) ?_
  refine Eq.trans (rl_last (by decide +kernel)) ?_
  refine Eq.trans (rl_goto (o := 6) 15 (by decide +kernel) (by decide)) ?_
  refine Eq.trans (rl_iconst (c := 0) (k := (nI 0)) (by decide +kernel) (by decide)) ?_
  exact rl_iret (by decide +kernel) rfl
theorem b216_13 {x1 : Int32} {x3 : Option am_V} {M : am_M} {w : am_W4}  : am_rn call 216 13 [some (am_P (3, 0, 0)), some (am_I x1), some (am_P (1, 0, 0)), x3] [] M (am_Z w) = some (.inl (some (am_I (nI 1))), M, (am_Z w)) := by
  refine Eq.trans (rl_iconst (c := 1) (k := (nI 1)) (by decide +kernel) (by decide)) ?_
  exact rl_iret (by decide +kernel) rfl
theorem e216 {d : Nat} {x1 : Int32} {M : am_M} {w : am_W4}  : am_ev (d + 1) 216 [am_P (3, 0, 0), am_I x1, am_P (1, 0, 0)] M (am_Z w) = am_bk 216 4 [some (am_P (3, 0, 0)), some (am_I x1), some (am_P (1, 0, 0)), none] [am_I (nI 0), am_P (1, 0, 0)] ((am_ev d) 94 [am_P (3, 0, 0), am_I x1] M (am_Z w)) (am_rn (am_ev d) 216) some := (am_ev_eq d 216 _ M (am_Z w)).trans (b216_0)
theorem b217_0 {x1 : Int32} {M : am_M} {w : am_W4}  : am_rn call 217 0 [some (am_P (3, 0, 0)), some (am_I x1), some (am_P (1, 0, 0)), none] [] M (am_Z w) = am_bk 217 4 [some (am_P (3, 0, 0)), some (am_I x1), some (am_P (1, 0, 0)), none] [am_I (nI 0), am_P (1, 0, 0)] (call 98 [am_P (3, 0, 0), am_I x1] M (am_Z w)) (am_rn call 217) some := by
  refine Eq.trans (rl_aloadn (j := 2) (by decide +kernel) rfl) ?_
  refine Eq.trans (rl_iconst (c := 0) (k := (nI 0)) (by decide +kernel) (by decide)) ?_
  refine Eq.trans (rl_aloadn (j := 0) (by decide +kernel) rfl) ?_
  refine Eq.trans (rl_iloadn (j := 1) (by decide +kernel) rfl) ?_
  refine Eq.trans (rl_invH (ix := 88) (n := 1) (o := 8) 98 [am_I x1] [am_I (nI 0), am_P (1, 0, 0)] (by decide +kernel) (by decide +kernel) (by decide +kernel) (by decide +kernel) rfl rfl ck3) ?_
  rfl
theorem b217_7 {x1 s0 : Int32} {M : am_M} {w : am_W4}  : am_rn call 217 7 [some (am_P (3, 0, 0)), some (am_I x1), some (am_P (1, 0, 0)), none] [am_I s0, am_I (nI 0), am_P (1, 0, 0)] M (am_Z w) = some (.inl (some (am_I (nI 0))), M, (am_Z (w.1, w.2.1, s0.toInt64, w.2.2.2))) := by
  refine Eq.trans (rl_i2l (by decide +kernel)) ?_
  refine Eq.trans (rl_last (by decide +kernel)) ?_
  refine Eq.trans (rl_goto (o := 6) 15 (by decide +kernel) (by decide)) ?_
  refine Eq.trans (rl_iconst (c := 0) (k := (nI 0)) (by decide +kernel) (by decide)) ?_
  exact rl_iret (by decide +kernel) rfl
theorem b217_13 {x1 : Int32} {x3 : Option am_V} {M : am_M} {w : am_W4}  : am_rn call 217 13 [some (am_P (3, 0, 0)), some (am_I x1), some (am_P (1, 0, 0)), x3] [] M (am_Z w) = some (.inl (some (am_I (nI 1))), M, (am_Z w)) := by
  refine Eq.trans (rl_iconst (c := 1) (k := (nI 1)) (by decide +kernel) (by decide)) ?_
  exact rl_iret (by decide +kernel) rfl
theorem e217 {d : Nat} {x1 : Int32} {M : am_M} {w : am_W4}  : am_ev (d + 1) 217 [am_P (3, 0, 0), am_I x1, am_P (1, 0, 0)] M (am_Z w) = am_bk 217 4 [some (am_P (3, 0, 0)), some (am_I x1), some (am_P (1, 0, 0)), none] [am_I (nI 0), am_P (1, 0, 0)] ((am_ev d) 98 [am_P (3, 0, 0), am_I x1] M (am_Z w)) (am_rn (am_ev d) 217) some := (am_ev_eq d 217 _ M (am_Z w)).trans (b217_0)
theorem b218_0  {M : am_M} {w : am_W4}  : am_rn call 218 0 [some (am_P (3, 0, 0)), some (am_P (1, 0, 0)), none] [] M (am_Z w) = am_bk 218 3 [some (am_P (3, 0, 0)), some (am_P (1, 0, 0)), none] [am_I (nI 0), am_P (1, 0, 0)] (call 99 [am_P (3, 0, 0)] M (am_Z w)) (am_rn call 218) some := by
  refine Eq.trans (rl_aloadn (j := 1) (by decide +kernel) rfl) ?_
  refine Eq.trans (rl_iconst (c := 0) (k := (nI 0)) (by decide +kernel) (by decide)) ?_
  refine Eq.trans (rl_aloadn (j := 0) (by decide +kernel) rfl) ?_
  refine Eq.trans (rl_invH (ix := 94) (n := 0) (o := 8) 99 [] [am_I (nI 0), am_P (1, 0, 0)] (by decide +kernel) (by decide +kernel) (by decide +kernel) (by decide +kernel) rfl rfl ck3) ?_
  rfl
theorem b218_6 {s0 : Int32} {M : am_M} {w : am_W4}  : am_rn call 218 6 [some (am_P (3, 0, 0)), some (am_P (1, 0, 0)), none] [am_I s0, am_I (nI 0), am_P (1, 0, 0)] M (am_Z w) = some (.inl (some (am_I (nI 0))), M, (am_Z (w.1, w.2.1, s0.toInt64, w.2.2.2))) := by
  refine Eq.trans (rl_i2l (by decide +kernel)) ?_
  refine Eq.trans (rl_last (by decide +kernel)) ?_
  refine Eq.trans (rl_goto (o := 9) 17 (by decide +kernel) (by decide)) ?_
  refine Eq.trans (rl_iconst (c := 0) (k := (nI 0)) (by decide +kernel) (by decide)) ?_
  exact rl_iret (by decide +kernel) rfl
theorem b218_12 {x2 : Option am_V} {M : am_M} {w : am_W4}  : am_rn call 218 12 [some (am_P (3, 0, 0)), some (am_P (1, 0, 0)), x2] [] M (am_Z w) = some (.inl (some (am_I (nI 1))), M, (am_Z w)) := by
  refine Eq.trans (rl_iconst (c := 1) (k := (nI 1)) (by decide +kernel) (by decide)) ?_
  exact rl_iret (by decide +kernel) rfl
theorem b218_15 {x2 : Option am_V} {M : am_M} {w : am_W4}  : am_rn call 218 15 [some (am_P (3, 0, 0)), some (am_P (1, 0, 0)), x2] [] M (am_Z w) = some (.inl (some (am_I (nI 2))), M, (am_Z w)) := by
  refine Eq.trans (rl_iconst (c := 2) (k := (nI 2)) (by decide +kernel) (by decide)) ?_
  exact rl_iret (by decide +kernel) rfl
theorem e218 {d : Nat}  {M : am_M} {w : am_W4}  : am_ev (d + 1) 218 [am_P (3, 0, 0), am_P (1, 0, 0)] M (am_Z w) = am_bk 218 3 [some (am_P (3, 0, 0)), some (am_P (1, 0, 0)), none] [am_I (nI 0), am_P (1, 0, 0)] ((am_ev d) 99 [am_P (3, 0, 0)] M (am_Z w)) (am_rn (am_ev d) 218) some := (am_ev_eq d 218 _ M (am_Z w)).trans (b218_0)
theorem b219_0 {x1 : Int32} {M : am_M} {w : am_W4}  : am_rn call 219 0 [some (am_P (3, 0, 0)), some (am_I x1), some (am_P (1, 0, 0)), none] [] M (am_Z w) = am_bk 219 4 [some (am_P (3, 0, 0)), some (am_I x1), some (am_P (1, 0, 0)), none] [am_I (nI 0), am_P (1, 0, 0)] (call 101 [am_P (3, 0, 0), am_I x1] M (am_Z w)) (am_rn call 219) some := by
  refine Eq.trans (rl_aloadn (j := 2) (by decide +kernel) rfl) ?_
  refine Eq.trans (rl_iconst (c := 0) (k := (nI 0)) (by decide +kernel) (by decide)) ?_
  refine Eq.trans (rl_aloadn (j := 0) (by decide +kernel) rfl) ?_
  refine Eq.trans (rl_iloadn (j := 1) (by decide +kernel) rfl) ?_
  refine Eq.trans (rl_invH (ix := 98) (n := 1) (o := 8) 101 [am_I x1] [am_I (nI 0), am_P (1, 0, 0)] (by decide +kernel) (by decide +kernel) (by decide +kernel) (by decide +kernel) rfl rfl ck3) ?_
  rfl
theorem b219_7 {x1 s0 : Int32} {M : am_M} {w : am_W4}  : am_rn call 219 7 [some (am_P (3, 0, 0)), some (am_I x1), some (am_P (1, 0, 0)), none] [am_I s0, am_I (nI 0), am_P (1, 0, 0)] M (am_Z w) = some (.inl (some (am_I (nI 0))), M, (am_Z (w.1, w.2.1, s0.toInt64, w.2.2.2))) := by
  refine Eq.trans (rl_i2l (by decide +kernel)) ?_
  refine Eq.trans (rl_last (by decide +kernel)) ?_
  refine Eq.trans (rl_goto (o := 9) 18 (by decide +kernel) (by decide)) ?_
  refine Eq.trans (rl_iconst (c := 0) (k := (nI 0)) (by decide +kernel) (by decide)) ?_
  exact rl_iret (by decide +kernel) rfl
theorem b219_13 {x1 : Int32} {x3 : Option am_V} {M : am_M} {w : am_W4}  : am_rn call 219 13 [some (am_P (3, 0, 0)), some (am_I x1), some (am_P (1, 0, 0)), x3] [] M (am_Z w) = some (.inl (some (am_I (nI 1))), M, (am_Z w)) := by
  refine Eq.trans (rl_iconst (c := 1) (k := (nI 1)) (by decide +kernel) (by decide)) ?_
  exact rl_iret (by decide +kernel) rfl
theorem b219_16 {x1 : Int32} {x3 : Option am_V} {M : am_M} {w : am_W4}  : am_rn call 219 16 [some (am_P (3, 0, 0)), some (am_I x1), some (am_P (1, 0, 0)), x3] [] M (am_Z w) = some (.inl (some (am_I (nI 2))), M, (am_Z w)) := by
  refine Eq.trans (rl_iconst (c := 2) (k := (nI 2)) (by decide +kernel) (by decide)) ?_
  exact rl_iret (by decide +kernel) rfl
theorem e219 {d : Nat} {x1 : Int32} {M : am_M} {w : am_W4}  : am_ev (d + 1) 219 [am_P (3, 0, 0), am_I x1, am_P (1, 0, 0)] M (am_Z w) = am_bk 219 4 [some (am_P (3, 0, 0)), some (am_I x1), some (am_P (1, 0, 0)), none] [am_I (nI 0), am_P (1, 0, 0)] ((am_ev d) 101 [am_P (3, 0, 0), am_I x1] M (am_Z w)) (am_rn (am_ev d) 219) some := (am_ev_eq d 219 _ M (am_Z w)).trans (b219_0)
theorem b220_0 {x1 : Int32} {M : am_M} {w : am_W4}  : am_rn call 220 0 [some (am_P (3, 0, 0)), some (am_I x1), some (am_P (1, 0, 0)), none] [] M (am_Z w) = am_bk 220 4 [some (am_P (3, 0, 0)), some (am_I x1), some (am_P (1, 0, 0)), none] [am_I (nI 0), am_P (1, 0, 0)] (call 102 [am_P (3, 0, 0), am_I x1] M (am_Z w)) (am_rn call 220) some := by
  refine Eq.trans (rl_aloadn (j := 2) (by decide +kernel) rfl) ?_
  refine Eq.trans (rl_iconst (c := 0) (k := (nI 0)) (by decide +kernel) (by decide)) ?_
  refine Eq.trans (rl_aloadn (j := 0) (by decide +kernel) rfl) ?_
  refine Eq.trans (rl_iloadn (j := 1) (by decide +kernel) rfl) ?_
  refine Eq.trans (rl_invH (ix := 101) (n := 1) (o := 8) 102 [am_I x1] [am_I (nI 0), am_P (1, 0, 0)] (by decide +kernel) (by decide +kernel) (by decide +kernel) (by decide +kernel) rfl rfl ck3) ?_
  rfl
theorem b220_7 {x1 s0 : Int32} {M : am_M} {w : am_W4}  : am_rn call 220 7 [some (am_P (3, 0, 0)), some (am_I x1), some (am_P (1, 0, 0)), none] [am_I s0, am_I (nI 0), am_P (1, 0, 0)] M (am_Z w) = some (.inl (some (am_I (nI 0))), M, (am_Z (w.1, w.2.1, s0.toInt64, w.2.2.2))) := by
  refine Eq.trans (rl_i2l (by decide +kernel)) ?_
  refine Eq.trans (rl_last (by decide +kernel)) ?_
  refine Eq.trans (rl_goto (o := 6) 15 (by decide +kernel) (by decide)) ?_
  refine Eq.trans (rl_iconst (c := 0) (k := (nI 0)) (by decide +kernel) (by decide)) ?_
  exact rl_iret (by decide +kernel) rfl
theorem b220_13 {x1 : Int32} {x3 : Option am_V} {M : am_M} {w : am_W4}  : am_rn call 220 13 [some (am_P (3, 0, 0)), some (am_I x1), some (am_P (1, 0, 0)), x3] [] M (am_Z w) = some (.inl (some (am_I (nI 1))), M, (am_Z w)) := by
  refine Eq.trans (rl_iconst (c := 1) (k := (nI 1)) (by decide +kernel) (by decide)) ?_
  exact rl_iret (by decide +kernel) rfl
theorem e220 {d : Nat} {x1 : Int32} {M : am_M} {w : am_W4}  : am_ev (d + 1) 220 [am_P (3, 0, 0), am_I x1, am_P (1, 0, 0)] M (am_Z w) = am_bk 220 4 [some (am_P (3, 0, 0)), some (am_I x1), some (am_P (1, 0, 0)), none] [am_I (nI 0), am_P (1, 0, 0)] ((am_ev d) 102 [am_P (3, 0, 0), am_I x1] M (am_Z w)) (am_rn (am_ev d) 220) some := (am_ev_eq d 220 _ M (am_Z w)).trans (b220_0)
theorem b221_0 {x1 : Int32} {M : am_M} {w : am_W4}  : am_rn call 221 0 [some (am_P (3, 0, 0)), some (am_I x1), some (am_P (1, 0, 0)), none] [] M (am_Z w) = am_bk 221 4 [some (am_P (3, 0, 0)), some (am_I x1), some (am_P (1, 0, 0)), none] [am_I (nI 0), am_P (1, 0, 0)] (call 105 [am_P (3, 0, 0), am_I x1] M (am_Z w)) (am_rn call 221) some := by
  refine Eq.trans (rl_aloadn (j := 2) (by decide +kernel) rfl) ?_
  refine Eq.trans (rl_iconst (c := 0) (k := (nI 0)) (by decide +kernel) (by decide)) ?_
  refine Eq.trans (rl_aloadn (j := 0) (by decide +kernel) rfl) ?_
  refine Eq.trans (rl_iloadn (j := 1) (by decide +kernel) rfl) ?_
  refine Eq.trans (rl_invH (ix := 104) (n := 1) (o := 8) 105 [am_I x1] [am_I (nI 0), am_P (1, 0, 0)] (by decide +kernel) (by decide +kernel) (by decide +kernel) (by decide +kernel) rfl rfl ck3) ?_
  rfl
theorem b221_7 {x1 s0 : Int32} {M : am_M} {w : am_W4}  : am_rn call 221 7 [some (am_P (3, 0, 0)), some (am_I x1), some (am_P (1, 0, 0)), none] [am_I s0, am_I (nI 0), am_P (1, 0, 0)] M (am_Z w) = some (.inl (some (am_I (nI 0))), M, (am_Z (w.1, w.2.1, s0.toInt64, w.2.2.2))) := by
  refine Eq.trans (rl_i2l (by decide +kernel)) ?_
  refine Eq.trans (rl_last (by decide +kernel)) ?_
  refine Eq.trans (rl_goto (o := 6) 15 (by decide +kernel) (by decide)) ?_
  refine Eq.trans (rl_iconst (c := 0) (k := (nI 0)) (by decide +kernel) (by decide)) ?_
  exact rl_iret (by decide +kernel) rfl
theorem b221_13 {x1 : Int32} {x3 : Option am_V} {M : am_M} {w : am_W4}  : am_rn call 221 13 [some (am_P (3, 0, 0)), some (am_I x1), some (am_P (1, 0, 0)), x3] [] M (am_Z w) = some (.inl (some (am_I (nI 1))), M, (am_Z w)) := by
  refine Eq.trans (rl_iconst (c := 1) (k := (nI 1)) (by decide +kernel) (by decide)) ?_
  exact rl_iret (by decide +kernel) rfl
theorem e221 {d : Nat} {x1 : Int32} {M : am_M} {w : am_W4}  : am_ev (d + 1) 221 [am_P (3, 0, 0), am_I x1, am_P (1, 0, 0)] M (am_Z w) = am_bk 221 4 [some (am_P (3, 0, 0)), some (am_I x1), some (am_P (1, 0, 0)), none] [am_I (nI 0), am_P (1, 0, 0)] ((am_ev d) 105 [am_P (3, 0, 0), am_I x1] M (am_Z w)) (am_rn (am_ev d) 221) some := (am_ev_eq d 221 _ M (am_Z w)).trans (b221_0)
theorem b222_0  {M : am_M} {w : am_W4}  : am_rn call 222 0 [some (am_P (3, 0, 0)), some (am_P (2, 0, 0)), none] [] M (am_Z w) = am_bk 222 3 [some (am_P (3, 0, 0)), some (am_P (2, 0, 0)), none] [am_I (nI 0), am_P (2, 0, 0)] (call 81 [am_P (3, 0, 0)] M (am_Z w)) (am_rn call 222) some := by
  refine Eq.trans (rl_aloadn (j := 1) (by decide +kernel) rfl) ?_
  refine Eq.trans (rl_iconst (c := 0) (k := (nI 0)) (by decide +kernel) (by decide)) ?_
  refine Eq.trans (rl_aloadn (j := 0) (by decide +kernel) rfl) ?_
  refine Eq.trans (rl_invH (ix := 108) (n := 0) (o := 8) 81 [] [am_I (nI 0), am_P (2, 0, 0)] (by decide +kernel) (by decide +kernel) (by decide +kernel) (by decide +kernel) rfl rfl ck3) ?_
  rfl
theorem b222_6 {s0 : UInt32} {M : am_M} {w : am_W4}  : am_rn call 222 6 [some (am_P (3, 0, 0)), some (am_P (2, 0, 0)), none] [.inl (.float s0), am_I (nI 0), am_P (2, 0, 0)] M (am_Z w) = if FP.f2d s0 &&& 0x7fffffffffffffff ≤ 0x7ff0000000000000 then some (.inl (some (am_I (nI 0))), M, (am_Z (w.1, w.2.1, w.2.2.1, (FP.f2d s0)))) else none := by
  refine Eq.trans (rl_f2d (by decide +kernel)) ?_
  refine am_ite (fun h_1 => ?_) (fun _ => rfl)
  refine Eq.trans (rl_dast (by decide +kernel)) ?_
  refine Eq.trans (rl_goto (o := 6) 14 (by decide +kernel) (by decide)) ?_
  refine Eq.trans (rl_iconst (c := 0) (k := (nI 0)) (by decide +kernel) (by decide)) ?_
  exact rl_iret (by decide +kernel) rfl
theorem b222_12 {x2 : Option am_V} {M : am_M} {w : am_W4}  : am_rn call 222 12 [some (am_P (3, 0, 0)), some (am_P (2, 0, 0)), x2] [] M (am_Z w) = some (.inl (some (am_I (nI 1))), M, (am_Z w)) := by
  refine Eq.trans (rl_iconst (c := 1) (k := (nI 1)) (by decide +kernel) (by decide)) ?_
  exact rl_iret (by decide +kernel) rfl
theorem e222 {d : Nat}  {M : am_M} {w : am_W4}  : am_ev (d + 1) 222 [am_P (3, 0, 0), am_P (2, 0, 0)] M (am_Z w) = am_bk 222 3 [some (am_P (3, 0, 0)), some (am_P (2, 0, 0)), none] [am_I (nI 0), am_P (2, 0, 0)] ((am_ev d) 81 [am_P (3, 0, 0)] M (am_Z w)) (am_rn (am_ev d) 222) some := (am_ev_eq d 222 _ M (am_Z w)).trans (b222_0)
theorem b223_0  {M : am_M} {w : am_W4}  : am_rn call 223 0 [some (am_P (3, 0, 0)), some (am_P (2, 0, 0)), none] [] M (am_Z w) = am_bk 223 3 [some (am_P (3, 0, 0)), some (am_P (2, 0, 0)), none] [am_I (nI 0), am_P (2, 0, 0)] (call 97 [am_P (3, 0, 0)] M (am_Z w)) (am_rn call 223) some := by
  refine Eq.trans (rl_aloadn (j := 1) (by decide +kernel) rfl) ?_
  refine Eq.trans (rl_iconst (c := 0) (k := (nI 0)) (by decide +kernel) (by decide)) ?_
  refine Eq.trans (rl_aloadn (j := 0) (by decide +kernel) rfl) ?_
  refine Eq.trans (rl_invH (ix := 114) (n := 0) (o := 8) 97 [] [am_I (nI 0), am_P (2, 0, 0)] (by decide +kernel) (by decide +kernel) (by decide +kernel) (by decide +kernel) rfl rfl ck3) ?_
  rfl
theorem b223_6 {s0 : UInt64} {M : am_M} {w : am_W4}  : am_rn call 223 6 [some (am_P (3, 0, 0)), some (am_P (2, 0, 0)), none] [.inl (.double s0), am_I (nI 0), am_P (2, 0, 0)] M (am_Z w) = some (.inl (some (am_I (nI 0))), M, (am_Z (w.1, w.2.1, w.2.2.1, s0))) := by
  refine Eq.trans (rl_dast (by decide +kernel)) ?_
  refine Eq.trans (rl_goto (o := 6) 13 (by decide +kernel) (by decide)) ?_
  refine Eq.trans (rl_iconst (c := 0) (k := (nI 0)) (by decide +kernel) (by decide)) ?_
  exact rl_iret (by decide +kernel) rfl
theorem b223_11 {x2 : Option am_V} {M : am_M} {w : am_W4}  : am_rn call 223 11 [some (am_P (3, 0, 0)), some (am_P (2, 0, 0)), x2] [] M (am_Z w) = some (.inl (some (am_I (nI 1))), M, (am_Z w)) := by
  refine Eq.trans (rl_iconst (c := 1) (k := (nI 1)) (by decide +kernel) (by decide)) ?_
  exact rl_iret (by decide +kernel) rfl
theorem e223 {d : Nat}  {M : am_M} {w : am_W4}  : am_ev (d + 1) 223 [am_P (3, 0, 0), am_P (2, 0, 0)] M (am_Z w) = am_bk 223 3 [some (am_P (3, 0, 0)), some (am_P (2, 0, 0)), none] [am_I (nI 0), am_P (2, 0, 0)] ((am_ev d) 97 [am_P (3, 0, 0)] M (am_Z w)) (am_rn (am_ev d) 223) some := (am_ev_eq d 223 _ M (am_Z w)).trans (b223_0)
theorem b224_0 {x1 : Int32} {M : am_M} {w : am_W4}  : am_rn call 224 0 [some (am_P (3, 0, 0)), some (am_I x1), some (am_P (1, 0, 0)), none] [] M (am_Z w) = am_bk 224 4 [some (am_P (3, 0, 0)), some (am_I x1), some (am_P (1, 0, 0)), none] [am_I (nI 0), am_P (1, 0, 0)] (call 106 [am_P (3, 0, 0), am_I x1] M (am_Z w)) (am_rn call 224) some := by
  refine Eq.trans (rl_aloadn (j := 2) (by decide +kernel) rfl) ?_
  refine Eq.trans (rl_iconst (c := 0) (k := (nI 0)) (by decide +kernel) (by decide)) ?_
  refine Eq.trans (rl_aloadn (j := 0) (by decide +kernel) rfl) ?_
  refine Eq.trans (rl_iloadn (j := 1) (by decide +kernel) rfl) ?_
  refine Eq.trans (rl_invH (ix := 118) (n := 1) (o := 8) 106 [am_I x1] [am_I (nI 0), am_P (1, 0, 0)] (by decide +kernel) (by decide +kernel) (by decide +kernel) (by decide +kernel) rfl rfl ck3) ?_
  rfl
theorem b224_7 {x1 s0 : Int32} {M : am_M} {w : am_W4}  : am_rn call 224 7 [some (am_P (3, 0, 0)), some (am_I x1), some (am_P (1, 0, 0)), none] [am_I s0, am_I (nI 0), am_P (1, 0, 0)] M (am_Z w) = some (.inl (some (am_I (nI 0))), M, (am_Z (w.1, w.2.1, s0.toInt64, w.2.2.2))) := by
  refine Eq.trans (rl_i2l (by decide +kernel)) ?_
  refine Eq.trans (rl_last (by decide +kernel)) ?_
  refine Eq.trans (rl_goto (o := 6) 15 (by decide +kernel) (by decide)) ?_
  refine Eq.trans (rl_iconst (c := 0) (k := (nI 0)) (by decide +kernel) (by decide)) ?_
  exact rl_iret (by decide +kernel) rfl
theorem b224_13 {x1 : Int32} {x3 : Option am_V} {M : am_M} {w : am_W4}  : am_rn call 224 13 [some (am_P (3, 0, 0)), some (am_I x1), some (am_P (1, 0, 0)), x3] [] M (am_Z w) = some (.inl (some (am_I (nI 1))), M, (am_Z w)) := by
  refine Eq.trans (rl_iconst (c := 1) (k := (nI 1)) (by decide +kernel) (by decide)) ?_
  exact rl_iret (by decide +kernel) rfl
theorem e224 {d : Nat} {x1 : Int32} {M : am_M} {w : am_W4}  : am_ev (d + 1) 224 [am_P (3, 0, 0), am_I x1, am_P (1, 0, 0)] M (am_Z w) = am_bk 224 4 [some (am_P (3, 0, 0)), some (am_I x1), some (am_P (1, 0, 0)), none] [am_I (nI 0), am_P (1, 0, 0)] ((am_ev d) 106 [am_P (3, 0, 0), am_I x1] M (am_Z w)) (am_rn (am_ev d) 224) some := (am_ev_eq d 224 _ M (am_Z w)).trans (b224_0)
theorem b225_0  {M : am_M} {w : am_W4}  : am_rn call 225 0 [some (am_P (3, 0, 0)), some (am_P (1, 0, 0)), none] [] M (am_Z w) = am_bk 225 3 [some (am_P (3, 0, 0)), some (am_P (1, 0, 0)), none] [am_I (nI 0), am_P (1, 0, 0)] (call 107 [am_P (3, 0, 0)] M (am_Z w)) (am_rn call 225) some := by
  refine Eq.trans (rl_aloadn (j := 1) (by decide +kernel) rfl) ?_
  refine Eq.trans (rl_iconst (c := 0) (k := (nI 0)) (by decide +kernel) (by decide)) ?_
  refine Eq.trans (rl_aloadn (j := 0) (by decide +kernel) rfl) ?_
  refine Eq.trans (rl_invH (ix := 121) (n := 0) (o := 8) 107 [] [am_I (nI 0), am_P (1, 0, 0)] (by decide +kernel) (by decide +kernel) (by decide +kernel) (by decide +kernel) rfl rfl ck3) ?_
  rfl
theorem b225_6 {s0 : Int32} {M : am_M} {w : am_W4}  : am_rn call 225 6 [some (am_P (3, 0, 0)), some (am_P (1, 0, 0)), none] [am_I s0, am_I (nI 0), am_P (1, 0, 0)] M (am_Z w) = some (.inl (some (am_I (nI 0))), M, (am_Z (w.1, w.2.1, s0.toInt64, w.2.2.2))) := by
  refine Eq.trans (rl_i2l (by decide +kernel)) ?_
  refine Eq.trans (rl_last (by decide +kernel)) ?_
  refine Eq.trans (rl_goto (o := 6) 14 (by decide +kernel) (by decide)) ?_
  refine Eq.trans (rl_iconst (c := 0) (k := (nI 0)) (by decide +kernel) (by decide)) ?_
  exact rl_iret (by decide +kernel) rfl
theorem b225_12 {x2 : Option am_V} {M : am_M} {w : am_W4}  : am_rn call 225 12 [some (am_P (3, 0, 0)), some (am_P (1, 0, 0)), x2] [] M (am_Z w) = some (.inl (some (am_I (nI 1))), M, (am_Z w)) := by
  refine Eq.trans (rl_iconst (c := 1) (k := (nI 1)) (by decide +kernel) (by decide)) ?_
  exact rl_iret (by decide +kernel) rfl
theorem e225 {d : Nat}  {M : am_M} {w : am_W4}  : am_ev (d + 1) 225 [am_P (3, 0, 0), am_P (1, 0, 0)] M (am_Z w) = am_bk 225 3 [some (am_P (3, 0, 0)), some (am_P (1, 0, 0)), none] [am_I (nI 0), am_P (1, 0, 0)] ((am_ev d) 107 [am_P (3, 0, 0)] M (am_Z w)) (am_rn (am_ev d) 225) some := (am_ev_eq d 225 _ M (am_Z w)).trans (b225_0)
theorem b226_0  {M : am_M} {w : am_W4}  : am_rn call 226 0 [some (am_P (3, 0, 0)), some (am_P (1, 0, 0)), none] [] M (am_Z w) = am_bk 226 3 [some (am_P (3, 0, 0)), some (am_P (1, 0, 0)), none] [am_I (nI 0), am_P (1, 0, 0)] (call 109 [am_P (3, 0, 0)] M (am_Z w)) (am_rn call 226) some := by
  refine Eq.trans (rl_aloadn (j := 1) (by decide +kernel) rfl) ?_
  refine Eq.trans (rl_iconst (c := 0) (k := (nI 0)) (by decide +kernel) (by decide)) ?_
  refine Eq.trans (rl_aloadn (j := 0) (by decide +kernel) rfl) ?_
  refine Eq.trans (rl_invH (ix := 124) (n := 0) (o := 8) 109 [] [am_I (nI 0), am_P (1, 0, 0)] (by decide +kernel) (by decide +kernel) (by decide +kernel) (by decide +kernel) rfl rfl ck3) ?_
  rfl
theorem b226_6 {s0 : Int32} {M : am_M} {w : am_W4}  : am_rn call 226 6 [some (am_P (3, 0, 0)), some (am_P (1, 0, 0)), none] [am_I s0, am_I (nI 0), am_P (1, 0, 0)] M (am_Z w) = some (.inl (some (am_I (nI 0))), M, (am_Z (w.1, w.2.1, s0.toInt64, w.2.2.2))) := by
  refine Eq.trans (rl_i2l (by decide +kernel)) ?_
  refine Eq.trans (rl_last (by decide +kernel)) ?_
  refine Eq.trans (rl_goto (o := 6) 14 (by decide +kernel) (by decide)) ?_
  refine Eq.trans (rl_iconst (c := 0) (k := (nI 0)) (by decide +kernel) (by decide)) ?_
  exact rl_iret (by decide +kernel) rfl
theorem b226_12 {x2 : Option am_V} {M : am_M} {w : am_W4}  : am_rn call 226 12 [some (am_P (3, 0, 0)), some (am_P (1, 0, 0)), x2] [] M (am_Z w) = some (.inl (some (am_I (nI 1))), M, (am_Z w)) := by
  refine Eq.trans (rl_iconst (c := 1) (k := (nI 1)) (by decide +kernel) (by decide)) ?_
  exact rl_iret (by decide +kernel) rfl
theorem e226 {d : Nat}  {M : am_M} {w : am_W4}  : am_ev (d + 1) 226 [am_P (3, 0, 0), am_P (1, 0, 0)] M (am_Z w) = am_bk 226 3 [some (am_P (3, 0, 0)), some (am_P (1, 0, 0)), none] [am_I (nI 0), am_P (1, 0, 0)] ((am_ev d) 109 [am_P (3, 0, 0)] M (am_Z w)) (am_rn (am_ev d) 226) some := (am_ev_eq d 226 _ M (am_Z w)).trans (b226_0)
end AmBl
