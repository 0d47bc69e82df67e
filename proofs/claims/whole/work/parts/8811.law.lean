section AmBl
variable {call : Nat → List am_V → am_M → am_X → Option am_R}
theorem b227_28 {x5 : Int32} {x6 x7 x8 : Option am_V} {M : am_M} {w : am_W4}  : am_rn call 227 28 [some (am_P (0, 0, 0)), some (am_P (3, 0, 0)), some (am_P (30, 0, 0)), some (am_P (1, 0, 0)), some (am_P (2, 0, 0)), some (am_I x5), x6, x7, x8] [] M (am_Z w) = if ((M (0, 0, 1) 0) - (nI 4)) < x5 then some (.inl (some (am_I (nI 1))), M, (am_Z w)) else if am_in x5 (M (0, 0, 1) 0).toNatClampNeg then if ((M (0, 0, 0) x5.toNatClampNeg) &&& (nI 63)) = (nI 0) then am_rn call 227 204 [some (am_P (0, 0, 0)), some (am_P (3, 0, 0)), some (am_P (30, 0, 0)), some (am_P (1, 0, 0)), some (am_P (2, 0, 0)), some (am_I x5), x6, x7, x8] [] M (am_Z w) else if ((M (0, 0, 0) x5.toNatClampNeg) &&& (nI 63)) = (nI 1) then am_rn call 227 284 [some (am_P (0, 0, 0)), some (am_P (3, 0, 0)), some (am_P (30, 0, 0)), some (am_P (1, 0, 0)), some (am_P (2, 0, 0)), some (am_I x5), x6, x7, x8] [] M (am_Z w) else if ((M (0, 0, 0) x5.toNatClampNeg) &&& (nI 63)) = (nI 2) then am_rn call 227 352 [some (am_P (0, 0, 0)), some (am_P (3, 0, 0)), some (am_P (30, 0, 0)), some (am_P (1, 0, 0)), some (am_P (2, 0, 0)), some (am_I x5), x6, x7, x8] [] M (am_Z w) else if ((M (0, 0, 0) x5.toNatClampNeg) &&& (nI 63)) = (nI 3) then am_rn call 227 432 [some (am_P (0, 0, 0)), some (am_P (3, 0, 0)), some (am_P (30, 0, 0)), some (am_P (1, 0, 0)), some (am_P (2, 0, 0)), some (am_I x5), x6, x7, x8] [] M (am_Z w) else if ((M (0, 0, 0) x5.toNatClampNeg) &&& (nI 63)) = (nI 4) then am_rn call 227 500 [some (am_P (0, 0, 0)), some (am_P (3, 0, 0)), some (am_P (30, 0, 0)), some (am_P (1, 0, 0)), some (am_P (2, 0, 0)), some (am_I x5), x6, x7, x8] [] M (am_Z w) else if ((M (0, 0, 0) x5.toNatClampNeg) &&& (nI 63)) = (nI 5) then am_rn call 227 568 [some (am_P (0, 0, 0)), some (am_P (3, 0, 0)), some (am_P (30, 0, 0)), some (am_P (1, 0, 0)), some (am_P (2, 0, 0)), some (am_I x5), x6, x7, x8] [] M (am_Z w) else if ((M (0, 0, 0) x5.toNatClampNeg) &&& (nI 63)) = (nI 6) then am_rn call 227 648 [some (am_P (0, 0, 0)), some (am_P (3, 0, 0)), some (am_P (30, 0, 0)), some (am_P (1, 0, 0)), some (am_P (2, 0, 0)), some (am_I x5), x6, x7, x8] [] M (am_Z w) else if ((M (0, 0, 0) x5.toNatClampNeg) &&& (nI 63)) = (nI 7) then am_rn call 227 704 [some (am_P (0, 0, 0)), some (am_P (3, 0, 0)), some (am_P (30, 0, 0)), some (am_P (1, 0, 0)), some (am_P (2, 0, 0)), some (am_I x5), x6, x7, x8] [] M (am_Z w) else if ((M (0, 0, 0) x5.toNatClampNeg) &&& (nI 63)) = (nI 8) then am_rn call 227 760 [some (am_P (0, 0, 0)), some (am_P (3, 0, 0)), some (am_P (30, 0, 0)), some (am_P (1, 0, 0)), some (am_P (2, 0, 0)), some (am_I x5), x6, x7, x8] [] M (am_Z w) else if ((M (0, 0, 0) x5.toNatClampNeg) &&& (nI 63)) = (nI 9) then am_rn call 227 828 [some (am_P (0, 0, 0)), some (am_P (3, 0, 0)), some (am_P (30, 0, 0)), some (am_P (1, 0, 0)), some (am_P (2, 0, 0)), some (am_I x5), x6, x7, x8] [] M (am_Z w) else if ((M (0, 0, 0) x5.toNatClampNeg) &&& (nI 63)) = (nI 10) then am_rn call 227 896 [some (am_P (0, 0, 0)), some (am_P (3, 0, 0)), some (am_P (30, 0, 0)), some (am_P (1, 0, 0)), some (am_P (2, 0, 0)), some (am_I x5), x6, x7, x8] [] M (am_Z w) else if ((M (0, 0, 0) x5.toNatClampNeg) &&& (nI 63)) = (nI 11) then am_rn call 227 952 [some (am_P (0, 0, 0)), some (am_P (3, 0, 0)), some (am_P (30, 0, 0)), some (am_P (1, 0, 0)), some (am_P (2, 0, 0)), some (am_I x5), x6, x7, x8] [] M (am_Z w) else if ((M (0, 0, 0) x5.toNatClampNeg) &&& (nI 63)) = (nI 12) then am_rn call 227 1020 [some (am_P (0, 0, 0)), some (am_P (3, 0, 0)), some (am_P (30, 0, 0)), some (am_P (1, 0, 0)), some (am_P (2, 0, 0)), some (am_I x5), x6, x7, x8] [] M (am_Z w) else if ((M (0, 0, 0) x5.toNatClampNeg) &&& (nI 63)) = (nI 13) then am_rn call 227 1088 [some (am_P (0, 0, 0)), some (am_P (3, 0, 0)), some (am_P (30, 0, 0)), some (am_P (1, 0, 0)), some (am_P (2, 0, 0)), some (am_I x5), x6, x7, x8] [] M (am_Z w) else if ((M (0, 0, 0) x5.toNatClampNeg) &&& (nI 63)) = (nI 14) then am_rn call 227 1144 [some (am_P (0, 0, 0)), some (am_P (3, 0, 0)), some (am_P (30, 0, 0)), some (am_P (1, 0, 0)), some (am_P (2, 0, 0)), some (am_I x5), x6, x7, x8] [] M (am_Z w) else if ((M (0, 0, 0) x5.toNatClampNeg) &&& (nI 63)) = (nI 15) then am_rn call 227 1212 [some (am_P (0, 0, 0)), some (am_P (3, 0, 0)), some (am_P (30, 0, 0)), some (am_P (1, 0, 0)), some (am_P (2, 0, 0)), some (am_I x5), x6, x7, x8] [] M (am_Z w) else if ((M (0, 0, 0) x5.toNatClampNeg) &&& (nI 63)) = (nI 16) then am_rn call 227 1268 [some (am_P (0, 0, 0)), some (am_P (3, 0, 0)), some (am_P (30, 0, 0)), some (am_P (1, 0, 0)), some (am_P (2, 0, 0)), some (am_I x5), x6, x7, x8] [] M (am_Z w) else if ((M (0, 0, 0) x5.toNatClampNeg) &&& (nI 63)) = (nI 17) then am_rn call 227 1352 [some (am_P (0, 0, 0)), some (am_P (3, 0, 0)), some (am_P (30, 0, 0)), some (am_P (1, 0, 0)), some (am_P (2, 0, 0)), some (am_I x5), x6, x7, x8] [] M (am_Z w) else if ((M (0, 0, 0) x5.toNatClampNeg) &&& (nI 63)) = (nI 18) then am_rn call 227 1443 [some (am_P (0, 0, 0)), some (am_P (3, 0, 0)), some (am_P (30, 0, 0)), some (am_P (1, 0, 0)), some (am_P (2, 0, 0)), some (am_I x5), x6, x7, x8] [] M (am_Z w) else if ((M (0, 0, 0) x5.toNatClampNeg) &&& (nI 63)) = (nI 19) then am_rn call 227 1511 [some (am_P (0, 0, 0)), some (am_P (3, 0, 0)), some (am_P (30, 0, 0)), some (am_P (1, 0, 0)), some (am_P (2, 0, 0)), some (am_I x5), x6, x7, x8] [] M (am_Z w) else if ((M (0, 0, 0) x5.toNatClampNeg) &&& (nI 63)) = (nI 20) then am_rn call 227 1567 [some (am_P (0, 0, 0)), some (am_P (3, 0, 0)), some (am_P (30, 0, 0)), some (am_P (1, 0, 0)), some (am_P (2, 0, 0)), some (am_I x5), x6, x7, x8] [] M (am_Z w) else if ((M (0, 0, 0) x5.toNatClampNeg) &&& (nI 63)) = (nI 21) then am_rn call 227 1623 [some (am_P (0, 0, 0)), some (am_P (3, 0, 0)), some (am_P (30, 0, 0)), some (am_P (1, 0, 0)), some (am_P (2, 0, 0)), some (am_I x5), x6, x7, x8] [] M (am_Z w) else if ((M (0, 0, 0) x5.toNatClampNeg) &&& (nI 63)) = (nI 22) then am_rn call 227 1679 [some (am_P (0, 0, 0)), some (am_P (3, 0, 0)), some (am_P (30, 0, 0)), some (am_P (1, 0, 0)), some (am_P (2, 0, 0)), some (am_I x5), x6, x7, x8] [] M (am_Z w) else if ((M (0, 0, 0) x5.toNatClampNeg) &&& (nI 63)) = (nI 23) then am_rn call 227 1692 [some (am_P (0, 0, 0)), some (am_P (3, 0, 0)), some (am_P (30, 0, 0)), some (am_P (1, 0, 0)), some (am_P (2, 0, 0)), some (am_I x5), x6, x7, x8] [] M (am_Z w) else if ((M (0, 0, 0) x5.toNatClampNeg) &&& (nI 63)) = (nI 24) then am_rn call 227 1705 [some (am_P (0, 0, 0)), some (am_P (3, 0, 0)), some (am_P (30, 0, 0)), some (am_P (1, 0, 0)), some (am_P (2, 0, 0)), some (am_I x5), x6, x7, x8] [] M (am_Z w) else if ((M (0, 0, 0) x5.toNatClampNeg) &&& (nI 63)) = (nI 25) then am_rn call 227 1763 [some (am_P (0, 0, 0)), some (am_P (3, 0, 0)), some (am_P (30, 0, 0)), some (am_P (1, 0, 0)), some (am_P (2, 0, 0)), some (am_I x5), x6, x7, x8] [] M (am_Z w) else if ((M (0, 0, 0) x5.toNatClampNeg) &&& (nI 63)) = (nI 26) then am_rn call 227 1807 [some (am_P (0, 0, 0)), some (am_P (3, 0, 0)), some (am_P (30, 0, 0)), some (am_P (1, 0, 0)), some (am_P (2, 0, 0)), some (am_I x5), x6, x7, x8] [] M (am_Z w) else if ((M (0, 0, 0) x5.toNatClampNeg) &&& (nI 63)) = (nI 27) then am_rn call 227 1820 [some (am_P (0, 0, 0)), some (am_P (3, 0, 0)), some (am_P (30, 0, 0)), some (am_P (1, 0, 0)), some (am_P (2, 0, 0)), some (am_I x5), x6, x7, x8] [] M (am_Z w) else if ((M (0, 0, 0) x5.toNatClampNeg) &&& (nI 63)) = (nI 28) then am_rn call 227 1876 [some (am_P (0, 0, 0)), some (am_P (3, 0, 0)), some (am_P (30, 0, 0)), some (am_P (1, 0, 0)), some (am_P (2, 0, 0)), some (am_I x5), x6, x7, x8] [] M (am_Z w) else if ((M (0, 0, 0) x5.toNatClampNeg) &&& (nI 63)) = (nI 29) then am_rn call 227 1932 [some (am_P (0, 0, 0)), some (am_P (3, 0, 0)), some (am_P (30, 0, 0)), some (am_P (1, 0, 0)), some (am_P (2, 0, 0)), some (am_I x5), x6, x7, x8] [] M (am_Z w) else if ((M (0, 0, 0) x5.toNatClampNeg) &&& (nI 63)) = (nI 30) then am_rn call 227 1988 [some (am_P (0, 0, 0)), some (am_P (3, 0, 0)), some (am_P (30, 0, 0)), some (am_P (1, 0, 0)), some (am_P (2, 0, 0)), some (am_I x5), x6, x7, x8] [] M (am_Z w) else if ((M (0, 0, 0) x5.toNatClampNeg) &&& (nI 63)) = (nI 31) then am_rn call 227 2054 [some (am_P (0, 0, 0)), some (am_P (3, 0, 0)), some (am_P (30, 0, 0)), some (am_P (1, 0, 0)), some (am_P (2, 0, 0)), some (am_I x5), x6, x7, x8] [] M (am_Z w) else if ((M (0, 0, 0) x5.toNatClampNeg) &&& (nI 63)) = (nI 32) then am_rn call 227 2119 [some (am_P (0, 0, 0)), some (am_P (3, 0, 0)), some (am_P (30, 0, 0)), some (am_P (1, 0, 0)), some (am_P (2, 0, 0)), some (am_I x5), x6, x7, x8] [] M (am_Z w) else if ((M (0, 0, 0) x5.toNatClampNeg) &&& (nI 63)) = (nI 33) then am_rn call 227 2175 [some (am_P (0, 0, 0)), some (am_P (3, 0, 0)), some (am_P (30, 0, 0)), some (am_P (1, 0, 0)), some (am_P (2, 0, 0)), some (am_I x5), x6, x7, x8] [] M (am_Z w) else if ((M (0, 0, 0) x5.toNatClampNeg) &&& (nI 63)) = (nI 34) then am_rn call 227 2219 [some (am_P (0, 0, 0)), some (am_P (3, 0, 0)), some (am_P (30, 0, 0)), some (am_P (1, 0, 0)), some (am_P (2, 0, 0)), some (am_I x5), x6, x7, x8] [] M (am_Z w) else if ((M (0, 0, 0) x5.toNatClampNeg) &&& (nI 63)) = (nI 35) then am_rn call 227 2232 [some (am_P (0, 0, 0)), some (am_P (3, 0, 0)), some (am_P (30, 0, 0)), some (am_P (1, 0, 0)), some (am_P (2, 0, 0)), some (am_I x5), x6, x7, x8] [] M (am_Z w) else am_rn call 227 2276 [some (am_P (0, 0, 0)), some (am_P (3, 0, 0)), some (am_P (30, 0, 0)), some (am_P (1, 0, 0)), some (am_P (2, 0, 0)), some (am_I x5), x6, x7, x8] [] M (am_Z w) else none := by
  refine Eq.trans (rl_iload (j := 5) (by decide +kernel) rfl) ?_
  refine Eq.trans (rl_aloadn (j := 0) (by decide +kernel) rfl) ?_
  refine Eq.trans (rl_alen (by decide +kernel)) ?_
  refine Eq.trans (rl_iconst (c := 4) (k := (nI 4)) (by decide +kernel) (by decide)) ?_
  refine Eq.trans (rl_isub (by decide +kernel)) ?_
  refine Eq.trans (rl_icgt (o := 2248) 2282 (by decide +kernel) (by decide)) ?_
  refine am_ite (fun h_1 => ?_) (fun h_1 => ?_)
  · skip
    refine Eq.trans (rl_iconst (c := 1) (k := (nI 1)) (by decide +kernel) (by decide)) ?_
    exact rl_zretk (by decide +kernel) rfl rfl
  · skip
    refine Eq.trans (rl_aloadn (j := 0) (by decide +kernel) rfl) ?_
    refine Eq.trans (rl_iload (j := 5) (by decide +kernel) rfl) ?_
    refine Eq.trans (rl_sald (by decide +kernel)) ?_
    refine am_ite (fun h_2 => ?_) (fun _ => rfl)
    refine Eq.trans (rl_bipush (c := 63) (k := (nI 63)) (by decide +kernel) (by decide)) ?_
    refine Eq.trans (rl_iand (by decide +kernel)) ?_
    refine Eq.trans (rl_ts (d := 2232) (lo := 0) (hi := 35) (os := #[160, 240, 308, 388, 456, 524, 604, 660, 716, 784, 852, 908, 976, 1044, 1100, 1168, 1224, 1308, 1399, 1467, 1523, 1579, 1635, 1648, 1661, 1719, 1763, 1776, 1832, 1888, 1944, 2010, 2075, 2131, 2175, 2188]) 2276 [204, 284, 352, 432, 500, 568, 648, 704, 760, 828, 896, 952, 1020, 1088, 1144, 1212, 1268, 1352, 1443, 1511, 1567, 1623, 1679, 1692, 1705, 1763, 1807, 1820, 1876, 1932, 1988, 2054, 2119, 2175, 2219, 2232] (by decide +kernel) (by decide +kernel)) ?_
    refine Eq.trans (rl_sw (nI 0) (by decide)) ?_
    refine am_ite (fun _ => ?_) (fun _ => ?_)
    · skip
      rfl
    refine Eq.trans (rl_sw (nI 1) (by decide)) ?_
    refine am_ite (fun _ => ?_) (fun _ => ?_)
    · skip
      rfl
    refine Eq.trans (rl_sw (nI 2) (by decide)) ?_
    refine am_ite (fun _ => ?_) (fun _ => ?_)
    · skip
      rfl
    refine Eq.trans (rl_sw (nI 3) (by decide)) ?_
    refine am_ite (fun _ => ?_) (fun _ => ?_)
    · skip
      rfl
    refine Eq.trans (rl_sw (nI 4) (by decide)) ?_
    refine am_ite (fun _ => ?_) (fun _ => ?_)
    · skip
      rfl
    refine Eq.trans (rl_sw (nI 5) (by decide)) ?_
    refine am_ite (fun _ => ?_) (fun _ => ?_)
    · skip
      rfl
    refine Eq.trans (rl_sw (nI 6) (by decide)) ?_
    refine am_ite (fun _ => ?_) (fun _ => ?_)
    · skip
      rfl
    refine Eq.trans (rl_sw (nI 7) (by decide)) ?_
    refine am_ite (fun _ => ?_) (fun _ => ?_)
    · skip
      rfl
    refine Eq.trans (rl_sw (nI 8) (by decide)) ?_
    refine am_ite (fun _ => ?_) (fun _ => ?_)
    · skip
      rfl
    refine Eq.trans (rl_sw (nI 9) (by decide)) ?_
    refine am_ite (fun _ => ?_) (fun _ => ?_)
    · skip
      rfl
    refine Eq.trans (rl_sw (nI 10) (by decide)) ?_
    refine am_ite (fun _ => ?_) (fun _ => ?_)
    · skip
      rfl
    refine Eq.trans (rl_sw (nI 11) (by decide)) ?_
    refine am_ite (fun _ => ?_) (fun _ => ?_)
    · skip
      rfl
    refine Eq.trans (rl_sw (nI 12) (by decide)) ?_
    refine am_ite (fun _ => ?_) (fun _ => ?_)
    · skip
      rfl
    refine Eq.trans (rl_sw (nI 13) (by decide)) ?_
    refine am_ite (fun _ => ?_) (fun _ => ?_)
    · skip
      rfl
    refine Eq.trans (rl_sw (nI 14) (by decide)) ?_
    refine am_ite (fun _ => ?_) (fun _ => ?_)
    · skip
      rfl
    refine Eq.trans (rl_sw (nI 15) (by decide)) ?_
    refine am_ite (fun _ => ?_) (fun _ => ?_)
    · skip
      rfl
    refine Eq.trans (rl_sw (nI 16) (by decide)) ?_
    refine am_ite (fun _ => ?_) (fun _ => ?_)
    · skip
      rfl
    refine Eq.trans (rl_sw (nI 17) (by decide)) ?_
    refine am_ite (fun _ => ?_) (fun _ => ?_)
    · skip
      rfl
    refine Eq.trans (rl_sw (nI 18) (by decide)) ?_
    refine am_ite (fun _ => ?_) (fun _ => ?_)
    · skip
      rfl
    refine Eq.trans (rl_sw (nI 19) (by decide)) ?_
    refine am_ite (fun _ => ?_) (fun _ => ?_)
    · skip
      rfl
    refine Eq.trans (rl_sw (nI 20) (by decide)) ?_
    refine am_ite (fun _ => ?_) (fun _ => ?_)
    · skip
      rfl
    refine Eq.trans (rl_sw (nI 21) (by decide)) ?_
    refine am_ite (fun _ => ?_) (fun _ => ?_)
    · skip
      rfl
    refine Eq.trans (rl_sw (nI 22) (by decide)) ?_
    refine am_ite (fun _ => ?_) (fun _ => ?_)
    · skip
      rfl
    refine Eq.trans (rl_sw (nI 23) (by decide)) ?_
    refine am_ite (fun _ => ?_) (fun _ => ?_)
    · skip
      rfl
    refine Eq.trans (rl_sw (nI 24) (by decide)) ?_
    refine am_ite (fun _ => ?_) (fun _ => ?_)
    · skip
      rfl
    refine Eq.trans (rl_sw (nI 25) (by decide)) ?_
    refine am_ite (fun _ => ?_) (fun _ => ?_)
    · skip
      rfl
    refine Eq.trans (rl_sw (nI 26) (by decide)) ?_
    refine am_ite (fun _ => ?_) (fun _ => ?_)
    · skip
      rfl
    refine Eq.trans (rl_sw (nI 27) (by decide)) ?_
    refine am_ite (fun _ => ?_) (fun _ => ?_)
    · skip
      rfl
    refine Eq.trans (rl_sw (nI 28) (by decide)) ?_
    refine am_ite (fun _ => ?_) (fun _ => ?_)
    · skip
      rfl
    refine Eq.trans (rl_sw (nI 29) (by decide)) ?_
    refine am_ite (fun _ => ?_) (fun _ => ?_)
    · skip
      rfl
    refine Eq.trans (rl_sw (nI 30) (by decide)) ?_
    refine am_ite (fun _ => ?_) (fun _ => ?_)
    · skip
      rfl
    refine Eq.trans (rl_sw (nI 31) (by decide)) ?_
    refine am_ite (fun _ => ?_) (fun _ => ?_)
    · skip
      rfl
    refine Eq.trans (rl_sw (nI 32) (by decide)) ?_
    refine am_ite (fun _ => ?_) (fun _ => ?_)
    · skip
      rfl
    refine Eq.trans (rl_sw (nI 33) (by decide)) ?_
    refine am_ite (fun _ => ?_) (fun _ => ?_)
    · skip
      rfl
    refine Eq.trans (rl_sw (nI 34) (by decide)) ?_
    refine am_ite (fun _ => ?_) (fun _ => ?_)
    · skip
      rfl
    refine Eq.trans (rl_sw (nI 35) (by decide)) ?_
    refine am_ite (fun _ => ?_) (fun _ => ?_)
    · skip
      rfl
    show am_rn call 227 2276 _ _ _ _ = _
    rfl
theorem b227_204 {x5 : Int32} {x6 x7 x8 : Option am_V} {M : am_M} {w : am_W4}  : am_rn call 227 204 [some (am_P (0, 0, 0)), some (am_P (3, 0, 0)), some (am_P (30, 0, 0)), some (am_P (1, 0, 0)), some (am_P (2, 0, 0)), some (am_I x5), x6, x7, x8] [] M (am_Z w) = if am_in (x5 + (nI 1)) (M (0, 0, 1) 0).toNatClampNeg then if am_in (x5 + (nI 2)) (M (0, 0, 1) 0).toNatClampNeg then if am_in (x5 + (nI 3)) (M (0, 0, 1) 0).toNatClampNeg then am_cb (call 195 [am_P (3, 0, 0), am_I (M (0, 0, 0) (x5 + (nI 1)).toNatClampNeg), am_I (M (0, 0, 0) (x5 + (nI 2)).toNatClampNeg), am_I (M (0, 0, 0) (x5 + (nI 3)).toNatClampNeg), am_P (1, 0, 0)] M (am_Z w)) fun v M' X' => am_rn call 227 227 [some (am_P (0, 0, 0)), some (am_P (3, 0, 0)), some (am_P (30, 0, 0)), some (am_P (1, 0, 0)), some (am_P (2, 0, 0)), some (am_I x5), x6, x7, x8] (v.toList ++ []) M' X' else none else none else none := by
  refine Eq.trans (rl_aloadn (j := 1) (by decide +kernel) rfl) ?_
  refine Eq.trans (rl_aloadn (j := 0) (by decide +kernel) rfl) ?_
  refine Eq.trans (rl_iload (j := 5) (by decide +kernel) rfl) ?_
  refine Eq.trans (rl_iconst (c := 1) (k := (nI 1)) (by decide +kernel) (by decide)) ?_
  refine Eq.trans (rl_iadd (by decide +kernel)) ?_
  refine Eq.trans (rl_sald (by decide +kernel)) ?_
  refine am_ite (fun h_1 => ?_) (fun _ => rfl)
  refine Eq.trans (rl_aloadn (j := 0) (by decide +kernel) rfl) ?_
  refine Eq.trans (rl_iload (j := 5) (by decide +kernel) rfl) ?_
  refine Eq.trans (rl_iconst (c := 2) (k := (nI 2)) (by decide +kernel) (by decide)) ?_
  refine Eq.trans (rl_iadd (by decide +kernel)) ?_
  refine Eq.trans (rl_sald (by decide +kernel)) ?_
  refine am_ite (fun h_2 => ?_) (fun _ => rfl)
  refine Eq.trans (rl_aloadn (j := 0) (by decide +kernel) rfl) ?_
  refine Eq.trans (rl_iload (j := 5) (by decide +kernel) rfl) ?_
  refine Eq.trans (rl_iconst (c := 3) (k := (nI 3)) (by decide +kernel) (by decide)) ?_
  refine Eq.trans (rl_iadd (by decide +kernel)) ?_
  refine Eq.trans (rl_sald (by decide +kernel)) ?_
  refine am_ite (fun h_3 => ?_) (fun _ => rfl)
  refine Eq.trans (rl_aloadn (j := 3) (by decide +kernel) rfl) ?_
  refine Eq.trans (rl_invS (ix := 131) (n := 5) (k := 1) 195 [am_P (3, 0, 0), am_I (M (0, 0, 0) (x5 + (nI 1)).toNatClampNeg), am_I (M (0, 0, 0) (x5 + (nI 2)).toNatClampNeg), am_I (M (0, 0, 0) (x5 + (nI 3)).toNatClampNeg), am_P (1, 0, 0)] [] (by decide +kernel) (by decide +kernel) (by decide) (by decide +kernel) ⟨rfl, rfl⟩ rfl rfl) ?_
  rfl
theorem b227_227 {x5 s0 : Int32} {x6 x7 x8 : Option am_V} {M : am_M} {w : am_W4}  : am_rn call 227 227 [some (am_P (0, 0, 0)), some (am_P (3, 0, 0)), some (am_P (30, 0, 0)), some (am_P (1, 0, 0)), some (am_P (2, 0, 0)), some (am_I x5), x6, x7, x8] [am_I s0] M (am_Z w) = if am_in (x5 + (nI 1)) (M (0, 0, 1) 0).toNatClampNeg then if am_in (x5 + (nI 2)) (M (0, 0, 1) 0).toNatClampNeg then if am_in (x5 + (nI 3)) (M (0, 0, 1) 0).toNatClampNeg then am_cb (call 132 [am_P (30, 0, 0), am_I (M (0, 0, 0) (x5 + (nI 1)).toNatClampNeg), am_I (M (0, 0, 0) (x5 + (nI 2)).toNatClampNeg), am_I (M (0, 0, 0) (x5 + (nI 3)).toNatClampNeg)] M (am_Z w)) fun v M' X' => am_rn call 227 251 [some (am_P (0, 0, 0)), some (am_P (3, 0, 0)), some (am_P (30, 0, 0)), some (am_P (1, 0, 0)), some (am_P (2, 0, 0)), some (am_I x5), some (am_I s0), x7, x8] (v.toList ++ []) M' X' else none else none else none := by
  refine Eq.trans (rl_istore (j := 6) (ls' := [some (am_P (0, 0, 0)), some (am_P (3, 0, 0)), some (am_P (30, 0, 0)), some (am_P (1, 0, 0)), some (am_P (2, 0, 0)), some (am_I x5), some (am_I s0), x7, x8]) (by decide +kernel) rfl rfl) ?_
  refine Eq.trans (rl_aloadn (j := 2) (by decide +kernel) rfl) ?_
  refine Eq.trans (rl_aloadn (j := 0) (by decide +kernel) rfl) ?_
  refine Eq.trans (rl_iload (j := 5) (by decide +kernel) rfl) ?_
  refine Eq.trans (rl_iconst (c := 1) (k := (nI 1)) (by decide +kernel) (by decide)) ?_
  refine Eq.trans (rl_iadd (by decide +kernel)) ?_
  refine Eq.trans (rl_sald (by decide +kernel)) ?_
  refine am_ite (fun h_1 => ?_) (fun _ => rfl)
  refine Eq.trans (rl_aloadn (j := 0) (by decide +kernel) rfl) ?_
  refine Eq.trans (rl_iload (j := 5) (by decide +kernel) rfl) ?_
  refine Eq.trans (rl_iconst (c := 2) (k := (nI 2)) (by decide +kernel) (by decide)) ?_
  refine Eq.trans (rl_iadd (by decide +kernel)) ?_
  refine Eq.trans (rl_sald (by decide +kernel)) ?_
  refine am_ite (fun h_2 => ?_) (fun _ => rfl)
  refine Eq.trans (rl_aloadn (j := 0) (by decide +kernel) rfl) ?_
  refine Eq.trans (rl_iload (j := 5) (by decide +kernel) rfl) ?_
  refine Eq.trans (rl_iconst (c := 3) (k := (nI 3)) (by decide +kernel) (by decide)) ?_
  refine Eq.trans (rl_iadd (by decide +kernel)) ?_
  refine Eq.trans (rl_sald (by decide +kernel)) ?_
  refine am_ite (fun h_3 => ?_) (fun _ => rfl)
  refine Eq.trans (rl_inv (ix := 136) (n := 3) (o := 9) 132 [am_I (M (0, 0, 0) (x5 + (nI 1)).toNatClampNeg), am_I (M (0, 0, 0) (x5 + (nI 2)).toNatClampNeg), am_I (M (0, 0, 0) (x5 + (nI 3)).toNatClampNeg)] [] (by decide +kernel) (by decide +kernel) (by decide +kernel) (by decide +kernel) ⟨rfl, rfl⟩ rfl rfl ck30) ?_
  rfl
theorem b227_251 {x5 x6 s0 : Int32} {x7 x8 : Option am_V} {M : am_M} {w : am_W4}  : am_rn call 227 251 [some (am_P (0, 0, 0)), some (am_P (3, 0, 0)), some (am_P (30, 0, 0)), some (am_P (1, 0, 0)), some (am_P (2, 0, 0)), some (am_I x5), some (am_I x6), x7, x8] [am_I s0] M (am_Z w) = am_cb (call 114 [am_P (30, 0, 0)] M (am_Z w)) fun v M' X' => am_rn call 227 257 [some (am_P (0, 0, 0)), some (am_P (3, 0, 0)), some (am_P (30, 0, 0)), some (am_P (1, 0, 0)), some (am_P (2, 0, 0)), some (am_I x5), some (am_I x6), some (am_I s0), x8] (v.toList ++ []) M' X' := by
  refine Eq.trans (rl_istore (j := 7) (ls' := [some (am_P (0, 0, 0)), some (am_P (3, 0, 0)), some (am_P (30, 0, 0)), some (am_P (1, 0, 0)), some (am_P (2, 0, 0)), some (am_I x5), some (am_I x6), some (am_I s0), x8]) (by decide +kernel) rfl rfl) ?_
  refine Eq.trans (rl_aloadn (j := 2) (by decide +kernel) rfl) ?_
  refine Eq.trans (rl_inv (ix := 137) (n := 0) (o := 9) 114 [] [] (by decide +kernel) (by decide +kernel) (by decide +kernel) (by decide +kernel) ⟨rfl, rfl⟩ rfl rfl ck30) ?_
  rfl
theorem b227_257 {x5 x6 x7 s0 : Int32} {x8 : Option am_V} {M : am_M} {w : am_W4}  : am_rn call 227 257 [some (am_P (0, 0, 0)), some (am_P (3, 0, 0)), some (am_P (30, 0, 0)), some (am_P (1, 0, 0)), some (am_P (2, 0, 0)), some (am_I x5), some (am_I x6), some (am_I x7), x8] [am_I s0] M (am_Z w) = if s0 = x6 then if x6 = 0 then if (lg_cmp w.2.2.1 x7.toInt64) = 0 then am_rn call 227 281 [some (am_P (0, 0, 0)), some (am_P (3, 0, 0)), some (am_P (30, 0, 0)), some (am_P (1, 0, 0)), some (am_P (2, 0, 0)), some (am_I x5), some (am_I x6), some (am_I x7), x8] [] M (am_Z w) else some (.inl (some (am_I (nI 0))), M, (am_Z w)) else am_rn call 227 281 [some (am_P (0, 0, 0)), some (am_P (3, 0, 0)), some (am_P (30, 0, 0)), some (am_P (1, 0, 0)), some (am_P (2, 0, 0)), some (am_I x5), some (am_I x6), some (am_I x7), x8] [] M (am_Z w) else some (.inl (some (am_I (nI 0))), M, (am_Z w)) := by
  refine Eq.trans (rl_iload (j := 6) (by decide +kernel) rfl) ?_
  refine Eq.trans (rl_iceq (o := 5) 264 (by decide +kernel) (by decide)) ?_
  refine am_ite (fun h_1 => ?_) (fun h_1 => ?_)
  · skip
    refine Eq.trans (rl_iload (j := 6) (by decide +kernel) rfl) ?_
    refine Eq.trans (rl_ifne (o := 15) 281 (by decide +kernel) (by decide)) ?_
    refine am_ite (fun h_2 => ?_) (fun h_2 => ?_)
    · skip
      refine Eq.trans (rl_aloadn (j := 3) (by decide +kernel) rfl) ?_
      refine Eq.trans (rl_iconst (c := 0) (k := (nI 0)) (by decide +kernel) (by decide)) ?_
      refine Eq.trans (rl_lald (by decide +kernel)) ?_
      refine Eq.trans (rl_iload (j := 7) (by decide +kernel) rfl) ?_
      refine Eq.trans (rl_i2l (by decide +kernel)) ?_
      refine Eq.trans (rl_lcmp (by decide +kernel)) ?_
      refine Eq.trans (rl_ifeq (o := 5) 281 (by decide +kernel) (by decide)) ?_
      refine am_ite (fun h_3 => ?_) (fun h_3 => ?_)
      · skip
        rfl
      · skip
        refine Eq.trans (rl_iconst (c := 0) (k := (nI 0)) (by decide +kernel) (by decide)) ?_
        exact rl_zretk (by decide +kernel) rfl rfl
    · skip
      rfl
  · skip
    refine Eq.trans (rl_iconst (c := 0) (k := (nI 0)) (by decide +kernel) (by decide)) ?_
    exact rl_zretk (by decide +kernel) rfl rfl
theorem b227_281 {x5 x6 x7 : Int32} {x8 : Option am_V} {M : am_M} {w : am_W4}  : am_rn call 227 281 [some (am_P (0, 0, 0)), some (am_P (3, 0, 0)), some (am_P (30, 0, 0)), some (am_P (1, 0, 0)), some (am_P (2, 0, 0)), some (am_I x5), some (am_I x6), some (am_I x7), x8] [] M (am_Z w) = am_rn call 227 2276 [some (am_P (0, 0, 0)), some (am_P (3, 0, 0)), some (am_P (30, 0, 0)), some (am_P (1, 0, 0)), some (am_P (2, 0, 0)), some (am_I x5), some (am_I x6), some (am_I x7), x8] [] M (am_Z w) := by
  refine Eq.trans (rl_goto (o := 1995) 2276 (by decide +kernel) (by decide)) ?_
  rfl
theorem b227_284 {x5 : Int32} {x6 x7 x8 : Option am_V} {M : am_M} {w : am_W4}  : am_rn call 227 284 [some (am_P (0, 0, 0)), some (am_P (3, 0, 0)), some (am_P (30, 0, 0)), some (am_P (1, 0, 0)), some (am_P (2, 0, 0)), some (am_I x5), x6, x7, x8] [] M (am_Z w) = if am_in (x5 + (nI 1)) (M (0, 0, 1) 0).toNatClampNeg then if am_in (x5 + (nI 2)) (M (0, 0, 1) 0).toNatClampNeg then am_cb (call 196 [am_P (3, 0, 0), am_I (M (0, 0, 0) (x5 + (nI 1)).toNatClampNeg), am_I (M (0, 0, 0) (x5 + (nI 2)).toNatClampNeg), am_P (1, 0, 0)] M (am_Z w)) fun v M' X' => am_rn call 227 301 [some (am_P (0, 0, 0)), some (am_P (3, 0, 0)), some (am_P (30, 0, 0)), some (am_P (1, 0, 0)), some (am_P (2, 0, 0)), some (am_I x5), x6, x7, x8] (v.toList ++ []) M' X' else none else none := by
  refine Eq.trans (rl_aloadn (j := 1) (by decide +kernel) rfl) ?_
  refine Eq.trans (rl_aloadn (j := 0) (by decide +kernel) rfl) ?_
  refine Eq.trans (rl_iload (j := 5) (by decide +kernel) rfl) ?_
  refine Eq.trans (rl_iconst (c := 1) (k := (nI 1)) (by decide +kernel) (by decide)) ?_
  refine Eq.trans (rl_iadd (by decide +kernel)) ?_
  refine Eq.trans (rl_sald (by decide +kernel)) ?_
  refine am_ite (fun h_1 => ?_) (fun _ => rfl)
  refine Eq.trans (rl_aloadn (j := 0) (by decide +kernel) rfl) ?_
  refine Eq.trans (rl_iload (j := 5) (by decide +kernel) rfl) ?_
  refine Eq.trans (rl_iconst (c := 2) (k := (nI 2)) (by decide +kernel) (by decide)) ?_
  refine Eq.trans (rl_iadd (by decide +kernel)) ?_
  refine Eq.trans (rl_sald (by decide +kernel)) ?_
  refine am_ite (fun h_2 => ?_) (fun _ => rfl)
  refine Eq.trans (rl_aloadn (j := 3) (by decide +kernel) rfl) ?_
  refine Eq.trans (rl_invS (ix := 140) (n := 4) (k := 1) 196 [am_P (3, 0, 0), am_I (M (0, 0, 0) (x5 + (nI 1)).toNatClampNeg), am_I (M (0, 0, 0) (x5 + (nI 2)).toNatClampNeg), am_P (1, 0, 0)] [] (by decide +kernel) (by decide +kernel) (by decide) (by decide +kernel) ⟨rfl, rfl⟩ rfl rfl) ?_
  rfl
theorem b227_301 {x5 s0 : Int32} {x6 x7 x8 : Option am_V} {M : am_M} {w : am_W4}  : am_rn call 227 301 [some (am_P (0, 0, 0)), some (am_P (3, 0, 0)), some (am_P (30, 0, 0)), some (am_P (1, 0, 0)), some (am_P (2, 0, 0)), some (am_I x5), x6, x7, x8] [am_I s0] M (am_Z w) = if am_in (x5 + (nI 1)) (M (0, 0, 1) 0).toNatClampNeg then if am_in (x5 + (nI 2)) (M (0, 0, 1) 0).toNatClampNeg then am_cb (call 133 [am_P (30, 0, 0), am_I (M (0, 0, 0) (x5 + (nI 1)).toNatClampNeg), am_I (M (0, 0, 0) (x5 + (nI 2)).toNatClampNeg)] M (am_Z w)) fun v M' X' => am_rn call 227 319 [some (am_P (0, 0, 0)), some (am_P (3, 0, 0)), some (am_P (30, 0, 0)), some (am_P (1, 0, 0)), some (am_P (2, 0, 0)), some (am_I x5), some (am_I s0), x7, x8] (v.toList ++ []) M' X' else none else none := by
  refine Eq.trans (rl_istore (j := 6) (ls' := [some (am_P (0, 0, 0)), some (am_P (3, 0, 0)), some (am_P (30, 0, 0)), some (am_P (1, 0, 0)), some (am_P (2, 0, 0)), some (am_I x5), some (am_I s0), x7, x8]) (by decide +kernel) rfl rfl) ?_
  refine Eq.trans (rl_aloadn (j := 2) (by decide +kernel) rfl) ?_
  refine Eq.trans (rl_aloadn (j := 0) (by decide +kernel) rfl) ?_
  refine Eq.trans (rl_iload (j := 5) (by decide +kernel) rfl) ?_
  refine Eq.trans (rl_iconst (c := 1) (k := (nI 1)) (by decide +kernel) (by decide)) ?_
  refine Eq.trans (rl_iadd (by decide +kernel)) ?_
  refine Eq.trans (rl_sald (by decide +kernel)) ?_
  refine am_ite (fun h_1 => ?_) (fun _ => rfl)
  refine Eq.trans (rl_aloadn (j := 0) (by decide +kernel) rfl) ?_
  refine Eq.trans (rl_iload (j := 5) (by decide +kernel) rfl) ?_
  refine Eq.trans (rl_iconst (c := 2) (k := (nI 2)) (by decide +kernel) (by decide)) ?_
  refine Eq.trans (rl_iadd (by decide +kernel)) ?_
  refine Eq.trans (rl_sald (by decide +kernel)) ?_
  refine am_ite (fun h_2 => ?_) (fun _ => rfl)
  refine Eq.trans (rl_inv (ix := 143) (n := 2) (o := 9) 133 [am_I (M (0, 0, 0) (x5 + (nI 1)).toNatClampNeg), am_I (M (0, 0, 0) (x5 + (nI 2)).toNatClampNeg)] [] (by decide +kernel) (by decide +kernel) (by decide +kernel) (by decide +kernel) ⟨rfl, rfl⟩ rfl rfl ck30) ?_
  rfl
theorem b227_319 {x5 x6 s0 : Int32} {x7 x8 : Option am_V} {M : am_M} {w : am_W4}  : am_rn call 227 319 [some (am_P (0, 0, 0)), some (am_P (3, 0, 0)), some (am_P (30, 0, 0)), some (am_P (1, 0, 0)), some (am_P (2, 0, 0)), some (am_I x5), some (am_I x6), x7, x8] [am_I s0] M (am_Z w) = am_cb (call 114 [am_P (30, 0, 0)] M (am_Z w)) fun v M' X' => am_rn call 227 325 [some (am_P (0, 0, 0)), some (am_P (3, 0, 0)), some (am_P (30, 0, 0)), some (am_P (1, 0, 0)), some (am_P (2, 0, 0)), some (am_I x5), some (am_I x6), some (am_I s0), x8] (v.toList ++ []) M' X' := by
  refine Eq.trans (rl_istore (j := 7) (ls' := [some (am_P (0, 0, 0)), some (am_P (3, 0, 0)), some (am_P (30, 0, 0)), some (am_P (1, 0, 0)), some (am_P (2, 0, 0)), some (am_I x5), some (am_I x6), some (am_I s0), x8]) (by decide +kernel) rfl rfl) ?_
  refine Eq.trans (rl_aloadn (j := 2) (by decide +kernel) rfl) ?_
  refine Eq.trans (rl_inv (ix := 137) (n := 0) (o := 9) 114 [] [] (by decide +kernel) (by decide +kernel) (by decide +kernel) (by decide +kernel) ⟨rfl, rfl⟩ rfl rfl ck30) ?_
  rfl
theorem b227_325 {x5 x6 x7 s0 : Int32} {x8 : Option am_V} {M : am_M} {w : am_W4}  : am_rn call 227 325 [some (am_P (0, 0, 0)), some (am_P (3, 0, 0)), some (am_P (30, 0, 0)), some (am_P (1, 0, 0)), some (am_P (2, 0, 0)), some (am_I x5), some (am_I x6), some (am_I x7), x8] [am_I s0] M (am_Z w) = if s0 = x6 then if x6 = 0 then if (lg_cmp w.2.2.1 x7.toInt64) = 0 then am_rn call 227 349 [some (am_P (0, 0, 0)), some (am_P (3, 0, 0)), some (am_P (30, 0, 0)), some (am_P (1, 0, 0)), some (am_P (2, 0, 0)), some (am_I x5), some (am_I x6), some (am_I x7), x8] [] M (am_Z w) else some (.inl (some (am_I (nI 0))), M, (am_Z w)) else am_rn call 227 349 [some (am_P (0, 0, 0)), some (am_P (3, 0, 0)), some (am_P (30, 0, 0)), some (am_P (1, 0, 0)), some (am_P (2, 0, 0)), some (am_I x5), some (am_I x6), some (am_I x7), x8] [] M (am_Z w) else some (.inl (some (am_I (nI 0))), M, (am_Z w)) := by
  refine Eq.trans (rl_iload (j := 6) (by decide +kernel) rfl) ?_
  refine Eq.trans (rl_iceq (o := 5) 332 (by decide +kernel) (by decide)) ?_
  refine am_ite (fun h_1 => ?_) (fun h_1 => ?_)
  · skip
    refine Eq.trans (rl_iload (j := 6) (by decide +kernel) rfl) ?_
    refine Eq.trans (rl_ifne (o := 15) 349 (by decide +kernel) (by decide)) ?_
    refine am_ite (fun h_2 => ?_) (fun h_2 => ?_)
    · skip
      refine Eq.trans (rl_aloadn (j := 3) (by decide +kernel) rfl) ?_
      refine Eq.trans (rl_iconst (c := 0) (k := (nI 0)) (by decide +kernel) (by decide)) ?_
      refine Eq.trans (rl_lald (by decide +kernel)) ?_
      refine Eq.trans (rl_iload (j := 7) (by decide +kernel) rfl) ?_
      refine Eq.trans (rl_i2l (by decide +kernel)) ?_
      refine Eq.trans (rl_lcmp (by decide +kernel)) ?_
      refine Eq.trans (rl_ifeq (o := 5) 349 (by decide +kernel) (by decide)) ?_
      refine am_ite (fun h_3 => ?_) (fun h_3 => ?_)
      · skip
        rfl
      · skip
        refine Eq.trans (rl_iconst (c := 0) (k := (nI 0)) (by decide +kernel) (by decide)) ?_
        exact rl_zretk (by decide +kernel) rfl rfl
    · skip
      rfl
  · skip
    refine Eq.trans (rl_iconst (c := 0) (k := (nI 0)) (by decide +kernel) (by decide)) ?_
    exact rl_zretk (by decide +kernel) rfl rfl
theorem b227_349 {x5 x6 x7 : Int32} {x8 : Option am_V} {M : am_M} {w : am_W4}  : am_rn call 227 349 [some (am_P (0, 0, 0)), some (am_P (3, 0, 0)), some (am_P (30, 0, 0)), some (am_P (1, 0, 0)), some (am_P (2, 0, 0)), some (am_I x5), some (am_I x6), some (am_I x7), x8] [] M (am_Z w) = am_rn call 227 2276 [some (am_P (0, 0, 0)), some (am_P (3, 0, 0)), some (am_P (30, 0, 0)), some (am_P (1, 0, 0)), some (am_P (2, 0, 0)), some (am_I x5), some (am_I x6), some (am_I x7), x8] [] M (am_Z w) := by
  refine Eq.trans (rl_goto (o := 1927) 2276 (by decide +kernel) (by decide)) ?_
  rfl
theorem b227_352 {x5 : Int32} {x6 x7 x8 : Option am_V} {M : am_M} {w : am_W4}  : am_rn call 227 352 [some (am_P (0, 0, 0)), some (am_P (3, 0, 0)), some (am_P (30, 0, 0)), some (am_P (1, 0, 0)), some (am_P (2, 0, 0)), some (am_I x5), x6, x7, x8] [] M (am_Z w) = if am_in (x5 + (nI 1)) (M (0, 0, 1) 0).toNatClampNeg then if am_in (x5 + (nI 2)) (M (0, 0, 1) 0).toNatClampNeg then if am_in (x5 + (nI 3)) (M (0, 0, 1) 0).toNatClampNeg then am_cb (call 197 [am_P (3, 0, 0), am_I (M (0, 0, 0) (x5 + (nI 1)).toNatClampNeg), am_I (M (0, 0, 0) (x5 + (nI 2)).toNatClampNeg), am_I (M (0, 0, 0) (x5 + (nI 3)).toNatClampNeg), am_P (1, 0, 0)] M (am_Z w)) fun v M' X' => am_rn call 227 375 [some (am_P (0, 0, 0)), some (am_P (3, 0, 0)), some (am_P (30, 0, 0)), some (am_P (1, 0, 0)), some (am_P (2, 0, 0)), some (am_I x5), x6, x7, x8] (v.toList ++ []) M' X' else none else none else none := by
  refine Eq.trans (rl_aloadn (j := 1) (by decide +kernel) rfl) ?_
  refine Eq.trans (rl_aloadn (j := 0) (by decide +kernel) rfl) ?_
  refine Eq.trans (rl_iload (j := 5) (by decide +kernel) rfl) ?_
  refine Eq.trans (rl_iconst (c := 1) (k := (nI 1)) (by decide +kernel) (by decide)) ?_
  refine Eq.trans (rl_iadd (by decide +kernel)) ?_
  refine Eq.trans (rl_sald (by decide +kernel)) ?_
  refine am_ite (fun h_1 => ?_) (fun _ => rfl)
  refine Eq.trans (rl_aloadn (j := 0) (by decide +kernel) rfl) ?_
  refine Eq.trans (rl_iload (j := 5) (by decide +kernel) rfl) ?_
  refine Eq.trans (rl_iconst (c := 2) (k := (nI 2)) (by decide +kernel) (by decide)) ?_
  refine Eq.trans (rl_iadd (by decide +kernel)) ?_
  refine Eq.trans (rl_sald (by decide +kernel)) ?_
  refine am_ite (fun h_2 => ?_) (fun _ => rfl)
  refine Eq.trans (rl_aloadn (j := 0) (by decide +kernel) rfl) ?_
  refine Eq.trans (rl_iload (j := 5) (by decide +kernel) rfl) ?_
  refine Eq.trans (rl_iconst (c := 3) (k := (nI 3)) (by decide +kernel) (by decide)) ?_
  refine Eq.trans (rl_iadd (by decide +kernel)) ?_
  refine Eq.trans (rl_sald (by decide +kernel)) ?_
  refine am_ite (fun h_3 => ?_) (fun _ => rfl)
  refine Eq.trans (rl_aloadn (j := 3) (by decide +kernel) rfl) ?_
  refine Eq.trans (rl_invS (ix := 144) (n := 5) (k := 1) 197 [am_P (3, 0, 0), am_I (M (0, 0, 0) (x5 + (nI 1)).toNatClampNeg), am_I (M (0, 0, 0) (x5 + (nI 2)).toNatClampNeg), am_I (M (0, 0, 0) (x5 + (nI 3)).toNatClampNeg), am_P (1, 0, 0)] [] (by decide +kernel) (by decide +kernel) (by decide) (by decide +kernel) ⟨rfl, rfl⟩ rfl rfl) ?_
  rfl
theorem b227_375 {x5 s0 : Int32} {x6 x7 x8 : Option am_V} {M : am_M} {w : am_W4}  : am_rn call 227 375 [some (am_P (0, 0, 0)), some (am_P (3, 0, 0)), some (am_P (30, 0, 0)), some (am_P (1, 0, 0)), some (am_P (2, 0, 0)), some (am_I x5), x6, x7, x8] [am_I s0] M (am_Z w) = if am_in (x5 + (nI 1)) (M (0, 0, 1) 0).toNatClampNeg then if am_in (x5 + (nI 2)) (M (0, 0, 1) 0).toNatClampNeg then if am_in (x5 + (nI 3)) (M (0, 0, 1) 0).toNatClampNeg then am_cb (call 135 [am_P (30, 0, 0), am_I (M (0, 0, 0) (x5 + (nI 1)).toNatClampNeg), am_I (M (0, 0, 0) (x5 + (nI 2)).toNatClampNeg), am_I (M (0, 0, 0) (x5 + (nI 3)).toNatClampNeg)] M (am_Z w)) fun v M' X' => am_rn call 227 399 [some (am_P (0, 0, 0)), some (am_P (3, 0, 0)), some (am_P (30, 0, 0)), some (am_P (1, 0, 0)), some (am_P (2, 0, 0)), some (am_I x5), some (am_I s0), x7, x8] (v.toList ++ []) M' X' else none else none else none := by
  refine Eq.trans (rl_istore (j := 6) (ls' := [some (am_P (0, 0, 0)), some (am_P (3, 0, 0)), some (am_P (30, 0, 0)), some (am_P (1, 0, 0)), some (am_P (2, 0, 0)), some (am_I x5), some (am_I s0), x7, x8]) (by decide +kernel) rfl rfl) ?_
  refine Eq.trans (rl_aloadn (j := 2) (by decide +kernel) rfl) ?_
  refine Eq.trans (rl_aloadn (j := 0) (by decide +kernel) rfl) ?_
  refine Eq.trans (rl_iload (j := 5) (by decide +kernel) rfl) ?_
  refine Eq.trans (rl_iconst (c := 1) (k := (nI 1)) (by decide +kernel) (by decide)) ?_
  refine Eq.trans (rl_iadd (by decide +kernel)) ?_
  refine Eq.trans (rl_sald (by decide +kernel)) ?_
  refine am_ite (fun h_1 => ?_) (fun _ => rfl)
  refine Eq.trans (rl_aloadn (j := 0) (by decide +kernel) rfl) ?_
  refine Eq.trans (rl_iload (j := 5) (by decide +kernel) rfl) ?_
  refine Eq.trans (rl_iconst (c := 2) (k := (nI 2)) (by decide +kernel) (by decide)) ?_
  refine Eq.trans (rl_iadd (by decide +kernel)) ?_
  refine Eq.trans (rl_sald (by decide +kernel)) ?_
  refine am_ite (fun h_2 => ?_) (fun _ => rfl)
  refine Eq.trans (rl_aloadn (j := 0) (by decide +kernel) rfl) ?_
  refine Eq.trans (rl_iload (j := 5) (by decide +kernel) rfl) ?_
  refine Eq.trans (rl_iconst (c := 3) (k := (nI 3)) (by decide +kernel) (by decide)) ?_
  refine Eq.trans (rl_iadd (by decide +kernel)) ?_
  refine Eq.trans (rl_sald (by decide +kernel)) ?_
  refine am_ite (fun h_3 => ?_) (fun _ => rfl)
  refine Eq.trans (rl_inv (ix := 146) (n := 3) (o := 9) 135 [am_I (M (0, 0, 0) (x5 + (nI 1)).toNatClampNeg), am_I (M (0, 0, 0) (x5 + (nI 2)).toNatClampNeg), am_I (M (0, 0, 0) (x5 + (nI 3)).toNatClampNeg)] [] (by decide +kernel) (by decide +kernel) (by decide +kernel) (by decide +kernel) ⟨rfl, rfl⟩ rfl rfl ck30) ?_
  rfl
theorem b227_399 {x5 x6 s0 : Int32} {x7 x8 : Option am_V} {M : am_M} {w : am_W4}  : am_rn call 227 399 [some (am_P (0, 0, 0)), some (am_P (3, 0, 0)), some (am_P (30, 0, 0)), some (am_P (1, 0, 0)), some (am_P (2, 0, 0)), some (am_I x5), some (am_I x6), x7, x8] [am_I s0] M (am_Z w) = am_cb (call 114 [am_P (30, 0, 0)] M (am_Z w)) fun v M' X' => am_rn call 227 405 [some (am_P (0, 0, 0)), some (am_P (3, 0, 0)), some (am_P (30, 0, 0)), some (am_P (1, 0, 0)), some (am_P (2, 0, 0)), some (am_I x5), some (am_I x6), some (am_I s0), x8] (v.toList ++ []) M' X' := by
  refine Eq.trans (rl_istore (j := 7) (ls' := [some (am_P (0, 0, 0)), some (am_P (3, 0, 0)), some (am_P (30, 0, 0)), some (am_P (1, 0, 0)), some (am_P (2, 0, 0)), some (am_I x5), some (am_I x6), some (am_I s0), x8]) (by decide +kernel) rfl rfl) ?_
  refine Eq.trans (rl_aloadn (j := 2) (by decide +kernel) rfl) ?_
  refine Eq.trans (rl_inv (ix := 137) (n := 0) (o := 9) 114 [] [] (by decide +kernel) (by decide +kernel) (by decide +kernel) (by decide +kernel) ⟨rfl, rfl⟩ rfl rfl ck30) ?_
  rfl
theorem b227_405 {x5 x6 x7 s0 : Int32} {x8 : Option am_V} {M : am_M} {w : am_W4}  : am_rn call 227 405 [some (am_P (0, 0, 0)), some (am_P (3, 0, 0)), some (am_P (30, 0, 0)), some (am_P (1, 0, 0)), some (am_P (2, 0, 0)), some (am_I x5), some (am_I x6), some (am_I x7), x8] [am_I s0] M (am_Z w) = if s0 = x6 then if x6 = 0 then if (lg_cmp w.2.2.1 x7.toInt64) = 0 then am_rn call 227 429 [some (am_P (0, 0, 0)), some (am_P (3, 0, 0)), some (am_P (30, 0, 0)), some (am_P (1, 0, 0)), some (am_P (2, 0, 0)), some (am_I x5), some (am_I x6), some (am_I x7), x8] [] M (am_Z w) else some (.inl (some (am_I (nI 0))), M, (am_Z w)) else am_rn call 227 429 [some (am_P (0, 0, 0)), some (am_P (3, 0, 0)), some (am_P (30, 0, 0)), some (am_P (1, 0, 0)), some (am_P (2, 0, 0)), some (am_I x5), some (am_I x6), some (am_I x7), x8] [] M (am_Z w) else some (.inl (some (am_I (nI 0))), M, (am_Z w)) := by
  refine Eq.trans (rl_iload (j := 6) (by decide +kernel) rfl) ?_
  refine Eq.trans (rl_iceq (o := 5) 412 (by decide +kernel) (by decide)) ?_
  refine am_ite (fun h_1 => ?_) (fun h_1 => ?_)
  · skip
    refine Eq.trans (rl_iload (j := 6) (by decide +kernel) rfl) ?_
    refine Eq.trans (rl_ifne (o := 15) 429 (by decide +kernel) (by decide)) ?_
    refine am_ite (fun h_2 => ?_) (fun h_2 => ?_)
    · skip
      refine Eq.trans (rl_aloadn (j := 3) (by decide +kernel) rfl) ?_
      refine Eq.trans (rl_iconst (c := 0) (k := (nI 0)) (by decide +kernel) (by decide)) ?_
      refine Eq.trans (rl_lald (by decide +kernel)) ?_
      refine Eq.trans (rl_iload (j := 7) (by decide +kernel) rfl) ?_
      refine Eq.trans (rl_i2l (by decide +kernel)) ?_
      refine Eq.trans (rl_lcmp (by decide +kernel)) ?_
      refine Eq.trans (rl_ifeq (o := 5) 429 (by decide +kernel) (by decide)) ?_
      refine am_ite (fun h_3 => ?_) (fun h_3 => ?_)
      · skip
        rfl
      · skip
        refine Eq.trans (rl_iconst (c := 0) (k := (nI 0)) (by decide +kernel) (by decide)) ?_
        exact rl_zretk (by decide +kernel) rfl rfl
    · skip
      rfl
  · skip
    refine Eq.trans (rl_iconst (c := 0) (k := (nI 0)) (by decide +kernel) (by decide)) ?_
    exact rl_zretk (by decide +kernel) rfl rfl
theorem b227_429 {x5 x6 x7 : Int32} {x8 : Option am_V} {M : am_M} {w : am_W4}  : am_rn call 227 429 [some (am_P (0, 0, 0)), some (am_P (3, 0, 0)), some (am_P (30, 0, 0)), some (am_P (1, 0, 0)), some (am_P (2, 0, 0)), some (am_I x5), some (am_I x6), some (am_I x7), x8] [] M (am_Z w) = am_rn call 227 2276 [some (am_P (0, 0, 0)), some (am_P (3, 0, 0)), some (am_P (30, 0, 0)), some (am_P (1, 0, 0)), some (am_P (2, 0, 0)), some (am_I x5), some (am_I x6), some (am_I x7), x8] [] M (am_Z w) := by
  refine Eq.trans (rl_goto (o := 1847) 2276 (by decide +kernel) (by decide)) ?_
  rfl
theorem b227_432 {x5 : Int32} {x6 x7 x8 : Option am_V} {M : am_M} {w : am_W4}  : am_rn call 227 432 [some (am_P (0, 0, 0)), some (am_P (3, 0, 0)), some (am_P (30, 0, 0)), some (am_P (1, 0, 0)), some (am_P (2, 0, 0)), some (am_I x5), x6, x7, x8] [] M (am_Z w) = if am_in (x5 + (nI 1)) (M (0, 0, 1) 0).toNatClampNeg then if am_in (x5 + (nI 2)) (M (0, 0, 1) 0).toNatClampNeg then am_cb (call 198 [am_P (3, 0, 0), am_I (M (0, 0, 0) (x5 + (nI 1)).toNatClampNeg), am_I (M (0, 0, 0) (x5 + (nI 2)).toNatClampNeg), am_P (1, 0, 0)] M (am_Z w)) fun v M' X' => am_rn call 227 449 [some (am_P (0, 0, 0)), some (am_P (3, 0, 0)), some (am_P (30, 0, 0)), some (am_P (1, 0, 0)), some (am_P (2, 0, 0)), some (am_I x5), x6, x7, x8] (v.toList ++ []) M' X' else none else none := by
  refine Eq.trans (rl_aloadn (j := 1) (by decide +kernel) rfl) ?_
  refine Eq.trans (rl_aloadn (j := 0) (by decide +kernel) rfl) ?_
  refine Eq.trans (rl_iload (j := 5) (by decide +kernel) rfl) ?_
  refine Eq.trans (rl_iconst (c := 1) (k := (nI 1)) (by decide +kernel) (by decide)) ?_
  refine Eq.trans (rl_iadd (by decide +kernel)) ?_
  refine Eq.trans (rl_sald (by decide +kernel)) ?_
  refine am_ite (fun h_1 => ?_) (fun _ => rfl)
  refine Eq.trans (rl_aloadn (j := 0) (by decide +kernel) rfl) ?_
  refine Eq.trans (rl_iload (j := 5) (by decide +kernel) rfl) ?_
  refine Eq.trans (rl_iconst (c := 2) (k := (nI 2)) (by decide +kernel) (by decide)) ?_
  refine Eq.trans (rl_iadd (by decide +kernel)) ?_
  refine Eq.trans (rl_sald (by decide +kernel)) ?_
  refine am_ite (fun h_2 => ?_) (fun _ => rfl)
  refine Eq.trans (rl_aloadn (j := 3) (by decide +kernel) rfl) ?_
  refine Eq.trans (rl_invS (ix := 147) (n := 4) (k := 1) 198 [am_P (3, 0, 0), am_I (M (0, 0, 0) (x5 + (nI 1)).toNatClampNeg), am_I (M (0, 0, 0) (x5 + (nI 2)).toNatClampNeg), am_P (1, 0, 0)] [] (by decide +kernel) (by decide +kernel) (by decide) (by decide +kernel) ⟨rfl, rfl⟩ rfl rfl) ?_
  rfl
theorem b227_449 {x5 s0 : Int32} {x6 x7 x8 : Option am_V} {M : am_M} {w : am_W4}  : am_rn call 227 449 [some (am_P (0, 0, 0)), some (am_P (3, 0, 0)), some (am_P (30, 0, 0)), some (am_P (1, 0, 0)), some (am_P (2, 0, 0)), some (am_I x5), x6, x7, x8] [am_I s0] M (am_Z w) = if am_in (x5 + (nI 1)) (M (0, 0, 1) 0).toNatClampNeg then if am_in (x5 + (nI 2)) (M (0, 0, 1) 0).toNatClampNeg then am_cb (call 137 [am_P (30, 0, 0), am_I (M (0, 0, 0) (x5 + (nI 1)).toNatClampNeg), am_I (M (0, 0, 0) (x5 + (nI 2)).toNatClampNeg)] M (am_Z w)) fun v M' X' => am_rn call 227 467 [some (am_P (0, 0, 0)), some (am_P (3, 0, 0)), some (am_P (30, 0, 0)), some (am_P (1, 0, 0)), some (am_P (2, 0, 0)), some (am_I x5), some (am_I s0), x7, x8] (v.toList ++ []) M' X' else none else none := by
  refine Eq.trans (rl_istore (j := 6) (ls' := [some (am_P (0, 0, 0)), some (am_P (3, 0, 0)), some (am_P (30, 0, 0)), some (am_P (1, 0, 0)), some (am_P (2, 0, 0)), some (am_I x5), some (am_I s0), x7, x8]) (by decide +kernel) rfl rfl) ?_
  refine Eq.trans (rl_aloadn (j := 2) (by decide +kernel) rfl) ?_
  refine Eq.trans (rl_aloadn (j := 0) (by decide +kernel) rfl) ?_
  refine Eq.trans (rl_iload (j := 5) (by decide +kernel) rfl) ?_
  refine Eq.trans (rl_iconst (c := 1) (k := (nI 1)) (by decide +kernel) (by decide)) ?_
  refine Eq.trans (rl_iadd (by decide +kernel)) ?_
  refine Eq.trans (rl_sald (by decide +kernel)) ?_
  refine am_ite (fun h_1 => ?_) (fun _ => rfl)
  refine Eq.trans (rl_aloadn (j := 0) (by decide +kernel) rfl) ?_
  refine Eq.trans (rl_iload (j := 5) (by decide +kernel) rfl) ?_
  refine Eq.trans (rl_iconst (c := 2) (k := (nI 2)) (by decide +kernel) (by decide)) ?_
  refine Eq.trans (rl_iadd (by decide +kernel)) ?_
  refine Eq.trans (rl_sald (by decide +kernel)) ?_
  refine am_ite (fun h_2 => ?_) (fun _ => rfl)
  refine Eq.trans (rl_inv (ix := 149) (n := 2) (o := 9) 137 [am_I (M (0, 0, 0) (x5 + (nI 1)).toNatClampNeg), am_I (M (0, 0, 0) (x5 + (nI 2)).toNatClampNeg)] [] (by decide +kernel) (by decide +kernel) (by decide +kernel) (by decide +kernel) ⟨rfl, rfl⟩ rfl rfl ck30) ?_
  rfl
theorem b227_467 {x5 x6 s0 : Int32} {x7 x8 : Option am_V} {M : am_M} {w : am_W4}  : am_rn call 227 467 [some (am_P (0, 0, 0)), some (am_P (3, 0, 0)), some (am_P (30, 0, 0)), some (am_P (1, 0, 0)), some (am_P (2, 0, 0)), some (am_I x5), some (am_I x6), x7, x8] [am_I s0] M (am_Z w) = am_cb (call 114 [am_P (30, 0, 0)] M (am_Z w)) fun v M' X' => am_rn call 227 473 [some (am_P (0, 0, 0)), some (am_P (3, 0, 0)), some (am_P (30, 0, 0)), some (am_P (1, 0, 0)), some (am_P (2, 0, 0)), some (am_I x5), some (am_I x6), some (am_I s0), x8] (v.toList ++ []) M' X' := by
  refine Eq.trans (rl_istore (j := 7) (ls' := [some (am_P (0, 0, 0)), some (am_P (3, 0, 0)), some (am_P (30, 0, 0)), some (am_P (1, 0, 0)), some (am_P (2, 0, 0)), some (am_I x5), some (am_I x6), some (am_I s0), x8]) (by decide +kernel) rfl rfl) ?_
  refine Eq.trans (rl_aloadn (j := 2) (by decide +kernel) rfl) ?_
  refine Eq.trans (rl_inv (ix := 137) (n := 0) (o := 9) 114 [] [] (by decide +kernel) (by decide +kernel) (by decide +kernel) (by decide +kernel) ⟨rfl, rfl⟩ rfl rfl ck30) ?_
  rfl
theorem b227_473 {x5 x6 x7 s0 : Int32} {x8 : Option am_V} {M : am_M} {w : am_W4}  : am_rn call 227 473 [some (am_P (0, 0, 0)), some (am_P (3, 0, 0)), some (am_P (30, 0, 0)), some (am_P (1, 0, 0)), some (am_P (2, 0, 0)), some (am_I x5), some (am_I x6), some (am_I x7), x8] [am_I s0] M (am_Z w) = if s0 = x6 then if x6 = 0 then if (lg_cmp w.2.2.1 x7.toInt64) = 0 then am_rn call 227 497 [some (am_P (0, 0, 0)), some (am_P (3, 0, 0)), some (am_P (30, 0, 0)), some (am_P (1, 0, 0)), some (am_P (2, 0, 0)), some (am_I x5), some (am_I x6), some (am_I x7), x8] [] M (am_Z w) else some (.inl (some (am_I (nI 0))), M, (am_Z w)) else am_rn call 227 497 [some (am_P (0, 0, 0)), some (am_P (3, 0, 0)), some (am_P (30, 0, 0)), some (am_P (1, 0, 0)), some (am_P (2, 0, 0)), some (am_I x5), some (am_I x6), some (am_I x7), x8] [] M (am_Z w) else some (.inl (some (am_I (nI 0))), M, (am_Z w)) := by
  refine Eq.trans (rl_iload (j := 6) (by decide +kernel) rfl) ?_
  refine Eq.trans (rl_iceq (o := 5) 480 (by decide +kernel) (by decide)) ?_
  refine am_ite (fun h_1 => ?_) (fun h_1 => ?_)
  · skip
    refine Eq.trans (rl_iload (j := 6) (by decide +kernel) rfl) ?_
    refine Eq.trans (rl_ifne (o := 15) 497 (by decide +kernel) (by decide)) ?_
    refine am_ite (fun h_2 => ?_) (fun h_2 => ?_)
    · skip
      refine Eq.trans (rl_aloadn (j := 3) (by decide +kernel) rfl) ?_
      refine Eq.trans (rl_iconst (c := 0) (k := (nI 0)) (by decide +kernel) (by decide)) ?_
      refine Eq.trans (rl_lald (by decide +kernel)) ?_
      refine Eq.trans (rl_iload (j := 7) (by decide +kernel) rfl) ?_
      refine Eq.trans (rl_i2l (by decide +kernel)) ?_
      refine Eq.trans (rl_lcmp (by decide +kernel)) ?_
      refine Eq.trans (rl_ifeq (o := 5) 497 (by decide +kernel) (by decide)) ?_
      refine am_ite (fun h_3 => ?_) (fun h_3 => ?_)
      · skip
        rfl
      · skip
        refine Eq.trans (rl_iconst (c := 0) (k := (nI 0)) (by decide +kernel) (by decide)) ?_
        exact rl_zretk (by decide +kernel) rfl rfl
    · skip
      rfl
  · skip
    refine Eq.trans (rl_iconst (c := 0) (k := (nI 0)) (by decide +kernel) (by decide)) ?_
    exact rl_zretk (by decide +kernel) rfl rfl
theorem b227_497 {x5 x6 x7 : Int32} {x8 : Option am_V} {M : am_M} {w : am_W4}  : am_rn call 227 497 [some (am_P (0, 0, 0)), some (am_P (3, 0, 0)), some (am_P (30, 0, 0)), some (am_P (1, 0, 0)), some (am_P (2, 0, 0)), some (am_I x5), some (am_I x6), some (am_I x7), x8] [] M (am_Z w) = am_rn call 227 2276 [some (am_P (0, 0, 0)), some (am_P (3, 0, 0)), some (am_P (30, 0, 0)), some (am_P (1, 0, 0)), some (am_P (2, 0, 0)), some (am_I x5), some (am_I x6), some (am_I x7), x8] [] M (am_Z w) := by
  refine Eq.trans (rl_goto (o := 1779) 2276 (by decide +kernel) (by decide)) ?_
  rfl
theorem b227_500 {x5 : Int32} {x6 x7 x8 : Option am_V} {M : am_M} {w : am_W4}  : am_rn call 227 500 [some (am_P (0, 0, 0)), some (am_P (3, 0, 0)), some (am_P (30, 0, 0)), some (am_P (1, 0, 0)), some (am_P (2, 0, 0)), some (am_I x5), x6, x7, x8] [] M (am_Z w) = if am_in (x5 + (nI 1)) (M (0, 0, 1) 0).toNatClampNeg then if am_in (x5 + (nI 2)) (M (0, 0, 1) 0).toNatClampNeg then am_cb (call 199 [am_P (3, 0, 0), am_I (M (0, 0, 0) (x5 + (nI 1)).toNatClampNeg), am_I (M (0, 0, 0) (x5 + (nI 2)).toNatClampNeg), am_P (1, 0, 0)] M (am_Z w)) fun v M' X' => am_rn call 227 517 [some (am_P (0, 0, 0)), some (am_P (3, 0, 0)), some (am_P (30, 0, 0)), some (am_P (1, 0, 0)), some (am_P (2, 0, 0)), some (am_I x5), x6, x7, x8] (v.toList ++ []) M' X' else none else none := by
  refine Eq.trans (rl_aloadn (j := 1) (by decide +kernel) rfl) ?_
  refine Eq.trans (rl_aloadn (j := 0) (by decide +kernel) rfl) ?_
  refine Eq.trans (rl_iload (j := 5) (by decide +kernel) rfl) ?_
  refine Eq.trans (rl_iconst (c := 1) (k := (nI 1)) (by decide +kernel) (by decide)) ?_
  refine Eq.trans (rl_iadd (by decide +kernel)) ?_
  refine Eq.trans (rl_sald (by decide +kernel)) ?_
  refine am_ite (fun h_1 => ?_) (fun _ => rfl)
  refine Eq.trans (rl_aloadn (j := 0) (by decide +kernel) rfl) ?_
  refine Eq.trans (rl_iload (j := 5) (by decide +kernel) rfl) ?_
  refine Eq.trans (rl_iconst (c := 2) (k := (nI 2)) (by decide +kernel) (by decide)) ?_
  refine Eq.trans (rl_iadd (by decide +kernel)) ?_
  refine Eq.trans (rl_sald (by decide +kernel)) ?_
  refine am_ite (fun h_2 => ?_) (fun _ => rfl)
  refine Eq.trans (rl_aloadn (j := 3) (by decide +kernel) rfl) ?_
  refine Eq.trans (rl_invS (ix := 150) (n := 4) (k := 1) 199 [am_P (3, 0, 0), am_I (M (0, 0, 0) (x5 + (nI 1)).toNatClampNeg), am_I (M (0, 0, 0) (x5 + (nI 2)).toNatClampNeg), am_P (1, 0, 0)] [] (by decide +kernel) (by decide +kernel) (by decide) (by decide +kernel) ⟨rfl, rfl⟩ rfl rfl) ?_
  rfl
theorem b227_517 {x5 s0 : Int32} {x6 x7 x8 : Option am_V} {M : am_M} {w : am_W4}  : am_rn call 227 517 [some (am_P (0, 0, 0)), some (am_P (3, 0, 0)), some (am_P (30, 0, 0)), some (am_P (1, 0, 0)), some (am_P (2, 0, 0)), some (am_I x5), x6, x7, x8] [am_I s0] M (am_Z w) = if am_in (x5 + (nI 1)) (M (0, 0, 1) 0).toNatClampNeg then if am_in (x5 + (nI 2)) (M (0, 0, 1) 0).toNatClampNeg then am_cb (call 139 [am_P (30, 0, 0), am_I (M (0, 0, 0) (x5 + (nI 1)).toNatClampNeg), am_I (M (0, 0, 0) (x5 + (nI 2)).toNatClampNeg)] M (am_Z w)) fun v M' X' => am_rn call 227 535 [some (am_P (0, 0, 0)), some (am_P (3, 0, 0)), some (am_P (30, 0, 0)), some (am_P (1, 0, 0)), some (am_P (2, 0, 0)), some (am_I x5), some (am_I s0), x7, x8] (v.toList ++ []) M' X' else none else none := by
  refine Eq.trans (rl_istore (j := 6) (ls' := [some (am_P (0, 0, 0)), some (am_P (3, 0, 0)), some (am_P (30, 0, 0)), some (am_P (1, 0, 0)), some (am_P (2, 0, 0)), some (am_I x5), some (am_I s0), x7, x8]) (by decide +kernel) rfl rfl) ?_
  refine Eq.trans (rl_aloadn (j := 2) (by decide +kernel) rfl) ?_
  refine Eq.trans (rl_aloadn (j := 0) (by decide +kernel) rfl) ?_
  refine Eq.trans (rl_iload (j := 5) (by decide +kernel) rfl) ?_
  refine Eq.trans (rl_iconst (c := 1) (k := (nI 1)) (by decide +kernel) (by decide)) ?_
  refine Eq.trans (rl_iadd (by decide +kernel)) ?_
  refine Eq.trans (rl_sald (by decide +kernel)) ?_
  refine am_ite (fun h_1 => ?_) (fun _ => rfl)
  refine Eq.trans (rl_aloadn (j := 0) (by decide +kernel) rfl) ?_
  refine Eq.trans (rl_iload (j := 5) (by decide +kernel) rfl) ?_
  refine Eq.trans (rl_iconst (c := 2) (k := (nI 2)) (by decide +kernel) (by decide)) ?_
  refine Eq.trans (rl_iadd (by decide +kernel)) ?_
  refine Eq.trans (rl_sald (by decide +kernel)) ?_
  refine am_ite (fun h_2 => ?_) (fun _ => rfl)
  refine Eq.trans (rl_inv (ix := 152) (n := 2) (o := 9) 139 [am_I (M (0, 0, 0) (x5 + (nI 1)).toNatClampNeg), am_I (M (0, 0, 0) (x5 + (nI 2)).toNatClampNeg)] [] (by decide +kernel) (by decide +kernel) (by decide +kernel) (by decide +kernel) ⟨rfl, rfl⟩ rfl rfl ck30) ?_
  rfl
theorem b227_535 {x5 x6 s0 : Int32} {x7 x8 : Option am_V} {M : am_M} {w : am_W4}  : am_rn call 227 535 [some (am_P (0, 0, 0)), some (am_P (3, 0, 0)), some (am_P (30, 0, 0)), some (am_P (1, 0, 0)), some (am_P (2, 0, 0)), some (am_I x5), some (am_I x6), x7, x8] [am_I s0] M (am_Z w) = am_cb (call 114 [am_P (30, 0, 0)] M (am_Z w)) fun v M' X' => am_rn call 227 541 [some (am_P (0, 0, 0)), some (am_P (3, 0, 0)), some (am_P (30, 0, 0)), some (am_P (1, 0, 0)), some (am_P (2, 0, 0)), some (am_I x5), some (am_I x6), some (am_I s0), x8] (v.toList ++ []) M' X' := by
  refine Eq.trans (rl_istore (j := 7) (ls' := [some (am_P (0, 0, 0)), some (am_P (3, 0, 0)), some (am_P (30, 0, 0)), some (am_P (1, 0, 0)), some (am_P (2, 0, 0)), some (am_I x5), some (am_I x6), some (am_I s0), x8]) (by decide +kernel) rfl rfl) ?_
  refine Eq.trans (rl_aloadn (j := 2) (by decide +kernel) rfl) ?_
  refine Eq.trans (rl_inv (ix := 137) (n := 0) (o := 9) 114 [] [] (by decide +kernel) (by decide +kernel) (by decide +kernel) (by decide +kernel) ⟨rfl, rfl⟩ rfl rfl ck30) ?_
  rfl
theorem b227_541 {x5 x6 x7 s0 : Int32} {x8 : Option am_V} {M : am_M} {w : am_W4}  : am_rn call 227 541 [some (am_P (0, 0, 0)), some (am_P (3, 0, 0)), some (am_P (30, 0, 0)), some (am_P (1, 0, 0)), some (am_P (2, 0, 0)), some (am_I x5), some (am_I x6), some (am_I x7), x8] [am_I s0] M (am_Z w) = if s0 = x6 then if x6 = 0 then if (lg_cmp w.2.2.1 x7.toInt64) = 0 then am_rn call 227 565 [some (am_P (0, 0, 0)), some (am_P (3, 0, 0)), some (am_P (30, 0, 0)), some (am_P (1, 0, 0)), some (am_P (2, 0, 0)), some (am_I x5), some (am_I x6), some (am_I x7), x8] [] M (am_Z w) else some (.inl (some (am_I (nI 0))), M, (am_Z w)) else am_rn call 227 565 [some (am_P (0, 0, 0)), some (am_P (3, 0, 0)), some (am_P (30, 0, 0)), some (am_P (1, 0, 0)), some (am_P (2, 0, 0)), some (am_I x5), some (am_I x6), some (am_I x7), x8] [] M (am_Z w) else some (.inl (some (am_I (nI 0))), M, (am_Z w)) := by
  refine Eq.trans (rl_iload (j := 6) (by decide +kernel) rfl) ?_
  refine Eq.trans (rl_iceq (o := 5) 548 (by decide +kernel) (by decide)) ?_
  refine am_ite (fun h_1 => ?_) (fun h_1 => ?_)
  · skip
    refine Eq.trans (rl_iload (j := 6) (by decide +kernel) rfl) ?_
    refine Eq.trans (rl_ifne (o := 15) 565 (by decide +kernel) (by decide)) ?_
    refine am_ite (fun h_2 => ?_) (fun h_2 => ?_)
    · skip
      refine Eq.trans (rl_aloadn (j := 3) (by decide +kernel) rfl) ?_
      refine Eq.trans (rl_iconst (c := 0) (k := (nI 0)) (by decide +kernel) (by decide)) ?_
      refine Eq.trans (rl_lald (by decide +kernel)) ?_
      refine Eq.trans (rl_iload (j := 7) (by decide +kernel) rfl) ?_
      refine Eq.trans (rl_i2l (by decide +kernel)) ?_
      refine Eq.trans (rl_lcmp (by decide +kernel)) ?_
      refine Eq.trans (rl_ifeq (o := 5) 565 (by decide +kernel) (by decide)) ?_
      refine am_ite (fun h_3 => ?_) (fun h_3 => ?_)
      · skip
        rfl
      · skip
        refine Eq.trans (rl_iconst (c := 0) (k := (nI 0)) (by decide +kernel) (by decide)) ?_
        exact rl_zretk (by decide +kernel) rfl rfl
    · skip
      rfl
  · skip
    refine Eq.trans (rl_iconst (c := 0) (k := (nI 0)) (by decide +kernel) (by decide)) ?_
    exact rl_zretk (by decide +kernel) rfl rfl
theorem b227_565 {x5 x6 x7 : Int32} {x8 : Option am_V} {M : am_M} {w : am_W4}  : am_rn call 227 565 [some (am_P (0, 0, 0)), some (am_P (3, 0, 0)), some (am_P (30, 0, 0)), some (am_P (1, 0, 0)), some (am_P (2, 0, 0)), some (am_I x5), some (am_I x6), some (am_I x7), x8] [] M (am_Z w) = am_rn call 227 2276 [some (am_P (0, 0, 0)), some (am_P (3, 0, 0)), some (am_P (30, 0, 0)), some (am_P (1, 0, 0)), some (am_P (2, 0, 0)), some (am_I x5), some (am_I x6), some (am_I x7), x8] [] M (am_Z w) := by
  refine Eq.trans (rl_goto (o := 1711) 2276 (by decide +kernel) (by decide)) ?_
  rfl
theorem b227_568 {x5 : Int32} {x6 x7 x8 : Option am_V} {M : am_M} {w : am_W4}  : am_rn call 227 568 [some (am_P (0, 0, 0)), some (am_P (3, 0, 0)), some (am_P (30, 0, 0)), some (am_P (1, 0, 0)), some (am_P (2, 0, 0)), some (am_I x5), x6, x7, x8] [] M (am_Z w) = if am_in (x5 + (nI 1)) (M (0, 0, 1) 0).toNatClampNeg then if am_in (x5 + (nI 2)) (M (0, 0, 1) 0).toNatClampNeg then if am_in (x5 + (nI 3)) (M (0, 0, 1) 0).toNatClampNeg then am_cb (call 200 [am_P (3, 0, 0), am_I (M (0, 0, 0) (x5 + (nI 1)).toNatClampNeg), am_I (M (0, 0, 0) (x5 + (nI 2)).toNatClampNeg), am_I (M (0, 0, 0) (x5 + (nI 3)).toNatClampNeg), am_P (1, 0, 0)] M (am_Z w)) fun v M' X' => am_rn call 227 591 [some (am_P (0, 0, 0)), some (am_P (3, 0, 0)), some (am_P (30, 0, 0)), some (am_P (1, 0, 0)), some (am_P (2, 0, 0)), some (am_I x5), x6, x7, x8] (v.toList ++ []) M' X' else none else none else none := by
  refine Eq.trans (rl_aloadn (j := 1) (by decide +kernel) rfl) ?_
  refine Eq.trans (rl_aloadn (j := 0) (by decide +kernel) rfl) ?_
  refine Eq.trans (rl_iload (j := 5) (by decide +kernel) rfl) ?_
  refine Eq.trans (rl_iconst (c := 1) (k := (nI 1)) (by decide +kernel) (by decide)) ?_
  refine Eq.trans (rl_iadd (by decide +kernel)) ?_
  refine Eq.trans (rl_sald (by decide +kernel)) ?_
  refine am_ite (fun h_1 => ?_) (fun _ => rfl)
  refine Eq.trans (rl_aloadn (j := 0) (by decide +kernel) rfl) ?_
  refine Eq.trans (rl_iload (j := 5) (by decide +kernel) rfl) ?_
  refine Eq.trans (rl_iconst (c := 2) (k := (nI 2)) (by decide +kernel) (by decide)) ?_
  refine Eq.trans (rl_iadd (by decide +kernel)) ?_
  refine Eq.trans (rl_sald (by decide +kernel)) ?_
  refine am_ite (fun h_2 => ?_) (fun _ => rfl)
  refine Eq.trans (rl_aloadn (j := 0) (by decide +kernel) rfl) ?_
  refine Eq.trans (rl_iload (j := 5) (by decide +kernel) rfl) ?_
  refine Eq.trans (rl_iconst (c := 3) (k := (nI 3)) (by decide +kernel) (by decide)) ?_
  refine Eq.trans (rl_iadd (by decide +kernel)) ?_
  refine Eq.trans (rl_sald (by decide +kernel)) ?_
  refine am_ite (fun h_3 => ?_) (fun _ => rfl)
  refine Eq.trans (rl_aloadn (j := 3) (by decide +kernel) rfl) ?_
  refine Eq.trans (rl_invS (ix := 153) (n := 5) (k := 1) 200 [am_P (3, 0, 0), am_I (M (0, 0, 0) (x5 + (nI 1)).toNatClampNeg), am_I (M (0, 0, 0) (x5 + (nI 2)).toNatClampNeg), am_I (M (0, 0, 0) (x5 + (nI 3)).toNatClampNeg), am_P (1, 0, 0)] [] (by decide +kernel) (by decide +kernel) (by decide) (by decide +kernel) ⟨rfl, rfl⟩ rfl rfl) ?_
  rfl
theorem b227_591 {x5 s0 : Int32} {x6 x7 x8 : Option am_V} {M : am_M} {w : am_W4}  : am_rn call 227 591 [some (am_P (0, 0, 0)), some (am_P (3, 0, 0)), some (am_P (30, 0, 0)), some (am_P (1, 0, 0)), some (am_P (2, 0, 0)), some (am_I x5), x6, x7, x8] [am_I s0] M (am_Z w) = if am_in (x5 + (nI 1)) (M (0, 0, 1) 0).toNatClampNeg then if am_in (x5 + (nI 2)) (M (0, 0, 1) 0).toNatClampNeg then if am_in (x5 + (nI 3)) (M (0, 0, 1) 0).toNatClampNeg then am_cb (call 141 [am_P (30, 0, 0), am_I (M (0, 0, 0) (x5 + (nI 1)).toNatClampNeg), am_I (M (0, 0, 0) (x5 + (nI 2)).toNatClampNeg), am_I (M (0, 0, 0) (x5 + (nI 3)).toNatClampNeg)] M (am_Z w)) fun v M' X' => am_rn call 227 615 [some (am_P (0, 0, 0)), some (am_P (3, 0, 0)), some (am_P (30, 0, 0)), some (am_P (1, 0, 0)), some (am_P (2, 0, 0)), some (am_I x5), some (am_I s0), x7, x8] (v.toList ++ []) M' X' else none else none else none := by
  refine Eq.trans (rl_istore (j := 6) (ls' := [some (am_P (0, 0, 0)), some (am_P (3, 0, 0)), some (am_P (30, 0, 0)), some (am_P (1, 0, 0)), some (am_P (2, 0, 0)), some (am_I x5), some (am_I s0), x7, x8]) (by decide +kernel) rfl rfl) ?_
  refine Eq.trans (rl_aloadn (j := 2) (by decide +kernel) rfl) ?_
  refine Eq.trans (rl_aloadn (j := 0) (by decide +kernel) rfl) ?_
  refine Eq.trans (rl_iload (j := 5) (by decide +kernel) rfl) ?_
  refine Eq.trans (rl_iconst (c := 1) (k := (nI 1)) (by decide +kernel) (by decide)) ?_
  refine Eq.trans (rl_iadd (by decide +kernel)) ?_
  refine Eq.trans (rl_sald (by decide +kernel)) ?_
  refine am_ite (fun h_1 => ?_) (fun _ => rfl)
  refine Eq.trans (rl_aloadn (j := 0) (by decide +kernel) rfl) ?_
  refine Eq.trans (rl_iload (j := 5) (by decide +kernel) rfl) ?_
  refine Eq.trans (rl_iconst (c := 2) (k := (nI 2)) (by decide +kernel) (by decide)) ?_
  refine Eq.trans (rl_iadd (by decide +kernel)) ?_
  refine Eq.trans (rl_sald (by decide +kernel)) ?_
  refine am_ite (fun h_2 => ?_) (fun _ => rfl)
  refine Eq.trans (rl_aloadn (j := 0) (by decide +kernel) rfl) ?_
  refine Eq.trans (rl_iload (j := 5) (by decide +kernel) rfl) ?_
  refine Eq.trans (rl_iconst (c := 3) (k := (nI 3)) (by decide +kernel) (by decide)) ?_
  refine Eq.trans (rl_iadd (by decide +kernel)) ?_
  refine Eq.trans (rl_sald (by decide +kernel)) ?_
  refine am_ite (fun h_3 => ?_) (fun _ => rfl)
  refine Eq.trans (rl_inv (ix := 155) (n := 3) (o := 9) 141 [am_I (M (0, 0, 0) (x5 + (nI 1)).toNatClampNeg), am_I (M (0, 0, 0) (x5 + (nI 2)).toNatClampNeg), am_I (M (0, 0, 0) (x5 + (nI 3)).toNatClampNeg)] [] (by decide +kernel) (by decide +kernel) (by decide +kernel) (by decide +kernel) ⟨rfl, rfl⟩ rfl rfl ck30) ?_
  rfl
theorem b227_615 {x5 x6 s0 : Int32} {x7 x8 : Option am_V} {M : am_M} {w : am_W4}  : am_rn call 227 615 [some (am_P (0, 0, 0)), some (am_P (3, 0, 0)), some (am_P (30, 0, 0)), some (am_P (1, 0, 0)), some (am_P (2, 0, 0)), some (am_I x5), some (am_I x6), x7, x8] [am_I s0] M (am_Z w) = am_cb (call 114 [am_P (30, 0, 0)] M (am_Z w)) fun v M' X' => am_rn call 227 621 [some (am_P (0, 0, 0)), some (am_P (3, 0, 0)), some (am_P (30, 0, 0)), some (am_P (1, 0, 0)), some (am_P (2, 0, 0)), some (am_I x5), some (am_I x6), some (am_I s0), x8] (v.toList ++ []) M' X' := by
  refine Eq.trans (rl_istore (j := 7) (ls' := [some (am_P (0, 0, 0)), some (am_P (3, 0, 0)), some (am_P (30, 0, 0)), some (am_P (1, 0, 0)), some (am_P (2, 0, 0)), some (am_I x5), some (am_I x6), some (am_I s0), x8]) (by decide +kernel) rfl rfl) ?_
  refine Eq.trans (rl_aloadn (j := 2) (by decide +kernel) rfl) ?_
  refine Eq.trans (rl_inv (ix := 137) (n := 0) (o := 9) 114 [] [] (by decide +kernel) (by decide +kernel) (by decide +kernel) (by decide +kernel) ⟨rfl, rfl⟩ rfl rfl ck30) ?_
  rfl
theorem b227_621 {x5 x6 x7 s0 : Int32} {x8 : Option am_V} {M : am_M} {w : am_W4}  : am_rn call 227 621 [some (am_P (0, 0, 0)), some (am_P (3, 0, 0)), some (am_P (30, 0, 0)), some (am_P (1, 0, 0)), some (am_P (2, 0, 0)), some (am_I x5), some (am_I x6), some (am_I x7), x8] [am_I s0] M (am_Z w) = if s0 = x6 then if x6 = 0 then if (lg_cmp w.2.2.1 x7.toInt64) = 0 then am_rn call 227 645 [some (am_P (0, 0, 0)), some (am_P (3, 0, 0)), some (am_P (30, 0, 0)), some (am_P (1, 0, 0)), some (am_P (2, 0, 0)), some (am_I x5), some (am_I x6), some (am_I x7), x8] [] M (am_Z w) else some (.inl (some (am_I (nI 0))), M, (am_Z w)) else am_rn call 227 645 [some (am_P (0, 0, 0)), some (am_P (3, 0, 0)), some (am_P (30, 0, 0)), some (am_P (1, 0, 0)), some (am_P (2, 0, 0)), some (am_I x5), some (am_I x6), some (am_I x7), x8] [] M (am_Z w) else some (.inl (some (am_I (nI 0))), M, (am_Z w)) := by
  refine Eq.trans (rl_iload (j := 6) (by decide +kernel) rfl) ?_
  refine Eq.trans (rl_iceq (o := 5) 628 (by decide +kernel) (by decide)) ?_
  refine am_ite (fun h_1 => ?_) (fun h_1 => ?_)
  · skip
    refine Eq.trans (rl_iload (j := 6) (by decide +kernel) rfl) ?_
    refine Eq.trans (rl_ifne (o := 15) 645 (by decide +kernel) (by decide)) ?_
    refine am_ite (fun h_2 => ?_) (fun h_2 => ?_)
    · skip
      refine Eq.trans (rl_aloadn (j := 3) (by decide +kernel) rfl) ?_
      refine Eq.trans (rl_iconst (c := 0) (k := (nI 0)) (by decide +kernel) (by decide)) ?_
      refine Eq.trans (rl_lald (by decide +kernel)) ?_
      refine Eq.trans (rl_iload (j := 7) (by decide +kernel) rfl) ?_
      refine Eq.trans (rl_i2l (by decide +kernel)) ?_
      refine Eq.trans (rl_lcmp (by decide +kernel)) ?_
      refine Eq.trans (rl_ifeq (o := 5) 645 (by decide +kernel) (by decide)) ?_
      refine am_ite (fun h_3 => ?_) (fun h_3 => ?_)
      · skip
        rfl
      · skip
        refine Eq.trans (rl_iconst (c := 0) (k := (nI 0)) (by decide +kernel) (by decide)) ?_
        exact rl_zretk (by decide +kernel) rfl rfl
    · skip
      rfl
  · skip
    refine Eq.trans (rl_iconst (c := 0) (k := (nI 0)) (by decide +kernel) (by decide)) ?_
    exact rl_zretk (by decide +kernel) rfl rfl
theorem b227_645 {x5 x6 x7 : Int32} {x8 : Option am_V} {M : am_M} {w : am_W4}  : am_rn call 227 645 [some (am_P (0, 0, 0)), some (am_P (3, 0, 0)), some (am_P (30, 0, 0)), some (am_P (1, 0, 0)), some (am_P (2, 0, 0)), some (am_I x5), some (am_I x6), some (am_I x7), x8] [] M (am_Z w) = am_rn call 227 2276 [some (am_P (0, 0, 0)), some (am_P (3, 0, 0)), some (am_P (30, 0, 0)), some (am_P (1, 0, 0)), some (am_P (2, 0, 0)), some (am_I x5), some (am_I x6), some (am_I x7), x8] [] M (am_Z w) := by
  refine Eq.trans (rl_goto (o := 1631) 2276 (by decide +kernel) (by decide)) ?_
  rfl
theorem b227_648 {x5 : Int32} {x6 x7 x8 : Option am_V} {M : am_M} {w : am_W4}  : am_rn call 227 648 [some (am_P (0, 0, 0)), some (am_P (3, 0, 0)), some (am_P (30, 0, 0)), some (am_P (1, 0, 0)), some (am_P (2, 0, 0)), some (am_I x5), x6, x7, x8] [] M (am_Z w) = if am_in (x5 + (nI 1)) (M (0, 0, 1) 0).toNatClampNeg then am_cb (call 201 [am_P (3, 0, 0), am_I (M (0, 0, 0) (x5 + (nI 1)).toNatClampNeg), am_P (1, 0, 0)] M (am_Z w)) fun v M' X' => am_rn call 227 659 [some (am_P (0, 0, 0)), some (am_P (3, 0, 0)), some (am_P (30, 0, 0)), some (am_P (1, 0, 0)), some (am_P (2, 0, 0)), some (am_I x5), x6, x7, x8] (v.toList ++ []) M' X' else none := by
  refine Eq.trans (rl_aloadn (j := 1) (by decide +kernel) rfl) ?_
  refine Eq.trans (rl_aloadn (j := 0) (by decide +kernel) rfl) ?_
  refine Eq.trans (rl_iload (j := 5) (by decide +kernel) rfl) ?_
  refine Eq.trans (rl_iconst (c := 1) (k := (nI 1)) (by decide +kernel) (by decide)) ?_
  refine Eq.trans (rl_iadd (by decide +kernel)) ?_
  refine Eq.trans (rl_sald (by decide +kernel)) ?_
  refine am_ite (fun h_1 => ?_) (fun _ => rfl)
  refine Eq.trans (rl_aloadn (j := 3) (by decide +kernel) rfl) ?_
  refine Eq.trans (rl_invS (ix := 156) (n := 3) (k := 1) 201 [am_P (3, 0, 0), am_I (M (0, 0, 0) (x5 + (nI 1)).toNatClampNeg), am_P (1, 0, 0)] [] (by decide +kernel) (by decide +kernel) (by decide) (by decide +kernel) ⟨rfl, rfl⟩ rfl rfl) ?_
  rfl
theorem b227_659 {x5 s0 : Int32} {x6 x7 x8 : Option am_V} {M : am_M} {w : am_W4}  : am_rn call 227 659 [some (am_P (0, 0, 0)), some (am_P (3, 0, 0)), some (am_P (30, 0, 0)), some (am_P (1, 0, 0)), some (am_P (2, 0, 0)), some (am_I x5), x6, x7, x8] [am_I s0] M (am_Z w) = if am_in (x5 + (nI 1)) (M (0, 0, 1) 0).toNatClampNeg then am_cb (call 143 [am_P (30, 0, 0), am_I (M (0, 0, 0) (x5 + (nI 1)).toNatClampNeg)] M (am_Z w)) fun v M' X' => am_rn call 227 671 [some (am_P (0, 0, 0)), some (am_P (3, 0, 0)), some (am_P (30, 0, 0)), some (am_P (1, 0, 0)), some (am_P (2, 0, 0)), some (am_I x5), some (am_I s0), x7, x8] (v.toList ++ []) M' X' else none := by
  refine Eq.trans (rl_istore (j := 6) (ls' := [some (am_P (0, 0, 0)), some (am_P (3, 0, 0)), some (am_P (30, 0, 0)), some (am_P (1, 0, 0)), some (am_P (2, 0, 0)), some (am_I x5), some (am_I s0), x7, x8]) (by decide +kernel) rfl rfl) ?_
  refine Eq.trans (rl_aloadn (j := 2) (by decide +kernel) rfl) ?_
  refine Eq.trans (rl_aloadn (j := 0) (by decide +kernel) rfl) ?_
  refine Eq.trans (rl_iload (j := 5) (by decide +kernel) rfl) ?_
  refine Eq.trans (rl_iconst (c := 1) (k := (nI 1)) (by decide +kernel) (by decide)) ?_
  refine Eq.trans (rl_iadd (by decide +kernel)) ?_
  refine Eq.trans (rl_sald (by decide +kernel)) ?_
  refine am_ite (fun h_1 => ?_) (fun _ => rfl)
  refine Eq.trans (rl_inv (ix := 159) (n := 1) (o := 9) 143 [am_I (M (0, 0, 0) (x5 + (nI 1)).toNatClampNeg)] [] (by decide +kernel) (by decide +kernel) (by decide +kernel) (by decide +kernel) ⟨rfl, rfl⟩ rfl rfl ck30) ?_
  rfl
theorem b227_671 {x5 x6 s0 : Int32} {x7 x8 : Option am_V} {M : am_M} {w : am_W4}  : am_rn call 227 671 [some (am_P (0, 0, 0)), some (am_P (3, 0, 0)), some (am_P (30, 0, 0)), some (am_P (1, 0, 0)), some (am_P (2, 0, 0)), some (am_I x5), some (am_I x6), x7, x8] [am_I s0] M (am_Z w) = am_cb (call 114 [am_P (30, 0, 0)] M (am_Z w)) fun v M' X' => am_rn call 227 677 [some (am_P (0, 0, 0)), some (am_P (3, 0, 0)), some (am_P (30, 0, 0)), some (am_P (1, 0, 0)), some (am_P (2, 0, 0)), some (am_I x5), some (am_I x6), some (am_I s0), x8] (v.toList ++ []) M' X' := by
  refine Eq.trans (rl_istore (j := 7) (ls' := [some (am_P (0, 0, 0)), some (am_P (3, 0, 0)), some (am_P (30, 0, 0)), some (am_P (1, 0, 0)), some (am_P (2, 0, 0)), some (am_I x5), some (am_I x6), some (am_I s0), x8]) (by decide +kernel) rfl rfl) ?_
  refine Eq.trans (rl_aloadn (j := 2) (by decide +kernel) rfl) ?_
  refine Eq.trans (rl_inv (ix := 137) (n := 0) (o := 9) 114 [] [] (by decide +kernel) (by decide +kernel) (by decide +kernel) (by decide +kernel) ⟨rfl, rfl⟩ rfl rfl ck30) ?_
  rfl
theorem b227_677 {x5 x6 x7 s0 : Int32} {x8 : Option am_V} {M : am_M} {w : am_W4}  : am_rn call 227 677 [some (am_P (0, 0, 0)), some (am_P (3, 0, 0)), some (am_P (30, 0, 0)), some (am_P (1, 0, 0)), some (am_P (2, 0, 0)), some (am_I x5), some (am_I x6), some (am_I x7), x8] [am_I s0] M (am_Z w) = if s0 = x6 then if x6 = 0 then if (lg_cmp w.2.2.1 x7.toInt64) = 0 then am_rn call 227 701 [some (am_P (0, 0, 0)), some (am_P (3, 0, 0)), some (am_P (30, 0, 0)), some (am_P (1, 0, 0)), some (am_P (2, 0, 0)), some (am_I x5), some (am_I x6), some (am_I x7), x8] [] M (am_Z w) else some (.inl (some (am_I (nI 0))), M, (am_Z w)) else am_rn call 227 701 [some (am_P (0, 0, 0)), some (am_P (3, 0, 0)), some (am_P (30, 0, 0)), some (am_P (1, 0, 0)), some (am_P (2, 0, 0)), some (am_I x5), some (am_I x6), some (am_I x7), x8] [] M (am_Z w) else some (.inl (some (am_I (nI 0))), M, (am_Z w)) := by
  refine Eq.trans (rl_iload (j := 6) (by decide +kernel) rfl) ?_
  refine Eq.trans (rl_iceq (o := 5) 684 (by decide +kernel) (by decide)) ?_
  refine am_ite (fun h_1 => ?_) (fun h_1 => ?_)
  · skip
    refine Eq.trans (rl_iload (j := 6) (by decide +kernel) rfl) ?_
    refine Eq.trans (rl_ifne (o := 15) 701 (by decide +kernel) (by decide)) ?_
    refine am_ite (fun h_2 => ?_) (fun h_2 => ?_)
    · skip
      refine Eq.trans (rl_aloadn (j := 3) (by decide +kernel) rfl) ?_
      refine Eq.trans (rl_iconst (c := 0) (k := (nI 0)) (by decide +kernel) (by decide)) ?_
      refine Eq.trans (rl_lald (by decide +kernel)) ?_
      refine Eq.trans (rl_iload (j := 7) (by decide +kernel) rfl) ?_
      refine Eq.trans (rl_i2l (by decide +kernel)) ?_
      refine Eq.trans (rl_lcmp (by decide +kernel)) ?_
      refine Eq.trans (rl_ifeq (o := 5) 701 (by decide +kernel) (by decide)) ?_
      refine am_ite (fun h_3 => ?_) (fun h_3 => ?_)
      · skip
        rfl
      · skip
        refine Eq.trans (rl_iconst (c := 0) (k := (nI 0)) (by decide +kernel) (by decide)) ?_
        exact rl_zretk (by decide +kernel) rfl rfl
    · skip
      rfl
  · skip
    refine Eq.trans (rl_iconst (c := 0) (k := (nI 0)) (by decide +kernel) (by decide)) ?_
    exact rl_zretk (by decide +kernel) rfl rfl
theorem b227_701 {x5 x6 x7 : Int32} {x8 : Option am_V} {M : am_M} {w : am_W4}  : am_rn call 227 701 [some (am_P (0, 0, 0)), some (am_P (3, 0, 0)), some (am_P (30, 0, 0)), some (am_P (1, 0, 0)), some (am_P (2, 0, 0)), some (am_I x5), some (am_I x6), some (am_I x7), x8] [] M (am_Z w) = am_rn call 227 2276 [some (am_P (0, 0, 0)), some (am_P (3, 0, 0)), some (am_P (30, 0, 0)), some (am_P (1, 0, 0)), some (am_P (2, 0, 0)), some (am_I x5), some (am_I x6), some (am_I x7), x8] [] M (am_Z w) := by
  refine Eq.trans (rl_goto (o := 1575) 2276 (by decide +kernel) (by decide)) ?_
  rfl
theorem b227_704 {x5 : Int32} {x6 x7 x8 : Option am_V} {M : am_M} {w : am_W4}  : am_rn call 227 704 [some (am_P (0, 0, 0)), some (am_P (3, 0, 0)), some (am_P (30, 0, 0)), some (am_P (1, 0, 0)), some (am_P (2, 0, 0)), some (am_I x5), x6, x7, x8] [] M (am_Z w) = if am_in (x5 + (nI 1)) (M (0, 0, 1) 0).toNatClampNeg then am_cb (call 202 [am_P (3, 0, 0), am_I (M (0, 0, 0) (x5 + (nI 1)).toNatClampNeg), am_P (1, 0, 0)] M (am_Z w)) fun v M' X' => am_rn call 227 715 [some (am_P (0, 0, 0)), some (am_P (3, 0, 0)), some (am_P (30, 0, 0)), some (am_P (1, 0, 0)), some (am_P (2, 0, 0)), some (am_I x5), x6, x7, x8] (v.toList ++ []) M' X' else none := by
  refine Eq.trans (rl_aloadn (j := 1) (by decide +kernel) rfl) ?_
  refine Eq.trans (rl_aloadn (j := 0) (by decide +kernel) rfl) ?_
  refine Eq.trans (rl_iload (j := 5) (by decide +kernel) rfl) ?_
  refine Eq.trans (rl_iconst (c := 1) (k := (nI 1)) (by decide +kernel) (by decide)) ?_
  refine Eq.trans (rl_iadd (by decide +kernel)) ?_
  refine Eq.trans (rl_sald (by decide +kernel)) ?_
  refine am_ite (fun h_1 => ?_) (fun _ => rfl)
  refine Eq.trans (rl_aloadn (j := 3) (by decide +kernel) rfl) ?_
  refine Eq.trans (rl_invS (ix := 160) (n := 3) (k := 1) 202 [am_P (3, 0, 0), am_I (M (0, 0, 0) (x5 + (nI 1)).toNatClampNeg), am_P (1, 0, 0)] [] (by decide +kernel) (by decide +kernel) (by decide) (by decide +kernel) ⟨rfl, rfl⟩ rfl rfl) ?_
  rfl
theorem b227_715 {x5 s0 : Int32} {x6 x7 x8 : Option am_V} {M : am_M} {w : am_W4}  : am_rn call 227 715 [some (am_P (0, 0, 0)), some (am_P (3, 0, 0)), some (am_P (30, 0, 0)), some (am_P (1, 0, 0)), some (am_P (2, 0, 0)), some (am_I x5), x6, x7, x8] [am_I s0] M (am_Z w) = if am_in (x5 + (nI 1)) (M (0, 0, 1) 0).toNatClampNeg then am_cb (call 155 [am_P (30, 0, 0), am_I (M (0, 0, 0) (x5 + (nI 1)).toNatClampNeg)] M (am_Z w)) fun v M' X' => am_rn call 227 727 [some (am_P (0, 0, 0)), some (am_P (3, 0, 0)), some (am_P (30, 0, 0)), some (am_P (1, 0, 0)), some (am_P (2, 0, 0)), some (am_I x5), some (am_I s0), x7, x8] (v.toList ++ []) M' X' else none := by
  refine Eq.trans (rl_istore (j := 6) (ls' := [some (am_P (0, 0, 0)), some (am_P (3, 0, 0)), some (am_P (30, 0, 0)), some (am_P (1, 0, 0)), some (am_P (2, 0, 0)), some (am_I x5), some (am_I s0), x7, x8]) (by decide +kernel) rfl rfl) ?_
  refine Eq.trans (rl_aloadn (j := 2) (by decide +kernel) rfl) ?_
  refine Eq.trans (rl_aloadn (j := 0) (by decide +kernel) rfl) ?_
  refine Eq.trans (rl_iload (j := 5) (by decide +kernel) rfl) ?_
  refine Eq.trans (rl_iconst (c := 1) (k := (nI 1)) (by decide +kernel) (by decide)) ?_
  refine Eq.trans (rl_iadd (by decide +kernel)) ?_
  refine Eq.trans (rl_sald (by decide +kernel)) ?_
  refine am_ite (fun h_1 => ?_) (fun _ => rfl)
  refine Eq.trans (rl_inv (ix := 162) (n := 1) (o := 9) 155 [am_I (M (0, 0, 0) (x5 + (nI 1)).toNatClampNeg)] [] (by decide +kernel) (by decide +kernel) (by decide +kernel) (by decide +kernel) ⟨rfl, rfl⟩ rfl rfl ck30) ?_
  rfl
theorem b227_727 {x5 x6 s0 : Int32} {x7 x8 : Option am_V} {M : am_M} {w : am_W4}  : am_rn call 227 727 [some (am_P (0, 0, 0)), some (am_P (3, 0, 0)), some (am_P (30, 0, 0)), some (am_P (1, 0, 0)), some (am_P (2, 0, 0)), some (am_I x5), some (am_I x6), x7, x8] [am_I s0] M (am_Z w) = am_cb (call 114 [am_P (30, 0, 0)] M (am_Z w)) fun v M' X' => am_rn call 227 733 [some (am_P (0, 0, 0)), some (am_P (3, 0, 0)), some (am_P (30, 0, 0)), some (am_P (1, 0, 0)), some (am_P (2, 0, 0)), some (am_I x5), some (am_I x6), some (am_I s0), x8] (v.toList ++ []) M' X' := by
  refine Eq.trans (rl_istore (j := 7) (ls' := [some (am_P (0, 0, 0)), some (am_P (3, 0, 0)), some (am_P (30, 0, 0)), some (am_P (1, 0, 0)), some (am_P (2, 0, 0)), some (am_I x5), some (am_I x6), some (am_I s0), x8]) (by decide +kernel) rfl rfl) ?_
  refine Eq.trans (rl_aloadn (j := 2) (by decide +kernel) rfl) ?_
  refine Eq.trans (rl_inv (ix := 137) (n := 0) (o := 9) 114 [] [] (by decide +kernel) (by decide +kernel) (by decide +kernel) (by decide +kernel) ⟨rfl, rfl⟩ rfl rfl ck30) ?_
  rfl
theorem b227_733 {x5 x6 x7 s0 : Int32} {x8 : Option am_V} {M : am_M} {w : am_W4}  : am_rn call 227 733 [some (am_P (0, 0, 0)), some (am_P (3, 0, 0)), some (am_P (30, 0, 0)), some (am_P (1, 0, 0)), some (am_P (2, 0, 0)), some (am_I x5), some (am_I x6), some (am_I x7), x8] [am_I s0] M (am_Z w) = if s0 = x6 then if x6 = 0 then if (lg_cmp w.2.2.1 x7.toInt64) = 0 then am_rn call 227 757 [some (am_P (0, 0, 0)), some (am_P (3, 0, 0)), some (am_P (30, 0, 0)), some (am_P (1, 0, 0)), some (am_P (2, 0, 0)), some (am_I x5), some (am_I x6), some (am_I x7), x8] [] M (am_Z w) else some (.inl (some (am_I (nI 0))), M, (am_Z w)) else am_rn call 227 757 [some (am_P (0, 0, 0)), some (am_P (3, 0, 0)), some (am_P (30, 0, 0)), some (am_P (1, 0, 0)), some (am_P (2, 0, 0)), some (am_I x5), some (am_I x6), some (am_I x7), x8] [] M (am_Z w) else some (.inl (some (am_I (nI 0))), M, (am_Z w)) := by
  refine Eq.trans (rl_iload (j := 6) (by decide +kernel) rfl) ?_
  refine Eq.trans (rl_iceq (o := 5) 740 (by decide +kernel) (by decide)) ?_
  refine am_ite (fun h_1 => ?_) (fun h_1 => ?_)
  · skip
    refine Eq.trans (rl_iload (j := 6) (by decide +kernel) rfl) ?_
    refine Eq.trans (rl_ifne (o := 15) 757 (by decide +kernel) (by decide)) ?_
    refine am_ite (fun h_2 => ?_) (fun h_2 => ?_)
    · skip
      refine Eq.trans (rl_aloadn (j := 3) (by decide +kernel) rfl) ?_
      refine Eq.trans (rl_iconst (c := 0) (k := (nI 0)) (by decide +kernel) (by decide)) ?_
      refine Eq.trans (rl_lald (by decide +kernel)) ?_
      refine Eq.trans (rl_iload (j := 7) (by decide +kernel) rfl) ?_
      refine Eq.trans (rl_i2l (by decide +kernel)) ?_
      refine Eq.trans (rl_lcmp (by decide +kernel)) ?_
      refine Eq.trans (rl_ifeq (o := 5) 757 (by decide +kernel) (by decide)) ?_
      refine am_ite (fun h_3 => ?_) (fun h_3 => ?_)
      · skip
        rfl
      · skip
        refine Eq.trans (rl_iconst (c := 0) (k := (nI 0)) (by decide +kernel) (by decide)) ?_
        exact rl_zretk (by decide +kernel) rfl rfl
    · skip
      rfl
  · skip
    refine Eq.trans (rl_iconst (c := 0) (k := (nI 0)) (by decide +kernel) (by decide)) ?_
    exact rl_zretk (by decide +kernel) rfl rfl
theorem b227_757 {x5 x6 x7 : Int32} {x8 : Option am_V} {M : am_M} {w : am_W4}  : am_rn call 227 757 [some (am_P (0, 0, 0)), some (am_P (3, 0, 0)), some (am_P (30, 0, 0)), some (am_P (1, 0, 0)), some (am_P (2, 0, 0)), some (am_I x5), some (am_I x6), some (am_I x7), x8] [] M (am_Z w) = am_rn call 227 2276 [some (am_P (0, 0, 0)), some (am_P (3, 0, 0)), some (am_P (30, 0, 0)), some (am_P (1, 0, 0)), some (am_P (2, 0, 0)), some (am_I x5), some (am_I x6), some (am_I x7), x8] [] M (am_Z w) := by
  refine Eq.trans (rl_goto (o := 1519) 2276 (by decide +kernel) (by decide)) ?_
  rfl
theorem b227_760 {x5 : Int32} {x6 x7 x8 : Option am_V} {M : am_M} {w : am_W4}  : am_rn call 227 760 [some (am_P (0, 0, 0)), some (am_P (3, 0, 0)), some (am_P (30, 0, 0)), some (am_P (1, 0, 0)), some (am_P (2, 0, 0)), some (am_I x5), x6, x7, x8] [] M (am_Z w) = if am_in (x5 + (nI 1)) (M (0, 0, 1) 0).toNatClampNeg then if am_in (x5 + (nI 2)) (M (0, 0, 1) 0).toNatClampNeg then am_cb (call 203 [am_P (3, 0, 0), am_I (M (0, 0, 0) (x5 + (nI 1)).toNatClampNeg), am_I (M (0, 0, 0) (x5 + (nI 2)).toNatClampNeg), am_P (1, 0, 0)] M (am_Z w)) fun v M' X' => am_rn call 227 777 [some (am_P (0, 0, 0)), some (am_P (3, 0, 0)), some (am_P (30, 0, 0)), some (am_P (1, 0, 0)), some (am_P (2, 0, 0)), some (am_I x5), x6, x7, x8] (v.toList ++ []) M' X' else none else none := by
  refine Eq.trans (rl_aloadn (j := 1) (by decide +kernel) rfl) ?_
  refine Eq.trans (rl_aloadn (j := 0) (by decide +kernel) rfl) ?_
  refine Eq.trans (rl_iload (j := 5) (by decide +kernel) rfl) ?_
  refine Eq.trans (rl_iconst (c := 1) (k := (nI 1)) (by decide +kernel) (by decide)) ?_
  refine Eq.trans (rl_iadd (by decide +kernel)) ?_
  refine Eq.trans (rl_sald (by decide +kernel)) ?_
  refine am_ite (fun h_1 => ?_) (fun _ => rfl)
  refine Eq.trans (rl_aloadn (j := 0) (by decide +kernel) rfl) ?_
  refine Eq.trans (rl_iload (j := 5) (by decide +kernel) rfl) ?_
  refine Eq.trans (rl_iconst (c := 2) (k := (nI 2)) (by decide +kernel) (by decide)) ?_
  refine Eq.trans (rl_iadd (by decide +kernel)) ?_
  refine Eq.trans (rl_sald (by decide +kernel)) ?_
  refine am_ite (fun h_2 => ?_) (fun _ => rfl)
  refine Eq.trans (rl_aloadn (j := 3) (by decide +kernel) rfl) ?_
  refine Eq.trans (rl_invS (ix := 163) (n := 4) (k := 1) 203 [am_P (3, 0, 0), am_I (M (0, 0, 0) (x5 + (nI 1)).toNatClampNeg), am_I (M (0, 0, 0) (x5 + (nI 2)).toNatClampNeg), am_P (1, 0, 0)] [] (by decide +kernel) (by decide +kernel) (by decide) (by decide +kernel) ⟨rfl, rfl⟩ rfl rfl) ?_
  rfl
theorem b227_777 {x5 s0 : Int32} {x6 x7 x8 : Option am_V} {M : am_M} {w : am_W4}  : am_rn call 227 777 [some (am_P (0, 0, 0)), some (am_P (3, 0, 0)), some (am_P (30, 0, 0)), some (am_P (1, 0, 0)), some (am_P (2, 0, 0)), some (am_I x5), x6, x7, x8] [am_I s0] M (am_Z w) = if am_in (x5 + (nI 1)) (M (0, 0, 1) 0).toNatClampNeg then if am_in (x5 + (nI 2)) (M (0, 0, 1) 0).toNatClampNeg then am_cb (call 157 [am_P (30, 0, 0), am_I (M (0, 0, 0) (x5 + (nI 1)).toNatClampNeg), am_I (M (0, 0, 0) (x5 + (nI 2)).toNatClampNeg)] M (am_Z w)) fun v M' X' => am_rn call 227 795 [some (am_P (0, 0, 0)), some (am_P (3, 0, 0)), some (am_P (30, 0, 0)), some (am_P (1, 0, 0)), some (am_P (2, 0, 0)), some (am_I x5), some (am_I s0), x7, x8] (v.toList ++ []) M' X' else none else none := by
  refine Eq.trans (rl_istore (j := 6) (ls' := [some (am_P (0, 0, 0)), some (am_P (3, 0, 0)), some (am_P (30, 0, 0)), some (am_P (1, 0, 0)), some (am_P (2, 0, 0)), some (am_I x5), some (am_I s0), x7, x8]) (by decide +kernel) rfl rfl) ?_
  refine Eq.trans (rl_aloadn (j := 2) (by decide +kernel) rfl) ?_
  refine Eq.trans (rl_aloadn (j := 0) (by decide +kernel) rfl) ?_
  refine Eq.trans (rl_iload (j := 5) (by decide +kernel) rfl) ?_
  refine Eq.trans (rl_iconst (c := 1) (k := (nI 1)) (by decide +kernel) (by decide)) ?_
  refine Eq.trans (rl_iadd (by decide +kernel)) ?_
  refine Eq.trans (rl_sald (by decide +kernel)) ?_
  refine am_ite (fun h_1 => ?_) (fun _ => rfl)
  refine Eq.trans (rl_aloadn (j := 0) (by decide +kernel) rfl) ?_
  refine Eq.trans (rl_iload (j := 5) (by decide +kernel) rfl) ?_
  refine Eq.trans (rl_iconst (c := 2) (k := (nI 2)) (by decide +kernel) (by decide)) ?_
  refine Eq.trans (rl_iadd (by decide +kernel)) ?_
  refine Eq.trans (rl_sald (by decide +kernel)) ?_
  refine am_ite (fun h_2 => ?_) (fun _ => rfl)
  refine Eq.trans (rl_inv (ix := 165) (n := 2) (o := 9) 157 [am_I (M (0, 0, 0) (x5 + (nI 1)).toNatClampNeg), am_I (M (0, 0, 0) (x5 + (nI 2)).toNatClampNeg)] [] (by decide +kernel) (by decide +kernel) (by decide +kernel) (by decide +kernel) ⟨rfl, rfl⟩ rfl rfl ck30) ?_
  rfl
theorem b227_795 {x5 x6 s0 : Int32} {x7 x8 : Option am_V} {M : am_M} {w : am_W4}  : am_rn call 227 795 [some (am_P (0, 0, 0)), some (am_P (3, 0, 0)), some (am_P (30, 0, 0)), some (am_P (1, 0, 0)), some (am_P (2, 0, 0)), some (am_I x5), some (am_I x6), x7, x8] [am_I s0] M (am_Z w) = am_cb (call 114 [am_P (30, 0, 0)] M (am_Z w)) fun v M' X' => am_rn call 227 801 [some (am_P (0, 0, 0)), some (am_P (3, 0, 0)), some (am_P (30, 0, 0)), some (am_P (1, 0, 0)), some (am_P (2, 0, 0)), some (am_I x5), some (am_I x6), some (am_I s0), x8] (v.toList ++ []) M' X' := by
  refine Eq.trans (rl_istore (j := 7) (ls' := [some (am_P (0, 0, 0)), some (am_P (3, 0, 0)), some (am_P (30, 0, 0)), some (am_P (1, 0, 0)), some (am_P (2, 0, 0)), some (am_I x5), some (am_I x6), some (am_I s0), x8]) (by decide +kernel) rfl rfl) ?_
  refine Eq.trans (rl_aloadn (j := 2) (by decide +kernel) rfl) ?_
  refine Eq.trans (rl_inv (ix := 137) (n := 0) (o := 9) 114 [] [] (by decide +kernel) (by decide +kernel) (by decide +kernel) (by decide +kernel) ⟨rfl, rfl⟩ rfl rfl ck30) ?_
  rfl
theorem b227_801 {x5 x6 x7 s0 : Int32} {x8 : Option am_V} {M : am_M} {w : am_W4}  : am_rn call 227 801 [some (am_P (0, 0, 0)), some (am_P (3, 0, 0)), some (am_P (30, 0, 0)), some (am_P (1, 0, 0)), some (am_P (2, 0, 0)), some (am_I x5), some (am_I x6), some (am_I x7), x8] [am_I s0] M (am_Z w) = if s0 = x6 then if x6 = 0 then if (lg_cmp w.2.2.1 x7.toInt64) = 0 then am_rn call 227 825 [some (am_P (0, 0, 0)), some (am_P (3, 0, 0)), some (am_P (30, 0, 0)), some (am_P (1, 0, 0)), some (am_P (2, 0, 0)), some (am_I x5), some (am_I x6), some (am_I x7), x8] [] M (am_Z w) else some (.inl (some (am_I (nI 0))), M, (am_Z w)) else am_rn call 227 825 [some (am_P (0, 0, 0)), some (am_P (3, 0, 0)), some (am_P (30, 0, 0)), some (am_P (1, 0, 0)), some (am_P (2, 0, 0)), some (am_I x5), some (am_I x6), some (am_I x7), x8] [] M (am_Z w) else some (.inl (some (am_I (nI 0))), M, (am_Z w)) := by
  refine Eq.trans (rl_iload (j := 6) (by decide +kernel) rfl) ?_
  refine Eq.trans (rl_iceq (o := 5) 808 (by decide +kernel) (by decide)) ?_
  refine am_ite (fun h_1 => ?_) (fun h_1 => ?_)
  · skip
    refine Eq.trans (rl_iload (j := 6) (by decide +kernel) rfl) ?_
    refine Eq.trans (rl_ifne (o := 15) 825 (by decide +kernel) (by decide)) ?_
    refine am_ite (fun h_2 => ?_) (fun h_2 => ?_)
    · skip
      refine Eq.trans (rl_aloadn (j := 3) (by decide +kernel) rfl) ?_
      refine Eq.trans (rl_iconst (c := 0) (k := (nI 0)) (by decide +kernel) (by decide)) ?_
      refine Eq.trans (rl_lald (by decide +kernel)) ?_
      refine Eq.trans (rl_iload (j := 7) (by decide +kernel) rfl) ?_
      refine Eq.trans (rl_i2l (by decide +kernel)) ?_
      refine Eq.trans (rl_lcmp (by decide +kernel)) ?_
      refine Eq.trans (rl_ifeq (o := 5) 825 (by decide +kernel) (by decide)) ?_
      refine am_ite (fun h_3 => ?_) (fun h_3 => ?_)
      · skip
        rfl
      · skip
        refine Eq.trans (rl_iconst (c := 0) (k := (nI 0)) (by decide +kernel) (by decide)) ?_
        exact rl_zretk (by decide +kernel) rfl rfl
    · skip
      rfl
  · skip
    refine Eq.trans (rl_iconst (c := 0) (k := (nI 0)) (by decide +kernel) (by decide)) ?_
    exact rl_zretk (by decide +kernel) rfl rfl
theorem b227_825 {x5 x6 x7 : Int32} {x8 : Option am_V} {M : am_M} {w : am_W4}  : am_rn call 227 825 [some (am_P (0, 0, 0)), some (am_P (3, 0, 0)), some (am_P (30, 0, 0)), some (am_P (1, 0, 0)), some (am_P (2, 0, 0)), some (am_I x5), some (am_I x6), some (am_I x7), x8] [] M (am_Z w) = am_rn call 227 2276 [some (am_P (0, 0, 0)), some (am_P (3, 0, 0)), some (am_P (30, 0, 0)), some (am_P (1, 0, 0)), some (am_P (2, 0, 0)), some (am_I x5), some (am_I x6), some (am_I x7), x8] [] M (am_Z w) := by
  refine Eq.trans (rl_goto (o := 1451) 2276 (by decide +kernel) (by decide)) ?_
  rfl
theorem b227_828 {x5 : Int32} {x6 x7 x8 : Option am_V} {M : am_M} {w : am_W4}  : am_rn call 227 828 [some (am_P (0, 0, 0)), some (am_P (3, 0, 0)), some (am_P (30, 0, 0)), some (am_P (1, 0, 0)), some (am_P (2, 0, 0)), some (am_I x5), x6, x7, x8] [] M (am_Z w) = if am_in (x5 + (nI 1)) (M (0, 0, 1) 0).toNatClampNeg then if am_in (x5 + (nI 2)) (M (0, 0, 1) 0).toNatClampNeg then am_cb (call 204 [am_P (3, 0, 0), am_I (M (0, 0, 0) (x5 + (nI 1)).toNatClampNeg), am_I (M (0, 0, 0) (x5 + (nI 2)).toNatClampNeg), am_P (1, 0, 0)] M (am_Z w)) fun v M' X' => am_rn call 227 845 [some (am_P (0, 0, 0)), some (am_P (3, 0, 0)), some (am_P (30, 0, 0)), some (am_P (1, 0, 0)), some (am_P (2, 0, 0)), some (am_I x5), x6, x7, x8] (v.toList ++ []) M' X' else none else none := by
  refine Eq.trans (rl_aloadn (j := 1) (by decide +kernel) rfl) ?_
  refine Eq.trans (rl_aloadn (j := 0) (by decide +kernel) rfl) ?_
  refine Eq.trans (rl_iload (j := 5) (by decide +kernel) rfl) ?_
  refine Eq.trans (rl_iconst (c := 1) (k := (nI 1)) (by decide +kernel) (by decide)) ?_
  refine Eq.trans (rl_iadd (by decide +kernel)) ?_
  refine Eq.trans (rl_sald (by decide +kernel)) ?_
  refine am_ite (fun h_1 => ?_) (fun _ => rfl)
  refine Eq.trans (rl_aloadn (j := 0) (by decide +kernel) rfl) ?_
  refine Eq.trans (rl_iload (j := 5) (by decide +kernel) rfl) ?_
  refine Eq.trans (rl_iconst (c := 2) (k := (nI 2)) (by decide +kernel) (by decide)) ?_
  refine Eq.trans (rl_iadd (by decide +kernel)) ?_
  refine Eq.trans (rl_sald (by decide +kernel)) ?_
  refine am_ite (fun h_2 => ?_) (fun _ => rfl)
  refine Eq.trans (rl_aloadn (j := 3) (by decide +kernel) rfl) ?_
  refine Eq.trans (rl_invS (ix := 166) (n := 4) (k := 1) 204 [am_P (3, 0, 0), am_I (M (0, 0, 0) (x5 + (nI 1)).toNatClampNeg), am_I (M (0, 0, 0) (x5 + (nI 2)).toNatClampNeg), am_P (1, 0, 0)] [] (by decide +kernel) (by decide +kernel) (by decide) (by decide +kernel) ⟨rfl, rfl⟩ rfl rfl) ?_
  rfl
theorem b227_845 {x5 s0 : Int32} {x6 x7 x8 : Option am_V} {M : am_M} {w : am_W4}  : am_rn call 227 845 [some (am_P (0, 0, 0)), some (am_P (3, 0, 0)), some (am_P (30, 0, 0)), some (am_P (1, 0, 0)), some (am_P (2, 0, 0)), some (am_I x5), x6, x7, x8] [am_I s0] M (am_Z w) = if am_in (x5 + (nI 1)) (M (0, 0, 1) 0).toNatClampNeg then if am_in (x5 + (nI 2)) (M (0, 0, 1) 0).toNatClampNeg then am_cb (call 158 [am_P (30, 0, 0), am_I (M (0, 0, 0) (x5 + (nI 1)).toNatClampNeg), am_I (M (0, 0, 0) (x5 + (nI 2)).toNatClampNeg)] M (am_Z w)) fun v M' X' => am_rn call 227 863 [some (am_P (0, 0, 0)), some (am_P (3, 0, 0)), some (am_P (30, 0, 0)), some (am_P (1, 0, 0)), some (am_P (2, 0, 0)), some (am_I x5), some (am_I s0), x7, x8] (v.toList ++ []) M' X' else none else none := by
  refine Eq.trans (rl_istore (j := 6) (ls' := [some (am_P (0, 0, 0)), some (am_P (3, 0, 0)), some (am_P (30, 0, 0)), some (am_P (1, 0, 0)), some (am_P (2, 0, 0)), some (am_I x5), some (am_I s0), x7, x8]) (by decide +kernel) rfl rfl) ?_
  refine Eq.trans (rl_aloadn (j := 2) (by decide +kernel) rfl) ?_
  refine Eq.trans (rl_aloadn (j := 0) (by decide +kernel) rfl) ?_
  refine Eq.trans (rl_iload (j := 5) (by decide +kernel) rfl) ?_
  refine Eq.trans (rl_iconst (c := 1) (k := (nI 1)) (by decide +kernel) (by decide)) ?_
  refine Eq.trans (rl_iadd (by decide +kernel)) ?_
  refine Eq.trans (rl_sald (by decide +kernel)) ?_
  refine am_ite (fun h_1 => ?_) (fun _ => rfl)
  refine Eq.trans (rl_aloadn (j := 0) (by decide +kernel) rfl) ?_
  refine Eq.trans (rl_iload (j := 5) (by decide +kernel) rfl) ?_
  refine Eq.trans (rl_iconst (c := 2) (k := (nI 2)) (by decide +kernel) (by decide)) ?_
  refine Eq.trans (rl_iadd (by decide +kernel)) ?_
  refine Eq.trans (rl_sald (by decide +kernel)) ?_
  refine am_ite (fun h_2 => ?_) (fun _ => rfl)
  refine Eq.trans (rl_inv (ix := 168) (n := 2) (o := 9) 158 [am_I (M (0, 0, 0) (x5 + (nI 1)).toNatClampNeg), am_I (M (0, 0, 0) (x5 + (nI 2)).toNatClampNeg)] [] (by decide +kernel) (by decide +kernel) (by decide +kernel) (by decide +kernel) ⟨rfl, rfl⟩ rfl rfl ck30) ?_
  rfl
theorem b227_863 {x5 x6 s0 : Int32} {x7 x8 : Option am_V} {M : am_M} {w : am_W4}  : am_rn call 227 863 [some (am_P (0, 0, 0)), some (am_P (3, 0, 0)), some (am_P (30, 0, 0)), some (am_P (1, 0, 0)), some (am_P (2, 0, 0)), some (am_I x5), some (am_I x6), x7, x8] [am_I s0] M (am_Z w) = am_cb (call 114 [am_P (30, 0, 0)] M (am_Z w)) fun v M' X' => am_rn call 227 869 [some (am_P (0, 0, 0)), some (am_P (3, 0, 0)), some (am_P (30, 0, 0)), some (am_P (1, 0, 0)), some (am_P (2, 0, 0)), some (am_I x5), some (am_I x6), some (am_I s0), x8] (v.toList ++ []) M' X' := by
  refine Eq.trans (rl_istore (j := 7) (ls' := [some (am_P (0, 0, 0)), some (am_P (3, 0, 0)), some (am_P (30, 0, 0)), some (am_P (1, 0, 0)), some (am_P (2, 0, 0)), some (am_I x5), some (am_I x6), some (am_I s0), x8]) (by decide +kernel) rfl rfl) ?_
  refine Eq.trans (rl_aloadn (j := 2) (by decide +kernel) rfl) ?_
  refine Eq.trans (rl_inv (ix := 137) (n := 0) (o := 9) 114 [] [] (by decide +kernel) (by decide +kernel) (by decide +kernel) (by decide +kernel) ⟨rfl, rfl⟩ rfl rfl ck30) ?_
  rfl
theorem b227_869 {x5 x6 x7 s0 : Int32} {x8 : Option am_V} {M : am_M} {w : am_W4}  : am_rn call 227 869 [some (am_P (0, 0, 0)), some (am_P (3, 0, 0)), some (am_P (30, 0, 0)), some (am_P (1, 0, 0)), some (am_P (2, 0, 0)), some (am_I x5), some (am_I x6), some (am_I x7), x8] [am_I s0] M (am_Z w) = if s0 = x6 then if x6 = 0 then if (lg_cmp w.2.2.1 x7.toInt64) = 0 then am_rn call 227 893 [some (am_P (0, 0, 0)), some (am_P (3, 0, 0)), some (am_P (30, 0, 0)), some (am_P (1, 0, 0)), some (am_P (2, 0, 0)), some (am_I x5), some (am_I x6), some (am_I x7), x8] [] M (am_Z w) else some (.inl (some (am_I (nI 0))), M, (am_Z w)) else am_rn call 227 893 [some (am_P (0, 0, 0)), some (am_P (3, 0, 0)), some (am_P (30, 0, 0)), some (am_P (1, 0, 0)), some (am_P (2, 0, 0)), some (am_I x5), some (am_I x6), some (am_I x7), x8] [] M (am_Z w) else some (.inl (some (am_I (nI 0))), M, (am_Z w)) := by
  refine Eq.trans (rl_iload (j := 6) (by decide +kernel) rfl) ?_
  refine Eq.trans (rl_iceq (o := 5) 876 (by decide +kernel) (by decide)) ?_
  refine am_ite (fun h_1 => ?_) (fun h_1 => ?_)
  · skip
    refine Eq.trans (rl_iload (j := 6) (by decide +kernel) rfl) ?_
    refine Eq.trans (rl_ifne (o := 15) 893 (by decide +kernel) (by decide)) ?_
    refine am_ite (fun h_2 => ?_) (fun h_2 => ?_)
    · skip
      refine Eq.trans (rl_aloadn (j := 3) (by decide +kernel) rfl) ?_
      refine Eq.trans (rl_iconst (c := 0) (k := (nI 0)) (by decide +kernel) (by decide)) ?_
      refine Eq.trans (rl_lald (by decide +kernel)) ?_
      refine Eq.trans (rl_iload (j := 7) (by decide +kernel) rfl) ?_
      refine Eq.trans (rl_i2l (by decide +kernel)) ?_
      refine Eq.trans (rl_lcmp (by decide +kernel)) ?_
      refine Eq.trans (rl_ifeq (o := 5) 893 (by decide +kernel) (by decide)) ?_
      refine am_ite (fun h_3 => ?_) (fun h_3 => ?_)
      · skip
        rfl
      · skip
        refine Eq.trans (rl_iconst (c := 0) (k := (nI 0)) (by decide +kernel) (by decide)) ?_
        exact rl_zretk (by decide +kernel) rfl rfl
    · skip
      rfl
  · skip
    refine Eq.trans (rl_iconst (c := 0) (k := (nI 0)) (by decide +kernel) (by decide)) ?_
    exact rl_zretk (by decide +kernel) rfl rfl
theorem b227_893 {x5 x6 x7 : Int32} {x8 : Option am_V} {M : am_M} {w : am_W4}  : am_rn call 227 893 [some (am_P (0, 0, 0)), some (am_P (3, 0, 0)), some (am_P (30, 0, 0)), some (am_P (1, 0, 0)), some (am_P (2, 0, 0)), some (am_I x5), some (am_I x6), some (am_I x7), x8] [] M (am_Z w) = am_rn call 227 2276 [some (am_P (0, 0, 0)), some (am_P (3, 0, 0)), some (am_P (30, 0, 0)), some (am_P (1, 0, 0)), some (am_P (2, 0, 0)), some (am_I x5), some (am_I x6), some (am_I x7), x8] [] M (am_Z w) := by
  refine Eq.trans (rl_goto (o := 1383) 2276 (by decide +kernel) (by decide)) ?_
  rfl
theorem b227_896 {x5 : Int32} {x6 x7 x8 : Option am_V} {M : am_M} {w : am_W4}  : am_rn call 227 896 [some (am_P (0, 0, 0)), some (am_P (3, 0, 0)), some (am_P (30, 0, 0)), some (am_P (1, 0, 0)), some (am_P (2, 0, 0)), some (am_I x5), x6, x7, x8] [] M (am_Z w) = if am_in (x5 + (nI 1)) (M (0, 0, 1) 0).toNatClampNeg then am_cb (call 205 [am_P (3, 0, 0), am_I (M (0, 0, 0) (x5 + (nI 1)).toNatClampNeg), am_P (1, 0, 0)] M (am_Z w)) fun v M' X' => am_rn call 227 907 [some (am_P (0, 0, 0)), some (am_P (3, 0, 0)), some (am_P (30, 0, 0)), some (am_P (1, 0, 0)), some (am_P (2, 0, 0)), some (am_I x5), x6, x7, x8] (v.toList ++ []) M' X' else none := by
  refine Eq.trans (rl_aloadn (j := 1) (by decide +kernel) rfl) ?_
  refine Eq.trans (rl_aloadn (j := 0) (by decide +kernel) rfl) ?_
  refine Eq.trans (rl_iload (j := 5) (by decide +kernel) rfl) ?_
  refine Eq.trans (rl_iconst (c := 1) (k := (nI 1)) (by decide +kernel) (by decide)) ?_
  refine Eq.trans (rl_iadd (by decide +kernel)) ?_
  refine Eq.trans (rl_sald (by decide +kernel)) ?_
  refine am_ite (fun h_1 => ?_) (fun _ => rfl)
  refine Eq.trans (rl_aloadn (j := 3) (by decide +kernel) rfl) ?_
  refine Eq.trans (rl_invS (ix := 169) (n := 3) (k := 1) 205 [am_P (3, 0, 0), am_I (M (0, 0, 0) (x5 + (nI 1)).toNatClampNeg), am_P (1, 0, 0)] [] (by decide +kernel) (by decide +kernel) (by decide) (by decide +kernel) ⟨rfl, rfl⟩ rfl rfl) ?_
  rfl
theorem b227_907 {x5 s0 : Int32} {x6 x7 x8 : Option am_V} {M : am_M} {w : am_W4}  : am_rn call 227 907 [some (am_P (0, 0, 0)), some (am_P (3, 0, 0)), some (am_P (30, 0, 0)), some (am_P (1, 0, 0)), some (am_P (2, 0, 0)), some (am_I x5), x6, x7, x8] [am_I s0] M (am_Z w) = if am_in (x5 + (nI 1)) (M (0, 0, 1) 0).toNatClampNeg then am_cb (call 159 [am_P (30, 0, 0), am_I (M (0, 0, 0) (x5 + (nI 1)).toNatClampNeg)] M (am_Z w)) fun v M' X' => am_rn call 227 919 [some (am_P (0, 0, 0)), some (am_P (3, 0, 0)), some (am_P (30, 0, 0)), some (am_P (1, 0, 0)), some (am_P (2, 0, 0)), some (am_I x5), some (am_I s0), x7, x8] (v.toList ++ []) M' X' else none := by
  refine Eq.trans (rl_istore (j := 6) (ls' := [some (am_P (0, 0, 0)), some (am_P (3, 0, 0)), some (am_P (30, 0, 0)), some (am_P (1, 0, 0)), some (am_P (2, 0, 0)), some (am_I x5), some (am_I s0), x7, x8]) (by decide +kernel) rfl rfl) ?_
  refine Eq.trans (rl_aloadn (j := 2) (by decide +kernel) rfl) ?_
  refine Eq.trans (rl_aloadn (j := 0) (by decide +kernel) rfl) ?_
  refine Eq.trans (rl_iload (j := 5) (by decide +kernel) rfl) ?_
  refine Eq.trans (rl_iconst (c := 1) (k := (nI 1)) (by decide +kernel) (by decide)) ?_
  refine Eq.trans (rl_iadd (by decide +kernel)) ?_
  refine Eq.trans (rl_sald (by decide +kernel)) ?_
  refine am_ite (fun h_1 => ?_) (fun _ => rfl)
  refine Eq.trans (rl_inv (ix := 171) (n := 1) (o := 9) 159 [am_I (M (0, 0, 0) (x5 + (nI 1)).toNatClampNeg)] [] (by decide +kernel) (by decide +kernel) (by decide +kernel) (by decide +kernel) ⟨rfl, rfl⟩ rfl rfl ck30) ?_
  rfl
theorem b227_919 {x5 x6 s0 : Int32} {x7 x8 : Option am_V} {M : am_M} {w : am_W4}  : am_rn call 227 919 [some (am_P (0, 0, 0)), some (am_P (3, 0, 0)), some (am_P (30, 0, 0)), some (am_P (1, 0, 0)), some (am_P (2, 0, 0)), some (am_I x5), some (am_I x6), x7, x8] [am_I s0] M (am_Z w) = am_cb (call 114 [am_P (30, 0, 0)] M (am_Z w)) fun v M' X' => am_rn call 227 925 [some (am_P (0, 0, 0)), some (am_P (3, 0, 0)), some (am_P (30, 0, 0)), some (am_P (1, 0, 0)), some (am_P (2, 0, 0)), some (am_I x5), some (am_I x6), some (am_I s0), x8] (v.toList ++ []) M' X' := by
  refine Eq.trans (rl_istore (j := 7) (ls' := [some (am_P (0, 0, 0)), some (am_P (3, 0, 0)), some (am_P (30, 0, 0)), some (am_P (1, 0, 0)), some (am_P (2, 0, 0)), some (am_I x5), some (am_I x6), some (am_I s0), x8]) (by decide +kernel) rfl rfl) ?_
  refine Eq.trans (rl_aloadn (j := 2) (by decide +kernel) rfl) ?_
  refine Eq.trans (rl_inv (ix := 137) (n := 0) (o := 9) 114 [] [] (by decide +kernel) (by decide +kernel) (by decide +kernel) (by decide +kernel) ⟨rfl, rfl⟩ rfl rfl ck30) ?_
  rfl
theorem b227_925 {x5 x6 x7 s0 : Int32} {x8 : Option am_V} {M : am_M} {w : am_W4}  : am_rn call 227 925 [some (am_P (0, 0, 0)), some (am_P (3, 0, 0)), some (am_P (30, 0, 0)), some (am_P (1, 0, 0)), some (am_P (2, 0, 0)), some (am_I x5), some (am_I x6), some (am_I x7), x8] [am_I s0] M (am_Z w) = if s0 = x6 then if x6 = 0 then if (lg_cmp w.2.2.1 x7.toInt64) = 0 then am_rn call 227 949 [some (am_P (0, 0, 0)), some (am_P (3, 0, 0)), some (am_P (30, 0, 0)), some (am_P (1, 0, 0)), some (am_P (2, 0, 0)), some (am_I x5), some (am_I x6), some (am_I x7), x8] [] M (am_Z w) else some (.inl (some (am_I (nI 0))), M, (am_Z w)) else am_rn call 227 949 [some (am_P (0, 0, 0)), some (am_P (3, 0, 0)), some (am_P (30, 0, 0)), some (am_P (1, 0, 0)), some (am_P (2, 0, 0)), some (am_I x5), some (am_I x6), some (am_I x7), x8] [] M (am_Z w) else some (.inl (some (am_I (nI 0))), M, (am_Z w)) := by
  refine Eq.trans (rl_iload (j := 6) (by decide +kernel) rfl) ?_
  refine Eq.trans (rl_iceq (o := 5) 932 (by decide +kernel) (by decide)) ?_
  refine am_ite (fun h_1 => ?_) (fun h_1 => ?_)
  · skip
    refine Eq.trans (rl_iload (j := 6) (by decide +kernel) rfl) ?_
    refine Eq.trans (rl_ifne (o := 15) 949 (by decide +kernel) (by decide)) ?_
    refine am_ite (fun h_2 => ?_) (fun h_2 => ?_)
    · skip
      refine Eq.trans (rl_aloadn (j := 3) (by decide +kernel) rfl) ?_
      refine Eq.trans (rl_iconst (c := 0) (k := (nI 0)) (by decide +kernel) (by decide)) ?_
      refine Eq.trans (rl_lald (by decide +kernel)) ?_
      refine Eq.trans (rl_iload (j := 7) (by decide +kernel) rfl) ?_
      refine Eq.trans (rl_i2l (by decide +kernel)) ?_
      refine Eq.trans (rl_lcmp (by decide +kernel)) ?_
      refine Eq.trans (rl_ifeq (o := 5) 949 (by decide +kernel) (by decide)) ?_
      refine am_ite (fun h_3 => ?_) (fun h_3 => ?_)
      · skip
        rfl
      · skip
        refine Eq.trans (rl_iconst (c := 0) (k := (nI 0)) (by decide +kernel) (by decide)) ?_
        exact rl_zretk (by decide +kernel) rfl rfl
    · skip
      rfl
  · skip
    refine Eq.trans (rl_iconst (c := 0) (k := (nI 0)) (by decide +kernel) (by decide)) ?_
    exact rl_zretk (by decide +kernel) rfl rfl
theorem b227_949 {x5 x6 x7 : Int32} {x8 : Option am_V} {M : am_M} {w : am_W4}  : am_rn call 227 949 [some (am_P (0, 0, 0)), some (am_P (3, 0, 0)), some (am_P (30, 0, 0)), some (am_P (1, 0, 0)), some (am_P (2, 0, 0)), some (am_I x5), some (am_I x6), some (am_I x7), x8] [] M (am_Z w) = am_rn call 227 2276 [some (am_P (0, 0, 0)), some (am_P (3, 0, 0)), some (am_P (30, 0, 0)), some (am_P (1, 0, 0)), some (am_P (2, 0, 0)), some (am_I x5), some (am_I x6), some (am_I x7), x8] [] M (am_Z w) := by
  refine Eq.trans (rl_goto (o := 1327) 2276 (by decide +kernel) (by decide)) ?_
  rfl
theorem b227_952 {x5 : Int32} {x6 x7 x8 : Option am_V} {M : am_M} {w : am_W4}  : am_rn call 227 952 [some (am_P (0, 0, 0)), some (am_P (3, 0, 0)), some (am_P (30, 0, 0)), some (am_P (1, 0, 0)), some (am_P (2, 0, 0)), some (am_I x5), x6, x7, x8] [] M (am_Z w) = if am_in (x5 + (nI 1)) (M (0, 0, 1) 0).toNatClampNeg then if am_in (x5 + (nI 2)) (M (0, 0, 1) 0).toNatClampNeg then am_cb (call 206 [am_P (3, 0, 0), am_I (M (0, 0, 0) (x5 + (nI 1)).toNatClampNeg), am_I (M (0, 0, 0) (x5 + (nI 2)).toNatClampNeg), am_P (1, 0, 0)] M (am_Z w)) fun v M' X' => am_rn call 227 969 [some (am_P (0, 0, 0)), some (am_P (3, 0, 0)), some (am_P (30, 0, 0)), some (am_P (1, 0, 0)), some (am_P (2, 0, 0)), some (am_I x5), x6, x7, x8] (v.toList ++ []) M' X' else none else none := by
  refine Eq.trans (rl_aloadn (j := 1) (by decide +kernel) rfl) ?_
  refine Eq.trans (rl_aloadn (j := 0) (by decide +kernel) rfl) ?_
  refine Eq.trans (rl_iload (j := 5) (by decide +kernel) rfl) ?_
  refine Eq.trans (rl_iconst (c := 1) (k := (nI 1)) (by decide +kernel) (by decide)) ?_
  refine Eq.trans (rl_iadd (by decide +kernel)) ?_
  refine Eq.trans (rl_sald (by decide +kernel)) ?_
  refine am_ite (fun h_1 => ?_) (fun _ => rfl)
  refine Eq.trans (rl_aloadn (j := 0) (by decide +kernel) rfl) ?_
  refine Eq.trans (rl_iload (j := 5) (by decide +kernel) rfl) ?_
  refine Eq.trans (rl_iconst (c := 2) (k := (nI 2)) (by decide +kernel) (by decide)) ?_
  refine Eq.trans (rl_iadd (by decide +kernel)) ?_
  refine Eq.trans (rl_sald (by decide +kernel)) ?_
  refine am_ite (fun h_2 => ?_) (fun _ => rfl)
  refine Eq.trans (rl_aloadn (j := 3) (by decide +kernel) rfl) ?_
  refine Eq.trans (rl_invS (ix := 172) (n := 4) (k := 1) 206 [am_P (3, 0, 0), am_I (M (0, 0, 0) (x5 + (nI 1)).toNatClampNeg), am_I (M (0, 0, 0) (x5 + (nI 2)).toNatClampNeg), am_P (1, 0, 0)] [] (by decide +kernel) (by decide +kernel) (by decide) (by decide +kernel) ⟨rfl, rfl⟩ rfl rfl) ?_
  rfl
theorem b227_969 {x5 s0 : Int32} {x6 x7 x8 : Option am_V} {M : am_M} {w : am_W4}  : am_rn call 227 969 [some (am_P (0, 0, 0)), some (am_P (3, 0, 0)), some (am_P (30, 0, 0)), some (am_P (1, 0, 0)), some (am_P (2, 0, 0)), some (am_I x5), x6, x7, x8] [am_I s0] M (am_Z w) = if am_in (x5 + (nI 1)) (M (0, 0, 1) 0).toNatClampNeg then if am_in (x5 + (nI 2)) (M (0, 0, 1) 0).toNatClampNeg then am_cb (call 160 [am_P (30, 0, 0), am_I (M (0, 0, 0) (x5 + (nI 1)).toNatClampNeg), am_I (M (0, 0, 0) (x5 + (nI 2)).toNatClampNeg)] M (am_Z w)) fun v M' X' => am_rn call 227 987 [some (am_P (0, 0, 0)), some (am_P (3, 0, 0)), some (am_P (30, 0, 0)), some (am_P (1, 0, 0)), some (am_P (2, 0, 0)), some (am_I x5), some (am_I s0), x7, x8] (v.toList ++ []) M' X' else none else none := by
  refine Eq.trans (rl_istore (j := 6) (ls' := [some (am_P (0, 0, 0)), some (am_P (3, 0, 0)), some (am_P (30, 0, 0)), some (am_P (1, 0, 0)), some (am_P (2, 0, 0)), some (am_I x5), some (am_I s0), x7, x8]) (by decide +kernel) rfl rfl) ?_
  refine Eq.trans (rl_aloadn (j := 2) (by decide +kernel) rfl) ?_
  refine Eq.trans (rl_aloadn (j := 0) (by decide +kernel) rfl) ?_
  refine Eq.trans (rl_iload (j := 5) (by decide +kernel) rfl) ?_
  refine Eq.trans (rl_iconst (c := 1) (k := (nI 1)) (by decide +kernel) (by decide)) ?_
  refine Eq.trans (rl_iadd (by decide +kernel)) ?_
  refine Eq.trans (rl_sald (by decide +kernel)) ?_
  refine am_ite (fun h_1 => ?_) (fun _ => rfl)
  refine Eq.trans (rl_aloadn (j := 0) (by decide +kernel) rfl) ?_
  refine Eq.trans (rl_iload (j := 5) (by decide +kernel) rfl) ?_
  refine Eq.trans (rl_iconst (c := 2) (k := (nI 2)) (by decide +kernel) (by decide)) ?_
  refine Eq.trans (rl_iadd (by decide +kernel)) ?_
  refine Eq.trans (rl_sald (by decide +kernel)) ?_
  refine am_ite (fun h_2 => ?_) (fun _ => rfl)
  refine Eq.trans (rl_inv (ix := 174) (n := 2) (o := 9) 160 [am_I (M (0, 0, 0) (x5 + (nI 1)).toNatClampNeg), am_I (M (0, 0, 0) (x5 + (nI 2)).toNatClampNeg)] [] (by decide +kernel) (by decide +kernel) (by decide +kernel) (by decide +kernel) ⟨rfl, rfl⟩ rfl rfl ck30) ?_
  rfl
theorem b227_987 {x5 x6 s0 : Int32} {x7 x8 : Option am_V} {M : am_M} {w : am_W4}  : am_rn call 227 987 [some (am_P (0, 0, 0)), some (am_P (3, 0, 0)), some (am_P (30, 0, 0)), some (am_P (1, 0, 0)), some (am_P (2, 0, 0)), some (am_I x5), some (am_I x6), x7, x8] [am_I s0] M (am_Z w) = am_cb (call 114 [am_P (30, 0, 0)] M (am_Z w)) fun v M' X' => am_rn call 227 993 [some (am_P (0, 0, 0)), some (am_P (3, 0, 0)), some (am_P (30, 0, 0)), some (am_P (1, 0, 0)), some (am_P (2, 0, 0)), some (am_I x5), some (am_I x6), some (am_I s0), x8] (v.toList ++ []) M' X' := by
  refine Eq.trans (rl_istore (j := 7) (ls' := [some (am_P (0, 0, 0)), some (am_P (3, 0, 0)), some (am_P (30, 0, 0)), some (am_P (1, 0, 0)), some (am_P (2, 0, 0)), some (am_I x5), some (am_I x6), some (am_I s0), x8]) (by decide +kernel) rfl rfl) ?_
  refine Eq.trans (rl_aloadn (j := 2) (by decide +kernel) rfl) ?_
  refine Eq.trans (rl_inv (ix := 137) (n := 0) (o := 9) 114 [] [] (by decide +kernel) (by decide +kernel) (by decide +kernel) (by decide +kernel) ⟨rfl, rfl⟩ rfl rfl ck30) ?_
  rfl
theorem b227_993 {x5 x6 x7 s0 : Int32} {x8 : Option am_V} {M : am_M} {w : am_W4}  : am_rn call 227 993 [some (am_P (0, 0, 0)), some (am_P (3, 0, 0)), some (am_P (30, 0, 0)), some (am_P (1, 0, 0)), some (am_P (2, 0, 0)), some (am_I x5), some (am_I x6), some (am_I x7), x8] [am_I s0] M (am_Z w) = if s0 = x6 then if x6 = 0 then if (lg_cmp w.2.2.1 x7.toInt64) = 0 then am_rn call 227 1017 [some (am_P (0, 0, 0)), some (am_P (3, 0, 0)), some (am_P (30, 0, 0)), some (am_P (1, 0, 0)), some (am_P (2, 0, 0)), some (am_I x5), some (am_I x6), some (am_I x7), x8] [] M (am_Z w) else some (.inl (some (am_I (nI 0))), M, (am_Z w)) else am_rn call 227 1017 [some (am_P (0, 0, 0)), some (am_P (3, 0, 0)), some (am_P (30, 0, 0)), some (am_P (1, 0, 0)), some (am_P (2, 0, 0)), some (am_I x5), some (am_I x6), some (am_I x7), x8] [] M (am_Z w) else some (.inl (some (am_I (nI 0))), M, (am_Z w)) := by
  refine Eq.trans (rl_iload (j := 6) (by decide +kernel) rfl) ?_
  refine Eq.trans (rl_iceq (o := 5) 1000 (by decide +kernel) (by decide)) ?_
  refine am_ite (fun h_1 => ?_) (fun h_1 => ?_)
  · skip
    refine Eq.trans (rl_iload (j := 6) (by decide +kernel) rfl) ?_
    refine Eq.trans (rl_ifne (o := 15) 1017 (by decide +kernel) (by decide)) ?_
    refine am_ite (fun h_2 => ?_) (fun h_2 => ?_)
    · skip
      refine Eq.trans (rl_aloadn (j := 3) (by decide +kernel) rfl) ?_
      refine Eq.trans (rl_iconst (c := 0) (k := (nI 0)) (by decide +kernel) (by decide)) ?_
      refine Eq.trans (rl_lald (by decide +kernel)) ?_
      refine Eq.trans (rl_iload (j := 7) (by decide +kernel) rfl) ?_
      refine Eq.trans (rl_i2l (by decide +kernel)) ?_
      refine Eq.trans (rl_lcmp (by decide +kernel)) ?_
      refine Eq.trans (rl_ifeq (o := 5) 1017 (by decide +kernel) (by decide)) ?_
      refine am_ite (fun h_3 => ?_) (fun h_3 => ?_)
      · skip
        rfl
      · skip
        refine Eq.trans (rl_iconst (c := 0) (k := (nI 0)) (by decide +kernel) (by decide)) ?_
        exact rl_zretk (by decide +kernel) rfl rfl
    · skip
      rfl
  · skip
    refine Eq.trans (rl_iconst (c := 0) (k := (nI 0)) (by decide +kernel) (by decide)) ?_
    exact rl_zretk (by decide +kernel) rfl rfl
theorem b227_1017 {x5 x6 x7 : Int32} {x8 : Option am_V} {M : am_M} {w : am_W4}  : am_rn call 227 1017 [some (am_P (0, 0, 0)), some (am_P (3, 0, 0)), some (am_P (30, 0, 0)), some (am_P (1, 0, 0)), some (am_P (2, 0, 0)), some (am_I x5), some (am_I x6), some (am_I x7), x8] [] M (am_Z w) = am_rn call 227 2276 [some (am_P (0, 0, 0)), some (am_P (3, 0, 0)), some (am_P (30, 0, 0)), some (am_P (1, 0, 0)), some (am_P (2, 0, 0)), some (am_I x5), some (am_I x6), some (am_I x7), x8] [] M (am_Z w) := by
  refine Eq.trans (rl_goto (o := 1259) 2276 (by decide +kernel) (by decide)) ?_
  rfl
theorem b227_1020 {x5 : Int32} {x6 x7 x8 : Option am_V} {M : am_M} {w : am_W4}  : am_rn call 227 1020 [some (am_P (0, 0, 0)), some (am_P (3, 0, 0)), some (am_P (30, 0, 0)), some (am_P (1, 0, 0)), some (am_P (2, 0, 0)), some (am_I x5), x6, x7, x8] [] M (am_Z w) = if am_in (x5 + (nI 1)) (M (0, 0, 1) 0).toNatClampNeg then if am_in (x5 + (nI 2)) (M (0, 0, 1) 0).toNatClampNeg then am_cb (call 207 [am_P (3, 0, 0), am_I (M (0, 0, 0) (x5 + (nI 1)).toNatClampNeg), am_I (M (0, 0, 0) (x5 + (nI 2)).toNatClampNeg), am_P (1, 0, 0)] M (am_Z w)) fun v M' X' => am_rn call 227 1037 [some (am_P (0, 0, 0)), some (am_P (3, 0, 0)), some (am_P (30, 0, 0)), some (am_P (1, 0, 0)), some (am_P (2, 0, 0)), some (am_I x5), x6, x7, x8] (v.toList ++ []) M' X' else none else none := by
  refine Eq.trans (rl_aloadn (j := 1) (by decide +kernel) rfl) ?_
  refine Eq.trans (rl_aloadn (j := 0) (by decide +kernel) rfl) ?_
  refine Eq.trans (rl_iload (j := 5) (by decide +kernel) rfl) ?_
  refine Eq.trans (rl_iconst (c := 1) (k := (nI 1)) (by decide +kernel) (by decide)) ?_
  refine Eq.trans (rl_iadd (by decide +kernel)) ?_
  refine Eq.trans (rl_sald (by decide +kernel)) ?_
  refine am_ite (fun h_1 => ?_) (fun _ => rfl)
  refine Eq.trans (rl_aloadn (j := 0) (by decide +kernel) rfl) ?_
  refine Eq.trans (rl_iload (j := 5) (by decide +kernel) rfl) ?_
  refine Eq.trans (rl_iconst (c := 2) (k := (nI 2)) (by decide +kernel) (by decide)) ?_
  refine Eq.trans (rl_iadd (by decide +kernel)) ?_
  refine Eq.trans (rl_sald (by decide +kernel)) ?_
  refine am_ite (fun h_2 => ?_) (fun _ => rfl)
  refine Eq.trans (rl_aloadn (j := 3) (by decide +kernel) rfl) ?_
  refine Eq.trans (rl_invS (ix := 175) (n := 4) (k := 1) 207 [am_P (3, 0, 0), am_I (M (0, 0, 0) (x5 + (nI 1)).toNatClampNeg), am_I (M (0, 0, 0) (x5 + (nI 2)).toNatClampNeg), am_P (1, 0, 0)] [] (by decide +kernel) (by decide +kernel) (by decide) (by decide +kernel) ⟨rfl, rfl⟩ rfl rfl) ?_
  rfl
theorem b227_1037 {x5 s0 : Int32} {x6 x7 x8 : Option am_V} {M : am_M} {w : am_W4}  : am_rn call 227 1037 [some (am_P (0, 0, 0)), some (am_P (3, 0, 0)), some (am_P (30, 0, 0)), some (am_P (1, 0, 0)), some (am_P (2, 0, 0)), some (am_I x5), x6, x7, x8] [am_I s0] M (am_Z w) = if am_in (x5 + (nI 1)) (M (0, 0, 1) 0).toNatClampNeg then if am_in (x5 + (nI 2)) (M (0, 0, 1) 0).toNatClampNeg then am_cb (call 161 [am_P (30, 0, 0), am_I (M (0, 0, 0) (x5 + (nI 1)).toNatClampNeg), am_I (M (0, 0, 0) (x5 + (nI 2)).toNatClampNeg)] M (am_Z w)) fun v M' X' => am_rn call 227 1055 [some (am_P (0, 0, 0)), some (am_P (3, 0, 0)), some (am_P (30, 0, 0)), some (am_P (1, 0, 0)), some (am_P (2, 0, 0)), some (am_I x5), some (am_I s0), x7, x8] (v.toList ++ []) M' X' else none else none := by
  refine Eq.trans (rl_istore (j := 6) (ls' := [some (am_P (0, 0, 0)), some (am_P (3, 0, 0)), some (am_P (30, 0, 0)), some (am_P (1, 0, 0)), some (am_P (2, 0, 0)), some (am_I x5), some (am_I s0), x7, x8]) (by decide +kernel) rfl rfl) ?_
  refine Eq.trans (rl_aloadn (j := 2) (by decide +kernel) rfl) ?_
  refine Eq.trans (rl_aloadn (j := 0) (by decide +kernel) rfl) ?_
  refine Eq.trans (rl_iload (j := 5) (by decide +kernel) rfl) ?_
  refine Eq.trans (rl_iconst (c := 1) (k := (nI 1)) (by decide +kernel) (by decide)) ?_
  refine Eq.trans (rl_iadd (by decide +kernel)) ?_
  refine Eq.trans (rl_sald (by decide +kernel)) ?_
  refine am_ite (fun h_1 => ?_) (fun _ => rfl)
  refine Eq.trans (rl_aloadn (j := 0) (by decide +kernel) rfl) ?_
  refine Eq.trans (rl_iload (j := 5) (by decide +kernel) rfl) ?_
  refine Eq.trans (rl_iconst (c := 2) (k := (nI 2)) (by decide +kernel) (by decide)) ?_
  refine Eq.trans (rl_iadd (by decide +kernel)) ?_
  refine Eq.trans (rl_sald (by decide +kernel)) ?_
  refine am_ite (fun h_2 => ?_) (fun _ => rfl)
  refine Eq.trans (rl_inv (ix := 177) (n := 2) (o := 9) 161 [am_I (M (0, 0, 0) (x5 + (nI 1)).toNatClampNeg), am_I (M (0, 0, 0) (x5 + (nI 2)).toNatClampNeg)] [] (by decide +kernel) (by decide +kernel) (by decide +kernel) (by decide +kernel) ⟨rfl, rfl⟩ rfl rfl ck30) ?_
  rfl
theorem b227_1055 {x5 x6 s0 : Int32} {x7 x8 : Option am_V} {M : am_M} {w : am_W4}  : am_rn call 227 1055 [some (am_P (0, 0, 0)), some (am_P (3, 0, 0)), some (am_P (30, 0, 0)), some (am_P (1, 0, 0)), some (am_P (2, 0, 0)), some (am_I x5), some (am_I x6), x7, x8] [am_I s0] M (am_Z w) = am_cb (call 114 [am_P (30, 0, 0)] M (am_Z w)) fun v M' X' => am_rn call 227 1061 [some (am_P (0, 0, 0)), some (am_P (3, 0, 0)), some (am_P (30, 0, 0)), some (am_P (1, 0, 0)), some (am_P (2, 0, 0)), some (am_I x5), some (am_I x6), some (am_I s0), x8] (v.toList ++ []) M' X' := by
  refine Eq.trans (rl_istore (j := 7) (ls' := [some (am_P (0, 0, 0)), some (am_P (3, 0, 0)), some (am_P (30, 0, 0)), some (am_P (1, 0, 0)), some (am_P (2, 0, 0)), some (am_I x5), some (am_I x6), some (am_I s0), x8]) (by decide +kernel) rfl rfl) ?_
  refine Eq.trans (rl_aloadn (j := 2) (by decide +kernel) rfl) ?_
  refine Eq.trans (rl_inv (ix := 137) (n := 0) (o := 9) 114 [] [] (by decide +kernel) (by decide +kernel) (by decide +kernel) (by decide +kernel) ⟨rfl, rfl⟩ rfl rfl ck30) ?_
  rfl
theorem b227_1061 {x5 x6 x7 s0 : Int32} {x8 : Option am_V} {M : am_M} {w : am_W4}  : am_rn call 227 1061 [some (am_P (0, 0, 0)), some (am_P (3, 0, 0)), some (am_P (30, 0, 0)), some (am_P (1, 0, 0)), some (am_P (2, 0, 0)), some (am_I x5), some (am_I x6), some (am_I x7), x8] [am_I s0] M (am_Z w) = if s0 = x6 then if x6 = 0 then if (lg_cmp w.2.2.1 x7.toInt64) = 0 then am_rn call 227 1085 [some (am_P (0, 0, 0)), some (am_P (3, 0, 0)), some (am_P (30, 0, 0)), some (am_P (1, 0, 0)), some (am_P (2, 0, 0)), some (am_I x5), some (am_I x6), some (am_I x7), x8] [] M (am_Z w) else some (.inl (some (am_I (nI 0))), M, (am_Z w)) else am_rn call 227 1085 [some (am_P (0, 0, 0)), some (am_P (3, 0, 0)), some (am_P (30, 0, 0)), some (am_P (1, 0, 0)), some (am_P (2, 0, 0)), some (am_I x5), some (am_I x6), some (am_I x7), x8] [] M (am_Z w) else some (.inl (some (am_I (nI 0))), M, (am_Z w)) := by
  refine Eq.trans (rl_iload (j := 6) (by decide +kernel) rfl) ?_
  refine Eq.trans (rl_iceq (o := 5) 1068 (by decide +kernel) (by decide)) ?_
  refine am_ite (fun h_1 => ?_) (fun h_1 => ?_)
  · skip
    refine Eq.trans (rl_iload (j := 6) (by decide +kernel) rfl) ?_
    refine Eq.trans (rl_ifne (o := 15) 1085 (by decide +kernel) (by decide)) ?_
    refine am_ite (fun h_2 => ?_) (fun h_2 => ?_)
    · skip
      refine Eq.trans (rl_aloadn (j := 3) (by decide +kernel) rfl) ?_
      refine Eq.trans (rl_iconst (c := 0) (k := (nI 0)) (by decide +kernel) (by decide)) ?_
      refine Eq.trans (rl_lald (by decide +kernel)) ?_
      refine Eq.trans (rl_iload (j := 7) (by decide +kernel) rfl) ?_
      refine Eq.trans (rl_i2l (by decide +kernel)) ?_
      refine Eq.trans (rl_lcmp (by decide +kernel)) ?_
      refine Eq.trans (rl_ifeq (o := 5) 1085 (by decide +kernel) (by decide)) ?_
      refine am_ite (fun h_3 => ?_) (fun h_3 => ?_)
      · skip
        rfl
      · skip
        refine Eq.trans (rl_iconst (c := 0) (k := (nI 0)) (by decide +kernel) (by decide)) ?_
        exact rl_zretk (by decide +kernel) rfl rfl
    · skip
      rfl
  · skip
    refine Eq.trans (rl_iconst (c := 0) (k := (nI 0)) (by decide +kernel) (by decide)) ?_
    exact rl_zretk (by decide +kernel) rfl rfl
theorem b227_1085 {x5 x6 x7 : Int32} {x8 : Option am_V} {M : am_M} {w : am_W4}  : am_rn call 227 1085 [some (am_P (0, 0, 0)), some (am_P (3, 0, 0)), some (am_P (30, 0, 0)), some (am_P (1, 0, 0)), some (am_P (2, 0, 0)), some (am_I x5), some (am_I x6), some (am_I x7), x8] [] M (am_Z w) = am_rn call 227 2276 [some (am_P (0, 0, 0)), some (am_P (3, 0, 0)), some (am_P (30, 0, 0)), some (am_P (1, 0, 0)), some (am_P (2, 0, 0)), some (am_I x5), some (am_I x6), some (am_I x7), x8] [] M (am_Z w) := by
  refine Eq.trans (rl_goto (o := 1191) 2276 (by decide +kernel) (by decide)) ?_
  rfl
theorem b227_1088 {x5 : Int32} {x6 x7 x8 : Option am_V} {M : am_M} {w : am_W4}  : am_rn call 227 1088 [some (am_P (0, 0, 0)), some (am_P (3, 0, 0)), some (am_P (30, 0, 0)), some (am_P (1, 0, 0)), some (am_P (2, 0, 0)), some (am_I x5), x6, x7, x8] [] M (am_Z w) = if am_in (x5 + (nI 1)) (M (0, 0, 1) 0).toNatClampNeg then am_cb (call 208 [am_P (3, 0, 0), am_I (M (0, 0, 0) (x5 + (nI 1)).toNatClampNeg), am_P (1, 0, 0)] M (am_Z w)) fun v M' X' => am_rn call 227 1099 [some (am_P (0, 0, 0)), some (am_P (3, 0, 0)), some (am_P (30, 0, 0)), some (am_P (1, 0, 0)), some (am_P (2, 0, 0)), some (am_I x5), x6, x7, x8] (v.toList ++ []) M' X' else none := by
  refine Eq.trans (rl_aloadn (j := 1) (by decide +kernel) rfl) ?_
  refine Eq.trans (rl_aloadn (j := 0) (by decide +kernel) rfl) ?_
  refine Eq.trans (rl_iload (j := 5) (by decide +kernel) rfl) ?_
  refine Eq.trans (rl_iconst (c := 1) (k := (nI 1)) (by decide +kernel) (by decide)) ?_
  refine Eq.trans (rl_iadd (by decide +kernel)) ?_
  refine Eq.trans (rl_sald (by decide +kernel)) ?_
  refine am_ite (fun h_1 => ?_) (fun _ => rfl)
  refine Eq.trans (rl_aloadn (j := 3) (by decide +kernel) rfl) ?_
  refine Eq.trans (rl_invS (ix := 178) (n := 3) (k := 1) 208 [am_P (3, 0, 0), am_I (M (0, 0, 0) (x5 + (nI 1)).toNatClampNeg), am_P (1, 0, 0)] [] (by decide +kernel) (by decide +kernel) (by decide) (by decide +kernel) ⟨rfl, rfl⟩ rfl rfl) ?_
  rfl
theorem b227_1099 {x5 s0 : Int32} {x6 x7 x8 : Option am_V} {M : am_M} {w : am_W4}  : am_rn call 227 1099 [some (am_P (0, 0, 0)), some (am_P (3, 0, 0)), some (am_P (30, 0, 0)), some (am_P (1, 0, 0)), some (am_P (2, 0, 0)), some (am_I x5), x6, x7, x8] [am_I s0] M (am_Z w) = if am_in (x5 + (nI 1)) (M (0, 0, 1) 0).toNatClampNeg then am_cb (call 162 [am_P (30, 0, 0), am_I (M (0, 0, 0) (x5 + (nI 1)).toNatClampNeg)] M (am_Z w)) fun v M' X' => am_rn call 227 1111 [some (am_P (0, 0, 0)), some (am_P (3, 0, 0)), some (am_P (30, 0, 0)), some (am_P (1, 0, 0)), some (am_P (2, 0, 0)), some (am_I x5), some (am_I s0), x7, x8] (v.toList ++ []) M' X' else none := by
  refine Eq.trans (rl_istore (j := 6) (ls' := [some (am_P (0, 0, 0)), some (am_P (3, 0, 0)), some (am_P (30, 0, 0)), some (am_P (1, 0, 0)), some (am_P (2, 0, 0)), some (am_I x5), some (am_I s0), x7, x8]) (by decide +kernel) rfl rfl) ?_
  refine Eq.trans (rl_aloadn (j := 2) (by decide +kernel) rfl) ?_
  refine Eq.trans (rl_aloadn (j := 0) (by decide +kernel) rfl) ?_
  refine Eq.trans (rl_iload (j := 5) (by decide +kernel) rfl) ?_
  refine Eq.trans (rl_iconst (c := 1) (k := (nI 1)) (by decide +kernel) (by decide)) ?_
  refine Eq.trans (rl_iadd (by decide +kernel)) ?_
  refine Eq.trans (rl_sald (by decide +kernel)) ?_
  refine am_ite (fun h_1 => ?_) (fun _ => rfl)
  refine Eq.trans (rl_inv (ix := 180) (n := 1) (o := 9) 162 [am_I (M (0, 0, 0) (x5 + (nI 1)).toNatClampNeg)] [] (by decide +kernel) (by decide +kernel) (by decide +kernel) (by decide +kernel) ⟨rfl, rfl⟩ rfl rfl ck30) ?_
  rfl
theorem b227_1111 {x5 x6 s0 : Int32} {x7 x8 : Option am_V} {M : am_M} {w : am_W4}  : am_rn call 227 1111 [some (am_P (0, 0, 0)), some (am_P (3, 0, 0)), some (am_P (30, 0, 0)), some (am_P (1, 0, 0)), some (am_P (2, 0, 0)), some (am_I x5), some (am_I x6), x7, x8] [am_I s0] M (am_Z w) = am_cb (call 114 [am_P (30, 0, 0)] M (am_Z w)) fun v M' X' => am_rn call 227 1117 [some (am_P (0, 0, 0)), some (am_P (3, 0, 0)), some (am_P (30, 0, 0)), some (am_P (1, 0, 0)), some (am_P (2, 0, 0)), some (am_I x5), some (am_I x6), some (am_I s0), x8] (v.toList ++ []) M' X' := by
  refine Eq.trans (rl_istore (j := 7) (ls' := [some (am_P (0, 0, 0)), some (am_P (3, 0, 0)), some (am_P (30, 0, 0)), some (am_P (1, 0, 0)), some (am_P (2, 0, 0)), some (am_I x5), some (am_I x6), some (am_I s0), x8]) (by decide +kernel) rfl rfl) ?_
  refine Eq.trans (rl_aloadn (j := 2) (by decide +kernel) rfl) ?_
  refine Eq.trans (rl_inv (ix := 137) (n := 0) (o := 9) 114 [] [] (by decide +kernel) (by decide +kernel) (by decide +kernel) (by decide +kernel) ⟨rfl, rfl⟩ rfl rfl ck30) ?_
  rfl
theorem b227_1117 {x5 x6 x7 s0 : Int32} {x8 : Option am_V} {M : am_M} {w : am_W4}  : am_rn call 227 1117 [some (am_P (0, 0, 0)), some (am_P (3, 0, 0)), some (am_P (30, 0, 0)), some (am_P (1, 0, 0)), some (am_P (2, 0, 0)), some (am_I x5), some (am_I x6), some (am_I x7), x8] [am_I s0] M (am_Z w) = if s0 = x6 then if x6 = 0 then if (lg_cmp w.2.2.1 x7.toInt64) = 0 then am_rn call 227 1141 [some (am_P (0, 0, 0)), some (am_P (3, 0, 0)), some (am_P (30, 0, 0)), some (am_P (1, 0, 0)), some (am_P (2, 0, 0)), some (am_I x5), some (am_I x6), some (am_I x7), x8] [] M (am_Z w) else some (.inl (some (am_I (nI 0))), M, (am_Z w)) else am_rn call 227 1141 [some (am_P (0, 0, 0)), some (am_P (3, 0, 0)), some (am_P (30, 0, 0)), some (am_P (1, 0, 0)), some (am_P (2, 0, 0)), some (am_I x5), some (am_I x6), some (am_I x7), x8] [] M (am_Z w) else some (.inl (some (am_I (nI 0))), M, (am_Z w)) := by
  refine Eq.trans (rl_iload (j := 6) (by decide +kernel) rfl) ?_
  refine Eq.trans (rl_iceq (o := 5) 1124 (by decide +kernel) (by decide)) ?_
  refine am_ite (fun h_1 => ?_) (fun h_1 => ?_)
  · skip
    refine Eq.trans (rl_iload (j := 6) (by decide +kernel) rfl) ?_
    refine Eq.trans (rl_ifne (o := 15) 1141 (by decide +kernel) (by decide)) ?_
    refine am_ite (fun h_2 => ?_) (fun h_2 => ?_)
    · skip
      refine Eq.trans (rl_aloadn (j := 3) (by decide +kernel) rfl) ?_
      refine Eq.trans (rl_iconst (c := 0) (k := (nI 0)) (by decide +kernel) (by decide)) ?_
      refine Eq.trans (rl_lald (by decide +kernel)) ?_
      refine Eq.trans (rl_iload (j := 7) (by decide +kernel) rfl) ?_
      refine Eq.trans (rl_i2l (by decide +kernel)) ?_
      refine Eq.trans (rl_lcmp (by decide +kernel)) ?_
      refine Eq.trans (rl_ifeq (o := 5) 1141 (by decide +kernel) (by decide)) ?_
      refine am_ite (fun h_3 => ?_) (fun h_3 => ?_)
      · skip
        rfl
      · skip
        refine Eq.trans (rl_iconst (c := 0) (k := (nI 0)) (by decide +kernel) (by decide)) ?_
        exact rl_zretk (by decide +kernel) rfl rfl
    · skip
      rfl
  · skip
    refine Eq.trans (rl_iconst (c := 0) (k := (nI 0)) (by decide +kernel) (by decide)) ?_
    exact rl_zretk (by decide +kernel) rfl rfl
theorem b227_1141 {x5 x6 x7 : Int32} {x8 : Option am_V} {M : am_M} {w : am_W4}  : am_rn call 227 1141 [some (am_P (0, 0, 0)), some (am_P (3, 0, 0)), some (am_P (30, 0, 0)), some (am_P (1, 0, 0)), some (am_P (2, 0, 0)), some (am_I x5), some (am_I x6), some (am_I x7), x8] [] M (am_Z w) = am_rn call 227 2276 [some (am_P (0, 0, 0)), some (am_P (3, 0, 0)), some (am_P (30, 0, 0)), some (am_P (1, 0, 0)), some (am_P (2, 0, 0)), some (am_I x5), some (am_I x6), some (am_I x7), x8] [] M (am_Z w) := by
  refine Eq.trans (rl_goto (o := 1135) 2276 (by decide +kernel) (by decide)) ?_
  rfl
theorem b227_1144 {x5 : Int32} {x6 x7 x8 : Option am_V} {M : am_M} {w : am_W4}  : am_rn call 227 1144 [some (am_P (0, 0, 0)), some (am_P (3, 0, 0)), some (am_P (30, 0, 0)), some (am_P (1, 0, 0)), some (am_P (2, 0, 0)), some (am_I x5), x6, x7, x8] [] M (am_Z w) = if am_in (x5 + (nI 1)) (M (0, 0, 1) 0).toNatClampNeg then if am_in (x5 + (nI 2)) (M (0, 0, 1) 0).toNatClampNeg then am_cb (call 209 [am_P (3, 0, 0), am_I (M (0, 0, 0) (x5 + (nI 1)).toNatClampNeg), am_I (M (0, 0, 0) (x5 + (nI 2)).toNatClampNeg), am_P (1, 0, 0)] M (am_Z w)) fun v M' X' => am_rn call 227 1161 [some (am_P (0, 0, 0)), some (am_P (3, 0, 0)), some (am_P (30, 0, 0)), some (am_P (1, 0, 0)), some (am_P (2, 0, 0)), some (am_I x5), x6, x7, x8] (v.toList ++ []) M' X' else none else none := by
  refine Eq.trans (rl_aloadn (j := 1) (by decide +kernel) rfl) ?_
  refine Eq.trans (rl_aloadn (j := 0) (by decide +kernel) rfl) ?_
  refine Eq.trans (rl_iload (j := 5) (by decide +kernel) rfl) ?_
  refine Eq.trans (rl_iconst (c := 1) (k := (nI 1)) (by decide +kernel) (by decide)) ?_
  refine Eq.trans (rl_iadd (by decide +kernel)) ?_
  refine Eq.trans (rl_sald (by decide +kernel)) ?_
  refine am_ite (fun h_1 => ?_) (fun _ => rfl)
  refine Eq.trans (rl_aloadn (j := 0) (by decide +kernel) rfl) ?_
  refine Eq.trans (rl_iload (j := 5) (by decide +kernel) rfl) ?_
  refine Eq.trans (rl_iconst (c := 2) (k := (nI 2)) (by decide +kernel) (by decide)) ?_
  refine Eq.trans (rl_iadd (by decide +kernel)) ?_
  refine Eq.trans (rl_sald (by decide +kernel)) ?_
  refine am_ite (fun h_2 => ?_) (fun _ => rfl)
  refine Eq.trans (rl_aloadn (j := 3) (by decide +kernel) rfl) ?_
  refine Eq.trans (rl_invS (ix := 181) (n := 4) (k := 1) 209 [am_P (3, 0, 0), am_I (M (0, 0, 0) (x5 + (nI 1)).toNatClampNeg), am_I (M (0, 0, 0) (x5 + (nI 2)).toNatClampNeg), am_P (1, 0, 0)] [] (by decide +kernel) (by decide +kernel) (by decide) (by decide +kernel) ⟨rfl, rfl⟩ rfl rfl) ?_
  rfl
theorem b227_1161 {x5 s0 : Int32} {x6 x7 x8 : Option am_V} {M : am_M} {w : am_W4}  : am_rn call 227 1161 [some (am_P (0, 0, 0)), some (am_P (3, 0, 0)), some (am_P (30, 0, 0)), some (am_P (1, 0, 0)), some (am_P (2, 0, 0)), some (am_I x5), x6, x7, x8] [am_I s0] M (am_Z w) = if am_in (x5 + (nI 1)) (M (0, 0, 1) 0).toNatClampNeg then if am_in (x5 + (nI 2)) (M (0, 0, 1) 0).toNatClampNeg then am_cb (call 163 [am_P (30, 0, 0), am_I (M (0, 0, 0) (x5 + (nI 1)).toNatClampNeg), am_I (M (0, 0, 0) (x5 + (nI 2)).toNatClampNeg)] M (am_Z w)) fun v M' X' => am_rn call 227 1179 [some (am_P (0, 0, 0)), some (am_P (3, 0, 0)), some (am_P (30, 0, 0)), some (am_P (1, 0, 0)), some (am_P (2, 0, 0)), some (am_I x5), some (am_I s0), x7, x8] (v.toList ++ []) M' X' else none else none := by
  refine Eq.trans (rl_istore (j := 6) (ls' := [some (am_P (0, 0, 0)), some (am_P (3, 0, 0)), some (am_P (30, 0, 0)), some (am_P (1, 0, 0)), some (am_P (2, 0, 0)), some (am_I x5), some (am_I s0), x7, x8]) (by decide +kernel) rfl rfl) ?_
  refine Eq.trans (rl_aloadn (j := 2) (by decide +kernel) rfl) ?_
  refine Eq.trans (rl_aloadn (j := 0) (by decide +kernel) rfl) ?_
  refine Eq.trans (rl_iload (j := 5) (by decide +kernel) rfl) ?_
  refine Eq.trans (rl_iconst (c := 1) (k := (nI 1)) (by decide +kernel) (by decide)) ?_
  refine Eq.trans (rl_iadd (by decide +kernel)) ?_
  refine Eq.trans (rl_sald (by decide +kernel)) ?_
  refine am_ite (fun h_1 => ?_) (fun _ => rfl)
  refine Eq.trans (rl_aloadn (j := 0) (by decide +kernel) rfl) ?_
  refine Eq.trans (rl_iload (j := 5) (by decide +kernel) rfl) ?_
  refine Eq.trans (rl_iconst (c := 2) (k := (nI 2)) (by decide +kernel) (by decide)) ?_
  refine Eq.trans (rl_iadd (by decide +kernel)) ?_
  refine Eq.trans (rl_sald (by decide +kernel)) ?_
  refine am_ite (fun h_2 => ?_) (fun _ => rfl)
  refine Eq.trans (rl_inv (ix := 183) (n := 2) (o := 9) 163 [am_I (M (0, 0, 0) (x5 + (nI 1)).toNatClampNeg), am_I (M (0, 0, 0) (x5 + (nI 2)).toNatClampNeg)] [] (by decide +kernel) (by decide +kernel) (by decide +kernel) (by decide +kernel) ⟨rfl, rfl⟩ rfl rfl ck30) ?_
  rfl
theorem b227_1179 {x5 x6 s0 : Int32} {x7 x8 : Option am_V} {M : am_M} {w : am_W4}  : am_rn call 227 1179 [some (am_P (0, 0, 0)), some (am_P (3, 0, 0)), some (am_P (30, 0, 0)), some (am_P (1, 0, 0)), some (am_P (2, 0, 0)), some (am_I x5), some (am_I x6), x7, x8] [am_I s0] M (am_Z w) = am_cb (call 114 [am_P (30, 0, 0)] M (am_Z w)) fun v M' X' => am_rn call 227 1185 [some (am_P (0, 0, 0)), some (am_P (3, 0, 0)), some (am_P (30, 0, 0)), some (am_P (1, 0, 0)), some (am_P (2, 0, 0)), some (am_I x5), some (am_I x6), some (am_I s0), x8] (v.toList ++ []) M' X' := by
  refine Eq.trans (rl_istore (j := 7) (ls' := [some (am_P (0, 0, 0)), some (am_P (3, 0, 0)), some (am_P (30, 0, 0)), some (am_P (1, 0, 0)), some (am_P (2, 0, 0)), some (am_I x5), some (am_I x6), some (am_I s0), x8]) (by decide +kernel) rfl rfl) ?_
  refine Eq.trans (rl_aloadn (j := 2) (by decide +kernel) rfl) ?_
  refine Eq.trans (rl_inv (ix := 137) (n := 0) (o := 9) 114 [] [] (by decide +kernel) (by decide +kernel) (by decide +kernel) (by decide +kernel) ⟨rfl, rfl⟩ rfl rfl ck30) ?_
  rfl
theorem b227_1185 {x5 x6 x7 s0 : Int32} {x8 : Option am_V} {M : am_M} {w : am_W4}  : am_rn call 227 1185 [some (am_P (0, 0, 0)), some (am_P (3, 0, 0)), some (am_P (30, 0, 0)), some (am_P (1, 0, 0)), some (am_P (2, 0, 0)), some (am_I x5), some (am_I x6), some (am_I x7), x8] [am_I s0] M (am_Z w) = if s0 = x6 then if x6 = 0 then if (lg_cmp w.2.2.1 x7.toInt64) = 0 then am_rn call 227 1209 [some (am_P (0, 0, 0)), some (am_P (3, 0, 0)), some (am_P (30, 0, 0)), some (am_P (1, 0, 0)), some (am_P (2, 0, 0)), some (am_I x5), some (am_I x6), some (am_I x7), x8] [] M (am_Z w) else some (.inl (some (am_I (nI 0))), M, (am_Z w)) else am_rn call 227 1209 [some (am_P (0, 0, 0)), some (am_P (3, 0, 0)), some (am_P (30, 0, 0)), some (am_P (1, 0, 0)), some (am_P (2, 0, 0)), some (am_I x5), some (am_I x6), some (am_I x7), x8] [] M (am_Z w) else some (.inl (some (am_I (nI 0))), M, (am_Z w)) := by
  refine Eq.trans (rl_iload (j := 6) (by decide +kernel) rfl) ?_
  refine Eq.trans (rl_iceq (o := 5) 1192 (by decide +kernel) (by decide)) ?_
  refine am_ite (fun h_1 => ?_) (fun h_1 => ?_)
  · skip
    refine Eq.trans (rl_iload (j := 6) (by decide +kernel) rfl) ?_
    refine Eq.trans (rl_ifne (o := 15) 1209 (by decide +kernel) (by decide)) ?_
    refine am_ite (fun h_2 => ?_) (fun h_2 => ?_)
    · skip
      refine Eq.trans (rl_aloadn (j := 3) (by decide +kernel) rfl) ?_
      refine Eq.trans (rl_iconst (c := 0) (k := (nI 0)) (by decide +kernel) (by decide)) ?_
      refine Eq.trans (rl_lald (by decide +kernel)) ?_
      refine Eq.trans (rl_iload (j := 7) (by decide +kernel) rfl) ?_
      refine Eq.trans (rl_i2l (by decide +kernel)) ?_
      refine Eq.trans (rl_lcmp (by decide +kernel)) ?_
      refine Eq.trans (rl_ifeq (o := 5) 1209 (by decide +kernel) (by decide)) ?_
      refine am_ite (fun h_3 => ?_) (fun h_3 => ?_)
      · skip
        rfl
      · skip
        refine Eq.trans (rl_iconst (c := 0) (k := (nI 0)) (by decide +kernel) (by decide)) ?_
        exact rl_zretk (by decide +kernel) rfl rfl
    · skip
      rfl
  · skip
    refine Eq.trans (rl_iconst (c := 0) (k := (nI 0)) (by decide +kernel) (by decide)) ?_
    exact rl_zretk (by decide +kernel) rfl rfl
theorem b227_1209 {x5 x6 x7 : Int32} {x8 : Option am_V} {M : am_M} {w : am_W4}  : am_rn call 227 1209 [some (am_P (0, 0, 0)), some (am_P (3, 0, 0)), some (am_P (30, 0, 0)), some (am_P (1, 0, 0)), some (am_P (2, 0, 0)), some (am_I x5), some (am_I x6), some (am_I x7), x8] [] M (am_Z w) = am_rn call 227 2276 [some (am_P (0, 0, 0)), some (am_P (3, 0, 0)), some (am_P (30, 0, 0)), some (am_P (1, 0, 0)), some (am_P (2, 0, 0)), some (am_I x5), some (am_I x6), some (am_I x7), x8] [] M (am_Z w) := by
  refine Eq.trans (rl_goto (o := 1067) 2276 (by decide +kernel) (by decide)) ?_
  rfl
theorem b227_1212 {x5 : Int32} {x6 x7 x8 : Option am_V} {M : am_M} {w : am_W4}  : am_rn call 227 1212 [some (am_P (0, 0, 0)), some (am_P (3, 0, 0)), some (am_P (30, 0, 0)), some (am_P (1, 0, 0)), some (am_P (2, 0, 0)), some (am_I x5), x6, x7, x8] [] M (am_Z w) = if am_in (x5 + (nI 1)) (M (0, 0, 1) 0).toNatClampNeg then am_cb (call 210 [am_P (3, 0, 0), am_I (M (0, 0, 0) (x5 + (nI 1)).toNatClampNeg), am_P (1, 0, 0)] M (am_Z w)) fun v M' X' => am_rn call 227 1223 [some (am_P (0, 0, 0)), some (am_P (3, 0, 0)), some (am_P (30, 0, 0)), some (am_P (1, 0, 0)), some (am_P (2, 0, 0)), some (am_I x5), x6, x7, x8] (v.toList ++ []) M' X' else none := by
  refine Eq.trans (rl_aloadn (j := 1) (by decide +kernel) rfl) ?_
  refine Eq.trans (rl_aloadn (j := 0) (by decide +kernel) rfl) ?_
  refine Eq.trans (rl_iload (j := 5) (by decide +kernel) rfl) ?_
  refine Eq.trans (rl_iconst (c := 1) (k := (nI 1)) (by decide +kernel) (by decide)) ?_
  refine Eq.trans (rl_iadd (by decide +kernel)) ?_
  refine Eq.trans (rl_sald (by decide +kernel)) ?_
  refine am_ite (fun h_1 => ?_) (fun _ => rfl)
  refine Eq.trans (rl_aloadn (j := 3) (by decide +kernel) rfl) ?_
  refine Eq.trans (rl_invS (ix := 184) (n := 3) (k := 1) 210 [am_P (3, 0, 0), am_I (M (0, 0, 0) (x5 + (nI 1)).toNatClampNeg), am_P (1, 0, 0)] [] (by decide +kernel) (by decide +kernel) (by decide) (by decide +kernel) ⟨rfl, rfl⟩ rfl rfl) ?_
  rfl
theorem b227_1223 {x5 s0 : Int32} {x6 x7 x8 : Option am_V} {M : am_M} {w : am_W4}  : am_rn call 227 1223 [some (am_P (0, 0, 0)), some (am_P (3, 0, 0)), some (am_P (30, 0, 0)), some (am_P (1, 0, 0)), some (am_P (2, 0, 0)), some (am_I x5), x6, x7, x8] [am_I s0] M (am_Z w) = if am_in (x5 + (nI 1)) (M (0, 0, 1) 0).toNatClampNeg then am_cb (call 164 [am_P (30, 0, 0), am_I (M (0, 0, 0) (x5 + (nI 1)).toNatClampNeg)] M (am_Z w)) fun v M' X' => am_rn call 227 1235 [some (am_P (0, 0, 0)), some (am_P (3, 0, 0)), some (am_P (30, 0, 0)), some (am_P (1, 0, 0)), some (am_P (2, 0, 0)), some (am_I x5), some (am_I s0), x7, x8] (v.toList ++ []) M' X' else none := by
  refine Eq.trans (rl_istore (j := 6) (ls' := [some (am_P (0, 0, 0)), some (am_P (3, 0, 0)), some (am_P (30, 0, 0)), some (am_P (1, 0, 0)), some (am_P (2, 0, 0)), some (am_I x5), some (am_I s0), x7, x8]) (by decide +kernel) rfl rfl) ?_
  refine Eq.trans (rl_aloadn (j := 2) (by decide +kernel) rfl) ?_
  refine Eq.trans (rl_aloadn (j := 0) (by decide +kernel) rfl) ?_
  refine Eq.trans (rl_iload (j := 5) (by decide +kernel) rfl) ?_
  refine Eq.trans (rl_iconst (c := 1) (k := (nI 1)) (by decide +kernel) (by decide)) ?_
  refine Eq.trans (rl_iadd (by decide +kernel)) ?_
  refine Eq.trans (rl_sald (by decide +kernel)) ?_
  refine am_ite (fun h_1 => ?_) (fun _ => rfl)
  refine Eq.trans (rl_inv (ix := 186) (n := 1) (o := 9) 164 [am_I (M (0, 0, 0) (x5 + (nI 1)).toNatClampNeg)] [] (by decide +kernel) (by decide +kernel) (by decide +kernel) (by decide +kernel) ⟨rfl, rfl⟩ rfl rfl ck30) ?_
  rfl
theorem b227_1235 {x5 x6 s0 : Int32} {x7 x8 : Option am_V} {M : am_M} {w : am_W4}  : am_rn call 227 1235 [some (am_P (0, 0, 0)), some (am_P (3, 0, 0)), some (am_P (30, 0, 0)), some (am_P (1, 0, 0)), some (am_P (2, 0, 0)), some (am_I x5), some (am_I x6), x7, x8] [am_I s0] M (am_Z w) = am_cb (call 114 [am_P (30, 0, 0)] M (am_Z w)) fun v M' X' => am_rn call 227 1241 [some (am_P (0, 0, 0)), some (am_P (3, 0, 0)), some (am_P (30, 0, 0)), some (am_P (1, 0, 0)), some (am_P (2, 0, 0)), some (am_I x5), some (am_I x6), some (am_I s0), x8] (v.toList ++ []) M' X' := by
  refine Eq.trans (rl_istore (j := 7) (ls' := [some (am_P (0, 0, 0)), some (am_P (3, 0, 0)), some (am_P (30, 0, 0)), some (am_P (1, 0, 0)), some (am_P (2, 0, 0)), some (am_I x5), some (am_I x6), some (am_I s0), x8]) (by decide +kernel) rfl rfl) ?_
  refine Eq.trans (rl_aloadn (j := 2) (by decide +kernel) rfl) ?_
  refine Eq.trans (rl_inv (ix := 137) (n := 0) (o := 9) 114 [] [] (by decide +kernel) (by decide +kernel) (by decide +kernel) (by decide +kernel) ⟨rfl, rfl⟩ rfl rfl ck30) ?_
  rfl
theorem b227_1241 {x5 x6 x7 s0 : Int32} {x8 : Option am_V} {M : am_M} {w : am_W4}  : am_rn call 227 1241 [some (am_P (0, 0, 0)), some (am_P (3, 0, 0)), some (am_P (30, 0, 0)), some (am_P (1, 0, 0)), some (am_P (2, 0, 0)), some (am_I x5), some (am_I x6), some (am_I x7), x8] [am_I s0] M (am_Z w) = if s0 = x6 then if x6 = 0 then if (lg_cmp w.2.2.1 x7.toInt64) = 0 then am_rn call 227 1265 [some (am_P (0, 0, 0)), some (am_P (3, 0, 0)), some (am_P (30, 0, 0)), some (am_P (1, 0, 0)), some (am_P (2, 0, 0)), some (am_I x5), some (am_I x6), some (am_I x7), x8] [] M (am_Z w) else some (.inl (some (am_I (nI 0))), M, (am_Z w)) else am_rn call 227 1265 [some (am_P (0, 0, 0)), some (am_P (3, 0, 0)), some (am_P (30, 0, 0)), some (am_P (1, 0, 0)), some (am_P (2, 0, 0)), some (am_I x5), some (am_I x6), some (am_I x7), x8] [] M (am_Z w) else some (.inl (some (am_I (nI 0))), M, (am_Z w)) := by
  refine Eq.trans (rl_iload (j := 6) (by decide +kernel) rfl) ?_
  refine Eq.trans (rl_iceq (o := 5) 1248 (by decide +kernel) (by decide)) ?_
  refine am_ite (fun h_1 => ?_) (fun h_1 => ?_)
  · skip
    refine Eq.trans (rl_iload (j := 6) (by decide +kernel) rfl) ?_
    refine Eq.trans (rl_ifne (o := 15) 1265 (by decide +kernel) (by decide)) ?_
    refine am_ite (fun h_2 => ?_) (fun h_2 => ?_)
    · skip
      refine Eq.trans (rl_aloadn (j := 3) (by decide +kernel) rfl) ?_
      refine Eq.trans (rl_iconst (c := 0) (k := (nI 0)) (by decide +kernel) (by decide)) ?_
      refine Eq.trans (rl_lald (by decide +kernel)) ?_
      refine Eq.trans (rl_iload (j := 7) (by decide +kernel) rfl) ?_
      refine Eq.trans (rl_i2l (by decide +kernel)) ?_
      refine Eq.trans (rl_lcmp (by decide +kernel)) ?_
      refine Eq.trans (rl_ifeq (o := 5) 1265 (by decide +kernel) (by decide)) ?_
      refine am_ite (fun h_3 => ?_) (fun h_3 => ?_)
      · skip
        rfl
      · skip
        refine Eq.trans (rl_iconst (c := 0) (k := (nI 0)) (by decide +kernel) (by decide)) ?_
        exact rl_zretk (by decide +kernel) rfl rfl
    · skip
      rfl
  · skip
    refine Eq.trans (rl_iconst (c := 0) (k := (nI 0)) (by decide +kernel) (by decide)) ?_
    exact rl_zretk (by decide +kernel) rfl rfl
theorem b227_1265 {x5 x6 x7 : Int32} {x8 : Option am_V} {M : am_M} {w : am_W4}  : am_rn call 227 1265 [some (am_P (0, 0, 0)), some (am_P (3, 0, 0)), some (am_P (30, 0, 0)), some (am_P (1, 0, 0)), some (am_P (2, 0, 0)), some (am_I x5), some (am_I x6), some (am_I x7), x8] [] M (am_Z w) = am_rn call 227 2276 [some (am_P (0, 0, 0)), some (am_P (3, 0, 0)), some (am_P (30, 0, 0)), some (am_P (1, 0, 0)), some (am_P (2, 0, 0)), some (am_I x5), some (am_I x6), some (am_I x7), x8] [] M (am_Z w) := by
  refine Eq.trans (rl_goto (o := 1011) 2276 (by decide +kernel) (by decide)) ?_
  rfl
theorem b227_1268 {x5 : Int32} {x6 x7 x8 : Option am_V} {M : am_M} {w : am_W4}  : am_rn call 227 1268 [some (am_P (0, 0, 0)), some (am_P (3, 0, 0)), some (am_P (30, 0, 0)), some (am_P (1, 0, 0)), some (am_P (2, 0, 0)), some (am_I x5), x6, x7, x8] [] M (am_Z w) = if am_in (x5 + (nI 1)) (M (0, 0, 1) 0).toNatClampNeg then if am_in (x5 + (nI 2)) (M (0, 0, 1) 0).toNatClampNeg then if (M (0, 0, 0) (x5 + (nI 2)).toNatClampNeg) = 0 then am_rn call 227 1289 [some (am_P (0, 0, 0)), some (am_P (3, 0, 0)), some (am_P (30, 0, 0)), some (am_P (1, 0, 0)), some (am_P (2, 0, 0)), some (am_I x5), x6, x7, x8] [am_I (nI 0), am_I (M (0, 0, 0) (x5 + (nI 1)).toNatClampNeg), am_P (3, 0, 0)] M (am_Z w) else am_rn call 227 1289 [some (am_P (0, 0, 0)), some (am_P (3, 0, 0)), some (am_P (30, 0, 0)), some (am_P (1, 0, 0)), some (am_P (2, 0, 0)), some (am_I x5), x6, x7, x8] [am_I (nI 1), am_I (M (0, 0, 0) (x5 + (nI 1)).toNatClampNeg), am_P (3, 0, 0)] M (am_Z w) else none else none := by
  refine Eq.trans (rl_aloadn (j := 1) (by decide +kernel) rfl) ?_
  refine Eq.trans (rl_aloadn (j := 0) (by decide +kernel) rfl) ?_
  refine Eq.trans (rl_iload (j := 5) (by decide +kernel) rfl) ?_
  refine Eq.trans (rl_iconst (c := 1) (k := (nI 1)) (by decide +kernel) (by decide)) ?_
  refine Eq.trans (rl_iadd (by decide +kernel)) ?_
  refine Eq.trans (rl_sald (by decide +kernel)) ?_
  refine am_ite (fun h_1 => ?_) (fun _ => rfl)
  refine Eq.trans (rl_aloadn (j := 0) (by decide +kernel) rfl) ?_
  refine Eq.trans (rl_iload (j := 5) (by decide +kernel) rfl) ?_
  refine Eq.trans (rl_iconst (c := 2) (k := (nI 2)) (by decide +kernel) (by decide)) ?_
  refine Eq.trans (rl_iadd (by decide +kernel)) ?_
  refine Eq.trans (rl_sald (by decide +kernel)) ?_
  refine am_ite (fun h_2 => ?_) (fun _ => rfl)
  refine Eq.trans (rl_ifeq (o := 7) 1288 (by decide +kernel) (by decide)) ?_
  refine am_ite (fun h_3 => ?_) (fun h_3 => ?_)
  · skip
    refine Eq.trans (rl_iconst (c := 0) (k := (nI 0)) (by decide +kernel) (by decide)) ?_
    rfl
  · skip
    refine Eq.trans (rl_iconst (c := 1) (k := (nI 1)) (by decide +kernel) (by decide)) ?_
    refine Eq.trans (rl_goto (o := 4) 1289 (by decide +kernel) (by decide)) ?_
    rfl
theorem b227_1289 {x5 s0 s1 : Int32} {x6 x7 x8 : Option am_V} {M : am_M} {w : am_W4}  : am_rn call 227 1289 [some (am_P (0, 0, 0)), some (am_P (3, 0, 0)), some (am_P (30, 0, 0)), some (am_P (1, 0, 0)), some (am_P (2, 0, 0)), some (am_I x5), x6, x7, x8] [am_I s0, am_I s1, am_P (3, 0, 0)] M (am_Z w) = am_cb (call 211 [am_P (3, 0, 0), am_I s1, am_I s0, am_P (1, 0, 0)] M (am_Z w)) fun v M' X' => am_rn call 227 1293 [some (am_P (0, 0, 0)), some (am_P (3, 0, 0)), some (am_P (30, 0, 0)), some (am_P (1, 0, 0)), some (am_P (2, 0, 0)), some (am_I x5), x6, x7, x8] (v.toList ++ []) M' X' := by
  refine Eq.trans (rl_aloadn (j := 3) (by decide +kernel) rfl) ?_
  refine Eq.trans (rl_invS (ix := 187) (n := 4) (k := 1) 211 [am_P (3, 0, 0), am_I s1, am_I s0, am_P (1, 0, 0)] [] (by decide +kernel) (by decide +kernel) (by decide) (by decide +kernel) ⟨rfl, rfl⟩ rfl rfl) ?_
  rfl
theorem b227_1293 {x5 s0 : Int32} {x6 x7 x8 : Option am_V} {M : am_M} {w : am_W4}  : am_rn call 227 1293 [some (am_P (0, 0, 0)), some (am_P (3, 0, 0)), some (am_P (30, 0, 0)), some (am_P (1, 0, 0)), some (am_P (2, 0, 0)), some (am_I x5), x6, x7, x8] [am_I s0] M (am_Z w) = if am_in (x5 + (nI 1)) (M (0, 0, 1) 0).toNatClampNeg then if am_in (x5 + (nI 2)) (M (0, 0, 1) 0).toNatClampNeg then if (M (0, 0, 0) (x5 + (nI 2)).toNatClampNeg) = 0 then am_rn call 227 1316 [some (am_P (0, 0, 0)), some (am_P (3, 0, 0)), some (am_P (30, 0, 0)), some (am_P (1, 0, 0)), some (am_P (2, 0, 0)), some (am_I x5), some (am_I s0), x7, x8] [am_I (nI 0), am_I (M (0, 0, 0) (x5 + (nI 1)).toNatClampNeg), am_P (30, 0, 0)] M (am_Z w) else am_rn call 227 1316 [some (am_P (0, 0, 0)), some (am_P (3, 0, 0)), some (am_P (30, 0, 0)), some (am_P (1, 0, 0)), some (am_P (2, 0, 0)), some (am_I x5), some (am_I s0), x7, x8] [am_I (nI 1), am_I (M (0, 0, 0) (x5 + (nI 1)).toNatClampNeg), am_P (30, 0, 0)] M (am_Z w) else none else none := by
  refine Eq.trans (rl_istore (j := 6) (ls' := [some (am_P (0, 0, 0)), some (am_P (3, 0, 0)), some (am_P (30, 0, 0)), some (am_P (1, 0, 0)), some (am_P (2, 0, 0)), some (am_I x5), some (am_I s0), x7, x8]) (by decide +kernel) rfl rfl) ?_
  refine Eq.trans (rl_aloadn (j := 2) (by decide +kernel) rfl) ?_
  refine Eq.trans (rl_aloadn (j := 0) (by decide +kernel) rfl) ?_
  refine Eq.trans (rl_iload (j := 5) (by decide +kernel) rfl) ?_
  refine Eq.trans (rl_iconst (c := 1) (k := (nI 1)) (by decide +kernel) (by decide)) ?_
  refine Eq.trans (rl_iadd (by decide +kernel)) ?_
  refine Eq.trans (rl_sald (by decide +kernel)) ?_
  refine am_ite (fun h_1 => ?_) (fun _ => rfl)
  refine Eq.trans (rl_aloadn (j := 0) (by decide +kernel) rfl) ?_
  refine Eq.trans (rl_iload (j := 5) (by decide +kernel) rfl) ?_
  refine Eq.trans (rl_iconst (c := 2) (k := (nI 2)) (by decide +kernel) (by decide)) ?_
  refine Eq.trans (rl_iadd (by decide +kernel)) ?_
  refine Eq.trans (rl_sald (by decide +kernel)) ?_
  refine am_ite (fun h_2 => ?_) (fun _ => rfl)
  refine Eq.trans (rl_ifeq (o := 7) 1315 (by decide +kernel) (by decide)) ?_
  refine am_ite (fun h_3 => ?_) (fun h_3 => ?_)
  · skip
    refine Eq.trans (rl_iconst (c := 0) (k := (nI 0)) (by decide +kernel) (by decide)) ?_
    rfl
  · skip
    refine Eq.trans (rl_iconst (c := 1) (k := (nI 1)) (by decide +kernel) (by decide)) ?_
    refine Eq.trans (rl_goto (o := 4) 1316 (by decide +kernel) (by decide)) ?_
    rfl
theorem b227_1316 {x5 x6 s0 s1 : Int32} {x7 x8 : Option am_V} {M : am_M} {w : am_W4}  : am_rn call 227 1316 [some (am_P (0, 0, 0)), some (am_P (3, 0, 0)), some (am_P (30, 0, 0)), some (am_P (1, 0, 0)), some (am_P (2, 0, 0)), some (am_I x5), some (am_I x6), x7, x8] [am_I s0, am_I s1, am_P (30, 0, 0)] M (am_Z w) = am_cb (call 165 [am_P (30, 0, 0), am_I s1, am_I s0] M (am_Z w)) fun v M' X' => am_rn call 227 1319 [some (am_P (0, 0, 0)), some (am_P (3, 0, 0)), some (am_P (30, 0, 0)), some (am_P (1, 0, 0)), some (am_P (2, 0, 0)), some (am_I x5), some (am_I x6), x7, x8] (v.toList ++ []) M' X' := by
  refine Eq.trans (rl_inv (ix := 190) (n := 2) (o := 9) 165 [am_I s1, am_I s0] [] (by decide +kernel) (by decide +kernel) (by decide +kernel) (by decide +kernel) ⟨rfl, rfl⟩ rfl rfl ck30) ?_
  rfl
theorem b227_1319 {x5 x6 s0 : Int32} {x7 x8 : Option am_V} {M : am_M} {w : am_W4}  : am_rn call 227 1319 [some (am_P (0, 0, 0)), some (am_P (3, 0, 0)), some (am_P (30, 0, 0)), some (am_P (1, 0, 0)), some (am_P (2, 0, 0)), some (am_I x5), some (am_I x6), x7, x8] [am_I s0] M (am_Z w) = am_cb (call 114 [am_P (30, 0, 0)] M (am_Z w)) fun v M' X' => am_rn call 227 1325 [some (am_P (0, 0, 0)), some (am_P (3, 0, 0)), some (am_P (30, 0, 0)), some (am_P (1, 0, 0)), some (am_P (2, 0, 0)), some (am_I x5), some (am_I x6), some (am_I s0), x8] (v.toList ++ []) M' X' := by
  refine Eq.trans (rl_istore (j := 7) (ls' := [some (am_P (0, 0, 0)), some (am_P (3, 0, 0)), some (am_P (30, 0, 0)), some (am_P (1, 0, 0)), some (am_P (2, 0, 0)), some (am_I x5), some (am_I x6), some (am_I s0), x8]) (by decide +kernel) rfl rfl) ?_
  refine Eq.trans (rl_aloadn (j := 2) (by decide +kernel) rfl) ?_
  refine Eq.trans (rl_inv (ix := 137) (n := 0) (o := 9) 114 [] [] (by decide +kernel) (by decide +kernel) (by decide +kernel) (by decide +kernel) ⟨rfl, rfl⟩ rfl rfl ck30) ?_
  rfl
theorem b227_1325 {x5 x6 x7 s0 : Int32} {x8 : Option am_V} {M : am_M} {w : am_W4}  : am_rn call 227 1325 [some (am_P (0, 0, 0)), some (am_P (3, 0, 0)), some (am_P (30, 0, 0)), some (am_P (1, 0, 0)), some (am_P (2, 0, 0)), some (am_I x5), some (am_I x6), some (am_I x7), x8] [am_I s0] M (am_Z w) = if s0 = x6 then if x6 = 0 then if (lg_cmp w.2.2.1 x7.toInt64) = 0 then am_rn call 227 1349 [some (am_P (0, 0, 0)), some (am_P (3, 0, 0)), some (am_P (30, 0, 0)), some (am_P (1, 0, 0)), some (am_P (2, 0, 0)), some (am_I x5), some (am_I x6), some (am_I x7), x8] [] M (am_Z w) else some (.inl (some (am_I (nI 0))), M, (am_Z w)) else am_rn call 227 1349 [some (am_P (0, 0, 0)), some (am_P (3, 0, 0)), some (am_P (30, 0, 0)), some (am_P (1, 0, 0)), some (am_P (2, 0, 0)), some (am_I x5), some (am_I x6), some (am_I x7), x8] [] M (am_Z w) else some (.inl (some (am_I (nI 0))), M, (am_Z w)) := by
  refine Eq.trans (rl_iload (j := 6) (by decide +kernel) rfl) ?_
  refine Eq.trans (rl_iceq (o := 5) 1332 (by decide +kernel) (by decide)) ?_
  refine am_ite (fun h_1 => ?_) (fun h_1 => ?_)
  · skip
    refine Eq.trans (rl_iload (j := 6) (by decide +kernel) rfl) ?_
    refine Eq.trans (rl_ifne (o := 15) 1349 (by decide +kernel) (by decide)) ?_
    refine am_ite (fun h_2 => ?_) (fun h_2 => ?_)
    · skip
      refine Eq.trans (rl_aloadn (j := 3) (by decide +kernel) rfl) ?_
      refine Eq.trans (rl_iconst (c := 0) (k := (nI 0)) (by decide +kernel) (by decide)) ?_
      refine Eq.trans (rl_lald (by decide +kernel)) ?_
      refine Eq.trans (rl_iload (j := 7) (by decide +kernel) rfl) ?_
      refine Eq.trans (rl_i2l (by decide +kernel)) ?_
      refine Eq.trans (rl_lcmp (by decide +kernel)) ?_
      refine Eq.trans (rl_ifeq (o := 5) 1349 (by decide +kernel) (by decide)) ?_
      refine am_ite (fun h_3 => ?_) (fun h_3 => ?_)
      · skip
        rfl
      · skip
        refine Eq.trans (rl_iconst (c := 0) (k := (nI 0)) (by decide +kernel) (by decide)) ?_
        exact rl_zretk (by decide +kernel) rfl rfl
    · skip
      rfl
  · skip
    refine Eq.trans (rl_iconst (c := 0) (k := (nI 0)) (by decide +kernel) (by decide)) ?_
    exact rl_zretk (by decide +kernel) rfl rfl
theorem b227_1349 {x5 x6 x7 : Int32} {x8 : Option am_V} {M : am_M} {w : am_W4}  : am_rn call 227 1349 [some (am_P (0, 0, 0)), some (am_P (3, 0, 0)), some (am_P (30, 0, 0)), some (am_P (1, 0, 0)), some (am_P (2, 0, 0)), some (am_I x5), some (am_I x6), some (am_I x7), x8] [] M (am_Z w) = am_rn call 227 2276 [some (am_P (0, 0, 0)), some (am_P (3, 0, 0)), some (am_P (30, 0, 0)), some (am_P (1, 0, 0)), some (am_P (2, 0, 0)), some (am_I x5), some (am_I x6), some (am_I x7), x8] [] M (am_Z w) := by
  refine Eq.trans (rl_goto (o := 927) 2276 (by decide +kernel) (by decide)) ?_
  rfl
theorem b227_1352 {x5 : Int32} {x6 x7 x8 : Option am_V} {M : am_M} {w : am_W4}  : am_rn call 227 1352 [some (am_P (0, 0, 0)), some (am_P (3, 0, 0)), some (am_P (30, 0, 0)), some (am_P (1, 0, 0)), some (am_P (2, 0, 0)), some (am_I x5), x6, x7, x8] [] M (am_Z w) = if am_in (x5 + (nI 1)) (M (0, 0, 1) 0).toNatClampNeg then if am_in (x5 + (nI 2)) (M (0, 0, 1) 0).toNatClampNeg then if (M (0, 0, 0) (x5 + (nI 2)).toNatClampNeg) = 0 then am_rn call 227 1373 [some (am_P (0, 0, 0)), some (am_P (3, 0, 0)), some (am_P (30, 0, 0)), some (am_P (1, 0, 0)), some (am_P (2, 0, 0)), some (am_I x5), x6, x7, x8] [am_I (nI 0), am_I (M (0, 0, 0) (x5 + (nI 1)).toNatClampNeg), am_P (3, 0, 0)] M (am_Z w) else am_rn call 227 1373 [some (am_P (0, 0, 0)), some (am_P (3, 0, 0)), some (am_P (30, 0, 0)), some (am_P (1, 0, 0)), some (am_P (2, 0, 0)), some (am_I x5), x6, x7, x8] [am_I (nI 1), am_I (M (0, 0, 0) (x5 + (nI 1)).toNatClampNeg), am_P (3, 0, 0)] M (am_Z w) else none else none := by
  refine Eq.trans (rl_aloadn (j := 1) (by decide +kernel) rfl) ?_
  refine Eq.trans (rl_aloadn (j := 0) (by decide +kernel) rfl) ?_
  refine Eq.trans (rl_iload (j := 5) (by decide +kernel) rfl) ?_
  refine Eq.trans (rl_iconst (c := 1) (k := (nI 1)) (by decide +kernel) (by decide)) ?_
  refine Eq.trans (rl_iadd (by decide +kernel)) ?_
  refine Eq.trans (rl_sald (by decide +kernel)) ?_
  refine am_ite (fun h_1 => ?_) (fun _ => rfl)
  refine Eq.trans (rl_aloadn (j := 0) (by decide +kernel) rfl) ?_
  refine Eq.trans (rl_iload (j := 5) (by decide +kernel) rfl) ?_
  refine Eq.trans (rl_iconst (c := 2) (k := (nI 2)) (by decide +kernel) (by decide)) ?_
  refine Eq.trans (rl_iadd (by decide +kernel)) ?_
  refine Eq.trans (rl_sald (by decide +kernel)) ?_
  refine am_ite (fun h_2 => ?_) (fun _ => rfl)
  refine Eq.trans (rl_ifeq (o := 7) 1372 (by decide +kernel) (by decide)) ?_
  refine am_ite (fun h_3 => ?_) (fun h_3 => ?_)
  · skip
    refine Eq.trans (rl_iconst (c := 0) (k := (nI 0)) (by decide +kernel) (by decide)) ?_
    rfl
  · skip
    refine Eq.trans (rl_iconst (c := 1) (k := (nI 1)) (by decide +kernel) (by decide)) ?_
    refine Eq.trans (rl_goto (o := 4) 1373 (by decide +kernel) (by decide)) ?_
    rfl
theorem b227_1373 {x5 s0 s1 : Int32} {x6 x7 x8 : Option am_V} {M : am_M} {w : am_W4}  : am_rn call 227 1373 [some (am_P (0, 0, 0)), some (am_P (3, 0, 0)), some (am_P (30, 0, 0)), some (am_P (1, 0, 0)), some (am_P (2, 0, 0)), some (am_I x5), x6, x7, x8] [am_I s0, am_I s1, am_P (3, 0, 0)] M (am_Z w) = am_cb (call 212 [am_P (3, 0, 0), am_I s1, am_I s0, am_P (1, 0, 0)] M (am_Z w)) fun v M' X' => am_rn call 227 1377 [some (am_P (0, 0, 0)), some (am_P (3, 0, 0)), some (am_P (30, 0, 0)), some (am_P (1, 0, 0)), some (am_P (2, 0, 0)), some (am_I x5), x6, x7, x8] (v.toList ++ []) M' X' := by
  refine Eq.trans (rl_aloadn (j := 3) (by decide +kernel) rfl) ?_
  refine Eq.trans (rl_invS (ix := 191) (n := 4) (k := 1) 212 [am_P (3, 0, 0), am_I s1, am_I s0, am_P (1, 0, 0)] [] (by decide +kernel) (by decide +kernel) (by decide) (by decide +kernel) ⟨rfl, rfl⟩ rfl rfl) ?_
  rfl
theorem b227_1377 {x5 s0 : Int32} {x6 x7 x8 : Option am_V} {M : am_M} {w : am_W4}  : am_rn call 227 1377 [some (am_P (0, 0, 0)), some (am_P (3, 0, 0)), some (am_P (30, 0, 0)), some (am_P (1, 0, 0)), some (am_P (2, 0, 0)), some (am_I x5), x6, x7, x8] [am_I s0] M (am_Z w) = if am_in (x5 + (nI 1)) (M (0, 0, 1) 0).toNatClampNeg then if am_in (x5 + (nI 2)) (M (0, 0, 1) 0).toNatClampNeg then if (M (0, 0, 0) (x5 + (nI 2)).toNatClampNeg) = 0 then am_rn call 227 1400 [some (am_P (0, 0, 0)), some (am_P (3, 0, 0)), some (am_P (30, 0, 0)), some (am_P (1, 0, 0)), some (am_P (2, 0, 0)), some (am_I x5), some (am_I s0), x7, x8] [am_I (nI 0), am_I (M (0, 0, 0) (x5 + (nI 1)).toNatClampNeg), am_P (30, 0, 0)] M (am_Z w) else am_rn call 227 1400 [some (am_P (0, 0, 0)), some (am_P (3, 0, 0)), some (am_P (30, 0, 0)), some (am_P (1, 0, 0)), some (am_P (2, 0, 0)), some (am_I x5), some (am_I s0), x7, x8] [am_I (nI 1), am_I (M (0, 0, 0) (x5 + (nI 1)).toNatClampNeg), am_P (30, 0, 0)] M (am_Z w) else none else none := by
  refine Eq.trans (rl_istore (j := 6) (ls' := [some (am_P (0, 0, 0)), some (am_P (3, 0, 0)), some (am_P (30, 0, 0)), some (am_P (1, 0, 0)), some (am_P (2, 0, 0)), some (am_I x5), some (am_I s0), x7, x8]) (by decide +kernel) rfl rfl) ?_
  refine Eq.trans (rl_aloadn (j := 2) (by decide +kernel) rfl) ?_
  refine Eq.trans (rl_aloadn (j := 0) (by decide +kernel) rfl) ?_
  refine Eq.trans (rl_iload (j := 5) (by decide +kernel) rfl) ?_
  refine Eq.trans (rl_iconst (c := 1) (k := (nI 1)) (by decide +kernel) (by decide)) ?_
  refine Eq.trans (rl_iadd (by decide +kernel)) ?_
  refine Eq.trans (rl_sald (by decide +kernel)) ?_
  refine am_ite (fun h_1 => ?_) (fun _ => rfl)
  refine Eq.trans (rl_aloadn (j := 0) (by decide +kernel) rfl) ?_
  refine Eq.trans (rl_iload (j := 5) (by decide +kernel) rfl) ?_
  refine Eq.trans (rl_iconst (c := 2) (k := (nI 2)) (by decide +kernel) (by decide)) ?_
  refine Eq.trans (rl_iadd (by decide +kernel)) ?_
  refine Eq.trans (rl_sald (by decide +kernel)) ?_
  refine am_ite (fun h_2 => ?_) (fun _ => rfl)
  refine Eq.trans (rl_ifeq (o := 7) 1399 (by decide +kernel) (by decide)) ?_
  refine am_ite (fun h_3 => ?_) (fun h_3 => ?_)
  · skip
    refine Eq.trans (rl_iconst (c := 0) (k := (nI 0)) (by decide +kernel) (by decide)) ?_
    rfl
  · skip
    refine Eq.trans (rl_iconst (c := 1) (k := (nI 1)) (by decide +kernel) (by decide)) ?_
    refine Eq.trans (rl_goto (o := 4) 1400 (by decide +kernel) (by decide)) ?_
    rfl
theorem b227_1400 {x5 x6 s0 s1 : Int32} {x7 x8 : Option am_V} {M : am_M} {w : am_W4}  : am_rn call 227 1400 [some (am_P (0, 0, 0)), some (am_P (3, 0, 0)), some (am_P (30, 0, 0)), some (am_P (1, 0, 0)), some (am_P (2, 0, 0)), some (am_I x5), some (am_I x6), x7, x8] [am_I s0, am_I s1, am_P (30, 0, 0)] M (am_Z w) = am_cb (call 166 [am_P (30, 0, 0), am_I s1, am_I s0] M (am_Z w)) fun v M' X' => am_rn call 227 1403 [some (am_P (0, 0, 0)), some (am_P (3, 0, 0)), some (am_P (30, 0, 0)), some (am_P (1, 0, 0)), some (am_P (2, 0, 0)), some (am_I x5), some (am_I x6), x7, x8] (v.toList ++ []) M' X' := by
  refine Eq.trans (rl_inv (ix := 193) (n := 2) (o := 9) 166 [am_I s1, am_I s0] [] (by decide +kernel) (by decide +kernel) (by decide +kernel) (by decide +kernel) ⟨rfl, rfl⟩ rfl rfl ck30) ?_
  rfl
theorem b227_1403 {x5 x6 s0 : Int32} {x7 x8 : Option am_V} {M : am_M} {w : am_W4}  : am_rn call 227 1403 [some (am_P (0, 0, 0)), some (am_P (3, 0, 0)), some (am_P (30, 0, 0)), some (am_P (1, 0, 0)), some (am_P (2, 0, 0)), some (am_I x5), some (am_I x6), x7, x8] [am_I s0] M (am_Z w) = am_cb (call 114 [am_P (30, 0, 0)] M (am_Z w)) fun v M' X' => am_rn call 227 1409 [some (am_P (0, 0, 0)), some (am_P (3, 0, 0)), some (am_P (30, 0, 0)), some (am_P (1, 0, 0)), some (am_P (2, 0, 0)), some (am_I x5), some (am_I x6), some (am_I s0), x8] (v.toList ++ []) M' X' := by
  refine Eq.trans (rl_istore (j := 7) (ls' := [some (am_P (0, 0, 0)), some (am_P (3, 0, 0)), some (am_P (30, 0, 0)), some (am_P (1, 0, 0)), some (am_P (2, 0, 0)), some (am_I x5), some (am_I x6), some (am_I s0), x8]) (by decide +kernel) rfl rfl) ?_
  refine Eq.trans (rl_aloadn (j := 2) (by decide +kernel) rfl) ?_
  refine Eq.trans (rl_inv (ix := 137) (n := 0) (o := 9) 114 [] [] (by decide +kernel) (by decide +kernel) (by decide +kernel) (by decide +kernel) ⟨rfl, rfl⟩ rfl rfl ck30) ?_
  rfl
theorem b227_1409 {x5 x6 x7 s0 : Int32} {x8 : Option am_V} {M : am_M} {w : am_W4}  : am_rn call 227 1409 [some (am_P (0, 0, 0)), some (am_P (3, 0, 0)), some (am_P (30, 0, 0)), some (am_P (1, 0, 0)), some (am_P (2, 0, 0)), some (am_I x5), some (am_I x6), some (am_I x7), x8] [am_I s0] M (am_Z w) = if s0 = x6 then if x6 = 0 then if x7 = 0 then am_rn call 227 1434 [some (am_P (0, 0, 0)), some (am_P (3, 0, 0)), some (am_P (30, 0, 0)), some (am_P (1, 0, 0)), some (am_P (2, 0, 0)), some (am_I x5), some (am_I x6), some (am_I x7), x8] [.inl (.long (0 : Int64)), .inl (.long w.2.2.1)] M (am_Z w) else am_rn call 227 1434 [some (am_P (0, 0, 0)), some (am_P (3, 0, 0)), some (am_P (30, 0, 0)), some (am_P (1, 0, 0)), some (am_P (2, 0, 0)), some (am_I x5), some (am_I x6), some (am_I x7), x8] [.inl (.long (1 : Int64)), .inl (.long w.2.2.1)] M (am_Z w) else am_rn call 227 1440 [some (am_P (0, 0, 0)), some (am_P (3, 0, 0)), some (am_P (30, 0, 0)), some (am_P (1, 0, 0)), some (am_P (2, 0, 0)), some (am_I x5), some (am_I x6), some (am_I x7), x8] [] M (am_Z w) else some (.inl (some (am_I (nI 0))), M, (am_Z w)) := by
  refine Eq.trans (rl_iload (j := 6) (by decide +kernel) rfl) ?_
  refine Eq.trans (rl_iceq (o := 5) 1416 (by decide +kernel) (by decide)) ?_
  refine am_ite (fun h_1 => ?_) (fun h_1 => ?_)
  · skip
    refine Eq.trans (rl_iload (j := 6) (by decide +kernel) rfl) ?_
    refine Eq.trans (rl_ifne (o := 22) 1440 (by decide +kernel) (by decide)) ?_
    refine am_ite (fun h_2 => ?_) (fun h_2 => ?_)
    · skip
      refine Eq.trans (rl_aloadn (j := 3) (by decide +kernel) rfl) ?_
      refine Eq.trans (rl_iconst (c := 0) (k := (nI 0)) (by decide +kernel) (by decide)) ?_
      refine Eq.trans (rl_lald (by decide +kernel)) ?_
      refine Eq.trans (rl_iload (j := 7) (by decide +kernel) rfl) ?_
      refine Eq.trans (rl_ifeq (o := 7) 1433 (by decide +kernel) (by decide)) ?_
      refine am_ite (fun h_3 => ?_) (fun h_3 => ?_)
      · skip
        refine Eq.trans (rl_lconst (c := 0) (k := (0 : Int64)) (by decide +kernel) rfl) ?_
        rfl
      · skip
        refine Eq.trans (rl_lconst (c := 1) (k := (1 : Int64)) (by decide +kernel) rfl) ?_
        refine Eq.trans (rl_goto (o := 4) 1434 (by decide +kernel) (by decide)) ?_
        rfl
    · skip
      rfl
  · skip
    refine Eq.trans (rl_iconst (c := 0) (k := (nI 0)) (by decide +kernel) (by decide)) ?_
    exact rl_zretk (by decide +kernel) rfl rfl
theorem b227_1434 {x5 x6 x7 : Int32} {x8 : Option am_V} {s0 s1 : Int64} {M : am_M} {w : am_W4}  : am_rn call 227 1434 [some (am_P (0, 0, 0)), some (am_P (3, 0, 0)), some (am_P (30, 0, 0)), some (am_P (1, 0, 0)), some (am_P (2, 0, 0)), some (am_I x5), some (am_I x6), some (am_I x7), x8] [.inl (.long s0), .inl (.long s1)] M (am_Z w) = if (lg_cmp s1 s0) = 0 then am_rn call 227 1440 [some (am_P (0, 0, 0)), some (am_P (3, 0, 0)), some (am_P (30, 0, 0)), some (am_P (1, 0, 0)), some (am_P (2, 0, 0)), some (am_I x5), some (am_I x6), some (am_I x7), x8] [] M (am_Z w) else some (.inl (some (am_I (nI 0))), M, (am_Z w)) := by
  refine Eq.trans (rl_lcmp (by decide +kernel)) ?_
  refine Eq.trans (rl_ifeq (o := 5) 1440 (by decide +kernel) (by decide)) ?_
  refine am_ite (fun h_1 => ?_) (fun h_1 => ?_)
  · skip
    rfl
  · skip
    refine Eq.trans (rl_iconst (c := 0) (k := (nI 0)) (by decide +kernel) (by decide)) ?_
    exact rl_zretk (by decide +kernel) rfl rfl
theorem b227_1440 {x5 x6 x7 : Int32} {x8 : Option am_V} {M : am_M} {w : am_W4}  : am_rn call 227 1440 [some (am_P (0, 0, 0)), some (am_P (3, 0, 0)), some (am_P (30, 0, 0)), some (am_P (1, 0, 0)), some (am_P (2, 0, 0)), some (am_I x5), some (am_I x6), some (am_I x7), x8] [] M (am_Z w) = am_rn call 227 2276 [some (am_P (0, 0, 0)), some (am_P (3, 0, 0)), some (am_P (30, 0, 0)), some (am_P (1, 0, 0)), some (am_P (2, 0, 0)), some (am_I x5), some (am_I x6), some (am_I x7), x8] [] M (am_Z w) := by
  refine Eq.trans (rl_goto (o := 836) 2276 (by decide +kernel) (by decide)) ?_
  rfl
theorem b227_1443 {x5 : Int32} {x6 x7 x8 : Option am_V} {M : am_M} {w : am_W4}  : am_rn call 227 1443 [some (am_P (0, 0, 0)), some (am_P (3, 0, 0)), some (am_P (30, 0, 0)), some (am_P (1, 0, 0)), some (am_P (2, 0, 0)), some (am_I x5), x6, x7, x8] [] M (am_Z w) = if am_in (x5 + (nI 1)) (M (0, 0, 1) 0).toNatClampNeg then if am_in (x5 + (nI 2)) (M (0, 0, 1) 0).toNatClampNeg then am_cb (call 213 [am_P (3, 0, 0), am_I (M (0, 0, 0) (x5 + (nI 1)).toNatClampNeg), am_I (M (0, 0, 0) (x5 + (nI 2)).toNatClampNeg), am_P (1, 0, 0)] M (am_Z w)) fun v M' X' => am_rn call 227 1460 [some (am_P (0, 0, 0)), some (am_P (3, 0, 0)), some (am_P (30, 0, 0)), some (am_P (1, 0, 0)), some (am_P (2, 0, 0)), some (am_I x5), x6, x7, x8] (v.toList ++ []) M' X' else none else none := by
  refine Eq.trans (rl_aloadn (j := 1) (by decide +kernel) rfl) ?_
  refine Eq.trans (rl_aloadn (j := 0) (by decide +kernel) rfl) ?_
  refine Eq.trans (rl_iload (j := 5) (by decide +kernel) rfl) ?_
  refine Eq.trans (rl_iconst (c := 1) (k := (nI 1)) (by decide +kernel) (by decide)) ?_
  refine Eq.trans (rl_iadd (by decide +kernel)) ?_
  refine Eq.trans (rl_sald (by decide +kernel)) ?_
  refine am_ite (fun h_1 => ?_) (fun _ => rfl)
  refine Eq.trans (rl_aloadn (j := 0) (by decide +kernel) rfl) ?_
  refine Eq.trans (rl_iload (j := 5) (by decide +kernel) rfl) ?_
  refine Eq.trans (rl_iconst (c := 2) (k := (nI 2)) (by decide +kernel) (by decide)) ?_
  refine Eq.trans (rl_iadd (by decide +kernel)) ?_
  refine Eq.trans (rl_sald (by decide +kernel)) ?_
  refine am_ite (fun h_2 => ?_) (fun _ => rfl)
  refine Eq.trans (rl_aloadn (j := 3) (by decide +kernel) rfl) ?_
  refine Eq.trans (rl_invS (ix := 194) (n := 4) (k := 1) 213 [am_P (3, 0, 0), am_I (M (0, 0, 0) (x5 + (nI 1)).toNatClampNeg), am_I (M (0, 0, 0) (x5 + (nI 2)).toNatClampNeg), am_P (1, 0, 0)] [] (by decide +kernel) (by decide +kernel) (by decide) (by decide +kernel) ⟨rfl, rfl⟩ rfl rfl) ?_
  rfl
theorem b227_1460 {x5 s0 : Int32} {x6 x7 x8 : Option am_V} {M : am_M} {w : am_W4}  : am_rn call 227 1460 [some (am_P (0, 0, 0)), some (am_P (3, 0, 0)), some (am_P (30, 0, 0)), some (am_P (1, 0, 0)), some (am_P (2, 0, 0)), some (am_I x5), x6, x7, x8] [am_I s0] M (am_Z w) = if am_in (x5 + (nI 1)) (M (0, 0, 1) 0).toNatClampNeg then if am_in (x5 + (nI 2)) (M (0, 0, 1) 0).toNatClampNeg then am_cb (call 167 [am_P (30, 0, 0), am_I (M (0, 0, 0) (x5 + (nI 1)).toNatClampNeg), am_I (M (0, 0, 0) (x5 + (nI 2)).toNatClampNeg)] M (am_Z w)) fun v M' X' => am_rn call 227 1478 [some (am_P (0, 0, 0)), some (am_P (3, 0, 0)), some (am_P (30, 0, 0)), some (am_P (1, 0, 0)), some (am_P (2, 0, 0)), some (am_I x5), some (am_I s0), x7, x8] (v.toList ++ []) M' X' else none else none := by
  refine Eq.trans (rl_istore (j := 6) (ls' := [some (am_P (0, 0, 0)), some (am_P (3, 0, 0)), some (am_P (30, 0, 0)), some (am_P (1, 0, 0)), some (am_P (2, 0, 0)), some (am_I x5), some (am_I s0), x7, x8]) (by decide +kernel) rfl rfl) ?_
  refine Eq.trans (rl_aloadn (j := 2) (by decide +kernel) rfl) ?_
  refine Eq.trans (rl_aloadn (j := 0) (by decide +kernel) rfl) ?_
  refine Eq.trans (rl_iload (j := 5) (by decide +kernel) rfl) ?_
  refine Eq.trans (rl_iconst (c := 1) (k := (nI 1)) (by decide +kernel) (by decide)) ?_
  refine Eq.trans (rl_iadd (by decide +kernel)) ?_
  refine Eq.trans (rl_sald (by decide +kernel)) ?_
  refine am_ite (fun h_1 => ?_) (fun _ => rfl)
  refine Eq.trans (rl_aloadn (j := 0) (by decide +kernel) rfl) ?_
  refine Eq.trans (rl_iload (j := 5) (by decide +kernel) rfl) ?_
  refine Eq.trans (rl_iconst (c := 2) (k := (nI 2)) (by decide +kernel) (by decide)) ?_
  refine Eq.trans (rl_iadd (by decide +kernel)) ?_
  refine Eq.trans (rl_sald (by decide +kernel)) ?_
  refine am_ite (fun h_2 => ?_) (fun _ => rfl)
  refine Eq.trans (rl_inv (ix := 196) (n := 2) (o := 9) 167 [am_I (M (0, 0, 0) (x5 + (nI 1)).toNatClampNeg), am_I (M (0, 0, 0) (x5 + (nI 2)).toNatClampNeg)] [] (by decide +kernel) (by decide +kernel) (by decide +kernel) (by decide +kernel) ⟨rfl, rfl⟩ rfl rfl ck30) ?_
  rfl
theorem b227_1478 {x5 x6 s0 : Int32} {x7 x8 : Option am_V} {M : am_M} {w : am_W4}  : am_rn call 227 1478 [some (am_P (0, 0, 0)), some (am_P (3, 0, 0)), some (am_P (30, 0, 0)), some (am_P (1, 0, 0)), some (am_P (2, 0, 0)), some (am_I x5), some (am_I x6), x7, x8] [am_I s0] M (am_Z w) = am_cb (call 114 [am_P (30, 0, 0)] M (am_Z w)) fun v M' X' => am_rn call 227 1484 [some (am_P (0, 0, 0)), some (am_P (3, 0, 0)), some (am_P (30, 0, 0)), some (am_P (1, 0, 0)), some (am_P (2, 0, 0)), some (am_I x5), some (am_I x6), some (am_I s0), x8] (v.toList ++ []) M' X' := by
  refine Eq.trans (rl_istore (j := 7) (ls' := [some (am_P (0, 0, 0)), some (am_P (3, 0, 0)), some (am_P (30, 0, 0)), some (am_P (1, 0, 0)), some (am_P (2, 0, 0)), some (am_I x5), some (am_I x6), some (am_I s0), x8]) (by decide +kernel) rfl rfl) ?_
  refine Eq.trans (rl_aloadn (j := 2) (by decide +kernel) rfl) ?_
  refine Eq.trans (rl_inv (ix := 137) (n := 0) (o := 9) 114 [] [] (by decide +kernel) (by decide +kernel) (by decide +kernel) (by decide +kernel) ⟨rfl, rfl⟩ rfl rfl ck30) ?_
  rfl
theorem b227_1484 {x5 x6 x7 s0 : Int32} {x8 : Option am_V} {M : am_M} {w : am_W4}  : am_rn call 227 1484 [some (am_P (0, 0, 0)), some (am_P (3, 0, 0)), some (am_P (30, 0, 0)), some (am_P (1, 0, 0)), some (am_P (2, 0, 0)), some (am_I x5), some (am_I x6), some (am_I x7), x8] [am_I s0] M (am_Z w) = if s0 = x6 then if x6 = 0 then if (lg_cmp w.2.2.1 x7.toInt64) = 0 then am_rn call 227 1508 [some (am_P (0, 0, 0)), some (am_P (3, 0, 0)), some (am_P (30, 0, 0)), some (am_P (1, 0, 0)), some (am_P (2, 0, 0)), some (am_I x5), some (am_I x6), some (am_I x7), x8] [] M (am_Z w) else some (.inl (some (am_I (nI 0))), M, (am_Z w)) else am_rn call 227 1508 [some (am_P (0, 0, 0)), some (am_P (3, 0, 0)), some (am_P (30, 0, 0)), some (am_P (1, 0, 0)), some (am_P (2, 0, 0)), some (am_I x5), some (am_I x6), some (am_I x7), x8] [] M (am_Z w) else some (.inl (some (am_I (nI 0))), M, (am_Z w)) := by
  refine Eq.trans (rl_iload (j := 6) (by decide +kernel) rfl) ?_
  refine Eq.trans (rl_iceq (o := 5) 1491 (by decide +kernel) (by decide)) ?_
  refine am_ite (fun h_1 => ?_) (fun h_1 => ?_)
  · skip
    refine Eq.trans (rl_iload (j := 6) (by decide +kernel) rfl) ?_
    refine Eq.trans (rl_ifne (o := 15) 1508 (by decide +kernel) (by decide)) ?_
    refine am_ite (fun h_2 => ?_) (fun h_2 => ?_)
    · skip
      refine Eq.trans (rl_aloadn (j := 3) (by decide +kernel) rfl) ?_
      refine Eq.trans (rl_iconst (c := 0) (k := (nI 0)) (by decide +kernel) (by decide)) ?_
      refine Eq.trans (rl_lald (by decide +kernel)) ?_
      refine Eq.trans (rl_iload (j := 7) (by decide +kernel) rfl) ?_
      refine Eq.trans (rl_i2l (by decide +kernel)) ?_
      refine Eq.trans (rl_lcmp (by decide +kernel)) ?_
      refine Eq.trans (rl_ifeq (o := 5) 1508 (by decide +kernel) (by decide)) ?_
      refine am_ite (fun h_3 => ?_) (fun h_3 => ?_)
      · skip
        rfl
      · skip
        refine Eq.trans (rl_iconst (c := 0) (k := (nI 0)) (by decide +kernel) (by decide)) ?_
        exact rl_zretk (by decide +kernel) rfl rfl
    · skip
      rfl
  · skip
    refine Eq.trans (rl_iconst (c := 0) (k := (nI 0)) (by decide +kernel) (by decide)) ?_
    exact rl_zretk (by decide +kernel) rfl rfl
theorem b227_1508 {x5 x6 x7 : Int32} {x8 : Option am_V} {M : am_M} {w : am_W4}  : am_rn call 227 1508 [some (am_P (0, 0, 0)), some (am_P (3, 0, 0)), some (am_P (30, 0, 0)), some (am_P (1, 0, 0)), some (am_P (2, 0, 0)), some (am_I x5), some (am_I x6), some (am_I x7), x8] [] M (am_Z w) = am_rn call 227 2276 [some (am_P (0, 0, 0)), some (am_P (3, 0, 0)), some (am_P (30, 0, 0)), some (am_P (1, 0, 0)), some (am_P (2, 0, 0)), some (am_I x5), some (am_I x6), some (am_I x7), x8] [] M (am_Z w) := by
  refine Eq.trans (rl_goto (o := 768) 2276 (by decide +kernel) (by decide)) ?_
  rfl
theorem b227_1511 {x5 : Int32} {x6 x7 x8 : Option am_V} {M : am_M} {w : am_W4}  : am_rn call 227 1511 [some (am_P (0, 0, 0)), some (am_P (3, 0, 0)), some (am_P (30, 0, 0)), some (am_P (1, 0, 0)), some (am_P (2, 0, 0)), some (am_I x5), x6, x7, x8] [] M (am_Z w) = if am_in (x5 + (nI 1)) (M (0, 0, 1) 0).toNatClampNeg then am_cb (call 214 [am_P (3, 0, 0), am_I (M (0, 0, 0) (x5 + (nI 1)).toNatClampNeg), am_P (1, 0, 0)] M (am_Z w)) fun v M' X' => am_rn call 227 1522 [some (am_P (0, 0, 0)), some (am_P (3, 0, 0)), some (am_P (30, 0, 0)), some (am_P (1, 0, 0)), some (am_P (2, 0, 0)), some (am_I x5), x6, x7, x8] (v.toList ++ []) M' X' else none := by
  refine Eq.trans (rl_aloadn (j := 1) (by decide +kernel) rfl) ?_
  refine Eq.trans (rl_aloadn (j := 0) (by decide +kernel) rfl) ?_
  refine Eq.trans (rl_iload (j := 5) (by decide +kernel) rfl) ?_
  refine Eq.trans (rl_iconst (c := 1) (k := (nI 1)) (by decide +kernel) (by decide)) ?_
  refine Eq.trans (rl_iadd (by decide +kernel)) ?_
  refine Eq.trans (rl_sald (by decide +kernel)) ?_
  refine am_ite (fun h_1 => ?_) (fun _ => rfl)
  refine Eq.trans (rl_aloadn (j := 3) (by decide +kernel) rfl) ?_
  refine Eq.trans (rl_invS (ix := 197) (n := 3) (k := 1) 214 [am_P (3, 0, 0), am_I (M (0, 0, 0) (x5 + (nI 1)).toNatClampNeg), am_P (1, 0, 0)] [] (by decide +kernel) (by decide +kernel) (by decide) (by decide +kernel) ⟨rfl, rfl⟩ rfl rfl) ?_
  rfl
theorem b227_1522 {x5 s0 : Int32} {x6 x7 x8 : Option am_V} {M : am_M} {w : am_W4}  : am_rn call 227 1522 [some (am_P (0, 0, 0)), some (am_P (3, 0, 0)), some (am_P (30, 0, 0)), some (am_P (1, 0, 0)), some (am_P (2, 0, 0)), some (am_I x5), x6, x7, x8] [am_I s0] M (am_Z w) = if am_in (x5 + (nI 1)) (M (0, 0, 1) 0).toNatClampNeg then am_cb (call 169 [am_P (30, 0, 0), am_I (M (0, 0, 0) (x5 + (nI 1)).toNatClampNeg)] M (am_Z w)) fun v M' X' => am_rn call 227 1534 [some (am_P (0, 0, 0)), some (am_P (3, 0, 0)), some (am_P (30, 0, 0)), some (am_P (1, 0, 0)), some (am_P (2, 0, 0)), some (am_I x5), some (am_I s0), x7, x8] (v.toList ++ []) M' X' else none := by
  refine Eq.trans (rl_istore (j := 6) (ls' := [some (am_P (0, 0, 0)), some (am_P (3, 0, 0)), some (am_P (30, 0, 0)), some (am_P (1, 0, 0)), some (am_P (2, 0, 0)), some (am_I x5), some (am_I s0), x7, x8]) (by decide +kernel) rfl rfl) ?_
  refine Eq.trans (rl_aloadn (j := 2) (by decide +kernel) rfl) ?_
  refine Eq.trans (rl_aloadn (j := 0) (by decide +kernel) rfl) ?_
  refine Eq.trans (rl_iload (j := 5) (by decide +kernel) rfl) ?_
  refine Eq.trans (rl_iconst (c := 1) (k := (nI 1)) (by decide +kernel) (by decide)) ?_
  refine Eq.trans (rl_iadd (by decide +kernel)) ?_
  refine Eq.trans (rl_sald (by decide +kernel)) ?_
  refine am_ite (fun h_1 => ?_) (fun _ => rfl)
  refine Eq.trans (rl_inv (ix := 199) (n := 1) (o := 9) 169 [am_I (M (0, 0, 0) (x5 + (nI 1)).toNatClampNeg)] [] (by decide +kernel) (by decide +kernel) (by decide +kernel) (by decide +kernel) ⟨rfl, rfl⟩ rfl rfl ck30) ?_
  rfl
theorem b227_1534 {x5 x6 s0 : Int32} {x7 x8 : Option am_V} {M : am_M} {w : am_W4}  : am_rn call 227 1534 [some (am_P (0, 0, 0)), some (am_P (3, 0, 0)), some (am_P (30, 0, 0)), some (am_P (1, 0, 0)), some (am_P (2, 0, 0)), some (am_I x5), some (am_I x6), x7, x8] [am_I s0] M (am_Z w) = am_cb (call 114 [am_P (30, 0, 0)] M (am_Z w)) fun v M' X' => am_rn call 227 1540 [some (am_P (0, 0, 0)), some (am_P (3, 0, 0)), some (am_P (30, 0, 0)), some (am_P (1, 0, 0)), some (am_P (2, 0, 0)), some (am_I x5), some (am_I x6), some (am_I s0), x8] (v.toList ++ []) M' X' := by
  refine Eq.trans (rl_istore (j := 7) (ls' := [some (am_P (0, 0, 0)), some (am_P (3, 0, 0)), some (am_P (30, 0, 0)), some (am_P (1, 0, 0)), some (am_P (2, 0, 0)), some (am_I x5), some (am_I x6), some (am_I s0), x8]) (by decide +kernel) rfl rfl) ?_
  refine Eq.trans (rl_aloadn (j := 2) (by decide +kernel) rfl) ?_
  refine Eq.trans (rl_inv (ix := 137) (n := 0) (o := 9) 114 [] [] (by decide +kernel) (by decide +kernel) (by decide +kernel) (by decide +kernel) ⟨rfl, rfl⟩ rfl rfl ck30) ?_
  rfl
theorem b227_1540 {x5 x6 x7 s0 : Int32} {x8 : Option am_V} {M : am_M} {w : am_W4}  : am_rn call 227 1540 [some (am_P (0, 0, 0)), some (am_P (3, 0, 0)), some (am_P (30, 0, 0)), some (am_P (1, 0, 0)), some (am_P (2, 0, 0)), some (am_I x5), some (am_I x6), some (am_I x7), x8] [am_I s0] M (am_Z w) = if s0 = x6 then if x6 = 0 then if (lg_cmp w.2.2.1 x7.toInt64) = 0 then am_rn call 227 1564 [some (am_P (0, 0, 0)), some (am_P (3, 0, 0)), some (am_P (30, 0, 0)), some (am_P (1, 0, 0)), some (am_P (2, 0, 0)), some (am_I x5), some (am_I x6), some (am_I x7), x8] [] M (am_Z w) else some (.inl (some (am_I (nI 0))), M, (am_Z w)) else am_rn call 227 1564 [some (am_P (0, 0, 0)), some (am_P (3, 0, 0)), some (am_P (30, 0, 0)), some (am_P (1, 0, 0)), some (am_P (2, 0, 0)), some (am_I x5), some (am_I x6), some (am_I x7), x8] [] M (am_Z w) else some (.inl (some (am_I (nI 0))), M, (am_Z w)) := by
  refine Eq.trans (rl_iload (j := 6) (by decide +kernel) rfl) ?_
  refine Eq.trans (rl_iceq (o := 5) 1547 (by decide +kernel) (by decide)) ?_
  refine am_ite (fun h_1 => ?_) (fun h_1 => ?_)
  · skip
    refine Eq.trans (rl_iload (j := 6) (by decide +kernel) rfl) ?_
    refine Eq.trans (rl_ifne (o := 15) 1564 (by decide +kernel) (by decide)) ?_
    refine am_ite (fun h_2 => ?_) (fun h_2 => ?_)
    · skip
      refine Eq.trans (rl_aloadn (j := 3) (by decide +kernel) rfl) ?_
      refine Eq.trans (rl_iconst (c := 0) (k := (nI 0)) (by decide +kernel) (by decide)) ?_
      refine Eq.trans (rl_lald (by decide +kernel)) ?_
      refine Eq.trans (rl_iload (j := 7) (by decide +kernel) rfl) ?_
      refine Eq.trans (rl_i2l (by decide +kernel)) ?_
      refine Eq.trans (rl_lcmp (by decide +kernel)) ?_
      refine Eq.trans (rl_ifeq (o := 5) 1564 (by decide +kernel) (by decide)) ?_
      refine am_ite (fun h_3 => ?_) (fun h_3 => ?_)
      · skip
        rfl
      · skip
        refine Eq.trans (rl_iconst (c := 0) (k := (nI 0)) (by decide +kernel) (by decide)) ?_
        exact rl_zretk (by decide +kernel) rfl rfl
    · skip
      rfl
  · skip
    refine Eq.trans (rl_iconst (c := 0) (k := (nI 0)) (by decide +kernel) (by decide)) ?_
    exact rl_zretk (by decide +kernel) rfl rfl
theorem b227_1564 {x5 x6 x7 : Int32} {x8 : Option am_V} {M : am_M} {w : am_W4}  : am_rn call 227 1564 [some (am_P (0, 0, 0)), some (am_P (3, 0, 0)), some (am_P (30, 0, 0)), some (am_P (1, 0, 0)), some (am_P (2, 0, 0)), some (am_I x5), some (am_I x6), some (am_I x7), x8] [] M (am_Z w) = am_rn call 227 2276 [some (am_P (0, 0, 0)), some (am_P (3, 0, 0)), some (am_P (30, 0, 0)), some (am_P (1, 0, 0)), some (am_P (2, 0, 0)), some (am_I x5), some (am_I x6), some (am_I x7), x8] [] M (am_Z w) := by
  refine Eq.trans (rl_goto (o := 712) 2276 (by decide +kernel) (by decide)) ?_
  rfl
theorem b227_1567 {x5 : Int32} {x6 x7 x8 : Option am_V} {M : am_M} {w : am_W4}  : am_rn call 227 1567 [some (am_P (0, 0, 0)), some (am_P (3, 0, 0)), some (am_P (30, 0, 0)), some (am_P (1, 0, 0)), some (am_P (2, 0, 0)), some (am_I x5), x6, x7, x8] [] M (am_Z w) = if am_in (x5 + (nI 1)) (M (0, 0, 1) 0).toNatClampNeg then am_cb (call 215 [am_P (3, 0, 0), am_I (M (0, 0, 0) (x5 + (nI 1)).toNatClampNeg), am_P (1, 0, 0)] M (am_Z w)) fun v M' X' => am_rn call 227 1578 [some (am_P (0, 0, 0)), some (am_P (3, 0, 0)), some (am_P (30, 0, 0)), some (am_P (1, 0, 0)), some (am_P (2, 0, 0)), some (am_I x5), x6, x7, x8] (v.toList ++ []) M' X' else none := by
  refine Eq.trans (rl_aloadn (j := 1) (by decide +kernel) rfl) ?_
  refine Eq.trans (rl_aloadn (j := 0) (by decide +kernel) rfl) ?_
  refine Eq.trans (rl_iload (j := 5) (by decide +kernel) rfl) ?_
  refine Eq.trans (rl_iconst (c := 1) (k := (nI 1)) (by decide +kernel) (by decide)) ?_
  refine Eq.trans (rl_iadd (by decide +kernel)) ?_
  refine Eq.trans (rl_sald (by decide +kernel)) ?_
  refine am_ite (fun h_1 => ?_) (fun _ => rfl)
  refine Eq.trans (rl_aloadn (j := 3) (by decide +kernel) rfl) ?_
  refine Eq.trans (rl_invS (ix := 200) (n := 3) (k := 1) 215 [am_P (3, 0, 0), am_I (M (0, 0, 0) (x5 + (nI 1)).toNatClampNeg), am_P (1, 0, 0)] [] (by decide +kernel) (by decide +kernel) (by decide) (by decide +kernel) ⟨rfl, rfl⟩ rfl rfl) ?_
  rfl
theorem b227_1578 {x5 s0 : Int32} {x6 x7 x8 : Option am_V} {M : am_M} {w : am_W4}  : am_rn call 227 1578 [some (am_P (0, 0, 0)), some (am_P (3, 0, 0)), some (am_P (30, 0, 0)), some (am_P (1, 0, 0)), some (am_P (2, 0, 0)), some (am_I x5), x6, x7, x8] [am_I s0] M (am_Z w) = if am_in (x5 + (nI 1)) (M (0, 0, 1) 0).toNatClampNeg then am_cb (call 170 [am_P (30, 0, 0), am_I (M (0, 0, 0) (x5 + (nI 1)).toNatClampNeg)] M (am_Z w)) fun v M' X' => am_rn call 227 1590 [some (am_P (0, 0, 0)), some (am_P (3, 0, 0)), some (am_P (30, 0, 0)), some (am_P (1, 0, 0)), some (am_P (2, 0, 0)), some (am_I x5), some (am_I s0), x7, x8] (v.toList ++ []) M' X' else none := by
  refine Eq.trans (rl_istore (j := 6) (ls' := [some (am_P (0, 0, 0)), some (am_P (3, 0, 0)), some (am_P (30, 0, 0)), some (am_P (1, 0, 0)), some (am_P (2, 0, 0)), some (am_I x5), some (am_I s0), x7, x8]) (by decide +kernel) rfl rfl) ?_
  refine Eq.trans (rl_aloadn (j := 2) (by decide +kernel) rfl) ?_
  refine Eq.trans (rl_aloadn (j := 0) (by decide +kernel) rfl) ?_
  refine Eq.trans (rl_iload (j := 5) (by decide +kernel) rfl) ?_
  refine Eq.trans (rl_iconst (c := 1) (k := (nI 1)) (by decide +kernel) (by decide)) ?_
  refine Eq.trans (rl_iadd (by decide +kernel)) ?_
  refine Eq.trans (rl_sald (by decide +kernel)) ?_
  refine am_ite (fun h_1 => ?_) (fun _ => rfl)
  refine Eq.trans (rl_inv (ix := 202) (n := 1) (o := 9) 170 [am_I (M (0, 0, 0) (x5 + (nI 1)).toNatClampNeg)] [] (by decide +kernel) (by decide +kernel) (by decide +kernel) (by decide +kernel) ⟨rfl, rfl⟩ rfl rfl ck30) ?_
  rfl
theorem b227_1590 {x5 x6 s0 : Int32} {x7 x8 : Option am_V} {M : am_M} {w : am_W4}  : am_rn call 227 1590 [some (am_P (0, 0, 0)), some (am_P (3, 0, 0)), some (am_P (30, 0, 0)), some (am_P (1, 0, 0)), some (am_P (2, 0, 0)), some (am_I x5), some (am_I x6), x7, x8] [am_I s0] M (am_Z w) = am_cb (call 114 [am_P (30, 0, 0)] M (am_Z w)) fun v M' X' => am_rn call 227 1596 [some (am_P (0, 0, 0)), some (am_P (3, 0, 0)), some (am_P (30, 0, 0)), some (am_P (1, 0, 0)), some (am_P (2, 0, 0)), some (am_I x5), some (am_I x6), some (am_I s0), x8] (v.toList ++ []) M' X' := by
  refine Eq.trans (rl_istore (j := 7) (ls' := [some (am_P (0, 0, 0)), some (am_P (3, 0, 0)), some (am_P (30, 0, 0)), some (am_P (1, 0, 0)), some (am_P (2, 0, 0)), some (am_I x5), some (am_I x6), some (am_I s0), x8]) (by decide +kernel) rfl rfl) ?_
  refine Eq.trans (rl_aloadn (j := 2) (by decide +kernel) rfl) ?_
  refine Eq.trans (rl_inv (ix := 137) (n := 0) (o := 9) 114 [] [] (by decide +kernel) (by decide +kernel) (by decide +kernel) (by decide +kernel) ⟨rfl, rfl⟩ rfl rfl ck30) ?_
  rfl
theorem b227_1596 {x5 x6 x7 s0 : Int32} {x8 : Option am_V} {M : am_M} {w : am_W4}  : am_rn call 227 1596 [some (am_P (0, 0, 0)), some (am_P (3, 0, 0)), some (am_P (30, 0, 0)), some (am_P (1, 0, 0)), some (am_P (2, 0, 0)), some (am_I x5), some (am_I x6), some (am_I x7), x8] [am_I s0] M (am_Z w) = if s0 = x6 then if x6 = 0 then if (lg_cmp w.2.2.1 x7.toInt64) = 0 then am_rn call 227 1620 [some (am_P (0, 0, 0)), some (am_P (3, 0, 0)), some (am_P (30, 0, 0)), some (am_P (1, 0, 0)), some (am_P (2, 0, 0)), some (am_I x5), some (am_I x6), some (am_I x7), x8] [] M (am_Z w) else some (.inl (some (am_I (nI 0))), M, (am_Z w)) else am_rn call 227 1620 [some (am_P (0, 0, 0)), some (am_P (3, 0, 0)), some (am_P (30, 0, 0)), some (am_P (1, 0, 0)), some (am_P (2, 0, 0)), some (am_I x5), some (am_I x6), some (am_I x7), x8] [] M (am_Z w) else some (.inl (some (am_I (nI 0))), M, (am_Z w)) := by
  refine Eq.trans (rl_iload (j := 6) (by decide +kernel) rfl) ?_
  refine Eq.trans (rl_iceq (o := 5) 1603 (by decide +kernel) (by decide)) ?_
  refine am_ite (fun h_1 => ?_) (fun h_1 => ?_)
  · skip
    refine Eq.trans (rl_iload (j := 6) (by decide +kernel) rfl) ?_
    refine Eq.trans (rl_ifne (o := 15) 1620 (by decide +kernel) (by decide)) ?_
    refine am_ite (fun h_2 => ?_) (fun h_2 => ?_)
    · skip
      refine Eq.trans (rl_aloadn (j := 3) (by decide +kernel) rfl) ?_
      refine Eq.trans (rl_iconst (c := 0) (k := (nI 0)) (by decide +kernel) (by decide)) ?_
      refine Eq.trans (rl_lald (by decide +kernel)) ?_
      refine Eq.trans (rl_iload (j := 7) (by decide +kernel) rfl) ?_
      refine Eq.trans (rl_i2l (by decide +kernel)) ?_
      refine Eq.trans (rl_lcmp (by decide +kernel)) ?_
      refine Eq.trans (rl_ifeq (o := 5) 1620 (by decide +kernel) (by decide)) ?_
      refine am_ite (fun h_3 => ?_) (fun h_3 => ?_)
      · skip
        rfl
      · skip
        refine Eq.trans (rl_iconst (c := 0) (k := (nI 0)) (by decide +kernel) (by decide)) ?_
        exact rl_zretk (by decide +kernel) rfl rfl
    · skip
      rfl
  · skip
    refine Eq.trans (rl_iconst (c := 0) (k := (nI 0)) (by decide +kernel) (by decide)) ?_
    exact rl_zretk (by decide +kernel) rfl rfl
theorem b227_1620 {x5 x6 x7 : Int32} {x8 : Option am_V} {M : am_M} {w : am_W4}  : am_rn call 227 1620 [some (am_P (0, 0, 0)), some (am_P (3, 0, 0)), some (am_P (30, 0, 0)), some (am_P (1, 0, 0)), some (am_P (2, 0, 0)), some (am_I x5), some (am_I x6), some (am_I x7), x8] [] M (am_Z w) = am_rn call 227 2276 [some (am_P (0, 0, 0)), some (am_P (3, 0, 0)), some (am_P (30, 0, 0)), some (am_P (1, 0, 0)), some (am_P (2, 0, 0)), some (am_I x5), some (am_I x6), some (am_I x7), x8] [] M (am_Z w) := by
  refine Eq.trans (rl_goto (o := 656) 2276 (by decide +kernel) (by decide)) ?_
  rfl
theorem b227_1623 {x5 : Int32} {x6 x7 x8 : Option am_V} {M : am_M} {w : am_W4}  : am_rn call 227 1623 [some (am_P (0, 0, 0)), some (am_P (3, 0, 0)), some (am_P (30, 0, 0)), some (am_P (1, 0, 0)), some (am_P (2, 0, 0)), some (am_I x5), x6, x7, x8] [] M (am_Z w) = if am_in (x5 + (nI 1)) (M (0, 0, 1) 0).toNatClampNeg then am_cb (call 216 [am_P (3, 0, 0), am_I (M (0, 0, 0) (x5 + (nI 1)).toNatClampNeg), am_P (1, 0, 0)] M (am_Z w)) fun v M' X' => am_rn call 227 1634 [some (am_P (0, 0, 0)), some (am_P (3, 0, 0)), some (am_P (30, 0, 0)), some (am_P (1, 0, 0)), some (am_P (2, 0, 0)), some (am_I x5), x6, x7, x8] (v.toList ++ []) M' X' else none := by
  refine Eq.trans (rl_aloadn (j := 1) (by decide +kernel) rfl) ?_
  refine Eq.trans (rl_aloadn (j := 0) (by decide +kernel) rfl) ?_
  refine Eq.trans (rl_iload (j := 5) (by decide +kernel) rfl) ?_
  refine Eq.trans (rl_iconst (c := 1) (k := (nI 1)) (by decide +kernel) (by decide)) ?_
  refine Eq.trans (rl_iadd (by decide +kernel)) ?_
  refine Eq.trans (rl_sald (by decide +kernel)) ?_
  refine am_ite (fun h_1 => ?_) (fun _ => rfl)
  refine Eq.trans (rl_aloadn (j := 3) (by decide +kernel) rfl) ?_
  refine Eq.trans (rl_invS (ix := 203) (n := 3) (k := 1) 216 [am_P (3, 0, 0), am_I (M (0, 0, 0) (x5 + (nI 1)).toNatClampNeg), am_P (1, 0, 0)] [] (by decide +kernel) (by decide +kernel) (by decide) (by decide +kernel) ⟨rfl, rfl⟩ rfl rfl) ?_
  rfl
theorem b227_1634 {x5 s0 : Int32} {x6 x7 x8 : Option am_V} {M : am_M} {w : am_W4}  : am_rn call 227 1634 [some (am_P (0, 0, 0)), some (am_P (3, 0, 0)), some (am_P (30, 0, 0)), some (am_P (1, 0, 0)), some (am_P (2, 0, 0)), some (am_I x5), x6, x7, x8] [am_I s0] M (am_Z w) = if am_in (x5 + (nI 1)) (M (0, 0, 1) 0).toNatClampNeg then am_cb (call 172 [am_P (30, 0, 0), am_I (M (0, 0, 0) (x5 + (nI 1)).toNatClampNeg)] M (am_Z w)) fun v M' X' => am_rn call 227 1646 [some (am_P (0, 0, 0)), some (am_P (3, 0, 0)), some (am_P (30, 0, 0)), some (am_P (1, 0, 0)), some (am_P (2, 0, 0)), some (am_I x5), some (am_I s0), x7, x8] (v.toList ++ []) M' X' else none := by
  refine Eq.trans (rl_istore (j := 6) (ls' := [some (am_P (0, 0, 0)), some (am_P (3, 0, 0)), some (am_P (30, 0, 0)), some (am_P (1, 0, 0)), some (am_P (2, 0, 0)), some (am_I x5), some (am_I s0), x7, x8]) (by decide +kernel) rfl rfl) ?_
  refine Eq.trans (rl_aloadn (j := 2) (by decide +kernel) rfl) ?_
  refine Eq.trans (rl_aloadn (j := 0) (by decide +kernel) rfl) ?_
  refine Eq.trans (rl_iload (j := 5) (by decide +kernel) rfl) ?_
  refine Eq.trans (rl_iconst (c := 1) (k := (nI 1)) (by decide +kernel) (by decide)) ?_
  refine Eq.trans (rl_iadd (by decide +kernel)) ?_
  refine Eq.trans (rl_sald (by decide +kernel)) ?_
  refine am_ite (fun h_1 => ?_) (fun _ => rfl)
  refine Eq.trans (rl_inv (ix := 205) (n := 1) (o := 9) 172 [am_I (M (0, 0, 0) (x5 + (nI 1)).toNatClampNeg)] [] (by decide +kernel) (by decide +kernel) (by decide +kernel) (by decide +kernel) ⟨rfl, rfl⟩ rfl rfl ck30) ?_
  rfl
theorem b227_1646 {x5 x6 s0 : Int32} {x7 x8 : Option am_V} {M : am_M} {w : am_W4}  : am_rn call 227 1646 [some (am_P (0, 0, 0)), some (am_P (3, 0, 0)), some (am_P (30, 0, 0)), some (am_P (1, 0, 0)), some (am_P (2, 0, 0)), some (am_I x5), some (am_I x6), x7, x8] [am_I s0] M (am_Z w) = am_cb (call 114 [am_P (30, 0, 0)] M (am_Z w)) fun v M' X' => am_rn call 227 1652 [some (am_P (0, 0, 0)), some (am_P (3, 0, 0)), some (am_P (30, 0, 0)), some (am_P (1, 0, 0)), some (am_P (2, 0, 0)), some (am_I x5), some (am_I x6), some (am_I s0), x8] (v.toList ++ []) M' X' := by
  refine Eq.trans (rl_istore (j := 7) (ls' := [some (am_P (0, 0, 0)), some (am_P (3, 0, 0)), some (am_P (30, 0, 0)), some (am_P (1, 0, 0)), some (am_P (2, 0, 0)), some (am_I x5), some (am_I x6), some (am_I s0), x8]) (by decide +kernel) rfl rfl) ?_
  refine Eq.trans (rl_aloadn (j := 2) (by decide +kernel) rfl) ?_
  refine Eq.trans (rl_inv (ix := 137) (n := 0) (o := 9) 114 [] [] (by decide +kernel) (by decide +kernel) (by decide +kernel) (by decide +kernel) ⟨rfl, rfl⟩ rfl rfl ck30) ?_
  rfl
theorem b227_1652 {x5 x6 x7 s0 : Int32} {x8 : Option am_V} {M : am_M} {w : am_W4}  : am_rn call 227 1652 [some (am_P (0, 0, 0)), some (am_P (3, 0, 0)), some (am_P (30, 0, 0)), some (am_P (1, 0, 0)), some (am_P (2, 0, 0)), some (am_I x5), some (am_I x6), some (am_I x7), x8] [am_I s0] M (am_Z w) = if s0 = x6 then if x6 = 0 then if (lg_cmp w.2.2.1 x7.toInt64) = 0 then am_rn call 227 1676 [some (am_P (0, 0, 0)), some (am_P (3, 0, 0)), some (am_P (30, 0, 0)), some (am_P (1, 0, 0)), some (am_P (2, 0, 0)), some (am_I x5), some (am_I x6), some (am_I x7), x8] [] M (am_Z w) else some (.inl (some (am_I (nI 0))), M, (am_Z w)) else am_rn call 227 1676 [some (am_P (0, 0, 0)), some (am_P (3, 0, 0)), some (am_P (30, 0, 0)), some (am_P (1, 0, 0)), some (am_P (2, 0, 0)), some (am_I x5), some (am_I x6), some (am_I x7), x8] [] M (am_Z w) else some (.inl (some (am_I (nI 0))), M, (am_Z w)) := by
  refine Eq.trans (rl_iload (j := 6) (by decide +kernel) rfl) ?_
  refine Eq.trans (rl_iceq (o := 5) 1659 (by decide +kernel) (by decide)) ?_
  refine am_ite (fun h_1 => ?_) (fun h_1 => ?_)
  · skip
    refine Eq.trans (rl_iload (j := 6) (by decide +kernel) rfl) ?_
    refine Eq.trans (rl_ifne (o := 15) 1676 (by decide +kernel) (by decide)) ?_
    refine am_ite (fun h_2 => ?_) (fun h_2 => ?_)
    · skip
      refine Eq.trans (rl_aloadn (j := 3) (by decide +kernel) rfl) ?_
      refine Eq.trans (rl_iconst (c := 0) (k := (nI 0)) (by decide +kernel) (by decide)) ?_
      refine Eq.trans (rl_lald (by decide +kernel)) ?_
      refine Eq.trans (rl_iload (j := 7) (by decide +kernel) rfl) ?_
      refine Eq.trans (rl_i2l (by decide +kernel)) ?_
      refine Eq.trans (rl_lcmp (by decide +kernel)) ?_
      refine Eq.trans (rl_ifeq (o := 5) 1676 (by decide +kernel) (by decide)) ?_
      refine am_ite (fun h_3 => ?_) (fun h_3 => ?_)
      · skip
        rfl
      · skip
        refine Eq.trans (rl_iconst (c := 0) (k := (nI 0)) (by decide +kernel) (by decide)) ?_
        exact rl_zretk (by decide +kernel) rfl rfl
    · skip
      rfl
  · skip
    refine Eq.trans (rl_iconst (c := 0) (k := (nI 0)) (by decide +kernel) (by decide)) ?_
    exact rl_zretk (by decide +kernel) rfl rfl
theorem b227_1676 {x5 x6 x7 : Int32} {x8 : Option am_V} {M : am_M} {w : am_W4}  : am_rn call 227 1676 [some (am_P (0, 0, 0)), some (am_P (3, 0, 0)), some (am_P (30, 0, 0)), some (am_P (1, 0, 0)), some (am_P (2, 0, 0)), some (am_I x5), some (am_I x6), some (am_I x7), x8] [] M (am_Z w) = am_rn call 227 2276 [some (am_P (0, 0, 0)), some (am_P (3, 0, 0)), some (am_P (30, 0, 0)), some (am_P (1, 0, 0)), some (am_P (2, 0, 0)), some (am_I x5), some (am_I x6), some (am_I x7), x8] [] M (am_Z w) := by
  refine Eq.trans (rl_goto (o := 600) 2276 (by decide +kernel) (by decide)) ?_
  rfl
theorem b227_1679 {x5 : Int32} {x6 x7 x8 : Option am_V} {M : am_M} {w : am_W4}  : am_rn call 227 1679 [some (am_P (0, 0, 0)), some (am_P (3, 0, 0)), some (am_P (30, 0, 0)), some (am_P (1, 0, 0)), some (am_P (2, 0, 0)), some (am_I x5), x6, x7, x8] [] M (am_Z w) = am_cb (call 95 [am_P (3, 0, 0)] M (am_Z w)) fun v M' X' => am_rn call 227 1683 [some (am_P (0, 0, 0)), some (am_P (3, 0, 0)), some (am_P (30, 0, 0)), some (am_P (1, 0, 0)), some (am_P (2, 0, 0)), some (am_I x5), x6, x7, x8] (v.toList ++ []) M' X' := by
  refine Eq.trans (rl_aloadn (j := 1) (by decide +kernel) rfl) ?_
  refine Eq.trans (rl_inv (ix := 206) (n := 0) (o := 8) 95 [] [] (by decide +kernel) (by decide +kernel) (by decide +kernel) (by decide +kernel) ⟨rfl, rfl⟩ rfl rfl ck3) ?_
  rfl
theorem b227_1683 {x5 s0 : Int32} {x6 x7 x8 : Option am_V} {M : am_M} {w : am_W4}  : am_rn call 227 1683 [some (am_P (0, 0, 0)), some (am_P (3, 0, 0)), some (am_P (30, 0, 0)), some (am_P (1, 0, 0)), some (am_P (2, 0, 0)), some (am_I x5), x6, x7, x8] [am_I s0] M (am_Z w) = am_cb (call 173 [am_P (30, 0, 0)] M (am_Z w)) fun v M' X' => am_rn call 227 1687 [some (am_P (0, 0, 0)), some (am_P (3, 0, 0)), some (am_P (30, 0, 0)), some (am_P (1, 0, 0)), some (am_P (2, 0, 0)), some (am_I x5), x6, x7, x8] (v.toList ++ [am_I s0]) M' X' := by
  refine Eq.trans (rl_aloadn (j := 2) (by decide +kernel) rfl) ?_
  refine Eq.trans (rl_inv (ix := 209) (n := 0) (o := 9) 173 [] [am_I s0] (by decide +kernel) (by decide +kernel) (by decide +kernel) (by decide +kernel) ⟨rfl, rfl⟩ rfl rfl ck30) ?_
  rfl
theorem b227_1687 {x5 s0 s1 : Int32} {x6 x7 x8 : Option am_V} {M : am_M} {w : am_W4}  : am_rn call 227 1687 [some (am_P (0, 0, 0)), some (am_P (3, 0, 0)), some (am_P (30, 0, 0)), some (am_P (1, 0, 0)), some (am_P (2, 0, 0)), some (am_I x5), x6, x7, x8] [am_I s0, am_I s1] M (am_Z w) = if s1 = s0 then am_rn call 227 2276 [some (am_P (0, 0, 0)), some (am_P (3, 0, 0)), some (am_P (30, 0, 0)), some (am_P (1, 0, 0)), some (am_P (2, 0, 0)), some (am_I x5), x6, x7, x8] [] M (am_Z w) else some (.inl (some (am_I (nI 0))), M, (am_Z w)) := by
  refine Eq.trans (rl_iceq (o := 589) 2276 (by decide +kernel) (by decide)) ?_
  refine am_ite (fun h_1 => ?_) (fun h_1 => ?_)
  · skip
    rfl
  · skip
    refine Eq.trans (rl_iconst (c := 0) (k := (nI 0)) (by decide +kernel) (by decide)) ?_
    exact rl_zretk (by decide +kernel) rfl rfl
theorem b227_1692 {x5 : Int32} {x6 x7 x8 : Option am_V} {M : am_M} {w : am_W4}  : am_rn call 227 1692 [some (am_P (0, 0, 0)), some (am_P (3, 0, 0)), some (am_P (30, 0, 0)), some (am_P (1, 0, 0)), some (am_P (2, 0, 0)), some (am_I x5), x6, x7, x8] [] M (am_Z w) = am_cb (call 96 [am_P (3, 0, 0)] M (am_Z w)) fun v M' X' => am_rn call 227 1696 [some (am_P (0, 0, 0)), some (am_P (3, 0, 0)), some (am_P (30, 0, 0)), some (am_P (1, 0, 0)), some (am_P (2, 0, 0)), some (am_I x5), x6, x7, x8] (v.toList ++ []) M' X' := by
  refine Eq.trans (rl_aloadn (j := 1) (by decide +kernel) rfl) ?_
  refine Eq.trans (rl_inv (ix := 210) (n := 0) (o := 8) 96 [] [] (by decide +kernel) (by decide +kernel) (by decide +kernel) (by decide +kernel) ⟨rfl, rfl⟩ rfl rfl ck3) ?_
  rfl
theorem b227_1696 {x5 s0 : Int32} {x6 x7 x8 : Option am_V} {M : am_M} {w : am_W4}  : am_rn call 227 1696 [some (am_P (0, 0, 0)), some (am_P (3, 0, 0)), some (am_P (30, 0, 0)), some (am_P (1, 0, 0)), some (am_P (2, 0, 0)), some (am_I x5), x6, x7, x8] [am_I s0] M (am_Z w) = am_cb (call 175 [am_P (30, 0, 0)] M (am_Z w)) fun v M' X' => am_rn call 227 1700 [some (am_P (0, 0, 0)), some (am_P (3, 0, 0)), some (am_P (30, 0, 0)), some (am_P (1, 0, 0)), some (am_P (2, 0, 0)), some (am_I x5), x6, x7, x8] (v.toList ++ [am_I s0]) M' X' := by
  refine Eq.trans (rl_aloadn (j := 2) (by decide +kernel) rfl) ?_
  refine Eq.trans (rl_inv (ix := 213) (n := 0) (o := 9) 175 [] [am_I s0] (by decide +kernel) (by decide +kernel) (by decide +kernel) (by decide +kernel) ⟨rfl, rfl⟩ rfl rfl ck30) ?_
  rfl
theorem b227_1700 {x5 s0 s1 : Int32} {x6 x7 x8 : Option am_V} {M : am_M} {w : am_W4}  : am_rn call 227 1700 [some (am_P (0, 0, 0)), some (am_P (3, 0, 0)), some (am_P (30, 0, 0)), some (am_P (1, 0, 0)), some (am_P (2, 0, 0)), some (am_I x5), x6, x7, x8] [am_I s0, am_I s1] M (am_Z w) = if s1 = s0 then am_rn call 227 2276 [some (am_P (0, 0, 0)), some (am_P (3, 0, 0)), some (am_P (30, 0, 0)), some (am_P (1, 0, 0)), some (am_P (2, 0, 0)), some (am_I x5), x6, x7, x8] [] M (am_Z w) else some (.inl (some (am_I (nI 0))), M, (am_Z w)) := by
  refine Eq.trans (rl_iceq (o := 576) 2276 (by decide +kernel) (by decide)) ?_
  refine am_ite (fun h_1 => ?_) (fun h_1 => ?_)
  · skip
    rfl
  · skip
    refine Eq.trans (rl_iconst (c := 0) (k := (nI 0)) (by decide +kernel) (by decide)) ?_
    exact rl_zretk (by decide +kernel) rfl rfl
theorem b227_1705 {x5 : Int32} {x6 x7 x8 : Option am_V} {M : am_M} {w : am_W4}  : am_rn call 227 1705 [some (am_P (0, 0, 0)), some (am_P (3, 0, 0)), some (am_P (30, 0, 0)), some (am_P (1, 0, 0)), some (am_P (2, 0, 0)), some (am_I x5), x6, x7, x8] [] M (am_Z w) = if am_in (x5 + (nI 1)) (M (0, 0, 1) 0).toNatClampNeg then am_cb (call 217 [am_P (3, 0, 0), am_I ((M (0, 0, 0) (x5 + (nI 1)).toNatClampNeg).toUInt32 % 65536).toInt32, am_P (1, 0, 0)] M (am_Z w)) fun v M' X' => am_rn call 227 1717 [some (am_P (0, 0, 0)), some (am_P (3, 0, 0)), some (am_P (30, 0, 0)), some (am_P (1, 0, 0)), some (am_P (2, 0, 0)), some (am_I x5), x6, x7, x8] (v.toList ++ []) M' X' else none := by
  refine Eq.trans (rl_aloadn (j := 1) (by decide +kernel) rfl) ?_
  refine Eq.trans (rl_aloadn (j := 0) (by decide +kernel) rfl) ?_
  refine Eq.trans (rl_iload (j := 5) (by decide +kernel) rfl) ?_
  refine Eq.trans (rl_iconst (c := 1) (k := (nI 1)) (by decide +kernel) (by decide)) ?_
  refine Eq.trans (rl_iadd (by decide +kernel)) ?_
  refine Eq.trans (rl_sald (by decide +kernel)) ?_
  refine am_ite (fun h_1 => ?_) (fun _ => rfl)
  refine Eq.trans (rl_i2c (by decide +kernel)) ?_
  refine Eq.trans (rl_aloadn (j := 3) (by decide +kernel) rfl) ?_
  refine Eq.trans (rl_invS (ix := 214) (n := 3) (k := 1) 217 [am_P (3, 0, 0), am_I ((M (0, 0, 0) (x5 + (nI 1)).toNatClampNeg).toUInt32 % 65536).toInt32, am_P (1, 0, 0)] [] (by decide +kernel) (by decide +kernel) (by decide) (by decide +kernel) ⟨rfl, rfl⟩ rfl rfl) ?_
  rfl
theorem b227_1717 {x5 s0 : Int32} {x6 x7 x8 : Option am_V} {M : am_M} {w : am_W4}  : am_rn call 227 1717 [some (am_P (0, 0, 0)), some (am_P (3, 0, 0)), some (am_P (30, 0, 0)), some (am_P (1, 0, 0)), some (am_P (2, 0, 0)), some (am_I x5), x6, x7, x8] [am_I s0] M (am_Z w) = if am_in (x5 + (nI 1)) (M (0, 0, 1) 0).toNatClampNeg then am_cb (call 176 [am_P (30, 0, 0), am_I ((M (0, 0, 0) (x5 + (nI 1)).toNatClampNeg).toUInt32 % 65536).toInt32] M (am_Z w)) fun v M' X' => am_rn call 227 1730 [some (am_P (0, 0, 0)), some (am_P (3, 0, 0)), some (am_P (30, 0, 0)), some (am_P (1, 0, 0)), some (am_P (2, 0, 0)), some (am_I x5), some (am_I s0), x7, x8] (v.toList ++ []) M' X' else none := by
  refine Eq.trans (rl_istore (j := 6) (ls' := [some (am_P (0, 0, 0)), some (am_P (3, 0, 0)), some (am_P (30, 0, 0)), some (am_P (1, 0, 0)), some (am_P (2, 0, 0)), some (am_I x5), some (am_I s0), x7, x8]) (by decide +kernel) rfl rfl) ?_
  refine Eq.trans (rl_aloadn (j := 2) (by decide +kernel) rfl) ?_
  refine Eq.trans (rl_aloadn (j := 0) (by decide +kernel) rfl) ?_
  refine Eq.trans (rl_iload (j := 5) (by decide +kernel) rfl) ?_
  refine Eq.trans (rl_iconst (c := 1) (k := (nI 1)) (by decide +kernel) (by decide)) ?_
  refine Eq.trans (rl_iadd (by decide +kernel)) ?_
  refine Eq.trans (rl_sald (by decide +kernel)) ?_
  refine am_ite (fun h_1 => ?_) (fun _ => rfl)
  refine Eq.trans (rl_i2c (by decide +kernel)) ?_
  refine Eq.trans (rl_inv (ix := 217) (n := 1) (o := 9) 176 [am_I ((M (0, 0, 0) (x5 + (nI 1)).toNatClampNeg).toUInt32 % 65536).toInt32] [] (by decide +kernel) (by decide +kernel) (by decide +kernel) (by decide +kernel) ⟨rfl, rfl⟩ rfl rfl ck30) ?_
  rfl
theorem b227_1730 {x5 x6 s0 : Int32} {x7 x8 : Option am_V} {M : am_M} {w : am_W4}  : am_rn call 227 1730 [some (am_P (0, 0, 0)), some (am_P (3, 0, 0)), some (am_P (30, 0, 0)), some (am_P (1, 0, 0)), some (am_P (2, 0, 0)), some (am_I x5), some (am_I x6), x7, x8] [am_I s0] M (am_Z w) = am_cb (call 114 [am_P (30, 0, 0)] M (am_Z w)) fun v M' X' => am_rn call 227 1736 [some (am_P (0, 0, 0)), some (am_P (3, 0, 0)), some (am_P (30, 0, 0)), some (am_P (1, 0, 0)), some (am_P (2, 0, 0)), some (am_I x5), some (am_I x6), some (am_I s0), x8] (v.toList ++ []) M' X' := by
  refine Eq.trans (rl_istore (j := 7) (ls' := [some (am_P (0, 0, 0)), some (am_P (3, 0, 0)), some (am_P (30, 0, 0)), some (am_P (1, 0, 0)), some (am_P (2, 0, 0)), some (am_I x5), some (am_I x6), some (am_I s0), x8]) (by decide +kernel) rfl rfl) ?_
  refine Eq.trans (rl_aloadn (j := 2) (by decide +kernel) rfl) ?_
  refine Eq.trans (rl_inv (ix := 137) (n := 0) (o := 9) 114 [] [] (by decide +kernel) (by decide +kernel) (by decide +kernel) (by decide +kernel) ⟨rfl, rfl⟩ rfl rfl ck30) ?_
  rfl
theorem b227_1736 {x5 x6 x7 s0 : Int32} {x8 : Option am_V} {M : am_M} {w : am_W4}  : am_rn call 227 1736 [some (am_P (0, 0, 0)), some (am_P (3, 0, 0)), some (am_P (30, 0, 0)), some (am_P (1, 0, 0)), some (am_P (2, 0, 0)), some (am_I x5), some (am_I x6), some (am_I x7), x8] [am_I s0] M (am_Z w) = if s0 = x6 then if x6 = 0 then if (lg_cmp w.2.2.1 x7.toInt64) = 0 then am_rn call 227 1760 [some (am_P (0, 0, 0)), some (am_P (3, 0, 0)), some (am_P (30, 0, 0)), some (am_P (1, 0, 0)), some (am_P (2, 0, 0)), some (am_I x5), some (am_I x6), some (am_I x7), x8] [] M (am_Z w) else some (.inl (some (am_I (nI 0))), M, (am_Z w)) else am_rn call 227 1760 [some (am_P (0, 0, 0)), some (am_P (3, 0, 0)), some (am_P (30, 0, 0)), some (am_P (1, 0, 0)), some (am_P (2, 0, 0)), some (am_I x5), some (am_I x6), some (am_I x7), x8] [] M (am_Z w) else some (.inl (some (am_I (nI 0))), M, (am_Z w)) := by
  refine Eq.trans (rl_iload (j := 6) (by decide +kernel) rfl) ?_
  refine Eq.trans (rl_iceq (o := 5) 1743 (by decide +kernel) (by decide)) ?_
  refine am_ite (fun h_1 => ?_) (fun h_1 => ?_)
  · skip
    refine Eq.trans (rl_iload (j := 6) (by decide +kernel) rfl) ?_
    refine Eq.trans (rl_ifne (o := 15) 1760 (by decide +kernel) (by decide)) ?_
    refine am_ite (fun h_2 => ?_) (fun h_2 => ?_)
    · skip
      refine Eq.trans (rl_aloadn (j := 3) (by decide +kernel) rfl) ?_
      refine Eq.trans (rl_iconst (c := 0) (k := (nI 0)) (by decide +kernel) (by decide)) ?_
      refine Eq.trans (rl_lald (by decide +kernel)) ?_
      refine Eq.trans (rl_iload (j := 7) (by decide +kernel) rfl) ?_
      refine Eq.trans (rl_i2l (by decide +kernel)) ?_
      refine Eq.trans (rl_lcmp (by decide +kernel)) ?_
      refine Eq.trans (rl_ifeq (o := 5) 1760 (by decide +kernel) (by decide)) ?_
      refine am_ite (fun h_3 => ?_) (fun h_3 => ?_)
      · skip
        rfl
      · skip
        refine Eq.trans (rl_iconst (c := 0) (k := (nI 0)) (by decide +kernel) (by decide)) ?_
        exact rl_zretk (by decide +kernel) rfl rfl
    · skip
      rfl
  · skip
    refine Eq.trans (rl_iconst (c := 0) (k := (nI 0)) (by decide +kernel) (by decide)) ?_
    exact rl_zretk (by decide +kernel) rfl rfl
theorem b227_1760 {x5 x6 x7 : Int32} {x8 : Option am_V} {M : am_M} {w : am_W4}  : am_rn call 227 1760 [some (am_P (0, 0, 0)), some (am_P (3, 0, 0)), some (am_P (30, 0, 0)), some (am_P (1, 0, 0)), some (am_P (2, 0, 0)), some (am_I x5), some (am_I x6), some (am_I x7), x8] [] M (am_Z w) = am_rn call 227 2276 [some (am_P (0, 0, 0)), some (am_P (3, 0, 0)), some (am_P (30, 0, 0)), some (am_P (1, 0, 0)), some (am_P (2, 0, 0)), some (am_I x5), some (am_I x6), some (am_I x7), x8] [] M (am_Z w) := by
  refine Eq.trans (rl_goto (o := 516) 2276 (by decide +kernel) (by decide)) ?_
  rfl
theorem b227_1763 {x5 : Int32} {x6 x7 x8 : Option am_V} {M : am_M} {w : am_W4}  : am_rn call 227 1763 [some (am_P (0, 0, 0)), some (am_P (3, 0, 0)), some (am_P (30, 0, 0)), some (am_P (1, 0, 0)), some (am_P (2, 0, 0)), some (am_I x5), x6, x7, x8] [] M (am_Z w) = am_cb (call 218 [am_P (3, 0, 0), am_P (1, 0, 0)] M (am_Z w)) fun v M' X' => am_rn call 227 1768 [some (am_P (0, 0, 0)), some (am_P (3, 0, 0)), some (am_P (30, 0, 0)), some (am_P (1, 0, 0)), some (am_P (2, 0, 0)), some (am_I x5), x6, x7, x8] (v.toList ++ []) M' X' := by
  refine Eq.trans (rl_aloadn (j := 1) (by decide +kernel) rfl) ?_
  refine Eq.trans (rl_aloadn (j := 3) (by decide +kernel) rfl) ?_
  refine Eq.trans (rl_invS (ix := 218) (n := 2) (k := 1) 218 [am_P (3, 0, 0), am_P (1, 0, 0)] [] (by decide +kernel) (by decide +kernel) (by decide) (by decide +kernel) ⟨rfl, rfl⟩ rfl rfl) ?_
  rfl
theorem b227_1768 {x5 s0 : Int32} {x6 x7 x8 : Option am_V} {M : am_M} {w : am_W4}  : am_rn call 227 1768 [some (am_P (0, 0, 0)), some (am_P (3, 0, 0)), some (am_P (30, 0, 0)), some (am_P (1, 0, 0)), some (am_P (2, 0, 0)), some (am_I x5), x6, x7, x8] [am_I s0] M (am_Z w) = am_cb (call 183 [am_P (30, 0, 0)] M (am_Z w)) fun v M' X' => am_rn call 227 1774 [some (am_P (0, 0, 0)), some (am_P (3, 0, 0)), some (am_P (30, 0, 0)), some (am_P (1, 0, 0)), some (am_P (2, 0, 0)), some (am_I x5), some (am_I s0), x7, x8] (v.toList ++ []) M' X' := by
  refine Eq.trans (rl_istore (j := 6) (ls' := [some (am_P (0, 0, 0)), some (am_P (3, 0, 0)), some (am_P (30, 0, 0)), some (am_P (1, 0, 0)), some (am_P (2, 0, 0)), some (am_I x5), some (am_I s0), x7, x8]) (by decide +kernel) rfl rfl) ?_
  refine Eq.trans (rl_aloadn (j := 2) (by decide +kernel) rfl) ?_
  refine Eq.trans (rl_inv (ix := 221) (n := 0) (o := 9) 183 [] [] (by decide +kernel) (by decide +kernel) (by decide +kernel) (by decide +kernel) ⟨rfl, rfl⟩ rfl rfl ck30) ?_
  rfl
theorem b227_1774 {x5 x6 s0 : Int32} {x7 x8 : Option am_V} {M : am_M} {w : am_W4}  : am_rn call 227 1774 [some (am_P (0, 0, 0)), some (am_P (3, 0, 0)), some (am_P (30, 0, 0)), some (am_P (1, 0, 0)), some (am_P (2, 0, 0)), some (am_I x5), some (am_I x6), x7, x8] [am_I s0] M (am_Z w) = am_cb (call 114 [am_P (30, 0, 0)] M (am_Z w)) fun v M' X' => am_rn call 227 1780 [some (am_P (0, 0, 0)), some (am_P (3, 0, 0)), some (am_P (30, 0, 0)), some (am_P (1, 0, 0)), some (am_P (2, 0, 0)), some (am_I x5), some (am_I x6), some (am_I s0), x8] (v.toList ++ []) M' X' := by
  refine Eq.trans (rl_istore (j := 7) (ls' := [some (am_P (0, 0, 0)), some (am_P (3, 0, 0)), some (am_P (30, 0, 0)), some (am_P (1, 0, 0)), some (am_P (2, 0, 0)), some (am_I x5), some (am_I x6), some (am_I s0), x8]) (by decide +kernel) rfl rfl) ?_
  refine Eq.trans (rl_aloadn (j := 2) (by decide +kernel) rfl) ?_
  refine Eq.trans (rl_inv (ix := 137) (n := 0) (o := 9) 114 [] [] (by decide +kernel) (by decide +kernel) (by decide +kernel) (by decide +kernel) ⟨rfl, rfl⟩ rfl rfl ck30) ?_
  rfl
theorem b227_1780 {x5 x6 x7 s0 : Int32} {x8 : Option am_V} {M : am_M} {w : am_W4}  : am_rn call 227 1780 [some (am_P (0, 0, 0)), some (am_P (3, 0, 0)), some (am_P (30, 0, 0)), some (am_P (1, 0, 0)), some (am_P (2, 0, 0)), some (am_I x5), some (am_I x6), some (am_I x7), x8] [am_I s0] M (am_Z w) = if s0 = x6 then if x6 = 0 then if (lg_cmp w.2.2.1 x7.toInt64) = 0 then am_rn call 227 1804 [some (am_P (0, 0, 0)), some (am_P (3, 0, 0)), some (am_P (30, 0, 0)), some (am_P (1, 0, 0)), some (am_P (2, 0, 0)), some (am_I x5), some (am_I x6), some (am_I x7), x8] [] M (am_Z w) else some (.inl (some (am_I (nI 0))), M, (am_Z w)) else am_rn call 227 1804 [some (am_P (0, 0, 0)), some (am_P (3, 0, 0)), some (am_P (30, 0, 0)), some (am_P (1, 0, 0)), some (am_P (2, 0, 0)), some (am_I x5), some (am_I x6), some (am_I x7), x8] [] M (am_Z w) else some (.inl (some (am_I (nI 0))), M, (am_Z w)) := by
  refine Eq.trans (rl_iload (j := 6) (by decide +kernel) rfl) ?_
  refine Eq.trans (rl_iceq (o := 5) 1787 (by decide +kernel) (by decide)) ?_
  refine am_ite (fun h_1 => ?_) (fun h_1 => ?_)
  · skip
    refine Eq.trans (rl_iload (j := 6) (by decide +kernel) rfl) ?_
    refine Eq.trans (rl_ifne (o := 15) 1804 (by decide +kernel) (by decide)) ?_
    refine am_ite (fun h_2 => ?_) (fun h_2 => ?_)
    · skip
      refine Eq.trans (rl_aloadn (j := 3) (by decide +kernel) rfl) ?_
      refine Eq.trans (rl_iconst (c := 0) (k := (nI 0)) (by decide +kernel) (by decide)) ?_
      refine Eq.trans (rl_lald (by decide +kernel)) ?_
      refine Eq.trans (rl_iload (j := 7) (by decide +kernel) rfl) ?_
      refine Eq.trans (rl_i2l (by decide +kernel)) ?_
      refine Eq.trans (rl_lcmp (by decide +kernel)) ?_
      refine Eq.trans (rl_ifeq (o := 5) 1804 (by decide +kernel) (by decide)) ?_
      refine am_ite (fun h_3 => ?_) (fun h_3 => ?_)
      · skip
        rfl
      · skip
        refine Eq.trans (rl_iconst (c := 0) (k := (nI 0)) (by decide +kernel) (by decide)) ?_
        exact rl_zretk (by decide +kernel) rfl rfl
    · skip
      rfl
  · skip
    refine Eq.trans (rl_iconst (c := 0) (k := (nI 0)) (by decide +kernel) (by decide)) ?_
    exact rl_zretk (by decide +kernel) rfl rfl
theorem b227_1804 {x5 x6 x7 : Int32} {x8 : Option am_V} {M : am_M} {w : am_W4}  : am_rn call 227 1804 [some (am_P (0, 0, 0)), some (am_P (3, 0, 0)), some (am_P (30, 0, 0)), some (am_P (1, 0, 0)), some (am_P (2, 0, 0)), some (am_I x5), some (am_I x6), some (am_I x7), x8] [] M (am_Z w) = am_rn call 227 2276 [some (am_P (0, 0, 0)), some (am_P (3, 0, 0)), some (am_P (30, 0, 0)), some (am_P (1, 0, 0)), some (am_P (2, 0, 0)), some (am_I x5), some (am_I x6), some (am_I x7), x8] [] M (am_Z w) := by
  refine Eq.trans (rl_goto (o := 472) 2276 (by decide +kernel) (by decide)) ?_
  rfl
theorem b227_1807 {x5 : Int32} {x6 x7 x8 : Option am_V} {M : am_M} {w : am_W4}  : am_rn call 227 1807 [some (am_P (0, 0, 0)), some (am_P (3, 0, 0)), some (am_P (30, 0, 0)), some (am_P (1, 0, 0)), some (am_P (2, 0, 0)), some (am_I x5), x6, x7, x8] [] M (am_Z w) = am_cb (call 100 [am_P (3, 0, 0)] M (am_Z w)) fun v M' X' => am_rn call 227 1811 [some (am_P (0, 0, 0)), some (am_P (3, 0, 0)), some (am_P (30, 0, 0)), some (am_P (1, 0, 0)), some (am_P (2, 0, 0)), some (am_I x5), x6, x7, x8] (v.toList ++ []) M' X' := by
  refine Eq.trans (rl_aloadn (j := 1) (by decide +kernel) rfl) ?_
  refine Eq.trans (rl_inv (ix := 222) (n := 0) (o := 8) 100 [] [] (by decide +kernel) (by decide +kernel) (by decide +kernel) (by decide +kernel) ⟨rfl, rfl⟩ rfl rfl ck3) ?_
  rfl
theorem b227_1811 {x5 s0 : Int32} {x6 x7 x8 : Option am_V} {M : am_M} {w : am_W4}  : am_rn call 227 1811 [some (am_P (0, 0, 0)), some (am_P (3, 0, 0)), some (am_P (30, 0, 0)), some (am_P (1, 0, 0)), some (am_P (2, 0, 0)), some (am_I x5), x6, x7, x8] [am_I s0] M (am_Z w) = am_cb (call 184 [am_P (30, 0, 0)] M (am_Z w)) fun v M' X' => am_rn call 227 1815 [some (am_P (0, 0, 0)), some (am_P (3, 0, 0)), some (am_P (30, 0, 0)), some (am_P (1, 0, 0)), some (am_P (2, 0, 0)), some (am_I x5), x6, x7, x8] (v.toList ++ [am_I s0]) M' X' := by
  refine Eq.trans (rl_aloadn (j := 2) (by decide +kernel) rfl) ?_
  refine Eq.trans (rl_inv (ix := 225) (n := 0) (o := 9) 184 [] [am_I s0] (by decide +kernel) (by decide +kernel) (by decide +kernel) (by decide +kernel) ⟨rfl, rfl⟩ rfl rfl ck30) ?_
  rfl
theorem b227_1815 {x5 s0 s1 : Int32} {x6 x7 x8 : Option am_V} {M : am_M} {w : am_W4}  : am_rn call 227 1815 [some (am_P (0, 0, 0)), some (am_P (3, 0, 0)), some (am_P (30, 0, 0)), some (am_P (1, 0, 0)), some (am_P (2, 0, 0)), some (am_I x5), x6, x7, x8] [am_I s0, am_I s1] M (am_Z w) = if s1 = s0 then am_rn call 227 2276 [some (am_P (0, 0, 0)), some (am_P (3, 0, 0)), some (am_P (30, 0, 0)), some (am_P (1, 0, 0)), some (am_P (2, 0, 0)), some (am_I x5), x6, x7, x8] [] M (am_Z w) else some (.inl (some (am_I (nI 0))), M, (am_Z w)) := by
  refine Eq.trans (rl_iceq (o := 461) 2276 (by decide +kernel) (by decide)) ?_
  refine am_ite (fun h_1 => ?_) (fun h_1 => ?_)
  · skip
    rfl
  · skip
    refine Eq.trans (rl_iconst (c := 0) (k := (nI 0)) (by decide +kernel) (by decide)) ?_
    exact rl_zretk (by decide +kernel) rfl rfl
theorem b227_1820 {x5 : Int32} {x6 x7 x8 : Option am_V} {M : am_M} {w : am_W4}  : am_rn call 227 1820 [some (am_P (0, 0, 0)), some (am_P (3, 0, 0)), some (am_P (30, 0, 0)), some (am_P (1, 0, 0)), some (am_P (2, 0, 0)), some (am_I x5), x6, x7, x8] [] M (am_Z w) = if am_in (x5 + (nI 1)) (M (0, 0, 1) 0).toNatClampNeg then am_cb (call 219 [am_P (3, 0, 0), am_I (M (0, 0, 0) (x5 + (nI 1)).toNatClampNeg), am_P (1, 0, 0)] M (am_Z w)) fun v M' X' => am_rn call 227 1831 [some (am_P (0, 0, 0)), some (am_P (3, 0, 0)), some (am_P (30, 0, 0)), some (am_P (1, 0, 0)), some (am_P (2, 0, 0)), some (am_I x5), x6, x7, x8] (v.toList ++ []) M' X' else none := by
  refine Eq.trans (rl_aloadn (j := 1) (by decide +kernel) rfl) ?_
  refine Eq.trans (rl_aloadn (j := 0) (by decide +kernel) rfl) ?_
  refine Eq.trans (rl_iload (j := 5) (by decide +kernel) rfl) ?_
  refine Eq.trans (rl_iconst (c := 1) (k := (nI 1)) (by decide +kernel) (by decide)) ?_
  refine Eq.trans (rl_iadd (by decide +kernel)) ?_
  refine Eq.trans (rl_sald (by decide +kernel)) ?_
  refine am_ite (fun h_1 => ?_) (fun _ => rfl)
  refine Eq.trans (rl_aloadn (j := 3) (by decide +kernel) rfl) ?_
  refine Eq.trans (rl_invS (ix := 226) (n := 3) (k := 1) 219 [am_P (3, 0, 0), am_I (M (0, 0, 0) (x5 + (nI 1)).toNatClampNeg), am_P (1, 0, 0)] [] (by decide +kernel) (by decide +kernel) (by decide) (by decide +kernel) ⟨rfl, rfl⟩ rfl rfl) ?_
  rfl
theorem b227_1831 {x5 s0 : Int32} {x6 x7 x8 : Option am_V} {M : am_M} {w : am_W4}  : am_rn call 227 1831 [some (am_P (0, 0, 0)), some (am_P (3, 0, 0)), some (am_P (30, 0, 0)), some (am_P (1, 0, 0)), some (am_P (2, 0, 0)), some (am_I x5), x6, x7, x8] [am_I s0] M (am_Z w) = if am_in (x5 + (nI 1)) (M (0, 0, 1) 0).toNatClampNeg then am_cb (call 185 [am_P (30, 0, 0), am_I (M (0, 0, 0) (x5 + (nI 1)).toNatClampNeg)] M (am_Z w)) fun v M' X' => am_rn call 227 1843 [some (am_P (0, 0, 0)), some (am_P (3, 0, 0)), some (am_P (30, 0, 0)), some (am_P (1, 0, 0)), some (am_P (2, 0, 0)), some (am_I x5), some (am_I s0), x7, x8] (v.toList ++ []) M' X' else none := by
  refine Eq.trans (rl_istore (j := 6) (ls' := [some (am_P (0, 0, 0)), some (am_P (3, 0, 0)), some (am_P (30, 0, 0)), some (am_P (1, 0, 0)), some (am_P (2, 0, 0)), some (am_I x5), some (am_I s0), x7, x8]) (by decide +kernel) rfl rfl) ?_
  refine Eq.trans (rl_aloadn (j := 2) (by decide +kernel) rfl) ?_
  refine Eq.trans (rl_aloadn (j := 0) (by decide +kernel) rfl) ?_
  refine Eq.trans (rl_iload (j := 5) (by decide +kernel) rfl) ?_
  refine Eq.trans (rl_iconst (c := 1) (k := (nI 1)) (by decide +kernel) (by decide)) ?_
  refine Eq.trans (rl_iadd (by decide +kernel)) ?_
  refine Eq.trans (rl_sald (by decide +kernel)) ?_
  refine am_ite (fun h_1 => ?_) (fun _ => rfl)
  refine Eq.trans (rl_inv (ix := 228) (n := 1) (o := 9) 185 [am_I (M (0, 0, 0) (x5 + (nI 1)).toNatClampNeg)] [] (by decide +kernel) (by decide +kernel) (by decide +kernel) (by decide +kernel) ⟨rfl, rfl⟩ rfl rfl ck30) ?_
  rfl
theorem b227_1843 {x5 x6 s0 : Int32} {x7 x8 : Option am_V} {M : am_M} {w : am_W4}  : am_rn call 227 1843 [some (am_P (0, 0, 0)), some (am_P (3, 0, 0)), some (am_P (30, 0, 0)), some (am_P (1, 0, 0)), some (am_P (2, 0, 0)), some (am_I x5), some (am_I x6), x7, x8] [am_I s0] M (am_Z w) = am_cb (call 114 [am_P (30, 0, 0)] M (am_Z w)) fun v M' X' => am_rn call 227 1849 [some (am_P (0, 0, 0)), some (am_P (3, 0, 0)), some (am_P (30, 0, 0)), some (am_P (1, 0, 0)), some (am_P (2, 0, 0)), some (am_I x5), some (am_I x6), some (am_I s0), x8] (v.toList ++ []) M' X' := by
  refine Eq.trans (rl_istore (j := 7) (ls' := [some (am_P (0, 0, 0)), some (am_P (3, 0, 0)), some (am_P (30, 0, 0)), some (am_P (1, 0, 0)), some (am_P (2, 0, 0)), some (am_I x5), some (am_I x6), some (am_I s0), x8]) (by decide +kernel) rfl rfl) ?_
  refine Eq.trans (rl_aloadn (j := 2) (by decide +kernel) rfl) ?_
  refine Eq.trans (rl_inv (ix := 137) (n := 0) (o := 9) 114 [] [] (by decide +kernel) (by decide +kernel) (by decide +kernel) (by decide +kernel) ⟨rfl, rfl⟩ rfl rfl ck30) ?_
  rfl
theorem b227_1849 {x5 x6 x7 s0 : Int32} {x8 : Option am_V} {M : am_M} {w : am_W4}  : am_rn call 227 1849 [some (am_P (0, 0, 0)), some (am_P (3, 0, 0)), some (am_P (30, 0, 0)), some (am_P (1, 0, 0)), some (am_P (2, 0, 0)), some (am_I x5), some (am_I x6), some (am_I x7), x8] [am_I s0] M (am_Z w) = if s0 = x6 then if x6 = 0 then if (lg_cmp w.2.2.1 x7.toInt64) = 0 then am_rn call 227 1873 [some (am_P (0, 0, 0)), some (am_P (3, 0, 0)), some (am_P (30, 0, 0)), some (am_P (1, 0, 0)), some (am_P (2, 0, 0)), some (am_I x5), some (am_I x6), some (am_I x7), x8] [] M (am_Z w) else some (.inl (some (am_I (nI 0))), M, (am_Z w)) else am_rn call 227 1873 [some (am_P (0, 0, 0)), some (am_P (3, 0, 0)), some (am_P (30, 0, 0)), some (am_P (1, 0, 0)), some (am_P (2, 0, 0)), some (am_I x5), some (am_I x6), some (am_I x7), x8] [] M (am_Z w) else some (.inl (some (am_I (nI 0))), M, (am_Z w)) := by
  refine Eq.trans (rl_iload (j := 6) (by decide +kernel) rfl) ?_
  refine Eq.trans (rl_iceq (o := 5) 1856 (by decide +kernel) (by decide)) ?_
  refine am_ite (fun h_1 => ?_) (fun h_1 => ?_)
  · skip
    refine Eq.trans (rl_iload (j := 6) (by decide +kernel) rfl) ?_
    refine Eq.trans (rl_ifne (o := 15) 1873 (by decide +kernel) (by decide)) ?_
    refine am_ite (fun h_2 => ?_) (fun h_2 => ?_)
    · skip
      refine Eq.trans (rl_aloadn (j := 3) (by decide +kernel) rfl) ?_
      refine Eq.trans (rl_iconst (c := 0) (k := (nI 0)) (by decide +kernel) (by decide)) ?_
      refine Eq.trans (rl_lald (by decide +kernel)) ?_
      refine Eq.trans (rl_iload (j := 7) (by decide +kernel) rfl) ?_
      refine Eq.trans (rl_i2l (by decide +kernel)) ?_
      refine Eq.trans (rl_lcmp (by decide +kernel)) ?_
      refine Eq.trans (rl_ifeq (o := 5) 1873 (by decide +kernel) (by decide)) ?_
      refine am_ite (fun h_3 => ?_) (fun h_3 => ?_)
      · skip
        rfl
      · skip
        refine Eq.trans (rl_iconst (c := 0) (k := (nI 0)) (by decide +kernel) (by decide)) ?_
        exact rl_zretk (by decide +kernel) rfl rfl
    · skip
      rfl
  · skip
    refine Eq.trans (rl_iconst (c := 0) (k := (nI 0)) (by decide +kernel) (by decide)) ?_
    exact rl_zretk (by decide +kernel) rfl rfl
theorem b227_1873 {x5 x6 x7 : Int32} {x8 : Option am_V} {M : am_M} {w : am_W4}  : am_rn call 227 1873 [some (am_P (0, 0, 0)), some (am_P (3, 0, 0)), some (am_P (30, 0, 0)), some (am_P (1, 0, 0)), some (am_P (2, 0, 0)), some (am_I x5), some (am_I x6), some (am_I x7), x8] [] M (am_Z w) = am_rn call 227 2276 [some (am_P (0, 0, 0)), some (am_P (3, 0, 0)), some (am_P (30, 0, 0)), some (am_P (1, 0, 0)), some (am_P (2, 0, 0)), some (am_I x5), some (am_I x6), some (am_I x7), x8] [] M (am_Z w) := by
  refine Eq.trans (rl_goto (o := 403) 2276 (by decide +kernel) (by decide)) ?_
  rfl
theorem b227_1876 {x5 : Int32} {x6 x7 x8 : Option am_V} {M : am_M} {w : am_W4}  : am_rn call 227 1876 [some (am_P (0, 0, 0)), some (am_P (3, 0, 0)), some (am_P (30, 0, 0)), some (am_P (1, 0, 0)), some (am_P (2, 0, 0)), some (am_I x5), x6, x7, x8] [] M (am_Z w) = if am_in (x5 + (nI 1)) (M (0, 0, 1) 0).toNatClampNeg then am_cb (call 220 [am_P (3, 0, 0), am_I (M (0, 0, 0) (x5 + (nI 1)).toNatClampNeg), am_P (1, 0, 0)] M (am_Z w)) fun v M' X' => am_rn call 227 1887 [some (am_P (0, 0, 0)), some (am_P (3, 0, 0)), some (am_P (30, 0, 0)), some (am_P (1, 0, 0)), some (am_P (2, 0, 0)), some (am_I x5), x6, x7, x8] (v.toList ++ []) M' X' else none := by
  refine Eq.trans (rl_aloadn (j := 1) (by decide +kernel) rfl) ?_
  refine Eq.trans (rl_aloadn (j := 0) (by decide +kernel) rfl) ?_
  refine Eq.trans (rl_iload (j := 5) (by decide +kernel) rfl) ?_
  refine Eq.trans (rl_iconst (c := 1) (k := (nI 1)) (by decide +kernel) (by decide)) ?_
  refine Eq.trans (rl_iadd (by decide +kernel)) ?_
  refine Eq.trans (rl_sald (by decide +kernel)) ?_
  refine am_ite (fun h_1 => ?_) (fun _ => rfl)
  refine Eq.trans (rl_aloadn (j := 3) (by decide +kernel) rfl) ?_
  refine Eq.trans (rl_invS (ix := 229) (n := 3) (k := 1) 220 [am_P (3, 0, 0), am_I (M (0, 0, 0) (x5 + (nI 1)).toNatClampNeg), am_P (1, 0, 0)] [] (by decide +kernel) (by decide +kernel) (by decide) (by decide +kernel) ⟨rfl, rfl⟩ rfl rfl) ?_
  rfl
theorem b227_1887 {x5 s0 : Int32} {x6 x7 x8 : Option am_V} {M : am_M} {w : am_W4}  : am_rn call 227 1887 [some (am_P (0, 0, 0)), some (am_P (3, 0, 0)), some (am_P (30, 0, 0)), some (am_P (1, 0, 0)), some (am_P (2, 0, 0)), some (am_I x5), x6, x7, x8] [am_I s0] M (am_Z w) = if am_in (x5 + (nI 1)) (M (0, 0, 1) 0).toNatClampNeg then am_cb (call 187 [am_P (30, 0, 0), am_I (M (0, 0, 0) (x5 + (nI 1)).toNatClampNeg)] M (am_Z w)) fun v M' X' => am_rn call 227 1899 [some (am_P (0, 0, 0)), some (am_P (3, 0, 0)), some (am_P (30, 0, 0)), some (am_P (1, 0, 0)), some (am_P (2, 0, 0)), some (am_I x5), some (am_I s0), x7, x8] (v.toList ++ []) M' X' else none := by
  refine Eq.trans (rl_istore (j := 6) (ls' := [some (am_P (0, 0, 0)), some (am_P (3, 0, 0)), some (am_P (30, 0, 0)), some (am_P (1, 0, 0)), some (am_P (2, 0, 0)), some (am_I x5), some (am_I s0), x7, x8]) (by decide +kernel) rfl rfl) ?_
  refine Eq.trans (rl_aloadn (j := 2) (by decide +kernel) rfl) ?_
  refine Eq.trans (rl_aloadn (j := 0) (by decide +kernel) rfl) ?_
  refine Eq.trans (rl_iload (j := 5) (by decide +kernel) rfl) ?_
  refine Eq.trans (rl_iconst (c := 1) (k := (nI 1)) (by decide +kernel) (by decide)) ?_
  refine Eq.trans (rl_iadd (by decide +kernel)) ?_
  refine Eq.trans (rl_sald (by decide +kernel)) ?_
  refine am_ite (fun h_1 => ?_) (fun _ => rfl)
  refine Eq.trans (rl_inv (ix := 231) (n := 1) (o := 9) 187 [am_I (M (0, 0, 0) (x5 + (nI 1)).toNatClampNeg)] [] (by decide +kernel) (by decide +kernel) (by decide +kernel) (by decide +kernel) ⟨rfl, rfl⟩ rfl rfl ck30) ?_
  rfl
theorem b227_1899 {x5 x6 s0 : Int32} {x7 x8 : Option am_V} {M : am_M} {w : am_W4}  : am_rn call 227 1899 [some (am_P (0, 0, 0)), some (am_P (3, 0, 0)), some (am_P (30, 0, 0)), some (am_P (1, 0, 0)), some (am_P (2, 0, 0)), some (am_I x5), some (am_I x6), x7, x8] [am_I s0] M (am_Z w) = am_cb (call 114 [am_P (30, 0, 0)] M (am_Z w)) fun v M' X' => am_rn call 227 1905 [some (am_P (0, 0, 0)), some (am_P (3, 0, 0)), some (am_P (30, 0, 0)), some (am_P (1, 0, 0)), some (am_P (2, 0, 0)), some (am_I x5), some (am_I x6), some (am_I s0), x8] (v.toList ++ []) M' X' := by
  refine Eq.trans (rl_istore (j := 7) (ls' := [some (am_P (0, 0, 0)), some (am_P (3, 0, 0)), some (am_P (30, 0, 0)), some (am_P (1, 0, 0)), some (am_P (2, 0, 0)), some (am_I x5), some (am_I x6), some (am_I s0), x8]) (by decide +kernel) rfl rfl) ?_
  refine Eq.trans (rl_aloadn (j := 2) (by decide +kernel) rfl) ?_
  refine Eq.trans (rl_inv (ix := 137) (n := 0) (o := 9) 114 [] [] (by decide +kernel) (by decide +kernel) (by decide +kernel) (by decide +kernel) ⟨rfl, rfl⟩ rfl rfl ck30) ?_
  rfl
theorem b227_1905 {x5 x6 x7 s0 : Int32} {x8 : Option am_V} {M : am_M} {w : am_W4}  : am_rn call 227 1905 [some (am_P (0, 0, 0)), some (am_P (3, 0, 0)), some (am_P (30, 0, 0)), some (am_P (1, 0, 0)), some (am_P (2, 0, 0)), some (am_I x5), some (am_I x6), some (am_I x7), x8] [am_I s0] M (am_Z w) = if s0 = x6 then if x6 = 0 then if (lg_cmp w.2.2.1 x7.toInt64) = 0 then am_rn call 227 1929 [some (am_P (0, 0, 0)), some (am_P (3, 0, 0)), some (am_P (30, 0, 0)), some (am_P (1, 0, 0)), some (am_P (2, 0, 0)), some (am_I x5), some (am_I x6), some (am_I x7), x8] [] M (am_Z w) else some (.inl (some (am_I (nI 0))), M, (am_Z w)) else am_rn call 227 1929 [some (am_P (0, 0, 0)), some (am_P (3, 0, 0)), some (am_P (30, 0, 0)), some (am_P (1, 0, 0)), some (am_P (2, 0, 0)), some (am_I x5), some (am_I x6), some (am_I x7), x8] [] M (am_Z w) else some (.inl (some (am_I (nI 0))), M, (am_Z w)) := by
  refine Eq.trans (rl_iload (j := 6) (by decide +kernel) rfl) ?_
  refine Eq.trans (rl_iceq (o := 5) 1912 (by decide +kernel) (by decide)) ?_
  refine am_ite (fun h_1 => ?_) (fun h_1 => ?_)
  · skip
    refine Eq.trans (rl_iload (j := 6) (by decide +kernel) rfl) ?_
    refine Eq.trans (rl_ifne (o := 15) 1929 (by decide +kernel) (by decide)) ?_
    refine am_ite (fun h_2 => ?_) (fun h_2 => ?_)
    · skip
      refine Eq.trans (rl_aloadn (j := 3) (by decide +kernel) rfl) ?_
      refine Eq.trans (rl_iconst (c := 0) (k := (nI 0)) (by decide +kernel) (by decide)) ?_
      refine Eq.trans (rl_lald (by decide +kernel)) ?_
      refine Eq.trans (rl_iload (j := 7) (by decide +kernel) rfl) ?_
      refine Eq.trans (rl_i2l (by decide +kernel)) ?_
      refine Eq.trans (rl_lcmp (by decide +kernel)) ?_
      refine Eq.trans (rl_ifeq (o := 5) 1929 (by decide +kernel) (by decide)) ?_
      refine am_ite (fun h_3 => ?_) (fun h_3 => ?_)
      · skip
        rfl
      · skip
        refine Eq.trans (rl_iconst (c := 0) (k := (nI 0)) (by decide +kernel) (by decide)) ?_
        exact rl_zretk (by decide +kernel) rfl rfl
    · skip
      rfl
  · skip
    refine Eq.trans (rl_iconst (c := 0) (k := (nI 0)) (by decide +kernel) (by decide)) ?_
    exact rl_zretk (by decide +kernel) rfl rfl
theorem b227_1929 {x5 x6 x7 : Int32} {x8 : Option am_V} {M : am_M} {w : am_W4}  : am_rn call 227 1929 [some (am_P (0, 0, 0)), some (am_P (3, 0, 0)), some (am_P (30, 0, 0)), some (am_P (1, 0, 0)), some (am_P (2, 0, 0)), some (am_I x5), some (am_I x6), some (am_I x7), x8] [] M (am_Z w) = am_rn call 227 2276 [some (am_P (0, 0, 0)), some (am_P (3, 0, 0)), some (am_P (30, 0, 0)), some (am_P (1, 0, 0)), some (am_P (2, 0, 0)), some (am_I x5), some (am_I x6), some (am_I x7), x8] [] M (am_Z w) := by
  refine Eq.trans (rl_goto (o := 347) 2276 (by decide +kernel) (by decide)) ?_
  rfl
theorem b227_1932 {x5 : Int32} {x6 x7 x8 : Option am_V} {M : am_M} {w : am_W4}  : am_rn call 227 1932 [some (am_P (0, 0, 0)), some (am_P (3, 0, 0)), some (am_P (30, 0, 0)), some (am_P (1, 0, 0)), some (am_P (2, 0, 0)), some (am_I x5), x6, x7, x8] [] M (am_Z w) = if am_in (x5 + (nI 1)) (M (0, 0, 1) 0).toNatClampNeg then am_cb (call 221 [am_P (3, 0, 0), am_I (M (0, 0, 0) (x5 + (nI 1)).toNatClampNeg), am_P (1, 0, 0)] M (am_Z w)) fun v M' X' => am_rn call 227 1943 [some (am_P (0, 0, 0)), some (am_P (3, 0, 0)), some (am_P (30, 0, 0)), some (am_P (1, 0, 0)), some (am_P (2, 0, 0)), some (am_I x5), x6, x7, x8] (v.toList ++ []) M' X' else none := by
  refine Eq.trans (rl_aloadn (j := 1) (by decide +kernel) rfl) ?_
  refine Eq.trans (rl_aloadn (j := 0) (by decide +kernel) rfl) ?_
  refine Eq.trans (rl_iload (j := 5) (by decide +kernel) rfl) ?_
  refine Eq.trans (rl_iconst (c := 1) (k := (nI 1)) (by decide +kernel) (by decide)) ?_
  refine Eq.trans (rl_iadd (by decide +kernel)) ?_
  refine Eq.trans (rl_sald (by decide +kernel)) ?_
  refine am_ite (fun h_1 => ?_) (fun _ => rfl)
  refine Eq.trans (rl_aloadn (j := 3) (by decide +kernel) rfl) ?_
  refine Eq.trans (rl_invS (ix := 232) (n := 3) (k := 1) 221 [am_P (3, 0, 0), am_I (M (0, 0, 0) (x5 + (nI 1)).toNatClampNeg), am_P (1, 0, 0)] [] (by decide +kernel) (by decide +kernel) (by decide) (by decide +kernel) ⟨rfl, rfl⟩ rfl rfl) ?_
  rfl
theorem b227_1943 {x5 s0 : Int32} {x6 x7 x8 : Option am_V} {M : am_M} {w : am_W4}  : am_rn call 227 1943 [some (am_P (0, 0, 0)), some (am_P (3, 0, 0)), some (am_P (30, 0, 0)), some (am_P (1, 0, 0)), some (am_P (2, 0, 0)), some (am_I x5), x6, x7, x8] [am_I s0] M (am_Z w) = if am_in (x5 + (nI 1)) (M (0, 0, 1) 0).toNatClampNeg then am_cb (call 188 [am_P (30, 0, 0), am_I (M (0, 0, 0) (x5 + (nI 1)).toNatClampNeg)] M (am_Z w)) fun v M' X' => am_rn call 227 1955 [some (am_P (0, 0, 0)), some (am_P (3, 0, 0)), some (am_P (30, 0, 0)), some (am_P (1, 0, 0)), some (am_P (2, 0, 0)), some (am_I x5), some (am_I s0), x7, x8] (v.toList ++ []) M' X' else none := by
  refine Eq.trans (rl_istore (j := 6) (ls' := [some (am_P (0, 0, 0)), some (am_P (3, 0, 0)), some (am_P (30, 0, 0)), some (am_P (1, 0, 0)), some (am_P (2, 0, 0)), some (am_I x5), some (am_I s0), x7, x8]) (by decide +kernel) rfl rfl) ?_
  refine Eq.trans (rl_aloadn (j := 2) (by decide +kernel) rfl) ?_
  refine Eq.trans (rl_aloadn (j := 0) (by decide +kernel) rfl) ?_
  refine Eq.trans (rl_iload (j := 5) (by decide +kernel) rfl) ?_
  refine Eq.trans (rl_iconst (c := 1) (k := (nI 1)) (by decide +kernel) (by decide)) ?_
  refine Eq.trans (rl_iadd (by decide +kernel)) ?_
  refine Eq.trans (rl_sald (by decide +kernel)) ?_
  refine am_ite (fun h_1 => ?_) (fun _ => rfl)
  refine Eq.trans (rl_inv (ix := 234) (n := 1) (o := 9) 188 [am_I (M (0, 0, 0) (x5 + (nI 1)).toNatClampNeg)] [] (by decide +kernel) (by decide +kernel) (by decide +kernel) (by decide +kernel) ⟨rfl, rfl⟩ rfl rfl ck30) ?_
  rfl
theorem b227_1955 {x5 x6 s0 : Int32} {x7 x8 : Option am_V} {M : am_M} {w : am_W4}  : am_rn call 227 1955 [some (am_P (0, 0, 0)), some (am_P (3, 0, 0)), some (am_P (30, 0, 0)), some (am_P (1, 0, 0)), some (am_P (2, 0, 0)), some (am_I x5), some (am_I x6), x7, x8] [am_I s0] M (am_Z w) = am_cb (call 114 [am_P (30, 0, 0)] M (am_Z w)) fun v M' X' => am_rn call 227 1961 [some (am_P (0, 0, 0)), some (am_P (3, 0, 0)), some (am_P (30, 0, 0)), some (am_P (1, 0, 0)), some (am_P (2, 0, 0)), some (am_I x5), some (am_I x6), some (am_I s0), x8] (v.toList ++ []) M' X' := by
  refine Eq.trans (rl_istore (j := 7) (ls' := [some (am_P (0, 0, 0)), some (am_P (3, 0, 0)), some (am_P (30, 0, 0)), some (am_P (1, 0, 0)), some (am_P (2, 0, 0)), some (am_I x5), some (am_I x6), some (am_I s0), x8]) (by decide +kernel) rfl rfl) ?_
  refine Eq.trans (rl_aloadn (j := 2) (by decide +kernel) rfl) ?_
  refine Eq.trans (rl_inv (ix := 137) (n := 0) (o := 9) 114 [] [] (by decide +kernel) (by decide +kernel) (by decide +kernel) (by decide +kernel) ⟨rfl, rfl⟩ rfl rfl ck30) ?_
  rfl
theorem b227_1961 {x5 x6 x7 s0 : Int32} {x8 : Option am_V} {M : am_M} {w : am_W4}  : am_rn call 227 1961 [some (am_P (0, 0, 0)), some (am_P (3, 0, 0)), some (am_P (30, 0, 0)), some (am_P (1, 0, 0)), some (am_P (2, 0, 0)), some (am_I x5), some (am_I x6), some (am_I x7), x8] [am_I s0] M (am_Z w) = if s0 = x6 then if x6 = 0 then if (lg_cmp w.2.2.1 x7.toInt64) = 0 then am_rn call 227 1985 [some (am_P (0, 0, 0)), some (am_P (3, 0, 0)), some (am_P (30, 0, 0)), some (am_P (1, 0, 0)), some (am_P (2, 0, 0)), some (am_I x5), some (am_I x6), some (am_I x7), x8] [] M (am_Z w) else some (.inl (some (am_I (nI 0))), M, (am_Z w)) else am_rn call 227 1985 [some (am_P (0, 0, 0)), some (am_P (3, 0, 0)), some (am_P (30, 0, 0)), some (am_P (1, 0, 0)), some (am_P (2, 0, 0)), some (am_I x5), some (am_I x6), some (am_I x7), x8] [] M (am_Z w) else some (.inl (some (am_I (nI 0))), M, (am_Z w)) := by
  refine Eq.trans (rl_iload (j := 6) (by decide +kernel) rfl) ?_
  refine Eq.trans (rl_iceq (o := 5) 1968 (by decide +kernel) (by decide)) ?_
  refine am_ite (fun h_1 => ?_) (fun h_1 => ?_)
  · skip
    refine Eq.trans (rl_iload (j := 6) (by decide +kernel) rfl) ?_
    refine Eq.trans (rl_ifne (o := 15) 1985 (by decide +kernel) (by decide)) ?_
    refine am_ite (fun h_2 => ?_) (fun h_2 => ?_)
    · skip
      refine Eq.trans (rl_aloadn (j := 3) (by decide +kernel) rfl) ?_
      refine Eq.trans (rl_iconst (c := 0) (k := (nI 0)) (by decide +kernel) (by decide)) ?_
      refine Eq.trans (rl_lald (by decide +kernel)) ?_
      refine Eq.trans (rl_iload (j := 7) (by decide +kernel) rfl) ?_
      refine Eq.trans (rl_i2l (by decide +kernel)) ?_
      refine Eq.trans (rl_lcmp (by decide +kernel)) ?_
      refine Eq.trans (rl_ifeq (o := 5) 1985 (by decide +kernel) (by decide)) ?_
      refine am_ite (fun h_3 => ?_) (fun h_3 => ?_)
      · skip
        rfl
      · skip
        refine Eq.trans (rl_iconst (c := 0) (k := (nI 0)) (by decide +kernel) (by decide)) ?_
        exact rl_zretk (by decide +kernel) rfl rfl
    · skip
      rfl
  · skip
    refine Eq.trans (rl_iconst (c := 0) (k := (nI 0)) (by decide +kernel) (by decide)) ?_
    exact rl_zretk (by decide +kernel) rfl rfl
theorem b227_1985 {x5 x6 x7 : Int32} {x8 : Option am_V} {M : am_M} {w : am_W4}  : am_rn call 227 1985 [some (am_P (0, 0, 0)), some (am_P (3, 0, 0)), some (am_P (30, 0, 0)), some (am_P (1, 0, 0)), some (am_P (2, 0, 0)), some (am_I x5), some (am_I x6), some (am_I x7), x8] [] M (am_Z w) = am_rn call 227 2276 [some (am_P (0, 0, 0)), some (am_P (3, 0, 0)), some (am_P (30, 0, 0)), some (am_P (1, 0, 0)), some (am_P (2, 0, 0)), some (am_I x5), some (am_I x6), some (am_I x7), x8] [] M (am_Z w) := by
  refine Eq.trans (rl_goto (o := 291) 2276 (by decide +kernel) (by decide)) ?_
  rfl
theorem b227_1988 {x5 : Int32} {x6 x7 x8 : Option am_V} {M : am_M} {w : am_W4}  : am_rn call 227 1988 [some (am_P (0, 0, 0)), some (am_P (3, 0, 0)), some (am_P (30, 0, 0)), some (am_P (1, 0, 0)), some (am_P (2, 0, 0)), some (am_I x5), x6, x7, x8] [] M (am_Z w) = am_cb (call 222 [am_P (3, 0, 0), am_P (2, 0, 0)] M (am_Z w)) fun v M' X' => am_rn call 227 1994 [some (am_P (0, 0, 0)), some (am_P (3, 0, 0)), some (am_P (30, 0, 0)), some (am_P (1, 0, 0)), some (am_P (2, 0, 0)), some (am_I x5), x6, x7, x8] (v.toList ++ []) M' X' := by
  refine Eq.trans (rl_aloadn (j := 1) (by decide +kernel) rfl) ?_
  refine Eq.trans (rl_aload (j := 4) (by decide +kernel) rfl) ?_
  refine Eq.trans (rl_invS (ix := 235) (n := 2) (k := 1) 222 [am_P (3, 0, 0), am_P (2, 0, 0)] [] (by decide +kernel) (by decide +kernel) (by decide) (by decide +kernel) ⟨rfl, rfl⟩ rfl rfl) ?_
  rfl
theorem b227_1994 {x5 s0 : Int32} {x6 x7 x8 : Option am_V} {M : am_M} {w : am_W4}  : am_rn call 227 1994 [some (am_P (0, 0, 0)), some (am_P (3, 0, 0)), some (am_P (30, 0, 0)), some (am_P (1, 0, 0)), some (am_P (2, 0, 0)), some (am_I x5), x6, x7, x8] [am_I s0] M (am_Z w) = am_cb (call 189 [am_P (30, 0, 0)] M (am_Z w)) fun v M' X' => am_rn call 227 2000 [some (am_P (0, 0, 0)), some (am_P (3, 0, 0)), some (am_P (30, 0, 0)), some (am_P (1, 0, 0)), some (am_P (2, 0, 0)), some (am_I x5), some (am_I s0), x7, x8] (v.toList ++ []) M' X' := by
  refine Eq.trans (rl_istore (j := 6) (ls' := [some (am_P (0, 0, 0)), some (am_P (3, 0, 0)), some (am_P (30, 0, 0)), some (am_P (1, 0, 0)), some (am_P (2, 0, 0)), some (am_I x5), some (am_I s0), x7, x8]) (by decide +kernel) rfl rfl) ?_
  refine Eq.trans (rl_aloadn (j := 2) (by decide +kernel) rfl) ?_
  refine Eq.trans (rl_inv (ix := 238) (n := 0) (o := 9) 189 [] [] (by decide +kernel) (by decide +kernel) (by decide +kernel) (by decide +kernel) ⟨rfl, rfl⟩ rfl rfl ck30) ?_
  rfl
theorem b227_2000 {x5 x6 : Int32} {x7 x8 : Option am_V} {s0 : UInt32} {M : am_M} {w : am_W4}  : am_rn call 227 2000 [some (am_P (0, 0, 0)), some (am_P (3, 0, 0)), some (am_P (30, 0, 0)), some (am_P (1, 0, 0)), some (am_P (2, 0, 0)), some (am_I x5), some (am_I x6), x7, x8] [.inl (.float s0)] M (am_Z w) = am_cb (call 114 [am_P (30, 0, 0)] M (am_Z w)) fun v M' X' => am_rn call 227 2006 [some (am_P (0, 0, 0)), some (am_P (3, 0, 0)), some (am_P (30, 0, 0)), some (am_P (1, 0, 0)), some (am_P (2, 0, 0)), some (am_I x5), some (am_I x6), some (.inl (.float s0)), x8] (v.toList ++ []) M' X' := by
  refine Eq.trans (rl_fstore (j := 7) (ls' := [some (am_P (0, 0, 0)), some (am_P (3, 0, 0)), some (am_P (30, 0, 0)), some (am_P (1, 0, 0)), some (am_P (2, 0, 0)), some (am_I x5), some (am_I x6), some (.inl (.float s0)), x8]) (by decide +kernel) rfl rfl) ?_
  refine Eq.trans (rl_aloadn (j := 2) (by decide +kernel) rfl) ?_
  refine Eq.trans (rl_inv (ix := 137) (n := 0) (o := 9) 114 [] [] (by decide +kernel) (by decide +kernel) (by decide +kernel) (by decide +kernel) ⟨rfl, rfl⟩ rfl rfl ck30) ?_
  rfl
theorem b227_2006 {x5 x6 s0 : Int32} {x7 : UInt32} {x8 : Option am_V} {M : am_M} {w : am_W4}  : am_rn call 227 2006 [some (am_P (0, 0, 0)), some (am_P (3, 0, 0)), some (am_P (30, 0, 0)), some (am_P (1, 0, 0)), some (am_P (2, 0, 0)), some (am_I x5), some (am_I x6), some (.inl (.float x7)), x8] [am_I s0] M (am_Z w) = if s0 = x6 then if x6 = 0 then if FP.f2d x7 &&& 0x7fffffffffffffff ≤ 0x7ff0000000000000 then if (Op.cmpValue (FP.dcmp w.2.2.2 (FP.f2d x7)) .l) = 0 then am_rn call 227 2051 [some (am_P (0, 0, 0)), some (am_P (3, 0, 0)), some (am_P (30, 0, 0)), some (am_P (1, 0, 0)), some (am_P (2, 0, 0)), some (am_I x5), some (am_I x6), some (.inl (.float x7)), x8] [] M (am_Z w) else if (Op.cmpValue (FP.dcmp w.2.2.2 w.2.2.2) .l) = 0 then some (.inl (some (am_I (nI 0))), M, (am_Z w)) else if (Op.cmpValue (FP.fcmp x7 x7) .l) = 0 then some (.inl (some (am_I (nI 0))), M, (am_Z w)) else am_rn call 227 2051 [some (am_P (0, 0, 0)), some (am_P (3, 0, 0)), some (am_P (30, 0, 0)), some (am_P (1, 0, 0)), some (am_P (2, 0, 0)), some (am_I x5), some (am_I x6), some (.inl (.float x7)), x8] [] M (am_Z w) else none else am_rn call 227 2051 [some (am_P (0, 0, 0)), some (am_P (3, 0, 0)), some (am_P (30, 0, 0)), some (am_P (1, 0, 0)), some (am_P (2, 0, 0)), some (am_I x5), some (am_I x6), some (.inl (.float x7)), x8] [] M (am_Z w) else some (.inl (some (am_I (nI 0))), M, (am_Z w)) := by
  refine Eq.trans (rl_iload (j := 6) (by decide +kernel) rfl) ?_
  refine Eq.trans (rl_iceq (o := 5) 2013 (by decide +kernel) (by decide)) ?_
  refine am_ite (fun h_1 => ?_) (fun h_1 => ?_)
  · skip
    refine Eq.trans (rl_iload (j := 6) (by decide +kernel) rfl) ?_
    refine Eq.trans (rl_ifne (o := 36) 2051 (by decide +kernel) (by decide)) ?_
    refine am_ite (fun h_2 => ?_) (fun h_2 => ?_)
    · skip
      refine Eq.trans (rl_aload (j := 4) (by decide +kernel) rfl) ?_
      refine Eq.trans (rl_iconst (c := 0) (k := (nI 0)) (by decide +kernel) (by decide)) ?_
      refine Eq.trans (rl_dald (by decide +kernel)) ?_
      refine Eq.trans (rl_fload (j := 7) (by decide +kernel) rfl) ?_
      refine Eq.trans (rl_f2d (by decide +kernel)) ?_
      refine am_ite (fun h_3 => ?_) (fun _ => rfl)
      refine Eq.trans (rl_dcmp (op := .l) (by decide +kernel)) ?_
      refine Eq.trans (rl_ifeq (o := 25) 2051 (by decide +kernel) (by decide)) ?_
      refine am_ite (fun h_4 => ?_) (fun h_4 => ?_)
      · skip
        rfl
      · skip
        refine Eq.trans (rl_aload (j := 4) (by decide +kernel) rfl) ?_
        refine Eq.trans (rl_iconst (c := 0) (k := (nI 0)) (by decide +kernel) (by decide)) ?_
        refine Eq.trans (rl_dald (by decide +kernel)) ?_
        refine Eq.trans (rl_aload (j := 4) (by decide +kernel) rfl) ?_
        refine Eq.trans (rl_iconst (c := 0) (k := (nI 0)) (by decide +kernel) (by decide)) ?_
        refine Eq.trans (rl_dald (by decide +kernel)) ?_
        refine Eq.trans (rl_dcmp (op := .l) (by decide +kernel)) ?_
        refine Eq.trans (rl_ifeq (o := 11) 2049 (by decide +kernel) (by decide)) ?_
        refine am_ite (fun h_5 => ?_) (fun h_5 => ?_)
        · skip
          refine Eq.trans (rl_iconst (c := 0) (k := (nI 0)) (by decide +kernel) (by decide)) ?_
          exact rl_zretk (by decide +kernel) rfl rfl
        · skip
          refine Eq.trans (rl_fload (j := 7) (by decide +kernel) rfl) ?_
          refine Eq.trans (rl_fload (j := 7) (by decide +kernel) rfl) ?_
          refine Eq.trans (rl_fcmp (op := .l) (by decide +kernel)) ?_
          refine Eq.trans (rl_ifne (o := 5) 2051 (by decide +kernel) (by decide)) ?_
          refine am_ite (fun h_6 => ?_) (fun h_6 => ?_)
          · skip
            refine Eq.trans (rl_iconst (c := 0) (k := (nI 0)) (by decide +kernel) (by decide)) ?_
            exact rl_zretk (by decide +kernel) rfl rfl
          · skip
            rfl
    · skip
      rfl
  · skip
    refine Eq.trans (rl_iconst (c := 0) (k := (nI 0)) (by decide +kernel) (by decide)) ?_
    exact rl_zretk (by decide +kernel) rfl rfl
theorem b227_2051 {x5 x6 : Int32} {x7 : UInt32} {x8 : Option am_V} {M : am_M} {w : am_W4}  : am_rn call 227 2051 [some (am_P (0, 0, 0)), some (am_P (3, 0, 0)), some (am_P (30, 0, 0)), some (am_P (1, 0, 0)), some (am_P (2, 0, 0)), some (am_I x5), some (am_I x6), some (.inl (.float x7)), x8] [] M (am_Z w) = am_rn call 227 2276 [some (am_P (0, 0, 0)), some (am_P (3, 0, 0)), some (am_P (30, 0, 0)), some (am_P (1, 0, 0)), some (am_P (2, 0, 0)), some (am_I x5), some (am_I x6), some (.inl (.float x7)), x8] [] M (am_Z w) := by
  refine Eq.trans (rl_goto (o := 225) 2276 (by decide +kernel) (by decide)) ?_
  rfl
theorem b227_2054 {x5 : Int32} {x6 x7 x8 : Option am_V} {M : am_M} {w : am_W4}  : am_rn call 227 2054 [some (am_P (0, 0, 0)), some (am_P (3, 0, 0)), some (am_P (30, 0, 0)), some (am_P (1, 0, 0)), some (am_P (2, 0, 0)), some (am_I x5), x6, x7, x8] [] M (am_Z w) = am_cb (call 223 [am_P (3, 0, 0), am_P (2, 0, 0)] M (am_Z w)) fun v M' X' => am_rn call 227 2060 [some (am_P (0, 0, 0)), some (am_P (3, 0, 0)), some (am_P (30, 0, 0)), some (am_P (1, 0, 0)), some (am_P (2, 0, 0)), some (am_I x5), x6, x7, x8] (v.toList ++ []) M' X' := by
  refine Eq.trans (rl_aloadn (j := 1) (by decide +kernel) rfl) ?_
  refine Eq.trans (rl_aload (j := 4) (by decide +kernel) rfl) ?_
  refine Eq.trans (rl_invS (ix := 239) (n := 2) (k := 1) 223 [am_P (3, 0, 0), am_P (2, 0, 0)] [] (by decide +kernel) (by decide +kernel) (by decide) (by decide +kernel) ⟨rfl, rfl⟩ rfl rfl) ?_
  rfl
theorem b227_2060 {x5 s0 : Int32} {x6 x7 x8 : Option am_V} {M : am_M} {w : am_W4}  : am_rn call 227 2060 [some (am_P (0, 0, 0)), some (am_P (3, 0, 0)), some (am_P (30, 0, 0)), some (am_P (1, 0, 0)), some (am_P (2, 0, 0)), some (am_I x5), x6, x7, x8] [am_I s0] M (am_Z w) = am_cb (call 190 [am_P (30, 0, 0)] M (am_Z w)) fun v M' X' => am_rn call 227 2066 [some (am_P (0, 0, 0)), some (am_P (3, 0, 0)), some (am_P (30, 0, 0)), some (am_P (1, 0, 0)), some (am_P (2, 0, 0)), some (am_I x5), some (am_I s0), x7, x8] (v.toList ++ []) M' X' := by
  refine Eq.trans (rl_istore (j := 6) (ls' := [some (am_P (0, 0, 0)), some (am_P (3, 0, 0)), some (am_P (30, 0, 0)), some (am_P (1, 0, 0)), some (am_P (2, 0, 0)), some (am_I x5), some (am_I s0), x7, x8]) (by decide +kernel) rfl rfl) ?_
  refine Eq.trans (rl_aloadn (j := 2) (by decide +kernel) rfl) ?_
  refine Eq.trans (rl_inv (ix := 241) (n := 0) (o := 9) 190 [] [] (by decide +kernel) (by decide +kernel) (by decide +kernel) (by decide +kernel) ⟨rfl, rfl⟩ rfl rfl ck30) ?_
  rfl
theorem b227_2066 {x5 x6 : Int32} {x7 x8 : Option am_V} {s0 : UInt64} {M : am_M} {w : am_W4}  : am_rn call 227 2066 [some (am_P (0, 0, 0)), some (am_P (3, 0, 0)), some (am_P (30, 0, 0)), some (am_P (1, 0, 0)), some (am_P (2, 0, 0)), some (am_I x5), some (am_I x6), x7, x8] [.inl (.double s0)] M (am_Z w) = am_cb (call 114 [am_P (30, 0, 0)] M (am_Z w)) fun v M' X' => am_rn call 227 2072 [some (am_P (0, 0, 0)), some (am_P (3, 0, 0)), some (am_P (30, 0, 0)), some (am_P (1, 0, 0)), some (am_P (2, 0, 0)), some (am_I x5), some (am_I x6), some (.inl (.double s0)), none] (v.toList ++ []) M' X' := by
  refine Eq.trans (rl_dstore (j := 7) (ls' := [some (am_P (0, 0, 0)), some (am_P (3, 0, 0)), some (am_P (30, 0, 0)), some (am_P (1, 0, 0)), some (am_P (2, 0, 0)), some (am_I x5), some (am_I x6), some (.inl (.double s0)), none]) (by decide +kernel) rfl rfl) ?_
  refine Eq.trans (rl_aloadn (j := 2) (by decide +kernel) rfl) ?_
  refine Eq.trans (rl_inv (ix := 137) (n := 0) (o := 9) 114 [] [] (by decide +kernel) (by decide +kernel) (by decide +kernel) (by decide +kernel) ⟨rfl, rfl⟩ rfl rfl ck30) ?_
  rfl
theorem b227_2072 {x5 x6 s0 : Int32} {x7 : UInt64} {M : am_M} {w : am_W4}  : am_rn call 227 2072 [some (am_P (0, 0, 0)), some (am_P (3, 0, 0)), some (am_P (30, 0, 0)), some (am_P (1, 0, 0)), some (am_P (2, 0, 0)), some (am_I x5), some (am_I x6), some (.inl (.double x7)), none] [am_I s0] M (am_Z w) = if s0 = x6 then if x6 = 0 then if (Op.cmpValue (FP.dcmp w.2.2.2 x7) .l) = 0 then am_rn call 227 2116 [some (am_P (0, 0, 0)), some (am_P (3, 0, 0)), some (am_P (30, 0, 0)), some (am_P (1, 0, 0)), some (am_P (2, 0, 0)), some (am_I x5), some (am_I x6), some (.inl (.double x7)), none] [] M (am_Z w) else if (Op.cmpValue (FP.dcmp w.2.2.2 w.2.2.2) .l) = 0 then some (.inl (some (am_I (nI 0))), M, (am_Z w)) else if (Op.cmpValue (FP.dcmp x7 x7) .l) = 0 then some (.inl (some (am_I (nI 0))), M, (am_Z w)) else am_rn call 227 2116 [some (am_P (0, 0, 0)), some (am_P (3, 0, 0)), some (am_P (30, 0, 0)), some (am_P (1, 0, 0)), some (am_P (2, 0, 0)), some (am_I x5), some (am_I x6), some (.inl (.double x7)), none] [] M (am_Z w) else am_rn call 227 2116 [some (am_P (0, 0, 0)), some (am_P (3, 0, 0)), some (am_P (30, 0, 0)), some (am_P (1, 0, 0)), some (am_P (2, 0, 0)), some (am_I x5), some (am_I x6), some (.inl (.double x7)), none] [] M (am_Z w) else some (.inl (some (am_I (nI 0))), M, (am_Z w)) := by
  refine Eq.trans (rl_iload (j := 6) (by decide +kernel) rfl) ?_
  refine Eq.trans (rl_iceq (o := 5) 2079 (by decide +kernel) (by decide)) ?_
  refine am_ite (fun h_1 => ?_) (fun h_1 => ?_)
  · skip
    refine Eq.trans (rl_iload (j := 6) (by decide +kernel) rfl) ?_
    refine Eq.trans (rl_ifne (o := 35) 2116 (by decide +kernel) (by decide)) ?_
    refine am_ite (fun h_2 => ?_) (fun h_2 => ?_)
    · skip
      refine Eq.trans (rl_aload (j := 4) (by decide +kernel) rfl) ?_
      refine Eq.trans (rl_iconst (c := 0) (k := (nI 0)) (by decide +kernel) (by decide)) ?_
      refine Eq.trans (rl_dald (by decide +kernel)) ?_
      refine Eq.trans (rl_dload (j := 7) (by decide +kernel) rfl) ?_
      refine Eq.trans (rl_dcmp (op := .l) (by decide +kernel)) ?_
      refine Eq.trans (rl_ifeq (o := 25) 2116 (by decide +kernel) (by decide)) ?_
      refine am_ite (fun h_3 => ?_) (fun h_3 => ?_)
      · skip
        rfl
      · skip
        refine Eq.trans (rl_aload (j := 4) (by decide +kernel) rfl) ?_
        refine Eq.trans (rl_iconst (c := 0) (k := (nI 0)) (by decide +kernel) (by decide)) ?_
        refine Eq.trans (rl_dald (by decide +kernel)) ?_
        refine Eq.trans (rl_aload (j := 4) (by decide +kernel) rfl) ?_
        refine Eq.trans (rl_iconst (c := 0) (k := (nI 0)) (by decide +kernel) (by decide)) ?_
        refine Eq.trans (rl_dald (by decide +kernel)) ?_
        refine Eq.trans (rl_dcmp (op := .l) (by decide +kernel)) ?_
        refine Eq.trans (rl_ifeq (o := 11) 2114 (by decide +kernel) (by decide)) ?_
        refine am_ite (fun h_4 => ?_) (fun h_4 => ?_)
        · skip
          refine Eq.trans (rl_iconst (c := 0) (k := (nI 0)) (by decide +kernel) (by decide)) ?_
          exact rl_zretk (by decide +kernel) rfl rfl
        · skip
          refine Eq.trans (rl_dload (j := 7) (by decide +kernel) rfl) ?_
          refine Eq.trans (rl_dload (j := 7) (by decide +kernel) rfl) ?_
          refine Eq.trans (rl_dcmp (op := .l) (by decide +kernel)) ?_
          refine Eq.trans (rl_ifne (o := 5) 2116 (by decide +kernel) (by decide)) ?_
          refine am_ite (fun h_5 => ?_) (fun h_5 => ?_)
          · skip
            refine Eq.trans (rl_iconst (c := 0) (k := (nI 0)) (by decide +kernel) (by decide)) ?_
            exact rl_zretk (by decide +kernel) rfl rfl
          · skip
            rfl
    · skip
      rfl
  · skip
    refine Eq.trans (rl_iconst (c := 0) (k := (nI 0)) (by decide +kernel) (by decide)) ?_
    exact rl_zretk (by decide +kernel) rfl rfl
theorem b227_2116 {x5 x6 : Int32} {x7 : UInt64} {M : am_M} {w : am_W4}  : am_rn call 227 2116 [some (am_P (0, 0, 0)), some (am_P (3, 0, 0)), some (am_P (30, 0, 0)), some (am_P (1, 0, 0)), some (am_P (2, 0, 0)), some (am_I x5), some (am_I x6), some (.inl (.double x7)), none] [] M (am_Z w) = am_rn call 227 2276 [some (am_P (0, 0, 0)), some (am_P (3, 0, 0)), some (am_P (30, 0, 0)), some (am_P (1, 0, 0)), some (am_P (2, 0, 0)), some (am_I x5), some (am_I x6), some (.inl (.double x7)), none] [] M (am_Z w) := by
  refine Eq.trans (rl_goto (o := 160) 2276 (by decide +kernel) (by decide)) ?_
  rfl
theorem b227_2119 {x5 : Int32} {x6 x7 x8 : Option am_V} {M : am_M} {w : am_W4}  : am_rn call 227 2119 [some (am_P (0, 0, 0)), some (am_P (3, 0, 0)), some (am_P (30, 0, 0)), some (am_P (1, 0, 0)), some (am_P (2, 0, 0)), some (am_I x5), x6, x7, x8] [] M (am_Z w) = if am_in (x5 + (nI 1)) (M (0, 0, 1) 0).toNatClampNeg then am_cb (call 224 [am_P (3, 0, 0), am_I (M (0, 0, 0) (x5 + (nI 1)).toNatClampNeg), am_P (1, 0, 0)] M (am_Z w)) fun v M' X' => am_rn call 227 2130 [some (am_P (0, 0, 0)), some (am_P (3, 0, 0)), some (am_P (30, 0, 0)), some (am_P (1, 0, 0)), some (am_P (2, 0, 0)), some (am_I x5), x6, x7, x8] (v.toList ++ []) M' X' else none := by
  refine Eq.trans (rl_aloadn (j := 1) (by decide +kernel) rfl) ?_
  refine Eq.trans (rl_aloadn (j := 0) (by decide +kernel) rfl) ?_
  refine Eq.trans (rl_iload (j := 5) (by decide +kernel) rfl) ?_
  refine Eq.trans (rl_iconst (c := 1) (k := (nI 1)) (by decide +kernel) (by decide)) ?_
  refine Eq.trans (rl_iadd (by decide +kernel)) ?_
  refine Eq.trans (rl_sald (by decide +kernel)) ?_
  refine am_ite (fun h_1 => ?_) (fun _ => rfl)
  refine Eq.trans (rl_aloadn (j := 3) (by decide +kernel) rfl) ?_
  refine Eq.trans (rl_invS (ix := 242) (n := 3) (k := 1) 224 [am_P (3, 0, 0), am_I (M (0, 0, 0) (x5 + (nI 1)).toNatClampNeg), am_P (1, 0, 0)] [] (by decide +kernel) (by decide +kernel) (by decide) (by decide +kernel) ⟨rfl, rfl⟩ rfl rfl) ?_
  rfl
theorem b227_2130 {x5 s0 : Int32} {x6 x7 x8 : Option am_V} {M : am_M} {w : am_W4}  : am_rn call 227 2130 [some (am_P (0, 0, 0)), some (am_P (3, 0, 0)), some (am_P (30, 0, 0)), some (am_P (1, 0, 0)), some (am_P (2, 0, 0)), some (am_I x5), x6, x7, x8] [am_I s0] M (am_Z w) = if am_in (x5 + (nI 1)) (M (0, 0, 1) 0).toNatClampNeg then am_cb (call 191 [am_P (30, 0, 0), am_I (M (0, 0, 0) (x5 + (nI 1)).toNatClampNeg)] M (am_Z w)) fun v M' X' => am_rn call 227 2142 [some (am_P (0, 0, 0)), some (am_P (3, 0, 0)), some (am_P (30, 0, 0)), some (am_P (1, 0, 0)), some (am_P (2, 0, 0)), some (am_I x5), some (am_I s0), x7, x8] (v.toList ++ []) M' X' else none := by
  refine Eq.trans (rl_istore (j := 6) (ls' := [some (am_P (0, 0, 0)), some (am_P (3, 0, 0)), some (am_P (30, 0, 0)), some (am_P (1, 0, 0)), some (am_P (2, 0, 0)), some (am_I x5), some (am_I s0), x7, x8]) (by decide +kernel) rfl rfl) ?_
  refine Eq.trans (rl_aloadn (j := 2) (by decide +kernel) rfl) ?_
  refine Eq.trans (rl_aloadn (j := 0) (by decide +kernel) rfl) ?_
  refine Eq.trans (rl_iload (j := 5) (by decide +kernel) rfl) ?_
  refine Eq.trans (rl_iconst (c := 1) (k := (nI 1)) (by decide +kernel) (by decide)) ?_
  refine Eq.trans (rl_iadd (by decide +kernel)) ?_
  refine Eq.trans (rl_sald (by decide +kernel)) ?_
  refine am_ite (fun h_1 => ?_) (fun _ => rfl)
  refine Eq.trans (rl_inv (ix := 244) (n := 1) (o := 9) 191 [am_I (M (0, 0, 0) (x5 + (nI 1)).toNatClampNeg)] [] (by decide +kernel) (by decide +kernel) (by decide +kernel) (by decide +kernel) ⟨rfl, rfl⟩ rfl rfl ck30) ?_
  rfl
theorem b227_2142 {x5 x6 s0 : Int32} {x7 x8 : Option am_V} {M : am_M} {w : am_W4}  : am_rn call 227 2142 [some (am_P (0, 0, 0)), some (am_P (3, 0, 0)), some (am_P (30, 0, 0)), some (am_P (1, 0, 0)), some (am_P (2, 0, 0)), some (am_I x5), some (am_I x6), x7, x8] [am_I s0] M (am_Z w) = am_cb (call 114 [am_P (30, 0, 0)] M (am_Z w)) fun v M' X' => am_rn call 227 2148 [some (am_P (0, 0, 0)), some (am_P (3, 0, 0)), some (am_P (30, 0, 0)), some (am_P (1, 0, 0)), some (am_P (2, 0, 0)), some (am_I x5), some (am_I x6), some (am_I s0), x8] (v.toList ++ []) M' X' := by
  refine Eq.trans (rl_istore (j := 7) (ls' := [some (am_P (0, 0, 0)), some (am_P (3, 0, 0)), some (am_P (30, 0, 0)), some (am_P (1, 0, 0)), some (am_P (2, 0, 0)), some (am_I x5), some (am_I x6), some (am_I s0), x8]) (by decide +kernel) rfl rfl) ?_
  refine Eq.trans (rl_aloadn (j := 2) (by decide +kernel) rfl) ?_
  refine Eq.trans (rl_inv (ix := 137) (n := 0) (o := 9) 114 [] [] (by decide +kernel) (by decide +kernel) (by decide +kernel) (by decide +kernel) ⟨rfl, rfl⟩ rfl rfl ck30) ?_
  rfl
theorem b227_2148 {x5 x6 x7 s0 : Int32} {x8 : Option am_V} {M : am_M} {w : am_W4}  : am_rn call 227 2148 [some (am_P (0, 0, 0)), some (am_P (3, 0, 0)), some (am_P (30, 0, 0)), some (am_P (1, 0, 0)), some (am_P (2, 0, 0)), some (am_I x5), some (am_I x6), some (am_I x7), x8] [am_I s0] M (am_Z w) = if s0 = x6 then if x6 = 0 then if (lg_cmp w.2.2.1 x7.toInt64) = 0 then am_rn call 227 2172 [some (am_P (0, 0, 0)), some (am_P (3, 0, 0)), some (am_P (30, 0, 0)), some (am_P (1, 0, 0)), some (am_P (2, 0, 0)), some (am_I x5), some (am_I x6), some (am_I x7), x8] [] M (am_Z w) else some (.inl (some (am_I (nI 0))), M, (am_Z w)) else am_rn call 227 2172 [some (am_P (0, 0, 0)), some (am_P (3, 0, 0)), some (am_P (30, 0, 0)), some (am_P (1, 0, 0)), some (am_P (2, 0, 0)), some (am_I x5), some (am_I x6), some (am_I x7), x8] [] M (am_Z w) else some (.inl (some (am_I (nI 0))), M, (am_Z w)) := by
  refine Eq.trans (rl_iload (j := 6) (by decide +kernel) rfl) ?_
  refine Eq.trans (rl_iceq (o := 5) 2155 (by decide +kernel) (by decide)) ?_
  refine am_ite (fun h_1 => ?_) (fun h_1 => ?_)
  · skip
    refine Eq.trans (rl_iload (j := 6) (by decide +kernel) rfl) ?_
    refine Eq.trans (rl_ifne (o := 15) 2172 (by decide +kernel) (by decide)) ?_
    refine am_ite (fun h_2 => ?_) (fun h_2 => ?_)
    · skip
      refine Eq.trans (rl_aloadn (j := 3) (by decide +kernel) rfl) ?_
      refine Eq.trans (rl_iconst (c := 0) (k := (nI 0)) (by decide +kernel) (by decide)) ?_
      refine Eq.trans (rl_lald (by decide +kernel)) ?_
      refine Eq.trans (rl_iload (j := 7) (by decide +kernel) rfl) ?_
      refine Eq.trans (rl_i2l (by decide +kernel)) ?_
      refine Eq.trans (rl_lcmp (by decide +kernel)) ?_
      refine Eq.trans (rl_ifeq (o := 5) 2172 (by decide +kernel) (by decide)) ?_
      refine am_ite (fun h_3 => ?_) (fun h_3 => ?_)
      · skip
        rfl
      · skip
        refine Eq.trans (rl_iconst (c := 0) (k := (nI 0)) (by decide +kernel) (by decide)) ?_
        exact rl_zretk (by decide +kernel) rfl rfl
    · skip
      rfl
  · skip
    refine Eq.trans (rl_iconst (c := 0) (k := (nI 0)) (by decide +kernel) (by decide)) ?_
    exact rl_zretk (by decide +kernel) rfl rfl
theorem b227_2172 {x5 x6 x7 : Int32} {x8 : Option am_V} {M : am_M} {w : am_W4}  : am_rn call 227 2172 [some (am_P (0, 0, 0)), some (am_P (3, 0, 0)), some (am_P (30, 0, 0)), some (am_P (1, 0, 0)), some (am_P (2, 0, 0)), some (am_I x5), some (am_I x6), some (am_I x7), x8] [] M (am_Z w) = am_rn call 227 2276 [some (am_P (0, 0, 0)), some (am_P (3, 0, 0)), some (am_P (30, 0, 0)), some (am_P (1, 0, 0)), some (am_P (2, 0, 0)), some (am_I x5), some (am_I x6), some (am_I x7), x8] [] M (am_Z w) := by
  refine Eq.trans (rl_goto (o := 104) 2276 (by decide +kernel) (by decide)) ?_
  rfl
theorem b227_2175 {x5 : Int32} {x6 x7 x8 : Option am_V} {M : am_M} {w : am_W4}  : am_rn call 227 2175 [some (am_P (0, 0, 0)), some (am_P (3, 0, 0)), some (am_P (30, 0, 0)), some (am_P (1, 0, 0)), some (am_P (2, 0, 0)), some (am_I x5), x6, x7, x8] [] M (am_Z w) = am_cb (call 225 [am_P (3, 0, 0), am_P (1, 0, 0)] M (am_Z w)) fun v M' X' => am_rn call 227 2180 [some (am_P (0, 0, 0)), some (am_P (3, 0, 0)), some (am_P (30, 0, 0)), some (am_P (1, 0, 0)), some (am_P (2, 0, 0)), some (am_I x5), x6, x7, x8] (v.toList ++ []) M' X' := by
  refine Eq.trans (rl_aloadn (j := 1) (by decide +kernel) rfl) ?_
  refine Eq.trans (rl_aloadn (j := 3) (by decide +kernel) rfl) ?_
  refine Eq.trans (rl_invS (ix := 245) (n := 2) (k := 1) 225 [am_P (3, 0, 0), am_P (1, 0, 0)] [] (by decide +kernel) (by decide +kernel) (by decide) (by decide +kernel) ⟨rfl, rfl⟩ rfl rfl) ?_
  rfl
theorem b227_2180 {x5 s0 : Int32} {x6 x7 x8 : Option am_V} {M : am_M} {w : am_W4}  : am_rn call 227 2180 [some (am_P (0, 0, 0)), some (am_P (3, 0, 0)), some (am_P (30, 0, 0)), some (am_P (1, 0, 0)), some (am_P (2, 0, 0)), some (am_I x5), x6, x7, x8] [am_I s0] M (am_Z w) = am_cb (call 192 [am_P (30, 0, 0)] M (am_Z w)) fun v M' X' => am_rn call 227 2186 [some (am_P (0, 0, 0)), some (am_P (3, 0, 0)), some (am_P (30, 0, 0)), some (am_P (1, 0, 0)), some (am_P (2, 0, 0)), some (am_I x5), some (am_I s0), x7, x8] (v.toList ++ []) M' X' := by
  refine Eq.trans (rl_istore (j := 6) (ls' := [some (am_P (0, 0, 0)), some (am_P (3, 0, 0)), some (am_P (30, 0, 0)), some (am_P (1, 0, 0)), some (am_P (2, 0, 0)), some (am_I x5), some (am_I s0), x7, x8]) (by decide +kernel) rfl rfl) ?_
  refine Eq.trans (rl_aloadn (j := 2) (by decide +kernel) rfl) ?_
  refine Eq.trans (rl_inv (ix := 247) (n := 0) (o := 9) 192 [] [] (by decide +kernel) (by decide +kernel) (by decide +kernel) (by decide +kernel) ⟨rfl, rfl⟩ rfl rfl ck30) ?_
  rfl
theorem b227_2186 {x5 x6 s0 : Int32} {x7 x8 : Option am_V} {M : am_M} {w : am_W4}  : am_rn call 227 2186 [some (am_P (0, 0, 0)), some (am_P (3, 0, 0)), some (am_P (30, 0, 0)), some (am_P (1, 0, 0)), some (am_P (2, 0, 0)), some (am_I x5), some (am_I x6), x7, x8] [am_I s0] M (am_Z w) = am_cb (call 114 [am_P (30, 0, 0)] M (am_Z w)) fun v M' X' => am_rn call 227 2192 [some (am_P (0, 0, 0)), some (am_P (3, 0, 0)), some (am_P (30, 0, 0)), some (am_P (1, 0, 0)), some (am_P (2, 0, 0)), some (am_I x5), some (am_I x6), some (am_I s0), x8] (v.toList ++ []) M' X' := by
  refine Eq.trans (rl_istore (j := 7) (ls' := [some (am_P (0, 0, 0)), some (am_P (3, 0, 0)), some (am_P (30, 0, 0)), some (am_P (1, 0, 0)), some (am_P (2, 0, 0)), some (am_I x5), some (am_I x6), some (am_I s0), x8]) (by decide +kernel) rfl rfl) ?_
  refine Eq.trans (rl_aloadn (j := 2) (by decide +kernel) rfl) ?_
  refine Eq.trans (rl_inv (ix := 137) (n := 0) (o := 9) 114 [] [] (by decide +kernel) (by decide +kernel) (by decide +kernel) (by decide +kernel) ⟨rfl, rfl⟩ rfl rfl ck30) ?_
  rfl
theorem b227_2192 {x5 x6 x7 s0 : Int32} {x8 : Option am_V} {M : am_M} {w : am_W4}  : am_rn call 227 2192 [some (am_P (0, 0, 0)), some (am_P (3, 0, 0)), some (am_P (30, 0, 0)), some (am_P (1, 0, 0)), some (am_P (2, 0, 0)), some (am_I x5), some (am_I x6), some (am_I x7), x8] [am_I s0] M (am_Z w) = if s0 = x6 then if x6 = 0 then if (lg_cmp w.2.2.1 x7.toInt64) = 0 then am_rn call 227 2216 [some (am_P (0, 0, 0)), some (am_P (3, 0, 0)), some (am_P (30, 0, 0)), some (am_P (1, 0, 0)), some (am_P (2, 0, 0)), some (am_I x5), some (am_I x6), some (am_I x7), x8] [] M (am_Z w) else some (.inl (some (am_I (nI 0))), M, (am_Z w)) else am_rn call 227 2216 [some (am_P (0, 0, 0)), some (am_P (3, 0, 0)), some (am_P (30, 0, 0)), some (am_P (1, 0, 0)), some (am_P (2, 0, 0)), some (am_I x5), some (am_I x6), some (am_I x7), x8] [] M (am_Z w) else some (.inl (some (am_I (nI 0))), M, (am_Z w)) := by
  refine Eq.trans (rl_iload (j := 6) (by decide +kernel) rfl) ?_
  refine Eq.trans (rl_iceq (o := 5) 2199 (by decide +kernel) (by decide)) ?_
  refine am_ite (fun h_1 => ?_) (fun h_1 => ?_)
  · skip
    refine Eq.trans (rl_iload (j := 6) (by decide +kernel) rfl) ?_
    refine Eq.trans (rl_ifne (o := 15) 2216 (by decide +kernel) (by decide)) ?_
    refine am_ite (fun h_2 => ?_) (fun h_2 => ?_)
    · skip
      refine Eq.trans (rl_aloadn (j := 3) (by decide +kernel) rfl) ?_
      refine Eq.trans (rl_iconst (c := 0) (k := (nI 0)) (by decide +kernel) (by decide)) ?_
      refine Eq.trans (rl_lald (by decide +kernel)) ?_
      refine Eq.trans (rl_iload (j := 7) (by decide +kernel) rfl) ?_
      refine Eq.trans (rl_i2l (by decide +kernel)) ?_
      refine Eq.trans (rl_lcmp (by decide +kernel)) ?_
      refine Eq.trans (rl_ifeq (o := 5) 2216 (by decide +kernel) (by decide)) ?_
      refine am_ite (fun h_3 => ?_) (fun h_3 => ?_)
      · skip
        rfl
      · skip
        refine Eq.trans (rl_iconst (c := 0) (k := (nI 0)) (by decide +kernel) (by decide)) ?_
        exact rl_zretk (by decide +kernel) rfl rfl
    · skip
      rfl
  · skip
    refine Eq.trans (rl_iconst (c := 0) (k := (nI 0)) (by decide +kernel) (by decide)) ?_
    exact rl_zretk (by decide +kernel) rfl rfl
theorem b227_2216 {x5 x6 x7 : Int32} {x8 : Option am_V} {M : am_M} {w : am_W4}  : am_rn call 227 2216 [some (am_P (0, 0, 0)), some (am_P (3, 0, 0)), some (am_P (30, 0, 0)), some (am_P (1, 0, 0)), some (am_P (2, 0, 0)), some (am_I x5), some (am_I x6), some (am_I x7), x8] [] M (am_Z w) = am_rn call 227 2276 [some (am_P (0, 0, 0)), some (am_P (3, 0, 0)), some (am_P (30, 0, 0)), some (am_P (1, 0, 0)), some (am_P (2, 0, 0)), some (am_I x5), some (am_I x6), some (am_I x7), x8] [] M (am_Z w) := by
  refine Eq.trans (rl_goto (o := 60) 2276 (by decide +kernel) (by decide)) ?_
  rfl
theorem b227_2219 {x5 : Int32} {x6 x7 x8 : Option am_V} {M : am_M} {w : am_W4}  : am_rn call 227 2219 [some (am_P (0, 0, 0)), some (am_P (3, 0, 0)), some (am_P (30, 0, 0)), some (am_P (1, 0, 0)), some (am_P (2, 0, 0)), some (am_I x5), x6, x7, x8] [] M (am_Z w) = am_cb (call 108 [am_P (3, 0, 0)] M (am_Z w)) fun v M' X' => am_rn call 227 2223 [some (am_P (0, 0, 0)), some (am_P (3, 0, 0)), some (am_P (30, 0, 0)), some (am_P (1, 0, 0)), some (am_P (2, 0, 0)), some (am_I x5), x6, x7, x8] (v.toList ++ []) M' X' := by
  refine Eq.trans (rl_aloadn (j := 1) (by decide +kernel) rfl) ?_
  refine Eq.trans (rl_inv (ix := 248) (n := 0) (o := 8) 108 [] [] (by decide +kernel) (by decide +kernel) (by decide +kernel) (by decide +kernel) ⟨rfl, rfl⟩ rfl rfl ck3) ?_
  rfl
theorem b227_2223 {x5 s0 : Int32} {x6 x7 x8 : Option am_V} {M : am_M} {w : am_W4}  : am_rn call 227 2223 [some (am_P (0, 0, 0)), some (am_P (3, 0, 0)), some (am_P (30, 0, 0)), some (am_P (1, 0, 0)), some (am_P (2, 0, 0)), some (am_I x5), x6, x7, x8] [am_I s0] M (am_Z w) = am_cb (call 193 [am_P (30, 0, 0)] M (am_Z w)) fun v M' X' => am_rn call 227 2227 [some (am_P (0, 0, 0)), some (am_P (3, 0, 0)), some (am_P (30, 0, 0)), some (am_P (1, 0, 0)), some (am_P (2, 0, 0)), some (am_I x5), x6, x7, x8] (v.toList ++ [am_I s0]) M' X' := by
  refine Eq.trans (rl_aloadn (j := 2) (by decide +kernel) rfl) ?_
  refine Eq.trans (rl_inv (ix := 251) (n := 0) (o := 9) 193 [] [am_I s0] (by decide +kernel) (by decide +kernel) (by decide +kernel) (by decide +kernel) ⟨rfl, rfl⟩ rfl rfl ck30) ?_
  rfl
theorem b227_2227 {x5 s0 s1 : Int32} {x6 x7 x8 : Option am_V} {M : am_M} {w : am_W4}  : am_rn call 227 2227 [some (am_P (0, 0, 0)), some (am_P (3, 0, 0)), some (am_P (30, 0, 0)), some (am_P (1, 0, 0)), some (am_P (2, 0, 0)), some (am_I x5), x6, x7, x8] [am_I s0, am_I s1] M (am_Z w) = if s1 = s0 then am_rn call 227 2276 [some (am_P (0, 0, 0)), some (am_P (3, 0, 0)), some (am_P (30, 0, 0)), some (am_P (1, 0, 0)), some (am_P (2, 0, 0)), some (am_I x5), x6, x7, x8] [] M (am_Z w) else some (.inl (some (am_I (nI 0))), M, (am_Z w)) := by
  refine Eq.trans (rl_iceq (o := 49) 2276 (by decide +kernel) (by decide)) ?_
  refine am_ite (fun h_1 => ?_) (fun h_1 => ?_)
  · skip
    rfl
  · skip
    refine Eq.trans (rl_iconst (c := 0) (k := (nI 0)) (by decide +kernel) (by decide)) ?_
    exact rl_zretk (by decide +kernel) rfl rfl
theorem b227_2232 {x5 : Int32} {x6 x7 x8 : Option am_V} {M : am_M} {w : am_W4}  : am_rn call 227 2232 [some (am_P (0, 0, 0)), some (am_P (3, 0, 0)), some (am_P (30, 0, 0)), some (am_P (1, 0, 0)), some (am_P (2, 0, 0)), some (am_I x5), x6, x7, x8] [] M (am_Z w) = am_cb (call 226 [am_P (3, 0, 0), am_P (1, 0, 0)] M (am_Z w)) fun v M' X' => am_rn call 227 2237 [some (am_P (0, 0, 0)), some (am_P (3, 0, 0)), some (am_P (30, 0, 0)), some (am_P (1, 0, 0)), some (am_P (2, 0, 0)), some (am_I x5), x6, x7, x8] (v.toList ++ []) M' X' := by
  refine Eq.trans (rl_aloadn (j := 1) (by decide +kernel) rfl) ?_
  refine Eq.trans (rl_aloadn (j := 3) (by decide +kernel) rfl) ?_
  refine Eq.trans (rl_invS (ix := 252) (n := 2) (k := 1) 226 [am_P (3, 0, 0), am_P (1, 0, 0)] [] (by decide +kernel) (by decide +kernel) (by decide) (by decide +kernel) ⟨rfl, rfl⟩ rfl rfl) ?_
  rfl
theorem b227_2237 {x5 s0 : Int32} {x6 x7 x8 : Option am_V} {M : am_M} {w : am_W4}  : am_rn call 227 2237 [some (am_P (0, 0, 0)), some (am_P (3, 0, 0)), some (am_P (30, 0, 0)), some (am_P (1, 0, 0)), some (am_P (2, 0, 0)), some (am_I x5), x6, x7, x8] [am_I s0] M (am_Z w) = am_cb (call 194 [am_P (30, 0, 0)] M (am_Z w)) fun v M' X' => am_rn call 227 2243 [some (am_P (0, 0, 0)), some (am_P (3, 0, 0)), some (am_P (30, 0, 0)), some (am_P (1, 0, 0)), some (am_P (2, 0, 0)), some (am_I x5), some (am_I s0), x7, x8] (v.toList ++ []) M' X' := by
  refine Eq.trans (rl_istore (j := 6) (ls' := [some (am_P (0, 0, 0)), some (am_P (3, 0, 0)), some (am_P (30, 0, 0)), some (am_P (1, 0, 0)), some (am_P (2, 0, 0)), some (am_I x5), some (am_I s0), x7, x8]) (by decide +kernel) rfl rfl) ?_
  refine Eq.trans (rl_aloadn (j := 2) (by decide +kernel) rfl) ?_
  refine Eq.trans (rl_inv (ix := 254) (n := 0) (o := 9) 194 [] [] (by decide +kernel) (by decide +kernel) (by decide +kernel) (by decide +kernel) ⟨rfl, rfl⟩ rfl rfl ck30) ?_
  rfl
theorem b227_2243 {x5 x6 s0 : Int32} {x7 x8 : Option am_V} {M : am_M} {w : am_W4}  : am_rn call 227 2243 [some (am_P (0, 0, 0)), some (am_P (3, 0, 0)), some (am_P (30, 0, 0)), some (am_P (1, 0, 0)), some (am_P (2, 0, 0)), some (am_I x5), some (am_I x6), x7, x8] [am_I s0] M (am_Z w) = am_cb (call 114 [am_P (30, 0, 0)] M (am_Z w)) fun v M' X' => am_rn call 227 2249 [some (am_P (0, 0, 0)), some (am_P (3, 0, 0)), some (am_P (30, 0, 0)), some (am_P (1, 0, 0)), some (am_P (2, 0, 0)), some (am_I x5), some (am_I x6), some (am_I s0), x8] (v.toList ++ []) M' X' := by
  refine Eq.trans (rl_istore (j := 7) (ls' := [some (am_P (0, 0, 0)), some (am_P (3, 0, 0)), some (am_P (30, 0, 0)), some (am_P (1, 0, 0)), some (am_P (2, 0, 0)), some (am_I x5), some (am_I x6), some (am_I s0), x8]) (by decide +kernel) rfl rfl) ?_
  refine Eq.trans (rl_aloadn (j := 2) (by decide +kernel) rfl) ?_
  refine Eq.trans (rl_inv (ix := 137) (n := 0) (o := 9) 114 [] [] (by decide +kernel) (by decide +kernel) (by decide +kernel) (by decide +kernel) ⟨rfl, rfl⟩ rfl rfl ck30) ?_
  rfl
theorem b227_2249 {x5 x6 x7 s0 : Int32} {x8 : Option am_V} {M : am_M} {w : am_W4}  : am_rn call 227 2249 [some (am_P (0, 0, 0)), some (am_P (3, 0, 0)), some (am_P (30, 0, 0)), some (am_P (1, 0, 0)), some (am_P (2, 0, 0)), some (am_I x5), some (am_I x6), some (am_I x7), x8] [am_I s0] M (am_Z w) = if s0 = x6 then if x6 = 0 then if (lg_cmp w.2.2.1 x7.toInt64) = 0 then am_rn call 227 2273 [some (am_P (0, 0, 0)), some (am_P (3, 0, 0)), some (am_P (30, 0, 0)), some (am_P (1, 0, 0)), some (am_P (2, 0, 0)), some (am_I x5), some (am_I x6), some (am_I x7), x8] [] M (am_Z w) else some (.inl (some (am_I (nI 0))), M, (am_Z w)) else am_rn call 227 2273 [some (am_P (0, 0, 0)), some (am_P (3, 0, 0)), some (am_P (30, 0, 0)), some (am_P (1, 0, 0)), some (am_P (2, 0, 0)), some (am_I x5), some (am_I x6), some (am_I x7), x8] [] M (am_Z w) else some (.inl (some (am_I (nI 0))), M, (am_Z w)) := by
  refine Eq.trans (rl_iload (j := 6) (by decide +kernel) rfl) ?_
  refine Eq.trans (rl_iceq (o := 5) 2256 (by decide +kernel) (by decide)) ?_
  refine am_ite (fun h_1 => ?_) (fun h_1 => ?_)
  · skip
    refine Eq.trans (rl_iload (j := 6) (by decide +kernel) rfl) ?_
    refine Eq.trans (rl_ifne (o := 15) 2273 (by decide +kernel) (by decide)) ?_
    refine am_ite (fun h_2 => ?_) (fun h_2 => ?_)
    · skip
      refine Eq.trans (rl_aloadn (j := 3) (by decide +kernel) rfl) ?_
      refine Eq.trans (rl_iconst (c := 0) (k := (nI 0)) (by decide +kernel) (by decide)) ?_
      refine Eq.trans (rl_lald (by decide +kernel)) ?_
      refine Eq.trans (rl_iload (j := 7) (by decide +kernel) rfl) ?_
      refine Eq.trans (rl_i2l (by decide +kernel)) ?_
      refine Eq.trans (rl_lcmp (by decide +kernel)) ?_
      refine Eq.trans (rl_ifeq (o := 5) 2273 (by decide +kernel) (by decide)) ?_
      refine am_ite (fun h_3 => ?_) (fun h_3 => ?_)
      · skip
        rfl
      · skip
        refine Eq.trans (rl_iconst (c := 0) (k := (nI 0)) (by decide +kernel) (by decide)) ?_
        exact rl_zretk (by decide +kernel) rfl rfl
    · skip
      rfl
  · skip
    refine Eq.trans (rl_iconst (c := 0) (k := (nI 0)) (by decide +kernel) (by decide)) ?_
    exact rl_zretk (by decide +kernel) rfl rfl
theorem b227_2273 {x5 x6 x7 : Int32} {x8 : Option am_V} {M : am_M} {w : am_W4}  : am_rn call 227 2273 [some (am_P (0, 0, 0)), some (am_P (3, 0, 0)), some (am_P (30, 0, 0)), some (am_P (1, 0, 0)), some (am_P (2, 0, 0)), some (am_I x5), some (am_I x6), some (am_I x7), x8] [] M (am_Z w) = am_rn call 227 2276 [some (am_P (0, 0, 0)), some (am_P (3, 0, 0)), some (am_P (30, 0, 0)), some (am_P (1, 0, 0)), some (am_P (2, 0, 0)), some (am_I x5), some (am_I x6), some (am_I x7), x8] [] M (am_Z w) := by
  refine Eq.trans (rl_goto (o := 3) 2276 (by decide +kernel) (by decide)) ?_
  rfl
theorem b227_2276 {x5 : Int32} {x6 x7 x8 : Option am_V} {M : am_M} {w : am_W4}  : am_rn call 227 2276 [some (am_P (0, 0, 0)), some (am_P (3, 0, 0)), some (am_P (30, 0, 0)), some (am_P (1, 0, 0)), some (am_P (2, 0, 0)), some (am_I x5), x6, x7, x8] [] M (am_Z w) = am_rn call 227 28 [some (am_P (0, 0, 0)), some (am_P (3, 0, 0)), some (am_P (30, 0, 0)), some (am_P (1, 0, 0)), some (am_P (2, 0, 0)), some (am_I (x5 + (nI 4))), x6, x7, x8] [] M (am_Z w) := by
  refine Eq.trans (rl_iinc (j := 5) (c := 4) (k := (nI 4)) (ls' := [some (am_P (0, 0, 0)), some (am_P (3, 0, 0)), some (am_P (30, 0, 0)), some (am_P (1, 0, 0)), some (am_P (2, 0, 0)), some (am_I (x5 + (nI 4))), x6, x7, x8]) (by decide +kernel) (by decide) rfl rfl) ?_
  refine Eq.trans (rl_goto (o := (-2251)) 28 (by decide +kernel) (by decide)) ?_
  rfl
end AmBl
