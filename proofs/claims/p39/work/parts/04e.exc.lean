def am_xn : List String := ["java/lang/RuntimeException", "java/lang/Exception"]
def am_eic : List (Nat × Nat) := [(0, 83), (1, 176), (2, 123), (3, 186), (4, 257), (5, 166)]
def am_nww (q : Nat × Nat × (Nat ⊕ (Nat × Nat))) (i : Nat) : Bool := decide (q.1 < 11) && (match q.2.2 with
  | .inl ci => am_at i (.classLink (am_cR q.1) q.2.1 (am_cR ci)) && decide (ci < 10)
  | .inr (E, ic) => am_at i (.classLink (am_cR q.1) q.2.1 (am_en E)) && decide (E < 6) && decide ((E, ic) ∈ am_eic) && decide (q.1 = 8))
theorem am_nw_ok : am_al2 am_nww am_nw_t [283, 222, 57, 59, 61, 51, 216, 236, 254, 277, 545, 701, 909, 684, 740, 817, 43] = true := by decide +kernel
theorem am_aw_ok : am_al2 (fun (q : Nat × Nat × Nat) i => am_at i (.classLink (am_cR q.1) q.2.1 (am_cR q.2.2)) && decide (q.2.2 < 10)) am_aw_t [283, 222, 57, 59, 61] = true := by decide +kernel
theorem am_ao_ok : am_al2 (fun (ci i : Nat) => am_at i (.arrayOver (.object (am_cR ci)))) [0, 2, 4, 5, 7] [284, 58, 62, 223, 60] = true := by decide +kernel
theorem am_ac_ok : am_al2 (fun (t : FieldType) i => am_at i (.arrayClass t)) [.int, .char, .long, .byte] [107, 305, 1398, 669] = true := by decide +kernel
def am_ob : List Cond := [.instanceMethod objectInit, .code objectInit ⟨#[0xb1]⟩ 1 none, .static Lib.Math.min.name, .initialized "java/lang/Math", .code Lib.Math.min.name Lib.Math.min.code 2 (some .int), .native arraycopyName, .static arraycopyName, .initialized "java/lang/System"]
theorem am_ob_ok : am_al2 (fun w i => am_at i w) am_ob [49, 50, 1235, 40, 1236, 362, 361, 23] = true := by decide +kernel
theorem am_ex_ok0 : ((Cond.classLink (am_cR 8) 0 (am_en 0) :: Cond.initialized (am_en 0) :: vx_at0 (am_cR 8) 83 (am_en 0) am_xn).all vx_ot && (Cond.initialized (am_en 0) :: vx_at0 (am_cR 8) 83 (am_en 0) am_xn).all (fun w => decide (w ∈ am_W))) = true := by decide +kernel
theorem am_ex_ok1 : ((Cond.classLink (am_cR 8) 0 (am_en 1) :: Cond.initialized (am_en 1) :: vx_at0 (am_cR 8) 176 (am_en 1) am_xn).all vx_ot && (Cond.initialized (am_en 1) :: vx_at0 (am_cR 8) 176 (am_en 1) am_xn).all (fun w => decide (w ∈ am_W))) = true := by decide +kernel
theorem am_ex_ok2 : ((Cond.classLink (am_cR 8) 0 (am_en 2) :: Cond.initialized (am_en 2) :: vx_at0 (am_cR 8) 123 (am_en 2) am_xn).all vx_ot && (Cond.initialized (am_en 2) :: vx_at0 (am_cR 8) 123 (am_en 2) am_xn).all (fun w => decide (w ∈ am_W))) = true := by decide +kernel
theorem am_ex_ok3 : ((Cond.classLink (am_cR 8) 0 (am_en 3) :: Cond.initialized (am_en 3) :: vx_at0 (am_cR 8) 186 (am_en 3) am_xn).all vx_ot && (Cond.initialized (am_en 3) :: vx_at0 (am_cR 8) 186 (am_en 3) am_xn).all (fun w => decide (w ∈ am_W))) = true := by decide +kernel
theorem am_ex_ok4 : ((Cond.classLink (am_cR 8) 0 (am_en 4) :: Cond.initialized (am_en 4) :: vx_at0 (am_cR 8) 257 (am_en 4) am_xn).all vx_ot && (Cond.initialized (am_en 4) :: vx_at0 (am_cR 8) 257 (am_en 4) am_xn).all (fun w => decide (w ∈ am_W))) = true := by decide +kernel
theorem am_ex_ok5 : ((Cond.classLink (am_cR 8) 0 (am_en 5) :: Cond.initialized (am_en 5) :: vx_at0 (am_cR 8) 166 (am_en 5) am_xn).all vx_ot && (Cond.initialized (am_en 5) :: vx_at0 (am_cR 8) 166 (am_en 5) am_xn).all (fun w => decide (w ∈ am_W))) = true := by decide +kernel
