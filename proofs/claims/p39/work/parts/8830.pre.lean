/-! THE CALLS THAT ARE NO QUESTIONS: BOTH SIDES -/
theorem u16_pc (u : UInt16) : (0 : Int32) ≤ u.toUInt32.toInt32 ∧ u.toUInt32.toInt32 ≤ 65535 := by
  have hlt := u.toNat_lt
  have h0 : u.toUInt32.toInt32.toBitVec.toNat = u.toNat := by
    show u.toUInt32.toNat = u.toNat
    exact UInt16.toNat_toUInt32 u
  have h : u.toUInt32.toInt32.toInt = (u.toNat : Int) := by
    show u.toUInt32.toInt32.toBitVec.toInt = _
    rw [BitVec.toInt_eq_toNat_of_lt (by omega), h0]
  constructor
  · rw [Int32.le_iff_toInt_le, h]
    show (0:Int) ≤ _
    omega
  · rw [Int32.le_iff_toInt_le, h]
    show _ ≤ (65535:Int)
    omega
theorem vp_pc (x : Int32) : am_pc 2 (vp_nar .char x) = true := decide_eq_true (u16_pc x.toUInt32.toUInt16)
section Kcp
variable {d B : Nat} {M M' M0 M1 : am_M} {a b : Nat → Nat} {w w' : am_W4} {hs : List (Nat → Nat)} {sv : Option (Nat → Nat)} {tx ln : List Int32} {R : Int32 × Int32 × Int32} {e : Int32} {r0 r1 : Option am_R} {r2 : am_M → am_W4 → Option am_R}
theorem sn_pc {l : List Int32} {x : Int32} (h : ∀ c, c ∈ l → am_pc 2 c = true) : ∀ c, c ∈ l ++ [vp_nar .char x] → am_pc 2 c = true := fun c hc => by
  rcases List.mem_append.mp hc with q | q
  · exact h c q
  · rw [List.mem_singleton.mp q]; exact vp_pc x
theorem li_pc {m : Nat} : ∀ c, c ∈ li a m → am_pc 2 c = true := by
  have h0 : ∀ c, c ∈ li_h a m → am_pc 2 c = true := sn_pc (sn_pc (sn_pc (sn_pc (fun c q => absurd q (by simp)))))
  have h1 : ∀ k, ∀ c, c ∈ li_s a m k → am_pc 2 c = true := by
    intro k
    induction k with
    | zero => exact h0
    | succ k ih => exact sn_pc ih
  unfold li
  split
  · exact sn_pc (sn_pc (h1 _))
  split
  · exact sn_pc (h1 _)
  · exact h1 _
theorem exk.fin : ∀ (l : List Cm) (B : Nat) (a : Nat → Nat) (i : Nat) (a' : Nat → Nat), exk B a l → exl a i l = .inl a' → ml_ok (B + 20000 * l.length) a' := by
  intro l
  induction l with
  | nil =>
    intro B a i a' h h1
    have : a = a' := Sum.inl.inj h1
    subst this
    exact h.mono (Nat.le_add_right _ _)
  | cons c l ih =>
    intro B a i a' h h1
    obtain ⟨k, x, y, z⟩ := c
    have h2 := h.2
    unfold exl at h1
    generalize oC a k (nI x) (nI y) (nI z) = o at h1 h2
    rcases o with ⟨v, a2⟩ | ⟨q, u⟩
    · rw [List.length_cons]
      exact (ih (B + 20000) a2 (i + 1) a' h2.2 h1).mono (by omega)
    · exact absurd h1 (by simp)
end Kcp
