/-! ONE TO EIGHT SIGNS -/
def m8 : Nat → Nat
  | 0 => 0
  | c + 1 => 10 * m8 c + 8
def Dg (c v : Nat) : Prop := (v ≤ m8 c ∧ v < 10 ^ c) ∧ ∀ i, i < c → 1 ≤ dg v i ∧ dg v i ≤ 8
theorem Dg.one {d : Nat} (h1 : 1 ≤ d) (h8 : d ≤ 8) : Dg 1 d := by
  refine ⟨⟨by show d ≤ 10 * 0 + 8; omega, by omega⟩, fun i hi => ?_⟩
  obtain rfl : i = 0 := by omega
  unfold dg
  rw [Nat.pow_zero, Nat.div_one, Nat.mod_eq_of_lt (by omega)]
  exact ⟨h1, h8⟩
theorem Dg.snoc {c v d : Nat} (h : Dg c v) (h1 : 1 ≤ d) (h8 : d ≤ 8) : Dg (c + 1) (10 * v + d) := by
  obtain ⟨⟨a1, a2⟩, a3⟩ := h
  refine ⟨⟨by show _ ≤ 10 * m8 c + 8; omega, by rw [Nat.pow_succ]; omega⟩, fun i hi => ?_⟩
  cases i with
  | zero =>
    unfold dg
    rw [Nat.pow_zero, Nat.div_one]
    omega
  | succ i =>
    have e : dg (10 * v + d) (i + 1) = dg v i := by
      unfold dg
      rw [Nat.pow_succ, Nat.mul_comm (10 ^ i) 10, ← Nat.div_div_eq_div_mul]
      rw [show (10 * v + d) / 10 = v by omega]
    rw [e]
    exact a3 i (by omega)
theorem m8_le : ∀ c, c ≤ 8 → m8 c ≤ 88888888 := by decide
theorem Dg.pos {c v : Nat} (h : Dg (c + 1) v) : 1 ≤ v := by
  have h1 := (h.2 0 (by omega)).1
  unfold dg at h1
  rw [Nat.pow_zero, Nat.div_one] at h1
  omega
theorem Dg.ndi {c v i : Nat} (h : Dg c v) (hc : c ≤ 8) (hi : i < nd 8 v) : i < c := by
  have h8 : v < 10 ^ 8 := Nat.lt_of_lt_of_le h.1.2 (Nat.pow_le_pow_right (by decide) hc)
  have := (nd_iff h8 i).mp hi
  rcases Nat.lt_or_ge i c with q | q
  · exact q
  · have := Nat.pow_le_pow_right (n := 10) (by decide) q
    have := h.1.2
    omega
theorem Dg.dgki {c v : Nat} (h : Dg c v) (hc : c ≤ 8) : dgk v := fun i hi => h.2 i (h.ndi hc hi)
theorem Dg.uki {a : Nat → Nat} {c v : Nat} (h : Dg c v) (hc : c ≤ 8) (ha : ∀ k, 1 ≤ k → k ≤ 8 → a (3 + k) ≠ 0) : uk a v (nd 8 v) = 0 := by
  have key : ∀ n, n ≤ nd 8 v → uk a v n = 0 := fun n hn => by
    show uk a v n = 0
    induction n with
    | zero => rfl
    | succ n ih =>
      have h1 := h.2 n (h.ndi hc (by omega))
      show (if a (3 + dg v n) = 0 then dg v n else uk a v n) = 0
      rw [if_neg (ha _ h1.1 h1.2)]
      exact ih (by omega)
  exact key _ (Nat.le_refl _)
section Kdg
variable {d : Nat} {M : am_M} {w : am_W4} {x y z : Int32}
theorem k151 : ∃ c v, c ≤ 7 ∧ Dg (c + 1) v ∧ am_ev (d + 2) 151 [am_I x] M (am_Z w) = some (.inl (some (am_I (nI v))), M, am_Z w) := by
  obtain ⟨s, hs, e0⟩ := k114 (d := d) (M := M) (w := w) (x := x) (n := 8) (by decide) (by decide)
  obtain ⟨k, hk, e1⟩ := k114 (d := d) (M := M) (w := w) (x := x >>> ((nI 3) &&& 31)) (n := 8) (by decide) (by decide)
  have key : ∀ k c v, c + k ≤ 7 → Dg (c + 1) v → ∃ c' v', c' ≤ 7 ∧ Dg (c' + 1) v' ∧ am_rn (am_ev (d + 1)) 151 18 [some (am_I x), some (am_I (nI v)), some (am_I (nI k))] [] M (am_Z w) = some (.inl (some (am_I (nI v'))), M, am_Z w) := by
    intro k
    induction k with
    | zero =>
      intro c v hc hD
      exact ⟨c, v, by omega, hD, by rw [b151_18, if_neg (by decide)]⟩
    | succ k ih =>
      intro c v hc hD
      obtain ⟨u, hu, e2⟩ := k114 (d := d) (M := M) (w := w) (x := (x >>> (nI (k + 1) &&& 31)) ^^^ (nI (k + 1) * nI 37)) (n := 8) (by decide) (by decide)
      obtain ⟨c', v', g1, g2, g3⟩ := ih (c + 1) (10 * v + (1 + u)) (by omega) (hD.snoc (by omega) (by omega))
      refine ⟨c', v', g1, g2, ?_⟩
      rw [b151_18, if_pos (show (0 : Int32) < nI (k + 1) from nI_lt (a := 0) (by omega) (by omega)), e2]
      simp only [am_cb_i, am_cb_e, Option.toList_some, Option.toList_none, List.cons_append, List.nil_append]
      rw [b151_41, pk_mul, nI_add, nI_add, show nI (k + 1) + (-1 : Int32) = nI k from by rw [show (-1 : Int32) = -nI 1 from rfl, ← Int32.sub_eq_add_neg, pk_sub (by omega)]; rfl, show 10 * v + 1 + u = 10 * v + (1 + u) by omega]
      exact g3
  obtain ⟨c', v', g1, g2, g3⟩ := key k 0 (1 + s) (by omega) (Dg.one (by omega) (by omega))
  refine ⟨c', v', g1, g2, ?_⟩
  rw [show d + 2 = d + 1 + 1 from rfl, e151, e0]
  simp only [am_cb_i, am_cb_e, Option.toList_some, Option.toList_none, List.cons_append, List.nil_append]
  rw [b151_7, e1]
  simp only [am_cb_i, am_cb_e, Option.toList_some, Option.toList_none, List.cons_append, List.nil_append]
  rw [b151_17, nI_add]
  exact g3
end Kdg
