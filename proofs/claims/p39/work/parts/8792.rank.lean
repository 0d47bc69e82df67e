/-! WHO STANDS AT THE RANK x -/
section Krk
variable {d B : Nat} {M M' M0 : am_M} {a : Nat → Nat} {w : am_W4} {hs : List (Nat → Nat)} {sv : Option (Nat → Nat)} {tx ln : List Int32} {R : Int32 × Int32 × Int32} {e : Int32}
def rk_P (a : Nat → Nat) (m : Nat) : Nat → Bool := fun q => decide (a (60 + 19 * q + 6) = 0) && rk_lt a q m
def rk_n (a : Nat → Nat) (m : Nat) : Nat := nc (rk_P a m) (a 2)
def rk_F (a : Nat → Nat) (x : Int32) : Nat → Bool := fun m => decide (a (60 + 19 * m + 6) = 0) && decide (nI (rk_n a m) = x)
def q_rnk (a : Nat → Nat) (x : Int32) : Qo := match nf (rk_F a x) (a 2) 0 with | some m => .inl (nI m) | none => .inr (3, 1)
theorem bI (b : Bool) : (b = true ∧ b.toNat = 1 ∧ ¬ nI b.toNat = 0) ∨ (b = false ∧ b.toNat = 0 ∧ nI b.toNat = 0) := by
  cases b with
  | false => exact Or.inr ⟨rfl, rfl, rfl⟩
  | true => exact Or.inl ⟨rfl, rfl, nI_ne0 (n := 1) (by decide) (by decide)⟩
theorem l56 {m : Nat} (hB : B < 1073741824) (hok : ml_ok B a) (h : nwF 0 a M) (hm : m < a 2) : ∀ r k, k + r = a 2 → am_rn (am_ev (d + 2)) 56 4 [some (am_P (13, 0, 0)), some (am_I (nI m)), some (am_I (nI (nc (rk_P a m) k))), some (am_I (nI k))] [] M (am_Z w) = some (.inl (some (am_I (nI (rk_n a m)))), M, am_Z w) := by
  have b2 := hok.1.2.1
  intro r
  induction r with
  | zero =>
    intro k hk
    obtain rfl : k = a 2 := by omega
    rw [b56_4 (by decide), h.mc, if_neg (nI_nlt (by omega) (by omega))]
    rfl
  | succ r ih =>
    intro k hk
    have f6 := hok.f (m := k) (by omega) 6 (by decide) (by decide) (by decide)
    have hM : M (24, 0, (nI k).toNatClampNeg) 3 = nI (a (60 + 19 * k + 6)) := by rw [nI_clamp (by omega)]; exact h.how (by omega)
    rw [← ih (k + 1) (by omega), b56_4 (by decide), h.mc, if_pos (nI_lt (by omega) (by omega)), if_pos (by rw [am_inT (by omega) (by omega)]; trivial), nc_s, show rk_P a m k = (decide (a (60 + 19 * k + 6) = 0) && rk_lt a k m) from rfl]
    by_cases h6 : a (60 + 19 * k + 6) = 0
    · rw [if_pos (by rw [hM, nI_z (by omega)]; exact h6), k57 hB hok h (by omega) hm, decide_eq_true h6, Bool.true_and]
      simp only [am_cb_i, am_cb_e, Option.toList_some, Option.toList_none, List.cons_append, List.nil_append]
      rw [b56_30 (by decide)]
      rcases bI (rk_lt a k m) with ⟨_, g2, g3⟩ | ⟨_, g2, g3⟩
      · rw [if_neg g3, g2, b56_36 (by decide), nI_add, nI_add]
      · rw [if_pos g3, g2, b56_36 (by decide), nI_add]
        rfl
    · rw [if_neg (by rw [hM, nI_z (by omega)]; exact h6), decide_eq_false h6, Bool.false_and, b56_36 (by decide), nI_add]
      rfl
theorem k56 {m : Nat} (hB : B < 1073741824) (hok : ml_ok B a) (h : nwF 0 a M) (hm : m < a 2) : am_ev (d + 3) 56 [am_P (13, 0, 0), am_I (nI m)] M (am_Z w) = some (.inl (some (am_I (nI (rk_n a m)))), M, am_Z w) := by
  rw [e56 (by decide)]
  exact l56 hB hok h hm (a 2) 0 (by omega)
theorem l94f {m : Nat} {x : Int32} (hok : ml_ok B a) (h : nwF 0 a M) (hm : m < 2147483648) : ∀ x3 : Int32, am_rn (am_ev d) 94 4 [some (am_P (3, 0, 0)), some (am_I x), some (am_I (nI m)), some (am_I x3)] [] M (am_Z w) = some (.inl (some (am_I (nI m))), M, am_Z w) := by
  intro x3
  rw [b94_4]
  have e1 : am_rn (am_ev d) 94 55 [some (am_P (3, 0, 0)), some (am_I x), some (am_I (nI m)), some (am_I x3)] [] M (am_Z w) = some (.inl (some (am_I (nI m))), M, am_Z w) := by
    rw [b94_55, if_neg (nI_nm1 hm)]
  by_cases h3 : x3 < M (13, 0, 0) 5
  · rw [if_pos h3, if_neg (nI_nm1 hm), e1]
  · rw [if_neg h3, e1]
theorem l94 {x : Int32} (hB : B < 1073741824) (hok : ml_ok B a) (h : nwF 0 a M) : ∀ r k, k + r = a 2 → am_rn (am_ev (d + 3)) 94 4 [some (am_P (3, 0, 0)), some (am_I x), some (am_I (-1)), some (am_I (nI k))] [] M (am_Z w) = match nf (rk_F a x) r k with | some m => some (.inl (some (am_I (nI m))), M, am_Z w) | none => some (.inr 3, M, am_Z (am_bw w)) := by
  have b2 := hok.1.2.1
  intro r
  induction r with
  | zero =>
    intro k hk
    rw [b94_4, h.mc, if_neg (nI_nlt (by omega) (by omega)), b94_55, if_pos rfl]
    rfl
  | succ r ih =>
    intro k hk
    have f6 := hok.f (m := k) (by omega) 6 (by decide) (by decide) (by decide)
    have hM : M (24, 0, (nI k).toNatClampNeg) 3 = nI (a (60 + 19 * k + 6)) := by rw [nI_clamp (by omega)]; exact h.how (by omega)
    unfold nf
    rw [b94_4, h.mc, if_pos (nI_lt (by omega) (by omega)), if_pos rfl, if_pos (by rw [am_inT (by omega) (by omega)]; trivial)]
    by_cases h6 : a (60 + 19 * k + 6) = 0
    · rw [if_pos (by rw [hM, nI_z (by omega)]; exact h6), k56 hB hok h (by omega), show rk_F a x k = (decide (a (60 + 19 * k + 6) = 0) && decide (nI (rk_n a k) = x)) from rfl, decide_eq_true h6, Bool.true_and]
      simp only [am_cb_i, am_cb_e, Option.toList_some, Option.toList_none, List.cons_append, List.nil_append, b94_43, b94_49]
      by_cases hx : nI (rk_n a k) = x
      · rw [if_pos hx, if_pos (decide_eq_true hx), l94f hok h (by omega)]
      · rw [if_neg hx, if_neg (by rw [decide_eq_false hx]; decide), nI_add]
        exact ih (k + 1) (by omega)
    · rw [if_neg (by rw [hM, nI_z (by omega)]; exact h6), if_neg (by unfold rk_F; rw [decide_eq_false h6]; simp), b94_49, nI_add]
      exact ih (k + 1) (by omega)
theorem k94 {x : Int32} (hB : B < 1073741824) (hok : ml_ok B a) (h : clS a hs sv tx R e ln M) : clQ M w (am_ev (d + 4) 94 [am_P (3, 0, 0), am_I x] M (am_Z w)) (q_rnk a x) := by
  rw [e94, l94 hB hok h.net (a 2) 0 (by omega)]
  unfold q_rnk
  cases nf (rk_F a x) (a 2) 0 with
  | none => rfl
  | some m => rfl
end Krk
