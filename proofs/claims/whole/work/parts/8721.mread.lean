/-! THE REFERENCE'S READING METHODS -/
/-- how many below n -/
def nc (P : Nat → Bool) : Nat → Nat
  | 0 => 0
  | n + 1 => nc P n + (P n).toNat
theorem nc_le (P : Nat → Bool) : ∀ n, nc P n ≤ n
  | 0 => Nat.le_refl 0
  | n + 1 => by
    have := nc_le P n
    have h2 := Bool.toNat_le (P n)
    show nc P n + (P n).toNat ≤ n + 1
    omega
/-- the first from k on, among r -/
def nf (P : Nat → Bool) : Nat → Nat → Option Nat
  | 0, _ => none
  | r + 1, k => if P k = true then some k else nf P r (k + 1)
def oI (o : Option Nat) : Int32 := match o with
  | some m => nI m
  | none => -1
theorem oI_n : oI none = -1 := rfl
theorem oI_s (m : Nat) : oI (some m) = nI m := rfl
/-- the numbers of a row 'now' are small -/
def ml_b (B : Nat) (a : Nat → Nat) : Prop := a 1 ≤ 6 ∧ a 2 ≤ 16 ∧ (∀ j, j < 364 → a j ≤ B) ∧ (∀ m f, m < 16 → f < 19 → f ≠ 7 → f ≠ 8 → a (60 + 19 * m + f) < 100) ∧ (∀ c f, c < 6 → f < 4 → a (12 + 6 * c + f) < 100) ∧ (∀ j, 4 ≤ j → j < 12 → a j < 1000) ∧ (∀ j, 48 ≤ j → j < 60 → a j < 100)
section Kmr
variable {d B : Nat} {M : am_M} {a : Nat → Nat} {w : am_W4}
def ml_silent (a : Nat → Nat) (c : Nat) : Bool := decide (a (12 + 6 * c + 2) ≠ a (12 + 6 * c + 3) ∧ (if a (12 + 6 * c + 2) < a (12 + 6 * c + 3) then a (12 + 6 * c + 2) ≤ a 0 % 24 ∧ a 0 % 24 < a (12 + 6 * c + 3) else a (12 + 6 * c + 2) ≤ a 0 % 24 ∨ a 0 % 24 < a (12 + 6 * c + 3)))
theorem k144 {c : Nat} (hB : B < 1073741824) (hb : ml_b B a) (hc : c < 6) : am_ev (d + 2) 144 [am_P (30, 0, 0), am_I (nI c)] (am_pA M a) (am_Z w) = some (.inl (some (am_I (nI (ml_silent a c).toNat))), am_pA M a, am_Z w) := by
  obtain ⟨b1, b2, b3, b4, b5, b6, b7⟩ := hb
  have h0 := b3 0 (by omega)
  have hf := b5 c 2 hc (by omega)
  have hu := b5 c 3 hc (by omega)
  rw [e144, am_pA_now, k128 hc (by decide)]
  simp (disch := omega) only [am_cb_i, am_cb_e, Option.toList_some, Option.toList_none, List.cons_append, List.nil_append, b144_16, k128 hc (show 3 < 6 by decide), b144_23, pk_rem, nI_eqI, nI_ltJ]
  unfold ml_silent
  generalize a (12 + 6 * c + 2) = f at *
  generalize a (12 + 6 * c + 3) = u at *
  generalize a 0 % 24 = h at *
  by_cases h1 : f = u
  · rw [if_pos h1, decide_eq_false (fun q => q.1 h1)]; rfl
  · rw [if_neg h1]
    by_cases h2 : f < u
    · simp only [h1, h2, if_true, ne_eq, not_false_eq_true, true_and]
      by_cases h3 : h < f
      · rw [if_pos h3, decide_eq_false (fun q => by omega)]; rfl
      · rw [if_neg h3]
        by_cases h4 : h < u
        · rw [if_pos h4, decide_eq_true ⟨by omega, h4⟩]; rfl
        · rw [if_neg h4, decide_eq_false (fun q => by omega)]; rfl
    · simp only [h1, h2, if_false, ne_eq, not_false_eq_true, true_and]
      by_cases h3 : h < f
      · rw [if_pos h3]
        by_cases h4 : h < u
        · rw [if_pos h4, decide_eq_true (Or.inr h4)]; rfl
        · rw [if_neg h4, decide_eq_false (fun q => by omega)]; rfl
      · rw [if_neg h3, decide_eq_true (Or.inl (by omega))]; rfl
def ml_lostP (a : Nat → Nat) (m : Nat) : Nat → Bool := fun k => decide (a (60 + 19 * m + (11 + k)) = 0)
def ml_lost (a : Nat → Nat) (m : Nat) : Nat := nc (ml_lostP a m) (a (60 + 19 * m + 3))
theorem l149 {m : Nat} (hm : m < 16) (hb : ∀ f, f < 19 → f ≠ 7 → f ≠ 8 → a (60 + 19 * m + f) < 100) (h8 : a (60 + 19 * m + 3) ≤ 8) : ∀ r k, k + r = a (60 + 19 * m + 3) → am_rn (am_ev (d + 1)) 149 4 [some (am_P (30, 0, 0)), some (am_I (nI m)), some (am_I (nI (nc (ml_lostP a m) k))), some (am_I (nI k))] [] (am_pA M a) (am_Z w) = some (.inl (some (am_I (nI (ml_lost a m)))), am_pA M a, am_Z w) := by
  intro r
  induction r with
  | zero =>
    intro k hk
    rw [b149_4, k129 hm (by decide)]
    simp (disch := omega) only [am_cb_i, am_cb_e, Option.toList_some, Option.toList_none, List.cons_append, List.nil_append, b149_11, nI_ltJ]
    rw [if_neg (by omega), show k = a (60 + 19 * m + 3) by omega]; rfl
  | succ r ih =>
    intro k hk
    rw [b149_4, k129 hm (by decide)]
    simp (disch := omega) only [am_cb_i, am_cb_e, Option.toList_some, Option.toList_none, List.cons_append, List.nil_append, b149_11, nI_ltJ, nI_add]
    rw [if_pos (by omega), k129 hm (by omega)]
    have h1 := hb (11 + k) (by omega) (by omega) (by omega)
    simp (disch := omega) only [am_cb_i, am_cb_e, Option.toList_some, Option.toList_none, List.cons_append, List.nil_append, b149_23, nI_z, nI_add]
    have h2 := ih (k + 1) (by omega)
    by_cases h : a (60 + 19 * m + (11 + k)) = 0
    · rw [if_pos h, b149_29, nI_add]
      rw [show nc (ml_lostP a m) (k + 1) = nc (ml_lostP a m) k + 1 by show nc (ml_lostP a m) k + (ml_lostP a m k).toNat = _; rw [show ml_lostP a m k = true from decide_eq_true h]; rfl] at h2
      exact h2
    · rw [if_neg h, b149_29, nI_add]
      rw [show nc (ml_lostP a m) (k + 1) = nc (ml_lostP a m) k by show nc (ml_lostP a m) k + (ml_lostP a m k).toNat = _; rw [show ml_lostP a m k = false from decide_eq_false h]; rfl] at h2
      exact h2
theorem k149 {m : Nat} (hm : m < 16) (hb : ∀ f, f < 19 → f ≠ 7 → f ≠ 8 → a (60 + 19 * m + f) < 100) (h8 : a (60 + 19 * m + 3) ≤ 8) : am_ev (d + 2) 149 [am_P (30, 0, 0), am_I (nI m)] (am_pA M a) (am_Z w) = some (.inl (some (am_I (nI (ml_lost a m)))), am_pA M a, am_Z w) := by
  rw [e149]
  exact l149 hm hb h8 _ 0 (Nat.zero_add _)
/-- who waits at c and came before m -/
def ml_befP (a : Nat → Nat) (m c : Nat) : Nat → Bool := fun q => ml_waits a q c && decide (a (60 + 19 * q + 8) < a (60 + 19 * m + 8))
def ml_bef (a : Nat → Nat) (m c : Nat) : Nat := nc (ml_befP a m c) (a 2)
def ml_wtP (a : Nat → Nat) (c : Nat) (x : Int32) : Nat → Bool := fun m => ml_waits a m c && decide (nI (ml_bef a m c) = x)
/-- who waits at c at the place x -/
def ml_wt (a : Nat → Nat) (c : Nat) (x : Int32) : Option Nat := nf (ml_wtP a c x) (a 2) 0
theorem l146i {m c : Nat} {x : Int32} (hB : B < 1073741824) (hb : ml_b B a) (hm : m < 16) (hc : c < 1000) : ∀ r k, k + r = a 2 → am_rn (am_ev (d + 2)) 146 30 [some (am_P (30, 0, 0)), some (am_I (nI c)), some (am_I x), some (am_I (nI m)), some (am_I (nI (nc (ml_befP a m c) k))), some (am_I (nI k))] [] (am_pA M a) (am_Z w) = am_rn (am_ev (d + 2)) 146 30 [some (am_P (30, 0, 0)), some (am_I (nI c)), some (am_I x), some (am_I (nI m)), some (am_I (nI (ml_bef a m c))), some (am_I (nI (a 2)))] [] (am_pA M a) (am_Z w) := by
  obtain ⟨b1, b2, b3, b4, b5, b6, b7⟩ := hb
  intro r
  induction r with
  | zero => intro k hk; rw [show k = a 2 by omega]; rfl
  | succ r ih =>
    intro k hk
    have t1 := b3 (60 + 19 * k + 8) (by omega)
    have t2 := b3 (60 + 19 * m + 8) (by omega)
    rw [← ih (k + 1) (by omega), b146_30, am_pA_now, if_pos (nI_lt (by omega) (by omega)), k145 (by omega) hc (by have := b4 k 6 (by omega) (by omega) (by omega) (by omega); omega) (by have := b4 k 2 (by omega) (by omega) (by omega) (by omega); omega)]
    simp (disch := omega) only [am_cb_i, am_cb_e, Option.toList_some, Option.toList_none, List.cons_append, List.nil_append, b146_48, nI_bz]
    by_cases h : ml_waits a k c = false
    · rw [if_pos h, b146_72, nI_add]
      rw [show nc (ml_befP a m c) (k + 1) = nc (ml_befP a m c) k by show nc (ml_befP a m c) k + (ml_befP a m c k).toNat = _; rw [show ml_befP a m c k = false by unfold ml_befP; rw [h]; rfl]; rfl]
    · rw [if_neg h, k129 (by omega) (by decide)]
      simp (disch := omega) only [am_cb_i, am_cb_e, Option.toList_some, Option.toList_none, List.cons_append, List.nil_append, b146_59, k129 hm (show 8 < 19 by decide), b146_66, nI_ltJ]
      have hw : ml_waits a k c = true := by simpa using h
      by_cases h2 : a (60 + 19 * k + 8) < a (60 + 19 * m + 8)
      · rw [if_pos h2, b146_72, nI_add, nI_add]
        rw [show nc (ml_befP a m c) (k + 1) = nc (ml_befP a m c) k + 1 by show nc (ml_befP a m c) k + (ml_befP a m c k).toNat = _; rw [show ml_befP a m c k = true by unfold ml_befP; rw [hw, decide_eq_true h2]; rfl]; rfl]
      · rw [if_neg h2, b146_72, nI_add]
        rw [show nc (ml_befP a m c) (k + 1) = nc (ml_befP a m c) k by show nc (ml_befP a m c) k + (ml_befP a m c k).toNat = _; rw [show ml_befP a m c k = false by unfold ml_befP; rw [hw, decide_eq_false h2]; rfl]; rfl]
theorem l146 {c : Nat} {x : Int32} (hB : B < 1073741824) (hb : ml_b B a) (hc : c < 1000) : ∀ r k (x4 x5 : Option am_V), k + r = a 2 → am_rn (am_ev (d + 2)) 146 2 [some (am_P (30, 0, 0)), some (am_I (nI c)), some (am_I x), some (am_I (nI k)), x4, x5] [] (am_pA M a) (am_Z w) = some (.inl (some (am_I (oI (nf (ml_wtP a c x) r k)))), am_pA M a, am_Z w) := by
  have hb' := hb
  obtain ⟨b1, b2, b3, b4, b5, b6, b7⟩ := hb
  intro r
  induction r with
  | zero =>
    intro k x4 x5 hk
    rw [b146_2, am_pA_now, if_neg (nI_nlt (by omega) (by omega))]; rfl
  | succ r ih =>
    intro k x4 x5 hk
    rw [b146_2, am_pA_now, if_pos (nI_lt (by omega) (by omega)), k145 (by omega) hc (by have := b4 k 6 (by omega) (by omega) (by omega) (by omega); omega) (by have := b4 k 2 (by omega) (by omega) (by omega) (by omega); omega)]
    simp (disch := omega) only [am_cb_i, am_cb_e, Option.toList_some, Option.toList_none, List.cons_append, List.nil_append, b146_18, nI_bz]
    by_cases h : ml_waits a k c = false
    · rw [if_pos h, b146_86, nI_add, ih (k + 1) _ _ (by omega)]
      rw [show nf (ml_wtP a c x) (r + 1) k = nf (ml_wtP a c x) r (k + 1) from if_neg (by unfold ml_wtP; rw [h]; simp)]
    · have hw : ml_waits a k c = true := by simpa using h
      have h5 : ml_bef a k c ≤ a 2 := nc_le _ _
      rw [if_neg h]
      have h4 := l146i (d := d) (M := M) (w := w) (x := x) hB hb' (m := k) (c := c) (by omega) hc (a 2) 0 (by omega)
      rw [show nc (ml_befP a k c) 0 = 0 from rfl] at h4
      rw [h4, b146_30, am_pA_now, if_neg (nI_nlt (Nat.le_refl _) (by omega))]
      by_cases h2 : nI (ml_bef a k c) = x
      · rw [if_pos h2, show nf (ml_wtP a c x) (r + 1) k = some k from if_pos (by unfold ml_wtP; rw [hw, decide_eq_true h2]; rfl)]; rfl
      · rw [if_neg h2, b146_86, nI_add, ih (k + 1) _ _ (by omega)]
        rw [show nf (ml_wtP a c x) (r + 1) k = nf (ml_wtP a c x) r (k + 1) from if_neg (by unfold ml_wtP; rw [hw, decide_eq_false h2]; simp)]
theorem k146 {c : Nat} {x : Int32} (hB : B < 1073741824) (hb : ml_b B a) (hc : c < 1000) : am_ev (d + 3) 146 [am_P (30, 0, 0), am_I (nI c), am_I x] (am_pA M a) (am_Z w) = some (.inl (some (am_I (oI (ml_wt a c x)))), am_pA M a, am_Z w) := by
  rw [e146]
  exact l146 hB hb hc _ 0 _ _ (Nat.zero_add _)
/-- the strength of the bell of c at its neighbour n, the ridge r between -/
def ml_str (a : Nat → Nat) (c n r : Nat) : Int32 := nI 24 - nI (a (12 + 6 * c + 0)) + nI (a (12 + 6 * n + 1)) - nI (2 * a (48 + 2 * r)) - nI (a (48 + 2 * r + 1))
theorem k147 {c n : Nat} (hc : c < 6) (hn : n < 6) : am_ev (d + 2) 147 [am_P (30, 0, 0), am_I (nI c), am_I (nI n)] (am_pA M a) (am_Z w) = some (.inl (some (am_I (ml_str a c n (if n < c then n else c)))), am_pA M a, am_Z w) := by
  rw [e147, k128 hc (by decide)]
  have hr : (if n < c then n else c) < 6 := by split <;> omega
  rw [show (if nI n < nI c then nI n else nI c) = nI (if n < c then n else c) by
    by_cases h : n < c
    · rw [if_pos h, if_pos (nI_lt h (by omega))]
    · rw [if_neg h, if_neg (nI_nlt (by omega) (by omega))]]
  generalize (if n < c then n else c) = r at *
  simp (disch := omega) only [am_cb_i, am_cb_e, Option.toList_some, Option.toList_none, List.cons_append, List.nil_append, b147_14, k128 hn (show 1 < 6 by decide), b147_21, k131 hr, nI_add, pk_mul, am_inT, nI_clamp, if_true, if_false, ite_true, ite_false, am_pA_now, am_pA_set, b147_41]
  rfl
/-- would the listener of n hear the bell of c -/
def ml_heard (a : Nat → Nat) (c n : Nat) : Bool := decide (¬ ml_str a c n (if n < c then n else c) < nI 10 ∧ 0 < a (12 + 6 * n + 1))
theorem k148 {c n : Nat} (hc : c < 6) (hn : n < 6) (he : a (12 + 6 * n + 1) < 1000) : am_ev (d + 3) 148 [am_P (30, 0, 0), am_I (nI c), am_I (nI n)] (am_pA M a) (am_Z w) = some (.inl (some (am_I (nI (ml_heard a c n).toNat))), am_pA M a, am_Z w) := by
  rw [e148, k147 hc hn]
  simp (disch := omega) only [am_cb_i, am_cb_e, Option.toList_some, Option.toList_none, List.cons_append, List.nil_append, b148_6]
  unfold ml_heard
  by_cases h : ml_str a c n (if n < c then n else c) < nI 10
  · rw [if_pos h, decide_eq_false (fun q => q.1 h)]; rfl
  · rw [if_neg h, k128 hn (by decide)]
    simp (disch := omega) only [am_cb_i, am_cb_e, Option.toList_some, Option.toList_none, List.cons_append, List.nil_append, b148_17]
    by_cases h0 : 0 < a (12 + 6 * n + 1)
    · rw [if_pos (by rw [show (0 : Int32) = nI 0 from rfl]; exact nI_lt h0 (by omega)), decide_eq_true ⟨h, h0⟩]; rfl
    · rw [if_neg (by rw [show (0 : Int32) = nI 0 from rfl]; exact nI_nlt (by omega) (by omega)), decide_eq_false (fun q => h0 q.2)]; rfl
end Kmr
