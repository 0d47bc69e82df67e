/-! THE REFERENCE SENDS -/
/-- how many figures z has, and the figure i, from the right -/
def nd : Nat → Nat → Nat
  | 0, _ => 0
  | k + 1, z => if z = 0 then 0 else nd k (z / 10) + 1
def dg (z i : Nat) : Nat := z / 10 ^ i % 10
theorem nd_iff : ∀ {k z : Nat}, z < 10 ^ k → ∀ i, i < nd k z ↔ 10 ^ i ≤ z := by
  intro k
  induction k with
  | zero =>
    intro z hz i
    have : 0 < 10 ^ i := Nat.pow_pos (by decide)
    simp only [nd]
    simp only [Nat.pow_zero] at hz
    omega
  | succ k ih =>
    intro z hz i
    have p : 0 < 10 ^ i := Nat.pow_pos (by decide)
    unfold nd
    by_cases h : z = 0
    · rw [if_pos h]; omega
    · rw [if_neg h]
      have h1 : z / 10 < 10 ^ k := by rw [Nat.pow_succ] at hz; omega
      cases i with
      | zero => simp only [Nat.pow_zero]; omega
      | succ i =>
        rw [Nat.pow_succ]
        have := ih h1 i
        omega
theorem z0 : ¬ (0 : Int32) < nI 0 := nI_nlt (Nat.le_refl 0) (by decide)
theorem nI_gt0 {n : Nat} (h0 : 0 < n) (h : n < 2147483648) : (0 : Int32) < nI n := nI_lt (a := 0) h0 h
theorem nd_le {k z : Nat} : nd k z ≤ k := by
  induction k generalizing z with
  | zero => exact Nat.le_refl _
  | succ k ih =>
    unfold nd
    split
    · exact Nat.zero_le _
    · exact Nat.succ_le_succ ih
theorem nd_div {z : Nat} (hz : z < 10 ^ 8) : z / 10 ^ nd 8 z = 0 := by
  have h := nd_iff hz (nd 8 z)
  exact Nat.div_eq_of_lt (by omega)
theorem nd_pos {z i : Nat} (hz : z < 10 ^ 8) (h : i < nd 8 z) : 0 < z / 10 ^ i := Nat.div_pos ((nd_iff hz i).mp h) (Nat.pow_pos (by decide))
theorem dg_next (z i : Nat) : z / 10 ^ i / 10 = z / 10 ^ (i + 1) := by rw [Nat.div_div_eq_div_mul, Nat.pow_succ]
theorem dg_lt (z i : Nat) : dg z i < 10 := Nat.mod_lt _ (by decide)
theorem dv_lt {z i : Nat} (hz : z < 10 ^ 8) : z / 10 ^ i < 10 ^ 8 := Nat.lt_of_le_of_lt (Nat.div_le_self _ _) hz
abbrev dgk (z : Nat) : Prop := ∀ i, i < nd 8 z → 1 ≤ dg z i ∧ dg z i ≤ 8
/-- the sign that no psalm has, the leftmost -/
def uk (a : Nat → Nat) (z : Nat) : Nat → Nat := fo (fun u i => if a (3 + dg z i) = 0 then dg z i else u) 0
def sn_z (a : Nat → Nat) (m : Nat) : Nat → (Nat → Nat) := fo (fun b i => nu b (60 + 19 * m + i) 0) a
def sn_g (a : Nat → Nat) (m s z : Nat) : Nat → (Nat → Nat) := fo (fun b i => nu b (60 + 19 * m + (11 + (s - 1 - i))) (dg z i)) a
def sn_f (b : Nat → Nat) (m x y s h p : Nat) : Nat → Nat := nu (nu (nu (nu (nu (nu (nu (nu b (60 + 19 * m + 0) x) (60 + 19 * m + 1) y) (60 + 19 * m + 2) x) (60 + 19 * m + 3) s) (60 + 19 * m + 7) h) 3 (p + 1)) (60 + 19 * m + 8) p) (60 + 19 * m + 9) 1
def sn (a : Nat → Nat) (x y z : Nat) : Nat → Nat := sn_g (sn_f (sn_z (nu a 2 (a 2 + 1)) (a 2) 19) (a 2) x y (nd 8 z) (a 0) (a 3)) (a 2) (nd 8 z) z (nd 8 z)
def o_snd (a : Nat → Nat) (x y z : Int32) : Out :=
  if am_in x (a 1) then if am_in y (a 1) then if x = y then .inr (5, x) else if am_bt z 1 88888888 then if dgk (cN z) then if 0 < uk a (cN z) (nd 8 (cN z)) then .inr (4, nI (uk a (cN z) (nd 8 (cN z)))) else if a 2 = 16 then .inr (2, nI 16) else .inl (a 2, sn a (cN x) (cN y) (cN z)) else .inr (1, nI 0) else .inr (1, nI 0) else .inr (3, y) else .inr (3, x)
theorem sn_z_out {a : Nat → Nat} {m j : Nat} : ∀ {i : Nat}, (j < 60 + 19 * m ∨ 60 + 19 * m + i ≤ j) → sn_z a m i j = a j := by
  intro i
  induction i with
  | zero => intro _; rfl
  | succ i ih =>
    intro h
    rw [show sn_z a m (i + 1) = nu (sn_z a m i) (60 + 19 * m + i) 0 from rfl, nu_ne (by omega)]
    exact ih (by omega)
theorem sn_z_in {a : Nat → Nat} {m f : Nat} : ∀ {i : Nat}, f < i → sn_z a m i (60 + 19 * m + f) = 0 := by
  intro i
  induction i with
  | zero => intro h; omega
  | succ i ih =>
    intro h
    rw [show sn_z a m (i + 1) = nu (sn_z a m i) (60 + 19 * m + i) 0 from rfl]
    by_cases e : f = i
    · rw [e, nu_eq]
    · rw [nu_ne (by omega)]
      exact ih (by omega)
section Kms
variable {d B : Nat} {M : am_M} {a : Nat → Nat} {w : am_W4}
theorem l140a {x y : Int32} {z : Nat} (hz : z < 10 ^ 8) : ∀ r i, i + r = nd 8 z → (∀ j, j < i → 1 ≤ dg z j ∧ dg z j ≤ 8) → am_rn (am_ev (d + 1)) 140 65 [some (am_P (30, 0, 0)), some (am_I x), some (am_I y), some (am_I (nI z)), some (am_I (nI i)), some (am_I (nI (z / 10 ^ i))), none, none, none] [] (am_pA M a) (am_Z w) = if dgk z then am_rn (am_ev (d + 1)) 140 110 [some (am_P (30, 0, 0)), some (am_I x), some (am_I y), some (am_I (nI z)), some (am_I (nI (nd 8 z))), some (am_I (nI 0)), some (am_I (nI z)), none, none] [] (am_pA M a) (am_Z w) else am_mo M a w (.inr (1, nI 0)) := by
  have hz' : z < 100000000 := hz
  intro r
  induction r with
  | zero =>
    intro i hi hj
    rw [show i = nd 8 z by omega] at hj ⊢
    rw [nd_div hz, b140_65, if_neg z0, if_pos (show dgk z from hj)]
  | succ r ih =>
    intro i hi hj
    have hp := nd_pos hz (show i < nd 8 z by omega)
    have hl := dv_lt (i := i) hz
    have hl' : z / 10 ^ i < 100000000 := hl
    have hd := dg_lt z i
    rw [b140_65, if_pos (nI_gt0 hp (by omega)), pk_rem (by omega) (by decide) (by decide), k116, show z / 10 ^ i % 10 = dg z i from rfl]
    simp only [am_cb_i, am_cb_e, Option.toList_some, Option.toList_none, List.cons_append, List.nil_append, b140_81]
    by_cases h : am_bt (nI (dg z i)) 1 8
    · have h' := (bt_P (by omega) (by omega) (by omega)).mp h
      rw [if_neg (dT h), nI_add, pk_div (by omega) (by decide) (by decide), dg_next]
      exact ih (i + 1) (by omega) (fun j hj' => by
        rcases Nat.lt_or_ge j i with q | q
        · exact hj j q
        · rw [show j = i by omega]; exact h')
    · rw [if_pos (dF h), k122, am_rf_pA, if_neg (fun q : dgk z => h ((bt_P (by omega) (by omega) (by omega)).mpr (q i (by omega))))]
      simp only [am_cb_i, am_cb_e, Option.toList_some, Option.toList_none, List.cons_append, List.nil_append, b140_90, if_pos pc0]
      rfl
theorem uk_lt {z : Nat} : ∀ k, uk a z k < 10 := by
  intro k
  induction k with
  | zero => exact Nat.zero_lt_succ _
  | succ k ih =>
    show (if a (3 + dg z k) = 0 then dg z k else uk a z k) < 10
    split
    · exact dg_lt z k
    · exact ih
theorem l140b {x y : Int32} {z : Nat} (hb : ml_b B a) (hz : z < 10 ^ 8) (hk : dgk z) : ∀ r i, i + r = nd 8 z → am_rn (am_ev d) 140 110 [some (am_P (30, 0, 0)), some (am_I x), some (am_I y), some (am_I (nI z)), some (am_I (nI (nd 8 z))), some (am_I (nI (uk a z i))), some (am_I (nI (z / 10 ^ i))), none, none] [] (am_pA M a) (am_Z w) = am_rn (am_ev d) 140 110 [some (am_P (30, 0, 0)), some (am_I x), some (am_I y), some (am_I (nI z)), some (am_I (nI (nd 8 z))), some (am_I (nI (uk a z (nd 8 z)))), some (am_I (nI 0)), none, none] [] (am_pA M a) (am_Z w) := by
  have hz' : z < 100000000 := hz
  intro r
  induction r with
  | zero =>
    intro i hi
    rw [show i = nd 8 z by omega, nd_div hz]
  | succ r ih =>
    intro i hi
    have hp := nd_pos hz (show i < nd 8 z by omega)
    have hl' : z / 10 ^ i < 100000000 := dv_lt (i := i) hz
    have hd := hk i (by omega)
    have h6 := hb.2.2.2.2.2.1 (3 + dg z i) (by omega) (by omega)
    rw [← ih (i + 1) (by omega), b140_110, if_pos (nI_gt0 hp (by omega)), pk_rem (by omega) (by decide) (by decide), show z / 10 ^ i % 10 = dg z i from rfl, nI_add, pk_sub (by omega), show 4 + dg z i - 1 = 3 + dg z i by omega, if_pos (by rw [am_inT (by omega) (by omega)]; trivial), nI_clamp (by omega), am_pA_now]
    rw [show uk a z (i + 1) = if a (3 + dg z i) = 0 then dg z i else uk a z i from rfl]
    by_cases h0 : a (3 + dg z i) = 0
    · rw [if_pos (by rw [nI_z (by omega)]; exact h0), if_pos h0, b140_139, pk_div (by omega) (by decide) (by decide), dg_next]
    · rw [if_neg (by rw [nI_z (by omega)]; exact h0), if_neg h0, b140_139, pk_div (by omega) (by decide) (by decide), dg_next]
theorem l140c {x y z s u m : Int32} {A : Nat → Nat} {k : Nat} (hk : k < 16) (hm : m = nI k) : ∀ r i, i + r = 19 → am_rn (am_ev (d + 1)) 140 198 [some (am_P (30, 0, 0)), some (am_I x), some (am_I y), some (am_I z), some (am_I s), some (am_I u), some (am_I m), some (am_I (nI i)), none] [] (am_pA M (sn_z A k i)) (am_Z w) = am_rn (am_ev (d + 1)) 140 198 [some (am_P (30, 0, 0)), some (am_I x), some (am_I y), some (am_I z), some (am_I s), some (am_I u), some (am_I m), some (am_I (nI 19)), none] [] (am_pA M (sn_z A k 19)) (am_Z w) := by
  subst hm
  intro r
  induction r with
  | zero =>
    intro i hi
    rw [show i = 19 by omega]
  | succ r ih =>
    intro i hi
    rw [b140_198, if_pos (nI_lt (by omega) (by omega)), k130 hk (by omega)]
    simp only [am_cb_i, am_cb_e, Option.toList_some, Option.toList_none, List.cons_append, List.nil_append, b140_214, nI_add]
    exact ih (i + 1) (by omega)
theorem l140d {x y s u : Int32} {z : Nat} {A : Nat → Nat} {k : Nat} (hk : k < 16) (hz : z < 10 ^ 8) : ∀ r i (x8 : Int32), i + r = nd 8 z → x8 = nI (nd 8 z - i) - nI 1 → am_rn (am_ev (d + 1)) 140 304 [some (am_P (30, 0, 0)), some (am_I x), some (am_I y), some (am_I (nI z)), some (am_I s), some (am_I u), some (am_I (nI k)), some (am_I (nI (z / 10 ^ i))), some (am_I x8)] [] (am_pA M (sn_g A k (nd 8 z) z i)) (am_Z w) = am_mo M a w (.inl (k, sn_g A k (nd 8 z) z (nd 8 z))) := by
  have hz' : z < 100000000 := hz
  have hs := nd_le (k := 8) (z := z)
  intro r
  induction r with
  | zero =>
    intro i x8 hi h8
    rw [show i = nd 8 z by omega] at h8 ⊢
    rw [Nat.sub_self] at h8
    rw [b140_304, if_pos (by rw [h8]; decide), k123, am_dn_pA]
    simp only [am_cb_i, am_cb_e, Option.toList_some, Option.toList_none, List.cons_append, List.nil_append, b140_344, if_pos pc1]
    rfl
  | succ r ih =>
    intro i x8 hi h8
    rw [pk_sub (by omega)] at h8
    have hl' : z / 10 ^ i < 100000000 := dv_lt (i := i) hz
    subst h8
    rw [b140_304, if_neg (nI_pos (by omega)), pk_rem (by omega) (by decide) (by decide), nI_add, show z / 10 ^ i % 10 = dg z i from rfl, show 11 + (nd 8 z - i - 1) = 11 + (nd 8 z - 1 - i) by omega, k130 hk (by omega)]
    simp only [am_cb_i, am_cb_e, Option.toList_some, Option.toList_none, List.cons_append, List.nil_append, b140_325]
    rw [pk_div (by omega) (by decide) (by decide), dg_next]
    exact ih (i + 1) _ (by omega) (by
      rw [show nd 8 z - i - 1 = nd 8 z - (i + 1) by omega, Int32.sub_eq_add_neg]
      rfl)
theorem k140 {x y z : Int32} (hb : ml_b B a) (hB : B < 1072000000) : am_ev (d + 3) 140 [am_P (30, 0, 0), am_I x, am_I y, am_I z] (am_pA M a) (am_Z w) = am_mo M a w (o_snd a x y z) := by
  have h1 := hb.1
  have h2 := hb.2.1
  rw [e140, k125 (by omega)]
  simp only [am_cb_i, am_cb_e, Option.toList_some, Option.toList_none, List.cons_append, List.nil_append, b140_5]
  unfold o_snd
  by_cases hx : am_in x (a 1)
  · rw [if_neg (dT hx), if_pos hx, k125 (by omega)]
    simp only [am_cb_i, am_cb_e, Option.toList_some, Option.toList_none, List.cons_append, List.nil_append, b140_20]
    by_cases hy : am_in y (a 1)
    · rw [if_neg (dT hy), if_pos hy]
      by_cases he : x = y
      · rw [if_pos he, if_pos he, k122, am_rf_pA]
        simp only [am_cb_i, am_cb_e, Option.toList_some, Option.toList_none, List.cons_append, List.nil_append, b140_41, if_pos pc0]
        rfl
      · rw [if_neg he, if_neg he, k116]
        simp only [am_cb_i, am_cb_e, Option.toList_some, Option.toList_none, List.cons_append, List.nil_append, b140_49]
        by_cases hz : am_bt z 1 88888888
        · rw [if_neg (dT hz), if_pos hz]
          obtain ⟨z, hz1, hz2, rfl⟩ := bt_nI (by omega) (by omega) hz
          have hz8 : z < 10 ^ 8 := Nat.lt_of_le_of_lt hz2 (by decide)
          rw [cN_nI (by omega)]
          have e1 := l140a (d := d + 1) (M := M) (a := a) (w := w) (x := x) (y := y) hz8 (nd 8 z) 0 (by omega) (fun j h => by omega)
          rw [Nat.pow_zero, Nat.div_one] at e1
          rw [e1]
          by_cases hk : dgk z
          · rw [if_pos hk, if_pos hk]
            have e2 := l140b (d := d + 2) (M := M) (w := w) (x := x) (y := y) hb hz8 hk (nd 8 z) 0 (by omega)
            rw [Nat.pow_zero, Nat.div_one] at e2
            rw [show nI 0 = nI (uk a z 0) from rfl, e2, b140_110, if_neg z0]
            have hu := uk_lt (a := a) (z := z) (nd 8 z)
            by_cases h0 : 0 < uk a z (nd 8 z)
            · rw [if_pos (nI_gt0 h0 (by omega)), if_pos h0, k122, am_rf_pA]
              simp only [am_cb_i, am_cb_e, Option.toList_some, Option.toList_none, List.cons_append, List.nil_append, b140_161, if_pos pc0]
              rfl
            · rw [if_neg (by rw [show uk a z (nd 8 z) = 0 by omega]; exact z0), if_neg h0, am_pA_now]
              by_cases h16 : a 2 = 16
              · rw [if_pos (by rw [h16]), if_pos h16, k122, am_rf_pA]
                simp only [am_cb_i, am_cb_e, Option.toList_some, Option.toList_none, List.cons_append, List.nil_append, b140_184, if_pos pc0]
                rfl
              · obtain ⟨x, hx', hx2, rfl⟩ := in_nI hx
                obtain ⟨y, hy', hy2, rfl⟩ := in_nI hy
                rw [if_neg (by rw [nI_eqI (by omega) (by decide)]; exact h16), if_neg h16, nI_add, am_pA_set, cN_nI hx2, cN_nI hy2]
                have e3 := l140c (d := d + 1) (M := M) (w := w) (x := nI x) (y := nI y) (z := nI z) (s := nI (nd 8 z)) (u := nI (uk a z (nd 8 z))) (m := nI (a 2)) (A := nu a 2 (a 2 + 1)) (k := a 2) (by omega) rfl 19 0 (by omega)
                rw [show sn_z (nu a 2 (a 2 + 1)) (a 2) 0 = nu a 2 (a 2 + 1) from rfl] at e3
                rw [e3, b140_198, if_neg (nI_nlt (Nat.le_refl _) (by decide)), k130 (by omega) (by decide)]
                simp only [am_cb_i, am_cb_e, Option.toList_some, Option.toList_none, List.cons_append, List.nil_append, b140_228]
                rw [k130 (by omega) (by decide)]
                simp only [am_cb_i, am_cb_e, Option.toList_some, Option.toList_none, List.cons_append, List.nil_append, b140_236]
                rw [k130 (by omega) (by decide)]
                simp only [am_cb_i, am_cb_e, Option.toList_some, Option.toList_none, List.cons_append, List.nil_append, b140_244]
                rw [k130 (by omega) (by decide)]
                simp only [am_cb_i, am_cb_e, Option.toList_some, Option.toList_none, List.cons_append, List.nil_append, b140_253, am_pA_now]
                rw [k130 (by omega) (by decide)]
                simp only [am_cb_i, am_cb_e, Option.toList_some, Option.toList_none, List.cons_append, List.nil_append, b140_267, am_pA_now, nI_add, am_pA_set]
                rw [k130 (by omega) (by decide)]
                simp only [am_cb_i, am_cb_e, Option.toList_some, Option.toList_none, List.cons_append, List.nil_append, b140_286]
                rw [k130 (by omega) (by decide)]
                simp only [am_cb_i, am_cb_e, Option.toList_some, Option.toList_none, List.cons_append, List.nil_append, b140_295]
                have q0 : sn_z (nu a 2 (a 2 + 1)) (a 2) 19 0 = a 0 := by rw [sn_z_out (by omega), nu_ne (by decide)]
                have q3 : sn_z (nu a 2 (a 2 + 1)) (a 2) 19 3 = a 3 := by rw [sn_z_out (by omega), nu_ne (by decide)]
                simp (disch := omega) only [nu_ne, q0, q3]
                have e4 := l140d (d := d + 1) (M := M) (a := a) (w := w) (x := nI x) (y := nI y) (s := nI (nd 8 z)) (u := nI (uk a z (nd 8 z))) (A := sn_f (sn_z (nu a 2 (a 2 + 1)) (a 2) 19) (a 2) x y (nd 8 z) (a 0) (a 3)) (k := a 2) (by omega) hz8 (nd 8 z) 0 (nI (nd 8 z) - nI 1) (by omega) (by rw [Nat.sub_zero])
                rw [Nat.pow_zero, Nat.div_one] at e4
                exact e4
          · rw [if_neg hk, if_neg hk]
        · rw [if_pos (dF hz), if_neg hz, k122, am_rf_pA]
          simp only [am_cb_i, am_cb_e, Option.toList_some, Option.toList_none, List.cons_append, List.nil_append, b140_58, if_pos pc0]
          rfl
    · rw [if_pos (dF hy), if_neg hy, k122, am_rf_pA]
      simp only [am_cb_i, am_cb_e, Option.toList_some, Option.toList_none, List.cons_append, List.nil_append, b140_29, if_pos pc0]
      rfl
  · rw [if_pos (dF hx), if_neg hx, k122, am_rf_pA]
    simp only [am_cb_i, am_cb_e, Option.toList_some, Option.toList_none, List.cons_append, List.nil_append, b140_14, if_pos pc0]
    rfl
end Kms
