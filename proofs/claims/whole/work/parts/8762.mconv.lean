/-! THE REFERENCE: A CONVENT, A PSALM -/
section Kcv
variable {d B : Nat} {M M' : am_M} {a b : Nat → Nat} {w : am_W4} {hs : List (Nat → Nat)} {sv : Option (Nat → Nat)} {tx ln : List Int32} {R : Int32 × Int32 × Int32} {e : Int32}
theorem k122s {r : Nat} {x : Int32} (h : mlS a hs sv tx R e ln M) : am_ev (d + 1) 122 [am_P (30, 0, 0), am_I (nI r), am_I x] M (am_Z w) = am_mo M a w (.inr (r, x)) := by
  rw [k122]
  show _ = (some (Sum.inl (some (am_I (nI 0))), am_pA (am_rf M r x) a, am_Z w) : Option am_R)
  rw [am_pA_self (fun j => by unfold am_rf; rw [as_ne (fun q => pl_t (by decide) q.1), as_ne (fun q => pl_t (by decide) q.1), as_ne (fun q => pl_t (by decide) q.1)]; exact h.1 j)]
theorem mlS.now {i v : Nat} (h : mlS a hs sv tx R e ln M) : mlS (nu a i v) hs sv tx R e ln (am_set M (31, 0, 0) i (nI v)) := by
  have e1 : am_set M (31, 0, 0) i (nI v) = am_pA M (nu a i v) := by
    conv => lhs; rw [← am_pA_self h.1]
    exact am_pA_set _ _ _ _
  rw [e1]
  exact h.pA
theorem mlT.now {i : Nat} {x : Int32} (h : mlT b M) : mlT b (am_set M (31, 0, 0) i x) := fun j hj => by
  rw [as_ne (fun q => pl_t (by decide) q.1)]; exact h j hj
def pf (a : Nat → Nat) (x y : Nat) : Nat → Bool := fun i => decide (i ≠ x ∧ a (3 + i) = y)
def o_psl (a : Nat → Nat) (x y : Int32) : Out :=
  if am_bt x 1 8 then if am_bt y 1 150 then (match nf (pf a (cN x) (cN y)) 8 1 with | some i => .inr (6, nI i) | none => .inl (a (3 + cN x), nu a (3 + cN x) (cN y))) else .inr (1, nI 0) else .inr (1, nI 0)
theorem l133 {x y : Nat} (hb : ml_b B a) (hM : ∀ j, M (31, 0, 0) j = nI (a j)) (hx : x ≤ 8) (hy : y ≤ 150) : ∀ r k, 1 ≤ k → k + r = 9 → am_rn (am_ev d) 133 38 [some (am_P (30, 0, 0)), some (am_I (nI x)), some (am_I (nI y)), some (am_I (nI k))] [] M (am_Z w) = match nf (pf a x y) r k with | some i => am_rn (am_ev d) 133 38 [some (am_P (30, 0, 0)), some (am_I (nI x)), some (am_I (nI y)), some (am_I (nI i))] [] M (am_Z w) | none => am_rn (am_ev d) 133 38 [some (am_P (30, 0, 0)), some (am_I (nI x)), some (am_I (nI y)), some (am_I (nI 9))] [] M (am_Z w) := by
  intro r
  induction r with
  | zero =>
    intro k _ hk
    rw [show k = 9 by omega]
    rfl
  | succ r ih =>
    intro k h1 hk
    unfold nf
    have h6 := hb.2.2.2.2.2.1 (3 + k) (by omega) (by omega)
    by_cases hP : pf a x y k = true
    · rw [if_pos hP]
    · rw [if_neg hP, ← ih (k + 1) (by omega) (by omega), b133_38, if_neg (nI_nlt (by omega) (by omega))]
      by_cases hkx : k = x
      · rw [if_pos (by rw [hkx]), b133_75, nI_add]
      · rw [if_neg (by rw [nI_eqI (by omega) (by omega)]; exact hkx), nI_add, pk_sub (by omega), show 4 + k - 1 = 3 + k by omega, if_pos (by rw [am_inT (by omega) (by omega)]; trivial), nI_clamp (by omega), hM, if_neg (by
          rw [nI_eqI (by omega) (by omega)]
          exact fun q => hP (decide_eq_true ⟨hkx, q⟩)), b133_75, nI_add]
theorem k133 {x y : Int32} (hok : ml_ok B a) (h : mlS a hs sv tx R e ln M) : mlO a hs sv tx R e ln M w (am_ev (d + 4) 133 [am_P (30, 0, 0), am_I x, am_I y] M (am_Z w)) (o_psl a x y) := by
  obtain ⟨M', k1, k2, k3, k4, k5, k6⟩ := k117 (d := d + 2) (w := w) h
  rw [e133, k1]
  simp only [am_cb_i, am_cb_e, Option.toList_some, Option.toList_none, List.cons_append, List.nil_append, b133_4]
  rw [k116]
  simp only [am_cb_i, am_cb_e, Option.toList_some, Option.toList_none, List.cons_append, List.nil_append, b133_11]
  unfold o_psl
  by_cases hx : am_bt x 1 8
  · rw [if_neg (dT hx), if_pos hx, k116]
    simp only [am_cb_i, am_cb_e, Option.toList_some, Option.toList_none, List.cons_append, List.nil_append, b133_22]
    by_cases hy : am_bt y 1 150
    · rw [if_neg (dT hy), if_pos hy]
      obtain ⟨x, hx1, hx8, rfl⟩ := bt_nI (by omega) (by omega) hx
      obtain ⟨y, hy1, hy8, rfl⟩ := bt_nI (by omega) (by omega) hy
      rw [cN_nI (by omega), cN_nI (by omega), l133 hok.1 k2.1 hx8 hy8 8 1 (by omega) (by omega)]
      cases hf : nf (pf a x y) 8 1 with
      | none =>
        have h6 := hok.1.2.2.2.2.2.1 (3 + x) (by omega) (by omega)
        dsimp only
        rw [b133_38, if_pos (nI_lt (by omega) (by omega)), nI_add, pk_sub (by omega), show 4 + x - 1 = 3 + x by omega, if_pos (by rw [am_inT (by omega) (by omega)]; trivial), if_pos (by rw [am_inT (by omega) (by omega)]; trivial), nI_clamp (by omega), k2.1]
        obtain ⟨M2, q1, q2, q3, q4⟩ := k121 (d := d + 2) (w := w) (x := nI (a (3 + x))) (k2.now (i := 3 + x) (v := y)) k3.now
        rw [q1]
        simp only [am_cb_i, am_cb_e, Option.toList_some, Option.toList_none, List.cons_append, List.nil_append, b133_108]
        exact ⟨M2, rfl, q2, by rw [q3, as_ne (fun q => pl_t (by decide) q.1)]; exact k5, (k6.set (by decide)).tr q4⟩
      | some i =>
        obtain ⟨i1, i2, i3⟩ := nf_some hf
        have i4 : i ≠ x ∧ a (3 + i) = y := of_decide_eq_true i3
        have h6 := hok.1.2.2.2.2.2.1 (3 + i) (by omega) (by omega)
        dsimp only
        rw [b133_38, if_neg (nI_nlt (by omega) (by omega)), if_neg (by rw [nI_eqI (by omega) (by omega)]; exact i4.1), nI_add, pk_sub (by omega), show 4 + i - 1 = 3 + i by omega, if_pos (by rw [am_inT (by omega) (by omega)]; trivial), nI_clamp (by omega), k2.1, if_pos (by rw [i4.2]), k122s k2]
        exact k124 (d := d + 1) (fun s M'' => b133_71) (by exact fun s M'' => b133_74) k2 k3 k4 k5 k6
    · rw [if_pos (dF hy), if_neg hy, b133_25, k122s k2]
      exact k124 (d := d + 1) (fun s M'' => b133_32) (by exact fun s M'' => b133_35) k2 k3 k4 k5 k6
  · rw [if_pos (dF hx), if_neg hx, b133_25, k122s k2]
    exact k124 (d := d + 1) (fun s M'' => b133_32) (by exact fun s M'' => b133_35) k2 k3 k4 k5 k6
def cn_z (a : Nat → Nat) (c : Nat) : Nat → (Nat → Nat) := fo (fun b i => nu b (12 + 6 * c + i) 0) a
def cnv (a : Nat → Nat) (x y z : Nat) : Nat → Nat :=
  nu (if 0 < a 1 then nu (nu (nu (nu (cn_z a (a 1) 6) (12 + 6 * a 1) x) (12 + 6 * a 1 + 1) y) (48 + 2 * (a 1 - 1)) z) (48 + 2 * (a 1 - 1) + 1) 0 else nu (nu (cn_z a (a 1) 6) (12 + 6 * a 1) x) (12 + 6 * a 1 + 1) y) 1 (a 1 + 1)
def o_cnv (a : Nat → Nat) (x y z : Int32) : Out :=
  if am_bt x 0 9 ∧ am_bt y 0 9 ∧ (0 < a 1 → am_bt z 1 9) then if a 1 = 6 then .inr (2, nI 6) else .inl (a 1, cnv a (cN x) (cN y) (cN z)) else .inr (1, nI 0)
theorem l132 {x y z : Int32} {c : Nat} {M : am_M} {A : Nat → Nat} (hc : c < 6) : ∀ r i, i + r = 6 → am_rn (am_ev d) 132 80 [some (am_P (30, 0, 0)), some (am_I x), some (am_I y), some (am_I z), some (am_I (nI c)), some (am_I (nI i))] [] (am_pA M (cn_z A c i)) (am_Z w) = am_rn (am_ev d) 132 80 [some (am_P (30, 0, 0)), some (am_I x), some (am_I y), some (am_I z), some (am_I (nI c)), some (am_I (nI 6))] [] (am_pA M (cn_z A c 6)) (am_Z w) := by
  intro r
  induction r with
  | zero =>
    intro i hi
    rw [show i = 6 by omega]
  | succ r ih =>
    intro i hi
    rw [b132_80, if_pos (nI_lt (by omega) (by omega))]
    simp (disch := omega) only [nI_add, pk_mul, am_inT, nI_clamp, if_true, if_false, ite_true, ite_false, am_pA_now, am_pA_set]
    exact ih (i + 1) (by omega)
theorem cn_z_1 {A : Nat → Nat} {c : Nat} : ∀ i, cn_z A c i 1 = A 1 := by
  intro i
  induction i with
  | zero => rfl
  | succ i ih =>
    rw [show cn_z A c (i + 1) = nu (cn_z A c i) (12 + 6 * c + i) 0 from rfl, nu_ne (by omega)]
    exact ih
theorem k132 {x y z : Int32} (hok : ml_ok B a) (h : mlS a hs sv tx R e ln M) : mlO a hs sv tx R e ln M w (am_ev (d + 4) 132 [am_P (30, 0, 0), am_I x, am_I y, am_I z] M (am_Z w)) (o_cnv a x y z) := by
  have c6 := hok.1.1
  obtain ⟨M', k1, k2, k3, k4, k5, k6⟩ := k117 (d := d + 2) (w := w) h
  rw [e132, k1]
  simp only [am_cb_i, am_cb_e, Option.toList_some, Option.toList_none, List.cons_append, List.nil_append, b132_4]
  rw [k116, k2.1]
  simp only [am_cb_i, am_cb_e, Option.toList_some, Option.toList_none, List.cons_append, List.nil_append, b132_19]
  unfold o_cnv
  have hno : ∀ (x1 x2 x3 x4 : Int32), mlO a hs sv tx R e ln M w (am_rn (am_ev (d + 3)) 132 47 [some (am_P (30, 0, 0)), some (am_I x1), some (am_I x2), some (am_I x3), some (am_I x4), none] [] M' (am_Z w)) (.inr (1, nI 0)) := by
    intro x1 x2 x3 x4
    rw [b132_47, k122s k2]
    exact k124 (d := d + 1) (fun s M'' => b132_54) (by exact fun s M'' => b132_57) k2 k3 k4 k5 k6
  by_cases hx : am_bt x 0 9
  · rw [if_neg (dT hx), k116]
    simp only [am_cb_i, am_cb_e, Option.toList_some, Option.toList_none, List.cons_append, List.nil_append, b132_29]
    by_cases hy : am_bt y 0 9
    · rw [if_neg (dT hy)]
      have hgo : (0 < a 1 → am_bt z 1 9) → mlO a hs sv tx R e ln M w (am_rn (am_ev (d + 3)) 132 58 [some (am_P (30, 0, 0)), some (am_I x), some (am_I y), some (am_I z), some (am_I (nI (a 1))), none] [] M' (am_Z w)) (if a 1 = 6 then .inr (2, nI 6) else .inl (a 1, cnv a (cN x) (cN y) (cN z))) := by
        intro hz
        rw [b132_58]
        by_cases h6 : a 1 = 6
        · rw [if_pos (by rw [h6]), if_pos h6, k122s k2]
          exact k124 (d := d + 1) (fun s M'' => b132_73) (by exact fun s M'' => b132_76) k2 k3 k4 k5 k6
        · rw [if_neg (by rw [nI_eqI (by omega) (by decide)]; exact h6), if_neg h6]
          obtain ⟨x, _, hx9, rfl⟩ := bt_nI (by omega) (by omega) hx
          obtain ⟨y, _, hy9, rfl⟩ := bt_nI (by omega) (by omega) hy
          rw [cN_nI (by omega), cN_nI (by omega)]
          have e1 := l132 (d := d + 3) (w := w) (x := nI x) (y := nI y) (z := z) (M := M') (A := a) (c := a 1) (by omega) 6 0 (by omega)
          rw [show cn_z a (a 1) 0 = a from rfl, am_pA_self k2.1] at e1
          rw [e1, b132_80, if_neg (nI_nlt (by omega) (by omega))]
          unfold cnv
          by_cases h0 : 0 < a 1
          · obtain ⟨z, _, hz9, rfl⟩ := bt_nI (by omega) (by omega) (hz h0)
            rw [cN_nI (by omega), if_pos h0, if_pos (nI_gt0 h0 (by omega)), pk_sub (by omega)]
            simp (disch := omega) only [nI_add, pk_mul, am_inT, nI_clamp, if_true, if_false, ite_true, ite_false, am_pA_now, am_pA_set]
            rw [b132_177]
            simp (disch := omega) only [nI_add, pk_mul, am_inT, nI_clamp, if_true, if_false, ite_true, ite_false, am_pA_now, am_pA_set, nu_ne, cn_z_1]
            obtain ⟨M2, q1, q2, q3, q4⟩ := k121 (d := d + 2) (w := w) (x := nI (a 1)) (k2.pA (b := nu (nu (nu (nu (nu (cn_z a (a 1) 6) (12 + 6 * a 1) x) (12 + 6 * a 1 + 1) y) (48 + 2 * (a 1 - 1)) z) (48 + 2 * (a 1 - 1) + 1) 0) 1 (a 1 + 1))) (b := a) (fun j hj => by rw [am_pA_ne (pl_t (by decide))]; exact k3 j hj)
            rw [q1]
            simp only [am_cb_i, am_cb_e, Option.toList_some, Option.toList_none, List.cons_append, List.nil_append, b132_193]
            exact ⟨M2, rfl, q2, by rw [q3, am_pA_ne (pl_t (by decide))]; exact k5, k6.pA.tr q4⟩
          · rw [if_neg h0, if_neg (c := (0 : Int32) < nI (a 1)) (by rw [show a 1 = 0 by omega]; exact z0)]
            simp (disch := omega) only [nI_add, pk_mul, am_inT, nI_clamp, if_true, if_false, ite_true, ite_false, am_pA_now, am_pA_set]
            rw [b132_177]
            simp (disch := omega) only [nI_add, pk_mul, am_inT, nI_clamp, if_true, if_false, ite_true, ite_false, am_pA_now, am_pA_set, nu_ne, cn_z_1]
            obtain ⟨M2, q1, q2, q3, q4⟩ := k121 (d := d + 2) (w := w) (x := nI (a 1)) (k2.pA (b := nu (nu (nu (cn_z a (a 1) 6) (12 + 6 * a 1) x) (12 + 6 * a 1 + 1) y) 1 (a 1 + 1))) (b := a) (fun j hj => by rw [am_pA_ne (pl_t (by decide))]; exact k3 j hj)
            rw [q1]
            simp only [am_cb_i, am_cb_e, Option.toList_some, Option.toList_none, List.cons_append, List.nil_append, b132_193]
            exact ⟨M2, rfl, q2, by rw [q3, am_pA_ne (pl_t (by decide))]; exact k5, k6.pA.tr q4⟩
      by_cases h0 : 0 < a 1
      · rw [if_pos (nI_gt0 h0 (by omega)), k116]
        simp only [am_cb_i, am_cb_e, Option.toList_some, Option.toList_none, List.cons_append, List.nil_append, b132_44]
        by_cases hz : am_bt z 1 9
        · rw [if_neg (dT hz), if_pos ⟨hx, hy, fun _ => hz⟩]
          exact hgo (fun _ => hz)
        · rw [if_pos (dF hz), if_neg (fun q => hz (q.2.2 h0))]
          exact hno _ _ _ _
      · rw [if_neg (by rw [show a 1 = 0 by omega]; exact z0), if_pos ⟨hx, hy, fun q => absurd q h0⟩]
        exact hgo (fun q => absurd q h0)
    · rw [if_pos (dF hy), if_neg (fun q => hy q.2.1)]
      exact hno _ _ _ _
  · rw [if_pos (dF hx), if_neg (fun q => hx q.1)]
    exact hno _ _ _ _
end Kcv
