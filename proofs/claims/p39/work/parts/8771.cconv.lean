/-! THE CLASS: A CONVENT -/
section Kc1
variable {d n B : Nat} {M M' M0 : am_M} {a : Nat → Nat} {w : am_W4} {ar : List Nat}
theorem cn_z_in {A : Nat → Nat} {c f : Nat} : ∀ {i : Nat}, f < i → cn_z A c i (12 + 6 * c + f) = 0 := by
  intro i
  induction i with
  | zero => intro h; omega
  | succ i ih =>
    intro h
    rw [show cn_z A c (i + 1) = nu (cn_z A c i) (12 + 6 * c + i) 0 from rfl]
    by_cases e : f = i
    · rw [e, nu_eq]
    · rw [nu_ne (by omega)]
      exact ih (by omega)
theorem cn_z_out {A : Nat → Nat} {c j : Nat} : ∀ {i : Nat}, (j < 12 + 6 * c ∨ 12 + 6 * c + i ≤ j) → cn_z A c i j = A j := by
  intro i
  induction i with
  | zero => intro _; rfl
  | succ i ih =>
    intro h
    rw [show cn_z A c (i + 1) = nu (cn_z A c i) (12 + 6 * c + i) 0 from rfl, nu_ne (by omega)]
    exact ih (by omega)
theorem cnv_1 {x y z : Nat} : cnv a x y z 1 = a 1 + 1 := nu_eq _ _ _
theorem cnv_f {x y z f : Nat} (hc : a 1 < 6) (hf : f < 6) : cnv a x y z (12 + 6 * a 1 + f) = if f = 0 then x else if f = 1 then y else 0 := by
  unfold cnv
  rw [nu_ne (by omega)]
  have e : nu (nu (cn_z a (a 1) 6) (12 + 6 * a 1) x) (12 + 6 * a 1 + 1) y (12 + 6 * a 1 + f) = if f = 0 then x else if f = 1 then y else 0 := by
    by_cases h0 : f = 0
    · subst h0
      rw [if_pos rfl, nu_ne (by omega)]
      exact nu_eq _ _ _
    · rw [if_neg h0]
      by_cases h1 : f = 1
      · subst h1
        rw [if_pos rfl, nu_eq]
      · rw [if_neg h1, nu_ne (by omega), nu_ne (by omega), cn_z_in hf]
  split
  · rw [nu_ne (by omega), nu_ne (by omega)]
    exact e
  · exact e
theorem cnv_z {x y z : Nat} (hc : a 1 < 6) (h0 : 0 < a 1) : cnv a x y z (48 + 2 * (a 1 - 1)) = z ∧ cnv a x y z (48 + 2 * (a 1 - 1) + 1) = 0 := by
  unfold cnv
  rw [nu_ne (by omega), nu_ne (by omega), if_pos h0]
  exact ⟨by rw [nu_ne (by omega), nu_eq], nu_eq _ _ _⟩
theorem cnv_o {x y z i : Nat} (h1 : i ≠ 1) (h2 : i < 12 + 6 * a 1 ∨ 12 + 6 * a 1 + 6 ≤ i) (h3 : 0 < a 1 → i ≠ 48 + 2 * (a 1 - 1) ∧ i ≠ 48 + 2 * (a 1 - 1) + 1) : cnv a x y z i = a i := by
  unfold cnv
  rw [nu_ne h1]
  split
  · rename_i h0
    rw [nu_ne (h3 h0).2, nu_ne (h3 h0).1, nu_ne (by omega), nu_ne (by omega), cn_z_out h2]
  · rw [nu_ne (by omega), nu_ne (by omega), cn_z_out h2]
theorem nw.cnv {x y z : Nat} (hok : ml_ok B a) (h : nw n a M ar) (hc : a 1 < 6) (H1 : M' (13, n, 0) 1 = nI (a 1 + 1)) (H21 : ∀ j, j < 7 → M' (21, n, a 1) j = nI (if j = 0 then x else if j = 1 then y else 0)) (H23 : 0 < a 1 → M' (23, n, a 1 - 1) 0 = nI z ∧ M' (23, n, a 1 - 1) 1 = nI 0) (Ho : ∀ l j, l ≠ (21, n, a 1) → ¬ (l = (13, n, 0) ∧ j = 1) → (0 < a 1 → l ≠ (23, n, a 1 - 1)) → M' l j = M l j) : nw n (cnv a x y z) M' ar := by
  obtain ⟨⟨h1, h5⟩, q, hQ, hR, hl, hg⟩ := h
  have b2 := hok.1.2.1
  have hi : ∀ i, 60 ≤ i → _root_.Jvm.Pilot.CBellTelegraphLaw_law_r3965_e4c15b.cnv a x y z i = a i := fun i hi => cnv_o (by omega) (by omega) (fun _ => by omega)
  have e2 : _root_.Jvm.Pilot.CBellTelegraphLaw_law_r3965_e4c15b.cnv a x y z 2 = a 2 := cnv_o (by omega) (by omega) (fun _ => by omega)
  have e3 : _root_.Jvm.Pilot.CBellTelegraphLaw_law_r3965_e4c15b.cnv a x y z 3 = a 3 := cnv_o (by omega) (by omega) (fun _ => by omega)
  refine ⟨⟨fun t k j hG => ?_, fun m hm => ?_⟩, fun k => if k = a 1 then [] else q k, fun c hc' => ?_, ⟨?_, fun i x hx => ?_⟩, ⟨fun c hc' => ?_, ?_, fun m hm => ?_⟩, fun m hm => ?_⟩
  · rcases hG.t with rfl | rfl | rfl | rfl | rfl | rfl
    · obtain ⟨rfl, hj⟩ := hG
      by_cases hj1 : j = 1
      · subst hj1
        rw [H1]
        exact congrArg nI cnv_1.symm
      · rw [Ho _ _ (pl_t (by decide)) (fun q => hj1 q.2) (fun _ => pl_t (by decide)), h1 13 0 j ⟨rfl, hj⟩]
        rcases hj with rfl | rfl | rfl
        · exact congrArg nI (cnv_o (i := 0) (by omega) (by omega) (fun _ => by omega)).symm
        · exact absurd rfl hj1
        · exact congrArg nI e2.symm
    · obtain ⟨rfl, hj⟩ := hG
      rw [Ho _ _ (pl_t (by decide)) (fun q => pl_t (by decide) q.1) (fun _ => pl_t (by decide)), h1 16 0 j ⟨rfl, hj⟩]
      exact congrArg nI (cnv_o (by show 3 + j ≠ 1; omega) (by show 3 + j < _ ∨ _ ≤ 3 + j; omega) (fun _ => by show 3 + j ≠ _ ∧ 3 + j ≠ _; omega)).symm
    · obtain ⟨hk, hj⟩ := hG
      rw [cnv_1] at hk
      show _ = nI (_root_.Jvm.Pilot.CBellTelegraphLaw_law_r3965_e4c15b.cnv a x y z (12 + 6 * k + j))
      by_cases hk1 : k = a 1
      · subst hk1
        rw [H21 j (by omega), cnv_f hc hj]
      · rw [Ho _ _ (pl_k hk1) (fun q => pl_t (by decide) q.1) (fun _ => pl_t (by decide)), h1 21 k j ⟨by omega, hj⟩]
        show nI (a (12 + 6 * k + j)) = nI (_root_.Jvm.Pilot.CBellTelegraphLaw_law_r3965_e4c15b.cnv a x y z (12 + 6 * k + j))
        exact congrArg nI (cnv_o (by omega) (by omega) (fun _ => by omega)).symm
    · obtain ⟨hk, hj⟩ := hG
      rw [cnv_1] at hk
      have h0 : 0 < a 1 := by omega
      show _ = nI (_root_.Jvm.Pilot.CBellTelegraphLaw_law_r3965_e4c15b.cnv a x y z (48 + 2 * k + j))
      by_cases hk1 : k = a 1 - 1
      · subst hk1
        obtain ⟨z1, z2⟩ := cnv_z (a := a) (x := x) (y := y) (z := z) hc h0
        have : j = 0 ∨ j = 1 := by omega
        rcases this with rfl | rfl
        · rw [(H23 h0).1]; exact congrArg nI z1.symm
        · rw [(H23 h0).2]; exact congrArg nI z2.symm
      · rw [Ho _ _ (pl_t (by decide)) (fun q => pl_t (by decide) q.1) (fun _ => pl_k hk1), h1 23 k j ⟨by omega, hj⟩]
        show nI (a (48 + 2 * k + j)) = nI (_root_.Jvm.Pilot.CBellTelegraphLaw_law_r3965_e4c15b.cnv a x y z (48 + 2 * k + j))
        exact congrArg nI (cnv_o (by omega) (by omega) (fun _ => by omega)).symm
    · obtain ⟨hk, hj⟩ := hG
      rw [e2] at hk
      rw [Ho _ _ (pl_t (by decide)) (fun q => pl_t (by decide) q.1) (fun _ => pl_t (by decide)), h1 24 k j ⟨hk, hj⟩]
      exact congrArg nI (hi _ (by show 60 ≤ 60 + 19 * k + _; omega)).symm
    · obtain ⟨hk, hj⟩ := hG
      rw [e2] at hk
      rw [hi _ (by omega)] at hj
      rw [Ho _ _ (pl_t (by decide)) (fun q => pl_t (by decide) q.1) (fun _ => pl_t (by decide)), h1 25 k j ⟨hk, hj⟩]
      exact congrArg nI (hi _ (by show 60 ≤ 60 + 19 * k + _; omega)).symm
  · rw [e2] at hm
    rw [Ho _ _ (pl_t (by decide)) (fun q => pl_t (by decide) q.1) (fun _ => pl_t (by decide)), h5 m hm]
    unfold nw_pl
    rw [hi _ (by omega), hi _ (by omega), hi _ (by omega)]
  · rw [cnv_1] at hc'
    dsimp only
    by_cases hk1 : c = a 1
    · subst hk1
      rw [if_pos rfl]
      exact ⟨H21 6 (by decide), fun i x hx => by simp at hx⟩
    · rw [if_neg hk1]
      obtain ⟨g1, g2⟩ := hQ c (by omega)
      exact ⟨by rw [Ho _ _ (pl_k hk1) (fun q => pl_t (by decide) q.1) (fun _ => pl_t (by decide))]; exact g1, fun i x hx => by rw [Ho _ _ (pl_t (by decide)) (fun q => pl_t (by decide) q.1) (fun _ => pl_t (by decide))]; exact g2 i x hx⟩
  · rw [Ho _ _ (pl_t (by decide)) (fun q => by have := q.2; omega) (fun _ => pl_t (by decide))]; exact hR.1
  · rw [Ho _ _ (pl_t (by decide)) (fun q => pl_t (by decide) q.1) (fun _ => pl_t (by decide))]; exact hR.2 i x hx
  · rw [cnv_1] at hc'
    dsimp only
    by_cases hk1 : c = a 1
    · subst hk1
      rw [if_pos rfl]
      refine ⟨List.Pairwise.nil, fun m => ⟨fun z => by simp at z, fun z => ?_⟩⟩
      obtain ⟨z1, z2, z3⟩ := z
      rw [e2] at z1
      rw [hi _ (by omega)] at z3
      have := (hok.2 m z1).2.2.1
      omega
    · rw [if_neg hk1]
      exact (hl.1 c (by omega)).to e2 (fun m f _ _ => hi _ (by omega))
  · refine ⟨hl.2.1.1.to (fun x _ => hi _ (by omega)), fun m => ?_⟩
    rw [hl.2.1.2 m, e2, hi (60 + 19 * m + 6) (by omega)]
  · rw [e2] at hm
    rw [hi _ (by omega), e3]
    exact hl.2.2 m hm
  · rw [e2] at hm
    rw [hi _ (by omega)]
    exact hg m hm
theorem k40 {x y z : Int32} (hn : n < 12) (hok : ml_ok B a) (h : nw n a M ar) : clO n M w ar a (am_ev (d + 2) 40 [am_P (13, n, 0), am_I x, am_I y, am_I z, am_P (6, 0, 0)] M (am_Z w)) (o_cnv a x y z) := by
  have c6 := hok.1.1
  have e1 : am_ev (d + 2) 40 [am_P (13, n, 0), am_I x, am_I y, am_I z, am_P (6, 0, 0)] M (am_Z w) = am_rn (am_ev (d + 1)) 40 23 [some (am_P (13, n, 0)), some (am_I x), some (am_I y), some (am_I z), some (am_P (6, 0, 0)), none, none] [am_I (nI (decide (0 < a 1 → am_bt z 1 9)).toNat)] M (am_Z w) := by
    rw [e40 hn, h.1.1.cc]
    by_cases h0 : a 1 = 0
    · rw [if_pos (by rw [nI_z (by omega)]; exact h0), b40_18 hn, dV (fun q : 0 < a 1 => absurd q (by omega))]
    · rw [if_neg (by rw [nI_z (by omega)]; exact h0)]
      by_cases hz1 : z < nI 1
      · rw [if_pos hz1, b40_22 hn, dU (fun q => (q (by omega)).1 hz1)]
      · rw [if_neg hz1]
        by_cases hz2 : nI 9 < z
        · rw [if_pos hz2, b40_22 hn, dU (fun q => (q (by omega)).2 hz2)]
        · rw [if_neg hz2, b40_18 hn, dV (fun _ => ⟨hz1, hz2⟩)]
  have hno : ∀ (x1 x2 x3 x5 : Int32), clO n M w ar a (am_rn (am_ev (d + 1)) 40 44 [some (am_P (13, n, 0)), some (am_I x1), some (am_I x2), some (am_I x3), some (am_P (6, 0, 0)), some (am_I x5), none] [] M (am_Z w)) (.inr (1, nI 0)) := by
    intro x1 x2 x3 x5
    rw [b40_44 hn, k63]
    simp only [am_cb_i, am_cb_e, Option.toList_some, Option.toList_none, List.cons_append, List.nil_append, b40_51 hn]
    exact clO.no h (cF.rf n M)
  rw [e1, b40_23 hn, k110]
  simp only [am_cb_i, am_cb_e, Option.toList_some, Option.toList_none, List.cons_append, List.nil_append, b40_29 hn]
  unfold o_cnv
  by_cases hx : am_bt x 0 9
  · rw [if_neg (dT hx), k110]
    simp only [am_cb_i, am_cb_e, Option.toList_some, Option.toList_none, List.cons_append, List.nil_append, b40_36 hn]
    by_cases hy : am_bt y 0 9
    · rw [if_neg (dT hy)]
      by_cases hz : 0 < a 1 → am_bt z 1 9
      · rw [if_neg (dT hz), if_pos (c := am_bt x 0 9 ∧ am_bt y 0 9 ∧ (0 < a 1 → am_bt z 1 9)) ⟨hx, hy, hz⟩, h.1.1.cc]
        by_cases h6 : a 1 = 6
        · rw [if_neg (nI_nlt (by omega) (by omega)), if_pos h6, k63]
          simp only [am_cb_i, am_cb_e, Option.toList_some, Option.toList_none, List.cons_append, List.nil_append, b40_69 hn]
          exact clO.no h (cF.rf n M)
        · rw [if_pos (nI_lt (by omega) (by omega)), if_neg h6]
          obtain ⟨x, _, hx9, rfl⟩ := bt_nI (by omega) (by omega) hx
          obtain ⟨y, _, hy9, rfl⟩ := bt_nI (by omega) (by omega) hy
          rw [cN_nI (by omega), cN_nI (by omega)]
          by_cases h0 : 0 < a 1
          · obtain ⟨z, _, hz9, rfl⟩ := bt_nI (by omega) (by omega) (hz h0)
            rw [cN_nI (by omega), if_pos (nI_gt0 h0 (by omega)), pk_sub (by omega), if_pos (by rw [am_inT (by omega) (by omega)]; trivial), nI_clamp (by omega), b40_102 hn, as_t (by decide), as_t (by decide), h.1.1.cc, if_pos (by rw [am_inT (by omega) (by omega)]; trivial), nI_clamp (by omega), e16 hn (by omega)]
            simp only [am_cb_i, am_cb_e, Option.toList_some, Option.toList_none, List.cons_append, List.nil_append, b40_116 hn]
            rw [as_t (by decide), as_t (by decide), as_t (by decide), as_t (by decide), as_t (by decide), as_t (by decide), as_t (by decide), as_t (by decide), as_t (by decide), h.1.1.cc, nI_add, b40_126 hn, as_eq, pk_sub (by omega), Nat.add_sub_cancel]
            refine ⟨_, ar, rfl, nw.cnv hok h (by omega) (as_eq _ _ _ _) (fun j hj => ?_) (fun _ => ⟨?_, ?_⟩) (fun l j q1 q2 q3 => ?_), fun l j hl => ?_⟩
            · rw [as_t (by decide)]
              have : j = 0 ∨ j = 1 ∨ j = 2 ∨ j = 3 ∨ j = 4 ∨ j = 5 ∨ j = 6 := by omega
              rcases this with rfl | rfl | rfl | rfl | rfl | rfl | rfl <;> simp [am_set]
            · simp [am_set]
            · simp [am_set]
            · have q4 := q3 h0
              unfold am_set
              rw [if_neg q2, if_neg (fun q => q1 q.1), if_neg (fun q => q1 q.1), if_neg (fun q => q1 q.1), if_neg (fun q => q1 q.1), if_neg (fun q => q1 q.1), if_neg (fun q => q1 q.1), if_neg (fun q => q1 q.1), if_neg (fun q => q4 q.1), if_neg (fun q => q4 q.1)]
            · have q1 : l ≠ (21, n, a 1) := fun q => by subst q; dsimp only at hl; omega
              have q2 : l ≠ (13, n, 0) := fun q => by subst q; dsimp only at hl; omega
              have q4 : l ≠ (23, n, a 1 - 1) := fun q => by subst q; dsimp only at hl; omega
              unfold am_set
              rw [if_neg (fun q => q2 q.1), if_neg (fun q => q1 q.1), if_neg (fun q => q1 q.1), if_neg (fun q => q1 q.1), if_neg (fun q => q1 q.1), if_neg (fun q => q1 q.1), if_neg (fun q => q1 q.1), if_neg (fun q => q1 q.1), if_neg (fun q => q4 q.1), if_neg (fun q => q4 q.1)]
          · rw [if_neg (c := (0 : Int32) < nI (a 1)) (by rw [show a 1 = 0 by omega]; exact z0), b40_102 hn, h.1.1.cc, if_pos (by rw [am_inT (by omega) (by omega)]; trivial), nI_clamp (by omega), e16 hn (by omega)]
            simp only [am_cb_i, am_cb_e, Option.toList_some, Option.toList_none, List.cons_append, List.nil_append, b40_116 hn]
            rw [as_t (by decide), as_t (by decide), as_t (by decide), as_t (by decide), as_t (by decide), as_t (by decide), as_t (by decide), h.1.1.cc, nI_add, b40_126 hn, as_eq, pk_sub (by omega), Nat.add_sub_cancel]
            refine ⟨_, ar, rfl, nw.cnv hok h (by omega) (as_eq _ _ _ _) (fun j hj => ?_) (fun q => absurd q h0) (fun l j q1 q2 q3 => ?_), fun l j hl => ?_⟩
            · rw [as_t (by decide)]
              have : j = 0 ∨ j = 1 ∨ j = 2 ∨ j = 3 ∨ j = 4 ∨ j = 5 ∨ j = 6 := by omega
              rcases this with rfl | rfl | rfl | rfl | rfl | rfl | rfl <;> simp [am_set]
            · unfold am_set
              rw [if_neg q2, if_neg (fun q => q1 q.1), if_neg (fun q => q1 q.1), if_neg (fun q => q1 q.1), if_neg (fun q => q1 q.1), if_neg (fun q => q1 q.1), if_neg (fun q => q1 q.1), if_neg (fun q => q1 q.1)]
            · have q1 : l ≠ (21, n, a 1) := fun q => by subst q; dsimp only at hl; omega
              have q2 : l ≠ (13, n, 0) := fun q => by subst q; dsimp only at hl; omega
              unfold am_set
              rw [if_neg (fun q => q2 q.1), if_neg (fun q => q1 q.1), if_neg (fun q => q1 q.1), if_neg (fun q => q1 q.1), if_neg (fun q => q1 q.1), if_neg (fun q => q1 q.1), if_neg (fun q => q1 q.1), if_neg (fun q => q1 q.1)]
      · rw [if_pos (dF hz), if_neg (fun q => hz q.2.2)]
        exact hno _ _ _ _
    · rw [if_pos (dF hy), if_neg (fun q => hy q.2.1)]
      exact hno _ _ _ _
  · rw [if_pos (dF hx), if_neg (fun q => hx q.1)]
    exact hno _ _ _ _
end Kc1
