/-! THE CLASS SENDS: THE METHOD; CARRY OUT -/
section Kc4
variable {d n B : Nat} {M M' M0 : am_M} {a : Nat → Nat} {w : am_W4} {ar : List Nat}
theorem uk_s {z i : Nat} : uk a z (i + 1) = if a (3 + dg z i) = 0 then dg z i else uk a z i := rfl
theorem l45 {x y : Int32} {z : Nat} (hn : n < 12) (hb : ml_b B a) (h : nwF n a M) (hk : dgk z) (h20 : ∀ k, k < nd 8 z → M (20, n, 0) k = nI (dg z (nd 8 z - 1 - k))) : ∀ r i, i + r = nd 8 z → am_rn (am_ev (d + 1)) 45 68 [some (am_P (13, n, 0)), some (am_I x), some (am_I y), some (am_I (nI z)), some (am_P (6, 0, 0)), some (am_I (nI (nd 8 z))), some (am_I (nI i))] [] M (am_Z w) = if 0 < uk a z r then some (.inl (some (am_I (-1))), c6 M 4 (nI (uk a z r)), am_Z w) else am_rn (am_ev (d + 1)) 45 68 [some (am_P (13, n, 0)), some (am_I x), some (am_I y), some (am_I (nI z)), some (am_P (6, 0, 0)), some (am_I (nI (nd 8 z))), some (am_I (nI (nd 8 z)))] [] M (am_Z w) := by
  have h8 := nd_le (k := 8) (z := z)
  intro r
  induction r with
  | zero =>
    intro i hi
    rw [if_neg (show ¬ 0 < uk a z 0 from Nat.lt_irrefl 0), show i = nd 8 z by omega]
  | succ r ih =>
    intro i hi
    have hd := hk r (by omega)
    have hM := h20 i (by omega)
    rw [show nd 8 z - 1 - i = r by omega] at hM
    have h6 := hb.2.2.2.2.2.1 (3 + dg z r) (by omega) (by omega)
    have hM1 : M (20, n, 0) (nI i).toNatClampNeg = nI (dg z r) := by rw [nI_clamp (by omega)]; exact hM
    have hM2 : M (16, n, 0) (M (20, n, 0) (nI i).toNatClampNeg).toNatClampNeg = nI (a (3 + dg z r)) := by rw [hM1, nI_clamp (by omega)]; exact h.ps hd.1 hd.2
    rw [b45_68 hn, if_pos (nI_lt (by omega) (by omega)), if_pos (by rw [am_inT (by omega) (by omega)]; trivial), if_pos (by rw [hM1, am_inT (by omega) (by omega)]; trivial), uk_s]
    by_cases h0 : a (3 + dg z r) = 0
    · rw [if_pos (by rw [hM2, nI_z (by omega)]; exact h0), if_pos h0, if_pos (by rw [am_inT (by omega) (by omega)]; trivial), hM1, k63, if_pos (by omega)]
      simp only [am_cb_i, am_cb_e, Option.toList_some, Option.toList_none, List.cons_append, List.nil_append, b45_103 hn]
    · rw [if_neg (by rw [hM2, nI_z (by omega)]; exact h0), if_neg h0, nI_add]
      exact ih (i + 1) (by omega)
theorem k26 {m : Nat} {x y v : Int32} (hn : n < 12) (hm : m < 16) : am_ev (d + 2) 26 [am_P (24, n, m), am_I x, am_I y, am_I v] M (am_Z w) = some (.inl none, am_set (am_set (am_set (am_set (am_set (am_set (am_set (am_set M (24, n, m) 0 x) (24, n, m) 1 y) (24, n, m) 2 x) (24, n, m) 3 (nI 0)) (24, n, m) 4 v) (24, n, m) 5 (nI 0)) (24, n, m) 6 (nI 0)) (24, n, m) 7 (nI 1), am_Z w) := by
  rw [e26 hn hm, k28 hn hm]
  simp only [am_cb_i, am_cb_e, Option.toList_some, Option.toList_none, List.cons_append, List.nil_append, b26_30 hn hm]
theorem k45 {x y z : Int32} (hn : n < 12) (hok : ml_ok B a) (h : nw n a M ar) : clO n M w ar a (am_ev (d + 4) 45 [am_P (13, n, 0), am_I x, am_I y, am_I z, am_P (6, 0, 0)] M (am_Z w)) (o_snd a x y z) := by
  have b1 := hok.1.1
  have b2 := hok.1.2.1
  rw [e45 hn, k35 hn h.1.1 b1]
  simp only [am_cb_i, am_cb_e, Option.toList_some, Option.toList_none, List.cons_append, List.nil_append, b45_5 hn]
  unfold o_snd
  by_cases hx : am_in x (a 1)
  · rw [if_neg (dT hx), if_pos hx, k35 hn h.1.1 b1]
    simp only [am_cb_i, am_cb_e, Option.toList_some, Option.toList_none, List.cons_append, List.nil_append, b45_21 hn]
    by_cases hy : am_in y (a 1)
    · rw [if_neg (dT hy), if_pos hy]
      by_cases he : x = y
      · rw [if_pos he, if_pos he, k63]
        simp only [am_cb_i, am_cb_e, Option.toList_some, Option.toList_none, List.cons_append, List.nil_append, b45_44 hn]
        exact clO.no h (cF.rf n M)
      · rw [if_neg he, if_neg he]
        obtain ⟨M1, q1, q2, q3⟩ := k46 (d := d + 1) (n := n) (M := M) (w := w) (x := z) hn
        have hF1 : cF n M M1 := fun l j hl _ => q3 l j (fun q => by subst q; dsimp only at hl; omega)
        have hw1 : nw n a M1 ar := h.mem (fun t k j _ _ _ g => q3 _ _ (pl_t g))
        rw [q1]
        simp only [am_cb_i, am_cb_e, Option.toList_some, Option.toList_none, List.cons_append, List.nil_append, b45_50 hn]
        by_cases hz : am_bt z 1 88888888
        · obtain ⟨z, hz1, hz2, rfl⟩ := bt_nI (by omega) (by omega) hz
          have hz8 : z < 10 ^ 8 := Nat.lt_of_le_of_lt hz2 (by decide)
          have hn1 : 0 < nd 8 z := (nd_iff hz8 0).mpr (by rw [Nat.pow_zero]; exact hz1)
          have h8 := nd_le (k := 8) (z := z)
          rw [cN_nI (by omega)] at q2 ⊢
          rw [if_pos hz]
          by_cases hk : dgk z
          · have h20 := q2 ⟨hz, hk⟩
            have hu := uk_lt (a := a) (z := z) (nd 8 z)
            rw [if_pos (c := am_bt (nI z) 1 88888888 ∧ dgk z) ⟨hz, hk⟩, if_pos hk, if_neg (nI_ne0 hn1 (by omega)), l45 hn hok.1 hw1.1.1 hk h20 (nd 8 z) 0 (by omega)]
            by_cases h0 : 0 < uk a z (nd 8 z)
            · rw [if_pos h0, if_pos h0]
              exact clO.no hw1 hF1
            · rw [if_neg h0, if_neg h0, b45_68 hn, if_neg (nI_nlt (by omega) (by omega)), hw1.1.1.mc, hw1.1.1.hour]
              by_cases h16 : a 2 = 16
              · rw [if_neg (nI_nlt (by omega) (by omega)), if_pos h16, k63]
                simp only [am_cb_i, am_cb_e, Option.toList_some, Option.toList_none, List.cons_append, List.nil_append, b45_127 hn]
                exact clO.no hw1 hF1
              · obtain ⟨x, hx', hx2, rfl⟩ := in_nI hx
                obtain ⟨y, hy', hy2, rfl⟩ := in_nI hy
                rw [if_pos (nI_lt (by omega) (by omega)), if_neg h16, if_pos (by rw [am_inT (by omega) (by omega)]; trivial), nI_clamp (by omega), k26 hn (by omega), cN_nI hx2, cN_nI hy2]
                simp only [am_cb_i, am_cb_e, Option.toList_some, Option.toList_none, List.cons_append, List.nil_append, b45_150 hn (show a 2 < 16 by omega), b45_157 hn (show a 2 < 16 by omega)]
                obtain ⟨⟨h1, h5⟩, q, hQ, hR, hl, hg⟩ := hw1
                have hlen := (hl.1 x hx').len
                rw [if_pos ⟨nI_pos (by omega), nI_pos (by omega), nI_pos (by omega), by rw [nI_clamp (by omega), nI_clamp (by omega)]; omega, by rw [nI_clamp (by omega), nI_clamp (by omega)]; omega⟩, nI_clamp (by omega), nI_clamp (by omega), b45_173 hn (by omega), if_pos (by rw [am_inT (by omega) (by omega)]; trivial), nI_clamp (by omega)]
                have ne : ∀ (t k : Nat), t ≠ 25 → t ≠ 24 → ∀ {M5 : am_M} {x8 : Int32} {v1 v2 v3 v4 v5 v6 v7 v8 : Int32} {j : Nat}, am_cp (am_set (am_set (am_set (am_set (am_set (am_set (am_set (am_set (am_set M5 (24, n, a 2) 0 v1) (24, n, a 2) 1 v2) (24, n, a 2) 2 v3) (24, n, a 2) 3 v4) (24, n, a 2) 4 v5) (24, n, a 2) 5 v6) (24, n, a 2) 6 v7) (24, n, a 2) 7 v8) (24, n, a 2) 8 x8) (20, n, 0) (25, n, a 2) 0 0 (nd 8 z) (t, n, k) j = M5 (t, n, k) j := by
                  intro t k g1 g2 M5 x8 v1 v2 v3 v4 v5 v6 v7 v8 j
                  rw [cp_ne (pl_t g1), as_t g2, as_t g2, as_t g2, as_t g2, as_t g2, as_t g2, as_t g2, as_t g2, as_t g2]
                rw [ne 13 0 (by decide) (by decide), h1.mc, k19 (l := q x) hn (by omega) (by omega) (by rw [ne 21 x (by decide) (by decide)]; exact (hQ x hx').1)]
                simp only [am_cb_i, am_cb_e, Option.toList_some, Option.toList_none, List.cons_append, List.nil_append, b45_186 hn (show a 2 < 16 by omega)]
                rw [as_t (by decide), as_t (by decide), ne 13 0 (by decide) (by decide), h1.mc, nI_add, b45_196 hn (by omega), as_eq, pk_sub (by omega), Nat.add_sub_cancel]
                refine ⟨_, ar, rfl, nw.sn hok h1 h5 hQ hR hl hg hx' (by omega) (as_eq _ _ _ _) (fun j hj => ?_) (fun k hk' => ?_) ?_ ?_ (fun l j g1 g2 g3 g4 g5 g6 => ?_), nw_fo.tr (M' := M1) (fun l j hl => q3 l j (fun q => by subst q; dsimp only at hl; omega)) (fun l j hl' => ?_)⟩
                · rw [as_t (by decide), as_t (by decide), as_t (by decide), cp_ne (pl_t (by decide))]
                  have : j = 0 ∨ j = 1 ∨ j = 2 ∨ j = 3 ∨ j = 4 ∨ j = 5 ∨ j = 6 ∨ j = 7 ∨ j = 8 := by omega
                  rcases this with rfl | rfl | rfl | rfl | rfl | rfl | rfl | rfl | rfl <;> simp [am_set, nw_f, sn_v]
                · rw [as_t (by decide), as_t (by decide), as_t (by decide), cp_in hk', as_t (by decide), as_t (by decide), as_t (by decide), as_t (by decide), as_t (by decide), as_t (by decide), as_t (by decide), as_t (by decide), as_t (by decide)]
                  exact h20 k hk'
                · rw [as_t (by decide), as_eq]
                · rw [as_t (by decide), as_t (by decide), as_eq]
                · rw [as_ne (fun q => g1 q), as_ne (fun q => g5 q), as_ne (fun q => g6 q), cp_ne g3, as_ne (fun q => g2 q.1), as_ne (fun q => g2 q.1), as_ne (fun q => g2 q.1), as_ne (fun q => g2 q.1), as_ne (fun q => g2 q.1), as_ne (fun q => g2 q.1), as_ne (fun q => g2 q.1), as_ne (fun q => g2 q.1), as_ne (fun q => g2 q.1)]
                · have g : ∀ t k : Nat, 13 ≤ t → t ≤ 25 → l ≠ (t, n, k) := fun t k z1 z2 q => by subst q; dsimp only at hl'; omega
                  rw [as_ne (fun q => g 13 0 (by decide) (by decide) q.1), as_ne (fun q => g 21 x (by decide) (by decide) q.1), as_ne (fun q => g 22 x (by decide) (by decide) q.1), cp_ne (g 25 _ (by decide) (by decide)), as_ne (fun q => g 24 _ (by decide) (by decide) q.1), as_ne (fun q => g 24 _ (by decide) (by decide) q.1), as_ne (fun q => g 24 _ (by decide) (by decide) q.1), as_ne (fun q => g 24 _ (by decide) (by decide) q.1), as_ne (fun q => g 24 _ (by decide) (by decide) q.1), as_ne (fun q => g 24 _ (by decide) (by decide) q.1), as_ne (fun q => g 24 _ (by decide) (by decide) q.1), as_ne (fun q => g 24 _ (by decide) (by decide) q.1), as_ne (fun q => g 24 _ (by decide) (by decide) q.1)]
          · rw [if_neg (c := am_bt (nI z) 1 88888888 ∧ dgk z) (fun q => hk q.2), if_pos (show nI 0 = 0 from rfl), if_neg hk, k63]
            simp only [am_cb_i, am_cb_e, Option.toList_some, Option.toList_none, List.cons_append, List.nil_append, b45_64 hn]
            exact clO.no hw1 hF1
        · rw [if_neg (c := am_bt z 1 88888888 ∧ dgk (cN z)) (fun q => hz q.1), if_pos (show nI 0 = 0 from rfl), if_neg hz, k63]
          simp only [am_cb_i, am_cb_e, Option.toList_some, Option.toList_none, List.cons_append, List.nil_append, b45_64 hn]
          exact clO.no hw1 hF1
    · rw [if_pos (dF hy), if_neg hy, k63]
      simp only [am_cb_i, am_cb_e, Option.toList_some, Option.toList_none, List.cons_append, List.nil_append, b45_31 hn]
      exact clO.no h (cF.rf n M)
  · rw [if_pos (dF hx), if_neg hx, k63]
    simp only [am_cb_i, am_cb_e, Option.toList_some, Option.toList_none, List.cons_append, List.nil_append, b45_15 hn]
    exact clO.no h (cF.rf n M)
end Kc4
