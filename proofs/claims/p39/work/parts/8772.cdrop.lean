/-! THE CLASS DROPS A MESSAGE, SPELLS A NUMBER -/
section Kc2
variable {d n B : Nat} {M M' M0 : am_M} {a : Nat → Nat} {w : am_W4} {ar : List Nat}
theorem k47 {x : Int32} (hn : n < 12) (hok : ml_ok B a) (h : nw n a M ar) : clO n M w ar a (am_ev (d + 2) 47 [am_P (13, n, 0), am_I x, am_P (6, 0, 0)] M (am_Z w)) (o_drp a x) := by
  have b1 := hok.1.1
  have b2 := hok.1.2.1
  rw [e47 hn, k37 hn h.1.1 b2]
  simp only [am_cb_i, am_cb_e, Option.toList_some, Option.toList_none, List.cons_append, List.nil_append, b47_5 hn]
  unfold o_drp
  by_cases hx : am_in x (a 2)
  · obtain ⟨x, hx', hx2, rfl⟩ := in_nI hx
    have w2 := (hok.2 x hx').2.2.1
    have h6 := hok.1.2.2.2.1 x 6 (by omega) (by decide) (by decide) (by decide)
    rw [if_neg (dT hx), if_pos hx, if_pos (by rw [am_inT (by omega) (by omega)]; trivial), nI_clamp (by omega), cN_nI hx2, h.1.1.how hx']
    by_cases h0 : a (60 + 19 * x + 6) = 0
    · rw [if_pos (by rw [nI_z (by omega)]; exact h0), if_pos h0, b47_45 hn (by omega), as_j (by decide), h.1.1.mat hx', k35c hn (by rw [as_t (by decide)]; exact h.1.1.cc) b1 w2]
      simp only [am_cb_i, am_cb_e, Option.toList_some, Option.toList_none, List.cons_append, List.nil_append]
      rw [b47_53 hn (by omega), if_neg (show ¬ nI 1 = 0 by decide), as_j (by decide), h.1.1.mat hx', if_pos (by rw [am_inT (by omega) (by omega)]; trivial), nI_clamp (by omega)]
      obtain ⟨⟨h1, h5⟩, q, hQ, hR, hl, hg⟩ := h
      have hq := hl.1 _ w2
      have hlen := hq.len
      obtain ⟨M2, q1, q2, q3, q4⟩ := k20 (d := d) (w := w) (M := am_set M (24, n, x) 3 (nI 2)) (c := a (60 + 19 * x + 2)) (x := x) (l := q (a (60 + 19 * x + 2))) hn (by omega) (by omega) (by omega) (fun y hy => by have := ((hq.2 y).mp hy).1; omega) (by rw [as_t (by decide)]; exact (hQ _ w2).1) (fun i y hy => by rw [as_t (by decide)]; exact (hQ _ w2).2 i y hy)
      rw [q1]
      simp only [am_cb_i, am_cb_e, Option.toList_some, Option.toList_none, List.cons_append, List.nil_append, b47_69 hn (show x < 16 by omega)]
      have qo : ∀ (t k j : Nat), t ≠ 21 ∨ j ≠ 6 → t ≠ 22 → M2 (t, n, k) j = am_set M (24, n, x) 3 (nI 2) (t, n, k) j := fun t k j g1 g2 => q4 _ _ (pl_t (by omega)) (fun q => by
        rcases g1 with z | z
        · exact pl_t z q.1
        · exact z q.2)
      have hlo : ∀ i, i ≠ 60 + 19 * x + 6 → nu a (60 + 19 * x + 6) 2 i = a i := fun i hi => nu_ne hi
      have hC : nwC a (nu a (60 + 19 * x + 6) 2) := ⟨hlo _ (by omega), hlo _ (by omega), fun m _ => hlo _ (by omega)⟩
      have hnot : ∀ c, c < a 1 → c ≠ a (60 + 19 * x + 2) → x ∉ q c := fun c hc hne hm => hne (((hl.1 c hc).2 x).mp hm).2.2.symm
      rw [qo 24 x 2 (by decide) (by decide), as_j (by decide), h1.mat hx']
      refine ⟨M2, ar, rfl, ⟨⟨(h1.set hok.S (nwC.rf a) (t := 24) (k := x) (j := 3) (v := 2) ⟨hx', by decide, by decide⟩ hC).mem (fun t k j hG => ?_), fun m hm => ?_⟩, fun c => if c = a (60 + 19 * x + 2) then fl x (q c) else q c, fun c hc => ?_, ⟨?_, fun i y hy => ?_⟩, ⟨fun c hc => ?_, ?_, fun m hm => ?_⟩, fun m hm => ?_⟩, fun l j hl' => ?_⟩
      · refine qo t k j ?_ ?_
        · rcases hG.t with rfl | rfl | rfl | rfl | rfl | rfl
          all_goals first
            | exact Or.inl (by decide)
            | (refine Or.inr ?_; have := hG.2; omega)
        · rcases hG.t with rfl | rfl | rfl | rfl | rfl | rfl <;> decide
      · rw [hC.2.1] at hm
        rw [qo 24 m 5 (by decide) (by decide), as_j (by decide), h5 m hm]
        unfold nw_pl
        rw [hlo _ (by omega), hlo _ (by omega), hlo _ (by omega)]
      · rw [hC.1] at hc
        dsimp only
        by_cases hcc : c = a (60 + 19 * x + 2)
        · subst hcc
          rw [if_pos rfl]
          exact ⟨q2, q3⟩
        · rw [if_neg hcc]
          exact ⟨by rw [q4 _ _ (pl_t (by decide)) (fun q => pl_k hcc q.1), as_t (by decide)]; exact (hQ c hc).1, fun i y hy => by rw [q4 _ _ (pl_k hcc) (fun q => pl_t (by decide) q.1), as_t (by decide)]; exact (hQ c hc).2 i y hy⟩
      · rw [qo 13 0 7 (by decide) (by decide), as_t (by decide)]; exact hR.1
      · rw [qo 18 0 i (Or.inl (by decide)) (by decide), as_t (by decide)]; exact hR.2 i y hy
      · rw [hC.1] at hc
        have hqc := hl.1 c hc
        have key : q_ok (nu a (60 + 19 * x + 6) 2) c (fl x (q c)) := by
          refine ⟨(List.Pairwise.filter _ hqc.1).imp (fun {u v} huv => by
            show nu a (60 + 19 * x + 6) 2 (60 + 19 * u + 8) < nu a (60 + 19 * x + 6) 2 (60 + 19 * v + 8)
            rw [hlo _ (by omega), hlo _ (by omega)]
            exact huv), fun m => ?_⟩
          rw [fl_mem, hqc.2 m, hC.2.1, hlo (60 + 19 * m + 2) (by omega)]
          by_cases hmx : m = x
          · subst hmx
            rw [nu_eq]
            exact ⟨fun z => absurd rfl z.2, fun z => absurd z.2.1 (by decide)⟩
          · rw [hlo (60 + 19 * m + 6) (by omega)]
            exact ⟨fun z => z.1, fun z => ⟨z, hmx⟩⟩
        dsimp only
        by_cases hcc : c = a (60 + 19 * x + 2)
        · rw [if_pos hcc]; exact key
        · rw [if_neg hcc]
          have e : fl x (q c) = q c := List.filter_eq_self.mpr (fun y hy => decide_eq_true (fun z => hnot c hc hcc (z ▸ hy)))
          rw [e] at key
          exact key
      · refine ⟨hl.2.1.1.to (fun y _ => hlo _ (by omega)), fun m => ?_⟩
        rw [hl.2.1.2 m, hC.2.1]
        by_cases hmx : m = x
        · subst hmx
          rw [nu_eq, h0]
          exact ⟨fun z => absurd z.2 (by decide), fun z => absurd z.2 (by decide)⟩
        · rw [hlo (60 + 19 * m + 6) (by omega)]
      · rw [hC.2.1] at hm
        rw [hlo _ (by omega), hlo 3 (by omega)]
        exact hl.2.2 m hm
      · rw [hC.2.1] at hm
        rw [hlo _ (by omega)]
        exact hg m hm
      · rw [q4 _ _ (fun q => by subst q; dsimp only at hl'; omega) (fun q => by obtain ⟨rfl, _⟩ := q; dsimp only at hl'; omega), as_ne (fun q => by obtain ⟨rfl, _⟩ := q; dsimp only at hl'; omega)]
    · rw [if_neg (by rw [nI_z (by omega)]; exact h0), if_neg h0, k63]
      simp only [am_cb_i, am_cb_e, Option.toList_some, Option.toList_none, List.cons_append, List.nil_append, b47_39 hn (show x < 16 by omega)]
      exact clO.no h (cF.rf n M)
  · rw [if_pos (dF hx), if_neg hx, k63]
    simp only [am_cb_i, am_cb_e, Option.toList_some, Option.toList_none, List.cons_append, List.nil_append, b47_14 hn]
    exact clO.no h (cF.rf n M)
theorem l46a {z : Nat} (hn : n < 12) (hz : z < 10 ^ 8) : ∀ r k, k + r = nd 8 z → 1 ≤ k → am_rn (am_ev d) 46 18 [some (am_P (13, n, 0)), some (am_I (nI z)), some (am_I (nI k)), some (am_I (nI (10 ^ k))), none, none, none] [] M (am_Z w) = am_rn (am_ev d) 46 40 [some (am_P (13, n, 0)), some (am_I (nI z)), some (am_I (nI (nd 8 z))), some (am_I (nI (10 ^ nd 8 z))), none, none, none] [] M (am_Z w) := by
  have hz' : z < 100000000 := hz
  have h8 := nd_le (k := 8) (z := z)
  have hp : ∀ k, k ≤ 8 → 10 ^ k ≤ 100000000 := fun k hk => Nat.pow_le_pow_right (by decide) hk
  intro r
  induction r with
  | zero =>
    intro k hk h1
    obtain rfl : k = nd 8 z := by omega
    have hlt : z < 10 ^ nd 8 z := by
      have := nd_iff hz (nd 8 z)
      omega
    have := hp (nd 8 z) h8
    have e1 : nI z < nI (10 ^ nd 8 z) := by
      rw [nI_ltJ (by omega) (by omega)]
      exact hlt
    rw [b46_18 hn, if_pos e1]
    split <;> rfl
  | succ r ih =>
    intro k hk h1
    have hle := (nd_iff hz k).mp (by omega)
    have := hp k (by omega)
    rw [b46_18 hn, if_pos (nI_lt (by omega) (by omega)), if_neg (nI_nlt hle (by omega)), nI_add, pk_mul, ← Nat.pow_succ]
    exact ih (k + 1) (by omega) (by omega)
theorem l46b {z : Nat} {x3 : Int32} (hn : n < 12) (hz : z < 10 ^ 8) : ∀ r i (M : am_M) (x5 : Int32) (x6 : Option am_V), i + r = nd 8 z → x5 = nI (nd 8 z - i) - nI 1 → (∀ j, j < i → 1 ≤ dg z j ∧ dg z j ≤ 8) → (∀ k, nd 8 z - i ≤ k → k < nd 8 z → M (20, n, 0) k = nI (dg z (nd 8 z - 1 - k))) → ∃ M', am_rn (am_ev (d + 1)) 46 48 [some (am_P (13, n, 0)), some (am_I (nI z)), some (am_I (nI (nd 8 z))), some (am_I x3), some (am_I (nI (z / 10 ^ i))), some (am_I x5), x6] [] M (am_Z w) = some (.inl (some (am_I (if dgk z then nI (nd 8 z) else nI 0))), M', am_Z w) ∧ (dgk z → ∀ k, k < nd 8 z → M' (20, n, 0) k = nI (dg z (nd 8 z - 1 - k))) ∧ ∀ l j, l ≠ (20, n, 0) → M' l j = M l j := by
  have hz' : z < 100000000 := hz
  have h8 := nd_le (k := 8) (z := z)
  intro r
  induction r with
  | zero =>
    intro i M x5 x6 hi h5 hj hM
    obtain rfl : i = nd 8 z := by omega
    rw [Nat.sub_self] at h5
    subst h5
    rw [b46_48 hn, if_pos (by decide), if_pos (show dgk z from hj)]
    exact ⟨M, rfl, fun _ k hk => hM k (by omega) hk, fun _ _ _ => rfl⟩
  | succ r ih =>
    intro i M x5 x6 hi h5 hj hM
    have hl' : z / 10 ^ i < 100000000 := dv_lt (i := i) hz
    have hd := dg_lt z i
    rw [pk_sub (by omega)] at h5
    subst h5
    rw [b46_48 hn, if_neg (nI_pos (by omega)), pk_rem (by omega) (by decide) (by decide), show z / 10 ^ i % 10 = dg z i from rfl, k231x]
    simp only [am_cb_i, am_cb_e, Option.toList_some, Option.toList_none, List.cons_append, List.nil_append]
    rw [b46_65 hn]
    by_cases hb : 1 ≤ dg z i ∧ dg z i ≤ 8
    · have hb' : am_bt (nI (dg z i)) 1 8 := ⟨nI_nlt hb.1 (by omega), nI_nlt hb.2 (by omega)⟩
      rw [if_neg (dT hb'), if_pos (by rw [am_inT (by omega) (by omega)]; trivial), nI_clamp (by omega), pk_div (by omega) (by decide) (by decide), dg_next]
      obtain ⟨M', q1, q2, q3⟩ := ih (i + 1) (am_set M (20, n, 0) (nd 8 z - i - 1) (nI (dg z i))) (nI (nd 8 z - i - 1) + -1) (some (am_I (nI (dg z i)))) (by omega) (by rw [show nd 8 z - i - 1 = nd 8 z - (i + 1) by omega, Int32.sub_eq_add_neg]; rfl) (fun j hj' => by
        rcases Nat.lt_or_ge j i with q | q
        · exact hj j q
        · rw [show j = i by omega]; omega) (fun k hk1 hk2 => by
        by_cases hk : k = nd 8 z - i - 1
        · subst hk
          rw [as_eq, show nd 8 z - 1 - (nd 8 z - i - 1) = i by omega]
        · rw [as_j hk]
          exact hM k (by omega) hk2)
      exact ⟨M', q1, q2, fun l j hl => by rw [q3 l j hl, as_ne (fun q => hl q.1)]⟩
    · have hb' : ¬ am_bt (nI (dg z i)) 1 8 := fun q => by
        have q1 := q.1
        have q2 := q.2
        rw [nI_ltJ (by omega) (by omega)] at q1 q2
        exact hb ⟨by omega, by omega⟩
      rw [if_pos (dF hb'), if_neg (fun q : dgk z => hb (q i (by omega)))]
      exact ⟨M, rfl, fun q => absurd (q i (by omega)) hb, fun _ _ _ => rfl⟩
/-- the class spells x -/
theorem k46 {x : Int32} (hn : n < 12) : ∃ M', am_ev (d + 2) 46 [am_P (13, n, 0), am_I x] M (am_Z w) = some (.inl (some (am_I (if am_bt x 1 88888888 ∧ dgk (cN x) then nI (nd 8 (cN x)) else nI 0))), M', am_Z w) ∧ ((am_bt x 1 88888888 ∧ dgk (cN x)) → ∀ k, k < nd 8 (cN x) → M' (20, n, 0) k = nI (dg (cN x) (nd 8 (cN x) - 1 - k))) ∧ ∀ l j, l ≠ (20, n, 0) → M' l j = M l j := by
  rw [e46 hn]
  by_cases hx : am_bt x 1 88888888
  · rw [if_neg hx.1, if_neg hx.2]
    obtain ⟨z, h1, h2, rfl⟩ := bt_nI (by omega) (by omega) hx
    have hz : z < 10 ^ 8 := Nat.lt_of_le_of_lt h2 (by decide)
    have hn1 : 0 < nd 8 z := (nd_iff hz 0).mpr (by rw [Nat.pow_zero]; exact h1)
    rw [cN_nI (by omega)]
    have e1 := l46a (d := d + 1) (M := M) (w := w) hn hz (nd 8 z - 1) 1 (by omega) (by omega)
    rw [show (10 : Nat) ^ 1 = 10 from rfl] at e1
    rw [e1, b46_40 hn]
    obtain ⟨M', q1, q2, q3⟩ := l46b (d := d) (w := w) (x3 := nI (10 ^ nd 8 z)) hn hz (nd 8 z) 0 M (nI (nd 8 z) - nI 1) none (by omega) (by rw [Nat.sub_zero]) (fun j hj => by omega) (fun k h1 h2 => by omega)
    rw [Nat.pow_zero, Nat.div_one] at q1
    refine ⟨M', ?_, fun q => q2 q.2, q3⟩
    rw [q1]
    by_cases hk : dgk z
    · rw [if_pos hk, if_pos ⟨hx, hk⟩]
    · rw [if_neg hk, if_neg (fun q => hk q.2)]
  · refine ⟨M, ?_, fun q => absurd q.1 hx, fun _ _ _ => rfl⟩
    rw [if_neg (c := am_bt x 1 88888888 ∧ dgk (cN x)) (fun q => hx q.1)]
    by_cases h1 : x < nI 1
    · rw [if_pos h1]
    · rw [if_neg h1, if_pos (by
          rcases Decidable.em (nI 88888888 < x) with q | q
          · exact q
          · exact absurd ⟨h1, q⟩ hx)]
end Kc2
