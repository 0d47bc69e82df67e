/-! THE CLASS'S COMMANDS -/
theorem nw.mem {n : Nat} {a : Nat → Nat} {M M' : am_M} {ar : List Nat} (h : nw n a M ar) (hf : ∀ (t k j : Nat), 13 ≤ t → t ≤ 25 → t ≠ 19 → t ≠ 20 → M' (t, n, k) j = M (t, n, k) j) : nw n a M' ar := by
  obtain ⟨⟨h1, h5⟩, q, hQ, hR, hl, hg⟩ := h
  refine ⟨⟨h1.mem (fun t k j hG => ?_), fun m hm => (hf 24 m 5 (by decide) (by decide) (by decide) (by decide)).trans (h5 m hm)⟩, q, fun c hc => ⟨(hf 21 c 6 (by decide) (by decide) (by decide) (by decide)).trans (hQ c hc).1, fun i x hx => (hf 22 c i (by decide) (by decide) (by decide) (by decide)).trans ((hQ c hc).2 i x hx)⟩, ⟨(hf 13 0 7 (by decide) (by decide) (by decide) (by decide)).trans hR.1, fun i x hx => (hf 18 0 i (by decide) (by decide) (by decide) (by decide)).trans (hR.2 i x hx)⟩, hl, hg⟩
  rcases hG.t with rfl | rfl | rfl | rfl | rfl | rfl <;> exact hf _ k j (by decide) (by decide) (by decide) (by decide)
/-- a number outside the lists' concerns is written on both sides -/
theorem nw.set {n t k j v : Nat} {a : Nat → Nat} {M : am_M} {ar : List Nat} (hS : nwS a) (h : nw n a M ar) (hE : nwG a t k j) (h4 : 4 ≤ nwI t k j) (h60 : nwI t k j < 60) (ht : t = 16 ∨ t = 21 ∨ t = 23) : nw n (nu a (nwI t k j) v) (am_set M (t, n, k) j (nI v)) ar := by
  obtain ⟨⟨h1, h5⟩, q, hQ, hR, hl, hg⟩ := h
  have hlo : ∀ i, i < 4 ∨ 60 ≤ i → nu a (nwI t k j) v i = a i := fun i hi => nu_ne (by omega)
  have hC : nwC a (nu a (nwI t k j) v) := ⟨hlo 1 (by omega), hlo 2 (by omega), fun m _ => hlo _ (by omega)⟩
  have hj : t = 21 → j < 6 := fun e => by subst e; exact hE.2
  refine ⟨⟨h1.set hS (nwC.rf a) hE hC, fun m hm => ?_⟩, q, fun c hc => ⟨?_, fun i x hx => ?_⟩, ⟨?_, fun i x hx => ?_⟩, ⟨fun c hc => ?_, ?_, fun m hm => ?_⟩, fun m hm => ?_⟩
  · rw [hC.2.1] at hm
    rw [as_t (by omega), h5 m hm]
    unfold nw_pl
    rw [hlo _ (by omega), hlo _ (by omega), hlo _ (by omega)]
  · rw [hC.1] at hc
    rw [as_ne (fun q => by
      obtain ⟨q1, q2⟩ := q
      have := (pl_e q1).1
      have := hj this.symm
      omega)]
    exact (hQ c hc).1
  · rw [hC.1] at hc
    rw [as_t (by omega)]
    exact (hQ c hc).2 i x hx
  · rw [as_t (by omega)]; exact hR.1
  · rw [as_t (by omega)]; exact hR.2 i x hx
  · rw [hC.1] at hc
    exact (hl.1 c hc).to hC.2.1 (fun m f _ _ => hlo _ (by omega))
  · refine ⟨hl.2.1.1.to (fun x _ => hlo _ (by omega)), fun m => ?_⟩
    rw [hl.2.1.2 m, hC.2.1, hlo (60 + 19 * m + 6) (by omega)]
  · rw [hC.2.1] at hm
    rw [hlo _ (by omega), hlo 3 (by omega)]
    exact hl.2.2 m hm
  · rw [hC.2.1] at hm
    rw [hlo _ (by omega)]
    exact hg m hm
/-- what a command at the network n leaves alone -/
def cF (n : Nat) (M M' : am_M) : Prop := ∀ (l : am_L) (j : Nat), (l.2.1 ≠ n ∨ l.1 < 13 ∨ 25 < l.1) → ¬ (l = (6, 0, 0) ∧ j < 2) → M' l j = M l j
theorem nw_fo.cF {n : Nat} {M M' : am_M} (h : nw_fo n M M') : cF n M M' := fun l j hl _ => h l j hl
theorem cF.tr {n : Nat} {M M' M'' : am_M} (h : cF n M M') (h' : cF n M' M'') : cF n M M'' := fun l j hl h6 => (h' l j hl h6).trans (h l j hl h6)
def clO (n : Nat) (M : am_M) (w : am_W4) (ar : List Nat) (a : Nat → Nat) (r : Option am_R) : Out → Prop
  | .inl (v, a') => ∃ M' ar', r = some (.inl (some (am_I (nI v))), M', am_Z w) ∧ nw n a' M' ar' ∧ nw_fo n M M'
  | .inr (q, x) => ∃ M', r = some (.inl (some (am_I (-1))), M', am_Z w) ∧ nw n a M' ar ∧ M' (6, 0, 0) 0 = nI q ∧ M' (6, 0, 0) 1 = x ∧ cF n M M'
section Kcc
variable {d n B : Nat} {M M0 : am_M} {a : Nat → Nat} {w : am_W4} {ar : List Nat}
def c6 (M : am_M) (q : Nat) (x : Int32) : am_M := am_set (am_set M (6, 0, 0) 0 (nI q)) (6, 0, 0) 1 x
theorem k63 {q : Nat} {x : Int32} : am_ev (d + 1) 63 [am_P (6, 0, 0), am_I (nI q), am_I x] M (am_Z w) = some (.inl (some (am_I (-1))), c6 M q x, am_Z w) := e63
theorem clO.no {q : Nat} {x : Int32} (h : nw n a M ar) (hF : cF n M0 M) : clO n M0 w ar a (some (.inl (some (am_I (-1))), c6 M q x, am_Z w)) (.inr (q, x)) := by
  refine ⟨_, rfl, h.mem (fun t k j h1 h2 _ _ => ?_), ?_, as_eq _ _ _ _, fun l j hl h6 => ?_⟩
  · unfold c6
    rw [as_t (by omega), as_t (by omega)]
  · unfold c6
    rw [as_j (by decide), as_eq]
  · unfold c6
    rw [as_ne (fun q => h6 ⟨q.1, by omega⟩), as_ne (fun q => h6 ⟨q.1, by omega⟩)]
    exact hF l j hl h6
theorem cF.rf (n : Nat) (M : am_M) : cF n M M := fun _ _ _ _ => rfl
theorem dU {p : Prop} [Decidable p] (h : ¬ p) : (decide p).toNat = 0 := by rw [decide_eq_false h]; rfl
theorem dV {p : Prop} [Decidable p] (h : p) : (decide p).toNat = 1 := by rw [decide_eq_true h]; rfl
theorem k35 {x : Int32} (hn : n < 12) (h : nwF n a M) (h1 : a 1 ≤ 6) : am_ev (d + 1) 35 [am_P (13, n, 0), am_I x] M (am_Z w) = some (.inl (some (am_I (nI (decide (am_in x (a 1))).toNat))), M, am_Z w) := by
  rw [e35 hn, h.cc]
  by_cases hx : x < 0
  · rw [if_pos hx, dU (fun q => (am_in_iff.mp q).1 hx)]
  · rw [if_neg hx]
    obtain ⟨j, hj, rfl⟩ := nI_of hx
    by_cases hl : j < a 1
    · rw [if_pos (nI_lt hl (by omega)), dV ((am_inP hj).mpr hl)]
    · rw [if_neg (nI_nlt (by omega) hj), dU (fun q => hl ((am_inP hj).mp q))]
theorem k36 {x : Int32} (hn : n < 12) (h : nwF n a M) (h1 : a 1 ≤ 6) : am_ev (d + 1) 36 [am_P (13, n, 0), am_I x] M (am_Z w) = some (.inl (some (am_I (nI (decide (am_in x (a 1 - 1))).toNat))), M, am_Z w) := by
  rw [e36 hn, h.cc]
  by_cases hx : x < 0
  · rw [if_pos hx, dU (fun q => (am_in_iff.mp q).1 hx)]
  · rw [if_neg hx]
    obtain ⟨j, hj, rfl⟩ := nI_of hx
    by_cases h0 : a 1 = 0
    · rw [if_neg (by
        rw [h0]
        intro q
        have := Int32.lt_iff_toInt_lt.mp q
        rw [nI_toInt hj, show (nI 0 - nI 1).toInt = -1 from rfl] at this
        omega), dU (fun q => by have := (am_inP hj).mp q; omega)]
    · rw [pk_sub (by omega)]
      by_cases hl : j < a 1 - 1
      · rw [if_pos (nI_lt hl (by omega)), dV ((am_inP hj).mpr hl)]
      · rw [if_neg (nI_nlt (by omega) hj), dU (fun q => hl ((am_inP hj).mp q))]
theorem k37 {x : Int32} (hn : n < 12) (h : nwF n a M) (h1 : a 2 ≤ 16) : am_ev (d + 1) 37 [am_P (13, n, 0), am_I x] M (am_Z w) = some (.inl (some (am_I (nI (decide (am_in x (a 2))).toNat))), M, am_Z w) := by
  rw [e37 hn, h.mc]
  by_cases hx : x < 0
  · rw [if_pos hx, dU (fun q => (am_in_iff.mp q).1 hx)]
  · rw [if_neg hx]
    obtain ⟨j, hj, rfl⟩ := nI_of hx
    by_cases hl : j < a 2
    · rw [if_pos (nI_lt hl (by omega)), dV ((am_inP hj).mpr hl)]
    · rw [if_neg (nI_nlt (by omega) hj), dU (fun q => hl ((am_inP hj).mp q))]
theorem k110 {x : Int32} : am_ev (d + 1) 110 [am_I x] M (am_Z w) = some (.inl (some (am_I (nI (decide (am_bt x 0 9)).toNat))), M, am_Z w) := by
  rw [e110]
  by_cases h1 : x < 0
  · rw [if_pos h1, dU (fun q => q.1 h1)]
  · rw [if_neg h1]
    by_cases h2 : nI 9 < x
    · rw [if_pos h2, dU (fun q => q.2 h2)]
    · rw [if_neg h2, dV ⟨h1, h2⟩]
theorem k111 {x : Int32} : am_ev (d + 1) 111 [am_I x] M (am_Z w) = some (.inl (some (am_I (nI (decide (am_bt x 0 23)).toNat))), M, am_Z w) := by
  rw [e111]
  by_cases h1 : x < 0
  · rw [if_pos h1, dU (fun q => q.1 h1)]
  · rw [if_neg h1]
    obtain ⟨j, hj, rfl⟩ := nI_of h1
    by_cases h2 : j < 24
    · rw [if_pos (nI_lt h2 (by omega)), dV ((bt_P hj (by omega) (by omega)).mpr (by omega))]
    · rw [if_neg (nI_nlt (by omega) hj), dU (fun q => h2 (by have := (bt_P hj (by omega) (by omega)).mp q; omega))]
theorem k42 {x y z : Int32} (hn : n < 12) (hok : ml_ok B a) (h : nw n a M ar) : clO n M w ar a (am_ev (d + 2) 42 [am_P (13, n, 0), am_I x, am_I y, am_I z, am_P (6, 0, 0)] M (am_Z w)) (o_sil a x y z) := by
  have h1 := hok.1.1
  rw [e42 hn, k35 hn h.1.1 h1]
  simp only [am_cb_i, am_cb_e, Option.toList_some, Option.toList_none, List.cons_append, List.nil_append, b42_5 hn]
  unfold o_sil
  by_cases hx : am_in x (a 1)
  · rw [if_neg (dT hx), if_pos hx, k111]
    obtain ⟨x, hx', hx2, rfl⟩ := in_nI hx
    simp only [am_cb_i, am_cb_e, Option.toList_some, Option.toList_none, List.cons_append, List.nil_append, b42_20 hn]
    by_cases hy : am_bt y 0 23
    · rw [if_neg (dT hy), k111]
      simp only [am_cb_i, am_cb_e, Option.toList_some, Option.toList_none, List.cons_append, List.nil_append, b42_27 hn]
      by_cases hz : am_bt z 0 23
      · obtain ⟨y, _, hy', rfl⟩ := bt_nI (by omega) (by omega) hy
        obtain ⟨z, _, hz', rfl⟩ := bt_nI (by omega) (by omega) hz
        rw [if_neg (dT hz), if_pos (c := am_bt (nI y) 0 23 ∧ am_bt (nI z) 0 23) ⟨hy, hz⟩, cN_nI hx2, cN_nI (by omega), cN_nI (by omega), hrs hy' hz', if_pos (by rw [am_inT (by omega) (by omega)]; trivial), if_pos (by rw [am_inT (by omega) (by omega)]; trivial), nI_clamp (by omega)]
        have hE1 : nwG a 21 x 2 := ⟨hx', by decide⟩
        have g1 := h.set hok.S (v := y) hE1 (by show 4 ≤ 12 + 6 * x + 2; omega) (by show 12 + 6 * x + 2 < 60; omega) (by omega)
        have hS2 : nwS (nu a (nwI 21 x 2) y) := by
          obtain ⟨s1, s2, s3⟩ := hok.S
          have e : ∀ i, i < 4 ∨ 60 ≤ i → nu a (nwI 21 x 2) y i = a i := fun i hi => nu_ne (by show i ≠ 12 + 6 * x + 2; omega)
          exact ⟨by rw [e 1 (by omega)]; exact s1, by rw [e 2 (by omega)]; exact s2, fun m hm => by rw [e _ (by omega)]; exact s3 m (by rw [e 2 (by omega)] at hm; exact hm)⟩
        have hE2 : nwG (nu a (nwI 21 x 2) y) 21 x 3 := ⟨by rw [nu_ne (by show 1 ≠ 12 + 6 * x + 2; omega)]; exact hx', by decide⟩
        have g2 := g1.set hS2 (v := z) hE2 (by show 4 ≤ 12 + 6 * x + 3; omega) (by show 12 + 6 * x + 3 < 60; omega) (by omega)
        exact ⟨_, _, rfl, g2, ((nw_fo.rf n M).set (by decide)).set (by decide)⟩
      · rw [if_pos (dF hz), b42_30 hn, k63, if_neg (fun q => hz q.2)]
        simp only [am_cb_i, am_cb_e, Option.toList_some, Option.toList_none, List.cons_append, List.nil_append, b42_37 hn]
        exact clO.no h (cF.rf n M)
    · rw [if_pos (dF hy), b42_30 hn, k63, if_neg (fun q => hy q.1)]
      simp only [am_cb_i, am_cb_e, Option.toList_some, Option.toList_none, List.cons_append, List.nil_append, b42_37 hn]
      exact clO.no h (cF.rf n M)
  · rw [if_pos (dF hx), if_neg hx, k63]
    simp only [am_cb_i, am_cb_e, Option.toList_some, Option.toList_none, List.cons_append, List.nil_append, b42_15 hn]
    exact clO.no h (cF.rf n M)
theorem k43 {x y : Int32} (hn : n < 12) (hok : ml_ok B a) (h : nw n a M ar) : clO n M w ar a (am_ev (d + 2) 43 [am_P (13, n, 0), am_I x, am_I y, am_P (6, 0, 0)] M (am_Z w)) (o_win a x y) := by
  have h1 := hok.1.1
  rw [e43 hn, k36 hn h.1.1 h1]
  simp only [am_cb_i, am_cb_e, Option.toList_some, Option.toList_none, List.cons_append, List.nil_append, b43_5 hn]
  unfold o_win
  by_cases hx : am_in x (a 1 - 1)
  · rw [if_neg (dT hx), if_pos hx, k110]
    obtain ⟨x, hx', hx2, rfl⟩ := in_nI hx
    simp only [am_cb_i, am_cb_e, Option.toList_some, Option.toList_none, List.cons_append, List.nil_append, b43_19 hn]
    by_cases hy : am_bt y 0 9
    · obtain ⟨y, _, hy', rfl⟩ := bt_nI (by omega) (by omega) hy
      rw [if_neg (dT hy), if_pos hy, cN_nI hx2, cN_nI (by omega), if_pos (by rw [am_inT (by omega) (by omega)]; trivial), if_pos (by rw [am_inT (by omega) (by omega)]; trivial), nI_clamp (by omega), h.1.1.rw (by omega)]
      have hE1 : nwG a 23 x 1 := ⟨by omega, by decide⟩
      exact ⟨_, _, rfl, h.set hok.S (v := y) hE1 (by show 4 ≤ 48 + 2 * x + 1; omega) (by show 48 + 2 * x + 1 < 60; omega) (by omega), (nw_fo.rf n M).set (by decide)⟩
    · rw [if_pos (dF hy), if_neg hy, k63]
      simp only [am_cb_i, am_cb_e, Option.toList_some, Option.toList_none, List.cons_append, List.nil_append, b43_28 hn]
      exact clO.no h (cF.rf n M)
  · rw [if_pos (dF hx), if_neg hx, k63]
    simp only [am_cb_i, am_cb_e, Option.toList_some, Option.toList_none, List.cons_append, List.nil_append, b43_14 hn]
    exact clO.no h (cF.rf n M)
theorem k44 {x y : Int32} (hn : n < 12) (hok : ml_ok B a) (h : nw n a M ar) : clO n M w ar a (am_ev (d + 2) 44 [am_P (13, n, 0), am_I x, am_I y, am_P (6, 0, 0)] M (am_Z w)) (o_ear a x y) := by
  have h1 := hok.1.1
  rw [e44 hn, k35 hn h.1.1 h1]
  simp only [am_cb_i, am_cb_e, Option.toList_some, Option.toList_none, List.cons_append, List.nil_append, b44_5 hn]
  unfold o_ear
  by_cases hx : am_in x (a 1)
  · rw [if_neg (dT hx), if_pos hx, k110]
    obtain ⟨x, hx', hx2, rfl⟩ := in_nI hx
    simp only [am_cb_i, am_cb_e, Option.toList_some, Option.toList_none, List.cons_append, List.nil_append, b44_19 hn]
    by_cases hy : am_bt y 0 9
    · obtain ⟨y, _, hy', rfl⟩ := bt_nI (by omega) (by omega) hy
      rw [if_neg (dT hy), if_pos hy, cN_nI hx2, cN_nI (by omega), if_pos (by rw [am_inT (by omega) (by omega)]; trivial), if_pos (by rw [am_inT (by omega) (by omega)]; trivial), nI_clamp (by omega), h.1.1.cv hx' (by decide)]
      have hE1 : nwG a 21 x 1 := ⟨by omega, by decide⟩
      exact ⟨_, _, rfl, h.set hok.S (v := y) hE1 (by show 4 ≤ 12 + 6 * x + 1; omega) (by show 12 + 6 * x + 1 < 60; omega) (by omega), (nw_fo.rf n M).set (by decide)⟩
    · rw [if_pos (dF hy), if_neg hy, k63]
      simp only [am_cb_i, am_cb_e, Option.toList_some, Option.toList_none, List.cons_append, List.nil_append, b44_28 hn]
      exact clO.no h (cF.rf n M)
  · rw [if_pos (dF hx), if_neg hx, k63]
    simp only [am_cb_i, am_cb_e, Option.toList_some, Option.toList_none, List.cons_append, List.nil_append, b44_14 hn]
    exact clO.no h (cF.rf n M)
theorem l41 {x y : Nat} (hn : n < 12) (hb : ml_b B a) (h : nwF n a M) (hx : x ≤ 8) (hy : y ≤ 150) : ∀ r k, 1 ≤ k → k + r = 9 → am_rn (am_ev d) 41 29 [some (am_P (13, n, 0)), some (am_I (nI x)), some (am_I (nI y)), some (am_P (6, 0, 0)), some (am_I (nI k))] [] M (am_Z w) = match nf (pf a x y) r k with | some i => am_rn (am_ev d) 41 29 [some (am_P (13, n, 0)), some (am_I (nI x)), some (am_I (nI y)), some (am_P (6, 0, 0)), some (am_I (nI i))] [] M (am_Z w) | none => am_rn (am_ev d) 41 29 [some (am_P (13, n, 0)), some (am_I (nI x)), some (am_I (nI y)), some (am_P (6, 0, 0)), some (am_I (nI 9))] [] M (am_Z w) := by
  intro r
  induction r with
  | zero =>
    intro k _ hk
    rw [show k = 9 by omega]
    rfl
  | succ r ih =>
    intro k h1 hk
    unfold nf
    have h6 := hb.2.2.2.2.2.1 (3 + k) (by omega) (by omega)
    by_cases hP : pf a x y k = true
    · rw [if_pos hP]
    · rw [if_neg hP, ← ih (k + 1) (by omega) (by omega), b41_29 hn, if_neg (nI_nlt (by omega) (by omega))]
      by_cases hkx : k = x
      · rw [if_pos (by rw [hkx]), b41_62 hn, nI_add]
      · rw [if_neg (by rw [nI_eqI (by omega) (by omega)]; exact hkx), if_pos (by rw [am_inT (by omega) (by omega)]; trivial), nI_clamp (by omega), h.ps h1 (by omega), if_neg (by
          rw [nI_eqI (by omega) (by omega)]
          exact fun q => hP (decide_eq_true ⟨hkx, q⟩)), b41_62 hn, nI_add]
theorem k41 {x y : Int32} (hn : n < 12) (hok : ml_ok B a) (h : nw n a M ar) : clO n M w ar a (am_ev (d + 2) 41 [am_P (13, n, 0), am_I x, am_I y, am_P (6, 0, 0)] M (am_Z w)) (o_psl a x y) := by
  rw [e41 hn, k231x]
  simp only [am_cb_i, am_cb_e, Option.toList_some, Option.toList_none, List.cons_append, List.nil_append]
  rw [b41_4 hn]
  have hno : ∀ x y : Int32, clO n M w ar a (am_rn (am_ev (d + 1)) 41 19 [some (am_P (13, n, 0)), some (am_I x), some (am_I y), some (am_P (6, 0, 0)), none] [] M (am_Z w)) (.inr (1, nI 0)) := by
    intro x y
    rw [b41_19 hn, k63]
    simp only [am_cb_i, am_cb_e, Option.toList_some, Option.toList_none, List.cons_append, List.nil_append, b41_25 hn]
    exact clO.no h (cF.rf n M)
  unfold o_psl
  by_cases hx : am_bt x 1 8
  · rw [if_neg (dT hx), if_pos hx]
    by_cases hy : am_bt y 1 150
    · rw [if_neg hy.1, if_neg hy.2, if_pos hy]
      obtain ⟨x, hx1, hx8, rfl⟩ := bt_nI (by omega) (by omega) hx
      obtain ⟨y, hy1, hy8, rfl⟩ := bt_nI (by omega) (by omega) hy
      rw [cN_nI (by omega), cN_nI (by omega), l41 hn hok.1 h.1.1 hx8 hy8 8 1 (by omega) (by omega)]
      cases hf : nf (pf a x y) 8 1 with
      | none =>
        dsimp only
        rw [b41_29 hn, if_pos (nI_lt (by omega) (by omega)), if_pos (by rw [am_inT (by omega) (by omega)]; trivial), if_pos (by rw [am_inT (by omega) (by omega)]; trivial), nI_clamp (by omega), h.1.1.ps hx1 hx8]
        have hE1 : nwG a 16 0 x := ⟨rfl, hx1, hx8⟩
        exact ⟨_, _, rfl, h.set hok.S (v := y) hE1 (by show 4 ≤ 3 + x; omega) (by show 3 + x < 60; omega) (by omega), (nw_fo.rf n M).set (by decide)⟩
      | some i =>
        obtain ⟨i1, i2, i3⟩ := nf_some hf
        have i4 : i ≠ x ∧ a (3 + i) = y := of_decide_eq_true i3
        have h6 := hok.1.2.2.2.2.2.1 (3 + i) (by omega) (by omega)
        dsimp only
        rw [b41_29 hn, if_neg (nI_nlt (by omega) (by omega)), if_neg (by rw [nI_eqI (by omega) (by omega)]; exact i4.1), if_pos (by rw [am_inT (by omega) (by omega)]; trivial), nI_clamp (by omega), h.1.1.ps i1 (by omega), if_pos (by rw [i4.2]), k63]
        simp only [am_cb_i, am_cb_e, Option.toList_some, Option.toList_none, List.cons_append, List.nil_append, b41_61 hn]
        exact clO.no h (cF.rf n M)
    · rw [if_neg hy]
      by_cases h1 : y < nI 1
      · rw [if_pos h1]; exact hno _ _
      · rw [if_neg h1, if_pos (by
          rcases Decidable.em (nI 150 < y) with q | q
          · exact q
          · exact absurd ⟨h1, q⟩ hy)]
        exact hno _ _
  · rw [if_pos (dF hx), if_neg hx]
    exact hno _ _
theorem l48 {x : Nat} {s : Int32} {p0 : Nat} (hn : n < 12) (hB0 : 1000 ≤ B) (hB : B < 1070000000) (hok : ml_ok B a) (hx : x ≤ 96) (hp : ar.length = p0) (hs : s = nI p0) : ∀ r k (M : am_M) (ar' : List Nat), k + r = x → nw n (ml_ps a k).1 M ar' → ar'.length = p0 + (ml_ps a k).2 → ∃ M' ar'', am_rn (am_ev (d + 5)) 48 26 [some (am_P (13, n, 0)), some (am_I (nI x)), some (am_P (6, 0, 0)), some (am_I s), some (am_I (nI k))] [] M (am_Z w) = some (.inl (some (am_I (nI (ml_ps a x).2))), M', am_Z w) ∧ nw n (ml_ps a x).1 M' ar'' ∧ nw_fo n M M' := by
  intro r
  induction r with
  | zero =>
    intro k M ar' hk hnw hl
    obtain rfl : k = x := by omega
    have hR := hnw.2.choose_spec.2.1.1
    rw [b48_26 hn, if_neg (nI_nlt (by omega) (by omega)), hR, hl, hs, pk_sub (by omega), Nat.add_sub_cancel_left]
    exact ⟨M, ar', rfl, hnw, nw_fo.rf n M⟩
  | succ r ih =>
    intro k M ar' hk hnw hl
    obtain ⟨M1, ar1, e1, g1, g2, g3⟩ := k49 (d := d) (w := w) hn (B := B + 200 * k) (by omega) (by omega) (ml_ps_ok hB0 hok k) hnw
    rw [b48_26 hn, if_pos (nI_lt (by omega) (by omega)), e1]
    simp only [am_cb_i, am_cb_e, Option.toList_some, Option.toList_none, List.cons_append, List.nil_append, b48_36 hn, nI_add]
    obtain ⟨M', ar'', q1, q2, q3⟩ := ih (k + 1) M1 ar1 (by omega) g1 (by rw [g3, hl]; show _ = p0 + ((ml_ps a k).2 + ml_arr (ml_ps a k).1); omega)
    exact ⟨M', ar'', q1, q2, g2.tr q3⟩
theorem k48 {x : Int32} (hn : n < 12) (hB0 : 1000 ≤ B) (hB : B < 1070000000) (hok : ml_ok B a) (h : nw n a M ar) : clO n M w ar a (am_ev (d + 6) 48 [am_P (13, n, 0), am_I x, am_P (6, 0, 0)] M (am_Z w)) (o_pas a x) := by
  rw [e48 hn]
  have hno : ∀ x : Int32, clO n M w ar a (am_rn (am_ev (d + 5)) 48 11 [some (am_P (13, n, 0)), some (am_I x), some (am_P (6, 0, 0)), none, none] [] M (am_Z w)) (.inr (1, nI 0)) := by
    intro x
    rw [b48_11 hn, k63]
    simp only [am_cb_i, am_cb_e, Option.toList_some, Option.toList_none, List.cons_append, List.nil_append, b48_17 hn]
    exact clO.no h (cF.rf n M)
  unfold o_pas
  by_cases hx : am_bt x 1 96
  · rw [if_neg hx.1, if_neg hx.2, if_pos hx]
    obtain ⟨x, hx1, hx8, rfl⟩ := bt_nI (by omega) (by omega) hx
    rw [cN_nI (by omega)]
    obtain ⟨M', ar'', q1, q2, q3⟩ := l48 (d := d) (w := w) (x := x) (s := M (13, n, 0) 7) (p0 := ar.length) hn hB0 hB hok hx8 rfl h.2.choose_spec.2.1.1 x 0 M ar (by omega) h rfl
    exact ⟨M', ar'', q1, q2, q3⟩
  · rw [if_neg hx]
    by_cases h1 : x < nI 1
    · rw [if_pos h1]; exact hno _
    · rw [if_neg h1, if_pos (by
          rcases Decidable.em (nI 96 < x) with q | q
          · exact q
          · exact absurd ⟨h1, q⟩ hx)]
      exact hno _
end Kcc
