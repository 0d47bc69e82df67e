/-! THE REFERENCE KEEPS A ROW; A COMMAND'S END -/
/-- a row more is kept, eight at most -/
def hpush (hs : List (Nat → Nat)) (b : Nat → Nat) : List (Nat → Nat) := (if hs.length = 8 then hs.drop 1 else hs) ++ [b]
theorem hpush_len {hs : List (Nat → Nat)} {b : Nat → Nat} (h : hs.length ≤ 8) : (hpush hs b).length = (if hs.length = 8 then 7 else hs.length) + 1 := by
  unfold hpush
  rw [List.length_append]
  split
  · rw [List.length_drop]; simp; omega
  · rfl
section Kke
variable {d B : Nat} {M M' : am_M} {a b : Nat → Nat} {w : am_W4} {hs : List (Nat → Nat)} {sv : Option (Nat → Nat)} {tx ln : List Int32} {R : Int32 × Int32 × Int32} {e : Int32}
def sh1 (M : am_M) (i : Nat) : am_M := fun l j => if l = (34, 0, 0) ∧ j < i then M (34, 0, 0) (364 + j) else M l j
def ct1 (M : am_M) (o i : Nat) : am_M := fun l j => if l = (34, 0, 0) ∧ o ≤ j ∧ j < o + i then M (32, 0, 0) (j - o) else M l j
theorem sh1_0 : sh1 M 0 = M := by funext l j; exact if_neg (fun q => by omega)
theorem ct1_0 {o : Nat} : ct1 M o 0 = M := by funext l j; exact if_neg (fun q => by omega)
theorem sh1_s {i : Nat} : am_set (sh1 M i) (34, 0, 0) i (sh1 M i (34, 0, 0) (364 + i)) = sh1 M (i + 1) := by
  funext l j
  unfold am_set sh1
  rw [if_neg (fun q : ((34, 0, 0) : am_L) = (34, 0, 0) ∧ 364 + i < i => by omega)]
  by_cases h : l = (34, 0, 0)
  · subst h
    by_cases hj : j = i
    · subst hj; rw [if_pos ⟨rfl, rfl⟩, if_pos ⟨rfl, by omega⟩]
    · rw [if_neg (fun q => hj q.2)]
      by_cases hi : j < i
      · rw [if_pos ⟨rfl, hi⟩, if_pos ⟨rfl, by omega⟩]
      · rw [if_neg (fun q => hi q.2), if_neg (fun q => hi (by have := q.2; omega))]
  · rw [if_neg (fun q => h q.1), if_neg (fun q => h q.1), if_neg (fun q => h q.1)]
theorem ct1_s {o i : Nat} : am_set (ct1 M o i) (34, 0, 0) (o + i) (ct1 M o i (32, 0, 0) i) = ct1 M o (i + 1) := by
  funext l j
  unfold am_set ct1
  rw [if_neg (fun q : ((32, 0, 0) : am_L) = (34, 0, 0) ∧ o ≤ i ∧ i < o + i => pl_t (by decide) q.1)]
  by_cases h : l = (34, 0, 0)
  · subst h
    by_cases hj : j = o + i
    · subst hj; rw [if_pos ⟨rfl, rfl⟩, if_pos ⟨rfl, by omega, by omega⟩, Nat.add_sub_cancel_left]
    · rw [if_neg (fun q => hj q.2)]
      by_cases hi : o ≤ j ∧ j < o + i
      · rw [if_pos ⟨rfl, hi⟩, if_pos ⟨rfl, hi.1, by omega⟩]
      · rw [if_neg (fun q => hi q.2), if_neg (fun q => hi (by have := q.2; omega))]
  · rw [if_neg (fun q => h q.1), if_neg (fun q => h q.1), if_neg (fun q => h q.1)]
theorem l121a {x : Int32} : ∀ r i, i + r = 2548 → am_rn (am_ev d) 121 11 [some (am_P (30, 0, 0)), some (am_I x), some (am_I (nI i))] [] (sh1 M i) (am_Z w) = am_rn (am_ev d) 121 50 [some (am_P (30, 0, 0)), some (am_I x), some (am_I (nI 2548))] [] (am_set (sh1 M 2548) (30, 0, 0) 4 (sh1 M 2548 (30, 0, 0) 4 - nI 1)) (am_Z w) := by
  intro r
  induction r with
  | zero =>
    intro i hi
    rw [b121_11, if_neg (nI_nlt (by omega) (by omega)), show i = 2548 by omega]
  | succ r ih =>
    intro i hi
    rw [b121_11, if_pos (nI_lt (by omega) (by omega)), nI_add, if_pos (by rw [am_inT (by omega) (by omega)]; trivial), if_pos (by rw [am_inT (by omega) (by omega)]; trivial), nI_clamp (by omega), nI_clamp (by omega), sh1_s, nI_add]
    exact ih (i + 1) (by omega)
theorem l121b {x : Int32} {k : Nat} (hk : k < 8) (h4 : M (30, 0, 0) 4 = nI k) : ∀ r i, i + r = 364 → am_rn (am_ev d) 121 52 [some (am_P (30, 0, 0)), some (am_I x), some (am_I (nI i))] [] (ct1 M (364 * k) i) (am_Z w) = some (.inl (some (am_I x)), am_set (ct1 M (364 * k) 364) (30, 0, 0) 4 (nI (k + 1)), am_Z w) := by
  have e4 : ∀ i, ct1 M (364 * k) i (30, 0, 0) 4 = nI k := fun i => (if_neg (fun q => pl_t (by decide) q.1)).trans h4
  intro r
  induction r with
  | zero =>
    intro i hi
    rw [b121_52, if_neg (nI_nlt (by omega) (by omega)), show i = 364 by omega, e4, nI_add]
  | succ r ih =>
    intro i hi
    rw [b121_52, if_pos (nI_lt (by omega) (by omega)), e4, pk_mul, nI_add, if_pos (by rw [am_inT (by omega) (by omega)]; trivial), if_pos (by rw [am_inT (by omega) (by omega)]; trivial), nI_clamp (by omega), nI_clamp (by omega), ct1_s, nI_add]
    exact ih (i + 1) (by omega)
theorem k121b {x : Int32} {h0 : List (Nat → Nat)} {x2 : Option am_V} (h : mlS a h0 sv tx R e ln M) (hT : mlT b M) (hl : h0.length < 8) : ∃ M', am_rn (am_ev d) 121 50 [some (am_P (30, 0, 0)), some (am_I x), x2] [] M (am_Z w) = some (.inl (some (am_I x)), M', am_Z w) ∧ mlS a (h0 ++ [b]) sv tx R e ln M' ∧ (M' (30, 0, 0) 20 = M (30, 0, 0) 20) ∧ mF M M' := by
  have e1 := l121b (d := d) (w := w) (x := x) hl h.2.1.1 364 0 (by omega)
  rw [ct1_0] at e1
  rw [b121_50, e1]
  have n34 : ∀ l j, l ≠ ((34, 0, 0) : am_L) → ct1 M (364 * h0.length) 364 l j = M l j := fun l j hl => if_neg (fun q => hl q.1)
  obtain ⟨h1, ⟨h2, h3, h4⟩, h5, h6, h7, h8, h9⟩ := h
  have ft : ∀ j, j ≠ 4 → am_set (ct1 M (364 * h0.length) 364) (30, 0, 0) 4 (nI (h0.length + 1)) (30, 0, 0) j = M (30, 0, 0) j := fun j hj => by rw [as_j hj, n34 _ _ (pl_t (by decide))]
  have fl : ∀ (l : am_L) j, l ≠ (30, 0, 0) → l ≠ (34, 0, 0) → am_set (ct1 M (364 * h0.length) 364) (30, 0, 0) 4 (nI (h0.length + 1)) l j = M l j := fun l j q1 q2 => by rw [as_ne (fun q => q1 q.1), n34 _ _ q2]
  refine ⟨_, rfl, ⟨fun j => by rw [fl _ _ (pl_t (by decide)) (pl_t (by decide))]; exact h1 j, ⟨by rw [as_eq, List.length_append]; rfl, by rw [List.length_append]; exact hl, fun i h hi j hj => ?_⟩, ⟨by rw [ft _ (by decide)]; exact h5.1, fun c hc j hj => by rw [fl _ _ (pl_t (by decide)) (pl_t (by decide))]; exact h5.2 c hc j hj⟩, ⟨by rw [ft _ (by decide)]; exact h6.1, fun i c hc => by rw [fl _ _ (pl_t (by decide)) (pl_t (by decide))]; exact h6.2 i c hc⟩, ⟨by rw [ft _ (by decide)]; exact h7.1, by rw [ft _ (by decide)]; exact h7.2.1, by rw [ft _ (by decide)]; exact h7.2.2⟩, by rw [ft _ (by decide)]; exact h8, ⟨by rw [ft _ (by decide)]; exact h9.1, fun i c hc => by rw [fl _ _ (pl_t (by decide)) (pl_t (by decide))]; exact h9.2 i c hc⟩⟩, ft 20 (by decide), fun l j hl => by
    obtain ⟨t, n, k⟩ := l
    dsimp only at hl
    rw [fl _ _ (pl_t (by omega)) (pl_t (by omega))]⟩
  rw [as_ne (fun q => pl_t (by decide) q.1)]
  rcases Nat.lt_or_ge i h0.length with hi' | hi'
  · rw [List.getElem?_append_left hi'] at hi
    unfold ct1
    rw [if_neg (fun q => by have := q.2.1; omega)]
    exact h4 i h hi j hj
  · rw [List.getElem?_append_right hi'] at hi
    have hi2 : i - h0.length = 0 := by
      rcases Nat.eq_zero_or_pos (i - h0.length) with z | z
      · exact z
      · rw [List.getElem?_eq_none (by rw [List.length_singleton]; omega)] at hi
        exact absurd hi (by simp)
    rw [hi2] at hi
    have : b = h := Option.some.inj hi
    subst this
    unfold ct1
    rw [show i = h0.length by omega, if_pos ⟨rfl, by omega, by omega⟩, Nat.add_sub_cancel_left]
    exact hT j hj
theorem k121 {x : Int32} (h : mlS a hs sv tx R e ln M) (hT : mlT b M) : ∃ M', am_ev (d + 1) 121 [am_P (30, 0, 0), am_I x] M (am_Z w) = some (.inl (some (am_I x)), M', am_Z w) ∧ mlS a (hpush hs b) sv tx R e ln M' ∧ (M' (30, 0, 0) 20 = M (30, 0, 0) 20) ∧ mF M M' := by
  have hl := h.2.1.2.1
  rw [e121, h.2.1.1]
  unfold hpush
  by_cases h8 : hs.length = 8
  · rw [if_pos (by rw [h8]), if_pos h8]
    have e1 := l121a (d := d) (w := w) (x := x) (M := M) 2548 0 (by omega)
    rw [sh1_0] at e1
    rw [e1]
    have s34 : ∀ l j, l ≠ ((34, 0, 0) : am_L) → sh1 M 2548 l j = M l j := fun l j hl => if_neg (fun q => hl q.1)
    have e4 : sh1 M 2548 (30, 0, 0) 4 - nI 1 = nI 7 := by rw [s34 _ _ (pl_t (by decide)), h.2.1.1, h8, pk_sub (by decide)]
    rw [e4]
    obtain ⟨h1, ⟨h2, h3, h4⟩, h5, h6, h7, h8', h9⟩ := h
    have ft : ∀ j, j ≠ 4 → am_set (sh1 M 2548) (30, 0, 0) 4 (nI 7) (30, 0, 0) j = M (30, 0, 0) j := fun j hj => by rw [as_j hj, s34 _ _ (pl_t (by decide))]
    have fl : ∀ (l : am_L) j, l ≠ (30, 0, 0) → l ≠ (34, 0, 0) → am_set (sh1 M 2548) (30, 0, 0) 4 (nI 7) l j = M l j := fun l j q1 q2 => by rw [as_ne (fun q => q1 q.1), s34 _ _ q2]
    have hS : mlS a (hs.drop 1) sv tx R e ln (am_set (sh1 M 2548) (30, 0, 0) 4 (nI 7)) := by
      refine ⟨fun j => by rw [fl _ _ (pl_t (by decide)) (pl_t (by decide))]; exact h1 j, ⟨by rw [as_eq, List.length_drop, h8], by rw [List.length_drop]; omega, fun i h hi j hj => ?_⟩, ⟨by rw [ft _ (by decide)]; exact h5.1, fun c hc j hj => by rw [fl _ _ (pl_t (by decide)) (pl_t (by decide))]; exact h5.2 c hc j hj⟩, ⟨by rw [ft _ (by decide)]; exact h6.1, fun i c hc => by rw [fl _ _ (pl_t (by decide)) (pl_t (by decide))]; exact h6.2 i c hc⟩, ⟨by rw [ft _ (by decide)]; exact h7.1, by rw [ft _ (by decide)]; exact h7.2.1, by rw [ft _ (by decide)]; exact h7.2.2⟩, by rw [ft _ (by decide)]; exact h8', ⟨by rw [ft _ (by decide)]; exact h9.1, fun i c hc => by rw [fl _ _ (pl_t (by decide)) (pl_t (by decide))]; exact h9.2 i c hc⟩⟩
      rw [List.getElem?_drop] at hi
      have hlt := (List.getElem?_eq_some_iff.mp hi).1
      rw [as_ne (fun q => pl_t (by decide) q.1)]
      unfold sh1
      rw [if_pos ⟨rfl, by omega⟩, show 364 + (364 * i + j) = 364 * (1 + i) + j by omega]
      exact h4 (1 + i) h hi j hj
    obtain ⟨M', k1, k2, k3, k4⟩ := k121b (d := d) (w := w) (x := x) (x2 := some (am_I (nI 2548))) hS (b := b) (fun j hj => by rw [fl _ _ (pl_t (by decide)) (pl_t (by decide))]; exact hT j hj) (by rw [List.length_drop]; omega)
    refine ⟨M', k1, k2, k3.trans (ft 20 (by decide)), fun l j hl => (k4 l j hl).trans ?_⟩
    obtain ⟨t, n, k⟩ := l
    dsimp only at hl
    rw [fl _ _ (pl_t (by omega)) (pl_t (by omega))]
  · rw [if_neg (by rw [nI_eqI (by omega) (by decide)]; exact h8), if_neg h8]
    exact k121b h hT (by omega)
theorem k115 {x : Int32} : am_ev (d + 1) 115 [am_P (30, 0, 0), am_I x] M (am_Z w) = some (.inl (some (am_I (nI 0))), am_set M (30, 0, 0) 20 x, am_Z w) := e115
/-- what a command of its own makes of the state -/
def mlO (a : Nat → Nat) (hs : List (Nat → Nat)) (sv : Option (Nat → Nat)) (tx : List Int32) (R : Int32 × Int32 × Int32) (e : Int32) (ln : List Int32) (M : am_M) (w : am_W4) (r : Option am_R) : Out → Prop
  | .inl (v, a') => ∃ M', r = some (.inl (some (am_I (nI v))), M', am_Z w) ∧ mlS a' (hpush hs a) sv tx R e ln M' ∧ M' (30, 0, 0) 20 = nI 0 ∧ mF M M'
  | .inr (q, x) => ∃ M', r = some (.inl (some (am_I (nI 0))), M', am_Z w) ∧ mlS a hs sv tx (nI q, x, nI 0) e ln M' ∧ M' (30, 0, 0) 20 = nI 1 ∧ mF M M'
/-- a refusal -/
theorem mlS.rf {q : Nat} {x : Int32} (h : mlS a hs sv tx R e ln M) : mlS a hs sv tx (nI q, x, M (30, 0, 0) 15) e ln (am_rf M q x) := by
  obtain ⟨h1, ⟨h2, h3, h4⟩, h5, h6, h7, h8, h9⟩ := h
  unfold am_rf
  have ft : ∀ j, j ≠ 16 → j ≠ 17 → j ≠ 18 → am_set (am_set (am_set M (30, 0, 0) 16 (nI q)) (30, 0, 0) 17 x) (30, 0, 0) 18 (M (30, 0, 0) 15) (30, 0, 0) j = M (30, 0, 0) j := fun j q1 q2 q3 => by rw [as_j q3, as_j q2, as_j q1]
  have fl : ∀ (l : am_L) j, l ≠ (30, 0, 0) → am_set (am_set (am_set M (30, 0, 0) 16 (nI q)) (30, 0, 0) 17 x) (30, 0, 0) 18 (M (30, 0, 0) 15) l j = M l j := fun l j q1 => by rw [as_ne (fun q => q1 q.1), as_ne (fun q => q1 q.1), as_ne (fun q => q1 q.1)]
  refine ⟨fun j => by rw [fl _ _ (pl_t (by decide))]; exact h1 j, ⟨by rw [ft _ (by decide) (by decide) (by decide)]; exact h2, h3, fun i h hi j hj => by rw [fl _ _ (pl_t (by decide))]; exact h4 i h hi j hj⟩, ⟨by rw [ft _ (by decide) (by decide) (by decide)]; exact h5.1, fun c hc j hj => by rw [fl _ _ (pl_t (by decide))]; exact h5.2 c hc j hj⟩, ⟨by rw [ft _ (by decide) (by decide) (by decide)]; exact h6.1, fun i c hc => by rw [fl _ _ (pl_t (by decide))]; exact h6.2 i c hc⟩, ⟨by rw [as_j (by decide), as_j (by decide), as_eq], by rw [as_j (by decide), as_eq], as_eq _ _ _ _⟩, by rw [ft _ (by decide) (by decide) (by decide)]; exact h8, ⟨by rw [ft _ (by decide) (by decide) (by decide)]; exact h9.1, fun i c hc => by rw [fl _ _ (pl_t (by decide))]; exact h9.2 i c hc⟩⟩
theorem mF.rfu {q : Nat} {x : Int32} (h : mF M M') : mF M (am_rf M' q x) := ((h.set (by decide)).set (by decide)).set (by decide)
theorem mF.pA (h : mF M M') : mF M (am_pA M' b) := fun l j hl => by
  rw [am_pA_ne (fun q => by subst q; dsimp only at hl; omega)]
  exact h l j hl
theorem mlS.pA (h : mlS a hs sv tx R e ln M) : mlS b hs sv tx R e ln (am_pA M b) := h.fr (fun j => am_pA_now _ _ j) (fun l j hr => am_pA_ne hr.ne.1)
/-- a command, then its end -/
theorem k124 {o : Out} {K K2 : Option am_V → am_M → am_X → Option am_R} {M0 : am_M} (hK : ∀ s M', K (some (am_I s)) M' (am_Z w) = am_cb (am_ev (d + 2) 124 [am_P (30, 0, 0), am_I s] M' (am_Z w)) K2) (hK2 : ∀ s M', K2 (some (am_I s)) M' (am_Z w) = some (.inl (some (am_I s)), M', am_Z w)) (h : mlS a hs sv tx R e ln M) (hT : mlT a M) (h15 : M (30, 0, 0) 15 = nI 0) (h20 : M (30, 0, 0) 20 = nI 0) (hF : mF M0 M) : mlO a hs sv tx R e ln M0 w (am_cb (am_mo M a w o) K) o := by
  rcases o with ⟨v, a'⟩ | ⟨q, x⟩
  · unfold am_mo
    have hS : mlS a' hs sv tx R e ln (am_pA (am_dn M v) a') := mlS.pA (h.out (l := (30, 0, 0)) (i := 19) (x := nI v) (by simp))
    obtain ⟨M', k1, k2, k3, k4⟩ := k121 (d := d) (w := w) (x := am_pA (am_dn M v) a' (30, 0, 0) 19) hS (b := a) (fun j hj => by rw [am_pA_ne (pl_t (by decide))]; exact hT j hj)
    refine ⟨M', ?_, k2, ?_, ?_⟩
    · rw [am_cb_i, hK]
      rw [e124, if_neg (nI_ne0 (by decide) (by decide)), k1]
      simp only [am_cb_i, am_cb_e, Option.toList_some, Option.toList_none, List.cons_append, List.nil_append, b124_12, b124_20]
      rw [hK2, am_pA_ne (pl_t (by decide))]
      unfold am_dn
      rw [as_eq]
    · rw [k3, am_pA_ne (pl_t (by decide))]
      unfold am_dn
      rw [as_j (by decide)]
      exact h20
    · exact (hF.set (j := 19) (x := nI v) (by decide)).pA.tr k4
  · unfold am_mo
    have hS : mlS a hs sv tx (nI q, x, M (30, 0, 0) 15) e ln (am_pA (am_rf M q x) a) := mlS.pA (b := a) (h.rf (q := q) (x := x))
    rw [h15] at hS
    refine ⟨am_set (am_pA (am_rf M q x) a) (30, 0, 0) 20 (nI 1), ?_, hS.out (by simp), as_eq _ _ _ _, (hF.rfu.pA).set (by decide)⟩
    rw [am_cb_i, hK]
    rw [e124, if_pos (show nI 0 = 0 from rfl), k115]
    simp only [am_cb_i, am_cb_e, Option.toList_some, Option.toList_none, List.cons_append, List.nil_append, b124_20]
    exact hK2 _ _
theorem k135 {x y z : Int32} (hok : ml_ok B a) (h : mlS a hs sv tx R e ln M) : mlO a hs sv tx R e ln M w (am_ev (d + 3 + 1) 135 [am_P (30, 0, 0), am_I x, am_I y, am_I z] M (am_Z w)) (o_sil a x y z) := by
  obtain ⟨M', k1, k2, k3, k4, k5, k6⟩ := k117 (d := d + 2) (w := w) h
  rw [e135, k1]
  simp only [am_cb_i, am_cb_e, Option.toList_some, Option.toList_none, List.cons_append, List.nil_append, b135_4]
  have ek := k134 (d := d) (M := M') (w := w) (a := a) (x := x) (y := y) (z := z) hok.1.1
  rw [am_pA_self k2.1] at ek
  rw [ek]
  exact k124 (d := d + 1) (fun s M'' => b135_12) (by exact fun s M'' => b135_15) k2 k3 k4 k5 k6
theorem k137 {x y : Int32} (hok : ml_ok B a) (h : mlS a hs sv tx R e ln M) : mlO a hs sv tx R e ln M w (am_ev (d + 3 + 1) 137 [am_P (30, 0, 0), am_I x, am_I y] M (am_Z w)) (o_win a x y) := by
  obtain ⟨M', k1, k2, k3, k4, k5, k6⟩ := k117 (d := d + 2) (w := w) h
  rw [e137, k1]
  simp only [am_cb_i, am_cb_e, Option.toList_some, Option.toList_none, List.cons_append, List.nil_append, b137_4]
  have ek := k136 (d := d) (M := M') (w := w) (a := a) (x := x) (y := y) hok.1.1
  rw [am_pA_self k2.1] at ek
  rw [ek]
  exact k124 (d := d + 1) (fun s M'' => b137_11) (by exact fun s M'' => b137_14) k2 k3 k4 k5 k6
theorem k139 {x y : Int32} (hok : ml_ok B a) (h : mlS a hs sv tx R e ln M) : mlO a hs sv tx R e ln M w (am_ev (d + 3 + 1) 139 [am_P (30, 0, 0), am_I x, am_I y] M (am_Z w)) (o_ear a x y) := by
  obtain ⟨M', k1, k2, k3, k4, k5, k6⟩ := k117 (d := d + 2) (w := w) h
  rw [e139, k1]
  simp only [am_cb_i, am_cb_e, Option.toList_some, Option.toList_none, List.cons_append, List.nil_append, b139_4]
  have ek := k138 (d := d) (M := M') (w := w) (a := a) (x := x) (y := y) hok.1.1
  rw [am_pA_self k2.1] at ek
  rw [ek]
  exact k124 (d := d + 1) (fun s M'' => b139_11) (by exact fun s M'' => b139_14) k2 k3 k4 k5 k6
theorem k141 {x y z : Int32} (hok : ml_ok B a) (hB : B < 1072000000) (h : mlS a hs sv tx R e ln M) : mlO a hs sv tx R e ln M w (am_ev (d + 3 + 1) 141 [am_P (30, 0, 0), am_I x, am_I y, am_I z] M (am_Z w)) (o_snd a x y z) := by
  obtain ⟨M', k1, k2, k3, k4, k5, k6⟩ := k117 (d := d + 2) (w := w) h
  rw [e141, k1]
  simp only [am_cb_i, am_cb_e, Option.toList_some, Option.toList_none, List.cons_append, List.nil_append, b141_4]
  have ek := k140 (d := d) (M := M') (w := w) (a := a) (x := x) (y := y) (z := z) hok.1 hB
  rw [am_pA_self k2.1] at ek
  rw [ek]
  exact k124 (d := d + 1) (fun s M'' => b141_12) (by exact fun s M'' => b141_15) k2 k3 k4 k5 k6
theorem k143 {x : Int32} (hok : ml_ok B a) (h : mlS a hs sv tx R e ln M) : mlO a hs sv tx R e ln M w (am_ev (d + 3 + 1) 143 [am_P (30, 0, 0), am_I x] M (am_Z w)) (o_drp a x) := by
  obtain ⟨M', k1, k2, k3, k4, k5, k6⟩ := k117 (d := d + 2) (w := w) h
  rw [e143, k1]
  simp only [am_cb_i, am_cb_e, Option.toList_some, Option.toList_none, List.cons_append, List.nil_append, b143_4]
  have ek := k142 (d := d) (M := M') (w := w) (a := a) (x := x) hok.1
  rw [am_pA_self k2.1] at ek
  rw [ek]
  exact k124 (d := d + 1) (fun s M'' => b143_10) (by exact fun s M'' => b143_13) k2 k3 k4 k5 k6
theorem k155 {x : Int32} (hok : ml_ok B a) (hB0 : 1000 ≤ B) (hB : B < 1070000000) (h : mlS a hs sv tx R e ln M) : mlO a hs sv tx R e ln M w (am_ev (d + 6 + 1) 155 [am_P (30, 0, 0), am_I x] M (am_Z w)) (o_pas a x) := by
  obtain ⟨M', k1, k2, k3, k4, k5, k6⟩ := k117 (d := d + 5) (w := w) h
  rw [e155, k1]
  simp only [am_cb_i, am_cb_e, Option.toList_some, Option.toList_none, List.cons_append, List.nil_append, b155_4]
  have ek := k154 (d := d) (M := M') (w := w) (a := a) (x := x) hB0 hB hok
  rw [am_pA_self k2.1] at ek
  rw [ek]
  exact k124 (d := d + 4) (fun s M'' => b155_10) (by exact fun s M'' => b155_13) k2 k3 k4 k5 k6
end Kke
