/-! A WHOLE TEXT CARRIED OUT: THE CLASS -/
/-- the commands one after the other, up to the first refusal -/
def exl : (Nat → Nat) → Nat → List Cm → (Nat → Nat) ⊕ (Nat × Int32 × Nat)
  | a, _, [] => .inl a
  | a, i, (k, x, y, z) :: r => match oC a k (nI x) (nI y) (nI z) with
    | .inl (_, a') => exl a' (i + 1) r
    | .inr (q, u) => .inr (q, u, i)
/-- the rows on the way are sound -/
def exk : Nat → (Nat → Nat) → List Cm → Prop
  | B, a, [] => ml_ok B a
  | B, a, (k, x, y, z) :: r => (k ≤ 7 ∧ ml_ok B a) ∧ match oC a k (nI x) (nI y) (nI z) with
    | .inl (v, a') => v < 2147483648 ∧ exk (B + 20000) a' r
    | .inr _ => True
theorem exk_of : ∀ (l : List Cm) (B : Nat) (a : Nat → Nat) (M : am_M) (ar : List Nat), nw 0 a M ar → ml_ok B a → 1000 ≤ B → B + 20000 * l.length < 1070000000 → (∀ k v, (k, v) ∈ l → k ≤ 7) → exk B a l := by
  intro l
  induction l with
  | nil => intro B a M ar _ h _ _ _; exact h
  | cons c l ih =>
    intro B a M ar h hok h1 h2 hk
    obtain ⟨k, x, y, z⟩ := c
    have hk7 := hk k (x, y, z) (List.mem_cons_self)
    rw [List.length_cons] at h2
    refine ⟨⟨hk7, hok⟩, ?_⟩
    have e1 : nw 0 a (am_set (am_set (am_set (am_set M (7, 0, 0) 3 (nI z)) (7, 0, 0) 2 (nI y)) (7, 0, 0) 1 (nI x)) (7, 0, 0) 0 (nI k)) ar := h.mem (fun t k j _ _ _ _ => by rw [as_t (by omega), as_t (by omega), as_t (by omega), as_t (by omega)])
    have ho := k39 (d := 0) (w := (0, 0, none, none)) ck7 (by decide) h1 (by omega) hok e1 hk7 (as_eq _ _ _ _)
    rw [as_j (by decide), as_eq, as_j (by decide), as_j (by decide), as_eq, as_j (by decide), as_j (by decide), as_j (by decide), as_eq] at ho
    have hv := okO_C (k := k) (x := nI x) (y := nI y) (z := nI z) h1 hok h.2.choose_spec.2.2.2
    generalize oC a k (nI x) (nI y) (nI z) = o at ho hv ⊢
    rcases o with ⟨v, a'⟩ | ⟨q, u⟩
    · obtain ⟨M2, ar', _, u2, _⟩ := ho
      exact ⟨hv.1, ih (B + 20000) a' M2 ar' u2 hv.2 (by omega) (by omega) (fun k v hm => hk k v (List.mem_cons_of_mem _ hm))⟩
    · trivial
theorem exk.z {B : Nat} {a : Nat → Nat} {l : List Cm} (h : exk B a l) : ml_ok B a := by
  cases l with
  | nil => exact h
  | cons c l => exact h.1.2
section Kct
variable {d B : Nat} {M M' M0 : am_M} {a b : Nat → Nat} {w : am_W4} {hs : List (Nat → Nat)} {sv : Option (Nat → Nat)} {tx ln : List Int32} {R : Int32 × Int32 × Int32} {e : Int32}
/-- the loop of the class over the records -/
def xlO (M : am_M) (w : am_W4) (n d : Nat) (r : Option am_R) : (Nat → Nat) ⊕ (Nat × Int32 × Nat) → Prop
  | .inl a' => ∃ M' ar', r = am_rn (am_ev (d + 7)) 99 51 [some (am_P (3, 0, 0)), some (am_I (nI n))] [] M' (am_Z w) ∧ nw 0 a' M' ar' ∧ nw_fo 0 M M'
  | .inr (q, u, i) => ∃ M', r = am_rn (am_ev (d + 7)) 99 82 [some (am_P (3, 0, 0)), some (am_I (nI i))] [am_I (-1)] M' (am_Z w) ∧ M' (6, 0, 0) 0 = nI q ∧ M' (6, 0, 0) 1 = u ∧ cF 0 M M'
theorem xlO.pre {n : Nat} {r : Option am_R} {o : (Nat → Nat) ⊕ (Nat × Int32 × Nat)} (hF : nw_fo 0 M M') (h : xlO M' w n d r o) : xlO M w n d r o := by
  rcases o with a' | ⟨q, u, i⟩
  · obtain ⟨M2, ar', h1, h2, h3⟩ := h
    exact ⟨M2, ar', h1, h2, fun l j hl => (h3 l j hl).trans (hF l j hl)⟩
  · obtain ⟨M2, h1, h2, h3, h4⟩ := h
    exact ⟨M2, h1, h2, h3, hF.cF.tr h4⟩
theorem l99 {n : Nat} (hn : n ≤ 20) : ∀ (r : List Cm) (i B : Nat) (a : Nat → Nat) (M : am_M) (ar : List Nat), i + r.length = n → nw 0 a M ar → 1000 ≤ B → B + 20000 * r.length < 1070000000 → exk B a r → M (8, 0, 0) 3 = nI n → (∀ j k x y z, r[j]? = some (k, x, y, z) → M (11, 0, i + j) 0 = nI k ∧ M (11, 0, i + j) 1 = nI x ∧ M (11, 0, i + j) 2 = nI y ∧ M (11, 0, i + j) 3 = nI z) → xlO M w n d (am_rn (am_ev (d + 7)) 99 51 [some (am_P (3, 0, 0)), some (am_I (nI i))] [] M (am_Z w)) (exl a i r) := by
  intro r
  induction r with
  | nil =>
    intro i B a M ar hi h _ _ _ _ _
    exact ⟨M, ar, by rw [show i = n from hi], h, fun _ _ _ => rfl⟩
  | cons c r ih =>
    intro i B a M ar hi h h1 h2 hk h3 hr
    obtain ⟨k, x, y, z⟩ := c
    rw [List.length_cons] at hi h2
    obtain ⟨g0, g1, g2, g3⟩ := hr 0 k x y z rfl
    rw [Nat.add_zero] at g0 g1 g2 g3
    have ho := k39 (d := d) (w := w) (l := (11, 0, i)) (ck11 (by omega)) (by decide) h1 (by omega) hk.1.2 h hk.1.1 g0
    rw [g1, g2, g3] at ho
    have hx := hk.2
    unfold exl
    rw [b99_51, h3, if_pos (nI_lt (by omega) (by omega)), if_pos (by rw [am_inT (by omega) (by omega)]; trivial), nI_clamp (by omega)]
    generalize oC a k (nI x) (nI y) (nI z) = o at ho hx ⊢
    rcases o with ⟨v, a'⟩ | ⟨q, u⟩
    · obtain ⟨M2, ar', u1, u2, u3⟩ := ho
      rw [u1]
      simp only [am_cb_i, am_cb_e, Option.toList_some, Option.toList_none, List.cons_append, List.nil_append]
      rw [b99_82, if_neg (nI_nm1 hx.1), nI_add]
      have fr : ∀ l j, l.1 < 13 → M2 l j = M l j := fun l j hl => u3 l j (Or.inr (Or.inl hl))
      exact (ih (i + 1) (B + 20000) a' M2 ar' (by omega) u2 (by omega) (by omega) hx.2 ((fr _ _ (by decide)).trans h3) (fun j k x y z hj => by
        have := hr (j + 1) k x y z hj
        rw [show i + 1 + j = i + (j + 1) by omega, fr _ _ (by show (11 : Nat) < 13; decide), fr _ _ (by show (11 : Nat) < 13; decide), fr _ _ (by show (11 : Nat) < 13; decide), fr _ _ (by show (11 : Nat) < 13; decide)]
        exact this)).pre u3
    · obtain ⟨M2, u1, u2, u3, u4, u5⟩ := ho
      rw [u1]
      simp only [am_cb_i, am_cb_e, Option.toList_some, Option.toList_none, List.cons_append, List.nil_append]
      exact ⟨M2, rfl, u3, u4, u5⟩
theorem pcmd_k {p k : Nat} {v : Nat × Nat × Nat} (h : (pcmd tx p).2 = some (k, v)) : k ≤ 7 := by
  unfold pcmd at h
  cases hc : cn tx p with
  | none => rw [hc] at h; exact absurd h (by simp)
  | some n =>
    rw [hc] at h
    dsimp only at h
    split at h
    · rw [p1_k h]; decide
    split at h
    · rw [p2_k h]; decide
    split at h
    · rw [p1_k h]; decide
    split at h
    · rw [p3_k h]; decide
    split at h
    · rw [p4_k h]; decide
    split at h
    · rw [p2_k h]; decide
    · exact absurd h (by simp)
/-- the place is in the text, the kinds are kinds -/
theorem plst_ok : ∀ f (c : Pc) (l : List Cm), c.1 ≤ tx.length → (∀ k v, c.2 = some (k, v) → k ≤ 7) → (∀ k v, (k, v) ∈ l → k ≤ 7) → (plst tx f c l).1 ≤ tx.length ∧ ∀ ls, (plst tx f c l).2 = some ls → ∀ k v, (k, v) ∈ ls → k ≤ 7 := by
  intro f
  induction f with
  | zero => intro c l h1 _ _; exact ⟨h1, fun ls q => absurd q (by simp [plst])⟩
  | succ f ih =>
    intro c l h1 h2 h3
    obtain ⟨p, o⟩ := c
    cases o with
    | none => exact ⟨h1, fun ls q => absurd q (by simp [plst])⟩
    | some u =>
      have h4 : ∀ k v, (k, v) ∈ l ++ [u] → k ≤ 7 := fun k v hm => by
        rcases List.mem_append.mp hm with g | g
        · exact h3 k v g
        · exact h2 k v (by rw [List.mem_singleton.mp g])
      unfold plst
      dsimp only
      by_cases hp : p < tx.length
      · rw [if_pos hp]
        by_cases hc : cn tx p = some 59
        · rw [if_pos hc]
          exact ih _ _ (pcmd_adv (by omega)).1 (fun k v q => pcmd_k q) h4
        · rw [if_neg hc]
          exact ⟨h1, fun ls q => absurd q (by simp)⟩
      · rw [if_neg hp]
        refine ⟨h1, fun ls q => ?_⟩
        have : l ++ [u] = ls := Option.some.inj q
        subst this
        exact h4
theorem ptx_ok : (ptx tx).1 ≤ tx.length ∧ ∀ ls, (ptx tx).2 = some ls → ∀ k v, (k, v) ∈ ls → k ≤ 7 := plst_ok 22 (pcmd tx 0) [] (pcmd_adv (Nat.zero_le _)).1 (fun k v q => pcmd_k q) (fun k v q => absurd q (by simp))
/-- what a text does to a row -/
def tO (a : Nat → Nat) (tx : List Int32) : Nat ⊕ (((Nat → Nat) × Nat) ⊕ (Nat × Int32 × Nat)) := match (ptx tx).2 with
  | none => .inl (ptx tx).1
  | some ls => match exl a 0 ls with
    | .inl a' => .inr (.inl (a', ls.length))
    | .inr z => .inr (.inr z)
def txC (a : Nat → Nat) (hs : List (Nat → Nat)) (sv : Option (Nat → Nat)) (R : Int32 × Int32 × Int32) (ln : List Int32) (M : am_M) (w : am_W4) (r : Option am_R) : Nat ⊕ (((Nat → Nat) × Nat) ⊕ (Nat × Int32 × Nat)) → Prop
  | .inl p => ∃ M', r = some (.inr 2, M', am_Z (am_bw w)) ∧ clS a hs sv [] R (nI p) ln M' ∧ clF M M'
  | .inr (.inl (a', n)) => ∃ M', r = some (.inl (some (am_I (nI n))), M', am_Z w) ∧ clS a' (hpush hs a) sv [] R (-1) ln M' ∧ clF M M'
  | .inr (.inr (q, u, i)) => ∃ M', r = some (.inr 0, M', am_Z (am_bw w)) ∧ clS a hs sv [] (nI q, u, nI i) (-1) ln M' ∧ clF M M'
theorem clS.fr {R' : Int32 × Int32 × Int32} {e' : Int32} {tx' ln' : List Int32} (h : clS a hs sv tx R e ln M) (hN : ∀ t n k j, 13 ≤ t → t ≤ 25 → M' (t, n, k) j = M (t, n, k) j) (h4 : ∀ j, M' (4, 0, 0) j = M (4, 0, 0) j) (h3 : M' (3, 0, 0) 3 = M (3, 0, 0) 3) (hT : clT tx' e' ln' M') (hR : clR R' M') : clS a hs sv tx' R' e' ln' M' := by
  obtain ⟨hA, ⟨sr, s1, s2, s3, s4, s5⟩, hV, _, _⟩ := h
  have hn : ∀ n b, clN n b M → clN n b M' := fun n b hb => hb.mem (fun t k j g1 g2 => hN t n k j g1 g2)
  exact ⟨hn 0 a hA, ⟨sr, s1, (h4 1).trans s2, (h4 2).trans s3, s4, fun i g hi => hn _ g (s5 i g hi)⟩, ⟨h3.trans hV.1, fun b hb => hn 2 b (hV.2 b hb)⟩, hT, hR⟩
theorem clS.txt {e' : Int32} (h : clS a hs sv tx R e ln M) (hF : tF M M') : clS a hs sv [] R e' ln (am_set (am_set M' (3, 0, 0) 8 e') (8, 0, 0) 1 (nI 0)) := by
  have ft : ∀ t n k j, t ≠ 11 → t ≠ 8 → t ≠ 3 → am_set (am_set M' (3, 0, 0) 8 e') (8, 0, 0) 1 (nI 0) (t, n, k) j = M (t, n, k) j := fun t n k j h1 h2 h3 => by rw [as_t h2, as_t h3]; exact hF _ _ h1 (fun q => h2 (pl_e q.1).1)
  have f3 : ∀ j, j ≠ 8 → am_set (am_set M' (3, 0, 0) 8 e') (8, 0, 0) 1 (nI 0) (3, 0, 0) j = M (3, 0, 0) j := fun j hj => by rw [as_t (by decide), as_j hj]; exact hF _ _ (by show (3 : Nat) ≠ 11; decide) (fun q => pl_t (by decide) q.1)
  have hT := h.2.2.2.1
  have hR := h.2.2.2.2
  exact h.fr (fun t n k j g1 g2 => ft t n k j (by omega) (by omega) (by omega)) (fun j => ft 4 0 0 j (by decide) (by decide) (by decide)) (f3 3 (by decide)) ⟨⟨as_eq _ _ _ _, fun i c hc => absurd hc (by simp)⟩, by rw [as_t (by decide), as_eq], (f3 10 (by decide)).trans hT.2.2.1, fun i c hc => (ft 12 0 0 i (by decide) (by decide) (by decide)).trans (hT.2.2.2 i c hc)⟩ ⟨(ft 6 0 0 0 (by decide) (by decide) (by decide)).trans hR.1, (ft 6 0 0 1 (by decide) (by decide) (by decide)).trans hR.2.1, (ft 6 0 0 2 (by decide) (by decide) (by decide)).trans hR.2.2⟩
theorem tF.clF (h : tF M M') : clF M M' := fun l j hl => h l j (by omega) (fun q => by rw [q.1] at hl; dsimp only at hl; omega)
theorem k99 (ht : txk tx) (hB0 : 1000 ≤ B) (hB : B < 1060000000) (hok : ml_ok B a) (h : clS a hs sv tx R e ln M) : txC a hs sv R ln M w (am_ev (d + 8) 99 [am_P (3, 0, 0)] M (am_Z w)) (tO a tx) := by
  obtain ⟨M1, t1, t2, t3⟩ := k4 (d := d + 1) (w := w) ht h.2.2.2.1.1
  have hp := ptx_ok (tx := tx)
  have hl60 := ht.1
  rw [e99, t1]
  simp only [am_cb_i, am_cb_e, Option.toList_some, Option.toList_none, List.cons_append, List.nil_append]
  rw [b99_8, b99_19, as_t (by decide), as_eq]
  unfold tO
  generalize ptx tx = o at t3 hp ⊢
  obtain ⟨p, o⟩ := o
  cases o with
  | none =>
    dsimp only at hp ⊢
    rw [if_neg (nI_nm1 (by omega))]
    exact ⟨_, rfl, h.txt t2, (t2.clF.set (by decide)).set (by decide)⟩
  | some ls =>
    obtain ⟨g1, g2, g3⟩ := t3 ls rfl
    have gk := hp.2 ls rfl
    dsimp only
    rw [if_pos rfl]
    have hS : clS a hs sv [] R (-1) ln (am_set (am_set M1 (3, 0, 0) 8 (-1)) (8, 0, 0) 1 (nI 0)) := h.txt t2
    have hF : clF M (am_set (am_set M1 (3, 0, 0) 8 (-1)) (8, 0, 0) 1 (nI 0)) := (t2.clF.set (by decide)).set (by decide)
    have q3 : am_set (am_set M1 (3, 0, 0) 8 (-1)) (8, 0, 0) 1 (nI 0) (8, 0, 0) 3 = nI ls.length := by rw [as_j (by decide), as_t (by decide)]; exact g1
    have q11 : recs ls (am_set (am_set M1 (3, 0, 0) 8 (-1)) (8, 0, 0) 1 (nI 0)) := fun i k x y z hi => by
      have fr : ∀ j, am_set (am_set M1 (3, 0, 0) 8 (-1)) (8, 0, 0) 1 (nI 0) (11, 0, i) j = M1 (11, 0, i) j := fun j => by rw [as_t (by decide), as_t (by decide)]
      rw [fr, fr, fr, fr]
      exact g3 i k x y z hi
    generalize am_set (am_set M1 (3, 0, 0) 8 (-1)) (8, 0, 0) 1 (nI 0) = M2 at hS hF q3 q11 ⊢
    obtain ⟨⟨ar, hA⟩, ⟨sr, s1, s2, s3, s4, s5⟩, hV, hT, hR⟩ := hS
    obtain ⟨M3, v1, v2, v3⟩ := k34 (d := d + 5) (n := 3 + sr) (n2 := 0) (M := M2) (w := w) (by omega) (by decide) (by omega) hok hA
    rw [k22 s1 s2]
    simp only [am_cb_i, am_cb_e, Option.toList_some, Option.toList_none, List.cons_append, List.nil_append]
    rw [b99_42 (by omega), v1]
    simp only [am_cb_i, am_cb_e, Option.toList_some, Option.toList_none, List.cons_append, List.nil_append, b99_49]
    have hA3 : nw 0 a M3 ar := hA.mem (fun t k j _ _ _ _ => v3 _ _ (Or.inl (by show 0 ≠ 3 + sr; omega)))
    have lo : ∀ (l : am_L) (j : Nat), l.1 < 13 → M3 l j = M2 l j := fun l j hl => v3 l j (Or.inr (Or.inl hl))
    have ho := l99 (d := d) (w := w) g2 ls 0 B a M3 ar (by omega) hA3 hB0 (by omega) (exk_of ls B a M3 ar hA3 hok hB0 (by omega) gk) ((lo _ _ (by decide)).trans q3) (fun j k x y z hj => by
      rw [Nat.zero_add, lo _ _ (by show (11 : Nat) < 13; decide), lo _ _ (by show (11 : Nat) < 13; decide), lo _ _ (by show (11 : Nat) < 13; decide), lo _ _ (by show (11 : Nat) < 13; decide)]
      exact q11 j k x y z hj)
    generalize exl a 0 ls = o at ho ⊢
    rcases o with a' | ⟨q, u, i⟩
    · obtain ⟨M4, ar', u1, u2, u3⟩ := ho
      have lo2 : ∀ (l : am_L) (j : Nat), l.1 < 13 → M4 l j = M2 l j := fun l j hl => by rw [u3 l j (Or.inr (Or.inl hl)), lo l j hl]
      rw [u1, b99_51, lo2 _ _ (by decide), q3, if_neg (nI_nlt (by omega) (by omega))]
      obtain ⟨M5, x1, x2, x3, x4⟩ := k23 (d := d + 6) (w := w) (M := M4) s1 s4 ((lo2 _ _ (by decide)).trans s2) ((lo2 _ _ (by decide)).trans s3)
      rw [x1]
      simp only [am_cb_i, am_cb_e, Option.toList_some, Option.toList_none, List.cons_append, List.nil_append, b99_129]
      have lo3 : ∀ (l : am_L) (j : Nat), l.1 < 13 → l ≠ (4, 0, 0) → M5 l j = M2 l j := fun l j hl h4 => by rw [x4 l j h4, lo2 l j hl]
      rw [lo3 _ _ (by decide) (pl_t (by decide)), q3]
      have hN : ∀ n b, n ≠ 0 → n ≠ 3 + sr → clN n b M2 → clN n b M5 := fun n b n0 n1 hb => ((hb.cF v3.cF n1).cF u3.cF n0).mem (fun t k j g1 g2 => x4 _ _ (pl_t (by omega)))
      refine ⟨M5, rfl, ⟨⟨ar', u2.mem (fun t k j g1 g2 _ _ => x4 _ _ (pl_t (by omega)))⟩, clH.push s1 s4 x2 x3 (fun i g hi => ?_) ?_, ⟨(lo3 _ _ (by decide) (pl_t (by decide))).trans hV.1, fun b hb => hN 2 b (by decide) (by omega) (hV.2 b hb)⟩, hT.fr (lo3 _ _ (by decide) (pl_t (by decide))) (fun j => lo3 _ _ (by decide) (pl_t (by decide))) (fun j _ => lo3 _ _ (by decide) (pl_t (by decide))) (fun j => lo3 _ _ (by decide) (pl_t (by decide))), ⟨(lo3 _ _ (by decide) (pl_t (by decide))).trans hR.1, (lo3 _ _ (by decide) (pl_t (by decide))).trans hR.2.1, (lo3 _ _ (by decide) (pl_t (by decide))).trans hR.2.2⟩⟩, hF.tr ((v3.clF.tr u3.clF).tr (fun l j hl => x4 l j (fun q => by subst q; dsimp only at hl; omega)))⟩
      · have hlt := (List.getElem?_eq_some_iff.mp hi).1
        have := clI_ne s1 s4 hlt
        exact hN _ g (by omega) (by omega) (s5 i g hi)
      · have ha : clN (3 + sr) a M3 := ⟨ar, v2⟩
        exact (ha.cF u3.cF (by omega)).mem (fun t k j g1 g2 => x4 _ _ (pl_t (by omega)))
    · obtain ⟨M4, u1, u2, u3, u4⟩ := ho
      have lo2 : ∀ (l : am_L) (j : Nat), l.1 < 13 → l ≠ (6, 0, 0) → M4 l j = M2 l j := fun l j hl h6 => by rw [u4 l j (Or.inr (Or.inl hl)) (fun q => h6 q.1), lo l j hl]
      rw [u1, b99_82, if_pos rfl, k22 s1 ((as_t (by decide)).trans ((lo2 _ _ (by decide) (pl_t (by decide))).trans s2))]
      simp only [am_cb_i, am_cb_e, Option.toList_some, Option.toList_none, List.cons_append, List.nil_append]
      rw [b99_105 (by omega)]
      have hA5 : nw (3 + sr) a (am_set M4 (6, 0, 0) 2 (nI i)) ar := v2.mem (fun t k j _ _ _ _ => by rw [as_t (by omega)]; exact u4 _ _ (Or.inl (by show 3 + sr ≠ 0; omega)) (fun q => by have := (pl_e q.1).1; omega))
      obtain ⟨M6, x1, x2, x3⟩ := k34 (d := d + 5) (n := 0) (n2 := 3 + sr) (M := am_set M4 (6, 0, 0) 2 (nI i)) (w := w) (by decide) (by omega) (by omega) hok hA5
      rw [x1]
      simp only [am_cb_i, am_cb_e, Option.toList_some, Option.toList_none, List.cons_append, List.nil_append, b99_108]
      have lo3 : ∀ (l : am_L) (j : Nat), l.1 < 13 → l ≠ (6, 0, 0) → M6 l j = M2 l j := fun l j hl h6 => by rw [x3 l j (Or.inr (Or.inl hl)), as_ne (fun q => h6 q.1), lo2 l j hl h6]
      have l6 : ∀ j, M6 (6, 0, 0) j = am_set M4 (6, 0, 0) 2 (nI i) (6, 0, 0) j := fun j => x3 _ _ (Or.inr (Or.inl (by decide)))
      have hN : ∀ n b, n ≠ 0 → n ≠ 3 + sr → clN n b M2 → clN n b M6 := fun n b n0 n1 hb => (((hb.cF v3.cF n1).cF u4 n0).mem (M' := am_set M4 (6, 0, 0) 2 (nI i)) (fun t k j g1 g2 => as_t (by omega))).cF x3.cF n0
      refine ⟨_, rfl, ⟨⟨ar, x2⟩, ⟨sr, s1, (lo3 _ _ (by decide) (pl_t (by decide))).trans s2, (lo3 _ _ (by decide) (pl_t (by decide))).trans s3, s4, fun i g hi => ?_⟩, ⟨(lo3 _ _ (by decide) (pl_t (by decide))).trans hV.1, fun b hb => hN 2 b (by decide) (by omega) (hV.2 b hb)⟩, hT.fr (lo3 _ _ (by decide) (pl_t (by decide))) (fun j => lo3 _ _ (by decide) (pl_t (by decide))) (fun j _ => lo3 _ _ (by decide) (pl_t (by decide))) (fun j => lo3 _ _ (by decide) (pl_t (by decide))), ⟨by rw [l6, as_j (by decide)]; exact u2, by rw [l6, as_j (by decide)]; exact u3, by rw [l6, as_eq]⟩⟩, hF.tr (((v3.clF.tr u4.clF).set (by decide)).tr x3.clF)⟩
      have hlt := (List.getElem?_eq_some_iff.mp hi).1
      have := clI_ne s1 s4 hlt
      exact hN _ g (by omega) (by omega) (s5 i g hi)
end Kct
