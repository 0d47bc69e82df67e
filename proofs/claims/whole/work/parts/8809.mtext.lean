/-! A WHOLE TEXT CARRIED OUT: THE REFERENCE -/
section Kmt
variable {d B : Nat} {M M' M0 : am_M} {a b : Nat → Nat} {w : am_W4} {hs : List (Nat → Nat)} {sv : Option (Nat → Nat)} {tx ln : List Int32} {R : Int32 × Int32 × Int32} {e : Int32}
/-- the commands only grow -/
theorem plst_pre : ∀ f (c : Pc) (l ls : List Cm), (plst tx f c l).2 = some ls → ∃ r, ls = l ++ r := by
  intro f
  induction f with
  | zero => intro c l ls h; exact absurd h (by simp [plst])
  | succ f ih =>
    intro c l ls h
    obtain ⟨p, o⟩ := c
    cases o with
    | none => exact absurd h (by simp [plst])
    | some u =>
      unfold plst at h
      dsimp only at h
      by_cases hp : p < tx.length
      · rw [if_pos hp] at h
        by_cases hc : cn tx p = some 59
        · rw [if_pos hc] at h
          obtain ⟨r, hr⟩ := ih _ _ _ h
          exact ⟨u :: r, by rw [hr, List.append_assoc]; rfl⟩
        · rw [if_neg hc] at h
          exact absurd h (by simp)
      · rw [if_neg hp] at h
        exact ⟨[u], (Option.some.inj h).symm⟩
theorem mlS.fe {e' : Int32} (h : mlS a hs sv tx R e ln M) : mlS a hs sv tx R e' ln (am_set M (30, 0, 0) 14 e') := by
  obtain ⟨h1, ⟨h2, h3, h4⟩, h5, h6, h7, h8, h9⟩ := h
  have ft : ∀ j, j ≠ 14 → am_set M (30, 0, 0) 14 e' (30, 0, 0) j = M (30, 0, 0) j := fun j hj => as_j hj
  have fl : ∀ (t j : Nat), t ≠ 30 → am_set M (30, 0, 0) 14 e' (t, 0, 0) j = M (t, 0, 0) j := fun t j ht => as_t ht
  exact ⟨fun j => (fl 31 j (by decide)).trans (h1 j), ⟨(ft 4 (by decide)).trans h2, h3, fun i g hi j hj => (fl 34 _ (by decide)).trans (h4 i g hi j hj)⟩, ⟨(ft 6 (by decide)).trans h5.1, fun b hb j hj => (fl 35 j (by decide)).trans (h5.2 b hb j hj)⟩, ⟨(ft 10 (by decide)).trans h6.1, fun i c hc => (fl 37 i (by decide)).trans (h6.2 i c hc)⟩, ⟨(ft 16 (by decide)).trans h7.1, (ft 17 (by decide)).trans h7.2.1, (ft 18 (by decide)).trans h7.2.2⟩, as_eq _ _ _ _, ⟨(ft 8 (by decide)).trans h9.1, fun i c hc => (fl 36 i (by decide)).trans (h9.2 i c hc)⟩⟩
theorem mlS.f0 (h : mlS a hs sv tx R e ln M) : mlS a hs sv [] R e ln (am_set M (30, 0, 0) 10 (nI 0)) := by
  obtain ⟨h1, ⟨h2, h3, h4⟩, h5, h6, h7, h8, h9⟩ := h
  have ft : ∀ j, j ≠ 10 → am_set M (30, 0, 0) 10 (nI 0) (30, 0, 0) j = M (30, 0, 0) j := fun j hj => as_j hj
  have fl : ∀ (t j : Nat), t ≠ 30 → am_set M (30, 0, 0) 10 (nI 0) (t, 0, 0) j = M (t, 0, 0) j := fun t j ht => as_t ht
  exact ⟨fun j => (fl 31 j (by decide)).trans (h1 j), ⟨(ft 4 (by decide)).trans h2, h3, fun i g hi j hj => (fl 34 _ (by decide)).trans (h4 i g hi j hj)⟩, ⟨(ft 6 (by decide)).trans h5.1, fun b hb j hj => (fl 35 j (by decide)).trans (h5.2 b hb j hj)⟩, ⟨as_eq _ _ _ _, fun i c hc => absurd hc (by simp)⟩, ⟨(ft 16 (by decide)).trans h7.1, (ft 17 (by decide)).trans h7.2.1, (ft 18 (by decide)).trans h7.2.2⟩, (ft 14 (by decide)).trans h8, ⟨(ft 8 (by decide)).trans h9.1, fun i c hc => (fl 36 i (by decide)).trans (h9.2 i c hc)⟩⟩
theorem mlS.sF (h : mlS a hs sv tx R e ln M) (hF : sF M M') : mlS a hs sv tx R e ln M' := h.fr (fun j => (hF _ _ (pl_t (by decide)) (fun q => pl_t (by decide) q.1)).trans (h.1 j)) (fun l j hr => hF _ _ hr.ne.2.2.2.1 (fun q => by
  have := hr.ne.2.2.2.2 q.1
  have := q.2
  omega))
theorem mlT.sF (h : mlT b M) (hF : sF M M') : mlT b M' := fun j hj => (hF _ _ (pl_t (by decide)) (fun q => pl_t (by decide) q.1)).trans (h j hj)
theorem sF.mF (hF : sF M M') : mF M M' := fun l j hl => hF l j (fun q => by rw [q] at hl; exact absurd hl (by decide)) (fun q => by rw [q.1] at hl; exact absurd hl (by decide))
theorem sF.t {j : Nat} (hF : sF M M') (hj : j ≠ 11 ∧ j ≠ 12) : M' (30, 0, 0) j = M (30, 0, 0) j := hF _ _ (pl_t (by decide)) (fun q => by omega)
theorem mlT.t {j : Nat} {x : Int32} (h : mlT b M) : mlT b (am_set M (30, 0, 0) j x) := fun i hi => (as_t (by decide)).trans (h i hi)
/-- the second pass -/
def x2O (a : Nat → Nat) (hs : List (Nat → Nat)) (sv : Option (Nat → Nat)) (tx : List Int32) (R : Int32 × Int32 × Int32) (ln : List Int32) (M : am_M) (w : am_W4) (n d : Nat) (r : Option am_R) : (Nat → Nat) ⊕ (Nat × Int32 × Nat) → Prop
  | .inl a' => ∃ M', r = am_rn (am_ev (d + 7)) 183 94 [some (am_P (30, 0, 0)), some (am_I (nI 1)), some (am_I (nI n)), some (am_I (nI 0))] [] M' (am_Z w) ∧ mlS a' hs sv tx R (-1) ln M' ∧ mlT a M' ∧ M' (30, 0, 0) 20 = nI 0 ∧ mF M M'
  | .inr (q, u, i) => ∃ M' b x, r = am_rn (am_ev (d + 7)) 183 94 [some (am_P (30, 0, 0)), some (am_I (nI 0)), some (am_I x), some (am_I (nI 0))] [] M' (am_Z w) ∧ mlS b hs sv tx (nI q, u, nI i) (-1) ln M' ∧ mlT a M' ∧ mF M M'
theorem x2O.pre {n : Nat} {r : Option am_R} {o : (Nat → Nat) ⊕ (Nat × Int32 × Nat)} (hF : mF M M') (h : x2O a hs sv tx R ln M' w n d r o) : x2O a hs sv tx R ln M w n d r o := by
  rcases o with a' | ⟨q, u, i⟩
  · obtain ⟨M2, h1, h2, h3, h4, h5⟩ := h
    exact ⟨M2, h1, h2, h3, h4, hF.tr h5⟩
  · obtain ⟨M2, b, x, h1, h2, h3, h4⟩ := h
    exact ⟨M2, b, x, h1, h2, h3, hF.tr h4⟩
theorem l183b (ht : txk tx) : ∀ f s (l ls r : List Cm) (b : Nat → Nat) (B' : Nat) (M : am_M) (x1 : Int32), (plst tx f (pcmd tx s) l).2 = some ls → ls = l ++ r → s ≤ tx.length → M (30, 0, 0) 11 = nI s → mlS b hs sv tx R (-1) ln M → mlT a M → M (30, 0, 0) 20 = nI 0 → exk B' b r → 1000 ≤ B' → B' + 20000 * r.length < 1070000000 → x2O a hs sv tx R ln M w ls.length d (am_rn (am_ev (d + 7)) 183 94 [some (am_P (30, 0, 0)), some (am_I x1), some (am_I (nI l.length)), some (am_I (nI 1))] [] M (am_Z w)) (exl b l.length r) := by
  have hl60 := ht.1
  intro f
  induction f with
  | zero => intro s l ls r b B' M x1 h; exact absurd h (by simp [plst])
  | succ f ih =>
    intro s l ls r b B' M x1 h hr hs1 h11 hS hT h20 hk hB0 hB
    obtain ⟨M1, g1, g2, g3, g4⟩ := k181 (d := d + 3) (w := w) (M := M) ht hS.2.2.2.1 h11 hs1
    have hF1 : sF M M1 := g4
    have ad := pcmd_adv (tx := tx) hs1
    rw [b183_94, if_neg (show ¬ nI 1 = 0 from nI_ne0 (by decide) (by decide)), g1]
    generalize pcmd tx s = c at h g2 g3 ad ⊢
    obtain ⟨p, o⟩ := c
    cases o with
    | none => exact absurd h (by simp [plst])
    | some v =>
      obtain ⟨k, x, y, z⟩ := v
      dsimp only at g2 ad
      obtain ⟨q1, q2, q3, q4, q5, q6, q7⟩ := g3 k x y z rfl
      -- the commands left begin with this one
      have hpre : ∃ r', r = (k, x, y, z) :: r' ∧ ls = (l ++ [(k, x, y, z)]) ++ r' := by
        have : ∃ r', ls = (l ++ [(k, x, y, z)]) ++ r' := by
          unfold plst at h
          dsimp only at h
          by_cases hp : p < tx.length
          · rw [if_pos hp] at h
            by_cases hc : cn tx p = some 59
            · rw [if_pos hc] at h
              exact plst_pre _ _ _ _ h
            · rw [if_neg hc] at h
              exact absurd h (by simp)
          · rw [if_neg hp] at h
            exact ⟨[], by rw [List.append_nil]; exact (Option.some.inj h).symm⟩
        obtain ⟨r', e'⟩ := this
        refine ⟨r', ?_, e'⟩
        rw [hr, List.append_assoc] at e'
        exact List.append_cancel_left e'
      obtain ⟨r', rfl, hr'⟩ := hpre
      have hS1 : mlS b hs sv tx R (-1) ln (am_set M1 (30, 0, 0) 15 (nI l.length)) := (hS.sF hF1).out (l := (30, 0, 0)) (i := 15) (by simp)
      have hT1 : mlT a (am_set M1 (30, 0, 0) 15 (nI l.length)) := (hT.sF hF1).t
      have hM1 : mF M (am_set M1 (30, 0, 0) 15 (nI l.length)) := hF1.mF.set (by decide)
      have e15 : am_set M1 (30, 0, 0) 15 (nI l.length) (30, 0, 0) 15 = nI l.length := as_eq _ _ _ _
      have e20 : am_set M1 (30, 0, 0) 15 (nI l.length) (30, 0, 0) 20 = nI 0 := (as_j (by decide)).trans ((hF1.t (by decide)).trans h20)
      have e11 : am_set M1 (30, 0, 0) 15 (nI l.length) (30, 0, 0) 11 = nI p := (as_j (by decide)).trans g2
      have e38 : ∀ j, am_set M1 (30, 0, 0) 15 (nI l.length) (38, 0, 0) j = M1 (38, 0, 0) j := fun j => as_t (by decide)
      simp only [am_cb_i, am_cb_e, Option.toList_some, Option.toList_none, List.cons_append, List.nil_append, b183_102]
      rw [List.length_cons] at hB
      have hk1 := hk.1.2
      rw [k182 (d := d) (w := w) (B := B') (M := am_set M1 (30, 0, 0) 15 (nI l.length)) (a := b) (k := k) (x := x) (y := y) (z := z) hB0 (by omega) hk1 hS1.1 q2 q3 q4 ((as_j (by decide)).trans q1) ((e38 0).trans q5) (fun u v => (e38 1).trans (q6 u v)) (fun u => (e38 2).trans (q7 u))]
      have hx := hk.2
      unfold exl
      generalize am_set M1 (30, 0, 0) 15 (nI l.length) = M2 at hS1 hT1 hM1 e15 e20 e11 ⊢
      generalize oC b k (nI x) (nI y) (nI z) = o at hx ⊢
      rcases o with ⟨v, a'⟩ | ⟨q, u⟩
      · unfold am_mo
        simp only [am_cb_i, am_cb_e, Option.toList_some, Option.toList_none, List.cons_append, List.nil_append, b183_112]
        rw [if_neg (show ¬ nI 1 = 0 from nI_ne0 (by decide) (by decide)), nI_add, b183_120, if_neg (show ¬ nI 1 = 0 from nI_ne0 (by decide) (by decide))]
        have hS2 : mlS a' hs sv tx R (-1) ln (am_pA (am_dn M2 v) a') := mlS.pA (hS1.out (l := (30, 0, 0)) (i := 19) (x := nI v) (by simp))
        have hT2 : mlT a (am_pA (am_dn M2 v) a') := fun j hj => by rw [am_pA_ne (pl_t (by decide))]; exact hT1.t j hj
        have hM2 : mF M (am_pA (am_dn M2 v) a') := (hM1.set (j := 19) (x := nI v) (by decide)).pA
        have f11 : am_pA (am_dn M2 v) a' (30, 0, 0) 11 = nI p := by rw [am_pA_ne (pl_t (by decide))]; exact (as_j (by decide)).trans e11
        have f20 : am_pA (am_dn M2 v) a' (30, 0, 0) 20 = nI 0 := by rw [am_pA_ne (pl_t (by decide))]; exact (as_j (by decide)).trans e20
        generalize am_pA (am_dn M2 v) a' = M3 at hS2 hT2 hM2 f11 f20 ⊢
        have ap := (ad.1 : p ≤ tx.length)
        rw [k177 (d := d + 6) (w := w) (by decide) ht hS2.2.2.2.1 f11 ap]
        unfold plst at h
        dsimp only at h
        by_cases hp : p < tx.length
        · rw [if_pos hp] at h
          by_cases hc : cn tx p = some 59
          · rw [if_pos hc] at h
            rw [if_pos hc]
            simp only [am_cb_i, am_cb_e, Option.toList_some, Option.toList_none, List.cons_append, List.nil_append, b183_130]
            rw [if_neg (show ¬ nI 1 = 0 from nI_ne0 (by decide) (by decide)), b183_138]
            have hih := ih (p + 1) (l ++ [(k, x, y, z)]) ls r' a' (B' + 20000) (mps M3 (p + 1)) (nI 1) h hr' hp mps_11 (hS2.out (l := (30, 0, 0)) (i := 11) (by simp)) hT2.t ((as_j (by decide)).trans f20) hx.2 (by omega) (by omega)
            rw [show (l ++ [(k, x, y, z)]).length = l.length + 1 by rw [List.length_append]; rfl] at hih
            exact hih.pre (hM2.set (by decide))
          · rw [if_neg hc] at h
            exact absurd h (by simp)
        · rw [if_neg hp] at h
          have hls : l ++ [(k, x, y, z)] = ls := Option.some.inj h
          have hr0 : r' = [] := by
            rw [← hls] at hr'
            have := congrArg List.length hr'
            rw [List.length_append (bs := r')] at this
            exact List.length_eq_zero_iff.mp (by omega)
          subst hr0
          rw [if_neg (show ¬ cn tx p = some 59 by rw [cn_out (by omega)]; simp)]
          simp only [am_cb_i, am_cb_e, Option.toList_some, Option.toList_none, List.cons_append, List.nil_append, b183_130]
          rw [if_pos (show nI 0 = 0 from rfl), b183_137, b183_138, show l.length + 1 = ls.length by rw [← hls, List.length_append]; rfl]
          exact ⟨M3, rfl, hS2, hT2, f20, hM2⟩
      · unfold am_mo
        simp only [am_cb_i, am_cb_e, Option.toList_some, Option.toList_none, List.cons_append, List.nil_append, b183_112]
        rw [if_pos (show nI 0 = 0 from rfl), b183_120, if_pos (show nI 0 = 0 from rfl), b183_137, b183_138]
        have hS2 : mlS b hs sv tx (nI q, u, nI l.length) (-1) ln (am_pA (am_rf M2 q u) b) := by
          have := mlS.rf (q := q) (x := u) hS1
          rw [e15] at this
          exact this.pA
        exact ⟨_, b, _, rfl, hS2, fun j hj => by rw [am_pA_ne (pl_t (by decide))]; unfold am_rf; rw [as_t (by decide), as_t (by decide), as_t (by decide)]; exact hT1 j hj, hM1.rfu.pA⟩
def txM (a : Nat → Nat) (hs : List (Nat → Nat)) (sv : Option (Nat → Nat)) (R : Int32 × Int32 × Int32) (ln : List Int32) (M : am_M) (w : am_W4) (r : Option am_R) : Nat ⊕ (((Nat → Nat) × Nat) ⊕ (Nat × Int32 × Nat)) → Prop
  | .inl p => ∃ M', r = some (.inl (some (am_I (nI 0))), M', am_Z w) ∧ mlS a hs sv [] R (nI p) ln M' ∧ M' (30, 0, 0) 20 = nI 1 ∧ mF M M'
  | .inr (.inl (a', n)) => ∃ M', r = some (.inl (some (am_I (nI n))), M', am_Z w) ∧ mlS a' (hpush hs a) sv [] R (-1) ln M' ∧ M' (30, 0, 0) 20 = nI 0 ∧ mF M M'
  | .inr (.inr (q, u, i)) => ∃ M' b, r = some (.inl (some (am_I (nI 0))), M', am_Z w) ∧ (∀ j, j < 364 → b j = a j) ∧ mlS b hs sv [] (nI q, u, nI i) (-1) ln M' ∧ M' (30, 0, 0) 20 = nI 2 ∧ mF M M'
theorem k118 (h : mlS b hs sv tx R e ln M) (hT : mlT a M) : ∃ M', am_ev (d + 1) 118 [am_P (30, 0, 0)] M (am_Z w) = some (.inl none, M', am_Z w) ∧ mlS (mix b a) hs sv tx R e ln M' ∧ mF M M' := by
  have e1 := l118 (d := d) (w := w) (M := M) 364 0 (by omega)
  rw [rc_0] at e1
  rw [e118, e1]
  exact ⟨_, rfl, h.fr (rc_mix h.1 (fun j hj => hT j hj)) (fun l j hr => rc_ne hr.ne.1), (mF.rf M).rc (by decide)⟩
theorem k183 (ht : txk tx) (hB0 : 1000 ≤ B) (hB : B < 1060000000) (hk : ∀ ls, (ptx tx).2 = some ls → exk B a ls ∧ ls.length ≤ 20) (h : mlS a hs sv tx R e ln M) : txM a hs sv R ln M w (am_ev (d + 8) 183 [am_P (30, 0, 0)] M (am_Z w)) (tO a tx) := by
  have hl60 := ht.1
  obtain ⟨M1, k1, k2, k3, k4, k5, k6⟩ := k117 (d := d + 6) (w := w) h
  rw [e183, k1]
  simp only [am_cb_i, am_cb_e, Option.toList_some, Option.toList_none, List.cons_append, List.nil_append]
  rw [b183_4]
  have k2' : mlS a hs sv tx R e ln (am_set M1 (30, 0, 0) 11 (nI 0)) := k2.out (by simp)
  obtain ⟨M2, g1, g2, g3, g4⟩ := k181 (d := d + 3) (w := w) (M := am_set M1 (30, 0, 0) 11 (nI 0)) (p := 0) ht k2'.2.2.2.1 (as_eq _ _ _ _) (Nat.zero_le _)
  have F2 : sF (am_set M1 (30, 0, 0) 11 (nI 0)) M2 := g4
  have ad := pcmd_adv (tx := tx) (Nat.zero_le tx.length)
  rw [g1]
  simp only [am_cb_i, am_cb_e, Option.toList_some, Option.toList_none, List.cons_append, List.nil_append]
  rw [b183_13]
  obtain ⟨M3, r1, r2, r3⟩ := l183 (d := d + 3) (w := w) ht 22 (pcmd tx 0) [] M2 rfl (k2'.sF F2).2.2.2.1 g2 ad.1 (fun v q => by have := ad.2 (by rw [q]; simp); show 3 * 0 + 2 ≤ _; omega)
  rw [r1]
  have hS3 := (k2'.sF F2).sF r2
  have hT3 : mlT a M3 := ((k3.t (j := 11) (x := nI 0)).sF F2).sF r2
  have hM3 : mF M M3 := ((k6.set (by decide)).tr F2.mF).tr r2.mF
  have h20 : M3 (30, 0, 0) 20 = nI 0 := (r2.t (by decide)).trans ((F2.t (by decide)).trans ((as_j (by decide)).trans k5))
  have hp := ptx_ok (tx := tx)
  unfold tO
  have hP : plst tx 22 (pcmd tx 0) [] = ptx tx := rfl
  rw [hP] at r3 ⊢
  cases ho : (ptx tx).2 with
  | none =>
    rw [show nI (Option.isSome (none : Option (List Cm))).toNat = nI 0 from rfl, b183_54, if_pos (show nI 0 = 0 from rfl), b183_67, if_pos (show nI 0 = 0 from rfl), k115]
    simp only [am_cb_i, am_cb_e, Option.toList_some, Option.toList_none, List.cons_append, List.nil_append, b183_84]
    rw [r3]
    exact ⟨_, rfl, (hS3.fe.f0).out (l := (30, 0, 0)) (i := 20) (by simp), as_eq _ _ _ _, ((hM3.set (by decide)).set (by decide)).set (by decide)⟩
  | some ls =>
    obtain ⟨hk1, hk2⟩ := hk ls ho
    rw [show nI (Option.isSome (some ls)).toNat = nI 1 from rfl, b183_54, if_neg (show ¬ nI 1 = 0 from nI_ne0 (by decide) (by decide)), b183_67, if_neg (show ¬ nI 1 = 0 from nI_ne0 (by decide) (by decide))]
    dsimp only
    have hl := l183b (d := d) (w := w) (B' := B) (a := a) (b := a) (M := am_set (am_set M3 (30, 0, 0) 14 (-1)) (30, 0, 0) 11 (nI 0)) ht 22 0 [] ls ls (x1 := nI 1) ho rfl (Nat.zero_le _) (as_eq _ _ _ _) (hS3.fe.out (l := (30, 0, 0)) (i := 11) (by simp)) hT3.t.t ((as_j (by decide)).trans ((as_j (by decide)).trans h20)) hk1 hB0 (by omega)
    rw [show ([] : List Cm).length = 0 from rfl] at hl
    have hM4 : mF M (am_set (am_set M3 (30, 0, 0) 14 (-1)) (30, 0, 0) 11 (nI 0)) := (hM3.set (by decide)).set (by decide)
    generalize am_set (am_set M3 (30, 0, 0) 14 (-1)) (30, 0, 0) 11 (nI 0) = M4 at hl hM4 ⊢
    generalize exl a 0 ls = o at hl ⊢
    rcases o with a' | ⟨q, u, i⟩
    · obtain ⟨M5, u1, u2, u3, u4, u5⟩ := hl
      rw [u1, b183_94, if_pos (show nI 0 = 0 from rfl), if_neg (show ¬ nI 1 = 0 from nI_ne0 (by decide) (by decide))]
      obtain ⟨M6, v1, v2, v3, v4⟩ := k121 (d := d + 6) (w := w) (x := nI ls.length) u2.f0 (b := a) u3.t
      rw [v1]
      simp only [am_cb_i, am_cb_e, Option.toList_some, Option.toList_none, List.cons_append, List.nil_append, b183_156]
      exact ⟨M6, rfl, v2, v3.trans ((as_j (by decide)).trans u4), (hM4.tr (u5.set (by decide))).tr v4⟩
    · obtain ⟨M5, b, x, u1, u2, u3, u4⟩ := hl
      rw [u1, b183_94, if_pos (show nI 0 = 0 from rfl), if_pos (show nI 0 = 0 from rfl)]
      obtain ⟨M6, v1, v2, v3⟩ := k118 (d := d + 6) (w := w) u2.f0 (a := a) u3.t
      rw [v1]
      simp only [am_cb_i, am_cb_e, Option.toList_some, Option.toList_none, List.cons_append, List.nil_append, b183_161]
      rw [k115]
      simp only [am_cb_i, am_cb_e, Option.toList_some, Option.toList_none, List.cons_append, List.nil_append, b183_166]
      exact ⟨_, mix b a, rfl, fun j hj => mix_lt hj, v2.out (l := (30, 0, 0)) (i := 20) (by simp), as_eq _ _ _ _, ((hM4.tr (u4.set (by decide))).tr v3).set (by decide)⟩
end Kmt
