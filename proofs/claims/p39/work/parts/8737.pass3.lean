/-! THE CLASS'S HOUR, whole -/
/-- a message that goes -/
def mv_ok (b : Nat → Nat) (m : Nat) : Prop := m < b 2 ∧ b (60 + 19 * m + 6) = 0 ∧ b (60 + 19 * m + 10) = 1 ∧ b (60 + 19 * m + 2) < b 1 ∧ b (60 + 19 * m + 1) < b 1 ∧ b (60 + 19 * m + 2) ≠ b (60 + 19 * m + 1) ∧ b (60 + 19 * m + 4) = 0 ∧ b (60 + 19 * m + 5) = 0 ∧ b (60 + 19 * m + 9) = 1
theorem mv_ok.mv {b : Nat → Nat} {m x : Nat} (h : mv_ok b m) (hx : m ≠ x) : mv_ok (ml_mv b x) m := by
  have f : ∀ g, g < 19 → ml_mv b x (60 + 19 * m + g) = b (60 + 19 * m + g) := fun g hg => ml_mv_ne (by omega) (by omega)
  unfold mv_ok
  rw [ml_mv_ne (j := 2) (by omega) (by omega), ml_mv_ne (j := 1) (by omega) (by omega), f 6 (by omega), f 10 (by omega), f 2 (by omega), f 1 (by omega), f 4 (by omega), f 5 (by omega), f 9 (by omega)]
  exact h
theorem ml_next_ne {b : Nat → Nat} {m : Nat} (h : b (60 + 19 * m + 2) ≠ b (60 + 19 * m + 1)) : ml_next b m ≠ b (60 + 19 * m + 2) := by
  unfold ml_next
  split <;> omega
theorem nwC.mv {b : Nat → Nat} {m : Nat} : nwC b (ml_mv b m) := ⟨ml_mv_ne (by omega) (by omega), ml_mv_ne (by omega) (by omega), fun q _ => ml_mv_ne (by omega) (by omega)⟩
section Kp3
variable {d n B : Nat} {M M0 : am_M} {a : Nat → Nat} {w : am_W4}
set_option maxHeartbeats 4000000 in
theorem k51 {b : Nat → Nat} {m : Nat} {q : Nat → List Nat} {ar : List Nat} (hn : n < 12) (hS : nwS b) (h1 : nw1 n b M) (hQ : nwQ n M q (b 1)) (hR : nwR n M ar) (hl : nw_l b q ar) (hm : mv_ok b m) :
    ∃ M', am_ev (d + 2) 51 [am_P (13, n, 0), am_P (24, n, m), am_I (nI m), am_I (nI (b (60 + 19 * m + 2)))] M (am_Z w) = some (.inl none, M', am_Z w) ∧ nw1 n (ml_mv b m) M' ∧ nwQ n M' (lq b m q) (b 1) ∧ nwR n M' (lr b m ar) ∧ nw_fo n M M' := by
  obtain ⟨m2, m6, m10, mat, mto, mne, mp, mr, mh⟩ := hm
  obtain ⟨s1, s2, s3⟩ := hS
  have hS : nwS b := ⟨s1, s2, s3⟩
  have hF := h1.1
  have hm16 : m < 16 := by omega
  have hnx1 : ml_next b m < b 1 := ml_next_lt mto mat
  have hnx : ml_next b m < 6 := by omega
  have hnn := ml_next_ne mne
  have ha6 : b (60 + 19 * m + 2) < 6 := by omega
  obtain ⟨hq, hr, ht⟩ := hl
  have hqa := hq _ mat
  obtain ⟨hQa1, hQa2⟩ := hQ _ mat
  rw [e51 hn hm16, if_pos (by rw [am_inT (by omega) ha6]; trivial), nI_clamp (by omega)]
  obtain ⟨M1, e1, g1, g2, g3⟩ := k20 (d := d) (w := w) hn ha6 (x := m) (l := q (b (60 + 19 * m + 2))) (by omega) (by have := hqa.len; omega) (fun y hy => by have := ((hqa.2 y).mp hy).1; omega) hQa1 hQa2
  rw [e1]
  simp (disch := omega) only [am_cb_i, am_cb_e, Option.toList_some, Option.toList_none, List.cons_append, List.nil_append]
  have k1 : ∀ (t k j : Nat), t ≠ 22 → (t = 21 → j ≠ 6) → M1 (t, n, k) j = M (t, n, k) j := fun t k j ht hj => g3 _ _ (fun e => ht (Prod.mk.inj e).1) (fun e => hj (Prod.mk.inj e.1).1 e.2)
  have F1 : nwF n b M1 := hF.mem (fun t k j hG => k1 t k j (fun e => by subst e; exact hG) (fun e => by subst e; have := hG.2; omega))
  rw [b51_10 hn hm16, k31 hn F1 m2 hm16 (by omega) (by omega) (fun e => mne e.symm)]
  simp (disch := omega) only [am_cb_i, am_cb_e, Option.toList_some, Option.toList_none, List.cons_append, List.nil_append]
  rw [b51_16 hn hm16, k28 hn hm16]
  simp (disch := omega) only [am_cb_i, am_cb_e, Option.toList_some, Option.toList_none, List.cons_append, List.nil_append]
  have c2 : nwC b (nu b (60 + 19 * m + 2) (ml_next b m)) := (nwC.rf b).nu (by omega) (by omega) (by intros; omega) s2
  have F2 : nwF n (nu b (60 + 19 * m + 2) (ml_next b m)) (am_set M1 (24, n, m) 2 (nI (ml_next b m))) := nwF.set (t := 24) (k := m) (j := 2) hS (nwC.rf b) F1 ⟨m2, by decide, by decide⟩ c2
  have F3 := nw1.due (p := 0) hS c2 F2 m2
  have c5 : nwC b (nu (nu (nu b (60 + 19 * m + 2) (ml_next b m)) (60 + 19 * m + 5) 0) (60 + 19 * m + 9) 1) := (c2.nu (by omega) (by omega) (by intros; omega) s2).nu (by omega) (by omega) (by intros; omega) s2
  generalize hM3 : am_set (am_set (am_set (am_set M1 (24, n, m) 2 (nI (ml_next b m))) (24, n, m) 5 (nI 0)) (24, n, m) 6 (nI 0)) (24, n, m) 7 (nI 1) = M3 at *
  have k3 : ∀ (l : am_L) (j : Nat), ¬ (l = (24, n, m)) → M3 l j = M1 l j := fun l j hl => by rw [← hM3, as_ne (fun z => hl z.1), as_ne (fun z => hl z.1), as_ne (fun z => hl z.1), as_ne (fun z => hl z.1)]
  have k5 : M3 (24, n, m) 5 = nI 0 := by rw [← hM3, as_j (by decide), as_j (by decide), as_eq]
  have k2 : M3 (24, n, m) 2 = nI (ml_next b m) := by rw [F3.mat (by rw [c5.2.1]; exact m2), nu_ne (by omega), nu_ne (by omega), nu_eq]
  have kt : M3 (24, n, m) 1 = nI (b (60 + 19 * m + 1)) := by rw [F3.mto (by rw [c5.2.1]; exact m2), nu_ne (by omega), nu_ne (by omega), nu_ne (by omega)]
  have kk : ∀ (t k j : Nat), t ≠ 22 → t ≠ 24 → (t = 21 → j ≠ 6) → M3 (t, n, k) j = M (t, n, k) j := fun t k j h22 h24 hj => by rw [k3 _ _ (fun e => h24 (Prod.mk.inj e).1)]; exact k1 t k j h22 hj
  have kpl : ∀ x, x ≠ m → M3 (24, n, x) 5 = M (24, n, x) 5 := fun x hx => by rw [k3 _ _ (fun e => hx (Prod.mk.inj (Prod.mk.inj e).2).2)]; exact k1 24 x 5 (by decide) (fun e => by omega)
  have fo3 : nw_fo n M M3 := fun l j hl => by
    obtain ⟨t, n', k'⟩ := l
    rw [k3 _ _ (fun e => by
      have e1 := (Prod.mk.inj e).1
      have e2 := (Prod.mk.inj (Prod.mk.inj e).2).1
      dsimp only at hl
      omega)]
    refine g3 _ _ (fun e => ?_) (fun e => ?_)
    · have e1 := (Prod.mk.inj e).1
      have e2 := (Prod.mk.inj (Prod.mk.inj e).2).1
      dsimp only at hl
      omega
    · have e1 := (Prod.mk.inj e.1).1
      have e2 := (Prod.mk.inj (Prod.mk.inj e.1).2).1
      dsimp only at hl
      omega
  have Q3 : ∀ c, c < b 1 → M3 (21, n, c) 6 = nI (if c = b (60 + 19 * m + 2) then fl m (q c) else q c).length ∧ ∀ i x, (if c = b (60 + 19 * m + 2) then fl m (q c) else q c)[i]? = some x → M3 (22, n, c) i = nI x := by
    intro c hc
    rw [k3 (21, n, c) 6 (fun e => by have := (Prod.mk.inj e).1; omega)]
    have k22 : ∀ i, M3 (22, n, c) i = M1 (22, n, c) i := fun i => k3 _ _ (fun e => by have := (Prod.mk.inj e).1; omega)
    by_cases hca : c = b (60 + 19 * m + 2)
    · subst hca
      rw [if_pos rfl]
      exact ⟨g1, fun i x hx => by rw [k22]; exact g2 i x hx⟩
    · rw [if_neg hca]
      have kc : ∀ t j, M1 (t, n, c) j = M (t, n, c) j := fun t j => g3 _ _ (fun e => hca (Prod.mk.inj (Prod.mk.inj e).2).2) (fun e => hca (Prod.mk.inj (Prod.mk.inj e.1).2).2)
      exact ⟨by rw [kc]; exact (hQ c hc).1, fun i x hx => by rw [k22, kc]; exact (hQ c hc).2 i x hx⟩
  have fin : ∀ (C : Nat → Nat) (M' : am_M), nwC b C → nwF n C M' → (∀ j, j ≠ 3 → (∀ q f, q < 16 → f = 4 ∨ f = 8 ∨ f = 10 → j ≠ 60 + 19 * q + f) → ml_mv b m j = C j) → (∀ x, M' (24, n, x) 5 = M3 (24, n, x) 5) → nw1 n (ml_mv b m) M' := by
    intro C M' hC hF' hmv hp
    refine ⟨hF'.to (hC.symm.tr nwC.mv) (fun t k j hG => hmv _ (nwI_ne3 (hC.E.mp hG)) (fun q f hq hf => nwI_ne hS (hC.E.mp hG) hq hf)), fun x hx => ?_⟩
    rw [ml_mv_ne (j := 2) (by omega) (by omega)] at hx
    rw [hp]
    by_cases hxm : x = m
    · subst hxm
      rw [k5]
      unfold nw_pl
      rw [ml_mv_10, if_neg (by omega), ml_mv_ne (by omega) (by omega), mp]
    · rw [kpl x hxm, h1.2 x hx]
      unfold nw_pl
      rw [ml_mv_ne (by omega) (by omega), ml_mv_ne (by omega) (by omega), ml_mv_ne (by omega) (by omega)]
  have hmr : m ∉ ar := fun z => by have := ((hr.2 m).mp z).2; omega
  have hmq : ∀ c, c < b 1 → c ≠ b (60 + 19 * m + 2) → m ∉ q c := fun c hc hca z => hca (((hq c hc).2 m).mp z).2.2.symm
  rw [b51_24 hn hm16, k2]
  by_cases hf : ml_next b m = b (60 + 19 * m + 1)
  · have hal : ar.length < 16 := by
      have := nc_len (l := m :: ar) (n := b 2) (List.nodup_cons.mpr ⟨hmr, hr.1.nodup⟩) (fun x hx => by
        rcases List.mem_cons.mp hx with rfl | hx
        · exact m2
        · exact ((hr.2 x).mp hx).1)
      simp at this
      omega
    have h7 : M3 (13, n, 0) 7 = nI ar.length := by rw [kk 13 0 7 (by decide) (by decide) (fun e => by omega)]; exact hR.1
    rw [if_pos (by rw [kt, hf]), k52 hn hm16 hal h7]
    simp (disch := omega) only [am_cb_i, am_cb_e, Option.toList_some, Option.toList_none, List.cons_append, List.nil_append]
    rw [b51_41 hn hm16, b51_68 hn hm16]
    have c6 : nwC b (nu (nu (nu (nu b (60 + 19 * m + 2) (ml_next b m)) (60 + 19 * m + 5) 0) (60 + 19 * m + 9) 1) (60 + 19 * m + 6) 1) := c5.nu (by omega) (by omega) (by intros; omega) s2
    have F6 := nwF.set (t := 24) (k := m) (j := 3) (v := 1) hS c5 F3 ⟨m2, by decide, by decide⟩ c6
    refine ⟨_, rfl, fin _ _ c6 (nwF.out (nwF.out F6 (fun t k e hG => by obtain ⟨rfl, -⟩ := Prod.mk.inj e; exact hG)) (fun t k e hG => by obtain ⟨rfl, -⟩ := Prod.mk.inj e; have := hG.2; omega)) (fun j j3 hj => ?_) (fun x => by rw [as_t (by decide), as_t (by decide), as_j (by decide)]), fun c hc => ?_, ?_, ((fo3.set (by omega)).set (by omega)).set (by omega)⟩
    · have j8 := hj m 8 hm16 (by omega)
      have j10 := hj m 10 hm16 (by omega)
      unfold ml_mv
      rw [nu_ne j3, nu_ne j8, if_pos hf]
      show _ = nu (nu (nu (nu b (60 + 19 * m + 2) (ml_next b m)) (60 + 19 * m + 5) 0) (60 + 19 * m + 9) 1) (60 + 19 * m + 6) 1 j
      by_cases j6 : j = 60 + 19 * m + 6
      · subst j6; rw [nu_eq, nu_eq]
      · rw [nu_ne j6, nu_ne j6]
        by_cases j9 : j = 60 + 19 * m + 9
        · subst j9; rw [nu_eq, nu_ne (by omega), nu_ne (by omega)]; exact mh
        · rw [nu_ne j9]
          by_cases j5 : j = 60 + 19 * m + 5
          · subst j5; rw [nu_eq, nu_ne (by omega), nu_ne (by omega)]; exact mr
          · rw [nu_ne j5]
            by_cases j2 : j = 60 + 19 * m + 2
            · subst j2; rw [nu_eq, nu_eq]
            · rw [nu_ne j2, nu_ne j2, nu_ne j10]
    · have hlc : lq b m q c = (if c = b (60 + 19 * m + 2) then fl m (q c) else q c) := by
        unfold lq
        rw [if_neg (c := ml_next b m ≠ b (60 + 19 * m + 1) ∧ c = ml_next b m) (fun z => z.1 hf), List.append_nil]
      rw [hlc, as_t (by decide), as_t (by decide), as_t (by decide)]
      exact ⟨(Q3 c hc).1, fun i x hx => by rw [as_t (by decide), as_t (by decide), as_t (by decide)]; exact (Q3 c hc).2 i x hx⟩
    · have hla : lr b m ar = ar ++ [m] := by unfold lr; rw [if_pos hf]
      rw [hla]
      refine ⟨by rw [as_eq, List.length_append]; rfl, fun i x hx => ?_⟩
      rw [as_t (by decide)]
      rcases Nat.lt_or_ge i ar.length with hi | hi
      · rw [List.getElem?_append_left hi] at hx
        rw [as_j (by omega), as_t (by decide), kk 18 0 i (by decide) (by decide) (fun e => by omega)]
        exact hR.2 i x hx
      · rw [List.getElem?_append_right hi] at hx
        have hi2 : i = ar.length := by
          have := (List.getElem?_eq_some_iff.mp hx).1
          simp at this
          omega
        subst hi2
        simp at hx
        subst hx
        exact as_eq _ _ _ _
  · have hcq := hq _ hnx1
    have hal : (q (ml_next b m)).length < 16 := by
      have := nc_len (l := m :: q (ml_next b m)) (n := b 2) (List.nodup_cons.mpr ⟨hmq _ hnx1 hnn, hcq.1.nodup⟩) (fun x hx => by
        rcases List.mem_cons.mp hx with rfl | hx
        · exact m2
        · exact ((hcq.2 x).mp hx).1)
      simp at this
      omega
    have hQn := Q3 _ hnx1
    rw [if_neg hnn] at hQn
    have h6 : M3 (21, n, ml_next b m) 6 = nI (q (ml_next b m)).length := hQn.1
    rw [if_neg (by rw [kt, nI_eqI (by omega) (by omega)]; exact hf), k35n hn F3 (by rw [c5.1]; exact s1) (by rw [c5.1]; exact hnx1)]
    simp (disch := omega) only [am_cb_i, am_cb_e, Option.toList_some, Option.toList_none, List.cons_append, List.nil_append]
    rw [b51_52 hn hm16, if_neg (show ¬ nI 1 = 0 by decide), k2, if_pos (by rw [am_inT (by omega) hnx]; trivial), nI_clamp (by omega), k19 hn hnx hal h6]
    simp (disch := omega) only [am_cb_i, am_cb_e, Option.toList_some, Option.toList_none, List.cons_append, List.nil_append]
    rw [b51_68 hn hm16]
    refine ⟨_, rfl, fin _ _ c5 (nwF.out (nwF.out F3 (fun t k e hG => by obtain ⟨rfl, -⟩ := Prod.mk.inj e; exact hG)) (fun t k e hG => by obtain ⟨rfl, -⟩ := Prod.mk.inj e; have := hG.2; omega)) (fun j j3 hj => ?_) (fun x => by rw [as_t (by decide), as_t (by decide)]), fun c hc => ?_, ?_, (fo3.set (by omega)).set (by omega)⟩
    · have j8 := hj m 8 hm16 (by omega)
      have j10 := hj m 10 hm16 (by omega)
      unfold ml_mv
      rw [nu_ne j3, nu_ne j8, if_neg hf]
      by_cases j6 : j = 60 + 19 * m + 6
      · subst j6
        rw [nu_eq, nu_ne (by omega), nu_ne (by omega), nu_ne (by omega)]
      · rw [nu_ne j6]
        by_cases j9 : j = 60 + 19 * m + 9
        · subst j9; rw [nu_eq, nu_ne (by omega), nu_ne (by omega)]; exact mh
        · rw [nu_ne j9]
          by_cases j5 : j = 60 + 19 * m + 5
          · subst j5; rw [nu_eq, nu_ne (by omega), nu_ne (by omega)]; exact mr
          · rw [nu_ne j5]
            by_cases j2 : j = 60 + 19 * m + 2
            · subst j2; rw [nu_eq, nu_eq]
            · rw [nu_ne j2, nu_ne j2, nu_ne j10]
    · by_cases hcn : c = ml_next b m
      · subst hcn
        have hlc : lq b m q (ml_next b m) = q (ml_next b m) ++ [m] := by
          unfold lq
          rw [if_neg hnn, if_pos ⟨hf, rfl⟩]
        rw [hlc, as_eq]
        refine ⟨by rw [List.length_append]; rfl, fun i x hx => ?_⟩
        rw [as_t (by decide)]
        rcases Nat.lt_or_ge i (q (ml_next b m)).length with hi | hi
        · rw [List.getElem?_append_left hi] at hx
          rw [as_j (by omega)]
          exact hQn.2 i x hx
        · rw [List.getElem?_append_right hi] at hx
          have hi2 : i = (q (ml_next b m)).length := by
            have := (List.getElem?_eq_some_iff.mp hx).1
            simp at this
            omega
          subst hi2
          simp at hx
          subst hx
          exact as_eq _ _ _ _
      · have hlc : lq b m q c = (if c = b (60 + 19 * m + 2) then fl m (q c) else q c) := by
          unfold lq
          rw [if_neg (c := ml_next b m ≠ b (60 + 19 * m + 1) ∧ c = ml_next b m) (fun z => hcn z.2), List.append_nil]
        rw [hlc, as_k hcn, as_t (by decide)]
        exact ⟨(Q3 c hc).1, fun i x hx => by rw [as_t (by decide), as_k hcn]; exact (Q3 c hc).2 i x hx⟩
    · have hla : lr b m ar = ar := by unfold lr; rw [if_neg hf, List.append_nil]
      rw [hla]
      exact ⟨by rw [as_t (by decide), as_t (by decide)]; rw [kk 13 0 7 (by decide) (by decide) (fun e => by omega)]; exact hR.1, fun i x hx => by rw [as_t (by decide), as_t (by decide), kk 18 0 i (by decide) (by decide) (fun e => by omega)]; exact hR.2 i x hx⟩
end Kp3
