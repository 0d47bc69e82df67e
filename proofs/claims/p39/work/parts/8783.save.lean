/-! SAVE, RESTORE, A LETTER MORE: BOTH SIDES -/
section Ksa
variable {d B : Nat} {M M' : am_M} {a b : Nat → Nat} {w : am_W4} {hs : List (Nat → Nat)} {sv : Option (Nat → Nat)} {tx ln : List Int32} {R : Int32 × Int32 × Int32} {e : Int32}
theorem k108 (hok : ml_ok B a) (h : clS a hs sv tx R e ln M) : ∃ M', am_ev (d + 3) 108 [am_P (3, 0, 0)] M (am_Z w) = some (.inl (some (am_I (nI (a 0)))), M', am_Z w) ∧ clS a hs (some a) tx R e ln M' ∧ clF M M' := by
  obtain ⟨⟨ar, hA⟩, ⟨sr, s1, s2, s3, s4, s5⟩, hV, hT, hR⟩ := h
  obtain ⟨M2, u1, u2, u3⟩ := k34 (d := d) (n := 2) (n2 := 0) (M := M) (w := w) (by decide) (by omega) (by omega) hok hA
  have hA2 : nw 0 a M2 ar := hA.mem (fun t k j _ _ _ _ => u3 _ _ (Or.inl (by show (0 : Nat) ≠ 2; decide)))
  have lo : ∀ (l : am_L) (j : Nat), l.1 < 13 → ¬ (l = (3, 0, 0) ∧ j = 3) → am_set M2 (3, 0, 0) 3 (nI 1) l j = M l j := fun l j hl h3 => by rw [as_ne h3, u3 l j (Or.inr (Or.inl hl))]
  have hN : ∀ n b, n ≠ 2 → clN n b M → clN n b (am_set M2 (3, 0, 0) 3 (nI 1)) := fun n b n0 hb => (hb.cF u3.cF n0).mem (fun t k j g1 g2 => as_t (by omega))
  have n3 : ∀ t j : Nat, t ≠ 3 → ¬ (((t, 0, 0) : am_L) = (3, 0, 0) ∧ j = 3) := fun t j ht q => pl_t ht q.1
  have c2 : clN 2 a M2 := ⟨ar, u2⟩
  rw [e108, u1]
  simp only [am_cb_i, am_cb_e, Option.toList_some, Option.toList_none, List.cons_append, List.nil_append, b108_11, b108_16]
  rw [as_t (by decide), hA2.1.1.hour]
  exact ⟨_, rfl, ⟨hN 0 a (by decide) ⟨ar, hA⟩, ⟨sr, s1, (lo _ _ (by decide) (n3 4 1 (by decide))).trans s2, (lo _ _ (by decide) (n3 4 2 (by decide))).trans s3, s4, fun i g hi => hN _ g (by omega) (s5 i g hi)⟩, ⟨as_eq _ _ _ _, fun b hb => by
    have : a = b := Option.some.inj hb
    subst this
    exact c2.mem (fun t k j g1 g2 => as_t (by omega))⟩, hT.fr (lo _ _ (by decide) (n3 8 1 (by decide))) (fun j => lo _ _ (by decide) (n3 9 j (by decide))) (fun j hj => lo _ _ (by decide) (fun q => by omega)) (fun j => lo _ _ (by decide) (n3 12 j (by decide))), ⟨(lo _ _ (by decide) (n3 6 0 (by decide))).trans hR.1, (lo _ _ (by decide) (n3 6 1 (by decide))).trans hR.2.1, (lo _ _ (by decide) (n3 6 2 (by decide))).trans hR.2.2⟩⟩, u3.clF.set (by decide)⟩
theorem k109n (h : clS a hs none tx R e ln M) : am_ev (d + 1) 109 [am_P (3, 0, 0)] M (am_Z w) = some (.inr 4, M, am_Z (am_bw w)) := by
  rw [e109, h.2.2.1.1, if_pos (show nI ((none : Option (Nat → Nat)).isSome.toNat) = 0 from rfl)]
theorem k109s (hok : ml_ok B b) (h : clS a hs (some b) tx R e ln M) : ∃ M', am_ev (d + 3) 109 [am_P (3, 0, 0)] M (am_Z w) = some (.inl (some (am_I (nI (b 0)))), M', am_Z w) ∧ clS (mix a b) [] (some b) tx R e ln M' ∧ clF M M' := by
  obtain ⟨_, ⟨sr, s1, s2, s3, s4, s5⟩, hV, hT, hR⟩ := h
  obtain ⟨ar, hA⟩ := hV.2 b rfl
  obtain ⟨M2, u1, u2, u3⟩ := k34 (d := d) (n := 0) (n2 := 2) (M := M) (w := w) (by decide) (by omega) (by omega) hok hA
  have lo : ∀ (l : am_L) (j : Nat), l.1 < 13 → ¬ (l = (4, 0, 0) ∧ j = 2) → am_set M2 (4, 0, 0) 2 (nI 0) l j = M l j := fun l j hl h3 => by rw [as_ne h3, u3 l j (Or.inr (Or.inl hl))]
  have n3 : ∀ t j : Nat, t ≠ 4 → ¬ (((t, 0, 0) : am_L) = (4, 0, 0) ∧ j = 2) := fun t j ht q => pl_t ht q.1
  have hb2 : clN 2 b M2 := clN.cF ⟨ar, hA⟩ u3.cF (by decide)
  rw [e109, hV.1, if_neg (show ¬ nI ((some b).isSome.toNat) = 0 from nI_ne0 (n := 1) (by decide) (by decide)), u1]
  simp only [am_cb_i, am_cb_e, Option.toList_some, Option.toList_none, List.cons_append, List.nil_append, b109_26, b109_34]
  rw [as_t (by decide), u2.1.1.hour]
  exact ⟨_, rfl, ⟨⟨ar, (u2.mem (fun t k j g1 g2 _ _ => as_t (by omega))).cg hok (fun j hj => mix_lt hj)⟩, ⟨sr, s1, (lo _ _ (by decide) (fun q => by omega)).trans s2, as_eq _ _ _ _, Nat.zero_le _, fun i g hi => by simp at hi⟩, ⟨(lo _ _ (by decide) (n3 3 3 (by decide))).trans hV.1, fun c hc => by
    have : b = c := Option.some.inj hc
    subst this
    exact hb2.mem (fun t k j g1 g2 => as_t (by omega))⟩, hT.fr (lo _ _ (by decide) (n3 8 1 (by decide))) (fun j => lo _ _ (by decide) (n3 9 j (by decide))) (fun j hj => lo _ _ (by decide) (n3 3 j (by decide))) (fun j => lo _ _ (by decide) (n3 12 j (by decide))), ⟨(lo _ _ (by decide) (n3 6 0 (by decide))).trans hR.1, (lo _ _ (by decide) (n3 6 1 (by decide))).trans hR.2.1, (lo _ _ (by decide) (n3 6 2 (by decide))).trans hR.2.2⟩⟩, u3.clF.set (by decide)⟩
/-- letters and one more -/
theorem mlX.snoc {l : am_L} {f : Nat} {x : Int32} (h : mlX l f tx M) (h1 : M' (30, 0, 0) f = nI (tx.length + 1)) (h2 : M' l tx.length = x) (h3 : ∀ i, i < tx.length → M' l i = M l i) : mlX l f (tx ++ [x]) M' := by
  refine ⟨by rw [h1, List.length_append]; rfl, fun i c hc => ?_⟩
  rcases Nat.lt_or_ge i tx.length with hi | hi
  · rw [List.getElem?_append_left hi] at hc
    rw [h3 i hi]
    exact h.2 i c hc
  · rw [List.getElem?_append_right hi] at hc
    have hi2 : i - tx.length = 0 := by
      rcases Nat.eq_zero_or_pos (i - tx.length) with z | z
      · exact z
      · rw [List.getElem?_eq_none (by rw [List.length_singleton]; omega)] at hc
        exact absurd hc (by simp)
    rw [hi2] at hc
    have : x = c := Option.some.inj hc
    rw [show i = tx.length by omega, h2, this]
theorem k98f {x : Int32} (h : clS a hs sv tx R e ln M) (hl : tx.length = 60) : am_ev (d + 1) 98 [am_P (3, 0, 0), am_I x] M (am_Z w) = some (.inr 4, M, am_Z (am_bw w)) := by
  rw [e98, h.2.2.2.1.1.1, if_neg (nI_nlt (by omega) (by omega))]
theorem k98s {x : Int32} (h : clS a hs sv tx R e ln M) (hl : tx.length < 60) : ∃ M', am_ev (d + 2) 98 [am_P (3, 0, 0), am_I x] M (am_Z w) = some (.inl (some (am_I (nI (tx.length + 1)))), M', am_Z w) ∧ clS a hs sv (tx ++ [vp_nar .char x]) R e ln M' ∧ clF M M' := by
  have hl1 := h.2.2.2.1.1.1
  rw [e98, hl1, if_pos (nI_lt hl (by omega)), e3, hl1, if_pos (nI_lt hl (by omega)), if_pos (by rw [am_inT (by omega) (by omega)]; trivial), nI_clamp (by omega), b3_19, as_ne (fun q => pl_t (by decide) q.1), hl1, nI_add]
  simp only [am_cb_i, am_cb_e, Option.toList_some, Option.toList_none, List.cons_append, List.nil_append, b98_28]
  rw [as_eq]
  obtain ⟨hA, ⟨sr, s1, s2, s3, s4, s5⟩, hV, hT, hR⟩ := h
  have lo : ∀ (t k m j : Nat), t ≠ 8 → t ≠ 9 → am_set (am_set M (9, 0, 0) tx.length (vp_nar .char x)) (8, 0, 0) 1 (nI (tx.length + 1)) (t, k, m) j = M (t, k, m) j := fun t k m j q1 q2 => by rw [as_ne (fun q => pl_t q1 q.1), as_ne (fun q => pl_t q2 q.1)]
  have hN : ∀ n b, clN n b M → clN n b (am_set (am_set M (9, 0, 0) tx.length (vp_nar .char x)) (8, 0, 0) 1 (nI (tx.length + 1))) := fun n b hb => hb.mem (fun t k j g1 g2 => lo t n k j (by omega) (by omega))
  refine ⟨_, rfl, ⟨hN 0 a hA, ⟨sr, s1, (lo 4 0 0 1 (by decide) (by decide)).trans s2, (lo 4 0 0 2 (by decide) (by decide)).trans s3, s4, fun i g hi => hN _ g (s5 i g hi)⟩, ⟨(lo 3 0 0 3 (by decide) (by decide)).trans hV.1, fun b hb => hN 2 b (hV.2 b hb)⟩, ⟨⟨by rw [as_eq, List.length_append]; rfl, fun i c hc => ?_⟩, (lo 3 0 0 8 (by decide) (by decide)).trans hT.2.1, (lo 3 0 0 10 (by decide) (by decide)).trans hT.2.2.1, fun i c hc => (lo 12 0 0 i (by decide) (by decide)).trans (hT.2.2.2 i c hc)⟩, ⟨(lo 6 0 0 0 (by decide) (by decide)).trans hR.1, (lo 6 0 0 1 (by decide) (by decide)).trans hR.2.1, (lo 6 0 0 2 (by decide) (by decide)).trans hR.2.2⟩⟩, ((clF.rf M).set (by decide)).set (by decide)⟩
  rw [as_ne (fun q => pl_t (by decide) q.1)]
  rcases Nat.lt_or_ge i tx.length with hi | hi
  · rw [List.getElem?_append_left hi] at hc
    rw [as_j (by omega)]
    exact hT.1.2 i c hc
  · rw [List.getElem?_append_right hi] at hc
    have hi2 : i - tx.length = 0 := by
      rcases Nat.eq_zero_or_pos (i - tx.length) with z | z
      · exact z
      · rw [List.getElem?_eq_none (by rw [List.length_singleton]; omega)] at hc
        exact absurd hc (by simp)
    rw [hi2] at hc
    have : vp_nar .char x = c := Option.some.inj hc
    rw [show i = tx.length by omega, as_eq, this]
end Ksa
