/-! UNDO, SAVE, RESTORE, A LETTER MORE: BOTH SIDES -/
def mix (a b : Nat → Nat) : Nat → Nat := fun j => if j < 364 then b j else a j
theorem mix_lt {a b : Nat → Nat} {j : Nat} (h : j < 364) : mix a b j = b j := if_pos h
theorem ml_ok.cg {B : Nat} {a b : Nat → Nat} (h : ml_ok B a) (e : ∀ j, j < 364 → b j = a j) : ml_ok B b := by
  obtain ⟨⟨b1, b2, b3, b4, b5, b6, b7⟩, hw⟩ := h
  refine ⟨⟨by rw [e 1 (by omega)]; exact b1, by rw [e 2 (by omega)]; exact b2, fun j hj => by rw [e j hj]; exact b3 j hj, fun m f hm hf h7 h8 => by rw [e _ (by omega)]; exact b4 m f hm hf h7 h8, fun c f hc hf => by rw [e _ (by omega)]; exact b5 c f hc hf, fun j h4 h12 => by rw [e _ (by omega)]; exact b6 j h4 h12, fun j h48 h60 => by rw [e _ (by omega)]; exact b7 j h48 h60⟩, fun m hm => ?_⟩
  rw [e 2 (by omega)] at hm
  obtain ⟨g1, g2, g3, g4, g5, g6, g7, g8, g9, g10, g11, g12⟩ := hw m hm
  rw [e 1 (by omega), e (60 + 19 * m + 0) (by omega), e (60 + 19 * m + 1) (by omega), e (60 + 19 * m + 2) (by omega), e (60 + 19 * m + 3) (by omega), e (60 + 19 * m + 4) (by omega), e (60 + 19 * m + 5) (by omega), e (60 + 19 * m + 6) (by omega), e (60 + 19 * m + 9) (by omega), e (60 + 19 * m + 10) (by omega)]
  exact ⟨g1, g2, g3, g4, g5, g6, g7, g8, g9, g10, fun k hk => by rw [e _ (by omega)]; exact g11 k hk, g12⟩
theorem nw.cg {n B : Nat} {a b : Nat → Nat} {M : am_M} {ar : List Nat} (hok : ml_ok B a) (h : nw n a M ar) (e : ∀ j, j < 364 → b j = a j) : nw n b M ar := by
  obtain ⟨⟨h1, h5⟩, q, hQ, hR, hl, hg⟩ := h
  have b2 := hok.1.2.1
  have e1 := e 1 (by omega)
  have e2 := e 2 (by omega)
  have em : ∀ m f, m < a 2 → f < 19 → b (60 + 19 * m + f) = a (60 + 19 * m + f) := fun m f hm hf => e _ (by omega)
  refine ⟨⟨h1.to ⟨e1, e2, fun m hm => em m 3 hm (by omega)⟩ (fun t k j hG => e _ (nwI_lt hok.S hG)), fun m hm => ?_⟩, q, fun c hc => hQ c (by omega), hR, ⟨fun c hc => ?_, ?_, fun m hm => ?_⟩, fun m hm => ?_⟩
  · rw [e2] at hm
    rw [h5 m hm]
    unfold nw_pl
    rw [em m 10 hm (by omega), em m 3 hm (by omega), em m 4 hm (by omega)]
  · rw [e1] at hc
    exact (hl.1 c hc).to e2 (fun m f hm _ => em m f hm (by omega))
  · refine ⟨hl.2.1.1.to (fun x hx => em x 8 ((hl.2.1.2 x).mp hx).1 (by omega)), fun m => ?_⟩
    rw [hl.2.1.2 m, e2]
    constructor
    · rintro ⟨g1, g2⟩; exact ⟨g1, by rw [em m 6 g1 (by omega)]; exact g2⟩
    · rintro ⟨g1, g2⟩; exact ⟨g1, by rw [em m 6 g1 (by omega)] at g2; exact g2⟩
  · rw [e2] at hm
    rw [em m 8 hm (by omega), e 3 (by omega)]
    exact hl.2.2 m hm
  · rw [e2] at hm
    rw [em m 10 hm (by omega)]
    exact hg m hm
section Kun
variable {d B : Nat} {M M' : am_M} {a b : Nat → Nat} {w : am_W4} {hs : List (Nat → Nat)} {sv : Option (Nat → Nat)} {tx ln : List Int32} {R : Int32 × Int32 × Int32} {e : Int32}
/-- the row 'now' is b as far as rows go -/
theorem rc_mix {s : am_L} (h : ∀ j, M (31, 0, 0) j = nI (a j)) (hb : ∀ j, j < 364 → M s j = nI (b j)) : ∀ j, rc M s (31, 0, 0) 364 (31, 0, 0) j = nI (mix a b j) := fun j => by
  unfold rc mix
  by_cases hj : j < 364
  · rw [if_pos ⟨rfl, hj⟩, if_pos hj]; exact hb j hj
  · rw [if_neg (fun q => hj q.2), if_neg hj]; exact h j
def ro (M : am_M) (o i : Nat) : am_M := fun l j => if l = (31, 0, 0) ∧ j < i then M (34, 0, 0) (o + j) else M l j
theorem ro_0 {o : Nat} : ro M o 0 = M := by funext l j; exact if_neg (fun q => by omega)
theorem ro_s {o i : Nat} : am_set (ro M o i) (31, 0, 0) i (ro M o i (34, 0, 0) (o + i)) = ro M o (i + 1) := by
  funext l j
  unfold am_set ro
  rw [if_neg (fun q : ((34, 0, 0) : am_L) = (31, 0, 0) ∧ o + i < i => pl_t (by decide) q.1)]
  by_cases h : l = (31, 0, 0)
  · subst h
    by_cases hj : j = i
    · subst hj; rw [if_pos ⟨rfl, rfl⟩, if_pos ⟨rfl, by omega⟩]
    · rw [if_neg (fun q => hj q.2)]
      by_cases hi : j < i
      · rw [if_pos ⟨rfl, hi⟩, if_pos ⟨rfl, by omega⟩]
      · rw [if_neg (fun q => hi q.2), if_neg (fun q => hi (by have := q.2; omega))]
  · rw [if_neg (fun q => h q.1), if_neg (fun q => h q.1), if_neg (fun q => h q.1)]
theorem k107n (h : clS a [] sv tx R e ln M) : am_ev (d + 1) 107 [am_P (3, 0, 0)] M (am_Z w) = some (.inr 4, M, am_Z (am_bw w)) := by
  obtain ⟨_, ⟨sr, s1, s2, s3, s4, s5⟩, _⟩ := h
  rw [e107, s3, if_pos (show nI ([] : List (Nat → Nat)).length = 0 from rfl)]
theorem k24 {sr kp : Nat} (hs : sr < 9) (hk : kp < 8) (h1 : M (4, 0, 0) 1 = nI sr) (h2 : M (4, 0, 0) 2 = nI (kp + 1)) : ∃ M', am_ev (d + 1) 24 [am_P (4, 0, 0)] M (am_Z w) = some (.inl (some (am_P (13, 3 + (sr + 8) % 9, 0))), M', am_Z w) ∧ M' (4, 0, 0) 1 = nI ((sr + 8) % 9) ∧ M' (4, 0, 0) 2 = nI kp ∧ ∀ l j, l ≠ (4, 0, 0) → M' l j = M l j := by
  have hm := Nat.mod_lt (sr + 8) (show 0 < 9 by decide)
  rw [e24, h1, nI_add, pk_rem (by omega) (by decide) (by decide), b24_14, as_j (by decide), h2, pk_sub (by omega), Nat.add_sub_cancel, b24_24, as_j (by decide), as_eq, if_pos (by rw [am_inT (by omega) (by omega)]; trivial), nI_clamp (by omega), Nat.add_comm _ 3]
  exact ⟨_, rfl, by rw [as_j (by decide), as_eq], as_eq _ _ _ _, fun l j hl => by rw [as_ne (fun q => hl q.1), as_ne (fun q => hl q.1)]⟩
theorem k107s (hok : ml_ok B b) (h : clS a (hs ++ [b]) sv tx R e ln M) : ∃ M', am_ev (d + 3) 107 [am_P (3, 0, 0)] M (am_Z w) = some (.inl (some (am_I (nI hs.length))), M', am_Z w) ∧ clS (mix a b) hs sv tx R e ln M' ∧ clF M M' := by
  obtain ⟨hA, ⟨sr, s1, s2, s3, s4, s5⟩, hV, hT, hR⟩ := h
  rw [List.length_append, List.length_singleton] at s3 s4 s5
  obtain ⟨M1, t1, t2, t3, t4⟩ := k24 (d := d + 1) (w := w) (M := M) (kp := hs.length) s1 (by omega) s2 s3
  rw [e107, s3, if_neg (nI_ne0 (by omega) (by omega)), t1]
  have hm := Nat.mod_lt (sr + 8) (show 0 < 9 by decide)
  obtain ⟨ar, hb⟩ := s5 hs.length b (by rw [List.getElem?_append_right (Nat.le_refl _), Nat.sub_self]; rfl)
  unfold clI at hb
  rw [show (sr + 9 - (hs.length + 1) + hs.length) % 9 = (sr + 8) % 9 by omega] at hb
  have hb1 : nw (3 + (sr + 8) % 9) b M1 ar := hb.mem (fun t k j _ _ _ _ => t4 _ _ (pl_t (by omega)))
  obtain ⟨M2, u1, u2, u3⟩ := k34 (d := d) (n := 0) (n2 := 3 + (sr + 8) % 9) (M := M1) (w := w) (by decide) (by omega) (by omega) hok hb1
  simp only [am_cb_i, am_cb_e, Option.toList_some, Option.toList_none, List.cons_append, List.nil_append]
  rw [b107_29 (by omega), u1]
  simp only [am_cb_i, am_cb_e, Option.toList_some, Option.toList_none, List.cons_append, List.nil_append, b107_32]
  have lo : ∀ (l : am_L) (j : Nat), l.1 < 13 → l ≠ (4, 0, 0) → M2 l j = M l j := fun l j hl h4 => by rw [u3 l j (Or.inr (Or.inl hl)), t4 l j h4]
  have lo4 : ∀ j, M2 (4, 0, 0) j = M1 (4, 0, 0) j := fun j => u3 _ j (Or.inr (Or.inl (by decide)))
  have hN : ∀ n b, n ≠ 0 → clN n b M → clN n b M2 := fun n b n0 hb => (hb.mem (fun t k j g1 g2 => t4 _ _ (pl_t (by omega)))).cF u3.cF n0
  rw [lo4, t3]
  refine ⟨M2, rfl, ⟨⟨ar, u2.cg hok (fun j hj => mix_lt hj)⟩, ⟨(sr + 8) % 9, hm, (lo4 1).trans t2, (lo4 2).trans t3, by omega, fun i g hi => ?_⟩, ⟨(lo _ _ (by decide) (pl_t (by decide))).trans hV.1, fun b hb => hN 2 b (by decide) (hV.2 b hb)⟩, hT.fr (lo _ _ (by decide) (pl_t (by decide))) (fun j => lo _ _ (by decide) (pl_t (by decide))) (fun j _ => lo _ _ (by decide) (pl_t (by decide))) (fun j => lo _ _ (by decide) (pl_t (by decide))), ⟨(lo _ _ (by decide) (pl_t (by decide))).trans hR.1, (lo _ _ (by decide) (pl_t (by decide))).trans hR.2.1, (lo _ _ (by decide) (pl_t (by decide))).trans hR.2.2⟩⟩, fun l j hl => by rw [u3.clF l j hl, t4 l j (fun q => by subst q; dsimp only at hl; omega)]⟩
  have hlt := (List.getElem?_eq_some_iff.mp hi).1
  have g := hN _ g (by omega) (s5 i g (by rw [List.getElem?_append_left hlt]; exact hi))
  unfold clI at g ⊢
  rw [show ((sr + 8) % 9 + 9 - hs.length + i) % 9 = (sr + 9 - (hs.length + 1) + i) % 9 by omega]
  exact g
end Kun
