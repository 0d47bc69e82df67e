/-! QUESTIONS: A VALUE, OR AN EXCEPTION E AND ITS CODE k -/
abbrev Qo := Int32 ⊕ (Nat × Nat)
section Kq1
variable {d B : Nat} {M M' M0 : am_M} {a : Nat → Nat} {w : am_W4} {hs : List (Nat → Nat)} {sv : Option (Nat → Nat)} {tx ln : List Int32} {R : Int32 × Int32 × Int32} {e : Int32}
def mlQ (a : Nat → Nat) (hs : List (Nat → Nat)) (sv : Option (Nat → Nat)) (tx : List Int32) (R : Int32 × Int32 × Int32) (e : Int32) (ln : List Int32) (M : am_M) (w : am_W4) (r : Option am_R) : Qo → Prop
  | .inl v => ∃ M', r = some (.inl (some (am_I v)), M', am_Z w) ∧ mlS a hs sv tx R e ln M' ∧ M' (30, 0, 0) 20 = nI 0 ∧ mF M M'
  | .inr (_, k) => ∃ M', r = some (.inl (some (am_I (nI 0))), M', am_Z w) ∧ mlS a hs sv tx R e ln M' ∧ M' (30, 0, 0) 20 = nI k ∧ mF M M'
def clQ (M : am_M) (w : am_W4) (r : Option am_R) : Qo → Prop
  | .inl v => r = some (.inl (some (am_I v)), M, am_Z w)
  | .inr (E, _) => r = some (.inr E, M, am_Z (am_bw w))
/-- where a question begins on the reference's side -/
def mq0 (a : Nat → Nat) (hs : List (Nat → Nat)) (sv : Option (Nat → Nat)) (tx : List Int32) (R : Int32 × Int32 × Int32) (e : Int32) (ln : List Int32) (M M0 : am_M) : Prop := mlS a hs sv tx R e ln (am_pA M0 a) ∧ am_pA M0 a (30, 0, 0) 20 = nI 0 ∧ mF M (am_pA M0 a)
theorem mlS.q0 (h : mlS a hs sv tx R e ln M) : ∃ M0, am_set M (30, 0, 0) 20 (nI 0) = am_pA M0 a ∧ mq0 a hs sv tx R e ln M M0 := by
  have h0 := h.out (l := (30, 0, 0)) (i := 20) (x := nI 0) (by simp)
  refine ⟨am_set M (30, 0, 0) 20 (nI 0), (am_pA_self h0.1).symm, ?_, ?_, ?_⟩
  · rw [am_pA_self h0.1]; exact h0
  · rw [am_pA_self h0.1]; exact as_eq _ _ _ _
  · rw [am_pA_self h0.1]; exact (mF.rf M).set (by decide)
theorem mq0.v {v : Int32} (h : mq0 a hs sv tx R e ln M M0) : mlQ a hs sv tx R e ln M w (some (.inl (some (am_I v)), am_pA M0 a, am_Z w)) (.inl v) := ⟨_, rfl, h⟩
theorem mq0.t {E k : Nat} (h : mq0 a hs sv tx R e ln M M0) : mlQ a hs sv tx R e ln M w (some (.inl (some (am_I (nI 0))), am_set (am_pA M0 a) (30, 0, 0) 20 (nI k), am_Z w)) (.inr (E, k)) := ⟨_, rfl, h.1.out (by simp), as_eq _ _ _ _, h.2.2.set (by decide)⟩
theorem mlQ.ite {p : Prop} [Decidable p] {r1 r2 : Option am_R} {o1 o2 : Qo} (h1 : p → mlQ a hs sv tx R e ln M w r1 o1) (h2 : ¬ p → mlQ a hs sv tx R e ln M w r2 o2) : mlQ a hs sv tx R e ln M w (if p then r1 else r2) (if p then o1 else o2) := by
  by_cases h : p
  · rw [if_pos h, if_pos h]; exact h1 h
  · rw [if_neg h, if_neg h]; exact h2 h
theorem clQ.ite {p : Prop} [Decidable p] {r1 r2 : Option am_R} {o1 o2 : Qo} (h1 : p → clQ M w r1 o1) (h2 : ¬ p → clQ M w r2 o2) : clQ M w (if p then r1 else r2) (if p then o1 else o2) := by
  by_cases h : p
  · rw [if_pos h, if_pos h]; exact h1 h
  · rw [if_neg h, if_neg h]; exact h2 h
def q_psl (a : Nat → Nat) (x : Int32) : Qo := if am_bt x 1 8 then .inl (nI (a (3 + cN x))) else .inr (2, 1)
theorem k77 {x : Int32} (h : clS a hs sv tx R e ln M) : clQ M w (am_ev (d + 2) 77 [am_P (3, 0, 0), am_I x] M (am_Z w)) (q_psl a x) := by
  obtain ⟨⟨ar, hA⟩, _⟩ := h
  rw [e77, k231x]
  simp only [am_cb_i, am_cb_e, Option.toList_some, Option.toList_none, List.cons_append, List.nil_append]
  rw [b77_4]
  unfold q_psl
  by_cases hx : am_bt x 1 8
  · rw [if_neg (dT hx), if_pos hx]
    obtain ⟨x, hx1, hx8, rfl⟩ := bt_nI (by omega) (by omega) hx
    rw [if_pos (by rw [am_inT (by omega) (by omega)]; trivial), nI_clamp (by omega), hA.1.1.ps hx1 hx8, cN_nI (by omega)]
    rfl
  · rw [if_pos (dF hx), if_neg hx]
    rfl
def q_rng (a : Nat → Nat) (x y : Int32) : Qo := if am_in x (a 1 - 1) then if am_bt y 0 1 then .inl (nI (a (48 + 2 * cN x + cN y))) else .inr (2, 2) else .inr (1, 1)
theorem k83 {x : Int32} {ar : List Nat} (hok : ml_ok B a) (h : nw 0 a M ar) : am_ev (d + 2) 83 [am_P (3, 0, 0), am_I x] M (am_Z w) = if am_in x (a 1 - 1) then some (.inl (some (am_P (23, 0, cN x))), M, am_Z w) else some (.inr 1, M, am_Z (am_bw w)) := by
  have b1 := hok.1.1
  rw [e83, k36 (by decide) h.1.1 b1]
  simp only [am_cb_i, am_cb_e, Option.toList_some, Option.toList_none, List.cons_append, List.nil_append, b83_8]
  by_cases hx : am_in x (a 1 - 1)
  · obtain ⟨x, hx', hx2, rfl⟩ := in_nI hx
    rw [if_neg (dT hx), if_pos hx, if_pos (by rw [am_inT (by omega) (by omega)]; trivial)]
    rfl
  · rw [if_pos (dF hx), if_neg hx]
theorem k82 {x : Int32} {ar : List Nat} (hok : ml_ok B a) (h : nw 0 a M ar) : am_ev (d + 2) 82 [am_P (3, 0, 0), am_I x] M (am_Z w) = if am_in x (a 1) then some (.inl (some (am_P (21, 0, cN x))), M, am_Z w) else some (.inr 1, M, am_Z (am_bw w)) := by
  have b1 := hok.1.1
  rw [e82, k35 (by decide) h.1.1 b1]
  simp only [am_cb_i, am_cb_e, Option.toList_some, Option.toList_none, List.cons_append, List.nil_append, b82_8]
  by_cases hx : am_in x (a 1)
  · obtain ⟨x, hx', hx2, rfl⟩ := in_nI hx
    rw [if_neg (dT hx), if_pos hx, if_pos (by rw [am_inT (by omega) (by omega)]; trivial)]
    rfl
  · rw [if_pos (dF hx), if_neg hx]
theorem k93 {x : Int32} {ar : List Nat} (hok : ml_ok B a) (h : nw 0 a M ar) : am_ev (d + 2) 93 [am_P (3, 0, 0), am_I x] M (am_Z w) = if am_in x (a 2) then some (.inl (some (am_P (24, 0, cN x))), M, am_Z w) else some (.inr 1, M, am_Z (am_bw w)) := by
  have b1 := hok.1.2.1
  rw [e93, k37 (by decide) h.1.1 b1]
  simp only [am_cb_i, am_cb_e, Option.toList_some, Option.toList_none, List.cons_append, List.nil_append, b93_8]
  by_cases hx : am_in x (a 2)
  · obtain ⟨x, hx', hx2, rfl⟩ := in_nI hx
    rw [if_neg (dT hx), if_pos hx, if_pos (by rw [am_inT (by omega) (by omega)]; trivial)]
    rfl
  · rw [if_pos (dF hx), if_neg hx]
theorem k76 {x y : Int32} (hok : ml_ok B a) (h : clS a hs sv tx R e ln M) : clQ M w (am_ev (d + 3) 76 [am_P (3, 0, 0), am_I x, am_I y] M (am_Z w)) (q_rng a x y) := by
  obtain ⟨⟨ar, hA⟩, _⟩ := h
  have b1 := hok.1.1
  rw [e76, k83 hok hA]
  unfold q_rng
  by_cases hx : am_in x (a 1 - 1)
  · obtain ⟨x, hx', hx2, rfl⟩ := in_nI hx
    rw [if_pos hx, if_pos hx, cN_nI hx2]
    simp only [am_cb_i, am_cb_e, Option.toList_some, Option.toList_none, List.cons_append, List.nil_append]
    rw [b76_5 (by omega)]
    by_cases hy : am_bt y 0 1
    · obtain ⟨y, _, hy1, rfl⟩ := bt_nI (by omega) (by omega) hy
      rw [if_pos hy, cN_nI (by omega)]
      have : y = 0 ∨ y = 1 := by omega
      rcases this with rfl | rfl
      · rw [if_pos rfl, hA.1.1.rl (by omega)]; rfl
      · rw [if_neg (by decide), if_pos rfl, hA.1.1.rw (by omega)]; rfl
    · rw [if_neg hy, if_neg (fun q => hy (by rw [q]; exact (bt_P (by omega) (by omega) (by omega)).mpr (by omega))), if_neg (fun q => hy (by rw [q]; exact (bt_P (by omega) (by omega) (by omega)).mpr (by omega)))]
      rfl
  · rw [if_neg hx, if_neg hx]
    rfl
def q_sig (a : Nat → Nat) (x y : Int32) : Qo := if am_in x (a 2) then if am_in y (a (60 + 19 * cN x + 3)) then .inl (nI (a (60 + 19 * cN x + (11 + cN y)))) else .inr (1, 1) else .inr (1, 1)
theorem k86 {x y : Int32} (hok : ml_ok B a) (h : clS a hs sv tx R e ln M) : clQ M w (am_ev (d + 3) 86 [am_P (3, 0, 0), am_I x, am_I y] M (am_Z w)) (q_sig a x y) := by
  obtain ⟨⟨ar, hA⟩, _⟩ := h
  have b2 := hok.1.2.1
  rw [e86, k93 hok hA]
  unfold q_sig
  by_cases hx : am_in x (a 2)
  · obtain ⟨x, hx', hx2, rfl⟩ := in_nI hx
    have w3 := (hok.2 x hx').2.2.2.2.1
    rw [if_pos hx, if_pos hx, cN_nI hx2]
    simp only [am_cb_i, am_cb_e, Option.toList_some, Option.toList_none, List.cons_append, List.nil_append]
    rw [b86_5 (by omega), hA.1.1.mny hx']
    by_cases hy0 : y < 0
    · rw [if_pos hy0, if_neg (fun q => (am_in_iff.mp q).1 hy0)]; rfl
    · rw [if_neg hy0]
      obtain ⟨y, hy2, rfl⟩ := nI_of hy0
      by_cases hl : y < a (60 + 19 * x + 3)
      · rw [if_pos (nI_lt hl (by omega)), if_pos (by rw [am_inT (by omega) (by omega)]; trivial), if_pos ((am_inP hy2).mpr hl), nI_clamp (by omega), hA.1.1.sg hx' hl, cN_nI hy2]
        rfl
      · rw [if_neg (nI_nlt (by omega) hy2), if_neg (fun q => hl ((am_inP hy2).mp q))]; rfl
  · rw [if_neg hx, if_neg hx]
    rfl
theorem k100 (h : clS a hs sv tx R e ln M) : clQ M w (am_ev (d + 1) 100 [am_P (3, 0, 0)] M (am_Z w)) (.inl e) := by
  rw [e100, h.2.2.2.1.2.1]
  rfl
def q_why (R : Int32 × Int32 × Int32) (x : Int32) : Qo := if am_bt x 0 2 then if R.1 = 0 then .inr (3, 2) else .inl (if x = nI 0 then R.1 else if x = nI 1 then R.2.1 else R.2.2) else .inr (2, 1)
theorem k101 {x : Int32} (h : clS a hs sv tx R e ln M) : clQ M w (am_ev (d + 1) 101 [am_P (3, 0, 0), am_I x] M (am_Z w)) (q_why R x) := by
  have hR := h.2.2.2.2
  rw [e101, hR.1, hR.2.1, hR.2.2]
  unfold q_why
  by_cases h0 : x < 0
  · rw [if_pos h0, if_neg (fun q => q.1 h0)]; rfl
  · rw [if_neg h0]
    by_cases h2 : nI 2 < x
    · rw [if_pos h2, if_neg (fun q => q.2 h2)]; rfl
    · rw [if_neg h2, if_pos (c := am_bt x 0 2) ⟨h0, h2⟩]
      by_cases h0 : R.1 = 0
      · rw [if_pos h0, if_pos h0]; rfl
      · rw [if_neg h0, if_neg h0]
        by_cases x0 : x = nI 0
        · rw [if_pos x0, if_pos x0]; rfl
        · rw [if_neg x0, if_neg x0]
          by_cases x1 : x = nI 1
          · rw [if_pos x1, if_pos x1]; rfl
          · rw [if_neg x1, if_neg x1]; rfl
end Kq1
