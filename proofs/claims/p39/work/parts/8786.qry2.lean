/-! QUESTIONS ON A MESSAGE, A CONVENT'S QUEUE -/
section Kq2
variable {d B n : Nat} {M M' M0 : am_M} {a : Nat → Nat} {w : am_W4} {hs : List (Nat → Nat)} {sv : Option (Nat → Nat)} {tx ln : List Int32} {R : Int32 × Int32 × Int32} {e : Int32}
theorem nc_s {P : Nat → Bool} {n : Nat} : nc P (n + 1) = nc P n + (P n).toNat := rfl
theorem ml_ok.f {m : Nat} (hok : ml_ok B a) (hm : m < a 2) : ∀ f, f < 19 → f ≠ 7 → f ≠ 8 → a (60 + 19 * m + f) < 100 := fun f hf h7 h8 => hok.1.2.2.2.1 m f (by have := hok.1.2.1; omega) hf h7 h8
theorem l32 {m : Nat} (hn : n < 12) (hok : ml_ok B a) (h : nwF n a M) (hm : m < a 2) : ∀ r k, k + r = a (60 + 19 * m + 3) → am_rn (am_ev d) 32 4 [some (am_P (24, n, m)), some (am_I (nI (nc (ml_lostP a m) k))), some (am_I (nI k))] [] M (am_Z w) = some (.inl (some (am_I (nI (ml_lost a m)))), M, am_Z w) := by
  have b2 := hok.1.2.1
  have w3 := (hok.2 m hm).2.2.2.2.1
  have wk := (hok.2 m hm).2.2.2.2.2.2.2.2.2.2.1
  intro r
  induction r with
  | zero =>
    intro k hk
    rw [b32_4 hn (by omega), h.mny hm, if_neg (nI_nlt (by omega) (by omega)), show k = a (60 + 19 * m + 3) by omega]
    rfl
  | succ r ih =>
    intro k hk
    have h8 := wk k (by omega)
    rw [b32_4 hn (by omega), h.mny hm, if_pos (nI_lt (by omega) (by omega)), if_pos (by rw [am_inT (by omega) (by omega)]; trivial), nI_clamp (by omega), h.sg hm (by omega), ← ih (k + 1) (by omega), nc_s, show ml_lostP a m k = decide (a (60 + 19 * m + (11 + k)) = 0) from rfl]
    by_cases h0 : a (60 + 19 * m + (11 + k)) = 0
    · rw [if_pos (by rw [nI_z (by omega)]; exact h0), dV h0, b32_24 hn (by omega), nI_add, nI_add]
    · rw [if_neg (by rw [nI_z (by omega)]; exact h0), dU h0, b32_24 hn (by omega), nI_add]
      rfl
theorem k32 {m : Nat} (hn : n < 12) (hok : ml_ok B a) (h : nwF n a M) (hm : m < a 2) : am_ev (d + 1) 32 [am_P (24, n, m)] M (am_Z w) = some (.inl (some (am_I (nI (ml_lost a m)))), M, am_Z w) := by
  have b2 := hok.1.2.1
  rw [e32 hn (by omega)]
  exact l32 hn hok h hm (a (60 + 19 * m + 3)) 0 (Nat.zero_add _)
def q_msg (a : Nat → Nat) (x y : Int32) : Qo :=
  if am_in x (a 2) then if y = nI 0 then .inl (nI (a (60 + 19 * cN x + 0))) else if y = nI 1 then .inl (nI (a (60 + 19 * cN x + 1))) else if y = nI 2 then .inl (nI (a (60 + 19 * cN x + 2))) else if y = nI 3 then .inl (nI (a (60 + 19 * cN x + 3))) else if y = nI 4 then .inl (nI (ml_lost a (cN x))) else if y = nI 5 then .inl (nI (a (60 + 19 * cN x + 4))) else if y = nI 6 then .inl (nI (a (60 + 19 * cN x + 5))) else if y = nI 7 then .inl (nI (a (60 + 19 * cN x + 6))) else if y = nI 8 then .inl (nI (a (60 + 19 * cN x + 7))) else .inr (2, 2) else .inr (1, 1)
theorem k85 {x y : Int32} (hok : ml_ok B a) (h : clS a hs sv tx R e ln M) : clQ M w (am_ev (d + 3) 85 [am_P (3, 0, 0), am_I x, am_I y] M (am_Z w)) (q_msg a x y) := by
  obtain ⟨⟨ar, hA⟩, _⟩ := h
  have b2 := hok.1.2.1
  rw [e85, k93 hok hA]
  unfold q_msg
  by_cases hx : am_in x (a 2)
  · obtain ⟨x, hx', hx2, rfl⟩ := in_nI hx
    have h5 := hA.1.2 x hx'
    have h10 := hA.2.choose_spec.2.2.2 x hx'
    unfold nw_pl at h5
    rw [h10, if_neg (by decide)] at h5
    rw [if_pos hx, if_pos hx, cN_nI hx2]
    simp only [am_cb_i, am_cb_e, Option.toList_some, Option.toList_none, List.cons_append, List.nil_append]
    rw [b85_5 (by omega), hA.1.1.mfr hx', hA.1.1.mto hx', hA.1.1.mat hx', hA.1.1.mny hx', hA.1.1.rng hx', hA.1.1.how hx', hA.1.1.snt hx', h5, k32 (by decide) hok hA.1.1 hx']
    simp only [am_cb_i, am_cb_e, Option.toList_some, Option.toList_none, List.cons_append, List.nil_append, b85_80 (show x < 16 by omega)]
    repeat refine clQ.ite (fun _ => rfl) (fun _ => ?_)
    rfl
  · rw [if_neg hx, if_neg hx]
    rfl
/-- the signs that a message has -/
def mm_s (a : Nat → Nat) (m : Nat) : Nat → Int32
  | 0 => nI 0
  | k + 1 => if a (60 + 19 * m + (11 + k)) = 0 then mm_s a m k else mm_s a m k ||| (nI 1 <<< (nI (a (60 + 19 * m + (11 + k))) &&& 31))
def q_mas (a : Nat → Nat) (x : Int32) : Qo := if am_in x (a 2) then .inl (mm_s a (cN x) (a (60 + 19 * cN x + 3))) else .inr (1, 1)
theorem l87 {m : Nat} {x : Int32} (hok : ml_ok B a) (h : nwF 0 a M) (hm : m < a 2) : ∀ r k, k + r = a (60 + 19 * m + 3) → am_rn (am_ev d) 87 11 [some (am_P (3, 0, 0)), some (am_I x), some (am_P (24, 0, m)), some (am_I (mm_s a m k)), some (am_I (nI k))] [] M (am_Z w) = some (.inl (some (am_I (mm_s a m (a (60 + 19 * m + 3))))), M, am_Z w) := by
  have b2 := hok.1.2.1
  have w3 := (hok.2 m hm).2.2.2.2.1
  have wk := (hok.2 m hm).2.2.2.2.2.2.2.2.2.2.1
  intro r
  induction r with
  | zero =>
    intro k hk
    rw [b87_11 (by omega), h.mny hm, if_neg (nI_nlt (by omega) (by omega)), show k = a (60 + 19 * m + 3) by omega]
  | succ r ih =>
    intro k hk
    have h8 := wk k (by omega)
    have hSg : M (25, 0, m) (nI k).toNatClampNeg = nI (a (60 + 19 * m + (11 + k))) := by rw [nI_clamp (by omega)]; exact h.sg hm (by omega)
    rw [b87_11 (by omega), h.mny hm, if_pos (nI_lt (by omega) (by omega)), if_pos (by rw [am_inT (by omega) (by omega)]; trivial), ← ih (k + 1) (by omega), show mm_s a m (k + 1) = if a (60 + 19 * m + (11 + k)) = 0 then mm_s a m k else mm_s a m k ||| (nI 1 <<< (nI (a (60 + 19 * m + (11 + k))) &&& 31)) from rfl]
    by_cases h0 : a (60 + 19 * m + (11 + k)) = 0
    · rw [if_pos (by rw [hSg, nI_z (by omega)]; exact h0), if_pos h0, b87_42 (by omega), nI_add]
    · rw [if_neg (by rw [hSg, nI_z (by omega)]; exact h0), if_neg h0, if_pos (by rw [am_inT (by omega) (by omega)]; trivial), hSg, b87_42 (by omega), nI_add]
theorem k87 {x : Int32} (hok : ml_ok B a) (h : clS a hs sv tx R e ln M) : clQ M w (am_ev (d + 3) 87 [am_P (3, 0, 0), am_I x] M (am_Z w)) (q_mas a x) := by
  obtain ⟨⟨ar, hA⟩, _⟩ := h
  have b2 := hok.1.2.1
  rw [e87, k93 hok hA]
  unfold q_mas
  by_cases hx : am_in x (a 2)
  · obtain ⟨x, hx', hx2, rfl⟩ := in_nI hx
    rw [if_pos hx, if_pos hx, cN_nI hx2]
    simp only [am_cb_i, am_cb_e, Option.toList_some, Option.toList_none, List.cons_append, List.nil_append]
    rw [b87_5 (by omega)]
    exact l87 hok hA.1.1 hx' (a (60 + 19 * x + 3)) 0 (Nat.zero_add _)
  · rw [if_neg hx, if_neg hx]
    rfl
def q_que (a : Nat → Nat) (x y : Int32) : Qo := if am_in x (a 1) then (match ml_wt a (cN x) y with | some m => .inl (nI m) | none => .inr (3, 2)) else .inr (1, 1)
theorem k88 {x y : Int32} (hok : ml_ok B a) (h : clS a hs sv tx R e ln M) : clQ M w (am_ev (d + 3) 88 [am_P (3, 0, 0), am_I x, am_I y] M (am_Z w)) (q_que a x y) := by
  obtain ⟨⟨ar, hA⟩, _⟩ := h
  have b1 := hok.1.1
  have b2 := hok.1.2.1
  rw [e88, k82 hok hA]
  unfold q_que
  by_cases hx : am_in x (a 1)
  · obtain ⟨x, hx', hx2, rfl⟩ := in_nI hx
    rw [if_pos hx, if_pos hx, cN_nI hx2]
    simp only [am_cb_i, am_cb_e, Option.toList_some, Option.toList_none, List.cons_append, List.nil_append]
    obtain ⟨⟨h1, h5⟩, q, hQ, hR, hl, hg⟩ := hA
    have hqx := hl.1 x hx'
    have hlen := hqx.len
    rw [b88_5 (by omega), (hQ x hx').1]
    by_cases hy0 : y < 0
    · rw [if_pos hy0, hqx.wt_neg b2 hy0]; rfl
    · rw [if_neg hy0]
      obtain ⟨y, hy2, rfl⟩ := nI_of hy0
      rw [hqx.wt b2 hy2]
      by_cases hl' : y < (q x).length
      · rw [if_pos (nI_lt hl' (by omega)), if_pos (by rw [am_inT (by omega) (by omega)]; trivial), nI_clamp (by omega), List.getElem?_eq_getElem hl', (hQ x hx').2 y _ (List.getElem?_eq_getElem hl')]
        rfl
      · rw [if_neg (nI_nlt (by omega) hy2), List.getElem?_eq_none (by omega)]
        rfl
  · rw [if_neg hx, if_neg hx]
    rfl
end Kq2
