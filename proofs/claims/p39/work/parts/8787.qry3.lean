/-! QUESTIONS ON A CONVENT, TWO CONVENTS, A RING -/
section Kq3
variable {d B n : Nat} {M M' M0 : am_M} {a : Nat → Nat} {w : am_W4} {hs : List (Nat → Nat)} {sv : Option (Nat → Nat)} {tx ln : List Int32} {R : Int32 × Int32 × Int32} {e : Int32}
/-- how many wait -/
def ml_qn (a : Nat → Nat) (c : Nat) : Nat := nc (fun m => ml_waits a m c) (a 2)
theorem q_ok.qn {c : Nat} {l : List Nat} (h : q_ok a c l) : ml_qn a c = l.length := by
  have e := nc_mem (f := fun _ => true) h.1.nodup (fun x hx => ((h.2 x).mp hx).1)
  unfold ml_qn
  rw [List.countP_true] at e
  rw [← e]
  exact nc_congr (fun k hk => by rw [h.waits hk, Bool.and_true])
def q_cnv (a : Nat → Nat) (x y : Int32) : Qo :=
  if am_in x (a 1) then if y = nI 0 then .inl (nI (a (12 + 6 * cN x + 0))) else if y = nI 1 then .inl (nI (a (12 + 6 * cN x + 1))) else if y = nI 2 then .inl (nI (a (12 + 6 * cN x + 2))) else if y = nI 3 then .inl (nI (a (12 + 6 * cN x + 3))) else if y = nI 4 then .inl (nI (ml_qn a (cN x))) else if y = nI 5 then .inl (nI (a (12 + 6 * cN x + 4))) else if y = nI 6 then .inl (nI (a (12 + 6 * cN x + 5))) else if y = nI 7 then .inl (nI (ml_silent a (cN x)).toNat) else .inr (2, 2) else .inr (1, 1)
theorem k75 {x y : Int32} (hB : B < 1073741824) (hok : ml_ok B a) (h : clS a hs sv tx R e ln M) : clQ M w (am_ev (d + 3) 75 [am_P (3, 0, 0), am_I x, am_I y] M (am_Z w)) (q_cnv a x y) := by
  obtain ⟨⟨ar, hA⟩, _⟩ := h
  have b1 := hok.1.1
  have b0 := hok.1.2.2.1 0 (by omega)
  rw [e75, k82 hok hA]
  unfold q_cnv
  by_cases hx : am_in x (a 1)
  · obtain ⟨x, hx', hx2, rfl⟩ := in_nI hx
    rw [if_pos hx, if_pos hx, cN_nI hx2]
    obtain ⟨⟨h1, h5⟩, q, hQ, hR, hl, hg⟩ := hA
    simp only [am_cb_i, am_cb_e, Option.toList_some, Option.toList_none, List.cons_append, List.nil_append]
    rw [b75_5 (by omega), (hQ x hx').1, h1.cv hx' (by decide), h1.cv hx' (by decide), h1.cv hx' (by decide), h1.cv hx' (by decide), h1.cv hx' (by decide), h1.cv hx' (by decide), (hl.1 x hx').qn, k38 (by decide) h1 (by omega)]
    simp only [am_cb_i, am_cb_e, Option.toList_some, Option.toList_none, List.cons_append, List.nil_append]
    rw [b75_95 (by omega) (by omega), k18 (by decide) h1 hok.1 hx']
    simp only [am_cb_i, am_cb_e, Option.toList_some, Option.toList_none, List.cons_append, List.nil_append]
    rw [b75_98 (by omega)]
    iterate 7 refine clQ.ite (fun _ => rfl) (fun _ => ?_)
    refine clQ.ite (fun _ => ?_) (fun _ => rfl)
    cases ml_silent a x with
    | false => rfl
    | true => rfl
  · rw [if_neg hx, if_neg hx]
    rfl
/-- the neighbour on a side -/
def ml_nb (x y : Int32) : Int32 := if y = 0 then x - nI 1 else x + nI 1
theorem add_m1 (x : Int32) : x + -1 = x - nI 1 := by rw [Int32.sub_eq_add_neg]; rfl
def q_str (a : Nat → Nat) (x y : Int32) : Qo := if am_in x (a 1) then if am_in (ml_nb x y) (a 1) then .inl (ml_str a (cN x) (cN (ml_nb x y)) (if cN (ml_nb x y) < cN x then cN (ml_nb x y) else cN x)) else .inr (3, 2) else .inr (1, 1)
def q_hrd (a : Nat → Nat) (x y : Int32) : Qo := if am_in x (a 1) then if am_in (ml_nb x y) (a 1) then .inl (nI (ml_heard a (cN x) (cN (ml_nb x y))).toNat) else .inr (3, 2) else .inr (1, 1)
theorem k84 {x y : Int32} {ar : List Nat} (hok : ml_ok B a) (h : nw 0 a M ar) : am_ev (d + 2) 84 [am_P (3, 0, 0), am_I x, am_I y] M (am_Z w) = if am_in x (a 1) then if am_in (ml_nb x y) (a 1) then some (.inl (some (am_I (ml_nb x y))), M, am_Z w) else some (.inr 3, M, am_Z (am_bw w)) else some (.inr 1, M, am_Z (am_bw w)) := by
  have b1 := hok.1.1
  have e1 : am_ev (d + 2) 84 [am_P (3, 0, 0), am_I x, am_I y] M (am_Z w) = if am_in x (a 1) then am_rn (am_ev (d + 1)) 84 32 [some (am_P (3, 0, 0)), some (am_I x), some (am_I y), none] [am_I (ml_nb x y)] M (am_Z w) else some (.inr 1, M, am_Z (am_bw w)) := by
    rw [e84, k35 (by decide) h.1.1 b1]
    simp only [am_cb_i, am_cb_e, Option.toList_some, Option.toList_none, List.cons_append, List.nil_append, b84_8]
    by_cases hx : am_in x (a 1)
    · rw [if_neg (dT hx), if_pos hx]
      unfold ml_nb
      by_cases hy : y = 0
      · rw [if_pos hy, if_pos hy]
      · rw [if_neg hy, if_neg hy]
    · rw [if_pos (dF hx), if_neg hx]
  rw [e1]
  by_cases hx : am_in x (a 1)
  · rw [if_pos hx, if_pos hx, b84_32, k35 (by decide) h.1.1 b1]
    simp only [am_cb_i, am_cb_e, Option.toList_some, Option.toList_none, List.cons_append, List.nil_append, b84_41]
    by_cases hz : am_in (ml_nb x y) (a 1)
    · rw [if_neg (dT hz), if_pos hz]
    · rw [if_pos (dF hz), if_neg hz]
  · rw [if_neg hx, if_neg hx]
/-- neighbours differ by one -/
theorem nb_adj {x c l : Nat} {y : Int32} (hc : c < 1000) (hx : nI c = nI x) (hx2 : x < 1000) (hl : l < 1000) (h : ml_nb (nI x) y = nI l) : l + 1 = x ∨ x + 1 = l := by
  unfold ml_nb at h
  split at h
  · rcases Nat.eq_zero_or_pos x with z | z
    · subst z
      have := congrArg Int32.toInt h
      rw [nI_toInt (by omega), show (nI 0 - nI 1).toInt = -1 from rfl] at this
      omega
    · rw [pk_sub z] at h
      have := (nI_eq (by omega) (by omega)).mp h
      omega
  · rw [nI_add] at h
    have := (nI_eq (by omega) (by omega)).mp h
    omega
theorem k78 {x y : Int32} (hok : ml_ok B a) (h : clS a hs sv tx R e ln M) : clQ M w (am_ev (d + 3) 78 [am_P (3, 0, 0), am_I x, am_I y] M (am_Z w)) (q_str a x y) := by
  obtain ⟨⟨ar, hA⟩, _⟩ := h
  have b1 := hok.1.1
  rw [e78, k84 hok hA]
  unfold q_str
  by_cases hx : am_in x (a 1)
  · rw [if_pos hx, if_pos hx]
    by_cases hz : am_in (ml_nb x y) (a 1)
    · rw [if_pos hz, if_pos hz]
      obtain ⟨x, hx', hx2, rfl⟩ := in_nI hx
      obtain ⟨l, hl, hl2, hle⟩ := in_nI hz
      rw [hle, cN_nI hx2, cN_nI hl2]
      simp only [am_cb_i, am_cb_e, Option.toList_some, Option.toList_none, List.cons_append, List.nil_append, b78_11]
      have hadj := nb_adj (c := x) (by omega) rfl (by omega) (by omega) hle
      rw [k54 (by decide) hA.1.1 b1 hx' hl (by omega)]
      simp only [am_cb_i, am_cb_e, Option.toList_some, Option.toList_none, List.cons_append, List.nil_append, b78_14]
      rfl
    · rw [if_neg hz, if_neg hz]; rfl
  · rw [if_neg hx, if_neg hx]; rfl
theorem k79 {x y : Int32} (hok : ml_ok B a) (h : clS a hs sv tx R e ln M) : clQ M w (am_ev (d + 3) 79 [am_P (3, 0, 0), am_I x, am_I y] M (am_Z w)) (q_hrd a x y) := by
  obtain ⟨⟨ar, hA⟩, _⟩ := h
  have b1 := hok.1.1
  rw [e79, k84 hok hA]
  unfold q_hrd
  by_cases hx : am_in x (a 1)
  · rw [if_pos hx, if_pos hx]
    by_cases hz : am_in (ml_nb x y) (a 1)
    · rw [if_pos hz, if_pos hz]
      obtain ⟨x, hx', hx2, rfl⟩ := in_nI hx
      obtain ⟨l, hl, hl2, hle⟩ := in_nI hz
      rw [hle, cN_nI hx2, cN_nI hl2]
      simp only [am_cb_i, am_cb_e, Option.toList_some, Option.toList_none, List.cons_append, List.nil_append, b79_11]
      have hadj := nb_adj (c := x) (by omega) rfl (by omega) (by omega) hle
      rw [k55 (by decide) hA.1.1 hok.1 hx' hl (by omega)]
      simp only [am_cb_i, am_cb_e, Option.toList_some, Option.toList_none, List.cons_append, List.nil_append, b79_14]
      rw [if_pos (by rw [am_pcb]; trivial)]
      rfl
    · rw [if_neg hz, if_neg hz]; rfl
  · rw [if_neg hx, if_neg hx]; rfl
/-- the wind at a ring in k hours -/
def ml_wi (a : Nat → Nat) (x : Nat) : Nat → Nat
  | 0 => a (48 + 2 * x + 1)
  | k + 1 => if (a 0 + (k + 1)) % 6 = 0 then (3 * ml_wi a x k + x + 1) % 10 else ml_wi a x k
theorem ml_wi_lt {x : Nat} (h : a (48 + 2 * x + 1) < 100) : ∀ k, ml_wi a x k < 100 := by
  intro k
  induction k with
  | zero => exact h
  | succ k ih =>
    unfold ml_wi
    split
    · have := Nat.mod_lt (3 * ml_wi a x k + x + 1) (show 0 < 10 by decide)
      omega
    · exact ih
def q_wnd (a : Nat → Nat) (x y : Int32) : Qo := if am_in x (a 1 - 1) then if am_bt y 0 200 then .inl (nI (ml_wi a (cN x) (cN y))) else .inr (2, 2) else .inr (1, 1)
theorem l80 {x y : Nat} (hB : B < 1073741824) (hok : ml_ok B a) (h : nwF 0 a M) (hx : x < 5) (hy : y ≤ 200) : ∀ r k, k + r = y → am_rn (am_ev (d + 1)) 80 31 [some (am_P (3, 0, 0)), some (am_I (nI x)), some (am_I (nI y)), some (am_I (nI (ml_wi a x k))), some (am_I (nI (k + 1)))] [] M (am_Z w) = some (.inl (some (am_I (nI (ml_wi a x y)))), M, am_Z w) := by
  have b0 := hok.1.2.2.1 0 (by omega)
  have hw := ml_wi_lt (hok.1.2.2.2.2.2.2 (48 + 2 * x + 1) (by omega) (by omega))
  intro r
  induction r with
  | zero =>
    intro k hk
    rw [b80_31, if_pos (nI_lt (by omega) (by omega)), show k = y by omega]
  | succ r ih =>
    intro k hk
    have hwk := hw k
    rw [b80_31, if_neg (nI_nlt (by omega) (by omega)), h.hour, nI_add, pk_rem (by omega) (by decide) (by decide), ← ih (k + 1) (by omega), show ml_wi a x (k + 1) = if (a 0 + (k + 1)) % 6 = 0 then (3 * ml_wi a x k + x + 1) % 10 else ml_wi a x k from rfl]
    have hm := Nat.mod_lt (a 0 + (k + 1)) (show 0 < 6 by decide)
    by_cases h0 : (a 0 + (k + 1)) % 6 = 0
    · rw [if_pos (by rw [nI_z (by omega)]; exact h0), if_pos h0, k112 (by omega) (by omega)]
      simp only [am_cb_i, am_cb_e, Option.toList_some, Option.toList_none, List.cons_append, List.nil_append, b80_58, b80_59, nI_add]
    · rw [if_neg (by rw [nI_z (by omega)]; exact h0), if_neg h0, b80_59, nI_add]
theorem k80 {x y : Int32} (hB : B < 1073741824) (hok : ml_ok B a) (h : clS a hs sv tx R e ln M) : clQ M w (am_ev (d + 3) 80 [am_P (3, 0, 0), am_I x, am_I y] M (am_Z w)) (q_wnd a x y) := by
  obtain ⟨⟨ar, hA⟩, _⟩ := h
  have b1 := hok.1.1
  rw [e80, k83 hok hA]
  unfold q_wnd
  by_cases hx : am_in x (a 1 - 1)
  · obtain ⟨x, hx', hx2, rfl⟩ := in_nI hx
    rw [if_pos hx, if_pos hx, cN_nI hx2]
    simp only [am_cb_i, am_cb_e, Option.toList_some, Option.toList_none, List.cons_append, List.nil_append]
    rw [b80_5 (by omega)]
    by_cases hy : am_bt y 0 200
    · rw [if_neg (show ¬ y < 0 from hy.1), if_neg hy.2, if_pos hy]
      obtain ⟨y, _, hy1, rfl⟩ := bt_nI (by omega) (by omega) hy
      rw [cN_nI (by omega), hA.1.1.rw (by omega)]
      have e1 := l80 (d := d + 1) (w := w) hB hok hA.1.1 (x := x) (by omega) hy1 y 0 (by omega)
      rw [show ml_wi a x 0 = a (48 + 2 * x + 1) from rfl, Nat.zero_add] at e1
      rw [e1]
      rfl
    · rw [if_neg hy]
      by_cases h1 : y < 0
      · rw [if_pos h1]; rfl
      · rw [if_neg h1, if_pos (by
          rcases Decidable.em (nI 200 < y) with q | q
          · exact q
          · exact absurd ⟨h1, q⟩ hy)]
        rfl
  · rw [if_neg hx, if_neg hx]
    rfl
end Kq3
