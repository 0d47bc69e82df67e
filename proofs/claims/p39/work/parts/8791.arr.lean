/-! WHO ARRIVED AS THE x-TH; WHO STANDS AT THE RANK x -/
section Kar
variable {d B n : Nat} {M M' M0 : am_M} {a : Nat → Nat} {w : am_W4} {hs : List (Nat → Nat)} {sv : Option (Nat → Nat)} {tx ln : List Int32} {R : Int32 × Int32 × Int32} {e : Int32}
def ar_P (a : Nat → Nat) (m : Nat) : Nat → Bool := fun q => decide (a (60 + 19 * q + 6) = 1) && decide (a (60 + 19 * q + 8) < a (60 + 19 * m + 8))
def ar_n (a : Nat → Nat) (m : Nat) : Nat := nc (ar_P a m) (a 2)
def ar_F (a : Nat → Nat) (x : Int32) : Nat → Bool := fun m => decide (a (60 + 19 * m + 6) = 1) && decide (nI (ar_n a m) = x)
def q_arr (a : Nat → Nat) (x : Int32) : Qo := match nf (ar_F a x) (a 2) 0 with | some m => .inl (nI m) | none => .inr (3, 1)
theorem r_ok.bef {i m : Nat} {l : List Nat} (h : r_ok a l) (hm : l[i]? = some m) : ar_n a m = i := by
  have h1 := nc_mem (f := fun q => decide (a (60 + 19 * q + 8) < a (60 + 19 * m + 8))) h.1.nodup (fun x hx => ((h.2 x).mp hx).1)
  rw [h.1.count hm] at h1
  rw [← h1]
  refine nc_congr (fun k hk => ?_)
  unfold ar_P
  congr 1
  rw [decide_eq_decide, h.2 k]
  exact ⟨fun g => ⟨hk, g⟩, fun g => g.2⟩
theorem r_ok.in {m : Nat} {l : List Nat} (h : r_ok a l) (hm : m < a 2) : decide (a (60 + 19 * m + 6) = 1) = decide (m ∈ l) := by
  rw [decide_eq_decide, h.2 m]
  exact ⟨fun g => ⟨hm, g⟩, fun g => g.2⟩
theorem r_ok.wt {l : List Nat} (h : r_ok a l) {p : Nat} (ha : a 2 ≤ 16) (hp : p < 2147483648) : nf (ar_F a (nI p)) (a 2) 0 = l[p]? := by
  have hlen := h.len
  have key : ∀ i m, l[i]? = some m → ar_F a (nI p) m = decide (i = p) := by
    intro i m hm
    have hi := (List.getElem?_eq_some_iff.mp hm).1
    unfold ar_F
    rw [h.in ((h.2 m).mp (List.mem_of_getElem? hm)).1, h.bef hm, decide_eq_true (List.mem_of_getElem? hm), Bool.true_and, decide_eq_decide]
    exact nI_eq (by omega) hp
  cases hp2 : l[p]? with
  | none =>
    refine nf_none (fun m _ hm => ?_)
    by_cases hml : m ∈ l
    · obtain ⟨i, hi⟩ := List.getElem?_of_mem hml
      rw [key i m hi]
      refine decide_eq_false (fun e => ?_)
      subst e
      rw [hp2] at hi
      cases hi
    · unfold ar_F
      rw [h.in (by omega), decide_eq_false hml]; rfl
  | some m =>
    have hm := ((h.2 m).mp (List.mem_of_getElem? hp2)).1
    refine nf_uniq (Nat.zero_le _) (by omega) (by rw [key p m hp2]; exact decide_eq_true rfl) (fun q hq _ hq2 => ?_)
    by_cases hml : q ∈ l
    · obtain ⟨i, hi⟩ := List.getElem?_of_mem hml
      rw [key i q hi] at hq
      have e := of_decide_eq_true hq
      subst e
      rw [hp2] at hi
      exact (Option.some.inj hi).symm
    · unfold ar_F at hq
      rw [h.in (by omega), decide_eq_false hml] at hq
      cases hq
theorem ar_neg {x : Int32} (ha : a 2 ≤ 16) (hx : x < 0) : nf (ar_F a x) (a 2) 0 = none := by
  refine nf_none (fun m _ hm => ?_)
  unfold ar_F
  have hb : ar_n a m ≤ a 2 := nc_le _ _
  rw [decide_eq_false (p := nI (ar_n a m) = x) (fun e => nI_pos (n := ar_n a m) (by omega) (by rw [e]; exact hx)), Bool.and_false]
theorem k89 {x : Int32} (hok : ml_ok B a) (h : clS a hs sv tx R e ln M) : clQ M w (am_ev (d + 1) 89 [am_P (3, 0, 0), am_I x] M (am_Z w)) (q_arr a x) := by
  obtain ⟨⟨ar, hA⟩, _⟩ := h
  have b2 := hok.1.2.1
  obtain ⟨⟨h1, h5⟩, q, hQ, hR, hl, hg⟩ := hA
  have hlen := hl.2.1.len
  rw [e89, hR.1]
  unfold q_arr
  by_cases hx : x < 0
  · rw [if_pos hx, ar_neg b2 hx]; rfl
  · rw [if_neg hx]
    obtain ⟨x, hx2, rfl⟩ := nI_of hx
    rw [hl.2.1.wt b2 hx2]
    by_cases hl' : x < ar.length
    · rw [if_pos (nI_lt hl' (by omega)), if_pos (by rw [am_inT (by omega) (by omega)]; trivial), nI_clamp (by omega), List.getElem?_eq_getElem hl', hR.2 x _ (List.getElem?_eq_getElem hl')]
      rfl
    · rw [if_neg (nI_nlt (by omega) hx2), List.getElem?_eq_none (by omega)]
      rfl
/-- q stands before m -/
def rk_lt (a : Nat → Nat) (q m : Nat) : Bool := if ml_lost a q = ml_lost a m then (if a (60 + 19 * q + 7) = a (60 + 19 * m + 7) then decide (q < m) else decide (a (60 + 19 * q + 7) < a (60 + 19 * m + 7))) else decide (ml_lost a m < ml_lost a q)
theorem rk_self {m : Nat} : rk_lt a m m = false := by
  unfold rk_lt
  rw [if_pos rfl, if_pos rfl]
  exact decide_eq_false (Nat.lt_irrefl m)
theorem lost_le {m : Nat} : ml_lost a m ≤ a (60 + 19 * m + 3) := nc_le _ _
theorem k57 {q m : Nat} (hB : B < 1073741824) (hok : ml_ok B a) (h : nwF 0 a M) (hq : q < a 2) (hm : m < a 2) : am_ev (d + 2) 57 [am_P (13, 0, 0), am_I (nI q), am_I (nI m)] M (am_Z w) = some (.inl (some (am_I (nI (rk_lt a q m).toNat))), M, am_Z w) := by
  have b2 := hok.1.2.1
  have wq := (hok.2 q hq).2.2.2.2.1
  have wm := (hok.2 m hm).2.2.2.2.1
  have lq := lost_le (a := a) (m := q)
  have lm := lost_le (a := a) (m := m)
  have t1 := hok.1.2.2.1 (60 + 19 * q + 7) (by omega)
  have t2 := hok.1.2.2.1 (60 + 19 * m + 7) (by omega)
  have iq : am_in (nI q) 16 := by rw [am_inT (by omega) (by omega)]; trivial
  have im : am_in (nI m) 16 := by rw [am_inT (by omega) (by omega)]; trivial
  rw [e57 (by decide), if_pos iq, nI_clamp (by omega), k32 (by decide) hok h hq]
  simp only [am_cb_i, am_cb_e, Option.toList_some, Option.toList_none, List.cons_append, List.nil_append]
  rw [b57_9 (by decide), if_pos im, nI_clamp (by omega), k32 (by decide) hok h hm]
  simp only [am_cb_i, am_cb_e, Option.toList_some, Option.toList_none, List.cons_append, List.nil_append]
  rw [b57_19 (by decide)]
  unfold rk_lt
  have s1 : M (24, 0, (nI q).toNatClampNeg) 4 = nI (a (60 + 19 * q + 7)) := by rw [nI_clamp (by omega)]; exact h.snt hq
  have s2 : M (24, 0, (nI m).toNatClampNeg) 4 = nI (a (60 + 19 * m + 7)) := by rw [nI_clamp (by omega)]; exact h.snt hm
  by_cases hh : ml_lost a q = ml_lost a m
  · rw [if_pos (by rw [hh]), if_pos hh, if_pos iq, if_pos im]
    by_cases h7 : a (60 + 19 * q + 7) = a (60 + 19 * m + 7)
    · rw [if_pos (by rw [s1, s2, h7]), if_pos h7]
      by_cases hl : q < m
      · rw [if_pos (nI_lt hl (by omega)), dV hl]
      · rw [if_neg (nI_nlt (by omega) (by omega)), dU hl]
    · rw [if_neg (by rw [s1, s2, nI_eqI (by omega) (by omega)]; exact h7), if_neg h7, if_pos iq, if_pos im]
      by_cases hl : a (60 + 19 * q + 7) < a (60 + 19 * m + 7)
      · rw [if_pos (by rw [s1, s2]; exact nI_lt hl (by omega)), dV hl]
      · rw [if_neg (by rw [s1, s2]; exact nI_nlt (by omega) (by omega)), dU hl]
  · rw [if_neg (by rw [nI_eqI (by omega) (by omega)]; exact hh), if_neg hh]
    by_cases hl : ml_lost a m < ml_lost a q
    · rw [if_pos (nI_lt hl (by omega)), dV hl]
    · rw [if_neg (nI_nlt (by omega) (by omega)), dU hl]
end Kar
