/-! QUESTIONS: SUMS, COUNTS, LETTERS OF THE LINE -/
section Kq4
variable {d B n : Nat} {M M' M0 : am_M} {a : Nat → Nat} {w : am_W4} {hs : List (Nat → Nat)} {sv : Option (Nat → Nat)} {tx ln : List Int32} {R : Int32 × Int32 × Int32} {e : Int32}
/-- a sum of Int32s -/
def sI (f : Nat → Int32) : Nat → Int32
  | 0 => nI 0
  | k + 1 => sI f k + f k
def q_sm1 (a : Nat → Nat) : Qo := .inl (sI (fun c => nI (a (12 + 6 * c + 5))) (a 1))
def q_sm2 (a : Nat → Nat) : Qo := .inl (sI (fun m => nI (ml_lost a m)) (a 2))
theorem l95 (hok : ml_ok B a) (h : nwF 0 a M) : ∀ r k, k + r = a 1 → am_rn (am_ev d) 95 4 [some (am_P (3, 0, 0)), some (am_I (sI (fun c => nI (a (12 + 6 * c + 5))) k)), some (am_I (nI k))] [] M (am_Z w) = some (.inl (some (am_I (sI (fun c => nI (a (12 + 6 * c + 5))) (a 1)))), M, am_Z w) := by
  have b1 := hok.1.1
  intro r
  induction r with
  | zero =>
    intro k hk
    rw [b95_4, h.cc, if_neg (nI_nlt (by omega) (by omega)), show k = a 1 by omega]
  | succ r ih =>
    intro k hk
    rw [b95_4, h.cc, if_pos (nI_lt (by omega) (by omega)), if_pos (by rw [am_inT (by omega) (by omega)]; trivial), nI_clamp (by omega), h.cv (by omega) (by decide), ← ih (k + 1) (by omega), nI_add]
    rfl
theorem k95 (hok : ml_ok B a) (h : clS a hs sv tx R e ln M) : clQ M w (am_ev (d + 1) 95 [am_P (3, 0, 0)] M (am_Z w)) (q_sm1 a) := by
  obtain ⟨⟨ar, hA⟩, _⟩ := h
  rw [e95]
  exact l95 hok hA.1.1 (a 1) 0 (by omega)
theorem l96 (hok : ml_ok B a) (h : nwF 0 a M) : ∀ r k, k + r = a 2 → am_rn (am_ev (d + 1)) 96 4 [some (am_P (3, 0, 0)), some (am_I (sI (fun m => nI (ml_lost a m)) k)), some (am_I (nI k))] [] M (am_Z w) = some (.inl (some (am_I (sI (fun m => nI (ml_lost a m)) (a 2)))), M, am_Z w) := by
  have b2 := hok.1.2.1
  intro r
  induction r with
  | zero =>
    intro k hk
    rw [b96_4, h.mc, if_neg (nI_nlt (by omega) (by omega)), show k = a 2 by omega]
  | succ r ih =>
    intro k hk
    rw [b96_4, h.mc, if_pos (nI_lt (by omega) (by omega)), if_pos (by rw [am_inT (by omega) (by omega)]; trivial), nI_clamp (by omega), k32 (by decide) hok h (by omega), ← ih (k + 1) (by omega)]
    simp only [am_cb_i, am_cb_e, Option.toList_some, Option.toList_none, List.cons_append, List.nil_append, b96_28, nI_add]
    rfl
theorem k96 (hok : ml_ok B a) (h : clS a hs sv tx R e ln M) : clQ M w (am_ev (d + 2) 96 [am_P (3, 0, 0)] M (am_Z w)) (q_sm2 a) := by
  obtain ⟨⟨ar, hA⟩, _⟩ := h
  rw [e96]
  exact l96 hok hA.1.1 (a 2) 0 (by omega)
/-- numbers of the whole -/
def ml_hw (a : Nat → Nat) (v : Nat) : Nat := nc (fun m => decide (a (60 + 19 * m + 6) = v)) (a 2)
def ml_pn (a : Nat → Nat) : Nat := nc (fun s => decide (a (4 + s) ≠ 0)) 8
def ml_sn (a : Nat → Nat) : Nat := nc (fun c => ml_silent a c) (a 1)
theorem l59 {v : Nat} (hv : v < 1000) (hok : ml_ok B a) (h : nwF 0 a M) : ∀ r k, k + r = a 2 → am_rn (am_ev d) 59 4 [some (am_P (13, 0, 0)), some (am_I (nI v)), some (am_I (nI (nc (fun m => decide (a (60 + 19 * m + 6) = v)) k))), some (am_I (nI k))] [] M (am_Z w) = some (.inl (some (am_I (nI (ml_hw a v)))), M, am_Z w) := by
  have b2 := hok.1.2.1
  intro r
  induction r with
  | zero =>
    intro k hk
    rw [b59_4 (by decide), h.mc, if_neg (nI_nlt (by omega) (by omega)), show k = a 2 by omega]
    rfl
  | succ r ih =>
    intro k hk
    have f6 := hok.f (m := k) (by omega) 6 (by decide) (by decide) (by decide)
    rw [b59_4 (by decide), h.mc, if_pos (nI_lt (by omega) (by omega)), if_pos (by rw [am_inT (by omega) (by omega)]; trivial), nI_clamp (by omega), h.how (by omega), ← ih (k + 1) (by omega), nc_s]
    by_cases h0 : a (60 + 19 * k + 6) = v
    · rw [if_pos (by rw [h0]), dV h0, b59_28 (by decide), nI_add, nI_add]
    · rw [if_neg (by rw [nI_eqI (by omega) (by omega)]; exact h0), dU h0, b59_28 (by decide), nI_add]
      rfl
theorem k59 {v : Nat} (hv : v < 1000) (hok : ml_ok B a) (h : nwF 0 a M) : am_ev (d + 1) 59 [am_P (13, 0, 0), am_I (nI v)] M (am_Z w) = some (.inl (some (am_I (nI (ml_hw a v)))), M, am_Z w) := by
  rw [e59 (by decide)]
  exact l59 hv hok h (a 2) 0 (by omega)
theorem l58 (hok : ml_ok B a) (h : nwF 0 a M) : ∀ r k, k + r = 8 → am_rn (am_ev d) 58 4 [some (am_P (13, 0, 0)), some (am_I (nI (nc (fun s => decide (a (4 + s) ≠ 0)) k))), some (am_I (nI (k + 1)))] [] M (am_Z w) = some (.inl (some (am_I (nI (ml_pn a)))), M, am_Z w) := by
  intro r
  induction r with
  | zero =>
    intro k hk
    rw [b58_4 (by decide), if_pos (nI_lt (by omega) (by omega)), show k = 8 by omega]
    rfl
  | succ r ih =>
    intro k hk
    have h6 := hok.1.2.2.2.2.2.1 (4 + k) (by omega) (by omega)
    rw [b58_4 (by decide), if_neg (nI_nlt (by omega) (by omega)), if_pos (by rw [am_inT (by omega) (by omega)]; trivial), nI_clamp (by omega), h.ps (by omega) (by omega), show 3 + (k + 1) = 4 + k by omega, ← ih (k + 1) (by omega), nc_s]
    by_cases h0 : a (4 + k) = 0
    · rw [if_pos (by rw [nI_z (by omega)]; exact h0), dU (fun q => q h0), b58_22 (by decide), nI_add]
      rfl
    · rw [if_neg (by rw [nI_z (by omega)]; exact h0), dV h0, b58_22 (by decide), nI_add, nI_add]
theorem k58 (hok : ml_ok B a) (h : nwF 0 a M) : am_ev (d + 1) 58 [am_P (13, 0, 0)] M (am_Z w) = some (.inl (some (am_I (nI (ml_pn a)))), M, am_Z w) := by
  rw [e58 (by decide)]
  exact l58 hok h 8 0 (by omega)
theorem l60 (hok : ml_ok B a) (h : nwF 0 a M) : ∀ r k, k + r = a 1 → am_rn (am_ev d) 60 4 [some (am_P (13, 0, 0)), some (am_I (sI (fun c => nI (a (12 + 6 * c + 4))) k)), some (am_I (nI k))] [] M (am_Z w) = some (.inl (some (am_I (sI (fun c => nI (a (12 + 6 * c + 4))) (a 1)))), M, am_Z w) := by
  have b1 := hok.1.1
  intro r
  induction r with
  | zero =>
    intro k hk
    rw [b60_4 (by decide), h.cc, if_neg (nI_nlt (by omega) (by omega)), show k = a 1 by omega]
  | succ r ih =>
    intro k hk
    rw [b60_4 (by decide), h.cc, if_pos (nI_lt (by omega) (by omega)), if_pos (by rw [am_inT (by omega) (by omega)]; trivial), nI_clamp (by omega), h.cv (by omega) (by decide), ← ih (k + 1) (by omega), nI_add]
    rfl
theorem k60 (hok : ml_ok B a) (h : nwF 0 a M) : am_ev (d + 1) 60 [am_P (13, 0, 0)] M (am_Z w) = some (.inl (some (am_I (sI (fun c => nI (a (12 + 6 * c + 4))) (a 1)))), M, am_Z w) := by
  rw [e60 (by decide)]
  exact l60 hok h (a 1) 0 (by omega)
theorem l61 (hB : B < 1073741824) (hok : ml_ok B a) (h : nwF 0 a M) : ∀ r k, k + r = a 1 → am_rn (am_ev (d + 1)) 61 4 [some (am_P (13, 0, 0)), some (am_I (nI (nc (fun c => ml_silent a c) k))), some (am_I (nI k))] [] M (am_Z w) = some (.inl (some (am_I (nI (ml_sn a)))), M, am_Z w) := by
  have b1 := hok.1.1
  have b0 := hok.1.2.2.1 0 (by omega)
  intro r
  induction r with
  | zero =>
    intro k hk
    rw [b61_4 (by decide), h.cc, if_neg (nI_nlt (by omega) (by omega)), show k = a 1 by omega]
    rfl
  | succ r ih =>
    intro k hk
    rw [b61_4 (by decide), h.cc, if_pos (nI_lt (by omega) (by omega)), if_pos (by rw [am_inT (by omega) (by omega)]; trivial), nI_clamp (by omega), k38 (by decide) h (by omega), ← ih (k + 1) (by omega), nc_s]
    simp only [am_cb_i, am_cb_e, Option.toList_some, Option.toList_none, List.cons_append, List.nil_append]
    rw [b61_22 (by decide) (by omega), k18 (by decide) h hok.1 (by omega)]
    simp only [am_cb_i, am_cb_e, Option.toList_some, Option.toList_none, List.cons_append, List.nil_append]
    rw [b61_25 (by decide)]
    cases hw : ml_silent a k with
    | false => rw [if_pos (show nI false.toNat = 0 from rfl), b61_31 (by decide), nI_add]; rfl
    | true => rw [if_neg (show ¬ nI true.toNat = 0 from nI_ne0 (n := 1) (by decide) (by decide)), b61_31 (by decide), nI_add, nI_add]; rfl
theorem k61 (hB : B < 1073741824) (hok : ml_ok B a) (h : nwF 0 a M) : am_ev (d + 2) 61 [am_P (13, 0, 0)] M (am_Z w) = some (.inl (some (am_I (nI (ml_sn a)))), M, am_Z w) := by
  rw [e61 (by decide)]
  exact l61 hB hok h (a 1) 0 (by omega)
def q_all (a : Nat → Nat) (hl tl : Nat) (x : Int32) : Qo :=
  if x = nI 0 then .inl (nI (a 0)) else if x = nI 1 then .inl (nI (a 0 % 24)) else if x = nI 2 then .inl (nI (a 1)) else if x = nI 3 then .inl (nI (ml_pn a)) else if x = nI 4 then .inl (nI (a 2)) else if x = nI 5 then .inl (nI (ml_hw a 0)) else if x = nI 6 then .inl (nI (ml_hw a 1)) else if x = nI 7 then .inl (nI (ml_hw a 2)) else if x = nI 8 then .inl (sI (fun c => nI (a (12 + 6 * c + 4))) (a 1)) else if x = nI 9 then .inl (nI (ml_sn a)) else if x = nI 10 then .inl (nI hl) else if x = nI 11 then .inl (nI tl) else .inr (2, 1)
theorem k106 {x : Int32} (hB : B < 1073741824) (hok : ml_ok B a) (h : clS a hs sv tx R e ln M) : clQ M w (am_ev (d + 3) 106 [am_P (3, 0, 0), am_I x] M (am_Z w)) (q_all a hs.length tx.length x) := by
  obtain ⟨⟨ar, hA⟩, ⟨sr, s1, s2, s3, s4, s5⟩, hV, hT, hR⟩ := h
  have b0 := hok.1.2.2.1 0 (by omega)
  have h1 := hA.1.1
  rw [e106, h1.hour, h1.cc, h1.mc, s3, hT.1.1, k38 (by decide) h1 (by omega), k58 hok h1, k59 (by decide) hok h1, k59 (by decide) hok h1, k59 (by decide) hok h1, k60 hok h1, k61 hB hok h1]
  simp only [am_cb_i, am_cb_e, Option.toList_some, Option.toList_none, List.cons_append, List.nil_append, b106_79, b106_95, b106_112, b106_121, b106_130, b106_138, b106_146]
  unfold q_all
  iterate 12 refine clQ.ite (fun _ => rfl) (fun _ => ?_)
  rfl
end Kq4
