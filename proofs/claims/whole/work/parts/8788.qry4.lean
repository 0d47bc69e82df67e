/-! QUESTIONS: SUMS, COUNTS, LETTERS OF THE LINE -/
section Kq4
variable {d B n : Nat} {M M' M0 : am_M} {a : Nat → Nat} {w : am_W4} {hs : List (Nat → Nat)} {sv : Option (Nat → Nat)} {tx ln : List Int32} {R : Int32 × Int32 × Int32} {e : Int32}
/-- a sum of Int32s -/
def sI (f : Nat → Int32) : Nat → Int32
  | 0 => nI 0
  | k + 1 => sI f k + f k
def q_sm1 (a : Nat → Nat) : Qo := .inl (sI (fun c => nI (a (12 + 6 * c + 5))) (a 1))
def q_sm2 (a : Nat → Nat) : Qo := .inl (sI (fun m => nI (ml_lost a m)) (a 2))
theorem l173 (hok : ml_ok B a) : ∀ r k, k + r = a 1 → am_rn (am_ev (d + 1)) 173 9 [some (am_P (30, 0, 0)), some (am_I (sI (fun c => nI (a (12 + 6 * c + 5))) k)), some (am_I (nI k))] [] (am_pA M a) (am_Z w) = some (.inl (some (am_I (sI (fun c => nI (a (12 + 6 * c + 5))) (a 1)))), am_pA M a, am_Z w) := by
  have b1 := hok.1.1
  intro r
  induction r with
  | zero =>
    intro k hk
    rw [b173_9, am_pA_now, if_neg (nI_nlt (by omega) (by omega)), show k = a 1 by omega]
  | succ r ih =>
    intro k hk
    rw [b173_9, am_pA_now, if_pos (nI_lt (by omega) (by omega)), k128 (by omega) (by decide), ← ih (k + 1) (by omega)]
    simp only [am_cb_i, am_cb_e, Option.toList_some, Option.toList_none, List.cons_append, List.nil_append, b173_26, nI_add]
    rfl
theorem k173 (hok : ml_ok B a) (h : mlS a hs sv tx R e ln M) : mlQ a hs sv tx R e ln M w (am_ev (d + 2) 173 [am_P (30, 0, 0)] M (am_Z w)) (q_sm1 a) := by
  obtain ⟨M0, e0, hq⟩ := h.q0
  rw [e173, e0, show nI 0 = sI (fun c => nI (a (12 + 6 * c + 5))) 0 from rfl]
  have e1 := l173 (d := d) (M := M0) (w := w) hok (a 1) 0 (by omega)
  rw [show nI 0 = sI (fun c => nI (a (12 + 6 * c + 5))) 0 from rfl] at e1
  rw [e1]
  exact hq.v
theorem l95 (hok : ml_ok B a) (h : nwF 0 a M) : ∀ r k, k + r = a 1 → am_rn (am_ev d) 95 4 [some (am_P (3, 0, 0)), some (am_I (sI (fun c => nI (a (12 + 6 * c + 5))) k)), some (am_I (nI k))] [] M (am_Z w) = some (.inl (some (am_I (sI (fun c => nI (a (12 + 6 * c + 5))) (a 1)))), M, am_Z w) := by
  have b1 := hok.1.1
  intro r
  induction r with
  | zero =>
    intro k hk
    rw [b95_4, h.cc, if_neg (nI_nlt (by omega) (by omega)), show k = a 1 by omega]
  | succ r ih =>
    intro k hk
    rw [b95_4, h.cc, if_pos (nI_lt (by omega) (by omega)), if_pos (by rw [am_inT (by omega) (by omega)]; trivial), nI_clamp (by omega), h.cv (by omega) (by decide), ← ih (k + 1) (by omega), nI_add]
    rfl
theorem k95 (hok : ml_ok B a) (h : clS a hs sv tx R e ln M) : clQ M w (am_ev (d + 1) 95 [am_P (3, 0, 0)] M (am_Z w)) (q_sm1 a) := by
  obtain ⟨⟨ar, hA⟩, _⟩ := h
  rw [e95]
  exact l95 hok hA.1.1 (a 1) 0 (by omega)
theorem l174 (hok : ml_ok B a) : ∀ r k, k + r = a 2 → am_rn (am_ev (d + 2)) 174 4 [some (am_P (30, 0, 0)), some (am_I (sI (fun m => nI (ml_lost a m)) k)), some (am_I (nI k))] [] (am_pA M a) (am_Z w) = some (.inl (some (am_I (sI (fun m => nI (ml_lost a m)) (a 2)))), am_pA M a, am_Z w) := by
  have b2 := hok.1.2.1
  intro r
  induction r with
  | zero =>
    intro k hk
    rw [b174_4, am_pA_now, if_neg (nI_nlt (by omega) (by omega)), show k = a 2 by omega]
  | succ r ih =>
    intro k hk
    rw [b174_4, am_pA_now, if_pos (nI_lt (by omega) (by omega)), k149 (by omega) (hok.f (by omega)) (hok.2 k (by omega)).2.2.2.2.1, ← ih (k + 1) (by omega)]
    simp only [am_cb_i, am_cb_e, Option.toList_some, Option.toList_none, List.cons_append, List.nil_append, b174_20, nI_add]
    rfl
theorem k174 (hok : ml_ok B a) : am_ev (d + 3) 174 [am_P (30, 0, 0)] (am_pA M a) (am_Z w) = some (.inl (some (am_I (sI (fun m => nI (ml_lost a m)) (a 2)))), am_pA M a, am_Z w) := by
  rw [e174]
  exact l174 hok (a 2) 0 (by omega)
theorem k175 (hok : ml_ok B a) (h : mlS a hs sv tx R e ln M) : mlQ a hs sv tx R e ln M w (am_ev (d + 4) 175 [am_P (30, 0, 0)] M (am_Z w)) (q_sm2 a) := by
  obtain ⟨M0, e0, hq⟩ := h.q0
  rw [e175, e0, k174 hok]
  simp only [am_cb_i, am_cb_e, Option.toList_some, Option.toList_none, List.cons_append, List.nil_append, b175_9]
  exact hq.v
theorem l96 (hok : ml_ok B a) (h : nwF 0 a M) : ∀ r k, k + r = a 2 → am_rn (am_ev (d + 1)) 96 4 [some (am_P (3, 0, 0)), some (am_I (sI (fun m => nI (ml_lost a m)) k)), some (am_I (nI k))] [] M (am_Z w) = some (.inl (some (am_I (sI (fun m => nI (ml_lost a m)) (a 2)))), M, am_Z w) := by
  have b2 := hok.1.2.1
  intro r
  induction r with
  | zero =>
    intro k hk
    rw [b96_4, h.mc, if_neg (nI_nlt (by omega) (by omega)), show k = a 2 by omega]
  | succ r ih =>
    intro k hk
    rw [b96_4, h.mc, if_pos (nI_lt (by omega) (by omega)), if_pos (by rw [am_inT (by omega) (by omega)]; trivial), nI_clamp (by omega), k32 (by decide) hok h (by omega), ← ih (k + 1) (by omega)]
    simp only [am_cb_i, am_cb_e, Option.toList_some, Option.toList_none, List.cons_append, List.nil_append, b96_28, nI_add]
    rfl
theorem k96 (hok : ml_ok B a) (h : clS a hs sv tx R e ln M) : clQ M w (am_ev (d + 2) 96 [am_P (3, 0, 0)] M (am_Z w)) (q_sm2 a) := by
  obtain ⟨⟨ar, hA⟩, _⟩ := h
  rw [e96]
  exact l96 hok hA.1.1 (a 2) 0 (by omega)
/-- numbers of the whole -/
def ml_hw (a : Nat → Nat) (v : Nat) : Nat := nc (fun m => decide (a (60 + 19 * m + 6) = v)) (a 2)
def ml_pn (a : Nat → Nat) : Nat := nc (fun s => decide (a (4 + s) ≠ 0)) 8
def ml_sn (a : Nat → Nat) : Nat := nc (fun c => ml_silent a c) (a 1)
theorem l156 {v : Nat} (hv : v < 1000) (hok : ml_ok B a) : ∀ r k, k + r = a 2 → am_rn (am_ev (d + 1)) 156 4 [some (am_P (30, 0, 0)), some (am_I (nI v)), some (am_I (nI (nc (fun m => decide (a (60 + 19 * m + 6) = v)) k))), some (am_I (nI k))] [] (am_pA M a) (am_Z w) = some (.inl (some (am_I (nI (ml_hw a v)))), am_pA M a, am_Z w) := by
  have b2 := hok.1.2.1
  intro r
  induction r with
  | zero =>
    intro k hk
    rw [b156_4, am_pA_now, if_neg (nI_nlt (by omega) (by omega)), show k = a 2 by omega]
    rfl
  | succ r ih =>
    intro k hk
    have f6 := hok.f (m := k) (by omega) 6 (by decide) (by decide) (by decide)
    rw [b156_4, am_pA_now, if_pos (nI_lt (by omega) (by omega)), k129 (by omega) (by decide), ← ih (k + 1) (by omega), nc_s]
    simp only [am_cb_i, am_cb_e, Option.toList_some, Option.toList_none, List.cons_append, List.nil_append, b156_21, b156_28]
    by_cases h0 : a (60 + 19 * k + 6) = v
    · rw [if_pos (by rw [h0]), dV h0, nI_add, nI_add]
    · rw [if_neg (by rw [nI_eqI (by omega) (by omega)]; exact h0), dU h0, nI_add]
      rfl
theorem k156 {v : Nat} (hv : v < 1000) (hok : ml_ok B a) : am_ev (d + 2) 156 [am_P (30, 0, 0), am_I (nI v)] (am_pA M a) (am_Z w) = some (.inl (some (am_I (nI (ml_hw a v)))), am_pA M a, am_Z w) := by
  rw [e156]
  exact l156 hv hok (a 2) 0 (by omega)
theorem l59 {v : Nat} (hv : v < 1000) (hok : ml_ok B a) (h : nwF 0 a M) : ∀ r k, k + r = a 2 → am_rn (am_ev d) 59 4 [some (am_P (13, 0, 0)), some (am_I (nI v)), some (am_I (nI (nc (fun m => decide (a (60 + 19 * m + 6) = v)) k))), some (am_I (nI k))] [] M (am_Z w) = some (.inl (some (am_I (nI (ml_hw a v)))), M, am_Z w) := by
  have b2 := hok.1.2.1
  intro r
  induction r with
  | zero =>
    intro k hk
    rw [b59_4 (by decide), h.mc, if_neg (nI_nlt (by omega) (by omega)), show k = a 2 by omega]
    rfl
  | succ r ih =>
    intro k hk
    have f6 := hok.f (m := k) (by omega) 6 (by decide) (by decide) (by decide)
    rw [b59_4 (by decide), h.mc, if_pos (nI_lt (by omega) (by omega)), if_pos (by rw [am_inT (by omega) (by omega)]; trivial), nI_clamp (by omega), h.how (by omega), ← ih (k + 1) (by omega), nc_s]
    by_cases h0 : a (60 + 19 * k + 6) = v
    · rw [if_pos (by rw [h0]), dV h0, b59_28 (by decide), nI_add, nI_add]
    · rw [if_neg (by rw [nI_eqI (by omega) (by omega)]; exact h0), dU h0, b59_28 (by decide), nI_add]
      rfl
theorem k59 {v : Nat} (hv : v < 1000) (hok : ml_ok B a) (h : nwF 0 a M) : am_ev (d + 1) 59 [am_P (13, 0, 0), am_I (nI v)] M (am_Z w) = some (.inl (some (am_I (nI (ml_hw a v)))), M, am_Z w) := by
  rw [e59 (by decide)]
  exact l59 hv hok h (a 2) 0 (by omega)
theorem l58 (hok : ml_ok B a) (h : nwF 0 a M) : ∀ r k, k + r = 8 → am_rn (am_ev d) 58 4 [some (am_P (13, 0, 0)), some (am_I (nI (nc (fun s => decide (a (4 + s) ≠ 0)) k))), some (am_I (nI (k + 1)))] [] M (am_Z w) = some (.inl (some (am_I (nI (ml_pn a)))), M, am_Z w) := by
  intro r
  induction r with
  | zero =>
    intro k hk
    rw [b58_4 (by decide), if_pos (nI_lt (by omega) (by omega)), show k = 8 by omega]
    rfl
  | succ r ih =>
    intro k hk
    have h6 := hok.1.2.2.2.2.2.1 (4 + k) (by omega) (by omega)
    rw [b58_4 (by decide), if_neg (nI_nlt (by omega) (by omega)), if_pos (by rw [am_inT (by omega) (by omega)]; trivial), nI_clamp (by omega), h.ps (by omega) (by omega), show 3 + (k + 1) = 4 + k by omega, ← ih (k + 1) (by omega), nc_s]
    by_cases h0 : a (4 + k) = 0
    · rw [if_pos (by rw [nI_z (by omega)]; exact h0), dU (fun q => q h0), b58_22 (by decide), nI_add]
      rfl
    · rw [if_neg (by rw [nI_z (by omega)]; exact h0), dV h0, b58_22 (by decide), nI_add, nI_add]
theorem k58 (hok : ml_ok B a) (h : nwF 0 a M) : am_ev (d + 1) 58 [am_P (13, 0, 0)] M (am_Z w) = some (.inl (some (am_I (nI (ml_pn a)))), M, am_Z w) := by
  rw [e58 (by decide)]
  exact l58 hok h 8 0 (by omega)
theorem l60 (hok : ml_ok B a) (h : nwF 0 a M) : ∀ r k, k + r = a 1 → am_rn (am_ev d) 60 4 [some (am_P (13, 0, 0)), some (am_I (sI (fun c => nI (a (12 + 6 * c + 4))) k)), some (am_I (nI k))] [] M (am_Z w) = some (.inl (some (am_I (sI (fun c => nI (a (12 + 6 * c + 4))) (a 1)))), M, am_Z w) := by
  have b1 := hok.1.1
  intro r
  induction r with
  | zero =>
    intro k hk
    rw [b60_4 (by decide), h.cc, if_neg (nI_nlt (by omega) (by omega)), show k = a 1 by omega]
  | succ r ih =>
    intro k hk
    rw [b60_4 (by decide), h.cc, if_pos (nI_lt (by omega) (by omega)), if_pos (by rw [am_inT (by omega) (by omega)]; trivial), nI_clamp (by omega), h.cv (by omega) (by decide), ← ih (k + 1) (by omega), nI_add]
    rfl
theorem k60 (hok : ml_ok B a) (h : nwF 0 a M) : am_ev (d + 1) 60 [am_P (13, 0, 0)] M (am_Z w) = some (.inl (some (am_I (sI (fun c => nI (a (12 + 6 * c + 4))) (a 1)))), M, am_Z w) := by
  rw [e60 (by decide)]
  exact l60 hok h (a 1) 0 (by omega)
theorem l61 (hB : B < 1073741824) (hok : ml_ok B a) (h : nwF 0 a M) : ∀ r k, k + r = a 1 → am_rn (am_ev (d + 1)) 61 4 [some (am_P (13, 0, 0)), some (am_I (nI (nc (fun c => ml_silent a c) k))), some (am_I (nI k))] [] M (am_Z w) = some (.inl (some (am_I (nI (ml_sn a)))), M, am_Z w) := by
  have b1 := hok.1.1
  have b0 := hok.1.2.2.1 0 (by omega)
  intro r
  induction r with
  | zero =>
    intro k hk
    rw [b61_4 (by decide), h.cc, if_neg (nI_nlt (by omega) (by omega)), show k = a 1 by omega]
    rfl
  | succ r ih =>
    intro k hk
    rw [b61_4 (by decide), h.cc, if_pos (nI_lt (by omega) (by omega)), if_pos (by rw [am_inT (by omega) (by omega)]; trivial), nI_clamp (by omega), k38 (by decide) h (by omega), ← ih (k + 1) (by omega), nc_s]
    simp only [am_cb_i, am_cb_e, Option.toList_some, Option.toList_none, List.cons_append, List.nil_append]
    rw [b61_22 (by decide) (by omega), k18 (by decide) h hok.1 (by omega)]
    simp only [am_cb_i, am_cb_e, Option.toList_some, Option.toList_none, List.cons_append, List.nil_append]
    rw [b61_25 (by decide)]
    cases hw : ml_silent a k with
    | false => rw [if_pos (show nI false.toNat = 0 from rfl), b61_31 (by decide), nI_add]; rfl
    | true => rw [if_neg (show ¬ nI true.toNat = 0 from nI_ne0 (n := 1) (by decide) (by decide)), b61_31 (by decide), nI_add, nI_add]; rfl
theorem k61 (hB : B < 1073741824) (hok : ml_ok B a) (h : nwF 0 a M) : am_ev (d + 2) 61 [am_P (13, 0, 0)] M (am_Z w) = some (.inl (some (am_I (nI (ml_sn a)))), M, am_Z w) := by
  rw [e61 (by decide)]
  exact l61 hB hok h (a 1) 0 (by omega)
def q_all (a : Nat → Nat) (hl tl : Nat) (x : Int32) : Qo :=
  if x = nI 0 then .inl (nI (a 0)) else if x = nI 1 then .inl (nI (a 0 % 24)) else if x = nI 2 then .inl (nI (a 1)) else if x = nI 3 then .inl (nI (ml_pn a)) else if x = nI 4 then .inl (nI (a 2)) else if x = nI 5 then .inl (nI (ml_hw a 0)) else if x = nI 6 then .inl (nI (ml_hw a 1)) else if x = nI 7 then .inl (nI (ml_hw a 2)) else if x = nI 8 then .inl (sI (fun c => nI (a (12 + 6 * c + 4))) (a 1)) else if x = nI 9 then .inl (nI (ml_sn a)) else if x = nI 10 then .inl (nI hl) else if x = nI 11 then .inl (nI tl) else .inr (2, 1)
theorem k106 {x : Int32} (hB : B < 1073741824) (hok : ml_ok B a) (h : clS a hs sv tx R e ln M) : clQ M w (am_ev (d + 3) 106 [am_P (3, 0, 0), am_I x] M (am_Z w)) (q_all a hs.length tx.length x) := by
  obtain ⟨⟨ar, hA⟩, ⟨sr, s1, s2, s3, s4, s5⟩, hV, hT, hR⟩ := h
  have b0 := hok.1.2.2.1 0 (by omega)
  have h1 := hA.1.1
  rw [e106, h1.hour, h1.cc, h1.mc, s3, hT.1.1, k38 (by decide) h1 (by omega), k58 hok h1, k59 (by decide) hok h1, k59 (by decide) hok h1, k59 (by decide) hok h1, k60 hok h1, k61 hB hok h1]
  simp only [am_cb_i, am_cb_e, Option.toList_some, Option.toList_none, List.cons_append, List.nil_append, b106_79, b106_95, b106_112, b106_121, b106_130, b106_138, b106_146]
  unfold q_all
  iterate 12 refine clQ.ite (fun _ => rfl) (fun _ => ?_)
  rfl
theorem l191a {x : Int32} (hok : ml_ok B a) : ∀ r k, k + r = 8 → am_rn (am_ev d) 191 98 [some (am_P (30, 0, 0)), some (am_I x), some (am_I (nI (nc (fun s => decide (a (4 + s) ≠ 0)) k))), some (am_I (nI k))] [] (am_pA M a) (am_Z w) = some (.inl (some (am_I (nI (ml_pn a)))), am_pA M a, am_Z w) := by
  intro r
  induction r with
  | zero =>
    intro k hk
    rw [b191_98, if_neg (nI_nlt (by omega) (by omega)), show k = 8 by omega]
    rfl
  | succ r ih =>
    intro k hk
    have h6 := hok.1.2.2.2.2.2.1 (4 + k) (by omega) (by omega)
    rw [b191_98, if_pos (nI_lt (by omega) (by omega)), nI_add, if_pos (by rw [am_inT (by omega) (by omega)]; trivial), nI_clamp (by omega), am_pA_now, ← ih (k + 1) (by omega), nc_s]
    by_cases h0 : a (4 + k) = 0
    · rw [if_neg (by rw [h0]; exact z0), dU (fun q => q h0), b191_118, nI_add]
      rfl
    · rw [if_pos (nI_gt0 (by omega) (by omega)), dV h0, b191_118, nI_add, nI_add]
theorem l191b {x : Int32} (hok : ml_ok B a) : ∀ r k, k + r = a 1 → am_rn (am_ev (d + 1)) 191 143 [some (am_P (30, 0, 0)), some (am_I x), some (am_I (sI (fun c => nI (a (12 + 6 * c + 4))) k)), some (am_I (nI k))] [] (am_pA M a) (am_Z w) = some (.inl (some (am_I (sI (fun c => nI (a (12 + 6 * c + 4))) (a 1)))), am_pA M a, am_Z w) := by
  have b1 := hok.1.1
  intro r
  induction r with
  | zero =>
    intro k hk
    rw [b191_143, am_pA_now, if_neg (nI_nlt (by omega) (by omega)), show k = a 1 by omega]
  | succ r ih =>
    intro k hk
    rw [b191_143, am_pA_now, if_pos (nI_lt (by omega) (by omega)), k128 (by omega) (by decide), ← ih (k + 1) (by omega)]
    simp only [am_cb_i, am_cb_e, Option.toList_some, Option.toList_none, List.cons_append, List.nil_append, b191_160, nI_add]
    rfl
theorem l191c {x : Int32} (hB : B < 1073741824) (hok : ml_ok B a) : ∀ r k, k + r = a 1 → am_rn (am_ev (d + 2)) 191 172 [some (am_P (30, 0, 0)), some (am_I x), some (am_I (nI (nc (fun c => ml_silent a c) k))), some (am_I (nI k))] [] (am_pA M a) (am_Z w) = some (.inl (some (am_I (nI (ml_sn a)))), am_pA M a, am_Z w) := by
  have b1 := hok.1.1
  intro r
  induction r with
  | zero =>
    intro k hk
    rw [b191_172, am_pA_now, if_neg (nI_nlt (by omega) (by omega)), show k = a 1 by omega]
    rfl
  | succ r ih =>
    intro k hk
    rw [b191_172, am_pA_now, if_pos (nI_lt (by omega) (by omega)), k144 hB hok.1 (by omega), ← ih (k + 1) (by omega), nc_s]
    simp only [am_cb_i, am_cb_e, Option.toList_some, Option.toList_none, List.cons_append, List.nil_append, b191_187, b191_193]
    cases hw : ml_silent a k with
    | false => rw [if_pos (show nI false.toNat = 0 from rfl), nI_add]; rfl
    | true => rw [if_neg (show ¬ nI true.toNat = 0 from nI_ne0 (n := 1) (by decide) (by decide)), nI_add, nI_add]; rfl
theorem k191 {x : Int32} (hB : B < 1073741824) (hok : ml_ok B a) (h : mlS a hs sv tx R e ln M) : mlQ a hs sv tx R e ln M w (am_ev (d + 3) 191 [am_P (30, 0, 0), am_I x] M (am_Z w)) (q_all a hs.length tx.length x) := by
  have b0 := hok.1.2.2.1 0 (by omega)
  obtain ⟨M0, e0, hq⟩ := h.q0
  have s4 := hq.1.2.1.1
  have s10 := hq.1.2.2.2.1.1
  have ea := l191a (d := d + 2) (M := M0) (w := w) (x := x) hok 8 0 (by omega)
  rw [show nI (nc (fun s => decide (a (4 + s) ≠ 0)) 0) = nI 0 from rfl] at ea
  have eb := l191b (d := d + 1) (M := M0) (w := w) (x := x) hok (a 1) 0 (by omega)
  rw [show sI (fun c => nI (a (12 + 6 * c + 4))) 0 = nI 0 from rfl] at eb
  have ec := l191c (d := d) (M := M0) (w := w) (x := x) hB hok (a 1) 0 (by omega)
  rw [show nI (nc (fun c => ml_silent a c) 0) = nI 0 from rfl] at ec
  rw [e191, e0, b191_5, ea, eb, ec, s4, s10, am_pA_now, am_pA_now, am_pA_now, pk_rem (by omega) (by decide) (by decide), k115]
  unfold q_all
  iterate 5 refine mlQ.ite (fun _ => hq.v) (fun _ => ?_)
  refine mlQ.ite (fun hx => ?_) (fun _ => ?_)
  · rw [hx, pk_sub (by decide), k156 (by decide) hok]
    simp only [am_cb_i, am_cb_e, Option.toList_some, Option.toList_none, List.cons_append, List.nil_append, b191_140]
    exact hq.v
  refine mlQ.ite (fun hx => ?_) (fun _ => ?_)
  · rw [hx, pk_sub (by decide), k156 (by decide) hok]
    simp only [am_cb_i, am_cb_e, Option.toList_some, Option.toList_none, List.cons_append, List.nil_append, b191_140]
    exact hq.v
  refine mlQ.ite (fun hx => ?_) (fun _ => ?_)
  · rw [hx, pk_sub (by decide), k156 (by decide) hok]
    simp only [am_cb_i, am_cb_e, Option.toList_some, Option.toList_none, List.cons_append, List.nil_append, b191_140]
    exact hq.v
  iterate 4 refine mlQ.ite (fun _ => hq.v) (fun _ => ?_)
  simp only [am_cb_i, am_cb_e, Option.toList_some, Option.toList_none, List.cons_append, List.nil_append, b191_216]
  exact hq.t
end Kq4
