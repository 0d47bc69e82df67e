/-! THE TWO MEANS -/
section Kfl
variable {d B : Nat} {M M' M0 : am_M} {a b : Nat → Nat} {w : am_W4} {hs : List (Nat → Nat)} {sv : Option (Nat → Nat)} {tx ln : List Int32} {R : Int32 × Int32 × Int32} {e : Int32}
/-- sums of numbers -/
def sN (f : Nat → Nat) : Nat → Nat
  | 0 => 0
  | k + 1 => sN f k + f k
theorem sN_le {f : Nat → Nat} {c : Nat} : ∀ {n : Nat}, (∀ k, k < n → f k ≤ c) → sN f n ≤ c * n := by
  intro n
  induction n with
  | zero => intro _; exact Nat.zero_le _
  | succ n ih =>
    intro h
    have h1 := ih (fun k hk => h k (by omega))
    have h2 := h n (by omega)
    show sN f n + f n ≤ c * (n + 1)
    rw [Nat.mul_succ]
    omega
theorem sI_sN {f : Nat → Nat} : ∀ n, sI (fun k => nI (f k)) n = nI (sN f n) := by
  intro n
  induction n with
  | zero => rfl
  | succ n ih =>
    show sI (fun k => nI (f k)) n + nI (f n) = nI (sN f n + f n)
    rw [ih, nI_add]
def me_e (a : Nat → Nat) : Nat := sN (fun c => a (12 + 6 * c + 1)) (a 1)
def me_s (a : Nat → Nat) : Nat := sN (fun m => a (60 + 19 * m + 3)) (a 2)
def me_l (a : Nat → Nat) : Nat := sN (fun m => ml_lost a m) (a 2)
theorem me_e_lt (h : ml_ok B a) : me_e a < 600 := by
  have b1 := h.1.1
  have e1 := sN_le (f := fun c => a (12 + 6 * c + 1)) (c := 99) (n := a 1) (fun k hk => by have := h.1.2.2.2.2.1 k 1 (by omega) (by omega); omega)
  unfold me_e
  omega
theorem me_s_lt (h : ml_ok B a) : me_s a < 129 := by
  have b2 := h.1.2.1
  have e1 := sN_le (f := fun m => a (60 + 19 * m + 3)) (c := 8) (n := a 2) (fun k hk => (h.2 k hk).2.2.2.2.1)
  unfold me_s
  omega
theorem me_l_lt (h : ml_ok B a) : me_l a < 129 := by
  have b2 := h.1.2.1
  have e1 := sN_le (f := fun m => ml_lost a m) (c := 8) (n := a 2) (fun k hk => by have := lost_le (a := a) (m := k); have := (h.2 k hk).2.2.2.2.1; omega)
  unfold me_l
  omega
theorem me_s_0 (h : ml_ok B a) : me_s a = 0 ↔ a 2 = 0 := by
  unfold me_s
  constructor
  · intro q
    rcases Nat.eq_zero_or_pos (a 2) with z | z
    · exact z
    · exfalso
      have e1 : sN (fun m => a (60 + 19 * m + 3)) (a 2) = sN (fun m => a (60 + 19 * m + 3)) (a 2 - 1) + a (60 + 19 * (a 2 - 1) + 3) := by
        conv => lhs; rw [show a 2 = (a 2 - 1) + 1 by omega]
        rfl
      have := (h.2 (a 2 - 1) (by omega)).2.2.2.1
      omega
  · intro q; rw [q]; rfl
theorem k81n (h0 : a 1 = 0) (h : clS a hs sv tx R e ln M) : am_ev (d + 1) 81 [am_P (3, 0, 0)] M (am_Z w) = some (.inr 5, M, am_Z (am_bw w)) := by
  rw [e81, h.net.cc, h0, if_pos (show nI 0 = 0 from rfl)]
theorem l81 (hok : ml_ok B a) (h : nwF 0 a M) (h0 : 0 < a 1) : ∀ r k, k + r = a 1 → am_rn (am_ev d) 81 22 [some (am_P (3, 0, 0)), some (am_I (nI (sN (fun c => a (12 + 6 * c + 1)) k))), some (am_I (nI k))] [] M (am_Z w) = some (.inl (some (.inl (.float (FP.fdiv (FP.i2f (nI (me_e a))) (FP.i2f (nI (a 1))))))), M, am_Z w) := by
  have b1 := hok.1.1
  intro r
  induction r with
  | zero =>
    intro k hk
    obtain rfl : k = a 1 := by omega
    rw [b81_22, h.cc, if_neg (nI_nlt (by omega) (by omega)), show sN (fun c => a (12 + 6 * c + 1)) (a 1) = me_e a from rfl, if_pos (fl_ok1 _ (me_e_lt hok) _ (by omega) h0).1]
  | succ r ih =>
    intro k hk
    rw [b81_22, h.cc, if_pos (nI_lt (by omega) (by omega)), if_pos (by rw [am_inT (by omega) (by omega)]; trivial), nI_clamp (by omega), h.cv (by omega) (by decide), ← ih (k + 1) (by omega), nI_add, nI_add]
    rfl
theorem k81s (hok : ml_ok B a) (h0 : 0 < a 1) (h : clS a hs sv tx R e ln M) : am_ev (d + 1) 81 [am_P (3, 0, 0)] M (am_Z w) = some (.inl (some (.inl (.float (FP.fdiv (FP.i2f (nI (me_e a))) (FP.i2f (nI (a 1))))))), M, am_Z w) := by
  have b1 := hok.1.1
  rw [e81, h.net.cc, if_neg (nI_ne0 h0 (by omega))]
  exact l81 hok h.net h0 (a 1) 0 (by omega)
theorem k97n (h0 : a 2 = 0) (h : clS a hs sv tx R e ln M) : am_ev (d + 1) 97 [am_P (3, 0, 0)] M (am_Z w) = some (.inr 5, M, am_Z (am_bw w)) := by
  rw [e97, h.net.mc, h0, if_pos (show nI 0 = 0 from rfl)]
theorem l97 (hok : ml_ok B a) (h : nwF 0 a M) : ∀ r k, k + r = a 2 → am_rn (am_ev (d + 2)) 97 22 [some (am_P (3, 0, 0)), some (am_I (nI (sN (fun m => a (60 + 19 * m + 3)) k))), some (am_I (nI k))] [] M (am_Z w) = am_rn (am_ev (d + 2)) 97 22 [some (am_P (3, 0, 0)), some (am_I (nI (me_s a))), some (am_I (nI (a 2)))] [] M (am_Z w) := by
  have b2 := hok.1.2.1
  intro r
  induction r with
  | zero =>
    intro k hk
    obtain rfl : k = a 2 := by omega
    rfl
  | succ r ih =>
    intro k hk
    rw [← ih (k + 1) (by omega), b97_22, h.mc, if_pos (nI_lt (by omega) (by omega)), if_pos (by rw [am_inT (by omega) (by omega)]; trivial), nI_clamp (by omega), h.mny (by omega), nI_add, nI_add]
    rfl
theorem k97s (hok : ml_ok B a) (h0 : 0 < a 2) (h : clS a hs sv tx R e ln M) : am_ev (d + 3) 97 [am_P (3, 0, 0)] M (am_Z w) = some (.inl (some (.inl (.double (FP.ddiv (FP.i2d (nI (me_l a))) (FP.i2d (nI (me_s a))))))), M, am_Z w) := by
  have b2 := hok.1.2.1
  have hs1 := me_s_lt hok
  have hl1 := me_l_lt hok
  have hp : 0 < me_s a := by
    rcases Nat.eq_zero_or_pos (me_s a) with z | z
    · have := (me_s_0 hok).mp z
      omega
    · exact z
  have e1 := l97 (d := d) (w := w) hok h.net (a 2) 0 (by omega)
  rw [show sN (fun m => a (60 + 19 * m + 3)) 0 = 0 from rfl] at e1
  have e2 := k96 (d := d) (w := w) hok h
  unfold q_sm2 clQ at e2
  rw [sI_sN (f := fun m => ml_lost a m)] at e2
  rw [e97, h.net.mc, if_neg (nI_ne0 h0 (by omega)), e1, b97_22, h.net.mc, if_neg (nI_nlt (Nat.le_refl _) (by omega)), e2]
  simp only [am_cb_i, am_cb_e, Option.toList_some, Option.toList_none, List.cons_append, List.nil_append, b97_58]
  rw [show sN (fun m => ml_lost a m) (a 2) = me_l a from rfl, if_pos (fl_ok2 _ hl1 _ hs1 hp)]
end Kfl
