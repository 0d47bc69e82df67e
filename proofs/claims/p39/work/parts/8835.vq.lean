/-! ANSWERS OF THE REFUSED QUESTIONS -/
section Kre
variable {d B : Nat} {M : am_M} {a : Nat → Nat} {w : am_W4} {hs : List (Nat → Nat)} {sv : Option (Nat → Nat)} {tx ln : List Int32} {R : Int32 × Int32 × Int32} {e : Int32} {x y z : Int32}
theorem k4_16 {k : Nat} (hk : k ≤ 4) : ¬ nI k = nI 16 := fun q => by have := (nI_eq (by omega) (by decide)).mp q; omega
theorem k4_m1 {k : Nat} (hk : k ≤ 4) : ¬ nI k = (-1 : Int32) := nI_nm1 (by omega)
theorem nfq {P : Nat → Bool} {k : Nat} (h : ∀ m, P m = false) : nf P k 0 = none := nf_none (fun m _ _ => h m)
theorem wt_no {x : Int32} (h2 : a 2 = 4) (hx : ∀ k, k ≤ 4 → ¬ nI k = x) {c : Nat} : ml_wt a c x = none := nfq (fun m => by
  show (ml_waits a m c && decide (nI (nc (ml_befP a m c) (a 2)) = x)) = false
  rw [decide_eq_false (hx _ (Nat.le_trans (nc_le _ _) (Nat.le_of_eq h2))), Bool.and_false])
theorem arr_no (h2 : a 2 = 4) : nf (ar_F a (nI 16)) (a 2) 0 = none := nfq (fun m => by
  show (decide (a (60 + 19 * m + 6) = 1) && decide (nI (nc (ar_P a m) (a 2)) = nI 16)) = false
  rw [decide_eq_false (k4_16 (Nat.le_trans (nc_le _ _) (Nat.le_of_eq h2))), Bool.and_false])
theorem rnk_no (h2 : a 2 = 4) : nf (rk_F a (nI 16)) (a 2) 0 = none := nfq (fun m => by
  show (decide (a (60 + 19 * m + 6) = 0) && decide (nI (nc (rk_P a m) (a 2)) = nI 16)) = false
  rw [decide_eq_false (k4_16 (Nat.le_trans (nc_le _ _) (Nat.le_of_eq h2))), Bool.and_false])
theorem vq0 (h1 : a 1 = 5) (h2 : a 2 = 4) (hok : ml_ok B a) : qvl id (q_cnv a (nI 5) (nI 9)) = (-1001 : Int32) := by
  unfold q_cnv
  simp (decide := true) only [h1, h2, if_true, if_false, ite_true, ite_false, qvl, qc]
theorem vq1 (h1 : a 1 = 5) (h2 : a 2 = 4) (hok : ml_ok B a) : qvl id (q_cnv a (nI 0) (nI 8)) = (-1002 : Int32) := by
  unfold q_cnv
  simp (decide := true) only [h1, h2, if_true, if_false, ite_true, ite_false, qvl, qc]
theorem vq2 (h1 : a 1 = 5) (h2 : a 2 = 4) (hok : ml_ok B a) : qvl id (q_cnv a (nI 0) (-1 : Int32)) = (-1002 : Int32) := by
  unfold q_cnv
  simp (decide := true) only [h1, h2, if_true, if_false, ite_true, ite_false, qvl, qc]
theorem vq3 (h1 : a 1 = 5) (h2 : a 2 = 4) (hok : ml_ok B a) : qvl id (q_rng a (nI 5 - nI 1) (nI 9)) = (-1001 : Int32) := by
  unfold q_rng
  simp (decide := true) only [h1, h2, if_true, if_false, ite_true, ite_false, qvl, qc]
theorem vq4 (h1 : a 1 = 5) (h2 : a 2 = 4) (hok : ml_ok B a) : qvl id (q_rng a (nI 0) (nI 2)) = (-1002 : Int32) := by
  unfold q_rng
  simp (decide := true) only [h1, h2, if_true, if_false, ite_true, ite_false, qvl, qc]
theorem vq5 (h1 : a 1 = 5) (h2 : a 2 = 4) (hok : ml_ok B a) : qvl id (q_psl a (nI 9)) = (-1001 : Int32) := by
  unfold q_psl
  simp (decide := true) only [h1, h2, if_true, if_false, ite_true, ite_false, qvl, qc]
theorem vq6 (h1 : a 1 = 5) (h2 : a 2 = 4) (hok : ml_ok B a) : qvl id (q_psl a (nI 0)) = (-1001 : Int32) := by
  unfold q_psl
  simp (decide := true) only [h1, h2, if_true, if_false, ite_true, ite_false, qvl, qc]
theorem vq7 (h1 : a 1 = 5) (h2 : a 2 = 4) (hok : ml_ok B a) : qvl id (q_msg a (nI 4) (nI 9)) = (-1001 : Int32) := by
  unfold q_msg
  simp (decide := true) only [h1, h2, if_true, if_false, ite_true, ite_false, qvl, qc]
theorem vq8 (h1 : a 1 = 5) (h2 : a 2 = 4) (hok : ml_ok B a) : qvl id (q_msg a (nI 0) (nI 9)) = (-1002 : Int32) := by
  unfold q_msg
  simp (decide := true) only [h1, h2, if_true, if_false, ite_true, ite_false, qvl, qc]
theorem vq9 (h1 : a 1 = 5) (h2 : a 2 = 4) (hok : ml_ok B a) : qvl id (q_msg a (nI 0) (-1 : Int32)) = (-1002 : Int32) := by
  unfold q_msg
  simp (decide := true) only [h1, h2, if_true, if_false, ite_true, ite_false, qvl, qc]
theorem vq10 (h1 : a 1 = 5) (h2 : a 2 = 4) (hok : ml_ok B a) : qvl id (q_sig a (nI 4) (nI 0)) = (-1001 : Int32) := by
  unfold q_sig
  simp (decide := true) only [h1, h2, if_true, if_false, ite_true, ite_false, qvl, qc]
theorem vq11 (h1 : a 1 = 5) (h2 : a 2 = 4) (hok : ml_ok B a) : qvl id (q_sig a (nI 0) (nI 8)) = (-1001 : Int32) := by
  have w3 := (hok.2 0 (by omega)).2.2.2.2.1
  have hx : ¬ am_in (nI 8) (a (60 + 19 * cN (nI 0) + 3)) := fun q => by
    have := (am_in_iff.mp q).2
    rw [nI_clamp (by decide), cN_nI (by decide)] at this
    omega
  unfold q_sig
  rw [if_neg hx]
  simp (decide := true) only [h2, if_true, ite_true, qvl, qc]
theorem vq12 (h1 : a 1 = 5) (h2 : a 2 = 4) (hok : ml_ok B a) : qvl id (q_sig a (nI 0) (-1 : Int32)) = (-1001 : Int32) := by
  unfold q_sig
  rw [if_neg (c := am_in (-1 : Int32) (a (60 + 19 * cN (nI 0) + 3))) (fun q => absurd (am_in_iff.mp q).1 (by decide))]
  simp (decide := true) only [h2, if_true, ite_true, qvl, qc]
theorem vq13 (h1 : a 1 = 5) (h2 : a 2 = 4) (hok : ml_ok B a) : qvl id (q_mas a (nI 4)) = (-1001 : Int32) := by
  unfold q_mas
  simp (decide := true) only [h1, h2, if_true, if_false, ite_true, ite_false, qvl, qc]
theorem vq14 (h1 : a 1 = 5) (h2 : a 2 = 4) (hok : ml_ok B a) : qvl id (q_que a (nI 5) (nI 0)) = (-1001 : Int32) := by
  unfold q_que
  simp (decide := true) only [h1, h2, if_true, if_false, ite_true, ite_false, qvl, qc]
theorem vq15 (h1 : a 1 = 5) (h2 : a 2 = 4) (hok : ml_ok B a) : qvl id (q_que a (nI 0) (nI 16)) = (-1002 : Int32) := by
  unfold q_que
  rw [wt_no h2 (fun k hk => k4_16 hk), h1]
  simp (decide := true) only [if_true, ite_true, qvl, qc]
theorem vq16 (h1 : a 1 = 5) (h2 : a 2 = 4) (hok : ml_ok B a) : qvl id (q_que a (nI 0) (-1 : Int32)) = (-1002 : Int32) := by
  unfold q_que
  rw [wt_no h2 (fun k hk => k4_m1 hk), h1]
  simp (decide := true) only [if_true, ite_true, qvl, qc]
theorem vq17 (h1 : a 1 = 5) (h2 : a 2 = 4) (hok : ml_ok B a) : qvl id (q_arr a (nI 16)) = (-1001 : Int32) := by
  unfold q_arr
  rw [arr_no h2]
  rfl
theorem vq18 (h1 : a 1 = 5) (h2 : a 2 = 4) (hok : ml_ok B a) : qvl id (q_str a (nI 5) (nI 1)) = (-1001 : Int32) := by
  unfold q_str
  simp (decide := true) only [h1, h2, if_true, if_false, ite_true, ite_false, qvl, qc]
theorem vq19 (h1 : a 1 = 5) (h2 : a 2 = 4) (hok : ml_ok B a) : qvl (fun v => if v = 0 then 0 else 1) (q_hrd a (-1 : Int32) (nI 1)) = (-1001 : Int32) := by
  unfold q_hrd
  simp (decide := true) only [h1, h2, if_true, if_false, ite_true, ite_false, qvl, qc]
theorem vq20 (h1 : a 1 = 5) (h2 : a 2 = 4) (hok : ml_ok B a) : qvl id (q_wnd a (nI 5 - nI 1) (nI 0)) = (-1001 : Int32) := by
  unfold q_wnd
  simp (decide := true) only [h1, h2, if_true, if_false, ite_true, ite_false, qvl, qc]
theorem vq21 (h1 : a 1 = 5) (h2 : a 2 = 4) (hok : ml_ok B a) : qvl id (q_wnd a (nI 0) (nI 201)) = (-1002 : Int32) := by
  unfold q_wnd
  simp (decide := true) only [h1, h2, if_true, if_false, ite_true, ite_false, qvl, qc]
theorem vq22 (h1 : a 1 = 5) (h2 : a 2 = 4) (hok : ml_ok B a) : qvl id (q_wnd a (nI 0) (-1 : Int32)) = (-1002 : Int32) := by
  unfold q_wnd
  simp (decide := true) only [h1, h2, if_true, if_false, ite_true, ite_false, qvl, qc]
theorem vq23 (h1 : a 1 = 5) (h2 : a 2 = 4) (hok : ml_ok B a) : qvl id (q_tri a (nI 4) 0) = (-1001 : Int32) := by
  unfold q_tri
  simp (decide := true) only [h1, h2, if_true, if_false, ite_true, ite_false, qvl, qc]
theorem vq24 (h1 : a 1 = 5) (h2 : a 2 = 4) (hok : ml_ok B a) : qvl id (q_tri a (-1 : Int32) 1) = (-1001 : Int32) := by
  unfold q_tri
  simp (decide := true) only [h1, h2, if_true, if_false, ite_true, ite_false, qvl, qc]
theorem vq25 (h1 : a 1 = 5) (h2 : a 2 = 4) (hok : ml_ok B a) : qvl id (q_rnk a (nI 16)) = (-1001 : Int32) := by
  unfold q_rnk
  rw [rnk_no h2]
  rfl
theorem vq26 (h1 : a 1 = 5) (h2 : a 2 = 4) (hok : ml_ok B a) : qvl id (q_why R (-1 : Int32)) = (-1001 : Int32) := by
  unfold q_why
  simp (decide := true) only [if_false, ite_false, qvl, qc, if_true, ite_true]
theorem vq27 (h1 : a 1 = 5) (h2 : a 2 = 4) (hok : ml_ok B a) : qvl id (q_why R (nI 3)) = (-1001 : Int32) := by
  unfold q_why
  simp (decide := true) only [if_false, ite_false, qvl, qc, if_true, ite_true]
theorem vq31 (h1 : a 1 = 5) (h2 : a 2 = 4) (hok : ml_ok B a) : qvl id (q_all a hs.length tx.length (nI 12)) = (-1001 : Int32) := by
  unfold q_all
  simp (decide := true) only [if_false, ite_false, qvl, qc, if_true, ite_true]
theorem vq32 (h1 : a 1 = 5) (h2 : a 2 = 4) (hok : ml_ok B a) : qvl id (q_all a hs.length tx.length (-1 : Int32)) = (-1001 : Int32) := by
  unfold q_all
  simp (decide := true) only [if_false, ite_false, qvl, qc, if_true, ite_true]
theorem d138 (h : lS a hs sv tx R e M) : hR (lS a hs sv tx R e) M w 1 (am_ev (d + 11) 138 [am_P (3, 0, 0), am_I x] M (am_Z w)) (am_I (qvl id (q_why R x))) := a138 (d := d + 7) h
theorem r139 (hok : ml_ok B a) (hx : ¬ am_in x (a 2)) (h : lS a hs sv tx R e M) : hR (lS a hs sv tx R e) M w 1 (am_ev (d + 3 + 1) 139 [am_P (3, 0, 0), am_I x] M (am_Z w)) (am_I (-1001 : Int32)) := by
  obtain ⟨ln, hc, hl⟩ := h
  exact ⟨M, am_bw w, h139.2 1 1 M _ List.mem_cons_self (k102n (d := d) hok hx hc), ⟨ln, hc, hl⟩, clF.rf M, wle.bw w⟩
theorem r140 (hx : ∀ k, k ≤ 14 → ¬ am_in x k) (h : lS a hs sv tx R e M) : hR (lS a hs sv tx R e) M w 1 (am_ev (d + 1 + 1) 140 [am_P (3, 0, 0), am_I x] M (am_Z w)) (am_I (-1001 : Int32)) := by
  obtain ⟨ln, hc, hl⟩ := h
  have h1 := k105 (d := d) (w := w) (x := x) hl.1 hl.2 hc
  rw [q_ltr_out (hx _ hl.1)] at h1
  exact ⟨M, am_bw w, h140.2 1 1 M _ List.mem_cons_self h1, ⟨ln, hc, hl⟩, clF.rf M, wle.bw w⟩
end Kre
