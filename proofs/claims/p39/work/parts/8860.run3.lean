/-! THE FIRST OBJECT'S RUN: SIX CONVENTS, A PSALM, SIXTEEN MESSAGES -/
def rCo : Nat → Nat := fun k => match k with
  | 0 => rc0
  | 1 => rc1
  | 2 => rc2
  | 3 => rc3
  | 4 => rc4
  | 5 => rc5
  | 6 => rc6
  | _ => 0
def rSo : Nat → Nat := fun k => match k with
  | 0 => rs0
  | 1 => rs1
  | 2 => rs2
  | 3 => rs3
  | 4 => rs4
  | 5 => rs5
  | 6 => rs6
  | 7 => rs7
  | 8 => rs8
  | 9 => rs9
  | 10 => rs10
  | 11 => rs11
  | 12 => rs12
  | 13 => rs13
  | 14 => rs14
  | 15 => rs15
  | 16 => rs16
  | _ => 0
theorem rCo_s : ∀ k, k < 6 → ∀ j, j < 364 → rwl (rCo (k + 1)) j = cnv (rwl (rCo k)) 9 0 9 j := by
  intro k hk
  match k, hk with
  | 0, _ => exact rcv_0
  | 1, _ => exact rcv_1
  | 2, _ => exact rcv_2
  | 3, _ => exact rcv_3
  | 4, _ => exact rcv_4
  | 5, _ => exact rcv_5
  | k + 6, h => exact absurd h (by omega)
theorem rSo_s : ∀ k, k < 16 → ∀ j, j < 364 → rwl (rSo (k + 1)) j = sn (rwl (rSo k)) 0 5 77777777 j := by
  intro k hk
  match k, hk with
  | 0, _ => exact rs_0
  | 1, _ => exact rs_1
  | 2, _ => exact rs_2
  | 3, _ => exact rs_3
  | 4, _ => exact rs_4
  | 5, _ => exact rs_5
  | 6, _ => exact rs_6
  | 7, _ => exact rs_7
  | 8, _ => exact rs_8
  | 9, _ => exact rs_9
  | 10, _ => exact rs_10
  | 11, _ => exact rs_11
  | 12, _ => exact rs_12
  | 13, _ => exact rs_13
  | 14, _ => exact rs_14
  | 15, _ => exact rs_15
  | k + 16, h => exact absurd h (by omega)
theorem rCo_1 : ∀ k, k < 6 → rwl (rCo k) 1 = k := by decide +kernel
theorem rSo_1 : ∀ k, k < 17 → rwl (rSo k) 1 = 6 ∧ rwl (rSo k) 2 = k ∧ uk (rwl (rSo k)) 77777777 (nd 8 77777777) = 0 := by decide +kernel
theorem dg7 : dgk 77777777 := by decide +kernel
theorem oC_1' {a : Nat → Nat} {x y z : Int32} : oC a 1 x y z = o_psl a x y := rfl
theorem o_cnv_c {k : Nat} (hk : k < 6) : oC (rwl (rCo k)) 0 (nI 9) (nI 0) (nI 9) = .inl (k, cnv (rwl (rCo k)) 9 0 9) := by
  have h1 := rCo_1 k hk
  show o_cnv _ (nI 9) (nI 0) (nI 9) = _
  unfold o_cnv
  rw [if_pos ⟨by decide, by decide, fun _ => by decide⟩, if_neg (by omega), cN_nI (by decide), cN_nI (by decide), h1]
theorem o_psl_c : oC (rwl rc6) 1 (nI 7) (nI 150) (nI 0) = .inl (0, nu (rwl rc6) 10 150) := by
  have hn : nf (pf (rwl rc6) 7 150) 8 1 = none := by decide +kernel
  have h0 : rwl rc6 (3 + 7) = 0 := by decide +kernel
  rw [oC_1']
  unfold o_psl
  rw [if_pos (by decide), if_pos (by decide), cN_nI (by decide), cN_nI (by decide), hn, h0]
theorem o_snd_c {k : Nat} (hk : k < 16) : oC (rwl (rSo k)) 5 (nI 0) (nI 5) (nI 77777777) = .inl (k, sn (rwl (rSo k)) 0 5 77777777) := by
  obtain ⟨h1, h2, h3⟩ := rSo_1 k (by omega)
  show o_snd _ (nI 0) (nI 5) (nI 77777777) = _
  unfold o_snd
  rw [h1, if_pos (by decide), if_pos (by decide), if_neg (by decide), if_pos (by decide), cN_nI (k := 77777777) (by decide), if_pos dg7, h3, if_neg (by decide), if_neg (by omega), cN_nI (by decide), cN_nI (by decide), h2]
section Kr3
variable {M : am_M} {w : am_W4} {sv : Option (Nat → Nat)}
theorem p1c1 : ∀ r k B (M : am_M), k + r = 6 → 1000 ≤ B → B + 20000 * r < 900000000 → gS B (rwl (rCo k)) sv M → ∃ M', am_rn (am_ev 15) 227 138 (L2 k) [] M (am_Z w) = am_rn (am_ev 15) 227 138 (L2 6) [] M' (am_Z w) ∧ gS (B + 20000 * r) (rwl (rCo 6)) sv M' ∧ clF M M' := by
  intro r
  induction r with
  | zero =>
    intro k B M hk hB0 hB hg
    obtain rfl : k = 6 := by omega
    exact ⟨M, rfl, hg, clF.rf M⟩
  | succ r ih =>
    intro k B M hk hB0 hB hg
    obtain ⟨M1, e1, g1, f1, -⟩ := gO (d := 4) (w := w) (zz := 115) (as := [am_P (3, 0, 0), am_I (nI 9), am_I (nI 0), am_I (nI 9)]) hB0 hg (o_cnv_c (by omega)) (fun hs R e hok h => a115 (d := 5) hB0 (by omega) hok h)
    obtain ⟨M2, e2, g2, f2⟩ := ih (k + 1) (B + 20000) M1 (by omega) (by omega) (by omega) (g1.cg (rCo_s k (by omega)))
    refine ⟨M2, ?_, by rw [show B + 20000 * (r + 1) = B + 20000 + 20000 * r by omega]; exact g2, f1.tr f2⟩
    rw [show am_rn (am_ev 15) 227 138 (L2 k) [] M (am_Z w) = _ from b227_138, if_pos (nI_lt (by omega) (by decide)), show am_ev 15 115 _ _ _ = _ from e1]
    simp only [am_cb_i, am_cb_e, Option.toList_some, Option.toList_none, List.cons_append, List.nil_append]
    rw [b227_153, if_pos rfl, nI_add]
    exact e2
theorem p1c2 : ∀ r k B (M : am_M), k + r = 16 → 1000 ≤ B → B + 20000 * r < 900000000 → gS B (rwl (rSo k)) sv M → ∃ M', am_rn (am_ev 15) 227 181 (L2 k) [] M (am_Z w) = am_rn (am_ev 15) 227 181 (L2 16) [] M' (am_Z w) ∧ gS (B + 20000 * r) (rwl (rSo 16)) sv M' ∧ clF M M' := by
  intro r
  induction r with
  | zero =>
    intro k B M hk hB0 hB hg
    obtain rfl : k = 16 := by omega
    exact ⟨M, rfl, hg, clF.rf M⟩
  | succ r ih =>
    intro k B M hk hB0 hB hg
    obtain ⟨M1, e1, g1, f1, -⟩ := gO (d := 4) (w := w) (zz := 120) (as := [am_P (3, 0, 0), am_I (nI 0), am_I (nI 5), am_I (nI 77777777)]) hB0 hg (o_snd_c (by omega)) (fun hs R e hok h => a120 (d := 5) hB0 (by omega) hok h)
    obtain ⟨M2, e2, g2, f2⟩ := ih (k + 1) (B + 20000) M1 (by omega) (by omega) (by omega) (g1.cg (rSo_s k (by omega)))
    refine ⟨M2, ?_, by rw [show B + 20000 * (r + 1) = B + 20000 + 20000 * r by omega]; exact g2, f1.tr f2⟩
    rw [show am_rn (am_ev 15) 227 181 (L2 k) [] M (am_Z w) = _ from b227_181, if_pos (nI_lt (by omega) (by decide)), show am_ev 15 120 _ _ _ = _ from e1]
    simp only [am_cb_i, am_cb_e, Option.toList_some, Option.toList_none, List.cons_append, List.nil_append]
    rw [b227_196, if_pos rfl, nI_add]
    exact e2
theorem p1c {B : Nat} (hB0 : 1000 ≤ B) (hB : B < 800000000) (hg : gS B (rwl rc0) sv M) : ∃ M', am_rn (am_ev 15) 227 138 (L2 0) [] M (am_Z w) = am_rn (am_ev 15) 227 181 (L2 16) [] M' (am_Z w) ∧ gS (B + 460000) (rwl rs16) sv M' ∧ clF M M' := by
  obtain ⟨M1, e1, g1, f1⟩ := p1c1 (w := w) (sv := sv) 6 0 B M rfl hB0 (by omega) hg
  obtain ⟨M2, e2, g2, f2, -⟩ := gO (d := 4) (w := w) (zz := 116) (as := [am_P (3, 0, 0), am_I (nI 7), am_I (nI 150)]) (by omega) g1 o_psl_c (fun hs R e hok h => a116 (d := 5) (by omega) (by omega) hok h)
  obtain ⟨M3, e3, g3, f3⟩ := p1c2 (w := w) (sv := sv) 16 0 (B + 20000 * 6 + 20000) M2 rfl (by omega) (by omega) (g2.cg rs_p)
  refine ⟨M3, ?_, by rw [show B + 460000 = B + 20000 * 6 + 20000 + 20000 * 16 by omega]; exact g3, f1.tr (f2.tr f3)⟩
  refine Eq.trans e1 ?_
  rw [show am_rn (am_ev 15) 227 138 (L2 6) [] M1 (am_Z w) = _ from b227_138, if_neg (by decide), show am_ev 15 116 _ _ _ = _ from e2]
  simp only [am_cb_i, am_cb_e, Option.toList_some, Option.toList_none, List.cons_append, List.nil_append]
  rw [b227_174, if_pos (show nI 0 = 0 from rfl)]
  exact e3
end Kr3
