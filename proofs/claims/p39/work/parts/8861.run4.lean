/-! THE SAME, WITH THE NUMBER OF FORMER STATES -/
/-- the object between commands; n commands or more were done -/
def gL (n B : Nat) (a : Nat → Nat) (sv : Option (Nat → Nat)) (M : am_M) : Prop := ∃ hs, ((ml_ok B a ∧ (∀ b ∈ hs, ml_ok B b) ∧ hs.length ≤ 8) ∧ (n ≤ hs.length ∨ hs.length = 8)) ∧ lE a hs sv M
section Kr4
variable {d B n : Nat} {M : am_M} {a b : Nat → Nat} {w : am_W4} {sv : Option (Nat → Nat)} {x y z : Int32}
theorem gL.of (h : gS B a sv M) : gL 0 B a sv M := by
  obtain ⟨hs, h1, h2⟩ := h
  exact ⟨hs, ⟨h1, Or.inl (Nat.zero_le _)⟩, h2⟩
theorem gL.gS (h : gL n B a sv M) : gS B a sv M := by
  obtain ⟨hs, ⟨h1, -⟩, h2⟩ := h
  exact ⟨hs, h1, h2⟩
theorem gL.cg (h : gL n B a sv M) (e : ∀ j, j < 364 → b j = a j) : gL n B b sv M := by
  obtain ⟨hs, ⟨⟨h1, h2, h3⟩, h4⟩, R, ev, hl⟩ := h
  exact ⟨hs, ⟨⟨h1.cg e, h2, h3⟩, h4⟩, R, ev, lS.cg h1 hl e⟩
theorem gOL {k v : Nat} {a' : Nat → Nat} {zz : Nat} {as : List am_V} (hB0 : 1000 ≤ B) (h : gL n B a sv M) (ho : oC a k x y z = .inl (v, a')) (hc : ∀ hs R e, ml_ok B a → lS a hs sv [] R e M → hO a hs sv [] R e M w (am_ev (d + 11) zz as M (am_Z w)) (oC a k x y z)) : ∃ M', am_ev (d + 11) zz as M (am_Z w) = some (.inl (some (am_I (nI v))), M', am_Z w) ∧ gL (n + 1) (B + 20000) a' sv M' ∧ clF M M' ∧ v < 2147483648 := by
  obtain ⟨hs, ⟨⟨g1, g2, g3⟩, g4⟩, R, e, hl⟩ := h
  have h1 := hc hs R e g1 hl
  have h2 := hl.okO (k := k) (x := x) (y := y) (z := z) hB0 g1
  rw [ho] at h1 h2
  obtain ⟨M', e1, e2, e3⟩ := h1
  refine ⟨M', e1, ⟨hpush hs a, ⟨⟨h2.2, fun b hb => ?_, hpush_le g3⟩, by rw [hpush_len g3]; split <;> omega⟩, R, e, e2⟩, e3, h2.1⟩
  rcases hpush_mem hb with q | q
  · exact (g2 b q).mono (by omega)
  · rw [q]; exact g1.mono (by omega)
end Kr4
section Kr5
variable {M : am_M} {w : am_W4} {sv : Option (Nat → Nat)}
theorem p1c2L : ∀ r k B (M : am_M), k + r = 16 → 1000 ≤ B → B + 20000 * r < 900000000 → gL k B (rwl (rSo k)) sv M → ∃ M', am_rn (am_ev 15) 227 181 (L2 k) [] M (am_Z w) = am_rn (am_ev 15) 227 181 (L2 16) [] M' (am_Z w) ∧ gL 16 (B + 20000 * r) (rwl (rSo 16)) sv M' ∧ clF M M' := by
  intro r
  induction r with
  | zero =>
    intro k B M hk hB0 hB hg
    obtain rfl : k = 16 := by omega
    exact ⟨M, rfl, hg, clF.rf M⟩
  | succ r ih =>
    intro k B M hk hB0 hB hg
    obtain ⟨M1, e1, g1, f1, -⟩ := gOL (d := 4) (w := w) (zz := 120) (as := [am_P (3, 0, 0), am_I (nI 0), am_I (nI 5), am_I (nI 77777777)]) hB0 hg (o_snd_c (by omega)) (fun hs R e hok h => a120 (d := 5) hB0 (by omega) hok h)
    obtain ⟨M2, e2, g2, f2⟩ := ih (k + 1) (B + 20000) M1 (by omega) (by omega) (by omega) (g1.cg (rSo_s k (by omega)))
    refine ⟨M2, ?_, by rw [show B + 20000 * (r + 1) = B + 20000 + 20000 * r by omega]; exact g2, f1.tr f2⟩
    rw [show am_rn (am_ev 15) 227 181 (L2 k) [] M (am_Z w) = _ from b227_181, if_pos (nI_lt (by omega) (by decide)), show am_ev 15 120 _ _ _ = _ from e1]
    simp only [am_cb_i, am_cb_e, Option.toList_some, Option.toList_none, List.cons_append, List.nil_append]
    rw [b227_196, if_pos rfl, nI_add]
    exact e2
theorem p1cL {B : Nat} (hB0 : 1000 ≤ B) (hB : B < 800000000) (hg : gS B (rwl rc0) sv M) : ∃ M', am_rn (am_ev 15) 227 138 (L2 0) [] M (am_Z w) = am_rn (am_ev 15) 227 181 (L2 16) [] M' (am_Z w) ∧ gL 16 (B + 460000) (rwl rs16) sv M' ∧ clF M M' := by
  obtain ⟨M1, e1, g1, f1⟩ := p1c1 (w := w) (sv := sv) 6 0 B M rfl hB0 (by omega) hg
  obtain ⟨M2, e2, g2, f2, -⟩ := gO (d := 4) (w := w) (zz := 116) (as := [am_P (3, 0, 0), am_I (nI 7), am_I (nI 150)]) (by omega) g1 o_psl_c (fun hs R e hok h => a116 (d := 5) (by omega) (by omega) hok h)
  obtain ⟨M3, e3, g3, f3⟩ := p1c2L (w := w) (sv := sv) 16 0 (B + 20000 * 6 + 20000) M2 rfl (by omega) (by omega) (gL.of (g2.cg rs_p))
  refine ⟨M3, ?_, by rw [show B + 460000 = B + 20000 * 6 + 20000 + 20000 * 16 by omega]; exact g3, f1.tr (f2.tr f3)⟩
  refine Eq.trans e1 ?_
  rw [show am_rn (am_ev 15) 227 138 (L2 6) [] M1 (am_Z w) = _ from b227_138, if_neg (by decide), show am_ev 15 116 _ _ _ = _ from e2]
  simp only [am_cb_i, am_cb_e, Option.toList_some, Option.toList_none, List.cons_append, List.nil_append]
  rw [b227_174, if_pos (show nI 0 = 0 from rfl)]
  exact e3
end Kr5
