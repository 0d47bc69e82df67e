/-! THE LAW'S NETWORK IS MADE -/
/-- the object between commands, with its former states -/
def gS (B : Nat) (a : Nat → Nat) (sv : Option (Nat → Nat)) (M : am_M) : Prop := ∃ hs, (ml_ok B a ∧ (∀ b ∈ hs, ml_ok B b) ∧ hs.length ≤ 8) ∧ lE a hs sv M
def hLM (M : am_M) : Prop := ∃ L : Nat, L ≤ 2048 ∧ M (0, 0, 1) 0 = nI L
theorem hLM.cl {M M' : am_M} (h : hLM M) (hF : clF M M') : hLM M' := by
  obtain ⟨L, h1, h2⟩ := h
  exact ⟨L, h1, (hF (0, 0, 1) 0 (Or.inl (by decide))).trans h2⟩
theorem hpush_mem {hs : List (Nat → Nat)} {b c : Nat → Nat} (h : c ∈ hpush hs b) : c ∈ hs ∨ c = b := by
  unfold hpush at h
  rcases List.mem_append.mp h with h | h
  · left
    split at h
    · exact List.mem_of_mem_drop h
    · exact h
  · exact Or.inr (List.mem_singleton.mp h)
theorem hpush_le {hs : List (Nat → Nat)} {b : Nat → Nat} (h : hs.length ≤ 8) : (hpush hs b).length ≤ 8 := by
  rw [hpush_len h]
  split <;> omega
section Kmk
variable {d B : Nat} {M : am_M} {a : Nat → Nat} {w : am_W4} {hs : List (Nat → Nat)} {sv : Option (Nat → Nat)} {R : Int32 × Int32 × Int32} {e : Int32} {x y z : Int32}
/-- a command that is done -/
theorem gO {k v : Nat} {a' : Nat → Nat} {zz : Nat} {as : List am_V} (hB0 : 1000 ≤ B) (h : gS B a sv M) (ho : oC a k x y z = .inl (v, a')) (hc : ∀ hs R e, ml_ok B a → lS a hs sv [] R e M → hO a hs sv [] R e M w (am_ev (d + 11) zz as M (am_Z w)) (oC a k x y z)) : ∃ M', am_ev (d + 11) zz as M (am_Z w) = some (.inl (some (am_I (nI v))), M', am_Z w) ∧ gS (B + 20000) a' sv M' ∧ clF M M' ∧ v < 2147483648 := by
  obtain ⟨hs, ⟨g1, g2, g3⟩, R, e, hl⟩ := h
  have h1 := hc hs R e g1 hl
  have h2 := hl.okO (k := k) (x := x) (y := y) (z := z) hB0 g1
  rw [ho] at h1 h2
  obtain ⟨M', e1, e2, e3⟩ := h1
  refine ⟨M', e1, ⟨hpush hs a, ⟨h2.2, fun b hb => ?_, hpush_le g3⟩, R, e, e2⟩, e3, h2.1⟩
  rcases hpush_mem hb with q | q
  · exact (g2 b q).mono (by omega)
  · rw [q]; exact g1.mono (by omega)
def Q1 (c : Nat) (a : Nat → Nat) : Prop := a 1 = c ∧ a 2 = 0 ∧ (∀ k, 1 ≤ k → k ≤ 8 → a (3 + k) = 0) ∧ ∀ r, r < 4 → a (48 + 2 * r + 1) = 0
def Q2 (k : Nat) (a : Nat → Nat) : Prop := a 1 = 5 ∧ a 2 = 0 ∧ (∀ j, 1 ≤ j → j < k → 18 * j < a (3 + j) + 18 ∧ a (3 + j) ≤ 18 * j) ∧ (∀ j, k ≤ j → j ≤ 8 → a (3 + j) = 0) ∧ ∀ r, r < 4 → a (48 + 2 * r + 1) = 0
def Q3 (q : Nat) (a : Nat → Nat) : Prop := a 1 = 5 ∧ a 2 = 0 ∧ (∀ j, 1 ≤ j → j ≤ 8 → a (3 + j) ≠ 0) ∧ ∀ r, q ≤ r → r < 4 → a (48 + 2 * r + 1) = 0
theorem o_cnv_k {c t u v : Nat} (h : Q1 c a) (hc : c < 5) (ht : t < 10) (hu : u < 10) (hv : v < 6) : oC a 0 (nI t) (nI u) (nI (1 + v)) = .inl (c, cnv a t u (1 + v)) ∧ Q1 (c + 1) (cnv a t u (1 + v)) := by
  obtain ⟨h1, h2, h3, h4⟩ := h
  constructor
  · show o_cnv a (nI t) (nI u) (nI (1 + v)) = _
    unfold o_cnv
    rw [if_pos ⟨(bt_P (by omega) (by decide) (by decide)).mpr ⟨by omega, by omega⟩, (bt_P (by omega) (by decide) (by decide)).mpr ⟨by omega, by omega⟩, fun _ => (bt_P (by omega) (by decide) (by decide)).mpr ⟨by omega, by omega⟩⟩, if_neg (by omega), cN_nI (by omega), cN_nI (by omega), cN_nI (by omega), h1]
  · refine ⟨by rw [cnv_1, h1], ?_, fun k hk1 hk2 => ?_, fun r hr => ?_⟩
    · rw [cnv_o (by decide) (by omega) (fun _ => by omega)]; exact h2
    · rw [cnv_o (by omega) (by omega) (fun _ => by omega)]; exact h3 k hk1 hk2
    · by_cases e : 0 < a 1 ∧ r = a 1 - 1
      · rw [e.2]
        exact (cnv_z (by omega) e.1).2
      · rw [cnv_o (by omega) (by omega) (fun q => by omega)]; exact h4 r hr
theorem Q12 (h : Q1 5 a) : Q2 1 a := ⟨h.1, h.2.1, fun j h1 h2 => absurd h1 (by omega), fun j h1 h2 => h.2.2.1 j h1 h2, h.2.2.2⟩
theorem o_psl_k {k p : Nat} (h : Q2 k a) (h1 : 1 ≤ k) (h8 : k ≤ 8) (hp : 18 * k < p + 18) (hp2 : p ≤ 18 * k) : oC a 1 (nI k) (nI p) (nI 0) = .inl (0, nu a (3 + k) p) ∧ Q2 (k + 1) (nu a (3 + k) p) := by
  obtain ⟨g1, g2, g3, g4, g5⟩ := h
  have hn : nf (pf a k p) 8 1 = none := nf_none (fun i h1 h2 => by
    unfold pf
    refine decide_eq_false (fun q => ?_)
    rcases Nat.lt_or_ge i k with c | c
    · have := g3 i h1 c
      omega
    · have := g4 i c (by omega)
      omega)
  constructor
  · show o_psl a (nI k) (nI p) = _
    unfold o_psl
    rw [if_pos ((bt_P (by omega) (by decide) (by decide)).mpr ⟨by omega, by omega⟩), if_pos ((bt_P (by omega) (by decide) (by decide)).mpr ⟨by omega, by omega⟩), cN_nI (by omega), cN_nI (by omega), hn, g4 k (Nat.le_refl _) h8]
  · refine ⟨by rw [nu_ne (by omega)]; exact g1, by rw [nu_ne (by omega)]; exact g2, fun j j1 j2 => ?_, fun j j1 j2 => by rw [nu_ne (by omega)]; exact g4 j (by omega) j2, fun r hr => by rw [nu_ne (by omega)]; exact g5 r hr⟩
    by_cases e : j = k
    · rw [e, nu_eq]; exact ⟨hp, hp2⟩
    · rw [nu_ne (by omega)]; exact g3 j j1 (by omega)
theorem Q23 (h : Q2 9 a) : Q3 0 a := ⟨h.1, h.2.1, fun j h1 h2 => by have := h.2.2.1 j h1 (by omega); omega, fun r _ hr => h.2.2.2.2 r hr⟩
theorem o_win_k {r p : Nat} (h : Q3 r a) (hr : r < 4) (hp : p < 10) : oC a 3 (nI r) (nI p) (nI 0) = .inl (0, nu a (48 + 2 * r + 1) p) ∧ Q3 (r + 1) (nu a (48 + 2 * r + 1) p) := by
  obtain ⟨g1, g2, g3, g4⟩ := h
  constructor
  · show o_win a (nI r) (nI p) = _
    unfold o_win
    rw [g1, if_pos (by rw [am_inT (by omega) (by omega)]; trivial), if_pos ((bt_P (by omega) (by decide) (by decide)).mpr ⟨by omega, by omega⟩), cN_nI (by omega), cN_nI (by omega), g4 r (Nat.le_refl _) hr]
  · exact ⟨by rw [nu_ne (by omega)]; exact g1, by rw [nu_ne (by omega)]; exact g2, fun j j1 j2 => by rw [nu_ne (by omega)]; exact g3 j j1 j2, fun q q1 q2 => by rw [nu_ne (by omega)]; exact g4 q (by omega) q2⟩
abbrev L3k (k : Nat) : am_S := [some (am_P (3, 0, 0)), some (am_P (0, 0, 0)), some (am_I (nI k))]
theorem mkA (hL : hLM M) (hB0 : 1000 ≤ B) : ∀ r c B (M : am_M) (a : Nat → Nat), c + r = 5 → 1000 ≤ B → B + 20000 * r < 900000000 → hLM M → gS B a sv M → Q1 c a → ∃ M' a', am_rn (am_ev (d + 11)) 150 2 (L3k c) [] M (am_Z w) = am_rn (am_ev (d + 11)) 150 62 (L3k 1) [] M' (am_Z w) ∧ gS (B + 20000 * r) a' sv M' ∧ Q1 5 a' ∧ clF M M' := by
  intro r
  induction r with
  | zero =>
    intro c B M a hc hB0 hB hL hg hQ
    obtain rfl : c = 5 := by omega
    refine ⟨M, a, ?_, hg, hQ, clF.rf M⟩
    rw [show am_rn (am_ev (d + 11)) 150 2 (L3k 5) [] M (am_Z w) = _ from b150_2, if_neg (by decide)]
  | succ r ih =>
    intro c B M a hc hB0 hB hL hg hQ
    obtain ⟨v0, e0⟩ := k113 (d := d + 10) (w := w) (k := c) (by omega) hL
    obtain ⟨t, ht, e1⟩ := k114 (d := d + 10) (M := M) (w := w) (x := v0) (n := 10) (by decide) (by decide)
    obtain ⟨u, hu, e2⟩ := k114 (d := d + 10) (M := M) (w := w) (x := v0 >>> ((nI 5) &&& 31)) (n := 10) (by decide) (by decide)
    obtain ⟨v, hv, e3⟩ := k114 (d := d + 10) (M := M) (w := w) (x := v0 >>> ((nI 8) &&& 31)) (n := 6) (by decide) (by decide)
    obtain ⟨o1, o2⟩ := o_cnv_k hQ (by omega) ht hu hv
    obtain ⟨M1, e4, g1, f1, -⟩ := gO (d := d) (w := w) (zz := 115) (as := [am_P (3, 0, 0), am_I (nI t), am_I (nI u), am_I (nI (1 + v))]) hB0 hg o1 (fun hs R e hok h => a115 (d := d + 1) hB0 (by omega) hok h)
    obtain ⟨M2, a2, e5, g2, q2, f2⟩ := ih (c + 1) (B + 20000) M1 _ (by omega) (by omega) (by omega) (hL.cl f1) g1 o2
    refine ⟨M2, a2, ?_, ?_, q2, f1.tr f2⟩
    · rw [show am_rn (am_ev (d + 11)) 150 2 (L3k c) [] M (am_Z w) = _ from b150_2, if_pos (nI_lt (by omega) (by decide)), show am_ev (d + 11) 113 _ _ _ = _ from e0]
      simp only [am_cb_i, am_cb_e, Option.toList_some, Option.toList_none, List.cons_append, List.nil_append]
      rw [b150_13, show am_ev (d + 11) 114 _ _ _ = _ from e1]
      simp only [am_cb_i, am_cb_e, Option.toList_some, Option.toList_none, List.cons_append, List.nil_append]
      rw [b150_18, show am_ev (d + 11) 113 _ _ _ = _ from e0]
      simp only [am_cb_i, am_cb_e, Option.toList_some, Option.toList_none, List.cons_append, List.nil_append]
      rw [b150_23, show am_ev (d + 11) 114 _ _ _ = _ from e2]
      simp only [am_cb_i, am_cb_e, Option.toList_some, Option.toList_none, List.cons_append, List.nil_append]
      rw [b150_30, show am_ev (d + 11) 113 _ _ _ = _ from e0]
      simp only [am_cb_i, am_cb_e, Option.toList_some, Option.toList_none, List.cons_append, List.nil_append]
      rw [b150_36, show am_ev (d + 11) 114 _ _ _ = _ from e3]
      simp only [am_cb_i, am_cb_e, Option.toList_some, Option.toList_none, List.cons_append, List.nil_append]
      rw [b150_44, nI_add, e4]
      simp only [am_cb_i, am_cb_e, Option.toList_some, Option.toList_none, List.cons_append, List.nil_append]
      rw [b150_48, if_pos rfl, nI_add]
      exact e5
    · rw [show B + 20000 * (r + 1) = B + 20000 + 20000 * r by omega]; exact g2
theorem mkB : ∀ r k B (M : am_M) (a : Nat → Nat), 1 ≤ k → k + r = 9 → 1000 ≤ B → B + 20000 * r < 900000000 → hLM M → gS B a sv M → Q2 k a → ∃ M' a', am_rn (am_ev (d + 11)) 150 62 (L3k k) [] M (am_Z w) = am_rn (am_ev (d + 11)) 150 103 (L3k 0) [] M' (am_Z w) ∧ gS (B + 20000 * r) a' sv M' ∧ Q2 9 a' ∧ clF M M' := by
  intro r
  induction r with
  | zero =>
    intro k B M a hk1 hk hB0 hB hL hg hQ
    obtain rfl : k = 9 := by omega
    refine ⟨M, a, ?_, hg, hQ, clF.rf M⟩
    rw [show am_rn (am_ev (d + 11)) 150 62 (L3k 9) [] M (am_Z w) = _ from b150_62, if_neg (by decide)]
  | succ r ih =>
    intro k B M a hk1 hk hB0 hB hL hg hQ
    obtain ⟨v0, e0⟩ := k113 (d := d + 10) (w := w) (k := 5 + k) (by omega) hL
    obtain ⟨t, ht, e1⟩ := k114 (d := d + 10) (M := M) (w := w) (x := v0) (n := 18) (by decide) (by decide)
    obtain ⟨o1, o2⟩ := o_psl_k (p := 18 * k - t) hQ hk1 (by omega) (by omega) (by omega)
    obtain ⟨M1, e4, g1, f1, -⟩ := gO (d := d) (w := w) (zz := 116) (as := [am_P (3, 0, 0), am_I (nI k), am_I (nI (18 * k - t))]) hB0 hg o1 (fun hs R e hok h => a116 (d := d + 1) hB0 (by omega) hok h)
    obtain ⟨M2, a2, e5, g2, q2, f2⟩ := ih (k + 1) (B + 20000) M1 _ (by omega) (by omega) (by omega) (by omega) (hL.cl f1) g1 o2
    refine ⟨M2, a2, ?_, ?_, q2, f1.tr f2⟩
    · rw [show am_rn (am_ev (d + 11)) 150 62 (L3k k) [] M (am_Z w) = _ from b150_62, if_pos (nI_lt (by omega) (by decide)), nI_add, show am_ev (d + 11) 113 _ _ _ = _ from e0]
      simp only [am_cb_i, am_cb_e, Option.toList_some, Option.toList_none, List.cons_append, List.nil_append]
      rw [b150_81, show am_ev (d + 11) 114 _ _ _ = _ from e1]
      simp only [am_cb_i, am_cb_e, Option.toList_some, Option.toList_none, List.cons_append, List.nil_append]
      rw [b150_86, pk_mul, pk_sub (by omega), e4]
      simp only [am_cb_i, am_cb_e, Option.toList_some, Option.toList_none, List.cons_append, List.nil_append]
      rw [b150_90, if_pos (show nI 0 = 0 from rfl), nI_add]
      exact e5
    · rw [show B + 20000 * (r + 1) = B + 20000 + 20000 * r by omega]; exact g2
theorem mkC : ∀ r k B (M : am_M) (a : Nat → Nat), k + r = 4 → 1000 ≤ B → B + 20000 * r < 900000000 → hLM M → gS B a sv M → Q3 k a → ∃ M' a', am_rn (am_ev (d + 11)) 150 103 (L3k k) [] M (am_Z w) = am_rn (am_ev (d + 11)) 150 103 (L3k 4) [] M' (am_Z w) ∧ gS (B + 20000 * r) a' sv M' ∧ Q3 4 a' ∧ clF M M' := by
  intro r
  induction r with
  | zero =>
    intro k B M a hk hB0 hB hL hg hQ
    obtain rfl : k = 4 := by omega
    exact ⟨M, a, rfl, hg, hQ, clF.rf M⟩
  | succ r ih =>
    intro k B M a hk hB0 hB hL hg hQ
    obtain ⟨v0, e0⟩ := k113 (d := d + 10) (w := w) (k := 14 + k) (by omega) hL
    obtain ⟨t, ht, e1⟩ := k114 (d := d + 10) (M := M) (w := w) (x := v0) (n := 10) (by decide) (by decide)
    obtain ⟨o1, o2⟩ := o_win_k hQ (by omega) ht
    obtain ⟨M1, e4, g1, f1, -⟩ := gO (d := d) (w := w) (zz := 118) (as := [am_P (3, 0, 0), am_I (nI k), am_I (nI t)]) hB0 hg o1 (fun hs R e hok h => a118 (d := d + 1) hB0 (by omega) hok h)
    obtain ⟨M2, a2, e5, g2, q2, f2⟩ := ih (k + 1) (B + 20000) M1 _ (by omega) (by omega) (by omega) (hL.cl f1) g1 o2
    refine ⟨M2, a2, ?_, ?_, q2, f1.tr f2⟩
    · rw [show am_rn (am_ev (d + 11)) 150 103 (L3k k) [] M (am_Z w) = _ from b150_103, if_pos (nI_lt (by omega) (by decide)), nI_add, show am_ev (d + 11) 113 _ _ _ = _ from e0]
      simp only [am_cb_i, am_cb_e, Option.toList_some, Option.toList_none, List.cons_append, List.nil_append]
      rw [b150_118, show am_ev (d + 11) 114 _ _ _ = _ from e1]
      simp only [am_cb_i, am_cb_e, Option.toList_some, Option.toList_none, List.cons_append, List.nil_append]
      rw [b150_123, e4]
      simp only [am_cb_i, am_cb_e, Option.toList_some, Option.toList_none, List.cons_append, List.nil_append]
      rw [b150_126, if_pos (show nI 0 = 0 from rfl), nI_add]
      exact e5
    · rw [show B + 20000 * (r + 1) = B + 20000 + 20000 * r by omega]; exact g2
theorem o_sil_k {f t : Nat} (h : Q3 4 a) (hf : f < 24) (ht : t < 24) : oC a 2 (nI 2) (nI f) (nI t) = .inl ((t + 24 - f) % 24, nu (nu a 26 f) 27 t) ∧ Q3 4 (nu (nu a 26 f) 27 t) := by
  obtain ⟨g1, g2, g3, g4⟩ := h
  constructor
  · show o_sil a (nI 2) (nI f) (nI t) = _
    unfold o_sil
    rw [g1, if_pos (by decide), if_pos ⟨(bt_P (by omega) (by decide) (by decide)).mpr ⟨by omega, by omega⟩, (bt_P (by omega) (by decide) (by decide)).mpr ⟨by omega, by omega⟩⟩, cN_nI (by omega), cN_nI (by omega), cN_nI (by omega)]
  · exact ⟨by rw [nu_ne (by decide), nu_ne (by decide)]; exact g1, by rw [nu_ne (by decide), nu_ne (by decide)]; exact g2, fun j j1 j2 => by rw [nu_ne (by omega), nu_ne (by omega)]; exact g3 j j1 j2, fun q q1 q2 => absurd q1 (by omega)⟩
/-- five convents, eight psalms, four winds, a silence: made -/
theorem k150 (hL : hLM M) (hB0 : 1000 ≤ B) (hB : B < 800000000) (hg : gS B a sv M) (hQ : Q1 0 a) : ∃ M' a', am_ev (d + 12) 150 [am_P (3, 0, 0), am_P (0, 0, 0)] M (am_Z w) = some (.inl (some (am_I (nI 1))), M', am_Z w) ∧ gS (B + 360000) a' sv M' ∧ Q3 4 a' ∧ clF M M' := by
  obtain ⟨M1, a1, e1, g1, q1, f1⟩ := mkA (d := d) (w := w) hL hB0 5 0 B M a rfl hB0 (by omega) hL hg hQ
  obtain ⟨M2, a2, e2, g2, q2, f2⟩ := mkB (d := d) (w := w) (sv := sv) 8 1 (B + 20000 * 5) M1 a1 (by decide) rfl (by omega) (by omega) (hL.cl f1) g1 (Q12 q1)
  obtain ⟨M3, a3, e3, g3, q3, f3⟩ := mkC (d := d) (w := w) (sv := sv) 4 0 (B + 20000 * 5 + 20000 * 8) M2 a2 rfl (by omega) (by omega) ((hL.cl f1).cl f2) g2 (Q23 q2)
  have hL3 := ((hL.cl f1).cl f2).cl f3
  obtain ⟨v0, e4⟩ := k113 (d := d + 10) (M := M3) (w := w) (k := 18) (by decide) hL3
  obtain ⟨t, ht, e5⟩ := k114 (d := d + 10) (M := M3) (w := w) (x := v0) (n := 24) (by decide) (by decide)
  obtain ⟨v1, e6⟩ := k113 (d := d + 10) (M := M3) (w := w) (k := 19) (by decide) hL3
  obtain ⟨u, hu, e7⟩ := k114 (d := d + 10) (M := M3) (w := w) (x := v1) (n := 9) (by decide) (by decide)
  obtain ⟨o1, o2⟩ := o_sil_k (f := t) (t := (t + u) % 24) q3 ht (Nat.mod_lt _ (by decide))
  obtain ⟨M4, e8, g4, f4, hv⟩ := gO (d := d) (w := w) (zz := 117) (as := [am_P (3, 0, 0), am_I (nI 2), am_I (nI t), am_I (nI ((t + u) % 24))]) (by omega) g3 o1 (fun hs R e hok h => a117 (d := d + 1) (by omega) (by omega) hok h)
  refine ⟨M4, _, ?_, ?_, o2, f1.tr (f2.tr (f3.tr f4))⟩
  · refine (e150 (d := d + 11)).trans ?_
    refine Eq.trans e1 (Eq.trans e2 (Eq.trans e3 ?_))
    rw [show am_rn (am_ev (d + 11)) 150 103 (L3k 4) [] M3 (am_Z w) = _ from b150_103, if_neg (by decide), show am_ev (d + 11) 113 _ _ _ = _ from e4]
    simp only [am_cb_i, am_cb_e, Option.toList_some, Option.toList_none, List.cons_append, List.nil_append]
    rw [b150_143, show am_ev (d + 11) 114 _ _ _ = _ from e5]
    simp only [am_cb_i, am_cb_e, Option.toList_some, Option.toList_none, List.cons_append, List.nil_append]
    rw [b150_148, show am_ev (d + 11) 113 _ _ _ = _ from e6]
    simp only [am_cb_i, am_cb_e, Option.toList_some, Option.toList_none, List.cons_append, List.nil_append]
    rw [b150_159, show am_ev (d + 11) 114 _ _ _ = _ from e7]
    simp only [am_cb_i, am_cb_e, Option.toList_some, Option.toList_none, List.cons_append, List.nil_append]
    rw [b150_164, nI_add, pk_rem (by omega) (by decide) (by decide), e8]
    simp only [am_cb_i, am_cb_e, Option.toList_some, Option.toList_none, List.cons_append, List.nil_append]
    rw [b150_171, if_neg (nI_pos hv)]
  · rw [show B + 360000 = B + 20000 * 5 + 20000 * 8 + 20000 * 4 + 20000 by omega]; exact g4
end Kmk
