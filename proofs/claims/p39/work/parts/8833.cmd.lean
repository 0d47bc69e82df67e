/-! COMMANDS, REASONS, TEXTS -/
def hO (a : Nat → Nat) (hs : List (Nat → Nat)) (sv : Option (Nat → Nat)) (tx : List Int32) (R : Int32 × Int32 × Int32) (e : Int32) (M : am_M) (w : am_W4) (r : Option am_R) : Out → Prop
  | .inl (v, a') => ∃ M', r = some (.inl (some (am_I (nI v))), M', am_Z w) ∧ lS a' (hpush hs a) sv tx R e M' ∧ clF M M'
  | .inr (q, x) => ∃ M', r = some (.inl (some (am_I (-1001))), M', am_Z (am_bw w)) ∧ lS a hs sv tx (nI q, x, nI 0) e M' ∧ clF M M'
section Kco
variable {d B : Nat} {M : am_M} {a : Nat → Nat} {w : am_W4} {hs : List (Nat → Nat)} {sv : Option (Nat → Nat)} {tx ln : List Int32} {R : Int32 × Int32 × Int32} {e : Int32} {x y z : Int32}
theorem hO_of {r0 r : Option am_R} {o : Out} (h1 : cmO a hs sv tx R e ln M w r0 o) (h2 : hlp id [(0, 1)] w r0 r) (hl : lok ln) : hO a hs sv tx R e M w r o := by
  rcases o with ⟨v, a'⟩ | ⟨q, u⟩
  · obtain ⟨M', e1, e2, e3⟩ := h1
    exact ⟨M', h2.1 _ M' e1, ⟨ln, e2, hl⟩, e3⟩
  · obtain ⟨M', e1, e2, e3⟩ := h1
    exact ⟨M', h2.2 0 1 M' _ List.mem_cons_self e1, ⟨ln, e2, hl⟩, e3⟩
theorem lS.zr (h : lS a hs sv tx R e M) : ∀ m, m < a 2 → a (60 + 19 * m + 10) = 0 := by
  obtain ⟨ln, hc, -⟩ := h
  exact hc.1.choose_spec.2.choose_spec.2.2.2
theorem lS.okO {k : Nat} (hB0 : 1000 ≤ B) (hok : ml_ok B a) (h : lS a hs sv tx R e M) : okO B (oC a k x y z) := okO_C hB0 hok h.zr
theorem a115 (hB0 : 1000 ≤ B) (hB : B < 1070000000) (hok : ml_ok B a) (h : lS a hs sv tx R e M) : hO a hs sv tx R e M w (am_ev (d + 9 + 1) 115 [am_P (3, 0, 0), am_I x, am_I y, am_I z] M (am_Z w)) (oC a 0 x y z) := by
  obtain ⟨ln, hc, hl⟩ := h
  exact hO_of (k66 (d := d) hB0 hB hok hc) h115 hl
theorem a116 (hB0 : 1000 ≤ B) (hB : B < 1070000000) (hok : ml_ok B a) (h : lS a hs sv tx R e M) : hO a hs sv tx R e M w (am_ev (d + 9 + 1) 116 [am_P (3, 0, 0), am_I x, am_I y] M (am_Z w)) (oC a 1 x y (nI 0)) := by
  obtain ⟨ln, hc, hl⟩ := h
  exact hO_of (k67 (d := d) hB0 hB hok hc) h116 hl
theorem a117 (hB0 : 1000 ≤ B) (hB : B < 1070000000) (hok : ml_ok B a) (h : lS a hs sv tx R e M) : hO a hs sv tx R e M w (am_ev (d + 9 + 1) 117 [am_P (3, 0, 0), am_I x, am_I y, am_I z] M (am_Z w)) (oC a 2 x y z) := by
  obtain ⟨ln, hc, hl⟩ := h
  exact hO_of (k68 (d := d) hB0 hB hok hc) h117 hl
theorem a118 (hB0 : 1000 ≤ B) (hB : B < 1070000000) (hok : ml_ok B a) (h : lS a hs sv tx R e M) : hO a hs sv tx R e M w (am_ev (d + 9 + 1) 118 [am_P (3, 0, 0), am_I x, am_I y] M (am_Z w)) (oC a 3 x y (nI 0)) := by
  obtain ⟨ln, hc, hl⟩ := h
  exact hO_of (k69 (d := d) hB0 hB hok hc) h118 hl
theorem a119 (hB0 : 1000 ≤ B) (hB : B < 1070000000) (hok : ml_ok B a) (h : lS a hs sv tx R e M) : hO a hs sv tx R e M w (am_ev (d + 9 + 1) 119 [am_P (3, 0, 0), am_I x, am_I y] M (am_Z w)) (oC a 4 x y (nI 0)) := by
  obtain ⟨ln, hc, hl⟩ := h
  exact hO_of (k70 (d := d) hB0 hB hok hc) h119 hl
theorem a120 (hB0 : 1000 ≤ B) (hB : B < 1070000000) (hok : ml_ok B a) (h : lS a hs sv tx R e M) : hO a hs sv tx R e M w (am_ev (d + 9 + 1) 120 [am_P (3, 0, 0), am_I x, am_I y, am_I z] M (am_Z w)) (oC a 5 x y z) := by
  obtain ⟨ln, hc, hl⟩ := h
  exact hO_of (k71 (d := d) hB0 hB hok hc) h120 hl
theorem a121 (hB0 : 1000 ≤ B) (hB : B < 1070000000) (hok : ml_ok B a) (h : lS a hs sv tx R e M) : hO a hs sv tx R e M w (am_ev (d + 9 + 1) 121 [am_P (3, 0, 0), am_I x] M (am_Z w)) (oC a 6 x (nI 0) (nI 0)) := by
  obtain ⟨ln, hc, hl⟩ := h
  exact hO_of (k72 (d := d) hB0 hB hok hc) h121 hl
theorem a122 (hB0 : 1000 ≤ B) (hB : B < 1070000000) (hok : ml_ok B a) (h : lS a hs sv tx R e M) : hO a hs sv tx R e M w (am_ev (d + 9 + 1) 122 [am_P (3, 0, 0), am_I x] M (am_Z w)) (oC a 7 x (nI 0) (nI 0)) := by
  obtain ⟨ln, hc, hl⟩ := h
  exact hO_of (k73 (d := d) hB0 hB hok hc) h122 hl
/-- the reason is as said -/
theorem k148 {x1 x2 x3 : Int32} (hx : x1 ≠ 0) (h : lS a hs sv tx (x1, x2, x3) e M) : am_ev (d + 5) 148 [am_P (3, 0, 0), am_I x1, am_I x2, am_I x3] M (am_Z w) = some (.inl (some (am_I (nI 1))), M, am_Z w) := by
  obtain ⟨ln, hc, hl⟩ := h
  have q0 : am_ev (d + 4) 138 [am_P (3, 0, 0), am_I (nI 0)] M (am_Z w) = some (.inl (some (am_I x1)), M, am_Z w) := by
    have h1 := k101 (d := d + 2) (w := w) (x := nI 0) hc
    unfold q_why at h1
    rw [if_pos (by decide), if_neg hx, if_pos rfl] at h1; exact h138.1 _ M h1
  have q1 : am_ev (d + 4) 138 [am_P (3, 0, 0), am_I (nI 1)] M (am_Z w) = some (.inl (some (am_I x2)), M, am_Z w) := by
    have h1 := k101 (d := d + 2) (w := w) (x := nI 1) hc
    unfold q_why at h1
    rw [if_pos (by decide), if_neg hx, if_neg (by decide), if_pos rfl] at h1; exact h138.1 _ M h1
  have q2 : am_ev (d + 4) 138 [am_P (3, 0, 0), am_I (nI 2)] M (am_Z w) = some (.inl (some (am_I x3)), M, am_Z w) := by
    have h1 := k101 (d := d + 2) (w := w) (x := nI 2) hc
    unfold q_why at h1
    rw [if_pos (by decide), if_neg hx, if_neg (by decide), if_neg (by decide)] at h1; exact h138.1 _ M h1
  rw [show d + 5 = d + 4 + 1 from rfl, e148, q0]
  simp only [am_cb_i, am_cb_e, Option.toList_some, Option.toList_none, List.cons_append, List.nil_append]
  rw [b148_5, if_pos rfl, q1]
  simp only [am_cb_i, am_cb_e, Option.toList_some, Option.toList_none, List.cons_append, List.nil_append]
  rw [b148_14, if_pos rfl, q2]
  simp only [am_cb_i, am_cb_e, Option.toList_some, Option.toList_none, List.cons_append, List.nil_append]
  rw [b148_23, if_pos rfl]
/-- a text is read to its end and its commands run -/
def tq : Nat ⊕ (((Nat → Nat) × Nat) ⊕ (Nat × Int32 × Nat)) → Int32
  | .inl _ => -1001
  | .inr (.inl (_, n)) => nI n
  | .inr (.inr _) => -1002
def tL (a : Nat → Nat) (hs : List (Nat → Nat)) (sv : Option (Nat → Nat)) (R : Int32 × Int32 × Int32) (M : am_M) : Nat ⊕ (((Nat → Nat) × Nat) ⊕ (Nat × Int32 × Nat)) → Prop
  | .inl p => lS a hs sv [] R (nI p) M
  | .inr (.inl (a', _)) => lS a' (hpush hs a) sv [] R (-1) M
  | .inr (.inr (q, u, i)) => lS a hs sv [] (nI q, u, nI i) (-1) M
theorem k137 (ht : txk tx) (hB0 : 1000 ≤ B) (hB : B < 1060000000) (hok : ml_ok B a) (h : lS a hs sv tx R e M) : ∃ M' w', am_ev (d + 9) 137 [am_P (3, 0, 0)] M (am_Z w) = some (.inl (some (am_I (tq (tO a tx)))), M', am_Z w') ∧ tL a hs sv R M' (tO a tx) ∧ clF M M' ∧ wle 1 w w' := by
  obtain ⟨ln, hc, hl⟩ := h
  have h1 := k99 (d := d) (w := w) ht hB0 hB hok hc
  generalize tO a tx = o at h1 ⊢
  rcases o with p | ⟨a', n⟩ | ⟨q, u, i⟩
  · obtain ⟨M', e1, e2, e3⟩ := h1
    exact ⟨M', am_bw w, h137.2 2 1 M' _ (by decide) e1, ⟨ln, e2, hl⟩, e3, wle.bw w⟩
  · obtain ⟨M', e1, e2, e3⟩ := h1
    exact ⟨M', w, h137.1 _ M' e1, ⟨ln, e2, hl⟩, e3, wle.rf w⟩
  · obtain ⟨M', e1, e2, e3⟩ := h1
    exact ⟨M', am_bw w, h137.2 0 2 M' _ (by decide) e1, ⟨ln, e2, hl⟩, e3, wle.bw w⟩
theorem tO_ok (ht : txk tx) (hB0 : 1000 ≤ B) (hB : B < 1000000000) (hok : ml_ok B a) (h : lS a hs sv tx R e M) : ∀ a' n, tO a tx = .inr (.inl (a', n)) → n ≤ 20 ∧ ml_ok (B + 400000) a' := by
  obtain ⟨ln, hc, -⟩ := h
  have hk : ∀ ls, (ptx tx).2 = some ls → exk B a ls ∧ ls.length ≤ 20 := by
    intro ls q
    obtain ⟨M1, _, _, t3⟩ := k4 (d := 0) (w := (0, 0, none, none)) ht hc.2.2.2.1.1
    have hlen := (t3 ls q).2.1
    obtain ⟨ar, hA⟩ := hc.1
    exact ⟨exk_of ls B a M ar hA hok hB0 (by omega) (ptx_ok.2 ls q), hlen⟩
  intro a' n q
  unfold tO at q
  cases ho : (ptx tx).2 with
  | none => rw [ho] at q; cases q
  | some ls =>
    rw [ho] at q
    obtain ⟨q1, q2⟩ := hk ls ho
    dsimp only at q
    cases hx : exl a 0 ls with
    | inl a2 =>
      rw [hx] at q
      cases q
      exact ⟨q2, (exk.fin ls B a 0 _ q1 hx).mono (by omega)⟩
    | inr z => rw [hx] at q; cases q
theorem chr_nI {c : Nat} (h : c < 128) : vp_nar .char (nI c) = nI c := by
  have : ∀ c, c < 128 → vp_nar .char (nI c) = nI c := by decide +kernel
  exact this c h
theorem k147 {t : List Nat} (hT : w.2.2.2 = some t) (ht : ∀ c ∈ t, c < 128) (hl : t.length ≤ 60) (hB0 : 1000 ≤ B) (hB : B < 1000000000) (hok : ml_ok B a) (h : lS a hs sv [] R e M) : ∃ M' w', am_ev (d + 10) 147 [am_P (3, 0, 0), am_P (50, 0, 0)] M (am_Z w) = some (.inl (some (am_I (tq (tO a (t.map nI))))), M', am_Z w') ∧ tL a hs sv R M' (tO a (t.map nI)) ∧ clF M M' ∧ wle 1 w w' ∧ ∀ a' n, tO a (t.map nI) = .inr (.inl (a', n)) → n ≤ 20 ∧ ml_ok (B + 400000) a' := by
  have key : ∀ r k M, k + r = t.length → lS a hs sv ((t.take k).map nI) R e M → ∃ M', am_rn (am_ev (d + 9)) 147 2 [some (am_P (3, 0, 0)), some (am_P (50, 0, 0)), some (am_I (nI k))] [] M (am_Z w) = am_rn (am_ev (d + 9)) 147 2 [some (am_P (3, 0, 0)), some (am_P (50, 0, 0)), some (am_I (nI t.length))] [] M' (am_Z w) ∧ lS a hs sv (t.map nI) R e M' ∧ clF M M' := by
    intro r
    induction r with
    | zero =>
      intro k M hk h
      obtain rfl : k = t.length := by omega
      rw [List.take_length] at h
      exact ⟨M, rfl, h, clF.rf M⟩
    | succ r ih =>
      intro k M hk h
      obtain ⟨ln, hc, hl2⟩ := h
      have hkt : k < t.length := by omega
      have hlen : ((t.take k).map nI).length = k := by rw [List.length_map, List.length_take]; omega
      obtain ⟨M1, e1, e2, e3⟩ := k98s (d := d + 6) (w := w) (x := nI (t.getD k 0)) hc (by rw [hlen]; omega)
      have hg : t.getD k 0 = t[k] := by rw [List.getD_eq_getElem?_getD, List.getElem?_eq_getElem hkt]; rfl
      rw [hlen] at e1
      rw [chr_nI (by rw [hg]; exact ht _ (List.getElem_mem hkt))] at e2
      have e4 : (t.take k).map nI ++ [nI (t.getD k 0)] = (t.take (k + 1)).map nI := by
        rw [List.take_succ, List.map_append, List.getElem?_eq_getElem hkt, hg]; rfl
      rw [e4] at e2
      obtain ⟨M2, g1, g2, g3⟩ := ih (k + 1) M1 (by omega) ⟨ln, e2, hl2⟩
      refine ⟨M2, ?_, g2, e3.tr g3⟩
      rw [b147_2 hT, if_pos (nI_lt hkt (by omega)), if_pos (by rw [am_inT (by omega) hkt]; trivial), nI_clamp (by omega), show am_ev (d + 9) 136 [am_P (3, 0, 0), am_I (nI (t.getD k 0))] M (am_Z w) = _ from h136.1 _ M1 e1]
      simp only [am_cb_i, am_cb_e, Option.toList_some, Option.toList_none, List.cons_append, List.nil_append]
      rw [b147_19, if_pos (by rw [nI_add]; rfl), nI_add]
      exact g1
  obtain ⟨M1, e1, g1, f1⟩ := key t.length 0 M (by omega) (by simpa using h)
  have htx : txk (t.map nI) := ⟨by rw [List.length_map]; exact hl, fun c hc => by
    obtain ⟨n, hn, rfl⟩ := List.mem_map.mp hc
    rw [← chr_nI (ht n hn)]
    exact vp_pc _⟩
  obtain ⟨M2, w2, e2, g2, f2, u2⟩ := k137 (d := d) (w := w) htx hB0 (by omega) hok g1
  refine ⟨M2, w2, ?_, g2, f1.tr f2, u2, tO_ok htx hB0 hB hok g1⟩
  rw [show d + 10 = d + 9 + 1 from rfl, e147, e1, b147_2 hT, if_neg (nI_nlt (Nat.le_refl _) (by omega)), e2]
  simp only [am_cb_i, am_cb_e, Option.toList_some, Option.toList_none, List.cons_append, List.nil_append]
  rw [b147_38]
end Kco
