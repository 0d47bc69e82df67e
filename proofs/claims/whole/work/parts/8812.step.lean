/-! ONE CALL OF THE LAW: BOTH SIDES -/
section Kls2
variable {d B : Nat} {M M' M0 M1 : am_M} {a b : Nat → Nat} {w w' : am_W4} {hs : List (Nat → Nat)} {sv : Option (Nat → Nat)} {tx ln : List Int32} {R : Int32 × Int32 × Int32} {e : Int32} {o : Out}
theorem clS.mF (h : clS a hs sv tx R e ln M) (hF : mF M M') : clS a hs sv tx R e ln M' := h.fr (fun t n k j g1 g2 => hF _ _ (by show t < 30; omega)) (fun j => hF _ _ (by decide)) (hF _ _ (by decide)) (h.2.2.2.1.fr (hF _ _ (by decide)) (fun j => hF _ _ (by decide)) (fun j _ => hF _ _ (by decide)) (fun j => hF _ _ (by decide))) ⟨(hF _ _ (by decide)).trans h.2.2.2.2.1, (hF _ _ (by decide)).trans h.2.2.2.2.2.1, (hF _ _ (by decide)).trans h.2.2.2.2.2.2⟩
theorem mlS.clF (h : mlS a hs sv tx R e ln M) (hF : clF M M') : mlS a hs sv tx R e ln M' := h.fr (fun j => (hF _ _ (by decide)).trans (h.1 j)) (fun l j hr => hF _ _ (by
  rcases hr with rfl | rfl | rfl | rfl | ⟨rfl, _⟩ <;> decide))
theorem clS.cg (hok : ml_ok B a) (h : clS a hs sv tx R e ln M) (he : ∀ j, j < 364 → b j = a j) : clS b hs sv tx R e ln M := ⟨⟨h.1.choose, h.1.choose_spec.cg hok he⟩, h.2⟩
/-- what both hold, and that it is sound -/
def lwS (B : Nat) (a : Nat → Nat) (hs : List (Nat → Nat)) (sv : Option (Nat → Nat)) (tx : List Int32) (R : Int32 × Int32 × Int32) (e : Int32) (ln : List Int32) (M : am_M) : Prop := mlS a hs sv tx R e ln M ∧ clS a hs sv tx R e ln M ∧ ml_ok B a ∧ (∀ h, h ∈ hs → ml_ok B h) ∧ (∀ b, sv = some b → ml_ok B b) ∧ txk tx ∧ ln.length ≤ 14 ∧ ∀ c, c ∈ ln → am_pc 2 c = true
def lwI (B : Nat) (M : am_M) : Prop := ∃ a hs sv tx R e ln, lwS B a hs sv tx R e ln M
def lF (M M' : am_M) : Prop := ∀ (l : am_L) (j : Nat), l.1 = 0 → M' l j = M l j
def wB (w w' : am_W4) : Prop := w'.1 ≤ w.1 + 1 ∧ w'.2.1 ≤ w.2.1 + 6
theorem mF.lF (h : mF M M') : lF M M' := fun l j hl => h l j (by omega)
theorem clF.lF (h : clF M M') : lF M M' := fun l j hl => h l j (by omega)
theorem lF.tr (h : lF M M') (h' : lF M' M1) : lF M M1 := fun l j hl => (h' l j hl).trans (h l j hl)
/-- a call's two halves -/
def pO (lv : Int32 → Int64) (B : Nat) (M : am_M) (w : am_W4) (r1 : Option am_R) (r2 : am_M → am_W4 → Option am_R) : Prop := ∃ s v M1 w1 M2, r1 = some (.inl (some (am_I s)), M1, am_Z w1) ∧ r2 M1 w1 = some (.inl (some (am_I v)), M2, am_Z w1) ∧ lF M M1 ∧ lF M M2 ∧ M2 (30, 0, 0) 20 = s ∧ (s = 0 → w1.2.2.1 = lv v) ∧ lwI (B + 400000) M2 ∧ wB w w1
variable {lv : Int32 → Int64} {cd : List (Nat × Nat)} {r0 r1 : Option am_R} {r2 : am_M → am_W4 → Option am_R}
theorem cpl_v {v : Int32} (hl : hlp lv cd w r0 r1) (h0 : r0 = some (.inl (some (am_I v)), M1, am_Z w)) (hF : clF M M1) (hm : ∀ w', ∃ M2, r2 M1 w' = some (.inl (some (am_I v)), M2, am_Z w') ∧ M2 (30, 0, 0) 20 = nI 0 ∧ mF M1 M2 ∧ lwI (B + 400000) M2) : pO lv B M w r1 r2 := by
  obtain ⟨M2, h1, h2, h3, h4⟩ := hm (w.1, w.2.1, lv v, w.2.2.2)
  exact ⟨nI 0, v, M1, _, M2, hl.1 v M1 h0, h1, hF.lF, hF.lF.tr h3.lF, h2, fun _ => rfl, h4, Nat.le_succ _, Nat.le_add_right _ _⟩
theorem cpl_e {E k : Nat} (hl : hlp lv cd w r0 r1) (hk : k = 1 ∨ k = 2) (hin : (E, k) ∈ cd) (h0 : r0 = some (.inr E, M1, am_Z (am_bw w))) (hF : clF M M1) (hm : ∀ w', ∃ v M2, r2 M1 w' = some (.inl (some (am_I v)), M2, am_Z w') ∧ M2 (30, 0, 0) 20 = nI k ∧ mF M1 M2 ∧ lwI (B + 400000) M2) : pO lv B M w r1 r2 := by
  obtain ⟨v, M2, h1, h2, h3, h4⟩ := hm (am_bw w)
  exact ⟨nI k, v, M1, _, M2, hl.2 E k M1 _ hin h0, h1, hF.lF, hF.lF.tr h3.lF, h2, fun q => absurd q (nI_ne0 (by omega) (by omega)), h4, Nat.le_refl _, Nat.le_refl _⟩
theorem lwS.mono {B' : Nat} (h : lwS B a hs sv tx R e ln M) (hB : B ≤ B') : lwS B' a hs sv tx R e ln M := ⟨h.1, h.2.1, h.2.2.1.mono hB, fun g hg => (h.2.2.2.1 g hg).mono hB, fun g hg => (h.2.2.2.2.1 g hg).mono hB, h.2.2.2.2.2⟩
/-- the codes that a question may give -/
def qin (cd : List (Nat × Nat)) (q : Qo) : Prop := ∀ E k, q = .inr (E, k) → (E, k) ∈ cd
theorem cpl_q {q : Qo} (hS : lwS B a hs sv tx R e ln M) (hl : hlp lv cd w r0 r1) (hk : ∀ c, c ∈ cd → c.2 = 1 ∨ c.2 = 2) (hin : qin cd q) (hc : clQ M w r0 q) (hm : ∀ w', mlQ a hs sv tx R e ln M w' (r2 M w') q) : pO lv B M w r1 r2 := by
  have hI : ∀ M2, mlS a hs sv tx R e ln M2 → mF M M2 → lwI (B + 400000) M2 := fun M2 g1 g2 => ⟨a, hs, sv, tx, R, e, ln, g1, hS.2.1.mF g2, (hS.mono (Nat.le_add_right _ _)).2.2⟩
  rcases q with v | ⟨E, k⟩
  · refine cpl_v hl hc (clF.rf M) (fun w' => ?_)
    obtain ⟨M2, g1, g2, g3, g4⟩ := hm w'
    exact ⟨M2, g1, g3, g4, hI M2 g2 g4⟩
  · refine cpl_e hl (hk _ (hin E k rfl)) (hin E k rfl) hc (clF.rf M) (fun w' => ?_)
    obtain ⟨M2, g1, g2, g3, g4⟩ := hm w'
    exact ⟨_, M2, g1, g3, g4, hI M2 g2 g4⟩
theorem cpl_u {q : Qo} (hS : lwS B a hs sv tx R e ln M) (hl : hlp lv cd w r0 r1) (hk : ∀ c, c ∈ cd → c.2 = 1 ∨ c.2 = 2) (hin : qin cd q) (hc : clU a hs sv tx R e ln M w r0 q) (hm : ∀ M1 w', mlS a hs sv tx R e ln M1 → ∃ a', (∀ j, j < 364 → a' j = a j) ∧ mlQ a' hs sv tx R e ln M1 w' (r2 M1 w') q) : pO lv B M w r1 r2 := by
  have hI : ∀ M1 M2 a', clS a hs sv tx R e ln M1 → (∀ j, j < 364 → a' j = a j) → mlS a' hs sv tx R e ln M2 → mF M1 M2 → lwI (B + 400000) M2 := fun M1 M2 a' g0 ga g1 g2 => ⟨a', hs, sv, tx, R, e, ln, g1, (g0.mF g2).cg hS.2.2.1 ga, (hS.2.2.1.cg ga).mono (Nat.le_add_right _ _), (hS.mono (Nat.le_add_right _ _)).2.2.2⟩
  rcases q with v | ⟨E, k⟩
  · obtain ⟨M1, c1, c2, c3⟩ := hc
    refine cpl_v hl c1 c3 (fun w' => ?_)
    obtain ⟨a', ga, M2, g1, g2, g3, g4⟩ := hm M1 w' (hS.1.clF c3)
    exact ⟨M2, g1, g3, g4, hI M1 M2 a' c2 ga g2 g4⟩
  · obtain ⟨M1, c1, c2, c3⟩ := hc
    refine cpl_e hl (hk _ (hin E k rfl)) (hin E k rfl) c1 c3 (fun w' => ?_)
    obtain ⟨a', ga, M2, g1, g2, g3, g4⟩ := hm M1 w' (hS.1.clF c3)
    exact ⟨_, M2, g1, g3, g4, hI M1 M2 a' c2 ga g2 g4⟩
theorem hpush_mem {g : Nat → Nat} (h : g ∈ hpush hs a) : g ∈ hs ∨ g = a := by
  unfold hpush at h
  split at h
  · rcases List.mem_append.mp h with q | q
    · exact Or.inl (List.mem_of_mem_drop q)
    · exact Or.inr (List.mem_singleton.mp q)
  · rcases List.mem_append.mp h with q | q
    · exact Or.inl q
    · exact Or.inr (List.mem_singleton.mp q)
theorem cpl_cmd (hS : lwS B a hs sv tx R e ln M) (hl : hlp lv [(0, 1)] w r0 r1) (hc : cmO a hs sv tx R e ln M w r0 o) (hv : okO B o) (hm : ∀ M1 w', mlS a hs sv tx R e ln M1 → mlO a hs sv tx R e ln M1 w' (r2 M1 w') o) : pO lv B M w r1 r2 := by
  rcases o with ⟨v, a'⟩ | ⟨q, u⟩
  · obtain ⟨M1, c1, c2, c3⟩ := hc
    refine cpl_v hl c1 c3 (fun w' => ?_)
    obtain ⟨M2, g1, g2, g3, g4⟩ := hm M1 w' (hS.1.clF c3)
    have hm := hS.mono (B' := B + 400000) (Nat.le_add_right _ _)
    exact ⟨M2, g1, g3, g4, a', hpush hs a, sv, tx, R, e, ln, g2, c2.mF g4, hv.2.mono (by omega), fun g hg => (hpush_mem hg).elim (hm.2.2.2.1 g) (fun q => by rw [q]; exact hm.2.2.1), hm.2.2.2.2⟩
  · obtain ⟨M1, c1, c2, c3⟩ := hc
    refine cpl_e hl (Or.inl rfl) List.mem_cons_self c1 c3 (fun w' => ?_)
    obtain ⟨M2, g1, g2, g3, g4⟩ := hm M1 w' (hS.1.clF c3)
    exact ⟨_, M2, g1, g3, g4, a, hs, sv, tx, _, e, ln, g2, c2.mF g4, (hS.mono (Nat.le_add_right _ _)).2.2⟩
end Kls2
