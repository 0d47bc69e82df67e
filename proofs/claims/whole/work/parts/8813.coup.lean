/-! THE CALLS THAT ARE NO QUESTIONS: BOTH SIDES -/
theorem u16_pc (u : UInt16) : (0 : Int32) ≤ u.toUInt32.toInt32 ∧ u.toUInt32.toInt32 ≤ 65535 := by
  have hlt := u.toNat_lt
  have h0 : u.toUInt32.toInt32.toBitVec.toNat = u.toNat := by
    show u.toUInt32.toNat = u.toNat
    exact UInt16.toNat_toUInt32 u
  have h : u.toUInt32.toInt32.toInt = (u.toNat : Int) := by
    show u.toUInt32.toInt32.toBitVec.toInt = _
    rw [BitVec.toInt_eq_toNat_of_lt (by omega), h0]
  constructor
  · rw [Int32.le_iff_toInt_le, h]
    show (0:Int) ≤ _
    omega
  · rw [Int32.le_iff_toInt_le, h]
    show _ ≤ (65535:Int)
    omega
theorem vp_pc (x : Int32) : am_pc 2 (vp_nar .char x) = true := decide_eq_true (u16_pc x.toUInt32.toUInt16)
section Kcp
variable {d B : Nat} {M M' M0 M1 : am_M} {a b : Nat → Nat} {w w' : am_W4} {hs : List (Nat → Nat)} {sv : Option (Nat → Nat)} {tx ln : List Int32} {R : Int32 × Int32 × Int32} {e : Int32} {r0 r1 : Option am_R} {r2 : am_M → am_W4 → Option am_R}
theorem sn_pc {l : List Int32} {x : Int32} (h : ∀ c, c ∈ l → am_pc 2 c = true) : ∀ c, c ∈ l ++ [vp_nar .char x] → am_pc 2 c = true := fun c hc => by
  rcases List.mem_append.mp hc with q | q
  · exact h c q
  · rw [List.mem_singleton.mp q]; exact vp_pc x
theorem li_pc {m : Nat} : ∀ c, c ∈ li a m → am_pc 2 c = true := by
  have h0 : ∀ c, c ∈ li_h a m → am_pc 2 c = true := sn_pc (sn_pc (sn_pc (sn_pc (fun c q => absurd q (by simp)))))
  have h1 : ∀ k, ∀ c, c ∈ li_s a m k → am_pc 2 c = true := by
    intro k
    induction k with
    | zero => exact h0
    | succ k ih => exact sn_pc ih
  unfold li
  split
  · exact sn_pc (sn_pc (h1 _))
  split
  · exact sn_pc (h1 _)
  · exact h1 _
theorem exk.fin : ∀ (l : List Cm) (B : Nat) (a : Nat → Nat) (i : Nat) (a' : Nat → Nat), exk B a l → exl a i l = .inl a' → ml_ok (B + 20000 * l.length) a' := by
  intro l
  induction l with
  | nil =>
    intro B a i a' h h1
    have : a = a' := Sum.inl.inj h1
    subst this
    exact h.mono (Nat.le_add_right _ _)
  | cons c l ih =>
    intro B a i a' h h1
    obtain ⟨k, x, y, z⟩ := c
    have h2 := h.2
    unfold exl at h1
    generalize oC a k (nI x) (nI y) (nI z) = o at h1 h2
    rcases o with ⟨v, a2⟩ | ⟨q, u⟩
    · rw [List.length_cons]
      exact (ih (B + 20000) a2 (i + 1) a' h2.2 h1).mono (by omega)
    · exact absurd h1 (by simp)
theorem cpl_text (hB0 : 1000 ≤ B) (hB : B < 1000000000) (hS : lwS B a hs sv tx R e ln M) (hl : hlp Int32.toInt64 [(2, 1), (0, 2)] w (am_ev (d + 8) 99 [am_P (3, 0, 0)] M (am_Z w)) r1) : pO Int32.toInt64 B M w r1 (fun M1 w1 => am_ev (d + 9) 183 [am_P (30, 0, 0)] M1 (am_Z w1)) := by
  obtain ⟨g1, g2, g3, g4, g5, g6, g7, g8⟩ := hS
  have hc := k99 (d := d) (w := w) g6 hB0 (by omega) g3 g2
  have hk : ∀ ls, (ptx tx).2 = some ls → exk B a ls ∧ ls.length ≤ 20 := by
    intro ls q
    obtain ⟨M1, _, _, t3⟩ := k4 (d := 0) (w := w) g6 g2.2.2.2.1.1
    have hlen := (t3 ls q).2.1
    obtain ⟨ar, hA⟩ := g2.1
    exact ⟨exk_of ls B a M ar hA g3 hB0 (by omega) (ptx_ok.2 ls q), hlen⟩
  have hm : ∀ M1 w', mlS a hs sv tx R e ln M1 → txM a hs sv R ln M1 w' (am_ev (d + 9) 183 [am_P (30, 0, 0)] M1 (am_Z w')) (tO a tx) := fun M1 w' h => k183 (d := d + 1) g6 hB0 (by omega) hk h
  have hv : ∀ a' n, tO a tx = .inr (.inl (a', n)) → ml_ok (B + 400000) a' := by
    intro a' n q
    unfold tO at q
    cases ho : (ptx tx).2 with
    | none => rw [ho] at q; exact absurd q (by simp)
    | some ls =>
      rw [ho] at q
      obtain ⟨q1, q2⟩ := hk ls ho
      dsimp only at q
      cases hx : exl a 0 ls with
      | inl a2 =>
        rw [hx] at q
        have : a2 = a' := (Prod.mk.inj (Sum.inl.inj (Sum.inr.inj q))).1
        subst this
        exact (exk.fin ls B a 0 a2 q1 hx).mono (by omega)
      | inr z => rw [hx] at q; exact absurd q (by simp)
  have t0 : txk ([] : List Int32) := ⟨Nat.zero_le _, fun c hc => absurd hc (by simp)⟩
  have k3 := g3.mono (B' := B + 400000) (Nat.le_add_right _ _)
  have k4' : ∀ h, h ∈ hs → ml_ok (B + 400000) h := fun g hg => (g4 g hg).mono (Nat.le_add_right _ _)
  have k5' : ∀ b, sv = some b → ml_ok (B + 400000) b := fun g hg => (g5 g hg).mono (Nat.le_add_right _ _)
  generalize tO a tx = o at hc hm hv
  rcases o with p | ⟨a', n⟩ | ⟨q, u, i⟩
  · obtain ⟨M1, c1, c2, c3⟩ := hc
    refine cpl_e (k := 1) hl (Or.inl rfl) List.mem_cons_self c1 c3 (fun w' => ?_)
    obtain ⟨M2, m1, m2, m3, m4⟩ := hm M1 w' (g1.clF c3)
    exact ⟨_, M2, m1, m3, m4, a, hs, sv, [], R, _, ln, m2, c2.mF m4, k3, k4', k5', t0, g7, g8⟩
  · obtain ⟨M1, c1, c2, c3⟩ := hc
    refine cpl_v hl c1 c3 (fun w' => ?_)
    obtain ⟨M2, m1, m2, m3, m4⟩ := hm M1 w' (g1.clF c3)
    exact ⟨M2, m1, m3, m4, a', hpush hs a, sv, [], R, _, ln, m2, c2.mF m4, hv a' n rfl, fun g hg => (hpush_mem hg).elim (k4' g) (fun q => by rw [q]; exact k3), k5', t0, g7, g8⟩
  · obtain ⟨M1, c1, c2, c3⟩ := hc
    refine cpl_e (k := 2) hl (Or.inr rfl) (List.mem_cons_of_mem _ List.mem_cons_self) c1 c3 (fun w' => ?_)
    obtain ⟨M2, b, m1, m0, m2, m3, m4⟩ := hm M1 w' (g1.clF c3)
    exact ⟨_, M2, m1, m3, m4, b, hs, sv, [], _, _, ln, m2, (c2.mF m4).cg g3 m0, k3.cg m0, k4', k5', t0, g7, g8⟩
theorem cpl_undo (hS : lwS B a hs sv tx R e ln M) (hl : hlp Int32.toInt64 [(4, 1)] w (am_ev (d + 3) 107 [am_P (3, 0, 0)] M (am_Z w)) r1) : pO Int32.toInt64 B M w r1 (fun M1 w1 => am_ev (d + 4) 192 [am_P (30, 0, 0)] M1 (am_Z w1)) := by
  have hS' := hS.mono (B' := B + 400000) (Nat.le_add_right _ _)
  have hcc : hs = [] ∨ ∃ hs' b, hs = hs' ++ [b] := by
    rcases List.eq_nil_or_concat hs with q | ⟨l, x, q⟩
    · exact Or.inl q
    · exact Or.inr ⟨l, x, by rw [q, List.concat_eq_append]⟩
  rcases hcc with rfl | ⟨hs', b, rfl⟩
  · refine cpl_e (k := 1) hl (Or.inl rfl) List.mem_cons_self (k107n hS.2.1) (clF.rf M) (fun w' => ?_)
    obtain ⟨M2, m1, m2, m3, m4⟩ := k192n (d := d + 2) (w := w') hS.1
    exact ⟨_, M2, m1, m3, m4, a, [], sv, tx, R, e, ln, m2, hS.2.1.mF m4, hS'.2.2⟩
  · have hb := hS.2.2.2.1 b (List.mem_append_right _ List.mem_cons_self)
    obtain ⟨M1, c1, c2, c3⟩ := k107s (d := d) (w := w) hb hS.2.1
    refine cpl_v hl c1 c3 (fun w' => ?_)
    obtain ⟨M2, m1, m2, m3, m4⟩ := k192s (d := d + 2) (w := w') (hS.1.clF c3)
    exact ⟨M2, m1, m3, m4, mix a b, hs', sv, tx, R, e, ln, m2, c2.mF m4, (hb.cg (fun j hj => mix_lt hj)).mono (Nat.le_add_right _ _), fun g hg => hS'.2.2.2.1 g (List.mem_append_left _ hg), hS'.2.2.2.2⟩
theorem cpl_rest (hS : lwS B a hs sv tx R e ln M) (hl : hlp Int32.toInt64 [(4, 1)] w (am_ev (d + 3) 109 [am_P (3, 0, 0)] M (am_Z w)) r1) : pO Int32.toInt64 B M w r1 (fun M1 w1 => am_ev (d + 4) 194 [am_P (30, 0, 0)] M1 (am_Z w1)) := by
  have hS' := hS.mono (B' := B + 400000) (Nat.le_add_right _ _)
  cases sv with
  | none =>
    refine cpl_e (k := 1) hl (Or.inl rfl) List.mem_cons_self (k109n hS.2.1) (clF.rf M) (fun w' => ?_)
    obtain ⟨M2, m1, m2, m3, m4⟩ := k194n (d := d + 2) (w := w') hS.1
    exact ⟨_, M2, m1, m3, m4, a, hs, none, tx, R, e, ln, m2, hS.2.1.mF m4, hS'.2.2⟩
  | some b =>
    have hb := hS.2.2.2.2.1 b rfl
    obtain ⟨M1, c1, c2, c3⟩ := k109s (d := d) (w := w) hb hS.2.1
    refine cpl_v hl c1 c3 (fun w' => ?_)
    obtain ⟨M2, m1, m2, m3, m4⟩ := k194s (d := d + 2) (w := w') (hS.1.clF c3)
    exact ⟨M2, m1, m3, m4, mix a b, [], some b, tx, R, e, ln, m2, c2.mF m4, (hb.cg (fun j hj => mix_lt hj)).mono (Nat.le_add_right _ _), fun g hg => absurd hg (by simp), hS'.2.2.2.2⟩
theorem cpl_char {x : Int32} (hS : lwS B a hs sv tx R e ln M) (hl : hlp Int32.toInt64 [(4, 1)] w (am_ev (d + 2) 98 [am_P (3, 0, 0), am_I x] M (am_Z w)) r1) : pO Int32.toInt64 B M w r1 (fun M1 w1 => am_ev (d + 3) 176 [am_P (30, 0, 0), am_I x] M1 (am_Z w1)) := by
  have hS' := hS.mono (B' := B + 400000) (Nat.le_add_right _ _)
  have ht := hS.2.2.2.2.2.1
  rcases Nat.lt_or_ge tx.length 60 with h60 | h60
  · obtain ⟨M1, c1, c2, c3⟩ := k98s (d := d) (w := w) (x := x) hS.2.1 h60
    refine cpl_v hl c1 c3 (fun w' => ?_)
    obtain ⟨M2, m1, m2, m3, m4⟩ := k176s (d := d + 1) (w := w') (x := x) (hS.1.clF c3) h60
    exact ⟨M2, m1, m3, m4, a, hs, sv, _, R, e, ln, m2, c2.mF m4, hS'.2.2.1, hS'.2.2.2.1, hS'.2.2.2.2.1, ⟨by rw [List.length_append]; exact h60, sn_pc ht.2⟩, hS'.2.2.2.2.2.2⟩
  · have h60' : tx.length = 60 := by have := ht.1; omega
    refine cpl_e (k := 1) hl (Or.inl rfl) List.mem_cons_self (k98f hS.2.1 h60') (clF.rf M) (fun w' => ?_)
    obtain ⟨M2, m1, m2, m3, m4⟩ := k176f (d := d + 1) (w := w') (x := x) hS.1 h60'
    exact ⟨_, M2, m1, m3, m4, a, hs, sv, tx, R, e, ln, m2, hS.2.1.mF m4, hS'.2.2⟩
theorem cpl_line {x : Int32} (hS : lwS B a hs sv tx R e ln M) (hl : hlp Int32.toInt64 [(1, 1)] w (am_ev (d + 3) 102 [am_P (3, 0, 0), am_I x] M (am_Z w)) r1) : pO Int32.toInt64 B M w r1 (fun M1 w1 => am_ev (d + 4) 187 [am_P (30, 0, 0), am_I x] M1 (am_Z w1)) := by
  have hS' := hS.mono (B' := B + 400000) (Nat.le_add_right _ _)
  have hok := hS.2.2.1
  have b2 := hok.1.2.1
  by_cases hx : am_in x (a 2)
  · obtain ⟨x, hx', hx2, rfl⟩ := in_nI hx
    obtain ⟨f1, f2, f3, f4, f5, f6, f7, f8, f9, f10, f11, f12⟩ := hok.2 x hx'
    obtain ⟨M1, c1, c2, c3⟩ := k102s (d := d) (w := w) hok hx' hS.2.1
    refine cpl_v hl c1 c3 (fun w' => ?_)
    obtain ⟨M2, m1, m2, m3, m4⟩ := k187s (d := d + 1) (w := w') hok hx' (hS.1.clF c3)
    exact ⟨M2, m1, m3, m4, a, hs, sv, tx, R, e, li a x, m2, c2.mF m4, hS'.2.2.1, hS'.2.2.2.1, hS'.2.2.2.2.1, hS'.2.2.2.2.2.1, li_len (by omega), li_pc⟩
  · refine cpl_e (k := 1) hl (Or.inl rfl) List.mem_cons_self (k102n hok hx hS.2.1) (clF.rf M) (fun w' => ?_)
    obtain ⟨M2, m1, m2, m3, m4⟩ := k187n (d := d + 1) (w := w') hok hx hS.1
    exact ⟨_, M2, m1, m3, m4, a, hs, sv, tx, R, e, ln, m2, hS.2.1.mF m4, hS'.2.2⟩
end Kcp
