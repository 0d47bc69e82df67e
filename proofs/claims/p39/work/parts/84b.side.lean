section AmSound
variable {p : Program} {l : Launch} {e : Env} {R : Room} {s : State} {m : MethodId} {args : Array Value} {below : List Frame} {meth : Method} {c : Code} {Q : State → Prop} {G : am_Γ} {z : Nat} {X0 : am_X} {call : Nat → List am_V → am_M → am_X → Option am_R} {pc : Nat} {ls : am_S} {st : List am_V} {M : am_M} {X : am_X}
theorem am_ml_at {o ix k y : Nat} (hm : am_ml o ix = some (k, y)) : ∃ i, am_mlw (o, ix, k, y) i = true := am_al2_in am_ml_ok _ (am_look_in hm)
theorem am_ml_lt {o ix k y : Nat} (hm : am_ml o ix = some (k, y)) (hk : k < 5) : am_zk y := by
  obtain ⟨i, hi⟩ := am_ml_at hm
  have h5 : k = 0 ∨ k = 1 ∨ k = 2 ∨ k = 3 ∨ k = 4 := by omega
  rcases h5 with rfl | rfl | rfl | rfl | rfl <;> simp only [am_mlw, Bool.and_eq_true, decide_eq_true_eq] at hi
  · exact hi.2.1.2
  · exact hi.2.2
  · exact hi.2.1.2
  · exact hi.2.1.2
  · exact hi.2.1.2
/-- what is known of all calls from here -/
def am_Cs (l : Launch) (d : Nat) : Prop := ∀ y, am_zk y → ∀ (as : List am_V) (M : am_M) (X : am_X) (r : am_R), (∀ v ∈ as, am_one v) → as.length ≤ am_mL y → am_ev d y as M X = some r → am_Con l d y as M X r
/-! WHAT GOES BESIDE: Strings, bits of floats -/
theorem am_s_sln {d ix y : Nat} {q : am_N} (C : am_Cx p l s m args meth c G z) (hnc : am_Nc G s) (hm : am_ml (am_own z) ix = some (10, y)) (dg : decode (am_by z) pc = .ok (.invokevirtual ix, 3)) (hR : 27 ≤ R.frames ∧ 751 ≤ R.locals) (hle : am_le X0 X) (h : am_inv (am_ev d) z 10 y pc ls st M X (fun a b c d e => some (.inl (a, b, c, d, e))) (fun r => some (.inr r)) = some q) (hrm : (am_nx q).2.2.1 - X0.2.2.1 ≤ R.cells ∧ (am_nx q).2.2.2.1 - X0.2.2.2.1 ≤ R.slots) (hq : ∀ w, q = .inl w → am_Sm p l e R s m args below meth c Q G z X0 w) : am_Sm p l e R s m args below meth c Q G z X0 (pc, ls, st, M, X) := by
  sorry
theorem am_s_sch {d ix y : Nat} {q : am_N} (C : am_Cx p l s m args meth c G z) (hnc : am_Nc G s) (hm : am_ml (am_own z) ix = some (11, y)) (dg : decode (am_by z) pc = .ok (.invokevirtual ix, 3)) (hR : 27 ≤ R.frames ∧ 751 ≤ R.locals) (hle : am_le X0 X) (h : am_inv (am_ev d) z 11 y pc ls st M X (fun a b c d e => some (.inl (a, b, c, d, e))) (fun r => some (.inr r)) = some q) (hrm : (am_nx q).2.2.1 - X0.2.2.1 ≤ R.cells ∧ (am_nx q).2.2.2.1 - X0.2.2.2.1 ≤ R.slots) (hq : ∀ w, q = .inl w → am_Sm p l e R s m args below meth c Q G z X0 w) : am_Sm p l e R s m args below meth c Q G z X0 (pc, ls, st, M, X) := by
  sorry
theorem am_s_dbl {d ix y : Nat} {q : am_N} (C : am_Cx p l s m args meth c G z) (hm : am_ml (am_own z) ix = some (8, y)) (dg : decode (am_by z) pc = .ok (.invokestatic ix, 3)) (hR : 27 ≤ R.frames ∧ 751 ≤ R.locals) (hle : am_le X0 X) (h : am_inv (am_ev d) z 8 y pc ls st M X (fun a b c d e => some (.inl (a, b, c, d, e))) (fun r => some (.inr r)) = some q) (hrm : (am_nx q).2.2.1 - X0.2.2.1 ≤ R.cells ∧ (am_nx q).2.2.2.1 - X0.2.2.2.1 ≤ R.slots) (hq : ∀ w, q = .inl w → am_Sm p l e R s m args below meth c Q G z X0 w) : am_Sm p l e R s m args below meth c Q G z X0 (pc, ls, st, M, X) := by
  sorry
theorem am_s_flt {d ix y : Nat} {q : am_N} (C : am_Cx p l s m args meth c G z) (hm : am_ml (am_own z) ix = some (9, y)) (dg : decode (am_by z) pc = .ok (.invokestatic ix, 3)) (hR : 27 ≤ R.frames ∧ 751 ≤ R.locals) (hle : am_le X0 X) (h : am_inv (am_ev d) z 9 y pc ls st M X (fun a b c d e => some (.inl (a, b, c, d, e))) (fun r => some (.inr r)) = some q) (hrm : (am_nx q).2.2.1 - X0.2.2.1 ≤ R.cells ∧ (am_nx q).2.2.2.1 - X0.2.2.2.1 ≤ R.slots) (hq : ∀ w, q = .inl w → am_Sm p l e R s m args below meth c Q G z X0 w) : am_Sm p l e R s m args below meth c Q G z X0 (pc, ls, st, M, X) := by
  sorry
theorem am_s_ldcw {d ix : Nat} {w} (C : am_Cx p l s m args meth c G z) (hnc : am_Nc G s) (htab : am_hs z ≠ [] → c.exceptionTable.toList = tableOf (am_hh z)) (hcs : am_Cs l d) (hfr : d + 27 ≤ R.frames) (hlo : 31 * d + 751 ≤ R.locals) (hle : am_le X0 X) (hcd : am_cd z pc = some (.ldc_w ix)) (h : am_st (am_ev d) z (.ldc_w ix) pc ls st M X = some (.inl w)) (hrm : w.2.2.2.2.2.2.1 - X0.2.2.1 ≤ R.cells ∧ w.2.2.2.2.2.2.2.1 - X0.2.2.2.1 ≤ R.slots) (K : am_Sm p l e R s m args below meth c Q G z X0 w) : am_Sm p l e R s m args below meth c Q G z X0 (pc, ls, st, M, X) := by
  sorry
theorem am_s_ca {d ix : Nat} {q : am_N} (C : am_Cx p l s m args meth c G z) (hnc : am_Nc G s) (hcs : am_Cs l d) (hfr : d + 27 ≤ R.frames) (hlo : 31 * d + 751 ≤ R.locals) (hle : am_le X0 X) (hcd : am_cd z pc = some (.new ix)) (h : am_ca (am_ev d) z pc ls st M X (fun a b c d e => some (.inl (a, b, c, d, e))) = some q) (hrm : (am_nx q).2.2.1 - X0.2.2.1 ≤ R.cells ∧ (am_nx q).2.2.2.1 - X0.2.2.2.1 ≤ R.slots) (hq : ∀ w, q = .inl w → am_Sm p l e R s m args below meth c Q G z X0 w) : am_Sm p l e R s m args below meth c Q G z X0 (pc, ls, st, M, X) := by
  sorry
end AmSound
