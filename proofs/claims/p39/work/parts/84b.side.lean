section AmSound
variable {p : Program} {l : Launch} {e : Env} {R : Room} {s : State} {m : MethodId} {args : Array Value} {below : List Frame} {meth : Method} {c : Code} {Q : State → Prop} {G : am_Γ} {z : Nat} {X0 : am_X} {call : Nat → List am_V → am_M → am_X → Option am_R} {pc : Nat} {ls : am_S} {st : List am_V} {M : am_M} {X : am_X}
theorem am_ml_at {o ix k y : Nat} (hm : am_ml o ix = some (k, y)) : ∃ i, am_mlw (o, ix, k, y) i = true := am_al2_in am_ml_ok _ (am_look_in hm)
theorem am_ml_lt {o ix k y : Nat} (hm : am_ml o ix = some (k, y)) (hk : k < 5) : am_zk y := by
  obtain ⟨i, hi⟩ := am_ml_at hm
  have h5 : k = 0 ∨ k = 1 ∨ k = 2 ∨ k = 3 ∨ k = 4 := by omega
  rcases h5 with rfl | rfl | rfl | rfl | rfl <;> simp only [am_mlw, Bool.and_eq_true, decide_eq_true_eq] at hi
  · exact hi.2.1.2
  · exact hi.2.2
  · exact hi.2.1.2
  · exact hi.2.1.2
  · exact hi.2.1.2
/-- what is known of all calls from here -/
def am_Cs (l : Launch) (d : Nat) : Prop := ∀ y, am_zk y → ∀ (as : List am_V) (M : am_M) (X : am_X) (r : am_R), (∀ v ∈ as, am_one v) → as.length ≤ am_mL y → am_ev d y as M X = some r → am_Con l d y as M X r
end AmSound
