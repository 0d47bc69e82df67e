/-! THE ABSTRACT MACHINE'S RUNS: am_rn goes to the end of a method, am_ev is a call at a depth -/
abbrev am_N : Type := (Nat × am_S × List am_V × am_M × am_X) ⊕ am_R
section AmB
variable {α β : Type}
theorem am_ite_b {c : Prop} [Decidable c] {a b : Option α} {g : α → Option β} : (if c then a else b).bind g = if c then a.bind g else b.bind g := by split <;> rfl
theorem am_asI_b {v : am_V} {f : Int32 → Option α} {g : α → Option β} : (am_asI v f).bind g = am_asI v (fun x => (f x).bind g) := by unfold am_asI; split <;> rfl
theorem am_o2_b {γ : Type} {o : Option γ} {f : γ → Option α} {x : Option α} {g : α → Option β} : (am_o2 o f x).bind g = am_o2 o (fun t => (f t).bind g) (x.bind g) := by unfold am_o2; split <;> rfl
theorem am_asJ_b {v : am_V} {f : Int64 → Option α} {g : α → Option β} : (am_asJ v f).bind g = am_asJ v (fun x => (f x).bind g) := by unfold am_asJ; split <;> rfl
theorem am_asF_b {v : am_V} {f : UInt32 → Option α} {g : α → Option β} : (am_asF v f).bind g = am_asF v (fun x => (f x).bind g) := by unfold am_asF; split <;> rfl
theorem am_asD_b {v : am_V} {f : UInt64 → Option α} {g : α → Option β} : (am_asD v f).bind g = am_asD v (fun x => (f x).bind g) := by unfold am_asD; split <;> rfl
theorem am_asP_b {v : am_V} {f : am_L → Option α} {g : α → Option β} : (am_asP v f).bind g = am_asP v (fun x => (f x).bind g) := by unfold am_asP; split <;> rfl
theorem am_popI_b {v : List am_V} {f : Int32 → List am_V → Option α} {g : α → Option β} : (am_popI v f).bind g = am_popI v (fun x r => (f x r).bind g) := by unfold am_popI; split <;> rfl
theorem am_popJ_b {v : List am_V} {f : Int64 → List am_V → Option α} {g : α → Option β} : (am_popJ v f).bind g = am_popJ v (fun x r => (f x r).bind g) := by unfold am_popJ; split <;> rfl
theorem am_popF_b {v : List am_V} {f : UInt32 → List am_V → Option α} {g : α → Option β} : (am_popF v f).bind g = am_popF v (fun x r => (f x r).bind g) := by unfold am_popF; split <;> rfl
theorem am_popD_b {v : List am_V} {f : UInt64 → List am_V → Option α} {g : α → Option β} : (am_popD v f).bind g = am_popD v (fun x r => (f x r).bind g) := by unfold am_popD; split <;> rfl
theorem am_popP_b {v : List am_V} {f : am_L → List am_V → Option α} {g : α → Option β} : (am_popP v f).bind g = am_popP v (fun x r => (f x r).bind g) := by unfold am_popP; split <;> rfl
theorem am_pop1_b {v : List am_V} {f : am_V → List am_V → Option α} {g : α → Option β} : (am_pop1 v f).bind g = am_pop1 v (fun x r => (f x r).bind g) := by unfold am_pop1; split <;> rfl
theorem am_popN_b {f : List am_V → List am_V → Option α} {g : α → Option β} : ∀ (n : Nat) (acc v : List am_V), (am_popN n acc v f).bind g = am_popN n acc v (fun x r => (f x r).bind g)
  | 0, _, _ => rfl
  | n + 1, acc, v => by
    unfold am_popN
    rw [am_pop1_b]
    congr 1
    funext x r
    exact am_popN_b n (x :: acc) r
theorem am_sm_b {st : List am_V} {x : Option α} {g : α → Option β} : (am_sm st x).bind g = am_sm st (x.bind g) := by unfold am_sm; split <;> rfl
theorem am_j_b {pc : Nat} {o : Int} {f : Nat → Option α} {g : α → Option β} : (am_j pc o f).bind g = am_j pc o (fun t => (f t).bind g) := by unfold am_j; split <;> rfl
theorem am_get_b {f : am_V → Option α} {g : α → Option β} : ∀ (ls : am_S) (i : Nat), (am_get ls i f).bind g = am_get ls i (fun v => (f v).bind g)
  | [], 0 => rfl
  | [], _ + 1 => rfl
  | none :: _, 0 => rfl
  | some _ :: _, 0 => rfl
  | none :: l, n + 1 => am_get_b l n
  | some _ :: l, n + 1 => am_get_b l n
theorem am_chk_b {X : am_X} {l : am_L} {ci : Nat} {x : Option α} {g : α → Option β} : (am_chk X l ci x).bind g = am_chk X l ci (x.bind g) := by unfold am_chk; split <;> rfl
theorem am_arr_b {X : am_X} {l : am_L} {k a b : Nat} {i : Int32} {n : Nat} {x : Nat → Option α} {g : α → Option β} : (am_arr X l k a b i n x).bind g = am_arr X l k a b i n (fun j => (x j).bind g) := by unfold am_arr; split <;> rfl
theorem am_nu_b {X : am_X} {k : Nat × Nat × Nat} {n : Nat} {x : am_L → am_X → Option α} {g : α → Option β} : (am_nu X k n x).bind g = am_nu X k n (fun l Y => (x l Y).bind g) := by
  unfold am_nu
  split
  · rfl
  · split <;> rfl
theorem am_bk_b {z pc : Nat} {ls : am_S} {st : List am_V} {r : Option am_R} {K : Nat → am_S → List am_V → am_M → am_X → Option α} {F : am_R → Option α} {g : α → Option β} : (am_bk z pc ls st r K F).bind g = am_bk z pc ls st r (fun a b c d e => (K a b c d e).bind g) (fun r => (F r).bind g) := by
  unfold am_bk
  split
  · rfl
  · rfl
  · split
    · split <;> rfl
    · rfl
theorem am_inv_b {call : Nat → List am_V → am_M → am_X → Option am_R} {z kd y pc : Nat} {ls : am_S} {st : List am_V} {M : am_M} {X : am_X} {K : Nat → am_S → List am_V → am_M → am_X → Option α} {F : am_R → Option α} {g : α → Option β} : (am_inv call z kd y pc ls st M X K F).bind g = am_inv call z kd y pc ls st M X (fun a b c d e => (K a b c d e).bind g) (fun r => (F r).bind g) := by
  unfold am_inv
  split <;> simp only [am_popN_b, am_popP_b, am_popI_b, am_popD_b, am_popF_b, am_o2_b, am_sm_b, am_chk_b, am_bk_b, am_ite_b, Option.bind_none]
theorem am_bs_b {pc : Nat} {ls : am_S} {st : List am_V} {r : Option am_R} {n : Nat × Nat} {K : Nat → am_S → List am_V → am_M → am_X → Option α} {g : α → Option β} : (am_bs pc ls st r n K).bind g = am_bs pc ls st r n (fun a b c d e => (K a b c d e).bind g) := by
  unfold am_bs
  split <;> rfl
theorem am_sc_b {call : Nat → List am_V → am_M → am_X → Option am_R} {z pc k : Nat} {ls : am_S} {st : List am_V} {M : am_M} {X : am_X} {K : Nat → am_S → List am_V → am_M → am_X → Option α} {g : α → Option β} : (am_sc call z pc k ls st M X K).bind g = am_sc call z pc k ls st M X (fun a b c d e => (K a b c d e).bind g) := by
  unfold am_sc
  split
  · split
    · simp only [am_ite_b, am_popN_b, am_sm_b, am_bs_b, Option.bind_none]
    · rfl
  · rfl
theorem am_ca_b {call : Nat → List am_V → am_M → am_X → Option am_R} {z pc : Nat} {ls : am_S} {st : List am_V} {M : am_M} {X : am_X} {K : Nat → am_S → List am_V → am_M → am_X → Option α} {g : α → Option β} : (am_ca call z pc ls st M X K).bind g = am_ca call z pc ls st M X (fun a b c d e => (K a b c d e).bind g) := by
  unfold am_ca
  simp only [am_ite_b, am_get_b, am_asI_b, am_popP_b, am_sm_b, am_bs_b, Option.bind_none]
set_option maxHeartbeats 4000000 in
theorem am_ex_b {call : Nat → List am_V → am_M → am_X → Option am_R} {z : Nat} {i : Instr} {pc : Nat} {ls : am_S} {st : List am_V} {M : am_M} {X : am_X} {K : Nat → am_S → List am_V → am_M → am_X → Option α} {F : am_R → Option α} {g : α → Option β} : (am_ex call z i pc ls st M X K F).bind g = am_ex call z i pc ls st M X (fun a b c d e => (K a b c d e).bind g) (fun r => (F r).bind g) := by
  unfold am_ex
  split <;> (try simp only [am_asI_b, am_asJ_b, am_asF_b, am_asD_b, am_asP_b, am_o2_b, am_popI_b, am_popJ_b, am_popF_b, am_popD_b, am_popP_b, am_pop1_b, am_popN_b, am_sm_b, am_j_b, am_get_b, am_chk_b, am_arr_b, am_nu_b, am_bk_b, am_inv_b, am_sc_b, am_ca_b, am_ite_b, Option.bind_none]) <;>
    (try (split <;> simp only [am_asI_b, am_asJ_b, am_asF_b, am_asD_b, am_asP_b, am_o2_b, am_popI_b, am_popJ_b, am_popF_b, am_popD_b, am_popP_b, am_pop1_b, am_popN_b, am_sm_b, am_j_b, am_get_b, am_chk_b, am_arr_b, am_nu_b, am_bk_b, am_inv_b, am_sc_b, am_ca_b, am_ite_b, Option.bind_none, Option.bind_some])) 
  congr 1; funext x r
  congr 1
  split <;> simp only [am_j_b, Option.bind_none]
end AmB
section AmR
variable {call : Nat → List am_V → am_M → am_X → Option am_R} {z : Nat}
def am_el {α : Type} (K : Nat → am_S → List am_V → am_M → am_X → Option α) (F : am_R → Option α) (q : am_N) : Option α := match q with
  | .inl (a, b, c, d, e) => K a b c d e
  | .inr r => F r
/-- one step, as a note of where it leads -/
def am_st (call : Nat → List am_V → am_M → am_X → Option am_R) (z : Nat) (i : Instr) (pc : Nat) (ls : am_S) (st : List am_V) (M : am_M) (X : am_X) : Option am_N := am_ex call z i pc ls st M X (fun a b c d e => some (.inl (a, b, c, d, e))) (fun r => some (.inr r))
theorem am_ex_st {α : Type} {i : Instr} {pc : Nat} {ls : am_S} {st : List am_V} {M : am_M} {X : am_X} {K : Nat → am_S → List am_V → am_M → am_X → Option α} {F : am_R → Option α} : am_ex call z i pc ls st M X K F = (am_st call z i pc ls st M X).bind (am_el K F) :=
  (am_ex_b (K := fun a b c d e => some (.inl (a, b, c, d, e))) (F := fun r => some (.inr r)) (g := am_el K F)).symm
theorem am_run_one : ∀ (n pc : Nat) (ls : am_S) (st : List am_V) (M : am_M) (X : am_X) (r : am_R), am_run call z n pc ls st M X = some r → am_run call z (n + 1) pc ls st M X = some r
  | 0, _, _, _, _, _, _, h => by cases h
  | n + 1, pc, ls, st, M, X, r, h => by
    unfold am_run at h ⊢
    cases hc : am_cd z pc with
    | none => rw [hc] at h; cases h
    | some i =>
      rw [hc] at h
      dsimp only at h ⊢
      rw [am_ex_st] at h ⊢
      cases hs : am_st call z i pc ls st M X with
      | none => rw [hs] at h; cases h
      | some q =>
        rw [hs] at h
        cases q with
        | inl c =>
          obtain ⟨a, b, c, d, e⟩ := c
          exact am_run_one n a b c d e r h
        | inr r' => exact h
theorem am_run_mono {n k pc : Nat} {ls : am_S} {st : List am_V} {M : am_M} {X : am_X} {r : am_R} (h : am_run call z n pc ls st M X = some r) : am_run call z (n + k) pc ls st M X = some r := by
  induction k with
  | zero => exact h
  | succ k ih => exact am_run_one _ _ _ _ _ _ _ ih
theorem am_run_fun {n k pc : Nat} {ls : am_S} {st : List am_V} {M : am_M} {X : am_X} {r r' : am_R} (h : am_run call z n pc ls st M X = some r) (h' : am_run call z k pc ls st M X = some r') : r = r' := by
  have h1 := am_run_mono (k := k) h
  have h2 := am_run_mono (k := n) h'
  rw [Nat.add_comm] at h2
  exact Option.some.inj (h1.symm.trans h2)
noncomputable def am_rn (call : Nat → List am_V → am_M → am_X → Option am_R) (z : Nat) (pc : Nat) (ls : am_S) (st : List am_V) (M : am_M) (X : am_X) : Option am_R :=
  @dite _ (∃ n r, am_run call z n pc ls st M X = some r) (Classical.propDecidable _) (fun h => some h.choose_spec.choose) (fun _ => none)
theorem am_rn_iff {pc : Nat} {ls : am_S} {st : List am_V} {M : am_M} {X : am_X} {r : am_R} : am_rn call z pc ls st M X = some r ↔ ∃ n, am_run call z n pc ls st M X = some r := by
  unfold am_rn
  by_cases h : ∃ n r, am_run call z n pc ls st M X = some r
  · rw [dif_pos h]
    have h2 := h.choose_spec.choose_spec
    constructor
    · intro h3
      rw [← Option.some.inj h3]
      exact ⟨_, h2⟩
    · rintro ⟨n, h3⟩
      rw [am_run_fun h2 h3]
  · rw [dif_neg h]
    constructor
    · intro h3; cases h3
    · rintro ⟨n, h3⟩
      exact absurd ⟨n, r, h3⟩ h
theorem am_rn_eq {i : Instr} {pc : Nat} {ls : am_S} {st : List am_V} {M : am_M} {X : am_X} (hc : am_cd z pc = some i) : am_rn call z pc ls st M X = am_ex call z i pc ls st M X (am_rn call z) some := by
  have key : ∀ r, am_rn call z pc ls st M X = some r ↔ am_ex call z i pc ls st M X (am_rn call z) some = some r := by
    intro r
    rw [am_rn_iff, am_ex_st]
    cases hs : am_st call z i pc ls st M X with
    | none =>
      constructor
      · rintro ⟨n, h⟩
        cases n with
        | zero => cases h
        | succ n =>
          unfold am_run at h
          rw [hc] at h
          dsimp only at h
          rw [am_ex_st, hs] at h
          cases h
      · intro h; cases h
    | some q =>
      cases q with
      | inl c =>
        obtain ⟨a, b, c, d, e⟩ := c
        show _ ↔ am_rn call z a b c d e = some r
        rw [am_rn_iff]
        constructor
        · rintro ⟨n, h⟩
          cases n with
          | zero => cases h
          | succ n =>
            unfold am_run at h
            rw [hc] at h
            dsimp only at h
            rw [am_ex_st, hs] at h
            exact ⟨n, h⟩
        · rintro ⟨n, h⟩
          refine ⟨n + 1, ?_⟩
          unfold am_run
          rw [hc]
          dsimp only
          rw [am_ex_st, hs]
          exact h
      | inr r' =>
        show _ ↔ some r' = some r
        constructor
        · rintro ⟨n, h⟩
          cases n with
          | zero => cases h
          | succ n =>
            unfold am_run at h
            rw [hc] at h
            dsimp only at h
            rw [am_ex_st, hs] at h
            exact h
        · intro h
          refine ⟨1, ?_⟩
          unfold am_run
          rw [hc]
          dsimp only
          rw [am_ex_st, hs]
          exact h
  cases h : am_ex call z i pc ls st M X (am_rn call z) some with
  | none =>
    cases h2 : am_rn call z pc ls st M X with
    | none => rfl
    | some r => rw [(key r).mp h2] at h; cases h
  | some r => exact (key r).mpr h
end AmR
/-- the locals at a method's entry -/
def am_en0 (z : Nat) (as : List am_V) : am_S := as.map some ++ List.replicate (am_mL z - as.length) none
/-- a call of a method, d levels deep -/
noncomputable def am_ev : Nat → Nat → List am_V → am_M → am_X → Option am_R
  | 0 => fun _ _ _ _ => none
  | d + 1 => fun z as M X => am_rn (am_ev d) z 0 (am_en0 z as) [] M X
theorem am_ev_eq (d z : Nat) (as : List am_V) (M : am_M) (X : am_X) : am_ev (d + 1) z as M X = am_rn (am_ev d) z 0 (am_en0 z as) [] M X := rfl
