/-! CONTRACTS OUT OF THE ABSTRACT MACHINE: the words, what a call says, growth -/
theorem am_W_warm {args a' : Array Value} {s U : State} (hW : s.WarmedH U.vm) {w : Cond} (hw : w ∈ am_W) (h : w.before args s = true) : w.before a' U = true := by
  have hg := (List.mem_filter.mp hw).2
  unfold am_gw at hg
  rw [Bool.or_eq_true] at hg
  rcases hg with hg | hg
  · exact word_at hW (good_of_word hg) h
  · split at hg
    · exact va_Nw.use rfl (va_Nw.warmC hW (va_Nw.of rfl h))
    · exact va_Nw.use rfl (va_Nw.warmM hW (va_Nw.of rfl h))
    · exact va_AO.use (va_AO.moved hW.alike (va_AO.of h))
    · exact va_Nw.use rfl (va_Nw.warmD hW (va_Nw.of rfl h))
    · cases hg
theorem am_z_facts {z : Nat} (hz : am_zk z) : am_cw z ∈ am_W ∧ ((am_ks z = 0 → Cond.static (am_y z) ∈ am_W) ∧ (am_ks z = 1 → Cond.instanceMethod (am_y z) ∈ am_W ∧ Cond.selects (am_cR (am_own z)) (am_y z) (am_y z) ∈ am_W) ∧ (am_ks z = 2 → Cond.instanceMethod (am_y z) ∈ am_W ∧ (am_y z).name = "<init>") ∧ am_ks z < 3) ∧ (am_y z).cls = am_cR (am_own z) ∧ ((am_y z).cls ≠ "java/lang/invoke/MethodHandle" ∧ (am_y z).cls ≠ "java/lang/invoke/VarHandle") ∧ (parseMethodDescriptor (am_y z).desc).map (fun d => d.parameters.length) = some (am_na z) ∧ plainName (am_y z).cls = true ∧ am_own z < 11 ∧ am_ini z = (am_ks z == 2) ∧ am_mL z ≤ 12 ∧ am_na z + (if am_ks z = 0 then 0 else 1) ≤ am_mL z := by
  obtain ⟨q, h⟩ := am_zw_ok z hz
  unfold am_zw at h
  simp only [Bool.and_eq_true, decide_eq_true_eq, beq_iff_eq] at h
  obtain ⟨⟨⟨⟨⟨⟨⟨⟨⟨⟨⟨hA, hB⟩, c1⟩, c2⟩, c3⟩, c4⟩, c5⟩, c6⟩, c7⟩, c8⟩, c9⟩, -⟩ := h
  refine ⟨am_at_in hA, ⟨fun e => ?_, fun e => ?_, fun e => ?_, ?_⟩, c1, ⟨c2, c3⟩, c4, c5, c6, c7, c8, c9⟩
  · rw [e] at hB; exact am_at_in hB
  · rw [e] at hB; simp only [Bool.and_eq_true] at hB; exact ⟨am_at_in hB.1, am_at_in hB.2⟩
  · rw [e] at hB; simp only [Bool.and_eq_true, decide_eq_true_eq] at hB; exact ⟨am_at_in hB.1, hB.2⟩
  · split at hB <;> first | omega | cases hB
theorem am_ret_facts {z : Nat} (hz : am_zk z) : (am_rt z = 0 → am_ret z = none) ∧ (am_rt z = 1 → am_ret z = some .int) ∧ (am_rt z = 2 → am_ret z = some .boolean) ∧ (am_rt z = 3 → am_ret z = some .char) ∧ (am_rt z = 4 → am_ret z = some .float) ∧ (am_rt z = 5 → am_ret z = some .double) ∧ (am_rt z = 6 → ∃ n, am_ret z = some (.object n)) ∧ (am_rt z = 7 → am_ret z = some .long) := by
  obtain ⟨q, h⟩ := am_zw_ok z hz
  unfold am_zw at h
  simp only [Bool.and_eq_true] at h
  obtain ⟨-, hm⟩ := h
  refine ⟨fun e => ?_, fun e => ?_, fun e => ?_, fun e => ?_, fun e => ?_, fun e => ?_, fun e => ?_, fun e => ?_⟩ <;> rw [e] at hm <;> split at hm <;> simp_all
theorem am_le_refl (X : am_X) : am_le X X := ⟨Nat.le_refl _, Nat.le_refl _⟩
theorem am_le_trans {X Y Z : am_X} (h : am_le X Y) (h2 : am_le Y Z) : am_le X Z := ⟨Nat.le_trans h.1 h2.1, Nat.le_trans h.2 h2.2⟩
def am_nx (q : am_N) : am_X := match q with
  | .inl w => w.2.2.2.2
  | .inr r => r.2.2
/-- instructions at which a method may end -/
def am_isF : Instr → Bool := fun i => match i with
  | .return_ | .ireturn | .areturn | .freturn | .dreturn | .lreturn | .ldc_w _ | .newarray .long | .new _ | .invokevirtual _ | .invokestatic _ | .invokespecial _ => true
  | _ => false
theorem am_bk_i {α : Type} {w : α} {z pc : Nat} {ls : am_S} {st : List am_V} {r : Option am_R} {K : Nat → am_S → List am_V → am_M → am_X → Option α} {F : am_R → Option α} (h : am_bk z pc ls st r K F = some w) : (∃ v M X, r = some (.inl v, M, X) ∧ K (pc + 3) ls (v.toList ++ st) M X = some w) ∨ (∃ E M X, r = some (.inr E, M, X) ∧ am_hd z pc E = none ∧ am_tr z = true ∧ F (.inr E, M, X) = some w) ∨ (∃ E M X t j, r = some (.inr E, M, X) ∧ am_hd z pc E = some (t, j) ∧ K t (am_put ls j none) [] M X = some w) := by
  unfold am_bk at h
  split at h
  · cases h
  · exact Or.inl ⟨_, _, _, rfl, h⟩
  · split at h
    · rename_i hd
      obtain ⟨h1, h2⟩ := am_if_i h
      exact Or.inr (Or.inl ⟨_, _, _, rfl, hd, h1, h2⟩)
    · rename_i t j hd
      exact Or.inr (Or.inr ⟨_, _, _, t, j, rfl, hd, h⟩)
section AmLe
variable {call : Nat → List am_V → am_M → am_X → Option am_R} {z : Nat}
theorem am_bk_le {z pc : Nat} {ls : am_S} {st : List am_V} {r : Option am_R} {X : am_X} (hr : ∀ r0, r = some r0 → am_le X r0.2.2) {q : am_N} (h : am_bk z pc ls st r (fun a b c d e => some (.inl (a, b, c, d, e))) (fun r => some (.inr r)) = some q) : am_le X (am_nx q) := by
  rcases am_bk_i h with ⟨v, M, X', e, h⟩ | ⟨E, M, X', e, -, -, h⟩ | ⟨E, M, X', t, j, e, -, h⟩ <;> cases h <;> exact hr _ e
theorem am_inv_le {y kd pc : Nat} {ls : am_S} {st : List am_V} {M : am_M} {X : am_X} (hc : ∀ as M X r, call y as M X = some r → am_le X r.2.2) {q : am_N} (h : am_inv call z kd y pc ls st M X (fun a b c d e => some (.inl (a, b, c, d, e))) (fun r => some (.inr r)) = some q) : am_le X (am_nx q) := by
  unfold am_inv at h
  split at h
  · obtain ⟨_, _, _, _, _, h⟩ := am_popN_i h
    obtain ⟨_, _, _, h⟩ := am_popP_i h
    obtain ⟨_, h⟩ := am_sm_i h
    obtain ⟨_, _, h⟩ := am_chk_i h
    exact am_bk_le (fun r0 e => hc _ _ _ _ e) h
  · obtain ⟨_, _, _, _, _, h⟩ := am_popN_i h
    obtain ⟨_, h⟩ := am_sm_i h
    exact am_bk_le (fun r0 e => hc _ _ _ _ e) h
  · obtain ⟨_, _, _, h⟩ := am_popP_i h
    obtain ⟨_, h⟩ := am_sm_i h
    cases h; exact am_le_refl _
  · obtain ⟨_, _, _, h⟩ := am_popI_i h
    obtain ⟨_, _, _, h⟩ := am_popI_i h
    obtain ⟨_, h⟩ := am_sm_i h
    cases h; exact am_le_refl _
  · obtain ⟨_, _, _, h⟩ := am_popD_i h
    obtain ⟨_, h⟩ := am_sm_i h
    obtain ⟨_, h⟩ := am_if_i h
    cases h; exact am_le_refl _
  · obtain ⟨_, _, _, h⟩ := am_popF_i h
    obtain ⟨_, h⟩ := am_sm_i h
    obtain ⟨_, h⟩ := am_if_i h
    cases h; exact am_le_refl _
  · obtain ⟨_, _, _, h⟩ := am_popP_i h
    obtain ⟨_, h⟩ := am_sm_i h
    obtain ⟨_, h⟩ := am_if_i h
    rcases am_o2_i h with ⟨_, _, h⟩ | ⟨_, h⟩
    · cases h; exact am_le_refl _
    · cases h
  · obtain ⟨_, _, _, h⟩ := am_popI_i h
    obtain ⟨_, _, _, h⟩ := am_popP_i h
    obtain ⟨_, h⟩ := am_sm_i h
    obtain ⟨_, h⟩ := am_if_i h
    rcases am_o2_i h with ⟨_, _, h⟩ | ⟨_, h⟩
    · obtain ⟨_, h⟩ := am_if_i h
      cases h; exact am_le_refl _
    · cases h
  · obtain ⟨_, _, _, h⟩ := am_popI_i h
    obtain ⟨_, _, _, h⟩ := am_popI_i h
    obtain ⟨_, _, _, h⟩ := am_popP_i h
    obtain ⟨_, _, _, h⟩ := am_popI_i h
    obtain ⟨_, _, _, h⟩ := am_popP_i h
    obtain ⟨_, h⟩ := am_sm_i h
    obtain ⟨_, h⟩ := am_if_i h
    cases h; exact am_le_refl _
  · cases h
theorem am_bs_le {pc : Nat} {ls : am_S} {st : List am_V} {r : Option am_R} {n : Nat × Nat} {X Y : am_X} (hY : am_le X Y) (hr : ∀ r0, r = some r0 → am_le Y r0.2.2) {q : am_N} (h : am_bs pc ls st r n (fun a b c d e => some (.inl (a, b, c, d, e))) = some q) : am_le X (am_nx q) ∧ ∃ w, q = .inl w := by
  unfold am_bs at h
  split at h
  · cases h
    have h1 := am_le_trans hY (hr _ rfl)
    exact ⟨⟨Nat.le_trans h1.1 (Nat.le_add_right _ _), Nat.le_trans h1.2 (Nat.le_add_right _ _)⟩, _, rfl⟩
  · cases h
set_option maxHeartbeats 4000000 in
theorem am_st_nx (hc : ∀ y as M X r, call y as M X = some r → am_le X r.2.2) {i : Instr} {pc : Nat} {ls : am_S} {st : List am_V} {M : am_M} {X : am_X} {q : am_N} (h : am_st call z i pc ls st M X = some q) : am_le X (am_nx q) ∧ (am_isF i = false → ∃ w, q = .inl w) := by
  cases i
  case iload j =>
    simp only [am_st, am_ex] at h
    obtain ⟨_, _, h⟩ := am_get_i h
    obtain ⟨_, _, h⟩ := am_asI_i h
    cases h; exact ⟨am_le_refl _, fun _ => ⟨_, rfl⟩⟩
  case iload_n j =>
    simp only [am_st, am_ex] at h
    obtain ⟨_, _, h⟩ := am_get_i h
    obtain ⟨_, _, h⟩ := am_asI_i h
    cases h; exact ⟨am_le_refl _, fun _ => ⟨_, rfl⟩⟩
  case aload j =>
    simp only [am_st, am_ex] at h
    obtain ⟨_, _, h⟩ := am_get_i h
    obtain ⟨_, _, h⟩ := am_asP_i h
    cases h; exact ⟨am_le_refl _, fun _ => ⟨_, rfl⟩⟩
  case aload_n j =>
    simp only [am_st, am_ex] at h
    obtain ⟨_, _, h⟩ := am_get_i h
    obtain ⟨_, _, h⟩ := am_asP_i h
    cases h; exact ⟨am_le_refl _, fun _ => ⟨_, rfl⟩⟩
  case fload j =>
    simp only [am_st, am_ex] at h
    obtain ⟨_, _, h⟩ := am_get_i h
    obtain ⟨_, _, h⟩ := am_asF_i h
    cases h; exact ⟨am_le_refl _, fun _ => ⟨_, rfl⟩⟩
  case dload j =>
    simp only [am_st, am_ex] at h
    obtain ⟨_, _, h⟩ := am_get_i h
    obtain ⟨_, _, h⟩ := am_asD_i h
    cases h; exact ⟨am_le_refl _, fun _ => ⟨_, rfl⟩⟩
  case istore j =>
    simp only [am_st, am_ex] at h
    obtain ⟨_, _, _, h⟩ := am_popI_i h
    obtain ⟨_, h⟩ := am_if_i h
    cases h; exact ⟨am_le_refl _, fun _ => ⟨_, rfl⟩⟩
  case istore_n j =>
    simp only [am_st, am_ex] at h
    obtain ⟨_, _, _, h⟩ := am_popI_i h
    obtain ⟨_, h⟩ := am_if_i h
    cases h; exact ⟨am_le_refl _, fun _ => ⟨_, rfl⟩⟩
  case astore j =>
    simp only [am_st, am_ex] at h
    obtain ⟨_, _, _, h⟩ := am_popP_i h
    obtain ⟨_, h⟩ := am_if_i h
    cases h; exact ⟨am_le_refl _, fun _ => ⟨_, rfl⟩⟩
  case astore_n j =>
    simp only [am_st, am_ex] at h
    obtain ⟨_, _, _, h⟩ := am_popP_i h
    obtain ⟨_, h⟩ := am_if_i h
    cases h; exact ⟨am_le_refl _, fun _ => ⟨_, rfl⟩⟩
  case fstore j =>
    simp only [am_st, am_ex] at h
    obtain ⟨_, _, _, h⟩ := am_popF_i h
    obtain ⟨_, h⟩ := am_if_i h
    cases h; exact ⟨am_le_refl _, fun _ => ⟨_, rfl⟩⟩
  case dstore j =>
    simp only [am_st, am_ex] at h
    obtain ⟨_, _, _, h⟩ := am_popD_i h
    obtain ⟨_, h⟩ := am_if_i h
    cases h; exact ⟨am_le_refl _, fun _ => ⟨_, rfl⟩⟩
  case iinc j k =>
    simp only [am_st, am_ex] at h
    obtain ⟨_, _, h⟩ := am_get_i h
    obtain ⟨_, _, h⟩ := am_asI_i h
    cases h; exact ⟨am_le_refl _, fun _ => ⟨_, rfl⟩⟩
  case iconst j =>
    simp only [am_st, am_ex] at h
    cases h; exact ⟨am_le_refl _, fun _ => ⟨_, rfl⟩⟩
  case bipush j =>
    simp only [am_st, am_ex] at h
    cases h; exact ⟨am_le_refl _, fun _ => ⟨_, rfl⟩⟩
  case sipush j =>
    simp only [am_st, am_ex] at h
    cases h; exact ⟨am_le_refl _, fun _ => ⟨_, rfl⟩⟩
  case lconst j =>
    simp only [am_st, am_ex] at h
    cases h; exact ⟨am_le_refl _, fun _ => ⟨_, rfl⟩⟩
  case ldc j =>
    simp only [am_st, am_ex] at h
    rcases am_o2_i h with ⟨_, _, h⟩ | ⟨_, h⟩
    · cases h; exact ⟨am_le_refl _, fun _ => ⟨_, rfl⟩⟩
    · rcases am_o2_i h with ⟨_, _, h⟩ | ⟨_, h⟩
      · cases h; exact ⟨am_le_refl _, fun _ => ⟨_, rfl⟩⟩
      · cases h
  case ldc2_w j =>
    simp only [am_st, am_ex] at h
    rcases am_o2_i h with ⟨_, _, h⟩ | ⟨_, h⟩
    · cases h; exact ⟨am_le_refl _, fun _ => ⟨_, rfl⟩⟩
    · rcases am_o2_i h with ⟨_, _, h⟩ | ⟨_, h⟩
      · cases h; exact ⟨am_le_refl _, fun _ => ⟨_, rfl⟩⟩
      · cases h
  case ldc_w j =>
    simp only [am_st, am_ex] at h
    rcases am_o2_i h with ⟨_, _, h⟩ | ⟨_, h⟩
    · cases h; exact ⟨am_le_refl _, fun _ => ⟨_, rfl⟩⟩
    · rcases am_o2_i h with ⟨_, _, h⟩ | ⟨_, h⟩
      · unfold am_sc at h
        split at h
        · split at h
          · obtain ⟨_, h⟩ := am_if_i h
            obtain ⟨_, _, _, _, _, h⟩ := am_popN_i h
            obtain ⟨_, h⟩ := am_sm_i h
            obtain ⟨_, h⟩ := am_if_i h
            obtain ⟨h1, h2⟩ := am_bs_le (X := X) (Y := am_hx X _) ⟨Nat.le_refl _, Nat.le_refl _⟩ (fun r0 e => hc _ _ _ _ _ e) h
            exact ⟨h1, fun _ => h2⟩
          · cases h
        · cases h
      · cases h
  case lload j =>
    simp only [am_st, am_ex] at h
    obtain ⟨_, _, h⟩ := am_get_i h
    obtain ⟨_, _, h⟩ := am_asJ_i h
    cases h; exact ⟨am_le_refl _, fun _ => ⟨_, rfl⟩⟩
  case lload_n j =>
    simp only [am_st, am_ex] at h
    obtain ⟨_, _, h⟩ := am_get_i h
    obtain ⟨_, _, h⟩ := am_asJ_i h
    cases h; exact ⟨am_le_refl _, fun _ => ⟨_, rfl⟩⟩
  case lstore j =>
    simp only [am_st, am_ex] at h
    obtain ⟨_, _, _, h⟩ := am_popJ_i h
    obtain ⟨_, h⟩ := am_if_i h
    cases h; exact ⟨am_le_refl _, fun _ => ⟨_, rfl⟩⟩
  case lstore_n j =>
    simp only [am_st, am_ex] at h
    obtain ⟨_, _, _, h⟩ := am_popJ_i h
    obtain ⟨_, h⟩ := am_if_i h
    cases h; exact ⟨am_le_refl _, fun _ => ⟨_, rfl⟩⟩
  case ladd =>
    simp only [am_st, am_ex] at h
    obtain ⟨_, _, _, h⟩ := am_popJ_i h
    obtain ⟨_, _, _, h⟩ := am_popJ_i h
    cases h; exact ⟨am_le_refl _, fun _ => ⟨_, rfl⟩⟩
  case lmul =>
    simp only [am_st, am_ex] at h
    obtain ⟨_, _, _, h⟩ := am_popJ_i h
    obtain ⟨_, _, _, h⟩ := am_popJ_i h
    cases h; exact ⟨am_le_refl _, fun _ => ⟨_, rfl⟩⟩
  case ixor =>
    simp only [am_st, am_ex] at h
    obtain ⟨_, _, _, h⟩ := am_popI_i h
    obtain ⟨_, _, _, h⟩ := am_popI_i h
    cases h; exact ⟨am_le_refl _, fun _ => ⟨_, rfl⟩⟩
  case iadd =>
    simp only [am_st, am_ex] at h
    obtain ⟨_, _, _, h⟩ := am_popI_i h
    obtain ⟨_, _, _, h⟩ := am_popI_i h
    cases h; exact ⟨am_le_refl _, fun _ => ⟨_, rfl⟩⟩
  case isub =>
    simp only [am_st, am_ex] at h
    obtain ⟨_, _, _, h⟩ := am_popI_i h
    obtain ⟨_, _, _, h⟩ := am_popI_i h
    cases h; exact ⟨am_le_refl _, fun _ => ⟨_, rfl⟩⟩
  case imul =>
    simp only [am_st, am_ex] at h
    obtain ⟨_, _, _, h⟩ := am_popI_i h
    obtain ⟨_, _, _, h⟩ := am_popI_i h
    cases h; exact ⟨am_le_refl _, fun _ => ⟨_, rfl⟩⟩
  case iand =>
    simp only [am_st, am_ex] at h
    obtain ⟨_, _, _, h⟩ := am_popI_i h
    obtain ⟨_, _, _, h⟩ := am_popI_i h
    cases h; exact ⟨am_le_refl _, fun _ => ⟨_, rfl⟩⟩
  case ior =>
    simp only [am_st, am_ex] at h
    obtain ⟨_, _, _, h⟩ := am_popI_i h
    obtain ⟨_, _, _, h⟩ := am_popI_i h
    cases h; exact ⟨am_le_refl _, fun _ => ⟨_, rfl⟩⟩
  case ishl =>
    simp only [am_st, am_ex] at h
    obtain ⟨_, _, _, h⟩ := am_popI_i h
    obtain ⟨_, _, _, h⟩ := am_popI_i h
    cases h; exact ⟨am_le_refl _, fun _ => ⟨_, rfl⟩⟩
  case ishr =>
    simp only [am_st, am_ex] at h
    obtain ⟨_, _, _, h⟩ := am_popI_i h
    obtain ⟨_, _, _, h⟩ := am_popI_i h
    cases h; exact ⟨am_le_refl _, fun _ => ⟨_, rfl⟩⟩
  case idiv =>
    simp only [am_st, am_ex] at h
    obtain ⟨_, _, _, h⟩ := am_popI_i h
    obtain ⟨_, _, _, h⟩ := am_popI_i h
    obtain ⟨_, h⟩ := am_ifn_i h
    cases h; exact ⟨am_le_refl _, fun _ => ⟨_, rfl⟩⟩
  case irem =>
    simp only [am_st, am_ex] at h
    obtain ⟨_, _, _, h⟩ := am_popI_i h
    obtain ⟨_, _, _, h⟩ := am_popI_i h
    obtain ⟨_, h⟩ := am_ifn_i h
    cases h; exact ⟨am_le_refl _, fun _ => ⟨_, rfl⟩⟩
  case i2l =>
    simp only [am_st, am_ex] at h
    obtain ⟨_, _, _, h⟩ := am_popI_i h
    cases h; exact ⟨am_le_refl _, fun _ => ⟨_, rfl⟩⟩
  case i2c =>
    simp only [am_st, am_ex] at h
    obtain ⟨_, _, _, h⟩ := am_popI_i h
    cases h; exact ⟨am_le_refl _, fun _ => ⟨_, rfl⟩⟩
  case i2f =>
    simp only [am_st, am_ex] at h
    obtain ⟨_, _, _, h⟩ := am_popI_i h
    cases h; exact ⟨am_le_refl _, fun _ => ⟨_, rfl⟩⟩
  case i2d =>
    simp only [am_st, am_ex] at h
    obtain ⟨_, _, _, h⟩ := am_popI_i h
    cases h; exact ⟨am_le_refl _, fun _ => ⟨_, rfl⟩⟩
  case f2d =>
    simp only [am_st, am_ex] at h
    obtain ⟨_, _, _, h⟩ := am_popF_i h
    obtain ⟨_, h⟩ := am_if_i h
    cases h; exact ⟨am_le_refl _, fun _ => ⟨_, rfl⟩⟩
  case fdiv =>
    simp only [am_st, am_ex] at h
    obtain ⟨_, _, _, h⟩ := am_popF_i h
    obtain ⟨_, _, _, h⟩ := am_popF_i h
    obtain ⟨_, h⟩ := am_if_i h
    cases h; exact ⟨am_le_refl _, fun _ => ⟨_, rfl⟩⟩
  case ddiv =>
    simp only [am_st, am_ex] at h
    obtain ⟨_, _, _, h⟩ := am_popD_i h
    obtain ⟨_, _, _, h⟩ := am_popD_i h
    obtain ⟨_, h⟩ := am_if_i h
    cases h; exact ⟨am_le_refl _, fun _ => ⟨_, rfl⟩⟩
  case lcmp =>
    simp only [am_st, am_ex] at h
    obtain ⟨_, _, _, h⟩ := am_popJ_i h
    obtain ⟨_, _, _, h⟩ := am_popJ_i h
    cases h; exact ⟨am_le_refl _, fun _ => ⟨_, rfl⟩⟩
  case fcmp j =>
    simp only [am_st, am_ex] at h
    obtain ⟨_, _, _, h⟩ := am_popF_i h
    obtain ⟨_, _, _, h⟩ := am_popF_i h
    cases h; exact ⟨am_le_refl _, fun _ => ⟨_, rfl⟩⟩
  case dcmp j =>
    simp only [am_st, am_ex] at h
    obtain ⟨_, _, _, h⟩ := am_popD_i h
    obtain ⟨_, _, _, h⟩ := am_popD_i h
    cases h; exact ⟨am_le_refl _, fun _ => ⟨_, rfl⟩⟩
  case dup =>
    simp only [am_st, am_ex] at h
    obtain ⟨_, _, _, _, h⟩ := am_pop1_i h
    cases h; exact ⟨am_le_refl _, fun _ => ⟨_, rfl⟩⟩
  case pop =>
    simp only [am_st, am_ex] at h
    obtain ⟨_, _, _, _, h⟩ := am_pop1_i h
    cases h; exact ⟨am_le_refl _, fun _ => ⟨_, rfl⟩⟩
  case dup2 =>
    simp only [am_st, am_ex] at h
    obtain ⟨_, _, _, _, h⟩ := am_pop1_i h
    obtain ⟨_, _, _, _, h⟩ := am_pop1_i h
    cases h; exact ⟨am_le_refl _, fun _ => ⟨_, rfl⟩⟩
  case dup_x1 =>
    simp only [am_st, am_ex] at h
    obtain ⟨_, _, _, _, h⟩ := am_pop1_i h
    obtain ⟨_, _, _, _, h⟩ := am_pop1_i h
    cases h; exact ⟨am_le_refl _, fun _ => ⟨_, rfl⟩⟩
  case dup_x2 =>
    simp only [am_st, am_ex] at h
    obtain ⟨_, _, _, _, h⟩ := am_pop1_i h
    obtain ⟨_, _, _, _, h⟩ := am_pop1_i h
    obtain ⟨_, _, _, _, h⟩ := am_pop1_i h
    cases h; exact ⟨am_le_refl _, fun _ => ⟨_, rfl⟩⟩
  case goto j =>
    simp only [am_st, am_ex] at h
    obtain ⟨_, _, h⟩ := am_j_i h
    cases h; exact ⟨am_le_refl _, fun _ => ⟨_, rfl⟩⟩
  case ifCond a b =>
    cases a <;> simp only [am_st, am_ex] at h
    all_goals (obtain ⟨_, _, _, h⟩ := am_popI_i h)
    all_goals (obtain ⟨_, _, h⟩ := am_j_i h)
    all_goals (split at h)
    all_goals (cases h; exact ⟨am_le_refl _, fun _ => ⟨_, rfl⟩⟩)
  case if_icmp a b =>
    cases a <;> simp only [am_st, am_ex] at h
    all_goals (obtain ⟨_, _, _, h⟩ := am_popI_i h)
    all_goals (obtain ⟨_, _, _, h⟩ := am_popI_i h)
    all_goals (obtain ⟨_, _, h⟩ := am_j_i h)
    all_goals (split at h)
    all_goals (cases h; exact ⟨am_le_refl _, fun _ => ⟨_, rfl⟩⟩)
  case tableswitch a b d f =>
    simp only [am_st, am_ex] at h
    obtain ⟨_, _, _, h⟩ := am_popI_i h
    split at h
    · obtain ⟨_, _, h⟩ := am_j_i h
      cases h; exact ⟨am_le_refl _, fun _ => ⟨_, rfl⟩⟩
    · split at h
      · obtain ⟨_, _, h⟩ := am_j_i h
        cases h; exact ⟨am_le_refl _, fun _ => ⟨_, rfl⟩⟩
      · cases h
  case lookupswitch a b =>
    simp only [am_st, am_ex] at h
    obtain ⟨_, _, _, h⟩ := am_popI_i h
    obtain ⟨_, h⟩ := am_if_i h
    obtain ⟨_, _, h⟩ := am_j_i h
    cases h; exact ⟨am_le_refl _, fun _ => ⟨_, rfl⟩⟩
  case getfield j =>
    simp only [am_st, am_ex] at h
    split at h
    · cases h
    · obtain ⟨_, _, _, h⟩ := am_popP_i h
      obtain ⟨_, _, h⟩ := am_chk_i h
      split at h
      · cases h; exact ⟨am_le_refl _, fun _ => ⟨_, rfl⟩⟩
      · cases h; exact ⟨am_le_refl _, fun _ => ⟨_, rfl⟩⟩
  case putfield j =>
    simp only [am_st, am_ex] at h
    split at h
    · cases h
    · obtain ⟨_, h⟩ := am_ifn_i h
      split at h
      · obtain ⟨_, _, _, h⟩ := am_popP_i h
        obtain ⟨_, _, _, h⟩ := am_popP_i h
        obtain ⟨_, _, h⟩ := am_chk_i h
        obtain ⟨_, h⟩ := am_if_i h
        cases h; exact ⟨am_le_refl _, fun _ => ⟨_, rfl⟩⟩
      · obtain ⟨_, _, _, h⟩ := am_popI_i h
        obtain ⟨_, _, _, h⟩ := am_popP_i h
        obtain ⟨_, _, h⟩ := am_chk_i h
        obtain ⟨_, h⟩ := am_if_i h
        cases h; exact ⟨am_le_refl _, fun _ => ⟨_, rfl⟩⟩
  case iaload =>
    simp only [am_st, am_ex] at h
    obtain ⟨_, _, _, h⟩ := am_popI_i h
    obtain ⟨_, _, _, h⟩ := am_popP_i h
    split at h
    · obtain ⟨_, h⟩ := am_if_i h
      cases h; exact ⟨am_le_refl _, fun _ => ⟨_, rfl⟩⟩
    · obtain ⟨_, _, _, h⟩ := am_arr_i h
      cases h; exact ⟨am_le_refl _, fun _ => ⟨_, rfl⟩⟩
  case iastore =>
    simp only [am_st, am_ex] at h
    obtain ⟨_, _, _, h⟩ := am_popI_i h
    obtain ⟨_, _, _, h⟩ := am_popI_i h
    obtain ⟨_, _, _, h⟩ := am_popP_i h
    obtain ⟨_, _, _, h⟩ := am_arr_i h
    cases h; exact ⟨am_le_refl _, fun _ => ⟨_, rfl⟩⟩
  case caload =>
    simp only [am_st, am_ex] at h
    obtain ⟨_, _, _, h⟩ := am_popI_i h
    obtain ⟨_, _, _, h⟩ := am_popP_i h
    obtain ⟨_, _, _, h⟩ := am_arr_i h
    cases h; exact ⟨am_le_refl _, fun _ => ⟨_, rfl⟩⟩
  case castore =>
    simp only [am_st, am_ex] at h
    obtain ⟨_, _, _, h⟩ := am_popI_i h
    obtain ⟨_, _, _, h⟩ := am_popI_i h
    obtain ⟨_, _, _, h⟩ := am_popP_i h
    obtain ⟨_, _, _, h⟩ := am_arr_i h
    cases h; exact ⟨am_le_refl _, fun _ => ⟨_, rfl⟩⟩
  case aaload =>
    simp only [am_st, am_ex] at h
    obtain ⟨_, _, _, h⟩ := am_popI_i h
    obtain ⟨_, _, _, h⟩ := am_popP_i h
    obtain ⟨_, _, _, h⟩ := am_arr_i h
    cases h; exact ⟨am_le_refl _, fun _ => ⟨_, rfl⟩⟩
  case aastore =>
    simp only [am_st, am_ex] at h
    obtain ⟨_, _, _, h⟩ := am_popP_i h
    obtain ⟨_, _, _, h⟩ := am_popI_i h
    obtain ⟨_, _, _, h⟩ := am_popP_i h
    obtain ⟨_, _, _, h⟩ := am_arr_i h
    obtain ⟨_, _, h⟩ := am_chk_i h
    cases h; exact ⟨am_le_refl _, fun _ => ⟨_, rfl⟩⟩
  case laload =>
    simp only [am_st, am_ex] at h
    obtain ⟨_, _, _, h⟩ := am_popI_i h
    obtain ⟨_, _, _, h⟩ := am_popP_i h
    obtain ⟨_, h⟩ := am_if_i h
    rcases am_o2_i h with ⟨_, _, h⟩ | ⟨_, h⟩
    · cases h; exact ⟨am_le_refl _, fun _ => ⟨_, rfl⟩⟩
    · cases h
  case lastore =>
    simp only [am_st, am_ex] at h
    obtain ⟨_, _, _, h⟩ := am_popJ_i h
    obtain ⟨_, _, _, h⟩ := am_popI_i h
    obtain ⟨_, _, _, h⟩ := am_popP_i h
    obtain ⟨_, h⟩ := am_if_i h
    rcases am_o2_i h with ⟨_, _, h⟩ | ⟨_, h⟩
    · cases h; exact ⟨am_le_refl _, fun _ => ⟨_, rfl⟩⟩
    · cases h
  case arraylength =>
    simp only [am_st, am_ex] at h
    obtain ⟨_, _, _, h⟩ := am_popP_i h
    obtain ⟨_, h⟩ := am_if_i h
    cases h; exact ⟨am_le_refl _, fun _ => ⟨_, rfl⟩⟩
  case invokevirtual j =>
    simp only [am_st, am_ex] at h
    split at h
    · exact ⟨am_inv_le (fun _ _ _ _ e => hc _ _ _ _ _ e) h, fun e => by cases e⟩
    · exact ⟨am_inv_le (fun _ _ _ _ e => hc _ _ _ _ _ e) h, fun e => by cases e⟩
    · exact ⟨am_inv_le (fun _ _ _ _ e => hc _ _ _ _ _ e) h, fun e => by cases e⟩
    · cases h
  case invokestatic j =>
    simp only [am_st, am_ex] at h
    split at h
    · exact ⟨am_inv_le (fun _ _ _ _ e => hc _ _ _ _ _ e) h, fun e => by cases e⟩
    · exact ⟨am_inv_le (fun _ _ _ _ e => hc _ _ _ _ _ e) h, fun e => by cases e⟩
    · exact ⟨am_inv_le (fun _ _ _ _ e => hc _ _ _ _ _ e) h, fun e => by cases e⟩
    · exact ⟨am_inv_le (fun _ _ _ _ e => hc _ _ _ _ _ e) h, fun e => by cases e⟩
    · exact ⟨am_inv_le (fun _ _ _ _ e => hc _ _ _ _ _ e) h, fun e => by cases e⟩
    · exact ⟨am_inv_le (fun _ _ _ _ e => hc _ _ _ _ _ e) h, fun e => by cases e⟩
    · cases h
  case invokespecial j =>
    simp only [am_st, am_ex] at h
    split at h
    · exact ⟨am_inv_le (fun _ _ _ _ e => hc _ _ _ _ _ e) h, fun e => by cases e⟩
    · exact ⟨am_inv_le (fun _ _ _ _ e => hc _ _ _ _ _ e) h, fun e => by cases e⟩
    · exact ⟨am_inv_le (fun _ _ _ _ e => hc _ _ _ _ _ e) h, fun e => by cases e⟩
    · cases h
  case new j =>
    simp only [am_st, am_ex] at h
    split at h
    · split at h
      · cases h; exact ⟨am_le_refl _, fun e => by cases e⟩
      · obtain ⟨_, _, _, _, _, _, _, h⟩ := am_nu_i h
        cases h; exact ⟨⟨Nat.le_succ _, Nat.le_add_right _ _⟩, fun e => by cases e⟩
    · obtain ⟨_, h⟩ := am_if_i h
      obtain ⟨_, h⟩ := am_sm_i h
      cases h; exact ⟨⟨Nat.le_succ _, Nat.le_add_right _ _⟩, fun e => by cases e⟩
    · unfold am_ca at h
      obtain ⟨_, h⟩ := am_if_i h
      obtain ⟨_, _, h⟩ := am_get_i h
      obtain ⟨_, _, h⟩ := am_asI_i h
      obtain ⟨_, _, _, h⟩ := am_popP_i h
      obtain ⟨_, h⟩ := am_sm_i h
      obtain ⟨_, h⟩ := am_if_i h
      exact ⟨(am_bs_le (X := X) (Y := am_hx X _) ⟨Nat.le_refl _, Nat.le_refl _⟩ (fun r0 e => hc _ _ _ _ _ e) h).1, fun e => by cases e⟩
  case newarray t =>
    cases t
    case int =>
      simp only [am_st, am_ex] at h
      obtain ⟨_, _, _, h⟩ := am_popI_i h
      obtain ⟨_, h⟩ := am_ifn_i h
      obtain ⟨_, _, _, _, _, _, _, h⟩ := am_nu_i h
      cases h; exact ⟨⟨Nat.le_succ _, Nat.le_add_right _ _⟩, fun _ => ⟨_, rfl⟩⟩
    case char =>
      simp only [am_st, am_ex] at h
      obtain ⟨_, _, _, h⟩ := am_popI_i h
      obtain ⟨_, h⟩ := am_ifn_i h
      obtain ⟨_, _, _, _, _, _, _, h⟩ := am_nu_i h
      cases h; exact ⟨⟨Nat.le_succ _, Nat.le_add_right _ _⟩, fun _ => ⟨_, rfl⟩⟩
    case long =>
      simp only [am_st, am_ex] at h
      obtain ⟨_, _, _, h⟩ := am_popI_i h
      obtain ⟨_, h⟩ := am_if_i h
      cases h; exact ⟨⟨Nat.le_succ _, Nat.le_add_right _ _⟩, fun _ => ⟨_, rfl⟩⟩
    all_goals exact nomatch (show (none : Option am_N) = some q from h)
  case anewarray j =>
    simp only [am_st, am_ex] at h
    split at h
    · obtain ⟨_, _, _, h⟩ := am_popI_i h
      obtain ⟨_, h⟩ := am_ifn_i h
      obtain ⟨_, _, _, _, _, _, _, h⟩ := am_nu_i h
      cases h; exact ⟨⟨Nat.le_succ _, Nat.le_add_right _ _⟩, fun _ => ⟨_, rfl⟩⟩
    · cases h
  case return_ =>
    simp only [am_st, am_ex] at h
    split at h
    · cases h; exact ⟨am_le_refl _, fun e => by cases e⟩
    · cases h
  case ireturn =>
    simp only [am_st, am_ex] at h
    split at h
    · cases h; exact ⟨am_le_refl _, fun e => by cases e⟩
    · obtain ⟨_, h⟩ := am_if_i h
      cases h; exact ⟨am_le_refl _, fun e => by cases e⟩
    · obtain ⟨_, h⟩ := am_if_i h
      cases h; exact ⟨am_le_refl _, fun e => by cases e⟩
    · cases h
  case lreturn =>
    simp only [am_st, am_ex] at h
    split at h
    · cases h; exact ⟨am_le_refl _, fun e => by cases e⟩
    · cases h
  case areturn =>
    simp only [am_st, am_ex] at h
    split at h
    · cases h; exact ⟨am_le_refl _, fun e => by cases e⟩
    · cases h
  case freturn =>
    simp only [am_st, am_ex] at h
    split at h
    · cases h; exact ⟨am_le_refl _, fun e => by cases e⟩
    · cases h
  case dreturn =>
    simp only [am_st, am_ex] at h
    split at h
    · cases h; exact ⟨am_le_refl _, fun e => by cases e⟩
    · cases h
  all_goals exact nomatch (show (none : Option am_N) = some q from h)
theorem am_ldcw_nx {ix pc : Nat} {ls : am_S} {st : List am_V} {M : am_M} {X : am_X} {q : am_N} (h : am_st call z (.ldc_w ix) pc ls st M X = some q) : ∃ w, q = .inl w := by
  simp only [am_st, am_ex] at h
  rcases am_o2_i h with ⟨_, _, h⟩ | ⟨_, h⟩
  · cases h; exact ⟨_, rfl⟩
  · rcases am_o2_i h with ⟨_, _, h⟩ | ⟨_, h⟩
    · unfold am_sc at h
      split at h
      · split at h
        · obtain ⟨_, h⟩ := am_if_i h
          obtain ⟨_, _, _, _, _, h⟩ := am_popN_i h
          obtain ⟨_, h⟩ := am_sm_i h
          obtain ⟨_, h⟩ := am_if_i h
          unfold am_bs at h
          split at h
          · cases h; exact ⟨_, rfl⟩
          · cases h
        · cases h
      · cases h
    · cases h
theorem am_run_le (hc : ∀ y as M X r, call y as M X = some r → am_le X r.2.2) : ∀ (n pc : Nat) (ls : am_S) (st : List am_V) (M : am_M) (X : am_X) (r : am_R), am_run call z n pc ls st M X = some r → am_le X r.2.2
  | 0, _, _, _, _, _, _, h => by cases h
  | n + 1, pc, ls, st, M, X, r, h => by
    unfold am_run at h
    cases hcd : am_cd z pc with
    | none => rw [hcd] at h; cases h
    | some i =>
      rw [hcd] at h
      dsimp only at h
      rw [am_ex_st] at h
      cases hs : am_st call z i pc ls st M X with
      | none => rw [hs] at h; cases h
      | some q =>
        rw [hs] at h
        have h1 := (am_st_nx hc hs).1
        cases q with
        | inl c =>
          obtain ⟨a, b, c, d, e⟩ := c
          exact am_le_trans h1 (am_run_le hc n a b c d e r h)
        | inr r' =>
          cases h
          exact h1
end AmLe
theorem am_ev_le : ∀ (d z : Nat) (as : List am_V) (M : am_M) (X : am_X) (r : am_R), am_ev d z as M X = some r → am_le X r.2.2
  | 0, _, _, _, _, _, h => by cases h
  | d + 1, z, as, M, X, r, h => by
    rw [am_ev_eq, am_rn_iff] at h
    obtain ⟨n, h⟩ := h
    exact am_run_le (fun y as M X r => am_ev_le d y as M X r) n _ _ _ _ _ _ h
theorem am_dg0 {z pc : Nat} {i : Instr} (h : am_cd z pc = some i) : ∃ n, decode (am_by z) pc = .ok (i, n) ∧ (am_ln i = 0 ∨ am_ln i = n) := by
  have key : ∀ t : List (Nat × Instr), am_fi t pc = some i → (pc, i) ∈ t := by
    intro t
    induction t with
    | nil => intro h; cases h
    | cons q t ih =>
      intro h
      unfold am_fi at h
      split at h
      · rename_i e
        cases h
        subst e
        exact List.mem_cons_self
      · exact List.mem_cons_of_mem _ (ih h)
  have h1 := List.all_eq_true.mp (am_dk z) _ (key _ h)
  unfold am_dok at h1
  split at h1
  · rename_i j n hd
    simp only [Bool.and_eq_true, Bool.or_eq_true, decide_eq_true_eq, beq_iff_eq] at h1
    obtain ⟨e, h2⟩ := h1
    subst e
    exact ⟨n, hd, h2⟩
  · cases h1
theorem am_dg {z pc k : Nat} {i : Instr} (h : am_cd z pc = some i) (hk : am_ln i = k) (h0 : k ≠ 0) : decode (am_by z) pc = .ok (i, k) := by
  obtain ⟨n, h1, h2⟩ := am_dg0 h
  rcases h2 with h2 | h2
  · exact absurd (hk.symm.trans h2) h0
  · rw [h1, ← h2, hk]
/-! what a call says -/
def am_Nc (G : am_Γ) (U : State) : Prop := (∀ q ∈ am_ncs, va_Nc (am_en q.1) (am_en q.2) U) ∧ am_Sg G U U.heap ∧ am_Js G U U.heap ∧ am_Sl U
def am_Pc (G : am_Γ) (M : am_M) (X : am_X) (as : List am_V) : Array Value → State → Prop := fun a U => a = (as.map (am_tv G)).toArray ∧ am_HR G M X U.heap ∧ va_K G.2.2.1 am_cl (am_tys G) U ∧ vx_Zq Bundle.tN "UNASSIGNED_STACK" Bundle.steD (am_A G) U U.heap ∧ vx_Zq Bundle.tN "SUPPRESSED_SENTINEL" Bundle.listD (am_A G) U U.heap ∧ va_X G.2.1 G.2.2.2.2.1 G.2.2.2.2.2.1 U U.heap ∧ (G.2.1 < am_b0 G ∧ am_b0 G ≤ U.heap.size ∧ G.2.2.2.2.1 ≤ 2048 ∧ am_b0 G ≤ G.1) ∧ am_Nc G U
def am_Qr (G : am_Γ) (r : am_R) : Array Value → State → Outcome → State → Prop := fun _ st o t => ∃ v, r.1 = .inl v ∧ o = .returned (v.map (am_tv G)) ∧ am_HR G r.2.1 r.2.2 t.heap ∧ va_F (am_A G) st t
def am_XCr (G : am_Γ) (r : am_R) : String → State → State → Prop := fun E' st t => ∃ E, r.1 = .inr E ∧ E' = am_en E ∧ am_HR G r.2.1 r.2.2 t.heap ∧ va_F (am_A G) st t
abbrev am_dc (X : am_X) (r : am_R) : Nat := r.2.2.2.2.1 - X.2.2.1
abbrev am_ds (X : am_X) (r : am_R) : Nat := r.2.2.2.2.2.1 - X.2.2.2.1
def am_rm (d mc ms : Nat) : Room := { frames := d + 26, cells := mc, slots := ms, locals := 31 * d + 720 }
def am_ws (z : Nat) : List Cond := am_cw z :: am_W
def am_Con (l : Launch) (d z : Nat) (as : List am_V) (M : am_M) (X : am_X) (r : am_R) : Prop := ∀ G : am_Γ, vx_Met l (am_y z) (am_ws z) (am_rm d (am_dc X r) (am_ds X r)) (am_Pc G M X as) (am_Qr G r) (am_XCr G r) (am_dc X r) (am_ds X r) (am_A G)
theorem am_blind {G : am_Γ} {M : am_M} {X : am_X} {as : List am_V} : FrameBlind (am_Pc G M X as) := by
  intro a U g mk h
  obtain ⟨h1, h2, h3, h4, h5, h6, h7, h8⟩ := h
  exact ⟨h1, h2, va_K.moved (u := U) (U := U.calling g mk a) (Vm.Alike.refl U.vm) h3, vx_Zq.moved (u := U) (U := U.calling g mk a) (Vm.Alike.refl U.vm) h4, vx_Zq.moved (u := U) (U := U.calling g mk a) (Vm.Alike.refl U.vm) h5, va_X.moved (u := U) (U := U.calling g mk a) (Vm.Alike.refl U.vm) h6, h7, fun q hq => va_Nc.moved (u := U) (U := U.calling g mk a) (Vm.Alike.refl U.vm) (h8.1 q hq), am_Sg.same (u := U) rfl h8.2.1, am_Js.moved (u := U) (U := U.calling g mk a) (Vm.Alike.refl U.vm) h8.2.2.1, am_Sl.same (u := U) rfl h8.2.2.2⟩
theorem am_named {y : Nat} (hy : am_zk y) {args : Array Value} {s : State} (hts : ∀ w ∈ am_W, w.before args s = true) : ∃ (mk : MethodId) (methM : Method), s.methodNamed? (am_y y) = some mk ∧ s.vm.method? mk = some methM ∧ parseMethodDescriptor (am_y y).desc = some methM.sig := by
  have f1 := hts _ (am_z_facts hy).1
  unfold am_cw at f1
  split at f1
  · obtain ⟨mk, hn⟩ := Cond.code_named f1
    obtain ⟨methM, cM, h1, -, -, -, -, -, -, h2⟩ := Cond.code_spec hn f1
    exact ⟨mk, methM, hn, h1, h2⟩
  · obtain ⟨mk, methM, cM, hn, h1, -, -, -, -, -, -, h2⟩ := Cond.codeWith_spec f1
    exact ⟨mk, methM, hn, h1, h2⟩
theorem am_ini_ret : ∀ y, y < 232 → am_ks y = 2 → am_ret y = none := by decide +kernel
theorem am_hj_ok : (List.range 232).all (fun z => (am_hs z).all (fun h => decide (h.2.2.2.2 < am_mL z))) = true := by decide +kernel
theorem am_hj {z : Nat} (hz : z < 232) : ∀ h ∈ am_hs z, h.2.2.2.2 < am_mL z := fun h hh => of_decide_eq_true (List.all_eq_true.mp (List.all_eq_true.mp am_hj_ok z (List.mem_range.mpr hz)) h hh)
theorem am_cat {G : am_Γ} (st : List am_V) (h : st.length ≤ 4) : ((st.map (am_tv G)).map fun v => v.category).sum ≤ 8 := by
  have key : ∀ st : List am_V, ((st.map (am_tv G)).map fun v => v.category).sum ≤ 2 * st.length := by
    intro st
    induction st with
    | nil => simp
    | cons v r ih =>
      simp only [List.map_cons, List.sum_cons, List.length_cons]
      have : (am_tv G v).category ≤ 2 := by cases am_tv G v <;> simp [Value.category]
      omega
  have := key st
  omega
