/-! WHAT THE MACHINE'S HEAP HOLDS OF THE ABSTRACT ONE. G: where our cells begin, where the script lies, the numbers of the classes, of the array classes, the script's length and its ints -/
abbrev am_Γ : Type := Nat × Nat × va_G × (Nat → ClassId) × Nat × (Nat → Int32) × (Nat × Nat × Nat × Nat)
/-- where the row of longs lies, where the String at hand and its bytes lie -/
abbrev am_wa (G : am_Γ) : Nat := G.2.2.2.2.2.2.1
abbrev am_sa (G : am_Γ) : Nat := G.2.2.2.2.2.2.2.1
abbrev am_sb0 (G : am_Γ) : Nat := G.2.2.2.2.2.2.2.2.1
/-- from where on a frame may write -/
abbrev am_b0 (G : am_Γ) : Nat := G.2.2.2.2.2.2.2.2.2
abbrev am_A0 (G : am_Γ) : Nat → Prop := fun q => am_b0 G ≤ q
def am_adr (G : am_Γ) (l : am_L) : Nat := if l.1 = 1 then am_wa G else if l.1 = 50 then am_sa G else G.1 + am_ad l
theorem am_ok_k {l : am_L} (h : am_ok l = true) : l.1 ≠ 1 ∧ l.1 ≠ 50 := by
  obtain ⟨t, n, k⟩ := l
  refine ⟨fun e => ?_, fun e => ?_⟩ <;> (dsimp only at e; subst e; cases h)
theorem am_adr_ok {G : am_Γ} {l : am_L} (h : am_ok l = true) : am_adr G l = G.1 + am_ad l := by
  unfold am_adr
  rw [if_neg (am_ok_k h).1, if_neg (am_ok_k h).2]
def am_rv (G : am_Γ) (o : Option am_L) : Value := match o with
  | none => .null
  | some l => .ref (if l.1 = 0 then G.2.1 else am_adr G l)
def am_tv (G : am_Γ) (v : am_V) : Value := match v with
  | .inl v => v
  | .inr o => am_rv G o
def am_fv (G : am_Γ) (ci : Nat) (M : am_M) (T : am_T) (l : am_L) (j : Nat) : Value := if am_fk ci j = 3 then am_rv G (T l j) else .int (M l j)
def am_cell (G : am_Γ) (M : am_M) (X : am_X) (l : am_L) (H : Heap) : Prop := match (am_kd l).1 with
  | 0 => t_OB (am_adr G l) (G.2.2.1.1 (am_kd l).2.1) (am_cN (am_kd l).2.1) (G.2.2.1.2 (am_kd l).2.1) H (am_fv G (am_kd l).2.1 M X.1 l)
  | 1 => H[am_adr G l]? = some (arrV (G.2.2.2.1 0) (am_kd l).2.1 (fun j => .int (M l j)))
  | 2 => H[am_adr G l]? = some (arrV (G.2.2.2.1 1) (am_kd l).2.1 (fun j => .int (M l j)))
  | 3 => H[am_adr G l]? = some (arrV (G.2.2.2.1 (10 + (am_kd l).2.1)) (am_kd l).2.2 (fun j => am_rv G (X.1 l j)))
  | _ => True
/-- apart from the object's cells -/
def am_fa (G : am_Γ) (q : Nat) : Prop := q < G.1 ∨ G.1 + 701 ≤ q
/-- a String of one byte a letter at a with its bytes at b -/
def am_so (G : am_Γ) (a b : Nat) (t : List Nat) (H : Heap) : Prop := ∃ sC SA : Cell, (H[a]? = some sC ∧ sC.cls = G.2.2.1.1 9 ∧ sC.vm ≠ .unknown ∧ sC.vm.isStatics = false ∧ sC.slots[G.2.2.1.2 9 0]? = some (.ref b) ∧ sC.slots[G.2.2.1.2 9 1]? = some (.int 0)) ∧ (H[b]? = some SA ∧ SA.cls = G.2.2.2.1 3 ∧ SA.vm ≠ .unknown ∧ SA.vm.isStatics = false ∧ SA.slots.size = t.length ∧ ∀ j, j < t.length → SA.slots[j]? = some (.int (nI (t.getD j 0))))
theorem am_so.kept {G : am_Γ} {a b : Nat} {t : List Nat} {H H' : Heap} (h : am_so G a b t H) (h1 : H'[a]? = H[a]?) (h2 : H'[b]? = H[b]?) : am_so G a b t H' := by
  obtain ⟨sC, SA, q1, q2⟩ := h
  exact ⟨sC, SA, ⟨by rw [h1]; exact q1.1, q1.2⟩, by rw [h2]; exact q2.1, q2.2⟩
theorem am_so.lt {G : am_Γ} {a b : Nat} {t : List Nat} {H : Heap} (h : am_so G a b t H) : a < H.size ∧ b < H.size := by
  obtain ⟨sC, SA, q1, q2⟩ := h
  exact ⟨(Array.getElem?_eq_some_iff.mp q1.1).1, (Array.getElem?_eq_some_iff.mp q2.1).1⟩
/-- the String at hand: its letters, its cell and that of its bytes -/
def am_str (G : am_Γ) (t : List Nat) (H : Heap) : Prop := (am_fa G (am_sa G) ∧ am_fa G (am_sb0 G) ∧ am_sa G ≠ am_sb0 G) ∧ am_so G (am_sa G) (am_sb0 G) t H ∧ (∀ c ∈ t, c < 128) ∧ t.length ≤ 60
/-- what lies beside the object's cells -/
def am_rk (T : am_T) : Prop := ∀ (l : am_L) (j : Nat) (v : am_L), T l j = some v → v.1 ≠ 1 ∧ v.1 ≠ 50
def am_HX (G : am_Γ) (X : am_X) (H : Heap) : Prop := am_rk X.1 ∧ (∀ f, X.2.2.2.2.1 = some f → G.1 + 701 ≤ am_wa G ∧ H[am_wa G]? = some (arrV (G.2.2.2.1 2) 13 (fun j => .long (f j)))) ∧ ∀ t, X.2.2.2.2.2 = some t → am_str G t H
theorem am_str.kept {G : am_Γ} {t : List Nat} {H H' : Heap} (h : am_str G t H) (h1 : H'[am_sa G]? = H[am_sa G]?) (h2 : H'[am_sb0 G]? = H[am_sb0 G]?) : am_str G t H' := ⟨h.1, h.2.1.kept h1 h2, h.2.2⟩
theorem am_HX.kept {G : am_Γ} {X X' : am_X} {H H' : Heap} (h : am_HX G X H) (hk : am_rk X'.1) (h1 : X'.2.2.2.2 = X.2.2.2.2) (hq : ∀ q : Nat, am_fa G q → q < H.size → H'[q]? = H[q]?) : am_HX G X' H' := by
  obtain ⟨-, a, b⟩ := h
  have lt : ∀ (q : Nat) (c : Cell), H[q]? = some c → q < H.size := fun q c e => (Array.getElem?_eq_some_iff.mp e).1
  refine ⟨hk, fun f hf => ?_, fun t ht => ?_⟩
  · rw [h1] at hf
    obtain ⟨g1, g2⟩ := a f hf
    exact ⟨g1, by rw [hq _ (Or.inr g1) (lt _ _ g2)]; exact g2⟩
  · rw [h1] at ht
    have g := b t ht
    exact g.kept (hq _ g.1.1 g.2.1.lt.1) (hq _ g.1.2.1 g.2.1.lt.2)
def am_HR (G : am_Γ) (M : am_M) (X : am_X) (H : Heap) : Prop :=
  (∀ l, am_al X.2.1 l = true → l.1 ≠ 0 → am_cell G M X l H) ∧ (M (0, 0, 1) 0 = nI G.2.2.2.2.1 ∧ ∀ j, j < G.2.2.2.2.1 → M (0, 0, 0) j = G.2.2.2.2.2.1 j) ∧
  (match X.2.1 with
  | none => G.1 + 701 ≤ H.size
  | some c => H.size = G.1 + c ∧ ∀ l, am_ok l = true → l.1 ≠ 0 → c ≤ am_ad l → (∀ j, M l j = 0) ∧ ∀ j, X.1 l j = none) ∧ am_HX G X H
theorem am_lo_nb {n r : Nat} (hn : n < 12) (hr : r < 56) : am_lo (am_nb n + r) = am_lr n r := by
  by_cases h3 : n < 3
  · have e : am_nb n = 1 + 56 * n := if_pos h3
    rw [e]
    unfold am_lo
    rw [if_neg (by omega), if_pos (by omega)]
    congr 1 <;> omega
  · have e : am_nb n = 3 + 56 * n := if_neg h3
    rw [e]
    unfold am_lo
    rw [if_neg (by omega), if_neg (by omega), if_neg (by omega), if_neg (by omega), if_pos (by omega), show 3 + (3 + 56 * n + r - 171) / 56 = n by omega, show (3 + 56 * n + r - 171) % 56 = r by omega]
theorem am_lr_a {n c : Nat} (hc : c < 6) : am_lr n c = (13 + c, n, 0) := by unfold am_lr; rw [if_pos hc]
theorem am_lr_20 {n : Nat} : am_lr n 6 = (20, n, 0) := by unfold am_lr; rw [if_neg (by omega), if_pos (by omega)]
theorem am_lr_21 {n k : Nat} (hk : k < 6) : am_lr n (7 + 2 * k) = (21, n, k) := by
  unfold am_lr
  rw [if_neg (by omega), if_neg (by omega), if_pos (by omega), show (7 + 2 * k - 7) % 2 = 0 by omega, show (7 + 2 * k - 7) / 2 = k by omega]
theorem am_lr_22 {n k : Nat} (hk : k < 6) : am_lr n (8 + 2 * k) = (22, n, k) := by
  unfold am_lr
  rw [if_neg (by omega), if_neg (by omega), if_pos (by omega), show (8 + 2 * k - 7) % 2 = 1 by omega, show (8 + 2 * k - 7) / 2 = k by omega]
theorem am_lr_23 {n k : Nat} (hk : k < 5) : am_lr n (19 + k) = (23, n, k) := by
  unfold am_lr
  rw [if_neg (by omega), if_neg (by omega), if_neg (by omega), if_pos (by omega), show 19 + k - 19 = k by omega]
theorem am_lr_24 {n k : Nat} : am_lr n (24 + 2 * k) = (24, n, k) := by
  unfold am_lr
  rw [if_neg (by omega), if_neg (by omega), if_neg (by omega), if_neg (by omega), show (24 + 2 * k - 24) % 2 = 0 by omega, show (24 + 2 * k - 24) / 2 = k by omega]
theorem am_lr_25 {n k : Nat} : am_lr n (25 + 2 * k) = (25, n, k) := by
  unfold am_lr
  rw [if_neg (by omega), if_neg (by omega), if_neg (by omega), if_neg (by omega), show (25 + 2 * k - 24) % 2 = 1 by omega, show (25 + 2 * k - 24) / 2 = k by omega]
theorem am_lo_11 {k : Nat} (hk : k < 20) : am_lo (680 + k) = (11, 0, k) := by
  unfold am_lo
  rw [if_neg (by omega), if_neg (by omega), if_neg (by omega), if_neg (by omega), if_neg (by omega), if_neg (by omega), if_neg (by omega), if_neg (by omega), if_neg (by omega), if_neg (by omega), if_pos (by omega), show 680 + k - 680 = k by omega]
theorem am_lo_ad (l : am_L) (h : am_ok l = true) (h0 : l.1 ≠ 0) : am_lo (am_ad l) = l := by
  obtain ⟨t, n, k⟩ := l
  simp only [am_ok] at h
  split at h
  all_goals first
    | (exact absurd rfl h0)
    | (simp only [Bool.and_eq_true, beq_iff_eq] at h; obtain ⟨h1, h2⟩ := h; subst h1; subst h2; decide)
    | (simp only [Bool.and_eq_true, beq_iff_eq, decide_eq_true_eq] at h; obtain ⟨h1, h2⟩ := h; subst h1; exact am_lo_11 h2)
    | (simp only [Bool.and_eq_true, beq_iff_eq, decide_eq_true_eq] at h; obtain ⟨h1, h2⟩ := h; subst h2; first
        | exact (am_lo_nb (r := 0) h1 (by omega)).trans (am_lr_a (by omega))
        | exact (am_lo_nb (r := 1) h1 (by omega)).trans (am_lr_a (by omega))
        | exact (am_lo_nb (r := 2) h1 (by omega)).trans (am_lr_a (by omega))
        | exact (am_lo_nb (r := 3) h1 (by omega)).trans (am_lr_a (by omega))
        | exact (am_lo_nb (r := 4) h1 (by omega)).trans (am_lr_a (by omega))
        | exact (am_lo_nb (r := 5) h1 (by omega)).trans (am_lr_a (by omega))
        | exact (am_lo_nb (r := 6) h1 (by omega)).trans am_lr_20)
    | (simp only [Bool.and_eq_true, decide_eq_true_eq] at h; obtain ⟨h1, h2⟩ := h; simp only [am_ad, Nat.add_assoc]; rw [am_lo_nb h1 (by omega)]; first | exact am_lr_21 h2 | exact am_lr_22 h2 | exact am_lr_23 h2 | exact am_lr_24 | exact am_lr_25)
    | cases h
theorem am_ad_inj {l l' : am_L} (h : am_ok l = true) (h0 : l.1 ≠ 0) (h' : am_ok l' = true) (h0' : l'.1 ≠ 0) (he : am_ad l = am_ad l') : l = l' := by
  rw [← am_lo_ad l h h0, he, am_lo_ad l' h' h0']
theorem am_al_ok {ph : Option Nat} {l : am_L} (h : am_al ph l = true) : am_ok l = true := by
  unfold am_al at h
  exact (Bool.and_eq_true _ _ ▸ h).1
theorem am_al_lt {c : Nat} {l : am_L} (h : am_al (some c) l = true) (h0 : l.1 ≠ 0) : am_ad l < c := by
  unfold am_al at h
  simp only [Bool.and_eq_true, Bool.or_eq_true, decide_eq_true_eq, beq_iff_eq] at h
  rcases h.2 with h | h
  · exact h
  · exact absurd h h0
theorem am_cell.kept {G : am_Γ} {M M' : am_M} {X X' : am_X} {l : am_L} {H H' : Heap} (h : am_cell G M X l H) (hq : H'[am_adr G l]? = H[am_adr G l]?) (hM : M' l = M l) (hT : X'.1 l = X.1 l) : am_cell G M' X' l H' := by
  unfold am_cell at h ⊢
  split
  · rename_i hk
    simp only [hk] at h
    exact (h.kept hq).to (fun k _ => by unfold am_fv; rw [hM, hT])
  · rename_i hk
    simp only [hk] at h
    rw [hq, hM]; exact h
  · rename_i hk
    simp only [hk] at h
    rw [hq, hM]; exact h
  · rename_i hk
    simp only [hk] at h
    rw [hq, hT]; exact h
  · trivial
theorem am_ad_lt {l : am_L} (hok : am_ok l = true) (h0 : l.1 ≠ 0) : am_ad l < 701 := by
  obtain ⟨t, n, k⟩ := l
  simp only [am_ok] at hok
  split at hok <;> simp only [Bool.and_eq_true, beq_iff_eq, decide_eq_true_eq, Bool.false_eq_true] at hok <;> simp only [am_ad, am_nb] <;> first | omega | (split <;> omega) | (exact absurd rfl h0)
theorem am_HR.upd {G : am_Γ} {M M' : am_M} {X X' : am_X} {l : am_L} {H H' : Heap} (h : am_HR G M X H) (hl : am_al X.2.1 l = true) (h0 : l.1 ≠ 0) (hz : H'.size = H.size) (ho : ∀ q : Nat, q ≠ am_adr G l → H'[q]? = H[q]?)
    (hM : ∀ l', l' ≠ l → M' l' = M l') (hT : ∀ l', l' ≠ l → X'.1 l' = X.1 l') (hph : X'.2.1 = X.2.1) (h45 : X'.2.2.2.2 = X.2.2.2.2) (hk : am_rk X'.1) (hc : am_cell G M' X' l H') : am_HR G M' X' H' := by
  obtain ⟨a1, ⟨a2, a3⟩, a4, a5⟩ := h
  have hadr := am_adr_ok (G := G) (am_al_ok hl)
  have hlt := am_ad_lt (am_al_ok hl) h0
  refine ⟨fun l' hl' h0' => ?_, ⟨?_, fun j hj => ?_⟩, ?_, a5.kept hk h45 (fun q hq _ => ho q (by unfold am_fa at hq; omega))⟩
  · by_cases e : l' = l
    · rw [e]; exact hc
    · rw [hph] at hl'
      refine (a1 l' hl' h0').kept (ho _ (fun q => e ?_)) (hM l' e) (hT l' e)
      rw [hadr, am_adr_ok (am_al_ok hl')] at q
      exact am_ad_inj (am_al_ok hl') h0' (am_al_ok hl) h0 (by omega)
  · rw [hM _ (fun q => h0 (by rw [← q]))]; exact a2
  · rw [hM _ (fun q => h0 (by rw [← q]))]; exact a3 j hj
  · rw [hph]
    cases hx : X.2.1 with
    | none =>
      rw [hx] at a4
      dsimp only at a4 ⊢
      omega
    | some c =>
      rw [hx] at a4 hl
      dsimp only at a4 ⊢
      refine ⟨by omega, fun l' h1 h2 h3 => ?_⟩
      have e : l' ≠ l := fun q => by
        have := am_al_lt hl h0
        rw [q] at h3
        omega
      rw [hM l' e, hT l' e]
      exact a4.2 l' h1 h2 h3
theorem am_HR.new {G : am_Γ} {M : am_M} {X X' : am_X} {l : am_L} {H H' : Heap} {c : Nat} (h : am_HR G M X H) (hp : X.2.1 = some c) (hok : am_ok l = true) (h0 : l.1 ≠ 0) (hc : am_ad l = c) (hz : H'.size = H.size + 1) (ho : ∀ q : Nat, q < H.size → H'[q]? = H[q]?)
    (hX1 : X'.1 = X.1) (hX2 : X'.2.1 = am_nph c) (h45 : X'.2.2.2.2 = X.2.2.2.2) (hcell : am_cell G M X' l H') : am_HR G M X' H' := by
  obtain ⟨a1, a2, a4, a5⟩ := h
  rw [hp] at a4 a1
  dsimp only at a4
  have a5' : am_HX G X' H' := a5.kept (by rw [hX1]; exact a5.1) h45 (fun q _ hq => ho q hq)
  have key : ∀ l' : am_L, am_ok l' = true → l'.1 ≠ 0 → am_ad l' < c + 1 → am_cell G M X' l' H' := by
    intro l' hok' h0' h1
    by_cases e : l' = l
    · rw [e]; exact hcell
    · have hne : am_ad l' ≠ c := fun q => e (am_ad_inj hok' h0' hok h0 (q.trans hc.symm))
      have hal : am_al (some c) l' = true := by
        unfold am_al
        simp only [hok', Bool.true_and, Bool.or_eq_true, decide_eq_true_eq]
        exact Or.inl (by omega)
      exact (a1 l' hal h0').kept (ho _ (by rw [am_adr_ok hok']; omega)) rfl (by rw [hX1])
  by_cases hl : c + 1 = 701
  · have hX3 : X'.2.1 = none := by rw [hX2]; exact if_pos hl
    refine ⟨fun l' hl' h0' => ?_, a2, ?_, a5'⟩
    · have hok' := am_al_ok hl'
      exact key l' hok' h0' (by have := am_ad_lt hok' h0'; omega)
    · rw [hX3]
      dsimp only
      omega
  · have hX3 : X'.2.1 = some (c + 1) := by rw [hX2]; exact if_neg hl
    refine ⟨fun l' hl' h0' => ?_, a2, ?_, a5'⟩
    · rw [hX3] at hl'
      exact key l' (am_al_ok hl') h0' (am_al_lt hl' h0')
    · rw [hX3]
      dsimp only
      refine ⟨by omega, fun l' h1 h2 h3 => ?_⟩
      rw [hX1]
      exact a4.2 l' h1 h2 (by omega)
theorem am_HR.bump {G : am_Γ} {M : am_M} {X X' : am_X} {H H' : Heap} (h : am_HR G M X H) (hp : X.2.1 = none) (hz : H.size ≤ H'.size) (ho : ∀ q : Nat, q < H.size → H'[q]? = H[q]?) (hX1 : X'.1 = X.1) (hX2 : X'.2.1 = none) (h45 : X'.2.2.2.2 = X.2.2.2.2) : am_HR G M X' H' := by
  obtain ⟨a1, a2, a4, a5⟩ := h
  rw [hp] at a4 a1
  dsimp only at a4
  refine ⟨fun l' hl' h0' => ?_, a2, by rw [hX2]; dsimp only; omega, a5.kept (by rw [hX1]; exact a5.1) h45 (fun q _ hq => ho q hq)⟩
  rw [hX2] at hl'
  exact (a1 l' hl' h0').kept (ho _ (by have := am_ad_lt (am_al_ok hl') h0'; rw [am_adr_ok (am_al_ok hl')]; omega)) rfl (by rw [hX1])
/-- the same, with other places for what lies beside -/
abbrev am_gx (G : am_Γ) (x : Nat × Nat × Nat × Nat) : am_Γ := (G.1, G.2.1, G.2.2.1, G.2.2.2.1, G.2.2.2.2.1, G.2.2.2.2.2.1, x)
theorem am_rv_gx {G : am_Γ} {x : Nat × Nat × Nat × Nat} {o : Option am_L} (h : ∀ v, o = some v → v.1 ≠ 1 ∧ v.1 ≠ 50) : am_rv (am_gx G x) o = am_rv G o := by
  cases o with
  | none => rfl
  | some v =>
    obtain ⟨h1, h2⟩ := h v rfl
    show Value.ref (if v.1 = 0 then G.2.1 else am_adr (am_gx G x) v) = Value.ref (if v.1 = 0 then G.2.1 else am_adr G v)
    unfold am_adr
    rw [if_neg h1, if_neg h2, if_neg h1, if_neg h2]
theorem am_cell_gx {G : am_Γ} {x : Nat × Nat × Nat × Nat} {M : am_M} {X : am_X} {l : am_L} {H : Heap} (hok : am_ok l = true) (hk : am_rk X.1) (h : am_cell G M X l H) : am_cell (am_gx G x) M X l H := by
  have ha : am_adr (am_gx G x) l = am_adr G l := by rw [am_adr_ok hok, am_adr_ok hok]
  unfold am_cell at h ⊢
  rw [ha]
  split
  · rename_i e
    simp only [e] at h
    refine h.to (fun k _ => ?_)
    unfold am_fv
    rw [am_rv_gx (G := G) (x := x) (hk l k)]
  · rename_i e
    simp only [e] at h
    exact h
  · rename_i e
    simp only [e] at h
    exact h
  · rename_i e
    simp only [e] at h
    have e2 : (fun j => am_rv (am_gx G x) (X.1 l j)) = fun j => am_rv G (X.1 l j) := funext fun j => am_rv_gx (hk l j)
    rw [e2]
    exact h
  · trivial
theorem am_HR.gx {G : am_Γ} {x : Nat × Nat × Nat × Nat} {M : am_M} {X X' : am_X} {H : Heap} (h : am_HR G M X H) (h1 : X'.1 = X.1) (h2 : X'.2.1 = X.2.1) (hx : am_HX (am_gx G x) X' H) : am_HR (am_gx G x) M X' H := by
  obtain ⟨a1, a2, a4, a5⟩ := h
  refine ⟨fun l hl h0 => ?_, a2, by rw [h1, h2]; exact a4, hx⟩
  rw [h2] at hl
  have := am_cell_gx (x := x) (am_al_ok hl) a5.1 (a1 l hl h0)
  exact this.kept rfl rfl (by rw [h1])
/-- the String constants of the law, by their entries: their cells and their bytes lie below our own -/
def am_six : Nat → Nat := fun k => match k with | 0 => 241 | 1 => 249 | 2 => 251 | 3 => 257 | 4 => 259 | 5 => 261 | 6 => 275 | 7 => 280 | _ => 291
def am_stx : Nat → String := fun k => match k with | 0 => "h" | 1 => ";e" | 2 => "=" | 3 => "q" | 4 => ":7-" | 5 => ";d" | 6 => "z" | 7 => "h1;h0" | _ => "0>5:????????"
def am_Sg (G : am_Γ) (U : State) (H : Heap) : Prop := ∀ k, k < 9 → ∃ a b : Nat, vk_R RL (am_six k) (am_stx k) a U ∧ (a < am_b0 G ∧ b < am_b0 G ∧ a ≠ b) ∧ am_so G a b (am_lit k) H
theorem am_Sg.kept {G : am_Γ} {U : State} {H H' : Heap} (h : am_Sg G U H) (hq : ∀ q : Nat, q < am_b0 G → H'[q]? = H[q]?) : am_Sg G U H' := by
  intro k hk
  obtain ⟨a, b, h1, h2, h4⟩ := h k hk
  exact ⟨a, b, h1, h2, h4.kept (hq a h2.1) (hq b h2.2.1)⟩
theorem am_Sg.warm {G : am_Γ} {s U : State} {H : Heap} (hW : s.WarmedH U.vm) (h : am_Sg G s H) : am_Sg G U H := by
  intro k hk
  obtain ⟨a, b, h1, h2⟩ := h k hk
  exact ⟨a, b, h1.warm hW, h2⟩
theorem am_Sg.same {G : am_Γ} {u U : State} {H : Heap} (hv : U.vm = u.vm) (h : am_Sg G u H) : am_Sg G U H := by
  intro k hk
  obtain ⟨a, b, h1, h2⟩ := h k hk
  exact ⟨a, b, h1.same hv, h2⟩
/-- what the JDK's own statics hold -/
def am_dgt (o : Nat) : Nat → Int32 := fun j => if o = 0 then nI (48 + j % 10) else nI (48 + j / 10)
def am_Js (G : am_Γ) (U : State) (H : Heap) : Prop := va_Z "java/lang/String" "COMPACT_STRINGS" "Z" (.int 1) (am_A0 G) U H ∧ (∀ o, o < 2 → ∃ q : Nat, va_Z "java/lang/Integer" (if o = 0 then "DigitOnes" else "DigitTens") "[B" (.ref q) (am_A0 G) U H ∧ va_T .byte q 100 (fun j => .int (am_dgt o j)) (am_A0 G) U H) ∧ va_Zq "jdk/internal/util/Preconditions" "SIOOBE_FORMATTER" "Ljava/util/function/BiFunction;" (am_A0 G) U H
theorem am_Js.kept {G : am_Γ} {U : State} {H H' : Heap} (h : am_Js G U H) (hq : ∀ a : Nat, a < H.size → ¬ am_A0 G a → H'[a]? = H[a]?) : am_Js G U H' :=
  ⟨h.1.kept hq, fun o ho => by obtain ⟨q, h1, h2⟩ := h.2.1 o ho; exact ⟨q, h1.kept hq, h2.kept hq⟩, h.2.2.kept hq⟩
theorem am_Js.moved {G : am_Γ} {u U : State} {H : Heap} (hvm : u.vm.Alike U.vm) (h : am_Js G u H) : am_Js G U H :=
  ⟨va_Z.moved hvm h.1, fun o ho => by obtain ⟨q, h1, h2⟩ := h.2.1 o ho; exact ⟨q, va_Z.moved hvm h1, va_T.moved hvm h2⟩, va_Zq.moved hvm h.2.2⟩
/-- three private methods of the JDK's, asked of a StringBuilder -/
def j_X : List Cond := [.selects "java/lang/StringBuilder" ⟨"java/lang/AbstractStringBuilder", "ensureCapacityInternal", "(I)V"⟩ ⟨"java/lang/AbstractStringBuilder", "ensureCapacityInternal", "(I)V"⟩, .selects "java/lang/StringBuilder" ⟨"java/lang/AbstractStringBuilder", "inflateIfNeededFor", "(Ljava/lang/String;)V"⟩ ⟨"java/lang/AbstractStringBuilder", "inflateIfNeededFor", "(Ljava/lang/String;)V"⟩, .selects "java/lang/StringBuilder" ⟨"java/lang/AbstractStringBuilder", "putStringAt", "(ILjava/lang/String;)V"⟩ ⟨"java/lang/AbstractStringBuilder", "putStringAt", "(ILjava/lang/String;)V"⟩]
theorem j_X_good : j_X.all goodWord = true := by decide +kernel
theorem j_X_tabs : ∀ w ∈ j_X, w.onTables = true := by
  intro w hw
  simp only [j_X, List.mem_cons, List.not_mem_nil, or_false] at hw
  rcases hw with rfl | rfl | rfl <;> rfl
def am_Sl (U : State) : Prop := ∀ w ∈ j_X, w.before #[] U = true
theorem am_Sl.warm {s U : State} (hW : s.WarmedH U.vm) (h : am_Sl s) : am_Sl U := fun w hw => word_at hW (good_of_word (List.all_eq_true.mp j_X_good w hw)) (h w hw)
theorem am_Sl.same {u U : State} (hv : u.vm = U.vm) (h : am_Sl u) : am_Sl U := fun w hw => va_tabs (j_X_tabs w hw) hv (h w hw)
/-- the locals -/
def am_ll (G : am_Γ) : Nat → am_S → List (Nat × Value)
  | _, [] => []
  | i, none :: l => am_ll G (i + 1) l
  | i, some v :: l => (i, am_tv G v) :: am_ll G (i + 1) l
def am_lv (G : am_Γ) (nL : Nat) (ls : am_S) (lsc : Array Slot) : Prop := lv_has lsc nL (am_ll G 0 ls) ∧ ls.length = nL
theorem am_ll_mem {G : am_Γ} {q : Nat × Value} : ∀ {ls : am_S} {i : Nat}, q ∈ am_ll G i ls ↔ ∃ (k : Nat) (v : am_V), ls[k]? = some (some v) ∧ q = (i + k, am_tv G v)
  | [], i => by simp [am_ll]
  | none :: l, i => by
    rw [am_ll, am_ll_mem]
    constructor
    · rintro ⟨k, v, h1, h2⟩
      exact ⟨k + 1, v, by simpa using h1, by rw [h2]; congr 1; omega⟩
    · rintro ⟨k, v, h1, h2⟩
      cases k with
      | zero => simp at h1
      | succ k => exact ⟨k, v, by simpa using h1, by rw [h2]; congr 1; omega⟩
  | some w :: l, i => by
    rw [am_ll, List.mem_cons, am_ll_mem]
    constructor
    · rintro (h | ⟨k, v, h1, h2⟩)
      · exact ⟨0, w, by simp, h⟩
      · exact ⟨k + 1, v, by simpa using h1, by rw [h2]; congr 1; omega⟩
    · rintro ⟨k, v, h1, h2⟩
      cases k with
      | zero =>
        left
        simp at h1
        rw [h2, h1]; rfl
      | succ k => exact Or.inr ⟨k, v, by simpa using h1, by rw [h2]; congr 1; omega⟩
theorem am_lv.at {G : am_Γ} {nL : Nat} {ls : am_S} {lsc : Array Slot} (h : am_lv G nL ls lsc) {i : Nat} {v : am_V} (hv : ls[i]? = some (some v)) : lsc[i]? = some (.val (am_tv G v)) :=
  h.1.2.2 (i, am_tv G v) (am_ll_mem.mpr ⟨i, v, hv, by simp⟩)
theorem am_put_len : ∀ (ls : am_S) (i : Nat) (v : Option am_V), (am_put ls i v).length = ls.length
  | [], _, _ => by simp [am_put]
  | _ :: _, 0, _ => by simp [am_put]
  | [_], 1, _ => by simp [am_put]
  | _ :: _ :: _, 1, _ => by simp [am_put]
  | a :: l, n + 2, v => by simp [am_put, am_put_len l (n + 1) v]
theorem am_put_get : ∀ (ls : am_S) (i : Nat) (v : Option am_V) (j : Nat), i < ls.length → (am_put ls i v)[j]? = if j = i then some v else if j + 1 = i then (ls[j]?).map am_k else ls[j]?
  | [], _, _, _, h => by simp at h
  | a :: l, 0, v, j, _ => by
    cases j with
    | zero => simp [am_put]
    | succ j => simp [am_put]
  | [_], 1, _, _, h => by simp at h
  | a :: b :: l, 1, v, j, _ => by
    match j with
    | 0 => simp [am_put]
    | 1 => simp [am_put]
    | j + 2 => simp [am_put]
  | a :: l, n + 2, v, j, h => by
    rw [am_put]
    cases j with
    | zero => simp
    | succ j =>
      rw [List.getElem?_cons_succ, am_put_get l (n + 1) v j (by simp only [List.length_cons] at h; omega), List.getElem?_cons_succ]
      by_cases h1 : j = n + 1
      · subst h1; simp
      · by_cases h2 : j + 1 = n + 1
        · rw [if_neg h1, if_pos h2, if_neg (by omega), if_pos (by omega)]
        · rw [if_neg h1, if_neg h2, if_neg (by omega), if_neg (by omega)]
theorem am_k_some {a : Option am_V} {v : am_V} {G : am_Γ} (h : am_k a = some v) : a = some v ∧ (am_tv G v).category = 1 := by
  unfold am_k at h
  split at h
  · cases h
  · cases h
  · subst h
    rename_i h1 h2
    refine ⟨rfl, ?_⟩
    cases v with
    | inl w =>
      cases w with
      | int _ => rfl
      | long x => exact absurd rfl (h2 x)
      | float _ => rfl
      | double x => exact absurd rfl (h1 x)
      | null => rfl
      | ref _ => rfl
      | retAddr q => rfl
    | inr o => cases o <;> rfl
theorem am_lv.sub {G : am_Γ} {nL : Nat} {ls : am_S} {lsc : Array Slot} {lv : List (Nat × Value)} (h : lv_has lsc nL lv) (hl : ls.length = nL) (hs : ∀ q ∈ am_ll G 0 ls, q ∈ lv) : am_lv G nL ls lsc := ⟨⟨h.1, h.2.1, fun q hq => h.2.2 q (hs q hq)⟩, hl⟩
theorem am_put_sub {G : am_Γ} {ls : am_S} {i : Nat} (hi : i < ls.length) (v : Option am_V) (w : Value) (hv : ∀ u, v = some u → am_tv G u = w) : ∀ q ∈ am_ll G 0 (am_put ls i v), q ∈ (i, w) :: (am_ll G 0 ls).filter (fun q => !(q.1 == i) && !(q.1 + 1 == i && q.2.category == 2)) := by
  intro q hq
  obtain ⟨j, u, h1, rfl⟩ := am_ll_mem.mp hq
  rw [am_put_get ls i v j hi] at h1
  rw [Nat.zero_add]
  by_cases e : j = i
  · rw [if_pos e] at h1
    rw [e, hv u (Option.some.inj h1)]
    exact List.mem_cons_self
  · rw [if_neg e] at h1
    refine List.mem_cons_of_mem _ (List.mem_filter.mpr ?_)
    by_cases e2 : j + 1 = i
    · rw [if_pos e2] at h1
      cases hj : ls[j]? with
      | none => rw [hj] at h1; cases h1
      | some a =>
        rw [hj] at h1
        obtain ⟨h3, h4⟩ := am_k_some (G := G) (Option.some.inj h1)
        subst h3
        refine ⟨am_ll_mem.mpr ⟨j, u, hj, by simp⟩, ?_⟩
        simp [e, h4]
    · rw [if_neg e2] at h1
      refine ⟨am_ll_mem.mpr ⟨j, u, h1, by simp⟩, ?_⟩
      simp [e, e2]
theorem am_put2_sub {G : am_Γ} {ls : am_S} {i : Nat} (hi : i + 1 < ls.length) (v : am_V) : ∀ q ∈ am_ll G 0 (am_put2 ls i v), q ∈ (i, am_tv G v) :: (am_ll G 0 ls).filter (fun q => !(q.1 == i) && (!(q.1 == i + 1) && !(q.1 + 1 == i && q.2.category == 2))) := by
  intro q hq
  obtain ⟨j, u, h1, rfl⟩ := am_ll_mem.mp hq
  unfold am_put2 at h1
  rw [Nat.zero_add]
  have hne : j ≠ i + 1 := by
    intro e
    subst e
    rw [List.getElem?_set_self (by rw [am_put_len]; exact hi)] at h1
    cases h1
  rw [List.getElem?_set_ne (Ne.symm hne), am_put_get ls i _ j (by omega)] at h1
  by_cases e : j = i
  · rw [if_pos e] at h1
    rw [e, ← Option.some.inj (Option.some.inj h1)]
    exact List.mem_cons_self
  · rw [if_neg e] at h1
    refine List.mem_cons_of_mem _ (List.mem_filter.mpr ?_)
    by_cases e2 : j + 1 = i
    · rw [if_pos e2] at h1
      cases hj : ls[j]? with
      | none => rw [hj] at h1; cases h1
      | some a =>
        rw [hj] at h1
        obtain ⟨h3, h4⟩ := am_k_some (G := G) (Option.some.inj h1)
        subst h3
        refine ⟨am_ll_mem.mpr ⟨j, u, hj, by simp⟩, ?_⟩
        simp [e, h4, hne]
    · rw [if_neg e2] at h1
      refine ⟨am_ll_mem.mpr ⟨j, u, h1, by simp⟩, ?_⟩
      simp [e, e2, hne]
