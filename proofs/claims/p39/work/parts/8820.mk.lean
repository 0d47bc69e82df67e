/-! THE MAKING: ONE INSTRUCTION BEFORE ALL OBJECTS ARE MADE -/
abbrev am_Y (T : am_T) (c p q : Nat) : am_X := (T, some c, p, q, none, none)
/-- the next cell is the place l, of the kind k, and it isn't the last -/
def am_nl (c : Nat) (l : am_L) (k : Nat × Nat × Nat) : Prop := am_lo c = l ∧ am_ok l = true ∧ am_ad l = c ∧ am_kd l = k ∧ l.1 ≠ 0 ∧ c + 1 ≠ 701
theorem al_of {c : Nat} {l : am_L} (h : am_ok l = true) (h2 : am_ad l < c) : am_al (some c) l = true := by
  unfold am_al
  simp only [h, Bool.true_and, Bool.or_eq_true, decide_eq_true_eq]
  exact Or.inl h2
section AmMk
variable {call : Nat → List am_V → am_M → am_X → Option am_R} {z pc : Nat} {ls : am_S} {st : List am_V} {M : am_M} {X : am_X} {T : am_T} {c p q : Nat} {x : Int32} {l v : am_L}
theorem nu_of {α : Type} {k : Nat × Nat × Nat} {n : Nat} {f : am_L → am_X → Option α} (h : am_nl c l k) : am_nu (am_Y T c p q) k n f = f l (am_Y T (c + 1) (p + 1) (q + n)) := by
  obtain ⟨h1, h2, h3, h4, h5, h6⟩ := h
  show (if am_ok (am_lo c) = true ∧ am_ad (am_lo c) = c ∧ am_kd (am_lo c) = k ∧ (am_lo c).1 ≠ 0 then f (am_lo c) (T, am_nph c, p + 1, q + n, none, none) else none) = _
  rw [h1, if_pos ⟨h2, h3, h4, h5⟩, show am_nph c = some (c + 1) from if_neg h6]
theorem chk_of {α : Type} {ci : Nat} {v : Option α} (h : am_ck l ci) (hc : am_ad l < c) : am_chk (am_Y T c p q) l ci v = v := if_pos ⟨al_of h.1 hc, h.2⟩
theorem cy_new {ix ci n : Nat} (hc : am_cd z pc = some (.new ix)) (hm : am_nw (am_own z) ix = some (.inl ci)) (hn : am_cN ci = n) (h : am_nl c l (0, ci, 0)) : am_rn call z pc ls st M (am_Y T c p q) = am_rn call z (pc + 3) ls (am_P l :: st) M (am_Y T (c + 1) (p + 1) (q + n)) := by
  rw [rn_new (X := am_Y T c p q) rfl hc hm hn]
  exact nu_of h
theorem cy_newI {k : Nat} (hc : am_cd z pc = some (.newarray .int)) (h0 : ¬ x < 0) (h1 : x.toNatClampNeg = k) (h : am_nl c l (1, k, 0)) : am_rn call z pc ls (am_I x :: st) M (am_Y T c p q) = am_rn call z (pc + 2) ls (am_P l :: st) M (am_Y T (c + 1) (p + 1) (q + k)) := by
  subst h1
  rw [am_rn_eq hc]
  show (if x < 0 then none else am_nu (am_Y T c p q) (1, x.toNatClampNeg, 0) x.toNatClampNeg fun l X => am_rn call z (pc + 2) ls (.inr (some l) :: st) M X) = _
  rw [if_neg h0]
  exact nu_of h
theorem cy_newC {k : Nat} (hc : am_cd z pc = some (.newarray .char)) (h0 : ¬ x < 0) (h1 : x.toNatClampNeg = k) (h : am_nl c l (2, k, 0)) : am_rn call z pc ls (am_I x :: st) M (am_Y T c p q) = am_rn call z (pc + 2) ls (am_P l :: st) M (am_Y T (c + 1) (p + 1) (q + k)) := by
  subst h1
  rw [am_rn_eq hc]
  show (if x < 0 then none else am_nu (am_Y T c p q) (2, x.toNatClampNeg, 0) x.toNatClampNeg fun l X => am_rn call z (pc + 2) ls (.inr (some l) :: st) M X) = _
  rw [if_neg h0]
  exact nu_of h
theorem cy_anew {ix ci k : Nat} (hc : am_cd z pc = some (.anewarray ix)) (hm : am_aw (am_own z) ix = some ci) (h0 : ¬ x < 0) (h1 : x.toNatClampNeg = k) (h : am_nl c l (3, ci, k)) : am_rn call z pc ls (am_I x :: st) M (am_Y T c p q) = am_rn call z (pc + 3) ls (am_P l :: st) M (am_Y T (c + 1) (p + 1) (q + k)) := by
  subst h1
  rw [rn_anew hc hm]
  show (if x < 0 then none else am_nu (am_Y T c p q) (3, ci, x.toNatClampNeg) x.toNatClampNeg fun l X => am_rn call z (pc + 3) ls (.inr (some l) :: st) M X) = _
  rw [if_neg h0]
  exact nu_of h
theorem cy_putP {ix ci j : Nat} (hc : am_cd z pc = some (.putfield ix)) (hf : am_fl (am_own z) ix = some (ci, j)) (ho : am_fo z ci j = true) (hk : am_fk ci j = 3) (hl : am_ck l ci) (hlc : am_ad l < c) (hv : am_ok v = true) (hvc : am_ad v < c) : am_rn call z pc ls (am_P v :: am_P l :: st) M (am_Y T c p q) = am_rn call z (pc + 3) ls st M (am_Y (am_setT T l j (some v)) c p q) := by
  rw [rn_putP hc hf ho hk]
  show am_chk (am_Y T c p q) l ci (if am_al (some c) v = true then am_rn call z (pc + 3) ls st M (am_setT T l j (some v), some c, p, q, none, none) else none) = _
  rw [chk_of hl hlc, if_pos (al_of hv hvc)]
theorem cy_putI {ix ci j : Nat} (hc : am_cd z pc = some (.putfield ix)) (hf : am_fl (am_own z) ix = some (ci, j)) (ho : am_fo z ci j = true) (hk : am_fk ci j = 0) (hl : am_ck l ci) (hlc : am_ad l < c) : am_rn call z pc ls (am_I x :: am_P l :: st) M (am_Y T c p q) = am_rn call z (pc + 3) ls st (am_set M l j x) (am_Y T c p q) := by
  rw [rn_putI hc hf ho hk]
  exact chk_of hl hlc
theorem cy_getP {ix ci j : Nat} (hc : am_cd z pc = some (.getfield ix)) (hf : am_fl (am_own z) ix = some (ci, j)) (hk : (am_fk ci j == 3) = true) (hl : am_ck l ci) (hlc : am_ad l < c) (hT : T l j = some v) : am_rn call z pc ls (am_P l :: st) M (am_Y T c p q) = am_rn call z (pc + 3) ls (am_P v :: st) M (am_Y T c p q) := by
  rw [rn_getP hc hf hk]
  show am_chk (am_Y T c p q) l ci (am_rn call z (pc + 3) ls (.inr (T l j) :: st) M (am_Y T c p q)) = _
  rw [chk_of hl hlc, hT]
theorem cy_aast {k ci n : Nat} (hc : am_cd z pc = some .aastore) (hl : am_ka l 3 ci n) (hlc : am_ad l < c) (hk : k < n) (hn : n < 1000) (hv : am_ck v ci) (hvc : am_ad v < c) : am_rn call z pc ls (am_P v :: am_I (nI k) :: am_P l :: st) M (am_Y T c p q) = am_rn call z (pc + 1) ls st M (am_Y (am_setT T l k (some v)) c p q) := by
  rw [am_rn_eq hc]
  show am_arr (am_Y T c p q) l 3 (am_kd l).2.1 (am_kd l).2.2 (nI k) (am_kd l).2.2 (fun j => am_chk (am_Y T c p q) v (am_kd l).2.1 (am_rn call z (pc + 1) ls st M (am_setT T l j (some v), some c, p, q, none, none))) = _
  rw [hl.2]
  unfold am_arr
  rw [if_pos ⟨al_of hl.1 hlc, hl.2, by
    show am_in (nI k) n
    rw [am_inT (by omega) hk]; trivial⟩, nI_clamp (by omega)]
  exact chk_of hv hvc
theorem cy_obj {ix y : Nat} (hc : am_cd z pc = some (.invokespecial ix)) (hm : am_ml (am_own z) ix = some (5, y)) (hr : am_sb st = true) : am_rn call z pc ls (am_P l :: st) M X = am_rn call z (pc + 3) ls st M X := by
  rw [rn_obj hc hm]
  exact am_sm_of hr
theorem cy_inv {ix y o k : Nat} {M' : am_M} {X' : am_X} (hc : am_cd z pc = some (.invokespecial ix)) (hm : am_ml (am_own z) ix = some (k, y)) (h2 : k = 2 ∨ k = 3) (hn : am_na y = 0) (ho : am_own y = o) (hh : am_hs z = [] ∧ am_tr z = true) (hr : am_sb st = true) (hl : am_ck l o) (hlc : am_ad l < c) (hcall : call y [am_P l] M (am_Y T c p q) = some (.inl none, M', X')) : am_rn call z pc ls (am_P l :: st) M (am_Y T c p q) = am_rn call z (pc + 3) ls st M' X' := by
  rw [rn_invI hc hm h2 hn ho hh]
  show am_sm st (am_chk (am_Y T c p q) l o (am_b1 (α := Unit) (call y [am_P l] M (am_Y T c p q)) fun v M X => am_rn call z (pc + 3) ls (v.toList ++ st) M X)) = _
  rw [am_sm_of hr, chk_of hl hlc, hcall]
  rfl
end AmMk
/-! where the cells lie -/
theorem nb_le {n : Nat} (h : n < 12) : am_nb n ≤ 630 := by unfold am_nb; split <;> omega
theorem nl13 {n c : Nat} (h : n < 12) (hc : c = am_nb n) : am_nl c (13, n, 0) (0, 5, 0) := by
  subst hc
  have := nb_le h
  exact ⟨(am_lo_nb (r := 0) h (by decide)).trans (am_lr_a (by decide)), am_okN rfl h, rfl, rfl, (by decide : (13 : Nat) ≠ 0), by omega⟩
theorem nlA {n c r : Nat} {k : Nat × Nat × Nat} (h : n < 12) (hc : c = am_nb n + r) (hr : r < 6) (hok : am_ok (13 + r, n, 0) = true) (had : am_ad (13 + r, n, 0) = am_nb n + r) (hk : am_kd (13 + r, n, 0) = k) : am_nl c (13 + r, n, 0) k := by
  subst hc
  have := nb_le h
  exact ⟨(am_lo_nb h (by omega)).trans (am_lr_a hr), hok, had, hk, (by show 13 + r ≠ 0; omega), by omega⟩
theorem nl20 {n c : Nat} (h : n < 12) (hc : c = am_nb n + 6) : am_nl c (20, n, 0) (1, 8, 0) := by
  subst hc
  have := nb_le h
  exact ⟨(am_lo_nb h (by omega)).trans am_lr_20, am_okN rfl h, rfl, rfl, (by decide : (20 : Nat) ≠ 0), by omega⟩
theorem nl21 {n c k : Nat} (h : n < 12) (hk : k < 6) (hc : c = am_nb n + (7 + 2 * k)) : am_nl c (21, n, k) (0, 2, 0) := by
  subst hc
  have := nb_le h
  exact ⟨(am_lo_nb h (by omega)).trans (am_lr_21 hk), am_oke rfl h hk, by show am_nb n + 7 + 2 * k = _; omega, rfl, (by decide : (21 : Nat) ≠ 0), by omega⟩
theorem nl22 {n c k : Nat} (h : n < 12) (hk : k < 6) (hc : c = am_nb n + (8 + 2 * k)) : am_nl c (22, n, k) (1, 16, 0) := by
  subst hc
  have := nb_le h
  exact ⟨(am_lo_nb h (by omega)).trans (am_lr_22 hk), am_oke rfl h hk, by show am_nb n + 8 + 2 * k = _; omega, rfl, (by decide : (22 : Nat) ≠ 0), by omega⟩
theorem nl23 {n c k : Nat} (h : n < 12) (hk : k < 5) (hc : c = am_nb n + (19 + k)) : am_nl c (23, n, k) (0, 7, 0) := by
  subst hc
  have := nb_le h
  exact ⟨(am_lo_nb h (by omega)).trans (am_lr_23 hk), am_oke rfl h hk, by show am_nb n + 19 + k = _; omega, rfl, (by decide : (23 : Nat) ≠ 0), by omega⟩
theorem nl24 {n c k : Nat} (h : n < 12) (hk : k < 16) (hc : c = am_nb n + (24 + 2 * k)) : am_nl c (24, n, k) (0, 4, 0) := by
  subst hc
  have := nb_le h
  exact ⟨(am_lo_nb h (by omega)).trans am_lr_24, am_oke rfl h hk, by show am_nb n + 24 + 2 * k = _; omega, rfl, (by decide : (24 : Nat) ≠ 0), by omega⟩
theorem nl25 {n c k : Nat} (h : n < 12) (hk : k < 16) (hc : c = am_nb n + (25 + 2 * k)) : am_nl c (25, n, k) (1, 8, 0) := by
  subst hc
  have := nb_le h
  exact ⟨(am_lo_nb h (by omega)).trans am_lr_25, am_oke rfl h hk, by show am_nb n + 25 + 2 * k = _; omega, rfl, (by decide : (25 : Nat) ≠ 0), by omega⟩
theorem nl11 {c k : Nat} (hk : k < 20) (hc : c = 680 + k) : am_nl c (11, 0, k) (0, 0, 0) := by
  subst hc
  exact ⟨am_lo_11 hk, (ck11 hk).1, rfl, rfl, (by decide : (11 : Nat) ≠ 0), by omega⟩
