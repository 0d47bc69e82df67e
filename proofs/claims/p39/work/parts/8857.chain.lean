/-! THE HOURS OF THE FIRST RUN, IN A CHAIN -/
def rH : Nat → Nat := fun k => match k with
  | 0 => rh0
  | 1 => rh1
  | 2 => rh2
  | 3 => rh3
  | 4 => rh4
  | 5 => rh5
  | 6 => rh6
  | 7 => rh7
  | 8 => rh8
  | 9 => rh9
  | 10 => rh10
  | 11 => rh11
  | 12 => rh12
  | 13 => rh13
  | 14 => rh14
  | 15 => rh15
  | 16 => rh16
  | 17 => rh17
  | 18 => rh18
  | 19 => rh19
  | 20 => rh20
  | 21 => rh21
  | 22 => rh22
  | 23 => rh23
  | 24 => rh24
  | 25 => rh25
  | 26 => rh26
  | 27 => rh27
  | 28 => rh28
  | 29 => rh29
  | 30 => rh30
  | 31 => rh31
  | 32 => rh32
  | 33 => rh33
  | 34 => rh34
  | 35 => rh35
  | 36 => rh36
  | 37 => rh37
  | 38 => rh38
  | 39 => rh39
  | 40 => rh40
  | 41 => rh41
  | 42 => rh42
  | 43 => rh43
  | 44 => rh44
  | 45 => rh45
  | 46 => rh46
  | 47 => rh47
  | 48 => rh48
  | 49 => rh49
  | 50 => rh50
  | 51 => rh51
  | 52 => rh52
  | 53 => rh53
  | 54 => rh54
  | 55 => rh55
  | 56 => rh56
  | _ => 0
theorem rH_go : ∀ k, k < 56 → ml_arr (rwl (rH k)) = (if k = 55 then 1 else 0) ∧ ∀ j, j < 364 → ml_goes (rwl (rH k)) j = rwl (rH (k + 1)) j := by
  intro k hk
  match k, hk with
  | 0, _ => exact rh_0
  | 1, _ => exact rh_1
  | 2, _ => exact rh_2
  | 3, _ => exact rh_3
  | 4, _ => exact rh_4
  | 5, _ => exact rh_5
  | 6, _ => exact rh_6
  | 7, _ => exact rh_7
  | 8, _ => exact rh_8
  | 9, _ => exact rh_9
  | 10, _ => exact rh_10
  | 11, _ => exact rh_11
  | 12, _ => exact rh_12
  | 13, _ => exact rh_13
  | 14, _ => exact rh_14
  | 15, _ => exact rh_15
  | 16, _ => exact rh_16
  | 17, _ => exact rh_17
  | 18, _ => exact rh_18
  | 19, _ => exact rh_19
  | 20, _ => exact rh_20
  | 21, _ => exact rh_21
  | 22, _ => exact rh_22
  | 23, _ => exact rh_23
  | 24, _ => exact rh_24
  | 25, _ => exact rh_25
  | 26, _ => exact rh_26
  | 27, _ => exact rh_27
  | 28, _ => exact rh_28
  | 29, _ => exact rh_29
  | 30, _ => exact rh_30
  | 31, _ => exact rh_31
  | 32, _ => exact rh_32
  | 33, _ => exact rh_33
  | 34, _ => exact rh_34
  | 35, _ => exact rh_35
  | 36, _ => exact rh_36
  | 37, _ => exact rh_37
  | 38, _ => exact rh_38
  | 39, _ => exact rh_39
  | 40, _ => exact rh_40
  | 41, _ => exact rh_41
  | 42, _ => exact rh_42
  | 43, _ => exact rh_43
  | 44, _ => exact rh_44
  | 45, _ => exact rh_45
  | 46, _ => exact rh_46
  | 47, _ => exact rh_47
  | 48, _ => exact rh_48
  | 49, _ => exact rh_49
  | 50, _ => exact rh_50
  | 51, _ => exact rh_51
  | 52, _ => exact rh_52
  | 53, _ => exact rh_53
  | 54, _ => exact rh_54
  | 55, _ => exact rh_55
  | k + 56, h => exact absurd h (by omega)
theorem rH_ok {B : Nat} (hB : 1000 ≤ B) (h : ml_ok B (rwl (rH 0))) : ∀ k, k ≤ 56 → ml_ok (B + 200 * k) (rwl (rH k)) := by
  intro k
  induction k with
  | zero => intro _; exact h
  | succ k ih =>
    intro hk
    have g := ih (by omega)
    rw [← goes_rw (by omega) g (rH_go k (by omega)).2]
    exact (ml_goes_ok (by omega) g).1.mono (by omega)
theorem rH_ps {B : Nat} (hB : 1000 ≤ B) (h : ml_ok B (rwl (rH 0))) (i : Nat) : ∀ n, i + n ≤ 56 → (ml_ps (rwl (rH i)) n).1 = rwl (rH (i + n)) ∧ (ml_ps (rwl (rH i)) n).2 = if i + n = 56 ∧ 0 < n then 1 else 0 := by
  intro n
  induction n with
  | zero => intro _; exact ⟨rfl, (if_neg (fun q => absurd q.2 (by decide))).symm⟩
  | succ n ih =>
    intro hn
    obtain ⟨e1, e2⟩ := ih (by omega)
    obtain ⟨g1, g2⟩ := rH_go (i + n) (by omega)
    have ge := goes_rw (by omega) (rH_ok hB h (i + n) (by omega)) g2
    constructor
    · show ml_goes (ml_ps (rwl (rH i)) n).1 = _
      rw [e1, ge]
      rfl
    · show (ml_ps (rwl (rH i)) n).2 + ml_arr (ml_ps (rwl (rH i)) n).1 = _
      rw [e1, e2, g1, if_neg (by omega)]
      by_cases hl : i + n = 55
      · rw [if_pos hl, if_pos ⟨by omega, by omega⟩]
      · rw [if_neg hl, if_neg (by omega)]
section Kch2
variable {B : Nat} {M : am_M} {a b : Nat → Nat} {sv : Option (Nat → Nat)}
/-- a row equal below 364 may stand in the state -/
theorem gS.cg (h : gS B a sv M) (e : ∀ j, j < 364 → b j = a j) : gS B b sv M := by
  obtain ⟨hs, ⟨h1, h2, h3⟩, R, ev, hl⟩ := h
  exact ⟨hs, ⟨h1.cg e, h2, h3⟩, R, ev, lS.cg h1 hl e⟩
end Kch2
