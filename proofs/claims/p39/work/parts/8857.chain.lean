/-! THE HOURS OF THE FIRST RUN, IN A CHAIN -/
def rH : Nat → Nat := fun k => match k with
  | 0 => rh0
  | 1 => rh1
  | 2 => rh2
  | 3 => rh3
  | 4 => rh4
  | 5 => rh5
  | 6 => rh6
  | 7 => rh7
  | 8 => rh8
  | 9 => rh9
  | 10 => rh10
  | 11 => rh11
  | 12 => rh12
  | 13 => rh13
  | 14 => rh14
  | 15 => rh15
  | 16 => rh16
  | 17 => rh17
  | 18 => rh18
  | 19 => rh19
  | 20 => rh20
  | 21 => rh21
  | 22 => rh22
  | 23 => rh23
  | 24 => rh24
  | 25 => rh25
  | 26 => rh26
  | 27 => rh27
  | 28 => rh28
  | 29 => rh29
  | 30 => rh30
  | 31 => rh31
  | 32 => rh32
  | 33 => rh33
  | 34 => rh34
  | 35 => rh35
  | 36 => rh36
  | 37 => rh37
  | 38 => rh38
  | 39 => rh39
  | 40 => rh40
  | 41 => rh41
  | 42 => rh42
  | 43 => rh43
  | 44 => rh44
  | 45 => rh45
  | 46 => rh46
  | 47 => rh47
  | 48 => rh48
  | 49 => rh49
  | 50 => rh50
  | 51 => rh51
  | 52 => rh52
  | 53 => rh53
  | 54 => rh54
  | 55 => rh55
  | 56 => rh56
  | 57 => rh57
  | 58 => rh58
  | 59 => rh59
  | 60 => rh60
  | 61 => rh61
  | 62 => rh62
  | 63 => rh63
  | 64 => rh64
  | 65 => rh65
  | 66 => rh66
  | 67 => rh67
  | 68 => rh68
  | 69 => rh69
  | 70 => rh70
  | 71 => rh71
  | 72 => rh72
  | 73 => rh73
  | 74 => rh74
  | 75 => rh75
  | 76 => rh76
  | 77 => rh77
  | 78 => rh78
  | 79 => rh79
  | 80 => rh80
  | _ => 0
theorem rH_go : ∀ k, k < 80 → ∀ j, j < 364 → ml_goes (rwl (rH k)) j = rwl (rH (k + 1)) j := by
  intro k hk
  match k, hk with
  | 0, _ => exact rh_0.2
  | 1, _ => exact rh_1.2
  | 2, _ => exact rh_2.2
  | 3, _ => exact rh_3.2
  | 4, _ => exact rh_4.2
  | 5, _ => exact rh_5.2
  | 6, _ => exact rh_6.2
  | 7, _ => exact rh_7.2
  | 8, _ => exact rh_8.2
  | 9, _ => exact rh_9.2
  | 10, _ => exact rh_10.2
  | 11, _ => exact rh_11.2
  | 12, _ => exact rh_12.2
  | 13, _ => exact rh_13.2
  | 14, _ => exact rh_14.2
  | 15, _ => exact rh_15.2
  | 16, _ => exact rh_16.2
  | 17, _ => exact rh_17.2
  | 18, _ => exact rh_18.2
  | 19, _ => exact rh_19.2
  | 20, _ => exact rh_20.2
  | 21, _ => exact rh_21.2
  | 22, _ => exact rh_22.2
  | 23, _ => exact rh_23.2
  | 24, _ => exact rh_24.2
  | 25, _ => exact rh_25.2
  | 26, _ => exact rh_26.2
  | 27, _ => exact rh_27.2
  | 28, _ => exact rh_28.2
  | 29, _ => exact rh_29.2
  | 30, _ => exact rh_30.2
  | 31, _ => exact rh_31.2
  | 32, _ => exact rh_32.2
  | 33, _ => exact rh_33.2
  | 34, _ => exact rh_34.2
  | 35, _ => exact rh_35.2
  | 36, _ => exact rh_36.2
  | 37, _ => exact rh_37.2
  | 38, _ => exact rh_38.2
  | 39, _ => exact rh_39.2
  | 40, _ => exact rh_40.2
  | 41, _ => exact rh_41.2
  | 42, _ => exact rh_42.2
  | 43, _ => exact rh_43.2
  | 44, _ => exact rh_44.2
  | 45, _ => exact rh_45.2
  | 46, _ => exact rh_46.2
  | 47, _ => exact rh_47.2
  | 48, _ => exact rh_48.2
  | 49, _ => exact rh_49.2
  | 50, _ => exact rh_50.2
  | 51, _ => exact rh_51.2
  | 52, _ => exact rh_52.2
  | 53, _ => exact rh_53.2
  | 54, _ => exact rh_54.2
  | 55, _ => exact rh_55.2
  | 56, _ => exact rh_56.2
  | 57, _ => exact rh_57.2
  | 58, _ => exact rh_58.2
  | 59, _ => exact rh_59.2
  | 60, _ => exact rh_60.2
  | 61, _ => exact rh_61.2
  | 62, _ => exact rh_62.2
  | 63, _ => exact rh_63.2
  | 64, _ => exact rh_64.2
  | 65, _ => exact rh_65.2
  | 66, _ => exact rh_66.2
  | 67, _ => exact rh_67.2
  | 68, _ => exact rh_68.2
  | 69, _ => exact rh_69.2
  | 70, _ => exact rh_70.2
  | 71, _ => exact rh_71.2
  | 72, _ => exact rh_72.2
  | 73, _ => exact rh_73.2
  | 74, _ => exact rh_74.2
  | 75, _ => exact rh_75.2
  | 76, _ => exact rh_76.2
  | 77, _ => exact rh_77.2
  | 78, _ => exact rh_78.2
  | 79, _ => exact rh_79.2
  | k + 80, h => exact absurd h (by omega)
theorem rH_ar : ∀ k, k < 56 → ml_arr (rwl (rH k)) = (if k = 55 then 1 else 0) := by
  intro k hk
  match k, hk with
  | 0, _ => exact rh_0.1
  | 1, _ => exact rh_1.1
  | 2, _ => exact rh_2.1
  | 3, _ => exact rh_3.1
  | 4, _ => exact rh_4.1
  | 5, _ => exact rh_5.1
  | 6, _ => exact rh_6.1
  | 7, _ => exact rh_7.1
  | 8, _ => exact rh_8.1
  | 9, _ => exact rh_9.1
  | 10, _ => exact rh_10.1
  | 11, _ => exact rh_11.1
  | 12, _ => exact rh_12.1
  | 13, _ => exact rh_13.1
  | 14, _ => exact rh_14.1
  | 15, _ => exact rh_15.1
  | 16, _ => exact rh_16.1
  | 17, _ => exact rh_17.1
  | 18, _ => exact rh_18.1
  | 19, _ => exact rh_19.1
  | 20, _ => exact rh_20.1
  | 21, _ => exact rh_21.1
  | 22, _ => exact rh_22.1
  | 23, _ => exact rh_23.1
  | 24, _ => exact rh_24.1
  | 25, _ => exact rh_25.1
  | 26, _ => exact rh_26.1
  | 27, _ => exact rh_27.1
  | 28, _ => exact rh_28.1
  | 29, _ => exact rh_29.1
  | 30, _ => exact rh_30.1
  | 31, _ => exact rh_31.1
  | 32, _ => exact rh_32.1
  | 33, _ => exact rh_33.1
  | 34, _ => exact rh_34.1
  | 35, _ => exact rh_35.1
  | 36, _ => exact rh_36.1
  | 37, _ => exact rh_37.1
  | 38, _ => exact rh_38.1
  | 39, _ => exact rh_39.1
  | 40, _ => exact rh_40.1
  | 41, _ => exact rh_41.1
  | 42, _ => exact rh_42.1
  | 43, _ => exact rh_43.1
  | 44, _ => exact rh_44.1
  | 45, _ => exact rh_45.1
  | 46, _ => exact rh_46.1
  | 47, _ => exact rh_47.1
  | 48, _ => exact rh_48.1
  | 49, _ => exact rh_49.1
  | 50, _ => exact rh_50.1
  | 51, _ => exact rh_51.1
  | 52, _ => exact rh_52.1
  | 53, _ => exact rh_53.1
  | 54, _ => exact rh_54.1
  | 55, _ => exact rh_55.1
  | k + 56, h => exact absurd h (by omega)
theorem rH_ok {B : Nat} (hB : 1000 ≤ B) (h : ml_ok B (rwl (rH 0))) : ∀ k, k ≤ 80 → ml_ok (B + 200 * k) (rwl (rH k)) := by
  intro k
  induction k with
  | zero => intro _; exact h
  | succ k ih =>
    intro hk
    have g := ih (by omega)
    rw [← goes_rw (by omega) g (rH_go k (by omega))]
    exact (ml_goes_ok (by omega) g).1.mono (by omega)
theorem rH_pr {B : Nat} (hB : 1000 ≤ B) (h : ml_ok B (rwl (rH 0))) (i : Nat) : ∀ n, i + n ≤ 80 → (ml_ps (rwl (rH i)) n).1 = rwl (rH (i + n)) := by
  intro n
  induction n with
  | zero => intro _; rfl
  | succ n ih =>
    intro hn
    show ml_goes (ml_ps (rwl (rH i)) n).1 = _
    rw [ih (by omega), goes_rw (by omega) (rH_ok hB h (i + n) (by omega)) (rH_go (i + n) (by omega))]
    rfl
theorem rH_ps {B : Nat} (hB : 1000 ≤ B) (h : ml_ok B (rwl (rH 0))) (i : Nat) : ∀ n, i + n ≤ 56 → (ml_ps (rwl (rH i)) n).1 = rwl (rH (i + n)) ∧ (ml_ps (rwl (rH i)) n).2 = if i + n = 56 ∧ 0 < n then 1 else 0 := by
  intro n
  induction n with
  | zero => intro _; exact ⟨rfl, (if_neg (fun q => absurd q.2 (by decide))).symm⟩
  | succ n ih =>
    intro hn
    obtain ⟨e1, e2⟩ := ih (by omega)
    refine ⟨rH_pr hB h i (n + 1) (by omega), ?_⟩
    show (ml_ps (rwl (rH i)) n).2 + ml_arr (ml_ps (rwl (rH i)) n).1 = _
    rw [e1, e2, rH_ar (i + n) (by omega), if_neg (by omega)]
    by_cases hl : i + n = 55
    · rw [if_pos hl, if_pos ⟨by omega, by omega⟩]
    · rw [if_neg hl, if_neg (by omega)]
section Kch2
variable {B : Nat} {M : am_M} {a b : Nat → Nat} {sv : Option (Nat → Nat)}
/-- a row equal below 364 may stand in the state -/
theorem gS.cg (h : gS B a sv M) (e : ∀ j, j < 364 → b j = a j) : gS B b sv M := by
  obtain ⟨hs, ⟨h1, h2, h3⟩, R, ev, hl⟩ := h
  exact ⟨hs, ⟨h1.cg e, h2, h3⟩, R, ev, lS.cg h1 hl e⟩
end Kch2
