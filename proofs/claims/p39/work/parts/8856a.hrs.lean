/-! HOURS OF THE FIRST RUN -/
theorem rh_0 : ml_arr (rwl rh0) = 0 ∧ ∀ j, j < 364 → ml_goes (rwl rh0) j = rwl rh1 j := by decide +kernel
theorem rh_1 : ml_arr (rwl rh1) = 0 ∧ ∀ j, j < 364 → ml_goes (rwl rh1) j = rwl rh2 j := by decide +kernel
theorem rh_2 : ml_arr (rwl rh2) = 0 ∧ ∀ j, j < 364 → ml_goes (rwl rh2) j = rwl rh3 j := by decide +kernel
theorem rh_3 : ml_arr (rwl rh3) = 0 ∧ ∀ j, j < 364 → ml_goes (rwl rh3) j = rwl rh4 j := by decide +kernel
theorem rh_4 : ml_arr (rwl rh4) = 0 ∧ ∀ j, j < 364 → ml_goes (rwl rh4) j = rwl rh5 j := by decide +kernel
theorem rh_5 : ml_arr (rwl rh5) = 0 ∧ ∀ j, j < 364 → ml_goes (rwl rh5) j = rwl rh6 j := by decide +kernel
theorem rh_6 : ml_arr (rwl rh6) = 0 ∧ ∀ j, j < 364 → ml_goes (rwl rh6) j = rwl rh7 j := by decide +kernel
theorem rh_7 : ml_arr (rwl rh7) = 0 ∧ ∀ j, j < 364 → ml_goes (rwl rh7) j = rwl rh8 j := by decide +kernel
theorem rh_8 : ml_arr (rwl rh8) = 0 ∧ ∀ j, j < 364 → ml_goes (rwl rh8) j = rwl rh9 j := by decide +kernel
theorem rh_9 : ml_arr (rwl rh9) = 0 ∧ ∀ j, j < 364 → ml_goes (rwl rh9) j = rwl rh10 j := by decide +kernel
theorem rh_10 : ml_arr (rwl rh10) = 0 ∧ ∀ j, j < 364 → ml_goes (rwl rh10) j = rwl rh11 j := by decide +kernel
theorem rh_11 : ml_arr (rwl rh11) = 0 ∧ ∀ j, j < 364 → ml_goes (rwl rh11) j = rwl rh12 j := by decide +kernel
theorem rh_12 : ml_arr (rwl rh12) = 0 ∧ ∀ j, j < 364 → ml_goes (rwl rh12) j = rwl rh13 j := by decide +kernel
theorem rh_13 : ml_arr (rwl rh13) = 0 ∧ ∀ j, j < 364 → ml_goes (rwl rh13) j = rwl rh14 j := by decide +kernel
