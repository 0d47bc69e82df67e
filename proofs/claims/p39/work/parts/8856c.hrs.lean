/-! HOURS OF THE FIRST RUN -/
theorem rh_28 : ml_arr (rwl rh28) = 0 ∧ ∀ j, j < 364 → ml_goes (rwl rh28) j = rwl rh29 j := by decide +kernel
theorem rh_29 : ml_arr (rwl rh29) = 0 ∧ ∀ j, j < 364 → ml_goes (rwl rh29) j = rwl rh30 j := by decide +kernel
theorem rh_30 : ml_arr (rwl rh30) = 0 ∧ ∀ j, j < 364 → ml_goes (rwl rh30) j = rwl rh31 j := by decide +kernel
theorem rh_31 : ml_arr (rwl rh31) = 0 ∧ ∀ j, j < 364 → ml_goes (rwl rh31) j = rwl rh32 j := by decide +kernel
theorem rh_32 : ml_arr (rwl rh32) = 0 ∧ ∀ j, j < 364 → ml_goes (rwl rh32) j = rwl rh33 j := by decide +kernel
theorem rh_33 : ml_arr (rwl rh33) = 0 ∧ ∀ j, j < 364 → ml_goes (rwl rh33) j = rwl rh34 j := by decide +kernel
theorem rh_34 : ml_arr (rwl rh34) = 0 ∧ ∀ j, j < 364 → ml_goes (rwl rh34) j = rwl rh35 j := by decide +kernel
theorem rh_35 : ml_arr (rwl rh35) = 0 ∧ ∀ j, j < 364 → ml_goes (rwl rh35) j = rwl rh36 j := by decide +kernel
theorem rh_36 : ml_arr (rwl rh36) = 0 ∧ ∀ j, j < 364 → ml_goes (rwl rh36) j = rwl rh37 j := by decide +kernel
theorem rh_37 : ml_arr (rwl rh37) = 0 ∧ ∀ j, j < 364 → ml_goes (rwl rh37) j = rwl rh38 j := by decide +kernel
theorem rh_38 : ml_arr (rwl rh38) = 0 ∧ ∀ j, j < 364 → ml_goes (rwl rh38) j = rwl rh39 j := by decide +kernel
theorem rh_39 : ml_arr (rwl rh39) = 0 ∧ ∀ j, j < 364 → ml_goes (rwl rh39) j = rwl rh40 j := by decide +kernel
theorem rh_40 : ml_arr (rwl rh40) = 0 ∧ ∀ j, j < 364 → ml_goes (rwl rh40) j = rwl rh41 j := by decide +kernel
theorem rh_41 : ml_arr (rwl rh41) = 0 ∧ ∀ j, j < 364 → ml_goes (rwl rh41) j = rwl rh42 j := by decide +kernel
