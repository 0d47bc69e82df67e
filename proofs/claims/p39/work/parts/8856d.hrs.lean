/-! HOURS OF THE FIRST RUN -/
theorem rh_42 : ml_arr (rwl rh42) = 0 ∧ ∀ j, j < 364 → ml_goes (rwl rh42) j = rwl rh43 j := by decide +kernel
theorem rh_43 : ml_arr (rwl rh43) = 0 ∧ ∀ j, j < 364 → ml_goes (rwl rh43) j = rwl rh44 j := by decide +kernel
theorem rh_44 : ml_arr (rwl rh44) = 0 ∧ ∀ j, j < 364 → ml_goes (rwl rh44) j = rwl rh45 j := by decide +kernel
theorem rh_45 : ml_arr (rwl rh45) = 0 ∧ ∀ j, j < 364 → ml_goes (rwl rh45) j = rwl rh46 j := by decide +kernel
theorem rh_46 : ml_arr (rwl rh46) = 0 ∧ ∀ j, j < 364 → ml_goes (rwl rh46) j = rwl rh47 j := by decide +kernel
theorem rh_47 : ml_arr (rwl rh47) = 0 ∧ ∀ j, j < 364 → ml_goes (rwl rh47) j = rwl rh48 j := by decide +kernel
theorem rh_48 : ml_arr (rwl rh48) = 0 ∧ ∀ j, j < 364 → ml_goes (rwl rh48) j = rwl rh49 j := by decide +kernel
theorem rh_49 : ml_arr (rwl rh49) = 0 ∧ ∀ j, j < 364 → ml_goes (rwl rh49) j = rwl rh50 j := by decide +kernel
theorem rh_50 : ml_arr (rwl rh50) = 0 ∧ ∀ j, j < 364 → ml_goes (rwl rh50) j = rwl rh51 j := by decide +kernel
theorem rh_51 : ml_arr (rwl rh51) = 0 ∧ ∀ j, j < 364 → ml_goes (rwl rh51) j = rwl rh52 j := by decide +kernel
theorem rh_52 : ml_arr (rwl rh52) = 0 ∧ ∀ j, j < 364 → ml_goes (rwl rh52) j = rwl rh53 j := by decide +kernel
theorem rh_53 : ml_arr (rwl rh53) = 0 ∧ ∀ j, j < 364 → ml_goes (rwl rh53) j = rwl rh54 j := by decide +kernel
theorem rh_54 : ml_arr (rwl rh54) = 0 ∧ ∀ j, j < 364 → ml_goes (rwl rh54) j = rwl rh55 j := by decide +kernel
theorem rh_55 : ml_arr (rwl rh55) = 1 ∧ ∀ j, j < 364 → ml_goes (rwl rh55) j = rwl rh56 j := by decide +kernel
