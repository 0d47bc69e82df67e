/-! HOURS OF THE FIRST RUN -/
theorem rh_14 : ml_arr (rwl rh14) = 0 ∧ ∀ j, j < 364 → ml_goes (rwl rh14) j = rwl rh15 j := by decide +kernel
theorem rh_15 : ml_arr (rwl rh15) = 0 ∧ ∀ j, j < 364 → ml_goes (rwl rh15) j = rwl rh16 j := by decide +kernel
theorem rh_16 : ml_arr (rwl rh16) = 0 ∧ ∀ j, j < 364 → ml_goes (rwl rh16) j = rwl rh17 j := by decide +kernel
theorem rh_17 : ml_arr (rwl rh17) = 0 ∧ ∀ j, j < 364 → ml_goes (rwl rh17) j = rwl rh18 j := by decide +kernel
theorem rh_18 : ml_arr (rwl rh18) = 0 ∧ ∀ j, j < 364 → ml_goes (rwl rh18) j = rwl rh19 j := by decide +kernel
theorem rh_19 : ml_arr (rwl rh19) = 0 ∧ ∀ j, j < 364 → ml_goes (rwl rh19) j = rwl rh20 j := by decide +kernel
theorem rh_20 : ml_arr (rwl rh20) = 0 ∧ ∀ j, j < 364 → ml_goes (rwl rh20) j = rwl rh21 j := by decide +kernel
theorem rh_21 : ml_arr (rwl rh21) = 0 ∧ ∀ j, j < 364 → ml_goes (rwl rh21) j = rwl rh22 j := by decide +kernel
theorem rh_22 : ml_arr (rwl rh22) = 0 ∧ ∀ j, j < 364 → ml_goes (rwl rh22) j = rwl rh23 j := by decide +kernel
theorem rh_23 : ml_arr (rwl rh23) = 0 ∧ ∀ j, j < 364 → ml_goes (rwl rh23) j = rwl rh24 j := by decide +kernel
theorem rh_24 : ml_arr (rwl rh24) = 0 ∧ ∀ j, j < 364 → ml_goes (rwl rh24) j = rwl rh25 j := by decide +kernel
theorem rh_25 : ml_arr (rwl rh25) = 0 ∧ ∀ j, j < 364 → ml_goes (rwl rh25) j = rwl rh26 j := by decide +kernel
theorem rh_26 : ml_arr (rwl rh26) = 0 ∧ ∀ j, j < 364 → ml_goes (rwl rh26) j = rwl rh27 j := by decide +kernel
theorem rh_27 : ml_arr (rwl rh27) = 0 ∧ ∀ j, j < 364 → ml_goes (rwl rh27) j = rwl rh28 j := by decide +kernel
