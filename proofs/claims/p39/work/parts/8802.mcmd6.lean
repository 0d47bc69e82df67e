/-! ONE COMMAND OF A TEXT: THE REFERENCE, SILENCES AND SENDINGS -/
section Km6
variable {d : Nat} {M M' M0 : am_M} {w : am_W4} {tx : List Int32}
theorem i10 : ¬ nI 1 = (0 : Int32) := nI_ne0 (n := 1) (by decide) (by decide)
theorem i00 : nI 0 = (0 : Int32) := rfl
end Km6
