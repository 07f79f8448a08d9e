set_option maxRecDepth 100000 in
theorem ha_56_0 : ∀ w ∈ Bundle.ownAtoms "TokenScanner" 56 "java/lang/IllegalArgumentException" ["java/lang/RuntimeException", "java/lang/Exception"], w ∈ mg_G ∨ w ∈ mz_hw := by decide +kernel
