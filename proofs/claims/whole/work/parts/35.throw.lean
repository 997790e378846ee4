/-! ===== exceptions ===== -/
abbrev exO : String := "java/lang/IndexOutOfBoundsException"
abbrev exA : String := "java/lang/IllegalArgumentException"
abbrev exS : String := "java/lang/IllegalStateException"
abbrev exN : List String := ["java/lang/RuntimeException", "java/lang/Exception"]
/-- the words of a throw that no method's own list holds -/
abbrev exB : List Cond := [.castable exO exO, .castable exA exA, .castable exS exS, .declares (Bundle.initS "java/lang/RuntimeException"), .declares (Bundle.initS "java/lang/Exception"), .declares (Bundle.initS Bundle.tN)]
theorem at_bO : ∀ w ∈ (vx_atS RX3 34 exO exN).filter (fun w => !goodWord w), w ∈ exB := by decide +kernel
theorem at_bA : ∀ w ∈ (vx_atS RX3 41 exA exN).filter (fun w => !goodWord w), w ∈ exB := by decide +kernel
theorem at_bS : ∀ w ∈ (vx_atS RX3 60 exS exN).filter (fun w => !goodWord w), w ∈ exB := by decide +kernel
theorem at_oO : ∀ w ∈ Cond.classLink RX3 30 exO :: Cond.initialized exO :: vx_atS RX3 34 exO exN, vx_ot w = true := by decide +kernel
theorem at_oA : ∀ w ∈ Cond.classLink RX3 37 exA :: Cond.initialized exA :: vx_atS RX3 41 exA exN, vx_ot w = true := by decide +kernel
theorem at_oS : ∀ w ∈ Cond.classLink RX3 56 exS :: Cond.initialized exS :: vx_atS RX3 60 exS exN, vx_ot w = true := by decide +kernel
