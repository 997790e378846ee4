/-! ===== exceptions ===== -/
abbrev exO : String := "java/lang/IndexOutOfBoundsException"
abbrev exA : String := "java/lang/IllegalArgumentException"
abbrev exS : String := "java/lang/IllegalStateException"
abbrev exN : List String := ["java/lang/RuntimeException", "java/lang/Exception"]
/-- the words of a throw that no method's own list holds -/
abbrev exB : List Cond := [.castable exO exO, .castable exA exA, .castable exS exS, .declares (Bundle.initS "java/lang/RuntimeException"), .declares (Bundle.initS "java/lang/Exception"), .declares (Bundle.initS Bundle.tN)]
theorem at_bO : ∀ w ∈ (vx_atS RX3 34 exO exN).filter (fun w => !goodWord w), w ∈ exB := by decide +kernel
theorem at_bA : ∀ w ∈ (vx_atS RX3 41 exA exN).filter (fun w => !goodWord w), w ∈ exB := by decide +kernel
theorem at_bS : ∀ w ∈ (vx_atS RX3 60 exS exN).filter (fun w => !goodWord w), w ∈ exB := by decide +kernel
theorem at_oO : ∀ w ∈ Cond.classLink RX3 30 exO :: Cond.initialized exO :: vx_atS RX3 34 exO exN, vx_ot w = true := by decide +kernel
theorem at_oA : ∀ w ∈ Cond.classLink RX3 37 exA :: Cond.initialized exA :: vx_atS RX3 41 exA exN, vx_ot w = true := by decide +kernel
theorem at_oS : ∀ w ∈ Cond.classLink RX3 56 exS :: Cond.initialized exS :: vx_atS RX3 60 exS exN, vx_ot w = true := by decide +kernel
/-- the texts of EchoBench's exceptions, by their places in its pool -/
abbrev exT : List (Nat × String) := [(32, "no such place"), (39, "hundredths out of range"), (46, "kind out of range"), (48, "taps out of range"), (54, "step out of range"), (58, "no room for another filter"), (68, "no such filter"), (76, "tail out of range"), (87, "x out of range"), (89, "talk out of range"), (94, "no more samples"), (100, "v out of range"), (102, "many out of range"), (108, "no such tap"), (125, "what out of range"), (146, "no such row"), (148, "no such column"), (154, "no RLS")]
def NT (A : Nat → Prop) (U : State) : Prop := (∀ x ∈ exT, ∃ a, vk_R RX3 x.1 x.2 a U) ∧ (∀ w ∈ exB, w.before #[] U = true) ∧ vx_Zq Bundle.tN "UNASSIGNED_STACK" Bundle.steD A U U.heap ∧ vx_Zq Bundle.tN "SUPPRESSED_SENTINEL" Bundle.listD A U U.heap
theorem exB_ot : ∀ w ∈ exB, vx_ot w = true := by decide +kernel
theorem NT.bad {A : Nat → Prop} {s : State} {args : Array Value} (h : NT A s) : ∀ w ∈ exB, w.before args s = true := fun w hw => vx_ot_at (State.WarmedH.refl s) rfl (exB_ot w hw) (h.2.1 w hw)
/-- a throwing contract's start -/
def PreX (G : va_G) (q : Nat → ClassId) (av : List Value) (w : va_W) (sz : Nat) : Array Value → State → Prop := fun a U => PreW G q av w sz a U ∧ NT (va_A w sz) U
theorem preX_blind {G : va_G} {q : Nat → ClassId} {av : List Value} {w : va_W} {sz : Nat} : FrameBlind (PreX G q av w sz) := by
  intro a U g mk h
  refine ⟨preW_blind _ _ _ _ h.1, fun x hx => ?_, fun w hw => ?_, ?_, ?_⟩
  · obtain ⟨b, hb⟩ := h.2.1 x hx
    exact ⟨b, vk_R.same (u := U) rfl hb⟩
  · exact vx_ot_at (s := U) (State.WarmedH.refl U) rfl (exB_ot w hw) (h.2.2.1 w hw)
  · exact vx_Zq.moved (Vm.Alike.refl U.vm) h.2.2.2.1
  · exact vx_Zq.moved (Vm.Alike.refl U.vm) h.2.2.2.2
def exE1 (k : Int32) : String := if k = 1 then exO else exA
def exE2 (k : Int32) : String := if k = 1 then exA else exS
def exE3 (k : Int32) : String := if k = 1 then exO else exS
