theorem if_iff {α : Type} {a b : Prop} [Decidable a] [Decidable b] (h : a ↔ b) (x y : α) : (if a then x else y) = if b then x else y := by
  by_cases q : a
  · rw [if_pos q, if_pos (h.mp q)]
  · rw [if_neg q, if_neg (fun z => q (h.mpr z))]

/-! ===== where the class's arithmetic is + * / , hear is the reference's ===== -/
theorem gSm_M (hA : ∀ a b, gAdd a b = fAdd a b) (a : Dt) (f : Nat → Dt) (n : Nat) : gSm a f n = smN a f n := by
  induction n with
  | zero => rfl
  | succ n ih =>
    show gAdd _ _ = fAdd _ _
    rw [ih, hA]
theorem gOut_M (hA : ∀ a b, gAdd a b = fAdd a b) (hM : ∀ a b, gMul a b = fMul a b) (n : Nat) (w : Nat → Dt) (xi : Nat → Int32) : gOut n w xi = sOut n w xi := by
  unfold gOut sOut
  rw [gSm_M hA]
  all_goals exact smN_congr fun i _ => hM _ _
theorem gM_M (hA : ∀ a b, gAdd a b = fAdd a b) (hM : ∀ a b, gMul a b = fMul a b) (n : Nat) (st : Dt) (P : Nat → Nat → Dt) (xi : Nat → Int32) : gM n st P xi = sM n st P xi := by
  unfold gM sM
  rw [gSm_M hA]
  all_goals exact smN_congr fun i _ => by rw [hM, gOut_M hA hM]
theorem gK_M (hA : ∀ a b, gAdd a b = fAdd a b) (hM : ∀ a b, gMul a b = fMul a b) (hD : ∀ a b, gDiv a b = fDiv a b) (n : Nat) (st : Dt) (P : Nat → Nat → Dt) (xi : Nat → Int32) (i : Nat) : gK n st P xi i = rK n st P xi i := by
  unfold gK rK
  rw [hD, gOut_M hA hM, gM_M hA hM]
theorem gQ_M (hA : ∀ a b, gAdd a b = fAdd a b) (hM : ∀ a b, gMul a b = fMul a b) (hD : ∀ a b, gDiv a b = fDiv a b) (hS : ∀ a b, gSub a b = fSub a b) (n : Nat) (st : Dt) (P : Nat → Nat → Dt) (xi : Nat → Int32) (i j : Nat) : gQ n st P xi i j = rQ n st P xi i j := by
  unfold gQ rQ
  rw [hS, hM, gK_M hA hM hD, gOut_M hA hM]
theorem gLow_M (hA : ∀ a b, gAdd a b = fAdd a b) (hM : ∀ a b, gMul a b = fMul a b) (n : Nat) (st : Dt) (P : Nat → Nat → Dt) (xi : Nat → Int32) : gLow n st P xi ↔ rLow n st P xi := by
  unfold gLow rLow
  rw [gM_M hA hM]
theorem gAll_M (hB : ∀ d, gSnd d ↔ ¬ rBad d) (f : Nat → Dt) (n : Nat) : gAll f n = true ↔ ¬ rOv f n = true := by
  induction n with
  | zero => exact ⟨fun _ h => (by cases h), fun _ => rfl⟩
  | succ n ih =>
    show (gAll f n && decide (gSnd (f n))) = true ↔ ¬ (rOv f n || decide (rBad (f n))) = true
    rw [Bool.and_eq_true, Bool.or_eq_true, ih, decide_eq_true_eq, decide_eq_true_eq, hB]
    exact ⟨fun z y => y.elim z.1 z.2, fun z => ⟨fun y => z (Or.inl y), fun y => z (Or.inr y)⟩⟩
theorem gRes_M (hA : ∀ a b, gAdd a b = fAdd a b) (hM : ∀ a b, gMul a b = fMul a b) (hD : ∀ a b, gDiv a b = fDiv a b) (hS : ∀ a b, gSub a b = fSub a b) (hB : ∀ d, gSnd d ↔ ¬ rBad d) (n : Nat) (st : Dt) (P : Nat → Nat → Dt) (xi : Nat → Int32) : gRes n st P xi ↔ rRes n st P xi = true := by
  unfold rRes
  rw [Bool.or_eq_true, decide_eq_true_eq]
  show (gLow n st P xi ∨ ¬ gAll (fun i => gQ n st P xi i i) n = true) ↔ _
  rw [gLow_M hA hM, gAll_M hB, Classical.not_not, show (fun i => gQ n st P xi i i) = fun i => rQ n st P xi i i from funext fun i => gQ_M hA hM hD hS n st P xi i i]
theorem gW_M (hA : ∀ a b, gAdd a b = fAdd a b) (hM : ∀ a b, gMul a b = fMul a b) (hD : ∀ a b, gDiv a b = fDiv a b) (n : Nat) (mu er : Dt) (P : Nat → Nat → Dt) (xi : Nat → Int32) (w : Dt) (j : Nat) : gW n mu er P xi w j = rW n mu er P xi w j := by
  unfold gW rW
  rw [if_iff (gLow_M hA hM n mu P xi), hM, gK_M hA hM hD]
theorem gP_M (hA : ∀ a b, gAdd a b = fAdd a b) (hM : ∀ a b, gMul a b = fMul a b) (hD : ∀ a b, gDiv a b = fDiv a b) (hS : ∀ a b, gSub a b = fSub a b) (hB : ∀ d, gSnd d ↔ ¬ rBad d) (n : Nat) (mu : Dt) (P : Nat → Nat → Dt) (xi : Nat → Int32) (a c : Nat) : gP n mu P xi a c = rP n mu P xi a c := by
  unfold gP rP
  rw [if_iff (gRes_M hA hM hD hS hB n mu P xi), gQ_M hA hM hD hS]
theorem hearG_M (hA : ∀ a b, gAdd a b = fAdd a b) (hM : ∀ a b, gMul a b = fMul a b) (hD : ∀ a b, gDiv a b = fDiv a b) (hS : ∀ a b, gSub a b = fSub a b) (hB : ∀ d, gSnd d ↔ ¬ rBad d) (xi : Nat → Int32) (mi : Dt) (v : FV) : hearG xi mi v = hearM xi mi v := by
  unfold hearG
  by_cases hk : v.1.1 = 3
  · rw [if_pos hk]
    unfold hear3 hearM
    refine Prod.ext rfl (Prod.ext (Prod.ext rfl (Prod.ext rfl (Prod.ext rfl ?_))) (Prod.ext rfl (Prod.ext ?_ (Prod.ext rfl ?_))))
    · show (if hmHold' xi mi v then v.2.1.2.2.2 else if gRes (hmN v) (hmMu v) v.2.2.2.2.2 xi then v.2.1.2.2.2 + 1 else v.2.1.2.2.2) = if hmLearnsP xi mi v ∧ rRes (hmN v) (hmMu v) v.2.2.2.2.2 xi = true then v.2.1.2.2.2 + 1 else v.2.1.2.2.2
      by_cases a : hmHold' xi mi v
      · rw [if_pos a, if_neg (fun z => z.1.1 a)]
      · rw [if_neg a]
        exact if_iff ((gRes_M hA hM hD hS hB _ _ _ _).trans ⟨fun z => ⟨⟨a, hk⟩, z⟩, fun z => z.2⟩) _ _
    · show cutN (hmN v) _ = cutN (hmN v) _
      refine cutN_eq fun j _ => ?_
      by_cases a : hmHold' xi mi v
      · rw [if_pos a, if_pos a]
      · rw [if_neg a, if_neg a, if_pos hk, gW_M hA hM hD]
    · show cutP (v.1.1 = 3) (hmN v) _ = cutP (v.1.1 = 3) (hmN v) _
      refine cutP_eq fun _ x y _ _ => ?_
      by_cases a : hmHold' xi mi v
      · rw [if_pos a, if_neg (fun z => z.1 a)]
      · rw [if_neg a, if_pos ⟨a, hk⟩, gP_M hA hM hD hS hB]
  · rw [if_neg hk]
theorem hear_all (l : Launch) : HearC l hearM := by
  have e : hearG = hearM := funext fun xi => funext fun mi => funext fun v => hearG_M (fun _ _ => rfl) (fun _ _ => rfl) (fun _ _ => rfl) (fun _ _ => rfl) (fun d => ⟨fun z y => y.elim z.1 z.2, fun z => ⟨fun y => z (Or.inl y), fun y => z (Or.inr y)⟩⟩) xi mi v
  rw [← e]
  exact c_hearG l
