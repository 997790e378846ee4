/-! ===== rounding: how near ===== -/
theorem settle_val {s t : Bool} {m c : Nat} {r q : Int} (hm : m ≤ 2 ^ 53) (h : FP.Core.settle FP.Core.b64 s m r = .fin t c q) : t = s ∧ (c : Rat) * zp q = (m : Rat) * zp r := by
  unfold FP.Core.settle FP.Core.bound at h
  split at h
  · split at h
    · cases h; exact ⟨rfl, rfl⟩
    · cases h
  · rename_i h1
    have h2 : m = 2 ^ 53 := by
      have : ¬ m < 2 ^ 53 := h1
      omega
    split at h
    · cases h
      refine ⟨rfl, ?_⟩
      subst h2
      rw [zp_add]
      have e1 : ((FP.Core.b64.tails : Nat) : Rat) * zp 1 = ((2 ^ 53 : Nat) : Rat) := by decide +kernel
      rw [← e1]
      grind
    · cases h
theorem zp_half (r : Int) : zp (r - 1) * 2 = zp r := by
  have h := zp_add (r - 1) 1
  rw [show r - 1 + 1 = r by omega] at h
  rw [h]
  rfl
theorem zp_52 (r : Int) : zp (r + 52) = zp r * 4503599627370496 := by
  rw [zp_add]
  have : zp 52 = 4503599627370496 := by decide +kernel
  rw [this]
theorem rr_near {s t : Bool} {A B c : Nat} {e q : Int} (hB : 0 < B) (h : FP.Core.roundRatio FP.Core.b64 s A B e = .fin t c q) :
    t = s ∧ (c : Rat) * zp q ≤ mag A B e + (uu * mag A B e + ty) ∧ mag A B e ≤ (c : Rat) * zp q + (uu * mag A B e + ty) := by
  have hm0 := mag_nonneg A B e
  have hty : 0 < ty := zp_pos _
  unfold FP.Core.roundRatio at h
  split at h
  · rename_i hA
    cases h
    subst hA
    have h0 : mag 0 B e = 0 := by
      show ((0 : Nat) : Rat) / (B : Rat) * zp e = 0
      show ((0 : Nat) : Rat) * (B : Rat)⁻¹ * zp e = 0
      rw [show (((0 : Nat) : Rat)) = 0 from rfl, Rat.zero_mul, Rat.zero_mul]
    rw [h0]
    refine ⟨rfl, ?_, ?_⟩
    · rw [show (((0 : Nat) : Rat)) = 0 from rfl, Rat.zero_mul]; grind
    · rw [show (((0 : Nat) : Rat)) = 0 from rfl, Rat.zero_mul]; grind
  · rename_i hA0
    have hA : 0 < A := by omega
    have g2 := FP.Core.nearest_units_le (f := FP.Core.b64) hA hB e
    have g3 := FP.Core.quantum_not_below (f := FP.Core.b64) hA hB e
    unfold FP.Core.roundAt at h
    generalize FP.Core.quantum FP.Core.b64 A B e = r at h g2 g3
    have hD := FP.Core.unitsDen_pos hB e r
    have hmu := mag_units (A := A) hB e r
    obtain ⟨n1, n2, -⟩ := FP.Core.nearest_spec (FP.Core.unitsNum A e r) (FP.Core.unitsDen B e r) hD
    generalize FP.Core.nearest (FP.Core.unitsNum A e r) (FP.Core.unitsDen B e r) = m at h g2 n1 n2
    obtain ⟨ht, hv⟩ := settle_val g2 h
    refine ⟨ht, ?_⟩
    rw [hv]
    generalize FP.Core.unitsNum A e r = N at hmu n1 n2
    generalize FP.Core.unitsDen B e r = D at hD hmu n1 n2
    have hD' : (0 : Rat) < (D : Rat) := Rat.natCast_pos.mpr hD
    have m1 : 2 * (N : Rat) ≤ (2 * (m : Rat) + 1) * (D : Rat) := by
      have := Rat.natCast_le_natCast.mpr n1
      rw [Rat.natCast_mul, Rat.natCast_mul, Rat.natCast_add, Rat.natCast_mul] at this
      exact this
    have m2 : 2 * (m : Rat) * (D : Rat) ≤ 2 * (N : Rat) + (D : Rat) := by
      have := Rat.natCast_le_natCast.mpr n2
      rw [Rat.natCast_mul, Rat.natCast_mul, Rat.natCast_add, Rat.natCast_mul] at this
      exact this
    have hz := zp_pos r
    have hu : zp r / 2 ≤ uu * mag A B e + ty := by
      rcases g3 with g3 | g3
      · have e1 : r = -1074 := g3.trans (by decide)
        have e2 := zp_half (-1074)
        rw [e1]
        have e3 : (zp (-1074) : Rat) / 2 = ty := by
          show zp (-1074) / 2 = zp (-1074 - 1)
          grind
        rw [e3]
        have : 0 ≤ uu * mag A B e := Rat.mul_nonneg (by decide +kernel) hm0
        grind
      · have e1 : ¬ mag A B e < zp (r + 52) := by
          rw [← mag_below hB]
          rw [show r + 52 - e = r - e + (((FP.Core.b64.p : Nat) : Int) - 1) by show r + 52 - e = r - e + (53 - 1); omega]
          exact g3
        rw [zp_52] at e1
        have e2 := Rat.not_lt.mp e1
        grind
    generalize mag A B e = X at *
    generalize (m : Rat) = M at *
    generalize (N : Rat) = N' at *
    generalize (D : Rat) = D' at *
    generalize zp r = Z at *
    generalize ty = T at *
    have k1 : (M * Z) * D' ≤ (X + Z / 2) * D' := by
      have := Rat.mul_le_mul_of_nonneg_right m2 (Rat.le_of_lt hz)
      grind
    have k2 : X * D' ≤ (M * Z + Z / 2) * D' := by
      have := Rat.mul_le_mul_of_nonneg_right m1 (Rat.le_of_lt hz)
      grind
    have k3 := Rat.le_of_mul_le_mul_right k1 hD'
    have k4 := Rat.le_of_mul_le_mul_right k2 hD'
    constructor
    · grind
    · grind
theorem rr_fin {s : Bool} {A B : Nat} {e : Int} (hB : 0 < B) (h : mag A B e < zp 1023) : ∃ c q, FP.Core.roundRatio FP.Core.b64 s A B e = .fin s c q := by
  unfold FP.Core.roundRatio
  split
  · exact ⟨0, _, rfl⟩
  · rename_i hA0
    have hA : 0 < A := by omega
    have hq : FP.Core.quantum FP.Core.b64 A B e ≤ 970 := by
      have l1 := FP.Core.lt_of_below (FP.Core.leading_spec hA hB).1 ((mag_below hB).mpr h)
      unfold FP.Core.quantum
      have e1 : FP.Core.b64.qmin = -1074 := by decide
      have e2 : ((FP.Core.b64.p : Nat) : Int) = 53 := rfl
      rw [e1, e2]
      omega
    unfold FP.Core.roundAt
    generalize FP.Core.quantum FP.Core.b64 A B e = r at hq
    have e3 : FP.Core.b64.qmax = 971 := by decide
    unfold FP.Core.settle FP.Core.bound
    split
    · rw [if_pos (by rw [e3]; omega)]; exact ⟨_, _, rfl⟩
    · rw [if_pos (by rw [e3]; omega)]; exact ⟨_, _, rfl⟩
/-- never NaN -/
theorem rr_nn (s : Bool) (A B : Nat) (e : Int) : FP.Core.roundRatio FP.Core.b64 s A B e ≠ .nan := by
  unfold FP.Core.roundRatio
  split
  · exact fun h => FP.Core.Datum.noConfusion h
  · unfold FP.Core.roundAt FP.Core.settle FP.Core.bound
    split
    · split <;> exact fun h => FP.Core.Datum.noConfusion h
    · split <;> exact fun h => FP.Core.Datum.noConfusion h
