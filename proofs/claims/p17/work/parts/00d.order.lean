/-! ===== order, whole numbers, constants ===== -/
theorem zp_ne (q : Int) : zp q ≠ 0 := fun h => absurd (zp_pos q) (by rw [h]; decide +kernel)
theorem fO_val {x y : Dt} (hx : fn x) (hy : fn y) : (fO x y = some .lt ↔ rv x < rv y) ∧ (fO x y = some .gt ↔ rv y < rv x) ∧ (fO x y = some .eq ↔ rv x = rv y) := by
  obtain ⟨s, c, q, rfl⟩ := hx
  obtain ⟨t, d, r, rfl⟩ := hy
  have h2 : ∀ (s : Bool) (c : Nat) (q e : Int), e ≤ q → rv (.fin s c q) = ((FP.Core.signed s (FP.Core.inUnits c q e) : Int) : Rat) * zp e := by
    intro s c q e h
    unfold FP.Core.inUnits
    rw [FP.Core.signed_mul, Rat.intCast_mul, Rat.mul_assoc]
    have h3 : (((2 ^ (q - e).toNat : Nat) : Int) : Rat) * zp e = zp q := by
      show ((2 ^ (q - e).toNat : Nat) : Rat) * zp e = zp q
      rw [← zp_nat, ← zp_add, show ((q - e).toNat : Int) + e = q by omega]
    rw [h3]
    rfl
  have e1 := h2 s c q (min q r) (by omega)
  have e2 := h2 t d r (min q r) (by omega)
  have hz := zp_pos (min q r)
  rw [e1, e2]
  show (some (compare (FP.Core.signed s (FP.Core.inUnits c q (min q r))) (FP.Core.signed t (FP.Core.inUnits d r (min q r)))) = _ ↔ _) ∧ (some (compare _ _) = _ ↔ _) ∧ (some (compare _ _) = _ ↔ _)
  generalize FP.Core.signed s (FP.Core.inUnits c q (min q r)) = a
  generalize FP.Core.signed t (FP.Core.inUnits d r (min q r)) = b
  generalize zp (min q r) = Z at hz
  have hlt : ∀ a b : Int, ((a : Rat) * Z < (b : Rat) * Z ↔ a < b) := fun a b => (Rat.mul_lt_mul_right hz).trans Rat.intCast_lt_intCast
  rw [hlt, hlt]
  have heq : ((a : Rat) * Z = (b : Rat) * Z ↔ a = b) := by
    constructor
    · intro h
      have n1 : ¬ a < b := fun z => by have := (hlt a b).mpr z; rw [h] at this; exact Rat.lt_irrefl this
      have n2 : ¬ b < a := fun z => by have := (hlt b a).mpr z; rw [h] at this; exact Rat.lt_irrefl this
      omega
    · intro h; rw [h]
  rw [heq, FP.Core.compare_ite]
  by_cases h1 : a < b
  · simp [h1]; omega
  · by_cases h3 : a = b
    · simp [h3]
    · have : b < a := by omega
      simp [h1, h3, this]
theorem i2d_whole (i : Int32) : FP.Core.Whole i.toInt (fI i) := by
  have h := FP.Core.l2d_whole (a := i.toInt64) (by
    unfold FP.Core.Small53
    rw [Int32.toInt_toInt64]
    have h1 := Int32.toInt_lt i
    have h2 := Int32.le_toInt i
    omega)
  rw [Int32.toInt_toInt64, ← FP.Core.i2d_l2d] at h
  exact h
theorem whole_val {i : Int} {d : Dt} (h : FP.Core.Whole i d) : fn d ∧ rv d = (i : Rat) := by
  cases d with
  | nan => exact h.elim
  | inf s => exact h.elim
  | fin s c q =>
    refine ⟨⟨s, c, q, rfl⟩, ?_⟩
    have h0 : FP.Core.signed s (c * 2 ^ q.toNat) = i * ((2 ^ (-q).toNat : Nat) : Int) := h
    have h1 : ((FP.Core.signed s (c * 2 ^ q.toNat) : Int) : Rat) = ((i * ((2 ^ (-q).toNat : Nat) : Int) : Int) : Rat) := congrArg (fun z : Int => (z : Rat)) h0
    rw [FP.Core.signed_mul, Rat.intCast_mul, Rat.intCast_mul] at h1
    have h2 := zp_split q 0
    rw [show (0 : Int) - q = -q by omega, show q - 0 = q by omega, show zp 0 = 1 from Rat.zpow_zero 2, Rat.one_mul] at h2
    have hp : (0 : Rat) < ((2 ^ (-q).toNat : Nat) : Rat) := Rat.natCast_pos.mpr (Nat.two_pow_pos _)
    show ((FP.Core.signed s c : Int) : Rat) * zp q = (i : Rat)
    have h3 : ((((2 ^ (-q).toNat : Nat) : Int)) : Rat) = ((2 ^ (-q).toNat : Nat) : Rat) := rfl
    have h4 : ((((2 ^ q.toNat : Nat) : Int)) : Rat) = ((2 ^ q.toNat : Nat) : Rat) := rfl
    rw [h3, h4, ← h2] at h1
    generalize ((2 ^ (-q).toNat : Nat) : Rat) = W at hp h1
    have h5 : (((FP.Core.signed s c : Int) : Rat) * zp q - (i : Rat)) * W = 0 := by grind
    rcases Rat.mul_eq_zero.mp h5 with h6 | h6
    · grind
    · rw [h6] at hp; exact absurd hp Rat.lt_irrefl
theorem fI_val (i : Int32) : fn (fI i) ∧ rv (fI i) = (i.toInt : Rat) := whole_val (i2d_whole i)
theorem fn_c {b : UInt64} {r : Rat} (h : (match dV b with | .fin s c q => decide (((FP.Core.signed s c : Int) : Rat) * zp q = r) | _ => false) = true) : fn (dV b) ∧ rv (dV b) = r := by
  cases e : dV b with
  | nan => rw [e] at h; cases h
  | inf s => rw [e] at h; cases h
  | fin s c q =>
    rw [e] at h
    exact ⟨⟨s, c, q, rfl⟩, of_decide_eq_true h⟩
theorem c_zero : fn (dV 0) ∧ rv (dV 0) = 0 := fn_c (by decide +kernel)
theorem c_one : fn (dV 4607182418800017408) ∧ rv (dV 4607182418800017408) = 1 := fn_c (by decide +kernel)
theorem c_100 : fn (dV 4636737291354636288) ∧ rv (dV 4636737291354636288) = 100 := fn_c (by decide +kernel)
theorem c_1000 : fn (dV 4652007308841189376) ∧ rv (dV 4652007308841189376) = 1000 := fn_c (by decide +kernel)
theorem c_1e6 : fn (dV 4696837146684686336) ∧ rv (dV 4696837146684686336) = 1000000 := fn_c (by decide +kernel)
theorem c_1e9 : fn (dV 4741671816366391296) ∧ rv (dV 4741671816366391296) = 1000000000 := fn_c (by decide +kernel)
theorem c_micro : fn (dV 4517329193108106637) ∧ 1 / 1000001 ≤ rv (dV 4517329193108106637) := by
  have h := fn_c (b := 4517329193108106637) (r := 4722366482869645 * zp (-72)) (by decide +kernel)
  exact ⟨h.1, by rw [h.2]; decide +kernel⟩
/-! ===== what isn't NaN ===== -/
theorem nn_round {d : Dt} (h : d ≠ .nan) : FP.Core.round FP.Core.b64 d ≠ .nan := by
  cases d with
  | nan => exact absurd rfl h
  | inf s => exact fun h => FP.Core.Datum.noConfusion h
  | fin s c q => exact rr_nn s c 1 q
theorem nn_add {x y : Dt} (hx : fn x) (hy : y ≠ .nan) : fAdd x y ≠ .nan := by
  obtain ⟨s, c, q, rfl⟩ := hx
  refine nn_round ?_
  cases y with
  | nan => exact absurd rfl hy
  | inf s => exact fun h => FP.Core.Datum.noConfusion h
  | fin t d r => exact fun h => FP.Core.Datum.noConfusion h
theorem nn_mul {x y : Dt} (hx : fn x) (hy : fn y) : fMul x y ≠ .nan := by
  obtain ⟨s, c, q, rfl⟩ := hx
  obtain ⟨t, d, r, rfl⟩ := hy
  exact nn_round fun h => FP.Core.Datum.noConfusion h
