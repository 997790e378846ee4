/-! ===== doubles as rationals: the values, a NaN's bits left out ===== -/
abbrev Dt : Type := FP.Core.Datum
abbrev dV (x : UInt64) : Dt := FP.Core.val64 x
def fAdd (x y : Dt) : Dt := FP.Core.round FP.Core.b64 (FP.Core.exactSum x y)
def fSub (x y : Dt) : Dt := FP.Core.round FP.Core.b64 (FP.Core.exactSum x (FP.Core.negate y))
def fMul (x y : Dt) : Dt := FP.Core.round FP.Core.b64 (FP.Core.exactProduct x y)
def fDiv (x y : Dt) : Dt := FP.Core.quotient FP.Core.b64 x y
def fNeg (x : Dt) : Dt := FP.Core.negate x
def fI (i : Int32) : Dt := dV (FP.i2d i)
def fO (x y : Dt) : Option Ordering := FP.Core.order x y
/-- 2^q -/
abbrev zp (q : Int) : Rat := (2 : Rat) ^ q
/-- half a unit in the last place -/
abbrev uu : Rat := 1 / 9007199254740992
abbrev ty : Rat := zp (-1075)
theorem two_ne : (2 : Rat) ≠ 0 := by decide
theorem zp_pos (q : Int) : 0 < zp q := Rat.zpow_pos (by decide)
theorem zp_add (a b : Int) : zp (a + b) = zp a * zp b := Rat.zpow_add two_ne a b
theorem zp_nat (n : Nat) : zp (n : Int) = ((2 ^ n : Nat) : Rat) := by
  rw [Rat.natCast_pow]
  exact Rat.zpow_natCast 2 n
theorem zp_split (e q : Int) : zp e * ((2 ^ (q - e).toNat : Nat) : Rat) = zp q * ((2 ^ (e - q).toNat : Nat) : Rat) := by
  rw [← zp_nat, ← zp_nat, ← zp_add, ← zp_add, show e + ((q - e).toNat : Int) = q + ((e - q).toNat : Int) by omega]
theorem zp_le {a b : Int} (h : a ≤ b) : zp a ≤ zp b := by
  have e1 : b = a + ((b - a).toNat : Int) := by omega
  rw [e1, zp_add, zp_nat]
  have h1 : (1 : Rat) ≤ ((2 ^ (b - a).toNat : Nat) : Rat) := by
    have := Rat.natCast_le_natCast.mpr (Nat.one_le_two_pow (n := (b - a).toNat))
    exact this
  have h2 := Rat.mul_le_mul_of_nonneg_left h1 (Rat.le_of_lt (zp_pos a))
  rw [Rat.mul_one] at h2
  exact h2
theorem below_rat {A B : Nat} {a : Int} : FP.Core.Below A B a ↔ (A : Rat) < (B : Rat) * zp a := by
  have h0 : (0 : Rat) < ((2 ^ (-a).toNat : Nat) : Rat) := Rat.natCast_pos.mpr (Nat.two_pow_pos _)
  have h1 : zp a * ((2 ^ (-a).toNat : Nat) : Rat) = ((2 ^ a.toNat : Nat) : Rat) := by
    have h := zp_split a 0
    rw [show (0 : Int) - a = -a by omega, show a - 0 = a by omega] at h
    rw [h]
    show zp 0 * _ = _
    rw [show zp 0 = 1 from Rat.zpow_zero 2, Rat.one_mul]
  unfold FP.Core.Below
  rw [← Rat.mul_lt_mul_right h0, Rat.mul_assoc, h1, ← Rat.natCast_mul, ← Rat.natCast_mul, Rat.natCast_lt_natCast]
/-- the magnitude A / B * 2^e -/
abbrev mag (A B : Nat) (e : Int) : Rat := (A : Rat) / (B : Rat) * zp e
theorem mag_units {A B : Nat} (hB : 0 < B) (e q : Int) : mag A B e * ((FP.Core.unitsDen B e q : Nat) : Rat) = ((FP.Core.unitsNum A e q : Nat) : Rat) * zp q := by
  have hB' : (B : Rat) ≠ 0 := fun h => absurd (Rat.natCast_eq_zero_iff.mp h) (by omega)
  unfold FP.Core.unitsDen FP.Core.unitsNum
  rw [Rat.natCast_mul, Rat.natCast_mul]
  have h1 := zp_split e q
  have h2 : (A : Rat) / (B : Rat) * (B : Rat) = (A : Rat) := Rat.div_mul_cancel hB'
  show (A : Rat) / (B : Rat) * zp e * ((B : Rat) * ((2 ^ (q - e).toNat : Nat) : Rat)) = (A : Rat) * ((2 ^ (e - q).toNat : Nat) : Rat) * zp q
  generalize (A : Rat) / (B : Rat) = X at h2 ⊢
  generalize ((2 ^ (q - e).toNat : Nat) : Rat) = U at h1 ⊢
  generalize ((2 ^ (e - q).toNat : Nat) : Rat) = V at h1 ⊢
  generalize zp e = E at h1 ⊢
  generalize zp q = F at h1 ⊢
  rw [← h2]
  grind
theorem mag_below {A B : Nat} (hB : 0 < B) {e a : Int} : FP.Core.Below A B (a - e) ↔ mag A B e < zp a := by
  have hB0 : (0 : Rat) < (B : Rat) := Rat.natCast_pos.mpr hB
  have hB' : (B : Rat) ≠ 0 := fun h => absurd (Rat.natCast_eq_zero_iff.mp h) (by omega)
  have h2 : (A : Rat) / (B : Rat) * (B : Rat) = (A : Rat) := Rat.div_mul_cancel hB'
  rw [below_rat]
  have h3 : (B : Rat) * zp (a - e) * zp e = (B : Rat) * zp a := by
    rw [Rat.mul_assoc, ← zp_add, show a - e + e = a by omega]
  rw [← Rat.mul_lt_mul_right (zp_pos e), h3, ← Rat.mul_lt_mul_right (a := mag A B e) hB0]
  have h4 : mag A B e * (B : Rat) = (A : Rat) * zp e := by
    show (A : Rat) / (B : Rat) * zp e * (B : Rat) = _
    rw [Rat.mul_assoc, Rat.mul_comm (zp e), ← Rat.mul_assoc, h2]
  rw [h4, Rat.mul_comm (zp a)]
theorem mag_nonneg (A B : Nat) (e : Int) : 0 ≤ mag A B e := by
  by_cases hB : B = 0
  · subst hB
    show 0 ≤ (A : Rat) / ((0 : Nat) : Rat) * zp e
    have h : (A : Rat) / ((0 : Nat) : Rat) = 0 := by
      show (A : Rat) * ((0 : Nat) : Rat)⁻¹ = 0
      rw [show (((0 : Nat) : Rat)) = 0 from rfl, Rat.inv_zero, Rat.mul_zero]
    rw [h, Rat.zero_mul]
    exact Rat.le_refl
  · have hB0 : (0 : Rat) < (B : Rat) := Rat.natCast_pos.mpr (by omega)
    refine Rat.mul_nonneg (Rat.mul_nonneg Rat.natCast_nonneg ?_) (Rat.le_of_lt (zp_pos e))
    exact Rat.le_of_lt (Rat.inv_pos.mpr hB0)
