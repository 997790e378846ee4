section
/-! ===== doubles as rationals: the values, a NaN's bits left out ===== -/
abbrev Dt : Type := FP.Core.Datum
abbrev dV (x : UInt64) : Dt := FP.Core.val64 x
def fAdd (x y : Dt) : Dt := FP.Core.round FP.Core.b64 (FP.Core.exactSum x y)
def fSub (x y : Dt) : Dt := FP.Core.round FP.Core.b64 (FP.Core.exactSum x (FP.Core.negate y))
def fMul (x y : Dt) : Dt := FP.Core.round FP.Core.b64 (FP.Core.exactProduct x y)
def fDiv (x y : Dt) : Dt := FP.Core.quotient FP.Core.b64 x y
def fNeg (x : Dt) : Dt := FP.Core.negate x
def fI (i : Int32) : Dt := dV (FP.i2d i)
def fO (x y : Dt) : Option Ordering := FP.Core.order x y
/-- 2^q -/
abbrev zp (q : Int) : Rat := (2 : Rat) ^ q
/-- half a unit in the last place -/
abbrev uu : Rat := 1 / 9007199254740992
abbrev ty : Rat := zp (-1075)
theorem two_ne : (2 : Rat) ≠ 0 := by decide
theorem zp_pos (q : Int) : 0 < zp q := Rat.zpow_pos (by decide)
theorem zp_add (a b : Int) : zp (a + b) = zp a * zp b := Rat.zpow_add two_ne a b
theorem zp_nat (n : Nat) : zp (n : Int) = ((2 ^ n : Nat) : Rat) := by
  rw [Rat.natCast_pow]
  exact Rat.zpow_natCast 2 n
theorem zp_split (e q : Int) : zp e * ((2 ^ (q - e).toNat : Nat) : Rat) = zp q * ((2 ^ (e - q).toNat : Nat) : Rat) := by
  rw [← zp_nat, ← zp_nat, ← zp_add, ← zp_add, show e + ((q - e).toNat : Int) = q + ((e - q).toNat : Int) by omega]
theorem zp_le {a b : Int} (h : a ≤ b) : zp a ≤ zp b := by
  have e1 : b = a + ((b - a).toNat : Int) := by omega
  rw [e1, zp_add, zp_nat]
  have h1 : (1 : Rat) ≤ ((2 ^ (b - a).toNat : Nat) : Rat) := by
    have := Rat.natCast_le_natCast.mpr (Nat.one_le_two_pow (n := (b - a).toNat))
    exact this
  have h2 := Rat.mul_le_mul_of_nonneg_left h1 (Rat.le_of_lt (zp_pos a))
  rw [Rat.mul_one] at h2
  exact h2
theorem below_rat {A B : Nat} {a : Int} : FP.Core.Below A B a ↔ (A : Rat) < (B : Rat) * zp a := by
  have h0 : (0 : Rat) < ((2 ^ (-a).toNat : Nat) : Rat) := Rat.natCast_pos.mpr (Nat.two_pow_pos _)
  have h1 : zp a * ((2 ^ (-a).toNat : Nat) : Rat) = ((2 ^ a.toNat : Nat) : Rat) := by
    have h := zp_split a 0
    rw [show (0 : Int) - a = -a by omega, show a - 0 = a by omega] at h
    rw [h]
    show zp 0 * _ = _
    rw [show zp 0 = 1 from Rat.zpow_zero 2, Rat.one_mul]
  unfold FP.Core.Below
  rw [← Rat.mul_lt_mul_right h0, Rat.mul_assoc, h1, ← Rat.natCast_mul, ← Rat.natCast_mul, Rat.natCast_lt_natCast]
/-- the magnitude A / B * 2^e -/
abbrev mag (A B : Nat) (e : Int) : Rat := (A : Rat) / (B : Rat) * zp e
theorem mag_units {A B : Nat} (hB : 0 < B) (e q : Int) : mag A B e * ((FP.Core.unitsDen B e q : Nat) : Rat) = ((FP.Core.unitsNum A e q : Nat) : Rat) * zp q := by
  have hB' : (B : Rat) ≠ 0 := fun h => absurd (Rat.natCast_eq_zero_iff.mp h) (by omega)
  unfold FP.Core.unitsDen FP.Core.unitsNum
  rw [Rat.natCast_mul, Rat.natCast_mul]
  have h1 := zp_split e q
  have h2 : (A : Rat) / (B : Rat) * (B : Rat) = (A : Rat) := Rat.div_mul_cancel hB'
  show (A : Rat) / (B : Rat) * zp e * ((B : Rat) * ((2 ^ (q - e).toNat : Nat) : Rat)) = (A : Rat) * ((2 ^ (e - q).toNat : Nat) : Rat) * zp q
  generalize (A : Rat) / (B : Rat) = X at h2 ⊢
  generalize ((2 ^ (q - e).toNat : Nat) : Rat) = U at h1 ⊢
  generalize ((2 ^ (e - q).toNat : Nat) : Rat) = V at h1 ⊢
  generalize zp e = E at h1 ⊢
  generalize zp q = F at h1 ⊢
  rw [← h2]
  grind
theorem mag_below {A B : Nat} (hB : 0 < B) {e a : Int} : FP.Core.Below A B (a - e) ↔ mag A B e < zp a := by
  have hB0 : (0 : Rat) < (B : Rat) := Rat.natCast_pos.mpr hB
  have hB' : (B : Rat) ≠ 0 := fun h => absurd (Rat.natCast_eq_zero_iff.mp h) (by omega)
  have h2 : (A : Rat) / (B : Rat) * (B : Rat) = (A : Rat) := Rat.div_mul_cancel hB'
  rw [below_rat]
  have h3 : (B : Rat) * zp (a - e) * zp e = (B : Rat) * zp a := by
    rw [Rat.mul_assoc, ← zp_add, show a - e + e = a by omega]
  rw [← Rat.mul_lt_mul_right (zp_pos e), h3, ← Rat.mul_lt_mul_right (a := mag A B e) hB0]
  have h4 : mag A B e * (B : Rat) = (A : Rat) * zp e := by
    show (A : Rat) / (B : Rat) * zp e * (B : Rat) = _
    rw [Rat.mul_assoc, Rat.mul_comm (zp e), ← Rat.mul_assoc, h2]
  rw [h4, Rat.mul_comm (zp a)]
theorem mag_nonneg (A B : Nat) (e : Int) : 0 ≤ mag A B e := by
  by_cases hB : B = 0
  · subst hB
    show 0 ≤ (A : Rat) / ((0 : Nat) : Rat) * zp e
    have h : (A : Rat) / ((0 : Nat) : Rat) = 0 := by
      show (A : Rat) * ((0 : Nat) : Rat)⁻¹ = 0
      rw [show (((0 : Nat) : Rat)) = 0 from rfl, Rat.inv_zero, Rat.mul_zero]
    rw [h, Rat.zero_mul]
    exact Rat.le_refl
  · have hB0 : (0 : Rat) < (B : Rat) := Rat.natCast_pos.mpr (by omega)
    refine Rat.mul_nonneg (Rat.mul_nonneg Rat.natCast_nonneg ?_) (Rat.le_of_lt (zp_pos e))
    exact Rat.le_of_lt (Rat.inv_pos.mpr hB0)
end
section
/-! ===== rounding: how near ===== -/
theorem settle_val {s t : Bool} {m c : Nat} {r q : Int} (hm : m ≤ 2 ^ 53) (h : FP.Core.settle FP.Core.b64 s m r = .fin t c q) : t = s ∧ (c : Rat) * zp q = (m : Rat) * zp r := by
  unfold FP.Core.settle FP.Core.bound at h
  split at h
  · split at h
    · cases h; exact ⟨rfl, rfl⟩
    · cases h
  · rename_i h1
    have h2 : m = 2 ^ 53 := by
      have : ¬ m < 2 ^ 53 := h1
      omega
    split at h
    · cases h
      refine ⟨rfl, ?_⟩
      subst h2
      rw [zp_add]
      have e1 : ((FP.Core.b64.tails : Nat) : Rat) * zp 1 = ((2 ^ 53 : Nat) : Rat) := by decide +kernel
      rw [← e1]
      grind
    · cases h
theorem zp_half (r : Int) : zp (r - 1) * 2 = zp r := by
  have h := zp_add (r - 1) 1
  rw [show r - 1 + 1 = r by omega] at h
  rw [h]
  rfl
theorem zp_52 (r : Int) : zp (r + 52) = zp r * 4503599627370496 := by
  rw [zp_add]
  have : zp 52 = 4503599627370496 := by decide +kernel
  rw [this]
theorem rr_near {s t : Bool} {A B c : Nat} {e q : Int} (hB : 0 < B) (h : FP.Core.roundRatio FP.Core.b64 s A B e = .fin t c q) :
    t = s ∧ (c : Rat) * zp q ≤ mag A B e + (uu * mag A B e + ty) ∧ mag A B e ≤ (c : Rat) * zp q + (uu * mag A B e + ty) := by
  have hm0 := mag_nonneg A B e
  have hty : 0 < ty := zp_pos _
  unfold FP.Core.roundRatio at h
  split at h
  · rename_i hA
    cases h
    subst hA
    have h0 : mag 0 B e = 0 := by
      show ((0 : Nat) : Rat) / (B : Rat) * zp e = 0
      show ((0 : Nat) : Rat) * (B : Rat)⁻¹ * zp e = 0
      rw [show (((0 : Nat) : Rat)) = 0 from rfl, Rat.zero_mul, Rat.zero_mul]
    rw [h0]
    refine ⟨rfl, ?_, ?_⟩
    · rw [show (((0 : Nat) : Rat)) = 0 from rfl, Rat.zero_mul]; grind
    · rw [show (((0 : Nat) : Rat)) = 0 from rfl, Rat.zero_mul]; grind
  · rename_i hA0
    have hA : 0 < A := by omega
    have g2 := FP.Core.nearest_units_le (f := FP.Core.b64) hA hB e
    have g3 := FP.Core.quantum_not_below (f := FP.Core.b64) hA hB e
    unfold FP.Core.roundAt at h
    generalize FP.Core.quantum FP.Core.b64 A B e = r at h g2 g3
    have hD := FP.Core.unitsDen_pos hB e r
    have hmu := mag_units (A := A) hB e r
    obtain ⟨n1, n2, -⟩ := FP.Core.nearest_spec (FP.Core.unitsNum A e r) (FP.Core.unitsDen B e r) hD
    generalize FP.Core.nearest (FP.Core.unitsNum A e r) (FP.Core.unitsDen B e r) = m at h g2 n1 n2
    obtain ⟨ht, hv⟩ := settle_val g2 h
    refine ⟨ht, ?_⟩
    rw [hv]
    generalize FP.Core.unitsNum A e r = N at hmu n1 n2
    generalize FP.Core.unitsDen B e r = D at hD hmu n1 n2
    have hD' : (0 : Rat) < (D : Rat) := Rat.natCast_pos.mpr hD
    have m1 : 2 * (N : Rat) ≤ (2 * (m : Rat) + 1) * (D : Rat) := by
      have := Rat.natCast_le_natCast.mpr n1
      rw [Rat.natCast_mul, Rat.natCast_mul, Rat.natCast_add, Rat.natCast_mul] at this
      exact this
    have m2 : 2 * (m : Rat) * (D : Rat) ≤ 2 * (N : Rat) + (D : Rat) := by
      have := Rat.natCast_le_natCast.mpr n2
      rw [Rat.natCast_mul, Rat.natCast_mul, Rat.natCast_add, Rat.natCast_mul] at this
      exact this
    have hz := zp_pos r
    have hu : zp r / 2 ≤ uu * mag A B e + ty := by
      rcases g3 with g3 | g3
      · have e1 : r = -1074 := g3.trans (by decide)
        have e2 := zp_half (-1074)
        rw [e1]
        have e3 : (zp (-1074) : Rat) / 2 = ty := by
          show zp (-1074) / 2 = zp (-1074 - 1)
          grind
        rw [e3]
        have : 0 ≤ uu * mag A B e := Rat.mul_nonneg (by decide +kernel) hm0
        grind
      · have e1 : ¬ mag A B e < zp (r + 52) := by
          rw [← mag_below hB]
          rw [show r + 52 - e = r - e + (((FP.Core.b64.p : Nat) : Int) - 1) by show r + 52 - e = r - e + (53 - 1); omega]
          exact g3
        rw [zp_52] at e1
        have e2 := Rat.not_lt.mp e1
        grind
    generalize mag A B e = X at *
    generalize (m : Rat) = M at *
    generalize (N : Rat) = N' at *
    generalize (D : Rat) = D' at *
    generalize zp r = Z at *
    generalize ty = T at *
    have k1 : (M * Z) * D' ≤ (X + Z / 2) * D' := by
      have := Rat.mul_le_mul_of_nonneg_right m2 (Rat.le_of_lt hz)
      grind
    have k2 : X * D' ≤ (M * Z + Z / 2) * D' := by
      have := Rat.mul_le_mul_of_nonneg_right m1 (Rat.le_of_lt hz)
      grind
    have k3 := Rat.le_of_mul_le_mul_right k1 hD'
    have k4 := Rat.le_of_mul_le_mul_right k2 hD'
    constructor
    · grind
    · grind
theorem rr_fin {s : Bool} {A B : Nat} {e : Int} (hB : 0 < B) (h : mag A B e < zp 1023) : ∃ c q, FP.Core.roundRatio FP.Core.b64 s A B e = .fin s c q := by
  unfold FP.Core.roundRatio
  split
  · exact ⟨0, _, rfl⟩
  · rename_i hA0
    have hA : 0 < A := by omega
    have hq : FP.Core.quantum FP.Core.b64 A B e ≤ 970 := by
      have l1 := FP.Core.lt_of_below (FP.Core.leading_spec hA hB).1 ((mag_below hB).mpr h)
      unfold FP.Core.quantum
      have e1 : FP.Core.b64.qmin = -1074 := by decide
      have e2 : ((FP.Core.b64.p : Nat) : Int) = 53 := rfl
      rw [e1, e2]
      omega
    unfold FP.Core.roundAt
    generalize FP.Core.quantum FP.Core.b64 A B e = r at hq
    have e3 : FP.Core.b64.qmax = 971 := by decide
    unfold FP.Core.settle FP.Core.bound
    split
    · rw [if_pos (by rw [e3]; omega)]; exact ⟨_, _, rfl⟩
    · rw [if_pos (by rw [e3]; omega)]; exact ⟨_, _, rfl⟩
/-- never NaN -/
theorem rr_nn (s : Bool) (A B : Nat) (e : Int) : FP.Core.roundRatio FP.Core.b64 s A B e ≠ .nan := by
  unfold FP.Core.roundRatio
  split
  · exact fun h => FP.Core.Datum.noConfusion h
  · unfold FP.Core.roundAt FP.Core.settle FP.Core.bound
    split
    · split <;> exact fun h => FP.Core.Datum.noConfusion h
    · split <;> exact fun h => FP.Core.Datum.noConfusion h
end
section
/-! ===== sizes of rationals ===== -/
def ab (x : Rat) : Rat := if 0 ≤ x then x else -x
theorem ab_def (x : Rat) : (0 ≤ x ∧ ab x = x) ∨ (x < 0 ∧ ab x = -x) := by
  unfold ab
  by_cases h : 0 ≤ x
  · left; exact ⟨h, if_pos h⟩
  · right; exact ⟨Rat.not_le.mp h, if_neg h⟩
theorem ab_nonneg (x : Rat) : 0 ≤ ab x := by
  rcases ab_def x with h | h <;> grind
theorem ab_le {x b : Rat} : ab x ≤ b ↔ (-b ≤ x ∧ x ≤ b) := by
  rcases ab_def x with h | h <;> grind
theorem le_ab (x : Rat) : x ≤ ab x := by
  rcases ab_def x with h | h <;> grind
theorem neg_le_ab (x : Rat) : -x ≤ ab x := by
  rcases ab_def x with h | h <;> grind
theorem ab_neg (x : Rat) : ab (-x) = ab x := by
  rcases ab_def x with h | h <;> rcases ab_def (-x) with h2 | h2 <;> grind
theorem ab_add (x y : Rat) : ab (x + y) ≤ ab x + ab y := by
  rcases ab_def x with h | h <;> rcases ab_def y with h2 | h2 <;> rcases ab_def (x + y) with h3 | h3 <;> grind
theorem ab_sub (x y : Rat) : ab (x - y) ≤ ab x + ab y := by
  rcases ab_def x with h | h <;> rcases ab_def y with h2 | h2 <;> rcases ab_def (x - y) with h3 | h3 <;> grind
theorem ab_of_nonneg {x : Rat} (h : 0 ≤ x) : ab x = x := if_pos h
theorem ab_mul (x y : Rat) : ab (x * y) = ab x * ab y := by
  have key : ∀ a b : Rat, 0 ≤ a → 0 ≤ b → 0 ≤ a * b := fun a b ha hb => Rat.mul_nonneg ha hb
  rcases ab_def x with h | h <;> rcases ab_def y with h2 | h2
  · rw [ab_of_nonneg (key x y h.1 h2.1), h.2, h2.2]
  · have := key x (-y) h.1 (by grind)
    rw [← ab_neg, show -(x * y) = x * -y by grind, ab_of_nonneg this, h.2, h2.2]
  · have := key (-x) y (by grind) h2.1
    rw [← ab_neg, show -(x * y) = -x * y by grind, ab_of_nonneg this, h.2, h2.2]
  · have := key (-x) (-y) (by grind) (by grind)
    rw [show x * y = -x * -y by grind, ab_of_nonneg this, h.2, h2.2]
/-! ===== values ===== -/
def rv : Dt → Rat
  | .fin s c q => ((FP.Core.signed s c : Int) : Rat) * zp q
  | _ => 0
/-- a number -/
def fn (d : Dt) : Prop := ∃ s c q, d = .fin s c q
theorem fn.nn {d : Dt} (h : fn d) : d ≠ .nan := by
  obtain ⟨s, c, q, rfl⟩ := h
  exact fun h => FP.Core.Datum.noConfusion h
/-- r is x, rounded -/
def near (r x : Rat) : Prop := ab (r - x) ≤ uu * ab x + ty
theorem sgn_ab (s : Bool) (c : Nat) : ((FP.Core.signed s c : Int) : Rat) = if s then -(c : Rat) else (c : Rat) := by
  cases s <;> rfl
theorem rv_ab (s : Bool) (c : Nat) (q : Int) : ab (rv (.fin s c q)) = (c : Rat) * zp q := by
  show ab (((FP.Core.signed s c : Int) : Rat) * zp q) = _
  have h : 0 ≤ (c : Rat) * zp q := Rat.mul_nonneg Rat.natCast_nonneg (Rat.le_of_lt (zp_pos q))
  rw [sgn_ab]
  cases s
  · exact ab_of_nonneg h
  · show ab (-(c : Rat) * zp q) = _
    rw [Rat.neg_mul, ab_neg]
    exact ab_of_nonneg h
/-- a ratio rounded, with its sign -/
theorem rr_val {s : Bool} {A B : Nat} {e : Int} (hB : 0 < B) {x : Rat} (hx : x = if s then -mag A B e else mag A B e) (h : ab x < zp 1023) :
    fn (FP.Core.roundRatio FP.Core.b64 s A B e) ∧ near (rv (FP.Core.roundRatio FP.Core.b64 s A B e)) x := by
  have hm := mag_nonneg A B e
  have hax : ab x = mag A B e := by
    rw [hx]
    cases s
    · exact ab_of_nonneg hm
    · show ab (-mag A B e) = _
      rw [ab_neg]; exact ab_of_nonneg hm
  rw [hax] at h
  obtain ⟨c, q, hr⟩ := rr_fin (s := s) hB h
  obtain ⟨-, h1, h2⟩ := rr_near hB hr
  rw [hr]
  refine ⟨⟨s, c, q, rfl⟩, ?_⟩
  unfold near
  rw [hax, ab_le]
  show _ ≤ ((FP.Core.signed s c : Int) : Rat) * zp q - x ∧ _
  rw [sgn_ab, hx]
  cases s
  · show _ ≤ (c : Rat) * zp q - mag A B e ∧ (c : Rat) * zp q - mag A B e ≤ _
    constructor <;> grind
  · show _ ≤ -(c : Rat) * zp q - -mag A B e ∧ -(c : Rat) * zp q - -mag A B e ≤ _
    rw [Rat.neg_mul]
    constructor <;> grind
theorem mag_one (c : Nat) (q : Int) : mag c 1 q = (c : Rat) * zp q := by
  show (c : Rat) * ((1 : Nat) : Rat)⁻¹ * zp q = _
  rw [show (((1 : Nat) : Rat))⁻¹ = 1 by decide +kernel, Rat.mul_one]
theorem round_val {s : Bool} {c : Nat} {q : Int} (h : ab (rv (.fin s c q)) < zp 1023) : fn (FP.Core.round FP.Core.b64 (.fin s c q)) ∧ near (rv (FP.Core.round FP.Core.b64 (.fin s c q))) (rv (.fin s c q)) := by
  refine rr_val (by decide) ?_ h
  rw [mag_one]
  show ((FP.Core.signed s c : Int) : Rat) * zp q = _
  rw [sgn_ab]
  cases s
  · rfl
  · exact Rat.neg_mul ..
theorem sum_val (s t : Bool) (c d : Nat) (q r : Int) : ∃ v n e, FP.Core.exactSum (.fin s c q) (.fin t d r) = .fin v n e ∧ rv (.fin v n e) = rv (.fin s c q) + rv (.fin t d r) := by
  refine ⟨_, _, _, rfl, ?_⟩
  show ((FP.Core.signed _ _ : Int) : Rat) * zp _ = ((FP.Core.signed s c : Int) : Rat) * zp q + ((FP.Core.signed t d : Int) : Rat) * zp r
  have h1 : ∀ v : Int, FP.Core.signed (FP.Core.sumSign s t v) v.natAbs = v := by
    intro v
    unfold FP.Core.sumSign FP.Core.signed
    by_cases hv : v = 0
    · subst hv; simp
    · rw [if_neg hv]
      by_cases hn : v < 0
      · rw [decide_eq_true hn]; simp; omega
      · rw [decide_eq_false hn]; simp; omega
  rw [h1]
  have h2 : ∀ (s : Bool) (c : Nat) (q e : Int), e ≤ q → ((FP.Core.signed s (FP.Core.inUnits c q e) : Int) : Rat) * zp e = ((FP.Core.signed s c : Int) : Rat) * zp q := by
    intro s c q e h
    unfold FP.Core.inUnits
    rw [FP.Core.signed_mul, Rat.intCast_mul, Rat.mul_assoc]
    have h3 : (((2 ^ (q - e).toNat : Nat) : Int) : Rat) * zp e = zp q := by
      show ((2 ^ (q - e).toNat : Nat) : Rat) * zp e = zp q
      rw [← zp_nat, ← zp_add, show ((q - e).toNat : Int) + e = q by omega]
    rw [h3]
  unfold FP.Core.sumUnits
  rw [Rat.intCast_add, Rat.add_mul, h2 s c q _ (by omega), h2 t d r _ (by omega)]
/-! ===== the operations, between numbers ===== -/
theorem fAdd_val {x y : Dt} (hx : fn x) (hy : fn y) (h : ab (rv x + rv y) < zp 1023) : fn (fAdd x y) ∧ near (rv (fAdd x y)) (rv x + rv y) := by
  obtain ⟨s, c, q, rfl⟩ := hx
  obtain ⟨t, d, r, rfl⟩ := hy
  obtain ⟨v, n, e, h1, h2⟩ := sum_val s t c d q r
  unfold fAdd
  rw [h1, ← h2]
  rw [← h2] at h
  exact round_val h
theorem fn_neg {x : Dt} (hx : fn x) : fn (fNeg x) := by
  obtain ⟨s, c, q, rfl⟩ := hx
  exact ⟨!s, c, q, rfl⟩
theorem rv_neg (x : Dt) : rv (fNeg x) = -rv x := by
  cases x with
  | nan => exact (show (0 : Rat) = -0 by decide +kernel)
  | inf s => exact (show (0 : Rat) = -0 by decide +kernel)
  | fin s c q =>
    show ((FP.Core.signed (!s) c : Int) : Rat) * zp q = -(((FP.Core.signed s c : Int) : Rat) * zp q)
    rw [sgn_ab, sgn_ab]
    cases s
    · exact Rat.neg_mul ..
    · show (c : Rat) * zp q = -(-(c : Rat) * zp q)
      grind
theorem fSub_add (x y : Dt) : fSub x y = fAdd x (fNeg y) := rfl
theorem fSub_val {x y : Dt} (hx : fn x) (hy : fn y) (h : ab (rv x - rv y) < zp 1023) : fn (fSub x y) ∧ near (rv (fSub x y)) (rv x - rv y) := by
  have e : rv x - rv y = rv x + rv (fNeg y) := by rw [rv_neg]; grind
  rw [e] at h ⊢
  exact fAdd_val hx (fn_neg hy) h
theorem fMul_val {x y : Dt} (hx : fn x) (hy : fn y) (h : ab (rv x * rv y) < zp 1023) : fn (fMul x y) ∧ near (rv (fMul x y)) (rv x * rv y) := by
  obtain ⟨s, c, q, rfl⟩ := hx
  obtain ⟨t, d, r, rfl⟩ := hy
  have e : rv (.fin (s != t) (c * d) (q + r)) = rv (.fin s c q) * rv (.fin t d r) := by
    show ((FP.Core.signed (s != t) (c * d) : Int) : Rat) * zp (q + r) = ((FP.Core.signed s c : Int) : Rat) * zp q * (((FP.Core.signed t d : Int) : Rat) * zp r)
    rw [sgn_ab, sgn_ab, sgn_ab, zp_add, Rat.natCast_mul]
    cases s <;> cases t <;> simp <;> grind
  rw [← e] at h ⊢
  exact round_val h
theorem fDiv_val {x y : Dt} (hx : fn x) (hy : fn y) (h0 : rv y ≠ 0) (h : ab (rv x / rv y) < zp 1023) : fn (fDiv x y) ∧ near (rv (fDiv x y)) (rv x / rv y) := by
  obtain ⟨s, c, q, rfl⟩ := hx
  obtain ⟨t, d, r, rfl⟩ := hy
  have hd : ¬ d = 0 := by
    intro hd
    subst hd
    apply h0
    show ((FP.Core.signed t 0 : Int) : Rat) * zp r = 0
    rw [FP.Core.signed_zero]
    exact Rat.zero_mul _
  have hd' : (d : Rat) ≠ 0 := fun h => hd (Rat.natCast_eq_zero_iff.mp h)
  have e1 : fDiv (.fin s c q) (.fin t d r) = FP.Core.roundRatio FP.Core.b64 (s != t) c d (q - r) := by
    show (if d = 0 then _ else _) = _
    rw [if_neg hd]
  rw [e1]
  refine rr_val (by omega) ?_ h
  have hzr : zp r ≠ 0 := fun h => absurd (zp_pos r) (by rw [h]; decide +kernel)
  have hq : zp q = zp (q - r) * zp r := by rw [← zp_add, show q - r + r = q by omega]
  show ((FP.Core.signed s c : Int) : Rat) * zp q / (((FP.Core.signed t d : Int) : Rat) * zp r) = _
  rw [sgn_ab, sgn_ab, hq]
  show _ = if (s != t) = true then -((c : Rat) / (d : Rat) * zp (q - r)) else (c : Rat) / (d : Rat) * zp (q - r)
  generalize zp (q - r) = Z
  generalize zp r = R at hzr
  generalize (c : Rat) = C
  generalize (d : Rat) = D at hd'
  have hDR : D * R ≠ 0 := fun h => (Rat.mul_eq_zero.mp h).elim hd' hzr
  have key : C * (Z * R) / (D * R) = C / D * Z := by
    have h1 : C * (Z * R) / (D * R) * (D * R) = C * (Z * R) := Rat.div_mul_cancel hDR
    have h2 : C / D * D = C := Rat.div_mul_cancel hd'
    have h3 : (C / D * Z) * (D * R) = C * (Z * R) := by
      generalize C / D = E at h2
      rw [← h2]; grind
    have h4 : (C * (Z * R) / (D * R) - C / D * Z) * (D * R) = 0 := by grind
    rcases Rat.mul_eq_zero.mp h4 with h5 | h5
    · grind
    · exact absurd h5 hDR
  have n1 : ∀ a b : Rat, -a / b = -(a / b) := fun a b => Rat.neg_mul ..
  have n2 : ∀ a b : Rat, b ≠ 0 → a / -b = -(a / b) := by
    intro a b hb
    have h1 : a / -b * -b = a := Rat.div_mul_cancel (by grind)
    have h2 : a / b * b = a := Rat.div_mul_cancel hb
    have h3 : (a / -b + a / b) * b = 0 := by grind
    rcases Rat.mul_eq_zero.mp h3 with h5 | h5
    · grind
    · exact absurd h5 hb
  cases s <;> cases t
  · exact key
  · show C * (Z * R) / (-D * R) = -(C / D * Z)
    rw [Rat.neg_mul, n2 _ _ hDR, key]
  · show -C * (Z * R) / (D * R) = -(C / D * Z)
    rw [Rat.neg_mul, n1, key]
  · show -C * (Z * R) / (-D * R) = C / D * Z
    rw [Rat.neg_mul, Rat.neg_mul, n1, n2 _ _ hDR, key, Rat.neg_neg]
end
section
/-! ===== order, whole numbers, constants ===== -/
theorem zp_ne (q : Int) : zp q ≠ 0 := fun h => absurd (zp_pos q) (by rw [h]; decide +kernel)
theorem fO_val {x y : Dt} (hx : fn x) (hy : fn y) : (fO x y = some .lt ↔ rv x < rv y) ∧ (fO x y = some .gt ↔ rv y < rv x) ∧ (fO x y = some .eq ↔ rv x = rv y) := by
  obtain ⟨s, c, q, rfl⟩ := hx
  obtain ⟨t, d, r, rfl⟩ := hy
  have h2 : ∀ (s : Bool) (c : Nat) (q e : Int), e ≤ q → rv (.fin s c q) = ((FP.Core.signed s (FP.Core.inUnits c q e) : Int) : Rat) * zp e := by
    intro s c q e h
    unfold FP.Core.inUnits
    rw [FP.Core.signed_mul, Rat.intCast_mul, Rat.mul_assoc]
    have h3 : (((2 ^ (q - e).toNat : Nat) : Int) : Rat) * zp e = zp q := by
      show ((2 ^ (q - e).toNat : Nat) : Rat) * zp e = zp q
      rw [← zp_nat, ← zp_add, show ((q - e).toNat : Int) + e = q by omega]
    rw [h3]
    rfl
  have e1 := h2 s c q (min q r) (by omega)
  have e2 := h2 t d r (min q r) (by omega)
  have hz := zp_pos (min q r)
  rw [e1, e2]
  show (some (compare (FP.Core.signed s (FP.Core.inUnits c q (min q r))) (FP.Core.signed t (FP.Core.inUnits d r (min q r)))) = _ ↔ _) ∧ (some (compare _ _) = _ ↔ _) ∧ (some (compare _ _) = _ ↔ _)
  generalize FP.Core.signed s (FP.Core.inUnits c q (min q r)) = a
  generalize FP.Core.signed t (FP.Core.inUnits d r (min q r)) = b
  generalize zp (min q r) = Z at hz
  have hlt : ∀ a b : Int, ((a : Rat) * Z < (b : Rat) * Z ↔ a < b) := fun a b => (Rat.mul_lt_mul_right hz).trans Rat.intCast_lt_intCast
  rw [hlt, hlt]
  have heq : ((a : Rat) * Z = (b : Rat) * Z ↔ a = b) := by
    constructor
    · intro h
      have n1 : ¬ a < b := fun z => by have := (hlt a b).mpr z; rw [h] at this; exact Rat.lt_irrefl this
      have n2 : ¬ b < a := fun z => by have := (hlt b a).mpr z; rw [h] at this; exact Rat.lt_irrefl this
      omega
    · intro h; rw [h]
  rw [heq, FP.Core.compare_ite]
  by_cases h1 : a < b
  · simp [h1]; omega
  · by_cases h3 : a = b
    · simp [h3]
    · have : b < a := by omega
      simp [h1, h3, this]
theorem i2d_whole (i : Int32) : FP.Core.Whole i.toInt (fI i) := by
  have h := FP.Core.l2d_whole (a := i.toInt64) (by
    unfold FP.Core.Small53
    rw [Int32.toInt_toInt64]
    have h1 := Int32.toInt_lt i
    have h2 := Int32.le_toInt i
    omega)
  rw [Int32.toInt_toInt64, ← FP.Core.i2d_l2d] at h
  exact h
theorem whole_val {i : Int} {d : Dt} (h : FP.Core.Whole i d) : fn d ∧ rv d = (i : Rat) := by
  cases d with
  | nan => exact h.elim
  | inf s => exact h.elim
  | fin s c q =>
    refine ⟨⟨s, c, q, rfl⟩, ?_⟩
    have h0 : FP.Core.signed s (c * 2 ^ q.toNat) = i * ((2 ^ (-q).toNat : Nat) : Int) := h
    have h1 : ((FP.Core.signed s (c * 2 ^ q.toNat) : Int) : Rat) = ((i * ((2 ^ (-q).toNat : Nat) : Int) : Int) : Rat) := congrArg (fun z : Int => (z : Rat)) h0
    rw [FP.Core.signed_mul, Rat.intCast_mul, Rat.intCast_mul] at h1
    have h2 := zp_split q 0
    rw [show (0 : Int) - q = -q by omega, show q - 0 = q by omega, show zp 0 = 1 from Rat.zpow_zero 2, Rat.one_mul] at h2
    have hp : (0 : Rat) < ((2 ^ (-q).toNat : Nat) : Rat) := Rat.natCast_pos.mpr (Nat.two_pow_pos _)
    show ((FP.Core.signed s c : Int) : Rat) * zp q = (i : Rat)
    have h3 : ((((2 ^ (-q).toNat : Nat) : Int)) : Rat) = ((2 ^ (-q).toNat : Nat) : Rat) := rfl
    have h4 : ((((2 ^ q.toNat : Nat) : Int)) : Rat) = ((2 ^ q.toNat : Nat) : Rat) := rfl
    rw [h3, h4, ← h2] at h1
    generalize ((2 ^ (-q).toNat : Nat) : Rat) = W at hp h1
    have h5 : (((FP.Core.signed s c : Int) : Rat) * zp q - (i : Rat)) * W = 0 := by grind
    rcases Rat.mul_eq_zero.mp h5 with h6 | h6
    · grind
    · rw [h6] at hp; exact absurd hp Rat.lt_irrefl
theorem fI_val (i : Int32) : fn (fI i) ∧ rv (fI i) = (i.toInt : Rat) := whole_val (i2d_whole i)
theorem fn_c {b : UInt64} {r : Rat} (h : (match dV b with | .fin s c q => decide (((FP.Core.signed s c : Int) : Rat) * zp q = r) | _ => false) = true) : fn (dV b) ∧ rv (dV b) = r := by
  cases e : dV b with
  | nan => rw [e] at h; cases h
  | inf s => rw [e] at h; cases h
  | fin s c q =>
    rw [e] at h
    exact ⟨⟨s, c, q, rfl⟩, of_decide_eq_true h⟩
theorem c_zero : fn (dV 0) ∧ rv (dV 0) = 0 := fn_c (by decide +kernel)
theorem c_one : fn (dV 4607182418800017408) ∧ rv (dV 4607182418800017408) = 1 := fn_c (by decide +kernel)
theorem c_100 : fn (dV 4636737291354636288) ∧ rv (dV 4636737291354636288) = 100 := fn_c (by decide +kernel)
theorem c_1000 : fn (dV 4652007308841189376) ∧ rv (dV 4652007308841189376) = 1000 := fn_c (by decide +kernel)
theorem c_1e6 : fn (dV 4696837146684686336) ∧ rv (dV 4696837146684686336) = 1000000 := fn_c (by decide +kernel)
theorem c_1e9 : fn (dV 4741671816366391296) ∧ rv (dV 4741671816366391296) = 1000000000 := fn_c (by decide +kernel)
theorem c_micro : fn (dV 4517329193108106637) ∧ 1 / 1000001 ≤ rv (dV 4517329193108106637) := by
  have h := fn_c (b := 4517329193108106637) (r := 4722366482869645 * zp (-72)) (by decide +kernel)
  exact ⟨h.1, by rw [h.2]; decide +kernel⟩
/-! ===== what isn't NaN ===== -/
theorem nn_round {d : Dt} (h : d ≠ .nan) : FP.Core.round FP.Core.b64 d ≠ .nan := by
  cases d with
  | nan => exact absurd rfl h
  | inf s => exact fun h => FP.Core.Datum.noConfusion h
  | fin s c q => exact rr_nn s c 1 q
theorem nn_add {x y : Dt} (hx : fn x) (hy : y ≠ .nan) : fAdd x y ≠ .nan := by
  obtain ⟨s, c, q, rfl⟩ := hx
  refine nn_round ?_
  cases y with
  | nan => exact absurd rfl hy
  | inf s => exact fun h => FP.Core.Datum.noConfusion h
  | fin t d r => exact fun h => FP.Core.Datum.noConfusion h
theorem nn_mul {x y : Dt} (hx : fn x) (hy : fn y) : fMul x y ≠ .nan := by
  obtain ⟨s, c, q, rfl⟩ := hx
  obtain ⟨t, d, r, rfl⟩ := hy
  exact nn_round fun h => FP.Core.Datum.noConfusion h
end
section
/-! ===== sums of products, one behind the other ===== -/
def smN (a : Dt) (f : Nat → Dt) : Nat → Dt
  | 0 => a
  | n + 1 => fAdd (smN a f n) (f n)
theorem smN_congr {a : Dt} {f g : Nat → Dt} {n : Nat} (h : ∀ i, i < n → f i = g i) : smN a f n = smN a g n := by
  induction n with
  | zero => rfl
  | succ n ih =>
    show fAdd (smN a f n) (f n) = fAdd (smN a g n) (g n)
    rw [ih (fun i hi => h i (by omega)), h n (by omega)]
def rsum (f : Nat → Rat) : Nat → Rat
  | 0 => 0
  | n + 1 => rsum f n + f n
theorem rsum_ab {f : Nat → Rat} {n : Nat} {B : Rat} (h : ∀ k, k < n → ab (f k) ≤ B) : ab (rsum f n) ≤ (n : Rat) * B := by
  induction n with
  | zero =>
    show ab 0 ≤ ((0 : Nat) : Rat) * B
    rw [show (((0 : Nat) : Rat)) = 0 from rfl, Rat.zero_mul]
    exact (by decide +kernel : ab 0 ≤ 0)
  | succ n ih =>
    have h1 := ih (fun k hk => h k (by omega))
    have h2 := h n (by omega)
    have h3 := ab_add (rsum f n) (f n)
    show ab (rsum f n + f n) ≤ ((n + 1 : Nat) : Rat) * B
    rw [Rat.natCast_add]
    show _ ≤ ((n : Rat) + 1) * B
    grind
theorem rsum_congr {f g : Nat → Rat} {n : Nat} (h : ∀ k, k < n → f k = g k) : rsum f n = rsum g n := by
  induction n with
  | zero => rfl
  | succ n ih =>
    show rsum f n + f n = rsum g n + g n
    rw [ih (fun k hk => h k (by omega)), h n (by omega)]
theorem zp_1000 : zp 1000 * 1000000 ≤ zp 1022 := by decide +kernel
theorem zp_1022 : zp 1022 < zp 1023 := by decide +kernel
theorem ty_pos : 0 < ty := zp_pos _
theorem ty_small : ty * 1000000000000000000000000000000 ≤ 1 := by decide +kernel
theorem fold_val {a : Dt} {f g : Nat → Dt} {W : Rat} {n : Nat} (hn : n ≤ 16) (hW : 1 ≤ W) (hW2 : W ≤ zp 1000) (ha : fn a) (haW : ab (rv a) ≤ 1000 * W)
    (hf : ∀ k, k < n → fn (f k)) (hg : ∀ k, k < n → fn (g k)) (hfg : ∀ k, k < n → ab (rv (f k) * rv (g k)) ≤ 1000 * W) :
    fn (smN a (fun k => fMul (f k) (g k)) n) ∧ ab (rv (smN a (fun k => fMul (f k) (g k)) n) - (rv a + rsum (fun k => rv (f k) * rv (g k)) n)) ≤ (n : Rat) * (W / 274877906944) := by
  induction n with
  | zero =>
    refine ⟨ha, ?_⟩
    show ab (rv a - (rv a + 0)) ≤ ((0 : Nat) : Rat) * _
    rw [show (((0 : Nat) : Rat)) = 0 from rfl, Rat.zero_mul, show rv a - (rv a + 0) = 0 by grind]
    exact (by decide +kernel : ab 0 ≤ 0)
  | succ n ih =>
    obtain ⟨i1, i2⟩ := ih (by omega) (fun k hk => hf k (by omega)) (fun k hk => hg k (by omega)) (fun k hk => hfg k (by omega))
    have hn16 : (n : Rat) ≤ 15 := by
      have := Rat.natCast_le_natCast.mpr (show n ≤ 15 by omega)
      exact this
    have hn0 : (0 : Rat) ≤ (n : Rat) := Rat.natCast_nonneg
    have hp := hfg n (by omega)
    have hS := rsum_ab (f := fun k => rv (f k) * rv (g k)) (n := n) (B := 1000 * W) (fun k hk => hfg k (by omega))
    have z1 := zp_1000
    have z2 := zp_1022
    have t1 := ty_pos
    have t2 := ty_small
    obtain ⟨p1, p2⟩ := fMul_val (hf n (by omega)) (hg n (by omega)) (by grind)
    have nW1 : (n : Rat) * W ≤ 15 * W := Rat.mul_le_mul_of_nonneg_right hn16 (by grind)
    have nW0 : 0 ≤ (n : Rat) * W := Rat.mul_nonneg hn0 (by grind)
    show fn (fAdd (smN a (fun k => fMul (f k) (g k)) n) (fMul (f n) (g n))) ∧ ab (rv (fAdd (smN a (fun k => fMul (f k) (g k)) n) (fMul (f n) (g n))) - (rv a + (rsum (fun k => rv (f k) * rv (g k)) n + rv (f n) * rv (g n)))) ≤ ((n + 1 : Nat) : Rat) * (W / 274877906944)
    rw [Rat.natCast_add, show (((1 : Nat) : Rat)) = 1 from rfl]
    generalize smN a (fun k => fMul (f k) (g k)) n = s at i1 i2 ⊢
    generalize fMul (f n) (g n) = p at p1 p2 ⊢
    generalize rsum (fun k => rv (f k) * rv (g k)) n = S at i2 hS ⊢
    generalize rv (f n) * rv (g n) = x at hp p2 ⊢
    unfold near at p2
    have q2 := ab_le.mp (show ab (rv p - x) ≤ uu * (1000 * W) + ty by grind)
    have q3 := ab_le.mp i2
    have q4 := ab_le.mp hS
    have q5 := ab_le.mp hp
    have q6 := ab_le.mp haW
    have hsp : ab (rv s + rv p) ≤ 20000 * W := by
      rw [ab_le]
      constructor <;> grind
    obtain ⟨r1, r2⟩ := fAdd_val i1 p1 (by grind)
    refine ⟨r1, ?_⟩
    unfold near at r2
    have r3 := ab_le.mp (show ab (rv (fAdd s p) - (rv s + rv p)) ≤ uu * (20000 * W) + ty by grind)
    rw [ab_le]
    constructor <;> grind
end
section
/-! ===== rounding where it may end beyond the doubles ===== -/
theorem round_ext (s : Bool) (c : Nat) (q : Int) : (fn (FP.Core.round FP.Core.b64 (.fin s c q)) ∧ near (rv (FP.Core.round FP.Core.b64 (.fin s c q))) (rv (.fin s c q))) ∨ (∃ v, FP.Core.round FP.Core.b64 (.fin s c q) = .inf v ∧ (v = false → zp 1023 ≤ rv (.fin s c q)) ∧ (v = true → rv (.fin s c q) ≤ -zp 1023)) := by
  by_cases h : ab (rv (.fin s c q)) < zp 1023
  · exact Or.inl (round_val h)
  · have h1 := Rat.not_lt.mp h
    have hz := zp_pos 1023
    have hsg : (s = false → 0 ≤ rv (.fin s c q)) ∧ (s = true → rv (.fin s c q) ≤ 0) := by
      have hc : 0 ≤ (c : Rat) * zp q := Rat.mul_nonneg Rat.natCast_nonneg (Rat.le_of_lt (zp_pos q))
      constructor
      · intro e
        subst e
        exact hc
      · intro e
        subst e
        show -(c : Rat) * zp q ≤ 0
        rw [Rat.neg_mul]
        grind
    cases e : FP.Core.round FP.Core.b64 (.fin s c q) with
    | nan => exact absurd e (rr_nn s c 1 q)
    | inf v =>
      right
      have hv : v = s := by
        have e0 : FP.Core.roundRatio FP.Core.b64 s c 1 q = .inf v := e
        unfold FP.Core.roundRatio at e0
        split at e0
        · cases e0
        · unfold FP.Core.roundAt FP.Core.settle FP.Core.bound at e0
          split at e0
          · split at e0
            · cases e0
            · cases e0; rfl
          · split at e0
            · cases e0
            · cases e0; rfl
      refine ⟨v, rfl, ?_, ?_⟩
      · intro e1
        rw [hv] at e1
        rw [ab_of_nonneg (hsg.1 e1)] at h1
        exact h1
      · intro e1
        rw [hv] at e1
        have h2 := hsg.2 e1
        rcases ab_def (rv (.fin s c q)) with h3 | h3 <;> grind
    | fin t d r =>
      left
      refine ⟨⟨t, d, r, rfl⟩, ?_⟩
      have e0 : FP.Core.roundRatio FP.Core.b64 s c 1 q = .fin t d r := e
      obtain ⟨ht, h2, h3⟩ := rr_near (by decide) e0
      rw [mag_one] at h2 h3
      unfold near
      rw [rv_ab, ab_le]
      subst ht
      show _ ≤ ((FP.Core.signed t d : Int) : Rat) * zp r - ((FP.Core.signed t c : Int) : Rat) * zp q ∧ ((FP.Core.signed t d : Int) : Rat) * zp r - ((FP.Core.signed t c : Int) : Rat) * zp q ≤ _
      rw [sgn_ab, sgn_ab]
      cases t
      · show _ ≤ (d : Rat) * zp r - (c : Rat) * zp q ∧ (d : Rat) * zp r - (c : Rat) * zp q ≤ _
        constructor <;> grind
      · show _ ≤ -(d : Rat) * zp r - -(c : Rat) * zp q ∧ -(d : Rat) * zp r - -(c : Rat) * zp q ≤ _
        rw [Rat.neg_mul, Rat.neg_mul]
        constructor <;> grind
/-- d is x, rounded, or infinite on its side -/
def nearX (d : Dt) (x : Rat) : Prop := (fn d ∧ near (rv d) x) ∨ ∃ v, d = .inf v ∧ (v = false → zp 1023 ≤ x) ∧ (v = true → x ≤ -zp 1023)
theorem fMul_ext {x y : Dt} (hx : fn x) (hy : fn y) : nearX (fMul x y) (rv x * rv y) := by
  obtain ⟨s, c, q, rfl⟩ := hx
  obtain ⟨t, d, r, rfl⟩ := hy
  have e : rv (.fin (s != t) (c * d) (q + r)) = rv (.fin s c q) * rv (.fin t d r) := by
    show ((FP.Core.signed (s != t) (c * d) : Int) : Rat) * zp (q + r) = ((FP.Core.signed s c : Int) : Rat) * zp q * (((FP.Core.signed t d : Int) : Rat) * zp r)
    rw [sgn_ab, sgn_ab, sgn_ab, zp_add, Rat.natCast_mul]
    cases s <;> cases t <;> simp <;> grind
  rw [← e]
  exact round_ext (s != t) (c * d) (q + r)
theorem fAdd_ext {x y : Dt} (hx : fn x) (hy : fn y) : nearX (fAdd x y) (rv x + rv y) := by
  obtain ⟨s, c, q, rfl⟩ := hx
  obtain ⟨t, d, r, rfl⟩ := hy
  obtain ⟨v, n, e, h1, h2⟩ := sum_val s t c d q r
  rw [← h2]
  unfold fAdd
  rw [h1]
  exact round_ext v n e
theorem fSub_ext {x y : Dt} (hx : fn x) (hy : fn y) : nearX (fSub x y) (rv x - rv y) := by
  have e : rv x - rv y = rv x + rv (fNeg y) := by rw [rv_neg]; grind
  rw [e]
  exact fAdd_ext hx (fn_neg hy)
theorem fSub_inf {x : Dt} (hx : fn x) (v : Bool) : fSub x (.inf v) = .inf (!v) := by
  obtain ⟨s, c, q, rfl⟩ := hx
  rfl
/-- a number above 0 has the sign + -/
theorem pos_sign {s : Bool} {c : Nat} {q : Int} (h : 0 < rv (.fin s c q)) : s = false := by
  cases s
  · rfl
  · have hc : 0 ≤ (c : Rat) * zp q := Rat.mul_nonneg Rat.natCast_nonneg (Rat.le_of_lt (zp_pos q))
    have h1 : 0 < -(c : Rat) * zp q := h
    rw [Rat.neg_mul] at h1
    grind
theorem fDiv_inf {y : Dt} (hy : fn y) (h : 0 < rv y) (v : Bool) : fDiv (.inf v) y = .inf v := by
  obtain ⟨t, d, r, rfl⟩ := hy
  have ht := pos_sign h
  subst ht
  show FP.Core.Datum.inf (v != false) = _
  cases v <;> rfl
theorem fDiv_ext {x y : Dt} (hx : fn x) (hy : fn y) (h : 0 < rv y) : (fn (fDiv x y) ∧ near (rv (fDiv x y)) (rv x / rv y)) ∨ ∃ v, fDiv x y = .inf v ∧ (v = false → 0 ≤ rv x) ∧ (v = true → rv x ≤ 0) := by
  by_cases hb : ab (rv x / rv y) < zp 1023
  · exact Or.inl (fDiv_val hx hy (fun e => by rw [e] at h; exact Rat.lt_irrefl h) hb)
  · obtain ⟨s, c, q, rfl⟩ := hx
    obtain ⟨t, d, r, rfl⟩ := hy
    have ht := pos_sign h
    subst ht
    have hd : ¬ d = 0 := by
      intro hd
      subst hd
      have h1 : (0 : Rat) < ((0 : Nat) : Rat) * zp r := h
      rw [show (((0 : Nat) : Rat)) = 0 from rfl, Rat.zero_mul] at h1
      exact Rat.lt_irrefl h1
    have e1 : fDiv (.fin s c q) (.fin false d r) = FP.Core.roundRatio FP.Core.b64 (s != false) c d (q - r) := by
      show (if d = 0 then _ else _) = _
      rw [if_neg hd]
    have es : (s != false) = s := by cases s <;> rfl
    rw [e1, es]
    have hc : 0 ≤ (c : Rat) * zp q := Rat.mul_nonneg Rat.natCast_nonneg (Rat.le_of_lt (zp_pos q))
    have hsg : (s = false → 0 ≤ rv (.fin s c q)) ∧ (s = true → rv (.fin s c q) ≤ 0) := by
      constructor
      · intro e
        subst e
        exact hc
      · intro e
        subst e
        show -(c : Rat) * zp q ≤ 0
        rw [Rat.neg_mul]
        grind
    have hrat : mag c d (q - r) = (c : Rat) * zp q / ((d : Rat) * zp r) := by
      have hd' : (d : Rat) ≠ 0 := fun h => hd (Rat.natCast_eq_zero_iff.mp h)
      have hzr := zp_ne r
      have hq : zp q = zp (q - r) * zp r := by rw [← zp_add, show q - r + r = q by omega]
      rw [hq]
      show (c : Rat) / (d : Rat) * zp (q - r) = _
      generalize zp (q - r) = Z
      generalize zp r = R at hzr
      generalize (c : Rat) = C
      generalize (d : Rat) = D at hd'
      have hDR : D * R ≠ 0 := fun h => (Rat.mul_eq_zero.mp h).elim hd' hzr
      have h1 : C * (Z * R) / (D * R) * (D * R) = C * (Z * R) := Rat.div_mul_cancel hDR
      have h2 : C / D * D = C := Rat.div_mul_cancel hd'
      have h3 : (C / D * Z) * (D * R) = C * (Z * R) := by
        generalize C / D = E at h2
        rw [← h2]; grind
      have h4 : (C * (Z * R) / (D * R) - C / D * Z) * (D * R) = 0 := by grind
      rcases Rat.mul_eq_zero.mp h4 with h5 | h5
      · grind
      · exact absurd h5 hDR
    cases e : FP.Core.roundRatio FP.Core.b64 s c d (q - r) with
    | nan => exact absurd e (rr_nn s c d (q - r))
    | inf v =>
      right
      have hv : v = s := by
        unfold FP.Core.roundRatio at e
        split at e
        · cases e
        · unfold FP.Core.roundAt FP.Core.settle FP.Core.bound at e
          split at e
          · split at e
            · cases e
            · cases e; rfl
          · split at e
            · cases e
            · cases e; rfl
      exact ⟨v, rfl, fun h => hsg.1 (hv ▸ h), fun h => hsg.2 (hv ▸ h)⟩
    | fin t c2 q2 =>
      left
      refine ⟨⟨t, c2, q2, rfl⟩, ?_⟩
      obtain ⟨ht, h2, h3⟩ := rr_near (by omega) e
      subst ht
      have hm := mag_nonneg c d (q - r)
      have hx : rv (.fin t c q) / rv (.fin false d r) = if t then -mag c d (q - r) else mag c d (q - r) := by
        rw [hrat]
        show ((FP.Core.signed t c : Int) : Rat) * zp q / ((d : Rat) * zp r) = _
        rw [sgn_ab]
        cases t
        · rfl
        · show -(c : Rat) * zp q / _ = -((c : Rat) * zp q / _)
          rw [Rat.neg_mul]
          exact Rat.neg_mul ..
      rw [hx]
      unfold near
      rw [ab_le]
      show _ ≤ ((FP.Core.signed t c2 : Int) : Rat) * zp q2 - _ ∧ ((FP.Core.signed t c2 : Int) : Rat) * zp q2 - _ ≤ _
      rw [sgn_ab]
      cases t
      · show -(uu * ab (mag c d (q - r)) + ty) ≤ (c2 : Rat) * zp q2 - mag c d (q - r) ∧ (c2 : Rat) * zp q2 - mag c d (q - r) ≤ uu * ab (mag c d (q - r)) + ty
        rw [ab_of_nonneg hm]
        constructor <;> grind
      · show -(uu * ab (-mag c d (q - r)) + ty) ≤ -(c2 : Rat) * zp q2 - -mag c d (q - r) ∧ -(c2 : Rat) * zp q2 - -mag c d (q - r) ≤ uu * ab (-mag c d (q - r)) + ty
        rw [ab_neg, ab_of_nonneg hm, Rat.neg_mul]
        constructor <;> grind
end
section
/-! ===== one step of recursive least squares ===== -/
def sOut (n : Nat) (w : Nat → Dt) (xi : Nat → Int32) : Dt := smN (dV 0) (fun k => fMul (w k) (fI (xi k))) n
def sM (n : Nat) (st : Dt) (P : Nat → Nat → Dt) (xi : Nat → Int32) : Dt := smN st (fun i => fMul (fI (xi i)) (sOut n (P i) xi)) n
def rK (n : Nat) (mu : Dt) (P : Nat → Nat → Dt) (xi : Nat → Int32) (i : Nat) : Dt := fDiv (sOut n (P i) xi) (sM n mu P xi)
def rQ (n : Nat) (mu : Dt) (P : Nat → Nat → Dt) (xi : Nat → Int32) (i j : Nat) : Dt := fDiv (fSub (P i j) (fMul (rK n mu P xi i) (sOut n (P j) xi))) mu
abbrev rLow (n : Nat) (mu : Dt) (P : Nat → Nat → Dt) (xi : Nat → Int32) : Prop := fO (sM n mu P xi) (dV 4517329193108106637) = some .lt
abbrev rBad (d : Dt) : Prop := fO d (dV 4696837146684686336) = some .gt ∨ fO d (dV 0) = some .lt
def rOv (f : Nat → Dt) : Nat → Bool
  | 0 => false
  | j + 1 => rOv f j || decide (rBad (f j))
theorem rOv_no {f : Nat → Dt} {n : Nat} (h : ¬ rOv f n = true) : ∀ i, i < n → ¬ rBad (f i) := by
  induction n with
  | zero => intro i hi; omega
  | succ n ih =>
    have h1 : ¬ (rOv f n || decide (rBad (f n))) = true := h
    rw [Bool.or_eq_true] at h1
    intro i hi
    by_cases e : i = n
    · subst e
      exact fun z => h1 (Or.inr (decide_eq_true z))
    · exact ih (fun z => h1 (Or.inl z)) i (by omega)
theorem bad_inf (v : Bool) : rBad (.inf v) := by
  cases v <;> decide +kernel
def okP (n : Nat) (M : Rat) (P : Nat → Nat → Dt) : Prop := (∀ i j, i < n → j < n → fn (P i j) ∧ ab (rv (P i j)) ≤ M) ∧ ∀ i, i < n → 0 ≤ rv (P i i) ∧ rv (P i i) ≤ 1000000
abbrev xr (xi : Nat → Int32) (k : Nat) : Rat := ((xi k).toInt : Rat)
def okX (n : Nat) (xi : Nat → Int32) : Prop := ∀ k, k < n → ab (xr xi k) ≤ 1000
def okMu (mu : Dt) : Prop := fn mu ∧ 1125899906842623 / 2251799813685248 ≤ rv mu ∧ rv mu ≤ 1001 / 1000
theorem ab_zero : ab 0 = 0 := by decide +kernel
theorem mul_ab {a b A B : Rat} (ha : ab a ≤ A) (hb : ab b ≤ B) : ab (a * b) ≤ A * B := by
  rw [ab_mul]
  have h1 := Rat.mul_le_mul_of_nonneg_right ha (ab_nonneg b)
  have h2 := Rat.mul_le_mul_of_nonneg_left hb (show 0 ≤ A from Rat.le_trans (ab_nonneg a) ha)
  exact Rat.le_trans h1 h2
theorem g_val {n : Nat} {w : Nat → Dt} {xi : Nat → Int32} {R : Rat} (hn : n ≤ 4) (hx : okX n xi) (hR : 1 ≤ R) (hR2 : R ≤ zp 1000) (hw : ∀ j, j < n → fn (w j) ∧ ab (rv (w j)) ≤ R) :
    fn (sOut n w xi) ∧ ab (rv (sOut n w xi) - rsum (fun j => rv (w j) * xr xi j) n) ≤ R / 68719476736 := by
  have h := fold_val (a := dV 0) (f := w) (g := fun k => fI (xi k)) (W := R) (n := n) (by omega) hR hR2 c_zero.1 (by rw [c_zero.2, ab_zero]; grind) (fun k hk => (hw k hk).1) (fun k _ => (fI_val (xi k)).1)
    (fun k hk => by
      have h1 := mul_ab (hw k hk).2 (hx k hk)
      rw [(fI_val (xi k)).2]
      grind)
  refine ⟨h.1, ?_⟩
  have h2 := h.2
  rw [c_zero.2] at h2
  have e : rsum (fun k => rv (w k) * rv (fI (xi k))) n = rsum (fun j => rv (w j) * xr xi j) n := rsum_congr fun k _ => by rw [(fI_val (xi k)).2]
  rw [e] at h2
  have hn4 : (n : Rat) ≤ 4 := by
    have := Rat.natCast_le_natCast.mpr hn
    exact this
  have h3 := Rat.mul_le_mul_of_nonneg_right hn4 (show 0 ≤ R / 274877906944 by grind)
  show ab (rv (smN (dV 0) (fun k => fMul (w k) (fI (xi k))) n) - _) ≤ _
  rw [show rv (smN (dV 0) (fun k => fMul (w k) (fI (xi k))) n) - rsum (fun j => rv (w j) * xr xi j) n = rv (smN (dV 0) (fun k => fMul (w k) (fI (xi k))) n) - (0 + rsum (fun j => rv (w j) * xr xi j) n) by grind]
  grind
theorem gmax (f : Nat → Rat) : ∀ n : Nat, ∃ G : Rat, 1 ≤ G ∧ (∀ i, i < n → ab (f i) ≤ G) ∧ (G = 1 ∨ ∃ i, i < n ∧ G = ab (f i)) := by
  intro n
  induction n with
  | zero => exact ⟨1, Rat.le_refl, fun i hi => by omega, Or.inl rfl⟩
  | succ n ih =>
    obtain ⟨G, h1, h2, h3⟩ := ih
    by_cases h : ab (f n) ≤ G
    · refine ⟨G, h1, fun i hi => ?_, h3.imp id (fun ⟨i, hi, e⟩ => ⟨i, by omega, e⟩)⟩
      by_cases e : i = n
      · rw [e]; exact h
      · exact h2 i (by omega)
    · have h' := Rat.not_le.mp h
      refine ⟨ab (f n), by grind, fun i hi => ?_, Or.inr ⟨n, by omega, rfl⟩⟩
      by_cases e : i = n
      · rw [e]; exact Rat.le_refl
      · have := h2 i (by omega)
        grind
theorem m_val {n : Nat} {mu : Dt} {P : Nat → Nat → Dt} {xi : Nat → Int32} {G : Rat} (hn : n ≤ 4) (hx : okX n xi) (hmu : okMu mu) (hG : 1 ≤ G) (hG2 : G ≤ zp 1000) (hg : ∀ i, i < n → fn (sOut n (P i) xi) ∧ ab (rv (sOut n (P i) xi)) ≤ G) :
    fn (sM n mu P xi) ∧ ab (rv (sM n mu P xi)) ≤ 4003 * G := by
  obtain ⟨m1, m2, m3⟩ := hmu
  have hmu0 : ab (rv mu) ≤ 1001 / 1000 := by rw [ab_le]; constructor <;> grind
  have hp : ∀ k, k < n → ab (rv (fI (xi k)) * rv (sOut n (P k) xi)) ≤ 1000 * G := fun k hk => by
    rw [(fI_val (xi k)).2]
    exact mul_ab (hx k hk) (hg k hk).2
  have h := fold_val (a := mu) (f := fun k => fI (xi k)) (g := fun k => sOut n (P k) xi) (W := G) (n := n) (by omega) hG hG2 m1 (by grind) (fun k _ => (fI_val (xi k)).1) (fun k hk => (hg k hk).1) hp
  refine ⟨h.1, ?_⟩
  have h2 := h.2
  have h3 := rsum_ab hp
  have hn4 : (n : Rat) ≤ 4 := by
    have := Rat.natCast_le_natCast.mpr hn
    exact this
  have h4 := Rat.mul_le_mul_of_nonneg_right hn4 (show 0 ≤ G / 274877906944 by grind)
  have h5 := Rat.mul_le_mul_of_nonneg_right hn4 (show 0 ≤ 1000 * G by grind)
  show ab (rv (smN mu (fun i => fMul (fI (xi i)) (sOut n (P i) xi)) n)) ≤ _
  generalize rv (smN mu (fun i => fMul (fI (xi i)) (sOut n (P i) xi)) n) = z at h2 ⊢
  generalize rsum (fun k => rv (fI (xi k)) * rv (sOut n (P k) xi)) n = S at h2 h3
  have k1 := ab_le.mp h2
  have k2 := ab_le.mp h3
  have k3 := ab_le.mp hmu0
  rw [ab_le]
  constructor <;> grind
end
section
/-! ===== a step without a reset ===== -/
theorem mu_pos0 {mu : Dt} (h : okMu mu) : 0 < rv mu := by
  have := h.2.1
  grind
theorem bad_no {q : Dt} (hq : fn q) (h : ¬ rBad q) : 0 ≤ rv q ∧ rv q ≤ 1000000 := by
  have h1 : ¬ rv q < 0 := fun z => h (Or.inr ((fO_val hq c_zero.1).1.mpr (by rw [c_zero.2]; exact z)))
  have h2 : ¬ 1000000 < rv q := fun z => h (Or.inl ((fO_val hq c_1e6.1).2.1.mpr (by rw [c_1e6.2]; exact z)))
  exact ⟨Rat.not_lt.mp h1, Rat.not_lt.mp h2⟩
theorem kg_bound {p k g mu : Dt} (hp : fn p) (p0 : 0 ≤ rv p) (p1 : rv p ≤ 1000000) (hk : fn k) (hg : fn g) (hmu : okMu mu) (h : ¬ rBad (fDiv (fSub p (fMul k g)) mu)) : rv k * rv g ≤ 1000003 := by
  have hm0 := mu_pos0 hmu
  obtain ⟨m1, m2, m3⟩ := hmu
  rcases fMul_ext hk hg with ⟨k1, k2⟩ | ⟨v, e, -⟩
  · rcases fSub_ext hp k1 with ⟨d1, d2⟩ | ⟨v, e, -⟩
    · rcases fDiv_ext d1 m1 hm0 with ⟨q1, q2⟩ | ⟨v, e, -⟩
      · have q0 := (bad_no q1 h).1
        refine Rat.not_lt.mp fun hc => ?_
        have t1 := ty_pos
        have t2 := ty_small
        unfold near at k2 d2 q2
        have hyd : rv (fSub p (fMul k g)) / rv mu * rv mu = rv (fSub p (fMul k g)) := Rat.div_mul_cancel (fun e => by rw [e] at hm0; exact Rat.lt_irrefl hm0)
        generalize rv (fDiv (fSub p (fMul k g)) mu) = Q at q0 q2
        generalize rv (fSub p (fMul k g)) / rv mu = y at q2 hyd
        generalize rv (fSub p (fMul k g)) = d at d2 hyd
        generalize rv (fMul k g) = z at k2 d2
        generalize rv k * rv g = x at hc k2
        generalize rv p = P at *
        generalize rv mu = M at *
        rw [ab_of_nonneg (by grind : 0 ≤ x)] at k2
        have k3 := ab_le.mp k2
        have hz : 1000002 ≤ z := by grind
        have e1 : ab (P - z) = z - P := by
          rw [← ab_neg, show -(P - z) = z - P by grind]
          exact ab_of_nonneg (by grind)
        rw [e1] at d2
        have d3 := ab_le.mp d2
        have hd : d ≤ -1 := by grind
        have hy : y ≤ -9 / 10 := by
          refine Rat.not_lt.mp fun hc => ?_
          have := Rat.mul_nonneg (show 0 ≤ y + 9 / 10 by grind) (Rat.le_of_lt hm0)
          grind
        have e2 : ab y = -y := by
          rw [← ab_neg]
          exact ab_of_nonneg (by grind)
        rw [e2] at q2
        have q3 := ab_le.mp q2
        grind
      · rw [e] at h; exact absurd (bad_inf v) h
    · rw [e, fDiv_inf m1 hm0] at h
      exact absurd (bad_inf v) h
  · rw [e, fSub_inf hp, fDiv_inf m1 hm0] at h
    exact absurd (bad_inf _) h
theorem zp_980 : zp 980 * 10000 ≤ zp 1000 := by decide +kernel
theorem zp_1000b : zp 1000 * 1000003 < zp 1022 := by decide +kernel
theorem ty_1000 : ty * zp 1000 ≤ 1 / 1000000 := by decide +kernel
theorem zp_980b : 1000000 ≤ zp 980 := by decide +kernel
theorem div_ab {a b B : Rat} (hb : 0 < b) (h : ab a ≤ B * b) : ab (a / b) ≤ B := by
  have e : a / b * b = a := Rat.div_mul_cancel (fun e => by rw [e] at hb; exact Rat.lt_irrefl hb)
  generalize a / b = y at e ⊢
  rw [← e] at h
  have h1 := ab_le.mp h
  rw [ab_le]
  constructor
  · exact Rat.le_of_mul_le_mul_right (by grind : -B * b ≤ y * b) hb
  · exact Rat.le_of_mul_le_mul_right h1.2 hb
/-- the rows times the window, and m -/
theorem rls_gm {n : Nat} {mu : Dt} {P : Nat → Nat → Dt} {xi : Nat → Int32} {M : Rat} (hn : n ≤ 4) (hP : ∀ i j, i < n → j < n → fn (P i j) ∧ ab (rv (P i j)) ≤ M) (h1 : 1 ≤ M) (hM : M ≤ zp 980) (hx : okX n xi) (hmu : okMu mu) :
    (∀ i, i < n → fn (sOut n (P i) xi)) ∧ fn (sM n mu P xi) ∧ ∃ G : Rat, 1 ≤ G ∧ G ≤ zp 1000 ∧ (∀ i, i < n → ab (rv (sOut n (P i) xi)) ≤ G) ∧ (G = 1 ∨ ∃ i, i < n ∧ G = ab (rv (sOut n (P i) xi))) ∧ ab (rv (sM n mu P xi)) ≤ 4003 * G := by
  have z := zp_980
  have z2 := zp_980b
  have hg : ∀ i, i < n → fn (sOut n (P i) xi) ∧ ab (rv (sOut n (P i) xi)) ≤ 4001 * M := by
    intro i hi
    obtain ⟨a, b⟩ := g_val (R := M) hn hx h1 (by grind) (fun j hj => hP i j hi hj)
    refine ⟨a, ?_⟩
    have h2 := rsum_ab (f := fun j => rv (P i j) * xr xi j) (n := n) (B := M * 1000) (fun j hj => mul_ab (hP i j hi hj).2 (hx j hj))
    have hn4 : (n : Rat) ≤ 4 := by
      have := Rat.natCast_le_natCast.mpr hn
      exact this
    have h5 := Rat.mul_le_mul_of_nonneg_right hn4 (show 0 ≤ M * 1000 by grind)
    have k1 := ab_le.mp b
    have k2 := ab_le.mp h2
    rw [ab_le]
    constructor <;> grind
  obtain ⟨G, g1, g2, g3⟩ := gmax (fun i => rv (sOut n (P i) xi)) n
  have hG : G ≤ zp 1000 := by
    rcases g3 with g3 | ⟨i, hi, g3⟩
    · grind
    · have := (hg i hi).2
      grind
  obtain ⟨a, b⟩ := m_val hn hx hmu g1 hG (fun i hi => ⟨(hg i hi).1, g2 i hi⟩)
  exact ⟨fun i hi => (hg i hi).1, a, G, g1, hG, g2, g3, b⟩
/-- where m isn't too small, every k is a number, near g / m -/
theorem rls_k {n : Nat} {mu : Dt} {P : Nat → Nat → Dt} {xi : Nat → Int32} {M : Rat} (hn : n ≤ 4) (hP : ∀ i j, i < n → j < n → fn (P i j) ∧ ab (rv (P i j)) ≤ M) (h1 : 1 ≤ M) (hM : M ≤ zp 980) (hx : okX n xi) (hmu : okMu mu) (hlow : ¬ rLow n mu P xi) :
    1 / 1000001 ≤ rv (sM n mu P xi) ∧ ∀ i, i < n → fn (rK n mu P xi i) ∧ near (rv (rK n mu P xi i)) (rv (sOut n (P i) xi) / rv (sM n mu P xi)) := by
  obtain ⟨g0, m0, G, g1, g2, g3, -, -⟩ := rls_gm hn hP h1 hM hx hmu
  have hm : 1 / 1000001 ≤ rv (sM n mu P xi) := by
    have h2 : ¬ rv (sM n mu P xi) < rv (dV 4517329193108106637) := fun z => hlow ((fO_val m0 c_micro.1).1.mpr z)
    have h3 := Rat.not_lt.mp h2
    have h4 := c_micro.2
    grind
  refine ⟨hm, fun i hi => ?_⟩
  have hm0 : 0 < rv (sM n mu P xi) := by grind
  have hq : ab (rv (sOut n (P i) xi) / rv (sM n mu P xi)) ≤ zp 1000 * 1000001 := by
    refine div_ab hm0 ?_
    have e1 := g3 i hi
    have e2 := Rat.mul_le_mul_of_nonneg_left hm (Rat.le_of_lt (zp_pos 1000))
    grind
  have z1 := zp_1000b
  have z2 := zp_1022
  have z3 := zp_pos 1000
  exact fDiv_val (g0 i hi) m0 (fun e => by rw [e] at hm0; exact Rat.lt_irrefl hm0) (by grind)
end
section
theorem near_mul {k y g G : Rat} (hk : near k y) (hg : ab g ≤ G) (hG : G ≤ zp 1000) : ab (k * g - y * g) ≤ uu * ab (y * g) + 1 / 1000000 := by
  have e : k * g - y * g = (k - y) * g := by grind
  rw [e, ab_mul, ab_mul]
  unfold near at hk
  have h1 := Rat.mul_le_mul_of_nonneg_right hk (ab_nonneg g)
  have h2 := Rat.mul_le_mul_of_nonneg_left (Rat.le_trans hg hG) (Rat.le_of_lt ty_pos)
  have h3 := ty_1000
  grind
theorem yg_bound {k y g m G : Rat} (hk : near k y) (hg : ab g ≤ G) (hG : G ≤ zp 1000) (hm : 0 < m) (hy : y * m = g) (h : k * g ≤ 1000003) : y * g ≤ 1000004 := by
  have h1 := near_mul hk hg hG
  have h0 : 0 ≤ y * g := by
    rw [← hy]
    have : y * (y * m) = (y * y) * m := by grind
    rw [this]
    refine Rat.mul_nonneg ?_ (Rat.le_of_lt hm)
    rcases ab_def y with h | h
    · exact Rat.mul_nonneg h.1 h.1
    · have := Rat.mul_nonneg (show 0 ≤ -y by grind) (show 0 ≤ -y by grind)
      grind
  rw [ab_of_nonneg h0] at h1
  have h2 := ab_le.mp h1
  grind
theorem sq_ab {a b C m : Rat} (h1 : a * a ≤ C * m) (h2 : b * b ≤ C * m) : ab (a * b) ≤ C * m := by
  have sq : ∀ x : Rat, 0 ≤ x * x := by
    intro x
    rcases ab_def x with h | h
    · exact Rat.mul_nonneg h.1 h.1
    · have := Rat.mul_nonneg (show 0 ≤ -x by grind) (show 0 ≤ -x by grind)
      grind
  have k1 := sq (a - b)
  have k2 := sq (a + b)
  rw [ab_le]
  constructor <;> grind
theorem tri_end {A B D T Z X Y c p t : Rat} (e4 : A ≤ uu * D + T) (hT : T ≤ 1) (hd : D ≤ Z + (uu * Z + t)) (ht : t ≤ 1) (hpz : Z ≤ p + 1000006) (d2 : B ≤ uu * Z + t) (hz : c ≤ 1000006) (e6 : X ≤ A + Y) (e7 : Y ≤ B + c) (hp : 0 ≤ p) : X ≤ 2097152 + p / 2251799813685248 := by
  grind
/-- a step that isn't reset -/
theorem rls_live {n : Nat} {mu : Dt} {P : Nat → Nat → Dt} {xi : Nat → Int32} {M : Rat} (hn : n ≤ 4) (hP : okP n M P) (h1 : 1 ≤ M) (hM : M ≤ zp 980) (hx : okX n xi) (hmu : okMu mu) (hlow : ¬ rLow n mu P xi) (hov : ¬ rOv (fun i => rQ n mu P xi i i) n = true) :
    (∀ i, i < n → ab (rv (sOut n (P i) xi)) ≤ 4294967296) ∧ (∀ i j, i < n → j < n → fn (rQ n mu P xi i j) ∧ ab (rv (rQ n mu P xi i j) * rv mu - rv (P i j)) ≤ 2097152 + ab (rv (P i j)) / 2251799813685248) ∧ ∀ i, i < n → 0 ≤ rv (rQ n mu P xi i i) ∧ rv (rQ n mu P xi i i) ≤ 1000000 := by
  obtain ⟨g0, m0, G, g1, g2, g3, g4, mG⟩ := rls_gm hn hP.1 h1 hM hx hmu
  obtain ⟨hm, hk⟩ := rls_k hn hP.1 h1 hM hx hmu hlow
  have hb := rOv_no hov
  have hm0 : 0 < rv (sM n mu P xi) := by grind
  have hmn : rv (sM n mu P xi) ≠ 0 := fun e => by rw [e] at hm0; exact Rat.lt_irrefl hm0
  have hy : ∀ i, rv (sOut n (P i) xi) / rv (sM n mu P xi) * rv (sM n mu P xi) = rv (sOut n (P i) xi) := fun i => Rat.div_mul_cancel hmn
  have hmu0 := mu_pos0 hmu
  have hyg : ∀ i, i < n → rv (sOut n (P i) xi) / rv (sM n mu P xi) * rv (sOut n (P i) xi) ≤ 1000004 := by
    intro i hi
    have h2 := kg_bound (hP.1 i i hi hi).1 (hP.2 i hi).1 (hP.2 i hi).2 (hk i hi).1 (g0 i hi) hmu (hb i hi)
    exact yg_bound (hk i hi).2 (g3 i hi) g2 hm0 (hy i) h2
  have hgg : ∀ i, i < n → rv (sOut n (P i) xi) * rv (sOut n (P i) xi) ≤ 1000004 * rv (sM n mu P xi) := by
    intro i hi
    have h2 := Rat.mul_le_mul_of_nonneg_right (hyg i hi) (Rat.le_of_lt hm0)
    have h3 := hy i
    generalize rv (sOut n (P i) xi) / rv (sM n mu P xi) = y at h2 h3
    have h4 : y * rv (sOut n (P i) xi) * rv (sM n mu P xi) = (y * rv (sM n mu P xi)) * rv (sOut n (P i) xi) := by grind
    rw [h4, h3] at h2
    exact h2
  have hG : G ≤ 4003016012 := by
    rcases g4 with g4 | ⟨i, hi, g4⟩
    · grind
    · have h2 := hgg i hi
      have h3 : G * G = rv (sOut n (P i) xi) * rv (sOut n (P i) xi) := by
        rw [g4, ← ab_mul]
        refine ab_of_nonneg ?_
        generalize rv (sOut n (P i) xi) = x
        rcases ab_def x with h | h
        · exact Rat.mul_nonneg h.1 h.1
        · have := Rat.mul_nonneg (show 0 ≤ -x by grind) (show 0 ≤ -x by grind)
          grind
      have h4 := (ab_le.mp mG).2
      refine Rat.le_of_mul_le_mul_right (c := G) ?_ (by grind)
      rw [h3]
      grind
  have hmain : ∀ i j, i < n → j < n → fn (rQ n mu P xi i j) ∧ ab (rv (rQ n mu P xi i j) * rv mu - rv (P i j)) ≤ 2097152 + ab (rv (P i j)) / 2251799813685248 := by
    intro i j hi hj
    have hgj := g3 j hj
    have hyj : ab (rv (sOut n (P i) xi) / rv (sM n mu P xi) * rv (sOut n (P j) xi)) ≤ 1000004 := by
      have h2 := ab_le.mp (sq_ab (hgg i hi) (hgg j hj))
      have h3 := hy i
      generalize rv (sOut n (P i) xi) / rv (sM n mu P xi) = y at h3 ⊢
      have h4 : y * rv (sOut n (P j) xi) * rv (sM n mu P xi) = rv (sOut n (P i) xi) * rv (sOut n (P j) xi) := by
        rw [← h3]; grind
      rw [ab_le]
      constructor
      · exact Rat.le_of_mul_le_mul_right (by rw [h4]; grind : -1000004 * rv (sM n mu P xi) ≤ _) hm0
      · exact Rat.le_of_mul_le_mul_right (by rw [h4]; exact h2.2) hm0
    have hkg := near_mul (hk i hi).2 hgj g2
    have z1 := zp_980
    have z2 := zp_980b
    have z3 := zp_1000b
    have z4 := zp_1022
    have t1 := ty_pos
    have t2 := ty_small
    have kk := (hk i hi).1
    have gg := g0 j hj
    obtain ⟨p1, p2⟩ := hP.1 i j hi hj
    have hkg2 : ab (rv (rK n mu P xi i) * rv (sOut n (P j) xi)) ≤ 1000005 := by
      have a1 := ab_le.mp hkg
      have a2 := ab_le.mp hyj
      rw [ab_le]
      constructor <;> grind
    obtain ⟨q1, q2⟩ := fMul_val kk gg (by grind)
    show fn (fDiv (fSub (P i j) (fMul (rK n mu P xi i) (sOut n (P j) xi))) mu) ∧ ab (rv (fDiv (fSub (P i j) (fMul (rK n mu P xi i) (sOut n (P j) xi))) mu) * rv mu - rv (P i j)) ≤ _
    generalize fMul (rK n mu P xi i) (sOut n (P j) xi) = z at q1 q2 ⊢
    unfold near at q2
    have hz : ab (rv z) ≤ 1000006 := by
      have a1 := ab_le.mp q2
      have a2 := ab_le.mp hkg2
      rw [ab_le]
      constructor <;> grind
    have hpz : ab (rv (P i j) - rv z) ≤ ab (rv (P i j)) + 1000006 := by
      have := ab_sub (rv (P i j)) (rv z)
      grind
    obtain ⟨d1, d2⟩ := fSub_val p1 q1 (by grind)
    generalize fSub (P i j) z = d at d1 d2 ⊢
    unfold near at d2
    have hd : ab (rv d) ≤ ab (rv (P i j) - rv z) + (uu * ab (rv (P i j) - rv z) + ty) := by
      have := ab_add (rv d - (rv (P i j) - rv z)) (rv (P i j) - rv z)
      rw [show rv d - (rv (P i j) - rv z) + (rv (P i j) - rv z) = rv d by grind] at this
      grind
    have hmn2 : rv mu ≠ 0 := fun e => by rw [e] at hmu0; exact Rat.lt_irrefl hmu0
    have hm2 := hmu.2
    have hdm : ab (rv d / rv mu) ≤ zp 1000 := by
      refine div_ab hmu0 ?_
      have := Rat.mul_le_mul_of_nonneg_left hm2.1 (Rat.le_of_lt (zp_pos 1000))
      grind
    obtain ⟨e1, e2⟩ := fDiv_val d1 hmu.1 hmn2 (by grind)
    refine ⟨e1, ?_⟩
    have hyd : rv d / rv mu * rv mu = rv d := Rat.div_mul_cancel hmn2
    unfold near at e2
    have e3 := Rat.mul_le_mul_of_nonneg_right e2 (Rat.le_of_lt hmu0)
    have e4 : ab (rv (fDiv d mu) * rv mu - rv d) ≤ uu * ab (rv d) + ty * rv mu := by
      generalize rv d / rv mu = y at hyd e3
      rw [← hyd]
      have a1 : ab (rv (fDiv d mu) * rv mu - y * rv mu) = ab (rv (fDiv d mu) - y) * rv mu := by
        rw [show rv (fDiv d mu) * rv mu - y * rv mu = (rv (fDiv d mu) - y) * rv mu by grind, ab_mul, ab_of_nonneg (Rat.le_of_lt hmu0)]
      have a2 : ab (y * rv mu) = ab y * rv mu := by rw [ab_mul, ab_of_nonneg (Rat.le_of_lt hmu0)]
      rw [a1, a2]
      grind
    have e5 : ty * rv mu ≤ 1 := by
      have := Rat.mul_le_mul_of_nonneg_left hm2.2 (Rat.le_of_lt t1)
      grind
    have e6 := ab_add (rv (fDiv d mu) * rv mu - rv d) (rv d - rv (P i j))
    have e7 := ab_add (rv d - (rv (P i j) - rv z)) (-rv z)
    rw [ab_neg] at e7
    rw [show rv (fDiv d mu) * rv mu - rv d + (rv d - rv (P i j)) = rv (fDiv d mu) * rv mu - rv (P i j) by grind] at e6
    rw [show rv d - (rv (P i j) - rv z) + -rv z = rv d - rv (P i j) by grind] at e7
    exact tri_end e4 e5 hd (by grind : ty ≤ 1) hpz d2 hz e6 e7 (ab_nonneg _)
  exact ⟨fun i hi => by have := g3 i hi; grind, hmain, fun i hi => bad_no (hmain i i hi hi).1 (hb i hi)⟩
end
section
/-! ===== a huge row of the square, and the windows that it learned ===== -/
def rw4 (n : Nat) (P : Nat → Nat → Dt) (i j : Nat) : Rat := if j < n then rv (P i j) else 0
def dot (v : Nat → Rat) (w : Nat → Int32) : Rat := v 0 * xr w 0 + v 1 * xr w 1 + v 2 * xr w 2 + v 3 * xr w 3
theorem dot_rsum {n : Nat} (hn : n ≤ 4) (P : Nat → Nat → Dt) (i : Nat) (w : Nat → Int32) : rsum (fun j => rv (P i j) * xr w j) n = dot (rw4 n P i) w := by
  have h : n = 0 ∨ n = 1 ∨ n = 2 ∨ n = 3 ∨ n = 4 := by omega
  unfold dot rw4
  rcases h with h | h | h | h | h <;> subst h <;> simp [rsum] <;> grind
/-- R is the greatest size in v -/
def top (v : Nat → Rat) (R : Rat) : Prop := (∀ j, j < 4 → ab (v j) ≤ R) ∧ ∃ j, j < 4 ∧ ab (v j) = R
theorem top_ex (v : Nat → Rat) : ∃ R, top v R := by
  have key : ∀ n : Nat, ∃ R, (∀ j, j < n + 1 → ab (v j) ≤ R) ∧ ∃ j, j < n + 1 ∧ ab (v j) = R := by
    intro n
    induction n with
    | zero => exact ⟨ab (v 0), fun j hj => by rw [show j = 0 by omega]; exact Rat.le_refl, 0, by omega, rfl⟩
    | succ n ih =>
      obtain ⟨R, h1, j, h2, h3⟩ := ih
      by_cases h : ab (v (n + 1)) ≤ R
      · refine ⟨R, fun k hk => ?_, j, by omega, h3⟩
        by_cases e : k = n + 1
        · rw [e]; exact h
        · exact h1 k (by omega)
      · have h' := Rat.not_le.mp h
        refine ⟨ab (v (n + 1)), fun k hk => ?_, n + 1, by omega, rfl⟩
        by_cases e : k = n + 1
        · rw [e]; exact Rat.le_refl
        · have := h1 k (by omega)
          grind
  exact key 3
/-- one step that isn't reset, of a row -/
def stepR (v u : Nat → Rat) (s : Rat) : Prop := 1125899906842623 / 2251799813685248 ≤ s ∧ s ≤ 1001 / 1000 ∧ ∀ j, j < 4 → ab (u j * s - v j) ≤ 2097152 + ab (v j) / 2251799813685248
theorem step_top {v u : Nat → Rat} {s R S : Rat} (h : stepR v u s) (hR : top v R) (hS : top u S) (hR0 : 1180591620717411303424 ≤ R) : R * (281474976710655 / 281474976710656) ≤ S * s := by
  obtain ⟨h1, h2, h3⟩ := h
  obtain ⟨r1, j, hj, r2⟩ := hR
  have a1 := h3 j hj
  have a2 := hS.1 j hj
  have a3 := ab_add (u j * s - v j) (-(u j * s))
  rw [show u j * s - v j + -(u j * s) = -v j by grind, ab_neg, ab_neg, ab_mul, ab_of_nonneg (show 0 ≤ s by grind)] at a3
  have a4 := Rat.mul_le_mul_of_nonneg_right a2 (show 0 ≤ s by grind)
  grind
theorem step_up {v u : Nat → Rat} {s R : Rat} (h : stepR v u s) (hR : ∀ j, j < 4 → ab (v j) ≤ R) (hR0 : 1180591620717411303424 ≤ R) : ∀ j, j < 4 → ab (u j) ≤ R * (1001 / 500) := by
  obtain ⟨h1, h2, h3⟩ := h
  intro j hj
  have a1 := h3 j hj
  have a2 := hR j hj
  have a3 := ab_add (u j * s - v j) (v j)
  rw [show u j * s - v j + v j = u j * s by grind, ab_mul, ab_of_nonneg (show 0 ≤ s by grind)] at a3
  have a4 := Rat.mul_le_mul_of_nonneg_left h1 (ab_nonneg (u j))
  grind
theorem dot_ab {e : Nat → Rat} {w : Nat → Int32} {B : Rat} (hw : ∀ j, j < 4 → ab (xr w j) ≤ 1000) (he : ∀ j, j < 4 → ab (e j) ≤ B) : ab (dot e w) ≤ 4000 * B := by
  have m : ∀ j, j < 4 → ab (e j * xr w j) ≤ B * 1000 := fun j hj => mul_ab (he j hj) (hw j hj)
  have m0 := m 0 (by omega)
  have m1 := m 1 (by omega)
  have m2 := m 2 (by omega)
  have m3 := m 3 (by omega)
  unfold dot
  have a1 := ab_add (e 0 * xr w 0 + e 1 * xr w 1 + e 2 * xr w 2) (e 3 * xr w 3)
  have a2 := ab_add (e 0 * xr w 0 + e 1 * xr w 1) (e 2 * xr w 2)
  have a3 := ab_add (e 0 * xr w 0) (e 1 * xr w 1)
  grind
theorem dot_step {v u : Nat → Rat} {s R : Rat} {w : Nat → Int32} (h : stepR v u s) (hR : ∀ j, j < 4 → ab (v j) ≤ R) (hw : ∀ j, j < 4 → ab (xr w j) ≤ 1000) : ab (dot u w) * s ≤ ab (dot v w) + 4000 * (2097152 + R / 2251799813685248) := by
  obtain ⟨h1, h2, h3⟩ := h
  have a1 := dot_ab (e := fun j => u j * s - v j) (B := 2097152 + R / 2251799813685248) hw (fun j hj => by have := h3 j hj; have := hR j hj; grind)
  have a2 : dot u w * s = dot (fun j => u j * s - v j) w + dot v w := by unfold dot; grind
  have a3 := ab_add (dot (fun j => u j * s - v j) w) (dot v w)
  rw [← a2, ab_mul, ab_of_nonneg (show 0 ≤ s by grind)] at a3
  grind
/-- how far a window that was learned is off the row behind one more step -/
theorem res_step {v u : Nat → Rat} {s R S C : Rat} {w : Nat → Int32} (h : stepR v u s) (hR : top v R) (hS : top u S) (hR0 : 1180591620717411303424 ≤ R) (hw : ∀ j, j < 4 → ab (xr w j) ≤ 1000) (hC0 : 0 ≤ C) (hC : C ≤ 4000) (hd : ab (dot v w) ≤ C * R / 68719476736) : ab (dot u w) ≤ (C + 1) * S / 68719476736 := by
  have b1 := step_top h hR hS hR0
  have b2 := dot_step h hR.1 hw
  have hs : 0 < s := by have := h.1; grind
  have b3 := Rat.mul_le_mul_of_nonneg_left b1 (show 0 ≤ C + 1 by grind)
  have b4 := Rat.mul_le_mul_of_nonneg_right hC (show 0 ≤ R by grind)
  refine Rat.le_of_mul_le_mul_right (c := s) ?_ hs
  have e1 : (C + 1) * S / 68719476736 * s = (C + 1) * (S * s) / 68719476736 := by grind
  rw [e1]
  grind
theorem res_new {v u : Nat → Rat} {s R S : Rat} {w : Nat → Int32} (h : stepR v u s) (hR : top v R) (hS : top u S) (hR0 : 1180591620717411303424 ≤ R) (hw : ∀ j, j < 4 → ab (xr w j) ≤ 1000) (hd : ab (dot v w) ≤ 4294967296 + R / 68719476736) : ab (dot u w) ≤ 2 * S / 68719476736 := by
  have b1 := step_top h hR hS hR0
  have b2 := dot_step h hR.1 hw
  have hs : 0 < s := by have := h.1; grind
  refine Rat.le_of_mul_le_mul_right (c := s) ?_ hs
  grind
end
section
/-! ===== three windows that a huge row learned are in one plane ===== -/
def det3 (a0 a1 a2 b0 b1 b2 c0 c1 c2 : Int) : Int := a0 * (b1 * c2 - b2 * c1) - a1 * (b0 * c2 - b2 * c0) + a2 * (b0 * c1 - b1 * c0)
abbrev wi (w : Nat → Int32) (k : Nat) : Int := (w k).toInt
def offI (i : Nat) : Nat × Nat × Nat := if i = 0 then (1, 2, 3) else if i = 1 then (0, 2, 3) else if i = 2 then (0, 1, 3) else (0, 1, 2)
def detI (i : Nat) (a b c : Nat → Int32) : Int := det3 (wi a (offI i).1) (wi a (offI i).2.1) (wi a (offI i).2.2) (wi b (offI i).1) (wi b (offI i).2.1) (wi b (offI i).2.2) (wi c (offI i).1) (wi c (offI i).2.1) (wi c (offI i).2.2)
theorem minor_ab {a b c d : Rat} (ha : ab a ≤ 1000) (hb : ab b ≤ 1000) (hc : ab c ≤ 1000) (hd : ab d ≤ 1000) : ab (a * b - c * d) ≤ 2000000 := by
  have h1 := mul_ab ha hb
  have h2 := mul_ab hc hd
  have h3 := ab_sub (a * b) (c * d)
  grind
theorem int_ab {z : Int} (h : z ≠ 0) : 1 ≤ ab (z : Rat) := by
  rcases (show z ≤ -1 ∨ 1 ≤ z by omega) with h1 | h1
  · have h2 : (z : Rat) ≤ ((-1 : Int) : Rat) := Rat.intCast_le_intCast.mpr h1
    have h3 : ((-1 : Int) : Rat) = -1 := rfl
    have := neg_le_ab (z : Rat)
    grind
  · have h2 : ((1 : Int) : Rat) ≤ (z : Rat) := Rat.intCast_le_intCast.mpr h1
    have h3 : ((1 : Int) : Rat) = 1 := rfl
    have := le_ab (z : Rat)
    grind
theorem cramer {a0 a1 a2 b0 b1 b2 c0 c1 c2 : Int} {v0 v1 v2 E : Rat} (hD : det3 a0 a1 a2 b0 b1 b2 c0 c1 c2 ≠ 0)
    (ha1 : ab (a1 : Rat) ≤ 1000) (ha2 : ab (a2 : Rat) ≤ 1000) (hb1 : ab (b1 : Rat) ≤ 1000) (hb2 : ab (b2 : Rat) ≤ 1000) (hc1 : ab (c1 : Rat) ≤ 1000) (hc2 : ab (c2 : Rat) ≤ 1000)
    (ea : ab (v0 * a0 + v1 * a1 + v2 * a2) ≤ E) (eb : ab (v0 * b0 + v1 * b1 + v2 * b2) ≤ E) (ec : ab (v0 * c0 + v1 * c1 + v2 * c2) ≤ E) : ab v0 ≤ 6000000 * E := by
  have hk := int_ab hD
  have e : ((det3 a0 a1 a2 b0 b1 b2 c0 c1 c2 : Int) : Rat) * v0 = (v0 * a0 + v1 * a1 + v2 * a2) * ((b1 : Rat) * c2 - b2 * c1) - (v0 * b0 + v1 * b1 + v2 * b2) * ((a1 : Rat) * c2 - a2 * c1) + (v0 * c0 + v1 * c1 + v2 * c2) * ((a1 : Rat) * b2 - a2 * b1) := by
    unfold det3
    simp only [Rat.intCast_add, Rat.intCast_sub, Rat.intCast_mul]
    grind
  have m1 := mul_ab ea (minor_ab hb1 hc2 hb2 hc1)
  have m2 := mul_ab eb (minor_ab ha1 hc2 ha2 hc1)
  have m3 := mul_ab ec (minor_ab ha1 hb2 ha2 hb1)
  have h1 := ab_add ((v0 * a0 + v1 * a1 + v2 * a2) * ((b1 : Rat) * c2 - b2 * c1) - (v0 * b0 + v1 * b1 + v2 * b2) * ((a1 : Rat) * c2 - a2 * c1)) ((v0 * c0 + v1 * c1 + v2 * c2) * ((a1 : Rat) * b2 - a2 * b1))
  have h2 := ab_sub ((v0 * a0 + v1 * a1 + v2 * a2) * ((b1 : Rat) * c2 - b2 * c1)) ((v0 * b0 + v1 * b1 + v2 * b2) * ((a1 : Rat) * c2 - a2 * c1))
  rw [← e, ab_mul] at h1
  have h3 := Rat.mul_le_mul_of_nonneg_right hk (ab_nonneg v0)
  grind
theorem cramer3 {a0 a1 a2 b0 b1 b2 c0 c1 c2 : Int} {v0 v1 v2 E : Rat} (hD : det3 a0 a1 a2 b0 b1 b2 c0 c1 c2 ≠ 0)
    (ha0 : ab (a0 : Rat) ≤ 1000) (ha1 : ab (a1 : Rat) ≤ 1000) (ha2 : ab (a2 : Rat) ≤ 1000) (hb0 : ab (b0 : Rat) ≤ 1000) (hb1 : ab (b1 : Rat) ≤ 1000) (hb2 : ab (b2 : Rat) ≤ 1000) (hc0 : ab (c0 : Rat) ≤ 1000) (hc1 : ab (c1 : Rat) ≤ 1000) (hc2 : ab (c2 : Rat) ≤ 1000)
    (ea : ab (v0 * a0 + v1 * a1 + v2 * a2) ≤ E) (eb : ab (v0 * b0 + v1 * b1 + v2 * b2) ≤ E) (ec : ab (v0 * c0 + v1 * c1 + v2 * c2) ≤ E) : ab v0 ≤ 6000000 * E ∧ ab v1 ≤ 6000000 * E ∧ ab v2 ≤ 6000000 * E := by
  refine ⟨cramer hD ha1 ha2 hb1 hb2 hc1 hc2 ea eb ec, ?_, ?_⟩
  · refine cramer (a0 := a1) (a1 := a0) (a2 := a2) (b0 := b1) (b1 := b0) (b2 := b2) (c0 := c1) (c1 := c0) (c2 := c2) (v1 := v0) (v2 := v2) ?_ ha0 ha2 hb0 hb2 hc0 hc2 ?_ ?_ ?_
    · intro h; apply hD; unfold det3 at h ⊢; grind
    · rw [show v1 * (a1 : Rat) + v0 * a0 + v2 * a2 = v0 * a0 + v1 * a1 + v2 * a2 by grind]; exact ea
    · rw [show v1 * (b1 : Rat) + v0 * b0 + v2 * b2 = v0 * b0 + v1 * b1 + v2 * b2 by grind]; exact eb
    · rw [show v1 * (c1 : Rat) + v0 * c0 + v2 * c2 = v0 * c0 + v1 * c1 + v2 * c2 by grind]; exact ec
  · refine cramer (a0 := a2) (a1 := a1) (a2 := a0) (b0 := b2) (b1 := b1) (b2 := b0) (c0 := c2) (c1 := c1) (c2 := c0) (v1 := v1) (v2 := v0) ?_ ha1 ha0 hb1 hb0 hc1 hc0 ?_ ?_ ?_
    · intro h; apply hD; unfold det3 at h ⊢; grind
    · rw [show v2 * (a2 : Rat) + v1 * a1 + v0 * a0 = v0 * a0 + v1 * a1 + v2 * a2 by grind]; exact ea
    · rw [show v2 * (b2 : Rat) + v1 * b1 + v0 * b0 = v0 * b0 + v1 * b1 + v2 * b2 by grind]; exact eb
    · rw [show v2 * (c2 : Rat) + v1 * c1 + v0 * c0 = v0 * c0 + v1 * c1 + v2 * c2 by grind]; exact ec
theorem offI_lt (i : Nat) (hi : i < 4) : (offI i).1 < 4 ∧ (offI i).2.1 < 4 ∧ (offI i).2.2 < 4 := by
  rcases (show i = 0 ∨ i = 1 ∨ i = 2 ∨ i = 3 by omega) with h | h | h | h <;> subst h <;> decide
theorem offI_all {i : Nat} (hi : i < 4) {j : Nat} (hj : j < 4) (hne : j ≠ i) : j = (offI i).1 ∨ j = (offI i).2.1 ∨ j = (offI i).2.2 := by
  rcases (show i = 0 ∨ i = 1 ∨ i = 2 ∨ i = 3 by omega) with h | h | h | h <;> subst h <;> rcases (show j = 0 ∨ j = 1 ∨ j = 2 ∨ j = 3 by omega) with h | h | h | h <;> subst h <;> first | (exact absurd rfl hne) | decide
theorem dot_off {i : Nat} (hi : i < 4) (v : Nat → Rat) (w : Nat → Int32) : dot v w = v (offI i).1 * (wi w (offI i).1 : Rat) + v (offI i).2.1 * (wi w (offI i).2.1 : Rat) + v (offI i).2.2 * (wi w (offI i).2.2 : Rat) + v i * xr w i := by
  unfold dot
  rcases (show i = 0 ∨ i = 1 ∨ i = 2 ∨ i = 3 by omega) with h | h | h | h <;> subst h <;> simp [offI] <;> grind
theorem three {i : Nat} (hi : i < 4) {v : Nat → Rat} {R : Rat} (hR : top v R) (hR0 : 1180591620717411303424 ≤ R) (hvi : ab (v i) ≤ 1000000) {a b c : Nat → Int32}
    (wa : ∀ j, j < 4 → ab (xr a j) ≤ 1000) (wb : ∀ j, j < 4 → ab (xr b j) ≤ 1000) (wc : ∀ j, j < 4 → ab (xr c j) ≤ 1000)
    (da : ab (dot v a) ≤ 2002 * R / 68719476736) (db : ab (dot v b) ≤ 2002 * R / 68719476736) (dc : ab (dot v c) ≤ 2002 * R / 68719476736) : detI i a b c = 0 := by
  refine Classical.byContradiction fun hD => ?_
  obtain ⟨o1, o2, o3⟩ := offI_lt i hi
  have part : ∀ w : Nat → Int32, (∀ j, j < 4 → ab (xr w j) ≤ 1000) → ab (dot v w) ≤ 2002 * R / 68719476736 → ab (v (offI i).1 * (wi w (offI i).1 : Rat) + v (offI i).2.1 * (wi w (offI i).2.1 : Rat) + v (offI i).2.2 * (wi w (offI i).2.2 : Rat)) ≤ 2002 * R / 68719476736 + 1000000000 := by
    intro w hw hd
    rw [dot_off hi] at hd
    have h1 := mul_ab hvi (hw i hi)
    generalize v (offI i).1 * (wi w (offI i).1 : Rat) + v (offI i).2.1 * (wi w (offI i).2.1 : Rat) + v (offI i).2.2 * (wi w (offI i).2.2 : Rat) = y at hd ⊢
    have h2 := ab_sub (y + v i * xr w i) (v i * xr w i)
    rw [show y + v i * xr w i - v i * xr w i = y by grind] at h2
    grind
  have hc := cramer3 (v0 := v (offI i).1) (v1 := v (offI i).2.1) (v2 := v (offI i).2.2) hD (wa _ o1) (wa _ o2) (wa _ o3) (wb _ o1) (wb _ o2) (wb _ o3) (wc _ o1) (wc _ o2) (wc _ o3) (part a wa da) (part b wb db) (part c wc dc)
  obtain ⟨h1, j, hj, h2⟩ := hR
  by_cases hne : j = i
  · rw [hne] at h2
    grind
  · rcases offI_all hi hj hne with e | e | e
    · rw [e] at h2; grind
    · rw [e] at h2; grind
    · rw [e] at h2; grind
end
section
/-! ===== the square stays below 2^980, where no plane holds more than 906 of the windows ===== -/
abbrev H100 : UInt64 := 4636737291354636288
def rRes (n : Nat) (mu : Dt) (P : Nat → Nat → Dt) (xi : Nat → Int32) : Bool := decide (rLow n mu P xi) || rOv (fun i => rQ n mu P xi i i) n
/-- P behind a sample -/
def rP (n : Nat) (mu : Dt) (P : Nat → Nat → Dt) (xi : Nat → Int32) (i j : Nat) : Dt := if rRes n mu P xi = true then (if i = j then dV H100 else dV 0) else rQ n mu P xi i j
/-- a weight behind a sample -/
def fHold (x b nb : Dt) : Dt := if fO x b = some .gt then b else if fO x nb = some .lt then nb else x
abbrev fresh (n : Nat) (P : Nat → Nat → Dt) : Prop := ∀ a c, a < n → c < n → P a c = if a = c then dV H100 else dV 0
/-- the squares that an RLS of n taps may have behind these samples, the latest first -/
def Reach (n : Nat) : List (Nat → Int32) → (Nat → Nat → Dt) → Prop
  | [], P => fresh n P
  | w :: ws, P => fresh n P ∨ Reach n ws P ∨ ∃ mu Q, okMu mu ∧ Reach n ws Q ∧ ∀ a c, a < n → c < n → P a c = rP n mu Q w a c
abbrev okW (w : Nat → Int32) : Prop := ∀ j, j < 4 → ab (xr w j) ≤ 1000
/-- no plane beside a place holds more than 906 of the windows -/
def HB (ws : List (Nat → Int32)) : Prop := ∀ i, i < 4 → ∀ Ls : List (Nat → Int32), Ls.Sublist ws → (∀ a b c, a ∈ Ls → b ∈ Ls → c ∈ Ls → detI i a b c = 0) → Ls.length ≤ 906
theorem HB.tail {w : Nat → Int32} {ws : List (Nat → Int32)} (h : HB (w :: ws)) : HB ws := fun i hi Ls hs hd => h i hi Ls (List.Sublist.cons w hs) hd
def Str (n i : Nat) (ws : List (Nat → Int32)) (P : Nat → Nat → Dt) : Prop :=
  (∀ j, j < 4 → ab (rw4 n P i j) ≤ 1180591620717411303424) ∨ ∃ (R : Rat) (Ls : List (Nat → Int32)), Ls.length ≤ 906 ∧ top (rw4 n P i) R ∧ 1180591620717411303424 ≤ R ∧ Ls.Sublist ws ∧ R ≤ 4722366482869645213696 * (1001 / 500) ^ Ls.length ∧ ∀ w, w ∈ Ls → ab (dot (rw4 n P i) w) ≤ ((Ls.length : Rat) + 1) * R / 68719476736
theorem Str.cons {n i : Nat} {ws : List (Nat → Int32)} {P : Nat → Nat → Dt} (h : Str n i ws P) (w : Nat → Int32) : Str n i (w :: ws) P := by
  rcases h with h | ⟨R, Ls, h0, h1, h2, h3, h4⟩
  · exact Or.inl h
  · exact Or.inr ⟨R, Ls, h0, h1, h2, List.Sublist.cons w h3, h4⟩
theorem rw4_congr {n i : Nat} {P Q : Nat → Nat → Dt} (hi : i < n) (h : ∀ a c, a < n → c < n → P a c = Q a c) : rw4 n P i = rw4 n Q i := by
  funext j
  unfold rw4
  by_cases e : j < n
  · rw [if_pos e, if_pos e, h i j hi e]
  · rw [if_neg e, if_neg e]
theorem fresh_ab {n : Nat} {P : Nat → Nat → Dt} (h : fresh n P) {a c : Nat} (ha : a < n) (hc : c < n) : fn (P a c) ∧ ab (rv (P a c)) ≤ 100 ∧ (a = c → rv (P a c) = 100) := by
  rw [h a c ha hc]
  by_cases e : a = c
  · rw [if_pos e, c_100.2]
    exact ⟨c_100.1, by decide +kernel, fun _ => rfl⟩
  · rw [if_neg e, c_zero.2]
    exact ⟨c_zero.1, by decide +kernel, fun z => absurd z e⟩
theorem fresh_ok {n : Nat} {P : Nat → Nat → Dt} (h : fresh n P) (ws : List (Nat → Int32)) : okP n (zp 980) P ∧ ∀ i, i < n → Str n i ws P := by
  have z := zp_980b
  refine ⟨⟨fun a c ha hc => ⟨(fresh_ab h ha hc).1, by have := (fresh_ab h ha hc).2.1; grind⟩, fun i hi => ?_⟩, fun i hi => Or.inl fun j hj => ?_⟩
  · have := (fresh_ab h hi hi).2.2 rfl
    grind
  · unfold rw4
    split
    · rename_i hj2
      have := (fresh_ab h hi hj2).2.1
      grind
    · rw [ab_zero]; decide +kernel
theorem grow_mono {a b : Nat} (h : a ≤ b) : ((1001 / 500 : Rat)) ^ a ≤ (1001 / 500) ^ b := by
  induction b with
  | zero => rw [show a = 0 by omega]; exact Rat.le_refl
  | succ b ih =>
    by_cases e : a = b + 1
    · rw [e]; exact Rat.le_refl
    · have h1 := ih (by omega)
      have h2 : (0 : Rat) < (1001 / 500) ^ b := Rat.pow_pos (by decide +kernel)
      rw [Rat.pow_succ]
      grind
theorem grow_906 : (4722366482869645213696 : Rat) * (1001 / 500) ^ 906 ≤ zp 980 := by decide +kernel
theorem rw4_ab {n i : Nat} {P : Nat → Nat → Dt} {M : Rat} (hi : i < n) (hM : 0 ≤ M) (h : ∀ a c, a < n → c < n → fn (P a c) ∧ ab (rv (P a c)) ≤ M) : ∀ j, j < 4 → ab (rw4 n P i j) ≤ M := by
  intro j _
  unfold rw4
  split
  · rename_i hj
    exact (h i j hi hj).2
  · rw [ab_zero]; exact hM
/-- with at most 906 windows, every row is below 2^980 -/
theorem str_top {n i : Nat} {ws : List (Nat → Int32)} {P : Nat → Nat → Dt} (h : Str n i ws P) : ∀ j, j < 4 → ab (rw4 n P i j) ≤ zp 980 := by
  have z := grow_906
  rcases h with h | ⟨R, Ls, h0, h1, h2, h3, h4, h5⟩
  · intro j hj
    have b : (1180591620717411303424 : Rat) ≤ zp 980 := by decide +kernel
    exact Rat.le_trans (h j hj) b
  · intro j hj
    have b := Rat.mul_le_mul_of_nonneg_left (c := 4722366482869645213696) (grow_mono h0) (by decide +kernel)
    exact Rat.le_trans (h1.1 j hj) (Rat.le_trans h4 (Rat.le_trans b z))
theorem det_triples {i : Nat} (hi : i < 4) {v : Nat → Rat} {R : Rat} (hR : top v R) (hR0 : 1180591620717411303424 ≤ R) (hvi : ab (v i) ≤ 1000000) {Ls : List (Nat → Int32)} {C : Rat} (hC : C ≤ 2002) (hw : ∀ w, w ∈ Ls → okW w) (hd : ∀ w, w ∈ Ls → ab (dot v w) ≤ C * R / 68719476736) : ∀ a b c, a ∈ Ls → b ∈ Ls → c ∈ Ls → detI i a b c = 0 := by
  have hC2 := Rat.mul_le_mul_of_nonneg_right hC (show 0 ≤ R by grind)
  have up : ∀ w, w ∈ Ls → ab (dot v w) ≤ 2002 * R / 68719476736 := fun w h => by have := hd w h; grind
  intro a b c ha hb hc
  exact three hi hR hR0 hvi (hw a ha) (hw b hb) (hw c hc) (up a ha) (up b hb) (up c hc)
/-- a step that isn't reset, of a row -/
theorem str_step {n i : Nat} (hi4 : i < 4) {w : Nat → Int32} {ws : List (Nat → Int32)} {P Q : Nat → Nat → Dt} {s : Rat} (hw : ∀ x, x ∈ w :: ws → okW x) (hB : HB (w :: ws)) (hst : stepR (rw4 n Q i) (rw4 n P i) s) (hd : ab (rw4 n P i i) ≤ 1000000)
    (hg : ∀ R, top (rw4 n Q i) R → 1180591620717411303424 ≤ R → ab (dot (rw4 n Q i) w) ≤ 4294967296 + R / 68719476736) (h : Str n i ws Q) : Str n i (w :: ws) P := by
  obtain ⟨S, hS⟩ := top_ex (rw4 n P i)
  by_cases hS0 : S ≤ 1180591620717411303424
  · exact Or.inl fun j hj => Rat.le_trans (hS.1 j hj) hS0
  · have hS1 : 1180591620717411303424 ≤ S := Rat.le_of_lt (Rat.not_le.mp hS0)
    rcases h with h | ⟨R, Ls, h0, h1, h2, h3, h4, h5⟩
    · refine Or.inr ⟨S, [], by decide, hS, hS1, List.nil_sublist _, ?_, fun x hx => absurd hx (List.not_mem_nil)⟩
      obtain ⟨-, j, hj, e⟩ := hS
      have a := step_up hst h Rat.le_refl j hj
      rw [e] at a
      show S ≤ 4722366482869645213696 * (1001 / 500) ^ 0
      rw [Rat.pow_zero]
      grind
    · have hC0 : (0 : Rat) ≤ (Ls.length : Rat) := Rat.natCast_nonneg
      have hC9 : (Ls.length : Rat) ≤ 906 := by
        have := Rat.natCast_le_natCast.mpr h0
        exact this
      have hres : ∀ x, x ∈ w :: Ls → ab (dot (rw4 n P i) x) ≤ ((Ls.length : Rat) + 1 + 1) * S / 68719476736 := by
        intro x hx
        rcases List.mem_cons.mp hx with e | e
        · subst e
          have a := res_new hst h1 hS h2 (hw _ List.mem_cons_self) (hg R h1 h2)
          have b := Rat.mul_nonneg hC0 (show 0 ≤ S by grind)
          grind
        · exact res_step hst h1 hS h2 (hw x (List.mem_cons_of_mem _ (h3.subset e))) (by grind) (by grind) (h5 x e)
      have hsub : (w :: Ls).Sublist (w :: ws) := List.Sublist.cons_cons w h3
      have hdet := det_triples (Ls := w :: Ls) (C := (Ls.length : Rat) + 1 + 1) hi4 hS hS1 hd (by grind) (fun x hx => hw x (hsub.subset hx)) hres
      have hlen := hB i hi4 (w :: Ls) hsub hdet
      refine Or.inr ⟨S, w :: Ls, hlen, hS, hS1, hsub, ?_, ?_⟩
      · obtain ⟨-, j, hj, e⟩ := hS
        have a := step_up hst h1.1 h2 j hj
        rw [e] at a
        show S ≤ 4722366482869645213696 * (1001 / 500) ^ (Ls.length + 1)
        rw [Rat.pow_succ]
        grind
      · intro x hx
        have e : (((w :: Ls).length : Nat) : Rat) = (Ls.length : Rat) + 1 := Rat.natCast_add Ls.length 1
        rw [e]
        exact hres x hx
end
section
theorem rw4_at {n i j : Nat} {P : Nat → Nat → Dt} (h : j < n) : rw4 n P i j = rv (P i j) := if_pos h
theorem live_step {n i : Nat} (hn : n ≤ 4) (hi : i < n) {mu : Dt} {P Q : Nat → Nat → Dt} (hmu : okMu mu)
    (hm : ∀ a c, a < n → c < n → fn (P a c) ∧ ab (rv (P a c) * rv mu - rv (Q a c)) ≤ 2097152 + ab (rv (Q a c)) / 2251799813685248) : stepR (rw4 n Q i) (rw4 n P i) (rv mu) := by
  refine ⟨hmu.2.1, hmu.2.2, fun j _ => ?_⟩
  unfold rw4
  by_cases e : j < n
  · rw [if_pos e, if_pos e]
    exact (hm i j hi e).2
  · rw [if_neg e, if_neg e, Rat.zero_mul, show (0 : Rat) - 0 = 0 by decide +kernel, ab_zero]
    decide +kernel
theorem live_g {n i : Nat} (hn : n ≤ 4) (hi : i < n) {Q : Nat → Nat → Dt} {w : Nat → Int32} (hQ : ∀ a c, a < n → c < n → fn (Q a c)) (hx : okX n w) (hg : ab (rv (sOut n (Q i) w)) ≤ 4294967296) (ht : ∀ j, j < 4 → ab (rw4 n Q i j) ≤ zp 980) : ∀ R, top (rw4 n Q i) R → 1180591620717411303424 ≤ R → ab (dot (rw4 n Q i) w) ≤ 4294967296 + R / 68719476736 := by
  intro R hR hR0
  have hR2 : R ≤ zp 1000 := by
    obtain ⟨-, j, hj, e⟩ := hR
    have a := ht j hj
    rw [e] at a
    have b : zp 980 ≤ zp 1000 := by decide +kernel
    exact Rat.le_trans a b
  obtain ⟨-, h2⟩ := g_val (w := Q i) (xi := w) (R := R) hn hx (by grind) hR2 (fun j hj => ⟨hQ i j hi hj, by have := hR.1 j (by omega); rw [rw4_at hj] at this; exact this⟩)
  rw [dot_rsum hn] at h2
  have h3 := ab_sub (rv (sOut n (Q i) w)) (rv (sOut n (Q i) w) - dot (rw4 n Q i) w)
  rw [show rv (sOut n (Q i) w) - (rv (sOut n (Q i) w) - dot (rw4 n Q i) w) = dot (rw4 n Q i) w by grind] at h3
  grind
theorem reach_ok {n : Nat} (hn : n ≤ 4) : ∀ (ws : List (Nat → Int32)) (P : Nat → Nat → Dt), (∀ w, w ∈ ws → okW w) → HB ws → Reach n ws P → okP n (zp 980) P ∧ ∀ i, i < n → Str n i ws P := by
  intro ws
  induction ws with
  | nil => intro P _ _ h; exact fresh_ok h []
  | cons w ws ih =>
    intro P hw hB h
    have hw' : ∀ x, x ∈ ws → okW x := fun x hx => hw x (List.mem_cons_of_mem _ hx)
    rcases h with h | h | ⟨mu, Q, hmu, hQ, e⟩
    · exact fresh_ok h _
    · obtain ⟨h1, h2⟩ := ih P hw' hB.tail h
      exact ⟨h1, fun i hi => (h2 i hi).cons w⟩
    · obtain ⟨h1, h2⟩ := ih Q hw' hB.tail hQ
      by_cases hr : rRes n mu Q w = true
      · refine fresh_ok (fun a c ha hc => ?_) _
        rw [e a c ha hc]
        exact if_pos hr
      · have e' : ∀ a c, a < n → c < n → P a c = rQ n mu Q w a c := fun a c ha hc => (e a c ha hc).trans (if_neg hr)
        unfold rRes at hr
        rw [Bool.or_eq_true, decide_eq_true_eq] at hr
        have hlow : ¬ rLow n mu Q w := fun z => hr (Or.inl z)
        have hov : ¬ rOv (fun i => rQ n mu Q w i i) n = true := fun z => hr (Or.inr z)
        have hx : okX n w := fun k hk => hw w List.mem_cons_self k (by omega)
        have z := zp_980b
        obtain ⟨l1, l2, l3⟩ := rls_live hn h1 (by grind) Rat.le_refl hx hmu hlow hov
        have hm : ∀ a c, a < n → c < n → fn (P a c) ∧ ab (rv (P a c) * rv mu - rv (Q a c)) ≤ 2097152 + ab (rv (Q a c)) / 2251799813685248 := fun a c ha hc => by rw [e' a c ha hc]; exact l2 a c ha hc
        have hdg : ∀ i, i < n → 0 ≤ rv (P i i) ∧ rv (P i i) ≤ 1000000 := fun i hi => by rw [e' i i hi hi]; exact l3 i hi
        have hS : ∀ i, i < n → Str n i (w :: ws) P := by
          intro i hi
          refine str_step (by omega) hw hB (live_step hn hi hmu hm) ?_ (live_g hn hi (fun a c ha hc => (h1.1 a c ha hc).1) hx (l1 i hi) (str_top (h2 i hi))) (h2 i hi)
          rw [rw4_at hi, ab_of_nonneg (hdg i hi).1]
          exact (hdg i hi).2
        refine ⟨⟨fun a c ha hc => ⟨(hm a c ha hc).1, ?_⟩, hdg⟩, hS⟩
        have := str_top (hS a ha) c (by omega)
        rw [rw4_at hc] at this
        exact this
end
section
/-! ===== counting many windows in one number ===== -/
abbrev T3 : Type := Nat × Nat × Nat
/-- slots of 48 digits -/
def pkf (f : T3 → Nat) : List T3 → Nat
  | [] => 0
  | a :: l => f a + 281474976710656 * pkf f l
theorem pkf_add (f g : T3 → Nat) (l : List T3) : pkf f l + pkf g l = pkf (fun a => f a + g a) l := by
  induction l with
  | nil => rfl
  | cons a l ih =>
    show f a + 281474976710656 * pkf f l + (g a + 281474976710656 * pkf g l) = f a + g a + 281474976710656 * pkf (fun a => f a + g a) l
    rw [← ih]
    omega
theorem pkf_mul (c : Nat) (f : T3 → Nat) (l : List T3) : c * pkf f l = pkf (fun a => c * f a) l := by
  induction l with
  | nil => rfl
  | cons a l ih =>
    show c * (f a + 281474976710656 * pkf f l) = c * f a + 281474976710656 * pkf (fun a => c * f a) l
    rw [← ih, Nat.mul_add, Nat.mul_left_comm]
theorem pkf_congr {f g : T3 → Nat} {l : List T3} (h : ∀ a, a ∈ l → f a = g a) : pkf f l = pkf g l := by
  induction l with
  | nil => rfl
  | cons a l ih =>
    show f a + 281474976710656 * pkf f l = g a + 281474976710656 * pkf g l
    rw [h a List.mem_cons_self, ih (fun b hb => h b (List.mem_cons_of_mem _ hb))]
theorem pkf_sub {f g : T3 → Nat} {l : List T3} (h : ∀ a, a ∈ l → g a ≤ f a) : pkf f l - pkf g l = pkf (fun a => f a - g a) l := by
  have e : pkf f l = pkf (fun a => f a - g a) l + pkf g l := by
    rw [pkf_add]
    exact pkf_congr fun a ha => (Nat.sub_add_cancel (h a ha)).symm
  omega
theorem pkf_land {f : T3 → Nat} {l : List T3} (h : ∀ a, a ∈ l → f a < 281474976710656) : pkf f l &&& pkf (fun _ => 17179869184) l = pkf (fun a => f a &&& 17179869184) l := by
  induction l with
  | nil => exact Nat.zero_and 0
  | cons a l ih =>
    have h0 := h a List.mem_cons_self
    have h1 := ih (fun b hb => h b (List.mem_cons_of_mem _ hb))
    show (f a + 281474976710656 * pkf f l) &&& (17179869184 + 281474976710656 * pkf (fun _ => 17179869184) l) = (f a &&& 17179869184) + 281474976710656 * pkf (fun a => f a &&& 17179869184) l
    rw [← h1]
    generalize pkf f l = u
    generalize pkf (fun _ => 17179869184) l = v
    have e1 := Nat.and_mod_two_pow (a := f a + 281474976710656 * u) (b := 17179869184 + 281474976710656 * v) (n := 48)
    have e2 := Nat.and_div_two_pow (a := f a + 281474976710656 * u) (b := 17179869184 + 281474976710656 * v) (n := 48)
    rw [show (2 : Nat) ^ 48 = 281474976710656 from rfl] at e1 e2
    rw [show (f a + 281474976710656 * u) % 281474976710656 = f a by omega, show (17179869184 + 281474976710656 * v) % 281474976710656 = 17179869184 by omega] at e1
    rw [show (f a + 281474976710656 * u) / 281474976710656 = u by omega, show (17179869184 + 281474976710656 * v) / 281474976710656 = v by omega] at e2
    omega
def lsum (f : T3 → Nat) : List T3 → Nat
  | [] => 0
  | a :: l => f a + lsum f l
theorem pkf_mod (f : T3 → Nat) (l : List T3) : pkf f l % 281474976710655 = lsum f l % 281474976710655 := by
  induction l with
  | nil => rfl
  | cons a l ih =>
    show (f a + 281474976710656 * pkf f l) % 281474976710655 = (f a + lsum f l) % 281474976710655
    omega
theorem and_34 {a : Nat} (h : a < 34359738368) : a &&& 17179869184 = if 17179869184 ≤ a then 17179869184 else 0 := by
  have e1 := Nat.and_mod_two_pow (a := a) (b := 17179869184) (n := 34)
  have e2 := Nat.and_div_two_pow (a := a) (b := 17179869184) (n := 34)
  rw [show (2 : Nat) ^ 34 = 17179869184 from rfl] at e1 e2
  rw [show (17179869184 : Nat) % 17179869184 = 0 from rfl, Nat.and_zero] at e1
  rw [show (17179869184 : Nat) / 17179869184 = 1 from rfl] at e2
  by_cases h1 : 17179869184 ≤ a
  · rw [show a / 17179869184 = 1 by omega, show (1 &&& 1 : Nat) = 1 from rfl] at e2
    rw [if_pos h1]
    omega
  · rw [show a / 17179869184 = 0 by omega, Nat.zero_and] at e2
    rw [if_neg h1]
    omega
theorem lsum_count (p : T3 → Bool) (l : List T3) : lsum (fun a => if p a = true then 17179869184 else 0) l = 17179869184 * l.countP p := by
  induction l with
  | nil => rfl
  | cons a l ih =>
    show (if p a = true then 17179869184 else 0) + lsum (fun a => if p a = true then 17179869184 else 0) l = _
    rw [ih, List.countP_cons]
    split <;> omega
theorem countP_split {p q : T3 → Bool} {l : List T3} (h : ∀ a, a ∈ l → q a = true → p a = true) : l.countP p = l.countP q + l.countP (fun a => p a && !q a) := by
  induction l with
  | nil => rfl
  | cons a l ih =>
    have h1 := ih (fun b hb => h b (List.mem_cons_of_mem _ hb))
    have h2 := h a List.mem_cons_self
    rw [List.countP_cons, List.countP_cons, List.countP_cons, h1]
    cases hp : p a <;> cases hq : q a <;> simp [hp, hq] at h2 ⊢ <;> omega
/-- how many slots hold 2^34 exactly -/
theorem pkf_count {f : T3 → Nat} {l : List T3} (hl : l.length < 16384) (h0 : ∀ a, a ∈ l → 1 ≤ f a) (h1 : ∀ a, a ∈ l → f a < 34359738368) {H : Nat}
    (hc : (pkf f l &&& pkf (fun _ => 17179869184) l) % 281474976710655 ≤ ((pkf f l - pkf (fun _ => 1) l) &&& pkf (fun _ => 17179869184) l) % 281474976710655 + 17179869184 * H) :
    l.countP (fun a => f a == 17179869184) ≤ H := by
  rw [pkf_sub h0] at hc
  rw [pkf_land (fun a ha => by have := h1 a ha; omega), pkf_land (fun a ha => by have := h1 a ha; omega)] at hc
  rw [pkf_mod, pkf_mod] at hc
  have e1 : lsum (fun a => f a &&& 17179869184) l = 17179869184 * l.countP (fun a => decide (17179869184 ≤ f a)) := by
    rw [← lsum_count]
    clear hc
    induction l with
    | nil => rfl
    | cons a l ih =>
      show (f a &&& 17179869184) + lsum _ l = (if decide (17179869184 ≤ f a) = true then 17179869184 else 0) + lsum _ l
      rw [and_34 (h1 a List.mem_cons_self), ih (by simp at hl; omega) (fun b hb => h0 b (List.mem_cons_of_mem _ hb)) (fun b hb => h1 b (List.mem_cons_of_mem _ hb))]
      simp
  have e2 : lsum (fun a => (f a - 1) &&& 17179869184) l = 17179869184 * l.countP (fun a => decide (17179869185 ≤ f a)) := by
    rw [← lsum_count]
    clear hc e1
    induction l with
    | nil => rfl
    | cons a l ih =>
      show ((f a - 1) &&& 17179869184) + lsum _ l = (if decide (17179869185 ≤ f a) = true then 17179869184 else 0) + lsum _ l
      have := h1 a List.mem_cons_self
      rw [and_34 (by omega), ih (by simp at hl; omega) (fun b hb => h0 b (List.mem_cons_of_mem _ hb)) (fun b hb => h1 b (List.mem_cons_of_mem _ hb))]
      have : (17179869184 ≤ f a - 1) = (17179869185 ≤ f a) := by
        apply propext; omega
      simp [this]
  rw [e1, e2] at hc
  have l1 := List.countP_le_length (p := fun a => decide (17179869184 ≤ f a)) (l := l)
  have l2 := List.countP_le_length (p := fun a => decide (17179869185 ≤ f a)) (l := l)
  have hs := countP_split (p := fun a => decide (17179869184 ≤ f a)) (q := fun a => decide (17179869185 ≤ f a)) (l := l) (fun a _ h => by simp at h ⊢; omega)
  have e3 : l.countP (fun a => decide (17179869184 ≤ f a) && !decide (17179869185 ≤ f a)) = l.countP (fun a => f a == 17179869184) := by
    refine List.countP_congr fun a _ => ?_
    simp
    omega
  rw [e3] at hs
  omega
end
section
/-! ===== planes through two windows near each other ===== -/
abbrev Z3 : Type := Int × Int × Int
def dz (q : Z3) (a : T3) : Int := q.1 * ((a.1 : Int) - 1000) + q.2.1 * ((a.2.1 : Int) - 1000) + q.2.2 * ((a.2.2 : Int) - 1000)
def hq (q : Z3) (a : T3) : Bool := decide (dz q a = 0)
def crz (q e : Z3) : Z3 := (q.2.1 * e.2.2 - q.2.2 * e.2.1, q.2.2 * e.1 - q.1 * e.2.2, q.1 * e.2.1 - q.2.1 * e.1)
def xz (a : T3) : Z3 := ((a.1 : Int) - 1000, (a.2.1 : Int) - 1000, (a.2.2 : Int) - 1000)
/-- parallel, neither 0: the same windows -/
theorem crz_dz {q e : Z3} (h : crz q e = (0, 0, 0)) (he : e ≠ (0, 0, 0)) (a : T3) (hd : dz e a = 0) (hq0 : q ≠ (0, 0, 0)) : dz q a = 0 := by
  obtain ⟨q0, q1, q2⟩ := q
  obtain ⟨e0, e1, e2⟩ := e
  unfold crz at h
  unfold dz at hd ⊢
  dsimp only at h hd ⊢
  have h1 : q1 * e2 - q2 * e1 = 0 := congrArg (fun z : Z3 => z.1) h
  have h2 : q2 * e0 - q0 * e2 = 0 := congrArg (fun z : Z3 => z.2.1) h
  have h3 : q0 * e1 - q1 * e0 = 0 := congrArg (fun z : Z3 => z.2.2) h
  generalize (a.1 : Int) - 1000 = x at hd ⊢
  generalize (a.2.1 : Int) - 1000 = y at hd ⊢
  generalize (a.2.2 : Int) - 1000 = z at hd ⊢
  have k : ∀ c : Int, c ≠ 0 → c * (q0 * x + q1 * y + q2 * z) = 0 → q0 * x + q1 * y + q2 * z = 0 := fun c hc h => (Int.mul_eq_zero.mp h).resolve_left hc
  by_cases c0 : e0 = 0
  · by_cases c1 : e1 = 0
    · by_cases c2 : e2 = 0
      · exact absurd (by rw [c0, c1, c2]) he
      · exact k e2 c2 (by grind)
    · exact k e1 c1 (by grind)
  · exact k e0 c0 (by grind)
theorem crz_swap {q e : Z3} (h : crz q e = (0, 0, 0)) : crz e q = (0, 0, 0) := by
  have h1 : q.2.1 * e.2.2 - q.2.2 * e.2.1 = 0 := congrArg (fun z : Z3 => z.1) h
  have h2 : q.2.2 * e.1 - q.1 * e.2.2 = 0 := congrArg (fun z : Z3 => z.2.1) h
  have h3 : q.1 * e.2.1 - q.2.1 * e.1 = 0 := congrArg (fun z : Z3 => z.2.2) h
  unfold crz
  refine Prod.ext ?_ (Prod.ext ?_ ?_) <;> dsimp only <;> grind
theorem crz_trans {q p e : Z3} (h1 : crz q p = (0, 0, 0)) (h2 : crz p e = (0, 0, 0)) (hp : p ≠ (0, 0, 0)) : crz q e = (0, 0, 0) := by
  obtain ⟨q0, q1, q2⟩ := q
  obtain ⟨p0, p1, p2⟩ := p
  obtain ⟨e0, e1, e2⟩ := e
  unfold crz at *
  dsimp only at *
  have a1 : q1 * p2 - q2 * p1 = 0 := congrArg (fun z : Z3 => z.1) h1
  have a2 : q2 * p0 - q0 * p2 = 0 := congrArg (fun z : Z3 => z.2.1) h1
  have a3 : q0 * p1 - q1 * p0 = 0 := congrArg (fun z : Z3 => z.2.2) h1
  have b1 : p1 * e2 - p2 * e1 = 0 := congrArg (fun z : Z3 => z.1) h2
  have b2 : p2 * e0 - p0 * e2 = 0 := congrArg (fun z : Z3 => z.2.1) h2
  have b3 : p0 * e1 - p1 * e0 = 0 := congrArg (fun z : Z3 => z.2.2) h2
  have k : ∀ c x : Int, c ≠ 0 → c * x = 0 → x = 0 := fun c x hc h => (Int.mul_eq_zero.mp h).resolve_left hc
  have key : ∀ c : Int, c ≠ 0 → c * (q1 * e2 - q2 * e1) = 0 → c * (q2 * e0 - q0 * e2) = 0 → c * (q0 * e1 - q1 * e0) = 0 → (q1 * e2 - q2 * e1, q2 * e0 - q0 * e2, q0 * e1 - q1 * e0) = ((0, 0, 0) : Z3) := by
    intro c hc x y z
    rw [k c _ hc x, k c _ hc y, k c _ hc z]
  by_cases c0 : p0 = 0
  · by_cases c1 : p1 = 0
    · by_cases c2 : p2 = 0
      · exact absurd (by rw [c0, c1, c2]) hp
      · exact key p2 c2 (by grind) (by grind) (by grind)
    · exact key p1 c1 (by grind) (by grind) (by grind)
  · exact key p0 c0 (by grind) (by grind) (by grind)
/-- orthogonal to two windows: parallel to their product -/
theorem crz_of {q : Z3} {a b : T3} (ha : dz q a = 0) (hb : dz q b = 0) : crz q (crz (xz a) (xz b)) = (0, 0, 0) := by
  obtain ⟨q0, q1, q2⟩ := q
  unfold dz at ha hb
  unfold crz xz
  dsimp only at *
  generalize (a.1 : Int) - 1000 = x at *
  generalize (a.2.1 : Int) - 1000 = y at *
  generalize (a.2.2 : Int) - 1000 = z at *
  generalize (b.1 : Int) - 1000 = u at *
  generalize (b.2.1 : Int) - 1000 = v at *
  generalize (b.2.2 : Int) - 1000 = w at *
  refine Prod.ext ?_ (Prod.ext ?_ ?_) <;> dsimp only <;> grind
theorem par_count {q e : Z3} (h : crz q e = (0, 0, 0)) (he : e ≠ (0, 0, 0)) (hq0 : q ≠ (0, 0, 0)) (l : List T3) : l.countP (hq q) = l.countP (hq e) := by
  refine List.countP_congr fun a _ => ?_
  unfold hq
  rw [decide_eq_true_eq, decide_eq_true_eq]
  exact ⟨fun z => crz_dz (crz_swap h) hq0 a z he, fun z => crz_dz h he a z hq0⟩
/-- no two hits within d: few hits -/
def sep (p : T3 → Bool) (d : Nat) (W : List T3) : Prop := ∀ pre a mid b post, W = pre ++ a :: (mid ++ b :: post) → mid.length < d → ¬ (p a = true ∧ p b = true)
theorem sep_tail {p : T3 → Bool} {d : Nat} {pre W : List T3} (h : sep p d (pre ++ W)) : sep p d W := by
  intro p1 a mid b post e hm
  exact h (pre ++ p1) a mid b post (by rw [e, List.append_assoc]) hm
theorem sep_count (p : T3 → Bool) (d : Nat) : ∀ (N : Nat) (W : List T3), W.length ≤ N → sep p d W → W.countP p = 0 ∨ (W.countP p - 1) * (d + 1) + 1 ≤ W.length := by
  intro N
  induction N with
  | zero =>
    intro W hl _
    left
    have hW : W = [] := List.length_eq_zero_iff.mp (by omega)
    rw [hW]
    rfl
  | succ N ih =>
    intro W hl hs
    cases W with
    | nil => left; rfl
    | cons a l =>
      have hsl : sep p d l := sep_tail (pre := [a]) hs
      rw [List.length_cons] at hl ⊢
      rw [List.countP_cons]
      by_cases ha : p a = true
      · have h0 : (l.take d).countP p = 0 := by
          rw [List.countP_eq_zero]
          intro b hb hpb
          obtain ⟨mid, post, e⟩ := List.append_of_mem hb
          have hlen : mid.length < d := by
            have h1 : (l.take d).length ≤ d := List.length_take_le d l
            rw [e] at h1
            simp at h1
            omega
          refine hs [] a mid b (post ++ l.drop d) ?_ hlen ⟨ha, hpb⟩
          have e2 : l = mid ++ b :: post ++ l.drop d := by rw [← e]; exact (List.take_append_drop d l).symm
          show a :: l = a :: (mid ++ b :: (post ++ l.drop d))
          rw [show mid ++ b :: (post ++ l.drop d) = mid ++ b :: post ++ l.drop d by simp, ← e2]
        have h1 : l.countP p = (l.drop d).countP p := by
          have e3 : l.countP p = (l.take d ++ l.drop d).countP p := by rw [List.take_append_drop]
          rw [e3, List.countP_append, h0, Nat.zero_add]
        have h2 := ih (l.drop d) (by rw [List.length_drop]; omega) (sep_tail (pre := l.take d) (by rw [List.take_append_drop]; exact hsl))
        rw [if_pos ha, h1]
        right
        rcases h2 with h2 | h2
        · rw [h2]; simp
        · have h3 : 0 < (l.drop d).length := by omega
          rw [List.length_drop] at h2 h3
          by_cases hz : (l.drop d).countP p = 0
          · rw [hz]; simp
          · generalize (l.drop d).countP p = c at h2 hz ⊢
            obtain ⟨k, rfl⟩ : ∃ k, c = k + 1 := ⟨c - 1, by omega⟩
            rw [show k + 1 - 1 = k by omega] at h2
            rw [show k + 1 + 1 - 1 = k + 1 by omega, Nat.add_mul]
            omega
      · rw [if_neg ha, Nat.add_zero]
        rcases ih l (by omega) hsl with h2 | h2
        · left; exact h2
        · right; omega
end
section
/-! ===== a check over all pairs of windows near each other, and what it says ===== -/
def fz (n : Nat) (k : Nat → Bool) : Bool := match n with
  | 0 => k 0
  | m + 1 => k (m + 1)
theorem fz_eq (n : Nat) (k : Nat → Bool) : fz n k = k n := by cases n <;> rfl
def cc (n1 n2 m1 m2 : Nat) : Nat := Nat.sub (Nat.add (Nat.add 8388608 (Nat.mul n1 m2)) (Nat.mul 1000 (Nat.add n2 m1))) (Nat.add (Nat.mul n2 m1) (Nat.mul 1000 (Nat.add n1 m2)))
def inD (Dl : List Z3) (c0 c1 c2 : Nat) : Bool := (!(Nat.beq c0 8388608 && Nat.beq c1 8388608 && Nat.beq c2 8388608)) && Dl.any (fun e => decide (crz ((c0 : Int) - 8388608, (c1 : Int) - 8388608, (c2 : Int) - 8388608) e = (0, 0, 0)))
def chkP (H G0 G1 G2 GS ON OO MS : Nat) (Dl : List Z3) (a b : T3) : Bool :=
  fz (cc a.2.1 a.2.2 b.2.1 b.2.2) fun c0 => fz (cc a.2.2 a.1 b.2.2 b.1) fun c1 => fz (cc a.1 a.2.1 b.1 b.2.1) fun c2 =>
  fz (Nat.sub (Nat.add (Nat.add (Nat.mul c0 G0) (Nat.mul c1 G1)) (Nat.add (Nat.mul c2 G2) OO)) (Nat.add GS (Nat.mul (Nat.mul 1000 (Nat.add c0 (Nat.add c1 c2))) ON))) fun Y =>
  or (Nat.ble (Nat.mod (Nat.land Y MS) 281474976710655) (Nat.add (Nat.mod (Nat.land (Nat.sub Y ON) MS) 281474976710655) (Nat.mul 17179869184 H))) (inD Dl c0 c1 c2)
def chkRow (f : T3 → Bool) : Nat → List T3 → Bool
  | 0, _ => true
  | _ + 1, [] => true
  | n + 1, b :: l => and (f b) (chkRow f n l)
def chkAll (f : T3 → T3 → Bool) (d : Nat) : List T3 → Bool
  | [] => true
  | a :: l => and (chkRow (f a) d l) (chkAll f d l)
def chkW (H d : Nat) (Dl : List Z3) (W : List T3) : Bool :=
  fz (pkf (fun a => a.1) W) fun G0 => fz (pkf (fun a => a.2.1) W) fun G1 => fz (pkf (fun a => a.2.2) W) fun G2 => fz (pkf (fun _ => 1) W) fun ON =>
  fz (Nat.mul 8388608 (Nat.add G0 (Nat.add G1 G2))) fun GS => fz (Nat.mul 42345693184 ON) fun OO => fz (Nat.mul 17179869184 ON) fun MS =>
  chkAll (chkP H G0 G1 G2 GS ON OO MS Dl) d W
theorem chkRow_at {f : T3 → Bool} : ∀ {n : Nat} {mid : List T3} {b : T3} {post : List T3}, chkRow f n (mid ++ b :: post) = true → mid.length < n → f b = true := by
  intro n
  induction n with
  | zero => intro mid b post _ h; omega
  | succ n ih =>
    intro mid b post h hm
    cases mid with
    | nil =>
      have h1 : (f b && chkRow f n post) = true := h
      rw [Bool.and_eq_true] at h1
      exact h1.1
    | cons c mid =>
      have h1 : (f c && chkRow f n (mid ++ b :: post)) = true := h
      rw [Bool.and_eq_true] at h1
      rw [List.length_cons] at hm
      exact ih h1.2 (by omega)
theorem chkAll_at {f : T3 → T3 → Bool} {d : Nat} : ∀ {pre : List T3} {a : T3} {mid : List T3} {b : T3} {post : List T3}, chkAll f d (pre ++ a :: (mid ++ b :: post)) = true → mid.length < d → f a b = true := by
  intro pre
  induction pre with
  | nil =>
    intro a mid b post h hm
    have h1 : (chkRow (f a) d (mid ++ b :: post) && chkAll f d (mid ++ b :: post)) = true := h
    rw [Bool.and_eq_true] at h1
    exact chkRow_at h1.1 hm
  | cons c pre ih =>
    intro a mid b post h hm
    have h1 : (chkRow (f c) d (pre ++ a :: (mid ++ b :: post)) && chkAll f d (pre ++ a :: (mid ++ b :: post))) = true := h
    rw [Bool.and_eq_true] at h1
    exact ih h1.2 hm
theorem cc_val {n1 n2 m1 m2 : Nat} (h1 : n1 ≤ 2000) (h2 : n2 ≤ 2000) (h3 : m1 ≤ 2000) (h4 : m2 ≤ 2000) : ((cc n1 n2 m1 m2 : Nat) : Int) = 8388608 + (((n1 : Int) - 1000) * ((m2 : Int) - 1000) - ((n2 : Int) - 1000) * ((m1 : Int) - 1000)) ∧ cc n1 n2 m1 m2 ≤ 12400000 ∧ 4300000 ≤ cc n1 n2 m1 m2 := by
  have e : cc n1 n2 m1 m2 = 8388608 + n1 * m2 + 1000 * (n2 + m1) - (n2 * m1 + 1000 * (n1 + m2)) := rfl
  have f1 : ((n1 * m2 : Nat) : Int) = ((n1 : Int) - 1000) * ((m2 : Int) - 1000) + 1000 * n1 + 1000 * m2 - 1000000 := by rw [Int.natCast_mul]; grind
  have f2 : ((n2 * m1 : Nat) : Int) = ((n2 : Int) - 1000) * ((m1 : Int) - 1000) + 1000 * n2 + 1000 * m1 - 1000000 := by rw [Int.natCast_mul]; grind
  have k1 : ((n1 : Int) - 1000) * ((m2 : Int) - 1000) ≤ 1000000 ∧ -1000000 ≤ ((n1 : Int) - 1000) * ((m2 : Int) - 1000) := by
    have := Int.natAbs_mul ((n1 : Int) - 1000) ((m2 : Int) - 1000)
    have u1 : ((n1 : Int) - 1000).natAbs ≤ 1000 := by omega
    have u2 : ((m2 : Int) - 1000).natAbs ≤ 1000 := by omega
    have u3 := Nat.mul_le_mul u1 u2
    omega
  have k2 : ((n2 : Int) - 1000) * ((m1 : Int) - 1000) ≤ 1000000 ∧ -1000000 ≤ ((n2 : Int) - 1000) * ((m1 : Int) - 1000) := by
    have := Int.natAbs_mul ((n2 : Int) - 1000) ((m1 : Int) - 1000)
    have u1 : ((n2 : Int) - 1000).natAbs ≤ 1000 := by omega
    have u2 : ((m1 : Int) - 1000).natAbs ≤ 1000 := by omega
    have u3 := Nat.mul_le_mul u1 u2
    omega
  rw [e]
  generalize ((n1 : Int) - 1000) * ((m2 : Int) - 1000) = A at *
  generalize ((n2 : Int) - 1000) * ((m1 : Int) - 1000) = B at *
  generalize n1 * m2 = x at *
  generalize n2 * m1 = y at *
  omega
def yF (c0 c1 c2 : Nat) (a : T3) : Nat := (c0 * a.1 + c1 * a.2.1 + c2 * a.2.2 + 42345693184) - (8388608 * (a.1 + a.2.1 + a.2.2) + 1000 * (c0 + c1 + c2))
abbrev ok3 (a : T3) : Prop := a.1 ≤ 2000 ∧ a.2.1 ≤ 2000 ∧ a.2.2 ≤ 2000
abbrev ofc (c0 c1 c2 : Nat) : Z3 := ((c0 : Int) - 8388608, (c1 : Int) - 8388608, (c2 : Int) - 8388608)
abbrev okc (c : Nat) : Prop := c ≤ 12400000 ∧ 4300000 ≤ c
theorem yF_val {c0 c1 c2 : Nat} {a : T3} (h0 : okc c0) (h1 : okc c1) (h2 : okc c2) (ha : ok3 a) :
    8388608 * (a.1 + a.2.1 + a.2.2) + 1000 * (c0 + c1 + c2) ≤ c0 * a.1 + c1 * a.2.1 + c2 * a.2.2 + 42345693184 ∧ ((yF c0 c1 c2 a : Nat) : Int) = 17179869184 + dz (ofc c0 c1 c2) a ∧ 1 ≤ yF c0 c1 c2 a ∧ yF c0 c1 c2 a < 34359738368 := by
  have key : ∀ c n : Nat, okc c → n ≤ 2000 → ((c * n : Nat) : Int) = ((c : Int) - 8388608) * ((n : Int) - 1000) + 8388608 * n + 1000 * c - 8388608000 ∧ ((c : Int) - 8388608) * ((n : Int) - 1000) ≤ 4100000000 ∧ -4100000000 ≤ ((c : Int) - 8388608) * ((n : Int) - 1000) := by
    intro c n hc hn
    refine ⟨by rw [Int.natCast_mul]; grind, ?_⟩
    have := Int.natAbs_mul ((c : Int) - 8388608) ((n : Int) - 1000)
    have u1 : ((c : Int) - 8388608).natAbs ≤ 4100000 := by have := hc.1; have := hc.2; omega
    have u2 : ((n : Int) - 1000).natAbs ≤ 1000 := by omega
    have u3 := Nat.mul_le_mul u1 u2
    omega
  obtain ⟨a1, b1, d1⟩ := key c0 a.1 h0 ha.1
  obtain ⟨a2, b2, d2⟩ := key c1 a.2.1 h1 ha.2.1
  obtain ⟨a3, b3, d3⟩ := key c2 a.2.2 h2 ha.2.2
  unfold yF dz ofc
  dsimp only
  generalize ((c0 : Int) - 8388608) * ((a.1 : Int) - 1000) = A at *
  generalize ((c1 : Int) - 8388608) * ((a.2.1 : Int) - 1000) = B at *
  generalize ((c2 : Int) - 8388608) * ((a.2.2 : Int) - 1000) = C at *
  generalize c0 * a.1 = x at *
  generalize c1 * a.2.1 = y at *
  generalize c2 * a.2.2 = z at *
  omega
end
section
theorem dz_ofc {c0 c1 c2 : Nat} {a b : T3} (ha : ok3 a) (hb : ok3 b) (e0 : c0 = cc a.2.1 a.2.2 b.2.1 b.2.2) (e1 : c1 = cc a.2.2 a.1 b.2.2 b.1) (e2 : c2 = cc a.1 a.2.1 b.1 b.2.1) : ofc c0 c1 c2 = crz (xz a) (xz b) ∧ okc c0 ∧ okc c1 ∧ okc c2 := by
  obtain ⟨k0, l0, m0⟩ := cc_val ha.2.1 ha.2.2 hb.2.1 hb.2.2
  obtain ⟨k1, l1, m1⟩ := cc_val ha.2.2 ha.1 hb.2.2 hb.1
  obtain ⟨k2, l2, m2⟩ := cc_val ha.1 ha.2.1 hb.1 hb.2.1
  rw [← e0] at k0 l0 m0
  rw [← e1] at k1 l1 m1
  rw [← e2] at k2 l2 m2
  refine ⟨?_, ⟨l0, m0⟩, ⟨l1, m1⟩, ⟨l2, m2⟩⟩
  unfold ofc crz xz
  dsimp only
  rw [k0, k1, k2]
  refine Prod.ext ?_ (Prod.ext ?_ ?_) <;> dsimp only <;> grind
theorem y_pack {c0 c1 c2 : Nat} {W : List T3} (h0 : okc c0) (h1 : okc c1) (h2 : okc c2) (hW : ∀ a, a ∈ W → ok3 a) :
    Nat.sub (Nat.add (Nat.add (Nat.mul c0 (pkf (fun a => a.1) W)) (Nat.mul c1 (pkf (fun a => a.2.1) W))) (Nat.add (Nat.mul c2 (pkf (fun a => a.2.2) W)) (Nat.mul 42345693184 (pkf (fun _ => 1) W)))) (Nat.add (Nat.mul 8388608 (Nat.add (pkf (fun a => a.1) W) (Nat.add (pkf (fun a => a.2.1) W) (pkf (fun a => a.2.2) W)))) (Nat.mul (Nat.mul 1000 (Nat.add c0 (Nat.add c1 c2))) (pkf (fun _ => 1) W))) = pkf (yF c0 c1 c2) W := by
  show (c0 * pkf (fun a => a.1) W + c1 * pkf (fun a => a.2.1) W) + (c2 * pkf (fun a => a.2.2) W + 42345693184 * pkf (fun _ => 1) W) - (8388608 * (pkf (fun a => a.1) W + (pkf (fun a => a.2.1) W + pkf (fun a => a.2.2) W)) + 1000 * (c0 + (c1 + c2)) * pkf (fun _ => 1) W) = _
  simp only [pkf_mul, pkf_add]
  rw [pkf_sub]
  · exact pkf_congr fun a _ => by unfold yF; simp only [Nat.mul_one, Nat.add_assoc]
  · intro a ha
    have := (yF_val h0 h1 h2 (hW a ha)).1
    simp only [Nat.mul_one, Nat.add_assoc] at this ⊢
    exact this
theorem chkP_sound {H : Nat} {Dl : List Z3} {W : List T3} {a b : T3} (hW : ∀ a, a ∈ W → ok3 a) (hl : W.length < 16384) (ha : ok3 a) (hb : ok3 b)
    (h : chkP H (pkf (fun a => a.1) W) (pkf (fun a => a.2.1) W) (pkf (fun a => a.2.2) W) (Nat.mul 8388608 (Nat.add (pkf (fun a => a.1) W) (Nat.add (pkf (fun a => a.2.1) W) (pkf (fun a => a.2.2) W)))) (pkf (fun _ => 1) W) (Nat.mul 42345693184 (pkf (fun _ => 1) W)) (Nat.mul 17179869184 (pkf (fun _ => 1) W)) Dl a b = true) :
    W.countP (hq (crz (xz a) (xz b))) ≤ H ∨ (crz (xz a) (xz b) ≠ (0, 0, 0) ∧ ∃ e, e ∈ Dl ∧ crz (crz (xz a) (xz b)) e = (0, 0, 0)) := by
  unfold chkP at h
  rw [fz_eq, fz_eq, fz_eq] at h
  obtain ⟨hp, h0, h1, h2⟩ := dz_ofc ha hb rfl rfl rfl
  rw [← hp]
  generalize cc a.2.1 a.2.2 b.2.1 b.2.2 = c0 at *
  generalize cc a.2.2 a.1 b.2.2 b.1 = c1 at *
  generalize cc a.1 a.2.1 b.1 b.2.1 = c2 at *
  rw [y_pack h0 h1 h2 hW, fz_eq, Bool.or_eq_true] at h
  rcases h with h | h
  · left
    have h3 := Nat.le_of_ble_eq_true h
    have e1 : Nat.mul 17179869184 (pkf (fun _ => 1) W) = pkf (fun _ => 17179869184) W := by
      show 17179869184 * pkf (fun _ => 1) W = _
      rw [pkf_mul]
    rw [e1] at h3
    have h4 := pkf_count (f := yF c0 c1 c2) hl (fun a ha => (yF_val h0 h1 h2 (hW a ha)).2.2.1) (fun a ha => (yF_val h0 h1 h2 (hW a ha)).2.2.2) (H := H) h3
    refine Nat.le_trans (Nat.le_of_eq ?_) h4
    refine List.countP_congr fun a ha => ?_
    have h5 := (yF_val h0 h1 h2 (hW a ha)).2.1
    unfold hq
    rw [decide_eq_true_eq, beq_iff_eq]
    omega
  · right
    unfold inD at h
    rw [Bool.and_eq_true] at h
    obtain ⟨h5, h6⟩ := h
    refine ⟨fun hz => ?_, ?_⟩
    · have z0 : (c0 : Int) - 8388608 = 0 := congrArg (fun z : Z3 => z.1) hz
      have z1 : (c1 : Int) - 8388608 = 0 := congrArg (fun z : Z3 => z.2.1) hz
      have z2 : (c2 : Int) - 8388608 = 0 := congrArg (fun z : Z3 => z.2.2) hz
      have y0 : c0 = 8388608 := by omega
      have y1 : c1 = 8388608 := by omega
      have y2 : c2 = 8388608 := by omega
      rw [y0, y1, y2] at h5
      exact absurd h5 (by decide)
    · obtain ⟨e, he1, he2⟩ := List.any_eq_true.mp h6
      exact ⟨e, he1, of_decide_eq_true he2⟩
theorem chkW_sound {H d : Nat} {Dl : List Z3} {W : List T3} (hW : ∀ a, a ∈ W → ok3 a) (hl : W.length < 16384) (hd : W.length ≤ H * (d + 1)) (hH : H < W.length) (h : chkW H d Dl W = true) {q : Z3} (hq0 : q ≠ (0, 0, 0)) :
    W.countP (hq q) ≤ H ∨ ∃ e, e ∈ Dl ∧ crz q e = (0, 0, 0) := by
  refine Classical.byContradiction fun hc => ?_
  have hn1 : ¬ W.countP (hq q) ≤ H := fun z => hc (Or.inl z)
  have hn2 : ¬ ∃ e, e ∈ Dl ∧ crz q e = (0, 0, 0) := fun z => hc (Or.inr z)
  have hns : ¬ sep (hq q) d W := by
    intro hs
    rcases sep_count (hq q) d W.length W (Nat.le_refl _) hs with h1 | h1
    · omega
    · have : H * (d + 1) ≤ (W.countP (hq q) - 1) * (d + 1) := Nat.mul_le_mul_right _ (by omega)
      omega
  refine hns fun pre a mid b post e hm hab => ?_
  have hA : dz q a = 0 := of_decide_eq_true hab.1
  have hB : dz q b = 0 := of_decide_eq_true hab.2
  have ma : a ∈ W := by rw [e]; simp
  have mb : b ∈ W := by rw [e]; simp
  unfold chkW at h
  simp only [fz_eq] at h
  have h1 := chkAll_at (pre := pre) (a := a) (mid := mid) (b := b) (post := post) (by rw [← e]; exact h) hm
  rw [e] at h1
  rw [← e] at h1
  have hpar := crz_of hA hB
  rcases chkP_sound hW hl (hW a ma) (hW b mb) h1 with h2 | ⟨h2, e2, h3, h4⟩
  · by_cases hz : crz (xz a) (xz b) = (0, 0, 0)
    · rw [hz] at h2
      have : W.countP (hq (0, 0, 0)) = W.length := by
        rw [List.countP_eq_length]
        intro x _
        unfold hq dz
        rw [decide_eq_true_eq]
        simp
      omega
    · rw [par_count hpar hz hq0] at hn1
      exact hn1 h2
  · exact hn2 ⟨e2, h3, crz_trans hpar h4 h2⟩
end
section
/-! ===== samples, 1000 added; scripts; hits of a plane ===== -/
def winL (T : Nat → Nat → Nat → Nat → T3) : List Nat → List T3
  | a :: b :: c :: d :: r => T a b c d :: winL T (b :: c :: d :: r)
  | _ => []
/-- the windows beside place 0, 1, 2, 3 -/
def T0 (a b c _ : Nat) : T3 := (c, b, a)
def T1 (a b _ d : Nat) : T3 := (d, b, a)
def T2 (a _ c d : Nat) : T3 := (d, c, a)
def T4 (_ b c d : Nat) : T3 := (d, c, b)
def nx (v : Nat) : Nat := Nat.mod (Nat.add (Nat.mul 7 v) 1001) 2001
def orbL (s : Nat) : Nat → List Nat
  | 0 => []
  | k + 1 => nx s :: orbL (nx s) k
theorem nx_le (v : Nat) : nx v ≤ 2000 := by
  have : (7 * v + 1001) % 2001 < 2001 := Nat.mod_lt _ (by decide)
  show (7 * v + 1001) % 2001 ≤ 2000
  omega
theorem orbL_len (s k : Nat) : (orbL s k).length = k := by
  induction k generalizing s with
  | zero => rfl
  | succ k ih => show (orbL (nx s) k).length + 1 = k + 1; rw [ih]
theorem orbL_le (s k : Nat) : ∀ n, n ∈ orbL s k → n ≤ 2000 := by
  induction k generalizing s with
  | zero => intro n hn; exact absurd hn List.not_mem_nil
  | succ k ih =>
    intro n hn
    rcases List.mem_cons.mp (show n ∈ nx s :: orbL (nx s) k from hn) with h | h
    · rw [h]; exact nx_le s
    · exact ih (nx s) n h
theorem orbL_add (s a b : Nat) : ∃ u, orbL s (a + b) = orbL s a ++ orbL u b := by
  induction a generalizing s with
  | zero => exact ⟨s, by rw [Nat.zero_add]; rfl⟩
  | succ a ih =>
    obtain ⟨u, h⟩ := ih (nx s)
    refine ⟨u, ?_⟩
    rw [show a + 1 + b = (a + b) + 1 by omega]
    show nx s :: orbL (nx s) (a + b) = nx s :: (orbL (nx s) a ++ orbL u b)
    rw [h]
def okT (T : Nat → Nat → Nat → Nat → T3) : Prop := ∀ a b c d, a ≤ 2000 → b ≤ 2000 → c ≤ 2000 → d ≤ 2000 → ok3 (T a b c d)
theorem okT0 : okT T0 := fun a b c d ha hb hc hd => ⟨hc, hb, ha⟩
theorem okT1 : okT T1 := fun a b c d ha hb hc hd => ⟨hd, hb, ha⟩
theorem okT2 : okT T2 := fun a b c d ha hb hc hd => ⟨hd, hc, ha⟩
theorem okT4 : okT T4 := fun a b c d ha hb hc hd => ⟨hd, hc, hb⟩
theorem winL_ok {T : Nat → Nat → Nat → Nat → T3} (hT : okT T) : ∀ (L : List Nat), (∀ n, n ∈ L → n ≤ 2000) → ∀ a, a ∈ winL T L → ok3 a := by
  intro L
  induction L with
  | nil => intro _ a h; exact absurd h List.not_mem_nil
  | cons n L ih =>
    intro hL a h
    match L, ih, hL, h with
    | [], _, _, h => exact absurd h List.not_mem_nil
    | [_], _, _, h => exact absurd h List.not_mem_nil
    | [_, _], _, _, h => exact absurd h List.not_mem_nil
    | b :: c :: d :: r, ih, hL, h =>
      rcases List.mem_cons.mp (show a ∈ T n b c d :: winL T (b :: c :: d :: r) from h) with h1 | h1
      · rw [h1]
        exact hT n b c d (hL n (by simp)) (hL b (by simp)) (hL c (by simp)) (hL d (by simp))
      · exact ih (fun m hm => hL m (List.mem_cons_of_mem _ hm)) a h1
theorem winL_len (T : Nat → Nat → Nat → Nat → T3) : ∀ (L : List Nat), (winL T L).length = L.length - 3 := by
  intro L
  induction L with
  | nil => rfl
  | cons n L ih =>
    match L, ih with
    | [], _ => rfl
    | [_], _ => rfl
    | [_, _], _ => rfl
    | b :: c :: d :: r, ih =>
      show (winL T (b :: c :: d :: r)).length + 1 = _
      rw [ih]
      simp only [List.length_cons]
      omega
/-- is the window of this sample in the plane -/
abbrev h1N (q : Z3) (T : Nat → Nat → Nat → Nat → T3) (xs : List Nat) (d : Nat) : Nat := if hq q (T (xs.getD 2 1000) (xs.getD 1 1000) (xs.getD 0 1000) d) = true then 1 else 0
def hcN (q : Z3) (T : Nat → Nat → Nat → Nat → T3) : List Nat → Nat
  | [] => 0
  | d :: xs => hcN q T xs + h1N q T xs d
def hcF (q : Z3) (T : Nat → Nat → Nat → Nat → T3) : List Nat → List Nat → Nat
  | _, [] => 0
  | xs, d :: L => h1N q T xs d + hcF q T (d :: xs) L
theorem hcN_app (q : Z3) (T : Nat → Nat → Nat → Nat → T3) : ∀ (L xs : List Nat), hcN q T (L.reverse ++ xs) = hcN q T xs + hcF q T xs L := by
  intro L
  induction L with
  | nil => intro xs; rfl
  | cons d L ih =>
    intro xs
    rw [List.reverse_cons, List.append_assoc]
    show hcN q T (L.reverse ++ (d :: xs)) = _
    rw [ih]
    show hcN q T xs + h1N q T xs d + hcF q T (d :: xs) L = hcN q T xs + (h1N q T xs d + hcF q T (d :: xs) L)
    omega
theorem hcF_le (q : Z3) (T : Nat → Nat → Nat → Nat → T3) : ∀ (L xs : List Nat), hcF q T xs L ≤ L.length := by
  intro L
  induction L with
  | nil => intro xs; exact Nat.le_refl _
  | cons d L ih =>
    intro xs
    have h := ih (d :: xs)
    show h1N q T xs d + hcF q T (d :: xs) L ≤ L.length + 1
    have : h1N q T xs d ≤ 1 := by unfold h1N; split <;> omega
    omega
theorem hcF_app (q : Z3) (T : Nat → Nat → Nat → Nat → T3) : ∀ (L R xs : List Nat), hcF q T xs L ≤ hcF q T xs (L ++ R) := by
  intro L
  induction L with
  | nil => intro R xs; exact Nat.zero_le _
  | cons d L ih =>
    intro R xs
    exact Nat.add_le_add_left (ih R (d :: xs)) _
theorem hcF_pure (q : Z3) (T : Nat → Nat → Nat → Nat → T3) : ∀ (r : List Nat) (a b c : Nat) (xs : List Nat), hcF q T (c :: b :: a :: xs) r = (winL T (a :: b :: c :: r)).countP (hq q) := by
  intro r
  induction r with
  | nil => intro a b c xs; rfl
  | cons d r ih =>
    intro a b c xs
    show h1N q T (c :: b :: a :: xs) d + hcF q T (d :: c :: b :: a :: xs) r = (T a b c d :: winL T (b :: c :: d :: r)).countP (hq q)
    rw [ih b c d (a :: xs), List.countP_cons]
    show (if hq q (T a b c d) = true then 1 else 0) + _ = _
    omega
def tf (b : Bool) : Nat := cond b 1 0
/-- what the first three samples of a script may add -/
def mixF (f : Nat → Nat → Bool) : List Nat → Nat
  | [] => 0
  | [_] => 1
  | [a, b] => 1 + tf (f a b)
  | a :: b :: c :: _ => 1 + tf (f a b) + tf (f b c)
/-- f says of two samples, one behind the other, whether some others before them bring them into the plane -/
def fOk (q : Z3) (T : Nat → Nat → Nat → Nat → T3) (f : Nat → Nat → Bool) : Prop := ∀ a b c d, a ≤ 2000 → b ≤ 2000 → c ≤ 2000 → d ≤ 2000 → hq q (T a b c d) = true → f c d = true
theorem getD_le {xs : List Nat} (h : ∀ n, n ∈ xs → n ≤ 2000) (k : Nat) : xs.getD k 1000 ≤ 2000 := by
  rw [List.getD_eq_getElem?_getD]
  cases e : xs[k]? with
  | none => show 1000 ≤ 2000; omega
  | some v => exact h v (List.mem_of_getElem? e)
theorem hcF_mix {q : Z3} {T : Nat → Nat → Nat → Nat → T3} {f : Nat → Nat → Bool} (hf : fOk q T f) {L xs : List Nat} (hL : ∀ n, n ∈ L → n ≤ 2000) (hx : ∀ n, n ∈ xs → n ≤ 2000) : hcF q T xs L ≤ mixF f L + (winL T L).countP (hq q) := by
  have one : ∀ ys d, h1N q T ys d ≤ 1 := fun ys d => by unfold h1N; split <;> omega
  have two : ∀ ys c d, (∀ n, n ∈ ys → n ≤ 2000) → c ≤ 2000 → d ≤ 2000 → h1N q T (c :: ys) d ≤ tf (f c d) := by
    intro ys c d hys hc hd
    unfold h1N
    split
    · rename_i h
      have h2 : hq q (T (ys.getD 1 1000) (ys.getD 0 1000) c d) = true := h
      rw [hf _ _ _ _ (getD_le hys 1) (getD_le hys 0) hc hd h2]
      exact Nat.le_refl _
    · exact Nat.zero_le _
  match L, hL with
  | [], _ => exact Nat.le_refl _
  | [a], _ =>
    have := one xs a
    show h1N q T xs a + 0 ≤ 1 + 0
    omega
  | [a, b], hL =>
    have h1 := one xs a
    have h2 := two xs a b hx (hL a (by simp)) (hL b (by simp))
    show h1N q T xs a + (h1N q T (a :: xs) b + 0) ≤ 1 + tf (f a b) + 0
    omega
  | a :: b :: c :: r, hL =>
    have h1 := one xs a
    have h2 := two xs a b hx (hL a (by simp)) (hL b (by simp))
    have h3 := two (a :: xs) b c (fun n hn => by
      rcases List.mem_cons.mp hn with e | e
      · rw [e]; exact hL a (by simp)
      · exact hx n e) (hL b (by simp)) (hL c (by simp))
    have h4 := hcF_pure q T r a b c xs
    show h1N q T xs a + (h1N q T (a :: xs) b + (h1N q T (b :: a :: xs) c + hcF q T (c :: b :: a :: xs) r)) ≤ 1 + tf (f a b) + tf (f b c) + _
    omega
end
section
/-! ===== certificates: what an act adds, against its samples ===== -/
def yN (c0 c1 c2 : Nat) (a : T3) : Nat := Nat.sub (Nat.add (Nat.add (Nat.add (Nat.mul c0 a.1) (Nat.mul c1 a.2.1)) (Nat.mul c2 a.2.2)) 42345693184) (Nat.add (Nat.mul 8388608 (Nat.add (Nat.add a.1 a.2.1) a.2.2)) (Nat.mul 1000 (Nat.add (Nat.add c0 c1) c2)))
def cntY (c0 c1 c2 : Nat) : List T3 → Nat
  | [] => 0
  | a :: l => cond (Nat.beq (yN c0 c1 c2 a) 17179869184) (Nat.succ (cntY c0 c1 c2 l)) (cntY c0 c1 c2 l)
theorem cntY_eq {c0 c1 c2 : Nat} (h0 : okc c0) (h1 : okc c1) (h2 : okc c2) {l : List T3} (hl : ∀ a, a ∈ l → ok3 a) : cntY c0 c1 c2 l = l.countP (hq (ofc c0 c1 c2)) := by
  induction l with
  | nil => rfl
  | cons a l ih =>
    have h3 := (yF_val h0 h1 h2 (hl a List.mem_cons_self)).2.1
    have h4 := ih (fun b hb => hl b (List.mem_cons_of_mem _ hb))
    rw [List.countP_cons, ← h4]
    show cond (Nat.beq (yF c0 c1 c2 a) 17179869184) (cntY c0 c1 c2 l + 1) (cntY c0 c1 c2 l) = _
    unfold hq
    by_cases e : yF c0 c1 c2 a = 17179869184
    · rw [e, if_pos (by rw [decide_eq_true_eq]; omega)]
      rfl
    · rw [if_neg (by rw [decide_eq_true_eq]; omega)]
      have : Nat.beq (yF c0 c1 c2 a) 17179869184 = false := by
        rw [Bool.eq_false_iff]
        intro z
        exact e (Nat.eq_of_beq_eq_true z)
      rw [this]
      rfl
def totY (f : Nat → Nat → Bool) (T : Nat → Nat → Nat → Nat → T3) (c0 c1 c2 : Nat) (L : List Nat) : Nat := Nat.add (mixF f L) (cntY c0 c1 c2 (winL T L))
def chk8 (f : Nat → Nat → Bool) (T : Nat → Nat → Nat → Nat → T3) (c0 c1 c2 A : Nat) : Bool := (List.range 2001).all (fun s => Nat.ble (totY f T c0 c1 c2 (orbL s 8)) A)
def chkm (f : Nat → Nat → Bool) (T : Nat → Nat → Nat → Nat → T3) (c0 c1 c2 be ga : Nat) : Bool := (List.range 101).all (fun m => Nat.ble (Nat.mul 1000 (totY f T c0 c1 c2 (orbL m m))) (Nat.add (Nat.mul be m) ga))
abbrev tot (f : Nat → Nat → Bool) (T : Nat → Nat → Nat → Nat → T3) (q : Z3) (L : List Nat) : Nat := mixF f L + (winL T L).countP (hq q)
def Cert (T : Nat → Nat → Nat → Nat → T3) (q : Z3) : Prop := ∃ (A be ga : Nat) (f : Nat → Nat → Bool), fOk q T f ∧ (∀ s, s ≤ 2000 → tot f T q (orbL s 8) ≤ A) ∧ (∀ m, m ≤ 100 → 1000 * tot f T q (orbL m m) ≤ be * m + ga) ∧ 1000 * A ≤ be * A + ga ∧ be ≤ 1000 ∧ 1000 ≤ be + ga ∧ 2000 * be + 100 * ga ≤ 906999
def fT (_ _ : Nat) : Bool := true
theorem fT_ok (q : Z3) (T : Nat → Nat → Nat → Nat → T3) : fOk q T fT := fun _ _ _ _ _ _ _ _ _ => rfl
def f5 (a b : Nat) : Bool := and (Nat.ble (Nat.mul 3 a) (Nat.mul 5 b)) (and (Nat.ble (Nat.mul 5 b) (Nat.add (Nat.mul 3 a) 4000)) (Nat.beq (Nat.mod (Nat.add a b) 2) 0))
theorem f5_ok : fOk (5, -3, -2) T2 f5 := by
  intro a b c d ha hb hc hd h
  have h1 : dz (5, -3, -2) (T2 a b c d) = 0 := of_decide_eq_true h
  unfold dz T2 at h1
  dsimp only at h1
  unfold f5
  rw [Bool.and_eq_true, Bool.and_eq_true]
  refine ⟨Nat.ble_eq.mpr (show 3 * c ≤ 5 * d by omega), Nat.ble_eq.mpr (show 5 * d ≤ 3 * c + 4000 by omega), Nat.beq_eq.mpr (show (c + d) % 2 = 0 by omega)⟩
theorem cert_of {T : Nat → Nat → Nat → Nat → T3} (hT : okT T) {q : Z3} {c0 c1 c2 A be ga : Nat} {f : Nat → Nat → Bool} (hq0 : q = ofc c0 c1 c2) (h0 : okc c0) (h1 : okc c1) (h2 : okc c2) (hf : fOk q T f)
    (h8 : chk8 f T c0 c1 c2 A = true) (hm : chkm f T c0 c1 c2 be ga = true) (hA : 1000 * A ≤ be * A + ga) (hb : be ≤ 1000) (hs : 1000 ≤ be + ga) (ht : 2000 * be + 100 * ga ≤ 906999) : Cert T q := by
  subst hq0
  have e : ∀ s k, totY f T c0 c1 c2 (orbL s k) = tot f T (ofc c0 c1 c2) (orbL s k) := by
    intro s k
    show mixF f (orbL s k) + cntY c0 c1 c2 (winL T (orbL s k)) = _
    rw [cntY_eq h0 h1 h2 (winL_ok hT _ (orbL_le s k))]
  refine ⟨A, be, ga, f, hf, fun s hs => ?_, fun m hm2 => ?_, hA, hb, hs, ht⟩
  · unfold chk8 at h8
    rw [List.all_eq_true] at h8
    have := Nat.le_of_ble_eq_true (h8 s (List.mem_range.mpr (by omega)))
    rw [e] at this
    exact this
  · unfold chkm at hm
    rw [List.all_eq_true] at hm
    have := Nat.le_of_ble_eq_true (hm m (List.mem_range.mpr (by omega)))
    rw [e] at this
    exact this
end
section
/-! ===== the planes that hold many windows of a script ===== -/
theorem ctT0_0_8 : chk8 fT T0 8388609 8388600 8388615 6 = true := by decide +kernel
theorem ctT0_0_m : chkm fT T0 8388609 8388600 8388615 212 4732 = true := by decide +kernel
theorem ctT0_0 : Cert T0 (1, -8, 7) := cert_of okT0 (c0 := 8388609) (c1 := 8388600) (c2 := 8388615) (by decide +kernel) (by decide) (by decide) (by decide) (fT_ok _ _) ctT0_0_8 ctT0_0_m (by decide) (by decide) (by decide) (by decide)
theorem ctT0_1_8 : chk8 fT T0 8388619 8388607 8388598 5 = true := by decide +kernel
theorem ctT0_1_m : chkm fT T0 8388619 8388607 8388598 180 4100 = true := by decide +kernel
theorem ctT0_1 : Cert T0 (11, -1, -10) := cert_of okT0 (c0 := 8388619) (c1 := 8388607) (c2 := 8388598) (by decide +kernel) (by decide) (by decide) (by decide) (fT_ok _ _) ctT0_1_8 ctT0_1_m (by decide) (by decide) (by decide) (by decide)
theorem ctT0_2_8 : chk8 fT T0 8390250 8387913 8385660 5 = true := by decide +kernel
theorem ctT0_2_m : chkm fT T0 8390250 8387913 8385660 130 4350 = true := by decide +kernel
theorem ctT0_2 : Cert T0 (1642, -695, -2948) := cert_of okT0 (c0 := 8390250) (c1 := 8387913) (c2 := 8385660) (by decide +kernel) (by decide) (by decide) (by decide) (fT_ok _ _) ctT0_2_8 ctT0_2_m (by decide) (by decide) (by decide) (by decide)
theorem ctT0_3_8 : chk8 fT T0 8390530 8388109 8385184 5 = true := by decide +kernel
theorem ctT0_3_m : chkm fT T0 8390530 8388109 8385184 130 4350 = true := by decide +kernel
theorem ctT0_3 : Cert T0 (1922, -499, -3424) := cert_of okT0 (c0 := 8390530) (c1 := 8388109) (c2 := 8385184) (by decide +kernel) (by decide) (by decide) (by decide) (fT_ok _ _) ctT0_3_8 ctT0_3_m (by decide) (by decide) (by decide) (by decide)
theorem ctT0_4_8 : chk8 fT T0 8395851 8386953 8393025 5 = true := by decide +kernel
theorem ctT0_4_m : chkm fT T0 8395851 8386953 8393025 130 4350 = true := by decide +kernel
theorem ctT0_4 : Cert T0 (7243, -1655, 4417) := cert_of okT0 (c0 := 8395851) (c1 := 8386953) (c2 := 8393025) (by decide +kernel) (by decide) (by decide) (by decide) (fT_ok _ _) ctT0_4_8 ctT0_4_m (by decide) (by decide) (by decide) (by decide)
theorem ctT0_5_8 : chk8 fT T0 8401108 8395357 8381365 5 = true := by decide +kernel
theorem ctT0_5_m : chkm fT T0 8401108 8395357 8381365 130 4350 = true := by decide +kernel
theorem ctT0_5 : Cert T0 (12500, 6749, -7243) := cert_of okT0 (c0 := 8401108) (c1 := 8395357) (c2 := 8381365) (by decide +kernel) (by decide) (by decide) (by decide) (fT_ok _ _) ctT0_5_8 ctT0_5_m (by decide) (by decide) (by decide) (by decide)
theorem ctT1_0_8 : chk8 fT T1 8389107 8388524 8390194 5 = true := by decide +kernel
theorem ctT1_0_m : chkm fT T1 8389107 8388524 8390194 167 4165 = true := by decide +kernel
theorem ctT1_0 : Cert T1 (499, -84, 1586) := cert_of okT1 (c0 := 8389107) (c1 := 8388524) (c2 := 8390194) (by decide +kernel) (by decide) (by decide) (by decide) (fT_ok _ _) ctT1_0_8 ctT1_0_m (by decide) (by decide) (by decide) (by decide)
theorem ctT1_1_8 : chk8 fT T1 8389359 8388650 8389816 5 = true := by decide +kernel
theorem ctT1_1_m : chkm fT T1 8389359 8388650 8389816 139 4305 = true := by decide +kernel
theorem ctT1_1 : Cert T1 (751, 42, 1208) := cert_of okT1 (c0 := 8389359) (c1 := 8388650) (c2 := 8389816) (by decide +kernel) (by decide) (by decide) (by decide) (fT_ok _ _) ctT1_1_8 ctT1_1_m (by decide) (by decide) (by decide) (by decide)
theorem ctT1_2_8 : chk8 fT T1 8391108 8390441 8388277 6 = true := by decide +kernel
theorem ctT1_2_m : chkm fT T1 8391108 8390441 8388277 215 4710 = true := by decide +kernel
theorem ctT1_2 : Cert T1 (2500, 1833, -331) := cert_of okT1 (c0 := 8391108) (c1 := 8390441) (c2 := 8388277) (by decide +kernel) (by decide) (by decide) (by decide) (fT_ok _ _) ctT1_2_8 ctT1_2_m (by decide) (by decide) (by decide) (by decide)
theorem ctT1_3_8 : chk8 fT T1 8391612 8390945 8387269 6 = true := by decide +kernel
theorem ctT1_3_m : chkm fT T1 8391612 8390945 8387269 184 4904 = true := by decide +kernel
theorem ctT1_3 : Cert T1 (3004, 2337, -1339) := cert_of okT1 (c0 := 8391612) (c1 := 8390945) (c2 := 8387269) (by decide +kernel) (by decide) (by decide) (by decide) (fT_ok _ _) ctT1_3_8 ctT1_3_m (by decide) (by decide) (by decide) (by decide)
theorem ctT1_4_8 : chk8 fT T1 8393613 8390777 8383435 6 = true := by decide +kernel
theorem ctT1_4_m : chkm fT T1 8393613 8390777 8383435 129 5229 = true := by decide +kernel
theorem ctT1_4 : Cert T1 (5005, 2169, -5173) := cert_of okT1 (c0 := 8393613) (c1 := 8390777) (c2 := 8383435) (by decide +kernel) (by decide) (by decide) (by decide) (fT_ok _ _) ctT1_4_8 ctT1_4_m (by decide) (by decide) (by decide) (by decide)
theorem ctT1_5_8 : chk8 fT T1 8393613 8390945 8397274 5 = true := by decide +kernel
theorem ctT1_5_m : chkm fT T1 8393613 8390945 8397274 130 4350 = true := by decide +kernel
theorem ctT1_5 : Cert T1 (5005, 2337, 8666) := cert_of okT1 (c0 := 8393613) (c1 := 8390945) (c2 := 8397274) (by decide +kernel) (by decide) (by decide) (by decide) (fT_ok _ _) ctT1_5_8 ctT1_5_m (by decide) (by decide) (by decide) (by decide)
theorem ctT1_6_8 : chk8 fT T1 8395456 8383682 8384685 5 = true := by decide +kernel
theorem ctT1_6_m : chkm fT T1 8395456 8383682 8384685 130 4350 = true := by decide +kernel
theorem ctT1_6 : Cert T1 (6848, -4926, -3923) := cert_of okT1 (c0 := 8395456) (c1 := 8383682) (c2 := 8384685) (by decide +kernel) (by decide) (by decide) (by decide) (fT_ok _ _) ctT1_6_8 ctT1_6_m (by decide) (by decide) (by decide) (by decide)
theorem ctT1_7_8 : chk8 fT T1 8395851 8387615 8388361 5 = true := by decide +kernel
theorem ctT1_7_m : chkm fT T1 8395851 8387615 8388361 130 4350 = true := by decide +kernel
theorem ctT1_7 : Cert T1 (7243, -993, -247) := cert_of okT1 (c0 := 8395851) (c1 := 8387615) (c2 := 8388361) (by decide +kernel) (by decide) (by decide) (by decide) (fT_ok _ _) ctT1_7_8 ctT1_7_m (by decide) (by decide) (by decide) (by decide)
theorem ctT2_0_8 : chk8 fT T2 8388610 8388611 8388603 6 = true := by decide +kernel
theorem ctT2_0_m : chkm fT T2 8388610 8388611 8388603 200 4800 = true := by decide +kernel
theorem ctT2_0 : Cert T2 (2, 3, -5) := cert_of okT2 (c0 := 8388610) (c1 := 8388611) (c2 := 8388603) (by decide +kernel) (by decide) (by decide) (by decide) (fT_ok _ _) ctT2_0_8 ctT2_0_m (by decide) (by decide) (by decide) (by decide)
theorem ctT2_1_8 : chk8 f5 T2 8388613 8388605 8388606 4 = true := by decide +kernel
theorem ctT2_1_m : chkm f5 T2 8388613 8388605 8388606 268 2928 = true := by decide +kernel
theorem ctT2_1 : Cert T2 (5, -3, -2) := cert_of okT2 (c0 := 8388613) (c1 := 8388605) (c2 := 8388606) (by decide +kernel) (by decide) (by decide) (by decide) f5_ok ctT2_1_8 ctT2_1_m (by decide) (by decide) (by decide) (by decide)
theorem ctT2_2_8 : chk8 fT T2 8391439 8391938 8384448 5 = true := by decide +kernel
theorem ctT2_2_m : chkm fT T2 8391439 8391938 8384448 162 4190 = true := by decide +kernel
theorem ctT2_2 : Cert T2 (2831, 3330, -4160) := cert_of okT2 (c0 := 8391439) (c1 := 8391938) (c2 := 8384448) (by decide +kernel) (by decide) (by decide) (by decide) (fT_ok _ _) ctT2_2_8 ctT2_2_m (by decide) (by decide) (by decide) (by decide)
theorem ctT2_3_8 : chk8 fT T2 8392941 8375777 8401108 5 = true := by decide +kernel
theorem ctT2_3_m : chkm fT T2 8392941 8375777 8401108 130 4350 = true := by decide +kernel
theorem ctT2_3 : Cert T2 (4333, -12831, 12500) := cert_of okT2 (c0 := 8392941) (c1 := 8375777) (c2 := 8401108) (by decide +kernel) (by decide) (by decide) (by decide) (fT_ok _ _) ctT2_3_8 ctT2_3_m (by decide) (by decide) (by decide) (by decide)
theorem ctT2_4_8 : chk8 fT T2 8395357 8379443 8393025 5 = true := by decide +kernel
theorem ctT2_4_m : chkm fT T2 8395357 8379443 8393025 130 4350 = true := by decide +kernel
theorem ctT2_4 : Cert T2 (6749, -9165, 4417) := cert_of okT2 (c0 := 8395357) (c1 := 8379443) (c2 := 8393025) (by decide +kernel) (by decide) (by decide) (by decide) (fT_ok _ _) ctT2_4_8 ctT2_4_m (by decide) (by decide) (by decide) (by decide)
theorem ctT2_5_8 : chk8 fT T2 8397783 8397284 8386765 5 = true := by decide +kernel
theorem ctT2_5_m : chkm fT T2 8397783 8397284 8386765 162 4190 = true := by decide +kernel
theorem ctT2_5 : Cert T2 (9175, 8676, -1843) := cert_of okT2 (c0 := 8397783) (c1 := 8397284) (c2 := 8386765) (by decide +kernel) (by decide) (by decide) (by decide) (fT_ok _ _) ctT2_5_8 ctT2_5_m (by decide) (by decide) (by decide) (by decide)
theorem ctT4_0_8 : chk8 fT T4 8388609 8388600 8388615 6 = true := by decide +kernel
theorem ctT4_0_m : chkm fT T4 8388609 8388600 8388615 212 4732 = true := by decide +kernel
theorem ctT4_0 : Cert T4 (1, -8, 7) := cert_of okT4 (c0 := 8388609) (c1 := 8388600) (c2 := 8388615) (by decide +kernel) (by decide) (by decide) (by decide) (fT_ok _ _) ctT4_0_8 ctT4_0_m (by decide) (by decide) (by decide) (by decide)
theorem ctT4_1_8 : chk8 fT T4 8388619 8388607 8388598 5 = true := by decide +kernel
theorem ctT4_1_m : chkm fT T4 8388619 8388607 8388598 205 3980 = true := by decide +kernel
theorem ctT4_1 : Cert T4 (11, -1, -10) := cert_of okT4 (c0 := 8388619) (c1 := 8388607) (c2 := 8388598) (by decide +kernel) (by decide) (by decide) (by decide) (fT_ok _ _) ctT4_1_8 ctT4_1_m (by decide) (by decide) (by decide) (by decide)
theorem ctT4_2_8 : chk8 fT T4 8390530 8388109 8385184 5 = true := by decide +kernel
theorem ctT4_2_m : chkm fT T4 8390530 8388109 8385184 130 4350 = true := by decide +kernel
theorem ctT4_2 : Cert T4 (1922, -499, -3424) := cert_of okT4 (c0 := 8390530) (c1 := 8388109) (c2 := 8385184) (by decide +kernel) (by decide) (by decide) (by decide) (fT_ok _ _) ctT4_2_8 ctT4_2_m (by decide) (by decide) (by decide) (by decide)
theorem ctT4_3_8 : chk8 fT T4 8393025 8388855 8387946 5 = true := by decide +kernel
theorem ctT4_3_m : chkm fT T4 8393025 8388855 8387946 130 4350 = true := by decide +kernel
theorem ctT4_3 : Cert T4 (4417, 247, -662) := cert_of okT4 (c0 := 8393025) (c1 := 8388855) (c2 := 8387946) (by decide +kernel) (by decide) (by decide) (by decide) (fT_ok _ _) ctT4_3_8 ctT4_3_m (by decide) (by decide) (by decide) (by decide)
theorem ctT4_4_8 : chk8 fT T4 8395851 8386953 8393025 5 = true := by decide +kernel
theorem ctT4_4_m : chkm fT T4 8395851 8386953 8393025 130 4350 = true := by decide +kernel
theorem ctT4_4 : Cert T4 (7243, -1655, 4417) := cert_of okT4 (c0 := 8395851) (c1 := 8386953) (c2 := 8393025) (by decide +kernel) (by decide) (by decide) (by decide) (fT_ok _ _) ctT4_4_8 ctT4_4_m (by decide) (by decide) (by decide) (by decide)
theorem ctT4_5_8 : chk8 fT T4 8401108 8395357 8381365 5 = true := by decide +kernel
theorem ctT4_5_m : chkm fT T4 8401108 8395357 8381365 141 4310 = true := by decide +kernel
theorem ctT4_5 : Cert T4 (12500, 6749, -7243) := cert_of okT4 (c0 := 8401108) (c1 := 8395357) (c2 := 8381365) (by decide +kernel) (by decide) (by decide) (by decide) (fT_ok _ _) ctT4_5_8 ctT4_5_m (by decide) (by decide) (by decide) (by decide)
def D0 : List Z3 := [(1, -8, 7), (11, -1, -10), (1642, -695, -2948), (1922, -499, -3424), (7243, -1655, 4417), (12500, 6749, -7243)]
theorem D0_ok : ∀ e, e ∈ D0 → Cert T0 e ∧ e ≠ (0, 0, 0) := by
  intro e he
  simp only [D0, List.mem_cons, List.not_mem_nil, or_false] at he
  rcases he with rfl | rfl | rfl | rfl | rfl | rfl
  · exact ⟨ctT0_0, by decide⟩
  · exact ⟨ctT0_1, by decide⟩
  · exact ⟨ctT0_2, by decide⟩
  · exact ⟨ctT0_3, by decide⟩
  · exact ⟨ctT0_4, by decide⟩
  · exact ⟨ctT0_5, by decide⟩
def D1 : List Z3 := [(499, -84, 1586), (751, 42, 1208), (2500, 1833, -331), (3004, 2337, -1339), (5005, 2169, -5173), (5005, 2337, 8666), (6848, -4926, -3923), (7243, -993, -247)]
theorem D1_ok : ∀ e, e ∈ D1 → Cert T1 e ∧ e ≠ (0, 0, 0) := by
  intro e he
  simp only [D1, List.mem_cons, List.not_mem_nil, or_false] at he
  rcases he with rfl | rfl | rfl | rfl | rfl | rfl | rfl | rfl
  · exact ⟨ctT1_0, by decide⟩
  · exact ⟨ctT1_1, by decide⟩
  · exact ⟨ctT1_2, by decide⟩
  · exact ⟨ctT1_3, by decide⟩
  · exact ⟨ctT1_4, by decide⟩
  · exact ⟨ctT1_5, by decide⟩
  · exact ⟨ctT1_6, by decide⟩
  · exact ⟨ctT1_7, by decide⟩
def D2 : List Z3 := [(2, 3, -5), (5, -3, -2), (2831, 3330, -4160), (4333, -12831, 12500), (6749, -9165, 4417), (9175, 8676, -1843)]
theorem D2_ok : ∀ e, e ∈ D2 → Cert T2 e ∧ e ≠ (0, 0, 0) := by
  intro e he
  simp only [D2, List.mem_cons, List.not_mem_nil, or_false] at he
  rcases he with rfl | rfl | rfl | rfl | rfl | rfl
  · exact ⟨ctT2_0, by decide⟩
  · exact ⟨ctT2_1, by decide⟩
  · exact ⟨ctT2_2, by decide⟩
  · exact ⟨ctT2_3, by decide⟩
  · exact ⟨ctT2_4, by decide⟩
  · exact ⟨ctT2_5, by decide⟩
def D4 : List Z3 := [(1, -8, 7), (11, -1, -10), (1922, -499, -3424), (4417, 247, -662), (7243, -1655, 4417), (12500, 6749, -7243)]
theorem D4_ok : ∀ e, e ∈ D4 → Cert T4 e ∧ e ≠ (0, 0, 0) := by
  intro e he
  simp only [D4, List.mem_cons, List.not_mem_nil, or_false] at he
  rcases he with rfl | rfl | rfl | rfl | rfl | rfl
  · exact ⟨ctT4_0, by decide⟩
  · exact ⟨ctT4_1, by decide⟩
  · exact ⟨ctT4_2, by decide⟩
  · exact ⟨ctT4_3, by decide⟩
  · exact ⟨ctT4_4, by decide⟩
  · exact ⟨ctT4_5, by decide⟩
end
section
/-! ===== every plane has a certificate ===== -/
def hM (m : Nat) : Nat := Nat.sub (Nat.div (Nat.add (Nat.mul 88 m) 7296) 1000) 3
def chkM (T : Nat → Nat → Nat → Nat → T3) (Dl : List Z3) (m : Nat) : Bool := or (Nat.ble m (Nat.add (hM m) 3)) (chkW (hM m) 7 Dl (winL T (orbL m m)))
theorem chk_0 : (List.range 101).all (chkM T0 D0) = true := by decide +kernel
theorem chk_1 : (List.range 101).all (chkM T1 D1) = true := by decide +kernel
theorem chk_2 : (List.range 101).all (chkM T2 D2) = true := by decide +kernel
theorem chk_4 : (List.range 101).all (chkM T4 D4) = true := by decide +kernel
theorem hM_ok : (List.range 101).all (fun m => Nat.ble (m - 3) (hM m * 8)) = true := by decide +kernel
theorem mixF_T (L : List Nat) : mixF fT L + (L.length - 3) ≤ L.length ∧ mixF fT L ≤ 3 := by
  match L with
  | [] => exact ⟨by decide, by decide⟩
  | [_] => exact ⟨by show 1 + (1 - 3) ≤ 1; omega, by show 1 ≤ 3; omega⟩
  | [_, _] => exact ⟨by show 1 + 1 + (2 - 3) ≤ 2; omega, by show 1 + 1 ≤ 3; omega⟩
  | _ :: _ :: _ :: r =>
    refine ⟨?_, by show 1 + 1 + 1 ≤ 3; omega⟩
    show 1 + 1 + 1 + (r.length + 1 + 1 + 1 - 3) ≤ r.length + 1 + 1 + 1
    omega
theorem tot_T (T : Nat → Nat → Nat → Nat → T3) (q : Z3) (L : List Nat) : tot fT T q L ≤ L.length := by
  have h1 := (mixF_T L).1
  have h2 := List.countP_le_length (p := hq q) (l := winL T L)
  rw [winL_len] at h2
  show mixF fT L + (winL T L).countP (hq q) ≤ L.length
  omega
theorem cert_all {T : Nat → Nat → Nat → Nat → T3} (hT : okT T) {Dl : List Z3} (hD : ∀ e, e ∈ Dl → Cert T e ∧ e ≠ (0, 0, 0)) (hc : (List.range 101).all (chkM T Dl) = true) {q : Z3} (hq0 : q ≠ (0, 0, 0)) : ∃ e, Cert T e ∧ ∀ a, hq q a = hq e a := by
  by_cases h : ∃ e, e ∈ Dl ∧ crz q e = (0, 0, 0)
  · obtain ⟨e, h1, h2⟩ := h
    obtain ⟨h3, h4⟩ := hD e h1
    refine ⟨e, h3, fun a => ?_⟩
    unfold hq
    have : (dz q a = 0) = (dz e a = 0) := propext ⟨fun z => crz_dz (crz_swap h2) hq0 a z h4, fun z => crz_dz h2 h4 a z hq0⟩
    simp only [this]
  · refine ⟨q, ?_, fun a => rfl⟩
    rw [List.all_eq_true] at hc
    have hk := hM_ok
    rw [List.all_eq_true] at hk
    refine ⟨8, 88, 7296, fT, fT_ok _ _, fun s _ => ?_, fun m hm => ?_, by decide, by decide, by decide, by decide⟩
    · have := tot_T T q (orbL s 8)
      rw [orbL_len] at this
      exact this
    · have h1 := hc m (List.mem_range.mpr (by omega))
      have h2 := Nat.le_of_ble_eq_true (hk m (List.mem_range.mpr (by omega)))
      have h3 := tot_T T q (orbL m m)
      rw [orbL_len] at h3
      have h4 : hM m = (88 * m + 7296) / 1000 - 3 := rfl
      unfold chkM at h1
      rw [Bool.or_eq_true] at h1
      rcases h1 with h1 | h1
      · have h5 : m ≤ hM m + 3 := Nat.le_of_ble_eq_true h1
        omega
      · by_cases h6 : m ≤ hM m + 3
        · omega
        · have hlen : (winL T (orbL m m)).length = m - 3 := by rw [winL_len, orbL_len]
          rcases chkW_sound (winL_ok hT _ (orbL_le m m)) (by rw [hlen]; omega) (by rw [hlen]; exact h2) (by rw [hlen]; omega) h1 hq0 with h7 | h7
          · have h8 := (mixF_T (orbL m m)).2
            show 1000 * (mixF fT (orbL m m) + (winL T (orbL m m)).countP (hq q)) ≤ _
            omega
          · exact absurd h7 h
end
section
/-! ===== at most 906 windows of 100 acts lie in one plane beside a place ===== -/
def VA (A : List Nat) : Prop := (∃ n, n ≤ 2000 ∧ A = [n]) ∨ (∃ s k, s ≤ 2000 ∧ 1 ≤ k ∧ k ≤ 8 ∧ A = orbL s k) ∨ (∃ m, 1 ≤ m ∧ m ≤ 100 ∧ A = orbL m m)
def xsOf : List (List Nat) → List Nat
  | [] => []
  | A :: as => A.reverse ++ xsOf as
theorem VA_le {A : List Nat} (h : VA A) : ∀ n, n ∈ A → n ≤ 2000 := by
  intro n hn
  rcases h with ⟨m, h1, rfl⟩ | ⟨s, k, _, _, _, rfl⟩ | ⟨m, _, _, rfl⟩
  · rw [List.mem_singleton.mp hn]; exact h1
  · exact orbL_le s k n hn
  · exact orbL_le m m n hn
theorem xsOf_le {as : List (List Nat)} (h : ∀ A, A ∈ as → VA A) : ∀ n, n ∈ xsOf as → n ≤ 2000 := by
  induction as with
  | nil => intro n hn; exact absurd hn List.not_mem_nil
  | cons A as ih =>
    intro n hn
    rcases List.mem_append.mp (show n ∈ A.reverse ++ xsOf as from hn) with h1 | h1
    · exact VA_le (h A List.mem_cons_self) n (List.mem_reverse.mp h1)
    · exact ih (fun B hB => h B (List.mem_cons_of_mem _ hB)) n h1
theorem act_le {T : Nat → Nat → Nat → Nat → T3} {e : Z3} {A8 be ga : Nat} {f : Nat → Nat → Bool} (hf : fOk e T f) (h8 : ∀ s, s ≤ 2000 → tot f T e (orbL s 8) ≤ A8) (hm : ∀ m, m ≤ 100 → 1000 * tot f T e (orbL m m) ≤ be * m + ga) (hA : 1000 * A8 ≤ be * A8 + ga) (hb : be ≤ 1000) (h1 : 1000 ≤ be + ga)
    {A xs : List Nat} (hV : VA A) (hx : ∀ n, n ∈ xs → n ≤ 2000) : 1000 * hcF e T xs A ≤ be * A.length + ga := by
  rcases hV with ⟨n, hn, rfl⟩ | ⟨s, k, hs, hk1, hk8, rfl⟩ | ⟨m, hm1, hm2, rfl⟩
  · have := hcF_le e T [n] xs
    have e1 : ([n] : List Nat).length = 1 := rfl
    rw [e1] at this ⊢
    omega
  · have k1 := hcF_le e T (orbL s k) xs
    rw [orbL_len] at k1 ⊢
    obtain ⟨u, hu⟩ := orbL_add s k (8 - k)
    rw [show k + (8 - k) = 8 by omega] at hu
    have k2 := hcF_app e T (orbL s k) (orbL u (8 - k)) xs
    rw [← hu] at k2
    have k3 := hcF_mix hf (orbL_le s 8) hx
    have k4 := h8 s hs
    have k5 : hcF e T xs (orbL s k) ≤ A8 := Nat.le_trans k2 (Nat.le_trans k3 k4)
    generalize hcF e T xs (orbL s k) = h at *
    obtain ⟨g, hg⟩ : ∃ g, 1000 = be + g := ⟨1000 - be, by omega⟩
    have y1 : 1000 * A8 = be * A8 + g * A8 := (congrArg (fun z => z * A8) hg).trans (Nat.add_mul ..)
    have y2 : 1000 * h = be * h + g * h := (congrArg (fun z => z * h) hg).trans (Nat.add_mul ..)
    have z1 := Nat.mul_le_mul_left g k5
    have z2 := Nat.mul_le_mul_left be k1
    omega
  · have k3 := hcF_mix hf (orbL_le m m) hx
    have k4 := hm m hm2
    rw [orbL_len]
    have k5 := Nat.mul_le_mul_left 1000 k3
    exact Nat.le_trans k5 k4
theorem acts_le {T : Nat → Nat → Nat → Nat → T3} {e : Z3} (hC : Cert T e) {as : List (List Nat)} (hV : ∀ A, A ∈ as → VA A) (hn : as.length ≤ 100) (hl : (xsOf as).length ≤ 2000) : hcN e T (xsOf as) ≤ 906 := by
  obtain ⟨A8, be, ga, f, hf, h8, hm, hA, hb, h1, ht⟩ := hC
  have key : ∀ as : List (List Nat), (∀ A, A ∈ as → VA A) → 1000 * hcN e T (xsOf as) ≤ be * (xsOf as).length + ga * as.length := by
    intro as
    induction as with
    | nil => intro _; exact Nat.zero_le _
    | cons A as ih =>
      intro hV
      have i1 := ih (fun B hB => hV B (List.mem_cons_of_mem _ hB))
      have i2 := act_le hf h8 hm hA hb h1 (hV A List.mem_cons_self) (xsOf_le (fun B hB => hV B (List.mem_cons_of_mem _ hB)))
      show 1000 * hcN e T (A.reverse ++ xsOf as) ≤ be * (A.reverse ++ xsOf as).length + ga * (as.length + 1)
      rw [hcN_app, List.length_append, List.length_reverse, Nat.mul_add, Nat.mul_add, Nat.mul_add]
      omega
  have k := key as hV
  have z1 := Nat.mul_le_mul_left be hl
  have z2 := Nat.mul_le_mul_left ga hn
  omega
/-- the windows of a list of samples, 1000 taken off -/
def Hist : List Nat → List (Nat → Int32) → Prop
  | [], [] => True
  | d :: xs, w :: ws => (∀ k, k < 4 → (w k).toInt = (((d :: xs).getD k 1000 : Nat) : Int) - 1000) ∧ Hist xs ws
  | [], _ :: _ => False
  | _ :: _, [] => False
def vz (i : Nat) (w : Nat → Int32) : Z3 := (wi w (offI i).1, wi w (offI i).2.1, wi w (offI i).2.2)
def dv (q v : Z3) : Int := q.1 * v.1 + q.2.1 * v.2.1 + q.2.2 * v.2.2
def TI (i : Nat) : Nat → Nat → Nat → Nat → T3 := if i = 0 then T0 else if i = 1 then T1 else if i = 2 then T2 else T4
theorem hist_count (q : Z3) {i : Nat} (hi : i < 4) : ∀ (xs : List Nat) (ws : List (Nat → Int32)), Hist xs ws → ws.countP (fun w => decide (dv q (vz i w) = 0)) = hcN q (TI i) xs := by
  intro xs
  induction xs with
  | nil =>
    intro ws h
    cases ws with
    | nil => rfl
    | cons w ws => exact h.elim
  | cons d xs ih =>
    intro ws h
    cases ws with
    | nil => exact h.elim
    | cons w ws =>
      obtain ⟨h1, h2⟩ := h
      rw [List.countP_cons, ih ws h2]
      show _ = hcN q (TI i) xs + h1N q (TI i) xs d
      have e0 : (w 0).toInt = (d : Int) - 1000 := h1 0 (by omega)
      have e1 : (w 1).toInt = ((xs.getD 0 1000 : Nat) : Int) - 1000 := h1 1 (by omega)
      have e2 : (w 2).toInt = ((xs.getD 1 1000 : Nat) : Int) - 1000 := h1 2 (by omega)
      have e3 : (w 3).toInt = ((xs.getD 2 1000 : Nat) : Int) - 1000 := h1 3 (by omega)
      have e : dv q (vz i w) = dz q (TI i (xs.getD 2 1000) (xs.getD 1 1000) (xs.getD 0 1000) d) := by
        unfold dv vz dz TI
        rcases (show i = 0 ∨ i = 1 ∨ i = 2 ∨ i = 3 by omega) with h | h | h | h <;> subst h <;> simp [offI, T0, T1, T2, T4, e0, e1, e2, e3]
      unfold h1N hq
      rw [e]
theorem plane_ex {i : Nat} {Ls : List (Nat → Int32)} (h : ∀ a b c, a ∈ Ls → b ∈ Ls → c ∈ Ls → detI i a b c = 0) : ∃ q : Z3, q ≠ (0, 0, 0) ∧ ∀ w, w ∈ Ls → dv q (vz i w) = 0 := by
  by_cases h1 : ∃ a b, a ∈ Ls ∧ b ∈ Ls ∧ crz (vz i a) (vz i b) ≠ (0, 0, 0)
  · obtain ⟨a, b, ha, hb, hn⟩ := h1
    refine ⟨_, hn, fun w hw => ?_⟩
    have := h a b w ha hb hw
    unfold detI det3 at this
    unfold dv crz vz
    dsimp only
    grind
  · have h2 : ∀ a b, a ∈ Ls → b ∈ Ls → crz (vz i a) (vz i b) = (0, 0, 0) := fun a b ha hb => Classical.byContradiction fun hn => h1 ⟨a, b, ha, hb, hn⟩
    have hone : ((1, 0, 0) : Z3) ≠ (0, 0, 0) := by decide
    by_cases h3 : ∃ a, a ∈ Ls ∧ vz i a ≠ (0, 0, 0)
    · obtain ⟨a, ha, hn⟩ := h3
      have h4 := fun w hw => h2 a w ha hw
      generalize vz i a = v at hn h4
      obtain ⟨x, y, z⟩ := v
      by_cases hx : x = 0 ∧ y = 0
      · obtain ⟨rfl, rfl⟩ := hx
        have hz : z ≠ 0 := fun e => hn (by rw [e])
        refine ⟨(1, 0, 0), hone, fun w hw => ?_⟩
        have h5 := h4 w hw
        unfold crz at h5
        dsimp only at h5
        have h6 : z * (vz i w).1 - 0 * (vz i w).2.2 = 0 := congrArg (fun z : Z3 => z.2.1) h5
        have h7 : (vz i w).1 = 0 := (Int.mul_eq_zero.mp (by grind : z * (vz i w).1 = 0)).resolve_left hz
        unfold dv
        dsimp only
        grind
      · refine ⟨(y, -x, 0), fun e => hx ⟨?_, ?_⟩, fun w hw => ?_⟩
        · have : -x = 0 := congrArg (fun z : Z3 => z.2.1) e
          omega
        · exact congrArg (fun z : Z3 => z.1) e
        · have h5 := h4 w hw
          unfold crz at h5
          dsimp only at h5
          have h6 : x * (vz i w).2.1 - y * (vz i w).1 = 0 := congrArg (fun z : Z3 => z.2.2) h5
          unfold dv
          dsimp only
          grind
    · refine ⟨(1, 0, 0), hone, fun w hw => ?_⟩
      have : vz i w = (0, 0, 0) := Classical.byContradiction fun hn => h3 ⟨w, hw, hn⟩
      rw [this]
      decide
theorem hist_HB {as : List (List Nat)} {ws : List (Nat → Int32)} (hV : ∀ A, A ∈ as → VA A) (hn : as.length ≤ 100) (hl : (xsOf as).length ≤ 2000) (hH : Hist (xsOf as) ws) : HB ws := by
  intro i hi Ls hs hd
  obtain ⟨q, hq0, hq1⟩ := plane_ex hd
  have h1 : Ls.countP (fun w => decide (dv q (vz i w) = 0)) = Ls.length := by
    rw [List.countP_eq_length]
    intro w hw
    rw [decide_eq_true_eq]
    exact hq1 w hw
  have h2 := hs.countP_le (p := fun w => decide (dv q (vz i w) = 0))
  rw [h1, hist_count q hi _ _ hH] at h2
  have h3 : ∃ e, Cert (TI i) e ∧ ∀ a, hq q a = hq e a := by
    unfold TI
    rcases (show i = 0 ∨ i = 1 ∨ i = 2 ∨ i = 3 by omega) with h | h | h | h <;> subst h
    · exact cert_all okT0 D0_ok chk_0 hq0
    · exact cert_all okT1 D1_ok chk_1 hq0
    · exact cert_all okT2 D2_ok chk_2 hq0
    · exact cert_all okT4 D4_ok chk_4 hq0
  obtain ⟨e, hC, he⟩ := h3
  have h4 : ∀ xs, hcN q (TI i) xs = hcN e (TI i) xs := by
    intro xs
    induction xs with
    | nil => rfl
    | cons d xs ih =>
      show hcN q (TI i) xs + h1N q (TI i) xs d = hcN e (TI i) xs + h1N e (TI i) xs d
      rw [ih]
      unfold h1N
      rw [he]
  rw [h4] at h2
  exact Nat.le_trans h2 (acts_le hC hV hn hl)
end
section
-- ===== PART A: goes FIRST, ahead of the names: the tables' words, and 'selects' of the private methods out of them =====
/-- a private method of a class that the tables say can be made, by its rows of tables_1 -/
def lw_okq (q : MethodName × Nat) : Prop := (q.1.cls ≠ "java/lang/invoke/MethodHandle" ∧ q.1.cls ≠ "java/lang/invoke/VarHandle") ∧ Cond.instantiable q.1.cls q.2 ∈ tables_1 ∧ Cond.privateMethod q.1 ∈ tables_1 ∧ Cond.instanceMethod q.1 ∈ tables_1
theorem lw_p0 : lw_okq (⟨"java/lang/Throwable", "fillInStackTrace", "(I)Ljava/lang/Throwable;"⟩, 6) := ⟨⟨by decide +kernel, by decide +kernel⟩, List.mem_of_getElem? (i := 127) (by decide +kernel), List.mem_of_getElem? (i := 125) (by decide +kernel), List.mem_of_getElem? (i := 126) (by decide +kernel)⟩
theorem lw_p1 : lw_okq (⟨"EchoBench$Samples", "tellPath", "(II)I"⟩, 7) := ⟨⟨by decide +kernel, by decide +kernel⟩, List.mem_of_getElem? (i := 22) (by decide +kernel), List.mem_of_getElem? (i := 173) (by decide +kernel), List.mem_of_getElem? (i := 174) (by decide +kernel)⟩
theorem lw_p2 : lw_okq (⟨"EchoBench", "numbered", "(I)LEchoBench$Filter;"⟩, 3) := ⟨⟨by decide +kernel, by decide +kernel⟩, List.mem_of_getElem? (i := 14) (by decide +kernel), List.mem_of_getElem? (i := 294) (by decide +kernel), List.mem_of_getElem? (i := 295) (by decide +kernel)⟩
theorem lw_p3 : lw_okq (⟨"EchoBench$Filter", "restart", "()V"⟩, 13) := ⟨⟨by decide +kernel, by decide +kernel⟩, List.mem_of_getElem? (i := 207) (by decide +kernel), List.mem_of_getElem? (i := 314) (by decide +kernel), List.mem_of_getElem? (i := 315) (by decide +kernel)⟩
theorem lw_p4 : lw_okq (⟨"EchoBench$Square", "restart", "()V"⟩, 4) := ⟨⟨by decide +kernel, by decide +kernel⟩, List.mem_of_getElem? (i := 213) (by decide +kernel), List.mem_of_getElem? (i := 321) (by decide +kernel), List.mem_of_getElem? (i := 322) (by decide +kernel)⟩
theorem lw_p5 : lw_okq (⟨"EchoBench", "takeSample", "(II)V"⟩, 3) := ⟨⟨by decide +kernel, by decide +kernel⟩, List.mem_of_getElem? (i := 14) (by decide +kernel), List.mem_of_getElem? (i := 343) (by decide +kernel), List.mem_of_getElem? (i := 344) (by decide +kernel)⟩
theorem lw_p6 : lw_okq (⟨"EchoBench$Samples", "take", "(II)V"⟩, 7) := ⟨⟨by decide +kernel, by decide +kernel⟩, List.mem_of_getElem? (i := 22) (by decide +kernel), List.mem_of_getElem? (i := 347) (by decide +kernel), List.mem_of_getElem? (i := 348) (by decide +kernel)⟩
theorem lw_p7 : lw_okq (⟨"EchoBench$Samples", "heardWith", "(I)D"⟩, 7) := ⟨⟨by decide +kernel, by decide +kernel⟩, List.mem_of_getElem? (i := 22) (by decide +kernel), List.mem_of_getElem? (i := 351) (by decide +kernel), List.mem_of_getElem? (i := 352) (by decide +kernel)⟩
theorem lw_p8 : lw_okq (⟨"EchoBench$Filter", "hear", "([DD)V"⟩, 13) := ⟨⟨by decide +kernel, by decide +kernel⟩, List.mem_of_getElem? (i := 207) (by decide +kernel), List.mem_of_getElem? (i := 359) (by decide +kernel), List.mem_of_getElem? (i := 360) (by decide +kernel)⟩
theorem lw_p9 : lw_okq (⟨"EchoBench$Filter", "outputAt", "([D)D"⟩, 13) := ⟨⟨by decide +kernel, by decide +kernel⟩, List.mem_of_getElem? (i := 207) (by decide +kernel), List.mem_of_getElem? (i := 363) (by decide +kernel), List.mem_of_getElem? (i := 364) (by decide +kernel)⟩
theorem lw_p10 : lw_okq (⟨"EchoBench$Filter", "holdsAt", "([DD)Z"⟩, 13) := ⟨⟨by decide +kernel, by decide +kernel⟩, List.mem_of_getElem? (i := 207) (by decide +kernel), List.mem_of_getElem? (i := 368) (by decide +kernel), List.mem_of_getElem? (i := 369) (by decide +kernel)⟩
theorem lw_p11 : lw_okq (⟨"EchoBench$Filter", "isLoud", "([DD)Z"⟩, 13) := ⟨⟨by decide +kernel, by decide +kernel⟩, List.mem_of_getElem? (i := 207) (by decide +kernel), List.mem_of_getElem? (i := 372) (by decide +kernel), List.mem_of_getElem? (i := 373) (by decide +kernel)⟩
theorem lw_p12 : lw_okq (⟨"EchoBench$Filter", "learnBySquare", "(LEchoBench$Square;[D)V"⟩, 13) := ⟨⟨by decide +kernel, by decide +kernel⟩, List.mem_of_getElem? (i := 207) (by decide +kernel), List.mem_of_getElem? (i := 380) (by decide +kernel), List.mem_of_getElem? (i := 381) (by decide +kernel)⟩
theorem lw_p13 : lw_okq (⟨"EchoBench$Square", "prepare", "([DD)Z"⟩, 4) := ⟨⟨by decide +kernel, by decide +kernel⟩, List.mem_of_getElem? (i := 213) (by decide +kernel), List.mem_of_getElem? (i := 385) (by decide +kernel), List.mem_of_getElem? (i := 386) (by decide +kernel)⟩
theorem lw_p14 : lw_okq (⟨"EchoBench$Square", "rowTimes", "(I[D)D"⟩, 4) := ⟨⟨by decide +kernel, by decide +kernel⟩, List.mem_of_getElem? (i := 213) (by decide +kernel), List.mem_of_getElem? (i := 389) (by decide +kernel), List.mem_of_getElem? (i := 390) (by decide +kernel)⟩
theorem lw_p15 : lw_okq (⟨"EchoBench$Square", "share", "(I)D"⟩, 4) := ⟨⟨by decide +kernel, by decide +kernel⟩, List.mem_of_getElem? (i := 213) (by decide +kernel), List.mem_of_getElem? (i := 394) (by decide +kernel), List.mem_of_getElem? (i := 395) (by decide +kernel)⟩
def lw_privs_1 : List (MethodName × Nat) := [(⟨"java/lang/Throwable", "fillInStackTrace", "(I)Ljava/lang/Throwable;"⟩, 6), (⟨"EchoBench$Samples", "tellPath", "(II)I"⟩, 7), (⟨"EchoBench", "numbered", "(I)LEchoBench$Filter;"⟩, 3), (⟨"EchoBench$Filter", "restart", "()V"⟩, 13), (⟨"EchoBench$Square", "restart", "()V"⟩, 4), (⟨"EchoBench", "takeSample", "(II)V"⟩, 3), (⟨"EchoBench$Samples", "take", "(II)V"⟩, 7), (⟨"EchoBench$Samples", "heardWith", "(I)D"⟩, 7), (⟨"EchoBench$Filter", "hear", "([DD)V"⟩, 13), (⟨"EchoBench$Filter", "outputAt", "([D)D"⟩, 13), (⟨"EchoBench$Filter", "holdsAt", "([DD)Z"⟩, 13), (⟨"EchoBench$Filter", "isLoud", "([DD)Z"⟩, 13), (⟨"EchoBench$Filter", "learnBySquare", "(LEchoBench$Square;[D)V"⟩, 13), (⟨"EchoBench$Square", "prepare", "([DD)Z"⟩, 4), (⟨"EchoBench$Square", "rowTimes", "(I[D)D"⟩, 4), (⟨"EchoBench$Square", "share", "(I)D"⟩, 4)]
theorem lw_r1 : ∀ q ∈ lw_privs_1, lw_okq q := List.forall_mem_cons.mpr ⟨lw_p0, List.forall_mem_cons.mpr ⟨lw_p1, List.forall_mem_cons.mpr ⟨lw_p2, List.forall_mem_cons.mpr ⟨lw_p3, List.forall_mem_cons.mpr ⟨lw_p4, List.forall_mem_cons.mpr ⟨lw_p5, List.forall_mem_cons.mpr ⟨lw_p6, List.forall_mem_cons.mpr ⟨lw_p7, List.forall_mem_cons.mpr ⟨lw_p8, List.forall_mem_cons.mpr ⟨lw_p9, List.forall_mem_cons.mpr ⟨lw_p10, List.forall_mem_cons.mpr ⟨lw_p11, List.forall_mem_cons.mpr ⟨lw_p12, List.forall_mem_cons.mpr ⟨lw_p13, List.forall_mem_cons.mpr ⟨lw_p14, List.forall_mem_cons.mpr ⟨lw_p15, fun _ h => absurd h List.not_mem_nil⟩⟩⟩⟩⟩⟩⟩⟩⟩⟩⟩⟩⟩⟩⟩⟩
theorem lw_p16 : lw_okq (⟨"EchoBench$Filter", "add", "(ID)V"⟩, 13) := ⟨⟨by decide +kernel, by decide +kernel⟩, List.mem_of_getElem? (i := 207) (by decide +kernel), List.mem_of_getElem? (i := 399) (by decide +kernel), List.mem_of_getElem? (i := 400) (by decide +kernel)⟩
theorem lw_p17 : lw_okq (⟨"EchoBench$Square", "renew", "(D)Z"⟩, 4) := ⟨⟨by decide +kernel, by decide +kernel⟩, List.mem_of_getElem? (i := 213) (by decide +kernel), List.mem_of_getElem? (i := 407) (by decide +kernel), List.mem_of_getElem? (i := 408) (by decide +kernel)⟩
theorem lw_p18 : lw_okq (⟨"EchoBench$Filter", "learn", "([D)V"⟩, 13) := ⟨⟨by decide +kernel, by decide +kernel⟩, List.mem_of_getElem? (i := 207) (by decide +kernel), List.mem_of_getElem? (i := 412) (by decide +kernel), List.mem_of_getElem? (i := 413) (by decide +kernel)⟩
theorem lw_p19 : lw_okq (⟨"EchoBench$Filter", "normOf", "([D)D"⟩, 13) := ⟨⟨by decide +kernel, by decide +kernel⟩, List.mem_of_getElem? (i := 207) (by decide +kernel), List.mem_of_getElem? (i := 416) (by decide +kernel), List.mem_of_getElem? (i := 417) (by decide +kernel)⟩
theorem lw_p20 : lw_okq (⟨"EchoBench$Filter", "lesson", "(DD)D"⟩, 13) := ⟨⟨by decide +kernel, by decide +kernel⟩, List.mem_of_getElem? (i := 207) (by decide +kernel), List.mem_of_getElem? (i := 420) (by decide +kernel), List.mem_of_getElem? (i := 421) (by decide +kernel)⟩
theorem lw_p21 : lw_okq (⟨"EchoBench$Samples", "offness", "([D)D"⟩, 7) := ⟨⟨by decide +kernel, by decide +kernel⟩, List.mem_of_getElem? (i := 22) (by decide +kernel), List.mem_of_getElem? (i := 449) (by decide +kernel), List.mem_of_getElem? (i := 450) (by decide +kernel)⟩
theorem lw_p22 : lw_okq (⟨"EchoBench$Filter", "power", "()D"⟩, 13) := ⟨⟨by decide +kernel, by decide +kernel⟩, List.mem_of_getElem? (i := 207) (by decide +kernel), List.mem_of_getElem? (i := 453) (by decide +kernel), List.mem_of_getElem? (i := 454) (by decide +kernel)⟩
theorem lw_p23 : lw_okq (⟨"EchoBench$Samples", "batchWeight", "(I)D"⟩, 7) := ⟨⟨by decide +kernel, by decide +kernel⟩, List.mem_of_getElem? (i := 22) (by decide +kernel), List.mem_of_getElem? (i := 467) (by decide +kernel), List.mem_of_getElem? (i := 468) (by decide +kernel)⟩
theorem lw_p24 : lw_okq (⟨"EchoBench$Samples", "sumOfProducts", "([D[D)D"⟩, 7) := ⟨⟨by decide +kernel, by decide +kernel⟩, List.mem_of_getElem? (i := 22) (by decide +kernel), List.mem_of_getElem? (i := 471) (by decide +kernel), List.mem_of_getElem? (i := 472) (by decide +kernel)⟩
theorem lw_p25 : lw_okq (⟨"EchoBench$Square", "number", "(II)D"⟩, 4) := ⟨⟨by decide +kernel, by decide +kernel⟩, List.mem_of_getElem? (i := 213) (by decide +kernel), List.mem_of_getElem? (i := 488) (by decide +kernel), List.mem_of_getElem? (i := 489) (by decide +kernel)⟩
def lw_privs_2 : List (MethodName × Nat) := [(⟨"EchoBench$Filter", "add", "(ID)V"⟩, 13), (⟨"EchoBench$Square", "renew", "(D)Z"⟩, 4), (⟨"EchoBench$Filter", "learn", "([D)V"⟩, 13), (⟨"EchoBench$Filter", "normOf", "([D)D"⟩, 13), (⟨"EchoBench$Filter", "lesson", "(DD)D"⟩, 13), (⟨"EchoBench$Samples", "offness", "([D)D"⟩, 7), (⟨"EchoBench$Filter", "power", "()D"⟩, 13), (⟨"EchoBench$Samples", "batchWeight", "(I)D"⟩, 7), (⟨"EchoBench$Samples", "sumOfProducts", "([D[D)D"⟩, 7), (⟨"EchoBench$Square", "number", "(II)D"⟩, 4)]
theorem lw_r2 : ∀ q ∈ lw_privs_2, lw_okq q := List.forall_mem_cons.mpr ⟨lw_p16, List.forall_mem_cons.mpr ⟨lw_p17, List.forall_mem_cons.mpr ⟨lw_p18, List.forall_mem_cons.mpr ⟨lw_p19, List.forall_mem_cons.mpr ⟨lw_p20, List.forall_mem_cons.mpr ⟨lw_p21, List.forall_mem_cons.mpr ⟨lw_p22, List.forall_mem_cons.mpr ⟨lw_p23, List.forall_mem_cons.mpr ⟨lw_p24, List.forall_mem_cons.mpr ⟨lw_p25, fun _ h => absurd h List.not_mem_nil⟩⟩⟩⟩⟩⟩⟩⟩⟩⟩
def lw_privs : List (MethodName × Nat) := lw_privs_1 ++ (lw_privs_2)
def lw_tbl : List Cond := k2_sels lw_privs ++ tables_1
theorem lw_privs_ok : ∀ q ∈ lw_privs, lw_okq q := by
  show ∀ q ∈ lw_privs_1 ++ (lw_privs_2), lw_okq q
  exact List.forall_mem_append.mpr ⟨lw_r1, lw_r2⟩
/-- the streams that the claim lets the run draw from -/
abbrev lw_cs : List Choice := [Jvm.Choice.named "NaN.bits"]
theorem lw_bits : nanBits ∈ lw_cs := by first | decide | exact List.mem_cons_self | simp [lw_cs, nanBits]
/-- what the tables say of arrays of arrays -/
def va_AOA (ty : FieldType) (U : State) : Prop := (Cond.arrayOver (.array ty)).before #[] U = true
theorem va_AOA.use {ty : FieldType} {A : Array Value} {U : State} (h : va_AOA ty U) : (Cond.arrayOver (.array ty)).before A U = true := h
end
section
/-! ===== BEGIN words of one list among another's, by their places ===== -/
theorem goodIn_r {big : List Cond} (ws : List Cond) (ps : List Nat) (hp : ws = ps.filterMap (fun i => big[i]?)) (h : ws.all goodWord = true) : GoodIn big ws := by
  intro w hw
  have h1 := List.all_eq_true.mp h w hw
  rw [hp] at hw
  obtain ⟨i, -, hi⟩ := List.mem_filterMap.mp hw
  have hm : w ∈ big := by first | exact List.mem_of_getElem? hi | exact List.getElem?_mem hi
  exact ⟨hm, good_of_word h1⟩
theorem goodIn_app {big a b : List Cond} (ha : GoodIn big a) (hb : GoodIn big b) : GoodIn big (a ++ b) := fun w h => (List.mem_append.mp h).elim (ha w) (hb w)
theorem goodIn_ca {big a b : List Cond} {c : Cond} (ha : GoodIn big (c :: a)) (hb : GoodIn big b) : GoodIn big (c :: (a ++ b)) := fun w h => (List.mem_cons.mp h).elim (fun e => ha w (List.mem_cons.mpr (Or.inl e))) (fun h => (List.mem_append.mp h).elim (fun h => ha w (List.mem_cons.mpr (Or.inr h))) (hb w))
theorem goodIn_sub {big ws : List Cond} (hm : ∀ w ∈ ws, w ∈ big) (h : ws.all goodWord = true) : GoodIn big ws := fun w hw => ⟨hm w hw, good_of_word (List.all_eq_true.mp h w hw)⟩
/-! ===== END ===== -/

/-! ===== BEGIN new T[n][m]: the outer array a place, the inner ones among the pooled ===== -/
/-- f, but v at every address of l -/
def vr_up {α : Type} (f : Nat → α) (l : List Nat) (v : α) : Nat → α := fun a => if a ∈ l then v else f a
theorem vr_up_in {α : Type} {f : Nat → α} {l : List Nat} {v : α} {a : Nat} (h : a ∈ l) : vr_up f l v a = v := if_pos h
theorem vr_up_ne {α : Type} {f : Nat → α} {l : List Nat} {v : α} {a : Nat} (h : a ∉ l) : vr_up f l v a = f a := if_neg h
theorem vr_rows {L l : List Nat} {f : Nat → va_E} {e : va_E} (h : ∀ a, a ∈ l → a ∉ L) : va_pl L f ++ l.map (fun a => (a, e)) = va_pl (L ++ l) (vr_up f l e) := by
  unfold va_pl
  rw [List.map_append]
  congr 1
  · apply List.map_congr_left
    intro a ha
    rw [vr_up_ne (fun q => h a q ha)]
  · apply List.map_congr_left
    intro a ha
    rw [vr_up_in ha]
theorem vr_lay {X rows : va_W} {x : Nat × va_E} {pl : va_W} {D : va_G} {cl : List vw_C} {H : Heap} (hP : va_P D cl (((X ++ pl) ++ [x]) ++ rows) H) : va_P D cl ((X ++ [x]) ++ (pl ++ rows)) H := by
  rw [List.append_assoc (X ++ pl)] at hP
  have h := va_P.swap hP
  rw [← List.append_assoc X] at h
  have h2 := va_P.swap h
  rw [List.append_assoc (X ++ [x])] at h2
  exact h2
theorem vr_layD {X rows : va_W} {x : Nat × va_E} {pl : va_W} {A : Nat → Prop} (hD : va_D A (((X ++ pl) ++ [x]) ++ rows)) : va_D A ((X ++ [x]) ++ (pl ++ rows)) := by
  rw [List.append_assoc (X ++ pl)] at hD
  have h := va_D.swap hD
  rw [← List.append_assoc X] at h
  have h2 := va_D.swap h
  rw [List.append_assoc (X ++ [x])] at h2
  exact h2
theorem vr_outer (c : ClassId) (N h0 : Nat) : ∀ i : Nat, Jvm.Free.Multi.outerC c N h0 i = arrV c N (fun j => va_rf (if j < i then some (h0 + 1 + j) else none))
  | 0 => by
    show ({ cls := c, slots := Array.replicate N .null, vm := .none } : Cell) = _
    rw [arrV_new]
    refine congrArg (arrV c N) (funext fun j => ?_)
    simp [va_rf]
  | i + 1 => by
    show (Jvm.Free.Multi.outerC c N h0 i).setSlot i (.ref (h0 + 1 + i)) = _
    rw [vr_outer c N h0 i, arrV_store]
    refine congrArg (arrV c N) (funext fun j => ?_)
    by_cases e : j = i
    · subst e
      simp [updV, va_rf]
    · by_cases h : j < i
      · simp [updV, e, h, Nat.lt_succ_of_lt h]
      · simp [updV, e, h, show ¬ j < i + 1 by omega]
section VGM
variable {p : Program} {l : Launch} {e : Env} {R : Room} {s : State} {m : MethodId} {args : Array Value} {below : List Frame} {meth : Method} {c : Code} {H : Heap} {locs : List Loc} {cells slots : Nat} {Q : State → Prop}
variable {cc : ByteArray} {pc : Nat} {ls : Array Slot} {rest : List Value} {D : va_G} {cl : List vw_C} {A : Nat → Prop} {a : Nat} {tys : List (ClassId × FieldType)} {ws : va_W} {H0 : Heap}
theorem va_mna {X : va_W} {L : List Nat} {f : Nat → va_E} {cc : ByteArray} (hexec : p.tables.exec = Jvm.exec) (hb : c.code = cc) {own : String} {index : Nat} {ty : FieldType} {cy : ClassId} (hown : s.vm.findClass own = some m.cls) (hclink : (Cond.classLink own index ("[" ++ (FieldType.array ty).toString)).before args s = true) (hover : va_AOA ty s) (harr : (Cond.arrayClass ty).before args s = true) (hcy : s.vm.findClass (FieldType.array ty).toString = some cy)
    (hK : va_K D cl tys s) (hP : va_P D cl (X ++ va_pl L f) H) (hD : va_D A (X ++ va_pl L f)) (hS : va_S A H0 H locs) (hA : ∀ q, H0.size ≤ q → A q) {n k : Int32} {N' K' : Nat} {z : vp_A} (hn : ¬ n < 0) (hk : ¬ k < 0) (hN : n.toNatClampNeg = N') (hM : k.toNatClampNeg = K')
    (hb1 : N' * 4 ≤ 536870912) (hb2 : K' * componentBytes ty ≤ 536870912) (hb3 : K' ≤ 536870912) (hdf : fits ty (defaultValue ty) = true) (hdd : (defaultValue ty).isDefault = true) (hcells : cells + (1 + N') ≤ R.cells) (hslots : slots + (N' + N' * K') ≤ R.slots) (hz : ∀ c : ClassId, Jvm.Free.Multi.innerC c K' (defaultValue ty) = vp_cell c z) (hdg : decode cc pc = .ok (.multianewarray index 2, 4))
    (kk : ∀ (q : Nat) (r : Nat → Nat) (cA : ClassId) (H1 : Heap), (∀ i j : Nat, i < N' → j < N' → r i = r j → i = j) → (∀ i : Nat, i < N' → r i ∉ L) → va_K D cl (tys ++ [(cA, .array ty)]) s →
      va_P D cl ((X ++ [(q, .inl (cA, N', .inr (.inr (.inr (.inr (fun i => if i < N' then some (r i) else none))))))]) ++ va_pl (L ++ (List.range N').map r) (vr_up f ((List.range N').map r) (.inl (cy, z)))) H1 → va_D A ((X ++ [(q, .inl (cA, N', .inr (.inr (.inr (.inr (fun i => if i < N' then some (r i) else none))))))]) ++ va_pl (L ++ (List.range N').map r) (vr_up f ((List.range N').map r) (.inl (cy, z)))) → va_S A H0 H1 locs →
      W p l e R s m args below meth c H1 locs (cells + 1 + N') (slots + N' + N' * K') Q (F0 m (pc + 4) ls (.ref q :: rest))) : W p l e R s m args below meth c H locs cells slots Q (F0 m pc ls (.int k :: .int n :: rest)) := by
  subst hN
  subst hM
  intro T hT Xs
  obtain ⟨vm₁, cA, comp, -, fA, fC, hO, -, X', step⟩ := Xs.multianewarray2F hexec hown hclink (va_AOA.use hover) harr (g := F0 m pc ls (.int k :: .int n :: rest)) rfl (by rw [hb]; exact hdg) rfl hn hk hb1 hb2 hb3 hdf hdd hcells hslots
  have ec : some cy = some comp := hcy.symm.trans fC
  cases ec
  generalize hF : Jvm.Free.Multi.fill (T.setVm vm₁) cA cy n.toNatClampNeg k.toNatClampNeg (defaultValue ty) n.toNatClampNeg = F at X' step
  have hTh : (T.setVm vm₁).heap = H := hT
  obtain ⟨f1, f2, -, -⟩ := Jvm.Free.Multi.fill_facts (T.setVm vm₁) cA cy n.toNatClampNeg k.toNatClampNeg (defaultValue ty) n.toNatClampNeg
  rw [hF, hTh] at f1 f2
  have hold : ∀ x : Nat, x < H.size → F.heap[x]? = H[x]? := fun x hx => by
    have := Jvm.Free.Multi.fill_old (T.setVm vm₁) cA cy n.toNatClampNeg k.toNatClampNeg (defaultValue ty) (a := x) (by rw [hTh]; exact hx) n.toNatClampNeg
    rw [hF, hTh] at this
    exact this
  have hrow : ∀ j : Nat, j < n.toNatClampNeg → F.heap[H.size + 1 + j]? = some (vp_cell cy z) := fun j hj => by
    have := Jvm.Free.Multi.fill_inner (T.setVm vm₁) cA cy n.toNatClampNeg k.toNatClampNeg (defaultValue ty) n.toNatClampNeg j hj
    rw [hF, hTh, hz] at this
    exact this
  have hout : Jvm.Free.Multi.outerC cA n.toNatClampNeg H.size n.toNatClampNeg = vp_cell cA (n.toNatClampNeg, .inr (.inr (.inr (.inr (fun i => if i < n.toNatClampNeg then some (H.size + 1 + i) else none))))) := by
    rw [vp_cell_q]
    exact vr_outer cA n.toNatClampNeg H.size n.toNatClampNeg
  rw [hout] at f2
  have hlt : ∀ a, a ∈ L → a < H.size := fun a ha => by
    obtain ⟨k9, hk9⟩ := va_pl_get (X := X) (f := f) ha
    exact (hP k9 _ hk9).lt
  have hnl : ∀ i : Nat, i < n.toNatClampNeg → H.size + 1 + i ∉ L := fun i _ h => by
    have := hlt _ h
    omega
  have hnm : ∀ a, a ∈ (List.range n.toNatClampNeg).map (fun i => H.size + 1 + i) → a ∉ L := fun a ha h => by
    obtain ⟨i, -, rfl⟩ := List.mem_map.mp ha
    have := hlt _ h
    omega
  have hP0 : va_P D cl (X ++ va_pl L f) F.heap := hP.kept (fun k9 x hx => hold x.1 ((hP k9 x hx).lt))
  have hP1 : va_P D cl ((X ++ va_pl L f) ++ [(H.size, .inl (cA, n.toNatClampNeg, .inr (.inr (.inr (.inr (fun i => if i < n.toNatClampNeg then some (H.size + 1 + i) else none))))))]) F.heap := hP0.app (fun k9 x hx => by
    have h0 : k9 < 1 := (List.getElem?_eq_some_iff.mp hx).1
    rw [show k9 = 0 by omega] at hx
    cases hx
    exact f2)
  have hP2 : va_P D cl (((X ++ va_pl L f) ++ [(H.size, .inl (cA, n.toNatClampNeg, .inr (.inr (.inr (.inr (fun i => if i < n.toNatClampNeg then some (H.size + 1 + i) else none))))))]) ++ ((List.range n.toNatClampNeg).map (fun i => H.size + 1 + i)).map (fun a => (a, .inl (cy, z)))) F.heap := hP1.app (fun k9 x hx => by
    obtain ⟨a, ha, rfl⟩ := List.mem_map.mp (List.mem_of_getElem? hx)
    obtain ⟨i, hi, rfl⟩ := List.mem_map.mp ha
    exact hrow i (List.mem_range.mp hi))
  have hD2 : va_D A (((X ++ va_pl L f) ++ [(H.size, .inl (cA, n.toNatClampNeg, .inr (.inr (.inr (.inr (fun i => if i < n.toNatClampNeg then some (H.size + 1 + i) else none))))))]) ++ ((List.range n.toNatClampNeg).map (fun i => H.size + 1 + i)).map (fun a => (a, .inl (cy, z)))) := by
    have hD1 := hD.push (e := .inl (cA, n.toNatClampNeg, .inr (.inr (.inr (.inr (fun i => if i < n.toNatClampNeg then some (H.size + 1 + i) else none)))))) hP rfl (hA _ hS.1)
    generalize hW1 : (X ++ va_pl L f) ++ [(H.size, .inl (cA, n.toNatClampNeg, .inr (.inr (.inr (.inr (fun i => if i < n.toNatClampNeg then some (H.size + 1 + i) else none))))))] = W1 at hD1 hP1 ⊢
    have hle : ∀ (k9 : Nat) (x : Nat × va_E), W1[k9]? = some x → x.1 ≤ H.size := fun k9 x hx => by
      rw [← hW1] at hx
      by_cases hl : k9 < (X ++ va_pl L f).length
      · rw [List.getElem?_append_left hl] at hx
        exact Nat.le_of_lt ((hP k9 x hx).lt)
      · rw [List.getElem?_append_right (by omega)] at hx
        have h0 : k9 - (X ++ va_pl L f).length < 1 := (List.getElem?_eq_some_iff.mp hx).1
        rw [show k9 - (X ++ va_pl L f).length = 0 by omega] at hx
        cases hx
        exact Nat.le_refl _
    have hr : ∀ (k9 : Nat) (x : Nat × va_E), (((List.range n.toNatClampNeg).map (fun i => H.size + 1 + i)).map (fun a => ((a, .inl (cy, z)) : Nat × va_E)))[k9]? = some x → x.1 = H.size + 1 + k9 := fun k9 x hx => by
      rw [List.getElem?_map, List.getElem?_map] at hx
      by_cases h9 : k9 < n.toNatClampNeg
      · rw [List.getElem?_range h9] at hx
        cases hx
        rfl
      · have hn0 : (List.range n.toNatClampNeg)[k9]? = none := List.getElem?_eq_none (by rw [List.length_range]; omega)
        rw [hn0] at hx
        cases hx
    refine ⟨fun i j x y hi hj hxy => ?_, fun k9 x hx => ?_⟩
    · by_cases h1 : i < W1.length <;> by_cases h2 : j < W1.length
      · rw [List.getElem?_append_left h1] at hi
        rw [List.getElem?_append_left h2] at hj
        exact hD1.1 i j x y hi hj hxy
      · rw [List.getElem?_append_left h1] at hi
        rw [List.getElem?_append_right (by omega)] at hj
        have := hle _ _ hi
        have := hr _ _ hj
        omega
      · rw [List.getElem?_append_right (by omega)] at hi
        rw [List.getElem?_append_left h2] at hj
        have := hle _ _ hj
        have := hr _ _ hi
        omega
      · rw [List.getElem?_append_right (by omega)] at hi hj
        have := hr _ _ hi
        have := hr _ _ hj
        omega
    · by_cases h1 : k9 < W1.length
      · rw [List.getElem?_append_left h1] at hx
        exact hD1.2 k9 x hx
      · rw [List.getElem?_append_right (by omega)] at hx
        have := hr _ _ hx
        exact hA _ (by have := hS.1; omega)
  have hAr : ArrOfT s cA (.array ty) := fun N9 z9 => by
    obtain ⟨-, k9, hk9, cm9, hkk9⟩ := (hO 0 0 0).1
    exact ⟨(fun q hq => by cases hq), k9, hk9, cm9, hkk9⟩
  have hK2 : va_K D cl (tys ++ [(cA, .array ty)]) s := ⟨hK.1, fun k9 x hx => by
    by_cases hl : k9 < tys.length
    · rw [List.getElem?_append_left hl] at hx
      exact hK.2 k9 x hx
    · rw [List.getElem?_append_right (by omega)] at hx
      have h0 : k9 - tys.length < 1 := (List.getElem?_eq_some_iff.mp hx).1
      rw [show k9 - tys.length = 0 by omega] at hx
      cases hx
      exact ⟨hAr, fA⟩⟩
  obtain ⟨t, a1, b1⟩ := kk H.size (fun i => H.size + 1 + i) cA F.heap (fun i j _ _ h => by have h9 : H.size + 1 + i = H.size + 1 + j := h; omega) hnl hK2 (by rw [← vr_rows hnm]; exact vr_lay hP2) (by rw [← vr_rows hnm]; exact vr_layD hD2) ⟨by rw [f1]; have := hS.1; omega, fun x h1 h2 => (hold x (Nat.lt_of_lt_of_le h1 hS.1)).trans (hS.2.1 x h1 h2), hS.2.2⟩ F rfl X'
  refine ⟨t, step t ?_, b1⟩
  have e : T.heap.size = H.size := by rw [hT]
  rw [e]
  exact a1
end VGM
/-! ===== END ===== -/

/-! ===== BEGIN exceptions that leave a method, and their catching by the caller (launches without stack traces) ===== -/
section VXA
/-! The laws vx_back, vx_callV, vx_callS, vx_callSW, vx_throw0, vx_throwS follow proofs of the library, with one case more: JvmDerived/Free/Laws.lean (Back.of_free), Shelf42/LK1.lean (callV, callS), Shelf/KitTraced.lean (throwNew0V, throwNewS). -/
/-- where a method has thrown q: the class by its name, the cell, what was written, the world -/
def vx_T (XC : String → State → State → Prop) (st : State) (q : Addr) (t : State) (mc ms : Nat) (free : Addr → Prop) : Prop :=
  ∃ (E : String) (ce : Cell) (L : List Loc), XC E st t ∧ t.heap[q]? = some ce ∧ ce.vm = .none ∧ st.vm.findClass E = some ce.cls ∧ st.WarmedH t.vm ∧ st.sameButNew ({ t with vm := st.vm } : State) L mc ms ∧ ∀ z ∈ L, free z.base
def vx_Q (Qc : Array Value → State → Outcome → State → Prop) (XC : String → State → State → Prop) (mc ms : Nat) (free : Addr → Prop) : Array Value → State → Outcome → State → Prop := fun a st o t =>
  (Qc a st o t ∧ ∃ L, FrameEnd st o t L mc ms ∧ ∀ q ∈ L, free q.base) ∨ ∃ q, o = .threw q ∧ vx_T XC st q t mc ms free
/-- a callee that returns or throws -/
def vx_Met (l : Launch) (y : MethodName) (ws : List Cond) (rm : Room) (Pc : Array Value → State → Prop) (Qc : Array Value → State → Outcome → State → Prop) (XC : String → State → State → Prop) (mc ms : Nat) (free : Addr → Prop) : Prop :=
  MetFree l y (headSpec ws rm) Pc (fun _ _ _ _ _ => True) (vx_Q Qc XC mc ms free)
def vx_Post (XC : String → State → State → Prop) (mc ms : Nat) (free : Addr → Prop) : Pt → Array Value → Addr → Pt → Prop := fun A a q B =>
  ∃ (g : JFrame) (mk : MethodId) (t : State) (L : List Loc) (E : String) (ce : Cell), B.U.heap = t.heap ∧ B.U.vm = t.vm ∧ XC E (A.U.calling g mk a) t ∧ t.heap[q]? = some ce ∧ ce.vm = .none ∧ A.U.vm.findClass E = some ce.cls ∧ B.locs = A.locs ++ L ∧ (∀ z ∈ L, free z.base) ∧ B.cells = A.cells + mc ∧ B.slots = A.slots + ms
def vx_Back (l : Launch) (R : Room) (p : Program) (e : Env) (below : List Frame) (s : State) (sargs : Array Value) (y : MethodName) (len W9 : Nat)
    (Pre : Pt → Array Value → Prop) (Post : Pt → Array Value → Option Value → Pt → Prop) (PostX : Pt → Array Value → Addr → Pt → Prop) : Prop :=
  ∀ (m : MethodId) (meth : Method) (c : Code) (A : Pt) (g : JFrame) (ig : Instr) (mk : MethodId) (a : Array Value),
    Stand p l e R s m sargs below meth c A.U A.locs A.cells A.slots → g.method = m → g.locals.size = c.maxLocals → decode c.code g.pc = .ok (ig, len) →
    2 * g.monitorRoom + (g.stack.map fun v => v.category).sum ≤ W9 → A.U.methodNamed? y = some mk → Pre A a →
    (∃ (v : Option Value) (B : Pt), Stand p l e R s m sargs below meth c B.U B.locs B.cells B.slots ∧ Post A a v B ∧
      Steps p.tables e below (doInvoke e (A.U.setTop g) [] mk a).1 (B.U.setTop { g with pc := g.pc + len, stack := v.toList ++ g.stack })) ∨
    (∃ (q : Addr) (B : Pt), Stand p l e R s m sargs below meth c B.U B.locs B.cells B.slots ∧ PostX A a q B ∧
      Steps p.tables e below (doInvoke e (A.U.setTop g) [] mk a).1 ((B.U.setTop g).pushFrame (.throwing q)))
section Payer
variable {l : Launch} {R : Room} {p : Program} {e : Env} {below : List Frame} {s : State} {sargs : Array Value} {y : MethodName} {len W9 : Nat}
theorem vx_back {ws : List Cond} {rm : Room} {Pc : Array Value → State → Prop} {Qc : Array Value → State → Outcome → State → Prop} {XC : String → State → State → Prop} {mc ms : Nat} {free : Addr → Prop} {bytes : ByteArray} {maxL : Nat} {ret : Option FieldType}
    (hM : vx_Met l y ws rm Pc Qc XC mc ms free) (hblind : FrameBlind Pc) (hrc : rm.cells = mc) (hrs : rm.slots = ms)
    (hframes : rm.frames + 1 ≤ R.frames) (hlocals : W9 + (maxL + 11) + rm.locals ≤ R.locals)
    (hws : ∀ w ∈ ws, ∀ a' U, s.WarmedH U.vm → w.before a' U = true) (hcode : Cond.code y bytes maxL ret ∈ ws) (hinit : ∀ a' U, s.WarmedH U.vm → (Cond.initialized y.cls).before a' U = true) :
    vx_Back l R p e below s sargs y len W9 (PreOf R mc ms Pc) (PostOf Qc mc ms free) (vx_Post XC mc ms free) := by
  intro m meth c A g ig mk a X hg hsize hdg hW hn hp
  have h1 : (headSpec ws rm).pre.before a A.U = true := atoms_intro fun w hw => hws w hw _ _ X.warmed
  have h2 : (Cond.code y bytes maxL ret).before a A.U = true := hws _ hcode _ _ X.warmed
  have h3 : (Cond.initialized y.cls).before a A.U = true := hinit _ _ X.warmed
  have h4 : A.cells + (headSpec ws rm).room.cells ≤ R.cells := by rw [show (headSpec ws rm).room.cells = mc from hrc]; exact hp.1
  have h5 : A.slots + (headSpec ws rm).room.slots ≤ R.slots := by rw [show (headSpec ws rm).room.slots = ms from hrs]; exact hp.2.1
  have hPc : Pc a (A.U.calling g mk a) := hblind _ _ _ _ hp.2.2
  obtain ⟨U, Ls, c0, s0⟩ := A
  dsimp only [Pt.U, Pt.locs, Pt.cells, Pt.slots] at h1 h2 h3 h4 h5 X hn hPc ⊢
  obtain ⟨methY, cY, hmY, hcY, -, hlY, -, -, -, -⟩ := Cond.code_spec hn h2
  obtain ⟨kY, hkY, -⟩ := className_of_methodNamed hn
  have hinitY : kY.init = .initialized := Cond.initialized_spec (findClass_of_methodNamed hn) hkY h3
  have h : At U g.method c below := by rw [hg]; exact X.here
  have hlocals9 : W9 + (maxL + 11) + (headSpec ws rm).room.locals ≤ R.locals := hlocals
  have happ : (headSpec ws rm).appliesLoose y e.platform (U.calling g mk a) = true :=
    Spec.appliesLoose_calling (g := g) h hdg hn hkY hinitY
      (X.room_calling (g := g) (R' := (headSpec ws rm).room) hsize hmY hcY hframes (by rw [hlY]; omega) h4 h5) h1
  obtain ⟨mid, hmid⟩ := h.above
  have hfr : (U.setTop g).frames = (.java g :: mid) ++ below := by rw [State.frames_setTop' g h.top, hmid]; rfl
  obtain ⟨o, s₂, hsteps, -, hend, hq⟩ := Steps.callFree hM p X.admits X.cas X.clock (acts := []) hfr happ hPc trivial
  have hq' : vx_Q Qc XC mc ms free a (U.calling g mk a) o s₂ := hq
  rw [State.frames_setTop' g h.top] at hend
  obtain ⟨g₀, hg0⟩ := Option.isSome_iff_exists.mp h.top
  obtain ⟨r, hr⟩ := State.topJava?_eq_some.mp hg0
  have hr' : (({ U with heap := s₂.heap, slotsUsed := s₂.slotsUsed } : State).setVm s₂.vm).frames = .java g₀ :: r := hr
  rcases hq' with ⟨hqc, L, hfe, hL⟩ | ⟨q, rfl, E, ce, L, hx, hce, hcv, hcl, hW₂, hsm, hL⟩
  · obtain ⟨⟨v, rfl⟩, hW₂, e2, q2, q3, q4, q5, q6⟩ := id hfe
    have e3 : s₂ = ({ (U.calling g mk a).setFrames s₂.frames with heap := s₂.heap, slotsUsed := s₂.slotsUsed } : State).setVm s₂.vm := by
      have : s₂ = ({ s₂ with vm := (U.calling g mk a).vm } : State).setVm s₂.vm := rfl
      rw [e2] at this
      exact this
    obtain ⟨c₂, i₂, len₂, hc₂, hd₂, hf₂⟩ := hend
    have hW' : U.WarmedH s₂.vm := hW₂
    have hcc : c₂ = c := by
      have h1 : s₂.code? g.method = U.code? g.method := by
        rw [State.code?_eq, State.code?_eq, hW'.alike.method?]
      exact Option.some.inj (hc₂.symm.trans (h1.trans h.code))
    subst hcc
    have hlen : len₂ = len := by rw [hdg] at hd₂; cases hd₂; rfl
    subst hlen
    have hs₂ : s₂ = (({ U with heap := s₂.heap, slotsUsed := s₂.slotsUsed } : State).setVm s₂.vm).setTop { g with pc := g.pc + len₂, stack := v.toList ++ g.stack } := by
      refine e3.trans ?_
      rw [hf₂, State.calling_eq h.top, State.setFrames_setFrames, State.setTop_of_frames _ hr', hr]
      rfl
    have hsame : U.sameButNew ({ U with heap := s₂.heap, slotsUsed := s₂.slotsUsed } : State) L mc ms := by
      refine ⟨?_, q2, q3, q4, q5, q6⟩
      obtain ⟨t, ht, -⟩ := State.frames_cons hr
      show ({ U with heap := s₂.heap, slotsUsed := s₂.slotsUsed } : State) = { U.setFrames U.frames with heap := s₂.heap, slotsUsed := s₂.slotsUsed }
      rw [State.setFrames_self ht]
    subst hg
    refine Or.inl ⟨v, ⟨(({ U with heap := s₂.heap, slotsUsed := s₂.slotsUsed } : State).setVm s₂.vm), Ls ++ L, c0 + mc, s0 + ms⟩,
      ⟨X.admits, X.cas, X.clock, X.frames, X.room, X.hears, X.method, X.code, (X.here.setHeapUsed s₂.heap s₂.slotsUsed).setVm hW'.alike, X.tail, State.WarmedH.trans X.warmed hW', X.limits, X.bytes, X.same.trans (hsame.setVm s.vm)⟩,
      ⟨g, mk, s₂, L, rfl, rfl, hqc, rfl, hL, rfl, rfl⟩, ?_⟩
    show Steps p.tables e below _ ((({ U with heap := s₂.heap, slotsUsed := s₂.slotsUsed } : State).setVm s₂.vm).setTop { g with pc := g.pc + len₂, stack := v.toList ++ g.stack })
    rw [← hs₂]
    exact hsteps
  · obtain ⟨e2, q2, q3, q4, q5, q6⟩ := id hsm
    have e3 : s₂ = ({ (U.calling g mk a).setFrames s₂.frames with heap := s₂.heap, slotsUsed := s₂.slotsUsed } : State).setVm s₂.vm := by
      have : s₂ = ({ s₂ with vm := (U.calling g mk a).vm } : State).setVm s₂.vm := rfl
      rw [e2] at this
      exact this
    have hf₂ : s₂.frames = .throwing q :: .java g :: U.frames.tail := hend
    have hW' : U.WarmedH s₂.vm := hW₂
    have hs₂ : s₂ = ((({ U with heap := s₂.heap, slotsUsed := s₂.slotsUsed } : State).setVm s₂.vm).setTop g).pushFrame (.throwing q) := by
      refine e3.trans ?_
      rw [hf₂, State.calling_eq h.top, State.setFrames_setFrames, State.pushFrame, State.frames_setTop _ hr', State.setTop_of_frames _ hr', State.setFrames_setFrames, hr]
      rfl
    have hsame : U.sameButNew ({ U with heap := s₂.heap, slotsUsed := s₂.slotsUsed } : State) L mc ms := by
      refine ⟨?_, q2, q3, q4, q5, q6⟩
      obtain ⟨t, ht, -⟩ := State.frames_cons hr
      show ({ U with heap := s₂.heap, slotsUsed := s₂.slotsUsed } : State) = { U.setFrames U.frames with heap := s₂.heap, slotsUsed := s₂.slotsUsed }
      rw [State.setFrames_self ht]
    subst hg
    refine Or.inr ⟨q, ⟨(({ U with heap := s₂.heap, slotsUsed := s₂.slotsUsed } : State).setVm s₂.vm), Ls ++ L, c0 + mc, s0 + ms⟩,
      ⟨X.admits, X.cas, X.clock, X.frames, X.room, X.hears, X.method, X.code, (X.here.setHeapUsed s₂.heap s₂.slotsUsed).setVm hW'.alike, X.tail, State.WarmedH.trans X.warmed hW', X.limits, X.bytes, X.same.trans (hsame.setVm s.vm)⟩,
      ⟨g, mk, s₂, L, E, ce, rfl, rfl, hx, hce, hcv, hcl, rfl, hL, rfl, rfl⟩, ?_⟩
    show Steps p.tables e below _ (((({ U with heap := s₂.heap, slotsUsed := s₂.slotsUsed } : State).setVm s₂.vm).setTop g).pushFrame (.throwing q))
    rw [← hs₂]
    exact hsteps
end Payer
section Calls
variable {p : Program} {l : Launch} {e : Env} {R : Room} {s : State} {m : MethodId} {args : Array Value} {below : List Frame} {meth : Method} {c : Code} {T : State} {locs : List Loc} {cells slots : Nat}
theorem vx_callV (X : Stand p l e R s m args below meth c T locs cells slots) (hexec : p.tables.exec = Jvm.exec) {own C : String} {index : Nat} {y : MethodName} {bytes : ByteArray} {maxL : Nat} {ret : Option FieldType}
    (hown : s.vm.findClass own = some m.cls) (hlink : (Cond.methodLink own index y).before args s = true) (hinst : (Cond.instanceMethod y).before args s = true) (hsel : (Cond.selects C y y).before args s = true)
    (hcode : (Cond.code y bytes maxL ret).before args s = true) (hy : y.cls ≠ "java/lang/invoke/MethodHandle" ∧ y.cls ≠ "java/lang/invoke/VarHandle")
    {W9 : Nat} {Pre : Pt → Array Value → Prop} {Post : Pt → Array Value → Option Value → Pt → Prop} {PostX : Pt → Array Value → Addr → Pt → Prop} (hK : vx_Back l R p e below s args y 3 W9 Pre Post PostX)
    {b : Addr} {cellB : Cell} (hcell : T.heap[b]? = some cellB) (hobj : cellB.vm.isStatics = false) (hcls : s.vm.findClass C = some cellB.cls)
    {g : JFrame} (hg : g.method = m) (hsize : g.locals.size = c.maxLocals) {argsL rest : List Value} (hlen : ∀ sig, parseMethodDescriptor y.desc = some sig → argsL.length = sig.parameters.length)
    (hstack : g.stack = argsL.reverse ++ .ref b :: rest) (hW : 2 * g.monitorRoom + (rest.map fun v => v.category).sum ≤ W9) (hdg : decode c.code g.pc = .ok (.invokevirtual index, 3))
    (hpre : ∀ vm₁, s.WarmedH vm₁ → Pre ⟨T.setVm vm₁, locs, cells, slots⟩ (Value.ref b :: argsL).toArray) :
    (∃ (v : Option Value) (vm₁ : Vm) (B : Pt), s.WarmedH vm₁ ∧ Stand p l e R s m args below meth c B.U B.locs B.cells B.slots ∧ Post ⟨T.setVm vm₁, locs, cells, slots⟩ (Value.ref b :: argsL).toArray v B ∧
      ∀ target, Steps p.tables e below (B.U.setTop { g with pc := g.pc + 3, stack := v.toList ++ rest }) target → Steps p.tables e below (T.setTop g) target) ∨
    (∃ (q : Addr) (vm₁ : Vm) (B : Pt), s.WarmedH vm₁ ∧ Stand p l e R s m args below meth c B.U B.locs B.cells B.slots ∧ PostX ⟨T.setVm vm₁, locs, cells, slots⟩ (Value.ref b :: argsL).toArray q B ∧
      Steps p.tables e below (T.setTop g) ((B.U.setTop { g with stack := rest }).pushFrame (.throwing q))) := by
  obtain ⟨mk, methM, hnamed, hmethM, hstM, habM⟩ := Cond.instanceMethod_spec hinst
  obtain ⟨methM', cM, hmethM', -, -, -, -, -, -, hsigM⟩ := Cond.code_spec hnamed hcode
  cases hmethM.symm.trans hmethM'
  obtain ⟨c2, r2, m2, q1, q2, q3, q4, kP, hkP, hkPi⟩ := Cond.selects_spec hsel
  cases hcls.symm.trans q1
  cases (State.methodFound?_of_named hnamed hy).symm.trans q2
  cases hnamed.symm.trans q3
  have hselP : selectMethod e.platform s.vm cellB.cls mk = .method mk := by rw [Launch.admits_selectMethod X.admits]; exact q4
  obtain ⟨vm₁, X₁, hstep₁⟩ := X.invokevirtual hexec hown hlink hnamed hmethM hstM hkP hkPi hy (a := b) (cell := cellB) hcell
    (fun z h => by rw [h] at hobj; cases hobj) hselP hmethM habM hkP hkPi (g := g) hg (argsL := argsL) (rest := rest) (hlen _ hsigM) hstack hdg
  rcases hK m meth c ⟨T.setVm vm₁, locs, cells, slots⟩ { g with stack := rest } (.invokevirtual index) mk (Value.ref b :: argsL).toArray X₁ hg hsize hdg hW (X₁.named hnamed) (hpre vm₁ X₁.warmed) with ⟨v, B, X', hpost, hsteps⟩ | ⟨q, B, X', hpost, hsteps⟩
  · exact Or.inl ⟨v, vm₁, B, X₁.warmed, X', hpost, fun target h => hstep₁ _ fun acts => by rw [doInvoke_state]; exact hsteps.trans h⟩
  · exact Or.inr ⟨q, vm₁, B, X₁.warmed, X', hpost, hstep₁ _ fun acts => by rw [doInvoke_state]; exact hsteps⟩
theorem vx_callS (X : Stand p l e R s m args below meth c T locs cells slots) (hexec : p.tables.exec = Jvm.exec) {own : String} {index : Nat} {y : MethodName} {bytes : ByteArray} {maxL : Nat} {ret : Option FieldType}
    (hown : s.vm.findClass own = some m.cls) (hlink : (Cond.methodLink own index y).before args s = true) (hstat : (Cond.static y).before args s = true) (hinit : (Cond.initialized y.cls).before args s = true)
    (hcode : (Cond.code y bytes maxL ret).before args s = true) (hy : y.cls ≠ "java/lang/invoke/MethodHandle" ∧ y.cls ≠ "java/lang/invoke/VarHandle")
    {W9 : Nat} {Pre : Pt → Array Value → Prop} {Post : Pt → Array Value → Option Value → Pt → Prop} {PostX : Pt → Array Value → Addr → Pt → Prop} (hK : vx_Back l R p e below s args y 3 W9 Pre Post PostX)
    {g : JFrame} (hg : g.method = m) (hsize : g.locals.size = c.maxLocals) {argsL rest : List Value} (hlen : ∀ sig, parseMethodDescriptor y.desc = some sig → argsL.length = sig.parameters.length)
    (hstack : g.stack = argsL.reverse ++ rest) (hW : 2 * g.monitorRoom + (rest.map fun v => v.category).sum ≤ W9) (hdg : decode c.code g.pc = .ok (.invokestatic index, 3))
    (hpre : ∀ vm₁, s.WarmedH vm₁ → Pre ⟨T.setVm vm₁, locs, cells, slots⟩ argsL.toArray) :
    (∃ (v : Option Value) (vm₁ : Vm) (B : Pt), s.WarmedH vm₁ ∧ Stand p l e R s m args below meth c B.U B.locs B.cells B.slots ∧ Post ⟨T.setVm vm₁, locs, cells, slots⟩ argsL.toArray v B ∧
      ∀ target, Steps p.tables e below (B.U.setTop { g with pc := g.pc + 3, stack := v.toList ++ rest }) target → Steps p.tables e below (T.setTop g) target) ∨
    (∃ (q : Addr) (vm₁ : Vm) (B : Pt), s.WarmedH vm₁ ∧ Stand p l e R s m args below meth c B.U B.locs B.cells B.slots ∧ PostX ⟨T.setVm vm₁, locs, cells, slots⟩ argsL.toArray q B ∧
      Steps p.tables e below (T.setTop g) ((B.U.setTop { g with stack := rest }).pushFrame (.throwing q))) := by
  obtain ⟨mk, hnamed⟩ := Cond.code_named hcode
  obtain ⟨methM, cM, hmethM, -, -, -, -, -, -, hsigM⟩ := Cond.code_spec hnamed hcode
  have hstatic : methM.isStatic = true := Cond.static_spec hnamed hmethM hstat
  obtain ⟨kP, hkP, -⟩ := className_of_methodNamed hnamed
  have hinitP : kP.init = .initialized := Cond.initialized_spec (findClass_of_methodNamed hnamed) hkP hinit
  obtain ⟨vm₁, X₁, hstep₁⟩ := X.invokestatic hexec hown hlink hnamed hmethM hstatic hkP hinitP hy (g := g) hg (argsL := argsL) (rest := rest) (hlen _ hsigM) hstack hdg
  rcases hK m meth c ⟨T.setVm vm₁, locs, cells, slots⟩ { g with stack := rest } (.invokestatic index) mk argsL.toArray X₁ hg hsize hdg hW (X₁.named hnamed) (hpre vm₁ X₁.warmed) with ⟨v, B, X', hpost, hsteps⟩ | ⟨q, B, X', hpost, hsteps⟩
  · exact Or.inl ⟨v, vm₁, B, X₁.warmed, X', hpost, fun target h => hstep₁ _ fun acts => by rw [doInvoke_state]; exact hsteps.trans h⟩
  · exact Or.inr ⟨q, vm₁, B, X₁.warmed, X', hpost, hstep₁ _ fun acts => by rw [doInvoke_state]; exact hsteps⟩
end Calls
theorem vx_cls {s : State} {T : State} {vm₁ : Vm} {E : String} {k : ClassId} (hW : s.WarmedH vm₁) (h : (T.setVm vm₁).vm.findClass E = some k) : s.vm.findClass E = some k := by
  have h1 : vm₁.findClass E = some k := h
  rw [hW.alike.findClass] at h1
  exact h1
/-- the method's frame g, with q thrown over it -/
def vx_W (p : Program) (l : Launch) (e : Env) (R : Room) (s : State) (m : MethodId) (args : Array Value) (below : List Frame) (meth : Method) (c : Code) (H : Heap) (locs : List Loc) (cells slots : Nat) (Q : State → Prop) (g : JFrame) (q : Addr) : Prop :=
  ∀ T : State, T.heap = H → Stand p l e R s m args below meth c T locs cells slots → ∃ t, Steps p.tables e below ((T.setTop g).pushFrame (.throwing q)) t ∧ Q t
def vx_Run (p : Program) (l : Launch) (e : Env) (R : Room) (s : State) (m : MethodId) (args : Array Value) (below : List Frame) (meth : Method) (c : Code) (H : Heap) (locs : List Loc) (cells slots mc ms : Nat) (g : JFrame) (rest : List Value) (Qa : State → Outcome → State → Prop) (XC : String → State → State → Prop) (free : Addr → Prop) : Prop :=
  ∀ T : State, T.heap = H → Stand p l e R s m args below meth c T locs cells slots →
    (∃ (v : Option Value) (st₀ t T' : State) (L : List Loc), st₀.heap = H ∧ Stand p l e R s m args below meth c T' (locs ++ L) (cells + mc) (slots + ms) ∧ (∀ q ∈ L, free q.base) ∧ T'.heap = t.heap ∧ T'.vm = t.vm ∧ Qa st₀ (.returned v) t ∧
      Goes p e below T g T' { g with pc := g.pc + 3, stack := v.toList ++ rest }) ∨
    (∃ (q : Addr) (st₀ t T' : State) (L : List Loc) (E : String) (ce : Cell), st₀.heap = H ∧ Stand p l e R s m args below meth c T' (locs ++ L) (cells + mc) (slots + ms) ∧ (∀ z ∈ L, free z.base) ∧ T'.heap = t.heap ∧ T'.vm = t.vm ∧ XC E st₀ t ∧ t.heap[q]? = some ce ∧ ce.vm = .none ∧ s.vm.findClass E = some ce.cls ∧
      Steps p.tables e below (T.setTop g) ((T'.setTop { g with stack := rest }).pushFrame (.throwing q)))
def vx_X {S : Type} (px : S → Prop) (B : String → S → State → Prop) (A : Nat → Prop) : String → State → State → Prop := fun E st t => ∃ u : S, px u ∧ B E u t ∧ va_F A st t
section Runs
variable {p : Program} {l : Launch} {e : Env} {R : Room} {s : State} {m : MethodId} {args : Array Value} {below : List Frame} {meth : Method} {c : Code} {H : Heap} {locs : List Loc} {cells slots : Nat}
variable {y : MethodName} {bytes cc : ByteArray} {maxL nL mc ms n index : Nat} {ret : Option FieldType} {ws : List Cond} {rm : Room} {Pc : Array Value → State → Prop} {Qc : Array Value → State → Outcome → State → Prop} {XC : String → State → State → Prop} {free : Addr → Prop} {Ts : List Cond} {own C : String} {b : Addr} {As rest : List Value} {g : JFrame}
theorem vx_callBack (cb : CallB R s args own index y bytes maxL ret ws rm mc ms n) (hM : vx_Met l y ws rm Pc Qc XC mc ms free) (hbl : FrameBlind Pc) : vx_Back l R p e below s args y 3 8 (PreOf R mc ms Pc) (PostOf Qc mc ms free) (vx_Post XC mc ms free) := by
  obtain ⟨hrc, hrs, hfr, hlo, hws, hcw, -, hini, -⟩ := cb
  exact vx_back (bytes := bytes) (maxL := maxL) (ret := ret) hM hbl hrc hrs hfr hlo hws hcw (fun a' U hW => word_at hW (Or.inl (by first | rfl | simp [Cond.onTables, Cond.keeps, Cond.steady])) hini)
theorem vx_runV (S : CallFix p m c cc nL s args Ts own) (hM : vx_Met l y ws rm Pc Qc XC mc ms free) (cw : CallW R s args own C index y bytes maxL ret ws rm mc ms n) (hp : PreV s H C b Pc As)
    (hg : g.method = m) (hn : As.length = n) (hsize : g.locals.size = nL) (hstack : g.stack = As.reverse ++ .ref b :: rest) (hW : 2 * g.monitorRoom + (rest.map fun v => v.category).sum ≤ 8) (hdg : decode cc g.pc = .ok (.invokevirtual index, 3)) (hf : cells + mc ≤ R.cells ∧ slots + ms ≤ R.slots) :
    vx_Run p l e R s m args below meth c H locs cells slots mc ms g rest (Qc (Value.ref b :: As).toArray) XC free := by
  have hK : vx_Back l R p e below s args y 3 8 (PreOf R mc ms Pc) (PostOf Qc mc ms free) (vx_Post XC mc ms free) := vx_callBack cw.1 hM hp.1
  obtain ⟨⟨-, -, -, -, -, -, hcode, -, hy, hlen, hl⟩, hin, hse⟩ := cw
  obtain ⟨hx, hb, hml, ho, -⟩ := S
  obtain ⟨-, ⟨cellB, hcB, hoB, hclB⟩, hPc⟩ := hp
  intro T hT X
  rcases vx_callV X hx (C := C) (bytes := bytes) (maxL := maxL) (ret := ret) ho hl hin hse hcode hy hK (by rw [hT]; exact hcB) hoB hclB hg (hsize.trans hml.symm) (argsL := As) (rest := rest) (fun sig h => hn.trans (hlen sig h)) hstack hW (by rw [hb]; exact hdg)
    (fun vm₁ hW₁ => ⟨hf.1, hf.2, hPc (T.setVm vm₁) hT hW₁⟩) with ⟨v, vm₁, ⟨U', l2, c2, s2⟩, hW₁, X', ⟨g', mk, t, L, e1, e2, hq, h1, hL, h2, h3⟩, st⟩ | ⟨q, vm₁, ⟨U', l2, c2, s2⟩, hW₁, X', ⟨g', mk, t, L, E, ce, e1, e2, hq, hce, hcv, hcl, h1, hL, h2, h3⟩, st⟩
  · dsimp only [Pt.U, Pt.locs, Pt.cells, Pt.slots] at X' e1 e2 h1 h2 h3 st
    subst h1; subst h2; subst h3
    exact Or.inl ⟨v, (T.setVm vm₁).calling g' mk (Value.ref b :: As).toArray, t, U', L, hT, X', hL, e1, e2, hq, st⟩
  · dsimp only [Pt.U, Pt.locs, Pt.cells, Pt.slots] at X' e1 e2 h1 h2 h3 st hcl
    subst h1; subst h2; subst h3
    exact Or.inr ⟨q, (T.setVm vm₁).calling g' mk (Value.ref b :: As).toArray, t, U', L, E, ce, hT, X', hL, e1, e2, hq, hce, hcv, vx_cls hW₁ hcl, st⟩
theorem vx_runS (S : CallFix p m c cc nL s args Ts own) (hM : vx_Met l y ws rm Pc Qc XC mc ms free) (cw : CallB R s args own index y bytes maxL ret ws rm mc ms n ∧ (Cond.static y).before args s = true) (hp : PreS s H Pc As)
    (hg : g.method = m) (hn : As.length = n) (hsize : g.locals.size = nL) (hstack : g.stack = As.reverse ++ rest) (hW : 2 * g.monitorRoom + (rest.map fun v => v.category).sum ≤ 8) (hdg : decode cc g.pc = .ok (.invokestatic index, 3)) (hf : cells + mc ≤ R.cells ∧ slots + ms ≤ R.slots) :
    vx_Run p l e R s m args below meth c H locs cells slots mc ms g rest (Qc As.toArray) XC free := by
  have hK : vx_Back l R p e below s args y 3 8 (PreOf R mc ms Pc) (PostOf Qc mc ms free) (vx_Post XC mc ms free) := vx_callBack cw.1 hM hp.1
  obtain ⟨⟨-, -, -, -, -, -, hcode, hini, hy, hlen, hl⟩, hstt⟩ := cw
  obtain ⟨hx, hb, hml, ho, -⟩ := S
  intro T hT X
  rcases vx_callS X hx (bytes := bytes) (maxL := maxL) (ret := ret) ho hl hstt hini hcode hy hK hg (hsize.trans hml.symm) (argsL := As) (rest := rest) (fun sig h => hn.trans (hlen sig h)) hstack hW (by rw [hb]; exact hdg)
    (fun vm₁ hW₁ => ⟨hf.1, hf.2, hp.2 (T.setVm vm₁) hT hW₁⟩) with ⟨v, vm₁, ⟨U', l2, c2, s2⟩, hW₁, X', ⟨g', mk, t, L, e1, e2, hq, h1, hL, h2, h3⟩, st⟩ | ⟨q, vm₁, ⟨U', l2, c2, s2⟩, hW₁, X', ⟨g', mk, t, L, E, ce, e1, e2, hq, hce, hcv, hcl, h1, hL, h2, h3⟩, st⟩
  · dsimp only [Pt.U, Pt.locs, Pt.cells, Pt.slots] at X' e1 e2 h1 h2 h3 st
    subst h1; subst h2; subst h3
    exact Or.inl ⟨v, (T.setVm vm₁).calling g' mk As.toArray, t, U', L, hT, X', hL, e1, e2, hq, st⟩
  · dsimp only [Pt.U, Pt.locs, Pt.cells, Pt.slots] at X' e1 e2 h1 h2 h3 st hcl
    subst h1; subst h2; subst h3
    exact Or.inr ⟨q, (T.setVm vm₁).calling g' mk As.toArray, t, U', L, E, ce, hT, X', hL, e1, e2, hq, hce, hcv, vx_cls hW₁ hcl, st⟩
end Runs
section Rows
variable {p : Program} {l : Launch} {e : Env} {R : Room} {s : State} {m : MethodId} {args : Array Value} {below : List Frame} {meth : Method} {c : Code} {H : Heap} {locs : List Loc} {cells slots : Nat} {Q : State → Prop}
variable {mc ms : Nat} {free : Addr → Prop} {A0 A1 : Nat → Prop} {H0 : Heap} {a : Array Value} {pc : Nat} {ls : Array Slot} {st0 rest : List Value}
theorem vx_keep {st₀ t T' : State} {L : List Loc} (h0 : st₀.heap = H) (e1 : T'.heap = t.heap) (hS : va_S A0 H0 H locs) (hA : ∀ q, q < H.size → A1 q → A0 q) (hf : ∀ q, free q → A0 q) (hL : ∀ q ∈ L, free q.base) (hF : va_F A1 st₀ t) :
    H.size ≤ T'.heap.size ∧ (∀ q : Nat, q < H.size → ¬ A1 q → T'.heap[q]? = H[q]?) ∧ va_S A0 H0 T'.heap (locs ++ L) := by
  obtain ⟨hz, hk⟩ := hF
  rw [h0] at hz hk
  exact ⟨by rw [e1]; exact hz, fun q h1 h2 => by rw [e1]; exact hk q h1 h2,
    ⟨Nat.le_trans hS.1 (by rw [e1]; exact hz), fun q h1 h2 => by rw [e1, hk q (Nat.lt_of_lt_of_le h1 hS.1) (fun z => h2 (hA q (Nat.lt_of_lt_of_le h1 hS.1) z))]; exact hS.2.1 q h1 h2, fun q hq => by
      rcases List.mem_append.mp hq with h | h
      · exact hS.2.2 q h
      · exact hf _ (hL q h)⟩⟩
theorem vx_calli {S SX : Type} {post : Int32 → S → Prop} {px : SX → Prop} {B : S → State → Prop} {BX : String → SX → State → Prop} {AX : Nat → Prop} (hr : vx_Run p l e R s m args below meth c H locs cells slots mc ms (F0 m pc ls st0) rest (va_Qi post B A1 a) (vx_X px BX AX) free) (hS : va_S A0 H0 H locs) (hA : ∀ q, q < H.size → A1 q → A0 q) (hf : ∀ q, free q → A0 q) (hAX : ∀ q, q < H.size → AX q → A0 q)
    (kx : ∀ (E : String) (ce : Cell) (q9 : Addr) (u : SX) (t : State) (H1 : Heap) (locs1 : List Loc), t.heap = H1 → s.vm.Alike t.vm → px u → BX E u t → H.size ≤ H1.size → (∀ q : Nat, q < H.size → ¬ AX q → H1[q]? = H[q]?) → va_S A0 H0 H1 locs1 → H1[q9]? = some ce → ce.vm = .none → s.vm.findClass E = some ce.cls → vx_W p l e R s m args below meth c H1 locs1 (cells + mc) (slots + ms) Q (F0 m pc ls rest) q9)
    (kk : ∀ (r : Int32) (u : S) (t : State) (H1 : Heap) (locs1 : List Loc), t.heap = H1 → s.vm.Alike t.vm → post r u → B u t → H.size ≤ H1.size → (∀ q : Nat, q < H.size → ¬ A1 q → H1[q]? = H[q]?) → va_S A0 H0 H1 locs1 → W p l e R s m args below meth c H1 locs1 (cells + mc) (slots + ms) Q (F0 m (pc + 3) ls (.int r :: rest))) : W p l e R s m args below meth c H locs cells slots Q (F0 m pc ls st0) := by
  intro T hT X
  rcases hr T hT X with ⟨v, st₀, t, T', L, h0, X', hL, e1, e2, ⟨⟨r, u, hv, hp, hb⟩, hF⟩, st⟩ | ⟨q, st₀, t, T', L, E, ce, h0, X', hL, e1, e2, ⟨u, hp, hb, hF⟩, hce, hcv, hcl, st⟩
  · cases hv
    obtain ⟨k1, k2, k3⟩ := vx_keep h0 e1 hS hA hf hL hF
    obtain ⟨t2, a1, b1⟩ := kk r u t T'.heap (locs ++ L) e1.symm (by rw [← e2]; exact X'.warmed.alike) hp hb k1 k2 k3 T' rfl X'
    exact ⟨t2, st t2 a1, b1⟩
  · obtain ⟨k1, k2, k3⟩ := vx_keep h0 e1 hS hAX hf hL hF
    obtain ⟨t2, a1, b1⟩ := kx E ce q u t T'.heap (locs ++ L) e1.symm (by rw [← e2]; exact X'.warmed.alike) hp hb k1 k2 k3 (by rw [e1]; exact hce) hcv hcl T' rfl X'
    exact ⟨t2, st.trans a1, b1⟩
theorem vx_calll {S SX : Type} {post : Int64 → S → Prop} {px : SX → Prop} {B : S → State → Prop} {BX : String → SX → State → Prop} {AX : Nat → Prop} (hr : vx_Run p l e R s m args below meth c H locs cells slots mc ms (F0 m pc ls st0) rest (va_Ql post B A1 a) (vx_X px BX AX) free) (hS : va_S A0 H0 H locs) (hA : ∀ q, q < H.size → A1 q → A0 q) (hf : ∀ q, free q → A0 q) (hAX : ∀ q, q < H.size → AX q → A0 q)
    (kx : ∀ (E : String) (ce : Cell) (q9 : Addr) (u : SX) (t : State) (H1 : Heap) (locs1 : List Loc), t.heap = H1 → s.vm.Alike t.vm → px u → BX E u t → H.size ≤ H1.size → (∀ q : Nat, q < H.size → ¬ AX q → H1[q]? = H[q]?) → va_S A0 H0 H1 locs1 → H1[q9]? = some ce → ce.vm = .none → s.vm.findClass E = some ce.cls → vx_W p l e R s m args below meth c H1 locs1 (cells + mc) (slots + ms) Q (F0 m pc ls rest) q9)
    (kk : ∀ (r : Int64) (u : S) (t : State) (H1 : Heap) (locs1 : List Loc), t.heap = H1 → s.vm.Alike t.vm → post r u → B u t → H.size ≤ H1.size → (∀ q : Nat, q < H.size → ¬ A1 q → H1[q]? = H[q]?) → va_S A0 H0 H1 locs1 → W p l e R s m args below meth c H1 locs1 (cells + mc) (slots + ms) Q (F0 m (pc + 3) ls (.long r :: rest))) : W p l e R s m args below meth c H locs cells slots Q (F0 m pc ls st0) := by
  intro T hT X
  rcases hr T hT X with ⟨v, st₀, t, T', L, h0, X', hL, e1, e2, ⟨⟨r, u, hv, hp, hb⟩, hF⟩, st⟩ | ⟨q, st₀, t, T', L, E, ce, h0, X', hL, e1, e2, ⟨u, hp, hb, hF⟩, hce, hcv, hcl, st⟩
  · cases hv
    obtain ⟨k1, k2, k3⟩ := vx_keep h0 e1 hS hA hf hL hF
    obtain ⟨t2, a1, b1⟩ := kk r u t T'.heap (locs ++ L) e1.symm (by rw [← e2]; exact X'.warmed.alike) hp hb k1 k2 k3 T' rfl X'
    exact ⟨t2, st t2 a1, b1⟩
  · obtain ⟨k1, k2, k3⟩ := vx_keep h0 e1 hS hAX hf hL hF
    obtain ⟨t2, a1, b1⟩ := kx E ce q u t T'.heap (locs ++ L) e1.symm (by rw [← e2]; exact X'.warmed.alike) hp hb k1 k2 k3 (by rw [e1]; exact hce) hcv hcl T' rfl X'
    exact ⟨t2, st.trans a1, b1⟩
theorem vx_callf {S SX : Type} {post : UInt32 → S → Prop} {px : SX → Prop} {B : S → State → Prop} {BX : String → SX → State → Prop} {AX : Nat → Prop} (hr : vx_Run p l e R s m args below meth c H locs cells slots mc ms (F0 m pc ls st0) rest (va_Qf post B A1 a) (vx_X px BX AX) free) (hS : va_S A0 H0 H locs) (hA : ∀ q, q < H.size → A1 q → A0 q) (hf : ∀ q, free q → A0 q) (hAX : ∀ q, q < H.size → AX q → A0 q)
    (kx : ∀ (E : String) (ce : Cell) (q9 : Addr) (u : SX) (t : State) (H1 : Heap) (locs1 : List Loc), t.heap = H1 → s.vm.Alike t.vm → px u → BX E u t → H.size ≤ H1.size → (∀ q : Nat, q < H.size → ¬ AX q → H1[q]? = H[q]?) → va_S A0 H0 H1 locs1 → H1[q9]? = some ce → ce.vm = .none → s.vm.findClass E = some ce.cls → vx_W p l e R s m args below meth c H1 locs1 (cells + mc) (slots + ms) Q (F0 m pc ls rest) q9)
    (kk : ∀ (r : UInt32) (u : S) (t : State) (H1 : Heap) (locs1 : List Loc), t.heap = H1 → s.vm.Alike t.vm → post r u → B u t → H.size ≤ H1.size → (∀ q : Nat, q < H.size → ¬ A1 q → H1[q]? = H[q]?) → va_S A0 H0 H1 locs1 → W p l e R s m args below meth c H1 locs1 (cells + mc) (slots + ms) Q (F0 m (pc + 3) ls (.float r :: rest))) : W p l e R s m args below meth c H locs cells slots Q (F0 m pc ls st0) := by
  intro T hT X
  rcases hr T hT X with ⟨v, st₀, t, T', L, h0, X', hL, e1, e2, ⟨⟨r, u, hv, hp, hb⟩, hF⟩, st⟩ | ⟨q, st₀, t, T', L, E, ce, h0, X', hL, e1, e2, ⟨u, hp, hb, hF⟩, hce, hcv, hcl, st⟩
  · cases hv
    obtain ⟨k1, k2, k3⟩ := vx_keep h0 e1 hS hA hf hL hF
    obtain ⟨t2, a1, b1⟩ := kk r u t T'.heap (locs ++ L) e1.symm (by rw [← e2]; exact X'.warmed.alike) hp hb k1 k2 k3 T' rfl X'
    exact ⟨t2, st t2 a1, b1⟩
  · obtain ⟨k1, k2, k3⟩ := vx_keep h0 e1 hS hAX hf hL hF
    obtain ⟨t2, a1, b1⟩ := kx E ce q u t T'.heap (locs ++ L) e1.symm (by rw [← e2]; exact X'.warmed.alike) hp hb k1 k2 k3 (by rw [e1]; exact hce) hcv hcl T' rfl X'
    exact ⟨t2, st.trans a1, b1⟩
theorem vx_calld {S SX : Type} {post : UInt64 → S → Prop} {px : SX → Prop} {B : S → State → Prop} {BX : String → SX → State → Prop} {AX : Nat → Prop} (hr : vx_Run p l e R s m args below meth c H locs cells slots mc ms (F0 m pc ls st0) rest (va_Qd post B A1 a) (vx_X px BX AX) free) (hS : va_S A0 H0 H locs) (hA : ∀ q, q < H.size → A1 q → A0 q) (hf : ∀ q, free q → A0 q) (hAX : ∀ q, q < H.size → AX q → A0 q)
    (kx : ∀ (E : String) (ce : Cell) (q9 : Addr) (u : SX) (t : State) (H1 : Heap) (locs1 : List Loc), t.heap = H1 → s.vm.Alike t.vm → px u → BX E u t → H.size ≤ H1.size → (∀ q : Nat, q < H.size → ¬ AX q → H1[q]? = H[q]?) → va_S A0 H0 H1 locs1 → H1[q9]? = some ce → ce.vm = .none → s.vm.findClass E = some ce.cls → vx_W p l e R s m args below meth c H1 locs1 (cells + mc) (slots + ms) Q (F0 m pc ls rest) q9)
    (kk : ∀ (r : UInt64) (u : S) (t : State) (H1 : Heap) (locs1 : List Loc), t.heap = H1 → s.vm.Alike t.vm → post r u → B u t → H.size ≤ H1.size → (∀ q : Nat, q < H.size → ¬ A1 q → H1[q]? = H[q]?) → va_S A0 H0 H1 locs1 → W p l e R s m args below meth c H1 locs1 (cells + mc) (slots + ms) Q (F0 m (pc + 3) ls (.double r :: rest))) : W p l e R s m args below meth c H locs cells slots Q (F0 m pc ls st0) := by
  intro T hT X
  rcases hr T hT X with ⟨v, st₀, t, T', L, h0, X', hL, e1, e2, ⟨⟨r, u, hv, hp, hb⟩, hF⟩, st⟩ | ⟨q, st₀, t, T', L, E, ce, h0, X', hL, e1, e2, ⟨u, hp, hb, hF⟩, hce, hcv, hcl, st⟩
  · cases hv
    obtain ⟨k1, k2, k3⟩ := vx_keep h0 e1 hS hA hf hL hF
    obtain ⟨t2, a1, b1⟩ := kk r u t T'.heap (locs ++ L) e1.symm (by rw [← e2]; exact X'.warmed.alike) hp hb k1 k2 k3 T' rfl X'
    exact ⟨t2, st t2 a1, b1⟩
  · obtain ⟨k1, k2, k3⟩ := vx_keep h0 e1 hS hAX hf hL hF
    obtain ⟨t2, a1, b1⟩ := kx E ce q u t T'.heap (locs ++ L) e1.symm (by rw [← e2]; exact X'.warmed.alike) hp hb k1 k2 k3 (by rw [e1]; exact hce) hcv hcl T' rfl X'
    exact ⟨t2, st.trans a1, b1⟩
theorem vx_callv {S SX : Type} {post : S → Prop} {px : SX → Prop} {B : S → State → Prop} {BX : String → SX → State → Prop} {AX : Nat → Prop} (hr : vx_Run p l e R s m args below meth c H locs cells slots mc ms (F0 m pc ls st0) rest (va_Qv post B A1 a) (vx_X px BX AX) free) (hS : va_S A0 H0 H locs) (hA : ∀ q, q < H.size → A1 q → A0 q) (hf : ∀ q, free q → A0 q) (hAX : ∀ q, q < H.size → AX q → A0 q)
    (kx : ∀ (E : String) (ce : Cell) (q9 : Addr) (u : SX) (t : State) (H1 : Heap) (locs1 : List Loc), t.heap = H1 → s.vm.Alike t.vm → px u → BX E u t → H.size ≤ H1.size → (∀ q : Nat, q < H.size → ¬ AX q → H1[q]? = H[q]?) → va_S A0 H0 H1 locs1 → H1[q9]? = some ce → ce.vm = .none → s.vm.findClass E = some ce.cls → vx_W p l e R s m args below meth c H1 locs1 (cells + mc) (slots + ms) Q (F0 m pc ls rest) q9)
    (kk : ∀ (u : S) (t : State) (H1 : Heap) (locs1 : List Loc), t.heap = H1 → s.vm.Alike t.vm → post u → B u t → H.size ≤ H1.size → (∀ q : Nat, q < H.size → ¬ A1 q → H1[q]? = H[q]?) → va_S A0 H0 H1 locs1 → W p l e R s m args below meth c H1 locs1 (cells + mc) (slots + ms) Q (F0 m (pc + 3) ls (rest))) : W p l e R s m args below meth c H locs cells slots Q (F0 m pc ls st0) := by
  intro T hT X
  rcases hr T hT X with ⟨v, st₀, t, T', L, h0, X', hL, e1, e2, ⟨⟨u, hv, hp, hb⟩, hF⟩, st⟩ | ⟨q, st₀, t, T', L, E, ce, h0, X', hL, e1, e2, ⟨u, hp, hb, hF⟩, hce, hcv, hcl, st⟩
  · cases hv
    obtain ⟨k1, k2, k3⟩ := vx_keep h0 e1 hS hA hf hL hF
    obtain ⟨t2, a1, b1⟩ := kk u t T'.heap (locs ++ L) e1.symm (by rw [← e2]; exact X'.warmed.alike) hp hb k1 k2 k3 T' rfl X'
    exact ⟨t2, st t2 a1, b1⟩
  · obtain ⟨k1, k2, k3⟩ := vx_keep h0 e1 hS hAX hf hL hF
    obtain ⟨t2, a1, b1⟩ := kx E ce q u t T'.heap (locs ++ L) e1.symm (by rw [← e2]; exact X'.warmed.alike) hp hb k1 k2 k3 (by rw [e1]; exact hce) hcv hcl T' rfl X'
    exact ⟨t2, st.trans a1, b1⟩
/-- caught by the row x of this method's table; the rows ahead don't take it -/
theorem vx_catch {own name : String} {E : String} {ce : Cell} {q : Addr} (hown : s.vm.findClass own = some m.cls) (pre : List ExceptionTableEntry) (x : ExceptionTableEntry) (suf : List ExceptionTableEntry) (hsplit : c.exceptionTable.toList = pre ++ x :: suf)
    (hpass : ∀ z ∈ pre, covers z pc = false ∨ (z.catchType ≠ 0 ∧ ∃ nm : String, (Cond.classLink own z.catchType nm).before args s = true ∧ va_Nc E nm s)) (hx : covers x pc = true) (h0 : x.catchType ≠ 0)
    (hlink : (Cond.classLink own x.catchType name).before args s = true) (hcast : (Cond.castable E name).before args s = true) (hcell : H[q]? = some ce) (hv : ce.vm = .none) (hcl : s.vm.findClass E = some ce.cls)
    (kk : W p l e R s m args below meth c H locs cells slots Q (F0 m x.handlerPc ls [.ref q])) : vx_W p l e R s m args below meth c H locs cells slots Q (F0 m pc ls rest) q := by
  intro T hT X
  have hpl : e.platform.magicAccessors = ({} : Platform).magicAccessors := by rw [X.admits.platform]
  obtain ⟨c3, c4, hc3, hc4, hasg⟩ := Cond.castable_spec hcast
  cases Option.some.inj (hc3.symm.trans hcl)
  obtain ⟨c5, hc5, hcl5⟩ := Cond.classLink_spec hown hlink e.platform hpl
  cases Option.some.inj (hc4.symm.trans hc5)
  obtain ⟨vm', X', st⟩ := X.thenCaughtThrough q (g := F0 m pc ls rest) rfl (Steps.refl _) (by rw [hT]; exact hcell) (by rw [hv]; rfl) (by obtain ⟨k9, h9, -⟩ := Vm.findClass_spec hcl; exact ⟨k9, h9⟩) pre x suf hsplit
    (fun z hz => by
      rcases hpass z hz with h | ⟨hz0, nm, hl1, hn1⟩
      · exact Or.inl h
      · obtain ⟨c6, hc6, hcl6⟩ := Cond.classLink_spec hown hl1 e.platform hpl
        obtain ⟨a8, b8, h1, h2, h3⟩ := hn1
        cases Option.some.inj (h1.symm.trans hcl)
        cases Option.some.inj (h2.symm.trans hc6)
        exact Or.inr ⟨hz0, _, hcl6, h3⟩) hx (Or.inr ⟨h0, c4, hcl5, hasg⟩)
  obtain ⟨t, a1, b1⟩ := kk (T.setVm vm') hT X'
  exact ⟨t, st.trans a1, b1⟩
end Rows
section Ends
variable {p : Program} {l : Launch} {e : Env} {R : Room} {s : State} {m : MethodId} {args : Array Value} {below : List Frame} {meth : Method} {c : Code} {H : Heap} {locs : List Loc} {cells slots : Nat} {Q : State → Prop}
variable {mc ms : Nat} {free : Addr → Prop} {A0 A1 : Nat → Prop} {H0 : Heap} {a : Array Value} {ls : Array Slot} {st0 rest : List Value}
variable {Qc : Array Value → State → Outcome → State → Prop} {XC : String → State → State → Prop}
/-- what a body that may throw owes at its end -/
def vx_MQ (below : List Frame) (Qc : Array Value → State → Outcome → State → Prop) (XC : String → State → State → Prop) (a : Array Value) (s : State) (mc ms : Nat) (free : Addr → Prop) : State → Prop := fun t =>
  ∃ o, t.status = .running ∧ Ended t below o ∧ vx_Q Qc XC mc ms free a s o t
theorem vx_ret {g : JFrame} {mc ms : Nat} (k : W p l e R s m args below meth c H locs cells slots (MQ below Qc args s mc ms free) g) : W p l e R s m args below meth c H locs cells slots (vx_MQ below Qc XC args s mc ms free) g := by
  intro T hT X
  obtain ⟨t, a1, o, b1, b2, b3, b4⟩ := k T hT X
  exact ⟨t, a1, o, b1, b2, Or.inl ⟨b3, b4⟩⟩
/-- not caught here: it goes on to the caller -/
theorem vx_widen {g : JFrame} {q : Addr} {k n : Nat} (h1 : cells ≤ k) (h2 : slots ≤ n) (kk : vx_W p l e R s m args below meth c H locs k n Q g q) : vx_W p l e R s m args below meth c H locs cells slots Q g q := fun T hT X => kk T hT (stand_widen X h1 h2)
theorem vx_out {pc : Nat} {E : String} {ce : Cell} {q : Addr} {mc ms : Nat} (hout : ∀ x ∈ c.exceptionTable.toList, covers x pc = false) (hlocks : meth.locks = false) (hcell : H[q]? = some ce) (hv : ce.vm = .none) (hcl : s.vm.findClass E = some ce.cls)
    (hx : ∀ t : State, t.heap = H → s.vm.Alike t.vm → XC E s t) (hf : ∀ z ∈ locs, free z.base) (hc : cells ≤ mc) (hs : slots ≤ ms) :
    vx_W p l e R s m args below meth c H locs cells slots (vx_MQ below Qc XC args s mc ms free) (F0 m pc ls rest) q := by
  intro T hT X
  obtain ⟨st1, hrun, hend, hW, hsm⟩ := X.leaveThrown q (g := F0 m pc ls rest) rfl rfl rfl hout hlocks
  have hcell9 : (T.setFrames (.throwing q :: below)).heap[q]? = some ce := by
    show T.heap[q]? = some ce
    rw [hT]; exact hcell
  exact ⟨_, st1, .threw q, hrun, hend, Or.inr ⟨q, rfl, E, ce, locs, hx _ hT hW.alike, hcell9, hv, hcl, hW, hsm.mono hc hs, hf⟩⟩
theorem vx_frame {U : State} {k n : Nat} (h : s.sameButNew ({ U with vm := s.vm } : State) locs k n) : s.heap.size ≤ U.heap.size ∧ ∀ q : Nat, q < s.heap.size → (∀ z ∈ locs, z.base ≠ q) → U.heap[q]? = s.heap[q]? := by
  obtain ⟨-, h2, -, -, -, h6⟩ := h
  refine ⟨h2, fun q hq hz => ?_⟩
  obtain ⟨c9, e1, e2, e3, e4⟩ := h6 q _ (Array.getElem?_eq_getElem hq)
  have hs : c9.slots = (s.heap[q]).slots := Array.ext_getElem? fun i => e4 i fun hm => hz _ hm rfl
  have h9 : c9 = s.heap[q] := by
    rw [hs] at e2
    exact e2
  have e5 : U.heap[q]? = some c9 := e1
  rw [e5, h9, Array.getElem?_eq_getElem hq]
/-- the words of a throw but the four that speak of the heap -/
def vx_no (w : Cond) : Bool := decide (w ≠ .isRef (.static Bundle.tN "UNASSIGNED_STACK" Bundle.steD)) && decide (w ≠ .isRef (.static Bundle.tN "SUPPRESSED_SENTINEL" Bundle.listD)) && decide (w ≠ .laysStatic Bundle.tN "UNASSIGNED_STACK" Bundle.steD) && decide (w ≠ .laysStatic Bundle.tN "SUPPRESSED_SENTINEL" Bundle.listD)
def vx_at0 (own : String) (ic : Nat) (X : String) (names : List String) : List Cond := (Bundle.ownAtoms0 own ic X names).filter vx_no
def vx_atS (own : String) (ic : Nat) (X : String) (names : List String) : List Cond := (Bundle.ownAtoms own ic X names).filter vx_no
/-- a word that the tables alone decide, or a good one -/
def vx_ot (w : Cond) : Bool := w.onTables || goodWord w
theorem vx_ot_at {args a' : Array Value} {s U : State} {w : Cond} (hW : s.WarmedH U.vm) (hvm : s.vm = U.vm) (hg : vx_ot w = true) (h : w.before args s = true) : w.before a' U = true := by
  simp only [vx_ot, Bool.or_eq_true] at hg
  rcases hg with hg | hg
  · exact va_tabs hg hvm h
  · exact word_at hW (good_of_word hg) h
/-- a list's words: the good ones out of the method's own list, the others by premises of their own -/
theorem vx_hat {args : Array Value} {s : State} {L B : List Cond} (h1 : ∀ w ∈ L.filter goodWord, w.before args s = true) (h2 : ∀ w ∈ L.filter (fun w => !goodWord w), w ∈ B) (h3 : ∀ w ∈ B, w.before args s = true) : ∀ w ∈ L, w.before args s = true := by
  intro w hw
  by_cases g : goodWord w = true
  · exact h1 w (List.mem_filter.mpr ⟨hw, g⟩)
  · refine h3 w (h2 w (List.mem_filter.mpr ⟨hw, ?_⟩))
    show (!goodWord w) = true
    cases hgw : goodWord w
    · rfl
    · exact absurd hgw g
theorem vx_c {args : Array Value} {s : State} {w : Cond} {B : List Cond} (h : w.before args s = true) (t : ∀ w ∈ B, w.before args s = true) : ∀ w' ∈ w :: B, w'.before args s = true := fun w' h' => (List.mem_cons.mp h').elim (fun e => by rw [e]; exact h) (t w')
theorem vx_n {args : Array Value} {s : State} : ∀ w ∈ ([] : List Cond), w.before args s = true := fun _ h => nomatch h
theorem vx_own {args : Array Value} {s : State} {L : List Cond} (h1 : ∀ w ∈ L.filter vx_no, w.before args s = true)
    (hU : (Cond.isRef (.static Bundle.tN "UNASSIGNED_STACK" Bundle.steD)).before args s = true) (hN : (Cond.isRef (.static Bundle.tN "SUPPRESSED_SENTINEL" Bundle.listD)).before args s = true)
    (lU : (Cond.laysStatic Bundle.tN "UNASSIGNED_STACK" Bundle.steD).before args s = true) (lN : (Cond.laysStatic Bundle.tN "SUPPRESSED_SENTINEL" Bundle.listD).before args s = true) : ∀ w ∈ L, w.before args s = true := by
  intro w hw
  by_cases e1 : w = .isRef (.static Bundle.tN "UNASSIGNED_STACK" Bundle.steD)
  · rw [e1]; exact hU
  · by_cases e2 : w = .isRef (.static Bundle.tN "SUPPRESSED_SENTINEL" Bundle.listD)
    · rw [e2]; exact hN
    · by_cases e3 : w = .laysStatic Bundle.tN "UNASSIGNED_STACK" Bundle.steD
      · rw [e3]; exact lU
      · by_cases e4 : w = .laysStatic Bundle.tN "SUPPRESSED_SENTINEL" Bundle.listD
        · rw [e4]; exact lN
        · exact h1 w (List.mem_filter.mpr ⟨hw, by unfold vx_no; rw [decide_eq_true e1, decide_eq_true e2, decide_eq_true e3, decide_eq_true e4]; rfl⟩)
/-- where a static field lies, its class's statics cell in H -/
def vx_L (C n d : String) (A : Nat → Prop) (U : State) (H : Heap) : Prop := ∃ (c : ClassId) (k : Class) (i : Nat) (f : Field) (a : Nat) (cell : Cell), U.vm.findClass C = some c ∧ U.fieldFound? C n d = some (c, k, i, f) ∧ f.isStatic = true ∧ k.statics = some a ∧ H[a]? = some cell ∧ cell.vm.isStatics = true ∧ cell.cls = c ∧ f.slot < cell.slots.size ∧ k.staticTypes[f.slot]? = some f.type ∧ ¬ A a
theorem vx_L.moved {C n d : String} {A : Nat → Prop} {u U : State} {H : Heap} (hvm : u.vm.Alike U.vm) (h : vx_L C n d A u H) : vx_L C n d A U H := by
  obtain ⟨c, k, i, f, a, cell, h1, h2, h3, h4, h5, h6, h7, h8, h9, h10⟩ := h
  obtain ⟨k', hi', he⟩ := State.fieldFound?_setVm hvm h2
  exact ⟨c, k', i, f, a, cell, by rw [hvm.findClass]; exact h1, hi', h3, by rw [he]; exact h4, h5, h6, h7, h8, by rw [he]; exact h9, h10⟩
theorem vx_L.kept {C n d : String} {A : Nat → Prop} {U : State} {H H1 : Heap} (h : vx_L C n d A U H) (hq : ∀ a : Nat, a < H.size → ¬ A a → H1[a]? = H[a]?) : vx_L C n d A U H1 := by
  obtain ⟨c, k, i, f, a, cell, h1, h2, h3, h4, h5, h6, h7, h8, h9, h10⟩ := h
  exact ⟨c, k, i, f, a, cell, h1, h2, h3, h4, by rw [hq a (Array.getElem?_eq_some_iff.mp h5).1 h10]; exact h5, h6, h7, h8, h9, h10⟩
theorem vx_L.narrow {C n d : String} {A B : Nat → Prop} {U : State} {H : Heap} (h : vx_L C n d A U H) (hAB : ∀ q, B q → A q) : vx_L C n d B U H := by
  obtain ⟨c, k, i, f, a, cell, h1, h2, h3, h4, h5, h6, h7, h8, h9, h10⟩ := h
  exact ⟨c, k, i, f, a, cell, h1, h2, h3, h4, h5, h6, h7, h8, h9, fun z => h10 (hAB _ z)⟩
theorem vx_L.word {C n d : String} {A : Nat → Prop} {s : State} {args : Array Value} (h : vx_L C n d A s s.heap) : (Cond.laysStatic C n d).before args s = true := by
  obtain ⟨c, k, i, f, a, cell, h1, h2, h3, h4, h5, h6, h7, h8, h9, -⟩ := h
  show (Cond.laysStatic C n d).holds args s none s [] = true
  exact Cond.laysStatic_of h1 h2 h3 h4 h5 h6 h7 h8 h9
/-- .. and what it holds: null or some reference -/
def vx_Zq (C n d : String) (A : Nat → Prop) (U : State) (H : Heap) : Prop := va_Zq C n d A U H ∧ vx_L C n d A U H
theorem vx_Zq.moved {C n d : String} {A : Nat → Prop} {u U : State} {H : Heap} (hvm : u.vm.Alike U.vm) (h : vx_Zq C n d A u H) : vx_Zq C n d A U H := ⟨va_Zq.moved hvm h.1, vx_L.moved hvm h.2⟩
theorem vx_Zq.kept {C n d : String} {A : Nat → Prop} {U : State} {H H1 : Heap} (h : vx_Zq C n d A U H) (hq : ∀ a : Nat, a < H.size → ¬ A a → H1[a]? = H[a]?) : vx_Zq C n d A U H1 := ⟨va_Zq.kept h.1 hq, vx_L.kept h.2 hq⟩
theorem vx_Zq.narrow {C n d : String} {A B : Nat → Prop} {U : State} {H : Heap} (h : vx_Zq C n d A U H) (hAB : ∀ q, B q → A q) : vx_Zq C n d B U H := ⟨va_Zq.narrow h.1 hAB, vx_L.narrow h.2 hAB⟩
theorem vx_Zqof {args : Array Value} {s : State} {C n d : String} {A : Nat → Prop} (hl : (Cond.laysStatic C n d).before args s = true) (hini : (Cond.initialized C).before args s = true) (h : (Cond.isRef (.static C n d)).before args s = true) (hA : ∀ a : Nat, a < s.heap.size → ¬ A a) : vx_Zq C n d A s s.heap := by
  refine ⟨va_Zqof hl hini h hA, ?_⟩
  obtain ⟨c, k, i, f, a, cell, h1, h2, h3, h4, h5, h6, h7, h8, h9⟩ := Cond.laysStatic_spec hl
  exact ⟨c, k, i, f, a, cell, h1, h2, h3, h4, h5, h6, h7, h8, h9, hA a (Array.getElem?_eq_some_iff.mp h5).1⟩
theorem vx_isRef {C n d : String} {v : Value} {A : Nat → Prop} {s : State} {args : Array Value} (h : va_Z C n d v A s s.heap) (hv : v.isRef = true) : (Cond.isRef (.static C n d)).before args s = true := by
  obtain ⟨cf, kf, fi, f, a, cell, h1, h2, h3, h4, h5, h6, h7, -⟩ := h
  have he : (Term.static C n d).eval args s none [] s = some v := by
    simp [Term.eval, State.fieldNamed?, h1, h2, h4, h5, h6, h7]
  simp only [Cond.before, Cond.holds, Cond.value, he]
  cases v <;> simp_all [Value.isRef]
theorem vx_isRefq {C n d : String} {A : Nat → Prop} {s : State} {args : Array Value} (h : va_Zq C n d A s s.heap) : (Cond.isRef (.static C n d)).before args s = true := by
  rcases h with h | ⟨t, h⟩
  · exact vx_isRef h rfl
  · exact vx_isRef h rfl
/-- the same frame, seen from here: as if the method were called anew in this heap -/
theorem vx_rebase {T : State} (X : Stand p l e R s m args below meth c T locs cells slots) {R' : Room} (hf : R'.frames ≤ R.frames) (hl : R'.locals ≤ R.locals) (hc : cells + R'.cells ≤ R.cells) (hs : slots + R'.slots ≤ R.slots) :
    Stand p l e R' ((T.setVm s.vm).setFrames (.invoking m args :: below)) m args below meth c T [] 0 0 := by
  have htop : (T.setVm s.vm).topJava?.isSome := X.here.top
  have hF : ((T.setVm s.vm).setFrames (.invoking m args :: below)).frames = .invoking m args :: below := State.frames_setFrames _ (State.cur_lt_of_top htop)
  obtain ⟨g₀, hg0⟩ := Option.isSome_iff_exists.mp htop
  obtain ⟨r, hr⟩ := State.topJava?_eq_some.mp hg0
  have hl9 : e.platform.stackLimits (T.setVm s.vm).me = e.platform.stackLimits s.me := X.limits
  have hb9 : (T.setVm s.vm).me.stackBytes = s.me.stackBytes := X.bytes
  refine ⟨X.admits, X.cas, X.clock, hF, ?_, X.hears, X.method, X.code, X.here, X.tail, X.warmed, ?_, ?_, ?_⟩
  · have h := X.room
    have hU : ((T.setVm s.vm).setFrames (.invoking m args :: below)).localsInUse = s.localsInUse := by
      rw [State.localsInUse_invoking hF (meth := meth) (c := c) X.method X.code, State.localsInUse_invoking X.frames X.method X.code]
    simp only [State.hasRoom, Bool.and_eq_true, decide_eq_true_eq] at h ⊢
    obtain ⟨⟨⟨⟨h1, h2, h3, h4, h5, h6⟩, h7⟩, h8⟩, h9⟩ := h
    rw [X.frames, List.length_cons] at h2 h3
    have q1 := X.heapSize
    have q2 := X.used
    simp only [hF, hU, List.length_cons, State.stackLimits_setFrames, State.stackBytes_setFrames, hl9, hb9]
    refine ⟨⟨⟨⟨by omega, by omega, by omega, by omega, by omega, h6⟩, ?_⟩, ?_⟩, X.book⟩
    · show T.heap.size + R'.cells ≤ e.platform.maxCells
      omega
    · show T.slotsUsed + R'.slots ≤ e.platform.maxSlots
      omega
  · rw [State.stackLimits_setFrames]; rfl
  · rw [State.stackBytes_setFrames]; rfl
  · refine ⟨?_, Nat.le_refl _, Nat.le_refl _, ?_, ?_, fun a c9 h9 => ⟨c9, h9, rfl, rfl, fun _ _ => rfl⟩⟩
    · obtain ⟨t, ht, -⟩ := State.frames_cons hr
      show T.setVm s.vm = { ((T.setVm s.vm).setFrames (.invoking m args :: below)).setFrames (T.setVm s.vm).frames with heap := T.heap, slotsUsed := T.slotsUsed }
      rw [State.setFrames_setFrames, State.setFrames_self ht]
      rfl
    · show T.slotsUsed = T.slotsUsed + ((T.heap.toList.drop T.heap.size).map (·.slots.size)).sum
      rw [List.drop_eq_nil_of_le (Nat.le_of_eq Array.length_toList)]
      rfl
    · show ((T.heap.toList.drop T.heap.size).map (·.slots.size)).sum ≤ 0
      rw [List.drop_eq_nil_of_le (Nat.le_of_eq Array.length_toList)]
      exact Nat.le_refl _
/-- 'throw new E()': new; dup; invokespecial; athrow -/
theorem vx_throw0 {cc : ByteArray} {pc : Nat} (hexec : p.tables.exec = Jvm.exec) (hb : c.code = cc) (hl : l.stackTraces = false) {own cls : String} {names : List String} {ik ic mc ms : Nat} {A : Nat → Prop}
    (hown : s.vm.findClass own = some m.cls) (hcls : Bundle.fit cls = true) (hnames : ∀ n ∈ names, Bundle.fit n = true)
    (hk : (Cond.classLink own ik cls).before args s = true) (hini : (Cond.initialized cls).before args s = true) (hat : ∀ w ∈ vx_at0 own ic cls names, w.before args s = true)
    (hgood : ∀ w ∈ Cond.classLink own ik cls :: Cond.initialized cls :: vx_at0 own ic cls names, vx_ot w = true)
    (hU : vx_Zq Bundle.tN "UNASSIGNED_STACK" Bundle.steD A s s.heap) (hN : vx_Zq Bundle.tN "SUPPRESSED_SENTINEL" Bundle.listD A s s.heap) (hS : va_S A s.heap H locs) (hsize : ls.size = c.maxLocals)
    (d0 : decode cc pc = .ok (.new ik, 3)) (d3 : decode cc (pc + 3) = .ok (.dup, 1)) (d4 : decode cc (pc + 4) = .ok (.invokespecial ic, 3)) (d7 : decode cc (pc + 7) = .ok (.athrow, 1))
    (hout : ∀ x ∈ c.exceptionTable.toList, covers x (pc + 7) = false)
    (hRframes : names.length + 3 < R.frames) (hRlocals : (rest.map fun v => v.category).sum + (13 * (names.length + 1) + 42) ≤ R.locals) (hRcells : cells + 1 ≤ R.cells) (hRslots : slots + 6 ≤ R.slots) (hlocks : meth.locks = false)
    (hx : ∀ t : State, s.vm.Alike t.vm → H.size ≤ t.heap.size → (∀ q : Nat, q < H.size → t.heap[q]? = H[q]?) → XC cls s t)
    (hf : ∀ z ∈ locs, free z.base) (hc : cells + 1 ≤ mc) (hs : slots + 6 ≤ ms) :
    W p l e R s m args below meth c H locs cells slots (vx_MQ below Qc XC args s mc ms free) (F0 m pc ls rest) := by
  intro T hT X
  have htr : e.platform.stackTraces = false := (show e.platform.stackTraces = l.stackTraces by rw [X.admits.platform]).trans hl
  have Y := vx_rebase X (R' := { frames := R.frames, locals := R.locals, cells := 1, slots := 6 }) (Nat.le_refl _) (Nat.le_refl _) hRcells hRslots
  obtain ⟨s', hA⟩ : ∃ z, z = (T.setVm s.vm).setFrames (.invoking m args :: below) := ⟨_, rfl⟩
  rw [← hA] at Y
  have hvm : s'.vm = s.vm := by rw [hA]; rfl
  have hhp : s'.heap = H := by rw [hA]; exact hT
  have hW0 : s.WarmedH s'.vm := by rw [hvm]; exact State.WarmedH.refl s
  have hat' : ∀ w ∈ vx_at0 own ic cls names, w.before args s' = true := fun w hw => vx_ot_at hW0 hvm.symm (hgood w (List.mem_cons_of_mem _ (List.mem_cons_of_mem _ hw))) (hat w hw)
  have hk' : (Cond.classLink own ik cls).before args s' = true := vx_ot_at hW0 hvm.symm (hgood _ List.mem_cons_self) hk
  have hini' : (Cond.initialized cls).before args s' = true := vx_ot_at hW0 hvm.symm (hgood _ (List.mem_cons_of_mem _ List.mem_cons_self)) hini
  have hU' : vx_Zq Bundle.tN "UNASSIGNED_STACK" Bundle.steD A s' s'.heap := by rw [hhp]; exact vx_Zq.moved hW0.alike (hU.kept hS.2.1)
  have hN' : vx_Zq Bundle.tN "SUPPRESSED_SENTINEL" Bundle.listD A s' s'.heap := by rw [hhp]; exact vx_Zq.moved hW0.alike (hN.kept hS.2.1)
  have h : ∀ w ∈ Bundle.ownAtoms0 own ic cls names, w.before args s' = true := vx_own hat' (vx_isRefq hU'.1) (vx_isRefq hN'.1) hU'.2.word hN'.2.word
  have hown' : s'.vm.findClass own = some m.cls := by rw [hvm]; exact hown
  have hins : (Cond.instantiable cls 6).before args s' = true := h _ (by simp [Bundle.ownAtoms0])
  obtain ⟨vm₁, cX, kX, hfX, hkX, -, -, X₁, st1⟩ := Y.newCold hexec (own := own) (C := cls) (index := ik) (n := 6) hown' hk' hins hini'
    (g := F0 m pc ls rest) rfl (by rw [hb]; exact d0) (Nat.le_refl _) (Nat.le_refl _)
  generalize hT1 : (T.setVm vm₁).pushCell { cls := cX, slots := kX.instanceTypes.map defaultValue, vm := .none } = T1 at X₁ st1
  have hcat : (Value.ref T.heap.size).category = 1 := rfl
  have hcellA : T1.heap[T.heap.size]? = some (freshCell cX kX) := by rw [← hT1]; exact State.heap_pushCell_size _ _
  have d3' : decode c.code (pc + 3) = .ok (.dup, 1) := by rw [hb]; exact d3
  obtain ⟨U, hsteps, hrun, hend, hW, hsame, ce, hce, hO⟩ := X₁.ctorThrow0 hexec htr (own := own) (cls := cls) (names := names) (ic := ic) hown' hcls hnames h (fun x hx => nomatch hx) hfX hkX hcellA (by rw [hhp, hT]; exact Nat.le_refl _)
    (g := { method := m, pc := pc + 4, locals := ls, stack := .ref T.heap.size :: .ref T.heap.size :: rest, locked := none }) rfl hsize rfl rfl (rest := rest) rfl
    (by rw [hb]; exact d4) (by rw [hb]; exact d7) hout hRframes (by simp only [List.map_cons, List.sum_cons, hcat]; omega) hlocks
  obtain ⟨f1, f2⟩ := vx_frame hsame
  rw [hhp] at f1 f2
  have hWs : s.WarmedH U.vm := State.WarmedH.trans hW0 hW
  have hcl : s.vm.findClass cls = some ce.cls := by
    have h9 := hO.cls
    rw [hvm] at h9
    exact h9
  have hall : s.sameButNew ({ U with vm := s.vm } : State) locs mc ms := by
    subst hA
    obtain ⟨e1, e2⟩ := hsame
    rw [State.setFrames_setFrames] at e1
    have h2 : (T.setVm s.vm).sameButNew ({ U with vm := s.vm } : State) [] (0 + 1) (0 + 6) := ⟨e1, e2⟩
    have h3 := X.same.trans h2
    rw [List.append_nil] at h3
    exact h3.mono hc hs
  refine ⟨U, ?_, .threw T.heap.size, hrun, hend, Or.inr ⟨T.heap.size, rfl, cls, ce, locs, hx U hWs.alike f1 (fun q hq => f2 q hq (fun z hz => nomatch hz)), hce, hO.vm, hcl, hWs, hall, hf⟩⟩
  refine st1 _ ?_
  show Steps p.tables e below (T1.setTop { method := m, pc := pc + 3, locals := ls, stack := .ref T.heap.size :: rest, locked := none }) _
  jvm_step X₁.here [X₁.here.top, hexec, d3', Value.category]
  exact hsteps
/-- 'throw new E("text")': new; dup; ldc; invokespecial; athrow -/
theorem vx_throwS {cc : ByteArray} {pc : Nat} (hexec : p.tables.exec = Jvm.exec) (hb : c.code = cc) (hl : l.stackTraces = false) {own cls text : String} {names : List String} {ik is ic mc ms sa : Nat} {A : Nat → Prop}
    (hown : s.vm.findClass own = some m.cls) (hcls : Bundle.fit cls = true) (hnames : ∀ n ∈ names, Bundle.fit n = true)
    (hk : (Cond.classLink own ik cls).before args s = true) (hini : (Cond.initialized cls).before args s = true) (hstr : vk_R own is text sa s) (hat : ∀ w ∈ vx_atS own ic cls names, w.before args s = true)
    (hgood : ∀ w ∈ Cond.classLink own ik cls :: Cond.initialized cls :: vx_atS own ic cls names, vx_ot w = true)
    (hU : vx_Zq Bundle.tN "UNASSIGNED_STACK" Bundle.steD A s s.heap) (hN : vx_Zq Bundle.tN "SUPPRESSED_SENTINEL" Bundle.listD A s s.heap) (hS : va_S A s.heap H locs) (hsize : ls.size = c.maxLocals)
    (d0 : decode cc pc = .ok (.new ik, 3)) (d3 : decode cc (pc + 3) = .ok (.dup, 1)) (d4 : decode cc (pc + 4) = .ok (.ldc is, 2)) (d6 : decode cc (pc + 6) = .ok (.invokespecial ic, 3)) (d9 : decode cc (pc + 9) = .ok (.athrow, 1))
    (hout : ∀ x ∈ c.exceptionTable.toList, covers x (pc + 9) = false)
    (hRframes : names.length + 3 < R.frames) (hRlocals : (rest.map fun v => v.category).sum + (13 * (names.length + 1) + 43) ≤ R.locals) (hRcells : cells + 1 ≤ R.cells) (hRslots : slots + 6 ≤ R.slots) (hlocks : meth.locks = false)
    (hx : ∀ t : State, s.vm.Alike t.vm → H.size ≤ t.heap.size → (∀ q : Nat, q < H.size → t.heap[q]? = H[q]?) → XC cls s t)
    (hf : ∀ z ∈ locs, free z.base) (hc : cells + 1 ≤ mc) (hs : slots + 6 ≤ ms) :
    W p l e R s m args below meth c H locs cells slots (vx_MQ below Qc XC args s mc ms free) (F0 m pc ls rest) := by
  intro T hT X
  have htr : e.platform.stackTraces = false := (show e.platform.stackTraces = l.stackTraces by rw [X.admits.platform]).trans hl
  have Y := vx_rebase X (R' := { frames := R.frames, locals := R.locals, cells := 1, slots := 6 }) (Nat.le_refl _) (Nat.le_refl _) hRcells hRslots
  obtain ⟨s', hA⟩ : ∃ z, z = (T.setVm s.vm).setFrames (.invoking m args :: below) := ⟨_, rfl⟩
  rw [← hA] at Y
  have hvm : s'.vm = s.vm := by rw [hA]; rfl
  have hhp : s'.heap = H := by rw [hA]; exact hT
  have hW0 : s.WarmedH s'.vm := by rw [hvm]; exact State.WarmedH.refl s
  have hat' : ∀ w ∈ vx_atS own ic cls names, w.before args s' = true := fun w hw => vx_ot_at hW0 hvm.symm (hgood w (List.mem_cons_of_mem _ (List.mem_cons_of_mem _ hw))) (hat w hw)
  have hk' : (Cond.classLink own ik cls).before args s' = true := vx_ot_at hW0 hvm.symm (hgood _ List.mem_cons_self) hk
  have hini' : (Cond.initialized cls).before args s' = true := vx_ot_at hW0 hvm.symm (hgood _ (List.mem_cons_of_mem _ List.mem_cons_self)) hini
  have hU' : vx_Zq Bundle.tN "UNASSIGNED_STACK" Bundle.steD A s' s'.heap := by rw [hhp]; exact vx_Zq.moved hW0.alike (hU.kept hS.2.1)
  have hN' : vx_Zq Bundle.tN "SUPPRESSED_SENTINEL" Bundle.listD A s' s'.heap := by rw [hhp]; exact vx_Zq.moved hW0.alike (hN.kept hS.2.1)
  have h : ∀ w ∈ Bundle.ownAtoms own ic cls names, w.before args s' = true := vx_own hat' (vx_isRefq hU'.1) (vx_isRefq hN'.1) hU'.2.word hN'.2.word
  have hown' : s'.vm.findClass own = some m.cls := by rw [hvm]; exact hown
  have hins : (Cond.instantiable cls 6).before args s' = true := h _ (by simp [Bundle.ownAtoms])
  obtain ⟨vm₁, cX, kX, hfX, hkX, -, -, X₁, st1⟩ := Y.newCold hexec (own := own) (C := cls) (index := ik) (n := 6) hown' hk' hins hini'
    (g := F0 m pc ls rest) rfl (by rw [hb]; exact d0) (Nat.le_refl _) (Nat.le_refl _)
  generalize hT1 : (T.setVm vm₁).pushCell { cls := cX, slots := kX.instanceTypes.map defaultValue, vm := .none } = T1 at X₁ st1
  have hcat : (Value.ref T.heap.size).category = 1 := rfl
  have hcellA : T1.heap[T.heap.size]? = some (freshCell cX kX) := by rw [← hT1]; exact State.heap_pushCell_size _ _
  have d3' : decode c.code (pc + 3) = .ok (.dup, 1) := by rw [hb]; exact d3
  have d4' : decode c.code (pc + 4) = .ok (.ldc is, 2) := by rw [hb]; exact d4
  have hstr' : vk_R own is text sa s' := vk_R.warm hW0 hstr
  obtain ⟨U, hsteps, hrun, hend, hW, hsame, ce, hce, hO⟩ := X₁.ctorThrowS hexec htr (own := own) (cls := cls) (names := names) (ic := ic) hown' hcls hnames h (fun x hx => nomatch hx) hfX hkX hcellA (by rw [hhp, hT]; exact Nat.le_refl _) (msg := .ref sa) rfl
    (g := { method := m, pc := pc + 6, locals := ls, stack := .ref sa :: .ref T.heap.size :: .ref T.heap.size :: rest, locked := none }) rfl hsize rfl rfl (rest := rest) rfl
    (by rw [hb]; exact d6) (by rw [hb]; exact d9) hout hRframes (by simp only [List.map_cons, List.sum_cons, hcat]; omega) hlocks
  obtain ⟨f1, f2⟩ := vx_frame hsame
  rw [hhp] at f1 f2
  have hWs : s.WarmedH U.vm := State.WarmedH.trans hW0 hW
  have hcl : s.vm.findClass cls = some ce.cls := by
    have h9 := hO.cls
    rw [hvm] at h9
    exact h9
  have hall : s.sameButNew ({ U with vm := s.vm } : State) locs mc ms := by
    subst hA
    obtain ⟨e1, e2⟩ := hsame
    rw [State.setFrames_setFrames] at e1
    have h2 : (T.setVm s.vm).sameButNew ({ U with vm := s.vm } : State) [] (0 + 1) (0 + 6) := ⟨e1, e2⟩
    have h3 := X.same.trans h2
    rw [List.append_nil] at h3
    exact h3.mono hc hs
  refine ⟨U, ?_, .threw T.heap.size, hrun, hend, Or.inr ⟨T.heap.size, rfl, cls, ce, locs, hx U hWs.alike f1 (fun q hq => f2 q hq (fun z hz => nomatch hz)), hce, hO.vm, hcl, hWs, hall, hf⟩⟩
  refine st1 _ ?_
  show Steps p.tables e below (T1.setTop { method := m, pc := pc + 3, locals := ls, stack := .ref T.heap.size :: rest, locked := none }) _
  jvm_step X₁.here [X₁.here.top, hexec, d3', Value.category]
  exact X₁.ldcString hexec (own := own) (text := text) (index := is) (a := sa) hown' hstr'.1 hstr'.2
    (g := { method := m, pc := pc + 4, locals := ls, stack := .ref T.heap.size :: .ref T.heap.size :: rest, locked := none }) rfl d4' _ hsteps
/-- 'throw new E("text")', the text by a wide index -/
theorem vx_throwSW {cc : ByteArray} {pc : Nat} (hexec : p.tables.exec = Jvm.exec) (hb : c.code = cc) (hl : l.stackTraces = false) {own cls text : String} {names : List String} {ik is ic mc ms sa : Nat} {A : Nat → Prop}
    (hown : s.vm.findClass own = some m.cls) (hcls : Bundle.fit cls = true) (hnames : ∀ n ∈ names, Bundle.fit n = true)
    (hk : (Cond.classLink own ik cls).before args s = true) (hini : (Cond.initialized cls).before args s = true) (hstr : vk_R own is text sa s) (hat : ∀ w ∈ vx_atS own ic cls names, w.before args s = true)
    (hgood : ∀ w ∈ Cond.classLink own ik cls :: Cond.initialized cls :: vx_atS own ic cls names, vx_ot w = true)
    (hU : vx_Zq Bundle.tN "UNASSIGNED_STACK" Bundle.steD A s s.heap) (hN : vx_Zq Bundle.tN "SUPPRESSED_SENTINEL" Bundle.listD A s s.heap) (hS : va_S A s.heap H locs) (hsize : ls.size = c.maxLocals)
    (d0 : decode cc pc = .ok (.new ik, 3)) (d3 : decode cc (pc + 3) = .ok (.dup, 1)) (d4 : decode cc (pc + 4) = .ok (.ldc_w is, 3)) (d7 : decode cc (pc + 7) = .ok (.invokespecial ic, 3)) (d10 : decode cc (pc + 10) = .ok (.athrow, 1))
    (hout : ∀ x ∈ c.exceptionTable.toList, covers x (pc + 10) = false)
    (hRframes : names.length + 3 < R.frames) (hRlocals : (rest.map fun v => v.category).sum + (13 * (names.length + 1) + 43) ≤ R.locals) (hRcells : cells + 1 ≤ R.cells) (hRslots : slots + 6 ≤ R.slots) (hlocks : meth.locks = false)
    (hx : ∀ t : State, s.vm.Alike t.vm → H.size ≤ t.heap.size → (∀ q : Nat, q < H.size → t.heap[q]? = H[q]?) → XC cls s t)
    (hf : ∀ z ∈ locs, free z.base) (hc : cells + 1 ≤ mc) (hs : slots + 6 ≤ ms) :
    W p l e R s m args below meth c H locs cells slots (vx_MQ below Qc XC args s mc ms free) (F0 m pc ls rest) := by
  intro T hT X
  have htr : e.platform.stackTraces = false := (show e.platform.stackTraces = l.stackTraces by rw [X.admits.platform]).trans hl
  have Y := vx_rebase X (R' := { frames := R.frames, locals := R.locals, cells := 1, slots := 6 }) (Nat.le_refl _) (Nat.le_refl _) hRcells hRslots
  obtain ⟨s', hA⟩ : ∃ z, z = (T.setVm s.vm).setFrames (.invoking m args :: below) := ⟨_, rfl⟩
  rw [← hA] at Y
  have hvm : s'.vm = s.vm := by rw [hA]; rfl
  have hhp : s'.heap = H := by rw [hA]; exact hT
  have hW0 : s.WarmedH s'.vm := by rw [hvm]; exact State.WarmedH.refl s
  have hat' : ∀ w ∈ vx_atS own ic cls names, w.before args s' = true := fun w hw => vx_ot_at hW0 hvm.symm (hgood w (List.mem_cons_of_mem _ (List.mem_cons_of_mem _ hw))) (hat w hw)
  have hk' : (Cond.classLink own ik cls).before args s' = true := vx_ot_at hW0 hvm.symm (hgood _ List.mem_cons_self) hk
  have hini' : (Cond.initialized cls).before args s' = true := vx_ot_at hW0 hvm.symm (hgood _ (List.mem_cons_of_mem _ List.mem_cons_self)) hini
  have hU' : vx_Zq Bundle.tN "UNASSIGNED_STACK" Bundle.steD A s' s'.heap := by rw [hhp]; exact vx_Zq.moved hW0.alike (hU.kept hS.2.1)
  have hN' : vx_Zq Bundle.tN "SUPPRESSED_SENTINEL" Bundle.listD A s' s'.heap := by rw [hhp]; exact vx_Zq.moved hW0.alike (hN.kept hS.2.1)
  have h : ∀ w ∈ Bundle.ownAtoms own ic cls names, w.before args s' = true := vx_own hat' (vx_isRefq hU'.1) (vx_isRefq hN'.1) hU'.2.word hN'.2.word
  have hown' : s'.vm.findClass own = some m.cls := by rw [hvm]; exact hown
  have hins : (Cond.instantiable cls 6).before args s' = true := h _ (by simp [Bundle.ownAtoms])
  obtain ⟨vm₁, cX, kX, hfX, hkX, -, -, X₁, st1⟩ := Y.newCold hexec (own := own) (C := cls) (index := ik) (n := 6) hown' hk' hins hini'
    (g := F0 m pc ls rest) rfl (by rw [hb]; exact d0) (Nat.le_refl _) (Nat.le_refl _)
  generalize hT1 : (T.setVm vm₁).pushCell { cls := cX, slots := kX.instanceTypes.map defaultValue, vm := .none } = T1 at X₁ st1
  have hcat : (Value.ref T.heap.size).category = 1 := rfl
  have hcellA : T1.heap[T.heap.size]? = some (freshCell cX kX) := by rw [← hT1]; exact State.heap_pushCell_size _ _
  have d3' : decode c.code (pc + 3) = .ok (.dup, 1) := by rw [hb]; exact d3
  have d4' : decode c.code (pc + 4) = .ok (.ldc_w is, 3) := by rw [hb]; exact d4
  have hstr' : vk_R own is text sa s' := vk_R.warm hW0 hstr
  obtain ⟨U, hsteps, hrun, hend, hW, hsame, ce, hce, hO⟩ := X₁.ctorThrowS hexec htr (own := own) (cls := cls) (names := names) (ic := ic) hown' hcls hnames h (fun x hx => nomatch hx) hfX hkX hcellA (by rw [hhp, hT]; exact Nat.le_refl _) (msg := .ref sa) rfl
    (g := { method := m, pc := pc + 7, locals := ls, stack := .ref sa :: .ref T.heap.size :: .ref T.heap.size :: rest, locked := none }) rfl hsize rfl rfl (rest := rest) rfl
    (by rw [hb]; exact d7) (by rw [hb]; exact d10) hout hRframes (by simp only [List.map_cons, List.sum_cons, hcat]; omega) hlocks
  obtain ⟨f1, f2⟩ := vx_frame hsame
  rw [hhp] at f1 f2
  have hWs : s.WarmedH U.vm := State.WarmedH.trans hW0 hW
  have hcl : s.vm.findClass cls = some ce.cls := by
    have h9 := hO.cls
    rw [hvm] at h9
    exact h9
  have hall : s.sameButNew ({ U with vm := s.vm } : State) locs mc ms := by
    subst hA
    obtain ⟨e1, e2⟩ := hsame
    rw [State.setFrames_setFrames] at e1
    have h2 : (T.setVm s.vm).sameButNew ({ U with vm := s.vm } : State) [] (0 + 1) (0 + 6) := ⟨e1, e2⟩
    have h3 := X.same.trans h2
    rw [List.append_nil] at h3
    exact h3.mono hc hs
  refine ⟨U, ?_, .threw T.heap.size, hrun, hend, Or.inr ⟨T.heap.size, rfl, cls, ce, locs, hx U hWs.alike f1 (fun q hq => f2 q hq (fun z hz => nomatch hz)), hce, hO.vm, hcl, hWs, hall, hf⟩⟩
  refine st1 _ ?_
  show Steps p.tables e below (T1.setTop { method := m, pc := pc + 3, locals := ls, stack := .ref T.heap.size :: rest, locked := none }) _
  jvm_step X₁.here [X₁.here.top, hexec, d3', Value.category]
  exact X₁.ldcStringW hexec (own := own) (text := text) (index := is) (a := sa) hown' hstr'.1 hstr'.2
    (g := { method := m, pc := pc + 4, locals := ls, stack := .ref T.heap.size :: .ref T.heap.size :: rest, locked := none }) rfl d4' _ hsteps
end Ends
section Bodies
variable {l : Launch}
theorem vx_ofW {y : MethodName} {ws ws' : List Cond} {rm : Room} {Pc : Array Value → State → Prop} {Qc : Array Value → State → Outcome → State → Prop} {XC : String → State → State → Prop} {mc ms : Nat} {free : Addr → Prop} {cc : ByteArray} {maxL : Nat} {ret : Option FieldType}
    (hy : plainName y.cls = true) (hw : ws = Cond.code y cc maxL ret :: ws')
    (body : ∀ p e s m args below meth c s₁, BodyLoose p l y (headSpec ws rm) cc maxL ret e s m args below meth c s₁ → c.maxLocals = maxL → (∀ x ∈ c.exceptionTable.toList, False) → Pc args s →
      W p l e (headSpec ws rm).room s m args below meth c s.heap [] 0 0 (vx_MQ below Qc XC args s mc ms free) (entryFrame m args maxL)) : vx_Met l y ws rm Pc Qc XC mc ms free := by
  refine MetFree.of_bodyS (code := cc) (maxLocals := maxL) (ret := ret) hy ?_ ?_
  · intro args s m h hn
    obtain ⟨meth, c, h1, h2, h3, h4, h5, h6, -, -⟩ := Cond.code_spec hn (atoms_spec (ws := ws) h _ (by rw [hw]; exact List.mem_cons_self))
    exact ⟨meth, c, h1, h2, h3, h4, h5, h6⟩
  · intro p e s m args below meth c s₁ B hml hP _
    have hh0 : s₁.heap = s.heap := by rw [B.state]; rfl
    have ht : ∀ x ∈ c.exceptionTable.toList, False := by
      obtain ⟨meth9, c9, h1, h2, -, -, -, -, h7, -⟩ := Cond.code_spec B.named (atoms_spec (ws := ws) B.pre _ (by rw [hw]; exact List.mem_cons_self))
      cases Option.some.inj (h1.symm.trans B.method)
      cases Option.some.inj (h2.symm.trans (Stand.of_body B).code)
      intro x hx
      rw [Array.isEmpty_iff.mp h7] at hx
      cases hx
    obtain ⟨t, a1, o, b1, b2, b3⟩ := body p e s m args below meth c s₁ B hml ht hP s₁ hh0 (Stand.of_body B)
    exact ⟨t, o, a1, b1, b2, b3⟩
/-- the table of a body with handlers -/
theorem vx_table {p : Program} {x y : MethodName} {S : Spec} {cc bytes : ByteArray} {maxL maxL' : Nat} {ret ret' : Option FieldType} {e : Env} {s s₁ : State} {m : MethodId} {args : Array Value} {below : List Frame} {meth : Method} {c : Code} {hh : List (Nat × Nat × Nat × Nat)}
    (B : BodyLoose p l y S cc maxL ret e s m args below meth c s₁) (h : (Cond.codeWith y bytes maxL' ret' hh).before args s = true) : c.exceptionTable.toList = tableOf hh := by
  obtain ⟨m9, meth9, c9, hn9, h1, h2, -, -, h6, -⟩ := Cond.codeWith_spec h
  cases Option.some.inj (hn9.symm.trans B.named)
  cases Option.some.inj (h1.symm.trans B.method)
  cases Option.some.inj (h2.symm.trans (Stand.of_body B).code)
  rw [← h6, table_eq]
end Bodies
end VXA
/-! ===== END ===== -/
/-! ===== BEGIN a static call of a method with an exception table ===== -/
section VXS
variable {p : Program} {l : Launch} {e : Env} {R : Room} {s : State} {m : MethodId} {args : Array Value} {below : List Frame} {meth : Method} {c : Code} {T : State} {H : Heap} {locs : List Loc} {cells slots : Nat}
abbrev vx_CSW (R : Room) (s : State) (args : Array Value) (own : String) (index : Nat) (y : MethodName) (bytes : ByteArray) (maxL : Nat) (ret : Option FieldType) (hh : List (Nat × Nat × Nat × Nat)) (ws : List Cond) (rm : Room) (mc ms n : Nat) : Prop :=
  (rm.cells = mc ∧ rm.slots = ms ∧ rm.frames + 1 ≤ R.frames ∧ 8 + (maxL + 11) + rm.locals ≤ R.locals ∧ (∀ w ∈ ws, ∀ (a' : Array Value) (U : State), s.WarmedH U.vm → w.before a' U = true) ∧ Cond.codeWith y bytes maxL ret hh ∈ ws) ∧
  (Cond.codeWith y bytes maxL ret hh).before args s = true ∧ (Cond.initialized y.cls).before args s = true ∧ (y.cls ≠ "java/lang/invoke/MethodHandle" ∧ y.cls ≠ "java/lang/invoke/VarHandle") ∧
  (∀ sig, parseMethodDescriptor y.desc = some sig → n = sig.parameters.length) ∧ (Cond.methodLink own index y).before args s = true ∧ (Cond.static y).before args s = true
theorem vx_cwSW {own : String} {index maxL mc ms : Nat} {y : MethodName} {bytes : ByteArray} {ret : Option FieldType} {hh : List (Nat × Nat × Nat × Nat)} {Ts ws ws' : List Cond} {rm : Room} (n : Nat) (ht : ∀ w ∈ Ts, w.before args s = true) (hT : GoodIn Ts (va_wsS own index y ws)) (hw : ws = Cond.codeWith y bytes maxL ret hh :: ws') (hrc : rm.cells = mc) (hrs : rm.slots = ms)
    (hd : y.cls ≠ "java/lang/invoke/MethodHandle" ∧ y.cls ≠ "java/lang/invoke/VarHandle" ∧ (parseMethodDescriptor y.desc).map (fun d => d.parameters.length) = some n) (hR : rm.frames + 1 ≤ R.frames ∧ 8 + (maxL + 11) + rm.locals ≤ R.locals) :
    vx_CSW R s args own index y bytes maxL ret hh ws rm mc ms n := by
  have ok : ∀ w ∈ va_wsS own index y ws, w.before args s = true := fun w h => ht w (hT w h).1
  have hG : GoodIn Ts ws := fun w h => hT w (by unfold va_wsS; exact List.mem_append_right _ h)
  have hc : Cond.codeWith y bytes maxL ret hh ∈ ws := by rw [hw]; exact List.mem_cons_self
  refine ⟨⟨hrc, hrs, hR.1, hR.2, pay_in ht hG, hc⟩, ht _ (hG _ hc).1, ok _ (by simp [va_wsS]), ⟨hd.1, hd.2.1⟩, fun sig h => ?_, ok _ (by simp [va_wsS]), ok _ (by simp [va_wsS])⟩
  have h2 := hd.2.2
  rw [h] at h2
  exact (Option.some.inj h2).symm
theorem vx_callSW (X : Stand p l e R s m args below meth c T locs cells slots) (hexec : p.tables.exec = Jvm.exec) {own : String} {index : Nat} {y : MethodName} {bytes : ByteArray} {maxL : Nat} {ret : Option FieldType} {hh : List (Nat × Nat × Nat × Nat)}
    (hown : s.vm.findClass own = some m.cls) (hlink : (Cond.methodLink own index y).before args s = true) (hstat : (Cond.static y).before args s = true) (hinit : (Cond.initialized y.cls).before args s = true)
    (hcode : (Cond.codeWith y bytes maxL ret hh).before args s = true) (hy : y.cls ≠ "java/lang/invoke/MethodHandle" ∧ y.cls ≠ "java/lang/invoke/VarHandle")
    {W9 : Nat} {Pre : Pt → Array Value → Prop} {Post : Pt → Array Value → Option Value → Pt → Prop} (hK : Back l R p e below s args y 3 W9 Pre Post)
    {g : JFrame} (hg : g.method = m) (hsize : g.locals.size = c.maxLocals) {argsL rest : List Value} (hlen : ∀ sig, parseMethodDescriptor y.desc = some sig → argsL.length = sig.parameters.length)
    (hstack : g.stack = argsL.reverse ++ rest) (hW : 2 * g.monitorRoom + (rest.map fun v => v.category).sum ≤ W9) (hdg : decode c.code g.pc = .ok (.invokestatic index, 3))
    (hpre : ∀ vm₁, s.WarmedH vm₁ → Pre ⟨T.setVm vm₁, locs, cells, slots⟩ argsL.toArray) :
    ∃ (v : Option Value) (vm₁ : Vm) (B : Pt), s.WarmedH vm₁ ∧ Stand p l e R s m args below meth c B.U B.locs B.cells B.slots ∧ Post ⟨T.setVm vm₁, locs, cells, slots⟩ argsL.toArray v B ∧
      ∀ target, Steps p.tables e below (B.U.setTop { g with pc := g.pc + 3, stack := v.toList ++ rest }) target → Steps p.tables e below (T.setTop g) target := by
  obtain ⟨mk, methM, cM, hnamed, hmethM, -, -, -, -, -, -, hsigM⟩ := Cond.codeWith_spec hcode
  have hstatic : methM.isStatic = true := Cond.static_spec hnamed hmethM hstat
  obtain ⟨kP, hkP, -⟩ := className_of_methodNamed hnamed
  have hinitP : kP.init = .initialized := Cond.initialized_spec (findClass_of_methodNamed hnamed) hkP hinit
  obtain ⟨vm₁, X₁, hstep₁⟩ := X.invokestatic hexec hown hlink hnamed hmethM hstatic hkP hinitP hy (g := g) hg (argsL := argsL) (rest := rest) (hlen _ hsigM) hstack hdg
  obtain ⟨v, B, X', hpost, hsteps⟩ := hK m meth c ⟨T.setVm vm₁, locs, cells, slots⟩ { g with stack := rest } (.invokestatic index) mk argsL.toArray X₁ hg hsize hdg hW (X₁.named hnamed) (hpre vm₁ X₁.warmed)
  exact ⟨v, vm₁, B, X₁.warmed, X', hpost, fun target h => hstep₁ _ fun acts => by rw [doInvoke_state]; exact hsteps.trans h⟩
theorem vx_runSW {y : MethodName} {bytes cc : ByteArray} {maxL nL mc ms n index : Nat} {ret : Option FieldType} {hh : List (Nat × Nat × Nat × Nat)} {ws : List Cond} {rm : Room} {Pc : Array Value → State → Prop} {Qc : Array Value → State → Outcome → State → Prop} {free : Addr → Prop} {Ts : List Cond} {own : String} {As rest : List Value} {g : JFrame}
    (S : CallFix p m c cc nL s args Ts own) (hM : Met l y ws rm Pc Qc mc ms free) (cw : vx_CSW R s args own index y bytes maxL ret hh ws rm mc ms n) (hp : PreS s H Pc As)
    (hg : g.method = m) (hn : As.length = n) (hsize : g.locals.size = nL) (hstack : g.stack = As.reverse ++ rest) (hW : 2 * g.monitorRoom + (rest.map fun v => v.category).sum ≤ 8) (hdg : decode cc g.pc = .ok (.invokestatic index, 3)) (hf : cells + mc ≤ R.cells ∧ slots + ms ≤ R.slots) :
    va_Run p l e R s m args below meth c H locs cells slots mc ms g rest (Qc As.toArray) (free) := by
  obtain ⟨⟨hrc, hrs, hfr, hlo, hws, hcw⟩, hcode, hini, hy, hlen, hl, hstt⟩ := cw
  have hK : Back l R p e below s args y 3 8 (PreOf R mc ms Pc) (PostOf Qc mc ms free) := va_backW (hh := hh) (bytes := bytes) (maxL := maxL) (ret := ret) hM hp.1 hrc hrs hfr hlo hws hcw (fun a' U hW => word_at hW (Or.inl (by first | rfl | simp [Cond.onTables, Cond.keeps, Cond.steady])) hini)
  obtain ⟨hx, hb, hml, ho, -⟩ := S
  intro T hT X
  obtain ⟨v, vm₁, ⟨U', l2, c2, s2⟩, hW₁, X', ⟨g', mk, t, L, e1, e2, hq, h1, hL, h2, h3⟩, st⟩ := vx_callSW X hx (hh := hh) (bytes := bytes) (maxL := maxL) (ret := ret) ho hl hstt hini hcode hy hK hg (hsize.trans hml.symm) (argsL := As) (rest := rest) (fun sig h => hn.trans (hlen sig h)) hstack hW (by rw [hb]; exact hdg)
    (fun vm₁ hW₁ => ⟨hf.1, hf.2, hp.2 (T.setVm vm₁) hT hW₁⟩)
  dsimp only [Pt.U, Pt.locs, Pt.cells, Pt.slots] at X' e1 e2 h1 h2 h3 st
  subst h1; subst h2; subst h3
  exact ⟨v, (T.setVm vm₁).calling g' mk As.toArray, t, U', L, hT, X', hL, e1, e2, hq, st⟩
/-- not caught here, past rows that name other classes: it goes on to the caller -/
theorem vx_outP {p : Program} {l : Launch} {e : Env} {R : Room} {s : State} {m : MethodId} {args : Array Value} {below : List Frame} {meth : Method} {c : Code} {H : Heap} {locs : List Loc} {cells slots : Nat} {free : Addr → Prop} {ls : Array Slot} {rest : List Value} {Qc : Array Value → State → Outcome → State → Prop} {XC : String → State → State → Prop}
    {pc : Nat} {own E : String} {ce : Cell} {q : Addr} {mc ms : Nat} (hown : s.vm.findClass own = some m.cls) (hlocks : meth.locks = false)
    (hpass : ∀ z ∈ c.exceptionTable.toList, covers z pc = false ∨ (z.catchType ≠ 0 ∧ ∃ nm : String, (Cond.classLink own z.catchType nm).before args s = true ∧ va_Nc E nm s)) (hcell : H[q]? = some ce) (hv : ce.vm = .none) (hcl : s.vm.findClass E = some ce.cls)
    (hx : ∀ t : State, t.heap = H → s.vm.Alike t.vm → XC E s t) (hf : ∀ z ∈ locs, free z.base) (hc : cells ≤ mc) (hs : slots ≤ ms) :
    vx_W p l e R s m args below meth c H locs cells slots (vx_MQ below Qc XC args s mc ms free) (F0 m pc ls rest) q := by
  intro T hT X
  have hpl : e.platform.magicAccessors = ({} : Platform).magicAccessors := by rw [X.admits.platform]
  obtain ⟨vm', hW', X', st⟩ := X.outThrough hlocks q (g := F0 m pc ls rest) rfl rfl rfl (cell := ce) (by rw [hT]; exact hcell) (by rw [hv]; rfl)
    (by obtain ⟨k9, h9, -⟩ := Vm.findClass_spec hcl; exact ⟨k9, h9⟩) (fun z hz => by
      rcases hpass z hz with h | ⟨hz0, nm, hl1, hn1⟩
      · exact Or.inl h
      · obtain ⟨c6, hc6, hcl6⟩ := Cond.classLink_spec hown hl1 e.platform hpl
        obtain ⟨a8, b8, h1, h2, h3⟩ := hn1
        cases Option.some.inj (h1.symm.trans hcl)
        cases Option.some.inj (h2.symm.trans hc6)
        exact Or.inr ⟨hz0, _, hcl6, h3⟩)
  obtain ⟨g₀, hfr⟩ := X'.frames_eq
  have hcell9 : ((T.setVm vm').setFrames (.throwing q :: below)).heap[q]? = some ce := by
    show T.heap[q]? = some ce
    rw [hT]; exact hcell
  have hend : Ended ((T.setVm vm').setFrames (.throwing q :: below)) below (.threw q) := State.frames_setFrames _ (State.cur_lt_of_frames hfr)
  refine ⟨(T.setVm vm').setFrames (.throwing q :: below), ?_, .threw q, X'.here.running, hend, Or.inr ⟨q, rfl, E, ce, locs, hx _ hT (X'.ends _).1.alike, hcell9, hv, hcl, (X'.ends _).1, (X'.ends _).2.mono hc hs, hf⟩⟩
  rw [X.pushThrowing_eq]
  exact st
/-- a thing of a world lies in the heap -/
theorem vx_lt {D : va_G} {cl : List vw_C} {ws : va_W} {H1 : Heap} (h : va_P D cl ws H1) {k : Nat} {q : Nat × va_E} (hk : ws[k]? = some q) : q.1 < H1.size := (h k q hk).lt
end VXS
/-! ===== END ===== -/
/-! ===== BEGIN methods with a table of their own: called by a name, returning or throwing ===== -/
section VXH
/-! vx_backW, vx_callVX, vx_callSX, vx_callVW, vx_runVW, vx_runVX, vx_runSX, vx_ofWH follow the same proofs as their sisters above (Free/Laws.lean, Shelf42/LK1.lean); vx_outP calls Shelf42/NT130.lean (outThrough). -/
section
variable {l : Launch} {R : Room} {p : Program} {e : Env} {below : List Frame} {s : State} {sargs : Array Value} {y : MethodName} {len W9 : Nat}
theorem vx_backW {ws : List Cond} {rm : Room} {Pc : Array Value → State → Prop} {Qc : Array Value → State → Outcome → State → Prop} {XC : String → State → State → Prop} {mc ms : Nat} {free : Addr → Prop} {bytes : ByteArray} {maxL : Nat} {ret : Option FieldType} {hh : List (Nat × Nat × Nat × Nat)}
    (hM : vx_Met l y ws rm Pc Qc XC mc ms free) (hblind : FrameBlind Pc) (hrc : rm.cells = mc) (hrs : rm.slots = ms)
    (hframes : rm.frames + 1 ≤ R.frames) (hlocals : W9 + (maxL + 11) + rm.locals ≤ R.locals)
    (hws : ∀ w ∈ ws, ∀ a' U, s.WarmedH U.vm → w.before a' U = true) (hcode : Cond.codeWith y bytes maxL ret hh ∈ ws) (hinit : ∀ a' U, s.WarmedH U.vm → (Cond.initialized y.cls).before a' U = true) :
    vx_Back l R p e below s sargs y len W9 (PreOf R mc ms Pc) (PostOf Qc mc ms free) (vx_Post XC mc ms free) := by
  intro m meth c A g ig mk a X hg hsize hdg hW hn hp
  have h1 : (headSpec ws rm).pre.before a A.U = true := atoms_intro fun w hw => hws w hw _ _ X.warmed
  have h2 : (Cond.codeWith y bytes maxL ret hh).before a A.U = true := hws _ hcode _ _ X.warmed
  have h3 : (Cond.initialized y.cls).before a A.U = true := hinit _ _ X.warmed
  have h4 : A.cells + (headSpec ws rm).room.cells ≤ R.cells := by rw [show (headSpec ws rm).room.cells = mc from hrc]; exact hp.1
  have h5 : A.slots + (headSpec ws rm).room.slots ≤ R.slots := by rw [show (headSpec ws rm).room.slots = ms from hrs]; exact hp.2.1
  have hPc : Pc a (A.U.calling g mk a) := hblind _ _ _ _ hp.2.2
  obtain ⟨U, Ls, c0, s0⟩ := A
  dsimp only [Pt.U, Pt.locs, Pt.cells, Pt.slots] at h1 h2 h3 h4 h5 X hn hPc ⊢
  obtain ⟨m9, methY, cY, hn9, hmY, hcY, -, hlY, -⟩ := Cond.codeWith_spec h2
  cases Option.some.inj (hn9.symm.trans hn)
  obtain ⟨kY, hkY, -⟩ := className_of_methodNamed hn
  have hinitY : kY.init = .initialized := Cond.initialized_spec (findClass_of_methodNamed hn) hkY h3
  have h : At U g.method c below := by rw [hg]; exact X.here
  have hlocals9 : W9 + (maxL + 11) + (headSpec ws rm).room.locals ≤ R.locals := hlocals
  have happ : (headSpec ws rm).appliesLoose y e.platform (U.calling g mk a) = true :=
    Spec.appliesLoose_calling (g := g) h hdg hn hkY hinitY
      (X.room_calling (g := g) (R' := (headSpec ws rm).room) hsize hmY hcY hframes (by rw [hlY]; omega) h4 h5) h1
  obtain ⟨mid, hmid⟩ := h.above
  have hfr : (U.setTop g).frames = (.java g :: mid) ++ below := by rw [State.frames_setTop' g h.top, hmid]; rfl
  obtain ⟨o, s₂, hsteps, -, hend, hq⟩ := Steps.callFree hM p X.admits X.cas X.clock (acts := []) hfr happ hPc trivial
  have hq' : vx_Q Qc XC mc ms free a (U.calling g mk a) o s₂ := hq
  rw [State.frames_setTop' g h.top] at hend
  obtain ⟨g₀, hg0⟩ := Option.isSome_iff_exists.mp h.top
  obtain ⟨r, hr⟩ := State.topJava?_eq_some.mp hg0
  have hr' : (({ U with heap := s₂.heap, slotsUsed := s₂.slotsUsed } : State).setVm s₂.vm).frames = .java g₀ :: r := hr
  rcases hq' with ⟨hqc, L, hfe, hL⟩ | ⟨q, rfl, E, ce, L, hx, hce, hcv, hcl, hW₂, hsm, hL⟩
  · obtain ⟨⟨v, rfl⟩, hW₂, e2, q2, q3, q4, q5, q6⟩ := id hfe
    have e3 : s₂ = ({ (U.calling g mk a).setFrames s₂.frames with heap := s₂.heap, slotsUsed := s₂.slotsUsed } : State).setVm s₂.vm := by
      have : s₂ = ({ s₂ with vm := (U.calling g mk a).vm } : State).setVm s₂.vm := rfl
      rw [e2] at this
      exact this
    obtain ⟨c₂, i₂, len₂, hc₂, hd₂, hf₂⟩ := hend
    have hW' : U.WarmedH s₂.vm := hW₂
    have hcc : c₂ = c := by
      have h1 : s₂.code? g.method = U.code? g.method := by
        rw [State.code?_eq, State.code?_eq, hW'.alike.method?]
      exact Option.some.inj (hc₂.symm.trans (h1.trans h.code))
    subst hcc
    have hlen : len₂ = len := by rw [hdg] at hd₂; cases hd₂; rfl
    subst hlen
    have hs₂ : s₂ = (({ U with heap := s₂.heap, slotsUsed := s₂.slotsUsed } : State).setVm s₂.vm).setTop { g with pc := g.pc + len₂, stack := v.toList ++ g.stack } := by
      refine e3.trans ?_
      rw [hf₂, State.calling_eq h.top, State.setFrames_setFrames, State.setTop_of_frames _ hr', hr]
      rfl
    have hsame : U.sameButNew ({ U with heap := s₂.heap, slotsUsed := s₂.slotsUsed } : State) L mc ms := by
      refine ⟨?_, q2, q3, q4, q5, q6⟩
      obtain ⟨t, ht, -⟩ := State.frames_cons hr
      show ({ U with heap := s₂.heap, slotsUsed := s₂.slotsUsed } : State) = { U.setFrames U.frames with heap := s₂.heap, slotsUsed := s₂.slotsUsed }
      rw [State.setFrames_self ht]
    subst hg
    refine Or.inl ⟨v, ⟨(({ U with heap := s₂.heap, slotsUsed := s₂.slotsUsed } : State).setVm s₂.vm), Ls ++ L, c0 + mc, s0 + ms⟩,
      ⟨X.admits, X.cas, X.clock, X.frames, X.room, X.hears, X.method, X.code, (X.here.setHeapUsed s₂.heap s₂.slotsUsed).setVm hW'.alike, X.tail, State.WarmedH.trans X.warmed hW', X.limits, X.bytes, X.same.trans (hsame.setVm s.vm)⟩,
      ⟨g, mk, s₂, L, rfl, rfl, hqc, rfl, hL, rfl, rfl⟩, ?_⟩
    show Steps p.tables e below _ ((({ U with heap := s₂.heap, slotsUsed := s₂.slotsUsed } : State).setVm s₂.vm).setTop { g with pc := g.pc + len₂, stack := v.toList ++ g.stack })
    rw [← hs₂]
    exact hsteps
  · obtain ⟨e2, q2, q3, q4, q5, q6⟩ := id hsm
    have e3 : s₂ = ({ (U.calling g mk a).setFrames s₂.frames with heap := s₂.heap, slotsUsed := s₂.slotsUsed } : State).setVm s₂.vm := by
      have : s₂ = ({ s₂ with vm := (U.calling g mk a).vm } : State).setVm s₂.vm := rfl
      rw [e2] at this
      exact this
    have hf₂ : s₂.frames = .throwing q :: .java g :: U.frames.tail := hend
    have hW' : U.WarmedH s₂.vm := hW₂
    have hs₂ : s₂ = ((({ U with heap := s₂.heap, slotsUsed := s₂.slotsUsed } : State).setVm s₂.vm).setTop g).pushFrame (.throwing q) := by
      refine e3.trans ?_
      rw [hf₂, State.calling_eq h.top, State.setFrames_setFrames, State.pushFrame, State.frames_setTop _ hr', State.setTop_of_frames _ hr', State.setFrames_setFrames, hr]
      rfl
    have hsame : U.sameButNew ({ U with heap := s₂.heap, slotsUsed := s₂.slotsUsed } : State) L mc ms := by
      refine ⟨?_, q2, q3, q4, q5, q6⟩
      obtain ⟨t, ht, -⟩ := State.frames_cons hr
      show ({ U with heap := s₂.heap, slotsUsed := s₂.slotsUsed } : State) = { U.setFrames U.frames with heap := s₂.heap, slotsUsed := s₂.slotsUsed }
      rw [State.setFrames_self ht]
    subst hg
    refine Or.inr ⟨q, ⟨(({ U with heap := s₂.heap, slotsUsed := s₂.slotsUsed } : State).setVm s₂.vm), Ls ++ L, c0 + mc, s0 + ms⟩,
      ⟨X.admits, X.cas, X.clock, X.frames, X.room, X.hears, X.method, X.code, (X.here.setHeapUsed s₂.heap s₂.slotsUsed).setVm hW'.alike, X.tail, State.WarmedH.trans X.warmed hW', X.limits, X.bytes, X.same.trans (hsame.setVm s.vm)⟩,
      ⟨g, mk, s₂, L, E, ce, rfl, rfl, hx, hce, hcv, hcl, rfl, hL, rfl, rfl⟩, ?_⟩
    show Steps p.tables e below _ (((({ U with heap := s₂.heap, slotsUsed := s₂.slotsUsed } : State).setVm s₂.vm).setTop g).pushFrame (.throwing q))
    rw [← hs₂]
    exact hsteps
end
variable {p : Program} {l : Launch} {e : Env} {R : Room} {s : State} {m : MethodId} {args : Array Value} {below : List Frame} {meth : Method} {c : Code} {T : State} {H : Heap} {locs : List Loc} {cells slots : Nat}
theorem vx_callVX (X : Stand p l e R s m args below meth c T locs cells slots) (hexec : p.tables.exec = Jvm.exec) {own C : String} {index : Nat} {y : MethodName} {bytes : ByteArray} {maxL : Nat} {ret : Option FieldType} {hh : List (Nat × Nat × Nat × Nat)}
    (hown : s.vm.findClass own = some m.cls) (hlink : (Cond.methodLink own index y).before args s = true) (hinst : (Cond.instanceMethod y).before args s = true) (hsel : (Cond.selects C y y).before args s = true)
    (hcode : (Cond.codeWith y bytes maxL ret hh).before args s = true) (hy : y.cls ≠ "java/lang/invoke/MethodHandle" ∧ y.cls ≠ "java/lang/invoke/VarHandle")
    {W9 : Nat} {Pre : Pt → Array Value → Prop} {Post : Pt → Array Value → Option Value → Pt → Prop} {PostX : Pt → Array Value → Addr → Pt → Prop} (hK : vx_Back l R p e below s args y 3 W9 Pre Post PostX)
    {b : Addr} {cellB : Cell} (hcell : T.heap[b]? = some cellB) (hobj : cellB.vm.isStatics = false) (hcls : s.vm.findClass C = some cellB.cls)
    {g : JFrame} (hg : g.method = m) (hsize : g.locals.size = c.maxLocals) {argsL rest : List Value} (hlen : ∀ sig, parseMethodDescriptor y.desc = some sig → argsL.length = sig.parameters.length)
    (hstack : g.stack = argsL.reverse ++ .ref b :: rest) (hW : 2 * g.monitorRoom + (rest.map fun v => v.category).sum ≤ W9) (hdg : decode c.code g.pc = .ok (.invokevirtual index, 3))
    (hpre : ∀ vm₁, s.WarmedH vm₁ → Pre ⟨T.setVm vm₁, locs, cells, slots⟩ (Value.ref b :: argsL).toArray) :
    (∃ (v : Option Value) (vm₁ : Vm) (B : Pt), s.WarmedH vm₁ ∧ Stand p l e R s m args below meth c B.U B.locs B.cells B.slots ∧ Post ⟨T.setVm vm₁, locs, cells, slots⟩ (Value.ref b :: argsL).toArray v B ∧
      ∀ target, Steps p.tables e below (B.U.setTop { g with pc := g.pc + 3, stack := v.toList ++ rest }) target → Steps p.tables e below (T.setTop g) target) ∨
    (∃ (q : Addr) (vm₁ : Vm) (B : Pt), s.WarmedH vm₁ ∧ Stand p l e R s m args below meth c B.U B.locs B.cells B.slots ∧ PostX ⟨T.setVm vm₁, locs, cells, slots⟩ (Value.ref b :: argsL).toArray q B ∧
      Steps p.tables e below (T.setTop g) ((B.U.setTop { g with stack := rest }).pushFrame (.throwing q))) := by
  obtain ⟨mk, methM, hnamed, hmethM, hstM, habM⟩ := Cond.instanceMethod_spec hinst
  obtain ⟨m8, methM', cM, hn8, hmethM', -, -, -, -, -, -, hsigM⟩ := Cond.codeWith_spec hcode
  cases Option.some.inj (hn8.symm.trans hnamed)
  cases hmethM.symm.trans hmethM'
  obtain ⟨c2, r2, m2, q1, q2, q3, q4, kP, hkP, hkPi⟩ := Cond.selects_spec hsel
  cases hcls.symm.trans q1
  cases (State.methodFound?_of_named hnamed hy).symm.trans q2
  cases hnamed.symm.trans q3
  have hselP : selectMethod e.platform s.vm cellB.cls mk = .method mk := by rw [Launch.admits_selectMethod X.admits]; exact q4
  obtain ⟨vm₁, X₁, hstep₁⟩ := X.invokevirtual hexec hown hlink hnamed hmethM hstM hkP hkPi hy (a := b) (cell := cellB) hcell
    (fun z h => by rw [h] at hobj; cases hobj) hselP hmethM habM hkP hkPi (g := g) hg (argsL := argsL) (rest := rest) (hlen _ hsigM) hstack hdg
  rcases hK m meth c ⟨T.setVm vm₁, locs, cells, slots⟩ { g with stack := rest } (.invokevirtual index) mk (Value.ref b :: argsL).toArray X₁ hg hsize hdg hW (X₁.named hnamed) (hpre vm₁ X₁.warmed) with ⟨v, B, X', hpost, hsteps⟩ | ⟨q, B, X', hpost, hsteps⟩
  · exact Or.inl ⟨v, vm₁, B, X₁.warmed, X', hpost, fun target h => hstep₁ _ fun acts => by rw [doInvoke_state]; exact hsteps.trans h⟩
  · exact Or.inr ⟨q, vm₁, B, X₁.warmed, X', hpost, hstep₁ _ fun acts => by rw [doInvoke_state]; exact hsteps⟩
theorem vx_callSX (X : Stand p l e R s m args below meth c T locs cells slots) (hexec : p.tables.exec = Jvm.exec) {own : String} {index : Nat} {y : MethodName} {bytes : ByteArray} {maxL : Nat} {ret : Option FieldType} {hh : List (Nat × Nat × Nat × Nat)}
    (hown : s.vm.findClass own = some m.cls) (hlink : (Cond.methodLink own index y).before args s = true) (hstat : (Cond.static y).before args s = true) (hinit : (Cond.initialized y.cls).before args s = true)
    (hcode : (Cond.codeWith y bytes maxL ret hh).before args s = true) (hy : y.cls ≠ "java/lang/invoke/MethodHandle" ∧ y.cls ≠ "java/lang/invoke/VarHandle")
    {W9 : Nat} {Pre : Pt → Array Value → Prop} {Post : Pt → Array Value → Option Value → Pt → Prop} {PostX : Pt → Array Value → Addr → Pt → Prop} (hK : vx_Back l R p e below s args y 3 W9 Pre Post PostX)
    {g : JFrame} (hg : g.method = m) (hsize : g.locals.size = c.maxLocals) {argsL rest : List Value} (hlen : ∀ sig, parseMethodDescriptor y.desc = some sig → argsL.length = sig.parameters.length)
    (hstack : g.stack = argsL.reverse ++ rest) (hW : 2 * g.monitorRoom + (rest.map fun v => v.category).sum ≤ W9) (hdg : decode c.code g.pc = .ok (.invokestatic index, 3))
    (hpre : ∀ vm₁, s.WarmedH vm₁ → Pre ⟨T.setVm vm₁, locs, cells, slots⟩ argsL.toArray) :
    (∃ (v : Option Value) (vm₁ : Vm) (B : Pt), s.WarmedH vm₁ ∧ Stand p l e R s m args below meth c B.U B.locs B.cells B.slots ∧ Post ⟨T.setVm vm₁, locs, cells, slots⟩ argsL.toArray v B ∧
      ∀ target, Steps p.tables e below (B.U.setTop { g with pc := g.pc + 3, stack := v.toList ++ rest }) target → Steps p.tables e below (T.setTop g) target) ∨
    (∃ (q : Addr) (vm₁ : Vm) (B : Pt), s.WarmedH vm₁ ∧ Stand p l e R s m args below meth c B.U B.locs B.cells B.slots ∧ PostX ⟨T.setVm vm₁, locs, cells, slots⟩ argsL.toArray q B ∧
      Steps p.tables e below (T.setTop g) ((B.U.setTop { g with stack := rest }).pushFrame (.throwing q))) := by
  obtain ⟨mk, methM, cM, hnamed, hmethM, -, -, -, -, -, -, hsigM⟩ := Cond.codeWith_spec hcode
  have hstatic : methM.isStatic = true := Cond.static_spec hnamed hmethM hstat
  obtain ⟨kP, hkP, -⟩ := className_of_methodNamed hnamed
  have hinitP : kP.init = .initialized := Cond.initialized_spec (findClass_of_methodNamed hnamed) hkP hinit
  obtain ⟨vm₁, X₁, hstep₁⟩ := X.invokestatic hexec hown hlink hnamed hmethM hstatic hkP hinitP hy (g := g) hg (argsL := argsL) (rest := rest) (hlen _ hsigM) hstack hdg
  rcases hK m meth c ⟨T.setVm vm₁, locs, cells, slots⟩ { g with stack := rest } (.invokestatic index) mk argsL.toArray X₁ hg hsize hdg hW (X₁.named hnamed) (hpre vm₁ X₁.warmed) with ⟨v, B, X', hpost, hsteps⟩ | ⟨q, B, X', hpost, hsteps⟩
  · exact Or.inl ⟨v, vm₁, B, X₁.warmed, X', hpost, fun target h => hstep₁ _ fun acts => by rw [doInvoke_state]; exact hsteps.trans h⟩
  · exact Or.inr ⟨q, vm₁, B, X₁.warmed, X', hpost, hstep₁ _ fun acts => by rw [doInvoke_state]; exact hsteps⟩
theorem vx_callVW (X : Stand p l e R s m args below meth c T locs cells slots) (hexec : p.tables.exec = Jvm.exec) {own C : String} {index : Nat} {y : MethodName} {bytes : ByteArray} {maxL : Nat} {ret : Option FieldType} {hh : List (Nat × Nat × Nat × Nat)}
    (hown : s.vm.findClass own = some m.cls) (hlink : (Cond.methodLink own index y).before args s = true) (hinst : (Cond.instanceMethod y).before args s = true) (hsel : (Cond.selects C y y).before args s = true)
    (hcode : (Cond.codeWith y bytes maxL ret hh).before args s = true) (hy : y.cls ≠ "java/lang/invoke/MethodHandle" ∧ y.cls ≠ "java/lang/invoke/VarHandle")
    {W9 : Nat} {Pre : Pt → Array Value → Prop} {Post : Pt → Array Value → Option Value → Pt → Prop} (hK : Back l R p e below s args y 3 W9 Pre Post)
    {b : Addr} {cellB : Cell} (hcell : T.heap[b]? = some cellB) (hobj : cellB.vm.isStatics = false) (hcls : s.vm.findClass C = some cellB.cls)
    {g : JFrame} (hg : g.method = m) (hsize : g.locals.size = c.maxLocals) {argsL rest : List Value} (hlen : ∀ sig, parseMethodDescriptor y.desc = some sig → argsL.length = sig.parameters.length)
    (hstack : g.stack = argsL.reverse ++ .ref b :: rest) (hW : 2 * g.monitorRoom + (rest.map fun v => v.category).sum ≤ W9) (hdg : decode c.code g.pc = .ok (.invokevirtual index, 3))
    (hpre : ∀ vm₁, s.WarmedH vm₁ → Pre ⟨T.setVm vm₁, locs, cells, slots⟩ (Value.ref b :: argsL).toArray) :
    ∃ (v : Option Value) (vm₁ : Vm) (B : Pt), s.WarmedH vm₁ ∧ Stand p l e R s m args below meth c B.U B.locs B.cells B.slots ∧ Post ⟨T.setVm vm₁, locs, cells, slots⟩ (Value.ref b :: argsL).toArray v B ∧
      ∀ target, Steps p.tables e below (B.U.setTop { g with pc := g.pc + 3, stack := v.toList ++ rest }) target → Steps p.tables e below (T.setTop g) target := by
  obtain ⟨mk, methM, hnamed, hmethM, hstM, habM⟩ := Cond.instanceMethod_spec hinst
  obtain ⟨m8, methM', cM, hn8, hmethM', -, -, -, -, -, -, hsigM⟩ := Cond.codeWith_spec hcode
  cases Option.some.inj (hn8.symm.trans hnamed)
  cases hmethM.symm.trans hmethM'
  obtain ⟨c2, r2, m2, q1, q2, q3, q4, kP, hkP, hkPi⟩ := Cond.selects_spec hsel
  cases hcls.symm.trans q1
  cases (State.methodFound?_of_named hnamed hy).symm.trans q2
  cases hnamed.symm.trans q3
  have hselP : selectMethod e.platform s.vm cellB.cls mk = .method mk := by rw [Launch.admits_selectMethod X.admits]; exact q4
  obtain ⟨vm₁, X₁, hstep₁⟩ := X.invokevirtual hexec hown hlink hnamed hmethM hstM hkP hkPi hy (a := b) (cell := cellB) hcell
    (fun z h => by rw [h] at hobj; cases hobj) hselP hmethM habM hkP hkPi (g := g) hg (argsL := argsL) (rest := rest) (hlen _ hsigM) hstack hdg
  obtain ⟨v, B, X', hpost, hsteps⟩ := hK m meth c ⟨T.setVm vm₁, locs, cells, slots⟩ { g with stack := rest } (.invokevirtual index) mk (Value.ref b :: argsL).toArray X₁ hg hsize hdg hW (X₁.named hnamed) (hpre vm₁ X₁.warmed)
  exact ⟨v, vm₁, B, X₁.warmed, X', hpost, fun target h => hstep₁ _ fun acts => by rw [doInvoke_state]; exact hsteps.trans h⟩
abbrev vx_CVW (R : Room) (s : State) (args : Array Value) (own C : String) (index : Nat) (y : MethodName) (bytes : ByteArray) (maxL : Nat) (ret : Option FieldType) (hh : List (Nat × Nat × Nat × Nat)) (ws : List Cond) (rm : Room) (mc ms n : Nat) : Prop :=
  (rm.cells = mc ∧ rm.slots = ms ∧ rm.frames + 1 ≤ R.frames ∧ 8 + (maxL + 11) + rm.locals ≤ R.locals ∧ (∀ w ∈ ws, ∀ (a' : Array Value) (U : State), s.WarmedH U.vm → w.before a' U = true) ∧ Cond.codeWith y bytes maxL ret hh ∈ ws) ∧
  (Cond.codeWith y bytes maxL ret hh).before args s = true ∧ (Cond.initialized y.cls).before args s = true ∧ (y.cls ≠ "java/lang/invoke/MethodHandle" ∧ y.cls ≠ "java/lang/invoke/VarHandle") ∧
  (∀ sig, parseMethodDescriptor y.desc = some sig → n = sig.parameters.length) ∧ (Cond.methodLink own index y).before args s = true ∧ (Cond.instanceMethod y).before args s = true ∧ (Cond.selects C y y).before args s = true
theorem vx_cwVW {own C : String} {index maxL mc ms : Nat} {y : MethodName} {bytes : ByteArray} {ret : Option FieldType} {hh : List (Nat × Nat × Nat × Nat)} {Ts ws ws' : List Cond} {rm : Room} (n : Nat) (ht : ∀ w ∈ Ts, w.before args s = true) (hT : GoodIn Ts (wsV own index C y ws)) (hw : ws = Cond.codeWith y bytes maxL ret hh :: ws') (hrc : rm.cells = mc) (hrs : rm.slots = ms)
    (hd : y.cls = C ∧ y.cls ≠ "java/lang/invoke/MethodHandle" ∧ y.cls ≠ "java/lang/invoke/VarHandle" ∧ (parseMethodDescriptor y.desc).map (fun d => d.parameters.length) = some n) (hR : rm.frames + 1 ≤ R.frames ∧ 8 + (maxL + 11) + rm.locals ≤ R.locals) :
    vx_CVW R s args own C index y bytes maxL ret hh ws rm mc ms n := by
  obtain ⟨hC, hd⟩ := hd
  subst hC
  have ok : ∀ w ∈ wsV own index y.cls y ws, w.before args s = true := fun w h => ht w (hT w h).1
  have hG : GoodIn Ts ws := fun w h => hT w (by unfold wsV; exact List.mem_append_right _ h)
  have hc : Cond.codeWith y bytes maxL ret hh ∈ ws := by rw [hw]; exact List.mem_cons_self
  refine ⟨⟨hrc, hrs, hR.1, hR.2, pay_in ht hG, hc⟩, ht _ (hG _ hc).1, ok _ (by simp [wsV]), ⟨hd.1, hd.2.1⟩, fun sig h => ?_, ok _ (by simp [wsV]), ok _ (by simp [wsV]), ok _ (by simp [wsV])⟩
  have h2 := hd.2.2
  rw [h] at h2
  exact (Option.some.inj h2).symm
theorem vx_runVW {y : MethodName} {bytes cc : ByteArray} {maxL nL mc ms n index : Nat} {ret : Option FieldType} {hh : List (Nat × Nat × Nat × Nat)} {ws : List Cond} {rm : Room} {Pc : Array Value → State → Prop} {Qc : Array Value → State → Outcome → State → Prop} {free : Addr → Prop} {Ts : List Cond} {own C : String} {b : Addr} {As rest : List Value} {g : JFrame}
    (S : CallFix p m c cc nL s args Ts own) (hM : Met l y ws rm Pc Qc mc ms free) (cw : vx_CVW R s args own C index y bytes maxL ret hh ws rm mc ms n) (hp : PreV s H C b Pc As)
    (hg : g.method = m) (hn : As.length = n) (hsize : g.locals.size = nL) (hstack : g.stack = As.reverse ++ .ref b :: rest) (hW : 2 * g.monitorRoom + (rest.map fun v => v.category).sum ≤ 8) (hdg : decode cc g.pc = .ok (.invokevirtual index, 3)) (hf : cells + mc ≤ R.cells ∧ slots + ms ≤ R.slots) :
    va_Run p l e R s m args below meth c H locs cells slots mc ms g rest (Qc (Value.ref b :: As).toArray) free := by
  obtain ⟨⟨hrc, hrs, hfr, hlo, hws, hcw⟩, hcode, hini, hy, hlen, hl, hin, hse⟩ := cw
  have hK : Back l R p e below s args y 3 8 (PreOf R mc ms Pc) (PostOf Qc mc ms free) := va_backW (hh := hh) (bytes := bytes) (maxL := maxL) (ret := ret) hM hp.1 hrc hrs hfr hlo hws hcw (fun a' U hW => word_at hW (Or.inl (by first | rfl | simp [Cond.onTables, Cond.keeps, Cond.steady])) hini)
  obtain ⟨hx, hb, hml, ho, -⟩ := S
  obtain ⟨-, ⟨cellB, hcB, hoB, hclB⟩, hPc⟩ := hp
  intro T hT X
  obtain ⟨v, vm₁, ⟨U', l2, c2, s2⟩, hW₁, X', ⟨g', mk, t, L, e1, e2, hq, h1, hL, h2, h3⟩, st⟩ := vx_callVW X hx (C := C) (hh := hh) (bytes := bytes) (maxL := maxL) (ret := ret) ho hl hin hse hcode hy hK (by rw [hT]; exact hcB) hoB hclB hg (hsize.trans hml.symm) (argsL := As) (rest := rest) (fun sig h => hn.trans (hlen sig h)) hstack hW (by rw [hb]; exact hdg)
    (fun vm₁ hW₁ => ⟨hf.1, hf.2, hPc (T.setVm vm₁) hT hW₁⟩)
  dsimp only [Pt.U, Pt.locs, Pt.cells, Pt.slots] at X' e1 e2 h1 h2 h3 st
  subst h1; subst h2; subst h3
  exact ⟨v, (T.setVm vm₁).calling g' mk (Value.ref b :: As).toArray, t, U', L, hT, X', hL, e1, e2, hq, st⟩
section
variable {y : MethodName} {bytes cc : ByteArray} {maxL nL mc ms n index : Nat} {ret : Option FieldType} {ws : List Cond} {rm : Room} {Pc : Array Value → State → Prop} {Qc : Array Value → State → Outcome → State → Prop} {XC : String → State → State → Prop} {free : Addr → Prop} {Ts : List Cond} {own C : String} {b : Addr} {As rest : List Value} {g : JFrame}
theorem vx_runVX {hh : List (Nat × Nat × Nat × Nat)} (S : CallFix p m c cc nL s args Ts own) (hM : vx_Met l y ws rm Pc Qc XC mc ms free) (cw : vx_CVW R s args own C index y bytes maxL ret hh ws rm mc ms n) (hp : PreV s H C b Pc As)
    (hg : g.method = m) (hn : As.length = n) (hsize : g.locals.size = nL) (hstack : g.stack = As.reverse ++ .ref b :: rest) (hW : 2 * g.monitorRoom + (rest.map fun v => v.category).sum ≤ 8) (hdg : decode cc g.pc = .ok (.invokevirtual index, 3)) (hf : cells + mc ≤ R.cells ∧ slots + ms ≤ R.slots) :
    vx_Run p l e R s m args below meth c H locs cells slots mc ms g rest (Qc (Value.ref b :: As).toArray) XC free := by
  obtain ⟨⟨hrc, hrs, hfr, hlo, hws, hcw⟩, hcode, hini, hy, hlen, hl, hin, hse⟩ := cw
  have hK : vx_Back l R p e below s args y 3 8 (PreOf R mc ms Pc) (PostOf Qc mc ms free) (vx_Post XC mc ms free) := vx_backW (hh := hh) (bytes := bytes) (maxL := maxL) (ret := ret) hM hp.1 hrc hrs hfr hlo hws hcw (fun a' U hW => word_at hW (Or.inl (by first | rfl | simp [Cond.onTables, Cond.keeps, Cond.steady])) hini)
  obtain ⟨hx, hb, hml, ho, -⟩ := S
  obtain ⟨-, ⟨cellB, hcB, hoB, hclB⟩, hPc⟩ := hp
  intro T hT X
  rcases vx_callVX X hx (C := C) (hh := hh) (bytes := bytes) (maxL := maxL) (ret := ret) ho hl hin hse hcode hy hK (by rw [hT]; exact hcB) hoB hclB hg (hsize.trans hml.symm) (argsL := As) (rest := rest) (fun sig h => hn.trans (hlen sig h)) hstack hW (by rw [hb]; exact hdg)
    (fun vm₁ hW₁ => ⟨hf.1, hf.2, hPc (T.setVm vm₁) hT hW₁⟩) with ⟨v, vm₁, ⟨U', l2, c2, s2⟩, hW₁, X', ⟨g', mk, t, L, e1, e2, hq, h1, hL, h2, h3⟩, st⟩ | ⟨q, vm₁, ⟨U', l2, c2, s2⟩, hW₁, X', ⟨g', mk, t, L, E, ce, e1, e2, hq, hce, hcv, hcl, h1, hL, h2, h3⟩, st⟩
  · dsimp only [Pt.U, Pt.locs, Pt.cells, Pt.slots] at X' e1 e2 h1 h2 h3 st
    subst h1; subst h2; subst h3
    exact Or.inl ⟨v, (T.setVm vm₁).calling g' mk (Value.ref b :: As).toArray, t, U', L, hT, X', hL, e1, e2, hq, st⟩
  · dsimp only [Pt.U, Pt.locs, Pt.cells, Pt.slots] at X' e1 e2 h1 h2 h3 st hcl
    subst h1; subst h2; subst h3
    exact Or.inr ⟨q, (T.setVm vm₁).calling g' mk (Value.ref b :: As).toArray, t, U', L, E, ce, hT, X', hL, e1, e2, hq, hce, hcv, vx_cls hW₁ hcl, st⟩
theorem vx_runSX {hh : List (Nat × Nat × Nat × Nat)} (S : CallFix p m c cc nL s args Ts own) (hM : vx_Met l y ws rm Pc Qc XC mc ms free) (cw : vx_CSW R s args own index y bytes maxL ret hh ws rm mc ms n) (hp : PreS s H Pc As)
    (hg : g.method = m) (hn : As.length = n) (hsize : g.locals.size = nL) (hstack : g.stack = As.reverse ++ rest) (hW : 2 * g.monitorRoom + (rest.map fun v => v.category).sum ≤ 8) (hdg : decode cc g.pc = .ok (.invokestatic index, 3)) (hf : cells + mc ≤ R.cells ∧ slots + ms ≤ R.slots) :
    vx_Run p l e R s m args below meth c H locs cells slots mc ms g rest (Qc As.toArray) XC free := by
  obtain ⟨⟨hrc, hrs, hfr, hlo, hws, hcw⟩, hcode, hini, hy, hlen, hl, hstt⟩ := cw
  have hK : vx_Back l R p e below s args y 3 8 (PreOf R mc ms Pc) (PostOf Qc mc ms free) (vx_Post XC mc ms free) := vx_backW (hh := hh) (bytes := bytes) (maxL := maxL) (ret := ret) hM hp.1 hrc hrs hfr hlo hws hcw (fun a' U hW => word_at hW (Or.inl (by first | rfl | simp [Cond.onTables, Cond.keeps, Cond.steady])) hini)
  obtain ⟨hx, hb, hml, ho, -⟩ := S
  intro T hT X
  rcases vx_callSX X hx (hh := hh) (bytes := bytes) (maxL := maxL) (ret := ret) ho hl hstt hini hcode hy hK hg (hsize.trans hml.symm) (argsL := As) (rest := rest) (fun sig h => hn.trans (hlen sig h)) hstack hW (by rw [hb]; exact hdg)
    (fun vm₁ hW₁ => ⟨hf.1, hf.2, hp.2 (T.setVm vm₁) hT hW₁⟩) with ⟨v, vm₁, ⟨U', l2, c2, s2⟩, hW₁, X', ⟨g', mk, t, L, e1, e2, hq, h1, hL, h2, h3⟩, st⟩ | ⟨q, vm₁, ⟨U', l2, c2, s2⟩, hW₁, X', ⟨g', mk, t, L, E, ce, e1, e2, hq, hce, hcv, hcl, h1, hL, h2, h3⟩, st⟩
  · dsimp only [Pt.U, Pt.locs, Pt.cells, Pt.slots] at X' e1 e2 h1 h2 h3 st
    subst h1; subst h2; subst h3
    exact Or.inl ⟨v, (T.setVm vm₁).calling g' mk As.toArray, t, U', L, hT, X', hL, e1, e2, hq, st⟩
  · dsimp only [Pt.U, Pt.locs, Pt.cells, Pt.slots] at X' e1 e2 h1 h2 h3 st hcl
    subst h1; subst h2; subst h3
    exact Or.inr ⟨q, (T.setVm vm₁).calling g' mk As.toArray, t, U', L, E, ce, hT, X', hL, e1, e2, hq, hce, hcv, vx_cls hW₁ hcl, st⟩
end
end VXH
theorem vx_ofWH {l : Launch} {y : MethodName} {ws ws' : List Cond} {rm : Room} {Pc : Array Value → State → Prop} {Qc : Array Value → State → Outcome → State → Prop} {XC : String → State → State → Prop} {mc ms : Nat} {free : Addr → Prop} {cc : ByteArray} {maxL : Nat} {ret : Option FieldType} {hh : List (Nat × Nat × Nat × Nat)}
    (hy : plainName y.cls = true) (hw : ws = Cond.codeWith y cc maxL ret hh :: ws')
    (body : ∀ p e s m args below meth c s₁, BodyLoose p l y (headSpec ws rm) cc maxL ret e s m args below meth c s₁ → c.maxLocals = maxL → Pc args s →
      W p l e (headSpec ws rm).room s m args below meth c s.heap [] 0 0 (vx_MQ below Qc XC args s mc ms free) (entryFrame m args maxL)) : vx_Met l y ws rm Pc Qc XC mc ms free := by
  refine MetFree.of_bodyS (code := cc) (maxLocals := maxL) (ret := ret) hy ?_ ?_
  · intro args s m h hn
    obtain ⟨m9, meth, c, hn9, h1, h2, h3, h4, -, h5, h6, -⟩ := Cond.codeWith_spec (atoms_spec (ws := ws) h _ (by rw [hw]; exact List.mem_cons_self))
    cases hn.symm.trans hn9
    exact ⟨meth, c, h1, h2, h3, h4, h5, h6⟩
  · intro p e s m args below meth c s₁ B hml hP _
    have hh0 : s₁.heap = s.heap := by rw [B.state]; rfl
    obtain ⟨t, a1, o, b1, b2, b3⟩ := body p e s m args below meth c s₁ B hml hP s₁ hh0 (Stand.of_body B)
    exact ⟨t, o, a1, b1, b2, b3⟩
/-! ===== END ===== -/
end
section
/-! ===== BEGIN printed: names, fields, word lists, decode rows ===== -/
def RX0 : String := "EchoBench$Filter"
def TX0 : u_T := fun k => match k with
  | 0 => ("EchoBench$Filter", "kind", "I", true)
  | 1 => ("EchoBench$Filter", "weights", "[D", true)
  | 2 => ("EchoBench$Filter", "latestErrors", "[D", true)
  | 3 => ("EchoBench$Filter", "square", "LEchoBench$Square;", true)
  | 4 => ("EchoBench$Filter", "thousandths", "I", false)
  | 5 => ("EchoBench$Filter", "watchHundredths", "I", false)
  | 6 => ("EchoBench$Filter", "tail", "I", false)
  | 7 => ("EchoBench$Filter", "holdsLeft", "I", false)
  | 8 => ("EchoBench$Filter", "output", "D", false)
  | 9 => ("EchoBench$Filter", "error", "D", false)
  | 10 => ("EchoBench$Filter", "heard", "I", false)
  | 11 => ("EchoBench$Filter", "held", "I", false)
  | _ => ("EchoBench$Filter", "resets", "I", false)
def tyX0 : Nat → FieldType := fun k => match k with
  | 0 => .int
  | 1 => .array .double
  | 2 => .array .double
  | 3 => .object "EchoBench$Square"
  | 4 => .int
  | 5 => .int
  | 6 => .int
  | 7 => .int
  | 8 => .double
  | 9 => .double
  | 10 => .int
  | 11 => .int
  | _ => .int
abbrev wsX00 : List Cond := u_ws RX0 TX0 13
theorem nmX0 : ∀ a, a < 13 → ∀ b, b < 13 → a ≠ b → (TX0 a).2.1 ≠ (TX0 b).2.1 := by decide +kernel
theorem tyX0_ok : ∀ k, k < 13 → parseFieldDescriptor (TX0 k).2.2.1 = some (tyX0 k) := by decide +kernel
abbrev cX0_init : ByteArray := prog_2_method_1_code
def yX0_init : MethodName := ⟨RX0, "<init>", "(III)V"⟩
abbrev cX0_restart : ByteArray := prog_2_method_2_code
def yX0_restart : MethodName := ⟨RX0, "restart", "()V"⟩
abbrev cX0_hear : ByteArray := prog_2_method_3_code
def yX0_hear : MethodName := ⟨RX0, "hear", "([DD)V"⟩
abbrev cX0_outputAt : ByteArray := prog_2_method_4_code
def yX0_outputAt : MethodName := ⟨RX0, "outputAt", "([D)D"⟩
abbrev cX0_holdsAt : ByteArray := prog_2_method_5_code
def yX0_holdsAt : MethodName := ⟨RX0, "holdsAt", "([DD)Z"⟩
abbrev cX0_isLoud : ByteArray := prog_2_method_6_code
def yX0_isLoud : MethodName := ⟨RX0, "isLoud", "([DD)Z"⟩
abbrev cX0_learn : ByteArray := prog_2_method_7_code
def yX0_learn : MethodName := ⟨RX0, "learn", "([D)V"⟩
abbrev cX0_lesson : ByteArray := prog_2_method_8_code
def yX0_lesson : MethodName := ⟨RX0, "lesson", "(DD)D"⟩
abbrev cX0_normOf : ByteArray := prog_2_method_9_code
def yX0_normOf : MethodName := ⟨RX0, "normOf", "([D)D"⟩
abbrev cX0_learnBySquare : ByteArray := prog_2_method_10_code
def yX0_learnBySquare : MethodName := ⟨RX0, "learnBySquare", "(LEchoBench$Square;[D)V"⟩
abbrev cX0_add : ByteArray := prog_2_method_11_code
def yX0_add : MethodName := ⟨RX0, "add", "(ID)V"⟩
abbrev cX0_power : ByteArray := prog_2_method_12_code
def yX0_power : MethodName := ⟨RX0, "power", "()D"⟩
def RX1 : String := "EchoBench$Samples"
def TX1 : u_T := fun k => match k with
  | 0 => ("EchoBench$Samples", "pathHundredths", "[I", true)
  | 1 => ("EchoBench$Samples", "xs", "[D", true)
  | 2 => ("EchoBench$Samples", "latestX0", "[D", true)
  | 3 => ("EchoBench$Samples", "latestX1", "[D", true)
  | 4 => ("EchoBench$Samples", "latestMicrophone", "[D", true)
  | 5 => ("EchoBench$Samples", "lastMicrophone", "D", false)
  | _ => ("EchoBench$Samples", "taken", "I", false)
def tyX1 : Nat → FieldType := fun k => match k with
  | 0 => .array .int
  | 1 => .array .double
  | 2 => .array .double
  | 3 => .array .double
  | 4 => .array .double
  | 5 => .double
  | _ => .int
abbrev wsX10 : List Cond := u_ws RX1 TX1 7
theorem nmX1 : ∀ a, a < 7 → ∀ b, b < 7 → a ≠ b → (TX1 a).2.1 ≠ (TX1 b).2.1 := by decide +kernel
theorem tyX1_ok : ∀ k, k < 7 → parseFieldDescriptor (TX1 k).2.2.1 = some (tyX1 k) := by decide +kernel
abbrev cX1_init : ByteArray := prog_3_method_1_code
def yX1_init : MethodName := ⟨RX1, "<init>", "()V"⟩
abbrev cX1_tellPath : ByteArray := prog_3_method_2_code
def yX1_tellPath : MethodName := ⟨RX1, "tellPath", "(II)I"⟩
abbrev cX1_take : ByteArray := prog_3_method_3_code
def yX1_take : MethodName := ⟨RX1, "take", "(II)V"⟩
abbrev cX1_heardWith : ByteArray := prog_3_method_4_code
def yX1_heardWith : MethodName := ⟨RX1, "heardWith", "(I)D"⟩
abbrev cX1_offness : ByteArray := prog_3_method_5_code
def yX1_offness : MethodName := ⟨RX1, "offness", "([D)D"⟩
abbrev cX1_batchWeight : ByteArray := prog_3_method_6_code
def yX1_batchWeight : MethodName := ⟨RX1, "batchWeight", "(I)D"⟩
abbrev cX1_sumOfProducts : ByteArray := prog_3_method_7_code
def yX1_sumOfProducts : MethodName := ⟨RX1, "sumOfProducts", "([D[D)D"⟩
def RX2 : String := "EchoBench$Square"
def TX2 : u_T := fun k => match k with
  | 0 => ("EchoBench$Square", "size", "I", true)
  | 1 => ("EchoBench$Square", "numbers", "[[D", true)
  | 2 => ("EchoBench$Square", "g", "[D", true)
  | _ => ("EchoBench$Square", "shares", "[D", true)
def tyX2 : Nat → FieldType := fun k => match k with
  | 0 => .int
  | 1 => .array (.array .double)
  | 2 => .array .double
  | _ => .array .double
abbrev wsX20 : List Cond := u_ws RX2 TX2 4
theorem nmX2 : ∀ a, a < 4 → ∀ b, b < 4 → a ≠ b → (TX2 a).2.1 ≠ (TX2 b).2.1 := by decide +kernel
theorem tyX2_ok : ∀ k, k < 4 → parseFieldDescriptor (TX2 k).2.2.1 = some (tyX2 k) := by decide +kernel
abbrev cX2_init : ByteArray := prog_4_method_1_code
def yX2_init : MethodName := ⟨RX2, "<init>", "(I)V"⟩
abbrev cX2_restart : ByteArray := prog_4_method_2_code
def yX2_restart : MethodName := ⟨RX2, "restart", "()V"⟩
abbrev cX2_number : ByteArray := prog_4_method_3_code
def yX2_number : MethodName := ⟨RX2, "number", "(II)D"⟩
abbrev cX2_share : ByteArray := prog_4_method_4_code
def yX2_share : MethodName := ⟨RX2, "share", "(I)D"⟩
abbrev cX2_prepare : ByteArray := prog_4_method_5_code
def yX2_prepare : MethodName := ⟨RX2, "prepare", "([DD)Z"⟩
abbrev cX2_rowTimes : ByteArray := prog_4_method_6_code
def yX2_rowTimes : MethodName := ⟨RX2, "rowTimes", "(I[D)D"⟩
abbrev cX2_renew : ByteArray := prog_4_method_7_code
def yX2_renew : MethodName := ⟨RX2, "renew", "(D)Z"⟩
def RX3 : String := "EchoBench"
def TX3 : u_T := fun k => match k with
  | 0 => ("EchoBench", "samples", "LEchoBench$Samples;", true)
  | 1 => ("EchoBench", "filters", "[LEchoBench$Filter;", true)
  | _ => ("EchoBench", "filterCount", "I", false)
def tyX3 : Nat → FieldType := fun k => match k with
  | 0 => .object "EchoBench$Samples"
  | 1 => .array (.object "EchoBench$Filter")
  | _ => .int
abbrev wsX30 : List Cond := u_ws RX3 TX3 3
theorem nmX3 : ∀ a, a < 3 → ∀ b, b < 3 → a ≠ b → (TX3 a).2.1 ≠ (TX3 b).2.1 := by decide +kernel
theorem tyX3_ok : ∀ k, k < 3 → parseFieldDescriptor (TX3 k).2.2.1 = some (tyX3 k) := by decide +kernel
abbrev cX3_init : ByteArray := prog_1_method_1_code
def yX3_init : MethodName := ⟨RX3, "<init>", "()V"⟩
abbrev cX3_path : ByteArray := prog_1_method_2_code
def yX3_path : MethodName := ⟨RX3, "path", "(II)I"⟩
abbrev cX3_filter : ByteArray := prog_1_method_3_code
def yX3_filter : MethodName := ⟨RX3, "filter", "(III)I"⟩
abbrev cX3_step : ByteArray := prog_1_method_4_code
def yX3_step : MethodName := ⟨RX3, "step", "(II)I"⟩
abbrev cX3_watch : ByteArray := prog_1_method_5_code
def yX3_watch : MethodName := ⟨RX3, "watch", "(III)V"⟩
abbrev cX3_begin : ByteArray := prog_1_method_6_code
def yX3_begin : MethodName := ⟨RX3, "begin", "(I)V"⟩
abbrev cX3_feed : ByteArray := prog_1_method_7_code
def yX3_feed : MethodName := ⟨RX3, "feed", "(II)I"⟩
abbrev cX3_script : ByteArray := prog_1_method_8_code
def yX3_script : MethodName := ⟨RX3, "script", "(II)I"⟩
abbrev cX3_weight : ByteArray := prog_1_method_9_code
def yX3_weight : MethodName := ⟨RX3, "weight", "(II)D"⟩
abbrev cX3_of : ByteArray := prog_1_method_10_code
def yX3_of : MethodName := ⟨RX3, "of", "(II)D"⟩
abbrev cX3_count : ByteArray := prog_1_method_11_code
def yX3_count : MethodName := ⟨RX3, "count", "(II)I"⟩
abbrev cX3_microphone : ByteArray := prog_1_method_12_code
def yX3_microphone : MethodName := ⟨RX3, "microphone", "()D"⟩
abbrev cX3_batch : ByteArray := prog_1_method_13_code
def yX3_batch : MethodName := ⟨RX3, "batch", "(I)D"⟩
abbrev cX3_square : ByteArray := prog_1_method_14_code
def yX3_square : MethodName := ⟨RX3, "square", "(III)D"⟩
abbrev cX3_best : ByteArray := prog_1_method_15_code
def yX3_best : MethodName := ⟨RX3, "best", "()I"⟩
abbrev cX3_isWithin : ByteArray := prog_1_method_16_code
def yX3_isWithin : MethodName := ⟨RX3, "isWithin", "(III)Z"⟩
abbrev cX3_isStepOf : ByteArray := prog_1_method_17_code
def yX3_isStepOf : MethodName := ⟨RX3, "isStepOf", "(II)Z"⟩
abbrev cX3_heldTo : ByteArray := prog_1_method_18_code
def yX3_heldTo : MethodName := ⟨RX3, "heldTo", "(DD)D"⟩
abbrev cX3_eitherWay : ByteArray := prog_1_method_19_code
def yX3_eitherWay : MethodName := ⟨RX3, "eitherWay", "(D)D"⟩
abbrev cX3_numbered : ByteArray := prog_1_method_20_code
def yX3_numbered : MethodName := ⟨RX3, "numbered", "(I)LEchoBench$Filter;"⟩
abbrev cX3_takeSample : ByteArray := prog_1_method_21_code
def yX3_takeSample : MethodName := ⟨RX3, "takeSample", "(II)V"⟩
def RX4 : String := "EchoBenchModel"
def TX4 : u_T := fun k => match k with
  | _ => ("", "", "", false)
def tyX4 : Nat → FieldType := fun k => match k with
  | _ => .int
abbrev wsX40 : List Cond := u_ws RX4 TX4 0
theorem nmX4 : ∀ a, a < 0 → ∀ b, b < 0 → a ≠ b → (TX4 a).2.1 ≠ (TX4 b).2.1 := by decide +kernel
theorem tyX4_ok : ∀ k, k < 0 → parseFieldDescriptor (TX4 k).2.2.1 = some (tyX4 k) := by decide +kernel
def RJx145de : String := "java/io/Serializable"
def TJx145de : u_T := fun k => match k with
  | _ => ("", "", "", false)
def tyJx145de : Nat → FieldType := fun k => match k with
  | _ => .int
abbrev wsJx145de0 : List Cond := u_ws RJx145de TJx145de 0
theorem nmJx145de : ∀ a, a < 0 → ∀ b, b < 0 → a ≠ b → (TJx145de a).2.1 ≠ (TJx145de b).2.1 := by decide +kernel
theorem tyJx145de_ok : ∀ k, k < 0 → parseFieldDescriptor (TJx145de k).2.2.1 = some (tyJx145de k) := by decide +kernel
def RJ9 : String := "java/lang/Math"
def TJ9 : u_T := fun k => match k with
  | _ => ("", "", "", false)
def tyJ9 : Nat → FieldType := fun k => match k with
  | _ => .int
abbrev wsJ90 : List Cond := u_ws RJ9 TJ9 0
theorem nmJ9 : ∀ a, a < 0 → ∀ b, b < 0 → a ≠ b → (TJ9 a).2.1 ≠ (TJ9 b).2.1 := by decide +kernel
theorem tyJ9_ok : ∀ k, k < 0 → parseFieldDescriptor (TJ9 k).2.2.1 = some (tyJ9 k) := by decide +kernel
abbrev cJ9_floorMod_7cf53 : ByteArray := prog_11_method_50_code
def yJ9_floorMod_7cf53 : MethodName := ⟨RJ9, "floorMod", "(II)I"⟩
abbrev cJ9_max_7cf53 : ByteArray := prog_11_method_65_code
def yJ9_max_7cf53 : MethodName := ⟨RJ9, "max", "(II)I"⟩
def RJ0 : String := "java/lang/String"
def TJ0 : u_T := fun k => match k with
  | _ => ("", "", "", false)
def tyJ0 : Nat → FieldType := fun k => match k with
  | _ => .int
abbrev wsJ00 : List Cond := u_ws RJ0 TJ0 0
theorem nmJ0 : ∀ a, a < 0 → ∀ b, b < 0 → a ≠ b → (TJ0 a).2.1 ≠ (TJ0 b).2.1 := by decide +kernel
theorem tyJ0_ok : ∀ k, k < 0 → parseFieldDescriptor (TJ0 k).2.2.1 = some (tyJ0 k) := by decide +kernel
def RJ7 : String := "java/util/Arrays"
def TJ7 : u_T := fun k => match k with
  | _ => ("", "", "", false)
def tyJ7 : Nat → FieldType := fun k => match k with
  | _ => .int
abbrev wsJ70 : List Cond := u_ws RJ7 TJ7 0
theorem nmJ7 : ∀ a, a < 0 → ∀ b, b < 0 → a ≠ b → (TJ7 a).2.1 ≠ (TJ7 b).2.1 := by decide +kernel
theorem tyJ7_ok : ∀ k, k < 0 → parseFieldDescriptor (TJ7 k).2.2.1 = some (tyJ7 k) := by decide +kernel
abbrev cJ7_fill_7f8df : ByteArray := prog_15_method_113_code
def yJ7_fill_7f8df : MethodName := ⟨RJ7, "fill", "([DD)V"⟩
def RL : String := "EchoBenchLaw"
abbrev cL_cell : ByteArray := method_2_code
def yL_cell : MethodName := ⟨RL, "cell", "([II)I"⟩
abbrev cL_low : ByteArray := method_3_code
def yL_low : MethodName := ⟨RL, "low", "(II)I"⟩
abbrev cL_path : ByteArray := method_4_code
def yL_path : MethodName := ⟨RL, "path", "(LEchoBench;II)J"⟩
abbrev cL_filter : ByteArray := method_5_code
def yL_filter : MethodName := ⟨RL, "filter", "(LEchoBench;III)J"⟩
abbrev cL_step : ByteArray := method_6_code
def yL_step : MethodName := ⟨RL, "step", "(LEchoBench;II)J"⟩
abbrev cL_watch : ByteArray := method_7_code
def yL_watch : MethodName := ⟨RL, "watch", "(LEchoBench;III)J"⟩
abbrev cL_begin : ByteArray := method_8_code
def yL_begin : MethodName := ⟨RL, "begin", "(LEchoBench;I)J"⟩
abbrev cL_feed : ByteArray := method_9_code
def yL_feed : MethodName := ⟨RL, "feed", "(LEchoBench;II)J"⟩
abbrev cL_script : ByteArray := method_10_code
def yL_script : MethodName := ⟨RL, "script", "(LEchoBench;II)J"⟩
abbrev cL_weight : ByteArray := method_11_code
def yL_weight : MethodName := ⟨RL, "weight", "(LEchoBench;II)J"⟩
abbrev cL_of : ByteArray := method_12_code
def yL_of : MethodName := ⟨RL, "of", "(LEchoBench;II)J"⟩
abbrev cL_count : ByteArray := method_13_code
def yL_count : MethodName := ⟨RL, "count", "(LEchoBench;II)J"⟩
abbrev cL_batch : ByteArray := method_14_code
def yL_batch : MethodName := ⟨RL, "batch", "(LEchoBench;I)J"⟩
abbrev cL_square : ByteArray := method_15_code
def yL_square : MethodName := ⟨RL, "square", "(LEchoBench;III)J"⟩
abbrev cL_act : ByteArray := method_16_code
def yL_act : MethodName := ⟨RL, "act", "(LEchoBench;I)J"⟩
abbrev cL_areAlike : ByteArray := method_17_code
def yL_areAlike : MethodName := ⟨RL, "areAlike", "(LEchoBench;LEchoBench;I)Z"⟩
abbrev cL_isSo : ByteArray := method_18_code
def yL_isSo : MethodName := ⟨RL, "isSo", "(LEchoBench;)Z"⟩
abbrev cL_law : ByteArray := code
def yL_law : MethodName := ⟨RL, "law", "([I)Z"⟩
def wsX2_init : List Cond := .code yX2_init cX2_init 3 none :: ([.methodLink RX2 1 objectInit, .instanceMethod objectInit, .code objectInit ⟨#[0xb1]⟩ 1 none, .fieldLink RX2 7 "EchoBench$Square" "size" "I", .classLink RX2 13 "[[D", .arrayClass .double, .fieldLink RX2 15 "EchoBench$Square" "numbers" "[[D", .fieldLink RX2 18 "EchoBench$Square" "g" "[D", .fieldLink RX2 22 "EchoBench$Square" "shares" "[D", .constantDouble RX2 25 (4636737291354636288)] ++ wsX20)
def wsX0_init : List Cond := .code yX0_init cX0_init 4 none :: ([.methodLink RX0 3 objectInit, .instanceMethod objectInit, .code objectInit ⟨#[0xb1]⟩ 1 none, .fieldLink RX0 9 "EchoBench$Filter" "kind" "I", .arrayClass .double, .fieldLink RX0 15 "EchoBench$Filter" "weights" "[D", .fieldLink RX0 19 "EchoBench$Filter" "latestErrors" "[D", .classLink RX0 22 RX2, .instantiable RX2 4, .initialized RX2, .fieldLink RX0 27 "EchoBench$Filter" "square" "LEchoBench$Square;", .fieldLink RX0 31 "EchoBench$Filter" "thousandths" "I", .instanceMethod yX2_init, .code yX2_init cX2_init 3 none, .methodLink RX2 1 objectInit, .fieldLink RX2 7 "EchoBench$Square" "size" "I", .classLink RX2 13 "[[D", .fieldLink RX2 15 "EchoBench$Square" "numbers" "[[D", .fieldLink RX2 18 "EchoBench$Square" "g" "[D", .fieldLink RX2 22 "EchoBench$Square" "shares" "[D", .constantDouble RX2 25 (4636737291354636288)] ++ wsX00 ++ wsX20)
def wsJ7_fill_7f8df : List Cond := .code yJ7_fill_7f8df cJ7_fill_7f8df 5 none :: ([])
def wsX2_restart : List Cond := .code yX2_restart cX2_restart 3 none :: ([.fieldLink RX2 7 "EchoBench$Square" "size" "I", .fieldLink RX2 15 "EchoBench$Square" "numbers" "[[D", .constantDouble RX2 25 (4636737291354636288)] ++ wsX20)
def wsX0_restart : List Cond := .code yX0_restart cX0_restart 1 none :: ([.fieldLink RX0 15 "EchoBench$Filter" "weights" "[D", .fieldLink RX0 27 "EchoBench$Filter" "square" "LEchoBench$Square;", .fieldLink RX0 43 "EchoBench$Filter" "holdsLeft" "I", .fieldLink RX0 46 "EchoBench$Filter" "output" "D", .fieldLink RX0 50 "EchoBench$Filter" "error" "D", .fieldLink RX0 53 "EchoBench$Filter" "heard" "I", .fieldLink RX0 56 "EchoBench$Filter" "held" "I", .fieldLink RX0 59 "EchoBench$Filter" "resets" "I", .methodLink RX0 34 yJ7_fill_7f8df, .static yJ7_fill_7f8df, .initialized RJ7, .code yJ7_fill_7f8df cJ7_fill_7f8df 5 none, .instanceMethod yX2_restart, .initialized RX2, .selects RX2 yX2_restart yX2_restart, .code yX2_restart cX2_restart 3 none, .fieldLink RX2 7 "EchoBench$Square" "size" "I", .fieldLink RX2 15 "EchoBench$Square" "numbers" "[[D", .constantDouble RX2 25 (4636737291354636288)] ++ wsX00 ++ wsX20)
def wsX0_outputAt : List Cond := .code yX0_outputAt cX0_outputAt 5 (some .double) :: ([.fieldLink RX0 15 "EchoBench$Filter" "weights" "[D"] ++ wsX00)
def wsJ9_floorMod_7cf53 : List Cond := .code yJ9_floorMod_7cf53 cJ9_floorMod_7cf53 3 (some .int) :: ([])
def wsX3_eitherWay : List Cond := .code yX3_eitherWay cX3_eitherWay 2 (some .double) :: ([])
def wsX0_isLoud : List Cond := .code yX0_isLoud cX0_isLoud 9 (some .boolean) :: ([.fieldLink RX0 90 "EchoBench$Filter" "watchHundredths" "I", .fieldLink RX0 15 "EchoBench$Filter" "weights" "[D", .constantDouble RX0 97 (4636737291354636288), .static yX3_eitherWay, .initialized RX3, .code yX3_eitherWay cX3_eitherWay 2 (some .double)] ++ wsX00)
def wsX0_holdsAt : List Cond := .code yX0_holdsAt cX0_holdsAt 4 (some .boolean) :: ([.fieldLink RX0 87 "EchoBench$Filter" "tail" "I", .fieldLink RX0 43 "EchoBench$Filter" "holdsLeft" "I", .methodLink RX0 84 yX0_isLoud, .instanceMethod yX0_isLoud, .selects RX0 yX0_isLoud yX0_isLoud, .initialized RX0, .code yX0_isLoud cX0_isLoud 9 (some .boolean), .fieldLink RX0 90 "EchoBench$Filter" "watchHundredths" "I", .fieldLink RX0 15 "EchoBench$Filter" "weights" "[D", .constantDouble RX0 97 (4636737291354636288), .static yX3_eitherWay, .initialized RX3, .code yX3_eitherWay cX3_eitherWay 2 (some .double)] ++ wsX00)
def wsX2_rowTimes : List Cond := .code yX2_rowTimes cX2_rowTimes 6 (some .double) :: ([.fieldLink RX2 7 "EchoBench$Square" "size" "I", .fieldLink RX2 15 "EchoBench$Square" "numbers" "[[D"] ++ wsX20)
def wsX2_prepare : List Cond := .code yX2_prepare cX2_prepare 7 (some .boolean) :: ([.fieldLink RX2 7 "EchoBench$Square" "size" "I", .fieldLink RX2 18 "EchoBench$Square" "g" "[D", .constantDouble RX2 37 (4517329193108106637), .fieldLink RX2 22 "EchoBench$Square" "shares" "[D", .methodLink RX2 33 yX2_rowTimes, .instanceMethod yX2_rowTimes, .selects RX2 yX2_rowTimes yX2_rowTimes, .initialized RX2, .code yX2_rowTimes cX2_rowTimes 6 (some .double), .fieldLink RX2 15 "EchoBench$Square" "numbers" "[[D"] ++ wsX20)
def wsX3_isWithin : List Cond := .code yX3_isWithin cX3_isWithin 3 (some .boolean) :: ([])
def wsX2_share : List Cond := .code yX2_share cX2_share 2 (some .double) :: ([.fieldLink RX2 7 "EchoBench$Square" "size" "I", .fieldLink RX2 22 "EchoBench$Square" "shares" "[D", .static yX3_isWithin, .initialized RX3, .code yX3_isWithin cX3_isWithin 3 (some .boolean)] ++ wsX20)
def wsX3_heldTo : List Cond := .code yX3_heldTo cX3_heldTo 4 (some .double) :: ([])
def wsX0_add : List Cond := .code yX0_add cX0_add 4 none :: ([.fieldLink RX0 15 "EchoBench$Filter" "weights" "[D", .constantDouble RX0 123 (4741671816366391296), .static yX3_heldTo, .initialized RX3, .code yX3_heldTo cX3_heldTo 4 (some .double)] ++ wsX00)
def wsX2_renew : List Cond := .code yX2_renew cX2_renew 6 (some .boolean) :: ([.fieldLink RX2 7 "EchoBench$Square" "size" "I", .fieldLink RX2 15 "EchoBench$Square" "numbers" "[[D", .fieldLink RX2 22 "EchoBench$Square" "shares" "[D", .fieldLink RX2 18 "EchoBench$Square" "g" "[D", .constantDouble RX2 39 (4696837146684686336)] ++ wsX20)
def wsX0_learnBySquare_r1 : List Cond := [Cond.fieldLink RX0 31 "EchoBench$Filter" "thousandths" "I", Cond.constantDouble RX0 110 (4652007308841189376), Cond.fieldLink RX0 15 "EchoBench$Filter" "weights" "[D", Cond.fieldLink RX0 50 "EchoBench$Filter" "error" "D", Cond.fieldLink RX0 59 "EchoBench$Filter" "resets" "I", Cond.instanceMethod yX2_prepare, Cond.initialized RX2, Cond.selects RX2 yX2_prepare yX2_prepare, Cond.code yX2_prepare cX2_prepare 7 (some .boolean), Cond.fieldLink RX2 7 "EchoBench$Square" "size" "I", Cond.fieldLink RX2 18 "EchoBench$Square" "g" "[D", Cond.constantDouble RX2 37 (4517329193108106637), Cond.fieldLink RX2 22 "EchoBench$Square" "shares" "[D", Cond.methodLink RX2 33 yX2_rowTimes, Cond.instanceMethod yX2_rowTimes, Cond.selects RX2 yX2_rowTimes yX2_rowTimes, Cond.code yX2_rowTimes cX2_rowTimes 6 (some .double), Cond.fieldLink RX2 15 "EchoBench$Square" "numbers" "[[D", Cond.instanceMethod yX2_share, Cond.selects RX2 yX2_share yX2_share, Cond.code yX2_share cX2_share 2 (some .double), Cond.static yX3_isWithin, Cond.initialized RX3, Cond.code yX3_isWithin cX3_isWithin 3 (some .boolean)]
def wsX0_learnBySquare_r2 : List Cond := [Cond.methodLink RX0 106 yX0_add, Cond.instanceMethod yX0_add, Cond.selects RX0 yX0_add yX0_add, Cond.initialized RX0, Cond.code yX0_add cX0_add 4 none, Cond.constantDouble RX0 123 (4741671816366391296), Cond.static yX3_heldTo, Cond.code yX3_heldTo cX3_heldTo 4 (some .double), Cond.instanceMethod yX2_renew, Cond.selects RX2 yX2_renew yX2_renew, Cond.code yX2_renew cX2_renew 6 (some .boolean), Cond.constantDouble RX2 39 (4696837146684686336), Cond.instanceMethod yX2_restart, Cond.selects RX2 yX2_restart yX2_restart, Cond.code yX2_restart cX2_restart 3 none, Cond.constantDouble RX2 25 (4636737291354636288)]
def wsX0_learnBySquare : List Cond := .code yX0_learnBySquare cX0_learnBySquare 7 none :: ((wsX0_learnBySquare_r1 ++ wsX0_learnBySquare_r2) ++ wsX00 ++ wsX20)
def wsX0_normOf : List Cond := .code yX0_normOf cX0_normOf 5 (some .double) :: ([.fieldLink RX0 15 "EchoBench$Filter" "weights" "[D"] ++ wsX00)
def wsX0_lesson : List Cond := .code yX0_lesson cX0_lesson 7 (some .double) :: ([.fieldLink RX0 31 "EchoBench$Filter" "thousandths" "I", .constantDouble RX0 110 (4652007308841189376), .fieldLink RX0 9 "EchoBench$Filter" "kind" "I", .fieldLink RX0 50 "EchoBench$Filter" "error" "D"] ++ wsX00)
def wsX0_learn : List Cond := .code yX0_learn cX0_learn 5 none :: ([.fieldLink RX0 9 "EchoBench$Filter" "kind" "I", .fieldLink RX0 15 "EchoBench$Filter" "weights" "[D", .methodLink RX0 99 yX0_normOf, .instanceMethod yX0_normOf, .selects RX0 yX0_normOf yX0_normOf, .initialized RX0, .code yX0_normOf cX0_normOf 5 (some .double), .methodLink RX0 102 yX0_lesson, .instanceMethod yX0_lesson, .selects RX0 yX0_lesson yX0_lesson, .code yX0_lesson cX0_lesson 7 (some .double), .fieldLink RX0 31 "EchoBench$Filter" "thousandths" "I", .constantDouble RX0 110 (4652007308841189376), .fieldLink RX0 50 "EchoBench$Filter" "error" "D", .methodLink RX0 106 yX0_add, .instanceMethod yX0_add, .selects RX0 yX0_add yX0_add, .code yX0_add cX0_add 4 none, .constantDouble RX0 123 (4741671816366391296), .static yX3_heldTo, .initialized RX3, .code yX3_heldTo cX3_heldTo 4 (some .double)] ++ wsX00)
def wsX0_hear_r1 : List Cond := [Cond.fieldLink RX0 46 "EchoBench$Filter" "output" "D", Cond.fieldLink RX0 50 "EchoBench$Filter" "error" "D", Cond.fieldLink RX0 19 "EchoBench$Filter" "latestErrors" "[D", Cond.fieldLink RX0 53 "EchoBench$Filter" "heard" "I", Cond.fieldLink RX0 56 "EchoBench$Filter" "held" "I", Cond.fieldLink RX0 27 "EchoBench$Filter" "square" "LEchoBench$Square;", Cond.methodLink RX0 62 yX0_outputAt, Cond.instanceMethod yX0_outputAt, Cond.selects RX0 yX0_outputAt yX0_outputAt, Cond.initialized RX0, Cond.code yX0_outputAt cX0_outputAt 5 (some .double), Cond.fieldLink RX0 15 "EchoBench$Filter" "weights" "[D", Cond.methodLink RX0 66 yJ9_floorMod_7cf53, Cond.static yJ9_floorMod_7cf53, Cond.initialized RJ9, Cond.code yJ9_floorMod_7cf53 cJ9_floorMod_7cf53 3 (some .int), Cond.methodLink RX0 72 yX0_holdsAt, Cond.instanceMethod yX0_holdsAt, Cond.selects RX0 yX0_holdsAt yX0_holdsAt, Cond.code yX0_holdsAt cX0_holdsAt 4 (some .boolean), Cond.fieldLink RX0 87 "EchoBench$Filter" "tail" "I", Cond.fieldLink RX0 43 "EchoBench$Filter" "holdsLeft" "I", Cond.methodLink RX0 84 yX0_isLoud, Cond.instanceMethod yX0_isLoud]
def wsX0_hear_r2 : List Cond := [Cond.selects RX0 yX0_isLoud yX0_isLoud, Cond.code yX0_isLoud cX0_isLoud 9 (some .boolean), Cond.fieldLink RX0 90 "EchoBench$Filter" "watchHundredths" "I", Cond.constantDouble RX0 97 (4636737291354636288), Cond.static yX3_eitherWay, Cond.initialized RX3, Cond.code yX3_eitherWay cX3_eitherWay 2 (some .double), Cond.methodLink RX0 76 yX0_learnBySquare, Cond.instanceMethod yX0_learnBySquare, Cond.selects RX0 yX0_learnBySquare yX0_learnBySquare, Cond.code yX0_learnBySquare cX0_learnBySquare 7 none, Cond.fieldLink RX0 31 "EchoBench$Filter" "thousandths" "I", Cond.constantDouble RX0 110 (4652007308841189376), Cond.fieldLink RX0 59 "EchoBench$Filter" "resets" "I", Cond.instanceMethod yX2_prepare, Cond.initialized RX2, Cond.selects RX2 yX2_prepare yX2_prepare, Cond.code yX2_prepare cX2_prepare 7 (some .boolean), Cond.fieldLink RX2 7 "EchoBench$Square" "size" "I", Cond.fieldLink RX2 18 "EchoBench$Square" "g" "[D", Cond.constantDouble RX2 37 (4517329193108106637), Cond.fieldLink RX2 22 "EchoBench$Square" "shares" "[D", Cond.methodLink RX2 33 yX2_rowTimes, Cond.instanceMethod yX2_rowTimes]
def wsX0_hear_r3 : List Cond := [Cond.selects RX2 yX2_rowTimes yX2_rowTimes, Cond.code yX2_rowTimes cX2_rowTimes 6 (some .double), Cond.fieldLink RX2 15 "EchoBench$Square" "numbers" "[[D", Cond.instanceMethod yX2_share, Cond.selects RX2 yX2_share yX2_share, Cond.code yX2_share cX2_share 2 (some .double), Cond.static yX3_isWithin, Cond.code yX3_isWithin cX3_isWithin 3 (some .boolean), Cond.methodLink RX0 106 yX0_add, Cond.instanceMethod yX0_add, Cond.selects RX0 yX0_add yX0_add, Cond.code yX0_add cX0_add 4 none, Cond.constantDouble RX0 123 (4741671816366391296), Cond.static yX3_heldTo, Cond.code yX3_heldTo cX3_heldTo 4 (some .double), Cond.instanceMethod yX2_renew, Cond.selects RX2 yX2_renew yX2_renew, Cond.code yX2_renew cX2_renew 6 (some .boolean), Cond.constantDouble RX2 39 (4696837146684686336), Cond.instanceMethod yX2_restart, Cond.selects RX2 yX2_restart yX2_restart, Cond.code yX2_restart cX2_restart 3 none, Cond.constantDouble RX2 25 (4636737291354636288), Cond.methodLink RX0 80 yX0_learn]
def wsX0_hear_r4 : List Cond := [Cond.instanceMethod yX0_learn, Cond.selects RX0 yX0_learn yX0_learn, Cond.code yX0_learn cX0_learn 5 none, Cond.fieldLink RX0 9 "EchoBench$Filter" "kind" "I", Cond.methodLink RX0 99 yX0_normOf, Cond.instanceMethod yX0_normOf, Cond.selects RX0 yX0_normOf yX0_normOf, Cond.code yX0_normOf cX0_normOf 5 (some .double), Cond.methodLink RX0 102 yX0_lesson, Cond.instanceMethod yX0_lesson, Cond.selects RX0 yX0_lesson yX0_lesson, Cond.code yX0_lesson cX0_lesson 7 (some .double)]
def wsX0_hear : List Cond := .code yX0_hear cX0_hear 4 none :: ((wsX0_hear_r1 ++ (wsX0_hear_r2 ++ (wsX0_hear_r3 ++ wsX0_hear_r4))) ++ wsX00 ++ wsX20)
def wsX0_power : List Cond := .code yX0_power cX0_power 7 (some .double) :: ([.fieldLink RX0 53 "EchoBench$Filter" "heard" "I", .methodLink RX0 128 Lib.Math.max.name, .static Lib.Math.max.name, .initialized "java/lang/Math", .code Lib.Math.max.name Lib.Math.max.code 2 (some .int), .fieldLink RX0 19 "EchoBench$Filter" "latestErrors" "[D", .methodLink RX0 66 yJ9_floorMod_7cf53, .static yJ9_floorMod_7cf53, .initialized RJ9, .code yJ9_floorMod_7cf53 cJ9_floorMod_7cf53 3 (some .int)] ++ wsX00)
def wsX1_init : List Cond := .code yX1_init cX1_init 1 none :: ([.methodLink RX1 3 objectInit, .instanceMethod objectInit, .code objectInit ⟨#[0xb1]⟩ 1 none, .arrayClass .int, .fieldLink RX1 9 "EchoBench$Samples" "pathHundredths" "[I", .arrayClass .double, .fieldLink RX1 15 "EchoBench$Samples" "xs" "[D", .fieldLink RX1 19 "EchoBench$Samples" "latestX0" "[D", .fieldLink RX1 22 "EchoBench$Samples" "latestX1" "[D", .fieldLink RX1 25 "EchoBench$Samples" "latestMicrophone" "[D", .fieldLink RX1 28 "EchoBench$Samples" "lastMicrophone" "D", .fieldLink RX1 32 "EchoBench$Samples" "taken" "I"] ++ wsX10)
def wsX1_tellPath : List Cond := .code yX1_tellPath cX1_tellPath 4 (some .int) :: ([.fieldLink RX1 9 "EchoBench$Samples" "pathHundredths" "[I"] ++ wsX10)
def wsX1_heardWith : List Cond := .code yX1_heardWith cX1_heardWith 5 (some .double) :: ([.fieldLink RX1 9 "EchoBench$Samples" "pathHundredths" "[I", .constantDouble RX1 46 (4636737291354636288), .fieldLink RX1 15 "EchoBench$Samples" "xs" "[D"] ++ wsX10)
def wsX1_take : List Cond := .code yX1_take cX1_take 4 none :: ([.fieldLink RX1 15 "EchoBench$Samples" "xs" "[D", .fieldLink RX1 28 "EchoBench$Samples" "lastMicrophone" "D", .fieldLink RX1 32 "EchoBench$Samples" "taken" "I", .fieldLink RX1 19 "EchoBench$Samples" "latestX0" "[D", .fieldLink RX1 22 "EchoBench$Samples" "latestX1" "[D", .fieldLink RX1 25 "EchoBench$Samples" "latestMicrophone" "[D", .methodLink RX1 36 yX1_heardWith, .instanceMethod yX1_heardWith, .selects RX1 yX1_heardWith yX1_heardWith, .initialized RX1, .code yX1_heardWith cX1_heardWith 5 (some .double), .fieldLink RX1 9 "EchoBench$Samples" "pathHundredths" "[I", .constantDouble RX1 46 (4636737291354636288), .methodLink RX1 40 yJ9_floorMod_7cf53, .static yJ9_floorMod_7cf53, .initialized RJ9, .code yJ9_floorMod_7cf53 cJ9_floorMod_7cf53 3 (some .int)] ++ wsX10)
def wsX1_offness : List Cond := .code yX1_offness cX1_offness 7 (some .double) :: ([.fieldLink RX1 9 "EchoBench$Samples" "pathHundredths" "[I", .constantDouble RX1 46 (4636737291354636288)] ++ wsX10)
def wsX1_sumOfProducts : List Cond := .code yX1_sumOfProducts cX1_sumOfProducts 7 (some .double) :: ([.fieldLink RX1 32 "EchoBench$Samples" "taken" "I", .methodLink RX1 58 Lib.Math.max.name, .static Lib.Math.max.name, .initialized "java/lang/Math", .code Lib.Math.max.name Lib.Math.max.code 2 (some .int), .methodLink RX1 40 yJ9_floorMod_7cf53, .static yJ9_floorMod_7cf53, .initialized RJ9, .code yJ9_floorMod_7cf53 cJ9_floorMod_7cf53 3 (some .int)] ++ wsX10)
def wsX1_batchWeight : List Cond := .code yX1_batchWeight cX1_batchWeight 14 (some .double) :: ([.fieldLink RX1 19 "EchoBench$Samples" "latestX0" "[D", .fieldLink RX1 22 "EchoBench$Samples" "latestX1" "[D", .fieldLink RX1 25 "EchoBench$Samples" "latestMicrophone" "[D", .constantDouble RX1 56 (4602678819172646912), .methodLink RX1 48 yX1_sumOfProducts, .instanceMethod yX1_sumOfProducts, .selects RX1 yX1_sumOfProducts yX1_sumOfProducts, .initialized RX1, .code yX1_sumOfProducts cX1_sumOfProducts 7 (some .double), .fieldLink RX1 32 "EchoBench$Samples" "taken" "I", .methodLink RX1 58 Lib.Math.max.name, .static Lib.Math.max.name, .initialized "java/lang/Math", .code Lib.Math.max.name Lib.Math.max.code 2 (some .int), .methodLink RX1 40 yJ9_floorMod_7cf53, .static yJ9_floorMod_7cf53, .initialized RJ9, .code yJ9_floorMod_7cf53 cJ9_floorMod_7cf53 3 (some .int), .static yX3_eitherWay, .initialized RX3, .code yX3_eitherWay cX3_eitherWay 2 (some .double)] ++ wsX10)
def wsX2_number : List Cond := .code yX2_number cX2_number 3 (some .double) :: ([.fieldLink RX2 7 "EchoBench$Square" "size" "I", .fieldLink RX2 15 "EchoBench$Square" "numbers" "[[D", .static yX3_isWithin, .initialized RX3, .code yX3_isWithin cX3_isWithin 3 (some .boolean)] ++ wsX20)
def wsX3_init : List Cond := .code yX3_init cX3_init 1 none :: ([.methodLink RX3 1 objectInit, .instanceMethod objectInit, .code objectInit ⟨#[0xb1]⟩ 1 none, .classLink RX3 7 RX1, .instantiable RX1 7, .initialized RX1, .fieldLink RX3 10 "EchoBench" "samples" "LEchoBench$Samples;", .classLink RX3 16 RX0, .fieldLink RX3 18 "EchoBench" "filters" "[LEchoBench$Filter;", .fieldLink RX3 22 "EchoBench" "filterCount" "I", .instanceMethod yX1_init, .code yX1_init cX1_init 1 none, .methodLink RX1 3 objectInit, .arrayClass .int, .fieldLink RX1 9 "EchoBench$Samples" "pathHundredths" "[I", .arrayClass .double, .fieldLink RX1 15 "EchoBench$Samples" "xs" "[D", .fieldLink RX1 19 "EchoBench$Samples" "latestX0" "[D", .fieldLink RX1 22 "EchoBench$Samples" "latestX1" "[D", .fieldLink RX1 25 "EchoBench$Samples" "latestMicrophone" "[D", .fieldLink RX1 28 "EchoBench$Samples" "lastMicrophone" "D", .fieldLink RX1 32 "EchoBench$Samples" "taken" "I"] ++ wsX10 ++ wsX30)
def wsX3_path : List Cond := .code yX3_path cX3_path 3 (some .int) :: ([.classLink RX3 30 "java/lang/IndexOutOfBoundsException", .initialized "java/lang/IndexOutOfBoundsException", .classLink RX3 37 "java/lang/IllegalArgumentException", .initialized "java/lang/IllegalArgumentException", .fieldLink RX3 10 "EchoBench" "samples" "LEchoBench$Samples;", .methodLink RX3 26 yX3_isWithin, .static yX3_isWithin, .initialized RX3, .code yX3_isWithin cX3_isWithin 3 (some .boolean), .instanceMethod yX1_tellPath, .initialized RX1, .selects RX1 yX1_tellPath yX1_tellPath, .code yX1_tellPath cX1_tellPath 4 (some .int), .fieldLink RX1 9 "EchoBench$Samples" "pathHundredths" "[I"] ++ wsX30 ++ wsX10 ++ (vx_atS RX3 34 "java/lang/IndexOutOfBoundsException" ["java/lang/RuntimeException", "java/lang/Exception"]).filter goodWord ++ (vx_atS RX3 41 "java/lang/IllegalArgumentException" ["java/lang/RuntimeException", "java/lang/Exception"]).filter goodWord)
def wsX3_isStepOf : List Cond := .code yX3_isStepOf cX3_isStepOf 2 (some .boolean) :: ([.methodLink RX3 26 yX3_isWithin, .static yX3_isWithin, .initialized RX3, .code yX3_isWithin cX3_isWithin 3 (some .boolean)])
def wsX3_filter_r1 : List Cond := [Cond.classLink RX3 37 "java/lang/IllegalArgumentException", Cond.initialized "java/lang/IllegalArgumentException", Cond.classLink RX3 56 "java/lang/IllegalStateException", Cond.initialized "java/lang/IllegalStateException", Cond.fieldLink RX3 22 "EchoBench" "filterCount" "I", Cond.fieldLink RX3 18 "EchoBench" "filters" "[LEchoBench$Filter;", Cond.classLink RX3 16 RX0, Cond.instantiable RX0 13, Cond.initialized RX0, Cond.methodLink RX3 26 yX3_isWithin, Cond.static yX3_isWithin, Cond.initialized RX3, Cond.code yX3_isWithin cX3_isWithin 3 (some .boolean), Cond.methodLink RX3 50 yX3_isStepOf, Cond.static yX3_isStepOf, Cond.code yX3_isStepOf cX3_isStepOf 2 (some .boolean), Cond.instanceMethod yX0_init, Cond.code yX0_init cX0_init 4 none, Cond.methodLink RX0 3 objectInit, Cond.instanceMethod objectInit, Cond.code objectInit ⟨#[0xb1]⟩ 1 none, Cond.fieldLink RX0 9 "EchoBench$Filter" "kind" "I", Cond.arrayClass .double, Cond.fieldLink RX0 15 "EchoBench$Filter" "weights" "[D"]
def wsX3_filter_r2 : List Cond := [Cond.fieldLink RX0 19 "EchoBench$Filter" "latestErrors" "[D", Cond.classLink RX0 22 RX2, Cond.instantiable RX2 4, Cond.initialized RX2, Cond.fieldLink RX0 27 "EchoBench$Filter" "square" "LEchoBench$Square;", Cond.fieldLink RX0 31 "EchoBench$Filter" "thousandths" "I", Cond.instanceMethod yX2_init, Cond.code yX2_init cX2_init 3 none, Cond.methodLink RX2 1 objectInit, Cond.fieldLink RX2 7 "EchoBench$Square" "size" "I", Cond.classLink RX2 13 "[[D", Cond.fieldLink RX2 15 "EchoBench$Square" "numbers" "[[D", Cond.fieldLink RX2 18 "EchoBench$Square" "g" "[D", Cond.fieldLink RX2 22 "EchoBench$Square" "shares" "[D", Cond.constantDouble RX2 25 (4636737291354636288)]
def wsX3_filter : List Cond := .code yX3_filter cX3_filter 5 (some .int) :: ((wsX3_filter_r1 ++ wsX3_filter_r2) ++ wsX30 ++ wsX00 ++ wsX20 ++ (vx_atS RX3 41 "java/lang/IllegalArgumentException" ["java/lang/RuntimeException", "java/lang/Exception"]).filter goodWord ++ (vx_atS RX3 60 "java/lang/IllegalStateException" ["java/lang/RuntimeException", "java/lang/Exception"]).filter goodWord)
def wsX3_numbered : List Cond := .code yX3_numbered cX3_numbered 2 (some (.object "EchoBench$Filter")) :: ([.fieldLink RX3 22 "EchoBench" "filterCount" "I", .fieldLink RX3 18 "EchoBench" "filters" "[LEchoBench$Filter;"] ++ wsX30)
def wsX3_step : List Cond := .code yX3_step cX3_step 5 (some .int) :: ([.classLink RX3 30 "java/lang/IndexOutOfBoundsException", .initialized "java/lang/IndexOutOfBoundsException", .classLink RX3 37 "java/lang/IllegalArgumentException", .initialized "java/lang/IllegalArgumentException", .methodLink RX3 64 yX3_numbered, .instanceMethod yX3_numbered, .selects RX3 yX3_numbered yX3_numbered, .initialized RX3, .code yX3_numbered cX3_numbered 2 (some (.object "EchoBench$Filter")), .fieldLink RX3 22 "EchoBench" "filterCount" "I", .fieldLink RX3 18 "EchoBench" "filters" "[LEchoBench$Filter;", .methodLink RX3 50 yX3_isStepOf, .static yX3_isStepOf, .code yX3_isStepOf cX3_isStepOf 2 (some .boolean), .methodLink RX3 26 yX3_isWithin, .static yX3_isWithin, .code yX3_isWithin cX3_isWithin 3 (some .boolean)] ++ wsX00 ++ wsX30 ++ (vx_atS RX3 34 "java/lang/IndexOutOfBoundsException" ["java/lang/RuntimeException", "java/lang/Exception"]).filter goodWord ++ (vx_atS RX3 41 "java/lang/IllegalArgumentException" ["java/lang/RuntimeException", "java/lang/Exception"]).filter goodWord)
def wsX3_watch : List Cond := .code yX3_watch cX3_watch 5 none :: ([.classLink RX3 30 "java/lang/IndexOutOfBoundsException", .initialized "java/lang/IndexOutOfBoundsException", .classLink RX3 37 "java/lang/IllegalArgumentException", .initialized "java/lang/IllegalArgumentException", .methodLink RX3 64 yX3_numbered, .instanceMethod yX3_numbered, .selects RX3 yX3_numbered yX3_numbered, .initialized RX3, .code yX3_numbered cX3_numbered 2 (some (.object "EchoBench$Filter")), .fieldLink RX3 22 "EchoBench" "filterCount" "I", .fieldLink RX3 18 "EchoBench" "filters" "[LEchoBench$Filter;", .methodLink RX3 26 yX3_isWithin, .static yX3_isWithin, .code yX3_isWithin cX3_isWithin 3 (some .boolean)] ++ wsX00 ++ wsX30 ++ (vx_atS RX3 34 "java/lang/IndexOutOfBoundsException" ["java/lang/RuntimeException", "java/lang/Exception"]).filter goodWord ++ (vx_atS RX3 41 "java/lang/IllegalArgumentException" ["java/lang/RuntimeException", "java/lang/Exception"]).filter goodWord)
def wsX3_begin_r1 : List Cond := [Cond.classLink RX3 30 "java/lang/IndexOutOfBoundsException", Cond.initialized "java/lang/IndexOutOfBoundsException", Cond.methodLink RX3 64 yX3_numbered, Cond.instanceMethod yX3_numbered, Cond.selects RX3 yX3_numbered yX3_numbered, Cond.initialized RX3, Cond.code yX3_numbered cX3_numbered 2 (some (.object "EchoBench$Filter")), Cond.fieldLink RX3 22 "EchoBench" "filterCount" "I", Cond.fieldLink RX3 18 "EchoBench" "filters" "[LEchoBench$Filter;", Cond.instanceMethod yX0_restart, Cond.initialized RX0, Cond.selects RX0 yX0_restart yX0_restart, Cond.code yX0_restart cX0_restart 1 none, Cond.fieldLink RX0 15 "EchoBench$Filter" "weights" "[D", Cond.fieldLink RX0 27 "EchoBench$Filter" "square" "LEchoBench$Square;", Cond.fieldLink RX0 43 "EchoBench$Filter" "holdsLeft" "I", Cond.fieldLink RX0 46 "EchoBench$Filter" "output" "D", Cond.fieldLink RX0 50 "EchoBench$Filter" "error" "D", Cond.fieldLink RX0 53 "EchoBench$Filter" "heard" "I", Cond.fieldLink RX0 56 "EchoBench$Filter" "held" "I", Cond.fieldLink RX0 59 "EchoBench$Filter" "resets" "I", Cond.methodLink RX0 34 yJ7_fill_7f8df, Cond.static yJ7_fill_7f8df, Cond.initialized RJ7]
def wsX3_begin_r2 : List Cond := [Cond.code yJ7_fill_7f8df cJ7_fill_7f8df 5 none, Cond.instanceMethod yX2_restart, Cond.initialized RX2, Cond.selects RX2 yX2_restart yX2_restart, Cond.code yX2_restart cX2_restart 3 none, Cond.fieldLink RX2 7 "EchoBench$Square" "size" "I", Cond.fieldLink RX2 15 "EchoBench$Square" "numbers" "[[D", Cond.constantDouble RX2 25 (4636737291354636288)]
def wsX3_begin : List Cond := .code yX3_begin cX3_begin 3 none :: ((wsX3_begin_r1 ++ wsX3_begin_r2) ++ wsX30 ++ wsX00 ++ wsX20 ++ (vx_atS RX3 34 "java/lang/IndexOutOfBoundsException" ["java/lang/RuntimeException", "java/lang/Exception"]).filter goodWord)
def wsX3_takeSample_r1 : List Cond := [Cond.fieldLink RX3 10 "EchoBench" "samples" "LEchoBench$Samples;", Cond.fieldLink RX3 22 "EchoBench" "filterCount" "I", Cond.instanceMethod yX1_take, Cond.initialized RX1, Cond.selects RX1 yX1_take yX1_take, Cond.code yX1_take cX1_take 4 none, Cond.fieldLink RX1 15 "EchoBench$Samples" "xs" "[D", Cond.fieldLink RX1 28 "EchoBench$Samples" "lastMicrophone" "D", Cond.fieldLink RX1 32 "EchoBench$Samples" "taken" "I", Cond.fieldLink RX1 19 "EchoBench$Samples" "latestX0" "[D", Cond.fieldLink RX1 22 "EchoBench$Samples" "latestX1" "[D", Cond.fieldLink RX1 25 "EchoBench$Samples" "latestMicrophone" "[D", Cond.methodLink RX1 36 yX1_heardWith, Cond.instanceMethod yX1_heardWith, Cond.selects RX1 yX1_heardWith yX1_heardWith, Cond.code yX1_heardWith cX1_heardWith 5 (some .double), Cond.fieldLink RX1 9 "EchoBench$Samples" "pathHundredths" "[I", Cond.constantDouble RX1 46 (4636737291354636288), Cond.methodLink RX1 40 yJ9_floorMod_7cf53, Cond.static yJ9_floorMod_7cf53, Cond.initialized RJ9, Cond.code yJ9_floorMod_7cf53 cJ9_floorMod_7cf53 3 (some .int), Cond.methodLink RX3 64 yX3_numbered, Cond.instanceMethod yX3_numbered]
def wsX3_takeSample_r2 : List Cond := [Cond.selects RX3 yX3_numbered yX3_numbered, Cond.initialized RX3, Cond.code yX3_numbered cX3_numbered 2 (some (.object "EchoBench$Filter")), Cond.fieldLink RX3 18 "EchoBench" "filters" "[LEchoBench$Filter;", Cond.instanceMethod yX0_hear, Cond.initialized RX0, Cond.selects RX0 yX0_hear yX0_hear, Cond.code yX0_hear cX0_hear 4 none, Cond.fieldLink RX0 46 "EchoBench$Filter" "output" "D", Cond.fieldLink RX0 50 "EchoBench$Filter" "error" "D", Cond.fieldLink RX0 19 "EchoBench$Filter" "latestErrors" "[D", Cond.fieldLink RX0 53 "EchoBench$Filter" "heard" "I", Cond.fieldLink RX0 56 "EchoBench$Filter" "held" "I", Cond.fieldLink RX0 27 "EchoBench$Filter" "square" "LEchoBench$Square;", Cond.methodLink RX0 62 yX0_outputAt, Cond.instanceMethod yX0_outputAt, Cond.selects RX0 yX0_outputAt yX0_outputAt, Cond.code yX0_outputAt cX0_outputAt 5 (some .double), Cond.fieldLink RX0 15 "EchoBench$Filter" "weights" "[D", Cond.methodLink RX0 66 yJ9_floorMod_7cf53, Cond.methodLink RX0 72 yX0_holdsAt, Cond.instanceMethod yX0_holdsAt, Cond.selects RX0 yX0_holdsAt yX0_holdsAt, Cond.code yX0_holdsAt cX0_holdsAt 4 (some .boolean)]
def wsX3_takeSample_r3 : List Cond := [Cond.fieldLink RX0 87 "EchoBench$Filter" "tail" "I", Cond.fieldLink RX0 43 "EchoBench$Filter" "holdsLeft" "I", Cond.methodLink RX0 84 yX0_isLoud, Cond.instanceMethod yX0_isLoud, Cond.selects RX0 yX0_isLoud yX0_isLoud, Cond.code yX0_isLoud cX0_isLoud 9 (some .boolean), Cond.fieldLink RX0 90 "EchoBench$Filter" "watchHundredths" "I", Cond.constantDouble RX0 97 (4636737291354636288), Cond.static yX3_eitherWay, Cond.code yX3_eitherWay cX3_eitherWay 2 (some .double), Cond.methodLink RX0 76 yX0_learnBySquare, Cond.instanceMethod yX0_learnBySquare, Cond.selects RX0 yX0_learnBySquare yX0_learnBySquare, Cond.code yX0_learnBySquare cX0_learnBySquare 7 none, Cond.fieldLink RX0 31 "EchoBench$Filter" "thousandths" "I", Cond.constantDouble RX0 110 (4652007308841189376), Cond.fieldLink RX0 59 "EchoBench$Filter" "resets" "I", Cond.instanceMethod yX2_prepare, Cond.initialized RX2, Cond.selects RX2 yX2_prepare yX2_prepare, Cond.code yX2_prepare cX2_prepare 7 (some .boolean), Cond.fieldLink RX2 7 "EchoBench$Square" "size" "I", Cond.fieldLink RX2 18 "EchoBench$Square" "g" "[D", Cond.constantDouble RX2 37 (4517329193108106637)]
def wsX3_takeSample_r4 : List Cond := [Cond.fieldLink RX2 22 "EchoBench$Square" "shares" "[D", Cond.methodLink RX2 33 yX2_rowTimes, Cond.instanceMethod yX2_rowTimes, Cond.selects RX2 yX2_rowTimes yX2_rowTimes, Cond.code yX2_rowTimes cX2_rowTimes 6 (some .double), Cond.fieldLink RX2 15 "EchoBench$Square" "numbers" "[[D", Cond.instanceMethod yX2_share, Cond.selects RX2 yX2_share yX2_share, Cond.code yX2_share cX2_share 2 (some .double), Cond.static yX3_isWithin, Cond.code yX3_isWithin cX3_isWithin 3 (some .boolean), Cond.methodLink RX0 106 yX0_add, Cond.instanceMethod yX0_add, Cond.selects RX0 yX0_add yX0_add, Cond.code yX0_add cX0_add 4 none, Cond.constantDouble RX0 123 (4741671816366391296), Cond.static yX3_heldTo, Cond.code yX3_heldTo cX3_heldTo 4 (some .double), Cond.instanceMethod yX2_renew, Cond.selects RX2 yX2_renew yX2_renew, Cond.code yX2_renew cX2_renew 6 (some .boolean), Cond.constantDouble RX2 39 (4696837146684686336), Cond.instanceMethod yX2_restart, Cond.selects RX2 yX2_restart yX2_restart]
def wsX3_takeSample_r5 : List Cond := [Cond.code yX2_restart cX2_restart 3 none, Cond.constantDouble RX2 25 (4636737291354636288), Cond.methodLink RX0 80 yX0_learn, Cond.instanceMethod yX0_learn, Cond.selects RX0 yX0_learn yX0_learn, Cond.code yX0_learn cX0_learn 5 none, Cond.fieldLink RX0 9 "EchoBench$Filter" "kind" "I", Cond.methodLink RX0 99 yX0_normOf, Cond.instanceMethod yX0_normOf, Cond.selects RX0 yX0_normOf yX0_normOf, Cond.code yX0_normOf cX0_normOf 5 (some .double), Cond.methodLink RX0 102 yX0_lesson, Cond.instanceMethod yX0_lesson, Cond.selects RX0 yX0_lesson yX0_lesson, Cond.code yX0_lesson cX0_lesson 7 (some .double)]
def wsX3_takeSample : List Cond := .code yX3_takeSample cX3_takeSample 5 none :: ((wsX3_takeSample_r1 ++ (wsX3_takeSample_r2 ++ (wsX3_takeSample_r3 ++ (wsX3_takeSample_r4 ++ wsX3_takeSample_r5)))) ++ wsX30 ++ wsX10 ++ wsX00 ++ wsX20)
def wsX3_feed_r1 : List Cond := [Cond.classLink RX3 37 "java/lang/IllegalArgumentException", Cond.initialized "java/lang/IllegalArgumentException", Cond.classLink RX3 56 "java/lang/IllegalStateException", Cond.initialized "java/lang/IllegalStateException", Cond.fieldLink RX3 10 "EchoBench" "samples" "LEchoBench$Samples;", Cond.methodLink RX3 26 yX3_isWithin, Cond.static yX3_isWithin, Cond.initialized RX3, Cond.code yX3_isWithin cX3_isWithin 3 (some .boolean), Cond.methodLink RX3 96 yX3_takeSample, Cond.instanceMethod yX3_takeSample, Cond.selects RX3 yX3_takeSample yX3_takeSample, Cond.code yX3_takeSample cX3_takeSample 5 none, Cond.fieldLink RX3 22 "EchoBench" "filterCount" "I", Cond.instanceMethod yX1_take, Cond.initialized RX1, Cond.selects RX1 yX1_take yX1_take, Cond.code yX1_take cX1_take 4 none, Cond.fieldLink RX1 15 "EchoBench$Samples" "xs" "[D", Cond.fieldLink RX1 28 "EchoBench$Samples" "lastMicrophone" "D", Cond.fieldLink RX1 32 "EchoBench$Samples" "taken" "I", Cond.fieldLink RX1 19 "EchoBench$Samples" "latestX0" "[D", Cond.fieldLink RX1 22 "EchoBench$Samples" "latestX1" "[D", Cond.fieldLink RX1 25 "EchoBench$Samples" "latestMicrophone" "[D"]
def wsX3_feed_r2 : List Cond := [Cond.methodLink RX1 36 yX1_heardWith, Cond.instanceMethod yX1_heardWith, Cond.selects RX1 yX1_heardWith yX1_heardWith, Cond.code yX1_heardWith cX1_heardWith 5 (some .double), Cond.fieldLink RX1 9 "EchoBench$Samples" "pathHundredths" "[I", Cond.constantDouble RX1 46 (4636737291354636288), Cond.methodLink RX1 40 yJ9_floorMod_7cf53, Cond.static yJ9_floorMod_7cf53, Cond.initialized RJ9, Cond.code yJ9_floorMod_7cf53 cJ9_floorMod_7cf53 3 (some .int), Cond.methodLink RX3 64 yX3_numbered, Cond.instanceMethod yX3_numbered, Cond.selects RX3 yX3_numbered yX3_numbered, Cond.code yX3_numbered cX3_numbered 2 (some (.object "EchoBench$Filter")), Cond.fieldLink RX3 18 "EchoBench" "filters" "[LEchoBench$Filter;", Cond.instanceMethod yX0_hear, Cond.initialized RX0, Cond.selects RX0 yX0_hear yX0_hear, Cond.code yX0_hear cX0_hear 4 none, Cond.fieldLink RX0 46 "EchoBench$Filter" "output" "D", Cond.fieldLink RX0 50 "EchoBench$Filter" "error" "D", Cond.fieldLink RX0 19 "EchoBench$Filter" "latestErrors" "[D", Cond.fieldLink RX0 53 "EchoBench$Filter" "heard" "I", Cond.fieldLink RX0 56 "EchoBench$Filter" "held" "I"]
def wsX3_feed_r3 : List Cond := [Cond.fieldLink RX0 27 "EchoBench$Filter" "square" "LEchoBench$Square;", Cond.methodLink RX0 62 yX0_outputAt, Cond.instanceMethod yX0_outputAt, Cond.selects RX0 yX0_outputAt yX0_outputAt, Cond.code yX0_outputAt cX0_outputAt 5 (some .double), Cond.fieldLink RX0 15 "EchoBench$Filter" "weights" "[D", Cond.methodLink RX0 66 yJ9_floorMod_7cf53, Cond.methodLink RX0 72 yX0_holdsAt, Cond.instanceMethod yX0_holdsAt, Cond.selects RX0 yX0_holdsAt yX0_holdsAt, Cond.code yX0_holdsAt cX0_holdsAt 4 (some .boolean), Cond.fieldLink RX0 87 "EchoBench$Filter" "tail" "I", Cond.fieldLink RX0 43 "EchoBench$Filter" "holdsLeft" "I", Cond.methodLink RX0 84 yX0_isLoud, Cond.instanceMethod yX0_isLoud, Cond.selects RX0 yX0_isLoud yX0_isLoud, Cond.code yX0_isLoud cX0_isLoud 9 (some .boolean), Cond.fieldLink RX0 90 "EchoBench$Filter" "watchHundredths" "I", Cond.constantDouble RX0 97 (4636737291354636288), Cond.static yX3_eitherWay, Cond.code yX3_eitherWay cX3_eitherWay 2 (some .double), Cond.methodLink RX0 76 yX0_learnBySquare, Cond.instanceMethod yX0_learnBySquare, Cond.selects RX0 yX0_learnBySquare yX0_learnBySquare]
def wsX3_feed_r4 : List Cond := [Cond.code yX0_learnBySquare cX0_learnBySquare 7 none, Cond.fieldLink RX0 31 "EchoBench$Filter" "thousandths" "I", Cond.constantDouble RX0 110 (4652007308841189376), Cond.fieldLink RX0 59 "EchoBench$Filter" "resets" "I", Cond.instanceMethod yX2_prepare, Cond.initialized RX2, Cond.selects RX2 yX2_prepare yX2_prepare, Cond.code yX2_prepare cX2_prepare 7 (some .boolean), Cond.fieldLink RX2 7 "EchoBench$Square" "size" "I", Cond.fieldLink RX2 18 "EchoBench$Square" "g" "[D", Cond.constantDouble RX2 37 (4517329193108106637), Cond.fieldLink RX2 22 "EchoBench$Square" "shares" "[D", Cond.methodLink RX2 33 yX2_rowTimes, Cond.instanceMethod yX2_rowTimes, Cond.selects RX2 yX2_rowTimes yX2_rowTimes, Cond.code yX2_rowTimes cX2_rowTimes 6 (some .double), Cond.fieldLink RX2 15 "EchoBench$Square" "numbers" "[[D", Cond.instanceMethod yX2_share, Cond.selects RX2 yX2_share yX2_share, Cond.code yX2_share cX2_share 2 (some .double), Cond.methodLink RX0 106 yX0_add, Cond.instanceMethod yX0_add, Cond.selects RX0 yX0_add yX0_add, Cond.code yX0_add cX0_add 4 none]
def wsX3_feed_r5 : List Cond := [Cond.constantDouble RX0 123 (4741671816366391296), Cond.static yX3_heldTo, Cond.code yX3_heldTo cX3_heldTo 4 (some .double), Cond.instanceMethod yX2_renew, Cond.selects RX2 yX2_renew yX2_renew, Cond.code yX2_renew cX2_renew 6 (some .boolean), Cond.constantDouble RX2 39 (4696837146684686336), Cond.instanceMethod yX2_restart, Cond.selects RX2 yX2_restart yX2_restart, Cond.code yX2_restart cX2_restart 3 none, Cond.constantDouble RX2 25 (4636737291354636288), Cond.methodLink RX0 80 yX0_learn, Cond.instanceMethod yX0_learn, Cond.selects RX0 yX0_learn yX0_learn, Cond.code yX0_learn cX0_learn 5 none, Cond.fieldLink RX0 9 "EchoBench$Filter" "kind" "I", Cond.methodLink RX0 99 yX0_normOf, Cond.instanceMethod yX0_normOf, Cond.selects RX0 yX0_normOf yX0_normOf, Cond.code yX0_normOf cX0_normOf 5 (some .double), Cond.methodLink RX0 102 yX0_lesson, Cond.instanceMethod yX0_lesson, Cond.selects RX0 yX0_lesson yX0_lesson, Cond.code yX0_lesson cX0_lesson 7 (some .double)]
def wsX3_feed : List Cond := .code yX3_feed cX3_feed 3 (some .int) :: ((wsX3_feed_r1 ++ (wsX3_feed_r2 ++ (wsX3_feed_r3 ++ (wsX3_feed_r4 ++ wsX3_feed_r5)))) ++ wsX30 ++ wsX10 ++ wsX00 ++ wsX20 ++ (vx_atS RX3 41 "java/lang/IllegalArgumentException" ["java/lang/RuntimeException", "java/lang/Exception"]).filter goodWord ++ (vx_atS RX3 60 "java/lang/IllegalStateException" ["java/lang/RuntimeException", "java/lang/Exception"]).filter goodWord)
def wsX3_script_r1 : List Cond := [Cond.classLink RX3 37 "java/lang/IllegalArgumentException", Cond.initialized "java/lang/IllegalArgumentException", Cond.classLink RX3 56 "java/lang/IllegalStateException", Cond.initialized "java/lang/IllegalStateException", Cond.fieldLink RX3 10 "EchoBench" "samples" "LEchoBench$Samples;", Cond.methodLink RX3 26 yX3_isWithin, Cond.static yX3_isWithin, Cond.initialized RX3, Cond.code yX3_isWithin cX3_isWithin 3 (some .boolean), Cond.methodLink RX3 96 yX3_takeSample, Cond.instanceMethod yX3_takeSample, Cond.selects RX3 yX3_takeSample yX3_takeSample, Cond.code yX3_takeSample cX3_takeSample 5 none, Cond.fieldLink RX3 22 "EchoBench" "filterCount" "I", Cond.instanceMethod yX1_take, Cond.initialized RX1, Cond.selects RX1 yX1_take yX1_take, Cond.code yX1_take cX1_take 4 none, Cond.fieldLink RX1 15 "EchoBench$Samples" "xs" "[D", Cond.fieldLink RX1 28 "EchoBench$Samples" "lastMicrophone" "D", Cond.fieldLink RX1 32 "EchoBench$Samples" "taken" "I", Cond.fieldLink RX1 19 "EchoBench$Samples" "latestX0" "[D", Cond.fieldLink RX1 22 "EchoBench$Samples" "latestX1" "[D", Cond.fieldLink RX1 25 "EchoBench$Samples" "latestMicrophone" "[D"]
def wsX3_script_r2 : List Cond := [Cond.methodLink RX1 36 yX1_heardWith, Cond.instanceMethod yX1_heardWith, Cond.selects RX1 yX1_heardWith yX1_heardWith, Cond.code yX1_heardWith cX1_heardWith 5 (some .double), Cond.fieldLink RX1 9 "EchoBench$Samples" "pathHundredths" "[I", Cond.constantDouble RX1 46 (4636737291354636288), Cond.methodLink RX1 40 yJ9_floorMod_7cf53, Cond.static yJ9_floorMod_7cf53, Cond.initialized RJ9, Cond.code yJ9_floorMod_7cf53 cJ9_floorMod_7cf53 3 (some .int), Cond.methodLink RX3 64 yX3_numbered, Cond.instanceMethod yX3_numbered, Cond.selects RX3 yX3_numbered yX3_numbered, Cond.code yX3_numbered cX3_numbered 2 (some (.object "EchoBench$Filter")), Cond.fieldLink RX3 18 "EchoBench" "filters" "[LEchoBench$Filter;", Cond.instanceMethod yX0_hear, Cond.initialized RX0, Cond.selects RX0 yX0_hear yX0_hear, Cond.code yX0_hear cX0_hear 4 none, Cond.fieldLink RX0 46 "EchoBench$Filter" "output" "D", Cond.fieldLink RX0 50 "EchoBench$Filter" "error" "D", Cond.fieldLink RX0 19 "EchoBench$Filter" "latestErrors" "[D", Cond.fieldLink RX0 53 "EchoBench$Filter" "heard" "I", Cond.fieldLink RX0 56 "EchoBench$Filter" "held" "I"]
def wsX3_script_r3 : List Cond := [Cond.fieldLink RX0 27 "EchoBench$Filter" "square" "LEchoBench$Square;", Cond.methodLink RX0 62 yX0_outputAt, Cond.instanceMethod yX0_outputAt, Cond.selects RX0 yX0_outputAt yX0_outputAt, Cond.code yX0_outputAt cX0_outputAt 5 (some .double), Cond.fieldLink RX0 15 "EchoBench$Filter" "weights" "[D", Cond.methodLink RX0 66 yJ9_floorMod_7cf53, Cond.methodLink RX0 72 yX0_holdsAt, Cond.instanceMethod yX0_holdsAt, Cond.selects RX0 yX0_holdsAt yX0_holdsAt, Cond.code yX0_holdsAt cX0_holdsAt 4 (some .boolean), Cond.fieldLink RX0 87 "EchoBench$Filter" "tail" "I", Cond.fieldLink RX0 43 "EchoBench$Filter" "holdsLeft" "I", Cond.methodLink RX0 84 yX0_isLoud, Cond.instanceMethod yX0_isLoud, Cond.selects RX0 yX0_isLoud yX0_isLoud, Cond.code yX0_isLoud cX0_isLoud 9 (some .boolean), Cond.fieldLink RX0 90 "EchoBench$Filter" "watchHundredths" "I", Cond.constantDouble RX0 97 (4636737291354636288), Cond.static yX3_eitherWay, Cond.code yX3_eitherWay cX3_eitherWay 2 (some .double), Cond.methodLink RX0 76 yX0_learnBySquare, Cond.instanceMethod yX0_learnBySquare, Cond.selects RX0 yX0_learnBySquare yX0_learnBySquare]
def wsX3_script_r4 : List Cond := [Cond.code yX0_learnBySquare cX0_learnBySquare 7 none, Cond.fieldLink RX0 31 "EchoBench$Filter" "thousandths" "I", Cond.constantDouble RX0 110 (4652007308841189376), Cond.fieldLink RX0 59 "EchoBench$Filter" "resets" "I", Cond.instanceMethod yX2_prepare, Cond.initialized RX2, Cond.selects RX2 yX2_prepare yX2_prepare, Cond.code yX2_prepare cX2_prepare 7 (some .boolean), Cond.fieldLink RX2 7 "EchoBench$Square" "size" "I", Cond.fieldLink RX2 18 "EchoBench$Square" "g" "[D", Cond.constantDouble RX2 37 (4517329193108106637), Cond.fieldLink RX2 22 "EchoBench$Square" "shares" "[D", Cond.methodLink RX2 33 yX2_rowTimes, Cond.instanceMethod yX2_rowTimes, Cond.selects RX2 yX2_rowTimes yX2_rowTimes, Cond.code yX2_rowTimes cX2_rowTimes 6 (some .double), Cond.fieldLink RX2 15 "EchoBench$Square" "numbers" "[[D", Cond.instanceMethod yX2_share, Cond.selects RX2 yX2_share yX2_share, Cond.code yX2_share cX2_share 2 (some .double), Cond.methodLink RX0 106 yX0_add, Cond.instanceMethod yX0_add, Cond.selects RX0 yX0_add yX0_add, Cond.code yX0_add cX0_add 4 none]
def wsX3_script_r5 : List Cond := [Cond.constantDouble RX0 123 (4741671816366391296), Cond.static yX3_heldTo, Cond.code yX3_heldTo cX3_heldTo 4 (some .double), Cond.instanceMethod yX2_renew, Cond.selects RX2 yX2_renew yX2_renew, Cond.code yX2_renew cX2_renew 6 (some .boolean), Cond.constantDouble RX2 39 (4696837146684686336), Cond.instanceMethod yX2_restart, Cond.selects RX2 yX2_restart yX2_restart, Cond.code yX2_restart cX2_restart 3 none, Cond.constantDouble RX2 25 (4636737291354636288), Cond.methodLink RX0 80 yX0_learn, Cond.instanceMethod yX0_learn, Cond.selects RX0 yX0_learn yX0_learn, Cond.code yX0_learn cX0_learn 5 none, Cond.fieldLink RX0 9 "EchoBench$Filter" "kind" "I", Cond.methodLink RX0 99 yX0_normOf, Cond.instanceMethod yX0_normOf, Cond.selects RX0 yX0_normOf yX0_normOf, Cond.code yX0_normOf cX0_normOf 5 (some .double), Cond.methodLink RX0 102 yX0_lesson, Cond.instanceMethod yX0_lesson, Cond.selects RX0 yX0_lesson yX0_lesson, Cond.code yX0_lesson cX0_lesson 7 (some .double)]
def wsX3_script : List Cond := .code yX3_script cX3_script 5 (some .int) :: ((wsX3_script_r1 ++ (wsX3_script_r2 ++ (wsX3_script_r3 ++ (wsX3_script_r4 ++ wsX3_script_r5)))) ++ wsX30 ++ wsX10 ++ wsX00 ++ wsX20 ++ (vx_atS RX3 41 "java/lang/IllegalArgumentException" ["java/lang/RuntimeException", "java/lang/Exception"]).filter goodWord ++ (vx_atS RX3 60 "java/lang/IllegalStateException" ["java/lang/RuntimeException", "java/lang/Exception"]).filter goodWord)
def wsX3_weight : List Cond := .code yX3_weight cX3_weight 4 (some .double) :: ([.classLink RX3 30 "java/lang/IndexOutOfBoundsException", .initialized "java/lang/IndexOutOfBoundsException", .methodLink RX3 64 yX3_numbered, .instanceMethod yX3_numbered, .selects RX3 yX3_numbered yX3_numbered, .initialized RX3, .code yX3_numbered cX3_numbered 2 (some (.object "EchoBench$Filter")), .fieldLink RX3 22 "EchoBench" "filterCount" "I", .fieldLink RX3 18 "EchoBench" "filters" "[LEchoBench$Filter;"] ++ wsX00 ++ wsX30 ++ (vx_atS RX3 34 "java/lang/IndexOutOfBoundsException" ["java/lang/RuntimeException", "java/lang/Exception"]).filter goodWord)
def wsX3_of_r1 : List Cond := [Cond.classLink RX3 30 "java/lang/IndexOutOfBoundsException", Cond.initialized "java/lang/IndexOutOfBoundsException", Cond.classLink RX3 37 "java/lang/IllegalArgumentException", Cond.initialized "java/lang/IllegalArgumentException", Cond.fieldLink RX3 10 "EchoBench" "samples" "LEchoBench$Samples;", Cond.methodLink RX3 64 yX3_numbered, Cond.instanceMethod yX3_numbered, Cond.selects RX3 yX3_numbered yX3_numbered, Cond.initialized RX3, Cond.code yX3_numbered cX3_numbered 2 (some (.object "EchoBench$Filter")), Cond.fieldLink RX3 22 "EchoBench" "filterCount" "I", Cond.fieldLink RX3 18 "EchoBench" "filters" "[LEchoBench$Filter;", Cond.instanceMethod yX1_offness, Cond.initialized RX1, Cond.selects RX1 yX1_offness yX1_offness, Cond.code yX1_offness cX1_offness 7 (some .double), Cond.fieldLink RX1 9 "EchoBench$Samples" "pathHundredths" "[I", Cond.constantDouble RX1 46 (4636737291354636288), Cond.instanceMethod yX0_power, Cond.initialized RX0, Cond.selects RX0 yX0_power yX0_power, Cond.code yX0_power cX0_power 7 (some .double), Cond.fieldLink RX0 53 "EchoBench$Filter" "heard" "I", Cond.methodLink RX0 128 Lib.Math.max.name]
def wsX3_of_r2 : List Cond := [Cond.static Lib.Math.max.name, Cond.initialized "java/lang/Math", Cond.code Lib.Math.max.name Lib.Math.max.code 2 (some .int), Cond.fieldLink RX0 19 "EchoBench$Filter" "latestErrors" "[D", Cond.methodLink RX0 66 yJ9_floorMod_7cf53, Cond.static yJ9_floorMod_7cf53, Cond.initialized RJ9, Cond.code yJ9_floorMod_7cf53 cJ9_floorMod_7cf53 3 (some .int)]
def wsX3_of : List Cond := .code yX3_of cX3_of 4 (some .double) :: ((wsX3_of_r1 ++ wsX3_of_r2) ++ wsX00 ++ wsX30 ++ wsX10 ++ (vx_atS RX3 34 "java/lang/IndexOutOfBoundsException" ["java/lang/RuntimeException", "java/lang/Exception"]).filter goodWord ++ (vx_atS RX3 41 "java/lang/IllegalArgumentException" ["java/lang/RuntimeException", "java/lang/Exception"]).filter goodWord)
def wsX3_count : List Cond := .code yX3_count cX3_count 4 (some .int) :: ([.classLink RX3 30 "java/lang/IndexOutOfBoundsException", .initialized "java/lang/IndexOutOfBoundsException", .classLink RX3 37 "java/lang/IllegalArgumentException", .initialized "java/lang/IllegalArgumentException", .methodLink RX3 64 yX3_numbered, .instanceMethod yX3_numbered, .selects RX3 yX3_numbered yX3_numbered, .initialized RX3, .code yX3_numbered cX3_numbered 2 (some (.object "EchoBench$Filter")), .fieldLink RX3 22 "EchoBench" "filterCount" "I", .fieldLink RX3 18 "EchoBench" "filters" "[LEchoBench$Filter;"] ++ wsX00 ++ wsX30 ++ (vx_atS RX3 34 "java/lang/IndexOutOfBoundsException" ["java/lang/RuntimeException", "java/lang/Exception"]).filter goodWord ++ (vx_atS RX3 41 "java/lang/IllegalArgumentException" ["java/lang/RuntimeException", "java/lang/Exception"]).filter goodWord)
def wsX3_microphone : List Cond := .code yX3_microphone cX3_microphone 1 (some .double) :: ([.fieldLink RX3 10 "EchoBench" "samples" "LEchoBench$Samples;"] ++ wsX30 ++ wsX10)
def wsX3_batch_r1 : List Cond := [Cond.classLink RX3 30 "java/lang/IndexOutOfBoundsException", Cond.initialized "java/lang/IndexOutOfBoundsException", Cond.fieldLink RX3 10 "EchoBench" "samples" "LEchoBench$Samples;", Cond.methodLink RX3 26 yX3_isWithin, Cond.static yX3_isWithin, Cond.initialized RX3, Cond.code yX3_isWithin cX3_isWithin 3 (some .boolean), Cond.instanceMethod yX1_batchWeight, Cond.initialized RX1, Cond.selects RX1 yX1_batchWeight yX1_batchWeight, Cond.code yX1_batchWeight cX1_batchWeight 14 (some .double), Cond.fieldLink RX1 19 "EchoBench$Samples" "latestX0" "[D", Cond.fieldLink RX1 22 "EchoBench$Samples" "latestX1" "[D", Cond.fieldLink RX1 25 "EchoBench$Samples" "latestMicrophone" "[D", Cond.constantDouble RX1 56 (4602678819172646912), Cond.methodLink RX1 48 yX1_sumOfProducts, Cond.instanceMethod yX1_sumOfProducts, Cond.selects RX1 yX1_sumOfProducts yX1_sumOfProducts, Cond.code yX1_sumOfProducts cX1_sumOfProducts 7 (some .double), Cond.fieldLink RX1 32 "EchoBench$Samples" "taken" "I", Cond.methodLink RX1 58 Lib.Math.max.name, Cond.static Lib.Math.max.name, Cond.initialized "java/lang/Math", Cond.code Lib.Math.max.name Lib.Math.max.code 2 (some .int)]
def wsX3_batch_r2 : List Cond := [Cond.methodLink RX1 40 yJ9_floorMod_7cf53, Cond.static yJ9_floorMod_7cf53, Cond.initialized RJ9, Cond.code yJ9_floorMod_7cf53 cJ9_floorMod_7cf53 3 (some .int), Cond.static yX3_eitherWay, Cond.code yX3_eitherWay cX3_eitherWay 2 (some .double)]
def wsX3_batch : List Cond := .code yX3_batch cX3_batch 2 (some .double) :: ((wsX3_batch_r1 ++ wsX3_batch_r2) ++ wsX30 ++ wsX10 ++ (vx_atS RX3 34 "java/lang/IndexOutOfBoundsException" ["java/lang/RuntimeException", "java/lang/Exception"]).filter goodWord)
def wsX3_square : List Cond := .code yX3_square cX3_square 6 (some .double) :: ([.classLink RX3 30 "java/lang/IndexOutOfBoundsException", .initialized "java/lang/IndexOutOfBoundsException", .classLink RX3 56 "java/lang/IllegalStateException", .initialized "java/lang/IllegalStateException", .methodLink RX3 64 yX3_numbered, .instanceMethod yX3_numbered, .selects RX3 yX3_numbered yX3_numbered, .initialized RX3, .code yX3_numbered cX3_numbered 2 (some (.object "EchoBench$Filter")), .fieldLink RX3 22 "EchoBench" "filterCount" "I", .fieldLink RX3 18 "EchoBench" "filters" "[LEchoBench$Filter;", .methodLink RX3 26 yX3_isWithin, .static yX3_isWithin, .code yX3_isWithin cX3_isWithin 3 (some .boolean), .instanceMethod yX2_number, .initialized RX2, .selects RX2 yX2_number yX2_number, .code yX2_number cX2_number 3 (some .double), .fieldLink RX2 7 "EchoBench$Square" "size" "I", .fieldLink RX2 15 "EchoBench$Square" "numbers" "[[D"] ++ wsX00 ++ wsX30 ++ wsX20 ++ (vx_atS RX3 34 "java/lang/IndexOutOfBoundsException" ["java/lang/RuntimeException", "java/lang/Exception"]).filter goodWord ++ (vx_atS RX3 60 "java/lang/IllegalStateException" ["java/lang/RuntimeException", "java/lang/Exception"]).filter goodWord)
def wsX3_best : List Cond := .code yX3_best cX3_best 8 (some .int) :: ([.fieldLink RX3 22 "EchoBench" "filterCount" "I", .fieldLink RX3 10 "EchoBench" "samples" "LEchoBench$Samples;", .methodLink RX3 64 yX3_numbered, .instanceMethod yX3_numbered, .selects RX3 yX3_numbered yX3_numbered, .initialized RX3, .code yX3_numbered cX3_numbered 2 (some (.object "EchoBench$Filter")), .fieldLink RX3 18 "EchoBench" "filters" "[LEchoBench$Filter;", .instanceMethod yX1_offness, .initialized RX1, .selects RX1 yX1_offness yX1_offness, .code yX1_offness cX1_offness 7 (some .double), .fieldLink RX1 9 "EchoBench$Samples" "pathHundredths" "[I", .constantDouble RX1 46 (4636737291354636288)] ++ wsX30 ++ wsX00 ++ wsX10)
def wsJ9_max_7cf53 : List Cond := .code yJ9_max_7cf53 cJ9_max_7cf53 2 (some .int) :: ([])
def wsL_cell : List Cond := .code yL_cell cL_cell 2 (some .int) :: ([])
def wsL_low : List Cond := .code yL_low cL_low 2 (some .int) :: ([.constant RL 7 (2147483647)])
def wsL_path : List Cond := .codeWith yL_path cL_path 4 (some .long) [(0, 7, 8, 14), (0, 7, 13, 18)] :: ([.classLink RL 14 "java/lang/IndexOutOfBoundsException", .classLink RL 18 "java/lang/IllegalArgumentException", .constantLong RL 16 (-9000000000000000), .methodLink RL 8 yX3_path, .instanceMethod yX3_path, .selects RX3 yX3_path yX3_path, .initialized RX3, .code yX3_path cX3_path 3 (some .int), .classLink RX3 30 "java/lang/IndexOutOfBoundsException", .initialized "java/lang/IndexOutOfBoundsException", .classLink RX3 37 "java/lang/IllegalArgumentException", .initialized "java/lang/IllegalArgumentException", .fieldLink RX3 10 "EchoBench" "samples" "LEchoBench$Samples;", .methodLink RX3 26 yX3_isWithin, .static yX3_isWithin, .code yX3_isWithin cX3_isWithin 3 (some .boolean), .instanceMethod yX1_tellPath, .initialized RX1, .selects RX1 yX1_tellPath yX1_tellPath, .code yX1_tellPath cX1_tellPath 4 (some .int), .fieldLink RX1 9 "EchoBench$Samples" "pathHundredths" "[I"] ++ wsX30 ++ wsX10 ++ (vx_atS RX3 34 "java/lang/IndexOutOfBoundsException" ["java/lang/RuntimeException", "java/lang/Exception"]).filter goodWord ++ (vx_atS RX3 41 "java/lang/IllegalArgumentException" ["java/lang/RuntimeException", "java/lang/Exception"]).filter goodWord)
def wsL_filter_r1 : List Cond := [Cond.classLink RL 18 "java/lang/IllegalArgumentException", Cond.classLink RL 24 "java/lang/IllegalStateException", Cond.constantLong RL 16 (-9000000000000000), Cond.methodLink RL 20 yX3_filter, Cond.instanceMethod yX3_filter, Cond.selects RX3 yX3_filter yX3_filter, Cond.initialized RX3, Cond.code yX3_filter cX3_filter 5 (some .int), Cond.classLink RX3 37 "java/lang/IllegalArgumentException", Cond.initialized "java/lang/IllegalArgumentException", Cond.classLink RX3 56 "java/lang/IllegalStateException", Cond.initialized "java/lang/IllegalStateException", Cond.fieldLink RX3 22 "EchoBench" "filterCount" "I", Cond.fieldLink RX3 18 "EchoBench" "filters" "[LEchoBench$Filter;", Cond.classLink RX3 16 RX0, Cond.instantiable RX0 13, Cond.initialized RX0, Cond.methodLink RX3 26 yX3_isWithin, Cond.static yX3_isWithin, Cond.code yX3_isWithin cX3_isWithin 3 (some .boolean), Cond.methodLink RX3 50 yX3_isStepOf, Cond.static yX3_isStepOf, Cond.code yX3_isStepOf cX3_isStepOf 2 (some .boolean), Cond.instanceMethod yX0_init]
def wsL_filter_r2 : List Cond := [Cond.code yX0_init cX0_init 4 none, Cond.methodLink RX0 3 objectInit, Cond.instanceMethod objectInit, Cond.code objectInit ⟨#[0xb1]⟩ 1 none, Cond.fieldLink RX0 9 "EchoBench$Filter" "kind" "I", Cond.arrayClass .double, Cond.fieldLink RX0 15 "EchoBench$Filter" "weights" "[D", Cond.fieldLink RX0 19 "EchoBench$Filter" "latestErrors" "[D", Cond.classLink RX0 22 RX2, Cond.instantiable RX2 4, Cond.initialized RX2, Cond.fieldLink RX0 27 "EchoBench$Filter" "square" "LEchoBench$Square;", Cond.fieldLink RX0 31 "EchoBench$Filter" "thousandths" "I", Cond.instanceMethod yX2_init, Cond.code yX2_init cX2_init 3 none, Cond.methodLink RX2 1 objectInit, Cond.fieldLink RX2 7 "EchoBench$Square" "size" "I", Cond.classLink RX2 13 "[[D", Cond.fieldLink RX2 15 "EchoBench$Square" "numbers" "[[D", Cond.fieldLink RX2 18 "EchoBench$Square" "g" "[D", Cond.fieldLink RX2 22 "EchoBench$Square" "shares" "[D", Cond.constantDouble RX2 25 (4636737291354636288)]
def wsL_filter : List Cond := .codeWith yL_filter cL_filter 5 (some .long) [(0, 8, 9, 18), (0, 8, 15, 24)] :: ((wsL_filter_r1 ++ wsL_filter_r2) ++ wsX30 ++ wsX00 ++ wsX20 ++ (vx_atS RX3 41 "java/lang/IllegalArgumentException" ["java/lang/RuntimeException", "java/lang/Exception"]).filter goodWord ++ (vx_atS RX3 60 "java/lang/IllegalStateException" ["java/lang/RuntimeException", "java/lang/Exception"]).filter goodWord)
def wsL_step : List Cond := .codeWith yL_step cL_step 4 (some .long) [(0, 7, 8, 14), (0, 7, 13, 18)] :: ([.classLink RL 14 "java/lang/IndexOutOfBoundsException", .classLink RL 18 "java/lang/IllegalArgumentException", .constantLong RL 16 (-9000000000000000), .methodLink RL 26 yX3_step, .instanceMethod yX3_step, .selects RX3 yX3_step yX3_step, .initialized RX3, .code yX3_step cX3_step 5 (some .int), .classLink RX3 30 "java/lang/IndexOutOfBoundsException", .initialized "java/lang/IndexOutOfBoundsException", .classLink RX3 37 "java/lang/IllegalArgumentException", .initialized "java/lang/IllegalArgumentException", .methodLink RX3 64 yX3_numbered, .instanceMethod yX3_numbered, .selects RX3 yX3_numbered yX3_numbered, .code yX3_numbered cX3_numbered 2 (some (.object "EchoBench$Filter")), .fieldLink RX3 22 "EchoBench" "filterCount" "I", .fieldLink RX3 18 "EchoBench" "filters" "[LEchoBench$Filter;", .methodLink RX3 50 yX3_isStepOf, .static yX3_isStepOf, .code yX3_isStepOf cX3_isStepOf 2 (some .boolean), .methodLink RX3 26 yX3_isWithin, .static yX3_isWithin, .code yX3_isWithin cX3_isWithin 3 (some .boolean)] ++ wsX00 ++ wsX30 ++ (vx_atS RX3 34 "java/lang/IndexOutOfBoundsException" ["java/lang/RuntimeException", "java/lang/Exception"]).filter goodWord ++ (vx_atS RX3 41 "java/lang/IllegalArgumentException" ["java/lang/RuntimeException", "java/lang/Exception"]).filter goodWord)
def wsL_watch : List Cond := .codeWith yL_watch cL_watch 5 (some .long) [(0, 8, 9, 14), (0, 8, 15, 18)] :: ([.classLink RL 14 "java/lang/IndexOutOfBoundsException", .classLink RL 18 "java/lang/IllegalArgumentException", .constantLong RL 16 (-9000000000000000), .methodLink RL 29 yX3_watch, .instanceMethod yX3_watch, .selects RX3 yX3_watch yX3_watch, .initialized RX3, .code yX3_watch cX3_watch 5 none, .classLink RX3 30 "java/lang/IndexOutOfBoundsException", .initialized "java/lang/IndexOutOfBoundsException", .classLink RX3 37 "java/lang/IllegalArgumentException", .initialized "java/lang/IllegalArgumentException", .methodLink RX3 64 yX3_numbered, .instanceMethod yX3_numbered, .selects RX3 yX3_numbered yX3_numbered, .code yX3_numbered cX3_numbered 2 (some (.object "EchoBench$Filter")), .fieldLink RX3 22 "EchoBench" "filterCount" "I", .fieldLink RX3 18 "EchoBench" "filters" "[LEchoBench$Filter;", .methodLink RX3 26 yX3_isWithin, .static yX3_isWithin, .code yX3_isWithin cX3_isWithin 3 (some .boolean)] ++ wsX00 ++ wsX30 ++ (vx_atS RX3 34 "java/lang/IndexOutOfBoundsException" ["java/lang/RuntimeException", "java/lang/Exception"]).filter goodWord ++ (vx_atS RX3 41 "java/lang/IllegalArgumentException" ["java/lang/RuntimeException", "java/lang/Exception"]).filter goodWord)
def wsL_begin_r1 : List Cond := [Cond.classLink RL 14 "java/lang/IndexOutOfBoundsException", Cond.constantLong RL 16 (-9000000000000000), Cond.methodLink RL 33 yX3_begin, Cond.instanceMethod yX3_begin, Cond.selects RX3 yX3_begin yX3_begin, Cond.initialized RX3, Cond.code yX3_begin cX3_begin 3 none, Cond.classLink RX3 30 "java/lang/IndexOutOfBoundsException", Cond.initialized "java/lang/IndexOutOfBoundsException", Cond.methodLink RX3 64 yX3_numbered, Cond.instanceMethod yX3_numbered, Cond.selects RX3 yX3_numbered yX3_numbered, Cond.code yX3_numbered cX3_numbered 2 (some (.object "EchoBench$Filter")), Cond.fieldLink RX3 22 "EchoBench" "filterCount" "I", Cond.fieldLink RX3 18 "EchoBench" "filters" "[LEchoBench$Filter;", Cond.instanceMethod yX0_restart, Cond.initialized RX0, Cond.selects RX0 yX0_restart yX0_restart, Cond.code yX0_restart cX0_restart 1 none, Cond.fieldLink RX0 15 "EchoBench$Filter" "weights" "[D", Cond.fieldLink RX0 27 "EchoBench$Filter" "square" "LEchoBench$Square;", Cond.fieldLink RX0 43 "EchoBench$Filter" "holdsLeft" "I", Cond.fieldLink RX0 46 "EchoBench$Filter" "output" "D", Cond.fieldLink RX0 50 "EchoBench$Filter" "error" "D"]
def wsL_begin_r2 : List Cond := [Cond.fieldLink RX0 53 "EchoBench$Filter" "heard" "I", Cond.fieldLink RX0 56 "EchoBench$Filter" "held" "I", Cond.fieldLink RX0 59 "EchoBench$Filter" "resets" "I", Cond.methodLink RX0 34 yJ7_fill_7f8df, Cond.static yJ7_fill_7f8df, Cond.initialized RJ7, Cond.code yJ7_fill_7f8df cJ7_fill_7f8df 5 none, Cond.instanceMethod yX2_restart, Cond.initialized RX2, Cond.selects RX2 yX2_restart yX2_restart, Cond.code yX2_restart cX2_restart 3 none, Cond.fieldLink RX2 7 "EchoBench$Square" "size" "I", Cond.fieldLink RX2 15 "EchoBench$Square" "numbers" "[[D", Cond.constantDouble RX2 25 (4636737291354636288)]
def wsL_begin : List Cond := .codeWith yL_begin cL_begin 3 (some .long) [(0, 6, 7, 14)] :: ((wsL_begin_r1 ++ wsL_begin_r2) ++ wsX30 ++ wsX00 ++ wsX20 ++ (vx_atS RX3 34 "java/lang/IndexOutOfBoundsException" ["java/lang/RuntimeException", "java/lang/Exception"]).filter goodWord)
def wsL_feed_r1 : List Cond := [Cond.classLink RL 18 "java/lang/IllegalArgumentException", Cond.classLink RL 24 "java/lang/IllegalStateException", Cond.constantLong RL 16 (-9000000000000000), Cond.methodLink RL 37 yX3_feed, Cond.instanceMethod yX3_feed, Cond.selects RX3 yX3_feed yX3_feed, Cond.initialized RX3, Cond.code yX3_feed cX3_feed 3 (some .int), Cond.classLink RX3 37 "java/lang/IllegalArgumentException", Cond.initialized "java/lang/IllegalArgumentException", Cond.classLink RX3 56 "java/lang/IllegalStateException", Cond.initialized "java/lang/IllegalStateException", Cond.fieldLink RX3 10 "EchoBench" "samples" "LEchoBench$Samples;", Cond.methodLink RX3 26 yX3_isWithin, Cond.static yX3_isWithin, Cond.code yX3_isWithin cX3_isWithin 3 (some .boolean), Cond.methodLink RX3 96 yX3_takeSample, Cond.instanceMethod yX3_takeSample, Cond.selects RX3 yX3_takeSample yX3_takeSample, Cond.code yX3_takeSample cX3_takeSample 5 none, Cond.fieldLink RX3 22 "EchoBench" "filterCount" "I", Cond.instanceMethod yX1_take, Cond.initialized RX1, Cond.selects RX1 yX1_take yX1_take]
def wsL_feed_r2 : List Cond := [Cond.code yX1_take cX1_take 4 none, Cond.fieldLink RX1 15 "EchoBench$Samples" "xs" "[D", Cond.fieldLink RX1 28 "EchoBench$Samples" "lastMicrophone" "D", Cond.fieldLink RX1 32 "EchoBench$Samples" "taken" "I", Cond.fieldLink RX1 19 "EchoBench$Samples" "latestX0" "[D", Cond.fieldLink RX1 22 "EchoBench$Samples" "latestX1" "[D", Cond.fieldLink RX1 25 "EchoBench$Samples" "latestMicrophone" "[D", Cond.methodLink RX1 36 yX1_heardWith, Cond.instanceMethod yX1_heardWith, Cond.selects RX1 yX1_heardWith yX1_heardWith, Cond.code yX1_heardWith cX1_heardWith 5 (some .double), Cond.fieldLink RX1 9 "EchoBench$Samples" "pathHundredths" "[I", Cond.constantDouble RX1 46 (4636737291354636288), Cond.methodLink RX1 40 yJ9_floorMod_7cf53, Cond.static yJ9_floorMod_7cf53, Cond.initialized RJ9, Cond.code yJ9_floorMod_7cf53 cJ9_floorMod_7cf53 3 (some .int), Cond.methodLink RX3 64 yX3_numbered, Cond.instanceMethod yX3_numbered, Cond.selects RX3 yX3_numbered yX3_numbered, Cond.code yX3_numbered cX3_numbered 2 (some (.object "EchoBench$Filter")), Cond.fieldLink RX3 18 "EchoBench" "filters" "[LEchoBench$Filter;", Cond.instanceMethod yX0_hear, Cond.initialized RX0]
def wsL_feed_r3 : List Cond := [Cond.selects RX0 yX0_hear yX0_hear, Cond.code yX0_hear cX0_hear 4 none, Cond.fieldLink RX0 46 "EchoBench$Filter" "output" "D", Cond.fieldLink RX0 50 "EchoBench$Filter" "error" "D", Cond.fieldLink RX0 19 "EchoBench$Filter" "latestErrors" "[D", Cond.fieldLink RX0 53 "EchoBench$Filter" "heard" "I", Cond.fieldLink RX0 56 "EchoBench$Filter" "held" "I", Cond.fieldLink RX0 27 "EchoBench$Filter" "square" "LEchoBench$Square;", Cond.methodLink RX0 62 yX0_outputAt, Cond.instanceMethod yX0_outputAt, Cond.selects RX0 yX0_outputAt yX0_outputAt, Cond.code yX0_outputAt cX0_outputAt 5 (some .double), Cond.fieldLink RX0 15 "EchoBench$Filter" "weights" "[D", Cond.methodLink RX0 66 yJ9_floorMod_7cf53, Cond.methodLink RX0 72 yX0_holdsAt, Cond.instanceMethod yX0_holdsAt, Cond.selects RX0 yX0_holdsAt yX0_holdsAt, Cond.code yX0_holdsAt cX0_holdsAt 4 (some .boolean), Cond.fieldLink RX0 87 "EchoBench$Filter" "tail" "I", Cond.fieldLink RX0 43 "EchoBench$Filter" "holdsLeft" "I", Cond.methodLink RX0 84 yX0_isLoud, Cond.instanceMethod yX0_isLoud, Cond.selects RX0 yX0_isLoud yX0_isLoud, Cond.code yX0_isLoud cX0_isLoud 9 (some .boolean)]
def wsL_feed_r4 : List Cond := [Cond.fieldLink RX0 90 "EchoBench$Filter" "watchHundredths" "I", Cond.constantDouble RX0 97 (4636737291354636288), Cond.static yX3_eitherWay, Cond.code yX3_eitherWay cX3_eitherWay 2 (some .double), Cond.methodLink RX0 76 yX0_learnBySquare, Cond.instanceMethod yX0_learnBySquare, Cond.selects RX0 yX0_learnBySquare yX0_learnBySquare, Cond.code yX0_learnBySquare cX0_learnBySquare 7 none, Cond.fieldLink RX0 31 "EchoBench$Filter" "thousandths" "I", Cond.constantDouble RX0 110 (4652007308841189376), Cond.fieldLink RX0 59 "EchoBench$Filter" "resets" "I", Cond.instanceMethod yX2_prepare, Cond.initialized RX2, Cond.selects RX2 yX2_prepare yX2_prepare, Cond.code yX2_prepare cX2_prepare 7 (some .boolean), Cond.fieldLink RX2 7 "EchoBench$Square" "size" "I", Cond.fieldLink RX2 18 "EchoBench$Square" "g" "[D", Cond.constantDouble RX2 37 (4517329193108106637), Cond.fieldLink RX2 22 "EchoBench$Square" "shares" "[D", Cond.methodLink RX2 33 yX2_rowTimes, Cond.instanceMethod yX2_rowTimes, Cond.selects RX2 yX2_rowTimes yX2_rowTimes, Cond.code yX2_rowTimes cX2_rowTimes 6 (some .double), Cond.fieldLink RX2 15 "EchoBench$Square" "numbers" "[[D"]
def wsL_feed_r5 : List Cond := [Cond.instanceMethod yX2_share, Cond.selects RX2 yX2_share yX2_share, Cond.code yX2_share cX2_share 2 (some .double), Cond.methodLink RX0 106 yX0_add, Cond.instanceMethod yX0_add, Cond.selects RX0 yX0_add yX0_add, Cond.code yX0_add cX0_add 4 none, Cond.constantDouble RX0 123 (4741671816366391296), Cond.static yX3_heldTo, Cond.code yX3_heldTo cX3_heldTo 4 (some .double), Cond.instanceMethod yX2_renew, Cond.selects RX2 yX2_renew yX2_renew, Cond.code yX2_renew cX2_renew 6 (some .boolean), Cond.constantDouble RX2 39 (4696837146684686336), Cond.instanceMethod yX2_restart, Cond.selects RX2 yX2_restart yX2_restart, Cond.code yX2_restart cX2_restart 3 none, Cond.constantDouble RX2 25 (4636737291354636288), Cond.methodLink RX0 80 yX0_learn, Cond.instanceMethod yX0_learn, Cond.selects RX0 yX0_learn yX0_learn, Cond.code yX0_learn cX0_learn 5 none, Cond.fieldLink RX0 9 "EchoBench$Filter" "kind" "I", Cond.methodLink RX0 99 yX0_normOf]
def wsL_feed_r6 : List Cond := [Cond.instanceMethod yX0_normOf, Cond.selects RX0 yX0_normOf yX0_normOf, Cond.code yX0_normOf cX0_normOf 5 (some .double), Cond.methodLink RX0 102 yX0_lesson, Cond.instanceMethod yX0_lesson, Cond.selects RX0 yX0_lesson yX0_lesson, Cond.code yX0_lesson cX0_lesson 7 (some .double)]
def wsL_feed : List Cond := .codeWith yL_feed cL_feed 4 (some .long) [(0, 7, 8, 18), (0, 7, 13, 24)] :: ((wsL_feed_r1 ++ (wsL_feed_r2 ++ (wsL_feed_r3 ++ (wsL_feed_r4 ++ (wsL_feed_r5 ++ wsL_feed_r6))))) ++ wsX30 ++ wsX10 ++ wsX00 ++ wsX20 ++ (vx_atS RX3 41 "java/lang/IllegalArgumentException" ["java/lang/RuntimeException", "java/lang/Exception"]).filter goodWord ++ (vx_atS RX3 60 "java/lang/IllegalStateException" ["java/lang/RuntimeException", "java/lang/Exception"]).filter goodWord)
def wsL_script_r1 : List Cond := [Cond.classLink RL 18 "java/lang/IllegalArgumentException", Cond.classLink RL 24 "java/lang/IllegalStateException", Cond.constantLong RL 16 (-9000000000000000), Cond.methodLink RL 40 yX3_script, Cond.instanceMethod yX3_script, Cond.selects RX3 yX3_script yX3_script, Cond.initialized RX3, Cond.code yX3_script cX3_script 5 (some .int), Cond.classLink RX3 37 "java/lang/IllegalArgumentException", Cond.initialized "java/lang/IllegalArgumentException", Cond.classLink RX3 56 "java/lang/IllegalStateException", Cond.initialized "java/lang/IllegalStateException", Cond.fieldLink RX3 10 "EchoBench" "samples" "LEchoBench$Samples;", Cond.methodLink RX3 26 yX3_isWithin, Cond.static yX3_isWithin, Cond.code yX3_isWithin cX3_isWithin 3 (some .boolean), Cond.methodLink RX3 96 yX3_takeSample, Cond.instanceMethod yX3_takeSample, Cond.selects RX3 yX3_takeSample yX3_takeSample, Cond.code yX3_takeSample cX3_takeSample 5 none, Cond.fieldLink RX3 22 "EchoBench" "filterCount" "I", Cond.instanceMethod yX1_take, Cond.initialized RX1, Cond.selects RX1 yX1_take yX1_take]
def wsL_script_r2 : List Cond := [Cond.code yX1_take cX1_take 4 none, Cond.fieldLink RX1 15 "EchoBench$Samples" "xs" "[D", Cond.fieldLink RX1 28 "EchoBench$Samples" "lastMicrophone" "D", Cond.fieldLink RX1 32 "EchoBench$Samples" "taken" "I", Cond.fieldLink RX1 19 "EchoBench$Samples" "latestX0" "[D", Cond.fieldLink RX1 22 "EchoBench$Samples" "latestX1" "[D", Cond.fieldLink RX1 25 "EchoBench$Samples" "latestMicrophone" "[D", Cond.methodLink RX1 36 yX1_heardWith, Cond.instanceMethod yX1_heardWith, Cond.selects RX1 yX1_heardWith yX1_heardWith, Cond.code yX1_heardWith cX1_heardWith 5 (some .double), Cond.fieldLink RX1 9 "EchoBench$Samples" "pathHundredths" "[I", Cond.constantDouble RX1 46 (4636737291354636288), Cond.methodLink RX1 40 yJ9_floorMod_7cf53, Cond.static yJ9_floorMod_7cf53, Cond.initialized RJ9, Cond.code yJ9_floorMod_7cf53 cJ9_floorMod_7cf53 3 (some .int), Cond.methodLink RX3 64 yX3_numbered, Cond.instanceMethod yX3_numbered, Cond.selects RX3 yX3_numbered yX3_numbered, Cond.code yX3_numbered cX3_numbered 2 (some (.object "EchoBench$Filter")), Cond.fieldLink RX3 18 "EchoBench" "filters" "[LEchoBench$Filter;", Cond.instanceMethod yX0_hear, Cond.initialized RX0]
def wsL_script_r3 : List Cond := [Cond.selects RX0 yX0_hear yX0_hear, Cond.code yX0_hear cX0_hear 4 none, Cond.fieldLink RX0 46 "EchoBench$Filter" "output" "D", Cond.fieldLink RX0 50 "EchoBench$Filter" "error" "D", Cond.fieldLink RX0 19 "EchoBench$Filter" "latestErrors" "[D", Cond.fieldLink RX0 53 "EchoBench$Filter" "heard" "I", Cond.fieldLink RX0 56 "EchoBench$Filter" "held" "I", Cond.fieldLink RX0 27 "EchoBench$Filter" "square" "LEchoBench$Square;", Cond.methodLink RX0 62 yX0_outputAt, Cond.instanceMethod yX0_outputAt, Cond.selects RX0 yX0_outputAt yX0_outputAt, Cond.code yX0_outputAt cX0_outputAt 5 (some .double), Cond.fieldLink RX0 15 "EchoBench$Filter" "weights" "[D", Cond.methodLink RX0 66 yJ9_floorMod_7cf53, Cond.methodLink RX0 72 yX0_holdsAt, Cond.instanceMethod yX0_holdsAt, Cond.selects RX0 yX0_holdsAt yX0_holdsAt, Cond.code yX0_holdsAt cX0_holdsAt 4 (some .boolean), Cond.fieldLink RX0 87 "EchoBench$Filter" "tail" "I", Cond.fieldLink RX0 43 "EchoBench$Filter" "holdsLeft" "I", Cond.methodLink RX0 84 yX0_isLoud, Cond.instanceMethod yX0_isLoud, Cond.selects RX0 yX0_isLoud yX0_isLoud, Cond.code yX0_isLoud cX0_isLoud 9 (some .boolean)]
def wsL_script_r4 : List Cond := [Cond.fieldLink RX0 90 "EchoBench$Filter" "watchHundredths" "I", Cond.constantDouble RX0 97 (4636737291354636288), Cond.static yX3_eitherWay, Cond.code yX3_eitherWay cX3_eitherWay 2 (some .double), Cond.methodLink RX0 76 yX0_learnBySquare, Cond.instanceMethod yX0_learnBySquare, Cond.selects RX0 yX0_learnBySquare yX0_learnBySquare, Cond.code yX0_learnBySquare cX0_learnBySquare 7 none, Cond.fieldLink RX0 31 "EchoBench$Filter" "thousandths" "I", Cond.constantDouble RX0 110 (4652007308841189376), Cond.fieldLink RX0 59 "EchoBench$Filter" "resets" "I", Cond.instanceMethod yX2_prepare, Cond.initialized RX2, Cond.selects RX2 yX2_prepare yX2_prepare, Cond.code yX2_prepare cX2_prepare 7 (some .boolean), Cond.fieldLink RX2 7 "EchoBench$Square" "size" "I", Cond.fieldLink RX2 18 "EchoBench$Square" "g" "[D", Cond.constantDouble RX2 37 (4517329193108106637), Cond.fieldLink RX2 22 "EchoBench$Square" "shares" "[D", Cond.methodLink RX2 33 yX2_rowTimes, Cond.instanceMethod yX2_rowTimes, Cond.selects RX2 yX2_rowTimes yX2_rowTimes, Cond.code yX2_rowTimes cX2_rowTimes 6 (some .double), Cond.fieldLink RX2 15 "EchoBench$Square" "numbers" "[[D"]
def wsL_script_r5 : List Cond := [Cond.instanceMethod yX2_share, Cond.selects RX2 yX2_share yX2_share, Cond.code yX2_share cX2_share 2 (some .double), Cond.methodLink RX0 106 yX0_add, Cond.instanceMethod yX0_add, Cond.selects RX0 yX0_add yX0_add, Cond.code yX0_add cX0_add 4 none, Cond.constantDouble RX0 123 (4741671816366391296), Cond.static yX3_heldTo, Cond.code yX3_heldTo cX3_heldTo 4 (some .double), Cond.instanceMethod yX2_renew, Cond.selects RX2 yX2_renew yX2_renew, Cond.code yX2_renew cX2_renew 6 (some .boolean), Cond.constantDouble RX2 39 (4696837146684686336), Cond.instanceMethod yX2_restart, Cond.selects RX2 yX2_restart yX2_restart, Cond.code yX2_restart cX2_restart 3 none, Cond.constantDouble RX2 25 (4636737291354636288), Cond.methodLink RX0 80 yX0_learn, Cond.instanceMethod yX0_learn, Cond.selects RX0 yX0_learn yX0_learn, Cond.code yX0_learn cX0_learn 5 none, Cond.fieldLink RX0 9 "EchoBench$Filter" "kind" "I", Cond.methodLink RX0 99 yX0_normOf]
def wsL_script_r6 : List Cond := [Cond.instanceMethod yX0_normOf, Cond.selects RX0 yX0_normOf yX0_normOf, Cond.code yX0_normOf cX0_normOf 5 (some .double), Cond.methodLink RX0 102 yX0_lesson, Cond.instanceMethod yX0_lesson, Cond.selects RX0 yX0_lesson yX0_lesson, Cond.code yX0_lesson cX0_lesson 7 (some .double)]
def wsL_script : List Cond := .codeWith yL_script cL_script 4 (some .long) [(0, 7, 8, 18), (0, 7, 13, 24)] :: ((wsL_script_r1 ++ (wsL_script_r2 ++ (wsL_script_r3 ++ (wsL_script_r4 ++ (wsL_script_r5 ++ wsL_script_r6))))) ++ wsX30 ++ wsX10 ++ wsX00 ++ wsX20 ++ (vx_atS RX3 41 "java/lang/IllegalArgumentException" ["java/lang/RuntimeException", "java/lang/Exception"]).filter goodWord ++ (vx_atS RX3 60 "java/lang/IllegalStateException" ["java/lang/RuntimeException", "java/lang/Exception"]).filter goodWord)
def wsL_weight : List Cond := .codeWith yL_weight cL_weight 4 (some .long) [(0, 11, 12, 14)] :: ([.classLink RL 14 "java/lang/IndexOutOfBoundsException", .constantDouble RL 43 (4696837146684686336), .constantLong RL 16 (-9000000000000000), .methodLink RL 45 yX3_weight, .instanceMethod yX3_weight, .selects RX3 yX3_weight yX3_weight, .initialized RX3, .code yX3_weight cX3_weight 4 (some .double), .classLink RX3 30 "java/lang/IndexOutOfBoundsException", .initialized "java/lang/IndexOutOfBoundsException", .methodLink RX3 64 yX3_numbered, .instanceMethod yX3_numbered, .selects RX3 yX3_numbered yX3_numbered, .code yX3_numbered cX3_numbered 2 (some (.object "EchoBench$Filter")), .fieldLink RX3 22 "EchoBench" "filterCount" "I", .fieldLink RX3 18 "EchoBench" "filters" "[LEchoBench$Filter;"] ++ wsX00 ++ wsX30 ++ (vx_atS RX3 34 "java/lang/IndexOutOfBoundsException" ["java/lang/RuntimeException", "java/lang/Exception"]).filter goodWord)
def wsL_of_r1 : List Cond := [Cond.classLink RL 14 "java/lang/IndexOutOfBoundsException", Cond.classLink RL 18 "java/lang/IllegalArgumentException", Cond.constantDouble RL 43 (4696837146684686336), Cond.constantLong RL 16 (-9000000000000000), Cond.methodLink RL 49 yX3_of, Cond.instanceMethod yX3_of, Cond.selects RX3 yX3_of yX3_of, Cond.initialized RX3, Cond.code yX3_of cX3_of 4 (some .double), Cond.classLink RX3 30 "java/lang/IndexOutOfBoundsException", Cond.initialized "java/lang/IndexOutOfBoundsException", Cond.classLink RX3 37 "java/lang/IllegalArgumentException", Cond.initialized "java/lang/IllegalArgumentException", Cond.fieldLink RX3 10 "EchoBench" "samples" "LEchoBench$Samples;", Cond.methodLink RX3 64 yX3_numbered, Cond.instanceMethod yX3_numbered, Cond.selects RX3 yX3_numbered yX3_numbered, Cond.code yX3_numbered cX3_numbered 2 (some (.object "EchoBench$Filter")), Cond.fieldLink RX3 22 "EchoBench" "filterCount" "I", Cond.fieldLink RX3 18 "EchoBench" "filters" "[LEchoBench$Filter;", Cond.instanceMethod yX1_offness, Cond.initialized RX1, Cond.selects RX1 yX1_offness yX1_offness, Cond.code yX1_offness cX1_offness 7 (some .double)]
def wsL_of_r2 : List Cond := [Cond.fieldLink RX1 9 "EchoBench$Samples" "pathHundredths" "[I", Cond.constantDouble RX1 46 (4636737291354636288), Cond.instanceMethod yX0_power, Cond.initialized RX0, Cond.selects RX0 yX0_power yX0_power, Cond.code yX0_power cX0_power 7 (some .double), Cond.fieldLink RX0 53 "EchoBench$Filter" "heard" "I", Cond.methodLink RX0 128 Lib.Math.max.name, Cond.static Lib.Math.max.name, Cond.initialized "java/lang/Math", Cond.code Lib.Math.max.name Lib.Math.max.code 2 (some .int), Cond.fieldLink RX0 19 "EchoBench$Filter" "latestErrors" "[D", Cond.methodLink RX0 66 yJ9_floorMod_7cf53, Cond.static yJ9_floorMod_7cf53, Cond.initialized RJ9, Cond.code yJ9_floorMod_7cf53 cJ9_floorMod_7cf53 3 (some .int)]
def wsL_of : List Cond := .codeWith yL_of cL_of 4 (some .long) [(0, 11, 12, 14), (0, 11, 17, 18)] :: ((wsL_of_r1 ++ wsL_of_r2) ++ wsX00 ++ wsX30 ++ wsX10 ++ (vx_atS RX3 34 "java/lang/IndexOutOfBoundsException" ["java/lang/RuntimeException", "java/lang/Exception"]).filter goodWord ++ (vx_atS RX3 41 "java/lang/IllegalArgumentException" ["java/lang/RuntimeException", "java/lang/Exception"]).filter goodWord)
def wsL_count : List Cond := .codeWith yL_count cL_count 4 (some .long) [(0, 7, 8, 14), (0, 7, 13, 18)] :: ([.classLink RL 14 "java/lang/IndexOutOfBoundsException", .classLink RL 18 "java/lang/IllegalArgumentException", .constantLong RL 16 (-9000000000000000), .methodLink RL 52 yX3_count, .instanceMethod yX3_count, .selects RX3 yX3_count yX3_count, .initialized RX3, .code yX3_count cX3_count 4 (some .int), .classLink RX3 30 "java/lang/IndexOutOfBoundsException", .initialized "java/lang/IndexOutOfBoundsException", .classLink RX3 37 "java/lang/IllegalArgumentException", .initialized "java/lang/IllegalArgumentException", .methodLink RX3 64 yX3_numbered, .instanceMethod yX3_numbered, .selects RX3 yX3_numbered yX3_numbered, .code yX3_numbered cX3_numbered 2 (some (.object "EchoBench$Filter")), .fieldLink RX3 22 "EchoBench" "filterCount" "I", .fieldLink RX3 18 "EchoBench" "filters" "[LEchoBench$Filter;"] ++ wsX00 ++ wsX30 ++ (vx_atS RX3 34 "java/lang/IndexOutOfBoundsException" ["java/lang/RuntimeException", "java/lang/Exception"]).filter goodWord ++ (vx_atS RX3 41 "java/lang/IllegalArgumentException" ["java/lang/RuntimeException", "java/lang/Exception"]).filter goodWord)
def wsL_batch_r1 : List Cond := [Cond.classLink RL 14 "java/lang/IndexOutOfBoundsException", Cond.constantDouble RL 43 (4696837146684686336), Cond.constantLong RL 16 (-9000000000000000), Cond.methodLink RL 55 yX3_batch, Cond.instanceMethod yX3_batch, Cond.selects RX3 yX3_batch yX3_batch, Cond.initialized RX3, Cond.code yX3_batch cX3_batch 2 (some .double), Cond.classLink RX3 30 "java/lang/IndexOutOfBoundsException", Cond.initialized "java/lang/IndexOutOfBoundsException", Cond.fieldLink RX3 10 "EchoBench" "samples" "LEchoBench$Samples;", Cond.methodLink RX3 26 yX3_isWithin, Cond.static yX3_isWithin, Cond.code yX3_isWithin cX3_isWithin 3 (some .boolean), Cond.instanceMethod yX1_batchWeight, Cond.initialized RX1, Cond.selects RX1 yX1_batchWeight yX1_batchWeight, Cond.code yX1_batchWeight cX1_batchWeight 14 (some .double), Cond.fieldLink RX1 19 "EchoBench$Samples" "latestX0" "[D", Cond.fieldLink RX1 22 "EchoBench$Samples" "latestX1" "[D", Cond.fieldLink RX1 25 "EchoBench$Samples" "latestMicrophone" "[D", Cond.constantDouble RX1 56 (4602678819172646912), Cond.methodLink RX1 48 yX1_sumOfProducts, Cond.instanceMethod yX1_sumOfProducts]
def wsL_batch_r2 : List Cond := [Cond.selects RX1 yX1_sumOfProducts yX1_sumOfProducts, Cond.code yX1_sumOfProducts cX1_sumOfProducts 7 (some .double), Cond.fieldLink RX1 32 "EchoBench$Samples" "taken" "I", Cond.methodLink RX1 58 Lib.Math.max.name, Cond.static Lib.Math.max.name, Cond.initialized "java/lang/Math", Cond.code Lib.Math.max.name Lib.Math.max.code 2 (some .int), Cond.methodLink RX1 40 yJ9_floorMod_7cf53, Cond.static yJ9_floorMod_7cf53, Cond.initialized RJ9, Cond.code yJ9_floorMod_7cf53 cJ9_floorMod_7cf53 3 (some .int), Cond.static yX3_eitherWay, Cond.code yX3_eitherWay cX3_eitherWay 2 (some .double)]
def wsL_batch : List Cond := .codeWith yL_batch cL_batch 3 (some .long) [(0, 10, 11, 14)] :: ((wsL_batch_r1 ++ wsL_batch_r2) ++ wsX30 ++ wsX10 ++ (vx_atS RX3 34 "java/lang/IndexOutOfBoundsException" ["java/lang/RuntimeException", "java/lang/Exception"]).filter goodWord)
def wsL_square_r1 : List Cond := [Cond.classLink RL 14 "java/lang/IndexOutOfBoundsException", Cond.classLink RL 24 "java/lang/IllegalStateException", Cond.constantDouble RL 43 (4696837146684686336), Cond.constantLong RL 16 (-9000000000000000), Cond.methodLink RL 59 yX3_square, Cond.instanceMethod yX3_square, Cond.selects RX3 yX3_square yX3_square, Cond.initialized RX3, Cond.code yX3_square cX3_square 6 (some .double), Cond.classLink RX3 30 "java/lang/IndexOutOfBoundsException", Cond.initialized "java/lang/IndexOutOfBoundsException", Cond.classLink RX3 56 "java/lang/IllegalStateException", Cond.initialized "java/lang/IllegalStateException", Cond.methodLink RX3 64 yX3_numbered, Cond.instanceMethod yX3_numbered, Cond.selects RX3 yX3_numbered yX3_numbered, Cond.code yX3_numbered cX3_numbered 2 (some (.object "EchoBench$Filter")), Cond.fieldLink RX3 22 "EchoBench" "filterCount" "I", Cond.fieldLink RX3 18 "EchoBench" "filters" "[LEchoBench$Filter;", Cond.methodLink RX3 26 yX3_isWithin, Cond.static yX3_isWithin, Cond.code yX3_isWithin cX3_isWithin 3 (some .boolean), Cond.instanceMethod yX2_number, Cond.initialized RX2]
def wsL_square_r2 : List Cond := [Cond.selects RX2 yX2_number yX2_number, Cond.code yX2_number cX2_number 3 (some .double), Cond.fieldLink RX2 7 "EchoBench$Square" "size" "I", Cond.fieldLink RX2 15 "EchoBench$Square" "numbers" "[[D"]
def wsL_square : List Cond := .codeWith yL_square cL_square 5 (some .long) [(0, 12, 13, 14), (0, 12, 19, 24)] :: ((wsL_square_r1 ++ wsL_square_r2) ++ wsX00 ++ wsX30 ++ wsX20 ++ (vx_atS RX3 34 "java/lang/IndexOutOfBoundsException" ["java/lang/RuntimeException", "java/lang/Exception"]).filter goodWord ++ (vx_atS RX3 60 "java/lang/IllegalStateException" ["java/lang/RuntimeException", "java/lang/Exception"]).filter goodWord)
def wsL_act_r1 : List Cond := [Cond.methodLink RL 63 yL_low, Cond.static yL_low, Cond.initialized RL, Cond.code yL_low cL_low 2 (some .int), Cond.constant RL 7 (2147483647), Cond.methodLink RL 68 yL_path, Cond.static yL_path, Cond.codeWith yL_path cL_path 4 (some .long) [(0, 7, 8, 14), (0, 7, 13, 18)], Cond.classLink RL 14 "java/lang/IndexOutOfBoundsException", Cond.classLink RL 18 "java/lang/IllegalArgumentException", Cond.constantLong RL 16 (-9000000000000000), Cond.methodLink RL 8 yX3_path, Cond.instanceMethod yX3_path, Cond.selects RX3 yX3_path yX3_path, Cond.initialized RX3, Cond.code yX3_path cX3_path 3 (some .int), Cond.classLink RX3 30 "java/lang/IndexOutOfBoundsException", Cond.initialized "java/lang/IndexOutOfBoundsException", Cond.classLink RX3 37 "java/lang/IllegalArgumentException", Cond.initialized "java/lang/IllegalArgumentException", Cond.fieldLink RX3 10 "EchoBench" "samples" "LEchoBench$Samples;", Cond.methodLink RX3 26 yX3_isWithin, Cond.static yX3_isWithin, Cond.code yX3_isWithin cX3_isWithin 3 (some .boolean)]
def wsL_act_r2 : List Cond := [Cond.instanceMethod yX1_tellPath, Cond.initialized RX1, Cond.selects RX1 yX1_tellPath yX1_tellPath, Cond.code yX1_tellPath cX1_tellPath 4 (some .int), Cond.fieldLink RX1 9 "EchoBench$Samples" "pathHundredths" "[I", Cond.methodLink RL 71 yL_filter, Cond.static yL_filter, Cond.codeWith yL_filter cL_filter 5 (some .long) [(0, 8, 9, 18), (0, 8, 15, 24)], Cond.classLink RL 24 "java/lang/IllegalStateException", Cond.methodLink RL 20 yX3_filter, Cond.instanceMethod yX3_filter, Cond.selects RX3 yX3_filter yX3_filter, Cond.code yX3_filter cX3_filter 5 (some .int), Cond.classLink RX3 56 "java/lang/IllegalStateException", Cond.initialized "java/lang/IllegalStateException", Cond.fieldLink RX3 22 "EchoBench" "filterCount" "I", Cond.fieldLink RX3 18 "EchoBench" "filters" "[LEchoBench$Filter;", Cond.classLink RX3 16 RX0, Cond.instantiable RX0 13, Cond.initialized RX0, Cond.methodLink RX3 50 yX3_isStepOf, Cond.static yX3_isStepOf, Cond.code yX3_isStepOf cX3_isStepOf 2 (some .boolean), Cond.instanceMethod yX0_init]
def wsL_act_r3 : List Cond := [Cond.code yX0_init cX0_init 4 none, Cond.methodLink RX0 3 objectInit, Cond.instanceMethod objectInit, Cond.code objectInit ⟨#[0xb1]⟩ 1 none, Cond.fieldLink RX0 9 "EchoBench$Filter" "kind" "I", Cond.arrayClass .double, Cond.fieldLink RX0 15 "EchoBench$Filter" "weights" "[D", Cond.fieldLink RX0 19 "EchoBench$Filter" "latestErrors" "[D", Cond.classLink RX0 22 RX2, Cond.instantiable RX2 4, Cond.initialized RX2, Cond.fieldLink RX0 27 "EchoBench$Filter" "square" "LEchoBench$Square;", Cond.fieldLink RX0 31 "EchoBench$Filter" "thousandths" "I", Cond.instanceMethod yX2_init, Cond.code yX2_init cX2_init 3 none, Cond.methodLink RX2 1 objectInit, Cond.fieldLink RX2 7 "EchoBench$Square" "size" "I", Cond.classLink RX2 13 "[[D", Cond.fieldLink RX2 15 "EchoBench$Square" "numbers" "[[D", Cond.fieldLink RX2 18 "EchoBench$Square" "g" "[D", Cond.fieldLink RX2 22 "EchoBench$Square" "shares" "[D", Cond.constantDouble RX2 25 (4636737291354636288), Cond.methodLink RL 74 yL_step, Cond.static yL_step]
def wsL_act_r4 : List Cond := [Cond.codeWith yL_step cL_step 4 (some .long) [(0, 7, 8, 14), (0, 7, 13, 18)], Cond.methodLink RL 26 yX3_step, Cond.instanceMethod yX3_step, Cond.selects RX3 yX3_step yX3_step, Cond.code yX3_step cX3_step 5 (some .int), Cond.methodLink RX3 64 yX3_numbered, Cond.instanceMethod yX3_numbered, Cond.selects RX3 yX3_numbered yX3_numbered, Cond.code yX3_numbered cX3_numbered 2 (some (.object "EchoBench$Filter")), Cond.methodLink RL 76 yL_watch, Cond.static yL_watch, Cond.codeWith yL_watch cL_watch 5 (some .long) [(0, 8, 9, 14), (0, 8, 15, 18)], Cond.methodLink RL 29 yX3_watch, Cond.instanceMethod yX3_watch, Cond.selects RX3 yX3_watch yX3_watch, Cond.code yX3_watch cX3_watch 5 none, Cond.methodLink RL 78 yL_begin, Cond.static yL_begin, Cond.codeWith yL_begin cL_begin 3 (some .long) [(0, 6, 7, 14)], Cond.methodLink RL 33 yX3_begin, Cond.instanceMethod yX3_begin, Cond.selects RX3 yX3_begin yX3_begin, Cond.code yX3_begin cX3_begin 3 none, Cond.instanceMethod yX0_restart]
def wsL_act_r5 : List Cond := [Cond.selects RX0 yX0_restart yX0_restart, Cond.code yX0_restart cX0_restart 1 none, Cond.fieldLink RX0 43 "EchoBench$Filter" "holdsLeft" "I", Cond.fieldLink RX0 46 "EchoBench$Filter" "output" "D", Cond.fieldLink RX0 50 "EchoBench$Filter" "error" "D", Cond.fieldLink RX0 53 "EchoBench$Filter" "heard" "I", Cond.fieldLink RX0 56 "EchoBench$Filter" "held" "I", Cond.fieldLink RX0 59 "EchoBench$Filter" "resets" "I", Cond.methodLink RX0 34 yJ7_fill_7f8df, Cond.static yJ7_fill_7f8df, Cond.initialized RJ7, Cond.code yJ7_fill_7f8df cJ7_fill_7f8df 5 none, Cond.instanceMethod yX2_restart, Cond.selects RX2 yX2_restart yX2_restart, Cond.code yX2_restart cX2_restart 3 none, Cond.methodLink RL 81 yL_count, Cond.static yL_count, Cond.codeWith yL_count cL_count 4 (some .long) [(0, 7, 8, 14), (0, 7, 13, 18)], Cond.methodLink RL 52 yX3_count, Cond.instanceMethod yX3_count, Cond.selects RX3 yX3_count yX3_count, Cond.code yX3_count cX3_count 4 (some .int), Cond.methodLink RL 83 yL_feed, Cond.static yL_feed]
def wsL_act_r6 : List Cond := [Cond.codeWith yL_feed cL_feed 4 (some .long) [(0, 7, 8, 18), (0, 7, 13, 24)], Cond.methodLink RL 37 yX3_feed, Cond.instanceMethod yX3_feed, Cond.selects RX3 yX3_feed yX3_feed, Cond.code yX3_feed cX3_feed 3 (some .int), Cond.methodLink RX3 96 yX3_takeSample, Cond.instanceMethod yX3_takeSample, Cond.selects RX3 yX3_takeSample yX3_takeSample, Cond.code yX3_takeSample cX3_takeSample 5 none, Cond.instanceMethod yX1_take, Cond.selects RX1 yX1_take yX1_take, Cond.code yX1_take cX1_take 4 none, Cond.fieldLink RX1 15 "EchoBench$Samples" "xs" "[D", Cond.fieldLink RX1 28 "EchoBench$Samples" "lastMicrophone" "D", Cond.fieldLink RX1 32 "EchoBench$Samples" "taken" "I", Cond.fieldLink RX1 19 "EchoBench$Samples" "latestX0" "[D", Cond.fieldLink RX1 22 "EchoBench$Samples" "latestX1" "[D", Cond.fieldLink RX1 25 "EchoBench$Samples" "latestMicrophone" "[D", Cond.methodLink RX1 36 yX1_heardWith, Cond.instanceMethod yX1_heardWith, Cond.selects RX1 yX1_heardWith yX1_heardWith, Cond.code yX1_heardWith cX1_heardWith 5 (some .double), Cond.constantDouble RX1 46 (4636737291354636288), Cond.methodLink RX1 40 yJ9_floorMod_7cf53]
def wsL_act_r7 : List Cond := [Cond.static yJ9_floorMod_7cf53, Cond.initialized RJ9, Cond.code yJ9_floorMod_7cf53 cJ9_floorMod_7cf53 3 (some .int), Cond.instanceMethod yX0_hear, Cond.selects RX0 yX0_hear yX0_hear, Cond.code yX0_hear cX0_hear 4 none, Cond.methodLink RX0 62 yX0_outputAt, Cond.instanceMethod yX0_outputAt, Cond.selects RX0 yX0_outputAt yX0_outputAt, Cond.code yX0_outputAt cX0_outputAt 5 (some .double), Cond.methodLink RX0 66 yJ9_floorMod_7cf53, Cond.methodLink RX0 72 yX0_holdsAt, Cond.instanceMethod yX0_holdsAt, Cond.selects RX0 yX0_holdsAt yX0_holdsAt, Cond.code yX0_holdsAt cX0_holdsAt 4 (some .boolean), Cond.fieldLink RX0 87 "EchoBench$Filter" "tail" "I", Cond.methodLink RX0 84 yX0_isLoud, Cond.instanceMethod yX0_isLoud, Cond.selects RX0 yX0_isLoud yX0_isLoud, Cond.code yX0_isLoud cX0_isLoud 9 (some .boolean), Cond.fieldLink RX0 90 "EchoBench$Filter" "watchHundredths" "I", Cond.constantDouble RX0 97 (4636737291354636288), Cond.static yX3_eitherWay, Cond.code yX3_eitherWay cX3_eitherWay 2 (some .double)]
def wsL_act_r8 : List Cond := [Cond.methodLink RX0 76 yX0_learnBySquare, Cond.instanceMethod yX0_learnBySquare, Cond.selects RX0 yX0_learnBySquare yX0_learnBySquare, Cond.code yX0_learnBySquare cX0_learnBySquare 7 none, Cond.constantDouble RX0 110 (4652007308841189376), Cond.instanceMethod yX2_prepare, Cond.selects RX2 yX2_prepare yX2_prepare, Cond.code yX2_prepare cX2_prepare 7 (some .boolean), Cond.constantDouble RX2 37 (4517329193108106637), Cond.methodLink RX2 33 yX2_rowTimes, Cond.instanceMethod yX2_rowTimes, Cond.selects RX2 yX2_rowTimes yX2_rowTimes, Cond.code yX2_rowTimes cX2_rowTimes 6 (some .double), Cond.instanceMethod yX2_share, Cond.selects RX2 yX2_share yX2_share, Cond.code yX2_share cX2_share 2 (some .double), Cond.methodLink RX0 106 yX0_add, Cond.instanceMethod yX0_add, Cond.selects RX0 yX0_add yX0_add, Cond.code yX0_add cX0_add 4 none, Cond.constantDouble RX0 123 (4741671816366391296), Cond.static yX3_heldTo, Cond.code yX3_heldTo cX3_heldTo 4 (some .double), Cond.instanceMethod yX2_renew]
def wsL_act_r9 : List Cond := [Cond.selects RX2 yX2_renew yX2_renew, Cond.code yX2_renew cX2_renew 6 (some .boolean), Cond.constantDouble RX2 39 (4696837146684686336), Cond.methodLink RX0 80 yX0_learn, Cond.instanceMethod yX0_learn, Cond.selects RX0 yX0_learn yX0_learn, Cond.code yX0_learn cX0_learn 5 none, Cond.methodLink RX0 99 yX0_normOf, Cond.instanceMethod yX0_normOf, Cond.selects RX0 yX0_normOf yX0_normOf, Cond.code yX0_normOf cX0_normOf 5 (some .double), Cond.methodLink RX0 102 yX0_lesson, Cond.instanceMethod yX0_lesson, Cond.selects RX0 yX0_lesson yX0_lesson, Cond.code yX0_lesson cX0_lesson 7 (some .double), Cond.methodLink RL 85 yL_script, Cond.static yL_script, Cond.codeWith yL_script cL_script 4 (some .long) [(0, 7, 8, 18), (0, 7, 13, 24)], Cond.methodLink RL 40 yX3_script, Cond.instanceMethod yX3_script, Cond.selects RX3 yX3_script yX3_script, Cond.code yX3_script cX3_script 5 (some .int), Cond.methodLink RL 87 yL_weight, Cond.static yL_weight]
def wsL_act_r10 : List Cond := [Cond.codeWith yL_weight cL_weight 4 (some .long) [(0, 11, 12, 14)], Cond.constantDouble RL 43 (4696837146684686336), Cond.methodLink RL 45 yX3_weight, Cond.instanceMethod yX3_weight, Cond.selects RX3 yX3_weight yX3_weight, Cond.code yX3_weight cX3_weight 4 (some .double), Cond.methodLink RL 89 yL_of, Cond.static yL_of, Cond.codeWith yL_of cL_of 4 (some .long) [(0, 11, 12, 14), (0, 11, 17, 18)], Cond.methodLink RL 49 yX3_of, Cond.instanceMethod yX3_of, Cond.selects RX3 yX3_of yX3_of, Cond.code yX3_of cX3_of 4 (some .double), Cond.instanceMethod yX1_offness, Cond.selects RX1 yX1_offness yX1_offness, Cond.code yX1_offness cX1_offness 7 (some .double), Cond.instanceMethod yX0_power, Cond.selects RX0 yX0_power yX0_power, Cond.code yX0_power cX0_power 7 (some .double), Cond.methodLink RX0 128 Lib.Math.max.name, Cond.static Lib.Math.max.name, Cond.initialized "java/lang/Math", Cond.code Lib.Math.max.name Lib.Math.max.code 2 (some .int), Cond.methodLink RL 91 yL_batch]
def wsL_act_r11 : List Cond := [Cond.static yL_batch, Cond.codeWith yL_batch cL_batch 3 (some .long) [(0, 10, 11, 14)], Cond.methodLink RL 55 yX3_batch, Cond.instanceMethod yX3_batch, Cond.selects RX3 yX3_batch yX3_batch, Cond.code yX3_batch cX3_batch 2 (some .double), Cond.instanceMethod yX1_batchWeight, Cond.selects RX1 yX1_batchWeight yX1_batchWeight, Cond.code yX1_batchWeight cX1_batchWeight 14 (some .double), Cond.constantDouble RX1 56 (4602678819172646912), Cond.methodLink RX1 48 yX1_sumOfProducts, Cond.instanceMethod yX1_sumOfProducts, Cond.selects RX1 yX1_sumOfProducts yX1_sumOfProducts, Cond.code yX1_sumOfProducts cX1_sumOfProducts 7 (some .double), Cond.methodLink RX1 58 Lib.Math.max.name, Cond.methodLink RL 93 yL_square, Cond.static yL_square, Cond.codeWith yL_square cL_square 5 (some .long) [(0, 12, 13, 14), (0, 12, 19, 24)], Cond.methodLink RL 59 yX3_square, Cond.instanceMethod yX3_square, Cond.selects RX3 yX3_square yX3_square, Cond.code yX3_square cX3_square 6 (some .double), Cond.instanceMethod yX2_number, Cond.selects RX2 yX2_number yX2_number]
def wsL_act_r12 : List Cond := [Cond.code yX2_number cX2_number 3 (some .double), Cond.methodLink RL 95 yX3_best, Cond.instanceMethod yX3_best, Cond.selects RX3 yX3_best yX3_best, Cond.code yX3_best cX3_best 8 (some .int)]
def wsL_act : List Cond := .code yL_act cL_act 7 (some .long) :: ((wsL_act_r1 ++ (wsL_act_r2 ++ (wsL_act_r3 ++ (wsL_act_r4 ++ (wsL_act_r5 ++ (wsL_act_r6 ++ (wsL_act_r7 ++ (wsL_act_r8 ++ (wsL_act_r9 ++ (wsL_act_r10 ++ (wsL_act_r11 ++ wsL_act_r12))))))))))) ++ wsX30 ++ wsX10 ++ wsX00 ++ wsX20 ++ (vx_atS RX3 34 "java/lang/IndexOutOfBoundsException" ["java/lang/RuntimeException", "java/lang/Exception"]).filter goodWord ++ (vx_atS RX3 41 "java/lang/IllegalArgumentException" ["java/lang/RuntimeException", "java/lang/Exception"]).filter goodWord ++ (vx_atS RX3 60 "java/lang/IllegalStateException" ["java/lang/RuntimeException", "java/lang/Exception"]).filter goodWord)
def wsL_areAlike_r1 : List Cond := [Cond.methodLink RL 99 yX3_microphone, Cond.instanceMethod yX3_microphone, Cond.selects RX3 yX3_microphone yX3_microphone, Cond.initialized RX3, Cond.code yX3_microphone cX3_microphone 1 (some .double), Cond.fieldLink RX3 10 "EchoBench" "samples" "LEchoBench$Samples;", Cond.methodLink RL 95 yX3_best, Cond.instanceMethod yX3_best, Cond.selects RX3 yX3_best yX3_best, Cond.code yX3_best cX3_best 8 (some .int), Cond.fieldLink RX3 22 "EchoBench" "filterCount" "I", Cond.methodLink RX3 64 yX3_numbered, Cond.instanceMethod yX3_numbered, Cond.selects RX3 yX3_numbered yX3_numbered, Cond.code yX3_numbered cX3_numbered 2 (some (.object "EchoBench$Filter")), Cond.fieldLink RX3 18 "EchoBench" "filters" "[LEchoBench$Filter;", Cond.instanceMethod yX1_offness, Cond.initialized RX1, Cond.selects RX1 yX1_offness yX1_offness, Cond.code yX1_offness cX1_offness 7 (some .double), Cond.fieldLink RX1 9 "EchoBench$Samples" "pathHundredths" "[I", Cond.constantDouble RX1 46 (4636737291354636288), Cond.methodLink RL 63 yL_low, Cond.static yL_low]
def wsL_areAlike_r2 : List Cond := [Cond.initialized RL, Cond.code yL_low cL_low 2 (some .int), Cond.constant RL 7 (2147483647), Cond.methodLink RL 87 yL_weight, Cond.static yL_weight, Cond.codeWith yL_weight cL_weight 4 (some .long) [(0, 11, 12, 14)], Cond.classLink RL 14 "java/lang/IndexOutOfBoundsException", Cond.constantDouble RL 43 (4696837146684686336), Cond.constantLong RL 16 (-9000000000000000), Cond.methodLink RL 45 yX3_weight, Cond.instanceMethod yX3_weight, Cond.selects RX3 yX3_weight yX3_weight, Cond.code yX3_weight cX3_weight 4 (some .double), Cond.classLink RX3 30 "java/lang/IndexOutOfBoundsException", Cond.initialized "java/lang/IndexOutOfBoundsException", Cond.methodLink RL 89 yL_of, Cond.static yL_of, Cond.codeWith yL_of cL_of 4 (some .long) [(0, 11, 12, 14), (0, 11, 17, 18)], Cond.classLink RL 18 "java/lang/IllegalArgumentException", Cond.methodLink RL 49 yX3_of, Cond.instanceMethod yX3_of, Cond.selects RX3 yX3_of yX3_of, Cond.code yX3_of cX3_of 4 (some .double), Cond.classLink RX3 37 "java/lang/IllegalArgumentException"]
def wsL_areAlike_r3 : List Cond := [Cond.initialized "java/lang/IllegalArgumentException", Cond.instanceMethod yX0_power, Cond.initialized RX0, Cond.selects RX0 yX0_power yX0_power, Cond.code yX0_power cX0_power 7 (some .double), Cond.fieldLink RX0 53 "EchoBench$Filter" "heard" "I", Cond.methodLink RX0 128 Lib.Math.max.name, Cond.static Lib.Math.max.name, Cond.initialized "java/lang/Math", Cond.code Lib.Math.max.name Lib.Math.max.code 2 (some .int), Cond.fieldLink RX0 19 "EchoBench$Filter" "latestErrors" "[D", Cond.methodLink RX0 66 yJ9_floorMod_7cf53, Cond.static yJ9_floorMod_7cf53, Cond.initialized RJ9, Cond.code yJ9_floorMod_7cf53 cJ9_floorMod_7cf53 3 (some .int), Cond.methodLink RL 81 yL_count, Cond.static yL_count, Cond.codeWith yL_count cL_count 4 (some .long) [(0, 7, 8, 14), (0, 7, 13, 18)], Cond.methodLink RL 52 yX3_count, Cond.instanceMethod yX3_count, Cond.selects RX3 yX3_count yX3_count, Cond.code yX3_count cX3_count 4 (some .int), Cond.methodLink RL 93 yL_square, Cond.static yL_square]
def wsL_areAlike_r4 : List Cond := [Cond.codeWith yL_square cL_square 5 (some .long) [(0, 12, 13, 14), (0, 12, 19, 24)], Cond.classLink RL 24 "java/lang/IllegalStateException", Cond.methodLink RL 59 yX3_square, Cond.instanceMethod yX3_square, Cond.selects RX3 yX3_square yX3_square, Cond.code yX3_square cX3_square 6 (some .double), Cond.classLink RX3 56 "java/lang/IllegalStateException", Cond.initialized "java/lang/IllegalStateException", Cond.methodLink RX3 26 yX3_isWithin, Cond.static yX3_isWithin, Cond.code yX3_isWithin cX3_isWithin 3 (some .boolean), Cond.instanceMethod yX2_number, Cond.initialized RX2, Cond.selects RX2 yX2_number yX2_number, Cond.code yX2_number cX2_number 3 (some .double), Cond.fieldLink RX2 7 "EchoBench$Square" "size" "I", Cond.fieldLink RX2 15 "EchoBench$Square" "numbers" "[[D", Cond.methodLink RL 91 yL_batch, Cond.static yL_batch, Cond.codeWith yL_batch cL_batch 3 (some .long) [(0, 10, 11, 14)], Cond.methodLink RL 55 yX3_batch, Cond.instanceMethod yX3_batch, Cond.selects RX3 yX3_batch yX3_batch, Cond.code yX3_batch cX3_batch 2 (some .double)]
def wsL_areAlike_r5 : List Cond := [Cond.instanceMethod yX1_batchWeight, Cond.selects RX1 yX1_batchWeight yX1_batchWeight, Cond.code yX1_batchWeight cX1_batchWeight 14 (some .double), Cond.fieldLink RX1 19 "EchoBench$Samples" "latestX0" "[D", Cond.fieldLink RX1 22 "EchoBench$Samples" "latestX1" "[D", Cond.fieldLink RX1 25 "EchoBench$Samples" "latestMicrophone" "[D", Cond.constantDouble RX1 56 (4602678819172646912), Cond.methodLink RX1 48 yX1_sumOfProducts, Cond.instanceMethod yX1_sumOfProducts, Cond.selects RX1 yX1_sumOfProducts yX1_sumOfProducts, Cond.code yX1_sumOfProducts cX1_sumOfProducts 7 (some .double), Cond.fieldLink RX1 32 "EchoBench$Samples" "taken" "I", Cond.methodLink RX1 58 Lib.Math.max.name, Cond.methodLink RX1 40 yJ9_floorMod_7cf53, Cond.static yX3_eitherWay, Cond.code yX3_eitherWay cX3_eitherWay 2 (some .double)]
def wsL_areAlike : List Cond := .code yL_areAlike cL_areAlike 5 (some .boolean) :: ((wsL_areAlike_r1 ++ (wsL_areAlike_r2 ++ (wsL_areAlike_r3 ++ (wsL_areAlike_r4 ++ wsL_areAlike_r5)))) ++ wsX30 ++ wsX10 ++ wsX00 ++ wsX20 ++ (vx_atS RX3 34 "java/lang/IndexOutOfBoundsException" ["java/lang/RuntimeException", "java/lang/Exception"]).filter goodWord ++ (vx_atS RX3 41 "java/lang/IllegalArgumentException" ["java/lang/RuntimeException", "java/lang/Exception"]).filter goodWord ++ (vx_atS RX3 60 "java/lang/IllegalStateException" ["java/lang/RuntimeException", "java/lang/Exception"]).filter goodWord)
def wsL_isSo_r1 : List Cond := [Cond.constantLong RL 16 (-9000000000000000), Cond.constantDouble RL 103 (4741671816366391296), Cond.constantDouble RL 105 (13965043853221167104), Cond.methodLink RL 95 yX3_best, Cond.instanceMethod yX3_best, Cond.selects RX3 yX3_best yX3_best, Cond.initialized RX3, Cond.code yX3_best cX3_best 8 (some .int), Cond.fieldLink RX3 22 "EchoBench" "filterCount" "I", Cond.fieldLink RX3 10 "EchoBench" "samples" "LEchoBench$Samples;", Cond.methodLink RX3 64 yX3_numbered, Cond.instanceMethod yX3_numbered, Cond.selects RX3 yX3_numbered yX3_numbered, Cond.code yX3_numbered cX3_numbered 2 (some (.object "EchoBench$Filter")), Cond.fieldLink RX3 18 "EchoBench" "filters" "[LEchoBench$Filter;", Cond.instanceMethod yX1_offness, Cond.initialized RX1, Cond.selects RX1 yX1_offness yX1_offness, Cond.code yX1_offness cX1_offness 7 (some .double), Cond.fieldLink RX1 9 "EchoBench$Samples" "pathHundredths" "[I", Cond.constantDouble RX1 46 (4636737291354636288), Cond.methodLink RL 81 yL_count, Cond.static yL_count, Cond.initialized RL]
def wsL_isSo_r2 : List Cond := [Cond.codeWith yL_count cL_count 4 (some .long) [(0, 7, 8, 14), (0, 7, 13, 18)], Cond.classLink RL 14 "java/lang/IndexOutOfBoundsException", Cond.classLink RL 18 "java/lang/IllegalArgumentException", Cond.methodLink RL 52 yX3_count, Cond.instanceMethod yX3_count, Cond.selects RX3 yX3_count yX3_count, Cond.code yX3_count cX3_count 4 (some .int), Cond.classLink RX3 30 "java/lang/IndexOutOfBoundsException", Cond.initialized "java/lang/IndexOutOfBoundsException", Cond.classLink RX3 37 "java/lang/IllegalArgumentException", Cond.initialized "java/lang/IllegalArgumentException", Cond.methodLink RL 49 yX3_of, Cond.instanceMethod yX3_of, Cond.selects RX3 yX3_of yX3_of, Cond.code yX3_of cX3_of 4 (some .double), Cond.instanceMethod yX0_power, Cond.initialized RX0, Cond.selects RX0 yX0_power yX0_power, Cond.code yX0_power cX0_power 7 (some .double), Cond.fieldLink RX0 53 "EchoBench$Filter" "heard" "I", Cond.methodLink RX0 128 Lib.Math.max.name, Cond.static Lib.Math.max.name, Cond.initialized "java/lang/Math", Cond.code Lib.Math.max.name Lib.Math.max.code 2 (some .int)]
def wsL_isSo_r3 : List Cond := [Cond.fieldLink RX0 19 "EchoBench$Filter" "latestErrors" "[D", Cond.methodLink RX0 66 yJ9_floorMod_7cf53, Cond.static yJ9_floorMod_7cf53, Cond.initialized RJ9, Cond.code yJ9_floorMod_7cf53 cJ9_floorMod_7cf53 3 (some .int), Cond.methodLink RL 99 yX3_microphone, Cond.instanceMethod yX3_microphone, Cond.selects RX3 yX3_microphone yX3_microphone, Cond.code yX3_microphone cX3_microphone 1 (some .double), Cond.methodLink RL 87 yL_weight, Cond.static yL_weight, Cond.codeWith yL_weight cL_weight 4 (some .long) [(0, 11, 12, 14)], Cond.constantDouble RL 43 (4696837146684686336), Cond.methodLink RL 45 yX3_weight, Cond.instanceMethod yX3_weight, Cond.selects RX3 yX3_weight yX3_weight, Cond.code yX3_weight cX3_weight 4 (some .double), Cond.methodLink RL 91 yL_batch, Cond.static yL_batch, Cond.codeWith yL_batch cL_batch 3 (some .long) [(0, 10, 11, 14)], Cond.methodLink RL 55 yX3_batch, Cond.instanceMethod yX3_batch, Cond.selects RX3 yX3_batch yX3_batch, Cond.code yX3_batch cX3_batch 2 (some .double)]
def wsL_isSo_r4 : List Cond := [Cond.methodLink RX3 26 yX3_isWithin, Cond.static yX3_isWithin, Cond.code yX3_isWithin cX3_isWithin 3 (some .boolean), Cond.instanceMethod yX1_batchWeight, Cond.selects RX1 yX1_batchWeight yX1_batchWeight, Cond.code yX1_batchWeight cX1_batchWeight 14 (some .double), Cond.fieldLink RX1 19 "EchoBench$Samples" "latestX0" "[D", Cond.fieldLink RX1 22 "EchoBench$Samples" "latestX1" "[D", Cond.fieldLink RX1 25 "EchoBench$Samples" "latestMicrophone" "[D", Cond.constantDouble RX1 56 (4602678819172646912), Cond.methodLink RX1 48 yX1_sumOfProducts, Cond.instanceMethod yX1_sumOfProducts, Cond.selects RX1 yX1_sumOfProducts yX1_sumOfProducts, Cond.code yX1_sumOfProducts cX1_sumOfProducts 7 (some .double), Cond.fieldLink RX1 32 "EchoBench$Samples" "taken" "I", Cond.methodLink RX1 58 Lib.Math.max.name, Cond.methodLink RX1 40 yJ9_floorMod_7cf53, Cond.static yX3_eitherWay, Cond.code yX3_eitherWay cX3_eitherWay 2 (some .double), Cond.methodLink RL 89 yL_of, Cond.static yL_of, Cond.codeWith yL_of cL_of 4 (some .long) [(0, 11, 12, 14), (0, 11, 17, 18)]]
def wsL_isSo : List Cond := .code yL_isSo cL_isSo 8 (some .boolean) :: ((wsL_isSo_r1 ++ (wsL_isSo_r2 ++ (wsL_isSo_r3 ++ wsL_isSo_r4))) ++ wsX30 ++ wsX00 ++ wsX10 ++ (vx_atS RX3 34 "java/lang/IndexOutOfBoundsException" ["java/lang/RuntimeException", "java/lang/Exception"]).filter goodWord ++ (vx_atS RX3 41 "java/lang/IllegalArgumentException" ["java/lang/RuntimeException", "java/lang/Exception"]).filter goodWord)
def wsL_law0_r1 : List Cond := [Cond.classLink RL 9 RX3, Cond.instantiable RX3 3, Cond.initialized RX3, Cond.constantLong RL 16 (-9000000000000000), Cond.methodLink RL 107 yX3_init, Cond.instanceMethod yX3_init, Cond.code yX3_init cX3_init 1 none, Cond.methodLink RX3 1 objectInit, Cond.instanceMethod objectInit, Cond.code objectInit ⟨#[0xb1]⟩ 1 none, Cond.classLink RX3 7 RX1, Cond.instantiable RX1 7, Cond.initialized RX1, Cond.fieldLink RX3 10 "EchoBench" "samples" "LEchoBench$Samples;", Cond.classLink RX3 16 RX0, Cond.fieldLink RX3 18 "EchoBench" "filters" "[LEchoBench$Filter;", Cond.fieldLink RX3 22 "EchoBench" "filterCount" "I", Cond.instanceMethod yX1_init, Cond.code yX1_init cX1_init 1 none, Cond.methodLink RX1 3 objectInit, Cond.arrayClass .int, Cond.fieldLink RX1 9 "EchoBench$Samples" "pathHundredths" "[I", Cond.arrayClass .double, Cond.fieldLink RX1 15 "EchoBench$Samples" "xs" "[D"]
def wsL_law0_r2 : List Cond := [Cond.fieldLink RX1 19 "EchoBench$Samples" "latestX0" "[D", Cond.fieldLink RX1 22 "EchoBench$Samples" "latestX1" "[D", Cond.fieldLink RX1 25 "EchoBench$Samples" "latestMicrophone" "[D", Cond.fieldLink RX1 28 "EchoBench$Samples" "lastMicrophone" "D", Cond.fieldLink RX1 32 "EchoBench$Samples" "taken" "I", Cond.methodLink RL 108 yL_cell, Cond.static yL_cell, Cond.initialized RL, Cond.code yL_cell cL_cell 2 (some .int), Cond.methodLink RL 112 yL_act, Cond.static yL_act, Cond.code yL_act cL_act 7 (some .long), Cond.methodLink RL 63 yL_low, Cond.static yL_low, Cond.code yL_low cL_low 2 (some .int), Cond.constant RL 7 (2147483647), Cond.methodLink RL 68 yL_path, Cond.static yL_path, Cond.codeWith yL_path cL_path 4 (some .long) [(0, 7, 8, 14), (0, 7, 13, 18)], Cond.classLink RL 14 "java/lang/IndexOutOfBoundsException", Cond.classLink RL 18 "java/lang/IllegalArgumentException", Cond.methodLink RL 8 yX3_path, Cond.instanceMethod yX3_path, Cond.selects RX3 yX3_path yX3_path]
def wsL_law0_r3 : List Cond := [Cond.code yX3_path cX3_path 3 (some .int), Cond.classLink RX3 30 "java/lang/IndexOutOfBoundsException", Cond.initialized "java/lang/IndexOutOfBoundsException", Cond.classLink RX3 37 "java/lang/IllegalArgumentException", Cond.initialized "java/lang/IllegalArgumentException", Cond.methodLink RX3 26 yX3_isWithin, Cond.static yX3_isWithin, Cond.code yX3_isWithin cX3_isWithin 3 (some .boolean), Cond.instanceMethod yX1_tellPath, Cond.selects RX1 yX1_tellPath yX1_tellPath, Cond.code yX1_tellPath cX1_tellPath 4 (some .int), Cond.methodLink RL 71 yL_filter, Cond.static yL_filter, Cond.codeWith yL_filter cL_filter 5 (some .long) [(0, 8, 9, 18), (0, 8, 15, 24)], Cond.classLink RL 24 "java/lang/IllegalStateException", Cond.methodLink RL 20 yX3_filter, Cond.instanceMethod yX3_filter, Cond.selects RX3 yX3_filter yX3_filter, Cond.code yX3_filter cX3_filter 5 (some .int), Cond.classLink RX3 56 "java/lang/IllegalStateException", Cond.initialized "java/lang/IllegalStateException", Cond.instantiable RX0 13, Cond.initialized RX0, Cond.methodLink RX3 50 yX3_isStepOf]
def wsL_law0_r4 : List Cond := [Cond.static yX3_isStepOf, Cond.code yX3_isStepOf cX3_isStepOf 2 (some .boolean), Cond.instanceMethod yX0_init, Cond.code yX0_init cX0_init 4 none, Cond.methodLink RX0 3 objectInit, Cond.fieldLink RX0 9 "EchoBench$Filter" "kind" "I", Cond.fieldLink RX0 15 "EchoBench$Filter" "weights" "[D", Cond.fieldLink RX0 19 "EchoBench$Filter" "latestErrors" "[D", Cond.classLink RX0 22 RX2, Cond.instantiable RX2 4, Cond.initialized RX2, Cond.fieldLink RX0 27 "EchoBench$Filter" "square" "LEchoBench$Square;", Cond.fieldLink RX0 31 "EchoBench$Filter" "thousandths" "I", Cond.instanceMethod yX2_init, Cond.code yX2_init cX2_init 3 none, Cond.methodLink RX2 1 objectInit, Cond.fieldLink RX2 7 "EchoBench$Square" "size" "I", Cond.classLink RX2 13 "[[D", Cond.fieldLink RX2 15 "EchoBench$Square" "numbers" "[[D", Cond.fieldLink RX2 18 "EchoBench$Square" "g" "[D", Cond.fieldLink RX2 22 "EchoBench$Square" "shares" "[D", Cond.constantDouble RX2 25 (4636737291354636288), Cond.methodLink RL 74 yL_step, Cond.static yL_step]
def wsL_law0_r5 : List Cond := [Cond.codeWith yL_step cL_step 4 (some .long) [(0, 7, 8, 14), (0, 7, 13, 18)], Cond.methodLink RL 26 yX3_step, Cond.instanceMethod yX3_step, Cond.selects RX3 yX3_step yX3_step, Cond.code yX3_step cX3_step 5 (some .int), Cond.methodLink RX3 64 yX3_numbered, Cond.instanceMethod yX3_numbered, Cond.selects RX3 yX3_numbered yX3_numbered, Cond.code yX3_numbered cX3_numbered 2 (some (.object "EchoBench$Filter")), Cond.methodLink RL 76 yL_watch, Cond.static yL_watch, Cond.codeWith yL_watch cL_watch 5 (some .long) [(0, 8, 9, 14), (0, 8, 15, 18)], Cond.methodLink RL 29 yX3_watch, Cond.instanceMethod yX3_watch, Cond.selects RX3 yX3_watch yX3_watch, Cond.code yX3_watch cX3_watch 5 none, Cond.methodLink RL 78 yL_begin, Cond.static yL_begin, Cond.codeWith yL_begin cL_begin 3 (some .long) [(0, 6, 7, 14)], Cond.methodLink RL 33 yX3_begin, Cond.instanceMethod yX3_begin, Cond.selects RX3 yX3_begin yX3_begin, Cond.code yX3_begin cX3_begin 3 none, Cond.instanceMethod yX0_restart]
def wsL_law0_r6 : List Cond := [Cond.selects RX0 yX0_restart yX0_restart, Cond.code yX0_restart cX0_restart 1 none, Cond.fieldLink RX0 43 "EchoBench$Filter" "holdsLeft" "I", Cond.fieldLink RX0 46 "EchoBench$Filter" "output" "D", Cond.fieldLink RX0 50 "EchoBench$Filter" "error" "D", Cond.fieldLink RX0 53 "EchoBench$Filter" "heard" "I", Cond.fieldLink RX0 56 "EchoBench$Filter" "held" "I", Cond.fieldLink RX0 59 "EchoBench$Filter" "resets" "I", Cond.methodLink RX0 34 yJ7_fill_7f8df, Cond.static yJ7_fill_7f8df, Cond.initialized RJ7, Cond.code yJ7_fill_7f8df cJ7_fill_7f8df 5 none, Cond.instanceMethod yX2_restart, Cond.selects RX2 yX2_restart yX2_restart, Cond.code yX2_restart cX2_restart 3 none, Cond.methodLink RL 81 yL_count, Cond.static yL_count, Cond.codeWith yL_count cL_count 4 (some .long) [(0, 7, 8, 14), (0, 7, 13, 18)], Cond.methodLink RL 52 yX3_count, Cond.instanceMethod yX3_count, Cond.selects RX3 yX3_count yX3_count, Cond.code yX3_count cX3_count 4 (some .int), Cond.methodLink RL 83 yL_feed, Cond.static yL_feed]
def wsL_law0_r7 : List Cond := [Cond.codeWith yL_feed cL_feed 4 (some .long) [(0, 7, 8, 18), (0, 7, 13, 24)], Cond.methodLink RL 37 yX3_feed, Cond.instanceMethod yX3_feed, Cond.selects RX3 yX3_feed yX3_feed, Cond.code yX3_feed cX3_feed 3 (some .int), Cond.methodLink RX3 96 yX3_takeSample, Cond.instanceMethod yX3_takeSample, Cond.selects RX3 yX3_takeSample yX3_takeSample, Cond.code yX3_takeSample cX3_takeSample 5 none, Cond.instanceMethod yX1_take, Cond.selects RX1 yX1_take yX1_take, Cond.code yX1_take cX1_take 4 none, Cond.methodLink RX1 36 yX1_heardWith, Cond.instanceMethod yX1_heardWith, Cond.selects RX1 yX1_heardWith yX1_heardWith, Cond.code yX1_heardWith cX1_heardWith 5 (some .double), Cond.constantDouble RX1 46 (4636737291354636288), Cond.methodLink RX1 40 yJ9_floorMod_7cf53, Cond.static yJ9_floorMod_7cf53, Cond.initialized RJ9, Cond.code yJ9_floorMod_7cf53 cJ9_floorMod_7cf53 3 (some .int), Cond.instanceMethod yX0_hear, Cond.selects RX0 yX0_hear yX0_hear, Cond.code yX0_hear cX0_hear 4 none]
def wsL_law0_r8 : List Cond := [Cond.methodLink RX0 62 yX0_outputAt, Cond.instanceMethod yX0_outputAt, Cond.selects RX0 yX0_outputAt yX0_outputAt, Cond.code yX0_outputAt cX0_outputAt 5 (some .double), Cond.methodLink RX0 66 yJ9_floorMod_7cf53, Cond.methodLink RX0 72 yX0_holdsAt, Cond.instanceMethod yX0_holdsAt, Cond.selects RX0 yX0_holdsAt yX0_holdsAt, Cond.code yX0_holdsAt cX0_holdsAt 4 (some .boolean), Cond.fieldLink RX0 87 "EchoBench$Filter" "tail" "I", Cond.methodLink RX0 84 yX0_isLoud, Cond.instanceMethod yX0_isLoud, Cond.selects RX0 yX0_isLoud yX0_isLoud, Cond.code yX0_isLoud cX0_isLoud 9 (some .boolean), Cond.fieldLink RX0 90 "EchoBench$Filter" "watchHundredths" "I", Cond.constantDouble RX0 97 (4636737291354636288), Cond.static yX3_eitherWay, Cond.code yX3_eitherWay cX3_eitherWay 2 (some .double), Cond.methodLink RX0 76 yX0_learnBySquare, Cond.instanceMethod yX0_learnBySquare, Cond.selects RX0 yX0_learnBySquare yX0_learnBySquare, Cond.code yX0_learnBySquare cX0_learnBySquare 7 none, Cond.constantDouble RX0 110 (4652007308841189376), Cond.instanceMethod yX2_prepare]
def wsL_law0_r9 : List Cond := [Cond.selects RX2 yX2_prepare yX2_prepare, Cond.code yX2_prepare cX2_prepare 7 (some .boolean), Cond.constantDouble RX2 37 (4517329193108106637), Cond.methodLink RX2 33 yX2_rowTimes, Cond.instanceMethod yX2_rowTimes, Cond.selects RX2 yX2_rowTimes yX2_rowTimes, Cond.code yX2_rowTimes cX2_rowTimes 6 (some .double), Cond.instanceMethod yX2_share, Cond.selects RX2 yX2_share yX2_share, Cond.code yX2_share cX2_share 2 (some .double), Cond.methodLink RX0 106 yX0_add, Cond.instanceMethod yX0_add, Cond.selects RX0 yX0_add yX0_add, Cond.code yX0_add cX0_add 4 none, Cond.constantDouble RX0 123 (4741671816366391296), Cond.static yX3_heldTo, Cond.code yX3_heldTo cX3_heldTo 4 (some .double), Cond.instanceMethod yX2_renew, Cond.selects RX2 yX2_renew yX2_renew, Cond.code yX2_renew cX2_renew 6 (some .boolean), Cond.constantDouble RX2 39 (4696837146684686336), Cond.methodLink RX0 80 yX0_learn, Cond.instanceMethod yX0_learn, Cond.selects RX0 yX0_learn yX0_learn]
def wsL_law0_r10 : List Cond := [Cond.code yX0_learn cX0_learn 5 none, Cond.methodLink RX0 99 yX0_normOf, Cond.instanceMethod yX0_normOf, Cond.selects RX0 yX0_normOf yX0_normOf, Cond.code yX0_normOf cX0_normOf 5 (some .double), Cond.methodLink RX0 102 yX0_lesson, Cond.instanceMethod yX0_lesson, Cond.selects RX0 yX0_lesson yX0_lesson, Cond.code yX0_lesson cX0_lesson 7 (some .double), Cond.methodLink RL 85 yL_script, Cond.static yL_script, Cond.codeWith yL_script cL_script 4 (some .long) [(0, 7, 8, 18), (0, 7, 13, 24)], Cond.methodLink RL 40 yX3_script, Cond.instanceMethod yX3_script, Cond.selects RX3 yX3_script yX3_script, Cond.code yX3_script cX3_script 5 (some .int), Cond.methodLink RL 87 yL_weight, Cond.static yL_weight, Cond.codeWith yL_weight cL_weight 4 (some .long) [(0, 11, 12, 14)], Cond.constantDouble RL 43 (4696837146684686336), Cond.methodLink RL 45 yX3_weight, Cond.instanceMethod yX3_weight, Cond.selects RX3 yX3_weight yX3_weight, Cond.code yX3_weight cX3_weight 4 (some .double)]
def wsL_law0_r11 : List Cond := [Cond.methodLink RL 89 yL_of, Cond.static yL_of, Cond.codeWith yL_of cL_of 4 (some .long) [(0, 11, 12, 14), (0, 11, 17, 18)], Cond.methodLink RL 49 yX3_of, Cond.instanceMethod yX3_of, Cond.selects RX3 yX3_of yX3_of, Cond.code yX3_of cX3_of 4 (some .double), Cond.instanceMethod yX1_offness, Cond.selects RX1 yX1_offness yX1_offness, Cond.code yX1_offness cX1_offness 7 (some .double), Cond.instanceMethod yX0_power, Cond.selects RX0 yX0_power yX0_power, Cond.code yX0_power cX0_power 7 (some .double), Cond.methodLink RX0 128 Lib.Math.max.name, Cond.static Lib.Math.max.name, Cond.initialized "java/lang/Math", Cond.code Lib.Math.max.name Lib.Math.max.code 2 (some .int), Cond.methodLink RL 91 yL_batch, Cond.static yL_batch, Cond.codeWith yL_batch cL_batch 3 (some .long) [(0, 10, 11, 14)], Cond.methodLink RL 55 yX3_batch, Cond.instanceMethod yX3_batch, Cond.selects RX3 yX3_batch yX3_batch, Cond.code yX3_batch cX3_batch 2 (some .double)]
def wsL_law0_r12 : List Cond := [Cond.instanceMethod yX1_batchWeight, Cond.selects RX1 yX1_batchWeight yX1_batchWeight, Cond.code yX1_batchWeight cX1_batchWeight 14 (some .double), Cond.constantDouble RX1 56 (4602678819172646912), Cond.methodLink RX1 48 yX1_sumOfProducts, Cond.instanceMethod yX1_sumOfProducts, Cond.selects RX1 yX1_sumOfProducts yX1_sumOfProducts, Cond.code yX1_sumOfProducts cX1_sumOfProducts 7 (some .double), Cond.methodLink RX1 58 Lib.Math.max.name, Cond.methodLink RL 93 yL_square, Cond.static yL_square, Cond.codeWith yL_square cL_square 5 (some .long) [(0, 12, 13, 14), (0, 12, 19, 24)], Cond.methodLink RL 59 yX3_square, Cond.instanceMethod yX3_square, Cond.selects RX3 yX3_square yX3_square, Cond.code yX3_square cX3_square 6 (some .double), Cond.instanceMethod yX2_number, Cond.selects RX2 yX2_number yX2_number, Cond.code yX2_number cX2_number 3 (some .double), Cond.methodLink RL 95 yX3_best, Cond.instanceMethod yX3_best, Cond.selects RX3 yX3_best yX3_best, Cond.code yX3_best cX3_best 8 (some .int), Cond.methodLink RL 115 yL_areAlike]
def wsL_law0_r13 : List Cond := [Cond.static yL_areAlike, Cond.code yL_areAlike cL_areAlike 5 (some .boolean), Cond.methodLink RL 99 yX3_microphone, Cond.instanceMethod yX3_microphone, Cond.selects RX3 yX3_microphone yX3_microphone, Cond.code yX3_microphone cX3_microphone 1 (some .double), Cond.methodLink RL 119 yL_isSo, Cond.static yL_isSo, Cond.code yL_isSo cL_isSo 8 (some .boolean), Cond.constantDouble RL 103 (4741671816366391296), Cond.constantDouble RL 105 (13965043853221167104)]
def wsL_law0 : List Cond := (wsL_law0_r1 ++ (wsL_law0_r2 ++ (wsL_law0_r3 ++ (wsL_law0_r4 ++ (wsL_law0_r5 ++ (wsL_law0_r6 ++ (wsL_law0_r7 ++ (wsL_law0_r8 ++ (wsL_law0_r9 ++ (wsL_law0_r10 ++ (wsL_law0_r11 ++ (wsL_law0_r12 ++ wsL_law0_r13)))))))))))) ++ wsX30 ++ wsX10 ++ wsX00 ++ wsX20 ++ ([] : List Cond)
def wsL_law : List Cond := wsL_law0 ++ (vx_atS RX3 34 "java/lang/IndexOutOfBoundsException" ["java/lang/RuntimeException", "java/lang/Exception"]).filter goodWord ++ (vx_atS RX3 41 "java/lang/IllegalArgumentException" ["java/lang/RuntimeException", "java/lang/Exception"]).filter goodWord ++ (vx_atS RX3 60 "java/lang/IllegalStateException" ["java/lang/RuntimeException", "java/lang/Exception"]).filter goodWord
abbrev vwCl : List vw_C := [(RX0, TX0, 13), (RX1, TX1, 7), (RX2, TX2, 4), (RX3, TX3, 3)]
end
section
set_option maxRecDepth 20000 in
theorem wsL_law_in0_r1 : ∀ w ∈ wsL_law0_r1, w ∈ lw_tbl := fun w h => (goodIn_p wsL_law0_r1 [43, 46, 51] (by decide +kernel) (by decide +kernel) w h).1
set_option maxRecDepth 20000 in
theorem wsL_law_in0_r2 : ∀ w ∈ wsL_law0_r2, w ∈ lw_tbl := fun w h => (goodIn_p wsL_law0_r2 [94, 97, 100] rfl (by decide +kernel) w h).1
set_option maxRecDepth 20000 in
theorem wsL_law_in0_r3 : ∀ w ∈ wsL_law0_r3, w ∈ lw_tbl := fun w h => (goodIn_p wsL_law0_r3 [110, 113, 201, 210] (by decide +kernel) (by decide +kernel) w h).1
set_option maxRecDepth 20000 in
theorem wsL_law_in0_r4 : ∀ w ∈ wsL_law0_r4, w ∈ lw_tbl := fun w h => (goodIn_p wsL_law0_r4 [215, 236, 242] (by decide +kernel) (by decide +kernel) w h).1
set_option maxRecDepth 20000 in
theorem wsL_law_in0_r5 : ∀ w ∈ wsL_law0_r5, w ∈ lw_tbl := fun w h => (goodIn_p wsL_law0_r5 [318, 322, 330, 338] (by decide +kernel) (by decide +kernel) w h).1
set_option maxRecDepth 20000 in
theorem wsL_law_in0_r6 : ∀ w ∈ wsL_law0_r6, w ∈ lw_tbl := fun w h => (goodIn_p wsL_law0_r6 [342, 345, 349, 356] (by decide +kernel) (by decide +kernel) w h).1
set_option maxRecDepth 20000 in
theorem wsL_law_in0_r7 : ∀ w ∈ wsL_law0_r7, w ∈ lw_tbl := fun w h => (goodIn_p wsL_law0_r7 [364, 371, 375, 379, 383, 387] (by decide +kernel) (by decide +kernel) w h).1
set_option maxRecDepth 20000 in
theorem wsL_law_in0_r8 : ∀ w ∈ wsL_law0_r8, w ∈ lw_tbl := fun w h => (goodIn_p wsL_law0_r8 [391, 396, 400, 403, 408] (by decide +kernel) (by decide +kernel) w h).1
set_option maxRecDepth 20000 in
theorem wsL_law_in0_r9 : ∀ w ∈ wsL_law0_r9, w ∈ lw_tbl := fun w h => (goodIn_p wsL_law0_r9 [413, 417, 422, 427, 431, 435] (by decide +kernel) (by decide +kernel) w h).1
set_option maxRecDepth 20000 in
theorem wsL_law_in0_r10 : ∀ w ∈ wsL_law0_r10, w ∈ lw_tbl := fun w h => (goodIn_p wsL_law0_r10 [440, 444, 448, 455, 465] (by decide +kernel) (by decide +kernel) w h).1
set_option maxRecDepth 20000 in
theorem wsL_law_in0_r11 : ∀ w ∈ wsL_law0_r11, w ∈ lw_tbl := fun w h => (goodIn_p wsL_law0_r11 [473, 477, 481, 484, 491] (by decide +kernel) (by decide +kernel) w h).1
set_option maxRecDepth 20000 in
theorem wsL_law_in0_r12 : ∀ w ∈ wsL_law0_r12, w ∈ lw_tbl := fun w h => (goodIn_p wsL_law0_r12 [495, 499, 509, 516, 520] (by decide +kernel) (by decide +kernel) w h).1
set_option maxRecDepth 20000 in
theorem wsL_law_in0_r13 : ∀ w ∈ wsL_law0_r13, w ∈ lw_tbl := fun w h => (goodIn_p wsL_law0_r13 [523, 527, 530] (by decide +kernel) (by decide +kernel) w h).1
set_option maxRecDepth 20000 in
theorem wsL_law_inX3 : ∀ w ∈ wsX30, w ∈ lw_tbl := by decide +kernel
set_option maxRecDepth 20000 in
theorem wsL_law_inX1 : ∀ w ∈ wsX10, w ∈ lw_tbl := by decide +kernel
set_option maxRecDepth 20000 in
theorem wsL_law_inX0 : ∀ w ∈ wsX00, w ∈ lw_tbl := by decide +kernel
set_option maxRecDepth 20000 in
theorem wsL_law_inX2 : ∀ w ∈ wsX20, w ∈ lw_tbl := by decide +kernel
theorem lw_ap {a b : List Cond} (ha : ∀ w ∈ a, w ∈ lw_tbl) (hb : ∀ w ∈ b, w ∈ lw_tbl) : ∀ w ∈ a ++ b, w ∈ lw_tbl := fun w h => (List.mem_append.mp h).elim (ha w) (hb w)
theorem wsL_law_in0 : ∀ w ∈ wsL_law0, w ∈ lw_tbl := by
  unfold wsL_law0
  exact lw_ap (lw_ap (lw_ap (lw_ap (lw_ap (lw_ap wsL_law_in0_r1 (lw_ap wsL_law_in0_r2 (lw_ap wsL_law_in0_r3 (lw_ap wsL_law_in0_r4 (lw_ap wsL_law_in0_r5 (lw_ap wsL_law_in0_r6 (lw_ap wsL_law_in0_r7 (lw_ap wsL_law_in0_r8 (lw_ap wsL_law_in0_r9 (lw_ap wsL_law_in0_r10 (lw_ap wsL_law_in0_r11 (lw_ap wsL_law_in0_r12 (wsL_law_in0_r13))))))))))))) wsL_law_inX3) wsL_law_inX1) wsL_law_inX0) wsL_law_inX2) (fun _ h => absurd h List.not_mem_nil)
theorem wsL_law_x0 : ∀ w ∈ (vx_atS RX3 34 "java/lang/IndexOutOfBoundsException" ["java/lang/RuntimeException", "java/lang/Exception"]).filter goodWord, w ∈ lw_tbl := by decide +kernel
theorem wsL_law_x1 : ∀ w ∈ (vx_atS RX3 41 "java/lang/IllegalArgumentException" ["java/lang/RuntimeException", "java/lang/Exception"]).filter goodWord, w ∈ lw_tbl := by decide +kernel
theorem wsL_law_x2 : ∀ w ∈ (vx_atS RX3 60 "java/lang/IllegalStateException" ["java/lang/RuntimeException", "java/lang/Exception"]).filter goodWord, w ∈ lw_tbl := by decide +kernel
theorem wsL_law_in : ∀ w ∈ wsL_law, w ∈ lw_tbl := fun w h => (List.mem_append.mp h).elim (fun h => (List.mem_append.mp h).elim (fun h => (List.mem_append.mp h).elim (fun h => wsL_law_in0 w h) (fun h => wsL_law_x0 w h)) (fun h => wsL_law_x1 w h)) (fun h => wsL_law_x2 w h)
theorem inlX0 : ∀ w ∈ wsX00, w ∈ wsL_law := fun _ h => List.mem_append_left _ (List.mem_append_left _ (List.mem_append_left _ (List.mem_append_left _ (List.mem_append_left _ (List.mem_append_right _ h)))))
theorem inX0 : ∀ w ∈ wsX00, w ∈ lw_tbl := fun w h => wsL_law_in w (inlX0 w h)
theorem inlX1 : ∀ w ∈ wsX10, w ∈ wsL_law := fun _ h => List.mem_append_left _ (List.mem_append_left _ (List.mem_append_left _ (List.mem_append_left _ (List.mem_append_left _ (List.mem_append_left _ (List.mem_append_right _ h))))))
theorem inX1 : ∀ w ∈ wsX10, w ∈ lw_tbl := fun w h => wsL_law_in w (inlX1 w h)
theorem inlX2 : ∀ w ∈ wsX20, w ∈ wsL_law := fun _ h => List.mem_append_left _ (List.mem_append_left _ (List.mem_append_left _ (List.mem_append_left _ (List.mem_append_right _ h))))
theorem inX2 : ∀ w ∈ wsX20, w ∈ lw_tbl := fun w h => wsL_law_in w (inlX2 w h)
theorem inlX3 : ∀ w ∈ wsX30, w ∈ wsL_law := fun _ h => List.mem_append_left _ (List.mem_append_left _ (List.mem_append_left _ (List.mem_append_left _ (List.mem_append_left _ (List.mem_append_left _ (List.mem_append_left _ (List.mem_append_right _ h)))))))
theorem inX3 : ∀ w ∈ wsX30, w ∈ lw_tbl := fun w h => wsL_law_in w (inlX3 w h)
theorem inX4 : ∀ w ∈ wsX40, w ∈ lw_tbl := by decide +kernel
end
section
theorem inJx145de : ∀ w ∈ wsJx145de0, w ∈ lw_tbl := by decide +kernel
theorem inJ9 : ∀ w ∈ wsJ90, w ∈ lw_tbl := by decide +kernel
theorem inJ0 : ∀ w ∈ wsJ00, w ∈ lw_tbl := by decide +kernel
theorem inJ7 : ∀ w ∈ wsJ70, w ∈ lw_tbl := by decide +kernel
set_option maxRecDepth 20000 in
theorem ggX0_init_X2_init : GoodIn wsX0_init wsX2_init := goodIn_r _ [14, 15, 2, 3, 16, 17, 5, 18, 19, 20, 21, 35, 36, 37, 38] (by decide +kernel) (by decide +kernel)
set_option maxRecDepth 20000 in
theorem gX0_init_X2_init_n24 : GoodIn wsX0_init (wsX2_init) := ggX0_init_X2_init
theorem dX0_init_0 : decode cX0_init 0 = .ok (.aload_n 0, 1) := by decide +kernel
theorem dX0_init_1 : decode cX0_init 1 = .ok (.invokespecial 3, 3) := by decide +kernel
theorem dX0_init_4 : decode cX0_init 4 = .ok (.aload_n 0, 1) := by decide +kernel
theorem dX0_init_5 : decode cX0_init 5 = .ok (.iload_n 1, 1) := by decide +kernel
theorem dX0_init_6 : decode cX0_init 6 = .ok (.putfield 9, 3) := by decide +kernel
theorem dX0_init_9 : decode cX0_init 9 = .ok (.aload_n 0, 1) := by decide +kernel
theorem dX0_init_10 : decode cX0_init 10 = .ok (.iload_n 2, 1) := by decide +kernel
theorem dX0_init_11 : decode cX0_init 11 = .ok (.newarray .double, 2) := by decide +kernel
theorem dX0_init_13 : decode cX0_init 13 = .ok (.putfield 15, 3) := by decide +kernel
theorem dX0_init_16 : decode cX0_init 16 = .ok (.aload_n 0, 1) := by decide +kernel
theorem dX0_init_17 : decode cX0_init 17 = .ok (.bipush 16, 2) := by decide +kernel
theorem dX0_init_19 : decode cX0_init 19 = .ok (.newarray .double, 2) := by decide +kernel
theorem dX0_init_21 : decode cX0_init 21 = .ok (.putfield 19, 3) := by decide +kernel
theorem dX0_init_24 : decode cX0_init 24 = .ok (.aload_n 0, 1) := by decide +kernel
theorem dX0_init_25 : decode cX0_init 25 = .ok (.iload_n 1, 1) := by decide +kernel
theorem dX0_init_26 : decode cX0_init 26 = .ok (.iconst 3, 1) := by decide +kernel
theorem dX0_init_27 : decode cX0_init 27 = .ok (.if_icmp .ne 14, 3) := by decide +kernel
theorem dX0_init_30 : decode cX0_init 30 = .ok (.new 22, 3) := by decide +kernel
theorem dX0_init_33 : decode cX0_init 33 = .ok (.dup, 1) := by decide +kernel
theorem dX0_init_34 : decode cX0_init 34 = .ok (.iload_n 2, 1) := by decide +kernel
theorem dX0_init_35 : decode cX0_init 35 = .ok (.invokespecial 24, 3) := by decide +kernel
theorem dX0_init_38 : decode cX0_init 38 = .ok (.goto 4, 3) := by decide +kernel
theorem dX0_init_41 : decode cX0_init 41 = .ok (.aconst_null, 1) := by decide +kernel
theorem dX0_init_42 : decode cX0_init 42 = .ok (.putfield 27, 3) := by decide +kernel
theorem dX0_init_45 : decode cX0_init 45 = .ok (.aload_n 0, 1) := by decide +kernel
theorem dX0_init_46 : decode cX0_init 46 = .ok (.iload_n 3, 1) := by decide +kernel
theorem dX0_init_47 : decode cX0_init 47 = .ok (.putfield 31, 3) := by decide +kernel
theorem dX0_init_50 : decode cX0_init 50 = .ok (.return_, 1) := by decide +kernel
set_option maxRecDepth 20000 in
theorem ggX0_restart_J7_fill_7f8df : GoodIn wsX0_restart wsJ7_fill_7f8df := goodIn_r _ [12] (by decide +kernel) (by decide +kernel)
set_option maxRecDepth 20000 in
theorem gX0_restart_J7_fill_7f8df : GoodIn wsX0_restart (va_wsS RX0 34 yJ7_fill_7f8df wsJ7_fill_7f8df) := goodIn_app (goodIn_of _ (by decide +kernel)) ggX0_restart_J7_fill_7f8df
set_option maxRecDepth 20000 in
theorem ggX0_restart_X2_restart : GoodIn wsX0_restart wsX2_restart := goodIn_r _ [16, 17, 18, 19, 33, 34, 35, 36] (by decide +kernel) (by decide +kernel)
set_option maxRecDepth 20000 in
theorem gX0_restart_X2_restart_n40 : GoodIn wsX0_restart (wsX2_restart) := ggX0_restart_X2_restart
theorem dX0_restart_0 : decode cX0_restart 0 = .ok (.aload_n 0, 1) := by decide +kernel
theorem dX0_restart_1 : decode cX0_restart 1 = .ok (.getfield 15, 3) := by decide +kernel
theorem dX0_restart_4 : decode cX0_restart 4 = .ok (.dconst 0, 1) := by decide +kernel
theorem dX0_restart_5 : decode cX0_restart 5 = .ok (.invokestatic 34, 3) := by decide +kernel
theorem dX0_restart_8 : decode cX0_restart 8 = .ok (.aload_n 0, 1) := by decide +kernel
theorem dX0_restart_9 : decode cX0_restart 9 = .ok (.getfield 27, 3) := by decide +kernel
theorem dX0_restart_12 : decode cX0_restart 12 = .ok (.ifnull 10, 3) := by decide +kernel
theorem dX0_restart_15 : decode cX0_restart 15 = .ok (.aload_n 0, 1) := by decide +kernel
theorem dX0_restart_16 : decode cX0_restart 16 = .ok (.getfield 27, 3) := by decide +kernel
theorem dX0_restart_19 : decode cX0_restart 19 = .ok (.invokevirtual 40, 3) := by decide +kernel
theorem dX0_restart_22 : decode cX0_restart 22 = .ok (.aload_n 0, 1) := by decide +kernel
theorem dX0_restart_23 : decode cX0_restart 23 = .ok (.iconst 0, 1) := by decide +kernel
theorem dX0_restart_24 : decode cX0_restart 24 = .ok (.putfield 43, 3) := by decide +kernel
theorem dX0_restart_27 : decode cX0_restart 27 = .ok (.aload_n 0, 1) := by decide +kernel
theorem dX0_restart_28 : decode cX0_restart 28 = .ok (.dconst 0, 1) := by decide +kernel
theorem dX0_restart_29 : decode cX0_restart 29 = .ok (.putfield 46, 3) := by decide +kernel
theorem dX0_restart_32 : decode cX0_restart 32 = .ok (.aload_n 0, 1) := by decide +kernel
theorem dX0_restart_33 : decode cX0_restart 33 = .ok (.dconst 0, 1) := by decide +kernel
theorem dX0_restart_34 : decode cX0_restart 34 = .ok (.putfield 50, 3) := by decide +kernel
theorem dX0_restart_37 : decode cX0_restart 37 = .ok (.aload_n 0, 1) := by decide +kernel
theorem dX0_restart_38 : decode cX0_restart 38 = .ok (.iconst 0, 1) := by decide +kernel
theorem dX0_restart_39 : decode cX0_restart 39 = .ok (.putfield 53, 3) := by decide +kernel
theorem dX0_restart_42 : decode cX0_restart 42 = .ok (.aload_n 0, 1) := by decide +kernel
theorem dX0_restart_43 : decode cX0_restart 43 = .ok (.iconst 0, 1) := by decide +kernel
theorem dX0_restart_44 : decode cX0_restart 44 = .ok (.putfield 56, 3) := by decide +kernel
theorem dX0_restart_47 : decode cX0_restart 47 = .ok (.aload_n 0, 1) := by decide +kernel
theorem dX0_restart_48 : decode cX0_restart 48 = .ok (.iconst 0, 1) := by decide +kernel
theorem dX0_restart_49 : decode cX0_restart 49 = .ok (.putfield 59, 3) := by decide +kernel
theorem dX0_restart_52 : decode cX0_restart 52 = .ok (.return_, 1) := by decide +kernel
set_option maxRecDepth 20000 in
theorem ggX0_hear_X0_outputAt : GoodIn wsX0_hear wsX0_outputAt := goodIn_r _ [11, 12, 85, 86, 87, 88, 89, 90, 91, 92, 93, 94, 95, 96, 97] (by decide +kernel) (by decide +kernel)
set_option maxRecDepth 20000 in
theorem gX0_hear_X0_outputAt : GoodIn wsX0_hear (wsV RX0 62 RX0 yX0_outputAt wsX0_outputAt) := goodIn_app (goodIn_of _ (by decide +kernel)) ggX0_hear_X0_outputAt
set_option maxRecDepth 20000 in
theorem ggX0_hear_J9_floorMod_7cf53 : GoodIn wsX0_hear wsJ9_floorMod_7cf53 := goodIn_r _ [16] (by decide +kernel) (by decide +kernel)
set_option maxRecDepth 20000 in
theorem gX0_hear_J9_floorMod_7cf53 : GoodIn wsX0_hear (va_wsS RX0 66 yJ9_floorMod_7cf53 wsJ9_floorMod_7cf53) := goodIn_app (goodIn_of _ (by decide +kernel)) ggX0_hear_J9_floorMod_7cf53
set_option maxRecDepth 20000 in
theorem ggX0_hear_X0_holdsAt : GoodIn wsX0_hear wsX0_holdsAt := goodIn_r _ [20, 21, 22, 23, 24, 25, 10, 26, 27, 12, 28, 29, 30, 31, 85, 86, 87, 88, 89, 90, 91, 92, 93, 94, 95, 96, 97] (by decide +kernel) (by decide +kernel)
set_option maxRecDepth 20000 in
theorem gX0_hear_X0_holdsAt : GoodIn wsX0_hear (wsV RX0 72 RX0 yX0_holdsAt wsX0_holdsAt) := goodIn_app (goodIn_of _ (by decide +kernel)) ggX0_hear_X0_holdsAt
set_option maxRecDepth 20000 in
theorem ggX0_hear_X0_learnBySquare : GoodIn wsX0_hear wsX0_learnBySquare := goodIn_r _ [35, 36, 37, 12, 2, 38, 39, 40, 41, 42, 43, 44, 45, 46, 47, 48, 49, 50, 51, 52, 53, 54, 55, 30, 56, 57, 58, 59, 10, 60, 61, 62, 63, 64, 65, 66, 67, 68, 69, 70, 71, 85, 86, 87, 88, 89, 90, 91, 92, 93, 94, 95, 96, 97, 98, 99, 100, 101] (by decide +kernel) (by decide +kernel)
set_option maxRecDepth 20000 in
theorem gX0_hear_X0_learnBySquare : GoodIn wsX0_hear (wsV RX0 76 RX0 yX0_learnBySquare wsX0_learnBySquare) := goodIn_app (goodIn_of _ (by decide +kernel)) ggX0_hear_X0_learnBySquare
set_option maxRecDepth 20000 in
theorem ggX0_hear_X0_learn : GoodIn wsX0_hear wsX0_learn := goodIn_r _ [75, 76, 12, 77, 78, 79, 10, 80, 81, 82, 83, 84, 36, 37, 2, 57, 58, 59, 60, 61, 62, 30, 63, 85, 86, 87, 88, 89, 90, 91, 92, 93, 94, 95, 96, 97] (by decide +kernel) (by decide +kernel)
set_option maxRecDepth 20000 in
theorem gX0_hear_X0_learn : GoodIn wsX0_hear (wsV RX0 80 RX0 yX0_learn wsX0_learn) := goodIn_app (goodIn_of _ (by decide +kernel)) ggX0_hear_X0_learn
theorem dX0_hear_0 : decode cX0_hear 0 = .ok (.aload_n 0, 1) := by decide +kernel
theorem dX0_hear_1 : decode cX0_hear 1 = .ok (.aload_n 0, 1) := by decide +kernel
theorem dX0_hear_2 : decode cX0_hear 2 = .ok (.aload_n 1, 1) := by decide +kernel
theorem dX0_hear_3 : decode cX0_hear 3 = .ok (.invokevirtual 62, 3) := by decide +kernel
theorem dX0_hear_6 : decode cX0_hear 6 = .ok (.putfield 46, 3) := by decide +kernel
theorem dX0_hear_9 : decode cX0_hear 9 = .ok (.aload_n 0, 1) := by decide +kernel
theorem dX0_hear_10 : decode cX0_hear 10 = .ok (.dload_n 2, 1) := by decide +kernel
theorem dX0_hear_11 : decode cX0_hear 11 = .ok (.aload_n 0, 1) := by decide +kernel
theorem dX0_hear_12 : decode cX0_hear 12 = .ok (.getfield 46, 3) := by decide +kernel
theorem dX0_hear_15 : decode cX0_hear 15 = .ok (.dsub, 1) := by decide +kernel
theorem dX0_hear_16 : decode cX0_hear 16 = .ok (.putfield 50, 3) := by decide +kernel
theorem dX0_hear_19 : decode cX0_hear 19 = .ok (.aload_n 0, 1) := by decide +kernel
theorem dX0_hear_20 : decode cX0_hear 20 = .ok (.getfield 19, 3) := by decide +kernel
theorem dX0_hear_23 : decode cX0_hear 23 = .ok (.aload_n 0, 1) := by decide +kernel
theorem dX0_hear_24 : decode cX0_hear 24 = .ok (.getfield 53, 3) := by decide +kernel
theorem dX0_hear_27 : decode cX0_hear 27 = .ok (.bipush 16, 2) := by decide +kernel
theorem dX0_hear_29 : decode cX0_hear 29 = .ok (.invokestatic 66, 3) := by decide +kernel
theorem dX0_hear_32 : decode cX0_hear 32 = .ok (.aload_n 0, 1) := by decide +kernel
theorem dX0_hear_33 : decode cX0_hear 33 = .ok (.getfield 50, 3) := by decide +kernel
theorem dX0_hear_36 : decode cX0_hear 36 = .ok (.dastore, 1) := by decide +kernel
theorem dX0_hear_37 : decode cX0_hear 37 = .ok (.aload_n 0, 1) := by decide +kernel
theorem dX0_hear_38 : decode cX0_hear 38 = .ok (.dup, 1) := by decide +kernel
theorem dX0_hear_39 : decode cX0_hear 39 = .ok (.getfield 53, 3) := by decide +kernel
theorem dX0_hear_42 : decode cX0_hear 42 = .ok (.iconst 1, 1) := by decide +kernel
theorem dX0_hear_43 : decode cX0_hear 43 = .ok (.iadd, 1) := by decide +kernel
theorem dX0_hear_44 : decode cX0_hear 44 = .ok (.putfield 53, 3) := by decide +kernel
theorem dX0_hear_47 : decode cX0_hear 47 = .ok (.aload_n 0, 1) := by decide +kernel
theorem dX0_hear_48 : decode cX0_hear 48 = .ok (.aload_n 1, 1) := by decide +kernel
theorem dX0_hear_49 : decode cX0_hear 49 = .ok (.dload_n 2, 1) := by decide +kernel
theorem dX0_hear_50 : decode cX0_hear 50 = .ok (.invokevirtual 72, 3) := by decide +kernel
theorem dX0_hear_53 : decode cX0_hear 53 = .ok (.ifCond .eq 16, 3) := by decide +kernel
theorem dX0_hear_56 : decode cX0_hear 56 = .ok (.aload_n 0, 1) := by decide +kernel
theorem dX0_hear_57 : decode cX0_hear 57 = .ok (.dup, 1) := by decide +kernel
theorem dX0_hear_58 : decode cX0_hear 58 = .ok (.getfield 56, 3) := by decide +kernel
theorem dX0_hear_61 : decode cX0_hear 61 = .ok (.iconst 1, 1) := by decide +kernel
theorem dX0_hear_62 : decode cX0_hear 62 = .ok (.iadd, 1) := by decide +kernel
theorem dX0_hear_63 : decode cX0_hear 63 = .ok (.putfield 56, 3) := by decide +kernel
theorem dX0_hear_66 : decode cX0_hear 66 = .ok (.goto 27, 3) := by decide +kernel
theorem dX0_hear_69 : decode cX0_hear 69 = .ok (.aload_n 0, 1) := by decide +kernel
theorem dX0_hear_70 : decode cX0_hear 70 = .ok (.getfield 27, 3) := by decide +kernel
theorem dX0_hear_73 : decode cX0_hear 73 = .ok (.ifnull 15, 3) := by decide +kernel
theorem dX0_hear_76 : decode cX0_hear 76 = .ok (.aload_n 0, 1) := by decide +kernel
theorem dX0_hear_77 : decode cX0_hear 77 = .ok (.aload_n 0, 1) := by decide +kernel
theorem dX0_hear_78 : decode cX0_hear 78 = .ok (.getfield 27, 3) := by decide +kernel
theorem dX0_hear_81 : decode cX0_hear 81 = .ok (.aload_n 1, 1) := by decide +kernel
theorem dX0_hear_82 : decode cX0_hear 82 = .ok (.invokevirtual 76, 3) := by decide +kernel
theorem dX0_hear_85 : decode cX0_hear 85 = .ok (.goto 8, 3) := by decide +kernel
theorem dX0_hear_88 : decode cX0_hear 88 = .ok (.aload_n 0, 1) := by decide +kernel
theorem dX0_hear_89 : decode cX0_hear 89 = .ok (.aload_n 1, 1) := by decide +kernel
theorem dX0_hear_90 : decode cX0_hear 90 = .ok (.invokevirtual 80, 3) := by decide +kernel
theorem dX0_hear_93 : decode cX0_hear 93 = .ok (.return_, 1) := by decide +kernel
theorem dX0_outputAt_0 : decode cX0_outputAt 0 = .ok (.dconst 0, 1) := by decide +kernel
theorem dX0_outputAt_1 : decode cX0_outputAt 1 = .ok (.dstore_n 2, 1) := by decide +kernel
theorem dX0_outputAt_2 : decode cX0_outputAt 2 = .ok (.iconst 0, 1) := by decide +kernel
theorem dX0_outputAt_3 : decode cX0_outputAt 3 = .ok (.istore 4, 2) := by decide +kernel
theorem dX0_outputAt_5 : decode cX0_outputAt 5 = .ok (.iload 4, 2) := by decide +kernel
theorem dX0_outputAt_7 : decode cX0_outputAt 7 = .ok (.aload_n 0, 1) := by decide +kernel
theorem dX0_outputAt_8 : decode cX0_outputAt 8 = .ok (.getfield 15, 3) := by decide +kernel
theorem dX0_outputAt_11 : decode cX0_outputAt 11 = .ok (.arraylength, 1) := by decide +kernel
theorem dX0_outputAt_12 : decode cX0_outputAt 12 = .ok (.if_icmp .ge 31, 3) := by decide +kernel
theorem dX0_outputAt_15 : decode cX0_outputAt 15 = .ok (.iload 4, 2) := by decide +kernel
theorem dX0_outputAt_17 : decode cX0_outputAt 17 = .ok (.aload_n 1, 1) := by decide +kernel
theorem dX0_outputAt_18 : decode cX0_outputAt 18 = .ok (.arraylength, 1) := by decide +kernel
theorem dX0_outputAt_19 : decode cX0_outputAt 19 = .ok (.if_icmp .ge 24, 3) := by decide +kernel
theorem dX0_outputAt_22 : decode cX0_outputAt 22 = .ok (.dload_n 2, 1) := by decide +kernel
theorem dX0_outputAt_23 : decode cX0_outputAt 23 = .ok (.aload_n 0, 1) := by decide +kernel
theorem dX0_outputAt_24 : decode cX0_outputAt 24 = .ok (.getfield 15, 3) := by decide +kernel
theorem dX0_outputAt_27 : decode cX0_outputAt 27 = .ok (.iload 4, 2) := by decide +kernel
theorem dX0_outputAt_29 : decode cX0_outputAt 29 = .ok (.daload, 1) := by decide +kernel
theorem dX0_outputAt_30 : decode cX0_outputAt 30 = .ok (.aload_n 1, 1) := by decide +kernel
theorem dX0_outputAt_31 : decode cX0_outputAt 31 = .ok (.iload 4, 2) := by decide +kernel
theorem dX0_outputAt_33 : decode cX0_outputAt 33 = .ok (.daload, 1) := by decide +kernel
theorem dX0_outputAt_34 : decode cX0_outputAt 34 = .ok (.dmul, 1) := by decide +kernel
theorem dX0_outputAt_35 : decode cX0_outputAt 35 = .ok (.dadd, 1) := by decide +kernel
theorem dX0_outputAt_36 : decode cX0_outputAt 36 = .ok (.dstore_n 2, 1) := by decide +kernel
theorem dX0_outputAt_37 : decode cX0_outputAt 37 = .ok (.iinc 4 1, 3) := by decide +kernel
theorem dX0_outputAt_40 : decode cX0_outputAt 40 = .ok (.goto (-35), 3) := by decide +kernel
theorem dX0_outputAt_43 : decode cX0_outputAt 43 = .ok (.dload_n 2, 1) := by decide +kernel
theorem dX0_outputAt_44 : decode cX0_outputAt 44 = .ok (.dreturn, 1) := by decide +kernel
set_option maxRecDepth 20000 in
theorem ggX0_holdsAt_X0_isLoud : GoodIn wsX0_holdsAt wsX0_isLoud := goodIn_r _ [7, 8, 9, 10, 11, 12, 13, 14, 15, 16, 17, 18, 19, 20, 21, 22, 23, 24, 25, 26] (by decide +kernel) (by decide +kernel)
set_option maxRecDepth 20000 in
theorem gX0_holdsAt_X0_isLoud : GoodIn wsX0_holdsAt (wsV RX0 84 RX0 yX0_isLoud wsX0_isLoud) := goodIn_app (goodIn_of _ (by decide +kernel)) ggX0_holdsAt_X0_isLoud
theorem dX0_holdsAt_0 : decode cX0_holdsAt 0 = .ok (.aload_n 0, 1) := by decide +kernel
theorem dX0_holdsAt_1 : decode cX0_holdsAt 1 = .ok (.aload_n 1, 1) := by decide +kernel
theorem dX0_holdsAt_2 : decode cX0_holdsAt 2 = .ok (.dload_n 2, 1) := by decide +kernel
theorem dX0_holdsAt_3 : decode cX0_holdsAt 3 = .ok (.invokevirtual 84, 3) := by decide +kernel
theorem dX0_holdsAt_6 : decode cX0_holdsAt 6 = .ok (.ifCond .eq 13, 3) := by decide +kernel
theorem dX0_holdsAt_9 : decode cX0_holdsAt 9 = .ok (.aload_n 0, 1) := by decide +kernel
theorem dX0_holdsAt_10 : decode cX0_holdsAt 10 = .ok (.aload_n 0, 1) := by decide +kernel
theorem dX0_holdsAt_11 : decode cX0_holdsAt 11 = .ok (.getfield 87, 3) := by decide +kernel
theorem dX0_holdsAt_14 : decode cX0_holdsAt 14 = .ok (.putfield 43, 3) := by decide +kernel
theorem dX0_holdsAt_17 : decode cX0_holdsAt 17 = .ok (.iconst 1, 1) := by decide +kernel
theorem dX0_holdsAt_18 : decode cX0_holdsAt 18 = .ok (.ireturn, 1) := by decide +kernel
theorem dX0_holdsAt_19 : decode cX0_holdsAt 19 = .ok (.aload_n 0, 1) := by decide +kernel
theorem dX0_holdsAt_20 : decode cX0_holdsAt 20 = .ok (.getfield 43, 3) := by decide +kernel
theorem dX0_holdsAt_23 : decode cX0_holdsAt 23 = .ok (.ifCond .le 15, 3) := by decide +kernel
theorem dX0_holdsAt_26 : decode cX0_holdsAt 26 = .ok (.aload_n 0, 1) := by decide +kernel
theorem dX0_holdsAt_27 : decode cX0_holdsAt 27 = .ok (.dup, 1) := by decide +kernel
theorem dX0_holdsAt_28 : decode cX0_holdsAt 28 = .ok (.getfield 43, 3) := by decide +kernel
theorem dX0_holdsAt_31 : decode cX0_holdsAt 31 = .ok (.iconst 1, 1) := by decide +kernel
theorem dX0_holdsAt_32 : decode cX0_holdsAt 32 = .ok (.isub, 1) := by decide +kernel
theorem dX0_holdsAt_33 : decode cX0_holdsAt 33 = .ok (.putfield 43, 3) := by decide +kernel
theorem dX0_holdsAt_36 : decode cX0_holdsAt 36 = .ok (.iconst 1, 1) := by decide +kernel
theorem dX0_holdsAt_37 : decode cX0_holdsAt 37 = .ok (.ireturn, 1) := by decide +kernel
theorem dX0_holdsAt_38 : decode cX0_holdsAt 38 = .ok (.iconst 0, 1) := by decide +kernel
theorem dX0_holdsAt_39 : decode cX0_holdsAt 39 = .ok (.ireturn, 1) := by decide +kernel
set_option maxRecDepth 20000 in
theorem ggX0_isLoud_X3_eitherWay : GoodIn wsX0_isLoud wsX3_eitherWay := goodIn_r _ [6] (by decide +kernel) (by decide +kernel)
set_option maxRecDepth 20000 in
theorem gX0_isLoud_X3_eitherWay_n93 : GoodIn wsX0_isLoud (wsX3_eitherWay) := ggX0_isLoud_X3_eitherWay
theorem dX0_isLoud_0 : decode cX0_isLoud 0 = .ok (.aload_n 0, 1) := by decide +kernel
theorem dX0_isLoud_1 : decode cX0_isLoud 1 = .ok (.getfield 90, 3) := by decide +kernel
theorem dX0_isLoud_4 : decode cX0_isLoud 4 = .ok (.ifCond .gt 5, 3) := by decide +kernel
theorem dX0_isLoud_7 : decode cX0_isLoud 7 = .ok (.iconst 0, 1) := by decide +kernel
theorem dX0_isLoud_8 : decode cX0_isLoud 8 = .ok (.ireturn, 1) := by decide +kernel
theorem dX0_isLoud_9 : decode cX0_isLoud 9 = .ok (.dconst 0, 1) := by decide +kernel
theorem dX0_isLoud_10 : decode cX0_isLoud 10 = .ok (.dstore 4, 2) := by decide +kernel
theorem dX0_isLoud_12 : decode cX0_isLoud 12 = .ok (.iconst 0, 1) := by decide +kernel
theorem dX0_isLoud_13 : decode cX0_isLoud 13 = .ok (.istore 6, 2) := by decide +kernel
theorem dX0_isLoud_15 : decode cX0_isLoud 15 = .ok (.iload 6, 2) := by decide +kernel
theorem dX0_isLoud_17 : decode cX0_isLoud 17 = .ok (.aload_n 0, 1) := by decide +kernel
theorem dX0_isLoud_18 : decode cX0_isLoud 18 = .ok (.getfield 15, 3) := by decide +kernel
theorem dX0_isLoud_21 : decode cX0_isLoud 21 = .ok (.arraylength, 1) := by decide +kernel
theorem dX0_isLoud_22 : decode cX0_isLoud 22 = .ok (.if_icmp .ge 42, 3) := by decide +kernel
theorem dX0_isLoud_25 : decode cX0_isLoud 25 = .ok (.iload 6, 2) := by decide +kernel
theorem dX0_isLoud_27 : decode cX0_isLoud 27 = .ok (.aload_n 1, 1) := by decide +kernel
theorem dX0_isLoud_28 : decode cX0_isLoud 28 = .ok (.arraylength, 1) := by decide +kernel
theorem dX0_isLoud_29 : decode cX0_isLoud 29 = .ok (.if_icmp .ge 35, 3) := by decide +kernel
theorem dX0_isLoud_32 : decode cX0_isLoud 32 = .ok (.aload_n 1, 1) := by decide +kernel
theorem dX0_isLoud_33 : decode cX0_isLoud 33 = .ok (.iload 6, 2) := by decide +kernel
theorem dX0_isLoud_35 : decode cX0_isLoud 35 = .ok (.daload, 1) := by decide +kernel
theorem dX0_isLoud_36 : decode cX0_isLoud 36 = .ok (.invokestatic 93, 3) := by decide +kernel
theorem dX0_isLoud_39 : decode cX0_isLoud 39 = .ok (.dstore 7, 2) := by decide +kernel
theorem dX0_isLoud_41 : decode cX0_isLoud 41 = .ok (.dload 7, 2) := by decide +kernel
theorem dX0_isLoud_43 : decode cX0_isLoud 43 = .ok (.dload 4, 2) := by decide +kernel
theorem dX0_isLoud_45 : decode cX0_isLoud 45 = .ok (.dcmp .l, 1) := by decide +kernel
theorem dX0_isLoud_46 : decode cX0_isLoud 46 = .ok (.ifCond .le 8, 3) := by decide +kernel
theorem dX0_isLoud_49 : decode cX0_isLoud 49 = .ok (.dload 7, 2) := by decide +kernel
theorem dX0_isLoud_51 : decode cX0_isLoud 51 = .ok (.goto 5, 3) := by decide +kernel
theorem dX0_isLoud_54 : decode cX0_isLoud 54 = .ok (.dload 4, 2) := by decide +kernel
theorem dX0_isLoud_56 : decode cX0_isLoud 56 = .ok (.dstore 4, 2) := by decide +kernel
theorem dX0_isLoud_58 : decode cX0_isLoud 58 = .ok (.iinc 6 1, 3) := by decide +kernel
theorem dX0_isLoud_61 : decode cX0_isLoud 61 = .ok (.goto (-46), 3) := by decide +kernel
theorem dX0_isLoud_64 : decode cX0_isLoud 64 = .ok (.dload_n 2, 1) := by decide +kernel
theorem dX0_isLoud_65 : decode cX0_isLoud 65 = .ok (.invokestatic 93, 3) := by decide +kernel
theorem dX0_isLoud_68 : decode cX0_isLoud 68 = .ok (.aload_n 0, 1) := by decide +kernel
theorem dX0_isLoud_69 : decode cX0_isLoud 69 = .ok (.getfield 90, 3) := by decide +kernel
theorem dX0_isLoud_72 : decode cX0_isLoud 72 = .ok (.i2d, 1) := by decide +kernel
theorem dX0_isLoud_73 : decode cX0_isLoud 73 = .ok (.ldc2_w 97, 3) := by decide +kernel
theorem dX0_isLoud_76 : decode cX0_isLoud 76 = .ok (.ddiv, 1) := by decide +kernel
theorem dX0_isLoud_77 : decode cX0_isLoud 77 = .ok (.dload 4, 2) := by decide +kernel
theorem dX0_isLoud_79 : decode cX0_isLoud 79 = .ok (.dmul, 1) := by decide +kernel
theorem dX0_isLoud_80 : decode cX0_isLoud 80 = .ok (.dcmp .l, 1) := by decide +kernel
theorem dX0_isLoud_81 : decode cX0_isLoud 81 = .ok (.ifCond .le 7, 3) := by decide +kernel
theorem dX0_isLoud_84 : decode cX0_isLoud 84 = .ok (.iconst 1, 1) := by decide +kernel
theorem dX0_isLoud_85 : decode cX0_isLoud 85 = .ok (.goto 4, 3) := by decide +kernel
theorem dX0_isLoud_88 : decode cX0_isLoud 88 = .ok (.iconst 0, 1) := by decide +kernel
theorem dX0_isLoud_89 : decode cX0_isLoud 89 = .ok (.ireturn, 1) := by decide +kernel
set_option maxRecDepth 20000 in
theorem ggX0_learn_X0_normOf : GoodIn wsX0_learn wsX0_normOf := goodIn_r _ [7, 2, 23, 24, 25, 26, 27, 28, 29, 30, 31, 32, 33, 34, 35] (by decide +kernel) (by decide +kernel)
set_option maxRecDepth 20000 in
theorem gX0_learn_X0_normOf : GoodIn wsX0_learn (wsV RX0 99 RX0 yX0_normOf wsX0_normOf) := goodIn_app (goodIn_of _ (by decide +kernel)) ggX0_learn_X0_normOf
set_option maxRecDepth 20000 in
theorem ggX0_learn_X0_lesson : GoodIn wsX0_learn wsX0_lesson := goodIn_r _ [11, 12, 13, 1, 14, 23, 24, 25, 26, 27, 28, 29, 30, 31, 32, 33, 34, 35] (by decide +kernel) (by decide +kernel)
set_option maxRecDepth 20000 in
theorem gX0_learn_X0_lesson : GoodIn wsX0_learn (wsV RX0 102 RX0 yX0_lesson wsX0_lesson) := goodIn_app (goodIn_of _ (by decide +kernel)) ggX0_learn_X0_lesson
set_option maxRecDepth 20000 in
theorem ggX0_learn_X0_add : GoodIn wsX0_learn wsX0_add := goodIn_r _ [18, 2, 19, 20, 21, 22, 23, 24, 25, 26, 27, 28, 29, 30, 31, 32, 33, 34, 35] (by decide +kernel) (by decide +kernel)
set_option maxRecDepth 20000 in
theorem gX0_learn_X0_add : GoodIn wsX0_learn (wsV RX0 106 RX0 yX0_add wsX0_add) := goodIn_app (goodIn_of _ (by decide +kernel)) ggX0_learn_X0_add
theorem dX0_learn_0 : decode cX0_learn 0 = .ok (.aload_n 0, 1) := by decide +kernel
theorem dX0_learn_1 : decode cX0_learn 1 = .ok (.getfield 9, 3) := by decide +kernel
theorem dX0_learn_4 : decode cX0_learn 4 = .ok (.iconst 1, 1) := by decide +kernel
theorem dX0_learn_5 : decode cX0_learn 5 = .ok (.if_icmp .ne 11, 3) := by decide +kernel
theorem dX0_learn_8 : decode cX0_learn 8 = .ok (.aload_n 0, 1) := by decide +kernel
theorem dX0_learn_9 : decode cX0_learn 9 = .ok (.aload_n 1, 1) := by decide +kernel
theorem dX0_learn_10 : decode cX0_learn 10 = .ok (.invokevirtual 99, 3) := by decide +kernel
theorem dX0_learn_13 : decode cX0_learn 13 = .ok (.goto 4, 3) := by decide +kernel
theorem dX0_learn_16 : decode cX0_learn 16 = .ok (.dconst 1, 1) := by decide +kernel
theorem dX0_learn_17 : decode cX0_learn 17 = .ok (.dstore_n 2, 1) := by decide +kernel
theorem dX0_learn_18 : decode cX0_learn 18 = .ok (.iconst 0, 1) := by decide +kernel
theorem dX0_learn_19 : decode cX0_learn 19 = .ok (.istore 4, 2) := by decide +kernel
theorem dX0_learn_21 : decode cX0_learn 21 = .ok (.iload 4, 2) := by decide +kernel
theorem dX0_learn_23 : decode cX0_learn 23 = .ok (.aload_n 0, 1) := by decide +kernel
theorem dX0_learn_24 : decode cX0_learn 24 = .ok (.getfield 15, 3) := by decide +kernel
theorem dX0_learn_27 : decode cX0_learn 27 = .ok (.arraylength, 1) := by decide +kernel
theorem dX0_learn_28 : decode cX0_learn 28 = .ok (.if_icmp .ge 31, 3) := by decide +kernel
theorem dX0_learn_31 : decode cX0_learn 31 = .ok (.iload 4, 2) := by decide +kernel
theorem dX0_learn_33 : decode cX0_learn 33 = .ok (.aload_n 1, 1) := by decide +kernel
theorem dX0_learn_34 : decode cX0_learn 34 = .ok (.arraylength, 1) := by decide +kernel
theorem dX0_learn_35 : decode cX0_learn 35 = .ok (.if_icmp .ge 24, 3) := by decide +kernel
theorem dX0_learn_38 : decode cX0_learn 38 = .ok (.aload_n 0, 1) := by decide +kernel
theorem dX0_learn_39 : decode cX0_learn 39 = .ok (.iload 4, 2) := by decide +kernel
theorem dX0_learn_41 : decode cX0_learn 41 = .ok (.aload_n 0, 1) := by decide +kernel
theorem dX0_learn_42 : decode cX0_learn 42 = .ok (.aload_n 1, 1) := by decide +kernel
theorem dX0_learn_43 : decode cX0_learn 43 = .ok (.iload 4, 2) := by decide +kernel
theorem dX0_learn_45 : decode cX0_learn 45 = .ok (.daload, 1) := by decide +kernel
theorem dX0_learn_46 : decode cX0_learn 46 = .ok (.dload_n 2, 1) := by decide +kernel
theorem dX0_learn_47 : decode cX0_learn 47 = .ok (.invokevirtual 102, 3) := by decide +kernel
theorem dX0_learn_50 : decode cX0_learn 50 = .ok (.invokevirtual 106, 3) := by decide +kernel
theorem dX0_learn_53 : decode cX0_learn 53 = .ok (.iinc 4 1, 3) := by decide +kernel
theorem dX0_learn_56 : decode cX0_learn 56 = .ok (.goto (-35), 3) := by decide +kernel
theorem dX0_learn_59 : decode cX0_learn 59 = .ok (.return_, 1) := by decide +kernel
theorem dX0_lesson_0 : decode cX0_lesson 0 = .ok (.aload_n 0, 1) := by decide +kernel
theorem dX0_lesson_1 : decode cX0_lesson 1 = .ok (.getfield 31, 3) := by decide +kernel
theorem dX0_lesson_4 : decode cX0_lesson 4 = .ok (.i2d, 1) := by decide +kernel
theorem dX0_lesson_5 : decode cX0_lesson 5 = .ok (.ldc2_w 110, 3) := by decide +kernel
theorem dX0_lesson_8 : decode cX0_lesson 8 = .ok (.ddiv, 1) := by decide +kernel
theorem dX0_lesson_9 : decode cX0_lesson 9 = .ok (.dstore 5, 2) := by decide +kernel
theorem dX0_lesson_11 : decode cX0_lesson 11 = .ok (.aload_n 0, 1) := by decide +kernel
theorem dX0_lesson_12 : decode cX0_lesson 12 = .ok (.getfield 9, 3) := by decide +kernel
theorem dX0_lesson_15 : decode cX0_lesson 15 = .ok (.lookupswitch 57 #[(0, 25), (1, 35)], 25) := by decide +kernel
theorem dX0_lesson_40 : decode cX0_lesson 40 = .ok (.dload 5, 2) := by decide +kernel
theorem dX0_lesson_42 : decode cX0_lesson 42 = .ok (.aload_n 0, 1) := by decide +kernel
theorem dX0_lesson_43 : decode cX0_lesson 43 = .ok (.getfield 50, 3) := by decide +kernel
theorem dX0_lesson_46 : decode cX0_lesson 46 = .ok (.dmul, 1) := by decide +kernel
theorem dX0_lesson_47 : decode cX0_lesson 47 = .ok (.dload_n 1, 1) := by decide +kernel
theorem dX0_lesson_48 : decode cX0_lesson 48 = .ok (.dmul, 1) := by decide +kernel
theorem dX0_lesson_49 : decode cX0_lesson 49 = .ok (.dreturn, 1) := by decide +kernel
theorem dX0_lesson_50 : decode cX0_lesson 50 = .ok (.dload_n 3, 1) := by decide +kernel
theorem dX0_lesson_51 : decode cX0_lesson 51 = .ok (.dconst 1, 1) := by decide +kernel
theorem dX0_lesson_52 : decode cX0_lesson 52 = .ok (.dcmp .l, 1) := by decide +kernel
theorem dX0_lesson_53 : decode cX0_lesson 53 = .ok (.ifCond .lt 17, 3) := by decide +kernel
theorem dX0_lesson_56 : decode cX0_lesson 56 = .ok (.dload 5, 2) := by decide +kernel
theorem dX0_lesson_58 : decode cX0_lesson 58 = .ok (.aload_n 0, 1) := by decide +kernel
theorem dX0_lesson_59 : decode cX0_lesson 59 = .ok (.getfield 50, 3) := by decide +kernel
theorem dX0_lesson_62 : decode cX0_lesson 62 = .ok (.dmul, 1) := by decide +kernel
theorem dX0_lesson_63 : decode cX0_lesson 63 = .ok (.dload_n 1, 1) := by decide +kernel
theorem dX0_lesson_64 : decode cX0_lesson 64 = .ok (.dmul, 1) := by decide +kernel
theorem dX0_lesson_65 : decode cX0_lesson 65 = .ok (.dload_n 3, 1) := by decide +kernel
theorem dX0_lesson_66 : decode cX0_lesson 66 = .ok (.ddiv, 1) := by decide +kernel
theorem dX0_lesson_67 : decode cX0_lesson 67 = .ok (.goto 4, 3) := by decide +kernel
theorem dX0_lesson_70 : decode cX0_lesson 70 = .ok (.dconst 0, 1) := by decide +kernel
theorem dX0_lesson_71 : decode cX0_lesson 71 = .ok (.dreturn, 1) := by decide +kernel
theorem dX0_lesson_72 : decode cX0_lesson 72 = .ok (.aload_n 0, 1) := by decide +kernel
theorem dX0_lesson_73 : decode cX0_lesson 73 = .ok (.getfield 50, 3) := by decide +kernel
theorem dX0_lesson_76 : decode cX0_lesson 76 = .ok (.dconst 0, 1) := by decide +kernel
theorem dX0_lesson_77 : decode cX0_lesson 77 = .ok (.dcmp .l, 1) := by decide +kernel
theorem dX0_lesson_78 : decode cX0_lesson 78 = .ok (.ifCond .le 10, 3) := by decide +kernel
theorem dX0_lesson_81 : decode cX0_lesson 81 = .ok (.dload 5, 2) := by decide +kernel
theorem dX0_lesson_83 : decode cX0_lesson 83 = .ok (.dload_n 1, 1) := by decide +kernel
theorem dX0_lesson_84 : decode cX0_lesson 84 = .ok (.dmul, 1) := by decide +kernel
theorem dX0_lesson_85 : decode cX0_lesson 85 = .ok (.goto 21, 3) := by decide +kernel
theorem dX0_lesson_88 : decode cX0_lesson 88 = .ok (.aload_n 0, 1) := by decide +kernel
theorem dX0_lesson_89 : decode cX0_lesson 89 = .ok (.getfield 50, 3) := by decide +kernel
theorem dX0_lesson_92 : decode cX0_lesson 92 = .ok (.dconst 0, 1) := by decide +kernel
theorem dX0_lesson_93 : decode cX0_lesson 93 = .ok (.dcmp .g, 1) := by decide +kernel
theorem dX0_lesson_94 : decode cX0_lesson 94 = .ok (.ifCond .ge 11, 3) := by decide +kernel
theorem dX0_lesson_97 : decode cX0_lesson 97 = .ok (.dload 5, 2) := by decide +kernel
theorem dX0_lesson_99 : decode cX0_lesson 99 = .ok (.dload_n 1, 1) := by decide +kernel
theorem dX0_lesson_100 : decode cX0_lesson 100 = .ok (.dmul, 1) := by decide +kernel
theorem dX0_lesson_101 : decode cX0_lesson 101 = .ok (.dneg, 1) := by decide +kernel
theorem dX0_lesson_102 : decode cX0_lesson 102 = .ok (.goto 4, 3) := by decide +kernel
theorem dX0_lesson_105 : decode cX0_lesson 105 = .ok (.dconst 0, 1) := by decide +kernel
theorem dX0_lesson_106 : decode cX0_lesson 106 = .ok (.dreturn, 1) := by decide +kernel
theorem dX0_normOf_0 : decode cX0_normOf 0 = .ok (.dconst 1, 1) := by decide +kernel
theorem dX0_normOf_1 : decode cX0_normOf 1 = .ok (.dstore_n 2, 1) := by decide +kernel
theorem dX0_normOf_2 : decode cX0_normOf 2 = .ok (.iconst 0, 1) := by decide +kernel
theorem dX0_normOf_3 : decode cX0_normOf 3 = .ok (.istore 4, 2) := by decide +kernel
theorem dX0_normOf_5 : decode cX0_normOf 5 = .ok (.iload 4, 2) := by decide +kernel
theorem dX0_normOf_7 : decode cX0_normOf 7 = .ok (.aload_n 0, 1) := by decide +kernel
theorem dX0_normOf_8 : decode cX0_normOf 8 = .ok (.getfield 15, 3) := by decide +kernel
theorem dX0_normOf_11 : decode cX0_normOf 11 = .ok (.arraylength, 1) := by decide +kernel
theorem dX0_normOf_12 : decode cX0_normOf 12 = .ok (.if_icmp .ge 28, 3) := by decide +kernel
theorem dX0_normOf_15 : decode cX0_normOf 15 = .ok (.iload 4, 2) := by decide +kernel
theorem dX0_normOf_17 : decode cX0_normOf 17 = .ok (.aload_n 1, 1) := by decide +kernel
theorem dX0_normOf_18 : decode cX0_normOf 18 = .ok (.arraylength, 1) := by decide +kernel
theorem dX0_normOf_19 : decode cX0_normOf 19 = .ok (.if_icmp .ge 21, 3) := by decide +kernel
theorem dX0_normOf_22 : decode cX0_normOf 22 = .ok (.dload_n 2, 1) := by decide +kernel
theorem dX0_normOf_23 : decode cX0_normOf 23 = .ok (.aload_n 1, 1) := by decide +kernel
theorem dX0_normOf_24 : decode cX0_normOf 24 = .ok (.iload 4, 2) := by decide +kernel
theorem dX0_normOf_26 : decode cX0_normOf 26 = .ok (.daload, 1) := by decide +kernel
theorem dX0_normOf_27 : decode cX0_normOf 27 = .ok (.aload_n 1, 1) := by decide +kernel
theorem dX0_normOf_28 : decode cX0_normOf 28 = .ok (.iload 4, 2) := by decide +kernel
theorem dX0_normOf_30 : decode cX0_normOf 30 = .ok (.daload, 1) := by decide +kernel
theorem dX0_normOf_31 : decode cX0_normOf 31 = .ok (.dmul, 1) := by decide +kernel
theorem dX0_normOf_32 : decode cX0_normOf 32 = .ok (.dadd, 1) := by decide +kernel
theorem dX0_normOf_33 : decode cX0_normOf 33 = .ok (.dstore_n 2, 1) := by decide +kernel
theorem dX0_normOf_34 : decode cX0_normOf 34 = .ok (.iinc 4 1, 3) := by decide +kernel
theorem dX0_normOf_37 : decode cX0_normOf 37 = .ok (.goto (-32), 3) := by decide +kernel
theorem dX0_normOf_40 : decode cX0_normOf 40 = .ok (.dload_n 2, 1) := by decide +kernel
theorem dX0_normOf_41 : decode cX0_normOf 41 = .ok (.dreturn, 1) := by decide +kernel
set_option maxRecDepth 20000 in
theorem ggX0_learnBySquare_X2_prepare : GoodIn wsX0_learnBySquare wsX2_prepare := goodIn_r _ [9, 10, 11, 12, 13, 14, 15, 16, 7, 17, 18, 54, 55, 56, 57] (by decide +kernel) (by decide +kernel)
set_option maxRecDepth 20000 in
theorem gX0_learnBySquare_X2_prepare_n112 : GoodIn wsX0_learnBySquare (wsX2_prepare) := ggX0_learnBySquare_X2_prepare
set_option maxRecDepth 20000 in
theorem ggX0_learnBySquare_X2_share : GoodIn wsX0_learnBySquare wsX2_share := goodIn_r _ [21, 10, 13, 22, 23, 24, 54, 55, 56, 57] (by decide +kernel) (by decide +kernel)
set_option maxRecDepth 20000 in
theorem gX0_learnBySquare_X2_share_n115 : GoodIn wsX0_learnBySquare (wsX2_share) := ggX0_learnBySquare_X2_share
set_option maxRecDepth 20000 in
theorem ggX0_learnBySquare_X0_add : GoodIn wsX0_learnBySquare wsX0_add := goodIn_r _ [29, 3, 30, 31, 23, 32, 41, 42, 43, 44, 45, 46, 47, 48, 49, 50, 51, 52, 53] (by decide +kernel) (by decide +kernel)
set_option maxRecDepth 20000 in
theorem gX0_learnBySquare_X0_add : GoodIn wsX0_learnBySquare (wsV RX0 106 RX0 yX0_add wsX0_add) := goodIn_app (goodIn_of _ (by decide +kernel)) ggX0_learnBySquare_X0_add
set_option maxRecDepth 20000 in
theorem ggX0_learnBySquare_X2_renew : GoodIn wsX0_learnBySquare wsX2_renew := goodIn_r _ [35, 10, 18, 13, 11, 36, 54, 55, 56, 57] (by decide +kernel) (by decide +kernel)
set_option maxRecDepth 20000 in
theorem gX0_learnBySquare_X2_renew_n119 : GoodIn wsX0_learnBySquare (wsX2_renew) := ggX0_learnBySquare_X2_renew
set_option maxRecDepth 20000 in
theorem ggX0_learnBySquare_X2_restart : GoodIn wsX0_learnBySquare wsX2_restart := goodIn_r _ [39, 10, 18, 40, 54, 55, 56, 57] (by decide +kernel) (by decide +kernel)
set_option maxRecDepth 20000 in
theorem gX0_learnBySquare_X2_restart_n40 : GoodIn wsX0_learnBySquare (wsX2_restart) := ggX0_learnBySquare_X2_restart
theorem dX0_learnBySquare_0 : decode cX0_learnBySquare 0 = .ok (.aload_n 0, 1) := by decide +kernel
theorem dX0_learnBySquare_1 : decode cX0_learnBySquare 1 = .ok (.getfield 31, 3) := by decide +kernel
theorem dX0_learnBySquare_4 : decode cX0_learnBySquare 4 = .ok (.i2d, 1) := by decide +kernel
theorem dX0_learnBySquare_5 : decode cX0_learnBySquare 5 = .ok (.ldc2_w 110, 3) := by decide +kernel
theorem dX0_learnBySquare_8 : decode cX0_learnBySquare 8 = .ok (.ddiv, 1) := by decide +kernel
theorem dX0_learnBySquare_9 : decode cX0_learnBySquare 9 = .ok (.dstore_n 3, 1) := by decide +kernel
theorem dX0_learnBySquare_10 : decode cX0_learnBySquare 10 = .ok (.aload_n 1, 1) := by decide +kernel
theorem dX0_learnBySquare_11 : decode cX0_learnBySquare 11 = .ok (.aload_n 2, 1) := by decide +kernel
theorem dX0_learnBySquare_12 : decode cX0_learnBySquare 12 = .ok (.dload_n 3, 1) := by decide +kernel
theorem dX0_learnBySquare_13 : decode cX0_learnBySquare 13 = .ok (.invokevirtual 112, 3) := by decide +kernel
theorem dX0_learnBySquare_16 : decode cX0_learnBySquare 16 = .ok (.istore 5, 2) := by decide +kernel
theorem dX0_learnBySquare_18 : decode cX0_learnBySquare 18 = .ok (.iload 5, 2) := by decide +kernel
theorem dX0_learnBySquare_20 : decode cX0_learnBySquare 20 = .ok (.ifCond .eq 46, 3) := by decide +kernel
theorem dX0_learnBySquare_23 : decode cX0_learnBySquare 23 = .ok (.iconst 0, 1) := by decide +kernel
theorem dX0_learnBySquare_24 : decode cX0_learnBySquare 24 = .ok (.istore 6, 2) := by decide +kernel
theorem dX0_learnBySquare_26 : decode cX0_learnBySquare 26 = .ok (.iload 6, 2) := by decide +kernel
theorem dX0_learnBySquare_28 : decode cX0_learnBySquare 28 = .ok (.aload_n 0, 1) := by decide +kernel
theorem dX0_learnBySquare_29 : decode cX0_learnBySquare 29 = .ok (.getfield 15, 3) := by decide +kernel
theorem dX0_learnBySquare_32 : decode cX0_learnBySquare 32 = .ok (.arraylength, 1) := by decide +kernel
theorem dX0_learnBySquare_33 : decode cX0_learnBySquare 33 = .ok (.if_icmp .ge 26, 3) := by decide +kernel
theorem dX0_learnBySquare_36 : decode cX0_learnBySquare 36 = .ok (.aload_n 0, 1) := by decide +kernel
theorem dX0_learnBySquare_37 : decode cX0_learnBySquare 37 = .ok (.iload 6, 2) := by decide +kernel
theorem dX0_learnBySquare_39 : decode cX0_learnBySquare 39 = .ok (.aload_n 1, 1) := by decide +kernel
theorem dX0_learnBySquare_40 : decode cX0_learnBySquare 40 = .ok (.iload 6, 2) := by decide +kernel
theorem dX0_learnBySquare_42 : decode cX0_learnBySquare 42 = .ok (.invokevirtual 115, 3) := by decide +kernel
theorem dX0_learnBySquare_45 : decode cX0_learnBySquare 45 = .ok (.aload_n 0, 1) := by decide +kernel
theorem dX0_learnBySquare_46 : decode cX0_learnBySquare 46 = .ok (.getfield 50, 3) := by decide +kernel
theorem dX0_learnBySquare_49 : decode cX0_learnBySquare 49 = .ok (.dmul, 1) := by decide +kernel
theorem dX0_learnBySquare_50 : decode cX0_learnBySquare 50 = .ok (.invokevirtual 106, 3) := by decide +kernel
theorem dX0_learnBySquare_53 : decode cX0_learnBySquare 53 = .ok (.iinc 6 1, 3) := by decide +kernel
theorem dX0_learnBySquare_56 : decode cX0_learnBySquare 56 = .ok (.goto (-30), 3) := by decide +kernel
theorem dX0_learnBySquare_59 : decode cX0_learnBySquare 59 = .ok (.aload_n 1, 1) := by decide +kernel
theorem dX0_learnBySquare_60 : decode cX0_learnBySquare 60 = .ok (.dload_n 3, 1) := by decide +kernel
theorem dX0_learnBySquare_61 : decode cX0_learnBySquare 61 = .ok (.invokevirtual 119, 3) := by decide +kernel
theorem dX0_learnBySquare_64 : decode cX0_learnBySquare 64 = .ok (.istore 5, 2) := by decide +kernel
theorem dX0_learnBySquare_66 : decode cX0_learnBySquare 66 = .ok (.iload 5, 2) := by decide +kernel
theorem dX0_learnBySquare_68 : decode cX0_learnBySquare 68 = .ok (.ifCond .ne 17, 3) := by decide +kernel
theorem dX0_learnBySquare_71 : decode cX0_learnBySquare 71 = .ok (.aload_n 1, 1) := by decide +kernel
theorem dX0_learnBySquare_72 : decode cX0_learnBySquare 72 = .ok (.invokevirtual 40, 3) := by decide +kernel
theorem dX0_learnBySquare_75 : decode cX0_learnBySquare 75 = .ok (.aload_n 0, 1) := by decide +kernel
theorem dX0_learnBySquare_76 : decode cX0_learnBySquare 76 = .ok (.dup, 1) := by decide +kernel
theorem dX0_learnBySquare_77 : decode cX0_learnBySquare 77 = .ok (.getfield 59, 3) := by decide +kernel
theorem dX0_learnBySquare_80 : decode cX0_learnBySquare 80 = .ok (.iconst 1, 1) := by decide +kernel
theorem dX0_learnBySquare_81 : decode cX0_learnBySquare 81 = .ok (.iadd, 1) := by decide +kernel
theorem dX0_learnBySquare_82 : decode cX0_learnBySquare 82 = .ok (.putfield 59, 3) := by decide +kernel
theorem dX0_learnBySquare_85 : decode cX0_learnBySquare 85 = .ok (.return_, 1) := by decide +kernel
set_option maxRecDepth 20000 in
theorem ggX0_add_X3_heldTo : GoodIn wsX0_add wsX3_heldTo := goodIn_r _ [5] (by decide +kernel) (by decide +kernel)
set_option maxRecDepth 20000 in
theorem gX0_add_X3_heldTo_n125 : GoodIn wsX0_add (wsX3_heldTo) := ggX0_add_X3_heldTo
theorem dX0_add_0 : decode cX0_add 0 = .ok (.iload_n 1, 1) := by decide +kernel
theorem dX0_add_1 : decode cX0_add 1 = .ok (.ifCond .lt 32, 3) := by decide +kernel
theorem dX0_add_4 : decode cX0_add 4 = .ok (.iload_n 1, 1) := by decide +kernel
theorem dX0_add_5 : decode cX0_add 5 = .ok (.aload_n 0, 1) := by decide +kernel
theorem dX0_add_6 : decode cX0_add 6 = .ok (.getfield 15, 3) := by decide +kernel
theorem dX0_add_9 : decode cX0_add 9 = .ok (.arraylength, 1) := by decide +kernel
theorem dX0_add_10 : decode cX0_add 10 = .ok (.if_icmp .ge 23, 3) := by decide +kernel
theorem dX0_add_13 : decode cX0_add 13 = .ok (.aload_n 0, 1) := by decide +kernel
theorem dX0_add_14 : decode cX0_add 14 = .ok (.getfield 15, 3) := by decide +kernel
theorem dX0_add_17 : decode cX0_add 17 = .ok (.iload_n 1, 1) := by decide +kernel
theorem dX0_add_18 : decode cX0_add 18 = .ok (.aload_n 0, 1) := by decide +kernel
theorem dX0_add_19 : decode cX0_add 19 = .ok (.getfield 15, 3) := by decide +kernel
theorem dX0_add_22 : decode cX0_add 22 = .ok (.iload_n 1, 1) := by decide +kernel
theorem dX0_add_23 : decode cX0_add 23 = .ok (.daload, 1) := by decide +kernel
theorem dX0_add_24 : decode cX0_add 24 = .ok (.dload_n 2, 1) := by decide +kernel
theorem dX0_add_25 : decode cX0_add 25 = .ok (.dadd, 1) := by decide +kernel
theorem dX0_add_26 : decode cX0_add 26 = .ok (.ldc2_w 123, 3) := by decide +kernel
theorem dX0_add_29 : decode cX0_add 29 = .ok (.invokestatic 125, 3) := by decide +kernel
theorem dX0_add_32 : decode cX0_add 32 = .ok (.dastore, 1) := by decide +kernel
theorem dX0_add_33 : decode cX0_add 33 = .ok (.return_, 1) := by decide +kernel
set_option maxRecDepth 20000 in
theorem ggX0_power_J9_floorMod_7cf53 : GoodIn wsX0_power wsJ9_floorMod_7cf53 := goodIn_r _ [10] (by decide +kernel) (by decide +kernel)
set_option maxRecDepth 20000 in
theorem gX0_power_J9_floorMod_7cf53 : GoodIn wsX0_power (va_wsS RX0 66 yJ9_floorMod_7cf53 wsJ9_floorMod_7cf53) := goodIn_app (goodIn_of _ (by decide +kernel)) ggX0_power_J9_floorMod_7cf53
theorem dX0_power_0 : decode cX0_power 0 = .ok (.dconst 0, 1) := by decide +kernel
theorem dX0_power_1 : decode cX0_power 1 = .ok (.dstore_n 1, 1) := by decide +kernel
theorem dX0_power_2 : decode cX0_power 2 = .ok (.iconst 0, 1) := by decide +kernel
theorem dX0_power_3 : decode cX0_power 3 = .ok (.aload_n 0, 1) := by decide +kernel
theorem dX0_power_4 : decode cX0_power 4 = .ok (.getfield 53, 3) := by decide +kernel
theorem dX0_power_7 : decode cX0_power 7 = .ok (.bipush 16, 2) := by decide +kernel
theorem dX0_power_9 : decode cX0_power 9 = .ok (.isub, 1) := by decide +kernel
theorem dX0_power_10 : decode cX0_power 10 = .ok (.invokestatic 128, 3) := by decide +kernel
theorem dX0_power_13 : decode cX0_power 13 = .ok (.istore_n 3, 1) := by decide +kernel
theorem dX0_power_14 : decode cX0_power 14 = .ok (.iload_n 3, 1) := by decide +kernel
theorem dX0_power_15 : decode cX0_power 15 = .ok (.istore 4, 2) := by decide +kernel
theorem dX0_power_17 : decode cX0_power 17 = .ok (.iload 4, 2) := by decide +kernel
theorem dX0_power_19 : decode cX0_power 19 = .ok (.aload_n 0, 1) := by decide +kernel
theorem dX0_power_20 : decode cX0_power 20 = .ok (.getfield 53, 3) := by decide +kernel
theorem dX0_power_23 : decode cX0_power 23 = .ok (.if_icmp .ge 31, 3) := by decide +kernel
theorem dX0_power_26 : decode cX0_power 26 = .ok (.aload_n 0, 1) := by decide +kernel
theorem dX0_power_27 : decode cX0_power 27 = .ok (.getfield 19, 3) := by decide +kernel
theorem dX0_power_30 : decode cX0_power 30 = .ok (.iload 4, 2) := by decide +kernel
theorem dX0_power_32 : decode cX0_power 32 = .ok (.bipush 16, 2) := by decide +kernel
theorem dX0_power_34 : decode cX0_power 34 = .ok (.invokestatic 66, 3) := by decide +kernel
theorem dX0_power_37 : decode cX0_power 37 = .ok (.daload, 1) := by decide +kernel
theorem dX0_power_38 : decode cX0_power 38 = .ok (.dstore 5, 2) := by decide +kernel
theorem dX0_power_40 : decode cX0_power 40 = .ok (.dload_n 1, 1) := by decide +kernel
theorem dX0_power_41 : decode cX0_power 41 = .ok (.dload 5, 2) := by decide +kernel
theorem dX0_power_43 : decode cX0_power 43 = .ok (.dload 5, 2) := by decide +kernel
theorem dX0_power_45 : decode cX0_power 45 = .ok (.dmul, 1) := by decide +kernel
theorem dX0_power_46 : decode cX0_power 46 = .ok (.dadd, 1) := by decide +kernel
theorem dX0_power_47 : decode cX0_power 47 = .ok (.dstore_n 1, 1) := by decide +kernel
theorem dX0_power_48 : decode cX0_power 48 = .ok (.iinc 4 1, 3) := by decide +kernel
theorem dX0_power_51 : decode cX0_power 51 = .ok (.goto (-34), 3) := by decide +kernel
theorem dX0_power_54 : decode cX0_power 54 = .ok (.aload_n 0, 1) := by decide +kernel
theorem dX0_power_55 : decode cX0_power 55 = .ok (.getfield 53, 3) := by decide +kernel
theorem dX0_power_58 : decode cX0_power 58 = .ok (.iload_n 3, 1) := by decide +kernel
theorem dX0_power_59 : decode cX0_power 59 = .ok (.if_icmp .le 15, 3) := by decide +kernel
theorem dX0_power_62 : decode cX0_power 62 = .ok (.dload_n 1, 1) := by decide +kernel
theorem dX0_power_63 : decode cX0_power 63 = .ok (.aload_n 0, 1) := by decide +kernel
theorem dX0_power_64 : decode cX0_power 64 = .ok (.getfield 53, 3) := by decide +kernel
theorem dX0_power_67 : decode cX0_power 67 = .ok (.iload_n 3, 1) := by decide +kernel
theorem dX0_power_68 : decode cX0_power 68 = .ok (.isub, 1) := by decide +kernel
theorem dX0_power_69 : decode cX0_power 69 = .ok (.i2d, 1) := by decide +kernel
theorem dX0_power_70 : decode cX0_power 70 = .ok (.ddiv, 1) := by decide +kernel
theorem dX0_power_71 : decode cX0_power 71 = .ok (.goto 4, 3) := by decide +kernel
theorem dX0_power_74 : decode cX0_power 74 = .ok (.dconst 0, 1) := by decide +kernel
theorem dX0_power_75 : decode cX0_power 75 = .ok (.dreturn, 1) := by decide +kernel
theorem dX1_init_0 : decode cX1_init 0 = .ok (.aload_n 0, 1) := by decide +kernel
theorem dX1_init_1 : decode cX1_init 1 = .ok (.invokespecial 3, 3) := by decide +kernel
theorem dX1_init_4 : decode cX1_init 4 = .ok (.aload_n 0, 1) := by decide +kernel
theorem dX1_init_5 : decode cX1_init 5 = .ok (.bipush 8, 2) := by decide +kernel
theorem dX1_init_7 : decode cX1_init 7 = .ok (.newarray .int, 2) := by decide +kernel
theorem dX1_init_9 : decode cX1_init 9 = .ok (.putfield 9, 3) := by decide +kernel
theorem dX1_init_12 : decode cX1_init 12 = .ok (.aload_n 0, 1) := by decide +kernel
theorem dX1_init_13 : decode cX1_init 13 = .ok (.bipush 8, 2) := by decide +kernel
theorem dX1_init_15 : decode cX1_init 15 = .ok (.newarray .double, 2) := by decide +kernel
theorem dX1_init_17 : decode cX1_init 17 = .ok (.putfield 15, 3) := by decide +kernel
theorem dX1_init_20 : decode cX1_init 20 = .ok (.aload_n 0, 1) := by decide +kernel
theorem dX1_init_21 : decode cX1_init 21 = .ok (.bipush 16, 2) := by decide +kernel
theorem dX1_init_23 : decode cX1_init 23 = .ok (.newarray .double, 2) := by decide +kernel
theorem dX1_init_25 : decode cX1_init 25 = .ok (.putfield 19, 3) := by decide +kernel
theorem dX1_init_28 : decode cX1_init 28 = .ok (.aload_n 0, 1) := by decide +kernel
theorem dX1_init_29 : decode cX1_init 29 = .ok (.bipush 16, 2) := by decide +kernel
theorem dX1_init_31 : decode cX1_init 31 = .ok (.newarray .double, 2) := by decide +kernel
theorem dX1_init_33 : decode cX1_init 33 = .ok (.putfield 22, 3) := by decide +kernel
theorem dX1_init_36 : decode cX1_init 36 = .ok (.aload_n 0, 1) := by decide +kernel
theorem dX1_init_37 : decode cX1_init 37 = .ok (.bipush 16, 2) := by decide +kernel
theorem dX1_init_39 : decode cX1_init 39 = .ok (.newarray .double, 2) := by decide +kernel
theorem dX1_init_41 : decode cX1_init 41 = .ok (.putfield 25, 3) := by decide +kernel
theorem dX1_init_44 : decode cX1_init 44 = .ok (.aload_n 0, 1) := by decide +kernel
theorem dX1_init_45 : decode cX1_init 45 = .ok (.dconst 0, 1) := by decide +kernel
theorem dX1_init_46 : decode cX1_init 46 = .ok (.putfield 28, 3) := by decide +kernel
theorem dX1_init_49 : decode cX1_init 49 = .ok (.aload_n 0, 1) := by decide +kernel
theorem dX1_init_50 : decode cX1_init 50 = .ok (.iconst 0, 1) := by decide +kernel
theorem dX1_init_51 : decode cX1_init 51 = .ok (.putfield 32, 3) := by decide +kernel
theorem dX1_init_54 : decode cX1_init 54 = .ok (.return_, 1) := by decide +kernel
theorem dX1_tellPath_0 : decode cX1_tellPath 0 = .ok (.iload_n 1, 1) := by decide +kernel
theorem dX1_tellPath_1 : decode cX1_tellPath 1 = .ok (.ifCond .lt 12, 3) := by decide +kernel
theorem dX1_tellPath_4 : decode cX1_tellPath 4 = .ok (.iload_n 1, 1) := by decide +kernel
theorem dX1_tellPath_5 : decode cX1_tellPath 5 = .ok (.aload_n 0, 1) := by decide +kernel
theorem dX1_tellPath_6 : decode cX1_tellPath 6 = .ok (.getfield 9, 3) := by decide +kernel
theorem dX1_tellPath_9 : decode cX1_tellPath 9 = .ok (.arraylength, 1) := by decide +kernel
theorem dX1_tellPath_10 : decode cX1_tellPath 10 = .ok (.if_icmp .lt 5, 3) := by decide +kernel
theorem dX1_tellPath_13 : decode cX1_tellPath 13 = .ok (.iconst 0, 1) := by decide +kernel
theorem dX1_tellPath_14 : decode cX1_tellPath 14 = .ok (.ireturn, 1) := by decide +kernel
theorem dX1_tellPath_15 : decode cX1_tellPath 15 = .ok (.aload_n 0, 1) := by decide +kernel
theorem dX1_tellPath_16 : decode cX1_tellPath 16 = .ok (.getfield 9, 3) := by decide +kernel
theorem dX1_tellPath_19 : decode cX1_tellPath 19 = .ok (.iload_n 1, 1) := by decide +kernel
theorem dX1_tellPath_20 : decode cX1_tellPath 20 = .ok (.iaload, 1) := by decide +kernel
theorem dX1_tellPath_21 : decode cX1_tellPath 21 = .ok (.istore_n 3, 1) := by decide +kernel
theorem dX1_tellPath_22 : decode cX1_tellPath 22 = .ok (.aload_n 0, 1) := by decide +kernel
theorem dX1_tellPath_23 : decode cX1_tellPath 23 = .ok (.getfield 9, 3) := by decide +kernel
theorem dX1_tellPath_26 : decode cX1_tellPath 26 = .ok (.iload_n 1, 1) := by decide +kernel
theorem dX1_tellPath_27 : decode cX1_tellPath 27 = .ok (.iload_n 2, 1) := by decide +kernel
theorem dX1_tellPath_28 : decode cX1_tellPath 28 = .ok (.iastore, 1) := by decide +kernel
theorem dX1_tellPath_29 : decode cX1_tellPath 29 = .ok (.iload_n 3, 1) := by decide +kernel
theorem dX1_tellPath_30 : decode cX1_tellPath 30 = .ok (.ireturn, 1) := by decide +kernel
set_option maxRecDepth 20000 in
theorem ggX1_take_X1_heardWith : GoodIn wsX1_take wsX1_heardWith := goodIn_r _ [11, 12, 13, 1, 18, 19, 20, 21, 22, 23, 24] (by decide +kernel) (by decide +kernel)
set_option maxRecDepth 20000 in
theorem gX1_take_X1_heardWith : GoodIn wsX1_take (wsV RX1 36 RX1 yX1_heardWith wsX1_heardWith) := goodIn_app (goodIn_of _ (by decide +kernel)) ggX1_take_X1_heardWith
set_option maxRecDepth 20000 in
theorem ggX1_take_J9_floorMod_7cf53 : GoodIn wsX1_take wsJ9_floorMod_7cf53 := goodIn_r _ [17] (by decide +kernel) (by decide +kernel)
set_option maxRecDepth 20000 in
theorem gX1_take_J9_floorMod_7cf53 : GoodIn wsX1_take (va_wsS RX1 40 yJ9_floorMod_7cf53 wsJ9_floorMod_7cf53) := goodIn_app (goodIn_of _ (by decide +kernel)) ggX1_take_J9_floorMod_7cf53
theorem dX1_take_0 : decode cX1_take 0 = .ok (.bipush 7, 2) := by decide +kernel
theorem dX1_take_2 : decode cX1_take 2 = .ok (.istore_n 3, 1) := by decide +kernel
theorem dX1_take_3 : decode cX1_take 3 = .ok (.iload_n 3, 1) := by decide +kernel
theorem dX1_take_4 : decode cX1_take 4 = .ok (.ifCond .le 23, 3) := by decide +kernel
theorem dX1_take_7 : decode cX1_take 7 = .ok (.aload_n 0, 1) := by decide +kernel
theorem dX1_take_8 : decode cX1_take 8 = .ok (.getfield 15, 3) := by decide +kernel
theorem dX1_take_11 : decode cX1_take 11 = .ok (.iload_n 3, 1) := by decide +kernel
theorem dX1_take_12 : decode cX1_take 12 = .ok (.aload_n 0, 1) := by decide +kernel
theorem dX1_take_13 : decode cX1_take 13 = .ok (.getfield 15, 3) := by decide +kernel
theorem dX1_take_16 : decode cX1_take 16 = .ok (.iload_n 3, 1) := by decide +kernel
theorem dX1_take_17 : decode cX1_take 17 = .ok (.iconst 1, 1) := by decide +kernel
theorem dX1_take_18 : decode cX1_take 18 = .ok (.isub, 1) := by decide +kernel
theorem dX1_take_19 : decode cX1_take 19 = .ok (.daload, 1) := by decide +kernel
theorem dX1_take_20 : decode cX1_take 20 = .ok (.dastore, 1) := by decide +kernel
theorem dX1_take_21 : decode cX1_take 21 = .ok (.iinc 3 (-1), 3) := by decide +kernel
theorem dX1_take_24 : decode cX1_take 24 = .ok (.goto (-21), 3) := by decide +kernel
theorem dX1_take_27 : decode cX1_take 27 = .ok (.aload_n 0, 1) := by decide +kernel
theorem dX1_take_28 : decode cX1_take 28 = .ok (.getfield 15, 3) := by decide +kernel
theorem dX1_take_31 : decode cX1_take 31 = .ok (.iconst 0, 1) := by decide +kernel
theorem dX1_take_32 : decode cX1_take 32 = .ok (.iload_n 1, 1) := by decide +kernel
theorem dX1_take_33 : decode cX1_take 33 = .ok (.i2d, 1) := by decide +kernel
theorem dX1_take_34 : decode cX1_take 34 = .ok (.dastore, 1) := by decide +kernel
theorem dX1_take_35 : decode cX1_take 35 = .ok (.aload_n 0, 1) := by decide +kernel
theorem dX1_take_36 : decode cX1_take 36 = .ok (.aload_n 0, 1) := by decide +kernel
theorem dX1_take_37 : decode cX1_take 37 = .ok (.iload_n 2, 1) := by decide +kernel
theorem dX1_take_38 : decode cX1_take 38 = .ok (.invokevirtual 36, 3) := by decide +kernel
theorem dX1_take_41 : decode cX1_take 41 = .ok (.putfield 28, 3) := by decide +kernel
theorem dX1_take_44 : decode cX1_take 44 = .ok (.aload_n 0, 1) := by decide +kernel
theorem dX1_take_45 : decode cX1_take 45 = .ok (.getfield 32, 3) := by decide +kernel
theorem dX1_take_48 : decode cX1_take 48 = .ok (.bipush 16, 2) := by decide +kernel
theorem dX1_take_50 : decode cX1_take 50 = .ok (.invokestatic 40, 3) := by decide +kernel
theorem dX1_take_53 : decode cX1_take 53 = .ok (.istore_n 3, 1) := by decide +kernel
theorem dX1_take_54 : decode cX1_take 54 = .ok (.aload_n 0, 1) := by decide +kernel
theorem dX1_take_55 : decode cX1_take 55 = .ok (.getfield 19, 3) := by decide +kernel
theorem dX1_take_58 : decode cX1_take 58 = .ok (.iload_n 3, 1) := by decide +kernel
theorem dX1_take_59 : decode cX1_take 59 = .ok (.aload_n 0, 1) := by decide +kernel
theorem dX1_take_60 : decode cX1_take 60 = .ok (.getfield 15, 3) := by decide +kernel
theorem dX1_take_63 : decode cX1_take 63 = .ok (.iconst 0, 1) := by decide +kernel
theorem dX1_take_64 : decode cX1_take 64 = .ok (.daload, 1) := by decide +kernel
theorem dX1_take_65 : decode cX1_take 65 = .ok (.dastore, 1) := by decide +kernel
theorem dX1_take_66 : decode cX1_take 66 = .ok (.aload_n 0, 1) := by decide +kernel
theorem dX1_take_67 : decode cX1_take 67 = .ok (.getfield 22, 3) := by decide +kernel
theorem dX1_take_70 : decode cX1_take 70 = .ok (.iload_n 3, 1) := by decide +kernel
theorem dX1_take_71 : decode cX1_take 71 = .ok (.aload_n 0, 1) := by decide +kernel
theorem dX1_take_72 : decode cX1_take 72 = .ok (.getfield 15, 3) := by decide +kernel
theorem dX1_take_75 : decode cX1_take 75 = .ok (.iconst 1, 1) := by decide +kernel
theorem dX1_take_76 : decode cX1_take 76 = .ok (.daload, 1) := by decide +kernel
theorem dX1_take_77 : decode cX1_take 77 = .ok (.dastore, 1) := by decide +kernel
theorem dX1_take_78 : decode cX1_take 78 = .ok (.aload_n 0, 1) := by decide +kernel
theorem dX1_take_79 : decode cX1_take 79 = .ok (.getfield 25, 3) := by decide +kernel
theorem dX1_take_82 : decode cX1_take 82 = .ok (.iload_n 3, 1) := by decide +kernel
theorem dX1_take_83 : decode cX1_take 83 = .ok (.aload_n 0, 1) := by decide +kernel
theorem dX1_take_84 : decode cX1_take 84 = .ok (.getfield 28, 3) := by decide +kernel
theorem dX1_take_87 : decode cX1_take 87 = .ok (.dastore, 1) := by decide +kernel
theorem dX1_take_88 : decode cX1_take 88 = .ok (.aload_n 0, 1) := by decide +kernel
theorem dX1_take_89 : decode cX1_take 89 = .ok (.dup, 1) := by decide +kernel
theorem dX1_take_90 : decode cX1_take 90 = .ok (.getfield 32, 3) := by decide +kernel
theorem dX1_take_93 : decode cX1_take 93 = .ok (.iconst 1, 1) := by decide +kernel
theorem dX1_take_94 : decode cX1_take 94 = .ok (.iadd, 1) := by decide +kernel
theorem dX1_take_95 : decode cX1_take 95 = .ok (.putfield 32, 3) := by decide +kernel
theorem dX1_take_98 : decode cX1_take 98 = .ok (.return_, 1) := by decide +kernel
theorem dX1_heardWith_0 : decode cX1_heardWith 0 = .ok (.iload_n 1, 1) := by decide +kernel
theorem dX1_heardWith_1 : decode cX1_heardWith 1 = .ok (.i2d, 1) := by decide +kernel
theorem dX1_heardWith_2 : decode cX1_heardWith 2 = .ok (.dstore_n 2, 1) := by decide +kernel
theorem dX1_heardWith_3 : decode cX1_heardWith 3 = .ok (.iconst 0, 1) := by decide +kernel
theorem dX1_heardWith_4 : decode cX1_heardWith 4 = .ok (.istore 4, 2) := by decide +kernel
theorem dX1_heardWith_6 : decode cX1_heardWith 6 = .ok (.iload 4, 2) := by decide +kernel
theorem dX1_heardWith_8 : decode cX1_heardWith 8 = .ok (.bipush 8, 2) := by decide +kernel
theorem dX1_heardWith_10 : decode cX1_heardWith 10 = .ok (.if_icmp .ge 32, 3) := by decide +kernel
theorem dX1_heardWith_13 : decode cX1_heardWith 13 = .ok (.dload_n 2, 1) := by decide +kernel
theorem dX1_heardWith_14 : decode cX1_heardWith 14 = .ok (.aload_n 0, 1) := by decide +kernel
theorem dX1_heardWith_15 : decode cX1_heardWith 15 = .ok (.getfield 9, 3) := by decide +kernel
theorem dX1_heardWith_18 : decode cX1_heardWith 18 = .ok (.iload 4, 2) := by decide +kernel
theorem dX1_heardWith_20 : decode cX1_heardWith 20 = .ok (.iaload, 1) := by decide +kernel
theorem dX1_heardWith_21 : decode cX1_heardWith 21 = .ok (.i2d, 1) := by decide +kernel
theorem dX1_heardWith_22 : decode cX1_heardWith 22 = .ok (.ldc2_w 46, 3) := by decide +kernel
theorem dX1_heardWith_25 : decode cX1_heardWith 25 = .ok (.ddiv, 1) := by decide +kernel
theorem dX1_heardWith_26 : decode cX1_heardWith 26 = .ok (.aload_n 0, 1) := by decide +kernel
theorem dX1_heardWith_27 : decode cX1_heardWith 27 = .ok (.getfield 15, 3) := by decide +kernel
theorem dX1_heardWith_30 : decode cX1_heardWith 30 = .ok (.iload 4, 2) := by decide +kernel
theorem dX1_heardWith_32 : decode cX1_heardWith 32 = .ok (.daload, 1) := by decide +kernel
theorem dX1_heardWith_33 : decode cX1_heardWith 33 = .ok (.dmul, 1) := by decide +kernel
theorem dX1_heardWith_34 : decode cX1_heardWith 34 = .ok (.dadd, 1) := by decide +kernel
theorem dX1_heardWith_35 : decode cX1_heardWith 35 = .ok (.dstore_n 2, 1) := by decide +kernel
theorem dX1_heardWith_36 : decode cX1_heardWith 36 = .ok (.iinc 4 1, 3) := by decide +kernel
theorem dX1_heardWith_39 : decode cX1_heardWith 39 = .ok (.goto (-33), 3) := by decide +kernel
theorem dX1_heardWith_42 : decode cX1_heardWith 42 = .ok (.dload_n 2, 1) := by decide +kernel
theorem dX1_heardWith_43 : decode cX1_heardWith 43 = .ok (.dreturn, 1) := by decide +kernel
theorem dX1_offness_0 : decode cX1_offness 0 = .ok (.dconst 0, 1) := by decide +kernel
theorem dX1_offness_1 : decode cX1_offness 1 = .ok (.dstore_n 2, 1) := by decide +kernel
theorem dX1_offness_2 : decode cX1_offness 2 = .ok (.iconst 0, 1) := by decide +kernel
theorem dX1_offness_3 : decode cX1_offness 3 = .ok (.istore 4, 2) := by decide +kernel
theorem dX1_offness_5 : decode cX1_offness 5 = .ok (.iload 4, 2) := by decide +kernel
theorem dX1_offness_7 : decode cX1_offness 7 = .ok (.aload_n 1, 1) := by decide +kernel
theorem dX1_offness_8 : decode cX1_offness 8 = .ok (.arraylength, 1) := by decide +kernel
theorem dX1_offness_9 : decode cX1_offness 9 = .ok (.if_icmp .ge 43, 3) := by decide +kernel
theorem dX1_offness_12 : decode cX1_offness 12 = .ok (.iload 4, 2) := by decide +kernel
theorem dX1_offness_14 : decode cX1_offness 14 = .ok (.bipush 8, 2) := by decide +kernel
theorem dX1_offness_16 : decode cX1_offness 16 = .ok (.if_icmp .ge 36, 3) := by decide +kernel
theorem dX1_offness_19 : decode cX1_offness 19 = .ok (.aload_n 1, 1) := by decide +kernel
theorem dX1_offness_20 : decode cX1_offness 20 = .ok (.iload 4, 2) := by decide +kernel
theorem dX1_offness_22 : decode cX1_offness 22 = .ok (.daload, 1) := by decide +kernel
theorem dX1_offness_23 : decode cX1_offness 23 = .ok (.aload_n 0, 1) := by decide +kernel
theorem dX1_offness_24 : decode cX1_offness 24 = .ok (.getfield 9, 3) := by decide +kernel
theorem dX1_offness_27 : decode cX1_offness 27 = .ok (.iload 4, 2) := by decide +kernel
theorem dX1_offness_29 : decode cX1_offness 29 = .ok (.iaload, 1) := by decide +kernel
theorem dX1_offness_30 : decode cX1_offness 30 = .ok (.i2d, 1) := by decide +kernel
theorem dX1_offness_31 : decode cX1_offness 31 = .ok (.ldc2_w 46, 3) := by decide +kernel
theorem dX1_offness_34 : decode cX1_offness 34 = .ok (.ddiv, 1) := by decide +kernel
theorem dX1_offness_35 : decode cX1_offness 35 = .ok (.dsub, 1) := by decide +kernel
theorem dX1_offness_36 : decode cX1_offness 36 = .ok (.dstore 5, 2) := by decide +kernel
theorem dX1_offness_38 : decode cX1_offness 38 = .ok (.dload_n 2, 1) := by decide +kernel
theorem dX1_offness_39 : decode cX1_offness 39 = .ok (.dload 5, 2) := by decide +kernel
theorem dX1_offness_41 : decode cX1_offness 41 = .ok (.dload 5, 2) := by decide +kernel
theorem dX1_offness_43 : decode cX1_offness 43 = .ok (.dmul, 1) := by decide +kernel
theorem dX1_offness_44 : decode cX1_offness 44 = .ok (.dadd, 1) := by decide +kernel
theorem dX1_offness_45 : decode cX1_offness 45 = .ok (.dstore_n 2, 1) := by decide +kernel
theorem dX1_offness_46 : decode cX1_offness 46 = .ok (.iinc 4 1, 3) := by decide +kernel
theorem dX1_offness_49 : decode cX1_offness 49 = .ok (.goto (-44), 3) := by decide +kernel
theorem dX1_offness_52 : decode cX1_offness 52 = .ok (.dload_n 2, 1) := by decide +kernel
theorem dX1_offness_53 : decode cX1_offness 53 = .ok (.dreturn, 1) := by decide +kernel
set_option maxRecDepth 20000 in
theorem ggX1_batchWeight_X1_sumOfProducts : GoodIn wsX1_batchWeight wsX1_sumOfProducts := goodIn_r _ [9, 10, 11, 12, 13, 14, 15, 16, 17, 18, 22, 23, 24, 25, 26, 27, 28] (by decide +kernel) (by decide +kernel)
set_option maxRecDepth 20000 in
theorem gX1_batchWeight_X1_sumOfProducts : GoodIn wsX1_batchWeight (wsV RX1 48 RX1 yX1_sumOfProducts wsX1_sumOfProducts) := goodIn_app (goodIn_of _ (by decide +kernel)) ggX1_batchWeight_X1_sumOfProducts
set_option maxRecDepth 20000 in
theorem ggX1_batchWeight_X3_eitherWay : GoodIn wsX1_batchWeight wsX3_eitherWay := goodIn_r _ [21] (by decide +kernel) (by decide +kernel)
set_option maxRecDepth 20000 in
theorem gX1_batchWeight_X3_eitherWay_n52 : GoodIn wsX1_batchWeight (wsX3_eitherWay) := ggX1_batchWeight_X3_eitherWay
theorem dX1_batchWeight_0 : decode cX1_batchWeight 0 = .ok (.aload_n 0, 1) := by decide +kernel
theorem dX1_batchWeight_1 : decode cX1_batchWeight 1 = .ok (.aload_n 0, 1) := by decide +kernel
theorem dX1_batchWeight_2 : decode cX1_batchWeight 2 = .ok (.getfield 19, 3) := by decide +kernel
theorem dX1_batchWeight_5 : decode cX1_batchWeight 5 = .ok (.aload_n 0, 1) := by decide +kernel
theorem dX1_batchWeight_6 : decode cX1_batchWeight 6 = .ok (.getfield 19, 3) := by decide +kernel
theorem dX1_batchWeight_9 : decode cX1_batchWeight 9 = .ok (.invokevirtual 48, 3) := by decide +kernel
theorem dX1_batchWeight_12 : decode cX1_batchWeight 12 = .ok (.dstore_n 2, 1) := by decide +kernel
theorem dX1_batchWeight_13 : decode cX1_batchWeight 13 = .ok (.aload_n 0, 1) := by decide +kernel
theorem dX1_batchWeight_14 : decode cX1_batchWeight 14 = .ok (.aload_n 0, 1) := by decide +kernel
theorem dX1_batchWeight_15 : decode cX1_batchWeight 15 = .ok (.getfield 19, 3) := by decide +kernel
theorem dX1_batchWeight_18 : decode cX1_batchWeight 18 = .ok (.aload_n 0, 1) := by decide +kernel
theorem dX1_batchWeight_19 : decode cX1_batchWeight 19 = .ok (.getfield 22, 3) := by decide +kernel
theorem dX1_batchWeight_22 : decode cX1_batchWeight 22 = .ok (.invokevirtual 48, 3) := by decide +kernel
theorem dX1_batchWeight_25 : decode cX1_batchWeight 25 = .ok (.dstore 4, 2) := by decide +kernel
theorem dX1_batchWeight_27 : decode cX1_batchWeight 27 = .ok (.aload_n 0, 1) := by decide +kernel
theorem dX1_batchWeight_28 : decode cX1_batchWeight 28 = .ok (.aload_n 0, 1) := by decide +kernel
theorem dX1_batchWeight_29 : decode cX1_batchWeight 29 = .ok (.getfield 22, 3) := by decide +kernel
theorem dX1_batchWeight_32 : decode cX1_batchWeight 32 = .ok (.aload_n 0, 1) := by decide +kernel
theorem dX1_batchWeight_33 : decode cX1_batchWeight 33 = .ok (.getfield 22, 3) := by decide +kernel
theorem dX1_batchWeight_36 : decode cX1_batchWeight 36 = .ok (.invokevirtual 48, 3) := by decide +kernel
theorem dX1_batchWeight_39 : decode cX1_batchWeight 39 = .ok (.dstore 6, 2) := by decide +kernel
theorem dX1_batchWeight_41 : decode cX1_batchWeight 41 = .ok (.aload_n 0, 1) := by decide +kernel
theorem dX1_batchWeight_42 : decode cX1_batchWeight 42 = .ok (.aload_n 0, 1) := by decide +kernel
theorem dX1_batchWeight_43 : decode cX1_batchWeight 43 = .ok (.getfield 19, 3) := by decide +kernel
theorem dX1_batchWeight_46 : decode cX1_batchWeight 46 = .ok (.aload_n 0, 1) := by decide +kernel
theorem dX1_batchWeight_47 : decode cX1_batchWeight 47 = .ok (.getfield 25, 3) := by decide +kernel
theorem dX1_batchWeight_50 : decode cX1_batchWeight 50 = .ok (.invokevirtual 48, 3) := by decide +kernel
theorem dX1_batchWeight_53 : decode cX1_batchWeight 53 = .ok (.dstore 8, 2) := by decide +kernel
theorem dX1_batchWeight_55 : decode cX1_batchWeight 55 = .ok (.aload_n 0, 1) := by decide +kernel
theorem dX1_batchWeight_56 : decode cX1_batchWeight 56 = .ok (.aload_n 0, 1) := by decide +kernel
theorem dX1_batchWeight_57 : decode cX1_batchWeight 57 = .ok (.getfield 22, 3) := by decide +kernel
theorem dX1_batchWeight_60 : decode cX1_batchWeight 60 = .ok (.aload_n 0, 1) := by decide +kernel
theorem dX1_batchWeight_61 : decode cX1_batchWeight 61 = .ok (.getfield 25, 3) := by decide +kernel
theorem dX1_batchWeight_64 : decode cX1_batchWeight 64 = .ok (.invokevirtual 48, 3) := by decide +kernel
theorem dX1_batchWeight_67 : decode cX1_batchWeight 67 = .ok (.dstore 10, 2) := by decide +kernel
theorem dX1_batchWeight_69 : decode cX1_batchWeight 69 = .ok (.dload_n 2, 1) := by decide +kernel
theorem dX1_batchWeight_70 : decode cX1_batchWeight 70 = .ok (.dload 6, 2) := by decide +kernel
theorem dX1_batchWeight_72 : decode cX1_batchWeight 72 = .ok (.dmul, 1) := by decide +kernel
theorem dX1_batchWeight_73 : decode cX1_batchWeight 73 = .ok (.dload 4, 2) := by decide +kernel
theorem dX1_batchWeight_75 : decode cX1_batchWeight 75 = .ok (.dload 4, 2) := by decide +kernel
theorem dX1_batchWeight_77 : decode cX1_batchWeight 77 = .ok (.dmul, 1) := by decide +kernel
theorem dX1_batchWeight_78 : decode cX1_batchWeight 78 = .ok (.dsub, 1) := by decide +kernel
theorem dX1_batchWeight_79 : decode cX1_batchWeight 79 = .ok (.dstore 12, 2) := by decide +kernel
theorem dX1_batchWeight_81 : decode cX1_batchWeight 81 = .ok (.dload 12, 2) := by decide +kernel
theorem dX1_batchWeight_83 : decode cX1_batchWeight 83 = .ok (.invokestatic 52, 3) := by decide +kernel
theorem dX1_batchWeight_86 : decode cX1_batchWeight 86 = .ok (.ldc2_w 56, 3) := by decide +kernel
theorem dX1_batchWeight_89 : decode cX1_batchWeight 89 = .ok (.dcmp .g, 1) := by decide +kernel
theorem dX1_batchWeight_90 : decode cX1_batchWeight 90 = .ok (.ifCond .ge 5, 3) := by decide +kernel
theorem dX1_batchWeight_93 : decode cX1_batchWeight 93 = .ok (.dconst 0, 1) := by decide +kernel
theorem dX1_batchWeight_94 : decode cX1_batchWeight 94 = .ok (.dreturn, 1) := by decide +kernel
theorem dX1_batchWeight_95 : decode cX1_batchWeight 95 = .ok (.iload_n 1, 1) := by decide +kernel
theorem dX1_batchWeight_96 : decode cX1_batchWeight 96 = .ok (.ifCond .ne 20, 3) := by decide +kernel
theorem dX1_batchWeight_99 : decode cX1_batchWeight 99 = .ok (.dload 8, 2) := by decide +kernel
theorem dX1_batchWeight_101 : decode cX1_batchWeight 101 = .ok (.dload 6, 2) := by decide +kernel
theorem dX1_batchWeight_103 : decode cX1_batchWeight 103 = .ok (.dmul, 1) := by decide +kernel
theorem dX1_batchWeight_104 : decode cX1_batchWeight 104 = .ok (.dload 10, 2) := by decide +kernel
theorem dX1_batchWeight_106 : decode cX1_batchWeight 106 = .ok (.dload 4, 2) := by decide +kernel
theorem dX1_batchWeight_108 : decode cX1_batchWeight 108 = .ok (.dmul, 1) := by decide +kernel
theorem dX1_batchWeight_109 : decode cX1_batchWeight 109 = .ok (.dsub, 1) := by decide +kernel
theorem dX1_batchWeight_110 : decode cX1_batchWeight 110 = .ok (.dload 12, 2) := by decide +kernel
theorem dX1_batchWeight_112 : decode cX1_batchWeight 112 = .ok (.ddiv, 1) := by decide +kernel
theorem dX1_batchWeight_113 : decode cX1_batchWeight 113 = .ok (.goto 16, 3) := by decide +kernel
theorem dX1_batchWeight_116 : decode cX1_batchWeight 116 = .ok (.dload 10, 2) := by decide +kernel
theorem dX1_batchWeight_118 : decode cX1_batchWeight 118 = .ok (.dload_n 2, 1) := by decide +kernel
theorem dX1_batchWeight_119 : decode cX1_batchWeight 119 = .ok (.dmul, 1) := by decide +kernel
theorem dX1_batchWeight_120 : decode cX1_batchWeight 120 = .ok (.dload 8, 2) := by decide +kernel
theorem dX1_batchWeight_122 : decode cX1_batchWeight 122 = .ok (.dload 4, 2) := by decide +kernel
theorem dX1_batchWeight_124 : decode cX1_batchWeight 124 = .ok (.dmul, 1) := by decide +kernel
theorem dX1_batchWeight_125 : decode cX1_batchWeight 125 = .ok (.dsub, 1) := by decide +kernel
theorem dX1_batchWeight_126 : decode cX1_batchWeight 126 = .ok (.dload 12, 2) := by decide +kernel
theorem dX1_batchWeight_128 : decode cX1_batchWeight 128 = .ok (.ddiv, 1) := by decide +kernel
theorem dX1_batchWeight_129 : decode cX1_batchWeight 129 = .ok (.dreturn, 1) := by decide +kernel
set_option maxRecDepth 20000 in
theorem ggX1_sumOfProducts_J9_floorMod_7cf53 : GoodIn wsX1_sumOfProducts wsJ9_floorMod_7cf53 := goodIn_r _ [9] (by decide +kernel) (by decide +kernel)
set_option maxRecDepth 20000 in
theorem gX1_sumOfProducts_J9_floorMod_7cf53 : GoodIn wsX1_sumOfProducts (va_wsS RX1 40 yJ9_floorMod_7cf53 wsJ9_floorMod_7cf53) := goodIn_app (goodIn_of _ (by decide +kernel)) ggX1_sumOfProducts_J9_floorMod_7cf53
theorem dX1_sumOfProducts_0 : decode cX1_sumOfProducts 0 = .ok (.dconst 0, 1) := by decide +kernel
theorem dX1_sumOfProducts_1 : decode cX1_sumOfProducts 1 = .ok (.dstore_n 3, 1) := by decide +kernel
theorem dX1_sumOfProducts_2 : decode cX1_sumOfProducts 2 = .ok (.iconst 0, 1) := by decide +kernel
theorem dX1_sumOfProducts_3 : decode cX1_sumOfProducts 3 = .ok (.aload_n 0, 1) := by decide +kernel
theorem dX1_sumOfProducts_4 : decode cX1_sumOfProducts 4 = .ok (.getfield 32, 3) := by decide +kernel
theorem dX1_sumOfProducts_7 : decode cX1_sumOfProducts 7 = .ok (.bipush 16, 2) := by decide +kernel
theorem dX1_sumOfProducts_9 : decode cX1_sumOfProducts 9 = .ok (.isub, 1) := by decide +kernel
theorem dX1_sumOfProducts_10 : decode cX1_sumOfProducts 10 = .ok (.invokestatic 58, 3) := by decide +kernel
theorem dX1_sumOfProducts_13 : decode cX1_sumOfProducts 13 = .ok (.istore 5, 2) := by decide +kernel
theorem dX1_sumOfProducts_15 : decode cX1_sumOfProducts 15 = .ok (.iload 5, 2) := by decide +kernel
theorem dX1_sumOfProducts_17 : decode cX1_sumOfProducts 17 = .ok (.aload_n 0, 1) := by decide +kernel
theorem dX1_sumOfProducts_18 : decode cX1_sumOfProducts 18 = .ok (.getfield 32, 3) := by decide +kernel
theorem dX1_sumOfProducts_21 : decode cX1_sumOfProducts 21 = .ok (.if_icmp .ge 44, 3) := by decide +kernel
theorem dX1_sumOfProducts_24 : decode cX1_sumOfProducts 24 = .ok (.iload 5, 2) := by decide +kernel
theorem dX1_sumOfProducts_26 : decode cX1_sumOfProducts 26 = .ok (.bipush 16, 2) := by decide +kernel
theorem dX1_sumOfProducts_28 : decode cX1_sumOfProducts 28 = .ok (.invokestatic 40, 3) := by decide +kernel
theorem dX1_sumOfProducts_31 : decode cX1_sumOfProducts 31 = .ok (.istore 6, 2) := by decide +kernel
theorem dX1_sumOfProducts_33 : decode cX1_sumOfProducts 33 = .ok (.iload 6, 2) := by decide +kernel
theorem dX1_sumOfProducts_35 : decode cX1_sumOfProducts 35 = .ok (.aload_n 1, 1) := by decide +kernel
theorem dX1_sumOfProducts_36 : decode cX1_sumOfProducts 36 = .ok (.arraylength, 1) := by decide +kernel
theorem dX1_sumOfProducts_37 : decode cX1_sumOfProducts 37 = .ok (.if_icmp .ge 22, 3) := by decide +kernel
theorem dX1_sumOfProducts_40 : decode cX1_sumOfProducts 40 = .ok (.iload 6, 2) := by decide +kernel
theorem dX1_sumOfProducts_42 : decode cX1_sumOfProducts 42 = .ok (.aload_n 2, 1) := by decide +kernel
theorem dX1_sumOfProducts_43 : decode cX1_sumOfProducts 43 = .ok (.arraylength, 1) := by decide +kernel
theorem dX1_sumOfProducts_44 : decode cX1_sumOfProducts 44 = .ok (.if_icmp .ge 15, 3) := by decide +kernel
theorem dX1_sumOfProducts_47 : decode cX1_sumOfProducts 47 = .ok (.dload_n 3, 1) := by decide +kernel
theorem dX1_sumOfProducts_48 : decode cX1_sumOfProducts 48 = .ok (.aload_n 1, 1) := by decide +kernel
theorem dX1_sumOfProducts_49 : decode cX1_sumOfProducts 49 = .ok (.iload 6, 2) := by decide +kernel
theorem dX1_sumOfProducts_51 : decode cX1_sumOfProducts 51 = .ok (.daload, 1) := by decide +kernel
theorem dX1_sumOfProducts_52 : decode cX1_sumOfProducts 52 = .ok (.aload_n 2, 1) := by decide +kernel
theorem dX1_sumOfProducts_53 : decode cX1_sumOfProducts 53 = .ok (.iload 6, 2) := by decide +kernel
theorem dX1_sumOfProducts_55 : decode cX1_sumOfProducts 55 = .ok (.daload, 1) := by decide +kernel
theorem dX1_sumOfProducts_56 : decode cX1_sumOfProducts 56 = .ok (.dmul, 1) := by decide +kernel
theorem dX1_sumOfProducts_57 : decode cX1_sumOfProducts 57 = .ok (.dadd, 1) := by decide +kernel
theorem dX1_sumOfProducts_58 : decode cX1_sumOfProducts 58 = .ok (.dstore_n 3, 1) := by decide +kernel
theorem dX1_sumOfProducts_59 : decode cX1_sumOfProducts 59 = .ok (.iinc 5 1, 3) := by decide +kernel
theorem dX1_sumOfProducts_62 : decode cX1_sumOfProducts 62 = .ok (.goto (-47), 3) := by decide +kernel
theorem dX1_sumOfProducts_65 : decode cX1_sumOfProducts 65 = .ok (.dload_n 3, 1) := by decide +kernel
theorem dX1_sumOfProducts_66 : decode cX1_sumOfProducts 66 = .ok (.dreturn, 1) := by decide +kernel
theorem dX2_init_0 : decode cX2_init 0 = .ok (.aload_n 0, 1) := by decide +kernel
theorem dX2_init_1 : decode cX2_init 1 = .ok (.invokespecial 1, 3) := by decide +kernel
theorem dX2_init_4 : decode cX2_init 4 = .ok (.aload_n 0, 1) := by decide +kernel
theorem dX2_init_5 : decode cX2_init 5 = .ok (.iload_n 1, 1) := by decide +kernel
theorem dX2_init_6 : decode cX2_init 6 = .ok (.putfield 7, 3) := by decide +kernel
theorem dX2_init_9 : decode cX2_init 9 = .ok (.aload_n 0, 1) := by decide +kernel
theorem dX2_init_10 : decode cX2_init 10 = .ok (.iload_n 1, 1) := by decide +kernel
theorem dX2_init_11 : decode cX2_init 11 = .ok (.iload_n 1, 1) := by decide +kernel
theorem dX2_init_12 : decode cX2_init 12 = .ok (.multianewarray 13 2, 4) := by decide +kernel
theorem dX2_init_16 : decode cX2_init 16 = .ok (.putfield 15, 3) := by decide +kernel
theorem dX2_init_19 : decode cX2_init 19 = .ok (.aload_n 0, 1) := by decide +kernel
theorem dX2_init_20 : decode cX2_init 20 = .ok (.iload_n 1, 1) := by decide +kernel
theorem dX2_init_21 : decode cX2_init 21 = .ok (.newarray .double, 2) := by decide +kernel
theorem dX2_init_23 : decode cX2_init 23 = .ok (.putfield 18, 3) := by decide +kernel
theorem dX2_init_26 : decode cX2_init 26 = .ok (.aload_n 0, 1) := by decide +kernel
theorem dX2_init_27 : decode cX2_init 27 = .ok (.iload_n 1, 1) := by decide +kernel
theorem dX2_init_28 : decode cX2_init 28 = .ok (.newarray .double, 2) := by decide +kernel
theorem dX2_init_30 : decode cX2_init 30 = .ok (.putfield 22, 3) := by decide +kernel
theorem dX2_init_33 : decode cX2_init 33 = .ok (.iconst 0, 1) := by decide +kernel
theorem dX2_init_34 : decode cX2_init 34 = .ok (.istore_n 2, 1) := by decide +kernel
theorem dX2_init_35 : decode cX2_init 35 = .ok (.iload_n 2, 1) := by decide +kernel
theorem dX2_init_36 : decode cX2_init 36 = .ok (.iload_n 1, 1) := by decide +kernel
theorem dX2_init_37 : decode cX2_init 37 = .ok (.if_icmp .ge 20, 3) := by decide +kernel
theorem dX2_init_40 : decode cX2_init 40 = .ok (.aload_n 0, 1) := by decide +kernel
theorem dX2_init_41 : decode cX2_init 41 = .ok (.getfield 15, 3) := by decide +kernel
theorem dX2_init_44 : decode cX2_init 44 = .ok (.iload_n 2, 1) := by decide +kernel
theorem dX2_init_45 : decode cX2_init 45 = .ok (.aaload, 1) := by decide +kernel
theorem dX2_init_46 : decode cX2_init 46 = .ok (.iload_n 2, 1) := by decide +kernel
theorem dX2_init_47 : decode cX2_init 47 = .ok (.ldc2_w 25, 3) := by decide +kernel
theorem dX2_init_50 : decode cX2_init 50 = .ok (.dastore, 1) := by decide +kernel
theorem dX2_init_51 : decode cX2_init 51 = .ok (.iinc 2 1, 3) := by decide +kernel
theorem dX2_init_54 : decode cX2_init 54 = .ok (.goto (-19), 3) := by decide +kernel
theorem dX2_init_57 : decode cX2_init 57 = .ok (.return_, 1) := by decide +kernel
theorem dX2_restart_0 : decode cX2_restart 0 = .ok (.iconst 0, 1) := by decide +kernel
theorem dX2_restart_1 : decode cX2_restart 1 = .ok (.istore_n 1, 1) := by decide +kernel
theorem dX2_restart_2 : decode cX2_restart 2 = .ok (.iload_n 1, 1) := by decide +kernel
theorem dX2_restart_3 : decode cX2_restart 3 = .ok (.aload_n 0, 1) := by decide +kernel
theorem dX2_restart_4 : decode cX2_restart 4 = .ok (.getfield 7, 3) := by decide +kernel
theorem dX2_restart_7 : decode cX2_restart 7 = .ok (.if_icmp .ge 45, 3) := by decide +kernel
theorem dX2_restart_10 : decode cX2_restart 10 = .ok (.iconst 0, 1) := by decide +kernel
theorem dX2_restart_11 : decode cX2_restart 11 = .ok (.istore_n 2, 1) := by decide +kernel
theorem dX2_restart_12 : decode cX2_restart 12 = .ok (.iload_n 2, 1) := by decide +kernel
theorem dX2_restart_13 : decode cX2_restart 13 = .ok (.aload_n 0, 1) := by decide +kernel
theorem dX2_restart_14 : decode cX2_restart 14 = .ok (.getfield 7, 3) := by decide +kernel
theorem dX2_restart_17 : decode cX2_restart 17 = .ok (.if_icmp .ge 29, 3) := by decide +kernel
theorem dX2_restart_20 : decode cX2_restart 20 = .ok (.aload_n 0, 1) := by decide +kernel
theorem dX2_restart_21 : decode cX2_restart 21 = .ok (.getfield 15, 3) := by decide +kernel
theorem dX2_restart_24 : decode cX2_restart 24 = .ok (.iload_n 1, 1) := by decide +kernel
theorem dX2_restart_25 : decode cX2_restart 25 = .ok (.aaload, 1) := by decide +kernel
theorem dX2_restart_26 : decode cX2_restart 26 = .ok (.iload_n 2, 1) := by decide +kernel
theorem dX2_restart_27 : decode cX2_restart 27 = .ok (.iload_n 1, 1) := by decide +kernel
theorem dX2_restart_28 : decode cX2_restart 28 = .ok (.iload_n 2, 1) := by decide +kernel
theorem dX2_restart_29 : decode cX2_restart 29 = .ok (.if_icmp .ne 9, 3) := by decide +kernel
theorem dX2_restart_32 : decode cX2_restart 32 = .ok (.ldc2_w 25, 3) := by decide +kernel
theorem dX2_restart_35 : decode cX2_restart 35 = .ok (.goto 4, 3) := by decide +kernel
theorem dX2_restart_38 : decode cX2_restart 38 = .ok (.dconst 0, 1) := by decide +kernel
theorem dX2_restart_39 : decode cX2_restart 39 = .ok (.dastore, 1) := by decide +kernel
theorem dX2_restart_40 : decode cX2_restart 40 = .ok (.iinc 2 1, 3) := by decide +kernel
theorem dX2_restart_43 : decode cX2_restart 43 = .ok (.goto (-31), 3) := by decide +kernel
theorem dX2_restart_46 : decode cX2_restart 46 = .ok (.iinc 1 1, 3) := by decide +kernel
theorem dX2_restart_49 : decode cX2_restart 49 = .ok (.goto (-47), 3) := by decide +kernel
theorem dX2_restart_52 : decode cX2_restart 52 = .ok (.return_, 1) := by decide +kernel
set_option maxRecDepth 20000 in
theorem ggX2_number_X3_isWithin : GoodIn wsX2_number wsX3_isWithin := goodIn_r _ [5] (by decide +kernel) (by decide +kernel)
set_option maxRecDepth 20000 in
theorem gX2_number_X3_isWithin_n27 : GoodIn wsX2_number (wsX3_isWithin) := ggX2_number_X3_isWithin
theorem dX2_number_0 : decode cX2_number 0 = .ok (.iload_n 1, 1) := by decide +kernel
theorem dX2_number_1 : decode cX2_number 1 = .ok (.iconst 0, 1) := by decide +kernel
theorem dX2_number_2 : decode cX2_number 2 = .ok (.aload_n 0, 1) := by decide +kernel
theorem dX2_number_3 : decode cX2_number 3 = .ok (.getfield 7, 3) := by decide +kernel
theorem dX2_number_6 : decode cX2_number 6 = .ok (.iconst 1, 1) := by decide +kernel
theorem dX2_number_7 : decode cX2_number 7 = .ok (.isub, 1) := by decide +kernel
theorem dX2_number_8 : decode cX2_number 8 = .ok (.invokestatic 27, 3) := by decide +kernel
theorem dX2_number_11 : decode cX2_number 11 = .ok (.ifCond .eq 28, 3) := by decide +kernel
theorem dX2_number_14 : decode cX2_number 14 = .ok (.iload_n 2, 1) := by decide +kernel
theorem dX2_number_15 : decode cX2_number 15 = .ok (.iconst 0, 1) := by decide +kernel
theorem dX2_number_16 : decode cX2_number 16 = .ok (.aload_n 0, 1) := by decide +kernel
theorem dX2_number_17 : decode cX2_number 17 = .ok (.getfield 7, 3) := by decide +kernel
theorem dX2_number_20 : decode cX2_number 20 = .ok (.iconst 1, 1) := by decide +kernel
theorem dX2_number_21 : decode cX2_number 21 = .ok (.isub, 1) := by decide +kernel
theorem dX2_number_22 : decode cX2_number 22 = .ok (.invokestatic 27, 3) := by decide +kernel
theorem dX2_number_25 : decode cX2_number 25 = .ok (.ifCond .eq 14, 3) := by decide +kernel
theorem dX2_number_28 : decode cX2_number 28 = .ok (.aload_n 0, 1) := by decide +kernel
theorem dX2_number_29 : decode cX2_number 29 = .ok (.getfield 15, 3) := by decide +kernel
end
section
theorem dX2_number_32 : decode cX2_number 32 = .ok (.iload_n 1, 1) := by decide +kernel
theorem dX2_number_33 : decode cX2_number 33 = .ok (.aaload, 1) := by decide +kernel
theorem dX2_number_34 : decode cX2_number 34 = .ok (.iload_n 2, 1) := by decide +kernel
theorem dX2_number_35 : decode cX2_number 35 = .ok (.daload, 1) := by decide +kernel
theorem dX2_number_36 : decode cX2_number 36 = .ok (.goto 4, 3) := by decide +kernel
theorem dX2_number_39 : decode cX2_number 39 = .ok (.dconst 0, 1) := by decide +kernel
theorem dX2_number_40 : decode cX2_number 40 = .ok (.dreturn, 1) := by decide +kernel
set_option maxRecDepth 20000 in
theorem ggX2_share_X3_isWithin : GoodIn wsX2_share wsX3_isWithin := goodIn_r _ [5] (by decide +kernel) (by decide +kernel)
set_option maxRecDepth 20000 in
theorem gX2_share_X3_isWithin_n27 : GoodIn wsX2_share (wsX3_isWithin) := ggX2_share_X3_isWithin
theorem dX2_share_0 : decode cX2_share 0 = .ok (.iload_n 1, 1) := by decide +kernel
theorem dX2_share_1 : decode cX2_share 1 = .ok (.iconst 0, 1) := by decide +kernel
theorem dX2_share_2 : decode cX2_share 2 = .ok (.aload_n 0, 1) := by decide +kernel
theorem dX2_share_3 : decode cX2_share 3 = .ok (.getfield 7, 3) := by decide +kernel
theorem dX2_share_6 : decode cX2_share 6 = .ok (.iconst 1, 1) := by decide +kernel
theorem dX2_share_7 : decode cX2_share 7 = .ok (.isub, 1) := by decide +kernel
theorem dX2_share_8 : decode cX2_share 8 = .ok (.invokestatic 27, 3) := by decide +kernel
theorem dX2_share_11 : decode cX2_share 11 = .ok (.ifCond .eq 12, 3) := by decide +kernel
theorem dX2_share_14 : decode cX2_share 14 = .ok (.aload_n 0, 1) := by decide +kernel
theorem dX2_share_15 : decode cX2_share 15 = .ok (.getfield 22, 3) := by decide +kernel
theorem dX2_share_18 : decode cX2_share 18 = .ok (.iload_n 1, 1) := by decide +kernel
theorem dX2_share_19 : decode cX2_share 19 = .ok (.daload, 1) := by decide +kernel
theorem dX2_share_20 : decode cX2_share 20 = .ok (.goto 4, 3) := by decide +kernel
theorem dX2_share_23 : decode cX2_share 23 = .ok (.dconst 0, 1) := by decide +kernel
theorem dX2_share_24 : decode cX2_share 24 = .ok (.dreturn, 1) := by decide +kernel
set_option maxRecDepth 20000 in
theorem ggX2_prepare_X2_rowTimes : GoodIn wsX2_prepare wsX2_rowTimes := goodIn_r _ [9, 1, 10, 11, 12, 13, 14] (by decide +kernel) (by decide +kernel)
set_option maxRecDepth 20000 in
theorem gX2_prepare_X2_rowTimes : GoodIn wsX2_prepare (wsV RX2 33 RX2 yX2_rowTimes wsX2_rowTimes) := goodIn_app (goodIn_of _ (by decide +kernel)) ggX2_prepare_X2_rowTimes
theorem dX2_prepare_0 : decode cX2_prepare 0 = .ok (.dload_n 2, 1) := by decide +kernel
theorem dX2_prepare_1 : decode cX2_prepare 1 = .ok (.dstore 4, 2) := by decide +kernel
theorem dX2_prepare_3 : decode cX2_prepare 3 = .ok (.iconst 0, 1) := by decide +kernel
theorem dX2_prepare_4 : decode cX2_prepare 4 = .ok (.istore 6, 2) := by decide +kernel
theorem dX2_prepare_6 : decode cX2_prepare 6 = .ok (.iload 6, 2) := by decide +kernel
theorem dX2_prepare_8 : decode cX2_prepare 8 = .ok (.aload_n 0, 1) := by decide +kernel
theorem dX2_prepare_9 : decode cX2_prepare 9 = .ok (.getfield 7, 3) := by decide +kernel
theorem dX2_prepare_12 : decode cX2_prepare 12 = .ok (.if_icmp .ge 47, 3) := by decide +kernel
theorem dX2_prepare_15 : decode cX2_prepare 15 = .ok (.iload 6, 2) := by decide +kernel
theorem dX2_prepare_17 : decode cX2_prepare 17 = .ok (.aload_n 1, 1) := by decide +kernel
theorem dX2_prepare_18 : decode cX2_prepare 18 = .ok (.arraylength, 1) := by decide +kernel
theorem dX2_prepare_19 : decode cX2_prepare 19 = .ok (.if_icmp .ge 40, 3) := by decide +kernel
theorem dX2_prepare_22 : decode cX2_prepare 22 = .ok (.aload_n 0, 1) := by decide +kernel
theorem dX2_prepare_23 : decode cX2_prepare 23 = .ok (.getfield 18, 3) := by decide +kernel
theorem dX2_prepare_26 : decode cX2_prepare 26 = .ok (.iload 6, 2) := by decide +kernel
theorem dX2_prepare_28 : decode cX2_prepare 28 = .ok (.aload_n 0, 1) := by decide +kernel
theorem dX2_prepare_29 : decode cX2_prepare 29 = .ok (.iload 6, 2) := by decide +kernel
theorem dX2_prepare_31 : decode cX2_prepare 31 = .ok (.aload_n 1, 1) := by decide +kernel
theorem dX2_prepare_32 : decode cX2_prepare 32 = .ok (.invokevirtual 33, 3) := by decide +kernel
theorem dX2_prepare_35 : decode cX2_prepare 35 = .ok (.dastore, 1) := by decide +kernel
theorem dX2_prepare_36 : decode cX2_prepare 36 = .ok (.dload 4, 2) := by decide +kernel
theorem dX2_prepare_38 : decode cX2_prepare 38 = .ok (.aload_n 1, 1) := by decide +kernel
theorem dX2_prepare_39 : decode cX2_prepare 39 = .ok (.iload 6, 2) := by decide +kernel
theorem dX2_prepare_41 : decode cX2_prepare 41 = .ok (.daload, 1) := by decide +kernel
theorem dX2_prepare_42 : decode cX2_prepare 42 = .ok (.aload_n 0, 1) := by decide +kernel
theorem dX2_prepare_43 : decode cX2_prepare 43 = .ok (.getfield 18, 3) := by decide +kernel
theorem dX2_prepare_46 : decode cX2_prepare 46 = .ok (.iload 6, 2) := by decide +kernel
theorem dX2_prepare_48 : decode cX2_prepare 48 = .ok (.daload, 1) := by decide +kernel
theorem dX2_prepare_49 : decode cX2_prepare 49 = .ok (.dmul, 1) := by decide +kernel
theorem dX2_prepare_50 : decode cX2_prepare 50 = .ok (.dadd, 1) := by decide +kernel
theorem dX2_prepare_51 : decode cX2_prepare 51 = .ok (.dstore 4, 2) := by decide +kernel
theorem dX2_prepare_53 : decode cX2_prepare 53 = .ok (.iinc 6 1, 3) := by decide +kernel
theorem dX2_prepare_56 : decode cX2_prepare 56 = .ok (.goto (-50), 3) := by decide +kernel
theorem dX2_prepare_59 : decode cX2_prepare 59 = .ok (.dload 4, 2) := by decide +kernel
theorem dX2_prepare_61 : decode cX2_prepare 61 = .ok (.ldc2_w 37, 3) := by decide +kernel
theorem dX2_prepare_64 : decode cX2_prepare 64 = .ok (.dcmp .g, 1) := by decide +kernel
theorem dX2_prepare_65 : decode cX2_prepare 65 = .ok (.ifCond .ge 5, 3) := by decide +kernel
theorem dX2_prepare_68 : decode cX2_prepare 68 = .ok (.iconst 0, 1) := by decide +kernel
theorem dX2_prepare_69 : decode cX2_prepare 69 = .ok (.ireturn, 1) := by decide +kernel
theorem dX2_prepare_70 : decode cX2_prepare 70 = .ok (.iconst 0, 1) := by decide +kernel
theorem dX2_prepare_71 : decode cX2_prepare 71 = .ok (.istore 6, 2) := by decide +kernel
theorem dX2_prepare_73 : decode cX2_prepare 73 = .ok (.iload 6, 2) := by decide +kernel
theorem dX2_prepare_75 : decode cX2_prepare 75 = .ok (.aload_n 0, 1) := by decide +kernel
theorem dX2_prepare_76 : decode cX2_prepare 76 = .ok (.getfield 7, 3) := by decide +kernel
theorem dX2_prepare_79 : decode cX2_prepare 79 = .ok (.if_icmp .ge 26, 3) := by decide +kernel
theorem dX2_prepare_82 : decode cX2_prepare 82 = .ok (.aload_n 0, 1) := by decide +kernel
theorem dX2_prepare_83 : decode cX2_prepare 83 = .ok (.getfield 22, 3) := by decide +kernel
theorem dX2_prepare_86 : decode cX2_prepare 86 = .ok (.iload 6, 2) := by decide +kernel
theorem dX2_prepare_88 : decode cX2_prepare 88 = .ok (.aload_n 0, 1) := by decide +kernel
theorem dX2_prepare_89 : decode cX2_prepare 89 = .ok (.getfield 18, 3) := by decide +kernel
theorem dX2_prepare_92 : decode cX2_prepare 92 = .ok (.iload 6, 2) := by decide +kernel
theorem dX2_prepare_94 : decode cX2_prepare 94 = .ok (.daload, 1) := by decide +kernel
theorem dX2_prepare_95 : decode cX2_prepare 95 = .ok (.dload 4, 2) := by decide +kernel
theorem dX2_prepare_97 : decode cX2_prepare 97 = .ok (.ddiv, 1) := by decide +kernel
theorem dX2_prepare_98 : decode cX2_prepare 98 = .ok (.dastore, 1) := by decide +kernel
theorem dX2_prepare_99 : decode cX2_prepare 99 = .ok (.iinc 6 1, 3) := by decide +kernel
theorem dX2_prepare_102 : decode cX2_prepare 102 = .ok (.goto (-29), 3) := by decide +kernel
theorem dX2_prepare_105 : decode cX2_prepare 105 = .ok (.iconst 1, 1) := by decide +kernel
theorem dX2_prepare_106 : decode cX2_prepare 106 = .ok (.ireturn, 1) := by decide +kernel
theorem dX2_rowTimes_0 : decode cX2_rowTimes 0 = .ok (.dconst 0, 1) := by decide +kernel
theorem dX2_rowTimes_1 : decode cX2_rowTimes 1 = .ok (.dstore_n 3, 1) := by decide +kernel
theorem dX2_rowTimes_2 : decode cX2_rowTimes 2 = .ok (.iload_n 1, 1) := by decide +kernel
theorem dX2_rowTimes_3 : decode cX2_rowTimes 3 = .ok (.ifCond .lt 53, 3) := by decide +kernel
theorem dX2_rowTimes_6 : decode cX2_rowTimes 6 = .ok (.iload_n 1, 1) := by decide +kernel
theorem dX2_rowTimes_7 : decode cX2_rowTimes 7 = .ok (.aload_n 0, 1) := by decide +kernel
theorem dX2_rowTimes_8 : decode cX2_rowTimes 8 = .ok (.getfield 7, 3) := by decide +kernel
theorem dX2_rowTimes_11 : decode cX2_rowTimes 11 = .ok (.if_icmp .ge 45, 3) := by decide +kernel
theorem dX2_rowTimes_14 : decode cX2_rowTimes 14 = .ok (.iconst 0, 1) := by decide +kernel
theorem dX2_rowTimes_15 : decode cX2_rowTimes 15 = .ok (.istore 5, 2) := by decide +kernel
theorem dX2_rowTimes_17 : decode cX2_rowTimes 17 = .ok (.iload 5, 2) := by decide +kernel
theorem dX2_rowTimes_19 : decode cX2_rowTimes 19 = .ok (.aload_n 0, 1) := by decide +kernel
theorem dX2_rowTimes_20 : decode cX2_rowTimes 20 = .ok (.getfield 7, 3) := by decide +kernel
theorem dX2_rowTimes_23 : decode cX2_rowTimes 23 = .ok (.if_icmp .ge 33, 3) := by decide +kernel
theorem dX2_rowTimes_26 : decode cX2_rowTimes 26 = .ok (.iload 5, 2) := by decide +kernel
theorem dX2_rowTimes_28 : decode cX2_rowTimes 28 = .ok (.aload_n 2, 1) := by decide +kernel
theorem dX2_rowTimes_29 : decode cX2_rowTimes 29 = .ok (.arraylength, 1) := by decide +kernel
theorem dX2_rowTimes_30 : decode cX2_rowTimes 30 = .ok (.if_icmp .ge 26, 3) := by decide +kernel
theorem dX2_rowTimes_33 : decode cX2_rowTimes 33 = .ok (.dload_n 3, 1) := by decide +kernel
theorem dX2_rowTimes_34 : decode cX2_rowTimes 34 = .ok (.aload_n 0, 1) := by decide +kernel
theorem dX2_rowTimes_35 : decode cX2_rowTimes 35 = .ok (.getfield 15, 3) := by decide +kernel
theorem dX2_rowTimes_38 : decode cX2_rowTimes 38 = .ok (.iload_n 1, 1) := by decide +kernel
theorem dX2_rowTimes_39 : decode cX2_rowTimes 39 = .ok (.aaload, 1) := by decide +kernel
theorem dX2_rowTimes_40 : decode cX2_rowTimes 40 = .ok (.iload 5, 2) := by decide +kernel
theorem dX2_rowTimes_42 : decode cX2_rowTimes 42 = .ok (.daload, 1) := by decide +kernel
theorem dX2_rowTimes_43 : decode cX2_rowTimes 43 = .ok (.aload_n 2, 1) := by decide +kernel
theorem dX2_rowTimes_44 : decode cX2_rowTimes 44 = .ok (.iload 5, 2) := by decide +kernel
theorem dX2_rowTimes_46 : decode cX2_rowTimes 46 = .ok (.daload, 1) := by decide +kernel
theorem dX2_rowTimes_47 : decode cX2_rowTimes 47 = .ok (.dmul, 1) := by decide +kernel
theorem dX2_rowTimes_48 : decode cX2_rowTimes 48 = .ok (.dadd, 1) := by decide +kernel
theorem dX2_rowTimes_49 : decode cX2_rowTimes 49 = .ok (.dstore_n 3, 1) := by decide +kernel
theorem dX2_rowTimes_50 : decode cX2_rowTimes 50 = .ok (.iinc 5 1, 3) := by decide +kernel
theorem dX2_rowTimes_53 : decode cX2_rowTimes 53 = .ok (.goto (-36), 3) := by decide +kernel
theorem dX2_rowTimes_56 : decode cX2_rowTimes 56 = .ok (.dload_n 3, 1) := by decide +kernel
theorem dX2_rowTimes_57 : decode cX2_rowTimes 57 = .ok (.dreturn, 1) := by decide +kernel
theorem dX2_renew_0 : decode cX2_renew 0 = .ok (.dload_n 1, 1) := by decide +kernel
theorem dX2_renew_1 : decode cX2_renew 1 = .ok (.dconst 0, 1) := by decide +kernel
theorem dX2_renew_2 : decode cX2_renew 2 = .ok (.dcmp .g, 1) := by decide +kernel
theorem dX2_renew_3 : decode cX2_renew 3 = .ok (.ifCond .gt 5, 3) := by decide +kernel
theorem dX2_renew_6 : decode cX2_renew 6 = .ok (.iconst 0, 1) := by decide +kernel
theorem dX2_renew_7 : decode cX2_renew 7 = .ok (.ireturn, 1) := by decide +kernel
theorem dX2_renew_8 : decode cX2_renew 8 = .ok (.iconst 0, 1) := by decide +kernel
theorem dX2_renew_9 : decode cX2_renew 9 = .ok (.istore_n 3, 1) := by decide +kernel
theorem dX2_renew_10 : decode cX2_renew 10 = .ok (.iconst 0, 1) := by decide +kernel
theorem dX2_renew_11 : decode cX2_renew 11 = .ok (.istore 4, 2) := by decide +kernel
theorem dX2_renew_13 : decode cX2_renew 13 = .ok (.iload 4, 2) := by decide +kernel
theorem dX2_renew_15 : decode cX2_renew 15 = .ok (.aload_n 0, 1) := by decide +kernel
theorem dX2_renew_16 : decode cX2_renew 16 = .ok (.getfield 7, 3) := by decide +kernel
theorem dX2_renew_19 : decode cX2_renew 19 = .ok (.if_icmp .ge 107, 3) := by decide +kernel
theorem dX2_renew_22 : decode cX2_renew 22 = .ok (.iconst 0, 1) := by decide +kernel
theorem dX2_renew_23 : decode cX2_renew 23 = .ok (.istore 5, 2) := by decide +kernel
theorem dX2_renew_25 : decode cX2_renew 25 = .ok (.iload 5, 2) := by decide +kernel
theorem dX2_renew_27 : decode cX2_renew 27 = .ok (.aload_n 0, 1) := by decide +kernel
theorem dX2_renew_28 : decode cX2_renew 28 = .ok (.getfield 7, 3) := by decide +kernel
theorem dX2_renew_31 : decode cX2_renew 31 = .ok (.if_icmp .ge 47, 3) := by decide +kernel
theorem dX2_renew_34 : decode cX2_renew 34 = .ok (.aload_n 0, 1) := by decide +kernel
theorem dX2_renew_35 : decode cX2_renew 35 = .ok (.getfield 15, 3) := by decide +kernel
theorem dX2_renew_38 : decode cX2_renew 38 = .ok (.iload 4, 2) := by decide +kernel
theorem dX2_renew_40 : decode cX2_renew 40 = .ok (.aaload, 1) := by decide +kernel
theorem dX2_renew_41 : decode cX2_renew 41 = .ok (.iload 5, 2) := by decide +kernel
theorem dX2_renew_43 : decode cX2_renew 43 = .ok (.aload_n 0, 1) := by decide +kernel
theorem dX2_renew_44 : decode cX2_renew 44 = .ok (.getfield 15, 3) := by decide +kernel
theorem dX2_renew_47 : decode cX2_renew 47 = .ok (.iload 4, 2) := by decide +kernel
theorem dX2_renew_49 : decode cX2_renew 49 = .ok (.aaload, 1) := by decide +kernel
theorem dX2_renew_50 : decode cX2_renew 50 = .ok (.iload 5, 2) := by decide +kernel
theorem dX2_renew_52 : decode cX2_renew 52 = .ok (.daload, 1) := by decide +kernel
theorem dX2_renew_53 : decode cX2_renew 53 = .ok (.aload_n 0, 1) := by decide +kernel
theorem dX2_renew_54 : decode cX2_renew 54 = .ok (.getfield 22, 3) := by decide +kernel
theorem dX2_renew_57 : decode cX2_renew 57 = .ok (.iload 4, 2) := by decide +kernel
theorem dX2_renew_59 : decode cX2_renew 59 = .ok (.daload, 1) := by decide +kernel
theorem dX2_renew_60 : decode cX2_renew 60 = .ok (.aload_n 0, 1) := by decide +kernel
theorem dX2_renew_61 : decode cX2_renew 61 = .ok (.getfield 18, 3) := by decide +kernel
theorem dX2_renew_64 : decode cX2_renew 64 = .ok (.iload 5, 2) := by decide +kernel
theorem dX2_renew_66 : decode cX2_renew 66 = .ok (.daload, 1) := by decide +kernel
theorem dX2_renew_67 : decode cX2_renew 67 = .ok (.dmul, 1) := by decide +kernel
theorem dX2_renew_68 : decode cX2_renew 68 = .ok (.dsub, 1) := by decide +kernel
theorem dX2_renew_69 : decode cX2_renew 69 = .ok (.dload_n 1, 1) := by decide +kernel
theorem dX2_renew_70 : decode cX2_renew 70 = .ok (.ddiv, 1) := by decide +kernel
theorem dX2_renew_71 : decode cX2_renew 71 = .ok (.dastore, 1) := by decide +kernel
theorem dX2_renew_72 : decode cX2_renew 72 = .ok (.iinc 5 1, 3) := by decide +kernel
theorem dX2_renew_75 : decode cX2_renew 75 = .ok (.goto (-50), 3) := by decide +kernel
theorem dX2_renew_78 : decode cX2_renew 78 = .ok (.iload_n 3, 1) := by decide +kernel
theorem dX2_renew_79 : decode cX2_renew 79 = .ok (.ifCond .ne 35, 3) := by decide +kernel
theorem dX2_renew_82 : decode cX2_renew 82 = .ok (.aload_n 0, 1) := by decide +kernel
theorem dX2_renew_83 : decode cX2_renew 83 = .ok (.getfield 15, 3) := by decide +kernel
theorem dX2_renew_86 : decode cX2_renew 86 = .ok (.iload 4, 2) := by decide +kernel
theorem dX2_renew_88 : decode cX2_renew 88 = .ok (.aaload, 1) := by decide +kernel
theorem dX2_renew_89 : decode cX2_renew 89 = .ok (.iload 4, 2) := by decide +kernel
theorem dX2_renew_91 : decode cX2_renew 91 = .ok (.daload, 1) := by decide +kernel
theorem dX2_renew_92 : decode cX2_renew 92 = .ok (.ldc2_w 39, 3) := by decide +kernel
theorem dX2_renew_95 : decode cX2_renew 95 = .ok (.dcmp .l, 1) := by decide +kernel
theorem dX2_renew_96 : decode cX2_renew 96 = .ok (.ifCond .gt 18, 3) := by decide +kernel
theorem dX2_renew_99 : decode cX2_renew 99 = .ok (.aload_n 0, 1) := by decide +kernel
theorem dX2_renew_100 : decode cX2_renew 100 = .ok (.getfield 15, 3) := by decide +kernel
theorem dX2_renew_103 : decode cX2_renew 103 = .ok (.iload 4, 2) := by decide +kernel
theorem dX2_renew_105 : decode cX2_renew 105 = .ok (.aaload, 1) := by decide +kernel
theorem dX2_renew_106 : decode cX2_renew 106 = .ok (.iload 4, 2) := by decide +kernel
theorem dX2_renew_108 : decode cX2_renew 108 = .ok (.daload, 1) := by decide +kernel
theorem dX2_renew_109 : decode cX2_renew 109 = .ok (.dconst 0, 1) := by decide +kernel
theorem dX2_renew_110 : decode cX2_renew 110 = .ok (.dcmp .g, 1) := by decide +kernel
theorem dX2_renew_111 : decode cX2_renew 111 = .ok (.ifCond .ge 7, 3) := by decide +kernel
theorem dX2_renew_114 : decode cX2_renew 114 = .ok (.iconst 1, 1) := by decide +kernel
theorem dX2_renew_115 : decode cX2_renew 115 = .ok (.goto 4, 3) := by decide +kernel
theorem dX2_renew_118 : decode cX2_renew 118 = .ok (.iconst 0, 1) := by decide +kernel
theorem dX2_renew_119 : decode cX2_renew 119 = .ok (.istore_n 3, 1) := by decide +kernel
theorem dX2_renew_120 : decode cX2_renew 120 = .ok (.iinc 4 1, 3) := by decide +kernel
theorem dX2_renew_123 : decode cX2_renew 123 = .ok (.goto (-110), 3) := by decide +kernel
theorem dX2_renew_126 : decode cX2_renew 126 = .ok (.iload_n 3, 1) := by decide +kernel
theorem dX2_renew_127 : decode cX2_renew 127 = .ok (.ifCond .ne 7, 3) := by decide +kernel
theorem dX2_renew_130 : decode cX2_renew 130 = .ok (.iconst 1, 1) := by decide +kernel
theorem dX2_renew_131 : decode cX2_renew 131 = .ok (.goto 4, 3) := by decide +kernel
theorem dX2_renew_134 : decode cX2_renew 134 = .ok (.iconst 0, 1) := by decide +kernel
theorem dX2_renew_135 : decode cX2_renew 135 = .ok (.ireturn, 1) := by decide +kernel
set_option maxRecDepth 20000 in
theorem ggX3_init_X1_init : GoodIn wsX3_init wsX1_init := goodIn_r _ [12, 13, 2, 3, 14, 15, 16, 17, 18, 19, 20, 21, 22, 23, 24, 25, 26, 27, 28, 29] (by decide +kernel) (by decide +kernel)
set_option maxRecDepth 20000 in
theorem gX3_init_X1_init_n9 : GoodIn wsX3_init (wsX1_init) := ggX3_init_X1_init
theorem dX3_init_0 : decode cX3_init 0 = .ok (.aload_n 0, 1) := by decide +kernel
theorem dX3_init_1 : decode cX3_init 1 = .ok (.invokespecial 1, 3) := by decide +kernel
theorem dX3_init_4 : decode cX3_init 4 = .ok (.aload_n 0, 1) := by decide +kernel
theorem dX3_init_5 : decode cX3_init 5 = .ok (.new 7, 3) := by decide +kernel
theorem dX3_init_8 : decode cX3_init 8 = .ok (.dup, 1) := by decide +kernel
theorem dX3_init_9 : decode cX3_init 9 = .ok (.invokespecial 9, 3) := by decide +kernel
theorem dX3_init_12 : decode cX3_init 12 = .ok (.putfield 10, 3) := by decide +kernel
theorem dX3_init_15 : decode cX3_init 15 = .ok (.aload_n 0, 1) := by decide +kernel
theorem dX3_init_16 : decode cX3_init 16 = .ok (.bipush 6, 2) := by decide +kernel
theorem dX3_init_18 : decode cX3_init 18 = .ok (.anewarray 16, 3) := by decide +kernel
theorem dX3_init_21 : decode cX3_init 21 = .ok (.putfield 18, 3) := by decide +kernel
theorem dX3_init_24 : decode cX3_init 24 = .ok (.aload_n 0, 1) := by decide +kernel
theorem dX3_init_25 : decode cX3_init 25 = .ok (.iconst 0, 1) := by decide +kernel
theorem dX3_init_26 : decode cX3_init 26 = .ok (.putfield 22, 3) := by decide +kernel
theorem dX3_init_29 : decode cX3_init 29 = .ok (.return_, 1) := by decide +kernel
set_option maxRecDepth 20000 in
theorem ggX3_path_X3_isWithin : GoodIn wsX3_path wsX3_isWithin := goodIn_r _ [9] (by decide +kernel) (by decide +kernel)
set_option maxRecDepth 20000 in
theorem gX3_path_X3_isWithin : GoodIn wsX3_path (va_wsS RX3 26 yX3_isWithin wsX3_isWithin) := goodIn_app (goodIn_of _ (by decide +kernel)) ggX3_path_X3_isWithin
set_option maxRecDepth 20000 in
theorem ggX3_path_X1_tellPath : GoodIn wsX3_path wsX1_tellPath := goodIn_r _ [13, 14, 18, 19, 20, 21, 22, 23, 24] (by decide +kernel) (by decide +kernel)
set_option maxRecDepth 20000 in
theorem gX3_path_X1_tellPath_n42 : GoodIn wsX3_path (wsX1_tellPath) := ggX3_path_X1_tellPath
theorem dX3_path_0 : decode cX3_path 0 = .ok (.iload_n 1, 1) := by decide +kernel
theorem dX3_path_1 : decode cX3_path 1 = .ok (.iconst 0, 1) := by decide +kernel
theorem dX3_path_2 : decode cX3_path 2 = .ok (.bipush 7, 2) := by decide +kernel
theorem dX3_path_4 : decode cX3_path 4 = .ok (.invokestatic 26, 3) := by decide +kernel
theorem dX3_path_7 : decode cX3_path 7 = .ok (.ifCond .ne 13, 3) := by decide +kernel
theorem dX3_path_10 : decode cX3_path 10 = .ok (.new 30, 3) := by decide +kernel
theorem dX3_path_13 : decode cX3_path 13 = .ok (.dup, 1) := by decide +kernel
theorem dX3_path_14 : decode cX3_path 14 = .ok (.ldc 32, 2) := by decide +kernel
theorem dX3_path_16 : decode cX3_path 16 = .ok (.invokespecial 34, 3) := by decide +kernel
theorem dX3_path_19 : decode cX3_path 19 = .ok (.athrow, 1) := by decide +kernel
theorem dX3_path_20 : decode cX3_path 20 = .ok (.iload_n 2, 1) := by decide +kernel
theorem dX3_path_21 : decode cX3_path 21 = .ok (.sipush (-1000), 3) := by decide +kernel
theorem dX3_path_24 : decode cX3_path 24 = .ok (.sipush 1000, 3) := by decide +kernel
theorem dX3_path_27 : decode cX3_path 27 = .ok (.invokestatic 26, 3) := by decide +kernel
theorem dX3_path_30 : decode cX3_path 30 = .ok (.ifCond .ne 13, 3) := by decide +kernel
theorem dX3_path_33 : decode cX3_path 33 = .ok (.new 37, 3) := by decide +kernel
theorem dX3_path_36 : decode cX3_path 36 = .ok (.dup, 1) := by decide +kernel
theorem dX3_path_37 : decode cX3_path 37 = .ok (.ldc 39, 2) := by decide +kernel
theorem dX3_path_39 : decode cX3_path 39 = .ok (.invokespecial 41, 3) := by decide +kernel
theorem dX3_path_42 : decode cX3_path 42 = .ok (.athrow, 1) := by decide +kernel
theorem dX3_path_43 : decode cX3_path 43 = .ok (.aload_n 0, 1) := by decide +kernel
theorem dX3_path_44 : decode cX3_path 44 = .ok (.getfield 10, 3) := by decide +kernel
theorem dX3_path_47 : decode cX3_path 47 = .ok (.iload_n 1, 1) := by decide +kernel
theorem dX3_path_48 : decode cX3_path 48 = .ok (.iload_n 2, 1) := by decide +kernel
theorem dX3_path_49 : decode cX3_path 49 = .ok (.invokevirtual 42, 3) := by decide +kernel
theorem dX3_path_52 : decode cX3_path 52 = .ok (.ireturn, 1) := by decide +kernel
set_option maxRecDepth 20000 in
theorem ggX3_filter_X3_isWithin : GoodIn wsX3_filter wsX3_isWithin := goodIn_r _ [13] (by decide +kernel) (by decide +kernel)
set_option maxRecDepth 20000 in
theorem gX3_filter_X3_isWithin : GoodIn wsX3_filter (va_wsS RX3 26 yX3_isWithin wsX3_isWithin) := goodIn_app (goodIn_of _ (by decide +kernel)) ggX3_filter_X3_isWithin
set_option maxRecDepth 20000 in
theorem ggX3_filter_X3_isStepOf : GoodIn wsX3_filter wsX3_isStepOf := goodIn_r _ [16, 10, 11, 12, 13] (by decide +kernel) (by decide +kernel)
set_option maxRecDepth 20000 in
theorem gX3_filter_X3_isStepOf : GoodIn wsX3_filter (va_wsS RX3 50 yX3_isStepOf wsX3_isStepOf) := goodIn_app (goodIn_of _ (by decide +kernel)) ggX3_filter_X3_isStepOf
set_option maxRecDepth 20000 in
theorem ggX3_filter_X0_init : GoodIn wsX3_filter wsX0_init := goodIn_r _ [18, 19, 20, 21, 22, 23, 24, 25, 26, 27, 28, 29, 30, 31, 32, 33, 34, 35, 36, 37, 38, 39, 43, 44, 45, 46, 47, 48, 49, 50, 51, 52, 53, 54, 55, 56, 57, 58, 59] (by decide +kernel) (by decide +kernel)
set_option maxRecDepth 20000 in
theorem gX3_filter_X0_init_n61 : GoodIn wsX3_filter (wsX0_init) := ggX3_filter_X0_init
theorem dX3_filter_0 : decode cX3_filter 0 = .ok (.iload_n 1, 1) := by decide +kernel
theorem dX3_filter_1 : decode cX3_filter 1 = .ok (.iconst 0, 1) := by decide +kernel
theorem dX3_filter_2 : decode cX3_filter 2 = .ok (.iconst 3, 1) := by decide +kernel
theorem dX3_filter_3 : decode cX3_filter 3 = .ok (.invokestatic 26, 3) := by decide +kernel
theorem dX3_filter_6 : decode cX3_filter 6 = .ok (.ifCond .ne 13, 3) := by decide +kernel
theorem dX3_filter_9 : decode cX3_filter 9 = .ok (.new 37, 3) := by decide +kernel
theorem dX3_filter_12 : decode cX3_filter 12 = .ok (.dup, 1) := by decide +kernel
theorem dX3_filter_13 : decode cX3_filter 13 = .ok (.ldc 46, 2) := by decide +kernel
theorem dX3_filter_15 : decode cX3_filter 15 = .ok (.invokespecial 41, 3) := by decide +kernel
theorem dX3_filter_18 : decode cX3_filter 18 = .ok (.athrow, 1) := by decide +kernel
theorem dX3_filter_19 : decode cX3_filter 19 = .ok (.iload_n 2, 1) := by decide +kernel
theorem dX3_filter_20 : decode cX3_filter 20 = .ok (.iconst 1, 1) := by decide +kernel
theorem dX3_filter_21 : decode cX3_filter 21 = .ok (.iload_n 1, 1) := by decide +kernel
theorem dX3_filter_22 : decode cX3_filter 22 = .ok (.iconst 3, 1) := by decide +kernel
theorem dX3_filter_23 : decode cX3_filter 23 = .ok (.if_icmp .ne 7, 3) := by decide +kernel
theorem dX3_filter_26 : decode cX3_filter 26 = .ok (.iconst 4, 1) := by decide +kernel
theorem dX3_filter_27 : decode cX3_filter 27 = .ok (.goto 5, 3) := by decide +kernel
theorem dX3_filter_30 : decode cX3_filter 30 = .ok (.bipush 8, 2) := by decide +kernel
theorem dX3_filter_32 : decode cX3_filter 32 = .ok (.invokestatic 26, 3) := by decide +kernel
theorem dX3_filter_35 : decode cX3_filter 35 = .ok (.ifCond .ne 13, 3) := by decide +kernel
theorem dX3_filter_38 : decode cX3_filter 38 = .ok (.new 37, 3) := by decide +kernel
theorem dX3_filter_41 : decode cX3_filter 41 = .ok (.dup, 1) := by decide +kernel
theorem dX3_filter_42 : decode cX3_filter 42 = .ok (.ldc 48, 2) := by decide +kernel
theorem dX3_filter_44 : decode cX3_filter 44 = .ok (.invokespecial 41, 3) := by decide +kernel
theorem dX3_filter_47 : decode cX3_filter 47 = .ok (.athrow, 1) := by decide +kernel
theorem dX3_filter_48 : decode cX3_filter 48 = .ok (.iload_n 1, 1) := by decide +kernel
theorem dX3_filter_49 : decode cX3_filter 49 = .ok (.iload_n 3, 1) := by decide +kernel
theorem dX3_filter_50 : decode cX3_filter 50 = .ok (.invokestatic 50, 3) := by decide +kernel
theorem dX3_filter_53 : decode cX3_filter 53 = .ok (.ifCond .ne 13, 3) := by decide +kernel
theorem dX3_filter_56 : decode cX3_filter 56 = .ok (.new 37, 3) := by decide +kernel
theorem dX3_filter_59 : decode cX3_filter 59 = .ok (.dup, 1) := by decide +kernel
theorem dX3_filter_60 : decode cX3_filter 60 = .ok (.ldc 54, 2) := by decide +kernel
theorem dX3_filter_62 : decode cX3_filter 62 = .ok (.invokespecial 41, 3) := by decide +kernel
theorem dX3_filter_65 : decode cX3_filter 65 = .ok (.athrow, 1) := by decide +kernel
theorem dX3_filter_66 : decode cX3_filter 66 = .ok (.aload_n 0, 1) := by decide +kernel
theorem dX3_filter_67 : decode cX3_filter 67 = .ok (.getfield 22, 3) := by decide +kernel
theorem dX3_filter_70 : decode cX3_filter 70 = .ok (.aload_n 0, 1) := by decide +kernel
theorem dX3_filter_71 : decode cX3_filter 71 = .ok (.getfield 18, 3) := by decide +kernel
theorem dX3_filter_74 : decode cX3_filter 74 = .ok (.arraylength, 1) := by decide +kernel
theorem dX3_filter_75 : decode cX3_filter 75 = .ok (.if_icmp .lt 13, 3) := by decide +kernel
theorem dX3_filter_78 : decode cX3_filter 78 = .ok (.new 56, 3) := by decide +kernel
theorem dX3_filter_81 : decode cX3_filter 81 = .ok (.dup, 1) := by decide +kernel
theorem dX3_filter_82 : decode cX3_filter 82 = .ok (.ldc 58, 2) := by decide +kernel
theorem dX3_filter_84 : decode cX3_filter 84 = .ok (.invokespecial 60, 3) := by decide +kernel
theorem dX3_filter_87 : decode cX3_filter 87 = .ok (.athrow, 1) := by decide +kernel
theorem dX3_filter_88 : decode cX3_filter 88 = .ok (.aload_n 0, 1) := by decide +kernel
theorem dX3_filter_89 : decode cX3_filter 89 = .ok (.getfield 22, 3) := by decide +kernel
theorem dX3_filter_92 : decode cX3_filter 92 = .ok (.istore 4, 2) := by decide +kernel
theorem dX3_filter_94 : decode cX3_filter 94 = .ok (.aload_n 0, 1) := by decide +kernel
theorem dX3_filter_95 : decode cX3_filter 95 = .ok (.getfield 18, 3) := by decide +kernel
theorem dX3_filter_98 : decode cX3_filter 98 = .ok (.iload 4, 2) := by decide +kernel
theorem dX3_filter_100 : decode cX3_filter 100 = .ok (.new 16, 3) := by decide +kernel
theorem dX3_filter_103 : decode cX3_filter 103 = .ok (.dup, 1) := by decide +kernel
theorem dX3_filter_104 : decode cX3_filter 104 = .ok (.iload_n 1, 1) := by decide +kernel
theorem dX3_filter_105 : decode cX3_filter 105 = .ok (.iload_n 2, 1) := by decide +kernel
theorem dX3_filter_106 : decode cX3_filter 106 = .ok (.iload_n 3, 1) := by decide +kernel
theorem dX3_filter_107 : decode cX3_filter 107 = .ok (.invokespecial 61, 3) := by decide +kernel
theorem dX3_filter_110 : decode cX3_filter 110 = .ok (.aastore, 1) := by decide +kernel
theorem dX3_filter_111 : decode cX3_filter 111 = .ok (.aload_n 0, 1) := by decide +kernel
theorem dX3_filter_112 : decode cX3_filter 112 = .ok (.dup, 1) := by decide +kernel
theorem dX3_filter_113 : decode cX3_filter 113 = .ok (.getfield 22, 3) := by decide +kernel
theorem dX3_filter_116 : decode cX3_filter 116 = .ok (.iconst 1, 1) := by decide +kernel
theorem dX3_filter_117 : decode cX3_filter 117 = .ok (.iadd, 1) := by decide +kernel
theorem dX3_filter_118 : decode cX3_filter 118 = .ok (.putfield 22, 3) := by decide +kernel
theorem dX3_filter_121 : decode cX3_filter 121 = .ok (.iload 4, 2) := by decide +kernel
theorem dX3_filter_123 : decode cX3_filter 123 = .ok (.ireturn, 1) := by decide +kernel
set_option maxRecDepth 20000 in
theorem ggX3_step_X3_numbered : GoodIn wsX3_step wsX3_numbered := goodIn_r _ [9, 10, 11, 31, 32, 33] (by decide +kernel) (by decide +kernel)
set_option maxRecDepth 20000 in
theorem gX3_step_X3_numbered : GoodIn wsX3_step (wsV RX3 64 RX3 yX3_numbered wsX3_numbered) := goodIn_app (goodIn_of _ (by decide +kernel)) ggX3_step_X3_numbered
set_option maxRecDepth 20000 in
theorem ggX3_step_X3_isStepOf : GoodIn wsX3_step wsX3_isStepOf := goodIn_r _ [14, 15, 16, 8, 17] (by decide +kernel) (by decide +kernel)
set_option maxRecDepth 20000 in
theorem gX3_step_X3_isStepOf : GoodIn wsX3_step (va_wsS RX3 50 yX3_isStepOf wsX3_isStepOf) := goodIn_app (goodIn_of _ (by decide +kernel)) ggX3_step_X3_isStepOf
theorem dX3_step_0 : decode cX3_step 0 = .ok (.aload_n 0, 1) := by decide +kernel
theorem dX3_step_1 : decode cX3_step 1 = .ok (.iload_n 1, 1) := by decide +kernel
theorem dX3_step_2 : decode cX3_step 2 = .ok (.invokevirtual 64, 3) := by decide +kernel
theorem dX3_step_5 : decode cX3_step 5 = .ok (.astore_n 3, 1) := by decide +kernel
theorem dX3_step_6 : decode cX3_step 6 = .ok (.aload_n 3, 1) := by decide +kernel
theorem dX3_step_7 : decode cX3_step 7 = .ok (.ifnonnull 13, 3) := by decide +kernel
theorem dX3_step_10 : decode cX3_step 10 = .ok (.new 30, 3) := by decide +kernel
theorem dX3_step_13 : decode cX3_step 13 = .ok (.dup, 1) := by decide +kernel
theorem dX3_step_14 : decode cX3_step 14 = .ok (.ldc 68, 2) := by decide +kernel
theorem dX3_step_16 : decode cX3_step 16 = .ok (.invokespecial 34, 3) := by decide +kernel
theorem dX3_step_19 : decode cX3_step 19 = .ok (.athrow, 1) := by decide +kernel
theorem dX3_step_20 : decode cX3_step 20 = .ok (.aload_n 3, 1) := by decide +kernel
theorem dX3_step_21 : decode cX3_step 21 = .ok (.getfield 70, 3) := by decide +kernel
theorem dX3_step_24 : decode cX3_step 24 = .ok (.iload_n 2, 1) := by decide +kernel
theorem dX3_step_25 : decode cX3_step 25 = .ok (.invokestatic 50, 3) := by decide +kernel
theorem dX3_step_28 : decode cX3_step 28 = .ok (.ifCond .ne 13, 3) := by decide +kernel
theorem dX3_step_31 : decode cX3_step 31 = .ok (.new 37, 3) := by decide +kernel
theorem dX3_step_34 : decode cX3_step 34 = .ok (.dup, 1) := by decide +kernel
theorem dX3_step_35 : decode cX3_step 35 = .ok (.ldc 54, 2) := by decide +kernel
theorem dX3_step_37 : decode cX3_step 37 = .ok (.invokespecial 41, 3) := by decide +kernel
theorem dX3_step_40 : decode cX3_step 40 = .ok (.athrow, 1) := by decide +kernel
theorem dX3_step_41 : decode cX3_step 41 = .ok (.aload_n 3, 1) := by decide +kernel
theorem dX3_step_42 : decode cX3_step 42 = .ok (.getfield 73, 3) := by decide +kernel
theorem dX3_step_45 : decode cX3_step 45 = .ok (.istore 4, 2) := by decide +kernel
theorem dX3_step_47 : decode cX3_step 47 = .ok (.aload_n 3, 1) := by decide +kernel
theorem dX3_step_48 : decode cX3_step 48 = .ok (.iload_n 2, 1) := by decide +kernel
theorem dX3_step_49 : decode cX3_step 49 = .ok (.putfield 73, 3) := by decide +kernel
theorem dX3_step_52 : decode cX3_step 52 = .ok (.iload 4, 2) := by decide +kernel
theorem dX3_step_54 : decode cX3_step 54 = .ok (.ireturn, 1) := by decide +kernel
set_option maxRecDepth 20000 in
theorem ggX3_watch_X3_numbered : GoodIn wsX3_watch wsX3_numbered := goodIn_r _ [9, 10, 11, 28, 29, 30] (by decide +kernel) (by decide +kernel)
set_option maxRecDepth 20000 in
theorem gX3_watch_X3_numbered : GoodIn wsX3_watch (wsV RX3 64 RX3 yX3_numbered wsX3_numbered) := goodIn_app (goodIn_of _ (by decide +kernel)) ggX3_watch_X3_numbered
set_option maxRecDepth 20000 in
theorem ggX3_watch_X3_isWithin : GoodIn wsX3_watch wsX3_isWithin := goodIn_r _ [14] (by decide +kernel) (by decide +kernel)
set_option maxRecDepth 20000 in
theorem gX3_watch_X3_isWithin : GoodIn wsX3_watch (va_wsS RX3 26 yX3_isWithin wsX3_isWithin) := goodIn_app (goodIn_of _ (by decide +kernel)) ggX3_watch_X3_isWithin
theorem dX3_watch_0 : decode cX3_watch 0 = .ok (.aload_n 0, 1) := by decide +kernel
theorem dX3_watch_1 : decode cX3_watch 1 = .ok (.iload_n 1, 1) := by decide +kernel
theorem dX3_watch_2 : decode cX3_watch 2 = .ok (.invokevirtual 64, 3) := by decide +kernel
theorem dX3_watch_5 : decode cX3_watch 5 = .ok (.astore 4, 2) := by decide +kernel
theorem dX3_watch_7 : decode cX3_watch 7 = .ok (.aload 4, 2) := by decide +kernel
theorem dX3_watch_9 : decode cX3_watch 9 = .ok (.ifnonnull 13, 3) := by decide +kernel
theorem dX3_watch_12 : decode cX3_watch 12 = .ok (.new 30, 3) := by decide +kernel
theorem dX3_watch_15 : decode cX3_watch 15 = .ok (.dup, 1) := by decide +kernel
theorem dX3_watch_16 : decode cX3_watch 16 = .ok (.ldc 68, 2) := by decide +kernel
theorem dX3_watch_18 : decode cX3_watch 18 = .ok (.invokespecial 34, 3) := by decide +kernel
theorem dX3_watch_21 : decode cX3_watch 21 = .ok (.athrow, 1) := by decide +kernel
theorem dX3_watch_22 : decode cX3_watch 22 = .ok (.iload_n 2, 1) := by decide +kernel
theorem dX3_watch_23 : decode cX3_watch 23 = .ok (.iconst 0, 1) := by decide +kernel
theorem dX3_watch_24 : decode cX3_watch 24 = .ok (.sipush 1000, 3) := by decide +kernel
theorem dX3_watch_27 : decode cX3_watch 27 = .ok (.invokestatic 26, 3) := by decide +kernel
theorem dX3_watch_30 : decode cX3_watch 30 = .ok (.ifCond .ne 13, 3) := by decide +kernel
theorem dX3_watch_33 : decode cX3_watch 33 = .ok (.new 37, 3) := by decide +kernel
theorem dX3_watch_36 : decode cX3_watch 36 = .ok (.dup, 1) := by decide +kernel
theorem dX3_watch_37 : decode cX3_watch 37 = .ok (.ldc 39, 2) := by decide +kernel
theorem dX3_watch_39 : decode cX3_watch 39 = .ok (.invokespecial 41, 3) := by decide +kernel
theorem dX3_watch_42 : decode cX3_watch 42 = .ok (.athrow, 1) := by decide +kernel
theorem dX3_watch_43 : decode cX3_watch 43 = .ok (.iload_n 3, 1) := by decide +kernel
theorem dX3_watch_44 : decode cX3_watch 44 = .ok (.iconst 0, 1) := by decide +kernel
theorem dX3_watch_45 : decode cX3_watch 45 = .ok (.bipush 20, 2) := by decide +kernel
theorem dX3_watch_47 : decode cX3_watch 47 = .ok (.invokestatic 26, 3) := by decide +kernel
theorem dX3_watch_50 : decode cX3_watch 50 = .ok (.ifCond .ne 13, 3) := by decide +kernel
theorem dX3_watch_53 : decode cX3_watch 53 = .ok (.new 37, 3) := by decide +kernel
theorem dX3_watch_56 : decode cX3_watch 56 = .ok (.dup, 1) := by decide +kernel
theorem dX3_watch_57 : decode cX3_watch 57 = .ok (.ldc 76, 2) := by decide +kernel
theorem dX3_watch_59 : decode cX3_watch 59 = .ok (.invokespecial 41, 3) := by decide +kernel
theorem dX3_watch_62 : decode cX3_watch 62 = .ok (.athrow, 1) := by decide +kernel
theorem dX3_watch_63 : decode cX3_watch 63 = .ok (.aload 4, 2) := by decide +kernel
theorem dX3_watch_65 : decode cX3_watch 65 = .ok (.iload_n 2, 1) := by decide +kernel
theorem dX3_watch_66 : decode cX3_watch 66 = .ok (.putfield 78, 3) := by decide +kernel
theorem dX3_watch_69 : decode cX3_watch 69 = .ok (.aload 4, 2) := by decide +kernel
theorem dX3_watch_71 : decode cX3_watch 71 = .ok (.iload_n 3, 1) := by decide +kernel
theorem dX3_watch_72 : decode cX3_watch 72 = .ok (.putfield 81, 3) := by decide +kernel
theorem dX3_watch_75 : decode cX3_watch 75 = .ok (.return_, 1) := by decide +kernel
set_option maxRecDepth 20000 in
theorem ggX3_begin_X3_numbered : GoodIn wsX3_begin wsX3_numbered := goodIn_r _ [7, 8, 9, 33, 34, 35] (by decide +kernel) (by decide +kernel)
set_option maxRecDepth 20000 in
theorem gX3_begin_X3_numbered : GoodIn wsX3_begin (wsV RX3 64 RX3 yX3_numbered wsX3_numbered) := goodIn_app (goodIn_of _ (by decide +kernel)) ggX3_begin_X3_numbered
set_option maxRecDepth 20000 in
theorem ggX3_begin_X0_restart : GoodIn wsX3_begin wsX0_restart := goodIn_r _ [13, 14, 15, 16, 17, 18, 19, 20, 21, 22, 23, 24, 25, 26, 27, 28, 29, 30, 31, 32, 36, 37, 38, 39, 40, 41, 42, 43, 44, 45, 46, 47, 48, 49, 50, 51, 52] (by decide +kernel) (by decide +kernel)
set_option maxRecDepth 20000 in
theorem gX3_begin_X0_restart_n84 : GoodIn wsX3_begin (wsX0_restart) := ggX3_begin_X0_restart
theorem dX3_begin_0 : decode cX3_begin 0 = .ok (.aload_n 0, 1) := by decide +kernel
theorem dX3_begin_1 : decode cX3_begin 1 = .ok (.iload_n 1, 1) := by decide +kernel
theorem dX3_begin_2 : decode cX3_begin 2 = .ok (.invokevirtual 64, 3) := by decide +kernel
theorem dX3_begin_5 : decode cX3_begin 5 = .ok (.astore_n 2, 1) := by decide +kernel
theorem dX3_begin_6 : decode cX3_begin 6 = .ok (.aload_n 2, 1) := by decide +kernel
theorem dX3_begin_7 : decode cX3_begin 7 = .ok (.ifnonnull 13, 3) := by decide +kernel
theorem dX3_begin_10 : decode cX3_begin 10 = .ok (.new 30, 3) := by decide +kernel
theorem dX3_begin_13 : decode cX3_begin 13 = .ok (.dup, 1) := by decide +kernel
theorem dX3_begin_14 : decode cX3_begin 14 = .ok (.ldc 68, 2) := by decide +kernel
theorem dX3_begin_16 : decode cX3_begin 16 = .ok (.invokespecial 34, 3) := by decide +kernel
theorem dX3_begin_19 : decode cX3_begin 19 = .ok (.athrow, 1) := by decide +kernel
theorem dX3_begin_20 : decode cX3_begin 20 = .ok (.aload_n 2, 1) := by decide +kernel
theorem dX3_begin_21 : decode cX3_begin 21 = .ok (.invokevirtual 84, 3) := by decide +kernel
theorem dX3_begin_24 : decode cX3_begin 24 = .ok (.return_, 1) := by decide +kernel
set_option maxRecDepth 20000 in
theorem ggX3_feed_X3_isWithin : GoodIn wsX3_feed wsX3_isWithin := goodIn_r _ [9] (by decide +kernel) (by decide +kernel)
set_option maxRecDepth 20000 in
theorem gX3_feed_X3_isWithin : GoodIn wsX3_feed (va_wsS RX3 26 yX3_isWithin wsX3_isWithin) := goodIn_app (goodIn_of _ (by decide +kernel)) ggX3_feed_X3_isWithin
set_option maxRecDepth 20000 in
theorem ggX3_feed_X3_takeSample : GoodIn wsX3_feed wsX3_takeSample := goodIn_r _ [13, 5, 14, 15, 16, 17, 18, 19, 20, 21, 22, 23, 24, 25, 26, 27, 28, 29, 30, 31, 32, 33, 34, 35, 36, 37, 8, 38, 39, 40, 41, 42, 43, 44, 45, 46, 47, 48, 49, 50, 51, 52, 53, 54, 55, 56, 57, 58, 59, 60, 61, 62, 63, 64, 65, 66, 67, 68, 69, 70, 71, 72, 73, 74, 75, 76, 77, 78, 79, 80, 81, 82, 83, 84, 85, 86, 87, 88, 89, 90, 91, 92, 7, 9, 93, 94, 95, 96, 97, 98, 99, 100, 101, 102, 103, 104, 105, 106, 107, 108, 109, 110, 111, 112, 113, 114, 115, 116, 117, 118, 119, 120, 121, 122, 123, 124, 125, 126, 127, 128, 129, 130, 131, 132, 133, 134, 135, 136, 137, 138, 139, 140, 141, 142, 143, 144, 145, 146, 147] (by decide +kernel) (by decide +kernel)
set_option maxRecDepth 20000 in
theorem gX3_feed_X3_takeSample : GoodIn wsX3_feed (wsV RX3 96 RX3 yX3_takeSample wsX3_takeSample) := goodIn_app (goodIn_of _ (by decide +kernel)) ggX3_feed_X3_takeSample
theorem dX3_feed_0 : decode cX3_feed 0 = .ok (.iload_n 1, 1) := by decide +kernel
theorem dX3_feed_1 : decode cX3_feed 1 = .ok (.sipush (-1000), 3) := by decide +kernel
theorem dX3_feed_4 : decode cX3_feed 4 = .ok (.sipush 1000, 3) := by decide +kernel
theorem dX3_feed_7 : decode cX3_feed 7 = .ok (.invokestatic 26, 3) := by decide +kernel
theorem dX3_feed_10 : decode cX3_feed 10 = .ok (.ifCond .ne 13, 3) := by decide +kernel
theorem dX3_feed_13 : decode cX3_feed 13 = .ok (.new 37, 3) := by decide +kernel
theorem dX3_feed_16 : decode cX3_feed 16 = .ok (.dup, 1) := by decide +kernel
theorem dX3_feed_17 : decode cX3_feed 17 = .ok (.ldc 87, 2) := by decide +kernel
theorem dX3_feed_19 : decode cX3_feed 19 = .ok (.invokespecial 41, 3) := by decide +kernel
theorem dX3_feed_22 : decode cX3_feed 22 = .ok (.athrow, 1) := by decide +kernel
theorem dX3_feed_23 : decode cX3_feed 23 = .ok (.iload_n 2, 1) := by decide +kernel
theorem dX3_feed_24 : decode cX3_feed 24 = .ok (.sipush (-1000), 3) := by decide +kernel
theorem dX3_feed_27 : decode cX3_feed 27 = .ok (.sipush 1000, 3) := by decide +kernel
theorem dX3_feed_30 : decode cX3_feed 30 = .ok (.invokestatic 26, 3) := by decide +kernel
theorem dX3_feed_33 : decode cX3_feed 33 = .ok (.ifCond .ne 13, 3) := by decide +kernel
theorem dX3_feed_36 : decode cX3_feed 36 = .ok (.new 37, 3) := by decide +kernel
theorem dX3_feed_39 : decode cX3_feed 39 = .ok (.dup, 1) := by decide +kernel
theorem dX3_feed_40 : decode cX3_feed 40 = .ok (.ldc 89, 2) := by decide +kernel
theorem dX3_feed_42 : decode cX3_feed 42 = .ok (.invokespecial 41, 3) := by decide +kernel
theorem dX3_feed_45 : decode cX3_feed 45 = .ok (.athrow, 1) := by decide +kernel
theorem dX3_feed_46 : decode cX3_feed 46 = .ok (.aload_n 0, 1) := by decide +kernel
theorem dX3_feed_47 : decode cX3_feed 47 = .ok (.getfield 10, 3) := by decide +kernel
theorem dX3_feed_50 : decode cX3_feed 50 = .ok (.getfield 91, 3) := by decide +kernel
theorem dX3_feed_53 : decode cX3_feed 53 = .ok (.sipush 2000, 3) := by decide +kernel
theorem dX3_feed_56 : decode cX3_feed 56 = .ok (.if_icmp .lt 13, 3) := by decide +kernel
theorem dX3_feed_59 : decode cX3_feed 59 = .ok (.new 56, 3) := by decide +kernel
theorem dX3_feed_62 : decode cX3_feed 62 = .ok (.dup, 1) := by decide +kernel
theorem dX3_feed_63 : decode cX3_feed 63 = .ok (.ldc 94, 2) := by decide +kernel
theorem dX3_feed_65 : decode cX3_feed 65 = .ok (.invokespecial 60, 3) := by decide +kernel
theorem dX3_feed_68 : decode cX3_feed 68 = .ok (.athrow, 1) := by decide +kernel
theorem dX3_feed_69 : decode cX3_feed 69 = .ok (.aload_n 0, 1) := by decide +kernel
theorem dX3_feed_70 : decode cX3_feed 70 = .ok (.iload_n 1, 1) := by decide +kernel
theorem dX3_feed_71 : decode cX3_feed 71 = .ok (.iload_n 2, 1) := by decide +kernel
theorem dX3_feed_72 : decode cX3_feed 72 = .ok (.invokevirtual 96, 3) := by decide +kernel
theorem dX3_feed_75 : decode cX3_feed 75 = .ok (.aload_n 0, 1) := by decide +kernel
theorem dX3_feed_76 : decode cX3_feed 76 = .ok (.getfield 10, 3) := by decide +kernel
theorem dX3_feed_79 : decode cX3_feed 79 = .ok (.getfield 91, 3) := by decide +kernel
theorem dX3_feed_82 : decode cX3_feed 82 = .ok (.ireturn, 1) := by decide +kernel
set_option maxRecDepth 20000 in
theorem ggX3_script_X3_isWithin : GoodIn wsX3_script wsX3_isWithin := goodIn_r _ [9] (by decide +kernel) (by decide +kernel)
set_option maxRecDepth 20000 in
theorem gX3_script_X3_isWithin : GoodIn wsX3_script (va_wsS RX3 26 yX3_isWithin wsX3_isWithin) := goodIn_app (goodIn_of _ (by decide +kernel)) ggX3_script_X3_isWithin
set_option maxRecDepth 20000 in
theorem ggX3_script_X3_takeSample : GoodIn wsX3_script wsX3_takeSample := goodIn_r _ [13, 5, 14, 15, 16, 17, 18, 19, 20, 21, 22, 23, 24, 25, 26, 27, 28, 29, 30, 31, 32, 33, 34, 35, 36, 37, 8, 38, 39, 40, 41, 42, 43, 44, 45, 46, 47, 48, 49, 50, 51, 52, 53, 54, 55, 56, 57, 58, 59, 60, 61, 62, 63, 64, 65, 66, 67, 68, 69, 70, 71, 72, 73, 74, 75, 76, 77, 78, 79, 80, 81, 82, 83, 84, 85, 86, 87, 88, 89, 90, 91, 92, 7, 9, 93, 94, 95, 96, 97, 98, 99, 100, 101, 102, 103, 104, 105, 106, 107, 108, 109, 110, 111, 112, 113, 114, 115, 116, 117, 118, 119, 120, 121, 122, 123, 124, 125, 126, 127, 128, 129, 130, 131, 132, 133, 134, 135, 136, 137, 138, 139, 140, 141, 142, 143, 144, 145, 146, 147] (by decide +kernel) (by decide +kernel)
set_option maxRecDepth 20000 in
theorem gX3_script_X3_takeSample : GoodIn wsX3_script (wsV RX3 96 RX3 yX3_takeSample wsX3_takeSample) := goodIn_app (goodIn_of _ (by decide +kernel)) ggX3_script_X3_takeSample
theorem dX3_script_0 : decode cX3_script 0 = .ok (.iload_n 1, 1) := by decide +kernel
theorem dX3_script_1 : decode cX3_script 1 = .ok (.iconst 0, 1) := by decide +kernel
theorem dX3_script_2 : decode cX3_script 2 = .ok (.sipush 2000, 3) := by decide +kernel
theorem dX3_script_5 : decode cX3_script 5 = .ok (.invokestatic 26, 3) := by decide +kernel
theorem dX3_script_8 : decode cX3_script 8 = .ok (.ifCond .ne 13, 3) := by decide +kernel
theorem dX3_script_11 : decode cX3_script 11 = .ok (.new 37, 3) := by decide +kernel
theorem dX3_script_14 : decode cX3_script 14 = .ok (.dup, 1) := by decide +kernel
theorem dX3_script_15 : decode cX3_script 15 = .ok (.ldc 100, 2) := by decide +kernel
theorem dX3_script_17 : decode cX3_script 17 = .ok (.invokespecial 41, 3) := by decide +kernel
theorem dX3_script_20 : decode cX3_script 20 = .ok (.athrow, 1) := by decide +kernel
theorem dX3_script_21 : decode cX3_script 21 = .ok (.iload_n 2, 1) := by decide +kernel
theorem dX3_script_22 : decode cX3_script 22 = .ok (.iconst 1, 1) := by decide +kernel
theorem dX3_script_23 : decode cX3_script 23 = .ok (.bipush 100, 2) := by decide +kernel
theorem dX3_script_25 : decode cX3_script 25 = .ok (.invokestatic 26, 3) := by decide +kernel
theorem dX3_script_28 : decode cX3_script 28 = .ok (.ifCond .ne 13, 3) := by decide +kernel
theorem dX3_script_31 : decode cX3_script 31 = .ok (.new 37, 3) := by decide +kernel
theorem dX3_script_34 : decode cX3_script 34 = .ok (.dup, 1) := by decide +kernel
theorem dX3_script_35 : decode cX3_script 35 = .ok (.ldc 102, 2) := by decide +kernel
theorem dX3_script_37 : decode cX3_script 37 = .ok (.invokespecial 41, 3) := by decide +kernel
theorem dX3_script_40 : decode cX3_script 40 = .ok (.athrow, 1) := by decide +kernel
theorem dX3_script_41 : decode cX3_script 41 = .ok (.aload_n 0, 1) := by decide +kernel
theorem dX3_script_42 : decode cX3_script 42 = .ok (.getfield 10, 3) := by decide +kernel
theorem dX3_script_45 : decode cX3_script 45 = .ok (.getfield 91, 3) := by decide +kernel
theorem dX3_script_48 : decode cX3_script 48 = .ok (.iload_n 2, 1) := by decide +kernel
theorem dX3_script_49 : decode cX3_script 49 = .ok (.iadd, 1) := by decide +kernel
theorem dX3_script_50 : decode cX3_script 50 = .ok (.sipush 2000, 3) := by decide +kernel
theorem dX3_script_53 : decode cX3_script 53 = .ok (.if_icmp .le 13, 3) := by decide +kernel
theorem dX3_script_56 : decode cX3_script 56 = .ok (.new 56, 3) := by decide +kernel
theorem dX3_script_59 : decode cX3_script 59 = .ok (.dup, 1) := by decide +kernel
theorem dX3_script_60 : decode cX3_script 60 = .ok (.ldc 94, 2) := by decide +kernel
theorem dX3_script_62 : decode cX3_script 62 = .ok (.invokespecial 60, 3) := by decide +kernel
theorem dX3_script_65 : decode cX3_script 65 = .ok (.athrow, 1) := by decide +kernel
theorem dX3_script_66 : decode cX3_script 66 = .ok (.iload_n 1, 1) := by decide +kernel
theorem dX3_script_67 : decode cX3_script 67 = .ok (.istore_n 3, 1) := by decide +kernel
theorem dX3_script_68 : decode cX3_script 68 = .ok (.iconst 0, 1) := by decide +kernel
theorem dX3_script_69 : decode cX3_script 69 = .ok (.istore 4, 2) := by decide +kernel
theorem dX3_script_71 : decode cX3_script 71 = .ok (.iload 4, 2) := by decide +kernel
theorem dX3_script_73 : decode cX3_script 73 = .ok (.iload_n 2, 1) := by decide +kernel
theorem dX3_script_74 : decode cX3_script 74 = .ok (.if_icmp .ge 32, 3) := by decide +kernel
theorem dX3_script_77 : decode cX3_script 77 = .ok (.bipush 7, 2) := by decide +kernel
theorem dX3_script_79 : decode cX3_script 79 = .ok (.iload_n 3, 1) := by decide +kernel
theorem dX3_script_80 : decode cX3_script 80 = .ok (.imul, 1) := by decide +kernel
theorem dX3_script_81 : decode cX3_script 81 = .ok (.sipush 1001, 3) := by decide +kernel
theorem dX3_script_84 : decode cX3_script 84 = .ok (.iadd, 1) := by decide +kernel
theorem dX3_script_85 : decode cX3_script 85 = .ok (.sipush 2001, 3) := by decide +kernel
theorem dX3_script_88 : decode cX3_script 88 = .ok (.irem, 1) := by decide +kernel
theorem dX3_script_89 : decode cX3_script 89 = .ok (.istore_n 3, 1) := by decide +kernel
theorem dX3_script_90 : decode cX3_script 90 = .ok (.aload_n 0, 1) := by decide +kernel
theorem dX3_script_91 : decode cX3_script 91 = .ok (.iload_n 3, 1) := by decide +kernel
theorem dX3_script_92 : decode cX3_script 92 = .ok (.sipush 1000, 3) := by decide +kernel
theorem dX3_script_95 : decode cX3_script 95 = .ok (.isub, 1) := by decide +kernel
theorem dX3_script_96 : decode cX3_script 96 = .ok (.iconst 0, 1) := by decide +kernel
theorem dX3_script_97 : decode cX3_script 97 = .ok (.invokevirtual 96, 3) := by decide +kernel
theorem dX3_script_100 : decode cX3_script 100 = .ok (.iinc 4 1, 3) := by decide +kernel
theorem dX3_script_103 : decode cX3_script 103 = .ok (.goto (-32), 3) := by decide +kernel
theorem dX3_script_106 : decode cX3_script 106 = .ok (.iload_n 3, 1) := by decide +kernel
theorem dX3_script_107 : decode cX3_script 107 = .ok (.ireturn, 1) := by decide +kernel
set_option maxRecDepth 20000 in
theorem ggX3_weight_X3_numbered : GoodIn wsX3_weight wsX3_numbered := goodIn_r _ [7, 8, 9, 23, 24, 25] (by decide +kernel) (by decide +kernel)
set_option maxRecDepth 20000 in
theorem gX3_weight_X3_numbered : GoodIn wsX3_weight (wsV RX3 64 RX3 yX3_numbered wsX3_numbered) := goodIn_app (goodIn_of _ (by decide +kernel)) ggX3_weight_X3_numbered
theorem dX3_weight_0 : decode cX3_weight 0 = .ok (.aload_n 0, 1) := by decide +kernel
theorem dX3_weight_1 : decode cX3_weight 1 = .ok (.iload_n 1, 1) := by decide +kernel
theorem dX3_weight_2 : decode cX3_weight 2 = .ok (.invokevirtual 64, 3) := by decide +kernel
theorem dX3_weight_5 : decode cX3_weight 5 = .ok (.astore_n 3, 1) := by decide +kernel
theorem dX3_weight_6 : decode cX3_weight 6 = .ok (.aload_n 3, 1) := by decide +kernel
theorem dX3_weight_7 : decode cX3_weight 7 = .ok (.ifnonnull 13, 3) := by decide +kernel
theorem dX3_weight_10 : decode cX3_weight 10 = .ok (.new 30, 3) := by decide +kernel
theorem dX3_weight_13 : decode cX3_weight 13 = .ok (.dup, 1) := by decide +kernel
theorem dX3_weight_14 : decode cX3_weight 14 = .ok (.ldc 68, 2) := by decide +kernel
theorem dX3_weight_16 : decode cX3_weight 16 = .ok (.invokespecial 34, 3) := by decide +kernel
theorem dX3_weight_19 : decode cX3_weight 19 = .ok (.athrow, 1) := by decide +kernel
theorem dX3_weight_20 : decode cX3_weight 20 = .ok (.iload_n 2, 1) := by decide +kernel
theorem dX3_weight_21 : decode cX3_weight 21 = .ok (.ifCond .lt 12, 3) := by decide +kernel
theorem dX3_weight_24 : decode cX3_weight 24 = .ok (.iload_n 2, 1) := by decide +kernel
theorem dX3_weight_25 : decode cX3_weight 25 = .ok (.aload_n 3, 1) := by decide +kernel
theorem dX3_weight_26 : decode cX3_weight 26 = .ok (.getfield 104, 3) := by decide +kernel
theorem dX3_weight_29 : decode cX3_weight 29 = .ok (.arraylength, 1) := by decide +kernel
theorem dX3_weight_30 : decode cX3_weight 30 = .ok (.if_icmp .lt 13, 3) := by decide +kernel
theorem dX3_weight_33 : decode cX3_weight 33 = .ok (.new 30, 3) := by decide +kernel
theorem dX3_weight_36 : decode cX3_weight 36 = .ok (.dup, 1) := by decide +kernel
theorem dX3_weight_37 : decode cX3_weight 37 = .ok (.ldc 108, 2) := by decide +kernel
theorem dX3_weight_39 : decode cX3_weight 39 = .ok (.invokespecial 34, 3) := by decide +kernel
theorem dX3_weight_42 : decode cX3_weight 42 = .ok (.athrow, 1) := by decide +kernel
theorem dX3_weight_43 : decode cX3_weight 43 = .ok (.aload_n 3, 1) := by decide +kernel
theorem dX3_weight_44 : decode cX3_weight 44 = .ok (.getfield 104, 3) := by decide +kernel
theorem dX3_weight_47 : decode cX3_weight 47 = .ok (.iload_n 2, 1) := by decide +kernel
theorem dX3_weight_48 : decode cX3_weight 48 = .ok (.daload, 1) := by decide +kernel
theorem dX3_weight_49 : decode cX3_weight 49 = .ok (.dreturn, 1) := by decide +kernel
set_option maxRecDepth 20000 in
theorem ggX3_of_X3_numbered : GoodIn wsX3_of wsX3_numbered := goodIn_r _ [10, 11, 12, 46, 47, 48] (by decide +kernel) (by decide +kernel)
set_option maxRecDepth 20000 in
theorem gX3_of_X3_numbered : GoodIn wsX3_of (wsV RX3 64 RX3 yX3_numbered wsX3_numbered) := goodIn_app (goodIn_of _ (by decide +kernel)) ggX3_of_X3_numbered
set_option maxRecDepth 20000 in
theorem ggX3_of_X1_offness : GoodIn wsX3_of wsX1_offness := goodIn_r _ [16, 17, 18, 49, 50, 51, 52, 53, 54, 55] (by decide +kernel) (by decide +kernel)
set_option maxRecDepth 20000 in
theorem gX3_of_X1_offness_n117 : GoodIn wsX3_of (wsX1_offness) := ggX3_of_X1_offness
set_option maxRecDepth 20000 in
theorem ggX3_of_X0_power : GoodIn wsX3_of wsX0_power := goodIn_r _ [22, 23, 24, 25, 26, 27, 28, 29, 30, 31, 32, 33, 34, 35, 36, 37, 38, 39, 40, 41, 42, 43, 44, 45] (by decide +kernel) (by decide +kernel)
set_option maxRecDepth 20000 in
theorem gX3_of_X0_power_n121 : GoodIn wsX3_of (wsX0_power) := ggX3_of_X0_power
theorem dX3_of_0 : decode cX3_of 0 = .ok (.aload_n 0, 1) := by decide +kernel
theorem dX3_of_1 : decode cX3_of 1 = .ok (.iload_n 1, 1) := by decide +kernel
theorem dX3_of_2 : decode cX3_of 2 = .ok (.invokevirtual 64, 3) := by decide +kernel
theorem dX3_of_5 : decode cX3_of 5 = .ok (.astore_n 3, 1) := by decide +kernel
theorem dX3_of_6 : decode cX3_of 6 = .ok (.aload_n 3, 1) := by decide +kernel
theorem dX3_of_7 : decode cX3_of 7 = .ok (.ifnonnull 13, 3) := by decide +kernel
theorem dX3_of_10 : decode cX3_of 10 = .ok (.new 30, 3) := by decide +kernel
theorem dX3_of_13 : decode cX3_of 13 = .ok (.dup, 1) := by decide +kernel
theorem dX3_of_14 : decode cX3_of 14 = .ok (.ldc 68, 2) := by decide +kernel
theorem dX3_of_16 : decode cX3_of 16 = .ok (.invokespecial 34, 3) := by decide +kernel
theorem dX3_of_19 : decode cX3_of 19 = .ok (.athrow, 1) := by decide +kernel
theorem dX3_of_20 : decode cX3_of 20 = .ok (.iload_n 2, 1) := by decide +kernel
theorem dX3_of_21 : decode cX3_of 21 = .ok (.tableswitch 58 0 3 #[31, 36, 41, 53], 31) := by decide +kernel
theorem dX3_of_52 : decode cX3_of 52 = .ok (.aload_n 3, 1) := by decide +kernel
theorem dX3_of_53 : decode cX3_of 53 = .ok (.getfield 110, 3) := by decide +kernel
theorem dX3_of_56 : decode cX3_of 56 = .ok (.dreturn, 1) := by decide +kernel
theorem dX3_of_57 : decode cX3_of 57 = .ok (.aload_n 3, 1) := by decide +kernel
theorem dX3_of_58 : decode cX3_of 58 = .ok (.getfield 114, 3) := by decide +kernel
theorem dX3_of_61 : decode cX3_of 61 = .ok (.dreturn, 1) := by decide +kernel
theorem dX3_of_62 : decode cX3_of 62 = .ok (.aload_n 0, 1) := by decide +kernel
theorem dX3_of_63 : decode cX3_of 63 = .ok (.getfield 10, 3) := by decide +kernel
theorem dX3_of_66 : decode cX3_of 66 = .ok (.aload_n 3, 1) := by decide +kernel
theorem dX3_of_67 : decode cX3_of 67 = .ok (.getfield 104, 3) := by decide +kernel
theorem dX3_of_70 : decode cX3_of 70 = .ok (.invokevirtual 117, 3) := by decide +kernel
theorem dX3_of_73 : decode cX3_of 73 = .ok (.dreturn, 1) := by decide +kernel
theorem dX3_of_74 : decode cX3_of 74 = .ok (.aload_n 3, 1) := by decide +kernel
theorem dX3_of_75 : decode cX3_of 75 = .ok (.invokevirtual 121, 3) := by decide +kernel
theorem dX3_of_78 : decode cX3_of 78 = .ok (.dreturn, 1) := by decide +kernel
theorem dX3_of_79 : decode cX3_of 79 = .ok (.new 37, 3) := by decide +kernel
theorem dX3_of_82 : decode cX3_of 82 = .ok (.dup, 1) := by decide +kernel
theorem dX3_of_83 : decode cX3_of 83 = .ok (.ldc 125, 2) := by decide +kernel
theorem dX3_of_85 : decode cX3_of 85 = .ok (.invokespecial 41, 3) := by decide +kernel
theorem dX3_of_88 : decode cX3_of 88 = .ok (.athrow, 1) := by decide +kernel
set_option maxRecDepth 20000 in
theorem ggX3_count_X3_numbered : GoodIn wsX3_count wsX3_numbered := goodIn_r _ [9, 10, 11, 25, 26, 27] (by decide +kernel) (by decide +kernel)
set_option maxRecDepth 20000 in
theorem gX3_count_X3_numbered : GoodIn wsX3_count (wsV RX3 64 RX3 yX3_numbered wsX3_numbered) := goodIn_app (goodIn_of _ (by decide +kernel)) ggX3_count_X3_numbered
theorem dX3_count_0 : decode cX3_count 0 = .ok (.aload_n 0, 1) := by decide +kernel
theorem dX3_count_1 : decode cX3_count 1 = .ok (.iload_n 1, 1) := by decide +kernel
theorem dX3_count_2 : decode cX3_count 2 = .ok (.invokevirtual 64, 3) := by decide +kernel
theorem dX3_count_5 : decode cX3_count 5 = .ok (.astore_n 3, 1) := by decide +kernel
theorem dX3_count_6 : decode cX3_count 6 = .ok (.aload_n 3, 1) := by decide +kernel
theorem dX3_count_7 : decode cX3_count 7 = .ok (.ifnonnull 13, 3) := by decide +kernel
theorem dX3_count_10 : decode cX3_count 10 = .ok (.new 30, 3) := by decide +kernel
theorem dX3_count_13 : decode cX3_count 13 = .ok (.dup, 1) := by decide +kernel
theorem dX3_count_14 : decode cX3_count 14 = .ok (.ldc 68, 2) := by decide +kernel
theorem dX3_count_16 : decode cX3_count 16 = .ok (.invokespecial 34, 3) := by decide +kernel
theorem dX3_count_19 : decode cX3_count 19 = .ok (.athrow, 1) := by decide +kernel
theorem dX3_count_20 : decode cX3_count 20 = .ok (.iload_n 2, 1) := by decide +kernel
theorem dX3_count_21 : decode cX3_count 21 = .ok (.tableswitch 51 0 3 #[31, 36, 41, 46], 31) := by decide +kernel
theorem dX3_count_52 : decode cX3_count 52 = .ok (.aload_n 3, 1) := by decide +kernel
theorem dX3_count_53 : decode cX3_count 53 = .ok (.getfield 127, 3) := by decide +kernel
theorem dX3_count_56 : decode cX3_count 56 = .ok (.ireturn, 1) := by decide +kernel
theorem dX3_count_57 : decode cX3_count 57 = .ok (.aload_n 3, 1) := by decide +kernel
theorem dX3_count_58 : decode cX3_count 58 = .ok (.getfield 130, 3) := by decide +kernel
theorem dX3_count_61 : decode cX3_count 61 = .ok (.ireturn, 1) := by decide +kernel
theorem dX3_count_62 : decode cX3_count 62 = .ok (.aload_n 3, 1) := by decide +kernel
theorem dX3_count_63 : decode cX3_count 63 = .ok (.getfield 133, 3) := by decide +kernel
theorem dX3_count_66 : decode cX3_count 66 = .ok (.ireturn, 1) := by decide +kernel
theorem dX3_count_67 : decode cX3_count 67 = .ok (.aload_n 3, 1) := by decide +kernel
theorem dX3_count_68 : decode cX3_count 68 = .ok (.getfield 136, 3) := by decide +kernel
theorem dX3_count_71 : decode cX3_count 71 = .ok (.ireturn, 1) := by decide +kernel
theorem dX3_count_72 : decode cX3_count 72 = .ok (.new 37, 3) := by decide +kernel
theorem dX3_count_75 : decode cX3_count 75 = .ok (.dup, 1) := by decide +kernel
theorem dX3_count_76 : decode cX3_count 76 = .ok (.ldc 125, 2) := by decide +kernel
theorem dX3_count_78 : decode cX3_count 78 = .ok (.invokespecial 41, 3) := by decide +kernel
theorem dX3_count_81 : decode cX3_count 81 = .ok (.athrow, 1) := by decide +kernel
theorem dX3_microphone_0 : decode cX3_microphone 0 = .ok (.aload_n 0, 1) := by decide +kernel
theorem dX3_microphone_1 : decode cX3_microphone 1 = .ok (.getfield 10, 3) := by decide +kernel
theorem dX3_microphone_4 : decode cX3_microphone 4 = .ok (.getfield 139, 3) := by decide +kernel
theorem dX3_microphone_7 : decode cX3_microphone 7 = .ok (.dreturn, 1) := by decide +kernel
set_option maxRecDepth 20000 in
theorem ggX3_batch_X3_isWithin : GoodIn wsX3_batch wsX3_isWithin := goodIn_r _ [7] (by decide +kernel) (by decide +kernel)
set_option maxRecDepth 20000 in
theorem gX3_batch_X3_isWithin : GoodIn wsX3_batch (va_wsS RX3 26 yX3_isWithin wsX3_isWithin) := goodIn_app (goodIn_of _ (by decide +kernel)) ggX3_batch_X3_isWithin
set_option maxRecDepth 20000 in
theorem ggX3_batch_X1_batchWeight : GoodIn wsX3_batch wsX1_batchWeight := goodIn_r _ [11, 12, 13, 14, 15, 16, 17, 18, 9, 19, 20, 21, 22, 23, 24, 25, 26, 27, 28, 29, 6, 30, 34, 35, 36, 37, 38, 39, 40] (by decide +kernel) (by decide +kernel)
set_option maxRecDepth 20000 in
theorem gX3_batch_X1_batchWeight_n142 : GoodIn wsX3_batch (wsX1_batchWeight) := ggX3_batch_X1_batchWeight
theorem dX3_batch_0 : decode cX3_batch 0 = .ok (.iload_n 1, 1) := by decide +kernel
theorem dX3_batch_1 : decode cX3_batch 1 = .ok (.iconst 0, 1) := by decide +kernel
theorem dX3_batch_2 : decode cX3_batch 2 = .ok (.iconst 1, 1) := by decide +kernel
theorem dX3_batch_3 : decode cX3_batch 3 = .ok (.invokestatic 26, 3) := by decide +kernel
theorem dX3_batch_6 : decode cX3_batch 6 = .ok (.ifCond .ne 13, 3) := by decide +kernel
theorem dX3_batch_9 : decode cX3_batch 9 = .ok (.new 30, 3) := by decide +kernel
theorem dX3_batch_12 : decode cX3_batch 12 = .ok (.dup, 1) := by decide +kernel
theorem dX3_batch_13 : decode cX3_batch 13 = .ok (.ldc 108, 2) := by decide +kernel
theorem dX3_batch_15 : decode cX3_batch 15 = .ok (.invokespecial 34, 3) := by decide +kernel
theorem dX3_batch_18 : decode cX3_batch 18 = .ok (.athrow, 1) := by decide +kernel
theorem dX3_batch_19 : decode cX3_batch 19 = .ok (.aload_n 0, 1) := by decide +kernel
theorem dX3_batch_20 : decode cX3_batch 20 = .ok (.getfield 10, 3) := by decide +kernel
theorem dX3_batch_23 : decode cX3_batch 23 = .ok (.iload_n 1, 1) := by decide +kernel
theorem dX3_batch_24 : decode cX3_batch 24 = .ok (.invokevirtual 142, 3) := by decide +kernel
theorem dX3_batch_27 : decode cX3_batch 27 = .ok (.dreturn, 1) := by decide +kernel
set_option maxRecDepth 20000 in
theorem ggX3_square_X3_numbered : GoodIn wsX3_square wsX3_numbered := goodIn_r _ [9, 10, 11, 34, 35, 36] (by decide +kernel) (by decide +kernel)
set_option maxRecDepth 20000 in
theorem gX3_square_X3_numbered : GoodIn wsX3_square (wsV RX3 64 RX3 yX3_numbered wsX3_numbered) := goodIn_app (goodIn_of _ (by decide +kernel)) ggX3_square_X3_numbered
set_option maxRecDepth 20000 in
theorem ggX3_square_X3_isWithin : GoodIn wsX3_square wsX3_isWithin := goodIn_r _ [14] (by decide +kernel) (by decide +kernel)
set_option maxRecDepth 20000 in
theorem gX3_square_X3_isWithin : GoodIn wsX3_square (va_wsS RX3 26 yX3_isWithin wsX3_isWithin) := goodIn_app (goodIn_of _ (by decide +kernel)) ggX3_square_X3_isWithin
set_option maxRecDepth 20000 in
theorem ggX3_square_X2_number : GoodIn wsX3_square wsX2_number := goodIn_r _ [18, 19, 20, 13, 8, 14, 37, 38, 39, 40] (by decide +kernel) (by decide +kernel)
set_option maxRecDepth 20000 in
theorem gX3_square_X2_number_n156 : GoodIn wsX3_square (wsX2_number) := ggX3_square_X2_number
theorem dX3_square_0 : decode cX3_square 0 = .ok (.aload_n 0, 1) := by decide +kernel
theorem dX3_square_1 : decode cX3_square 1 = .ok (.iload_n 1, 1) := by decide +kernel
theorem dX3_square_2 : decode cX3_square 2 = .ok (.invokevirtual 64, 3) := by decide +kernel
theorem dX3_square_5 : decode cX3_square 5 = .ok (.astore 4, 2) := by decide +kernel
theorem dX3_square_7 : decode cX3_square 7 = .ok (.aload 4, 2) := by decide +kernel
theorem dX3_square_9 : decode cX3_square 9 = .ok (.ifnonnull 13, 3) := by decide +kernel
theorem dX3_square_12 : decode cX3_square 12 = .ok (.new 30, 3) := by decide +kernel
theorem dX3_square_15 : decode cX3_square 15 = .ok (.dup, 1) := by decide +kernel
theorem dX3_square_16 : decode cX3_square 16 = .ok (.ldc 68, 2) := by decide +kernel
theorem dX3_square_18 : decode cX3_square 18 = .ok (.invokespecial 34, 3) := by decide +kernel
theorem dX3_square_21 : decode cX3_square 21 = .ok (.athrow, 1) := by decide +kernel
theorem dX3_square_22 : decode cX3_square 22 = .ok (.aload 4, 2) := by decide +kernel
theorem dX3_square_24 : decode cX3_square 24 = .ok (.getfield 104, 3) := by decide +kernel
theorem dX3_square_27 : decode cX3_square 27 = .ok (.arraylength, 1) := by decide +kernel
theorem dX3_square_28 : decode cX3_square 28 = .ok (.istore 5, 2) := by decide +kernel
theorem dX3_square_30 : decode cX3_square 30 = .ok (.iload_n 2, 1) := by decide +kernel
theorem dX3_square_31 : decode cX3_square 31 = .ok (.iconst 0, 1) := by decide +kernel
theorem dX3_square_32 : decode cX3_square 32 = .ok (.iload 5, 2) := by decide +kernel
theorem dX3_square_34 : decode cX3_square 34 = .ok (.iconst 1, 1) := by decide +kernel
theorem dX3_square_35 : decode cX3_square 35 = .ok (.isub, 1) := by decide +kernel
theorem dX3_square_36 : decode cX3_square 36 = .ok (.invokestatic 26, 3) := by decide +kernel
theorem dX3_square_39 : decode cX3_square 39 = .ok (.ifCond .ne 13, 3) := by decide +kernel
theorem dX3_square_42 : decode cX3_square 42 = .ok (.new 30, 3) := by decide +kernel
theorem dX3_square_45 : decode cX3_square 45 = .ok (.dup, 1) := by decide +kernel
theorem dX3_square_46 : decode cX3_square 46 = .ok (.ldc 146, 2) := by decide +kernel
theorem dX3_square_48 : decode cX3_square 48 = .ok (.invokespecial 34, 3) := by decide +kernel
theorem dX3_square_51 : decode cX3_square 51 = .ok (.athrow, 1) := by decide +kernel
theorem dX3_square_52 : decode cX3_square 52 = .ok (.iload_n 3, 1) := by decide +kernel
theorem dX3_square_53 : decode cX3_square 53 = .ok (.iconst 0, 1) := by decide +kernel
theorem dX3_square_54 : decode cX3_square 54 = .ok (.iload 5, 2) := by decide +kernel
theorem dX3_square_56 : decode cX3_square 56 = .ok (.iconst 1, 1) := by decide +kernel
theorem dX3_square_57 : decode cX3_square 57 = .ok (.isub, 1) := by decide +kernel
theorem dX3_square_58 : decode cX3_square 58 = .ok (.invokestatic 26, 3) := by decide +kernel
theorem dX3_square_61 : decode cX3_square 61 = .ok (.ifCond .ne 13, 3) := by decide +kernel
theorem dX3_square_64 : decode cX3_square 64 = .ok (.new 30, 3) := by decide +kernel
theorem dX3_square_67 : decode cX3_square 67 = .ok (.dup, 1) := by decide +kernel
theorem dX3_square_68 : decode cX3_square 68 = .ok (.ldc 148, 2) := by decide +kernel
theorem dX3_square_70 : decode cX3_square 70 = .ok (.invokespecial 34, 3) := by decide +kernel
theorem dX3_square_73 : decode cX3_square 73 = .ok (.athrow, 1) := by decide +kernel
theorem dX3_square_74 : decode cX3_square 74 = .ok (.aload 4, 2) := by decide +kernel
theorem dX3_square_76 : decode cX3_square 76 = .ok (.getfield 150, 3) := by decide +kernel
theorem dX3_square_79 : decode cX3_square 79 = .ok (.ifnonnull 13, 3) := by decide +kernel
theorem dX3_square_82 : decode cX3_square 82 = .ok (.new 56, 3) := by decide +kernel
theorem dX3_square_85 : decode cX3_square 85 = .ok (.dup, 1) := by decide +kernel
theorem dX3_square_86 : decode cX3_square 86 = .ok (.ldc 154, 2) := by decide +kernel
theorem dX3_square_88 : decode cX3_square 88 = .ok (.invokespecial 60, 3) := by decide +kernel
theorem dX3_square_91 : decode cX3_square 91 = .ok (.athrow, 1) := by decide +kernel
theorem dX3_square_92 : decode cX3_square 92 = .ok (.aload 4, 2) := by decide +kernel
theorem dX3_square_94 : decode cX3_square 94 = .ok (.getfield 150, 3) := by decide +kernel
theorem dX3_square_97 : decode cX3_square 97 = .ok (.iload_n 2, 1) := by decide +kernel
theorem dX3_square_98 : decode cX3_square 98 = .ok (.iload_n 3, 1) := by decide +kernel
theorem dX3_square_99 : decode cX3_square 99 = .ok (.invokevirtual 156, 3) := by decide +kernel
theorem dX3_square_102 : decode cX3_square 102 = .ok (.dreturn, 1) := by decide +kernel
set_option maxRecDepth 20000 in
theorem ggX3_best_X3_numbered : GoodIn wsX3_best wsX3_numbered := goodIn_r _ [7, 1, 8, 15, 16, 17] (by decide +kernel) (by decide +kernel)
set_option maxRecDepth 20000 in
theorem gX3_best_X3_numbered : GoodIn wsX3_best (wsV RX3 64 RX3 yX3_numbered wsX3_numbered) := goodIn_app (goodIn_of _ (by decide +kernel)) ggX3_best_X3_numbered
set_option maxRecDepth 20000 in
theorem ggX3_best_X1_offness : GoodIn wsX3_best wsX1_offness := goodIn_r _ [12, 13, 14, 31, 32, 33, 34, 35, 36, 37] (by decide +kernel) (by decide +kernel)
set_option maxRecDepth 20000 in
theorem gX3_best_X1_offness_n117 : GoodIn wsX3_best (wsX1_offness) := ggX3_best_X1_offness
theorem dX3_best_0 : decode cX3_best 0 = .ok (.iconst (-1), 1) := by decide +kernel
theorem dX3_best_1 : decode cX3_best 1 = .ok (.istore_n 1, 1) := by decide +kernel
theorem dX3_best_2 : decode cX3_best 2 = .ok (.dconst 0, 1) := by decide +kernel
theorem dX3_best_3 : decode cX3_best 3 = .ok (.dstore_n 2, 1) := by decide +kernel
theorem dX3_best_4 : decode cX3_best 4 = .ok (.iconst 0, 1) := by decide +kernel
theorem dX3_best_5 : decode cX3_best 5 = .ok (.istore 4, 2) := by decide +kernel
theorem dX3_best_7 : decode cX3_best 7 = .ok (.iload 4, 2) := by decide +kernel
theorem dX3_best_9 : decode cX3_best 9 = .ok (.aload_n 0, 1) := by decide +kernel
theorem dX3_best_10 : decode cX3_best 10 = .ok (.getfield 22, 3) := by decide +kernel
theorem dX3_best_13 : decode cX3_best 13 = .ok (.if_icmp .ge 54, 3) := by decide +kernel
theorem dX3_best_16 : decode cX3_best 16 = .ok (.aload_n 0, 1) := by decide +kernel
theorem dX3_best_17 : decode cX3_best 17 = .ok (.iload 4, 2) := by decide +kernel
theorem dX3_best_19 : decode cX3_best 19 = .ok (.invokevirtual 64, 3) := by decide +kernel
theorem dX3_best_22 : decode cX3_best 22 = .ok (.astore 5, 2) := by decide +kernel
theorem dX3_best_24 : decode cX3_best 24 = .ok (.aload 5, 2) := by decide +kernel
theorem dX3_best_26 : decode cX3_best 26 = .ok (.ifnull 35, 3) := by decide +kernel
theorem dX3_best_29 : decode cX3_best 29 = .ok (.aload_n 0, 1) := by decide +kernel
theorem dX3_best_30 : decode cX3_best 30 = .ok (.getfield 10, 3) := by decide +kernel
theorem dX3_best_33 : decode cX3_best 33 = .ok (.aload 5, 2) := by decide +kernel
theorem dX3_best_35 : decode cX3_best 35 = .ok (.getfield 104, 3) := by decide +kernel
theorem dX3_best_38 : decode cX3_best 38 = .ok (.invokevirtual 117, 3) := by decide +kernel
theorem dX3_best_41 : decode cX3_best 41 = .ok (.dstore 6, 2) := by decide +kernel
theorem dX3_best_43 : decode cX3_best 43 = .ok (.iload_n 1, 1) := by decide +kernel
theorem dX3_best_44 : decode cX3_best 44 = .ok (.iconst (-1), 1) := by decide +kernel
theorem dX3_best_45 : decode cX3_best 45 = .ok (.if_icmp .eq 10, 3) := by decide +kernel
theorem dX3_best_48 : decode cX3_best 48 = .ok (.dload 6, 2) := by decide +kernel
theorem dX3_best_50 : decode cX3_best 50 = .ok (.dload_n 2, 1) := by decide +kernel
theorem dX3_best_51 : decode cX3_best 51 = .ok (.dcmp .g, 1) := by decide +kernel
theorem dX3_best_52 : decode cX3_best 52 = .ok (.ifCond .ge 9, 3) := by decide +kernel
theorem dX3_best_55 : decode cX3_best 55 = .ok (.iload 4, 2) := by decide +kernel
theorem dX3_best_57 : decode cX3_best 57 = .ok (.istore_n 1, 1) := by decide +kernel
theorem dX3_best_58 : decode cX3_best 58 = .ok (.dload 6, 2) := by decide +kernel
theorem dX3_best_60 : decode cX3_best 60 = .ok (.dstore_n 2, 1) := by decide +kernel
theorem dX3_best_61 : decode cX3_best 61 = .ok (.iinc 4 1, 3) := by decide +kernel
theorem dX3_best_64 : decode cX3_best 64 = .ok (.goto (-57), 3) := by decide +kernel
theorem dX3_best_67 : decode cX3_best 67 = .ok (.iload_n 1, 1) := by decide +kernel
theorem dX3_best_68 : decode cX3_best 68 = .ok (.ireturn, 1) := by decide +kernel
theorem dX3_isWithin_0 : decode cX3_isWithin 0 = .ok (.iload_n 0, 1) := by decide +kernel
theorem dX3_isWithin_1 : decode cX3_isWithin 1 = .ok (.iload_n 1, 1) := by decide +kernel
theorem dX3_isWithin_2 : decode cX3_isWithin 2 = .ok (.if_icmp .lt 12, 3) := by decide +kernel
theorem dX3_isWithin_5 : decode cX3_isWithin 5 = .ok (.iload_n 0, 1) := by decide +kernel
theorem dX3_isWithin_6 : decode cX3_isWithin 6 = .ok (.iload_n 2, 1) := by decide +kernel
theorem dX3_isWithin_7 : decode cX3_isWithin 7 = .ok (.if_icmp .gt 7, 3) := by decide +kernel
theorem dX3_isWithin_10 : decode cX3_isWithin 10 = .ok (.iconst 1, 1) := by decide +kernel
theorem dX3_isWithin_11 : decode cX3_isWithin 11 = .ok (.goto 4, 3) := by decide +kernel
theorem dX3_isWithin_14 : decode cX3_isWithin 14 = .ok (.iconst 0, 1) := by decide +kernel
theorem dX3_isWithin_15 : decode cX3_isWithin 15 = .ok (.ireturn, 1) := by decide +kernel
set_option maxRecDepth 20000 in
theorem ggX3_isStepOf_X3_isWithin : GoodIn wsX3_isStepOf wsX3_isWithin := goodIn_r _ [4] (by decide +kernel) (by decide +kernel)
set_option maxRecDepth 20000 in
theorem gX3_isStepOf_X3_isWithin : GoodIn wsX3_isStepOf (va_wsS RX3 26 yX3_isWithin wsX3_isWithin) := goodIn_app (goodIn_of _ (by decide +kernel)) ggX3_isStepOf_X3_isWithin
theorem dX3_isStepOf_0 : decode cX3_isStepOf 0 = .ok (.iload_n 0, 1) := by decide +kernel
theorem dX3_isStepOf_1 : decode cX3_isStepOf 1 = .ok (.iconst 3, 1) := by decide +kernel
theorem dX3_isStepOf_2 : decode cX3_isStepOf 2 = .ok (.if_icmp .ne 16, 3) := by decide +kernel
theorem dX3_isStepOf_5 : decode cX3_isStepOf 5 = .ok (.iload_n 1, 1) := by decide +kernel
theorem dX3_isStepOf_6 : decode cX3_isStepOf 6 = .ok (.sipush 500, 3) := by decide +kernel
theorem dX3_isStepOf_9 : decode cX3_isStepOf 9 = .ok (.sipush 1000, 3) := by decide +kernel
theorem dX3_isStepOf_12 : decode cX3_isStepOf 12 = .ok (.invokestatic 26, 3) := by decide +kernel
theorem dX3_isStepOf_15 : decode cX3_isStepOf 15 = .ok (.goto 11, 3) := by decide +kernel
theorem dX3_isStepOf_18 : decode cX3_isStepOf 18 = .ok (.iload_n 1, 1) := by decide +kernel
theorem dX3_isStepOf_19 : decode cX3_isStepOf 19 = .ok (.iconst 1, 1) := by decide +kernel
theorem dX3_isStepOf_20 : decode cX3_isStepOf 20 = .ok (.sipush 2000, 3) := by decide +kernel
theorem dX3_isStepOf_23 : decode cX3_isStepOf 23 = .ok (.invokestatic 26, 3) := by decide +kernel
theorem dX3_isStepOf_26 : decode cX3_isStepOf 26 = .ok (.ireturn, 1) := by decide +kernel
theorem dX3_heldTo_0 : decode cX3_heldTo 0 = .ok (.dload_n 0, 1) := by decide +kernel
theorem dX3_heldTo_1 : decode cX3_heldTo 1 = .ok (.dload_n 2, 1) := by decide +kernel
theorem dX3_heldTo_2 : decode cX3_heldTo 2 = .ok (.dcmp .l, 1) := by decide +kernel
theorem dX3_heldTo_3 : decode cX3_heldTo 3 = .ok (.ifCond .le 7, 3) := by decide +kernel
theorem dX3_heldTo_6 : decode cX3_heldTo 6 = .ok (.dload_n 2, 1) := by decide +kernel
theorem dX3_heldTo_7 : decode cX3_heldTo 7 = .ok (.goto 16, 3) := by decide +kernel
theorem dX3_heldTo_10 : decode cX3_heldTo 10 = .ok (.dload_n 0, 1) := by decide +kernel
theorem dX3_heldTo_11 : decode cX3_heldTo 11 = .ok (.dload_n 2, 1) := by decide +kernel
theorem dX3_heldTo_12 : decode cX3_heldTo 12 = .ok (.dneg, 1) := by decide +kernel
theorem dX3_heldTo_13 : decode cX3_heldTo 13 = .ok (.dcmp .g, 1) := by decide +kernel
theorem dX3_heldTo_14 : decode cX3_heldTo 14 = .ok (.ifCond .ge 8, 3) := by decide +kernel
theorem dX3_heldTo_17 : decode cX3_heldTo 17 = .ok (.dload_n 2, 1) := by decide +kernel
theorem dX3_heldTo_18 : decode cX3_heldTo 18 = .ok (.dneg, 1) := by decide +kernel
theorem dX3_heldTo_19 : decode cX3_heldTo 19 = .ok (.goto 4, 3) := by decide +kernel
theorem dX3_heldTo_22 : decode cX3_heldTo 22 = .ok (.dload_n 0, 1) := by decide +kernel
theorem dX3_heldTo_23 : decode cX3_heldTo 23 = .ok (.dreturn, 1) := by decide +kernel
theorem dX3_eitherWay_0 : decode cX3_eitherWay 0 = .ok (.dload_n 0, 1) := by decide +kernel
theorem dX3_eitherWay_1 : decode cX3_eitherWay 1 = .ok (.dconst 0, 1) := by decide +kernel
theorem dX3_eitherWay_2 : decode cX3_eitherWay 2 = .ok (.dcmp .g, 1) := by decide +kernel
theorem dX3_eitherWay_3 : decode cX3_eitherWay 3 = .ok (.ifCond .ge 8, 3) := by decide +kernel
theorem dX3_eitherWay_6 : decode cX3_eitherWay 6 = .ok (.dload_n 0, 1) := by decide +kernel
theorem dX3_eitherWay_7 : decode cX3_eitherWay 7 = .ok (.dneg, 1) := by decide +kernel
theorem dX3_eitherWay_8 : decode cX3_eitherWay 8 = .ok (.goto 4, 3) := by decide +kernel
theorem dX3_eitherWay_11 : decode cX3_eitherWay 11 = .ok (.dload_n 0, 1) := by decide +kernel
theorem dX3_eitherWay_12 : decode cX3_eitherWay 12 = .ok (.dreturn, 1) := by decide +kernel
theorem dX3_numbered_0 : decode cX3_numbered 0 = .ok (.iload_n 1, 1) := by decide +kernel
theorem dX3_numbered_1 : decode cX3_numbered 1 = .ok (.ifCond .lt 20, 3) := by decide +kernel
theorem dX3_numbered_4 : decode cX3_numbered 4 = .ok (.iload_n 1, 1) := by decide +kernel
theorem dX3_numbered_5 : decode cX3_numbered 5 = .ok (.aload_n 0, 1) := by decide +kernel
theorem dX3_numbered_6 : decode cX3_numbered 6 = .ok (.getfield 22, 3) := by decide +kernel
theorem dX3_numbered_9 : decode cX3_numbered 9 = .ok (.if_icmp .ge 12, 3) := by decide +kernel
theorem dX3_numbered_12 : decode cX3_numbered 12 = .ok (.iload_n 1, 1) := by decide +kernel
theorem dX3_numbered_13 : decode cX3_numbered 13 = .ok (.aload_n 0, 1) := by decide +kernel
theorem dX3_numbered_14 : decode cX3_numbered 14 = .ok (.getfield 18, 3) := by decide +kernel
theorem dX3_numbered_17 : decode cX3_numbered 17 = .ok (.arraylength, 1) := by decide +kernel
theorem dX3_numbered_18 : decode cX3_numbered 18 = .ok (.if_icmp .lt 7, 3) := by decide +kernel
theorem dX3_numbered_21 : decode cX3_numbered 21 = .ok (.aconst_null, 1) := by decide +kernel
theorem dX3_numbered_22 : decode cX3_numbered 22 = .ok (.goto 9, 3) := by decide +kernel
theorem dX3_numbered_25 : decode cX3_numbered 25 = .ok (.aload_n 0, 1) := by decide +kernel
theorem dX3_numbered_26 : decode cX3_numbered 26 = .ok (.getfield 18, 3) := by decide +kernel
theorem dX3_numbered_29 : decode cX3_numbered 29 = .ok (.iload_n 1, 1) := by decide +kernel
theorem dX3_numbered_30 : decode cX3_numbered 30 = .ok (.aaload, 1) := by decide +kernel
theorem dX3_numbered_31 : decode cX3_numbered 31 = .ok (.areturn, 1) := by decide +kernel
set_option maxRecDepth 20000 in
theorem ggX3_takeSample_X1_take : GoodIn wsX3_takeSample wsX1_take := goodIn_r _ [6, 7, 8, 9, 10, 11, 12, 13, 14, 15, 4, 16, 17, 18, 19, 20, 21, 22, 115, 116, 117, 118, 119, 120, 121] (by decide +kernel) (by decide +kernel)
set_option maxRecDepth 20000 in
theorem gX3_takeSample_X1_take_n162 : GoodIn wsX3_takeSample (wsX1_take) := ggX3_takeSample_X1_take
set_option maxRecDepth 20000 in
theorem ggX3_takeSample_X3_numbered : GoodIn wsX3_takeSample wsX3_numbered := goodIn_r _ [27, 2, 28, 112, 113, 114] (by decide +kernel) (by decide +kernel)
set_option maxRecDepth 20000 in
theorem gX3_takeSample_X3_numbered : GoodIn wsX3_takeSample (wsV RX3 64 RX3 yX3_numbered wsX3_numbered) := goodIn_app (goodIn_of _ (by decide +kernel)) ggX3_takeSample_X3_numbered
set_option maxRecDepth 20000 in
theorem ggX3_takeSample_X0_hear : GoodIn wsX3_takeSample wsX0_hear := goodIn_r _ [32, 33, 34, 35, 36, 37, 38, 39, 40, 41, 30, 42, 43, 44, 20, 21, 22, 45, 46, 47, 48, 49, 50, 51, 52, 53, 54, 55, 56, 57, 26, 58, 59, 60, 61, 62, 63, 64, 65, 66, 67, 68, 69, 70, 71, 72, 73, 74, 75, 76, 77, 78, 79, 80, 81, 82, 83, 84, 85, 86, 87, 88, 89, 90, 91, 92, 93, 94, 95, 96, 97, 98, 99, 100, 101, 102, 103, 104, 105, 106, 107, 108, 109, 110, 111, 122, 123, 124, 125, 126, 127, 128, 129, 130, 131, 132, 133, 134, 135, 136, 137, 138] (by decide +kernel) (by decide +kernel)
set_option maxRecDepth 20000 in
theorem gX3_takeSample_X0_hear_n168 : GoodIn wsX3_takeSample (wsX0_hear) := ggX3_takeSample_X0_hear
theorem dX3_takeSample_0 : decode cX3_takeSample 0 = .ok (.aload_n 0, 1) := by decide +kernel
theorem dX3_takeSample_1 : decode cX3_takeSample 1 = .ok (.getfield 10, 3) := by decide +kernel
theorem dX3_takeSample_4 : decode cX3_takeSample 4 = .ok (.iload_n 1, 1) := by decide +kernel
theorem dX3_takeSample_5 : decode cX3_takeSample 5 = .ok (.iload_n 2, 1) := by decide +kernel
theorem dX3_takeSample_6 : decode cX3_takeSample 6 = .ok (.invokevirtual 162, 3) := by decide +kernel
theorem dX3_takeSample_9 : decode cX3_takeSample 9 = .ok (.iconst 0, 1) := by decide +kernel
theorem dX3_takeSample_10 : decode cX3_takeSample 10 = .ok (.istore_n 3, 1) := by decide +kernel
theorem dX3_takeSample_11 : decode cX3_takeSample 11 = .ok (.iload_n 3, 1) := by decide +kernel
theorem dX3_takeSample_12 : decode cX3_takeSample 12 = .ok (.aload_n 0, 1) := by decide +kernel
theorem dX3_takeSample_13 : decode cX3_takeSample 13 = .ok (.getfield 22, 3) := by decide +kernel
theorem dX3_takeSample_16 : decode cX3_takeSample 16 = .ok (.if_icmp .ge 40, 3) := by decide +kernel
theorem dX3_takeSample_19 : decode cX3_takeSample 19 = .ok (.aload_n 0, 1) := by decide +kernel
theorem dX3_takeSample_20 : decode cX3_takeSample 20 = .ok (.iload_n 3, 1) := by decide +kernel
theorem dX3_takeSample_21 : decode cX3_takeSample 21 = .ok (.invokevirtual 64, 3) := by decide +kernel
theorem dX3_takeSample_24 : decode cX3_takeSample 24 = .ok (.astore 4, 2) := by decide +kernel
theorem dX3_takeSample_26 : decode cX3_takeSample 26 = .ok (.aload 4, 2) := by decide +kernel
theorem dX3_takeSample_28 : decode cX3_takeSample 28 = .ok (.ifnull 22, 3) := by decide +kernel
theorem dX3_takeSample_31 : decode cX3_takeSample 31 = .ok (.aload 4, 2) := by decide +kernel
theorem dX3_takeSample_33 : decode cX3_takeSample 33 = .ok (.aload_n 0, 1) := by decide +kernel
theorem dX3_takeSample_34 : decode cX3_takeSample 34 = .ok (.getfield 10, 3) := by decide +kernel
theorem dX3_takeSample_37 : decode cX3_takeSample 37 = .ok (.getfield 165, 3) := by decide +kernel
end
section
theorem dX3_takeSample_40 : decode cX3_takeSample 40 = .ok (.aload_n 0, 1) := by decide +kernel
theorem dX3_takeSample_41 : decode cX3_takeSample 41 = .ok (.getfield 10, 3) := by decide +kernel
theorem dX3_takeSample_44 : decode cX3_takeSample 44 = .ok (.getfield 139, 3) := by decide +kernel
theorem dX3_takeSample_47 : decode cX3_takeSample 47 = .ok (.invokevirtual 168, 3) := by decide +kernel
theorem dX3_takeSample_50 : decode cX3_takeSample 50 = .ok (.iinc 3 1, 3) := by decide +kernel
theorem dX3_takeSample_53 : decode cX3_takeSample 53 = .ok (.goto (-42), 3) := by decide +kernel
theorem dX3_takeSample_56 : decode cX3_takeSample 56 = .ok (.return_, 1) := by decide +kernel
theorem dJ9_floorMod_7cf53_0 : decode cJ9_floorMod_7cf53 0 = .ok (.iload_n 0, 1) := by decide +kernel
theorem dJ9_floorMod_7cf53_1 : decode cJ9_floorMod_7cf53 1 = .ok (.iload_n 1, 1) := by decide +kernel
theorem dJ9_floorMod_7cf53_2 : decode cJ9_floorMod_7cf53 2 = .ok (.irem, 1) := by decide +kernel
theorem dJ9_floorMod_7cf53_3 : decode cJ9_floorMod_7cf53 3 = .ok (.istore_n 2, 1) := by decide +kernel
theorem dJ9_floorMod_7cf53_4 : decode cJ9_floorMod_7cf53 4 = .ok (.iload_n 0, 1) := by decide +kernel
theorem dJ9_floorMod_7cf53_5 : decode cJ9_floorMod_7cf53 5 = .ok (.iload_n 1, 1) := by decide +kernel
theorem dJ9_floorMod_7cf53_6 : decode cJ9_floorMod_7cf53 6 = .ok (.ixor, 1) := by decide +kernel
theorem dJ9_floorMod_7cf53_7 : decode cJ9_floorMod_7cf53 7 = .ok (.ifCond .ge 11, 3) := by decide +kernel
theorem dJ9_floorMod_7cf53_10 : decode cJ9_floorMod_7cf53 10 = .ok (.iload_n 2, 1) := by decide +kernel
theorem dJ9_floorMod_7cf53_11 : decode cJ9_floorMod_7cf53 11 = .ok (.ifCond .eq 7, 3) := by decide +kernel
theorem dJ9_floorMod_7cf53_14 : decode cJ9_floorMod_7cf53 14 = .ok (.iload_n 2, 1) := by decide +kernel
theorem dJ9_floorMod_7cf53_15 : decode cJ9_floorMod_7cf53 15 = .ok (.iload_n 1, 1) := by decide +kernel
theorem dJ9_floorMod_7cf53_16 : decode cJ9_floorMod_7cf53 16 = .ok (.iadd, 1) := by decide +kernel
theorem dJ9_floorMod_7cf53_17 : decode cJ9_floorMod_7cf53 17 = .ok (.ireturn, 1) := by decide +kernel
theorem dJ9_floorMod_7cf53_18 : decode cJ9_floorMod_7cf53 18 = .ok (.iload_n 2, 1) := by decide +kernel
theorem dJ9_floorMod_7cf53_19 : decode cJ9_floorMod_7cf53 19 = .ok (.ireturn, 1) := by decide +kernel
theorem dJ9_max_7cf53_0 : decode cJ9_max_7cf53 0 = .ok (.iload_n 0, 1) := by decide +kernel
theorem dJ9_max_7cf53_1 : decode cJ9_max_7cf53 1 = .ok (.iload_n 1, 1) := by decide +kernel
theorem dJ9_max_7cf53_2 : decode cJ9_max_7cf53 2 = .ok (.if_icmp .lt 7, 3) := by decide +kernel
theorem dJ9_max_7cf53_5 : decode cJ9_max_7cf53 5 = .ok (.iload_n 0, 1) := by decide +kernel
theorem dJ9_max_7cf53_6 : decode cJ9_max_7cf53 6 = .ok (.goto 4, 3) := by decide +kernel
theorem dJ9_max_7cf53_9 : decode cJ9_max_7cf53 9 = .ok (.iload_n 1, 1) := by decide +kernel
theorem dJ9_max_7cf53_10 : decode cJ9_max_7cf53 10 = .ok (.ireturn, 1) := by decide +kernel
theorem dJ7_fill_7f8df_0 : decode cJ7_fill_7f8df 0 = .ok (.iconst 0, 1) := by decide +kernel
theorem dJ7_fill_7f8df_1 : decode cJ7_fill_7f8df 1 = .ok (.istore_n 3, 1) := by decide +kernel
theorem dJ7_fill_7f8df_2 : decode cJ7_fill_7f8df 2 = .ok (.aload_n 0, 1) := by decide +kernel
theorem dJ7_fill_7f8df_3 : decode cJ7_fill_7f8df 3 = .ok (.arraylength, 1) := by decide +kernel
theorem dJ7_fill_7f8df_4 : decode cJ7_fill_7f8df 4 = .ok (.istore 4, 2) := by decide +kernel
theorem dJ7_fill_7f8df_6 : decode cJ7_fill_7f8df 6 = .ok (.iload_n 3, 1) := by decide +kernel
theorem dJ7_fill_7f8df_7 : decode cJ7_fill_7f8df 7 = .ok (.iload 4, 2) := by decide +kernel
theorem dJ7_fill_7f8df_9 : decode cJ7_fill_7f8df 9 = .ok (.if_icmp .ge 13, 3) := by decide +kernel
theorem dJ7_fill_7f8df_12 : decode cJ7_fill_7f8df 12 = .ok (.aload_n 0, 1) := by decide +kernel
theorem dJ7_fill_7f8df_13 : decode cJ7_fill_7f8df 13 = .ok (.iload_n 3, 1) := by decide +kernel
theorem dJ7_fill_7f8df_14 : decode cJ7_fill_7f8df 14 = .ok (.dload_n 1, 1) := by decide +kernel
theorem dJ7_fill_7f8df_15 : decode cJ7_fill_7f8df 15 = .ok (.dastore, 1) := by decide +kernel
theorem dJ7_fill_7f8df_16 : decode cJ7_fill_7f8df 16 = .ok (.iinc 3 1, 3) := by decide +kernel
theorem dJ7_fill_7f8df_19 : decode cJ7_fill_7f8df 19 = .ok (.goto (-13), 3) := by decide +kernel
theorem dJ7_fill_7f8df_22 : decode cJ7_fill_7f8df 22 = .ok (.return_, 1) := by decide +kernel
theorem dL_cell_0 : decode cL_cell 0 = .ok (.iload_n 1, 1) := by decide +kernel
theorem dL_cell_1 : decode cL_cell 1 = .ok (.aload_n 0, 1) := by decide +kernel
theorem dL_cell_2 : decode cL_cell 2 = .ok (.arraylength, 1) := by decide +kernel
theorem dL_cell_3 : decode cL_cell 3 = .ok (.if_icmp .ge 9, 3) := by decide +kernel
theorem dL_cell_6 : decode cL_cell 6 = .ok (.aload_n 0, 1) := by decide +kernel
theorem dL_cell_7 : decode cL_cell 7 = .ok (.iload_n 1, 1) := by decide +kernel
theorem dL_cell_8 : decode cL_cell 8 = .ok (.iaload, 1) := by decide +kernel
theorem dL_cell_9 : decode cL_cell 9 = .ok (.goto 18, 3) := by decide +kernel
theorem dL_cell_12 : decode cL_cell 12 = .ok (.sipush 7919, 3) := by decide +kernel
theorem dL_cell_15 : decode cL_cell 15 = .ok (.iload_n 1, 1) := by decide +kernel
theorem dL_cell_16 : decode cL_cell 16 = .ok (.sipush 2423, 3) := by decide +kernel
theorem dL_cell_19 : decode cL_cell 19 = .ok (.iadd, 1) := by decide +kernel
theorem dL_cell_20 : decode cL_cell 20 = .ok (.imul, 1) := by decide +kernel
theorem dL_cell_21 : decode cL_cell 21 = .ok (.iload_n 1, 1) := by decide +kernel
theorem dL_cell_22 : decode cL_cell 22 = .ok (.sipush 241, 3) := by decide +kernel
theorem dL_cell_25 : decode cL_cell 25 = .ok (.iadd, 1) := by decide +kernel
theorem dL_cell_26 : decode cL_cell 26 = .ok (.imul, 1) := by decide +kernel
theorem dL_cell_27 : decode cL_cell 27 = .ok (.ireturn, 1) := by decide +kernel
theorem dL_low_0 : decode cL_low 0 = .ok (.iload_n 0, 1) := by decide +kernel
theorem dL_low_1 : decode cL_low 1 = .ok (.ldc 7, 2) := by decide +kernel
theorem dL_low_3 : decode cL_low 3 = .ok (.iand, 1) := by decide +kernel
theorem dL_low_4 : decode cL_low 4 = .ok (.iload_n 1, 1) := by decide +kernel
theorem dL_low_5 : decode cL_low 5 = .ok (.irem, 1) := by decide +kernel
theorem dL_low_6 : decode cL_low 6 = .ok (.ireturn, 1) := by decide +kernel
set_option maxRecDepth 20000 in
theorem ggL_path_X3_path : GoodIn wsL_path wsX3_path := goodIn_ca (goodIn_ca (goodIn_r _ [8, 9, 10, 11, 12, 13, 14, 15, 7, 16, 17, 18, 19, 20, 21, 22, 23, 24, 25, 26, 27, 28, 29, 30, 31] (by decide +kernel) (by decide +kernel)) (goodIn_sub (fun _ h => List.mem_cons_of_mem _ (List.mem_append_left _ (List.mem_append_right _ h))) (by decide +kernel))) (goodIn_sub (fun _ h => List.mem_cons_of_mem _ (List.mem_append_right _ h)) (by decide +kernel))
set_option maxRecDepth 20000 in
theorem gL_path_X3_path : GoodIn wsL_path (wsV RL 8 RX3 yX3_path wsX3_path) := goodIn_app (goodIn_of _ (by decide +kernel)) ggL_path_X3_path
theorem dL_path_0 : decode cL_path 0 = .ok (.aload_n 0, 1) := by decide +kernel
theorem dL_path_1 : decode cL_path 1 = .ok (.iload_n 1, 1) := by decide +kernel
theorem dL_path_2 : decode cL_path 2 = .ok (.iload_n 2, 1) := by decide +kernel
theorem dL_path_3 : decode cL_path 3 = .ok (.invokevirtual 8, 3) := by decide +kernel
theorem dL_path_6 : decode cL_path 6 = .ok (.i2l, 1) := by decide +kernel
theorem dL_path_7 : decode cL_path 7 = .ok (.lreturn, 1) := by decide +kernel
theorem dL_path_8 : decode cL_path 8 = .ok (.astore_n 3, 1) := by decide +kernel
theorem dL_path_9 : decode cL_path 9 = .ok (.ldc2_w 16, 3) := by decide +kernel
theorem dL_path_12 : decode cL_path 12 = .ok (.lreturn, 1) := by decide +kernel
theorem dL_path_13 : decode cL_path 13 = .ok (.astore_n 3, 1) := by decide +kernel
theorem dL_path_14 : decode cL_path 14 = .ok (.ldc2_w 16, 3) := by decide +kernel
theorem dL_path_17 : decode cL_path 17 = .ok (.lreturn, 1) := by decide +kernel
set_option maxRecDepth 20000 in
theorem ggL_filter_X3_filter : GoodIn wsL_filter wsX3_filter := goodIn_ca (goodIn_ca (goodIn_r _ [8, 9, 10, 11, 12, 13, 14, 15, 16, 17, 18, 19, 7, 20, 21, 22, 23, 24, 25, 26, 27, 28, 29, 30, 31, 32, 33, 34, 35, 36, 37, 38, 39, 40, 41, 42, 43, 44, 45, 46, 47, 48, 49, 50, 51, 52, 53, 54, 55, 56, 57, 58, 59, 60, 61, 62, 63, 64, 65, 66] (by decide +kernel) (by decide +kernel)) (goodIn_sub (fun _ h => List.mem_cons_of_mem _ (List.mem_append_left _ (List.mem_append_right _ h))) (by decide +kernel))) (goodIn_sub (fun _ h => List.mem_cons_of_mem _ (List.mem_append_right _ h)) (by decide +kernel))
set_option maxRecDepth 20000 in
theorem gL_filter_X3_filter : GoodIn wsL_filter (wsV RL 20 RX3 yX3_filter wsX3_filter) := goodIn_app (goodIn_of _ (by decide +kernel)) ggL_filter_X3_filter
theorem dL_filter_0 : decode cL_filter 0 = .ok (.aload_n 0, 1) := by decide +kernel
theorem dL_filter_1 : decode cL_filter 1 = .ok (.iload_n 1, 1) := by decide +kernel
theorem dL_filter_2 : decode cL_filter 2 = .ok (.iload_n 2, 1) := by decide +kernel
theorem dL_filter_3 : decode cL_filter 3 = .ok (.iload_n 3, 1) := by decide +kernel
theorem dL_filter_4 : decode cL_filter 4 = .ok (.invokevirtual 20, 3) := by decide +kernel
theorem dL_filter_7 : decode cL_filter 7 = .ok (.i2l, 1) := by decide +kernel
theorem dL_filter_8 : decode cL_filter 8 = .ok (.lreturn, 1) := by decide +kernel
theorem dL_filter_9 : decode cL_filter 9 = .ok (.astore 4, 2) := by decide +kernel
theorem dL_filter_11 : decode cL_filter 11 = .ok (.ldc2_w 16, 3) := by decide +kernel
theorem dL_filter_14 : decode cL_filter 14 = .ok (.lreturn, 1) := by decide +kernel
theorem dL_filter_15 : decode cL_filter 15 = .ok (.astore 4, 2) := by decide +kernel
theorem dL_filter_17 : decode cL_filter 17 = .ok (.ldc2_w 16, 3) := by decide +kernel
theorem dL_filter_20 : decode cL_filter 20 = .ok (.lreturn, 1) := by decide +kernel
set_option maxRecDepth 20000 in
theorem ggL_step_X3_step : GoodIn wsL_step wsX3_step := goodIn_ca (goodIn_ca (goodIn_r _ [8, 9, 10, 11, 12, 13, 14, 15, 7, 16, 17, 18, 19, 20, 21, 22, 23, 24, 25, 26, 27, 28, 29, 30, 31, 32, 33, 34, 35, 36, 37, 38, 39, 40] (by decide +kernel) (by decide +kernel)) (goodIn_sub (fun _ h => List.mem_cons_of_mem _ (List.mem_append_left _ (List.mem_append_right _ h))) (by decide +kernel))) (goodIn_sub (fun _ h => List.mem_cons_of_mem _ (List.mem_append_right _ h)) (by decide +kernel))
set_option maxRecDepth 20000 in
theorem gL_step_X3_step : GoodIn wsL_step (wsV RL 26 RX3 yX3_step wsX3_step) := goodIn_app (goodIn_of _ (by decide +kernel)) ggL_step_X3_step
theorem dL_step_0 : decode cL_step 0 = .ok (.aload_n 0, 1) := by decide +kernel
theorem dL_step_1 : decode cL_step 1 = .ok (.iload_n 1, 1) := by decide +kernel
theorem dL_step_2 : decode cL_step 2 = .ok (.iload_n 2, 1) := by decide +kernel
theorem dL_step_3 : decode cL_step 3 = .ok (.invokevirtual 26, 3) := by decide +kernel
theorem dL_step_6 : decode cL_step 6 = .ok (.i2l, 1) := by decide +kernel
theorem dL_step_7 : decode cL_step 7 = .ok (.lreturn, 1) := by decide +kernel
theorem dL_step_8 : decode cL_step 8 = .ok (.astore_n 3, 1) := by decide +kernel
theorem dL_step_9 : decode cL_step 9 = .ok (.ldc2_w 16, 3) := by decide +kernel
theorem dL_step_12 : decode cL_step 12 = .ok (.lreturn, 1) := by decide +kernel
theorem dL_step_13 : decode cL_step 13 = .ok (.astore_n 3, 1) := by decide +kernel
theorem dL_step_14 : decode cL_step 14 = .ok (.ldc2_w 16, 3) := by decide +kernel
theorem dL_step_17 : decode cL_step 17 = .ok (.lreturn, 1) := by decide +kernel
set_option maxRecDepth 20000 in
theorem ggL_watch_X3_watch : GoodIn wsL_watch wsX3_watch := goodIn_ca (goodIn_ca (goodIn_r _ [8, 9, 10, 11, 12, 13, 14, 15, 7, 16, 17, 18, 19, 20, 21, 22, 23, 24, 25, 26, 27, 28, 29, 30, 31, 32, 33, 34, 35, 36, 37] (by decide +kernel) (by decide +kernel)) (goodIn_sub (fun _ h => List.mem_cons_of_mem _ (List.mem_append_left _ (List.mem_append_right _ h))) (by decide +kernel))) (goodIn_sub (fun _ h => List.mem_cons_of_mem _ (List.mem_append_right _ h)) (by decide +kernel))
set_option maxRecDepth 20000 in
theorem gL_watch_X3_watch : GoodIn wsL_watch (wsV RL 29 RX3 yX3_watch wsX3_watch) := goodIn_app (goodIn_of _ (by decide +kernel)) ggL_watch_X3_watch
theorem dL_watch_0 : decode cL_watch 0 = .ok (.aload_n 0, 1) := by decide +kernel
theorem dL_watch_1 : decode cL_watch 1 = .ok (.iload_n 1, 1) := by decide +kernel
theorem dL_watch_2 : decode cL_watch 2 = .ok (.iload_n 2, 1) := by decide +kernel
theorem dL_watch_3 : decode cL_watch 3 = .ok (.iload_n 3, 1) := by decide +kernel
theorem dL_watch_4 : decode cL_watch 4 = .ok (.invokevirtual 29, 3) := by decide +kernel
theorem dL_watch_7 : decode cL_watch 7 = .ok (.lconst 0, 1) := by decide +kernel
theorem dL_watch_8 : decode cL_watch 8 = .ok (.lreturn, 1) := by decide +kernel
theorem dL_watch_9 : decode cL_watch 9 = .ok (.astore 4, 2) := by decide +kernel
theorem dL_watch_11 : decode cL_watch 11 = .ok (.ldc2_w 16, 3) := by decide +kernel
theorem dL_watch_14 : decode cL_watch 14 = .ok (.lreturn, 1) := by decide +kernel
theorem dL_watch_15 : decode cL_watch 15 = .ok (.astore 4, 2) := by decide +kernel
theorem dL_watch_17 : decode cL_watch 17 = .ok (.ldc2_w 16, 3) := by decide +kernel
theorem dL_watch_20 : decode cL_watch 20 = .ok (.lreturn, 1) := by decide +kernel
set_option maxRecDepth 20000 in
theorem ggL_begin_X3_begin : GoodIn wsL_begin wsX3_begin := goodIn_ca (goodIn_r _ [7, 8, 9, 10, 11, 12, 6, 13, 14, 15, 16, 17, 18, 19, 20, 21, 22, 23, 24, 25, 26, 27, 28, 29, 30, 31, 32, 33, 34, 35, 36, 37, 38, 39, 40, 41, 42, 43, 44, 45, 46, 47, 48, 49, 50, 51, 52, 53, 54, 55, 56, 57, 58] (by decide +kernel) (by decide +kernel)) (goodIn_sub (fun _ h => List.mem_cons_of_mem _ (List.mem_append_right _ h)) (by decide +kernel))
set_option maxRecDepth 20000 in
theorem gL_begin_X3_begin : GoodIn wsL_begin (wsV RL 33 RX3 yX3_begin wsX3_begin) := goodIn_app (goodIn_of _ (by decide +kernel)) ggL_begin_X3_begin
theorem dL_begin_0 : decode cL_begin 0 = .ok (.aload_n 0, 1) := by decide +kernel
theorem dL_begin_1 : decode cL_begin 1 = .ok (.iload_n 1, 1) := by decide +kernel
theorem dL_begin_2 : decode cL_begin 2 = .ok (.invokevirtual 33, 3) := by decide +kernel
theorem dL_begin_5 : decode cL_begin 5 = .ok (.lconst 0, 1) := by decide +kernel
theorem dL_begin_6 : decode cL_begin 6 = .ok (.lreturn, 1) := by decide +kernel
theorem dL_begin_7 : decode cL_begin 7 = .ok (.astore_n 2, 1) := by decide +kernel
theorem dL_begin_8 : decode cL_begin 8 = .ok (.ldc2_w 16, 3) := by decide +kernel
theorem dL_begin_11 : decode cL_begin 11 = .ok (.lreturn, 1) := by decide +kernel
set_option maxRecDepth 20000 in
theorem ggL_feed_X3_feed : GoodIn wsL_feed wsX3_feed := goodIn_ca (goodIn_ca (goodIn_r _ [8, 9, 10, 11, 12, 13, 14, 15, 7, 16, 17, 18, 19, 20, 21, 22, 23, 24, 25, 26, 27, 28, 29, 30, 31, 32, 33, 34, 35, 36, 37, 38, 39, 40, 41, 42, 43, 44, 45, 46, 47, 48, 49, 50, 51, 52, 53, 54, 55, 56, 57, 58, 59, 60, 61, 62, 63, 64, 65, 66, 67, 68, 69, 70, 71, 72, 73, 74, 75, 76, 77, 78, 79, 80, 81, 82, 83, 84, 85, 86, 87, 88, 89, 90, 91, 92, 93, 94, 95, 96, 97, 98, 99, 100, 101, 102, 103, 104, 105, 106, 107, 108, 109, 110, 111, 112, 113, 114, 115, 116, 117, 118, 119, 120, 121, 122, 123, 124, 125, 126, 127, 128, 129, 130, 131, 132, 133, 134, 135, 136, 137, 138, 139, 140, 141, 142, 143, 144, 145, 146, 147, 148, 149, 150, 151, 152, 153, 154] (by decide +kernel) (by decide +kernel)) (goodIn_sub (fun _ h => List.mem_cons_of_mem _ (List.mem_append_left _ (List.mem_append_right _ h))) (by decide +kernel))) (goodIn_sub (fun _ h => List.mem_cons_of_mem _ (List.mem_append_right _ h)) (by decide +kernel))
set_option maxRecDepth 20000 in
theorem gL_feed_X3_feed : GoodIn wsL_feed (wsV RL 37 RX3 yX3_feed wsX3_feed) := goodIn_app (goodIn_of _ (by decide +kernel)) ggL_feed_X3_feed
theorem dL_feed_0 : decode cL_feed 0 = .ok (.aload_n 0, 1) := by decide +kernel
theorem dL_feed_1 : decode cL_feed 1 = .ok (.iload_n 1, 1) := by decide +kernel
theorem dL_feed_2 : decode cL_feed 2 = .ok (.iload_n 2, 1) := by decide +kernel
theorem dL_feed_3 : decode cL_feed 3 = .ok (.invokevirtual 37, 3) := by decide +kernel
theorem dL_feed_6 : decode cL_feed 6 = .ok (.i2l, 1) := by decide +kernel
theorem dL_feed_7 : decode cL_feed 7 = .ok (.lreturn, 1) := by decide +kernel
theorem dL_feed_8 : decode cL_feed 8 = .ok (.astore_n 3, 1) := by decide +kernel
theorem dL_feed_9 : decode cL_feed 9 = .ok (.ldc2_w 16, 3) := by decide +kernel
theorem dL_feed_12 : decode cL_feed 12 = .ok (.lreturn, 1) := by decide +kernel
theorem dL_feed_13 : decode cL_feed 13 = .ok (.astore_n 3, 1) := by decide +kernel
theorem dL_feed_14 : decode cL_feed 14 = .ok (.ldc2_w 16, 3) := by decide +kernel
theorem dL_feed_17 : decode cL_feed 17 = .ok (.lreturn, 1) := by decide +kernel
set_option maxRecDepth 20000 in
theorem ggL_script_X3_script : GoodIn wsL_script wsX3_script := goodIn_ca (goodIn_ca (goodIn_r _ [8, 9, 10, 11, 12, 13, 14, 15, 7, 16, 17, 18, 19, 20, 21, 22, 23, 24, 25, 26, 27, 28, 29, 30, 31, 32, 33, 34, 35, 36, 37, 38, 39, 40, 41, 42, 43, 44, 45, 46, 47, 48, 49, 50, 51, 52, 53, 54, 55, 56, 57, 58, 59, 60, 61, 62, 63, 64, 65, 66, 67, 68, 69, 70, 71, 72, 73, 74, 75, 76, 77, 78, 79, 80, 81, 82, 83, 84, 85, 86, 87, 88, 89, 90, 91, 92, 93, 94, 95, 96, 97, 98, 99, 100, 101, 102, 103, 104, 105, 106, 107, 108, 109, 110, 111, 112, 113, 114, 115, 116, 117, 118, 119, 120, 121, 122, 123, 124, 125, 126, 127, 128, 129, 130, 131, 132, 133, 134, 135, 136, 137, 138, 139, 140, 141, 142, 143, 144, 145, 146, 147, 148, 149, 150, 151, 152, 153, 154] (by decide +kernel) (by decide +kernel)) (goodIn_sub (fun _ h => List.mem_cons_of_mem _ (List.mem_append_left _ (List.mem_append_right _ h))) (by decide +kernel))) (goodIn_sub (fun _ h => List.mem_cons_of_mem _ (List.mem_append_right _ h)) (by decide +kernel))
set_option maxRecDepth 20000 in
theorem gL_script_X3_script : GoodIn wsL_script (wsV RL 40 RX3 yX3_script wsX3_script) := goodIn_app (goodIn_of _ (by decide +kernel)) ggL_script_X3_script
theorem dL_script_0 : decode cL_script 0 = .ok (.aload_n 0, 1) := by decide +kernel
theorem dL_script_1 : decode cL_script 1 = .ok (.iload_n 1, 1) := by decide +kernel
theorem dL_script_2 : decode cL_script 2 = .ok (.iload_n 2, 1) := by decide +kernel
theorem dL_script_3 : decode cL_script 3 = .ok (.invokevirtual 40, 3) := by decide +kernel
theorem dL_script_6 : decode cL_script 6 = .ok (.i2l, 1) := by decide +kernel
theorem dL_script_7 : decode cL_script 7 = .ok (.lreturn, 1) := by decide +kernel
theorem dL_script_8 : decode cL_script 8 = .ok (.astore_n 3, 1) := by decide +kernel
theorem dL_script_9 : decode cL_script 9 = .ok (.ldc2_w 16, 3) := by decide +kernel
theorem dL_script_12 : decode cL_script 12 = .ok (.lreturn, 1) := by decide +kernel
theorem dL_script_13 : decode cL_script 13 = .ok (.astore_n 3, 1) := by decide +kernel
theorem dL_script_14 : decode cL_script 14 = .ok (.ldc2_w 16, 3) := by decide +kernel
theorem dL_script_17 : decode cL_script 17 = .ok (.lreturn, 1) := by decide +kernel
set_option maxRecDepth 20000 in
theorem ggL_weight_X3_weight : GoodIn wsL_weight wsX3_weight := goodIn_ca (goodIn_r _ [8, 9, 10, 11, 12, 13, 7, 14, 15, 16, 17, 18, 19, 20, 21, 22, 23, 24, 25, 26, 27, 28, 29, 30, 31, 32] (by decide +kernel) (by decide +kernel)) (goodIn_sub (fun _ h => List.mem_cons_of_mem _ (List.mem_append_right _ h)) (by decide +kernel))
set_option maxRecDepth 20000 in
theorem gL_weight_X3_weight : GoodIn wsL_weight (wsV RL 45 RX3 yX3_weight wsX3_weight) := goodIn_app (goodIn_of _ (by decide +kernel)) ggL_weight_X3_weight
theorem dL_weight_0 : decode cL_weight 0 = .ok (.ldc2_w 43, 3) := by decide +kernel
theorem dL_weight_3 : decode cL_weight 3 = .ok (.aload_n 0, 1) := by decide +kernel
theorem dL_weight_4 : decode cL_weight 4 = .ok (.iload_n 1, 1) := by decide +kernel
theorem dL_weight_5 : decode cL_weight 5 = .ok (.iload_n 2, 1) := by decide +kernel
theorem dL_weight_6 : decode cL_weight 6 = .ok (.invokevirtual 45, 3) := by decide +kernel
theorem dL_weight_9 : decode cL_weight 9 = .ok (.dmul, 1) := by decide +kernel
theorem dL_weight_10 : decode cL_weight 10 = .ok (.d2l, 1) := by decide +kernel
theorem dL_weight_11 : decode cL_weight 11 = .ok (.lreturn, 1) := by decide +kernel
theorem dL_weight_12 : decode cL_weight 12 = .ok (.astore_n 3, 1) := by decide +kernel
theorem dL_weight_13 : decode cL_weight 13 = .ok (.ldc2_w 16, 3) := by decide +kernel
theorem dL_weight_16 : decode cL_weight 16 = .ok (.lreturn, 1) := by decide +kernel
set_option maxRecDepth 20000 in
theorem ggL_of_X3_of : GoodIn wsL_of wsX3_of := goodIn_ca (goodIn_ca (goodIn_r _ [9, 10, 11, 12, 13, 14, 15, 16, 17, 8, 18, 19, 20, 21, 22, 23, 24, 25, 26, 27, 28, 29, 30, 31, 32, 33, 34, 35, 36, 37, 38, 39, 40, 41, 42, 43, 44, 45, 46, 47, 48, 49, 50, 51, 52, 53, 54, 55, 56, 57, 58, 59, 60, 61, 62, 63] (by decide +kernel) (by decide +kernel)) (goodIn_sub (fun _ h => List.mem_cons_of_mem _ (List.mem_append_left _ (List.mem_append_right _ h))) (by decide +kernel))) (goodIn_sub (fun _ h => List.mem_cons_of_mem _ (List.mem_append_right _ h)) (by decide +kernel))
set_option maxRecDepth 20000 in
theorem gL_of_X3_of : GoodIn wsL_of (wsV RL 49 RX3 yX3_of wsX3_of) := goodIn_app (goodIn_of _ (by decide +kernel)) ggL_of_X3_of
theorem dL_of_0 : decode cL_of 0 = .ok (.ldc2_w 43, 3) := by decide +kernel
theorem dL_of_3 : decode cL_of 3 = .ok (.aload_n 0, 1) := by decide +kernel
theorem dL_of_4 : decode cL_of 4 = .ok (.iload_n 1, 1) := by decide +kernel
theorem dL_of_5 : decode cL_of 5 = .ok (.iload_n 2, 1) := by decide +kernel
theorem dL_of_6 : decode cL_of 6 = .ok (.invokevirtual 49, 3) := by decide +kernel
theorem dL_of_9 : decode cL_of 9 = .ok (.dmul, 1) := by decide +kernel
theorem dL_of_10 : decode cL_of 10 = .ok (.d2l, 1) := by decide +kernel
theorem dL_of_11 : decode cL_of 11 = .ok (.lreturn, 1) := by decide +kernel
theorem dL_of_12 : decode cL_of 12 = .ok (.astore_n 3, 1) := by decide +kernel
theorem dL_of_13 : decode cL_of 13 = .ok (.ldc2_w 16, 3) := by decide +kernel
theorem dL_of_16 : decode cL_of 16 = .ok (.lreturn, 1) := by decide +kernel
theorem dL_of_17 : decode cL_of 17 = .ok (.astore_n 3, 1) := by decide +kernel
theorem dL_of_18 : decode cL_of 18 = .ok (.ldc2_w 16, 3) := by decide +kernel
theorem dL_of_21 : decode cL_of 21 = .ok (.lreturn, 1) := by decide +kernel
set_option maxRecDepth 20000 in
theorem ggL_count_X3_count : GoodIn wsL_count wsX3_count := goodIn_ca (goodIn_ca (goodIn_r _ [8, 9, 10, 11, 12, 13, 14, 15, 7, 16, 17, 18, 19, 20, 21, 22, 23, 24, 25, 26, 27, 28, 29, 30, 31, 32, 33, 34] (by decide +kernel) (by decide +kernel)) (goodIn_sub (fun _ h => List.mem_cons_of_mem _ (List.mem_append_left _ (List.mem_append_right _ h))) (by decide +kernel))) (goodIn_sub (fun _ h => List.mem_cons_of_mem _ (List.mem_append_right _ h)) (by decide +kernel))
set_option maxRecDepth 20000 in
theorem gL_count_X3_count : GoodIn wsL_count (wsV RL 52 RX3 yX3_count wsX3_count) := goodIn_app (goodIn_of _ (by decide +kernel)) ggL_count_X3_count
theorem dL_count_0 : decode cL_count 0 = .ok (.aload_n 0, 1) := by decide +kernel
theorem dL_count_1 : decode cL_count 1 = .ok (.iload_n 1, 1) := by decide +kernel
theorem dL_count_2 : decode cL_count 2 = .ok (.iload_n 2, 1) := by decide +kernel
theorem dL_count_3 : decode cL_count 3 = .ok (.invokevirtual 52, 3) := by decide +kernel
theorem dL_count_6 : decode cL_count 6 = .ok (.i2l, 1) := by decide +kernel
theorem dL_count_7 : decode cL_count 7 = .ok (.lreturn, 1) := by decide +kernel
theorem dL_count_8 : decode cL_count 8 = .ok (.astore_n 3, 1) := by decide +kernel
theorem dL_count_9 : decode cL_count 9 = .ok (.ldc2_w 16, 3) := by decide +kernel
theorem dL_count_12 : decode cL_count 12 = .ok (.lreturn, 1) := by decide +kernel
theorem dL_count_13 : decode cL_count 13 = .ok (.astore_n 3, 1) := by decide +kernel
theorem dL_count_14 : decode cL_count 14 = .ok (.ldc2_w 16, 3) := by decide +kernel
theorem dL_count_17 : decode cL_count 17 = .ok (.lreturn, 1) := by decide +kernel
set_option maxRecDepth 20000 in
theorem ggL_batch_X3_batch : GoodIn wsL_batch wsX3_batch := goodIn_ca (goodIn_r _ [8, 9, 10, 11, 12, 13, 7, 14, 15, 16, 17, 18, 19, 20, 21, 22, 23, 24, 25, 26, 27, 28, 29, 30, 31, 32, 33, 34, 35, 36, 37, 38, 39, 40, 41, 42, 43, 44, 45, 46, 47] (by decide +kernel) (by decide +kernel)) (goodIn_sub (fun _ h => List.mem_cons_of_mem _ (List.mem_append_right _ h)) (by decide +kernel))
set_option maxRecDepth 20000 in
theorem gL_batch_X3_batch : GoodIn wsL_batch (wsV RL 55 RX3 yX3_batch wsX3_batch) := goodIn_app (goodIn_of _ (by decide +kernel)) ggL_batch_X3_batch
theorem dL_batch_0 : decode cL_batch 0 = .ok (.ldc2_w 43, 3) := by decide +kernel
theorem dL_batch_3 : decode cL_batch 3 = .ok (.aload_n 0, 1) := by decide +kernel
theorem dL_batch_4 : decode cL_batch 4 = .ok (.iload_n 1, 1) := by decide +kernel
theorem dL_batch_5 : decode cL_batch 5 = .ok (.invokevirtual 55, 3) := by decide +kernel
theorem dL_batch_8 : decode cL_batch 8 = .ok (.dmul, 1) := by decide +kernel
theorem dL_batch_9 : decode cL_batch 9 = .ok (.d2l, 1) := by decide +kernel
theorem dL_batch_10 : decode cL_batch 10 = .ok (.lreturn, 1) := by decide +kernel
theorem dL_batch_11 : decode cL_batch 11 = .ok (.astore_n 2, 1) := by decide +kernel
theorem dL_batch_12 : decode cL_batch 12 = .ok (.ldc2_w 16, 3) := by decide +kernel
theorem dL_batch_15 : decode cL_batch 15 = .ok (.lreturn, 1) := by decide +kernel
set_option maxRecDepth 20000 in
theorem ggL_square_X3_square : GoodIn wsL_square wsX3_square := goodIn_ca (goodIn_ca (goodIn_r _ [9, 10, 11, 12, 13, 14, 15, 16, 8, 17, 18, 19, 20, 21, 22, 23, 24, 25, 26, 27, 28, 29, 30, 31, 32, 33, 34, 35, 36, 37, 38, 39, 40, 41, 42, 43, 44, 45, 46, 47, 48] (by decide +kernel) (by decide +kernel)) (goodIn_sub (fun _ h => List.mem_cons_of_mem _ (List.mem_append_left _ (List.mem_append_right _ h))) (by decide +kernel))) (goodIn_sub (fun _ h => List.mem_cons_of_mem _ (List.mem_append_right _ h)) (by decide +kernel))
set_option maxRecDepth 20000 in
theorem gL_square_X3_square : GoodIn wsL_square (wsV RL 59 RX3 yX3_square wsX3_square) := goodIn_app (goodIn_of _ (by decide +kernel)) ggL_square_X3_square
theorem dL_square_0 : decode cL_square 0 = .ok (.ldc2_w 43, 3) := by decide +kernel
theorem dL_square_3 : decode cL_square 3 = .ok (.aload_n 0, 1) := by decide +kernel
theorem dL_square_4 : decode cL_square 4 = .ok (.iload_n 1, 1) := by decide +kernel
theorem dL_square_5 : decode cL_square 5 = .ok (.iload_n 2, 1) := by decide +kernel
theorem dL_square_6 : decode cL_square 6 = .ok (.iload_n 3, 1) := by decide +kernel
theorem dL_square_7 : decode cL_square 7 = .ok (.invokevirtual 59, 3) := by decide +kernel
theorem dL_square_10 : decode cL_square 10 = .ok (.dmul, 1) := by decide +kernel
theorem dL_square_11 : decode cL_square 11 = .ok (.d2l, 1) := by decide +kernel
theorem dL_square_12 : decode cL_square 12 = .ok (.lreturn, 1) := by decide +kernel
theorem dL_square_13 : decode cL_square 13 = .ok (.astore 4, 2) := by decide +kernel
theorem dL_square_15 : decode cL_square 15 = .ok (.ldc2_w 16, 3) := by decide +kernel
theorem dL_square_18 : decode cL_square 18 = .ok (.lreturn, 1) := by decide +kernel
theorem dL_square_19 : decode cL_square 19 = .ok (.astore 4, 2) := by decide +kernel
theorem dL_square_21 : decode cL_square 21 = .ok (.ldc2_w 16, 3) := by decide +kernel
theorem dL_square_24 : decode cL_square 24 = .ok (.lreturn, 1) := by decide +kernel
set_option maxRecDepth 20000 in
theorem ggL_act_L_low : GoodIn wsL_act wsL_low := goodIn_r _ [4, 5] (by decide +kernel) (by decide +kernel)
set_option maxRecDepth 20000 in
theorem gL_act_L_low : GoodIn wsL_act (va_wsS RL 63 yL_low wsL_low) := goodIn_app (goodIn_of _ (by decide +kernel)) ggL_act_L_low
set_option maxRecDepth 20000 in
theorem ggL_act_L_path : GoodIn wsL_act wsL_path := goodIn_ca (goodIn_ca (goodIn_r _ [8, 9, 10, 11, 12, 13, 14, 15, 16, 17, 18, 19, 20, 21, 22, 23, 24, 25, 26, 27, 28, 29, 270, 271, 272, 273, 274, 275, 276, 277, 278, 279] (by decide +kernel) (by decide +kernel)) (goodIn_sub (fun _ h => List.mem_cons_of_mem _ (List.mem_append_left _ (List.mem_append_left _ (List.mem_append_right _ h)))) (by decide +kernel))) (goodIn_sub (fun _ h => List.mem_cons_of_mem _ (List.mem_append_left _ (List.mem_append_right _ h))) (by decide +kernel))
set_option maxRecDepth 20000 in
theorem gL_act_L_path : GoodIn wsL_act (va_wsS RL 68 yL_path wsL_path) := goodIn_app (goodIn_of _ (by decide +kernel)) ggL_act_L_path
set_option maxRecDepth 20000 in
theorem ggL_act_L_filter : GoodIn wsL_act wsL_filter := goodIn_ca (goodIn_ca (goodIn_r _ [32, 10, 33, 11, 34, 35, 36, 15, 37, 19, 20, 38, 39, 40, 41, 42, 43, 44, 22, 23, 24, 45, 46, 47, 48, 49, 50, 51, 52, 53, 54, 55, 56, 57, 58, 59, 60, 61, 62, 63, 64, 65, 66, 67, 68, 69, 70, 270, 271, 272, 280, 281, 282, 283, 284, 285, 286, 287, 288, 289, 290, 291, 292, 293, 294, 295, 296] (by decide +kernel) (by decide +kernel)) (goodIn_sub (fun _ h => List.mem_cons_of_mem _ (List.mem_append_left _ (List.mem_append_right _ h))) (by decide +kernel))) (goodIn_sub (fun _ h => List.mem_cons_of_mem _ (List.mem_append_right _ h)) (by decide +kernel))
set_option maxRecDepth 20000 in
theorem gL_act_L_filter : GoodIn wsL_act (va_wsS RL 71 yL_filter wsL_filter) := goodIn_app (goodIn_of _ (by decide +kernel)) ggL_act_L_filter
set_option maxRecDepth 20000 in
theorem ggL_act_L_step : GoodIn wsL_act wsL_step := goodIn_ca (goodIn_ca (goodIn_r _ [73, 9, 10, 11, 74, 75, 76, 15, 77, 17, 18, 19, 20, 78, 79, 80, 81, 40, 41, 45, 46, 47, 22, 23, 24, 280, 281, 282, 283, 284, 285, 286, 287, 288, 289, 290, 291, 292, 270, 271, 272] (by decide +kernel) (by decide +kernel)) (goodIn_sub (fun _ h => List.mem_cons_of_mem _ (List.mem_append_left _ (List.mem_append_left _ (List.mem_append_right _ h)))) (by decide +kernel))) (goodIn_sub (fun _ h => List.mem_cons_of_mem _ (List.mem_append_left _ (List.mem_append_right _ h))) (by decide +kernel))
set_option maxRecDepth 20000 in
theorem gL_act_L_step : GoodIn wsL_act (va_wsS RL 74 yL_step wsL_step) := goodIn_app (goodIn_of _ (by decide +kernel)) ggL_act_L_step
set_option maxRecDepth 20000 in
theorem ggL_act_L_watch : GoodIn wsL_act wsL_watch := goodIn_ca (goodIn_ca (goodIn_r _ [84, 9, 10, 11, 85, 86, 87, 15, 88, 17, 18, 19, 20, 78, 79, 80, 81, 40, 41, 22, 23, 24, 280, 281, 282, 283, 284, 285, 286, 287, 288, 289, 290, 291, 292, 270, 271, 272] (by decide +kernel) (by decide +kernel)) (goodIn_sub (fun _ h => List.mem_cons_of_mem _ (List.mem_append_left _ (List.mem_append_left _ (List.mem_append_right _ h)))) (by decide +kernel))) (goodIn_sub (fun _ h => List.mem_cons_of_mem _ (List.mem_append_left _ (List.mem_append_right _ h))) (by decide +kernel))
set_option maxRecDepth 20000 in
theorem gL_act_L_watch : GoodIn wsL_act (va_wsS RL 76 yL_watch wsL_watch) := goodIn_app (goodIn_of _ (by decide +kernel)) ggL_act_L_watch
set_option maxRecDepth 20000 in
theorem ggL_act_L_begin : GoodIn wsL_act wsL_begin := goodIn_ca (goodIn_r _ [91, 9, 11, 92, 93, 94, 15, 95, 17, 18, 78, 79, 80, 81, 40, 41, 96, 44, 97, 98, 55, 60, 99, 100, 101, 102, 103, 104, 105, 106, 107, 108, 109, 59, 110, 111, 65, 67, 70, 270, 271, 272, 280, 281, 282, 283, 284, 285, 286, 287, 288, 289, 290, 291, 292, 293, 294, 295, 296] (by decide +kernel) (by decide +kernel)) (goodIn_sub (fun _ h => List.mem_cons_of_mem _ (List.mem_append_left _ (List.mem_append_left _ (List.mem_append_right _ h)))) (by decide +kernel))
set_option maxRecDepth 20000 in
theorem gL_act_L_begin : GoodIn wsL_act (va_wsS RL 78 yL_begin wsL_begin) := goodIn_app (goodIn_of _ (by decide +kernel)) ggL_act_L_begin
set_option maxRecDepth 20000 in
theorem ggL_act_L_count : GoodIn wsL_act wsL_count := goodIn_ca (goodIn_ca (goodIn_r _ [114, 9, 10, 11, 115, 116, 117, 15, 118, 17, 18, 19, 20, 78, 79, 80, 81, 40, 41, 280, 281, 282, 283, 284, 285, 286, 287, 288, 289, 290, 291, 292, 270, 271, 272] (by decide +kernel) (by decide +kernel)) (goodIn_sub (fun _ h => List.mem_cons_of_mem _ (List.mem_append_left _ (List.mem_append_left _ (List.mem_append_right _ h)))) (by decide +kernel))) (goodIn_sub (fun _ h => List.mem_cons_of_mem _ (List.mem_append_left _ (List.mem_append_right _ h))) (by decide +kernel))
set_option maxRecDepth 20000 in
theorem gL_act_L_count : GoodIn wsL_act (va_wsS RL 81 yL_count wsL_count) := goodIn_app (goodIn_of _ (by decide +kernel)) ggL_act_L_count
set_option maxRecDepth 20000 in
theorem ggL_act_L_feed : GoodIn wsL_act wsL_feed := goodIn_ca (goodIn_ca (goodIn_r _ [121, 10, 33, 11, 122, 123, 124, 15, 125, 19, 20, 38, 39, 21, 22, 23, 24, 126, 127, 128, 129, 40, 130, 26, 131, 132, 133, 134, 135, 136, 137, 138, 139, 140, 141, 142, 29, 143, 144, 145, 146, 147, 78, 79, 80, 81, 41, 148, 44, 149, 150, 100, 101, 56, 102, 103, 60, 151, 152, 153, 154, 55, 155, 156, 157, 158, 159, 160, 99, 161, 162, 163, 164, 165, 166, 167, 168, 169, 170, 171, 172, 61, 173, 104, 174, 59, 175, 176, 65, 68, 177, 69, 178, 179, 180, 181, 67, 182, 183, 184, 185, 186, 187, 188, 189, 190, 191, 192, 193, 194, 195, 109, 110, 111, 70, 196, 197, 198, 199, 53, 200, 201, 202, 203, 204, 205, 206, 207, 270, 271, 272, 273, 274, 275, 276, 277, 278, 279, 280, 281, 282, 283, 284, 285, 286, 287, 288, 289, 290, 291, 292, 293, 294, 295, 296] (by decide +kernel) (by decide +kernel)) (goodIn_sub (fun _ h => List.mem_cons_of_mem _ (List.mem_append_left _ (List.mem_append_right _ h))) (by decide +kernel))) (goodIn_sub (fun _ h => List.mem_cons_of_mem _ (List.mem_append_right _ h)) (by decide +kernel))
set_option maxRecDepth 20000 in
theorem gL_act_L_feed : GoodIn wsL_act (va_wsS RL 83 yL_feed wsL_feed) := goodIn_app (goodIn_of _ (by decide +kernel)) ggL_act_L_feed
set_option maxRecDepth 20000 in
theorem ggL_act_L_script : GoodIn wsL_act wsL_script := goodIn_ca (goodIn_ca (goodIn_r _ [210, 10, 33, 11, 211, 212, 213, 15, 214, 19, 20, 38, 39, 21, 22, 23, 24, 126, 127, 128, 129, 40, 130, 26, 131, 132, 133, 134, 135, 136, 137, 138, 139, 140, 141, 142, 29, 143, 144, 145, 146, 147, 78, 79, 80, 81, 41, 148, 44, 149, 150, 100, 101, 56, 102, 103, 60, 151, 152, 153, 154, 55, 155, 156, 157, 158, 159, 160, 99, 161, 162, 163, 164, 165, 166, 167, 168, 169, 170, 171, 172, 61, 173, 104, 174, 59, 175, 176, 65, 68, 177, 69, 178, 179, 180, 181, 67, 182, 183, 184, 185, 186, 187, 188, 189, 190, 191, 192, 193, 194, 195, 109, 110, 111, 70, 196, 197, 198, 199, 53, 200, 201, 202, 203, 204, 205, 206, 207, 270, 271, 272, 273, 274, 275, 276, 277, 278, 279, 280, 281, 282, 283, 284, 285, 286, 287, 288, 289, 290, 291, 292, 293, 294, 295, 296] (by decide +kernel) (by decide +kernel)) (goodIn_sub (fun _ h => List.mem_cons_of_mem _ (List.mem_append_left _ (List.mem_append_right _ h))) (by decide +kernel))) (goodIn_sub (fun _ h => List.mem_cons_of_mem _ (List.mem_append_right _ h)) (by decide +kernel))
set_option maxRecDepth 20000 in
theorem gL_act_L_script : GoodIn wsL_act (va_wsS RL 85 yL_script wsL_script) := goodIn_app (goodIn_of _ (by decide +kernel)) ggL_act_L_script
set_option maxRecDepth 20000 in
theorem ggL_act_L_weight : GoodIn wsL_act wsL_weight := goodIn_ca (goodIn_r _ [217, 9, 218, 11, 219, 220, 221, 15, 222, 17, 18, 78, 79, 80, 81, 40, 41, 280, 281, 282, 283, 284, 285, 286, 287, 288, 289, 290, 291, 292, 270, 271, 272] (by decide +kernel) (by decide +kernel)) (goodIn_sub (fun _ h => List.mem_cons_of_mem _ (List.mem_append_left _ (List.mem_append_left _ (List.mem_append_right _ h)))) (by decide +kernel))
set_option maxRecDepth 20000 in
theorem gL_act_L_weight : GoodIn wsL_act (va_wsS RL 87 yL_weight wsL_weight) := goodIn_app (goodIn_of _ (by decide +kernel)) ggL_act_L_weight
set_option maxRecDepth 20000 in
theorem ggL_act_L_of : GoodIn wsL_act wsL_of := goodIn_ca (goodIn_ca (goodIn_r _ [225, 9, 10, 218, 11, 226, 227, 228, 15, 229, 17, 18, 19, 20, 21, 78, 79, 80, 81, 40, 41, 230, 26, 231, 232, 29, 143, 233, 44, 234, 235, 102, 236, 237, 238, 239, 56, 155, 145, 146, 147, 280, 281, 282, 283, 284, 285, 286, 287, 288, 289, 290, 291, 292, 270, 271, 272, 273, 274, 275, 276, 277, 278, 279] (by decide +kernel) (by decide +kernel)) (goodIn_sub (fun _ h => List.mem_cons_of_mem _ (List.mem_append_left _ (List.mem_append_left _ (List.mem_append_right _ h)))) (by decide +kernel))) (goodIn_sub (fun _ h => List.mem_cons_of_mem _ (List.mem_append_left _ (List.mem_append_right _ h))) (by decide +kernel))
set_option maxRecDepth 20000 in
theorem gL_act_L_of : GoodIn wsL_act (va_wsS RL 89 yL_of wsL_of) := goodIn_app (goodIn_of _ (by decide +kernel)) ggL_act_L_of
set_option maxRecDepth 20000 in
theorem ggL_act_L_batch : GoodIn wsL_act wsL_batch := goodIn_ca (goodIn_r _ [242, 9, 218, 11, 243, 244, 245, 15, 246, 17, 18, 21, 22, 23, 24, 247, 26, 248, 249, 136, 137, 138, 250, 251, 252, 253, 254, 135, 255, 237, 238, 239, 144, 145, 146, 147, 167, 168, 270, 271, 272, 273, 274, 275, 276, 277, 278, 279] (by decide +kernel) (by decide +kernel)) (goodIn_sub (fun _ h => List.mem_cons_of_mem _ (List.mem_append_left _ (List.mem_append_left _ (List.mem_append_right _ h)))) (by decide +kernel))
set_option maxRecDepth 20000 in
theorem gL_act_L_batch : GoodIn wsL_act (va_wsS RL 91 yL_batch wsL_batch) := goodIn_app (goodIn_of _ (by decide +kernel)) ggL_act_L_batch
set_option maxRecDepth 20000 in
theorem ggL_act_L_square : GoodIn wsL_act wsL_square := goodIn_ca (goodIn_ca (goodIn_r _ [258, 9, 33, 218, 11, 259, 260, 261, 15, 262, 17, 18, 38, 39, 78, 79, 80, 81, 40, 41, 22, 23, 24, 263, 59, 264, 265, 65, 67, 280, 281, 282, 283, 284, 285, 286, 287, 288, 289, 290, 291, 292, 270, 271, 272, 293, 294, 295, 296] (by decide +kernel) (by decide +kernel)) (goodIn_sub (fun _ h => List.mem_cons_of_mem _ (List.mem_append_left _ (List.mem_append_left _ (List.mem_append_right _ h)))) (by decide +kernel))) (goodIn_sub (fun _ h => List.mem_cons_of_mem _ (List.mem_append_right _ h)) (by decide +kernel))
set_option maxRecDepth 20000 in
theorem gL_act_L_square : GoodIn wsL_act (va_wsS RL 93 yL_square wsL_square) := goodIn_app (goodIn_of _ (by decide +kernel)) ggL_act_L_square
set_option maxRecDepth 20000 in
theorem ggL_act_X3_best : GoodIn wsL_act wsX3_best := goodIn_r _ [269, 40, 21, 78, 79, 80, 15, 81, 41, 230, 26, 231, 232, 29, 143, 270, 271, 272, 280, 281, 282, 283, 284, 285, 286, 287, 288, 289, 290, 291, 292, 273, 274, 275, 276, 277, 278, 279] (by decide +kernel) (by decide +kernel)
set_option maxRecDepth 20000 in
theorem gL_act_X3_best : GoodIn wsL_act (wsV RL 95 RX3 yX3_best wsX3_best) := goodIn_app (goodIn_of _ (by decide +kernel)) ggL_act_X3_best
theorem dL_act_0 : decode cL_act 0 = .ok (.iload_n 1, 1) := by decide +kernel
theorem dL_act_1 : decode cL_act 1 = .ok (.bipush 26, 2) := by decide +kernel
theorem dL_act_3 : decode cL_act 3 = .ok (.ishr, 1) := by decide +kernel
theorem dL_act_4 : decode cL_act 4 = .ok (.bipush 14, 2) := by decide +kernel
theorem dL_act_6 : decode cL_act 6 = .ok (.invokestatic 63, 3) := by decide +kernel
theorem dL_act_9 : decode cL_act 9 = .ok (.ifCond .ne 7, 3) := by decide +kernel
theorem dL_act_12 : decode cL_act 12 = .ok (.iconst 1, 1) := by decide +kernel
theorem dL_act_13 : decode cL_act 13 = .ok (.goto 4, 3) := by decide +kernel
theorem dL_act_16 : decode cL_act 16 = .ok (.iconst 0, 1) := by decide +kernel
theorem dL_act_17 : decode cL_act 17 = .ok (.istore_n 2, 1) := by decide +kernel
theorem dL_act_18 : decode cL_act 18 = .ok (.iload_n 2, 1) := by decide +kernel
theorem dL_act_19 : decode cL_act 19 = .ok (.ifCond .eq 16, 3) := by decide +kernel
theorem dL_act_22 : decode cL_act 22 = .ok (.iload_n 1, 1) := by decide +kernel
theorem dL_act_23 : decode cL_act 23 = .ok (.iconst 5, 1) := by decide +kernel
theorem dL_act_24 : decode cL_act 24 = .ok (.ishr, 1) := by decide +kernel
theorem dL_act_25 : decode cL_act 25 = .ok (.bipush 9, 2) := by decide +kernel
theorem dL_act_27 : decode cL_act 27 = .ok (.invokestatic 63, 3) := by decide +kernel
theorem dL_act_30 : decode cL_act 30 = .ok (.iconst 1, 1) := by decide +kernel
theorem dL_act_31 : decode cL_act 31 = .ok (.isub, 1) := by decide +kernel
theorem dL_act_32 : decode cL_act 32 = .ok (.goto 10, 3) := by decide +kernel
theorem dL_act_35 : decode cL_act 35 = .ok (.iload_n 1, 1) := by decide +kernel
theorem dL_act_36 : decode cL_act 36 = .ok (.iconst 5, 1) := by decide +kernel
theorem dL_act_37 : decode cL_act 37 = .ok (.ishr, 1) := by decide +kernel
theorem dL_act_38 : decode cL_act 38 = .ok (.iconst 3, 1) := by decide +kernel
theorem dL_act_39 : decode cL_act 39 = .ok (.invokestatic 63, 3) := by decide +kernel
theorem dL_act_42 : decode cL_act 42 = .ok (.istore_n 3, 1) := by decide +kernel
theorem dL_act_43 : decode cL_act 43 = .ok (.iload_n 2, 1) := by decide +kernel
theorem dL_act_44 : decode cL_act 44 = .ok (.ifCond .eq 17, 3) := by decide +kernel
theorem dL_act_47 : decode cL_act 47 = .ok (.iload_n 1, 1) := by decide +kernel
theorem dL_act_48 : decode cL_act 48 = .ok (.bipush 8, 2) := by decide +kernel
theorem dL_act_50 : decode cL_act 50 = .ok (.ishr, 1) := by decide +kernel
theorem dL_act_51 : decode cL_act 51 = .ok (.bipush 11, 2) := by decide +kernel
theorem dL_act_53 : decode cL_act 53 = .ok (.invokestatic 63, 3) := by decide +kernel
theorem dL_act_56 : decode cL_act 56 = .ok (.iconst 1, 1) := by decide +kernel
theorem dL_act_57 : decode cL_act 57 = .ok (.isub, 1) := by decide +kernel
theorem dL_act_58 : decode cL_act 58 = .ok (.goto 11, 3) := by decide +kernel
theorem dL_act_61 : decode cL_act 61 = .ok (.iload_n 1, 1) := by decide +kernel
theorem dL_act_62 : decode cL_act 62 = .ok (.bipush 8, 2) := by decide +kernel
theorem dL_act_64 : decode cL_act 64 = .ok (.ishr, 1) := by decide +kernel
theorem dL_act_65 : decode cL_act 65 = .ok (.iconst 4, 1) := by decide +kernel
theorem dL_act_66 : decode cL_act 66 = .ok (.invokestatic 63, 3) := by decide +kernel
theorem dL_act_69 : decode cL_act 69 = .ok (.istore 4, 2) := by decide +kernel
theorem dL_act_71 : decode cL_act 71 = .ok (.iload_n 2, 1) := by decide +kernel
theorem dL_act_72 : decode cL_act 72 = .ok (.ifCond .eq 10, 3) := by decide +kernel
theorem dL_act_75 : decode cL_act 75 = .ok (.iload_n 1, 1) := by decide +kernel
theorem dL_act_76 : decode cL_act 76 = .ok (.bipush 9, 2) := by decide +kernel
theorem dL_act_78 : decode cL_act 78 = .ok (.ishr, 1) := by decide +kernel
theorem dL_act_79 : decode cL_act 79 = .ok (.goto 17, 3) := by decide +kernel
theorem dL_act_82 : decode cL_act 82 = .ok (.iload_n 1, 1) := by decide +kernel
theorem dL_act_83 : decode cL_act 83 = .ok (.bipush 9, 2) := by decide +kernel
theorem dL_act_85 : decode cL_act 85 = .ok (.ishr, 1) := by decide +kernel
theorem dL_act_86 : decode cL_act 86 = .ok (.sipush 900, 3) := by decide +kernel
theorem dL_act_89 : decode cL_act 89 = .ok (.invokestatic 63, 3) := by decide +kernel
theorem dL_act_92 : decode cL_act 92 = .ok (.sipush 450, 3) := by decide +kernel
theorem dL_act_95 : decode cL_act 95 = .ok (.isub, 1) := by decide +kernel
theorem dL_act_96 : decode cL_act 96 = .ok (.istore 5, 2) := by decide +kernel
theorem dL_act_98 : decode cL_act 98 = .ok (.iload_n 2, 1) := by decide +kernel
theorem dL_act_99 : decode cL_act 99 = .ok (.ifCond .eq 17, 3) := by decide +kernel
theorem dL_act_102 : decode cL_act 102 = .ok (.iload_n 1, 1) := by decide +kernel
theorem dL_act_103 : decode cL_act 103 = .ok (.bipush 11, 2) := by decide +kernel
theorem dL_act_105 : decode cL_act 105 = .ok (.ishr, 1) := by decide +kernel
theorem dL_act_106 : decode cL_act 106 = .ok (.bipush 7, 2) := by decide +kernel
theorem dL_act_108 : decode cL_act 108 = .ok (.invokestatic 63, 3) := by decide +kernel
theorem dL_act_111 : decode cL_act 111 = .ok (.iconst 1, 1) := by decide +kernel
theorem dL_act_112 : decode cL_act 112 = .ok (.isub, 1) := by decide +kernel
theorem dL_act_113 : decode cL_act 113 = .ok (.goto 11, 3) := by decide +kernel
theorem dL_act_116 : decode cL_act 116 = .ok (.iload_n 1, 1) := by decide +kernel
theorem dL_act_117 : decode cL_act 117 = .ok (.bipush 11, 2) := by decide +kernel
theorem dL_act_119 : decode cL_act 119 = .ok (.ishr, 1) := by decide +kernel
theorem dL_act_120 : decode cL_act 120 = .ok (.iconst 4, 1) := by decide +kernel
theorem dL_act_121 : decode cL_act 121 = .ok (.invokestatic 63, 3) := by decide +kernel
theorem dL_act_124 : decode cL_act 124 = .ok (.istore 6, 2) := by decide +kernel
theorem dL_act_126 : decode cL_act 126 = .ok (.iload_n 1, 1) := by decide +kernel
theorem dL_act_127 : decode cL_act 127 = .ok (.bipush 26, 2) := by decide +kernel
theorem dL_act_129 : decode cL_act 129 = .ok (.invokestatic 63, 3) := by decide +kernel
theorem dL_act_132 : decode cL_act 132 = .ok (.tableswitch 478 0 24 #[116, 116, 116, 125, 125, 125, 189, 218, 261, 303, 303, 303, 303, 303, 303, 303, 303, 348, 394, 394, 402, 402, 425, 447, 472], 116) := by decide +kernel
theorem dL_act_248 : decode cL_act 248 = .ok (.aload_n 0, 1) := by decide +kernel
theorem dL_act_249 : decode cL_act 249 = .ok (.iload 4, 2) := by decide +kernel
theorem dL_act_251 : decode cL_act 251 = .ok (.iload 5, 2) := by decide +kernel
theorem dL_act_253 : decode cL_act 253 = .ok (.invokestatic 68, 3) := by decide +kernel
theorem dL_act_256 : decode cL_act 256 = .ok (.lreturn, 1) := by decide +kernel
theorem dL_act_257 : decode cL_act 257 = .ok (.aload_n 0, 1) := by decide +kernel
theorem dL_act_258 : decode cL_act 258 = .ok (.iload 6, 2) := by decide +kernel
theorem dL_act_260 : decode cL_act 260 = .ok (.iload_n 2, 1) := by decide +kernel
theorem dL_act_261 : decode cL_act 261 = .ok (.ifCond .eq 8, 3) := by decide +kernel
theorem dL_act_264 : decode cL_act 264 = .ok (.iload 4, 2) := by decide +kernel
theorem dL_act_266 : decode cL_act 266 = .ok (.goto 7, 3) := by decide +kernel
theorem dL_act_269 : decode cL_act 269 = .ok (.iconst 1, 1) := by decide +kernel
theorem dL_act_270 : decode cL_act 270 = .ok (.iload 4, 2) := by decide +kernel
theorem dL_act_272 : decode cL_act 272 = .ok (.iadd, 1) := by decide +kernel
theorem dL_act_273 : decode cL_act 273 = .ok (.iload_n 2, 1) := by decide +kernel
theorem dL_act_274 : decode cL_act 274 = .ok (.ifCond .eq 8, 3) := by decide +kernel
theorem dL_act_277 : decode cL_act 277 = .ok (.iload 5, 2) := by decide +kernel
theorem dL_act_279 : decode cL_act 279 = .ok (.goto 38, 3) := by decide +kernel
theorem dL_act_282 : decode cL_act 282 = .ok (.iload 6, 2) := by decide +kernel
theorem dL_act_284 : decode cL_act 284 = .ok (.iconst 3, 1) := by decide +kernel
theorem dL_act_285 : decode cL_act 285 = .ok (.if_icmp .ne 20, 3) := by decide +kernel
theorem dL_act_288 : decode cL_act 288 = .ok (.sipush 500, 3) := by decide +kernel
theorem dL_act_291 : decode cL_act 291 = .ok (.iload_n 1, 1) := by decide +kernel
theorem dL_act_292 : decode cL_act 292 = .ok (.bipush 9, 2) := by decide +kernel
theorem dL_act_294 : decode cL_act 294 = .ok (.ishr, 1) := by decide +kernel
theorem dL_act_295 : decode cL_act 295 = .ok (.sipush 501, 3) := by decide +kernel
theorem dL_act_298 : decode cL_act 298 = .ok (.invokestatic 63, 3) := by decide +kernel
theorem dL_act_301 : decode cL_act 301 = .ok (.iadd, 1) := by decide +kernel
theorem dL_act_302 : decode cL_act 302 = .ok (.goto 15, 3) := by decide +kernel
theorem dL_act_305 : decode cL_act 305 = .ok (.iconst 1, 1) := by decide +kernel
theorem dL_act_306 : decode cL_act 306 = .ok (.iload_n 1, 1) := by decide +kernel
theorem dL_act_307 : decode cL_act 307 = .ok (.bipush 9, 2) := by decide +kernel
theorem dL_act_309 : decode cL_act 309 = .ok (.ishr, 1) := by decide +kernel
theorem dL_act_310 : decode cL_act 310 = .ok (.sipush 400, 3) := by decide +kernel
theorem dL_act_313 : decode cL_act 313 = .ok (.invokestatic 63, 3) := by decide +kernel
theorem dL_act_316 : decode cL_act 316 = .ok (.iadd, 1) := by decide +kernel
theorem dL_act_317 : decode cL_act 317 = .ok (.invokestatic 71, 3) := by decide +kernel
theorem dL_act_320 : decode cL_act 320 = .ok (.lreturn, 1) := by decide +kernel
theorem dL_act_321 : decode cL_act 321 = .ok (.aload_n 0, 1) := by decide +kernel
theorem dL_act_322 : decode cL_act 322 = .ok (.iload_n 3, 1) := by decide +kernel
theorem dL_act_323 : decode cL_act 323 = .ok (.iload_n 2, 1) := by decide +kernel
theorem dL_act_324 : decode cL_act 324 = .ok (.ifCond .eq 8, 3) := by decide +kernel
theorem dL_act_327 : decode cL_act 327 = .ok (.iload 5, 2) := by decide +kernel
theorem dL_act_329 : decode cL_act 329 = .ok (.goto 17, 3) := by decide +kernel
theorem dL_act_332 : decode cL_act 332 = .ok (.sipush 500, 3) := by decide +kernel
theorem dL_act_335 : decode cL_act 335 = .ok (.iload_n 1, 1) := by decide +kernel
theorem dL_act_336 : decode cL_act 336 = .ok (.bipush 9, 2) := by decide +kernel
theorem dL_act_338 : decode cL_act 338 = .ok (.ishr, 1) := by decide +kernel
theorem dL_act_339 : decode cL_act 339 = .ok (.sipush 500, 3) := by decide +kernel
theorem dL_act_342 : decode cL_act 342 = .ok (.invokestatic 63, 3) := by decide +kernel
theorem dL_act_345 : decode cL_act 345 = .ok (.iadd, 1) := by decide +kernel
theorem dL_act_346 : decode cL_act 346 = .ok (.invokestatic 74, 3) := by decide +kernel
theorem dL_act_349 : decode cL_act 349 = .ok (.lreturn, 1) := by decide +kernel
theorem dL_act_350 : decode cL_act 350 = .ok (.aload_n 0, 1) := by decide +kernel
theorem dL_act_351 : decode cL_act 351 = .ok (.iload_n 3, 1) := by decide +kernel
theorem dL_act_352 : decode cL_act 352 = .ok (.iload_n 2, 1) := by decide +kernel
theorem dL_act_353 : decode cL_act 353 = .ok (.ifCond .eq 8, 3) := by decide +kernel
theorem dL_act_356 : decode cL_act 356 = .ok (.iload 5, 2) := by decide +kernel
theorem dL_act_358 : decode cL_act 358 = .ok (.goto 13, 3) := by decide +kernel
theorem dL_act_361 : decode cL_act 361 = .ok (.iload_n 1, 1) := by decide +kernel
theorem dL_act_362 : decode cL_act 362 = .ok (.bipush 9, 2) := by decide +kernel
theorem dL_act_364 : decode cL_act 364 = .ok (.ishr, 1) := by decide +kernel
theorem dL_act_365 : decode cL_act 365 = .ok (.sipush 300, 3) := by decide +kernel
theorem dL_act_368 : decode cL_act 368 = .ok (.invokestatic 63, 3) := by decide +kernel
theorem dL_act_371 : decode cL_act 371 = .ok (.iload_n 2, 1) := by decide +kernel
theorem dL_act_372 : decode cL_act 372 = .ok (.ifCond .eq 9, 3) := by decide +kernel
theorem dL_act_375 : decode cL_act 375 = .ok (.iload_n 1, 1) := by decide +kernel
theorem dL_act_376 : decode cL_act 376 = .ok (.iconst 4, 1) := by decide +kernel
theorem dL_act_377 : decode cL_act 377 = .ok (.ishr, 1) := by decide +kernel
theorem dL_act_378 : decode cL_act 378 = .ok (.goto 11, 3) := by decide +kernel
theorem dL_act_381 : decode cL_act 381 = .ok (.iload_n 1, 1) := by decide +kernel
theorem dL_act_382 : decode cL_act 382 = .ok (.iconst 4, 1) := by decide +kernel
theorem dL_act_383 : decode cL_act 383 = .ok (.ishr, 1) := by decide +kernel
theorem dL_act_384 : decode cL_act 384 = .ok (.bipush 6, 2) := by decide +kernel
theorem dL_act_386 : decode cL_act 386 = .ok (.invokestatic 63, 3) := by decide +kernel
theorem dL_act_389 : decode cL_act 389 = .ok (.invokestatic 76, 3) := by decide +kernel
theorem dL_act_392 : decode cL_act 392 = .ok (.lreturn, 1) := by decide +kernel
theorem dL_act_393 : decode cL_act 393 = .ok (.iload_n 1, 1) := by decide +kernel
theorem dL_act_394 : decode cL_act 394 = .ok (.bipush 16, 2) := by decide +kernel
theorem dL_act_396 : decode cL_act 396 = .ok (.ishr, 1) := by decide +kernel
theorem dL_act_397 : decode cL_act 397 = .ok (.iconst 3, 1) := by decide +kernel
theorem dL_act_398 : decode cL_act 398 = .ok (.invokestatic 63, 3) := by decide +kernel
theorem dL_act_401 : decode cL_act 401 = .ok (.ifCond .ne 11, 3) := by decide +kernel
theorem dL_act_404 : decode cL_act 404 = .ok (.aload_n 0, 1) := by decide +kernel
theorem dL_act_405 : decode cL_act 405 = .ok (.iload_n 3, 1) := by decide +kernel
theorem dL_act_406 : decode cL_act 406 = .ok (.invokestatic 78, 3) := by decide +kernel
theorem dL_act_409 : decode cL_act 409 = .ok (.goto 25, 3) := by decide +kernel
theorem dL_act_412 : decode cL_act 412 = .ok (.aload_n 0, 1) := by decide +kernel
theorem dL_act_413 : decode cL_act 413 = .ok (.iload_n 3, 1) := by decide +kernel
theorem dL_act_414 : decode cL_act 414 = .ok (.iload_n 2, 1) := by decide +kernel
theorem dL_act_415 : decode cL_act 415 = .ok (.ifCond .eq 8, 3) := by decide +kernel
theorem dL_act_418 : decode cL_act 418 = .ok (.iload 5, 2) := by decide +kernel
theorem dL_act_420 : decode cL_act 420 = .ok (.goto 11, 3) := by decide +kernel
theorem dL_act_423 : decode cL_act 423 = .ok (.iload_n 1, 1) := by decide +kernel
theorem dL_act_424 : decode cL_act 424 = .ok (.bipush 9, 2) := by decide +kernel
theorem dL_act_426 : decode cL_act 426 = .ok (.ishr, 1) := by decide +kernel
theorem dL_act_427 : decode cL_act 427 = .ok (.iconst 4, 1) := by decide +kernel
theorem dL_act_428 : decode cL_act 428 = .ok (.invokestatic 63, 3) := by decide +kernel
theorem dL_act_431 : decode cL_act 431 = .ok (.invokestatic 81, 3) := by decide +kernel
theorem dL_act_434 : decode cL_act 434 = .ok (.lreturn, 1) := by decide +kernel
theorem dL_act_435 : decode cL_act 435 = .ok (.aload_n 0, 1) := by decide +kernel
theorem dL_act_436 : decode cL_act 436 = .ok (.iload 5, 2) := by decide +kernel
theorem dL_act_438 : decode cL_act 438 = .ok (.iload_n 2, 1) := by decide +kernel
theorem dL_act_439 : decode cL_act 439 = .ok (.ifCond .eq 9, 3) := by decide +kernel
theorem dL_act_442 : decode cL_act 442 = .ok (.iload_n 1, 1) := by decide +kernel
theorem dL_act_443 : decode cL_act 443 = .ok (.iconst 4, 1) := by decide +kernel
theorem dL_act_444 : decode cL_act 444 = .ok (.ishr, 1) := by decide +kernel
theorem dL_act_445 : decode cL_act 445 = .ok (.goto 31, 3) := by decide +kernel
theorem dL_act_448 : decode cL_act 448 = .ok (.iload_n 1, 1) := by decide +kernel
theorem dL_act_449 : decode cL_act 449 = .ok (.bipush 17, 2) := by decide +kernel
theorem dL_act_451 : decode cL_act 451 = .ok (.ishr, 1) := by decide +kernel
theorem dL_act_452 : decode cL_act 452 = .ok (.iconst 3, 1) := by decide +kernel
theorem dL_act_453 : decode cL_act 453 = .ok (.invokestatic 63, 3) := by decide +kernel
theorem dL_act_456 : decode cL_act 456 = .ok (.ifCond .ne 19, 3) := by decide +kernel
theorem dL_act_459 : decode cL_act 459 = .ok (.iload_n 1, 1) := by decide +kernel
theorem dL_act_460 : decode cL_act 460 = .ok (.iconst 4, 1) := by decide +kernel
theorem dL_act_461 : decode cL_act 461 = .ok (.ishr, 1) := by decide +kernel
theorem dL_act_462 : decode cL_act 462 = .ok (.sipush 400, 3) := by decide +kernel
theorem dL_act_465 : decode cL_act 465 = .ok (.invokestatic 63, 3) := by decide +kernel
theorem dL_act_468 : decode cL_act 468 = .ok (.sipush 200, 3) := by decide +kernel
theorem dL_act_471 : decode cL_act 471 = .ok (.isub, 1) := by decide +kernel
theorem dL_act_472 : decode cL_act 472 = .ok (.goto 4, 3) := by decide +kernel
theorem dL_act_475 : decode cL_act 475 = .ok (.iconst 0, 1) := by decide +kernel
theorem dL_act_476 : decode cL_act 476 = .ok (.invokestatic 83, 3) := by decide +kernel
theorem dL_act_479 : decode cL_act 479 = .ok (.lreturn, 1) := by decide +kernel
theorem dL_act_480 : decode cL_act 480 = .ok (.aload_n 0, 1) := by decide +kernel
theorem dL_act_481 : decode cL_act 481 = .ok (.iload_n 2, 1) := by decide +kernel
theorem dL_act_482 : decode cL_act 482 = .ok (.ifCond .eq 10, 3) := by decide +kernel
theorem dL_act_485 : decode cL_act 485 = .ok (.iload_n 1, 1) := by decide +kernel
theorem dL_act_486 : decode cL_act 486 = .ok (.bipush 9, 2) := by decide +kernel
theorem dL_act_488 : decode cL_act 488 = .ok (.ishr, 1) := by decide +kernel
theorem dL_act_489 : decode cL_act 489 = .ok (.goto 13, 3) := by decide +kernel
theorem dL_act_492 : decode cL_act 492 = .ok (.iload_n 1, 1) := by decide +kernel
theorem dL_act_493 : decode cL_act 493 = .ok (.bipush 9, 2) := by decide +kernel
theorem dL_act_495 : decode cL_act 495 = .ok (.ishr, 1) := by decide +kernel
theorem dL_act_496 : decode cL_act 496 = .ok (.sipush 2001, 3) := by decide +kernel
theorem dL_act_499 : decode cL_act 499 = .ok (.invokestatic 63, 3) := by decide +kernel
theorem dL_act_502 : decode cL_act 502 = .ok (.iload_n 2, 1) := by decide +kernel
theorem dL_act_503 : decode cL_act 503 = .ok (.ifCond .eq 8, 3) := by decide +kernel
theorem dL_act_506 : decode cL_act 506 = .ok (.iload 5, 2) := by decide +kernel
theorem dL_act_508 : decode cL_act 508 = .ok (.goto 14, 3) := by decide +kernel
theorem dL_act_511 : decode cL_act 511 = .ok (.iconst 1, 1) := by decide +kernel
theorem dL_act_512 : decode cL_act 512 = .ok (.iload_n 1, 1) := by decide +kernel
theorem dL_act_513 : decode cL_act 513 = .ok (.bipush 6, 2) := by decide +kernel
theorem dL_act_515 : decode cL_act 515 = .ok (.ishr, 1) := by decide +kernel
theorem dL_act_516 : decode cL_act 516 = .ok (.bipush 8, 2) := by decide +kernel
theorem dL_act_518 : decode cL_act 518 = .ok (.invokestatic 63, 3) := by decide +kernel
theorem dL_act_521 : decode cL_act 521 = .ok (.iadd, 1) := by decide +kernel
theorem dL_act_522 : decode cL_act 522 = .ok (.invokestatic 85, 3) := by decide +kernel
theorem dL_act_525 : decode cL_act 525 = .ok (.lreturn, 1) := by decide +kernel
theorem dL_act_526 : decode cL_act 526 = .ok (.aload_n 0, 1) := by decide +kernel
theorem dL_act_527 : decode cL_act 527 = .ok (.iload_n 3, 1) := by decide +kernel
theorem dL_act_528 : decode cL_act 528 = .ok (.iload 4, 2) := by decide +kernel
theorem dL_act_530 : decode cL_act 530 = .ok (.invokestatic 87, 3) := by decide +kernel
theorem dL_act_533 : decode cL_act 533 = .ok (.lreturn, 1) := by decide +kernel
theorem dL_act_534 : decode cL_act 534 = .ok (.aload_n 0, 1) := by decide +kernel
theorem dL_act_535 : decode cL_act 535 = .ok (.iload_n 3, 1) := by decide +kernel
theorem dL_act_536 : decode cL_act 536 = .ok (.iload_n 2, 1) := by decide +kernel
theorem dL_act_537 : decode cL_act 537 = .ok (.ifCond .eq 8, 3) := by decide +kernel
theorem dL_act_540 : decode cL_act 540 = .ok (.iload 5, 2) := by decide +kernel
theorem dL_act_542 : decode cL_act 542 = .ok (.goto 11, 3) := by decide +kernel
theorem dL_act_545 : decode cL_act 545 = .ok (.iload_n 1, 1) := by decide +kernel
theorem dL_act_546 : decode cL_act 546 = .ok (.bipush 9, 2) := by decide +kernel
theorem dL_act_548 : decode cL_act 548 = .ok (.ishr, 1) := by decide +kernel
theorem dL_act_549 : decode cL_act 549 = .ok (.iconst 4, 1) := by decide +kernel
theorem dL_act_550 : decode cL_act 550 = .ok (.invokestatic 63, 3) := by decide +kernel
theorem dL_act_553 : decode cL_act 553 = .ok (.invokestatic 89, 3) := by decide +kernel
theorem dL_act_556 : decode cL_act 556 = .ok (.lreturn, 1) := by decide +kernel
theorem dL_act_557 : decode cL_act 557 = .ok (.aload_n 0, 1) := by decide +kernel
theorem dL_act_558 : decode cL_act 558 = .ok (.iload_n 2, 1) := by decide +kernel
theorem dL_act_559 : decode cL_act 559 = .ok (.ifCond .eq 8, 3) := by decide +kernel
theorem dL_act_562 : decode cL_act 562 = .ok (.iload 5, 2) := by decide +kernel
theorem dL_act_564 : decode cL_act 564 = .ok (.goto 11, 3) := by decide +kernel
theorem dL_act_567 : decode cL_act 567 = .ok (.iload_n 1, 1) := by decide +kernel
theorem dL_act_568 : decode cL_act 568 = .ok (.bipush 9, 2) := by decide +kernel
theorem dL_act_570 : decode cL_act 570 = .ok (.ishr, 1) := by decide +kernel
theorem dL_act_571 : decode cL_act 571 = .ok (.iconst 2, 1) := by decide +kernel
theorem dL_act_572 : decode cL_act 572 = .ok (.invokestatic 63, 3) := by decide +kernel
theorem dL_act_575 : decode cL_act 575 = .ok (.invokestatic 91, 3) := by decide +kernel
theorem dL_act_578 : decode cL_act 578 = .ok (.lreturn, 1) := by decide +kernel
theorem dL_act_579 : decode cL_act 579 = .ok (.aload_n 0, 1) := by decide +kernel
theorem dL_act_580 : decode cL_act 580 = .ok (.iload_n 3, 1) := by decide +kernel
theorem dL_act_581 : decode cL_act 581 = .ok (.iload 4, 2) := by decide +kernel
theorem dL_act_583 : decode cL_act 583 = .ok (.iload_n 2, 1) := by decide +kernel
theorem dL_act_584 : decode cL_act 584 = .ok (.ifCond .eq 8, 3) := by decide +kernel
theorem dL_act_587 : decode cL_act 587 = .ok (.iload 6, 2) := by decide +kernel
theorem dL_act_589 : decode cL_act 589 = .ok (.goto 11, 3) := by decide +kernel
theorem dL_act_592 : decode cL_act 592 = .ok (.iload_n 1, 1) := by decide +kernel
theorem dL_act_593 : decode cL_act 593 = .ok (.bipush 9, 2) := by decide +kernel
theorem dL_act_595 : decode cL_act 595 = .ok (.ishr, 1) := by decide +kernel
theorem dL_act_596 : decode cL_act 596 = .ok (.iconst 3, 1) := by decide +kernel
theorem dL_act_597 : decode cL_act 597 = .ok (.invokestatic 63, 3) := by decide +kernel
theorem dL_act_600 : decode cL_act 600 = .ok (.invokestatic 93, 3) := by decide +kernel
theorem dL_act_603 : decode cL_act 603 = .ok (.lreturn, 1) := by decide +kernel
theorem dL_act_604 : decode cL_act 604 = .ok (.aload_n 0, 1) := by decide +kernel
theorem dL_act_605 : decode cL_act 605 = .ok (.invokevirtual 95, 3) := by decide +kernel
theorem dL_act_608 : decode cL_act 608 = .ok (.i2l, 1) := by decide +kernel
theorem dL_act_609 : decode cL_act 609 = .ok (.lreturn, 1) := by decide +kernel
theorem dL_act_610 : decode cL_act 610 = .ok (.aload_n 0, 1) := by decide +kernel
theorem dL_act_611 : decode cL_act 611 = .ok (.iload_n 3, 1) := by decide +kernel
theorem dL_act_612 : decode cL_act 612 = .ok (.iload_n 2, 1) := by decide +kernel
theorem dL_act_613 : decode cL_act 613 = .ok (.ifCond .eq 8, 3) := by decide +kernel
theorem dL_act_616 : decode cL_act 616 = .ok (.iload 5, 2) := by decide +kernel
theorem dL_act_618 : decode cL_act 618 = .ok (.goto 11, 3) := by decide +kernel
theorem dL_act_621 : decode cL_act 621 = .ok (.iload_n 1, 1) := by decide +kernel
theorem dL_act_622 : decode cL_act 622 = .ok (.bipush 9, 2) := by decide +kernel
theorem dL_act_624 : decode cL_act 624 = .ok (.ishr, 1) := by decide +kernel
theorem dL_act_625 : decode cL_act 625 = .ok (.iconst 4, 1) := by decide +kernel
theorem dL_act_626 : decode cL_act 626 = .ok (.invokestatic 63, 3) := by decide +kernel
theorem dL_act_629 : decode cL_act 629 = .ok (.invokestatic 81, 3) := by decide +kernel
theorem dL_act_632 : decode cL_act 632 = .ok (.lreturn, 1) := by decide +kernel
set_option maxRecDepth 20000 in
theorem ggL_areAlike_X3_microphone : GoodIn wsL_areAlike wsX3_microphone := goodIn_r _ [5, 6, 113, 114, 115, 116, 117, 118, 119, 120, 121, 122] (by decide +kernel) (by decide +kernel)
set_option maxRecDepth 20000 in
theorem gL_areAlike_X3_microphone : GoodIn wsL_areAlike (wsV RL 99 RX3 yX3_microphone wsX3_microphone) := goodIn_app (goodIn_of _ (by decide +kernel)) ggL_areAlike_X3_microphone
set_option maxRecDepth 20000 in
theorem ggL_areAlike_X3_best : GoodIn wsL_areAlike wsX3_best := goodIn_r _ [10, 11, 6, 12, 13, 14, 4, 15, 16, 17, 18, 19, 20, 21, 22, 113, 114, 115, 123, 124, 125, 126, 127, 128, 129, 130, 131, 132, 133, 134, 135, 116, 117, 118, 119, 120, 121, 122] (by decide +kernel) (by decide +kernel)
set_option maxRecDepth 20000 in
theorem gL_areAlike_X3_best : GoodIn wsL_areAlike (wsV RL 95 RX3 yX3_best wsX3_best) := goodIn_app (goodIn_of _ (by decide +kernel)) ggL_areAlike_X3_best
set_option maxRecDepth 20000 in
theorem ggL_areAlike_L_low : GoodIn wsL_areAlike wsL_low := goodIn_r _ [26, 27] (by decide +kernel) (by decide +kernel)
set_option maxRecDepth 20000 in
theorem gL_areAlike_L_low : GoodIn wsL_areAlike (va_wsS RL 63 yL_low wsL_low) := goodIn_app (goodIn_of _ (by decide +kernel)) ggL_areAlike_L_low
set_option maxRecDepth 20000 in
theorem ggL_areAlike_L_weight : GoodIn wsL_areAlike wsL_weight := goodIn_ca (goodIn_r _ [30, 31, 32, 33, 34, 35, 36, 4, 37, 38, 39, 12, 13, 14, 15, 11, 16, 123, 124, 125, 126, 127, 128, 129, 130, 131, 132, 133, 134, 135, 113, 114, 115] (by decide +kernel) (by decide +kernel)) (goodIn_sub (fun _ h => List.mem_cons_of_mem _ (List.mem_append_left _ (List.mem_append_left _ (List.mem_append_right _ h)))) (by decide +kernel))
set_option maxRecDepth 20000 in
theorem gL_areAlike_L_weight : GoodIn wsL_areAlike (va_wsS RL 87 yL_weight wsL_weight) := goodIn_app (goodIn_of _ (by decide +kernel)) ggL_areAlike_L_weight
set_option maxRecDepth 20000 in
theorem ggL_areAlike_L_of : GoodIn wsL_areAlike wsL_of := goodIn_ca (goodIn_ca (goodIn_r _ [42, 31, 43, 32, 33, 44, 45, 46, 4, 47, 38, 39, 48, 49, 6, 12, 13, 14, 15, 11, 16, 17, 18, 19, 20, 21, 22, 50, 51, 52, 53, 54, 55, 56, 57, 58, 59, 60, 61, 62, 63, 123, 124, 125, 126, 127, 128, 129, 130, 131, 132, 133, 134, 135, 113, 114, 115, 116, 117, 118, 119, 120, 121, 122] (by decide +kernel) (by decide +kernel)) (goodIn_sub (fun _ h => List.mem_cons_of_mem _ (List.mem_append_left _ (List.mem_append_left _ (List.mem_append_right _ h)))) (by decide +kernel))) (goodIn_sub (fun _ h => List.mem_cons_of_mem _ (List.mem_append_left _ (List.mem_append_right _ h))) (by decide +kernel))
set_option maxRecDepth 20000 in
theorem gL_areAlike_L_of : GoodIn wsL_areAlike (va_wsS RL 89 yL_of wsL_of) := goodIn_app (goodIn_of _ (by decide +kernel)) ggL_areAlike_L_of
set_option maxRecDepth 20000 in
theorem ggL_areAlike_L_count : GoodIn wsL_areAlike wsL_count := goodIn_ca (goodIn_ca (goodIn_r _ [66, 31, 43, 33, 67, 68, 69, 4, 70, 38, 39, 48, 49, 12, 13, 14, 15, 11, 16, 123, 124, 125, 126, 127, 128, 129, 130, 131, 132, 133, 134, 135, 113, 114, 115] (by decide +kernel) (by decide +kernel)) (goodIn_sub (fun _ h => List.mem_cons_of_mem _ (List.mem_append_left _ (List.mem_append_left _ (List.mem_append_right _ h)))) (by decide +kernel))) (goodIn_sub (fun _ h => List.mem_cons_of_mem _ (List.mem_append_left _ (List.mem_append_right _ h))) (by decide +kernel))
set_option maxRecDepth 20000 in
theorem gL_areAlike_L_count : GoodIn wsL_areAlike (va_wsS RL 81 yL_count wsL_count) := goodIn_app (goodIn_of _ (by decide +kernel)) ggL_areAlike_L_count
set_option maxRecDepth 20000 in
theorem ggL_areAlike_L_square : GoodIn wsL_areAlike wsL_square := goodIn_ca (goodIn_ca (goodIn_r _ [73, 31, 74, 32, 33, 75, 76, 77, 4, 78, 38, 39, 79, 80, 12, 13, 14, 15, 11, 16, 81, 82, 83, 84, 85, 86, 87, 88, 89, 123, 124, 125, 126, 127, 128, 129, 130, 131, 132, 133, 134, 135, 113, 114, 115, 136, 137, 138, 139] (by decide +kernel) (by decide +kernel)) (goodIn_sub (fun _ h => List.mem_cons_of_mem _ (List.mem_append_left _ (List.mem_append_left _ (List.mem_append_right _ h)))) (by decide +kernel))) (goodIn_sub (fun _ h => List.mem_cons_of_mem _ (List.mem_append_right _ h)) (by decide +kernel))
set_option maxRecDepth 20000 in
theorem gL_areAlike_L_square : GoodIn wsL_areAlike (va_wsS RL 93 yL_square wsL_square) := goodIn_app (goodIn_of _ (by decide +kernel)) ggL_areAlike_L_square
set_option maxRecDepth 20000 in
theorem ggL_areAlike_L_batch : GoodIn wsL_areAlike wsL_batch := goodIn_ca (goodIn_r _ [92, 31, 32, 33, 93, 94, 95, 4, 96, 38, 39, 6, 81, 82, 83, 97, 18, 98, 99, 100, 101, 102, 103, 104, 105, 106, 107, 108, 109, 56, 57, 58, 110, 61, 62, 63, 111, 112, 113, 114, 115, 116, 117, 118, 119, 120, 121, 122] (by decide +kernel) (by decide +kernel)) (goodIn_sub (fun _ h => List.mem_cons_of_mem _ (List.mem_append_left _ (List.mem_append_left _ (List.mem_append_right _ h)))) (by decide +kernel))
set_option maxRecDepth 20000 in
theorem gL_areAlike_L_batch : GoodIn wsL_areAlike (va_wsS RL 91 yL_batch wsL_batch) := goodIn_app (goodIn_of _ (by decide +kernel)) ggL_areAlike_L_batch
theorem dL_areAlike_0 : decode cL_areAlike 0 = .ok (.aload_n 0, 1) := by decide +kernel
theorem dL_areAlike_1 : decode cL_areAlike 1 = .ok (.invokevirtual 99, 3) := by decide +kernel
theorem dL_areAlike_4 : decode cL_areAlike 4 = .ok (.aload_n 1, 1) := by decide +kernel
theorem dL_areAlike_5 : decode cL_areAlike 5 = .ok (.invokevirtual 99, 3) := by decide +kernel
theorem dL_areAlike_8 : decode cL_areAlike 8 = .ok (.dcmp .l, 1) := by decide +kernel
theorem dL_areAlike_9 : decode cL_areAlike 9 = .ok (.ifCond .ne 18, 3) := by decide +kernel
theorem dL_areAlike_12 : decode cL_areAlike 12 = .ok (.aload_n 0, 1) := by decide +kernel
theorem dL_areAlike_13 : decode cL_areAlike 13 = .ok (.invokevirtual 95, 3) := by decide +kernel
theorem dL_areAlike_16 : decode cL_areAlike 16 = .ok (.aload_n 1, 1) := by decide +kernel
theorem dL_areAlike_17 : decode cL_areAlike 17 = .ok (.invokevirtual 95, 3) := by decide +kernel
theorem dL_areAlike_20 : decode cL_areAlike 20 = .ok (.if_icmp .ne 7, 3) := by decide +kernel
theorem dL_areAlike_23 : decode cL_areAlike 23 = .ok (.iconst 1, 1) := by decide +kernel
theorem dL_areAlike_24 : decode cL_areAlike 24 = .ok (.goto 4, 3) := by decide +kernel
theorem dL_areAlike_27 : decode cL_areAlike 27 = .ok (.iconst 0, 1) := by decide +kernel
theorem dL_areAlike_28 : decode cL_areAlike 28 = .ok (.istore_n 3, 1) := by decide +kernel
theorem dL_areAlike_29 : decode cL_areAlike 29 = .ok (.iconst 0, 1) := by decide +kernel
theorem dL_areAlike_30 : decode cL_areAlike 30 = .ok (.istore 4, 2) := by decide +kernel
theorem dL_areAlike_32 : decode cL_areAlike 32 = .ok (.iload 4, 2) := by decide +kernel
theorem dL_areAlike_34 : decode cL_areAlike 34 = .ok (.iconst 4, 1) := by decide +kernel
theorem dL_areAlike_35 : decode cL_areAlike 35 = .ok (.if_icmp .ge 155, 3) := by decide +kernel
theorem dL_areAlike_38 : decode cL_areAlike 38 = .ok (.iload_n 3, 1) := by decide +kernel
theorem dL_areAlike_39 : decode cL_areAlike 39 = .ok (.ifCond .eq 151, 3) := by decide +kernel
theorem dL_areAlike_42 : decode cL_areAlike 42 = .ok (.aload_n 0, 1) := by decide +kernel
theorem dL_areAlike_43 : decode cL_areAlike 43 = .ok (.iload 4, 2) := by decide +kernel
theorem dL_areAlike_45 : decode cL_areAlike 45 = .ok (.iload_n 2, 1) := by decide +kernel
theorem dL_areAlike_46 : decode cL_areAlike 46 = .ok (.iconst 4, 1) := by decide +kernel
theorem dL_areAlike_47 : decode cL_areAlike 47 = .ok (.invokestatic 63, 3) := by decide +kernel
theorem dL_areAlike_50 : decode cL_areAlike 50 = .ok (.invokestatic 87, 3) := by decide +kernel
theorem dL_areAlike_53 : decode cL_areAlike 53 = .ok (.aload_n 1, 1) := by decide +kernel
theorem dL_areAlike_54 : decode cL_areAlike 54 = .ok (.iload 4, 2) := by decide +kernel
theorem dL_areAlike_56 : decode cL_areAlike 56 = .ok (.iload_n 2, 1) := by decide +kernel
theorem dL_areAlike_57 : decode cL_areAlike 57 = .ok (.iconst 4, 1) := by decide +kernel
theorem dL_areAlike_58 : decode cL_areAlike 58 = .ok (.invokestatic 63, 3) := by decide +kernel
theorem dL_areAlike_61 : decode cL_areAlike 61 = .ok (.invokestatic 87, 3) := by decide +kernel
theorem dL_areAlike_64 : decode cL_areAlike 64 = .ok (.lcmp, 1) := by decide +kernel
theorem dL_areAlike_65 : decode cL_areAlike 65 = .ok (.ifCond .ne 117, 3) := by decide +kernel
theorem dL_areAlike_68 : decode cL_areAlike 68 = .ok (.aload_n 0, 1) := by decide +kernel
theorem dL_areAlike_69 : decode cL_areAlike 69 = .ok (.iload 4, 2) := by decide +kernel
theorem dL_areAlike_71 : decode cL_areAlike 71 = .ok (.iload_n 2, 1) := by decide +kernel
theorem dL_areAlike_72 : decode cL_areAlike 72 = .ok (.iconst 2, 1) := by decide +kernel
theorem dL_areAlike_73 : decode cL_areAlike 73 = .ok (.ishr, 1) := by decide +kernel
theorem dL_areAlike_74 : decode cL_areAlike 74 = .ok (.iconst 4, 1) := by decide +kernel
theorem dL_areAlike_75 : decode cL_areAlike 75 = .ok (.invokestatic 63, 3) := by decide +kernel
theorem dL_areAlike_78 : decode cL_areAlike 78 = .ok (.invokestatic 89, 3) := by decide +kernel
theorem dL_areAlike_81 : decode cL_areAlike 81 = .ok (.aload_n 1, 1) := by decide +kernel
theorem dL_areAlike_82 : decode cL_areAlike 82 = .ok (.iload 4, 2) := by decide +kernel
theorem dL_areAlike_84 : decode cL_areAlike 84 = .ok (.iload_n 2, 1) := by decide +kernel
theorem dL_areAlike_85 : decode cL_areAlike 85 = .ok (.iconst 2, 1) := by decide +kernel
theorem dL_areAlike_86 : decode cL_areAlike 86 = .ok (.ishr, 1) := by decide +kernel
theorem dL_areAlike_87 : decode cL_areAlike 87 = .ok (.iconst 4, 1) := by decide +kernel
theorem dL_areAlike_88 : decode cL_areAlike 88 = .ok (.invokestatic 63, 3) := by decide +kernel
theorem dL_areAlike_91 : decode cL_areAlike 91 = .ok (.invokestatic 89, 3) := by decide +kernel
theorem dL_areAlike_94 : decode cL_areAlike 94 = .ok (.lcmp, 1) := by decide +kernel
theorem dL_areAlike_95 : decode cL_areAlike 95 = .ok (.ifCond .ne 87, 3) := by decide +kernel
theorem dL_areAlike_98 : decode cL_areAlike 98 = .ok (.aload_n 0, 1) := by decide +kernel
theorem dL_areAlike_99 : decode cL_areAlike 99 = .ok (.iload 4, 2) := by decide +kernel
theorem dL_areAlike_101 : decode cL_areAlike 101 = .ok (.iload_n 2, 1) := by decide +kernel
theorem dL_areAlike_102 : decode cL_areAlike 102 = .ok (.iconst 4, 1) := by decide +kernel
theorem dL_areAlike_103 : decode cL_areAlike 103 = .ok (.ishr, 1) := by decide +kernel
theorem dL_areAlike_104 : decode cL_areAlike 104 = .ok (.iconst 4, 1) := by decide +kernel
theorem dL_areAlike_105 : decode cL_areAlike 105 = .ok (.invokestatic 63, 3) := by decide +kernel
theorem dL_areAlike_108 : decode cL_areAlike 108 = .ok (.invokestatic 81, 3) := by decide +kernel
theorem dL_areAlike_111 : decode cL_areAlike 111 = .ok (.aload_n 1, 1) := by decide +kernel
theorem dL_areAlike_112 : decode cL_areAlike 112 = .ok (.iload 4, 2) := by decide +kernel
theorem dL_areAlike_114 : decode cL_areAlike 114 = .ok (.iload_n 2, 1) := by decide +kernel
theorem dL_areAlike_115 : decode cL_areAlike 115 = .ok (.iconst 4, 1) := by decide +kernel
theorem dL_areAlike_116 : decode cL_areAlike 116 = .ok (.ishr, 1) := by decide +kernel
theorem dL_areAlike_117 : decode cL_areAlike 117 = .ok (.iconst 4, 1) := by decide +kernel
theorem dL_areAlike_118 : decode cL_areAlike 118 = .ok (.invokestatic 63, 3) := by decide +kernel
theorem dL_areAlike_121 : decode cL_areAlike 121 = .ok (.invokestatic 81, 3) := by decide +kernel
theorem dL_areAlike_124 : decode cL_areAlike 124 = .ok (.lcmp, 1) := by decide +kernel
theorem dL_areAlike_125 : decode cL_areAlike 125 = .ok (.ifCond .ne 57, 3) := by decide +kernel
theorem dL_areAlike_128 : decode cL_areAlike 128 = .ok (.aload_n 0, 1) := by decide +kernel
theorem dL_areAlike_129 : decode cL_areAlike 129 = .ok (.iload 4, 2) := by decide +kernel
theorem dL_areAlike_131 : decode cL_areAlike 131 = .ok (.iload_n 2, 1) := by decide +kernel
theorem dL_areAlike_132 : decode cL_areAlike 132 = .ok (.bipush 6, 2) := by decide +kernel
theorem dL_areAlike_134 : decode cL_areAlike 134 = .ok (.ishr, 1) := by decide +kernel
theorem dL_areAlike_135 : decode cL_areAlike 135 = .ok (.iconst 3, 1) := by decide +kernel
theorem dL_areAlike_136 : decode cL_areAlike 136 = .ok (.invokestatic 63, 3) := by decide +kernel
theorem dL_areAlike_139 : decode cL_areAlike 139 = .ok (.iconst 0, 1) := by decide +kernel
theorem dL_areAlike_140 : decode cL_areAlike 140 = .ok (.invokestatic 93, 3) := by decide +kernel
theorem dL_areAlike_143 : decode cL_areAlike 143 = .ok (.aload_n 1, 1) := by decide +kernel
theorem dL_areAlike_144 : decode cL_areAlike 144 = .ok (.iload 4, 2) := by decide +kernel
theorem dL_areAlike_146 : decode cL_areAlike 146 = .ok (.iload_n 2, 1) := by decide +kernel
theorem dL_areAlike_147 : decode cL_areAlike 147 = .ok (.bipush 6, 2) := by decide +kernel
theorem dL_areAlike_149 : decode cL_areAlike 149 = .ok (.ishr, 1) := by decide +kernel
theorem dL_areAlike_150 : decode cL_areAlike 150 = .ok (.iconst 3, 1) := by decide +kernel
theorem dL_areAlike_151 : decode cL_areAlike 151 = .ok (.invokestatic 63, 3) := by decide +kernel
theorem dL_areAlike_154 : decode cL_areAlike 154 = .ok (.iconst 0, 1) := by decide +kernel
theorem dL_areAlike_155 : decode cL_areAlike 155 = .ok (.invokestatic 93, 3) := by decide +kernel
theorem dL_areAlike_158 : decode cL_areAlike 158 = .ok (.lcmp, 1) := by decide +kernel
theorem dL_areAlike_159 : decode cL_areAlike 159 = .ok (.ifCond .ne 23, 3) := by decide +kernel
theorem dL_areAlike_162 : decode cL_areAlike 162 = .ok (.aload_n 0, 1) := by decide +kernel
theorem dL_areAlike_163 : decode cL_areAlike 163 = .ok (.iload 4, 2) := by decide +kernel
theorem dL_areAlike_165 : decode cL_areAlike 165 = .ok (.invokestatic 91, 3) := by decide +kernel
theorem dL_areAlike_168 : decode cL_areAlike 168 = .ok (.aload_n 1, 1) := by decide +kernel
theorem dL_areAlike_169 : decode cL_areAlike 169 = .ok (.iload 4, 2) := by decide +kernel
theorem dL_areAlike_171 : decode cL_areAlike 171 = .ok (.invokestatic 91, 3) := by decide +kernel
theorem dL_areAlike_174 : decode cL_areAlike 174 = .ok (.lcmp, 1) := by decide +kernel
theorem dL_areAlike_175 : decode cL_areAlike 175 = .ok (.ifCond .ne 7, 3) := by decide +kernel
theorem dL_areAlike_178 : decode cL_areAlike 178 = .ok (.iconst 1, 1) := by decide +kernel
theorem dL_areAlike_179 : decode cL_areAlike 179 = .ok (.goto 4, 3) := by decide +kernel
theorem dL_areAlike_182 : decode cL_areAlike 182 = .ok (.iconst 0, 1) := by decide +kernel
theorem dL_areAlike_183 : decode cL_areAlike 183 = .ok (.istore_n 3, 1) := by decide +kernel
theorem dL_areAlike_184 : decode cL_areAlike 184 = .ok (.iinc 4 1, 3) := by decide +kernel
theorem dL_areAlike_187 : decode cL_areAlike 187 = .ok (.goto (-155), 3) := by decide +kernel
theorem dL_areAlike_190 : decode cL_areAlike 190 = .ok (.iload_n 3, 1) := by decide +kernel
theorem dL_areAlike_191 : decode cL_areAlike 191 = .ok (.ireturn, 1) := by decide +kernel
set_option maxRecDepth 20000 in
theorem ggL_isSo_X3_best : GoodIn wsL_isSo wsX3_best := goodIn_r _ [8, 9, 10, 11, 12, 13, 7, 14, 15, 16, 17, 18, 19, 20, 21, 95, 96, 97, 98, 99, 100, 101, 102, 103, 104, 105, 106, 107, 108, 109, 110, 111, 112, 113, 114, 115, 116, 117] (by decide +kernel) (by decide +kernel)
set_option maxRecDepth 20000 in
theorem gL_isSo_X3_best : GoodIn wsL_isSo (wsV RL 95 RX3 yX3_best wsX3_best) := goodIn_app (goodIn_of _ (by decide +kernel)) ggL_isSo_X3_best
set_option maxRecDepth 20000 in
theorem ggL_isSo_L_count : GoodIn wsL_isSo wsL_count := goodIn_ca (goodIn_ca (goodIn_r _ [25, 26, 27, 1, 28, 29, 30, 7, 31, 32, 33, 34, 35, 11, 12, 13, 14, 9, 15, 98, 99, 100, 101, 102, 103, 104, 105, 106, 107, 108, 109, 110, 95, 96, 97] (by decide +kernel) (by decide +kernel)) (goodIn_sub (fun _ h => List.mem_cons_of_mem _ (List.mem_append_left _ (List.mem_append_right _ h))) (by decide +kernel))) (goodIn_sub (fun _ h => List.mem_cons_of_mem _ (List.mem_append_right _ h)) (by decide +kernel))
set_option maxRecDepth 20000 in
theorem gL_isSo_L_count : GoodIn wsL_isSo (va_wsS RL 81 yL_count wsL_count) := goodIn_app (goodIn_of _ (by decide +kernel)) ggL_isSo_L_count
set_option maxRecDepth 20000 in
theorem ggL_isSo_X3_count : GoodIn wsL_isSo wsX3_count := goodIn_ca (goodIn_ca (goodIn_r _ [31, 32, 33, 34, 35, 11, 12, 13, 7, 14, 9, 15, 98, 99, 100, 101, 102, 103, 104, 105, 106, 107, 108, 109, 110, 95, 96, 97] (by decide +kernel) (by decide +kernel)) (goodIn_sub (fun _ h => List.mem_cons_of_mem _ (List.mem_append_left _ (List.mem_append_right _ h))) (by decide +kernel))) (goodIn_sub (fun _ h => List.mem_cons_of_mem _ (List.mem_append_right _ h)) (by decide +kernel))
set_option maxRecDepth 20000 in
theorem gL_isSo_X3_count : GoodIn wsL_isSo (wsV RL 52 RX3 yX3_count wsX3_count) := goodIn_app (goodIn_of _ (by decide +kernel)) ggL_isSo_X3_count
set_option maxRecDepth 20000 in
theorem ggL_isSo_X3_of : GoodIn wsL_isSo wsX3_of := goodIn_ca (goodIn_ca (goodIn_r _ [39, 32, 33, 34, 35, 10, 11, 12, 13, 7, 14, 9, 15, 16, 17, 18, 19, 20, 21, 40, 41, 42, 43, 44, 45, 46, 47, 48, 49, 50, 51, 52, 53, 98, 99, 100, 101, 102, 103, 104, 105, 106, 107, 108, 109, 110, 95, 96, 97, 111, 112, 113, 114, 115, 116, 117] (by decide +kernel) (by decide +kernel)) (goodIn_sub (fun _ h => List.mem_cons_of_mem _ (List.mem_append_left _ (List.mem_append_right _ h))) (by decide +kernel))) (goodIn_sub (fun _ h => List.mem_cons_of_mem _ (List.mem_append_right _ h)) (by decide +kernel))
set_option maxRecDepth 20000 in
theorem gL_isSo_X3_of : GoodIn wsL_isSo (wsV RL 49 RX3 yX3_of wsX3_of) := goodIn_app (goodIn_of _ (by decide +kernel)) ggL_isSo_X3_of
set_option maxRecDepth 20000 in
theorem ggL_isSo_X3_microphone : GoodIn wsL_isSo wsX3_microphone := goodIn_r _ [57, 10, 95, 96, 97, 111, 112, 113, 114, 115, 116, 117] (by decide +kernel) (by decide +kernel)
set_option maxRecDepth 20000 in
theorem gL_isSo_X3_microphone : GoodIn wsL_isSo (wsV RL 99 RX3 yX3_microphone wsX3_microphone) := goodIn_app (goodIn_of _ (by decide +kernel)) ggL_isSo_X3_microphone
set_option maxRecDepth 20000 in
theorem ggL_isSo_L_weight : GoodIn wsL_isSo wsL_weight := goodIn_ca (goodIn_r _ [60, 26, 61, 1, 62, 63, 64, 7, 65, 32, 33, 11, 12, 13, 14, 9, 15, 98, 99, 100, 101, 102, 103, 104, 105, 106, 107, 108, 109, 110, 95, 96, 97] (by decide +kernel) (by decide +kernel)) (goodIn_sub (fun _ h => List.mem_cons_of_mem _ (List.mem_append_left _ (List.mem_append_right _ h))) (by decide +kernel))
set_option maxRecDepth 20000 in
theorem gL_isSo_L_weight : GoodIn wsL_isSo (va_wsS RL 87 yL_weight wsL_weight) := goodIn_app (goodIn_of _ (by decide +kernel)) ggL_isSo_L_weight
set_option maxRecDepth 20000 in
theorem ggL_isSo_X3_weight : GoodIn wsL_isSo wsX3_weight := goodIn_ca (goodIn_r _ [65, 32, 33, 11, 12, 13, 7, 14, 9, 15, 98, 99, 100, 101, 102, 103, 104, 105, 106, 107, 108, 109, 110, 95, 96, 97] (by decide +kernel) (by decide +kernel)) (goodIn_sub (fun _ h => List.mem_cons_of_mem _ (List.mem_append_left _ (List.mem_append_right _ h))) (by decide +kernel))
set_option maxRecDepth 20000 in
theorem gL_isSo_X3_weight : GoodIn wsL_isSo (wsV RL 45 RX3 yX3_weight wsX3_weight) := goodIn_app (goodIn_of _ (by decide +kernel)) ggL_isSo_X3_weight
set_option maxRecDepth 20000 in
theorem ggL_isSo_L_batch : GoodIn wsL_isSo wsL_batch := goodIn_ca (goodIn_r _ [68, 26, 61, 1, 69, 70, 71, 7, 72, 32, 33, 10, 73, 74, 75, 76, 17, 77, 78, 79, 80, 81, 82, 83, 84, 85, 86, 87, 88, 46, 47, 48, 89, 51, 52, 53, 90, 91, 95, 96, 97, 111, 112, 113, 114, 115, 116, 117] (by decide +kernel) (by decide +kernel)) (goodIn_sub (fun _ h => List.mem_cons_of_mem _ (List.mem_append_left _ (List.mem_append_right _ h))) (by decide +kernel))
set_option maxRecDepth 20000 in
theorem gL_isSo_L_batch : GoodIn wsL_isSo (va_wsS RL 91 yL_batch wsL_batch) := goodIn_app (goodIn_of _ (by decide +kernel)) ggL_isSo_L_batch
set_option maxRecDepth 20000 in
theorem ggL_isSo_L_of : GoodIn wsL_isSo wsL_of := goodIn_ca (goodIn_ca (goodIn_r _ [94, 26, 27, 61, 1, 36, 37, 38, 7, 39, 32, 33, 34, 35, 10, 11, 12, 13, 14, 9, 15, 16, 17, 18, 19, 20, 21, 40, 41, 42, 43, 44, 45, 46, 47, 48, 49, 50, 51, 52, 53, 98, 99, 100, 101, 102, 103, 104, 105, 106, 107, 108, 109, 110, 95, 96, 97, 111, 112, 113, 114, 115, 116, 117] (by decide +kernel) (by decide +kernel)) (goodIn_sub (fun _ h => List.mem_cons_of_mem _ (List.mem_append_left _ (List.mem_append_right _ h))) (by decide +kernel))) (goodIn_sub (fun _ h => List.mem_cons_of_mem _ (List.mem_append_right _ h)) (by decide +kernel))
set_option maxRecDepth 20000 in
theorem gL_isSo_L_of : GoodIn wsL_isSo (va_wsS RL 89 yL_of wsL_of) := goodIn_app (goodIn_of _ (by decide +kernel)) ggL_isSo_L_of
theorem dL_isSo_0 : decode cL_isSo 0 = .ok (.iconst 1, 1) := by decide +kernel
theorem dL_isSo_1 : decode cL_isSo 1 = .ok (.istore_n 1, 1) := by decide +kernel
theorem dL_isSo_2 : decode cL_isSo 2 = .ok (.aload_n 0, 1) := by decide +kernel
theorem dL_isSo_3 : decode cL_isSo 3 = .ok (.invokevirtual 95, 3) := by decide +kernel
theorem dL_isSo_6 : decode cL_isSo 6 = .ok (.istore_n 2, 1) := by decide +kernel
theorem dL_isSo_7 : decode cL_isSo 7 = .ok (.iconst 0, 1) := by decide +kernel
theorem dL_isSo_8 : decode cL_isSo 8 = .ok (.istore_n 3, 1) := by decide +kernel
theorem dL_isSo_9 : decode cL_isSo 9 = .ok (.iload_n 3, 1) := by decide +kernel
theorem dL_isSo_10 : decode cL_isSo 10 = .ok (.bipush 6, 2) := by decide +kernel
theorem dL_isSo_12 : decode cL_isSo 12 = .ok (.if_icmp .ge 243, 3) := by decide +kernel
theorem dL_isSo_15 : decode cL_isSo 15 = .ok (.iload_n 1, 1) := by decide +kernel
theorem dL_isSo_16 : decode cL_isSo 16 = .ok (.ifCond .eq 239, 3) := by decide +kernel
theorem dL_isSo_19 : decode cL_isSo 19 = .ok (.aload_n 0, 1) := by decide +kernel
theorem dL_isSo_20 : decode cL_isSo 20 = .ok (.iload_n 3, 1) := by decide +kernel
theorem dL_isSo_21 : decode cL_isSo 21 = .ok (.iconst 0, 1) := by decide +kernel
theorem dL_isSo_22 : decode cL_isSo 22 = .ok (.invokestatic 81, 3) := by decide +kernel
theorem dL_isSo_25 : decode cL_isSo 25 = .ok (.ldc2_w 16, 3) := by decide +kernel
theorem dL_isSo_28 : decode cL_isSo 28 = .ok (.lcmp, 1) := by decide +kernel
theorem dL_isSo_29 : decode cL_isSo 29 = .ok (.ifCond .eq 220, 3) := by decide +kernel
theorem dL_isSo_32 : decode cL_isSo 32 = .ok (.aload_n 0, 1) := by decide +kernel
theorem dL_isSo_33 : decode cL_isSo 33 = .ok (.iload_n 3, 1) := by decide +kernel
theorem dL_isSo_34 : decode cL_isSo 34 = .ok (.iconst 0, 1) := by decide +kernel
theorem dL_isSo_35 : decode cL_isSo 35 = .ok (.invokevirtual 52, 3) := by decide +kernel
theorem dL_isSo_38 : decode cL_isSo 38 = .ok (.istore 4, 2) := by decide +kernel
theorem dL_isSo_40 : decode cL_isSo 40 = .ok (.aload_n 0, 1) := by decide +kernel
theorem dL_isSo_41 : decode cL_isSo 41 = .ok (.iload_n 3, 1) := by decide +kernel
theorem dL_isSo_42 : decode cL_isSo 42 = .ok (.iconst 1, 1) := by decide +kernel
theorem dL_isSo_43 : decode cL_isSo 43 = .ok (.invokevirtual 52, 3) := by decide +kernel
theorem dL_isSo_46 : decode cL_isSo 46 = .ok (.iload 4, 2) := by decide +kernel
theorem dL_isSo_48 : decode cL_isSo 48 = .ok (.if_icmp .gt 127, 3) := by decide +kernel
theorem dL_isSo_51 : decode cL_isSo 51 = .ok (.aload_n 0, 1) := by decide +kernel
theorem dL_isSo_52 : decode cL_isSo 52 = .ok (.iload_n 3, 1) := by decide +kernel
theorem dL_isSo_53 : decode cL_isSo 53 = .ok (.iconst 2, 1) := by decide +kernel
theorem dL_isSo_54 : decode cL_isSo 54 = .ok (.invokevirtual 52, 3) := by decide +kernel
theorem dL_isSo_57 : decode cL_isSo 57 = .ok (.iload 4, 2) := by decide +kernel
theorem dL_isSo_59 : decode cL_isSo 59 = .ok (.if_icmp .gt 116, 3) := by decide +kernel
theorem dL_isSo_62 : decode cL_isSo 62 = .ok (.aload_n 0, 1) := by decide +kernel
theorem dL_isSo_63 : decode cL_isSo 63 = .ok (.iload_n 3, 1) := by decide +kernel
theorem dL_isSo_64 : decode cL_isSo 64 = .ok (.iconst 3, 1) := by decide +kernel
theorem dL_isSo_65 : decode cL_isSo 65 = .ok (.invokevirtual 52, 3) := by decide +kernel
theorem dL_isSo_68 : decode cL_isSo 68 = .ok (.ifCond .lt 107, 3) := by decide +kernel
theorem dL_isSo_71 : decode cL_isSo 71 = .ok (.aload_n 0, 1) := by decide +kernel
theorem dL_isSo_72 : decode cL_isSo 72 = .ok (.iload_n 3, 1) := by decide +kernel
theorem dL_isSo_73 : decode cL_isSo 73 = .ok (.iconst 3, 1) := by decide +kernel
theorem dL_isSo_74 : decode cL_isSo 74 = .ok (.invokevirtual 52, 3) := by decide +kernel
theorem dL_isSo_77 : decode cL_isSo 77 = .ok (.bipush 20, 2) := by decide +kernel
theorem dL_isSo_79 : decode cL_isSo 79 = .ok (.if_icmp .gt 96, 3) := by decide +kernel
theorem dL_isSo_82 : decode cL_isSo 82 = .ok (.aload_n 0, 1) := by decide +kernel
theorem dL_isSo_83 : decode cL_isSo 83 = .ok (.iload_n 3, 1) := by decide +kernel
theorem dL_isSo_84 : decode cL_isSo 84 = .ok (.iconst 2, 1) := by decide +kernel
theorem dL_isSo_85 : decode cL_isSo 85 = .ok (.invokevirtual 49, 3) := by decide +kernel
theorem dL_isSo_88 : decode cL_isSo 88 = .ok (.dconst 0, 1) := by decide +kernel
theorem dL_isSo_89 : decode cL_isSo 89 = .ok (.dcmp .l, 1) := by decide +kernel
theorem dL_isSo_90 : decode cL_isSo 90 = .ok (.ifCond .lt 85, 3) := by decide +kernel
theorem dL_isSo_93 : decode cL_isSo 93 = .ok (.aload_n 0, 1) := by decide +kernel
theorem dL_isSo_94 : decode cL_isSo 94 = .ok (.iload_n 3, 1) := by decide +kernel
theorem dL_isSo_95 : decode cL_isSo 95 = .ok (.iconst 3, 1) := by decide +kernel
theorem dL_isSo_96 : decode cL_isSo 96 = .ok (.invokevirtual 49, 3) := by decide +kernel
theorem dL_isSo_99 : decode cL_isSo 99 = .ok (.dconst 0, 1) := by decide +kernel
theorem dL_isSo_100 : decode cL_isSo 100 = .ok (.dcmp .l, 1) := by decide +kernel
theorem dL_isSo_101 : decode cL_isSo 101 = .ok (.ifCond .lt 74, 3) := by decide +kernel
theorem dL_isSo_104 : decode cL_isSo 104 = .ok (.iload 4, 2) := by decide +kernel
theorem dL_isSo_106 : decode cL_isSo 106 = .ok (.ifCond .ne 28, 3) := by decide +kernel
theorem dL_isSo_109 : decode cL_isSo 109 = .ok (.aload_n 0, 1) := by decide +kernel
theorem dL_isSo_110 : decode cL_isSo 110 = .ok (.iload_n 3, 1) := by decide +kernel
theorem dL_isSo_111 : decode cL_isSo 111 = .ok (.iconst 0, 1) := by decide +kernel
theorem dL_isSo_112 : decode cL_isSo 112 = .ok (.invokevirtual 49, 3) := by decide +kernel
theorem dL_isSo_115 : decode cL_isSo 115 = .ok (.dconst 0, 1) := by decide +kernel
theorem dL_isSo_116 : decode cL_isSo 116 = .ok (.dcmp .l, 1) := by decide +kernel
theorem dL_isSo_117 : decode cL_isSo 117 = .ok (.ifCond .ne 58, 3) := by decide +kernel
theorem dL_isSo_120 : decode cL_isSo 120 = .ok (.aload_n 0, 1) := by decide +kernel
theorem dL_isSo_121 : decode cL_isSo 121 = .ok (.iload_n 3, 1) := by decide +kernel
theorem dL_isSo_122 : decode cL_isSo 122 = .ok (.iconst 1, 1) := by decide +kernel
theorem dL_isSo_123 : decode cL_isSo 123 = .ok (.invokevirtual 49, 3) := by decide +kernel
theorem dL_isSo_126 : decode cL_isSo 126 = .ok (.dconst 0, 1) := by decide +kernel
theorem dL_isSo_127 : decode cL_isSo 127 = .ok (.dcmp .l, 1) := by decide +kernel
theorem dL_isSo_128 : decode cL_isSo 128 = .ok (.ifCond .ne 47, 3) := by decide +kernel
theorem dL_isSo_131 : decode cL_isSo 131 = .ok (.goto 24, 3) := by decide +kernel
theorem dL_isSo_134 : decode cL_isSo 134 = .ok (.aload_n 0, 1) := by decide +kernel
theorem dL_isSo_135 : decode cL_isSo 135 = .ok (.iload_n 3, 1) := by decide +kernel
theorem dL_isSo_136 : decode cL_isSo 136 = .ok (.iconst 1, 1) := by decide +kernel
theorem dL_isSo_137 : decode cL_isSo 137 = .ok (.invokevirtual 49, 3) := by decide +kernel
theorem dL_isSo_140 : decode cL_isSo 140 = .ok (.aload_n 0, 1) := by decide +kernel
theorem dL_isSo_141 : decode cL_isSo 141 = .ok (.invokevirtual 99, 3) := by decide +kernel
theorem dL_isSo_144 : decode cL_isSo 144 = .ok (.aload_n 0, 1) := by decide +kernel
theorem dL_isSo_145 : decode cL_isSo 145 = .ok (.iload_n 3, 1) := by decide +kernel
theorem dL_isSo_146 : decode cL_isSo 146 = .ok (.iconst 0, 1) := by decide +kernel
theorem dL_isSo_147 : decode cL_isSo 147 = .ok (.invokevirtual 49, 3) := by decide +kernel
theorem dL_isSo_150 : decode cL_isSo 150 = .ok (.dsub, 1) := by decide +kernel
theorem dL_isSo_151 : decode cL_isSo 151 = .ok (.dcmp .l, 1) := by decide +kernel
theorem dL_isSo_152 : decode cL_isSo 152 = .ok (.ifCond .ne 23, 3) := by decide +kernel
theorem dL_isSo_155 : decode cL_isSo 155 = .ok (.aload_n 0, 1) := by decide +kernel
theorem dL_isSo_156 : decode cL_isSo 156 = .ok (.iload_n 2, 1) := by decide +kernel
theorem dL_isSo_157 : decode cL_isSo 157 = .ok (.iconst 2, 1) := by decide +kernel
theorem dL_isSo_158 : decode cL_isSo 158 = .ok (.invokevirtual 49, 3) := by decide +kernel
theorem dL_isSo_161 : decode cL_isSo 161 = .ok (.aload_n 0, 1) := by decide +kernel
theorem dL_isSo_162 : decode cL_isSo 162 = .ok (.iload_n 3, 1) := by decide +kernel
theorem dL_isSo_163 : decode cL_isSo 163 = .ok (.iconst 2, 1) := by decide +kernel
theorem dL_isSo_164 : decode cL_isSo 164 = .ok (.invokevirtual 49, 3) := by decide +kernel
theorem dL_isSo_167 : decode cL_isSo 167 = .ok (.dcmp .g, 1) := by decide +kernel
theorem dL_isSo_168 : decode cL_isSo 168 = .ok (.ifCond .gt 7, 3) := by decide +kernel
theorem dL_isSo_171 : decode cL_isSo 171 = .ok (.iconst 1, 1) := by decide +kernel
theorem dL_isSo_172 : decode cL_isSo 172 = .ok (.goto 4, 3) := by decide +kernel
theorem dL_isSo_175 : decode cL_isSo 175 = .ok (.iconst 0, 1) := by decide +kernel
theorem dL_isSo_176 : decode cL_isSo 176 = .ok (.istore_n 1, 1) := by decide +kernel
theorem dL_isSo_177 : decode cL_isSo 177 = .ok (.iconst 0, 1) := by decide +kernel
theorem dL_isSo_178 : decode cL_isSo 178 = .ok (.istore 5, 2) := by decide +kernel
theorem dL_isSo_180 : decode cL_isSo 180 = .ok (.iload 5, 2) := by decide +kernel
theorem dL_isSo_182 : decode cL_isSo 182 = .ok (.bipush 8, 2) := by decide +kernel
theorem dL_isSo_184 : decode cL_isSo 184 = .ok (.if_icmp .ge 65, 3) := by decide +kernel
theorem dL_isSo_187 : decode cL_isSo 187 = .ok (.iload_n 1, 1) := by decide +kernel
theorem dL_isSo_188 : decode cL_isSo 188 = .ok (.ifCond .eq 61, 3) := by decide +kernel
theorem dL_isSo_191 : decode cL_isSo 191 = .ok (.aload_n 0, 1) := by decide +kernel
theorem dL_isSo_192 : decode cL_isSo 192 = .ok (.iload_n 3, 1) := by decide +kernel
theorem dL_isSo_193 : decode cL_isSo 193 = .ok (.iload 5, 2) := by decide +kernel
theorem dL_isSo_195 : decode cL_isSo 195 = .ok (.invokestatic 87, 3) := by decide +kernel
theorem dL_isSo_198 : decode cL_isSo 198 = .ok (.lstore 6, 2) := by decide +kernel
theorem dL_isSo_200 : decode cL_isSo 200 = .ok (.lload 6, 2) := by decide +kernel
theorem dL_isSo_202 : decode cL_isSo 202 = .ok (.ldc2_w 16, 3) := by decide +kernel
theorem dL_isSo_205 : decode cL_isSo 205 = .ok (.lcmp, 1) := by decide +kernel
end
section
theorem dL_isSo_206 : decode cL_isSo 206 = .ok (.ifCond .eq 31, 3) := by decide +kernel
theorem dL_isSo_209 : decode cL_isSo 209 = .ok (.aload_n 0, 1) := by decide +kernel
theorem dL_isSo_210 : decode cL_isSo 210 = .ok (.iload_n 3, 1) := by decide +kernel
theorem dL_isSo_211 : decode cL_isSo 211 = .ok (.iload 5, 2) := by decide +kernel
theorem dL_isSo_213 : decode cL_isSo 213 = .ok (.invokevirtual 45, 3) := by decide +kernel
theorem dL_isSo_216 : decode cL_isSo 216 = .ok (.ldc2_w 103, 3) := by decide +kernel
theorem dL_isSo_219 : decode cL_isSo 219 = .ok (.dcmp .g, 1) := by decide +kernel
theorem dL_isSo_220 : decode cL_isSo 220 = .ok (.ifCond .gt 21, 3) := by decide +kernel
theorem dL_isSo_223 : decode cL_isSo 223 = .ok (.aload_n 0, 1) := by decide +kernel
theorem dL_isSo_224 : decode cL_isSo 224 = .ok (.iload_n 3, 1) := by decide +kernel
theorem dL_isSo_225 : decode cL_isSo 225 = .ok (.iload 5, 2) := by decide +kernel
theorem dL_isSo_227 : decode cL_isSo 227 = .ok (.invokevirtual 45, 3) := by decide +kernel
theorem dL_isSo_230 : decode cL_isSo 230 = .ok (.ldc2_w 105, 3) := by decide +kernel
theorem dL_isSo_233 : decode cL_isSo 233 = .ok (.dcmp .l, 1) := by decide +kernel
theorem dL_isSo_234 : decode cL_isSo 234 = .ok (.ifCond .lt 7, 3) := by decide +kernel
theorem dL_isSo_237 : decode cL_isSo 237 = .ok (.iconst 1, 1) := by decide +kernel
theorem dL_isSo_238 : decode cL_isSo 238 = .ok (.goto 4, 3) := by decide +kernel
theorem dL_isSo_241 : decode cL_isSo 241 = .ok (.iconst 0, 1) := by decide +kernel
theorem dL_isSo_242 : decode cL_isSo 242 = .ok (.istore_n 1, 1) := by decide +kernel
theorem dL_isSo_243 : decode cL_isSo 243 = .ok (.iinc 5 1, 3) := by decide +kernel
theorem dL_isSo_246 : decode cL_isSo 246 = .ok (.goto (-66), 3) := by decide +kernel
theorem dL_isSo_249 : decode cL_isSo 249 = .ok (.iinc 3 1, 3) := by decide +kernel
theorem dL_isSo_252 : decode cL_isSo 252 = .ok (.goto (-243), 3) := by decide +kernel
theorem dL_isSo_255 : decode cL_isSo 255 = .ok (.iload_n 1, 1) := by decide +kernel
theorem dL_isSo_256 : decode cL_isSo 256 = .ok (.ifCond .eq 61, 3) := by decide +kernel
theorem dL_isSo_259 : decode cL_isSo 259 = .ok (.iload_n 2, 1) := by decide +kernel
theorem dL_isSo_260 : decode cL_isSo 260 = .ok (.ifCond .lt 7, 3) := by decide +kernel
theorem dL_isSo_263 : decode cL_isSo 263 = .ok (.iconst 1, 1) := by decide +kernel
theorem dL_isSo_264 : decode cL_isSo 264 = .ok (.goto 4, 3) := by decide +kernel
theorem dL_isSo_267 : decode cL_isSo 267 = .ok (.iconst 0, 1) := by decide +kernel
theorem dL_isSo_268 : decode cL_isSo 268 = .ok (.aload_n 0, 1) := by decide +kernel
theorem dL_isSo_269 : decode cL_isSo 269 = .ok (.iconst 0, 1) := by decide +kernel
theorem dL_isSo_270 : decode cL_isSo 270 = .ok (.iconst 0, 1) := by decide +kernel
theorem dL_isSo_271 : decode cL_isSo 271 = .ok (.invokestatic 81, 3) := by decide +kernel
theorem dL_isSo_274 : decode cL_isSo 274 = .ok (.lconst 0, 1) := by decide +kernel
theorem dL_isSo_275 : decode cL_isSo 275 = .ok (.lcmp, 1) := by decide +kernel
theorem dL_isSo_276 : decode cL_isSo 276 = .ok (.ifCond .lt 7, 3) := by decide +kernel
theorem dL_isSo_279 : decode cL_isSo 279 = .ok (.iconst 1, 1) := by decide +kernel
theorem dL_isSo_280 : decode cL_isSo 280 = .ok (.goto 4, 3) := by decide +kernel
theorem dL_isSo_283 : decode cL_isSo 283 = .ok (.iconst 0, 1) := by decide +kernel
theorem dL_isSo_284 : decode cL_isSo 284 = .ok (.if_icmp .ne 33, 3) := by decide +kernel
theorem dL_isSo_287 : decode cL_isSo 287 = .ok (.aload_n 0, 1) := by decide +kernel
theorem dL_isSo_288 : decode cL_isSo 288 = .ok (.iconst 2, 1) := by decide +kernel
theorem dL_isSo_289 : decode cL_isSo 289 = .ok (.invokestatic 91, 3) := by decide +kernel
theorem dL_isSo_292 : decode cL_isSo 292 = .ok (.ldc2_w 16, 3) := by decide +kernel
theorem dL_isSo_295 : decode cL_isSo 295 = .ok (.lcmp, 1) := by decide +kernel
theorem dL_isSo_296 : decode cL_isSo 296 = .ok (.ifCond .ne 21, 3) := by decide +kernel
theorem dL_isSo_299 : decode cL_isSo 299 = .ok (.aload_n 0, 1) := by decide +kernel
theorem dL_isSo_300 : decode cL_isSo 300 = .ok (.bipush 6, 2) := by decide +kernel
theorem dL_isSo_302 : decode cL_isSo 302 = .ok (.iconst 0, 1) := by decide +kernel
theorem dL_isSo_303 : decode cL_isSo 303 = .ok (.invokestatic 89, 3) := by decide +kernel
theorem dL_isSo_306 : decode cL_isSo 306 = .ok (.ldc2_w 16, 3) := by decide +kernel
theorem dL_isSo_309 : decode cL_isSo 309 = .ok (.lcmp, 1) := by decide +kernel
theorem dL_isSo_310 : decode cL_isSo 310 = .ok (.ifCond .ne 7, 3) := by decide +kernel
theorem dL_isSo_313 : decode cL_isSo 313 = .ok (.iconst 1, 1) := by decide +kernel
theorem dL_isSo_314 : decode cL_isSo 314 = .ok (.goto 4, 3) := by decide +kernel
theorem dL_isSo_317 : decode cL_isSo 317 = .ok (.iconst 0, 1) := by decide +kernel
theorem dL_isSo_318 : decode cL_isSo 318 = .ok (.ireturn, 1) := by decide +kernel
set_option maxRecDepth 20000 in
theorem ggL_law_X3_init : GoodIn wsL_law wsX3_init := goodIn_r _ [6, 7, 8, 9, 10, 11, 12, 13, 14, 15, 16, 17, 18, 19, 20, 21, 22, 23, 24, 25, 26, 27, 28, 302, 303, 304, 305, 306, 307, 308, 299, 300, 301] (by decide +kernel) (by decide +kernel)
set_option maxRecDepth 20000 in
theorem gL_law_X3_init : GoodIn wsL_law (wsX3_init) := ggL_law_X3_init
set_option maxRecDepth 20000 in
theorem ggL_law_L_cell : GoodIn wsL_law wsL_cell := goodIn_r _ [32] (by decide +kernel) (by decide +kernel)
set_option maxRecDepth 20000 in
theorem gL_law_L_cell : GoodIn wsL_law (va_wsS RL 108 yL_cell wsL_cell) := goodIn_app (goodIn_of _ (by decide +kernel)) ggL_law_L_cell
set_option maxRecDepth 100000 in
theorem ggL_law_L_act : GoodIn wsL_law wsL_act := goodIn_ca (goodIn_ca (goodIn_ca (goodIn_r _ [35, 36, 37, 31, 38, 39, 40, 41, 42, 43, 44, 3, 45, 46, 47, 2, 48, 49, 50, 51, 52, 13, 53, 54, 55, 56, 12, 57, 58, 21, 59, 60, 61, 62, 63, 64, 65, 66, 67, 68, 16, 15, 14, 69, 70, 71, 72, 73, 74, 75, 76, 8, 9, 77, 22, 78, 79, 80, 81, 82, 83, 84, 85, 86, 87, 88, 89, 90, 91, 92, 93, 94, 95, 96, 97, 98, 99, 100, 101, 102, 103, 104, 105, 106, 107, 108, 109, 110, 111, 112, 113, 114, 115, 116, 117, 118, 119, 120, 121, 122, 123, 124, 125, 126, 127, 128, 129, 130, 131, 132, 133, 134, 135, 136, 137, 138, 139, 140, 141, 142, 143, 144, 145, 146, 147, 148, 149, 150, 151, 152, 153, 154, 155, 23, 27, 28, 24, 25, 26, 156, 157, 158, 159, 160, 161, 162, 163, 164, 165, 166, 167, 168, 169, 170, 171, 172, 173, 174, 175, 176, 177, 178, 179, 180, 181, 182, 183, 184, 185, 186, 187, 188, 189, 190, 191, 192, 193, 194, 195, 196, 197, 198, 199, 200, 201, 202, 203, 204, 205, 206, 207, 208, 209, 210, 211, 212, 213, 214, 215, 216, 217, 218, 219, 220, 221, 222, 223, 224, 225, 226, 227, 228, 229, 230, 231, 232, 233, 234, 235, 236, 237, 238, 239, 240, 241, 242, 243, 244, 245, 246, 247, 248, 249, 250, 251, 252, 253, 254, 255, 256, 257, 258, 259, 260, 261, 262, 263, 264, 265, 266, 267, 268, 269, 270, 271, 272, 273, 274, 275, 276, 277, 278, 279, 280, 281, 282, 283, 284, 285, 286, 299, 300, 301, 302, 303, 304, 305, 306, 307, 308, 309, 310, 311, 312, 313, 314, 315, 316, 317, 318, 319, 320, 321, 322, 323, 324, 325] rfl (by decide +kernel)) (goodIn_sub (fun _ h => List.mem_append_left _ (List.mem_append_left _ (List.mem_append_right _ h))) (by decide +kernel))) (goodIn_sub (fun _ h => List.mem_append_left _ (List.mem_append_right _ h)) (by decide +kernel))) (goodIn_sub (fun _ h => List.mem_append_right _ h) (by decide +kernel))
set_option maxRecDepth 20000 in
theorem gL_law_L_act : GoodIn wsL_law (va_wsS RL 112 yL_act wsL_act) := goodIn_app (goodIn_of _ (by decide +kernel)) ggL_law_L_act
set_option maxRecDepth 20000 in
theorem ggL_law_L_areAlike : GoodIn wsL_law wsL_areAlike := goodIn_ca (goodIn_ca (goodIn_ca (goodIn_r _ [289, 290, 291, 292, 2, 293, 13, 283, 284, 285, 286, 16, 101, 102, 103, 104, 15, 247, 12, 248, 249, 21, 160, 36, 37, 31, 38, 39, 232, 233, 234, 43, 235, 3, 236, 237, 238, 239, 49, 50, 240, 241, 242, 44, 243, 244, 245, 246, 51, 52, 250, 70, 251, 252, 125, 253, 254, 255, 256, 79, 172, 162, 163, 164, 135, 136, 137, 138, 139, 140, 141, 273, 274, 275, 62, 276, 277, 278, 279, 67, 68, 53, 54, 55, 280, 82, 281, 282, 88, 90, 257, 258, 259, 260, 261, 262, 263, 264, 265, 266, 24, 25, 26, 267, 268, 269, 270, 271, 28, 272, 161, 184, 185, 299, 300, 301, 302, 303, 304, 305, 306, 307, 308, 309, 310, 311, 312, 313, 314, 315, 316, 317, 318, 319, 320, 321, 322, 323, 324, 325] (by decide +kernel) (by decide +kernel)) (goodIn_sub (fun _ h => List.mem_append_left _ (List.mem_append_left _ (List.mem_append_right _ h))) (by decide +kernel))) (goodIn_sub (fun _ h => List.mem_append_left _ (List.mem_append_right _ h)) (by decide +kernel))) (goodIn_sub (fun _ h => List.mem_append_right _ h) (by decide +kernel))
set_option maxRecDepth 20000 in
theorem gL_law_L_areAlike : GoodIn wsL_law (va_wsS RL 115 yL_areAlike wsL_areAlike) := goodIn_app (goodIn_of _ (by decide +kernel)) ggL_law_L_areAlike
set_option maxRecDepth 20000 in
theorem ggL_law_L_isSo : GoodIn wsL_law wsL_isSo := goodIn_ca (goodIn_ca (goodIn_r _ [296, 3, 297, 298, 283, 284, 285, 2, 286, 16, 13, 101, 102, 103, 104, 15, 247, 12, 248, 249, 21, 160, 135, 136, 31, 137, 43, 44, 138, 139, 140, 141, 49, 50, 51, 52, 243, 244, 245, 246, 250, 70, 251, 252, 125, 253, 254, 255, 256, 79, 172, 162, 163, 164, 290, 291, 292, 293, 232, 233, 234, 235, 236, 237, 238, 239, 257, 258, 259, 260, 261, 262, 263, 53, 54, 55, 264, 265, 266, 24, 25, 26, 267, 268, 269, 270, 271, 28, 272, 161, 184, 185, 240, 241, 242, 299, 300, 301, 309, 310, 311, 312, 313, 314, 315, 316, 317, 318, 319, 320, 321, 302, 303, 304, 305, 306, 307, 308] (by decide +kernel) (by decide +kernel)) (goodIn_sub (fun _ h => List.mem_append_left _ (List.mem_append_left _ (List.mem_append_right _ h))) (by decide +kernel))) (goodIn_sub (fun _ h => List.mem_append_left _ (List.mem_append_right _ h)) (by decide +kernel))
set_option maxRecDepth 20000 in
theorem gL_law_L_isSo : GoodIn wsL_law (va_wsS RL 119 yL_isSo wsL_isSo) := goodIn_app (goodIn_of _ (by decide +kernel)) ggL_law_L_isSo
theorem dL_law_0 : decode cL_law 0 = .ok (.new 9, 3) := by decide +kernel
theorem dL_law_3 : decode cL_law 3 = .ok (.dup, 1) := by decide +kernel
theorem dL_law_4 : decode cL_law 4 = .ok (.invokespecial 107, 3) := by decide +kernel
theorem dL_law_7 : decode cL_law 7 = .ok (.astore_n 1, 1) := by decide +kernel
theorem dL_law_8 : decode cL_law 8 = .ok (.new 9, 3) := by decide +kernel
theorem dL_law_11 : decode cL_law 11 = .ok (.dup, 1) := by decide +kernel
theorem dL_law_12 : decode cL_law 12 = .ok (.invokespecial 107, 3) := by decide +kernel
theorem dL_law_15 : decode cL_law 15 = .ok (.astore_n 2, 1) := by decide +kernel
theorem dL_law_16 : decode cL_law 16 = .ok (.iconst 0, 1) := by decide +kernel
theorem dL_law_17 : decode cL_law 17 = .ok (.istore_n 3, 1) := by decide +kernel
theorem dL_law_18 : decode cL_law 18 = .ok (.iload_n 3, 1) := by decide +kernel
theorem dL_law_19 : decode cL_law 19 = .ok (.bipush 100, 2) := by decide +kernel
theorem dL_law_21 : decode cL_law 21 = .ok (.if_icmp .ge 84, 3) := by decide +kernel
theorem dL_law_24 : decode cL_law 24 = .ok (.aload_n 0, 1) := by decide +kernel
theorem dL_law_25 : decode cL_law 25 = .ok (.iload_n 3, 1) := by decide +kernel
theorem dL_law_26 : decode cL_law 26 = .ok (.invokestatic 108, 3) := by decide +kernel
theorem dL_law_29 : decode cL_law 29 = .ok (.istore 4, 2) := by decide +kernel
theorem dL_law_31 : decode cL_law 31 = .ok (.aload_n 1, 1) := by decide +kernel
theorem dL_law_32 : decode cL_law 32 = .ok (.iload 4, 2) := by decide +kernel
theorem dL_law_34 : decode cL_law 34 = .ok (.invokestatic 112, 3) := by decide +kernel
theorem dL_law_37 : decode cL_law 37 = .ok (.lstore 5, 2) := by decide +kernel
theorem dL_law_39 : decode cL_law 39 = .ok (.lload 5, 2) := by decide +kernel
theorem dL_law_41 : decode cL_law 41 = .ok (.ldc2_w 16, 3) := by decide +kernel
theorem dL_law_44 : decode cL_law 44 = .ok (.lcmp, 1) := by decide +kernel
theorem dL_law_45 : decode cL_law 45 = .ok (.ifCond .eq 15, 3) := by decide +kernel
theorem dL_law_48 : decode cL_law 48 = .ok (.aload_n 2, 1) := by decide +kernel
theorem dL_law_49 : decode cL_law 49 = .ok (.iload 4, 2) := by decide +kernel
theorem dL_law_51 : decode cL_law 51 = .ok (.invokestatic 112, 3) := by decide +kernel
theorem dL_law_54 : decode cL_law 54 = .ok (.lload 5, 2) := by decide +kernel
theorem dL_law_56 : decode cL_law 56 = .ok (.lcmp, 1) := by decide +kernel
theorem dL_law_57 : decode cL_law 57 = .ok (.ifCond .ne 40, 3) := by decide +kernel
theorem dL_law_60 : decode cL_law 60 = .ok (.iload_n 3, 1) := by decide +kernel
theorem dL_law_61 : decode cL_law 61 = .ok (.bipush 20, 2) := by decide +kernel
theorem dL_law_63 : decode cL_law 63 = .ok (.irem, 1) := by decide +kernel
theorem dL_law_64 : decode cL_law 64 = .ok (.bipush 19, 2) := by decide +kernel
theorem dL_law_66 : decode cL_law 66 = .ok (.if_icmp .ne 15, 3) := by decide +kernel
theorem dL_law_69 : decode cL_law 69 = .ok (.aload_n 1, 1) := by decide +kernel
theorem dL_law_70 : decode cL_law 70 = .ok (.aload_n 2, 1) := by decide +kernel
theorem dL_law_71 : decode cL_law 71 = .ok (.iload 4, 2) := by decide +kernel
theorem dL_law_73 : decode cL_law 73 = .ok (.iconst 3, 1) := by decide +kernel
theorem dL_law_74 : decode cL_law 74 = .ok (.ishr, 1) := by decide +kernel
theorem dL_law_75 : decode cL_law 75 = .ok (.invokestatic 115, 3) := by decide +kernel
theorem dL_law_78 : decode cL_law 78 = .ok (.ifCond .eq 19, 3) := by decide +kernel
theorem dL_law_81 : decode cL_law 81 = .ok (.iload_n 3, 1) := by decide +kernel
theorem dL_law_82 : decode cL_law 82 = .ok (.bipush 50, 2) := by decide +kernel
theorem dL_law_84 : decode cL_law 84 = .ok (.irem, 1) := by decide +kernel
theorem dL_law_85 : decode cL_law 85 = .ok (.bipush 49, 2) := by decide +kernel
theorem dL_law_87 : decode cL_law 87 = .ok (.if_icmp .ne 12, 3) := by decide +kernel
theorem dL_law_90 : decode cL_law 90 = .ok (.aload_n 1, 1) := by decide +kernel
theorem dL_law_91 : decode cL_law 91 = .ok (.invokestatic 119, 3) := by decide +kernel
theorem dL_law_94 : decode cL_law 94 = .ok (.ifCond .ne 5, 3) := by decide +kernel
theorem dL_law_97 : decode cL_law 97 = .ok (.iconst 0, 1) := by decide +kernel
theorem dL_law_98 : decode cL_law 98 = .ok (.ireturn, 1) := by decide +kernel
theorem dL_law_99 : decode cL_law 99 = .ok (.iinc 3 1, 3) := by decide +kernel
theorem dL_law_102 : decode cL_law 102 = .ok (.goto (-84), 3) := by decide +kernel
theorem dL_law_105 : decode cL_law 105 = .ok (.iconst 1, 1) := by decide +kernel
theorem dL_law_106 : decode cL_law 106 = .ok (.ireturn, 1) := by decide +kernel
end
