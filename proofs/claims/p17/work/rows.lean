section
/-! ===== doubles as rationals: the values, a NaN's bits left out ===== -/
abbrev Dt : Type := FP.Core.Datum
abbrev dV (x : UInt64) : Dt := FP.Core.val64 x
def fAdd (x y : Dt) : Dt := FP.Core.round FP.Core.b64 (FP.Core.exactSum x y)
def fSub (x y : Dt) : Dt := FP.Core.round FP.Core.b64 (FP.Core.exactSum x (FP.Core.negate y))
def fMul (x y : Dt) : Dt := FP.Core.round FP.Core.b64 (FP.Core.exactProduct x y)
def fDiv (x y : Dt) : Dt := FP.Core.quotient FP.Core.b64 x y
def fNeg (x : Dt) : Dt := FP.Core.negate x
def fI (i : Int32) : Dt := dV (FP.i2d i)
def fO (x y : Dt) : Option Ordering := FP.Core.order x y
/-- 2^q -/
abbrev zp (q : Int) : Rat := (2 : Rat) ^ q
/-- half a unit in the last place -/
abbrev uu : Rat := 1 / 9007199254740992
abbrev ty : Rat := zp (-1075)
theorem two_ne : (2 : Rat) ≠ 0 := by decide
theorem zp_pos (q : Int) : 0 < zp q := Rat.zpow_pos (by decide)
theorem zp_add (a b : Int) : zp (a + b) = zp a * zp b := Rat.zpow_add two_ne a b
theorem zp_nat (n : Nat) : zp (n : Int) = ((2 ^ n : Nat) : Rat) := by
  rw [Rat.natCast_pow]
  exact Rat.zpow_natCast 2 n
theorem zp_split (e q : Int) : zp e * ((2 ^ (q - e).toNat : Nat) : Rat) = zp q * ((2 ^ (e - q).toNat : Nat) : Rat) := by
  rw [← zp_nat, ← zp_nat, ← zp_add, ← zp_add, show e + ((q - e).toNat : Int) = q + ((e - q).toNat : Int) by omega]
theorem zp_le {a b : Int} (h : a ≤ b) : zp a ≤ zp b := by
  have e1 : b = a + ((b - a).toNat : Int) := by omega
  rw [e1, zp_add, zp_nat]
  have h1 : (1 : Rat) ≤ ((2 ^ (b - a).toNat : Nat) : Rat) := by
    have := Rat.natCast_le_natCast.mpr (Nat.one_le_two_pow (n := (b - a).toNat))
    exact this
  have h2 := Rat.mul_le_mul_of_nonneg_left h1 (Rat.le_of_lt (zp_pos a))
  rw [Rat.mul_one] at h2
  exact h2
theorem below_rat {A B : Nat} {a : Int} : FP.Core.Below A B a ↔ (A : Rat) < (B : Rat) * zp a := by
  have h0 : (0 : Rat) < ((2 ^ (-a).toNat : Nat) : Rat) := Rat.natCast_pos.mpr (Nat.two_pow_pos _)
  have h1 : zp a * ((2 ^ (-a).toNat : Nat) : Rat) = ((2 ^ a.toNat : Nat) : Rat) := by
    have h := zp_split a 0
    rw [show (0 : Int) - a = -a by omega, show a - 0 = a by omega] at h
    rw [h]
    show zp 0 * _ = _
    rw [show zp 0 = 1 from Rat.zpow_zero 2, Rat.one_mul]
  unfold FP.Core.Below
  rw [← Rat.mul_lt_mul_right h0, Rat.mul_assoc, h1, ← Rat.natCast_mul, ← Rat.natCast_mul, Rat.natCast_lt_natCast]
/-- the magnitude A / B * 2^e -/
abbrev mag (A B : Nat) (e : Int) : Rat := (A : Rat) / (B : Rat) * zp e
theorem mag_units {A B : Nat} (hB : 0 < B) (e q : Int) : mag A B e * ((FP.Core.unitsDen B e q : Nat) : Rat) = ((FP.Core.unitsNum A e q : Nat) : Rat) * zp q := by
  have hB' : (B : Rat) ≠ 0 := fun h => absurd (Rat.natCast_eq_zero_iff.mp h) (by omega)
  unfold FP.Core.unitsDen FP.Core.unitsNum
  rw [Rat.natCast_mul, Rat.natCast_mul]
  have h1 := zp_split e q
  have h2 : (A : Rat) / (B : Rat) * (B : Rat) = (A : Rat) := Rat.div_mul_cancel hB'
  show (A : Rat) / (B : Rat) * zp e * ((B : Rat) * ((2 ^ (q - e).toNat : Nat) : Rat)) = (A : Rat) * ((2 ^ (e - q).toNat : Nat) : Rat) * zp q
  generalize (A : Rat) / (B : Rat) = X at h2 ⊢
  generalize ((2 ^ (q - e).toNat : Nat) : Rat) = U at h1 ⊢
  generalize ((2 ^ (e - q).toNat : Nat) : Rat) = V at h1 ⊢
  generalize zp e = E at h1 ⊢
  generalize zp q = F at h1 ⊢
  rw [← h2]
  grind
theorem mag_below {A B : Nat} (hB : 0 < B) {e a : Int} : FP.Core.Below A B (a - e) ↔ mag A B e < zp a := by
  have hB0 : (0 : Rat) < (B : Rat) := Rat.natCast_pos.mpr hB
  have hB' : (B : Rat) ≠ 0 := fun h => absurd (Rat.natCast_eq_zero_iff.mp h) (by omega)
  have h2 : (A : Rat) / (B : Rat) * (B : Rat) = (A : Rat) := Rat.div_mul_cancel hB'
  rw [below_rat]
  have h3 : (B : Rat) * zp (a - e) * zp e = (B : Rat) * zp a := by
    rw [Rat.mul_assoc, ← zp_add, show a - e + e = a by omega]
  rw [← Rat.mul_lt_mul_right (zp_pos e), h3, ← Rat.mul_lt_mul_right (a := mag A B e) hB0]
  have h4 : mag A B e * (B : Rat) = (A : Rat) * zp e := by
    show (A : Rat) / (B : Rat) * zp e * (B : Rat) = _
    rw [Rat.mul_assoc, Rat.mul_comm (zp e), ← Rat.mul_assoc, h2]
  rw [h4, Rat.mul_comm (zp a)]
theorem mag_nonneg (A B : Nat) (e : Int) : 0 ≤ mag A B e := by
  by_cases hB : B = 0
  · subst hB
    show 0 ≤ (A : Rat) / ((0 : Nat) : Rat) * zp e
    have h : (A : Rat) / ((0 : Nat) : Rat) = 0 := by
      show (A : Rat) * ((0 : Nat) : Rat)⁻¹ = 0
      rw [show (((0 : Nat) : Rat)) = 0 from rfl, Rat.inv_zero, Rat.mul_zero]
    rw [h, Rat.zero_mul]
    exact Rat.le_refl
  · have hB0 : (0 : Rat) < (B : Rat) := Rat.natCast_pos.mpr (by omega)
    refine Rat.mul_nonneg (Rat.mul_nonneg Rat.natCast_nonneg ?_) (Rat.le_of_lt (zp_pos e))
    exact Rat.le_of_lt (Rat.inv_pos.mpr hB0)
end
section
/-! ===== rounding: how near ===== -/
theorem settle_val {s t : Bool} {m c : Nat} {r q : Int} (hm : m ≤ 2 ^ 53) (h : FP.Core.settle FP.Core.b64 s m r = .fin t c q) : t = s ∧ (c : Rat) * zp q = (m : Rat) * zp r := by
  unfold FP.Core.settle FP.Core.bound at h
  split at h
  · split at h
    · cases h; exact ⟨rfl, rfl⟩
    · cases h
  · rename_i h1
    have h2 : m = 2 ^ 53 := by
      have : ¬ m < 2 ^ 53 := h1
      omega
    split at h
    · cases h
      refine ⟨rfl, ?_⟩
      subst h2
      rw [zp_add]
      have e1 : ((FP.Core.b64.tails : Nat) : Rat) * zp 1 = ((2 ^ 53 : Nat) : Rat) := by decide +kernel
      rw [← e1]
      grind
    · cases h
theorem zp_half (r : Int) : zp (r - 1) * 2 = zp r := by
  have h := zp_add (r - 1) 1
  rw [show r - 1 + 1 = r by omega] at h
  rw [h]
  rfl
theorem zp_52 (r : Int) : zp (r + 52) = zp r * 4503599627370496 := by
  rw [zp_add]
  have : zp 52 = 4503599627370496 := by decide +kernel
  rw [this]
theorem rr_near {s t : Bool} {A B c : Nat} {e q : Int} (hB : 0 < B) (h : FP.Core.roundRatio FP.Core.b64 s A B e = .fin t c q) :
    t = s ∧ (c : Rat) * zp q ≤ mag A B e + (uu * mag A B e + ty) ∧ mag A B e ≤ (c : Rat) * zp q + (uu * mag A B e + ty) := by
  have hm0 := mag_nonneg A B e
  have hty : 0 < ty := zp_pos _
  unfold FP.Core.roundRatio at h
  split at h
  · rename_i hA
    cases h
    subst hA
    have h0 : mag 0 B e = 0 := by
      show ((0 : Nat) : Rat) / (B : Rat) * zp e = 0
      show ((0 : Nat) : Rat) * (B : Rat)⁻¹ * zp e = 0
      rw [show (((0 : Nat) : Rat)) = 0 from rfl, Rat.zero_mul, Rat.zero_mul]
    rw [h0]
    refine ⟨rfl, ?_, ?_⟩
    · rw [show (((0 : Nat) : Rat)) = 0 from rfl, Rat.zero_mul]; grind
    · rw [show (((0 : Nat) : Rat)) = 0 from rfl, Rat.zero_mul]; grind
  · rename_i hA0
    have hA : 0 < A := by omega
    have g2 := FP.Core.nearest_units_le (f := FP.Core.b64) hA hB e
    have g3 := FP.Core.quantum_not_below (f := FP.Core.b64) hA hB e
    unfold FP.Core.roundAt at h
    generalize FP.Core.quantum FP.Core.b64 A B e = r at h g2 g3
    have hD := FP.Core.unitsDen_pos hB e r
    have hmu := mag_units (A := A) hB e r
    obtain ⟨n1, n2, -⟩ := FP.Core.nearest_spec (FP.Core.unitsNum A e r) (FP.Core.unitsDen B e r) hD
    generalize FP.Core.nearest (FP.Core.unitsNum A e r) (FP.Core.unitsDen B e r) = m at h g2 n1 n2
    obtain ⟨ht, hv⟩ := settle_val g2 h
    refine ⟨ht, ?_⟩
    rw [hv]
    generalize FP.Core.unitsNum A e r = N at hmu n1 n2
    generalize FP.Core.unitsDen B e r = D at hD hmu n1 n2
    have hD' : (0 : Rat) < (D : Rat) := Rat.natCast_pos.mpr hD
    have m1 : 2 * (N : Rat) ≤ (2 * (m : Rat) + 1) * (D : Rat) := by
      have := Rat.natCast_le_natCast.mpr n1
      rw [Rat.natCast_mul, Rat.natCast_mul, Rat.natCast_add, Rat.natCast_mul] at this
      exact this
    have m2 : 2 * (m : Rat) * (D : Rat) ≤ 2 * (N : Rat) + (D : Rat) := by
      have := Rat.natCast_le_natCast.mpr n2
      rw [Rat.natCast_mul, Rat.natCast_mul, Rat.natCast_add, Rat.natCast_mul] at this
      exact this
    have hz := zp_pos r
    have hu : zp r / 2 ≤ uu * mag A B e + ty := by
      rcases g3 with g3 | g3
      · have e1 : r = -1074 := g3.trans (by decide)
        have e2 := zp_half (-1074)
        rw [e1]
        have e3 : (zp (-1074) : Rat) / 2 = ty := by
          show zp (-1074) / 2 = zp (-1074 - 1)
          grind
        rw [e3]
        have : 0 ≤ uu * mag A B e := Rat.mul_nonneg (by decide +kernel) hm0
        grind
      · have e1 : ¬ mag A B e < zp (r + 52) := by
          rw [← mag_below hB]
          rw [show r + 52 - e = r - e + (((FP.Core.b64.p : Nat) : Int) - 1) by show r + 52 - e = r - e + (53 - 1); omega]
          exact g3
        rw [zp_52] at e1
        have e2 := Rat.not_lt.mp e1
        grind
    generalize mag A B e = X at *
    generalize (m : Rat) = M at *
    generalize (N : Rat) = N' at *
    generalize (D : Rat) = D' at *
    generalize zp r = Z at *
    generalize ty = T at *
    have k1 : (M * Z) * D' ≤ (X + Z / 2) * D' := by
      have := Rat.mul_le_mul_of_nonneg_right m2 (Rat.le_of_lt hz)
      grind
    have k2 : X * D' ≤ (M * Z + Z / 2) * D' := by
      have := Rat.mul_le_mul_of_nonneg_right m1 (Rat.le_of_lt hz)
      grind
    have k3 := Rat.le_of_mul_le_mul_right k1 hD'
    have k4 := Rat.le_of_mul_le_mul_right k2 hD'
    constructor
    · grind
    · grind
theorem rr_fin {s : Bool} {A B : Nat} {e : Int} (hB : 0 < B) (h : mag A B e < zp 1023) : ∃ c q, FP.Core.roundRatio FP.Core.b64 s A B e = .fin s c q := by
  unfold FP.Core.roundRatio
  split
  · exact ⟨0, _, rfl⟩
  · rename_i hA0
    have hA : 0 < A := by omega
    have hq : FP.Core.quantum FP.Core.b64 A B e ≤ 970 := by
      have l1 := FP.Core.lt_of_below (FP.Core.leading_spec hA hB).1 ((mag_below hB).mpr h)
      unfold FP.Core.quantum
      have e1 : FP.Core.b64.qmin = -1074 := by decide
      have e2 : ((FP.Core.b64.p : Nat) : Int) = 53 := rfl
      rw [e1, e2]
      omega
    unfold FP.Core.roundAt
    generalize FP.Core.quantum FP.Core.b64 A B e = r at hq
    have e3 : FP.Core.b64.qmax = 971 := by decide
    unfold FP.Core.settle FP.Core.bound
    split
    · rw [if_pos (by rw [e3]; omega)]; exact ⟨_, _, rfl⟩
    · rw [if_pos (by rw [e3]; omega)]; exact ⟨_, _, rfl⟩
/-- never NaN -/
theorem rr_nn (s : Bool) (A B : Nat) (e : Int) : FP.Core.roundRatio FP.Core.b64 s A B e ≠ .nan := by
  unfold FP.Core.roundRatio
  split
  · exact fun h => FP.Core.Datum.noConfusion h
  · unfold FP.Core.roundAt FP.Core.settle FP.Core.bound
    split
    · split <;> exact fun h => FP.Core.Datum.noConfusion h
    · split <;> exact fun h => FP.Core.Datum.noConfusion h
end
section
/-! ===== sizes of rationals ===== -/
def ab (x : Rat) : Rat := if 0 ≤ x then x else -x
theorem ab_def (x : Rat) : (0 ≤ x ∧ ab x = x) ∨ (x < 0 ∧ ab x = -x) := by
  unfold ab
  by_cases h : 0 ≤ x
  · left; exact ⟨h, if_pos h⟩
  · right; exact ⟨Rat.not_le.mp h, if_neg h⟩
theorem ab_nonneg (x : Rat) : 0 ≤ ab x := by
  rcases ab_def x with h | h <;> grind
theorem ab_le {x b : Rat} : ab x ≤ b ↔ (-b ≤ x ∧ x ≤ b) := by
  rcases ab_def x with h | h <;> grind
theorem le_ab (x : Rat) : x ≤ ab x := by
  rcases ab_def x with h | h <;> grind
theorem neg_le_ab (x : Rat) : -x ≤ ab x := by
  rcases ab_def x with h | h <;> grind
theorem ab_neg (x : Rat) : ab (-x) = ab x := by
  rcases ab_def x with h | h <;> rcases ab_def (-x) with h2 | h2 <;> grind
theorem ab_add (x y : Rat) : ab (x + y) ≤ ab x + ab y := by
  rcases ab_def x with h | h <;> rcases ab_def y with h2 | h2 <;> rcases ab_def (x + y) with h3 | h3 <;> grind
theorem ab_sub (x y : Rat) : ab (x - y) ≤ ab x + ab y := by
  rcases ab_def x with h | h <;> rcases ab_def y with h2 | h2 <;> rcases ab_def (x - y) with h3 | h3 <;> grind
theorem ab_of_nonneg {x : Rat} (h : 0 ≤ x) : ab x = x := if_pos h
theorem ab_mul (x y : Rat) : ab (x * y) = ab x * ab y := by
  have key : ∀ a b : Rat, 0 ≤ a → 0 ≤ b → 0 ≤ a * b := fun a b ha hb => Rat.mul_nonneg ha hb
  rcases ab_def x with h | h <;> rcases ab_def y with h2 | h2
  · rw [ab_of_nonneg (key x y h.1 h2.1), h.2, h2.2]
  · have := key x (-y) h.1 (by grind)
    rw [← ab_neg, show -(x * y) = x * -y by grind, ab_of_nonneg this, h.2, h2.2]
  · have := key (-x) y (by grind) h2.1
    rw [← ab_neg, show -(x * y) = -x * y by grind, ab_of_nonneg this, h.2, h2.2]
  · have := key (-x) (-y) (by grind) (by grind)
    rw [show x * y = -x * -y by grind, ab_of_nonneg this, h.2, h2.2]
/-! ===== values ===== -/
def rv : Dt → Rat
  | .fin s c q => ((FP.Core.signed s c : Int) : Rat) * zp q
  | _ => 0
/-- a number -/
def fn (d : Dt) : Prop := ∃ s c q, d = .fin s c q
theorem fn.nn {d : Dt} (h : fn d) : d ≠ .nan := by
  obtain ⟨s, c, q, rfl⟩ := h
  exact fun h => FP.Core.Datum.noConfusion h
/-- r is x, rounded -/
def near (r x : Rat) : Prop := ab (r - x) ≤ uu * ab x + ty
theorem sgn_ab (s : Bool) (c : Nat) : ((FP.Core.signed s c : Int) : Rat) = if s then -(c : Rat) else (c : Rat) := by
  cases s <;> rfl
theorem rv_ab (s : Bool) (c : Nat) (q : Int) : ab (rv (.fin s c q)) = (c : Rat) * zp q := by
  show ab (((FP.Core.signed s c : Int) : Rat) * zp q) = _
  have h : 0 ≤ (c : Rat) * zp q := Rat.mul_nonneg Rat.natCast_nonneg (Rat.le_of_lt (zp_pos q))
  rw [sgn_ab]
  cases s
  · exact ab_of_nonneg h
  · show ab (-(c : Rat) * zp q) = _
    rw [Rat.neg_mul, ab_neg]
    exact ab_of_nonneg h
/-- a ratio rounded, with its sign -/
theorem rr_val {s : Bool} {A B : Nat} {e : Int} (hB : 0 < B) {x : Rat} (hx : x = if s then -mag A B e else mag A B e) (h : ab x < zp 1023) :
    fn (FP.Core.roundRatio FP.Core.b64 s A B e) ∧ near (rv (FP.Core.roundRatio FP.Core.b64 s A B e)) x := by
  have hm := mag_nonneg A B e
  have hax : ab x = mag A B e := by
    rw [hx]
    cases s
    · exact ab_of_nonneg hm
    · show ab (-mag A B e) = _
      rw [ab_neg]; exact ab_of_nonneg hm
  rw [hax] at h
  obtain ⟨c, q, hr⟩ := rr_fin (s := s) hB h
  obtain ⟨-, h1, h2⟩ := rr_near hB hr
  rw [hr]
  refine ⟨⟨s, c, q, rfl⟩, ?_⟩
  unfold near
  rw [hax, ab_le]
  show _ ≤ ((FP.Core.signed s c : Int) : Rat) * zp q - x ∧ _
  rw [sgn_ab, hx]
  cases s
  · show _ ≤ (c : Rat) * zp q - mag A B e ∧ (c : Rat) * zp q - mag A B e ≤ _
    constructor <;> grind
  · show _ ≤ -(c : Rat) * zp q - -mag A B e ∧ -(c : Rat) * zp q - -mag A B e ≤ _
    rw [Rat.neg_mul]
    constructor <;> grind
theorem mag_one (c : Nat) (q : Int) : mag c 1 q = (c : Rat) * zp q := by
  show (c : Rat) * ((1 : Nat) : Rat)⁻¹ * zp q = _
  rw [show (((1 : Nat) : Rat))⁻¹ = 1 by decide +kernel, Rat.mul_one]
theorem round_val {s : Bool} {c : Nat} {q : Int} (h : ab (rv (.fin s c q)) < zp 1023) : fn (FP.Core.round FP.Core.b64 (.fin s c q)) ∧ near (rv (FP.Core.round FP.Core.b64 (.fin s c q))) (rv (.fin s c q)) := by
  refine rr_val (by decide) ?_ h
  rw [mag_one]
  show ((FP.Core.signed s c : Int) : Rat) * zp q = _
  rw [sgn_ab]
  cases s
  · rfl
  · exact Rat.neg_mul ..
theorem sum_val (s t : Bool) (c d : Nat) (q r : Int) : ∃ v n e, FP.Core.exactSum (.fin s c q) (.fin t d r) = .fin v n e ∧ rv (.fin v n e) = rv (.fin s c q) + rv (.fin t d r) := by
  refine ⟨_, _, _, rfl, ?_⟩
  show ((FP.Core.signed _ _ : Int) : Rat) * zp _ = ((FP.Core.signed s c : Int) : Rat) * zp q + ((FP.Core.signed t d : Int) : Rat) * zp r
  have h1 : ∀ v : Int, FP.Core.signed (FP.Core.sumSign s t v) v.natAbs = v := by
    intro v
    unfold FP.Core.sumSign FP.Core.signed
    by_cases hv : v = 0
    · subst hv; simp
    · rw [if_neg hv]
      by_cases hn : v < 0
      · rw [decide_eq_true hn]; simp; omega
      · rw [decide_eq_false hn]; simp; omega
  rw [h1]
  have h2 : ∀ (s : Bool) (c : Nat) (q e : Int), e ≤ q → ((FP.Core.signed s (FP.Core.inUnits c q e) : Int) : Rat) * zp e = ((FP.Core.signed s c : Int) : Rat) * zp q := by
    intro s c q e h
    unfold FP.Core.inUnits
    rw [FP.Core.signed_mul, Rat.intCast_mul, Rat.mul_assoc]
    have h3 : (((2 ^ (q - e).toNat : Nat) : Int) : Rat) * zp e = zp q := by
      show ((2 ^ (q - e).toNat : Nat) : Rat) * zp e = zp q
      rw [← zp_nat, ← zp_add, show ((q - e).toNat : Int) + e = q by omega]
    rw [h3]
  unfold FP.Core.sumUnits
  rw [Rat.intCast_add, Rat.add_mul, h2 s c q _ (by omega), h2 t d r _ (by omega)]
/-! ===== the operations, between numbers ===== -/
theorem fAdd_val {x y : Dt} (hx : fn x) (hy : fn y) (h : ab (rv x + rv y) < zp 1023) : fn (fAdd x y) ∧ near (rv (fAdd x y)) (rv x + rv y) := by
  obtain ⟨s, c, q, rfl⟩ := hx
  obtain ⟨t, d, r, rfl⟩ := hy
  obtain ⟨v, n, e, h1, h2⟩ := sum_val s t c d q r
  unfold fAdd
  rw [h1, ← h2]
  rw [← h2] at h
  exact round_val h
theorem fn_neg {x : Dt} (hx : fn x) : fn (fNeg x) := by
  obtain ⟨s, c, q, rfl⟩ := hx
  exact ⟨!s, c, q, rfl⟩
theorem rv_neg (x : Dt) : rv (fNeg x) = -rv x := by
  cases x with
  | nan => exact (show (0 : Rat) = -0 by decide +kernel)
  | inf s => exact (show (0 : Rat) = -0 by decide +kernel)
  | fin s c q =>
    show ((FP.Core.signed (!s) c : Int) : Rat) * zp q = -(((FP.Core.signed s c : Int) : Rat) * zp q)
    rw [sgn_ab, sgn_ab]
    cases s
    · exact Rat.neg_mul ..
    · show (c : Rat) * zp q = -(-(c : Rat) * zp q)
      grind
theorem fSub_add (x y : Dt) : fSub x y = fAdd x (fNeg y) := rfl
theorem fSub_val {x y : Dt} (hx : fn x) (hy : fn y) (h : ab (rv x - rv y) < zp 1023) : fn (fSub x y) ∧ near (rv (fSub x y)) (rv x - rv y) := by
  have e : rv x - rv y = rv x + rv (fNeg y) := by rw [rv_neg]; grind
  rw [e] at h ⊢
  exact fAdd_val hx (fn_neg hy) h
theorem fMul_val {x y : Dt} (hx : fn x) (hy : fn y) (h : ab (rv x * rv y) < zp 1023) : fn (fMul x y) ∧ near (rv (fMul x y)) (rv x * rv y) := by
  obtain ⟨s, c, q, rfl⟩ := hx
  obtain ⟨t, d, r, rfl⟩ := hy
  have e : rv (.fin (s != t) (c * d) (q + r)) = rv (.fin s c q) * rv (.fin t d r) := by
    show ((FP.Core.signed (s != t) (c * d) : Int) : Rat) * zp (q + r) = ((FP.Core.signed s c : Int) : Rat) * zp q * (((FP.Core.signed t d : Int) : Rat) * zp r)
    rw [sgn_ab, sgn_ab, sgn_ab, zp_add, Rat.natCast_mul]
    cases s <;> cases t <;> simp <;> grind
  rw [← e] at h ⊢
  exact round_val h
theorem fDiv_val {x y : Dt} (hx : fn x) (hy : fn y) (h0 : rv y ≠ 0) (h : ab (rv x / rv y) < zp 1023) : fn (fDiv x y) ∧ near (rv (fDiv x y)) (rv x / rv y) := by
  obtain ⟨s, c, q, rfl⟩ := hx
  obtain ⟨t, d, r, rfl⟩ := hy
  have hd : ¬ d = 0 := by
    intro hd
    subst hd
    apply h0
    show ((FP.Core.signed t 0 : Int) : Rat) * zp r = 0
    rw [FP.Core.signed_zero]
    exact Rat.zero_mul _
  have hd' : (d : Rat) ≠ 0 := fun h => hd (Rat.natCast_eq_zero_iff.mp h)
  have e1 : fDiv (.fin s c q) (.fin t d r) = FP.Core.roundRatio FP.Core.b64 (s != t) c d (q - r) := by
    show (if d = 0 then _ else _) = _
    rw [if_neg hd]
  rw [e1]
  refine rr_val (by omega) ?_ h
  have hzr : zp r ≠ 0 := fun h => absurd (zp_pos r) (by rw [h]; decide +kernel)
  have hq : zp q = zp (q - r) * zp r := by rw [← zp_add, show q - r + r = q by omega]
  show ((FP.Core.signed s c : Int) : Rat) * zp q / (((FP.Core.signed t d : Int) : Rat) * zp r) = _
  rw [sgn_ab, sgn_ab, hq]
  show _ = if (s != t) = true then -((c : Rat) / (d : Rat) * zp (q - r)) else (c : Rat) / (d : Rat) * zp (q - r)
  generalize zp (q - r) = Z
  generalize zp r = R at hzr
  generalize (c : Rat) = C
  generalize (d : Rat) = D at hd'
  have hDR : D * R ≠ 0 := fun h => (Rat.mul_eq_zero.mp h).elim hd' hzr
  have key : C * (Z * R) / (D * R) = C / D * Z := by
    have h1 : C * (Z * R) / (D * R) * (D * R) = C * (Z * R) := Rat.div_mul_cancel hDR
    have h2 : C / D * D = C := Rat.div_mul_cancel hd'
    have h3 : (C / D * Z) * (D * R) = C * (Z * R) := by
      generalize C / D = E at h2
      rw [← h2]; grind
    have h4 : (C * (Z * R) / (D * R) - C / D * Z) * (D * R) = 0 := by grind
    rcases Rat.mul_eq_zero.mp h4 with h5 | h5
    · grind
    · exact absurd h5 hDR
  have n1 : ∀ a b : Rat, -a / b = -(a / b) := fun a b => Rat.neg_mul ..
  have n2 : ∀ a b : Rat, b ≠ 0 → a / -b = -(a / b) := by
    intro a b hb
    have h1 : a / -b * -b = a := Rat.div_mul_cancel (by grind)
    have h2 : a / b * b = a := Rat.div_mul_cancel hb
    have h3 : (a / -b + a / b) * b = 0 := by grind
    rcases Rat.mul_eq_zero.mp h3 with h5 | h5
    · grind
    · exact absurd h5 hb
  cases s <;> cases t
  · exact key
  · show C * (Z * R) / (-D * R) = -(C / D * Z)
    rw [Rat.neg_mul, n2 _ _ hDR, key]
  · show -C * (Z * R) / (D * R) = -(C / D * Z)
    rw [Rat.neg_mul, n1, key]
  · show -C * (Z * R) / (-D * R) = C / D * Z
    rw [Rat.neg_mul, Rat.neg_mul, n1, n2 _ _ hDR, key, Rat.neg_neg]
end
section
/-! ===== order, whole numbers, constants ===== -/
theorem zp_ne (q : Int) : zp q ≠ 0 := fun h => absurd (zp_pos q) (by rw [h]; decide +kernel)
theorem fO_val {x y : Dt} (hx : fn x) (hy : fn y) : (fO x y = some .lt ↔ rv x < rv y) ∧ (fO x y = some .gt ↔ rv y < rv x) ∧ (fO x y = some .eq ↔ rv x = rv y) := by
  obtain ⟨s, c, q, rfl⟩ := hx
  obtain ⟨t, d, r, rfl⟩ := hy
  have h2 : ∀ (s : Bool) (c : Nat) (q e : Int), e ≤ q → rv (.fin s c q) = ((FP.Core.signed s (FP.Core.inUnits c q e) : Int) : Rat) * zp e := by
    intro s c q e h
    unfold FP.Core.inUnits
    rw [FP.Core.signed_mul, Rat.intCast_mul, Rat.mul_assoc]
    have h3 : (((2 ^ (q - e).toNat : Nat) : Int) : Rat) * zp e = zp q := by
      show ((2 ^ (q - e).toNat : Nat) : Rat) * zp e = zp q
      rw [← zp_nat, ← zp_add, show ((q - e).toNat : Int) + e = q by omega]
    rw [h3]
    rfl
  have e1 := h2 s c q (min q r) (by omega)
  have e2 := h2 t d r (min q r) (by omega)
  have hz := zp_pos (min q r)
  rw [e1, e2]
  show (some (compare (FP.Core.signed s (FP.Core.inUnits c q (min q r))) (FP.Core.signed t (FP.Core.inUnits d r (min q r)))) = _ ↔ _) ∧ (some (compare _ _) = _ ↔ _) ∧ (some (compare _ _) = _ ↔ _)
  generalize FP.Core.signed s (FP.Core.inUnits c q (min q r)) = a
  generalize FP.Core.signed t (FP.Core.inUnits d r (min q r)) = b
  generalize zp (min q r) = Z at hz
  have hlt : ∀ a b : Int, ((a : Rat) * Z < (b : Rat) * Z ↔ a < b) := fun a b => (Rat.mul_lt_mul_right hz).trans Rat.intCast_lt_intCast
  rw [hlt, hlt]
  have heq : ((a : Rat) * Z = (b : Rat) * Z ↔ a = b) := by
    constructor
    · intro h
      have n1 : ¬ a < b := fun z => by have := (hlt a b).mpr z; rw [h] at this; exact Rat.lt_irrefl this
      have n2 : ¬ b < a := fun z => by have := (hlt b a).mpr z; rw [h] at this; exact Rat.lt_irrefl this
      omega
    · intro h; rw [h]
  rw [heq, FP.Core.compare_ite]
  by_cases h1 : a < b
  · simp [h1]; omega
  · by_cases h3 : a = b
    · simp [h3]
    · have : b < a := by omega
      simp [h1, h3, this]
theorem i2d_whole (i : Int32) : FP.Core.Whole i.toInt (fI i) := by
  have h := FP.Core.l2d_whole (a := i.toInt64) (by
    unfold FP.Core.Small53
    rw [Int32.toInt_toInt64]
    have h1 := Int32.toInt_lt i
    have h2 := Int32.le_toInt i
    omega)
  rw [Int32.toInt_toInt64, ← FP.Core.i2d_l2d] at h
  exact h
theorem whole_val {i : Int} {d : Dt} (h : FP.Core.Whole i d) : fn d ∧ rv d = (i : Rat) := by
  cases d with
  | nan => exact h.elim
  | inf s => exact h.elim
  | fin s c q =>
    refine ⟨⟨s, c, q, rfl⟩, ?_⟩
    have h0 : FP.Core.signed s (c * 2 ^ q.toNat) = i * ((2 ^ (-q).toNat : Nat) : Int) := h
    have h1 : ((FP.Core.signed s (c * 2 ^ q.toNat) : Int) : Rat) = ((i * ((2 ^ (-q).toNat : Nat) : Int) : Int) : Rat) := congrArg (fun z : Int => (z : Rat)) h0
    rw [FP.Core.signed_mul, Rat.intCast_mul, Rat.intCast_mul] at h1
    have h2 := zp_split q 0
    rw [show (0 : Int) - q = -q by omega, show q - 0 = q by omega, show zp 0 = 1 from Rat.zpow_zero 2, Rat.one_mul] at h2
    have hp : (0 : Rat) < ((2 ^ (-q).toNat : Nat) : Rat) := Rat.natCast_pos.mpr (Nat.two_pow_pos _)
    show ((FP.Core.signed s c : Int) : Rat) * zp q = (i : Rat)
    have h3 : ((((2 ^ (-q).toNat : Nat) : Int)) : Rat) = ((2 ^ (-q).toNat : Nat) : Rat) := rfl
    have h4 : ((((2 ^ q.toNat : Nat) : Int)) : Rat) = ((2 ^ q.toNat : Nat) : Rat) := rfl
    rw [h3, h4, ← h2] at h1
    generalize ((2 ^ (-q).toNat : Nat) : Rat) = W at hp h1
    have h5 : (((FP.Core.signed s c : Int) : Rat) * zp q - (i : Rat)) * W = 0 := by grind
    rcases Rat.mul_eq_zero.mp h5 with h6 | h6
    · grind
    · rw [h6] at hp; exact absurd hp Rat.lt_irrefl
theorem fI_val (i : Int32) : fn (fI i) ∧ rv (fI i) = (i.toInt : Rat) := whole_val (i2d_whole i)
theorem fn_c {b : UInt64} {r : Rat} (h : (match dV b with | .fin s c q => decide (((FP.Core.signed s c : Int) : Rat) * zp q = r) | _ => false) = true) : fn (dV b) ∧ rv (dV b) = r := by
  cases e : dV b with
  | nan => rw [e] at h; cases h
  | inf s => rw [e] at h; cases h
  | fin s c q =>
    rw [e] at h
    exact ⟨⟨s, c, q, rfl⟩, of_decide_eq_true h⟩
theorem c_zero : fn (dV 0) ∧ rv (dV 0) = 0 := fn_c (by decide +kernel)
theorem c_one : fn (dV 4607182418800017408) ∧ rv (dV 4607182418800017408) = 1 := fn_c (by decide +kernel)
theorem c_100 : fn (dV 4636737291354636288) ∧ rv (dV 4636737291354636288) = 100 := fn_c (by decide +kernel)
theorem c_1000 : fn (dV 4652007308841189376) ∧ rv (dV 4652007308841189376) = 1000 := fn_c (by decide +kernel)
theorem c_1e6 : fn (dV 4696837146684686336) ∧ rv (dV 4696837146684686336) = 1000000 := fn_c (by decide +kernel)
theorem c_1e9 : fn (dV 4741671816366391296) ∧ rv (dV 4741671816366391296) = 1000000000 := fn_c (by decide +kernel)
theorem c_micro : fn (dV 4517329193108106637) ∧ 1 / 1000001 ≤ rv (dV 4517329193108106637) := by
  have h := fn_c (b := 4517329193108106637) (r := 4722366482869645 * zp (-72)) (by decide +kernel)
  exact ⟨h.1, by rw [h.2]; decide +kernel⟩
/-! ===== what isn't NaN ===== -/
theorem nn_round {d : Dt} (h : d ≠ .nan) : FP.Core.round FP.Core.b64 d ≠ .nan := by
  cases d with
  | nan => exact absurd rfl h
  | inf s => exact fun h => FP.Core.Datum.noConfusion h
  | fin s c q => exact rr_nn s c 1 q
theorem nn_add {x y : Dt} (hx : fn x) (hy : y ≠ .nan) : fAdd x y ≠ .nan := by
  obtain ⟨s, c, q, rfl⟩ := hx
  refine nn_round ?_
  cases y with
  | nan => exact absurd rfl hy
  | inf s => exact fun h => FP.Core.Datum.noConfusion h
  | fin t d r => exact fun h => FP.Core.Datum.noConfusion h
theorem nn_mul {x y : Dt} (hx : fn x) (hy : fn y) : fMul x y ≠ .nan := by
  obtain ⟨s, c, q, rfl⟩ := hx
  obtain ⟨t, d, r, rfl⟩ := hy
  exact nn_round fun h => FP.Core.Datum.noConfusion h
end
section
/-! ===== sums of products, one behind the other ===== -/
def smN (a : Dt) (f : Nat → Dt) : Nat → Dt
  | 0 => a
  | n + 1 => fAdd (smN a f n) (f n)
theorem smN_congr {a : Dt} {f g : Nat → Dt} {n : Nat} (h : ∀ i, i < n → f i = g i) : smN a f n = smN a g n := by
  induction n with
  | zero => rfl
  | succ n ih =>
    show fAdd (smN a f n) (f n) = fAdd (smN a g n) (g n)
    rw [ih (fun i hi => h i (by omega)), h n (by omega)]
def rsum (f : Nat → Rat) : Nat → Rat
  | 0 => 0
  | n + 1 => rsum f n + f n
theorem rsum_ab {f : Nat → Rat} {n : Nat} {B : Rat} (h : ∀ k, k < n → ab (f k) ≤ B) : ab (rsum f n) ≤ (n : Rat) * B := by
  induction n with
  | zero =>
    show ab 0 ≤ ((0 : Nat) : Rat) * B
    rw [show (((0 : Nat) : Rat)) = 0 from rfl, Rat.zero_mul]
    exact (by decide +kernel : ab 0 ≤ 0)
  | succ n ih =>
    have h1 := ih (fun k hk => h k (by omega))
    have h2 := h n (by omega)
    have h3 := ab_add (rsum f n) (f n)
    show ab (rsum f n + f n) ≤ ((n + 1 : Nat) : Rat) * B
    rw [Rat.natCast_add]
    show _ ≤ ((n : Rat) + 1) * B
    grind
theorem rsum_congr {f g : Nat → Rat} {n : Nat} (h : ∀ k, k < n → f k = g k) : rsum f n = rsum g n := by
  induction n with
  | zero => rfl
  | succ n ih =>
    show rsum f n + f n = rsum g n + g n
    rw [ih (fun k hk => h k (by omega)), h n (by omega)]
theorem zp_1000 : zp 1000 * 1000000 ≤ zp 1022 := by decide +kernel
theorem zp_1022 : zp 1022 < zp 1023 := by decide +kernel
theorem ty_pos : 0 < ty := zp_pos _
theorem ty_small : ty * 1000000000000000000000000000000 ≤ 1 := by decide +kernel
theorem fold_val {a : Dt} {f g : Nat → Dt} {W : Rat} {n : Nat} (hn : n ≤ 16) (hW : 1 ≤ W) (hW2 : W ≤ zp 1000) (ha : fn a) (haW : ab (rv a) ≤ 1000 * W)
    (hf : ∀ k, k < n → fn (f k)) (hg : ∀ k, k < n → fn (g k)) (hfg : ∀ k, k < n → ab (rv (f k) * rv (g k)) ≤ 1000 * W) :
    fn (smN a (fun k => fMul (f k) (g k)) n) ∧ ab (rv (smN a (fun k => fMul (f k) (g k)) n) - (rv a + rsum (fun k => rv (f k) * rv (g k)) n)) ≤ (n : Rat) * (W / 274877906944) := by
  induction n with
  | zero =>
    refine ⟨ha, ?_⟩
    show ab (rv a - (rv a + 0)) ≤ ((0 : Nat) : Rat) * _
    rw [show (((0 : Nat) : Rat)) = 0 from rfl, Rat.zero_mul, show rv a - (rv a + 0) = 0 by grind]
    exact (by decide +kernel : ab 0 ≤ 0)
  | succ n ih =>
    obtain ⟨i1, i2⟩ := ih (by omega) (fun k hk => hf k (by omega)) (fun k hk => hg k (by omega)) (fun k hk => hfg k (by omega))
    have hn16 : (n : Rat) ≤ 15 := by
      have := Rat.natCast_le_natCast.mpr (show n ≤ 15 by omega)
      exact this
    have hn0 : (0 : Rat) ≤ (n : Rat) := Rat.natCast_nonneg
    have hp := hfg n (by omega)
    have hS := rsum_ab (f := fun k => rv (f k) * rv (g k)) (n := n) (B := 1000 * W) (fun k hk => hfg k (by omega))
    have z1 := zp_1000
    have z2 := zp_1022
    have t1 := ty_pos
    have t2 := ty_small
    obtain ⟨p1, p2⟩ := fMul_val (hf n (by omega)) (hg n (by omega)) (by grind)
    have nW1 : (n : Rat) * W ≤ 15 * W := Rat.mul_le_mul_of_nonneg_right hn16 (by grind)
    have nW0 : 0 ≤ (n : Rat) * W := Rat.mul_nonneg hn0 (by grind)
    show fn (fAdd (smN a (fun k => fMul (f k) (g k)) n) (fMul (f n) (g n))) ∧ ab (rv (fAdd (smN a (fun k => fMul (f k) (g k)) n) (fMul (f n) (g n))) - (rv a + (rsum (fun k => rv (f k) * rv (g k)) n + rv (f n) * rv (g n)))) ≤ ((n + 1 : Nat) : Rat) * (W / 274877906944)
    rw [Rat.natCast_add, show (((1 : Nat) : Rat)) = 1 from rfl]
    generalize smN a (fun k => fMul (f k) (g k)) n = s at i1 i2 ⊢
    generalize fMul (f n) (g n) = p at p1 p2 ⊢
    generalize rsum (fun k => rv (f k) * rv (g k)) n = S at i2 hS ⊢
    generalize rv (f n) * rv (g n) = x at hp p2 ⊢
    unfold near at p2
    have q2 := ab_le.mp (show ab (rv p - x) ≤ uu * (1000 * W) + ty by grind)
    have q3 := ab_le.mp i2
    have q4 := ab_le.mp hS
    have q5 := ab_le.mp hp
    have q6 := ab_le.mp haW
    have hsp : ab (rv s + rv p) ≤ 20000 * W := by
      rw [ab_le]
      constructor <;> grind
    obtain ⟨r1, r2⟩ := fAdd_val i1 p1 (by grind)
    refine ⟨r1, ?_⟩
    unfold near at r2
    have r3 := ab_le.mp (show ab (rv (fAdd s p) - (rv s + rv p)) ≤ uu * (20000 * W) + ty by grind)
    rw [ab_le]
    constructor <;> grind
end
section
/-! ===== rounding where it may end beyond the doubles ===== -/
theorem round_ext (s : Bool) (c : Nat) (q : Int) : (fn (FP.Core.round FP.Core.b64 (.fin s c q)) ∧ near (rv (FP.Core.round FP.Core.b64 (.fin s c q))) (rv (.fin s c q))) ∨ (∃ v, FP.Core.round FP.Core.b64 (.fin s c q) = .inf v ∧ (v = false → zp 1023 ≤ rv (.fin s c q)) ∧ (v = true → rv (.fin s c q) ≤ -zp 1023)) := by
  by_cases h : ab (rv (.fin s c q)) < zp 1023
  · exact Or.inl (round_val h)
  · have h1 := Rat.not_lt.mp h
    have hz := zp_pos 1023
    have hsg : (s = false → 0 ≤ rv (.fin s c q)) ∧ (s = true → rv (.fin s c q) ≤ 0) := by
      have hc : 0 ≤ (c : Rat) * zp q := Rat.mul_nonneg Rat.natCast_nonneg (Rat.le_of_lt (zp_pos q))
      constructor
      · intro e
        subst e
        exact hc
      · intro e
        subst e
        show -(c : Rat) * zp q ≤ 0
        rw [Rat.neg_mul]
        grind
    cases e : FP.Core.round FP.Core.b64 (.fin s c q) with
    | nan => exact absurd e (rr_nn s c 1 q)
    | inf v =>
      right
      have hv : v = s := by
        have e0 : FP.Core.roundRatio FP.Core.b64 s c 1 q = .inf v := e
        unfold FP.Core.roundRatio at e0
        split at e0
        · cases e0
        · unfold FP.Core.roundAt FP.Core.settle FP.Core.bound at e0
          split at e0
          · split at e0
            · cases e0
            · cases e0; rfl
          · split at e0
            · cases e0
            · cases e0; rfl
      refine ⟨v, rfl, ?_, ?_⟩
      · intro e1
        rw [hv] at e1
        rw [ab_of_nonneg (hsg.1 e1)] at h1
        exact h1
      · intro e1
        rw [hv] at e1
        have h2 := hsg.2 e1
        rcases ab_def (rv (.fin s c q)) with h3 | h3 <;> grind
    | fin t d r =>
      left
      refine ⟨⟨t, d, r, rfl⟩, ?_⟩
      have e0 : FP.Core.roundRatio FP.Core.b64 s c 1 q = .fin t d r := e
      obtain ⟨ht, h2, h3⟩ := rr_near (by decide) e0
      rw [mag_one] at h2 h3
      unfold near
      rw [rv_ab, ab_le]
      subst ht
      show _ ≤ ((FP.Core.signed t d : Int) : Rat) * zp r - ((FP.Core.signed t c : Int) : Rat) * zp q ∧ ((FP.Core.signed t d : Int) : Rat) * zp r - ((FP.Core.signed t c : Int) : Rat) * zp q ≤ _
      rw [sgn_ab, sgn_ab]
      cases t
      · show _ ≤ (d : Rat) * zp r - (c : Rat) * zp q ∧ (d : Rat) * zp r - (c : Rat) * zp q ≤ _
        constructor <;> grind
      · show _ ≤ -(d : Rat) * zp r - -(c : Rat) * zp q ∧ -(d : Rat) * zp r - -(c : Rat) * zp q ≤ _
        rw [Rat.neg_mul, Rat.neg_mul]
        constructor <;> grind
/-- d is x, rounded, or infinite on its side -/
def nearX (d : Dt) (x : Rat) : Prop := (fn d ∧ near (rv d) x) ∨ ∃ v, d = .inf v ∧ (v = false → zp 1023 ≤ x) ∧ (v = true → x ≤ -zp 1023)
theorem fMul_ext {x y : Dt} (hx : fn x) (hy : fn y) : nearX (fMul x y) (rv x * rv y) := by
  obtain ⟨s, c, q, rfl⟩ := hx
  obtain ⟨t, d, r, rfl⟩ := hy
  have e : rv (.fin (s != t) (c * d) (q + r)) = rv (.fin s c q) * rv (.fin t d r) := by
    show ((FP.Core.signed (s != t) (c * d) : Int) : Rat) * zp (q + r) = ((FP.Core.signed s c : Int) : Rat) * zp q * (((FP.Core.signed t d : Int) : Rat) * zp r)
    rw [sgn_ab, sgn_ab, sgn_ab, zp_add, Rat.natCast_mul]
    cases s <;> cases t <;> simp <;> grind
  rw [← e]
  exact round_ext (s != t) (c * d) (q + r)
theorem fAdd_ext {x y : Dt} (hx : fn x) (hy : fn y) : nearX (fAdd x y) (rv x + rv y) := by
  obtain ⟨s, c, q, rfl⟩ := hx
  obtain ⟨t, d, r, rfl⟩ := hy
  obtain ⟨v, n, e, h1, h2⟩ := sum_val s t c d q r
  rw [← h2]
  unfold fAdd
  rw [h1]
  exact round_ext v n e
theorem fSub_ext {x y : Dt} (hx : fn x) (hy : fn y) : nearX (fSub x y) (rv x - rv y) := by
  have e : rv x - rv y = rv x + rv (fNeg y) := by rw [rv_neg]; grind
  rw [e]
  exact fAdd_ext hx (fn_neg hy)
theorem fSub_inf {x : Dt} (hx : fn x) (v : Bool) : fSub x (.inf v) = .inf (!v) := by
  obtain ⟨s, c, q, rfl⟩ := hx
  rfl
/-- a number above 0 has the sign + -/
theorem pos_sign {s : Bool} {c : Nat} {q : Int} (h : 0 < rv (.fin s c q)) : s = false := by
  cases s
  · rfl
  · have hc : 0 ≤ (c : Rat) * zp q := Rat.mul_nonneg Rat.natCast_nonneg (Rat.le_of_lt (zp_pos q))
    have h1 : 0 < -(c : Rat) * zp q := h
    rw [Rat.neg_mul] at h1
    grind
theorem fDiv_inf {y : Dt} (hy : fn y) (h : 0 < rv y) (v : Bool) : fDiv (.inf v) y = .inf v := by
  obtain ⟨t, d, r, rfl⟩ := hy
  have ht := pos_sign h
  subst ht
  show FP.Core.Datum.inf (v != false) = _
  cases v <;> rfl
theorem fDiv_ext {x y : Dt} (hx : fn x) (hy : fn y) (h : 0 < rv y) : (fn (fDiv x y) ∧ near (rv (fDiv x y)) (rv x / rv y)) ∨ ∃ v, fDiv x y = .inf v ∧ (v = false → 0 ≤ rv x) ∧ (v = true → rv x ≤ 0) := by
  by_cases hb : ab (rv x / rv y) < zp 1023
  · exact Or.inl (fDiv_val hx hy (fun e => by rw [e] at h; exact Rat.lt_irrefl h) hb)
  · obtain ⟨s, c, q, rfl⟩ := hx
    obtain ⟨t, d, r, rfl⟩ := hy
    have ht := pos_sign h
    subst ht
    have hd : ¬ d = 0 := by
      intro hd
      subst hd
      have h1 : (0 : Rat) < ((0 : Nat) : Rat) * zp r := h
      rw [show (((0 : Nat) : Rat)) = 0 from rfl, Rat.zero_mul] at h1
      exact Rat.lt_irrefl h1
    have e1 : fDiv (.fin s c q) (.fin false d r) = FP.Core.roundRatio FP.Core.b64 (s != false) c d (q - r) := by
      show (if d = 0 then _ else _) = _
      rw [if_neg hd]
    have es : (s != false) = s := by cases s <;> rfl
    rw [e1, es]
    have hc : 0 ≤ (c : Rat) * zp q := Rat.mul_nonneg Rat.natCast_nonneg (Rat.le_of_lt (zp_pos q))
    have hsg : (s = false → 0 ≤ rv (.fin s c q)) ∧ (s = true → rv (.fin s c q) ≤ 0) := by
      constructor
      · intro e
        subst e
        exact hc
      · intro e
        subst e
        show -(c : Rat) * zp q ≤ 0
        rw [Rat.neg_mul]
        grind
    have hrat : mag c d (q - r) = (c : Rat) * zp q / ((d : Rat) * zp r) := by
      have hd' : (d : Rat) ≠ 0 := fun h => hd (Rat.natCast_eq_zero_iff.mp h)
      have hzr := zp_ne r
      have hq : zp q = zp (q - r) * zp r := by rw [← zp_add, show q - r + r = q by omega]
      rw [hq]
      show (c : Rat) / (d : Rat) * zp (q - r) = _
      generalize zp (q - r) = Z
      generalize zp r = R at hzr
      generalize (c : Rat) = C
      generalize (d : Rat) = D at hd'
      have hDR : D * R ≠ 0 := fun h => (Rat.mul_eq_zero.mp h).elim hd' hzr
      have h1 : C * (Z * R) / (D * R) * (D * R) = C * (Z * R) := Rat.div_mul_cancel hDR
      have h2 : C / D * D = C := Rat.div_mul_cancel hd'
      have h3 : (C / D * Z) * (D * R) = C * (Z * R) := by
        generalize C / D = E at h2
        rw [← h2]; grind
      have h4 : (C * (Z * R) / (D * R) - C / D * Z) * (D * R) = 0 := by grind
      rcases Rat.mul_eq_zero.mp h4 with h5 | h5
      · grind
      · exact absurd h5 hDR
    cases e : FP.Core.roundRatio FP.Core.b64 s c d (q - r) with
    | nan => exact absurd e (rr_nn s c d (q - r))
    | inf v =>
      right
      have hv : v = s := by
        unfold FP.Core.roundRatio at e
        split at e
        · cases e
        · unfold FP.Core.roundAt FP.Core.settle FP.Core.bound at e
          split at e
          · split at e
            · cases e
            · cases e; rfl
          · split at e
            · cases e
            · cases e; rfl
      exact ⟨v, rfl, fun h => hsg.1 (hv ▸ h), fun h => hsg.2 (hv ▸ h)⟩
    | fin t c2 q2 =>
      left
      refine ⟨⟨t, c2, q2, rfl⟩, ?_⟩
      obtain ⟨ht, h2, h3⟩ := rr_near (by omega) e
      subst ht
      have hm := mag_nonneg c d (q - r)
      have hx : rv (.fin t c q) / rv (.fin false d r) = if t then -mag c d (q - r) else mag c d (q - r) := by
        rw [hrat]
        show ((FP.Core.signed t c : Int) : Rat) * zp q / ((d : Rat) * zp r) = _
        rw [sgn_ab]
        cases t
        · rfl
        · show -(c : Rat) * zp q / _ = -((c : Rat) * zp q / _)
          rw [Rat.neg_mul]
          exact Rat.neg_mul ..
      rw [hx]
      unfold near
      rw [ab_le]
      show _ ≤ ((FP.Core.signed t c2 : Int) : Rat) * zp q2 - _ ∧ ((FP.Core.signed t c2 : Int) : Rat) * zp q2 - _ ≤ _
      rw [sgn_ab]
      cases t
      · show -(uu * ab (mag c d (q - r)) + ty) ≤ (c2 : Rat) * zp q2 - mag c d (q - r) ∧ (c2 : Rat) * zp q2 - mag c d (q - r) ≤ uu * ab (mag c d (q - r)) + ty
        rw [ab_of_nonneg hm]
        constructor <;> grind
      · show -(uu * ab (-mag c d (q - r)) + ty) ≤ -(c2 : Rat) * zp q2 - -mag c d (q - r) ∧ -(c2 : Rat) * zp q2 - -mag c d (q - r) ≤ uu * ab (-mag c d (q - r)) + ty
        rw [ab_neg, ab_of_nonneg hm, Rat.neg_mul]
        constructor <;> grind
end
section
/-! ===== one step of recursive least squares ===== -/
def sOut (n : Nat) (w : Nat → Dt) (xi : Nat → Int32) : Dt := smN (dV 0) (fun k => fMul (w k) (fI (xi k))) n
def sM (n : Nat) (st : Dt) (P : Nat → Nat → Dt) (xi : Nat → Int32) : Dt := smN st (fun i => fMul (fI (xi i)) (sOut n (P i) xi)) n
def rK (n : Nat) (mu : Dt) (P : Nat → Nat → Dt) (xi : Nat → Int32) (i : Nat) : Dt := fDiv (sOut n (P i) xi) (sM n mu P xi)
def rQ (n : Nat) (mu : Dt) (P : Nat → Nat → Dt) (xi : Nat → Int32) (i j : Nat) : Dt := fDiv (fSub (P i j) (fMul (rK n mu P xi i) (sOut n (P j) xi))) mu
abbrev rLow (n : Nat) (mu : Dt) (P : Nat → Nat → Dt) (xi : Nat → Int32) : Prop := fO (sM n mu P xi) (dV 4517329193108106637) = some .lt
abbrev rBad (d : Dt) : Prop := fO d (dV 4696837146684686336) = some .gt ∨ fO d (dV 0) = some .lt
def rOv (f : Nat → Dt) : Nat → Bool
  | 0 => false
  | j + 1 => rOv f j || decide (rBad (f j))
theorem rOv_no {f : Nat → Dt} {n : Nat} (h : ¬ rOv f n = true) : ∀ i, i < n → ¬ rBad (f i) := by
  induction n with
  | zero => intro i hi; omega
  | succ n ih =>
    have h1 : ¬ (rOv f n || decide (rBad (f n))) = true := h
    rw [Bool.or_eq_true] at h1
    intro i hi
    by_cases e : i = n
    · subst e
      exact fun z => h1 (Or.inr (decide_eq_true z))
    · exact ih (fun z => h1 (Or.inl z)) i (by omega)
theorem bad_inf (v : Bool) : rBad (.inf v) := by
  cases v <;> decide +kernel
def okP (n : Nat) (M : Rat) (P : Nat → Nat → Dt) : Prop := (∀ i j, i < n → j < n → fn (P i j) ∧ ab (rv (P i j)) ≤ M) ∧ ∀ i, i < n → 0 ≤ rv (P i i) ∧ rv (P i i) ≤ 1000000
abbrev xr (xi : Nat → Int32) (k : Nat) : Rat := ((xi k).toInt : Rat)
def okX (n : Nat) (xi : Nat → Int32) : Prop := ∀ k, k < n → ab (xr xi k) ≤ 1000
def okMu (mu : Dt) : Prop := fn mu ∧ 1125899906842623 / 2251799813685248 ≤ rv mu ∧ rv mu ≤ 1001 / 1000
theorem ab_zero : ab 0 = 0 := by decide +kernel
theorem mul_ab {a b A B : Rat} (ha : ab a ≤ A) (hb : ab b ≤ B) : ab (a * b) ≤ A * B := by
  rw [ab_mul]
  have h1 := Rat.mul_le_mul_of_nonneg_right ha (ab_nonneg b)
  have h2 := Rat.mul_le_mul_of_nonneg_left hb (show 0 ≤ A from Rat.le_trans (ab_nonneg a) ha)
  exact Rat.le_trans h1 h2
theorem g_val {n : Nat} {w : Nat → Dt} {xi : Nat → Int32} {R : Rat} (hn : n ≤ 4) (hx : okX n xi) (hR : 1 ≤ R) (hR2 : R ≤ zp 1000) (hw : ∀ j, j < n → fn (w j) ∧ ab (rv (w j)) ≤ R) :
    fn (sOut n w xi) ∧ ab (rv (sOut n w xi) - rsum (fun j => rv (w j) * xr xi j) n) ≤ R / 68719476736 := by
  have h := fold_val (a := dV 0) (f := w) (g := fun k => fI (xi k)) (W := R) (n := n) (by omega) hR hR2 c_zero.1 (by rw [c_zero.2, ab_zero]; grind) (fun k hk => (hw k hk).1) (fun k _ => (fI_val (xi k)).1)
    (fun k hk => by
      have h1 := mul_ab (hw k hk).2 (hx k hk)
      rw [(fI_val (xi k)).2]
      grind)
  refine ⟨h.1, ?_⟩
  have h2 := h.2
  rw [c_zero.2] at h2
  have e : rsum (fun k => rv (w k) * rv (fI (xi k))) n = rsum (fun j => rv (w j) * xr xi j) n := rsum_congr fun k _ => by rw [(fI_val (xi k)).2]
  rw [e] at h2
  have hn4 : (n : Rat) ≤ 4 := by
    have := Rat.natCast_le_natCast.mpr hn
    exact this
  have h3 := Rat.mul_le_mul_of_nonneg_right hn4 (show 0 ≤ R / 274877906944 by grind)
  show ab (rv (smN (dV 0) (fun k => fMul (w k) (fI (xi k))) n) - _) ≤ _
  rw [show rv (smN (dV 0) (fun k => fMul (w k) (fI (xi k))) n) - rsum (fun j => rv (w j) * xr xi j) n = rv (smN (dV 0) (fun k => fMul (w k) (fI (xi k))) n) - (0 + rsum (fun j => rv (w j) * xr xi j) n) by grind]
  grind
theorem gmax (f : Nat → Rat) : ∀ n : Nat, ∃ G : Rat, 1 ≤ G ∧ (∀ i, i < n → ab (f i) ≤ G) ∧ (G = 1 ∨ ∃ i, i < n ∧ G = ab (f i)) := by
  intro n
  induction n with
  | zero => exact ⟨1, Rat.le_refl, fun i hi => by omega, Or.inl rfl⟩
  | succ n ih =>
    obtain ⟨G, h1, h2, h3⟩ := ih
    by_cases h : ab (f n) ≤ G
    · refine ⟨G, h1, fun i hi => ?_, h3.imp id (fun ⟨i, hi, e⟩ => ⟨i, by omega, e⟩)⟩
      by_cases e : i = n
      · rw [e]; exact h
      · exact h2 i (by omega)
    · have h' := Rat.not_le.mp h
      refine ⟨ab (f n), by grind, fun i hi => ?_, Or.inr ⟨n, by omega, rfl⟩⟩
      by_cases e : i = n
      · rw [e]; exact Rat.le_refl
      · have := h2 i (by omega)
        grind
theorem m_val {n : Nat} {mu : Dt} {P : Nat → Nat → Dt} {xi : Nat → Int32} {G : Rat} (hn : n ≤ 4) (hx : okX n xi) (hmu : okMu mu) (hG : 1 ≤ G) (hG2 : G ≤ zp 1000) (hg : ∀ i, i < n → fn (sOut n (P i) xi) ∧ ab (rv (sOut n (P i) xi)) ≤ G) :
    fn (sM n mu P xi) ∧ ab (rv (sM n mu P xi)) ≤ 4003 * G := by
  obtain ⟨m1, m2, m3⟩ := hmu
  have hmu0 : ab (rv mu) ≤ 1001 / 1000 := by rw [ab_le]; constructor <;> grind
  have hp : ∀ k, k < n → ab (rv (fI (xi k)) * rv (sOut n (P k) xi)) ≤ 1000 * G := fun k hk => by
    rw [(fI_val (xi k)).2]
    exact mul_ab (hx k hk) (hg k hk).2
  have h := fold_val (a := mu) (f := fun k => fI (xi k)) (g := fun k => sOut n (P k) xi) (W := G) (n := n) (by omega) hG hG2 m1 (by grind) (fun k _ => (fI_val (xi k)).1) (fun k hk => (hg k hk).1) hp
  refine ⟨h.1, ?_⟩
  have h2 := h.2
  have h3 := rsum_ab hp
  have hn4 : (n : Rat) ≤ 4 := by
    have := Rat.natCast_le_natCast.mpr hn
    exact this
  have h4 := Rat.mul_le_mul_of_nonneg_right hn4 (show 0 ≤ G / 274877906944 by grind)
  have h5 := Rat.mul_le_mul_of_nonneg_right hn4 (show 0 ≤ 1000 * G by grind)
  show ab (rv (smN mu (fun i => fMul (fI (xi i)) (sOut n (P i) xi)) n)) ≤ _
  generalize rv (smN mu (fun i => fMul (fI (xi i)) (sOut n (P i) xi)) n) = z at h2 ⊢
  generalize rsum (fun k => rv (fI (xi k)) * rv (sOut n (P k) xi)) n = S at h2 h3
  have k1 := ab_le.mp h2
  have k2 := ab_le.mp h3
  have k3 := ab_le.mp hmu0
  rw [ab_le]
  constructor <;> grind
end
section
/-! ===== a step without a reset ===== -/
theorem mu_pos0 {mu : Dt} (h : okMu mu) : 0 < rv mu := by
  have := h.2.1
  grind
theorem bad_no {q : Dt} (hq : fn q) (h : ¬ rBad q) : 0 ≤ rv q ∧ rv q ≤ 1000000 := by
  have h1 : ¬ rv q < 0 := fun z => h (Or.inr ((fO_val hq c_zero.1).1.mpr (by rw [c_zero.2]; exact z)))
  have h2 : ¬ 1000000 < rv q := fun z => h (Or.inl ((fO_val hq c_1e6.1).2.1.mpr (by rw [c_1e6.2]; exact z)))
  exact ⟨Rat.not_lt.mp h1, Rat.not_lt.mp h2⟩
theorem kg_bound {p k g mu : Dt} (hp : fn p) (p0 : 0 ≤ rv p) (p1 : rv p ≤ 1000000) (hk : fn k) (hg : fn g) (hmu : okMu mu) (h : ¬ rBad (fDiv (fSub p (fMul k g)) mu)) : rv k * rv g ≤ 1000003 := by
  have hm0 := mu_pos0 hmu
  obtain ⟨m1, m2, m3⟩ := hmu
  rcases fMul_ext hk hg with ⟨k1, k2⟩ | ⟨v, e, -⟩
  · rcases fSub_ext hp k1 with ⟨d1, d2⟩ | ⟨v, e, -⟩
    · rcases fDiv_ext d1 m1 hm0 with ⟨q1, q2⟩ | ⟨v, e, -⟩
      · have q0 := (bad_no q1 h).1
        refine Rat.not_lt.mp fun hc => ?_
        have t1 := ty_pos
        have t2 := ty_small
        unfold near at k2 d2 q2
        have hyd : rv (fSub p (fMul k g)) / rv mu * rv mu = rv (fSub p (fMul k g)) := Rat.div_mul_cancel (fun e => by rw [e] at hm0; exact Rat.lt_irrefl hm0)
        generalize rv (fDiv (fSub p (fMul k g)) mu) = Q at q0 q2
        generalize rv (fSub p (fMul k g)) / rv mu = y at q2 hyd
        generalize rv (fSub p (fMul k g)) = d at d2 hyd
        generalize rv (fMul k g) = z at k2 d2
        generalize rv k * rv g = x at hc k2
        generalize rv p = P at *
        generalize rv mu = M at *
        rw [ab_of_nonneg (by grind : 0 ≤ x)] at k2
        have k3 := ab_le.mp k2
        have hz : 1000002 ≤ z := by grind
        have e1 : ab (P - z) = z - P := by
          rw [← ab_neg, show -(P - z) = z - P by grind]
          exact ab_of_nonneg (by grind)
        rw [e1] at d2
        have d3 := ab_le.mp d2
        have hd : d ≤ -1 := by grind
        have hy : y ≤ -9 / 10 := by
          refine Rat.not_lt.mp fun hc => ?_
          have := Rat.mul_nonneg (show 0 ≤ y + 9 / 10 by grind) (Rat.le_of_lt hm0)
          grind
        have e2 : ab y = -y := by
          rw [← ab_neg]
          exact ab_of_nonneg (by grind)
        rw [e2] at q2
        have q3 := ab_le.mp q2
        grind
      · rw [e] at h; exact absurd (bad_inf v) h
    · rw [e, fDiv_inf m1 hm0] at h
      exact absurd (bad_inf v) h
  · rw [e, fSub_inf hp, fDiv_inf m1 hm0] at h
    exact absurd (bad_inf _) h
theorem zp_980 : zp 980 * 10000 ≤ zp 1000 := by decide +kernel
theorem zp_1000b : zp 1000 * 1000003 < zp 1022 := by decide +kernel
theorem ty_1000 : ty * zp 1000 ≤ 1 / 1000000 := by decide +kernel
theorem zp_980b : 1000000 ≤ zp 980 := by decide +kernel
theorem div_ab {a b B : Rat} (hb : 0 < b) (h : ab a ≤ B * b) : ab (a / b) ≤ B := by
  have e : a / b * b = a := Rat.div_mul_cancel (fun e => by rw [e] at hb; exact Rat.lt_irrefl hb)
  generalize a / b = y at e ⊢
  rw [← e] at h
  have h1 := ab_le.mp h
  rw [ab_le]
  constructor
  · exact Rat.le_of_mul_le_mul_right (by grind : -B * b ≤ y * b) hb
  · exact Rat.le_of_mul_le_mul_right h1.2 hb
/-- the rows times the window, and m -/
theorem rls_gm {n : Nat} {mu : Dt} {P : Nat → Nat → Dt} {xi : Nat → Int32} {M : Rat} (hn : n ≤ 4) (hP : ∀ i j, i < n → j < n → fn (P i j) ∧ ab (rv (P i j)) ≤ M) (h1 : 1 ≤ M) (hM : M ≤ zp 980) (hx : okX n xi) (hmu : okMu mu) :
    (∀ i, i < n → fn (sOut n (P i) xi)) ∧ fn (sM n mu P xi) ∧ ∃ G : Rat, 1 ≤ G ∧ G ≤ zp 1000 ∧ (∀ i, i < n → ab (rv (sOut n (P i) xi)) ≤ G) ∧ (G = 1 ∨ ∃ i, i < n ∧ G = ab (rv (sOut n (P i) xi))) ∧ ab (rv (sM n mu P xi)) ≤ 4003 * G := by
  have z := zp_980
  have z2 := zp_980b
  have hg : ∀ i, i < n → fn (sOut n (P i) xi) ∧ ab (rv (sOut n (P i) xi)) ≤ 4001 * M := by
    intro i hi
    obtain ⟨a, b⟩ := g_val (R := M) hn hx h1 (by grind) (fun j hj => hP i j hi hj)
    refine ⟨a, ?_⟩
    have h2 := rsum_ab (f := fun j => rv (P i j) * xr xi j) (n := n) (B := M * 1000) (fun j hj => mul_ab (hP i j hi hj).2 (hx j hj))
    have hn4 : (n : Rat) ≤ 4 := by
      have := Rat.natCast_le_natCast.mpr hn
      exact this
    have h5 := Rat.mul_le_mul_of_nonneg_right hn4 (show 0 ≤ M * 1000 by grind)
    have k1 := ab_le.mp b
    have k2 := ab_le.mp h2
    rw [ab_le]
    constructor <;> grind
  obtain ⟨G, g1, g2, g3⟩ := gmax (fun i => rv (sOut n (P i) xi)) n
  have hG : G ≤ zp 1000 := by
    rcases g3 with g3 | ⟨i, hi, g3⟩
    · grind
    · have := (hg i hi).2
      grind
  obtain ⟨a, b⟩ := m_val hn hx hmu g1 hG (fun i hi => ⟨(hg i hi).1, g2 i hi⟩)
  exact ⟨fun i hi => (hg i hi).1, a, G, g1, hG, g2, g3, b⟩
/-- where m isn't too small, every k is a number, near g / m -/
theorem rls_k {n : Nat} {mu : Dt} {P : Nat → Nat → Dt} {xi : Nat → Int32} {M : Rat} (hn : n ≤ 4) (hP : ∀ i j, i < n → j < n → fn (P i j) ∧ ab (rv (P i j)) ≤ M) (h1 : 1 ≤ M) (hM : M ≤ zp 980) (hx : okX n xi) (hmu : okMu mu) (hlow : ¬ rLow n mu P xi) :
    1 / 1000001 ≤ rv (sM n mu P xi) ∧ ∀ i, i < n → fn (rK n mu P xi i) ∧ near (rv (rK n mu P xi i)) (rv (sOut n (P i) xi) / rv (sM n mu P xi)) := by
  obtain ⟨g0, m0, G, g1, g2, g3, -, -⟩ := rls_gm hn hP h1 hM hx hmu
  have hm : 1 / 1000001 ≤ rv (sM n mu P xi) := by
    have h2 : ¬ rv (sM n mu P xi) < rv (dV 4517329193108106637) := fun z => hlow ((fO_val m0 c_micro.1).1.mpr z)
    have h3 := Rat.not_lt.mp h2
    have h4 := c_micro.2
    grind
  refine ⟨hm, fun i hi => ?_⟩
  have hm0 : 0 < rv (sM n mu P xi) := by grind
  have hq : ab (rv (sOut n (P i) xi) / rv (sM n mu P xi)) ≤ zp 1000 * 1000001 := by
    refine div_ab hm0 ?_
    have e1 := g3 i hi
    have e2 := Rat.mul_le_mul_of_nonneg_left hm (Rat.le_of_lt (zp_pos 1000))
    grind
  have z1 := zp_1000b
  have z2 := zp_1022
  have z3 := zp_pos 1000
  exact fDiv_val (g0 i hi) m0 (fun e => by rw [e] at hm0; exact Rat.lt_irrefl hm0) (by grind)
end
section
theorem near_mul {k y g G : Rat} (hk : near k y) (hg : ab g ≤ G) (hG : G ≤ zp 1000) : ab (k * g - y * g) ≤ uu * ab (y * g) + 1 / 1000000 := by
  have e : k * g - y * g = (k - y) * g := by grind
  rw [e, ab_mul, ab_mul]
  unfold near at hk
  have h1 := Rat.mul_le_mul_of_nonneg_right hk (ab_nonneg g)
  have h2 := Rat.mul_le_mul_of_nonneg_left (Rat.le_trans hg hG) (Rat.le_of_lt ty_pos)
  have h3 := ty_1000
  grind
theorem yg_bound {k y g m G : Rat} (hk : near k y) (hg : ab g ≤ G) (hG : G ≤ zp 1000) (hm : 0 < m) (hy : y * m = g) (h : k * g ≤ 1000003) : y * g ≤ 1000004 := by
  have h1 := near_mul hk hg hG
  have h0 : 0 ≤ y * g := by
    rw [← hy]
    have : y * (y * m) = (y * y) * m := by grind
    rw [this]
    refine Rat.mul_nonneg ?_ (Rat.le_of_lt hm)
    rcases ab_def y with h | h
    · exact Rat.mul_nonneg h.1 h.1
    · have := Rat.mul_nonneg (show 0 ≤ -y by grind) (show 0 ≤ -y by grind)
      grind
  rw [ab_of_nonneg h0] at h1
  have h2 := ab_le.mp h1
  grind
theorem sq_ab {a b C m : Rat} (h1 : a * a ≤ C * m) (h2 : b * b ≤ C * m) : ab (a * b) ≤ C * m := by
  have sq : ∀ x : Rat, 0 ≤ x * x := by
    intro x
    rcases ab_def x with h | h
    · exact Rat.mul_nonneg h.1 h.1
    · have := Rat.mul_nonneg (show 0 ≤ -x by grind) (show 0 ≤ -x by grind)
      grind
  have k1 := sq (a - b)
  have k2 := sq (a + b)
  rw [ab_le]
  constructor <;> grind
theorem tri_end {A B D T Z X Y c p t : Rat} (e4 : A ≤ uu * D + T) (hT : T ≤ 1) (hd : D ≤ Z + (uu * Z + t)) (ht : t ≤ 1) (hpz : Z ≤ p + 1000006) (d2 : B ≤ uu * Z + t) (hz : c ≤ 1000006) (e6 : X ≤ A + Y) (e7 : Y ≤ B + c) (hp : 0 ≤ p) : X ≤ 2097152 + p / 2251799813685248 := by
  grind
/-- a step that isn't reset -/
theorem rls_live {n : Nat} {mu : Dt} {P : Nat → Nat → Dt} {xi : Nat → Int32} {M : Rat} (hn : n ≤ 4) (hP : okP n M P) (h1 : 1 ≤ M) (hM : M ≤ zp 980) (hx : okX n xi) (hmu : okMu mu) (hlow : ¬ rLow n mu P xi) (hov : ¬ rOv (fun i => rQ n mu P xi i i) n = true) :
    (∀ i, i < n → ab (rv (sOut n (P i) xi)) ≤ 4294967296) ∧ (∀ i j, i < n → j < n → fn (rQ n mu P xi i j) ∧ ab (rv (rQ n mu P xi i j) * rv mu - rv (P i j)) ≤ 2097152 + ab (rv (P i j)) / 2251799813685248) ∧ ∀ i, i < n → 0 ≤ rv (rQ n mu P xi i i) ∧ rv (rQ n mu P xi i i) ≤ 1000000 := by
  obtain ⟨g0, m0, G, g1, g2, g3, g4, mG⟩ := rls_gm hn hP.1 h1 hM hx hmu
  obtain ⟨hm, hk⟩ := rls_k hn hP.1 h1 hM hx hmu hlow
  have hb := rOv_no hov
  have hm0 : 0 < rv (sM n mu P xi) := by grind
  have hmn : rv (sM n mu P xi) ≠ 0 := fun e => by rw [e] at hm0; exact Rat.lt_irrefl hm0
  have hy : ∀ i, rv (sOut n (P i) xi) / rv (sM n mu P xi) * rv (sM n mu P xi) = rv (sOut n (P i) xi) := fun i => Rat.div_mul_cancel hmn
  have hmu0 := mu_pos0 hmu
  have hyg : ∀ i, i < n → rv (sOut n (P i) xi) / rv (sM n mu P xi) * rv (sOut n (P i) xi) ≤ 1000004 := by
    intro i hi
    have h2 := kg_bound (hP.1 i i hi hi).1 (hP.2 i hi).1 (hP.2 i hi).2 (hk i hi).1 (g0 i hi) hmu (hb i hi)
    exact yg_bound (hk i hi).2 (g3 i hi) g2 hm0 (hy i) h2
  have hgg : ∀ i, i < n → rv (sOut n (P i) xi) * rv (sOut n (P i) xi) ≤ 1000004 * rv (sM n mu P xi) := by
    intro i hi
    have h2 := Rat.mul_le_mul_of_nonneg_right (hyg i hi) (Rat.le_of_lt hm0)
    have h3 := hy i
    generalize rv (sOut n (P i) xi) / rv (sM n mu P xi) = y at h2 h3
    have h4 : y * rv (sOut n (P i) xi) * rv (sM n mu P xi) = (y * rv (sM n mu P xi)) * rv (sOut n (P i) xi) := by grind
    rw [h4, h3] at h2
    exact h2
  have hG : G ≤ 4003016012 := by
    rcases g4 with g4 | ⟨i, hi, g4⟩
    · grind
    · have h2 := hgg i hi
      have h3 : G * G = rv (sOut n (P i) xi) * rv (sOut n (P i) xi) := by
        rw [g4, ← ab_mul]
        refine ab_of_nonneg ?_
        generalize rv (sOut n (P i) xi) = x
        rcases ab_def x with h | h
        · exact Rat.mul_nonneg h.1 h.1
        · have := Rat.mul_nonneg (show 0 ≤ -x by grind) (show 0 ≤ -x by grind)
          grind
      have h4 := (ab_le.mp mG).2
      refine Rat.le_of_mul_le_mul_right (c := G) ?_ (by grind)
      rw [h3]
      grind
  have hmain : ∀ i j, i < n → j < n → fn (rQ n mu P xi i j) ∧ ab (rv (rQ n mu P xi i j) * rv mu - rv (P i j)) ≤ 2097152 + ab (rv (P i j)) / 2251799813685248 := by
    intro i j hi hj
    have hgj := g3 j hj
    have hyj : ab (rv (sOut n (P i) xi) / rv (sM n mu P xi) * rv (sOut n (P j) xi)) ≤ 1000004 := by
      have h2 := ab_le.mp (sq_ab (hgg i hi) (hgg j hj))
      have h3 := hy i
      generalize rv (sOut n (P i) xi) / rv (sM n mu P xi) = y at h3 ⊢
      have h4 : y * rv (sOut n (P j) xi) * rv (sM n mu P xi) = rv (sOut n (P i) xi) * rv (sOut n (P j) xi) := by
        rw [← h3]; grind
      rw [ab_le]
      constructor
      · exact Rat.le_of_mul_le_mul_right (by rw [h4]; grind : -1000004 * rv (sM n mu P xi) ≤ _) hm0
      · exact Rat.le_of_mul_le_mul_right (by rw [h4]; exact h2.2) hm0
    have hkg := near_mul (hk i hi).2 hgj g2
    have z1 := zp_980
    have z2 := zp_980b
    have z3 := zp_1000b
    have z4 := zp_1022
    have t1 := ty_pos
    have t2 := ty_small
    have kk := (hk i hi).1
    have gg := g0 j hj
    obtain ⟨p1, p2⟩ := hP.1 i j hi hj
    have hkg2 : ab (rv (rK n mu P xi i) * rv (sOut n (P j) xi)) ≤ 1000005 := by
      have a1 := ab_le.mp hkg
      have a2 := ab_le.mp hyj
      rw [ab_le]
      constructor <;> grind
    obtain ⟨q1, q2⟩ := fMul_val kk gg (by grind)
    show fn (fDiv (fSub (P i j) (fMul (rK n mu P xi i) (sOut n (P j) xi))) mu) ∧ ab (rv (fDiv (fSub (P i j) (fMul (rK n mu P xi i) (sOut n (P j) xi))) mu) * rv mu - rv (P i j)) ≤ _
    generalize fMul (rK n mu P xi i) (sOut n (P j) xi) = z at q1 q2 ⊢
    unfold near at q2
    have hz : ab (rv z) ≤ 1000006 := by
      have a1 := ab_le.mp q2
      have a2 := ab_le.mp hkg2
      rw [ab_le]
      constructor <;> grind
    have hpz : ab (rv (P i j) - rv z) ≤ ab (rv (P i j)) + 1000006 := by
      have := ab_sub (rv (P i j)) (rv z)
      grind
    obtain ⟨d1, d2⟩ := fSub_val p1 q1 (by grind)
    generalize fSub (P i j) z = d at d1 d2 ⊢
    unfold near at d2
    have hd : ab (rv d) ≤ ab (rv (P i j) - rv z) + (uu * ab (rv (P i j) - rv z) + ty) := by
      have := ab_add (rv d - (rv (P i j) - rv z)) (rv (P i j) - rv z)
      rw [show rv d - (rv (P i j) - rv z) + (rv (P i j) - rv z) = rv d by grind] at this
      grind
    have hmn2 : rv mu ≠ 0 := fun e => by rw [e] at hmu0; exact Rat.lt_irrefl hmu0
    have hm2 := hmu.2
    have hdm : ab (rv d / rv mu) ≤ zp 1000 := by
      refine div_ab hmu0 ?_
      have := Rat.mul_le_mul_of_nonneg_left hm2.1 (Rat.le_of_lt (zp_pos 1000))
      grind
    obtain ⟨e1, e2⟩ := fDiv_val d1 hmu.1 hmn2 (by grind)
    refine ⟨e1, ?_⟩
    have hyd : rv d / rv mu * rv mu = rv d := Rat.div_mul_cancel hmn2
    unfold near at e2
    have e3 := Rat.mul_le_mul_of_nonneg_right e2 (Rat.le_of_lt hmu0)
    have e4 : ab (rv (fDiv d mu) * rv mu - rv d) ≤ uu * ab (rv d) + ty * rv mu := by
      generalize rv d / rv mu = y at hyd e3
      rw [← hyd]
      have a1 : ab (rv (fDiv d mu) * rv mu - y * rv mu) = ab (rv (fDiv d mu) - y) * rv mu := by
        rw [show rv (fDiv d mu) * rv mu - y * rv mu = (rv (fDiv d mu) - y) * rv mu by grind, ab_mul, ab_of_nonneg (Rat.le_of_lt hmu0)]
      have a2 : ab (y * rv mu) = ab y * rv mu := by rw [ab_mul, ab_of_nonneg (Rat.le_of_lt hmu0)]
      rw [a1, a2]
      grind
    have e5 : ty * rv mu ≤ 1 := by
      have := Rat.mul_le_mul_of_nonneg_left hm2.2 (Rat.le_of_lt t1)
      grind
    have e6 := ab_add (rv (fDiv d mu) * rv mu - rv d) (rv d - rv (P i j))
    have e7 := ab_add (rv d - (rv (P i j) - rv z)) (-rv z)
    rw [ab_neg] at e7
    rw [show rv (fDiv d mu) * rv mu - rv d + (rv d - rv (P i j)) = rv (fDiv d mu) * rv mu - rv (P i j) by grind] at e6
    rw [show rv d - (rv (P i j) - rv z) + -rv z = rv d - rv (P i j) by grind] at e7
    exact tri_end e4 e5 hd (by grind : ty ≤ 1) hpz d2 hz e6 e7 (ab_nonneg _)
  exact ⟨fun i hi => by have := g3 i hi; grind, hmain, fun i hi => bad_no (hmain i i hi hi).1 (hb i hi)⟩
end
section
/-! ===== a huge row of the square, and the windows that it learned ===== -/
def rw4 (n : Nat) (P : Nat → Nat → Dt) (i j : Nat) : Rat := if j < n then rv (P i j) else 0
def dot (v : Nat → Rat) (w : Nat → Int32) : Rat := v 0 * xr w 0 + v 1 * xr w 1 + v 2 * xr w 2 + v 3 * xr w 3
theorem dot_rsum {n : Nat} (hn : n ≤ 4) (P : Nat → Nat → Dt) (i : Nat) (w : Nat → Int32) : rsum (fun j => rv (P i j) * xr w j) n = dot (rw4 n P i) w := by
  have h : n = 0 ∨ n = 1 ∨ n = 2 ∨ n = 3 ∨ n = 4 := by omega
  unfold dot rw4
  rcases h with h | h | h | h | h <;> subst h <;> simp [rsum] <;> grind
/-- R is the greatest size in v -/
def top (v : Nat → Rat) (R : Rat) : Prop := (∀ j, j < 4 → ab (v j) ≤ R) ∧ ∃ j, j < 4 ∧ ab (v j) = R
theorem top_ex (v : Nat → Rat) : ∃ R, top v R := by
  have key : ∀ n : Nat, ∃ R, (∀ j, j < n + 1 → ab (v j) ≤ R) ∧ ∃ j, j < n + 1 ∧ ab (v j) = R := by
    intro n
    induction n with
    | zero => exact ⟨ab (v 0), fun j hj => by rw [show j = 0 by omega]; exact Rat.le_refl, 0, by omega, rfl⟩
    | succ n ih =>
      obtain ⟨R, h1, j, h2, h3⟩ := ih
      by_cases h : ab (v (n + 1)) ≤ R
      · refine ⟨R, fun k hk => ?_, j, by omega, h3⟩
        by_cases e : k = n + 1
        · rw [e]; exact h
        · exact h1 k (by omega)
      · have h' := Rat.not_le.mp h
        refine ⟨ab (v (n + 1)), fun k hk => ?_, n + 1, by omega, rfl⟩
        by_cases e : k = n + 1
        · rw [e]; exact Rat.le_refl
        · have := h1 k (by omega)
          grind
  exact key 3
/-- one step that isn't reset, of a row -/
def stepR (v u : Nat → Rat) (s : Rat) : Prop := 1125899906842623 / 2251799813685248 ≤ s ∧ s ≤ 1001 / 1000 ∧ ∀ j, j < 4 → ab (u j * s - v j) ≤ 2097152 + ab (v j) / 2251799813685248
theorem step_top {v u : Nat → Rat} {s R S : Rat} (h : stepR v u s) (hR : top v R) (hS : top u S) (hR0 : 1180591620717411303424 ≤ R) : R * (281474976710655 / 281474976710656) ≤ S * s := by
  obtain ⟨h1, h2, h3⟩ := h
  obtain ⟨r1, j, hj, r2⟩ := hR
  have a1 := h3 j hj
  have a2 := hS.1 j hj
  have a3 := ab_add (u j * s - v j) (-(u j * s))
  rw [show u j * s - v j + -(u j * s) = -v j by grind, ab_neg, ab_neg, ab_mul, ab_of_nonneg (show 0 ≤ s by grind)] at a3
  have a4 := Rat.mul_le_mul_of_nonneg_right a2 (show 0 ≤ s by grind)
  grind
theorem step_up {v u : Nat → Rat} {s R : Rat} (h : stepR v u s) (hR : ∀ j, j < 4 → ab (v j) ≤ R) (hR0 : 1180591620717411303424 ≤ R) : ∀ j, j < 4 → ab (u j) ≤ R * (1001 / 500) := by
  obtain ⟨h1, h2, h3⟩ := h
  intro j hj
  have a1 := h3 j hj
  have a2 := hR j hj
  have a3 := ab_add (u j * s - v j) (v j)
  rw [show u j * s - v j + v j = u j * s by grind, ab_mul, ab_of_nonneg (show 0 ≤ s by grind)] at a3
  have a4 := Rat.mul_le_mul_of_nonneg_left h1 (ab_nonneg (u j))
  grind
theorem dot_ab {e : Nat → Rat} {w : Nat → Int32} {B : Rat} (hw : ∀ j, j < 4 → ab (xr w j) ≤ 1000) (he : ∀ j, j < 4 → ab (e j) ≤ B) : ab (dot e w) ≤ 4000 * B := by
  have m : ∀ j, j < 4 → ab (e j * xr w j) ≤ B * 1000 := fun j hj => mul_ab (he j hj) (hw j hj)
  have m0 := m 0 (by omega)
  have m1 := m 1 (by omega)
  have m2 := m 2 (by omega)
  have m3 := m 3 (by omega)
  unfold dot
  have a1 := ab_add (e 0 * xr w 0 + e 1 * xr w 1 + e 2 * xr w 2) (e 3 * xr w 3)
  have a2 := ab_add (e 0 * xr w 0 + e 1 * xr w 1) (e 2 * xr w 2)
  have a3 := ab_add (e 0 * xr w 0) (e 1 * xr w 1)
  grind
theorem dot_step {v u : Nat → Rat} {s R : Rat} {w : Nat → Int32} (h : stepR v u s) (hR : ∀ j, j < 4 → ab (v j) ≤ R) (hw : ∀ j, j < 4 → ab (xr w j) ≤ 1000) : ab (dot u w) * s ≤ ab (dot v w) + 4000 * (2097152 + R / 2251799813685248) := by
  obtain ⟨h1, h2, h3⟩ := h
  have a1 := dot_ab (e := fun j => u j * s - v j) (B := 2097152 + R / 2251799813685248) hw (fun j hj => by have := h3 j hj; have := hR j hj; grind)
  have a2 : dot u w * s = dot (fun j => u j * s - v j) w + dot v w := by unfold dot; grind
  have a3 := ab_add (dot (fun j => u j * s - v j) w) (dot v w)
  rw [← a2, ab_mul, ab_of_nonneg (show 0 ≤ s by grind)] at a3
  grind
/-- how far a window that was learned is off the row behind one more step -/
theorem res_step {v u : Nat → Rat} {s R S C : Rat} {w : Nat → Int32} (h : stepR v u s) (hR : top v R) (hS : top u S) (hR0 : 1180591620717411303424 ≤ R) (hw : ∀ j, j < 4 → ab (xr w j) ≤ 1000) (hC0 : 0 ≤ C) (hC : C ≤ 4000) (hd : ab (dot v w) ≤ C * R / 68719476736) : ab (dot u w) ≤ (C + 1) * S / 68719476736 := by
  have b1 := step_top h hR hS hR0
  have b2 := dot_step h hR.1 hw
  have hs : 0 < s := by have := h.1; grind
  have b3 := Rat.mul_le_mul_of_nonneg_left b1 (show 0 ≤ C + 1 by grind)
  have b4 := Rat.mul_le_mul_of_nonneg_right hC (show 0 ≤ R by grind)
  refine Rat.le_of_mul_le_mul_right (c := s) ?_ hs
  have e1 : (C + 1) * S / 68719476736 * s = (C + 1) * (S * s) / 68719476736 := by grind
  rw [e1]
  grind
theorem res_new {v u : Nat → Rat} {s R S : Rat} {w : Nat → Int32} (h : stepR v u s) (hR : top v R) (hS : top u S) (hR0 : 1180591620717411303424 ≤ R) (hw : ∀ j, j < 4 → ab (xr w j) ≤ 1000) (hd : ab (dot v w) ≤ 4294967296 + R / 68719476736) : ab (dot u w) ≤ 2 * S / 68719476736 := by
  have b1 := step_top h hR hS hR0
  have b2 := dot_step h hR.1 hw
  have hs : 0 < s := by have := h.1; grind
  refine Rat.le_of_mul_le_mul_right (c := s) ?_ hs
  grind
end
section
/-! ===== three windows that a huge row learned are in one plane ===== -/
def det3 (a0 a1 a2 b0 b1 b2 c0 c1 c2 : Int) : Int := a0 * (b1 * c2 - b2 * c1) - a1 * (b0 * c2 - b2 * c0) + a2 * (b0 * c1 - b1 * c0)
abbrev wi (w : Nat → Int32) (k : Nat) : Int := (w k).toInt
def offI (i : Nat) : Nat × Nat × Nat := if i = 0 then (1, 2, 3) else if i = 1 then (0, 2, 3) else if i = 2 then (0, 1, 3) else (0, 1, 2)
def detI (i : Nat) (a b c : Nat → Int32) : Int := det3 (wi a (offI i).1) (wi a (offI i).2.1) (wi a (offI i).2.2) (wi b (offI i).1) (wi b (offI i).2.1) (wi b (offI i).2.2) (wi c (offI i).1) (wi c (offI i).2.1) (wi c (offI i).2.2)
theorem minor_ab {a b c d : Rat} (ha : ab a ≤ 1000) (hb : ab b ≤ 1000) (hc : ab c ≤ 1000) (hd : ab d ≤ 1000) : ab (a * b - c * d) ≤ 2000000 := by
  have h1 := mul_ab ha hb
  have h2 := mul_ab hc hd
  have h3 := ab_sub (a * b) (c * d)
  grind
theorem int_ab {z : Int} (h : z ≠ 0) : 1 ≤ ab (z : Rat) := by
  rcases (show z ≤ -1 ∨ 1 ≤ z by omega) with h1 | h1
  · have h2 : (z : Rat) ≤ ((-1 : Int) : Rat) := Rat.intCast_le_intCast.mpr h1
    have h3 : ((-1 : Int) : Rat) = -1 := rfl
    have := neg_le_ab (z : Rat)
    grind
  · have h2 : ((1 : Int) : Rat) ≤ (z : Rat) := Rat.intCast_le_intCast.mpr h1
    have h3 : ((1 : Int) : Rat) = 1 := rfl
    have := le_ab (z : Rat)
    grind
theorem cramer {a0 a1 a2 b0 b1 b2 c0 c1 c2 : Int} {v0 v1 v2 E : Rat} (hD : det3 a0 a1 a2 b0 b1 b2 c0 c1 c2 ≠ 0)
    (ha1 : ab (a1 : Rat) ≤ 1000) (ha2 : ab (a2 : Rat) ≤ 1000) (hb1 : ab (b1 : Rat) ≤ 1000) (hb2 : ab (b2 : Rat) ≤ 1000) (hc1 : ab (c1 : Rat) ≤ 1000) (hc2 : ab (c2 : Rat) ≤ 1000)
    (ea : ab (v0 * a0 + v1 * a1 + v2 * a2) ≤ E) (eb : ab (v0 * b0 + v1 * b1 + v2 * b2) ≤ E) (ec : ab (v0 * c0 + v1 * c1 + v2 * c2) ≤ E) : ab v0 ≤ 6000000 * E := by
  have hk := int_ab hD
  have e : ((det3 a0 a1 a2 b0 b1 b2 c0 c1 c2 : Int) : Rat) * v0 = (v0 * a0 + v1 * a1 + v2 * a2) * ((b1 : Rat) * c2 - b2 * c1) - (v0 * b0 + v1 * b1 + v2 * b2) * ((a1 : Rat) * c2 - a2 * c1) + (v0 * c0 + v1 * c1 + v2 * c2) * ((a1 : Rat) * b2 - a2 * b1) := by
    unfold det3
    simp only [Rat.intCast_add, Rat.intCast_sub, Rat.intCast_mul]
    grind
  have m1 := mul_ab ea (minor_ab hb1 hc2 hb2 hc1)
  have m2 := mul_ab eb (minor_ab ha1 hc2 ha2 hc1)
  have m3 := mul_ab ec (minor_ab ha1 hb2 ha2 hb1)
  have h1 := ab_add ((v0 * a0 + v1 * a1 + v2 * a2) * ((b1 : Rat) * c2 - b2 * c1) - (v0 * b0 + v1 * b1 + v2 * b2) * ((a1 : Rat) * c2 - a2 * c1)) ((v0 * c0 + v1 * c1 + v2 * c2) * ((a1 : Rat) * b2 - a2 * b1))
  have h2 := ab_sub ((v0 * a0 + v1 * a1 + v2 * a2) * ((b1 : Rat) * c2 - b2 * c1)) ((v0 * b0 + v1 * b1 + v2 * b2) * ((a1 : Rat) * c2 - a2 * c1))
  rw [← e, ab_mul] at h1
  have h3 := Rat.mul_le_mul_of_nonneg_right hk (ab_nonneg v0)
  grind
theorem cramer3 {a0 a1 a2 b0 b1 b2 c0 c1 c2 : Int} {v0 v1 v2 E : Rat} (hD : det3 a0 a1 a2 b0 b1 b2 c0 c1 c2 ≠ 0)
    (ha0 : ab (a0 : Rat) ≤ 1000) (ha1 : ab (a1 : Rat) ≤ 1000) (ha2 : ab (a2 : Rat) ≤ 1000) (hb0 : ab (b0 : Rat) ≤ 1000) (hb1 : ab (b1 : Rat) ≤ 1000) (hb2 : ab (b2 : Rat) ≤ 1000) (hc0 : ab (c0 : Rat) ≤ 1000) (hc1 : ab (c1 : Rat) ≤ 1000) (hc2 : ab (c2 : Rat) ≤ 1000)
    (ea : ab (v0 * a0 + v1 * a1 + v2 * a2) ≤ E) (eb : ab (v0 * b0 + v1 * b1 + v2 * b2) ≤ E) (ec : ab (v0 * c0 + v1 * c1 + v2 * c2) ≤ E) : ab v0 ≤ 6000000 * E ∧ ab v1 ≤ 6000000 * E ∧ ab v2 ≤ 6000000 * E := by
  refine ⟨cramer hD ha1 ha2 hb1 hb2 hc1 hc2 ea eb ec, ?_, ?_⟩
  · refine cramer (a0 := a1) (a1 := a0) (a2 := a2) (b0 := b1) (b1 := b0) (b2 := b2) (c0 := c1) (c1 := c0) (c2 := c2) (v1 := v0) (v2 := v2) ?_ ha0 ha2 hb0 hb2 hc0 hc2 ?_ ?_ ?_
    · intro h; apply hD; unfold det3 at h ⊢; grind
    · rw [show v1 * (a1 : Rat) + v0 * a0 + v2 * a2 = v0 * a0 + v1 * a1 + v2 * a2 by grind]; exact ea
    · rw [show v1 * (b1 : Rat) + v0 * b0 + v2 * b2 = v0 * b0 + v1 * b1 + v2 * b2 by grind]; exact eb
    · rw [show v1 * (c1 : Rat) + v0 * c0 + v2 * c2 = v0 * c0 + v1 * c1 + v2 * c2 by grind]; exact ec
  · refine cramer (a0 := a2) (a1 := a1) (a2 := a0) (b0 := b2) (b1 := b1) (b2 := b0) (c0 := c2) (c1 := c1) (c2 := c0) (v1 := v1) (v2 := v0) ?_ ha1 ha0 hb1 hb0 hc1 hc0 ?_ ?_ ?_
    · intro h; apply hD; unfold det3 at h ⊢; grind
    · rw [show v2 * (a2 : Rat) + v1 * a1 + v0 * a0 = v0 * a0 + v1 * a1 + v2 * a2 by grind]; exact ea
    · rw [show v2 * (b2 : Rat) + v1 * b1 + v0 * b0 = v0 * b0 + v1 * b1 + v2 * b2 by grind]; exact eb
    · rw [show v2 * (c2 : Rat) + v1 * c1 + v0 * c0 = v0 * c0 + v1 * c1 + v2 * c2 by grind]; exact ec
theorem offI_lt (i : Nat) (hi : i < 4) : (offI i).1 < 4 ∧ (offI i).2.1 < 4 ∧ (offI i).2.2 < 4 := by
  rcases (show i = 0 ∨ i = 1 ∨ i = 2 ∨ i = 3 by omega) with h | h | h | h <;> subst h <;> decide
theorem offI_all {i : Nat} (hi : i < 4) {j : Nat} (hj : j < 4) (hne : j ≠ i) : j = (offI i).1 ∨ j = (offI i).2.1 ∨ j = (offI i).2.2 := by
  rcases (show i = 0 ∨ i = 1 ∨ i = 2 ∨ i = 3 by omega) with h | h | h | h <;> subst h <;> rcases (show j = 0 ∨ j = 1 ∨ j = 2 ∨ j = 3 by omega) with h | h | h | h <;> subst h <;> first | (exact absurd rfl hne) | decide
theorem dot_off {i : Nat} (hi : i < 4) (v : Nat → Rat) (w : Nat → Int32) : dot v w = v (offI i).1 * (wi w (offI i).1 : Rat) + v (offI i).2.1 * (wi w (offI i).2.1 : Rat) + v (offI i).2.2 * (wi w (offI i).2.2 : Rat) + v i * xr w i := by
  unfold dot
  rcases (show i = 0 ∨ i = 1 ∨ i = 2 ∨ i = 3 by omega) with h | h | h | h <;> subst h <;> simp [offI] <;> grind
theorem three {i : Nat} (hi : i < 4) {v : Nat → Rat} {R : Rat} (hR : top v R) (hR0 : 1180591620717411303424 ≤ R) (hvi : ab (v i) ≤ 1000000) {a b c : Nat → Int32}
    (wa : ∀ j, j < 4 → ab (xr a j) ≤ 1000) (wb : ∀ j, j < 4 → ab (xr b j) ≤ 1000) (wc : ∀ j, j < 4 → ab (xr c j) ≤ 1000)
    (da : ab (dot v a) ≤ 2002 * R / 68719476736) (db : ab (dot v b) ≤ 2002 * R / 68719476736) (dc : ab (dot v c) ≤ 2002 * R / 68719476736) : detI i a b c = 0 := by
  refine Classical.byContradiction fun hD => ?_
  obtain ⟨o1, o2, o3⟩ := offI_lt i hi
  have part : ∀ w : Nat → Int32, (∀ j, j < 4 → ab (xr w j) ≤ 1000) → ab (dot v w) ≤ 2002 * R / 68719476736 → ab (v (offI i).1 * (wi w (offI i).1 : Rat) + v (offI i).2.1 * (wi w (offI i).2.1 : Rat) + v (offI i).2.2 * (wi w (offI i).2.2 : Rat)) ≤ 2002 * R / 68719476736 + 1000000000 := by
    intro w hw hd
    rw [dot_off hi] at hd
    have h1 := mul_ab hvi (hw i hi)
    generalize v (offI i).1 * (wi w (offI i).1 : Rat) + v (offI i).2.1 * (wi w (offI i).2.1 : Rat) + v (offI i).2.2 * (wi w (offI i).2.2 : Rat) = y at hd ⊢
    have h2 := ab_sub (y + v i * xr w i) (v i * xr w i)
    rw [show y + v i * xr w i - v i * xr w i = y by grind] at h2
    grind
  have hc := cramer3 (v0 := v (offI i).1) (v1 := v (offI i).2.1) (v2 := v (offI i).2.2) hD (wa _ o1) (wa _ o2) (wa _ o3) (wb _ o1) (wb _ o2) (wb _ o3) (wc _ o1) (wc _ o2) (wc _ o3) (part a wa da) (part b wb db) (part c wc dc)
  obtain ⟨h1, j, hj, h2⟩ := hR
  by_cases hne : j = i
  · rw [hne] at h2
    grind
  · rcases offI_all hi hj hne with e | e | e
    · rw [e] at h2; grind
    · rw [e] at h2; grind
    · rw [e] at h2; grind
end
section
/-! ===== the square stays below 2^980, where no plane holds more than 906 of the windows ===== -/
abbrev H100 : UInt64 := 4636737291354636288
def rRes (n : Nat) (mu : Dt) (P : Nat → Nat → Dt) (xi : Nat → Int32) : Bool := decide (rLow n mu P xi) || rOv (fun i => rQ n mu P xi i i) n
/-- P behind a sample -/
def rP (n : Nat) (mu : Dt) (P : Nat → Nat → Dt) (xi : Nat → Int32) (i j : Nat) : Dt := if rRes n mu P xi = true then (if i = j then dV H100 else dV 0) else rQ n mu P xi i j
/-- a weight behind a sample -/
def fHold (x b nb : Dt) : Dt := if fO x b = some .gt then b else if fO x nb = some .lt then nb else x
abbrev fresh (n : Nat) (P : Nat → Nat → Dt) : Prop := ∀ a c, a < n → c < n → P a c = if a = c then dV H100 else dV 0
/-- the squares that an RLS of n taps may have behind these samples, the latest first -/
def Reach (n : Nat) : List (Nat → Int32) → (Nat → Nat → Dt) → Prop
  | [], P => fresh n P
  | w :: ws, P => fresh n P ∨ Reach n ws P ∨ ∃ mu Q, okMu mu ∧ Reach n ws Q ∧ ∀ a c, a < n → c < n → P a c = rP n mu Q w a c
abbrev okW (w : Nat → Int32) : Prop := ∀ j, j < 4 → ab (xr w j) ≤ 1000
/-- no plane beside a place holds more than 906 of the windows -/
def HB (ws : List (Nat → Int32)) : Prop := ∀ i, i < 4 → ∀ Ls : List (Nat → Int32), Ls.Sublist ws → (∀ a b c, a ∈ Ls → b ∈ Ls → c ∈ Ls → detI i a b c = 0) → Ls.length ≤ 906
theorem HB.tail {w : Nat → Int32} {ws : List (Nat → Int32)} (h : HB (w :: ws)) : HB ws := fun i hi Ls hs hd => h i hi Ls (List.Sublist.cons w hs) hd
def Str (n i : Nat) (ws : List (Nat → Int32)) (P : Nat → Nat → Dt) : Prop :=
  (∀ j, j < 4 → ab (rw4 n P i j) ≤ 1180591620717411303424) ∨ ∃ (R : Rat) (Ls : List (Nat → Int32)), Ls.length ≤ 906 ∧ top (rw4 n P i) R ∧ 1180591620717411303424 ≤ R ∧ Ls.Sublist ws ∧ R ≤ 4722366482869645213696 * (1001 / 500) ^ Ls.length ∧ ∀ w, w ∈ Ls → ab (dot (rw4 n P i) w) ≤ ((Ls.length : Rat) + 1) * R / 68719476736
theorem Str.cons {n i : Nat} {ws : List (Nat → Int32)} {P : Nat → Nat → Dt} (h : Str n i ws P) (w : Nat → Int32) : Str n i (w :: ws) P := by
  rcases h with h | ⟨R, Ls, h0, h1, h2, h3, h4⟩
  · exact Or.inl h
  · exact Or.inr ⟨R, Ls, h0, h1, h2, List.Sublist.cons w h3, h4⟩
theorem rw4_congr {n i : Nat} {P Q : Nat → Nat → Dt} (hi : i < n) (h : ∀ a c, a < n → c < n → P a c = Q a c) : rw4 n P i = rw4 n Q i := by
  funext j
  unfold rw4
  by_cases e : j < n
  · rw [if_pos e, if_pos e, h i j hi e]
  · rw [if_neg e, if_neg e]
theorem fresh_ab {n : Nat} {P : Nat → Nat → Dt} (h : fresh n P) {a c : Nat} (ha : a < n) (hc : c < n) : fn (P a c) ∧ ab (rv (P a c)) ≤ 100 ∧ (a = c → rv (P a c) = 100) := by
  rw [h a c ha hc]
  by_cases e : a = c
  · rw [if_pos e, c_100.2]
    exact ⟨c_100.1, by decide +kernel, fun _ => rfl⟩
  · rw [if_neg e, c_zero.2]
    exact ⟨c_zero.1, by decide +kernel, fun z => absurd z e⟩
theorem fresh_ok {n : Nat} {P : Nat → Nat → Dt} (h : fresh n P) (ws : List (Nat → Int32)) : okP n (zp 980) P ∧ ∀ i, i < n → Str n i ws P := by
  have z := zp_980b
  refine ⟨⟨fun a c ha hc => ⟨(fresh_ab h ha hc).1, by have := (fresh_ab h ha hc).2.1; grind⟩, fun i hi => ?_⟩, fun i hi => Or.inl fun j hj => ?_⟩
  · have := (fresh_ab h hi hi).2.2 rfl
    grind
  · unfold rw4
    split
    · rename_i hj2
      have := (fresh_ab h hi hj2).2.1
      grind
    · rw [ab_zero]; decide +kernel
theorem grow_mono {a b : Nat} (h : a ≤ b) : ((1001 / 500 : Rat)) ^ a ≤ (1001 / 500) ^ b := by
  induction b with
  | zero => rw [show a = 0 by omega]; exact Rat.le_refl
  | succ b ih =>
    by_cases e : a = b + 1
    · rw [e]; exact Rat.le_refl
    · have h1 := ih (by omega)
      have h2 : (0 : Rat) < (1001 / 500) ^ b := Rat.pow_pos (by decide +kernel)
      rw [Rat.pow_succ]
      grind
theorem grow_906 : (4722366482869645213696 : Rat) * (1001 / 500) ^ 906 ≤ zp 980 := by decide +kernel
theorem rw4_ab {n i : Nat} {P : Nat → Nat → Dt} {M : Rat} (hi : i < n) (hM : 0 ≤ M) (h : ∀ a c, a < n → c < n → fn (P a c) ∧ ab (rv (P a c)) ≤ M) : ∀ j, j < 4 → ab (rw4 n P i j) ≤ M := by
  intro j _
  unfold rw4
  split
  · rename_i hj
    exact (h i j hi hj).2
  · rw [ab_zero]; exact hM
/-- with at most 906 windows, every row is below 2^980 -/
theorem str_top {n i : Nat} {ws : List (Nat → Int32)} {P : Nat → Nat → Dt} (h : Str n i ws P) : ∀ j, j < 4 → ab (rw4 n P i j) ≤ zp 980 := by
  have z := grow_906
  rcases h with h | ⟨R, Ls, h0, h1, h2, h3, h4, h5⟩
  · intro j hj
    have b : (1180591620717411303424 : Rat) ≤ zp 980 := by decide +kernel
    exact Rat.le_trans (h j hj) b
  · intro j hj
    have b := Rat.mul_le_mul_of_nonneg_left (c := 4722366482869645213696) (grow_mono h0) (by decide +kernel)
    exact Rat.le_trans (h1.1 j hj) (Rat.le_trans h4 (Rat.le_trans b z))
theorem det_triples {i : Nat} (hi : i < 4) {v : Nat → Rat} {R : Rat} (hR : top v R) (hR0 : 1180591620717411303424 ≤ R) (hvi : ab (v i) ≤ 1000000) {Ls : List (Nat → Int32)} {C : Rat} (hC : C ≤ 2002) (hw : ∀ w, w ∈ Ls → okW w) (hd : ∀ w, w ∈ Ls → ab (dot v w) ≤ C * R / 68719476736) : ∀ a b c, a ∈ Ls → b ∈ Ls → c ∈ Ls → detI i a b c = 0 := by
  have hC2 := Rat.mul_le_mul_of_nonneg_right hC (show 0 ≤ R by grind)
  have up : ∀ w, w ∈ Ls → ab (dot v w) ≤ 2002 * R / 68719476736 := fun w h => by have := hd w h; grind
  intro a b c ha hb hc
  exact three hi hR hR0 hvi (hw a ha) (hw b hb) (hw c hc) (up a ha) (up b hb) (up c hc)
/-- a step that isn't reset, of a row -/
theorem str_step {n i : Nat} (hi4 : i < 4) {w : Nat → Int32} {ws : List (Nat → Int32)} {P Q : Nat → Nat → Dt} {s : Rat} (hw : ∀ x, x ∈ w :: ws → okW x) (hB : HB (w :: ws)) (hst : stepR (rw4 n Q i) (rw4 n P i) s) (hd : ab (rw4 n P i i) ≤ 1000000)
    (hg : ∀ R, top (rw4 n Q i) R → 1180591620717411303424 ≤ R → ab (dot (rw4 n Q i) w) ≤ 4294967296 + R / 68719476736) (h : Str n i ws Q) : Str n i (w :: ws) P := by
  obtain ⟨S, hS⟩ := top_ex (rw4 n P i)
  by_cases hS0 : S ≤ 1180591620717411303424
  · exact Or.inl fun j hj => Rat.le_trans (hS.1 j hj) hS0
  · have hS1 : 1180591620717411303424 ≤ S := Rat.le_of_lt (Rat.not_le.mp hS0)
    rcases h with h | ⟨R, Ls, h0, h1, h2, h3, h4, h5⟩
    · refine Or.inr ⟨S, [], by decide, hS, hS1, List.nil_sublist _, ?_, fun x hx => absurd hx (List.not_mem_nil)⟩
      obtain ⟨-, j, hj, e⟩ := hS
      have a := step_up hst h Rat.le_refl j hj
      rw [e] at a
      show S ≤ 4722366482869645213696 * (1001 / 500) ^ 0
      rw [Rat.pow_zero]
      grind
    · have hC0 : (0 : Rat) ≤ (Ls.length : Rat) := Rat.natCast_nonneg
      have hC9 : (Ls.length : Rat) ≤ 906 := by
        have := Rat.natCast_le_natCast.mpr h0
        exact this
      have hres : ∀ x, x ∈ w :: Ls → ab (dot (rw4 n P i) x) ≤ ((Ls.length : Rat) + 1 + 1) * S / 68719476736 := by
        intro x hx
        rcases List.mem_cons.mp hx with e | e
        · subst e
          have a := res_new hst h1 hS h2 (hw _ List.mem_cons_self) (hg R h1 h2)
          have b := Rat.mul_nonneg hC0 (show 0 ≤ S by grind)
          grind
        · exact res_step hst h1 hS h2 (hw x (List.mem_cons_of_mem _ (h3.subset e))) (by grind) (by grind) (h5 x e)
      have hsub : (w :: Ls).Sublist (w :: ws) := List.Sublist.cons_cons w h3
      have hdet := det_triples (Ls := w :: Ls) (C := (Ls.length : Rat) + 1 + 1) hi4 hS hS1 hd (by grind) (fun x hx => hw x (hsub.subset hx)) hres
      have hlen := hB i hi4 (w :: Ls) hsub hdet
      refine Or.inr ⟨S, w :: Ls, hlen, hS, hS1, hsub, ?_, ?_⟩
      · obtain ⟨-, j, hj, e⟩ := hS
        have a := step_up hst h1.1 h2 j hj
        rw [e] at a
        show S ≤ 4722366482869645213696 * (1001 / 500) ^ (Ls.length + 1)
        rw [Rat.pow_succ]
        grind
      · intro x hx
        have e : (((w :: Ls).length : Nat) : Rat) = (Ls.length : Rat) + 1 := Rat.natCast_add Ls.length 1
        rw [e]
        exact hres x hx
end
section
theorem rw4_at {n i j : Nat} {P : Nat → Nat → Dt} (h : j < n) : rw4 n P i j = rv (P i j) := if_pos h
theorem live_step {n i : Nat} (hn : n ≤ 4) (hi : i < n) {mu : Dt} {P Q : Nat → Nat → Dt} (hmu : okMu mu)
    (hm : ∀ a c, a < n → c < n → fn (P a c) ∧ ab (rv (P a c) * rv mu - rv (Q a c)) ≤ 2097152 + ab (rv (Q a c)) / 2251799813685248) : stepR (rw4 n Q i) (rw4 n P i) (rv mu) := by
  refine ⟨hmu.2.1, hmu.2.2, fun j _ => ?_⟩
  unfold rw4
  by_cases e : j < n
  · rw [if_pos e, if_pos e]
    exact (hm i j hi e).2
  · rw [if_neg e, if_neg e, Rat.zero_mul, show (0 : Rat) - 0 = 0 by decide +kernel, ab_zero]
    decide +kernel
theorem live_g {n i : Nat} (hn : n ≤ 4) (hi : i < n) {Q : Nat → Nat → Dt} {w : Nat → Int32} (hQ : ∀ a c, a < n → c < n → fn (Q a c)) (hx : okX n w) (hg : ab (rv (sOut n (Q i) w)) ≤ 4294967296) (ht : ∀ j, j < 4 → ab (rw4 n Q i j) ≤ zp 980) : ∀ R, top (rw4 n Q i) R → 1180591620717411303424 ≤ R → ab (dot (rw4 n Q i) w) ≤ 4294967296 + R / 68719476736 := by
  intro R hR hR0
  have hR2 : R ≤ zp 1000 := by
    obtain ⟨-, j, hj, e⟩ := hR
    have a := ht j hj
    rw [e] at a
    have b : zp 980 ≤ zp 1000 := by decide +kernel
    exact Rat.le_trans a b
  obtain ⟨-, h2⟩ := g_val (w := Q i) (xi := w) (R := R) hn hx (by grind) hR2 (fun j hj => ⟨hQ i j hi hj, by have := hR.1 j (by omega); rw [rw4_at hj] at this; exact this⟩)
  rw [dot_rsum hn] at h2
  have h3 := ab_sub (rv (sOut n (Q i) w)) (rv (sOut n (Q i) w) - dot (rw4 n Q i) w)
  rw [show rv (sOut n (Q i) w) - (rv (sOut n (Q i) w) - dot (rw4 n Q i) w) = dot (rw4 n Q i) w by grind] at h3
  grind
theorem reach_ok {n : Nat} (hn : n ≤ 4) : ∀ (ws : List (Nat → Int32)) (P : Nat → Nat → Dt), (∀ w, w ∈ ws → okW w) → HB ws → Reach n ws P → okP n (zp 980) P ∧ ∀ i, i < n → Str n i ws P := by
  intro ws
  induction ws with
  | nil => intro P _ _ h; exact fresh_ok h []
  | cons w ws ih =>
    intro P hw hB h
    have hw' : ∀ x, x ∈ ws → okW x := fun x hx => hw x (List.mem_cons_of_mem _ hx)
    rcases h with h | h | ⟨mu, Q, hmu, hQ, e⟩
    · exact fresh_ok h _
    · obtain ⟨h1, h2⟩ := ih P hw' hB.tail h
      exact ⟨h1, fun i hi => (h2 i hi).cons w⟩
    · obtain ⟨h1, h2⟩ := ih Q hw' hB.tail hQ
      by_cases hr : rRes n mu Q w = true
      · refine fresh_ok (fun a c ha hc => ?_) _
        rw [e a c ha hc]
        exact if_pos hr
      · have e' : ∀ a c, a < n → c < n → P a c = rQ n mu Q w a c := fun a c ha hc => (e a c ha hc).trans (if_neg hr)
        unfold rRes at hr
        rw [Bool.or_eq_true, decide_eq_true_eq] at hr
        have hlow : ¬ rLow n mu Q w := fun z => hr (Or.inl z)
        have hov : ¬ rOv (fun i => rQ n mu Q w i i) n = true := fun z => hr (Or.inr z)
        have hx : okX n w := fun k hk => hw w List.mem_cons_self k (by omega)
        have z := zp_980b
        obtain ⟨l1, l2, l3⟩ := rls_live hn h1 (by grind) Rat.le_refl hx hmu hlow hov
        have hm : ∀ a c, a < n → c < n → fn (P a c) ∧ ab (rv (P a c) * rv mu - rv (Q a c)) ≤ 2097152 + ab (rv (Q a c)) / 2251799813685248 := fun a c ha hc => by rw [e' a c ha hc]; exact l2 a c ha hc
        have hdg : ∀ i, i < n → 0 ≤ rv (P i i) ∧ rv (P i i) ≤ 1000000 := fun i hi => by rw [e' i i hi hi]; exact l3 i hi
        have hS : ∀ i, i < n → Str n i (w :: ws) P := by
          intro i hi
          refine str_step (by omega) hw hB (live_step hn hi hmu hm) ?_ (live_g hn hi (fun a c ha hc => (h1.1 a c ha hc).1) hx (l1 i hi) (str_top (h2 i hi))) (h2 i hi)
          rw [rw4_at hi, ab_of_nonneg (hdg i hi).1]
          exact (hdg i hi).2
        refine ⟨⟨fun a c ha hc => ⟨(hm a c ha hc).1, ?_⟩, hdg⟩, hS⟩
        have := str_top (hS a ha) c (by omega)
        rw [rw4_at hc] at this
        exact this
end
section
/-! ===== counting many windows in one number ===== -/
abbrev T3 : Type := Nat × Nat × Nat
/-- slots of 48 digits -/
def pkf (f : T3 → Nat) : List T3 → Nat
  | [] => 0
  | a :: l => f a + 281474976710656 * pkf f l
theorem pkf_add (f g : T3 → Nat) (l : List T3) : pkf f l + pkf g l = pkf (fun a => f a + g a) l := by
  induction l with
  | nil => rfl
  | cons a l ih =>
    show f a + 281474976710656 * pkf f l + (g a + 281474976710656 * pkf g l) = f a + g a + 281474976710656 * pkf (fun a => f a + g a) l
    rw [← ih]
    omega
theorem pkf_mul (c : Nat) (f : T3 → Nat) (l : List T3) : c * pkf f l = pkf (fun a => c * f a) l := by
  induction l with
  | nil => rfl
  | cons a l ih =>
    show c * (f a + 281474976710656 * pkf f l) = c * f a + 281474976710656 * pkf (fun a => c * f a) l
    rw [← ih, Nat.mul_add, Nat.mul_left_comm]
theorem pkf_congr {f g : T3 → Nat} {l : List T3} (h : ∀ a, a ∈ l → f a = g a) : pkf f l = pkf g l := by
  induction l with
  | nil => rfl
  | cons a l ih =>
    show f a + 281474976710656 * pkf f l = g a + 281474976710656 * pkf g l
    rw [h a List.mem_cons_self, ih (fun b hb => h b (List.mem_cons_of_mem _ hb))]
theorem pkf_sub {f g : T3 → Nat} {l : List T3} (h : ∀ a, a ∈ l → g a ≤ f a) : pkf f l - pkf g l = pkf (fun a => f a - g a) l := by
  have e : pkf f l = pkf (fun a => f a - g a) l + pkf g l := by
    rw [pkf_add]
    exact pkf_congr fun a ha => (Nat.sub_add_cancel (h a ha)).symm
  omega
theorem pkf_land {f : T3 → Nat} {l : List T3} (h : ∀ a, a ∈ l → f a < 281474976710656) : pkf f l &&& pkf (fun _ => 17179869184) l = pkf (fun a => f a &&& 17179869184) l := by
  induction l with
  | nil => exact Nat.zero_and 0
  | cons a l ih =>
    have h0 := h a List.mem_cons_self
    have h1 := ih (fun b hb => h b (List.mem_cons_of_mem _ hb))
    show (f a + 281474976710656 * pkf f l) &&& (17179869184 + 281474976710656 * pkf (fun _ => 17179869184) l) = (f a &&& 17179869184) + 281474976710656 * pkf (fun a => f a &&& 17179869184) l
    rw [← h1]
    generalize pkf f l = u
    generalize pkf (fun _ => 17179869184) l = v
    have e1 := Nat.and_mod_two_pow (a := f a + 281474976710656 * u) (b := 17179869184 + 281474976710656 * v) (n := 48)
    have e2 := Nat.and_div_two_pow (a := f a + 281474976710656 * u) (b := 17179869184 + 281474976710656 * v) (n := 48)
    rw [show (2 : Nat) ^ 48 = 281474976710656 from rfl] at e1 e2
    rw [show (f a + 281474976710656 * u) % 281474976710656 = f a by omega, show (17179869184 + 281474976710656 * v) % 281474976710656 = 17179869184 by omega] at e1
    rw [show (f a + 281474976710656 * u) / 281474976710656 = u by omega, show (17179869184 + 281474976710656 * v) / 281474976710656 = v by omega] at e2
    omega
def lsum (f : T3 → Nat) : List T3 → Nat
  | [] => 0
  | a :: l => f a + lsum f l
theorem pkf_mod (f : T3 → Nat) (l : List T3) : pkf f l % 281474976710655 = lsum f l % 281474976710655 := by
  induction l with
  | nil => rfl
  | cons a l ih =>
    show (f a + 281474976710656 * pkf f l) % 281474976710655 = (f a + lsum f l) % 281474976710655
    omega
theorem and_34 {a : Nat} (h : a < 34359738368) : a &&& 17179869184 = if 17179869184 ≤ a then 17179869184 else 0 := by
  have e1 := Nat.and_mod_two_pow (a := a) (b := 17179869184) (n := 34)
  have e2 := Nat.and_div_two_pow (a := a) (b := 17179869184) (n := 34)
  rw [show (2 : Nat) ^ 34 = 17179869184 from rfl] at e1 e2
  rw [show (17179869184 : Nat) % 17179869184 = 0 from rfl, Nat.and_zero] at e1
  rw [show (17179869184 : Nat) / 17179869184 = 1 from rfl] at e2
  by_cases h1 : 17179869184 ≤ a
  · rw [show a / 17179869184 = 1 by omega, show (1 &&& 1 : Nat) = 1 from rfl] at e2
    rw [if_pos h1]
    omega
  · rw [show a / 17179869184 = 0 by omega, Nat.zero_and] at e2
    rw [if_neg h1]
    omega
theorem lsum_count (p : T3 → Bool) (l : List T3) : lsum (fun a => if p a = true then 17179869184 else 0) l = 17179869184 * l.countP p := by
  induction l with
  | nil => rfl
  | cons a l ih =>
    show (if p a = true then 17179869184 else 0) + lsum (fun a => if p a = true then 17179869184 else 0) l = _
    rw [ih, List.countP_cons]
    split <;> omega
theorem countP_split {p q : T3 → Bool} {l : List T3} (h : ∀ a, a ∈ l → q a = true → p a = true) : l.countP p = l.countP q + l.countP (fun a => p a && !q a) := by
  induction l with
  | nil => rfl
  | cons a l ih =>
    have h1 := ih (fun b hb => h b (List.mem_cons_of_mem _ hb))
    have h2 := h a List.mem_cons_self
    rw [List.countP_cons, List.countP_cons, List.countP_cons, h1]
    cases hp : p a <;> cases hq : q a <;> simp [hp, hq] at h2 ⊢ <;> omega
/-- how many slots hold 2^34 exactly -/
theorem pkf_count {f : T3 → Nat} {l : List T3} (hl : l.length < 16384) (h0 : ∀ a, a ∈ l → 1 ≤ f a) (h1 : ∀ a, a ∈ l → f a < 34359738368) {H : Nat}
    (hc : (pkf f l &&& pkf (fun _ => 17179869184) l) % 281474976710655 ≤ ((pkf f l - pkf (fun _ => 1) l) &&& pkf (fun _ => 17179869184) l) % 281474976710655 + 17179869184 * H) :
    l.countP (fun a => f a == 17179869184) ≤ H := by
  rw [pkf_sub h0] at hc
  rw [pkf_land (fun a ha => by have := h1 a ha; omega), pkf_land (fun a ha => by have := h1 a ha; omega)] at hc
  rw [pkf_mod, pkf_mod] at hc
  have e1 : lsum (fun a => f a &&& 17179869184) l = 17179869184 * l.countP (fun a => decide (17179869184 ≤ f a)) := by
    rw [← lsum_count]
    clear hc
    induction l with
    | nil => rfl
    | cons a l ih =>
      show (f a &&& 17179869184) + lsum _ l = (if decide (17179869184 ≤ f a) = true then 17179869184 else 0) + lsum _ l
      rw [and_34 (h1 a List.mem_cons_self), ih (by simp at hl; omega) (fun b hb => h0 b (List.mem_cons_of_mem _ hb)) (fun b hb => h1 b (List.mem_cons_of_mem _ hb))]
      simp
  have e2 : lsum (fun a => (f a - 1) &&& 17179869184) l = 17179869184 * l.countP (fun a => decide (17179869185 ≤ f a)) := by
    rw [← lsum_count]
    clear hc e1
    induction l with
    | nil => rfl
    | cons a l ih =>
      show ((f a - 1) &&& 17179869184) + lsum _ l = (if decide (17179869185 ≤ f a) = true then 17179869184 else 0) + lsum _ l
      have := h1 a List.mem_cons_self
      rw [and_34 (by omega), ih (by simp at hl; omega) (fun b hb => h0 b (List.mem_cons_of_mem _ hb)) (fun b hb => h1 b (List.mem_cons_of_mem _ hb))]
      have : (17179869184 ≤ f a - 1) = (17179869185 ≤ f a) := by
        apply propext; omega
      simp [this]
  rw [e1, e2] at hc
  have l1 := List.countP_le_length (p := fun a => decide (17179869184 ≤ f a)) (l := l)
  have l2 := List.countP_le_length (p := fun a => decide (17179869185 ≤ f a)) (l := l)
  have hs := countP_split (p := fun a => decide (17179869184 ≤ f a)) (q := fun a => decide (17179869185 ≤ f a)) (l := l) (fun a _ h => by simp at h ⊢; omega)
  have e3 : l.countP (fun a => decide (17179869184 ≤ f a) && !decide (17179869185 ≤ f a)) = l.countP (fun a => f a == 17179869184) := by
    refine List.countP_congr fun a _ => ?_
    simp
    omega
  rw [e3] at hs
  omega
end
section
/-! ===== planes through two windows near each other ===== -/
abbrev Z3 : Type := Int × Int × Int
def dz (q : Z3) (a : T3) : Int := q.1 * ((a.1 : Int) - 1000) + q.2.1 * ((a.2.1 : Int) - 1000) + q.2.2 * ((a.2.2 : Int) - 1000)
def hq (q : Z3) (a : T3) : Bool := decide (dz q a = 0)
def crz (q e : Z3) : Z3 := (q.2.1 * e.2.2 - q.2.2 * e.2.1, q.2.2 * e.1 - q.1 * e.2.2, q.1 * e.2.1 - q.2.1 * e.1)
def xz (a : T3) : Z3 := ((a.1 : Int) - 1000, (a.2.1 : Int) - 1000, (a.2.2 : Int) - 1000)
/-- parallel, neither 0: the same windows -/
theorem crz_dz {q e : Z3} (h : crz q e = (0, 0, 0)) (he : e ≠ (0, 0, 0)) (a : T3) (hd : dz e a = 0) (hq0 : q ≠ (0, 0, 0)) : dz q a = 0 := by
  obtain ⟨q0, q1, q2⟩ := q
  obtain ⟨e0, e1, e2⟩ := e
  unfold crz at h
  unfold dz at hd ⊢
  dsimp only at h hd ⊢
  have h1 : q1 * e2 - q2 * e1 = 0 := congrArg (fun z : Z3 => z.1) h
  have h2 : q2 * e0 - q0 * e2 = 0 := congrArg (fun z : Z3 => z.2.1) h
  have h3 : q0 * e1 - q1 * e0 = 0 := congrArg (fun z : Z3 => z.2.2) h
  generalize (a.1 : Int) - 1000 = x at hd ⊢
  generalize (a.2.1 : Int) - 1000 = y at hd ⊢
  generalize (a.2.2 : Int) - 1000 = z at hd ⊢
  have k : ∀ c : Int, c ≠ 0 → c * (q0 * x + q1 * y + q2 * z) = 0 → q0 * x + q1 * y + q2 * z = 0 := fun c hc h => (Int.mul_eq_zero.mp h).resolve_left hc
  by_cases c0 : e0 = 0
  · by_cases c1 : e1 = 0
    · by_cases c2 : e2 = 0
      · exact absurd (by rw [c0, c1, c2]) he
      · exact k e2 c2 (by grind)
    · exact k e1 c1 (by grind)
  · exact k e0 c0 (by grind)
theorem crz_swap {q e : Z3} (h : crz q e = (0, 0, 0)) : crz e q = (0, 0, 0) := by
  have h1 : q.2.1 * e.2.2 - q.2.2 * e.2.1 = 0 := congrArg (fun z : Z3 => z.1) h
  have h2 : q.2.2 * e.1 - q.1 * e.2.2 = 0 := congrArg (fun z : Z3 => z.2.1) h
  have h3 : q.1 * e.2.1 - q.2.1 * e.1 = 0 := congrArg (fun z : Z3 => z.2.2) h
  unfold crz
  refine Prod.ext ?_ (Prod.ext ?_ ?_) <;> dsimp only <;> grind
theorem crz_trans {q p e : Z3} (h1 : crz q p = (0, 0, 0)) (h2 : crz p e = (0, 0, 0)) (hp : p ≠ (0, 0, 0)) : crz q e = (0, 0, 0) := by
  obtain ⟨q0, q1, q2⟩ := q
  obtain ⟨p0, p1, p2⟩ := p
  obtain ⟨e0, e1, e2⟩ := e
  unfold crz at *
  dsimp only at *
  have a1 : q1 * p2 - q2 * p1 = 0 := congrArg (fun z : Z3 => z.1) h1
  have a2 : q2 * p0 - q0 * p2 = 0 := congrArg (fun z : Z3 => z.2.1) h1
  have a3 : q0 * p1 - q1 * p0 = 0 := congrArg (fun z : Z3 => z.2.2) h1
  have b1 : p1 * e2 - p2 * e1 = 0 := congrArg (fun z : Z3 => z.1) h2
  have b2 : p2 * e0 - p0 * e2 = 0 := congrArg (fun z : Z3 => z.2.1) h2
  have b3 : p0 * e1 - p1 * e0 = 0 := congrArg (fun z : Z3 => z.2.2) h2
  have k : ∀ c x : Int, c ≠ 0 → c * x = 0 → x = 0 := fun c x hc h => (Int.mul_eq_zero.mp h).resolve_left hc
  have key : ∀ c : Int, c ≠ 0 → c * (q1 * e2 - q2 * e1) = 0 → c * (q2 * e0 - q0 * e2) = 0 → c * (q0 * e1 - q1 * e0) = 0 → (q1 * e2 - q2 * e1, q2 * e0 - q0 * e2, q0 * e1 - q1 * e0) = ((0, 0, 0) : Z3) := by
    intro c hc x y z
    rw [k c _ hc x, k c _ hc y, k c _ hc z]
  by_cases c0 : p0 = 0
  · by_cases c1 : p1 = 0
    · by_cases c2 : p2 = 0
      · exact absurd (by rw [c0, c1, c2]) hp
      · exact key p2 c2 (by grind) (by grind) (by grind)
    · exact key p1 c1 (by grind) (by grind) (by grind)
  · exact key p0 c0 (by grind) (by grind) (by grind)
/-- orthogonal to two windows: parallel to their product -/
theorem crz_of {q : Z3} {a b : T3} (ha : dz q a = 0) (hb : dz q b = 0) : crz q (crz (xz a) (xz b)) = (0, 0, 0) := by
  obtain ⟨q0, q1, q2⟩ := q
  unfold dz at ha hb
  unfold crz xz
  dsimp only at *
  generalize (a.1 : Int) - 1000 = x at *
  generalize (a.2.1 : Int) - 1000 = y at *
  generalize (a.2.2 : Int) - 1000 = z at *
  generalize (b.1 : Int) - 1000 = u at *
  generalize (b.2.1 : Int) - 1000 = v at *
  generalize (b.2.2 : Int) - 1000 = w at *
  refine Prod.ext ?_ (Prod.ext ?_ ?_) <;> dsimp only <;> grind
theorem par_count {q e : Z3} (h : crz q e = (0, 0, 0)) (he : e ≠ (0, 0, 0)) (hq0 : q ≠ (0, 0, 0)) (l : List T3) : l.countP (hq q) = l.countP (hq e) := by
  refine List.countP_congr fun a _ => ?_
  unfold hq
  rw [decide_eq_true_eq, decide_eq_true_eq]
  exact ⟨fun z => crz_dz (crz_swap h) hq0 a z he, fun z => crz_dz h he a z hq0⟩
/-- no two hits within d: few hits -/
def sep (p : T3 → Bool) (d : Nat) (W : List T3) : Prop := ∀ pre a mid b post, W = pre ++ a :: (mid ++ b :: post) → mid.length < d → ¬ (p a = true ∧ p b = true)
theorem sep_tail {p : T3 → Bool} {d : Nat} {pre W : List T3} (h : sep p d (pre ++ W)) : sep p d W := by
  intro p1 a mid b post e hm
  exact h (pre ++ p1) a mid b post (by rw [e, List.append_assoc]) hm
theorem sep_count (p : T3 → Bool) (d : Nat) : ∀ (N : Nat) (W : List T3), W.length ≤ N → sep p d W → W.countP p = 0 ∨ (W.countP p - 1) * (d + 1) + 1 ≤ W.length := by
  intro N
  induction N with
  | zero =>
    intro W hl _
    left
    have hW : W = [] := List.length_eq_zero_iff.mp (by omega)
    rw [hW]
    rfl
  | succ N ih =>
    intro W hl hs
    cases W with
    | nil => left; rfl
    | cons a l =>
      have hsl : sep p d l := sep_tail (pre := [a]) hs
      rw [List.length_cons] at hl ⊢
      rw [List.countP_cons]
      by_cases ha : p a = true
      · have h0 : (l.take d).countP p = 0 := by
          rw [List.countP_eq_zero]
          intro b hb hpb
          obtain ⟨mid, post, e⟩ := List.append_of_mem hb
          have hlen : mid.length < d := by
            have h1 : (l.take d).length ≤ d := List.length_take_le d l
            rw [e] at h1
            simp at h1
            omega
          refine hs [] a mid b (post ++ l.drop d) ?_ hlen ⟨ha, hpb⟩
          have e2 : l = mid ++ b :: post ++ l.drop d := by rw [← e]; exact (List.take_append_drop d l).symm
          show a :: l = a :: (mid ++ b :: (post ++ l.drop d))
          rw [show mid ++ b :: (post ++ l.drop d) = mid ++ b :: post ++ l.drop d by simp, ← e2]
        have h1 : l.countP p = (l.drop d).countP p := by
          have e3 : l.countP p = (l.take d ++ l.drop d).countP p := by rw [List.take_append_drop]
          rw [e3, List.countP_append, h0, Nat.zero_add]
        have h2 := ih (l.drop d) (by rw [List.length_drop]; omega) (sep_tail (pre := l.take d) (by rw [List.take_append_drop]; exact hsl))
        rw [if_pos ha, h1]
        right
        rcases h2 with h2 | h2
        · rw [h2]; simp
        · have h3 : 0 < (l.drop d).length := by omega
          rw [List.length_drop] at h2 h3
          by_cases hz : (l.drop d).countP p = 0
          · rw [hz]; simp
          · generalize (l.drop d).countP p = c at h2 hz ⊢
            obtain ⟨k, rfl⟩ : ∃ k, c = k + 1 := ⟨c - 1, by omega⟩
            rw [show k + 1 - 1 = k by omega] at h2
            rw [show k + 1 + 1 - 1 = k + 1 by omega, Nat.add_mul]
            omega
      · rw [if_neg ha, Nat.add_zero]
        rcases ih l (by omega) hsl with h2 | h2
        · left; exact h2
        · right; omega
end
section
/-! ===== a check over all pairs of windows near each other, and what it says ===== -/
def fz (n : Nat) (k : Nat → Bool) : Bool := match n with
  | 0 => k 0
  | m + 1 => k (m + 1)
theorem fz_eq (n : Nat) (k : Nat → Bool) : fz n k = k n := by cases n <;> rfl
def cc (n1 n2 m1 m2 : Nat) : Nat := Nat.sub (Nat.add (Nat.add 8388608 (Nat.mul n1 m2)) (Nat.mul 1000 (Nat.add n2 m1))) (Nat.add (Nat.mul n2 m1) (Nat.mul 1000 (Nat.add n1 m2)))
def inD (Dl : List Z3) (c0 c1 c2 : Nat) : Bool := (!(Nat.beq c0 8388608 && Nat.beq c1 8388608 && Nat.beq c2 8388608)) && Dl.any (fun e => decide (crz ((c0 : Int) - 8388608, (c1 : Int) - 8388608, (c2 : Int) - 8388608) e = (0, 0, 0)))
def chkP (H G0 G1 G2 GS ON OO MS : Nat) (Dl : List Z3) (a b : T3) : Bool :=
  fz (cc a.2.1 a.2.2 b.2.1 b.2.2) fun c0 => fz (cc a.2.2 a.1 b.2.2 b.1) fun c1 => fz (cc a.1 a.2.1 b.1 b.2.1) fun c2 =>
  fz (Nat.sub (Nat.add (Nat.add (Nat.mul c0 G0) (Nat.mul c1 G1)) (Nat.add (Nat.mul c2 G2) OO)) (Nat.add GS (Nat.mul (Nat.mul 1000 (Nat.add c0 (Nat.add c1 c2))) ON))) fun Y =>
  or (Nat.ble (Nat.mod (Nat.land Y MS) 281474976710655) (Nat.add (Nat.mod (Nat.land (Nat.sub Y ON) MS) 281474976710655) (Nat.mul 17179869184 H))) (inD Dl c0 c1 c2)
def chkRow (f : T3 → Bool) : Nat → List T3 → Bool
  | 0, _ => true
  | _ + 1, [] => true
  | n + 1, b :: l => and (f b) (chkRow f n l)
def chkAll (f : T3 → T3 → Bool) (d : Nat) : List T3 → Bool
  | [] => true
  | a :: l => and (chkRow (f a) d l) (chkAll f d l)
def chkW (H d : Nat) (Dl : List Z3) (W : List T3) : Bool :=
  fz (pkf (fun a => a.1) W) fun G0 => fz (pkf (fun a => a.2.1) W) fun G1 => fz (pkf (fun a => a.2.2) W) fun G2 => fz (pkf (fun _ => 1) W) fun ON =>
  fz (Nat.mul 8388608 (Nat.add G0 (Nat.add G1 G2))) fun GS => fz (Nat.mul 42345693184 ON) fun OO => fz (Nat.mul 17179869184 ON) fun MS =>
  chkAll (chkP H G0 G1 G2 GS ON OO MS Dl) d W
theorem chkRow_at {f : T3 → Bool} : ∀ {n : Nat} {mid : List T3} {b : T3} {post : List T3}, chkRow f n (mid ++ b :: post) = true → mid.length < n → f b = true := by
  intro n
  induction n with
  | zero => intro mid b post _ h; omega
  | succ n ih =>
    intro mid b post h hm
    cases mid with
    | nil =>
      have h1 : (f b && chkRow f n post) = true := h
      rw [Bool.and_eq_true] at h1
      exact h1.1
    | cons c mid =>
      have h1 : (f c && chkRow f n (mid ++ b :: post)) = true := h
      rw [Bool.and_eq_true] at h1
      rw [List.length_cons] at hm
      exact ih h1.2 (by omega)
theorem chkAll_at {f : T3 → T3 → Bool} {d : Nat} : ∀ {pre : List T3} {a : T3} {mid : List T3} {b : T3} {post : List T3}, chkAll f d (pre ++ a :: (mid ++ b :: post)) = true → mid.length < d → f a b = true := by
  intro pre
  induction pre with
  | nil =>
    intro a mid b post h hm
    have h1 : (chkRow (f a) d (mid ++ b :: post) && chkAll f d (mid ++ b :: post)) = true := h
    rw [Bool.and_eq_true] at h1
    exact chkRow_at h1.1 hm
  | cons c pre ih =>
    intro a mid b post h hm
    have h1 : (chkRow (f c) d (pre ++ a :: (mid ++ b :: post)) && chkAll f d (pre ++ a :: (mid ++ b :: post))) = true := h
    rw [Bool.and_eq_true] at h1
    exact ih h1.2 hm
theorem cc_val {n1 n2 m1 m2 : Nat} (h1 : n1 ≤ 2000) (h2 : n2 ≤ 2000) (h3 : m1 ≤ 2000) (h4 : m2 ≤ 2000) : ((cc n1 n2 m1 m2 : Nat) : Int) = 8388608 + (((n1 : Int) - 1000) * ((m2 : Int) - 1000) - ((n2 : Int) - 1000) * ((m1 : Int) - 1000)) ∧ cc n1 n2 m1 m2 ≤ 12400000 ∧ 4300000 ≤ cc n1 n2 m1 m2 := by
  have e : cc n1 n2 m1 m2 = 8388608 + n1 * m2 + 1000 * (n2 + m1) - (n2 * m1 + 1000 * (n1 + m2)) := rfl
  have f1 : ((n1 * m2 : Nat) : Int) = ((n1 : Int) - 1000) * ((m2 : Int) - 1000) + 1000 * n1 + 1000 * m2 - 1000000 := by rw [Int.natCast_mul]; grind
  have f2 : ((n2 * m1 : Nat) : Int) = ((n2 : Int) - 1000) * ((m1 : Int) - 1000) + 1000 * n2 + 1000 * m1 - 1000000 := by rw [Int.natCast_mul]; grind
  have k1 : ((n1 : Int) - 1000) * ((m2 : Int) - 1000) ≤ 1000000 ∧ -1000000 ≤ ((n1 : Int) - 1000) * ((m2 : Int) - 1000) := by
    have := Int.natAbs_mul ((n1 : Int) - 1000) ((m2 : Int) - 1000)
    have u1 : ((n1 : Int) - 1000).natAbs ≤ 1000 := by omega
    have u2 : ((m2 : Int) - 1000).natAbs ≤ 1000 := by omega
    have u3 := Nat.mul_le_mul u1 u2
    omega
  have k2 : ((n2 : Int) - 1000) * ((m1 : Int) - 1000) ≤ 1000000 ∧ -1000000 ≤ ((n2 : Int) - 1000) * ((m1 : Int) - 1000) := by
    have := Int.natAbs_mul ((n2 : Int) - 1000) ((m1 : Int) - 1000)
    have u1 : ((n2 : Int) - 1000).natAbs ≤ 1000 := by omega
    have u2 : ((m1 : Int) - 1000).natAbs ≤ 1000 := by omega
    have u3 := Nat.mul_le_mul u1 u2
    omega
  rw [e]
  generalize ((n1 : Int) - 1000) * ((m2 : Int) - 1000) = A at *
  generalize ((n2 : Int) - 1000) * ((m1 : Int) - 1000) = B at *
  generalize n1 * m2 = x at *
  generalize n2 * m1 = y at *
  omega
def yF (c0 c1 c2 : Nat) (a : T3) : Nat := (c0 * a.1 + c1 * a.2.1 + c2 * a.2.2 + 42345693184) - (8388608 * (a.1 + a.2.1 + a.2.2) + 1000 * (c0 + c1 + c2))
abbrev ok3 (a : T3) : Prop := a.1 ≤ 2000 ∧ a.2.1 ≤ 2000 ∧ a.2.2 ≤ 2000
abbrev ofc (c0 c1 c2 : Nat) : Z3 := ((c0 : Int) - 8388608, (c1 : Int) - 8388608, (c2 : Int) - 8388608)
abbrev okc (c : Nat) : Prop := c ≤ 12400000 ∧ 4300000 ≤ c
theorem yF_val {c0 c1 c2 : Nat} {a : T3} (h0 : okc c0) (h1 : okc c1) (h2 : okc c2) (ha : ok3 a) :
    8388608 * (a.1 + a.2.1 + a.2.2) + 1000 * (c0 + c1 + c2) ≤ c0 * a.1 + c1 * a.2.1 + c2 * a.2.2 + 42345693184 ∧ ((yF c0 c1 c2 a : Nat) : Int) = 17179869184 + dz (ofc c0 c1 c2) a ∧ 1 ≤ yF c0 c1 c2 a ∧ yF c0 c1 c2 a < 34359738368 := by
  have key : ∀ c n : Nat, okc c → n ≤ 2000 → ((c * n : Nat) : Int) = ((c : Int) - 8388608) * ((n : Int) - 1000) + 8388608 * n + 1000 * c - 8388608000 ∧ ((c : Int) - 8388608) * ((n : Int) - 1000) ≤ 4100000000 ∧ -4100000000 ≤ ((c : Int) - 8388608) * ((n : Int) - 1000) := by
    intro c n hc hn
    refine ⟨by rw [Int.natCast_mul]; grind, ?_⟩
    have := Int.natAbs_mul ((c : Int) - 8388608) ((n : Int) - 1000)
    have u1 : ((c : Int) - 8388608).natAbs ≤ 4100000 := by have := hc.1; have := hc.2; omega
    have u2 : ((n : Int) - 1000).natAbs ≤ 1000 := by omega
    have u3 := Nat.mul_le_mul u1 u2
    omega
  obtain ⟨a1, b1, d1⟩ := key c0 a.1 h0 ha.1
  obtain ⟨a2, b2, d2⟩ := key c1 a.2.1 h1 ha.2.1
  obtain ⟨a3, b3, d3⟩ := key c2 a.2.2 h2 ha.2.2
  unfold yF dz ofc
  dsimp only
  generalize ((c0 : Int) - 8388608) * ((a.1 : Int) - 1000) = A at *
  generalize ((c1 : Int) - 8388608) * ((a.2.1 : Int) - 1000) = B at *
  generalize ((c2 : Int) - 8388608) * ((a.2.2 : Int) - 1000) = C at *
  generalize c0 * a.1 = x at *
  generalize c1 * a.2.1 = y at *
  generalize c2 * a.2.2 = z at *
  omega
end
section
theorem dz_ofc {c0 c1 c2 : Nat} {a b : T3} (ha : ok3 a) (hb : ok3 b) (e0 : c0 = cc a.2.1 a.2.2 b.2.1 b.2.2) (e1 : c1 = cc a.2.2 a.1 b.2.2 b.1) (e2 : c2 = cc a.1 a.2.1 b.1 b.2.1) : ofc c0 c1 c2 = crz (xz a) (xz b) ∧ okc c0 ∧ okc c1 ∧ okc c2 := by
  obtain ⟨k0, l0, m0⟩ := cc_val ha.2.1 ha.2.2 hb.2.1 hb.2.2
  obtain ⟨k1, l1, m1⟩ := cc_val ha.2.2 ha.1 hb.2.2 hb.1
  obtain ⟨k2, l2, m2⟩ := cc_val ha.1 ha.2.1 hb.1 hb.2.1
  rw [← e0] at k0 l0 m0
  rw [← e1] at k1 l1 m1
  rw [← e2] at k2 l2 m2
  refine ⟨?_, ⟨l0, m0⟩, ⟨l1, m1⟩, ⟨l2, m2⟩⟩
  unfold ofc crz xz
  dsimp only
  rw [k0, k1, k2]
  refine Prod.ext ?_ (Prod.ext ?_ ?_) <;> dsimp only <;> grind
theorem y_pack {c0 c1 c2 : Nat} {W : List T3} (h0 : okc c0) (h1 : okc c1) (h2 : okc c2) (hW : ∀ a, a ∈ W → ok3 a) :
    Nat.sub (Nat.add (Nat.add (Nat.mul c0 (pkf (fun a => a.1) W)) (Nat.mul c1 (pkf (fun a => a.2.1) W))) (Nat.add (Nat.mul c2 (pkf (fun a => a.2.2) W)) (Nat.mul 42345693184 (pkf (fun _ => 1) W)))) (Nat.add (Nat.mul 8388608 (Nat.add (pkf (fun a => a.1) W) (Nat.add (pkf (fun a => a.2.1) W) (pkf (fun a => a.2.2) W)))) (Nat.mul (Nat.mul 1000 (Nat.add c0 (Nat.add c1 c2))) (pkf (fun _ => 1) W))) = pkf (yF c0 c1 c2) W := by
  show (c0 * pkf (fun a => a.1) W + c1 * pkf (fun a => a.2.1) W) + (c2 * pkf (fun a => a.2.2) W + 42345693184 * pkf (fun _ => 1) W) - (8388608 * (pkf (fun a => a.1) W + (pkf (fun a => a.2.1) W + pkf (fun a => a.2.2) W)) + 1000 * (c0 + (c1 + c2)) * pkf (fun _ => 1) W) = _
  simp only [pkf_mul, pkf_add]
  rw [pkf_sub]
  · exact pkf_congr fun a _ => by unfold yF; simp only [Nat.mul_one, Nat.add_assoc]
  · intro a ha
    have := (yF_val h0 h1 h2 (hW a ha)).1
    simp only [Nat.mul_one, Nat.add_assoc] at this ⊢
    exact this
theorem chkP_sound {H : Nat} {Dl : List Z3} {W : List T3} {a b : T3} (hW : ∀ a, a ∈ W → ok3 a) (hl : W.length < 16384) (ha : ok3 a) (hb : ok3 b)
    (h : chkP H (pkf (fun a => a.1) W) (pkf (fun a => a.2.1) W) (pkf (fun a => a.2.2) W) (Nat.mul 8388608 (Nat.add (pkf (fun a => a.1) W) (Nat.add (pkf (fun a => a.2.1) W) (pkf (fun a => a.2.2) W)))) (pkf (fun _ => 1) W) (Nat.mul 42345693184 (pkf (fun _ => 1) W)) (Nat.mul 17179869184 (pkf (fun _ => 1) W)) Dl a b = true) :
    W.countP (hq (crz (xz a) (xz b))) ≤ H ∨ (crz (xz a) (xz b) ≠ (0, 0, 0) ∧ ∃ e, e ∈ Dl ∧ crz (crz (xz a) (xz b)) e = (0, 0, 0)) := by
  unfold chkP at h
  rw [fz_eq, fz_eq, fz_eq] at h
  obtain ⟨hp, h0, h1, h2⟩ := dz_ofc ha hb rfl rfl rfl
  rw [← hp]
  generalize cc a.2.1 a.2.2 b.2.1 b.2.2 = c0 at *
  generalize cc a.2.2 a.1 b.2.2 b.1 = c1 at *
  generalize cc a.1 a.2.1 b.1 b.2.1 = c2 at *
  rw [y_pack h0 h1 h2 hW, fz_eq, Bool.or_eq_true] at h
  rcases h with h | h
  · left
    have h3 := Nat.le_of_ble_eq_true h
    have e1 : Nat.mul 17179869184 (pkf (fun _ => 1) W) = pkf (fun _ => 17179869184) W := by
      show 17179869184 * pkf (fun _ => 1) W = _
      rw [pkf_mul]
    rw [e1] at h3
    have h4 := pkf_count (f := yF c0 c1 c2) hl (fun a ha => (yF_val h0 h1 h2 (hW a ha)).2.2.1) (fun a ha => (yF_val h0 h1 h2 (hW a ha)).2.2.2) (H := H) h3
    refine Nat.le_trans (Nat.le_of_eq ?_) h4
    refine List.countP_congr fun a ha => ?_
    have h5 := (yF_val h0 h1 h2 (hW a ha)).2.1
    unfold hq
    rw [decide_eq_true_eq, beq_iff_eq]
    omega
  · right
    unfold inD at h
    rw [Bool.and_eq_true] at h
    obtain ⟨h5, h6⟩ := h
    refine ⟨fun hz => ?_, ?_⟩
    · have z0 : (c0 : Int) - 8388608 = 0 := congrArg (fun z : Z3 => z.1) hz
      have z1 : (c1 : Int) - 8388608 = 0 := congrArg (fun z : Z3 => z.2.1) hz
      have z2 : (c2 : Int) - 8388608 = 0 := congrArg (fun z : Z3 => z.2.2) hz
      have y0 : c0 = 8388608 := by omega
      have y1 : c1 = 8388608 := by omega
      have y2 : c2 = 8388608 := by omega
      rw [y0, y1, y2] at h5
      exact absurd h5 (by decide)
    · obtain ⟨e, he1, he2⟩ := List.any_eq_true.mp h6
      exact ⟨e, he1, of_decide_eq_true he2⟩
theorem chkW_sound {H d : Nat} {Dl : List Z3} {W : List T3} (hW : ∀ a, a ∈ W → ok3 a) (hl : W.length < 16384) (hd : W.length ≤ H * (d + 1)) (hH : H < W.length) (h : chkW H d Dl W = true) {q : Z3} (hq0 : q ≠ (0, 0, 0)) :
    W.countP (hq q) ≤ H ∨ ∃ e, e ∈ Dl ∧ crz q e = (0, 0, 0) := by
  refine Classical.byContradiction fun hc => ?_
  have hn1 : ¬ W.countP (hq q) ≤ H := fun z => hc (Or.inl z)
  have hn2 : ¬ ∃ e, e ∈ Dl ∧ crz q e = (0, 0, 0) := fun z => hc (Or.inr z)
  have hns : ¬ sep (hq q) d W := by
    intro hs
    rcases sep_count (hq q) d W.length W (Nat.le_refl _) hs with h1 | h1
    · omega
    · have : H * (d + 1) ≤ (W.countP (hq q) - 1) * (d + 1) := Nat.mul_le_mul_right _ (by omega)
      omega
  refine hns fun pre a mid b post e hm hab => ?_
  have hA : dz q a = 0 := of_decide_eq_true hab.1
  have hB : dz q b = 0 := of_decide_eq_true hab.2
  have ma : a ∈ W := by rw [e]; simp
  have mb : b ∈ W := by rw [e]; simp
  unfold chkW at h
  simp only [fz_eq] at h
  have h1 := chkAll_at (pre := pre) (a := a) (mid := mid) (b := b) (post := post) (by rw [← e]; exact h) hm
  rw [e] at h1
  rw [← e] at h1
  have hpar := crz_of hA hB
  rcases chkP_sound hW hl (hW a ma) (hW b mb) h1 with h2 | ⟨h2, e2, h3, h4⟩
  · by_cases hz : crz (xz a) (xz b) = (0, 0, 0)
    · rw [hz] at h2
      have : W.countP (hq (0, 0, 0)) = W.length := by
        rw [List.countP_eq_length]
        intro x _
        unfold hq dz
        rw [decide_eq_true_eq]
        simp
      omega
    · rw [par_count hpar hz hq0] at hn1
      exact hn1 h2
  · exact hn2 ⟨e2, h3, crz_trans hpar h4 h2⟩
end
section
/-! ===== samples, 1000 added; scripts; hits of a plane ===== -/
def winL (T : Nat → Nat → Nat → Nat → T3) : List Nat → List T3
  | a :: b :: c :: d :: r => T a b c d :: winL T (b :: c :: d :: r)
  | _ => []
/-- the windows beside place 0, 1, 2, 3 -/
def T0 (a b c _ : Nat) : T3 := (c, b, a)
def T1 (a b _ d : Nat) : T3 := (d, b, a)
def T2 (a _ c d : Nat) : T3 := (d, c, a)
def T4 (_ b c d : Nat) : T3 := (d, c, b)
def nx (v : Nat) : Nat := Nat.mod (Nat.add (Nat.mul 7 v) 1001) 2001
def orbL (s : Nat) : Nat → List Nat
  | 0 => []
  | k + 1 => nx s :: orbL (nx s) k
theorem nx_le (v : Nat) : nx v ≤ 2000 := by
  have : (7 * v + 1001) % 2001 < 2001 := Nat.mod_lt _ (by decide)
  show (7 * v + 1001) % 2001 ≤ 2000
  omega
theorem orbL_len (s k : Nat) : (orbL s k).length = k := by
  induction k generalizing s with
  | zero => rfl
  | succ k ih => show (orbL (nx s) k).length + 1 = k + 1; rw [ih]
theorem orbL_le (s k : Nat) : ∀ n, n ∈ orbL s k → n ≤ 2000 := by
  induction k generalizing s with
  | zero => intro n hn; exact absurd hn List.not_mem_nil
  | succ k ih =>
    intro n hn
    rcases List.mem_cons.mp (show n ∈ nx s :: orbL (nx s) k from hn) with h | h
    · rw [h]; exact nx_le s
    · exact ih (nx s) n h
theorem orbL_add (s a b : Nat) : ∃ u, orbL s (a + b) = orbL s a ++ orbL u b := by
  induction a generalizing s with
  | zero => exact ⟨s, by rw [Nat.zero_add]; rfl⟩
  | succ a ih =>
    obtain ⟨u, h⟩ := ih (nx s)
    refine ⟨u, ?_⟩
    rw [show a + 1 + b = (a + b) + 1 by omega]
    show nx s :: orbL (nx s) (a + b) = nx s :: (orbL (nx s) a ++ orbL u b)
    rw [h]
def okT (T : Nat → Nat → Nat → Nat → T3) : Prop := ∀ a b c d, a ≤ 2000 → b ≤ 2000 → c ≤ 2000 → d ≤ 2000 → ok3 (T a b c d)
theorem okT0 : okT T0 := fun a b c d ha hb hc hd => ⟨hc, hb, ha⟩
theorem okT1 : okT T1 := fun a b c d ha hb hc hd => ⟨hd, hb, ha⟩
theorem okT2 : okT T2 := fun a b c d ha hb hc hd => ⟨hd, hc, ha⟩
theorem okT4 : okT T4 := fun a b c d ha hb hc hd => ⟨hd, hc, hb⟩
theorem winL_ok {T : Nat → Nat → Nat → Nat → T3} (hT : okT T) : ∀ (L : List Nat), (∀ n, n ∈ L → n ≤ 2000) → ∀ a, a ∈ winL T L → ok3 a := by
  intro L
  induction L with
  | nil => intro _ a h; exact absurd h List.not_mem_nil
  | cons n L ih =>
    intro hL a h
    match L, ih, hL, h with
    | [], _, _, h => exact absurd h List.not_mem_nil
    | [_], _, _, h => exact absurd h List.not_mem_nil
    | [_, _], _, _, h => exact absurd h List.not_mem_nil
    | b :: c :: d :: r, ih, hL, h =>
      rcases List.mem_cons.mp (show a ∈ T n b c d :: winL T (b :: c :: d :: r) from h) with h1 | h1
      · rw [h1]
        exact hT n b c d (hL n (by simp)) (hL b (by simp)) (hL c (by simp)) (hL d (by simp))
      · exact ih (fun m hm => hL m (List.mem_cons_of_mem _ hm)) a h1
theorem winL_len (T : Nat → Nat → Nat → Nat → T3) : ∀ (L : List Nat), (winL T L).length = L.length - 3 := by
  intro L
  induction L with
  | nil => rfl
  | cons n L ih =>
    match L, ih with
    | [], _ => rfl
    | [_], _ => rfl
    | [_, _], _ => rfl
    | b :: c :: d :: r, ih =>
      show (winL T (b :: c :: d :: r)).length + 1 = _
      rw [ih]
      simp only [List.length_cons]
      omega
/-- is the window of this sample in the plane -/
abbrev h1N (q : Z3) (T : Nat → Nat → Nat → Nat → T3) (xs : List Nat) (d : Nat) : Nat := if hq q (T (xs.getD 2 1000) (xs.getD 1 1000) (xs.getD 0 1000) d) = true then 1 else 0
def hcN (q : Z3) (T : Nat → Nat → Nat → Nat → T3) : List Nat → Nat
  | [] => 0
  | d :: xs => hcN q T xs + h1N q T xs d
def hcF (q : Z3) (T : Nat → Nat → Nat → Nat → T3) : List Nat → List Nat → Nat
  | _, [] => 0
  | xs, d :: L => h1N q T xs d + hcF q T (d :: xs) L
theorem hcN_app (q : Z3) (T : Nat → Nat → Nat → Nat → T3) : ∀ (L xs : List Nat), hcN q T (L.reverse ++ xs) = hcN q T xs + hcF q T xs L := by
  intro L
  induction L with
  | nil => intro xs; rfl
  | cons d L ih =>
    intro xs
    rw [List.reverse_cons, List.append_assoc]
    show hcN q T (L.reverse ++ (d :: xs)) = _
    rw [ih]
    show hcN q T xs + h1N q T xs d + hcF q T (d :: xs) L = hcN q T xs + (h1N q T xs d + hcF q T (d :: xs) L)
    omega
theorem hcF_le (q : Z3) (T : Nat → Nat → Nat → Nat → T3) : ∀ (L xs : List Nat), hcF q T xs L ≤ L.length := by
  intro L
  induction L with
  | nil => intro xs; exact Nat.le_refl _
  | cons d L ih =>
    intro xs
    have h := ih (d :: xs)
    show h1N q T xs d + hcF q T (d :: xs) L ≤ L.length + 1
    have : h1N q T xs d ≤ 1 := by unfold h1N; split <;> omega
    omega
theorem hcF_app (q : Z3) (T : Nat → Nat → Nat → Nat → T3) : ∀ (L R xs : List Nat), hcF q T xs L ≤ hcF q T xs (L ++ R) := by
  intro L
  induction L with
  | nil => intro R xs; exact Nat.zero_le _
  | cons d L ih =>
    intro R xs
    exact Nat.add_le_add_left (ih R (d :: xs)) _
theorem hcF_pure (q : Z3) (T : Nat → Nat → Nat → Nat → T3) : ∀ (r : List Nat) (a b c : Nat) (xs : List Nat), hcF q T (c :: b :: a :: xs) r = (winL T (a :: b :: c :: r)).countP (hq q) := by
  intro r
  induction r with
  | nil => intro a b c xs; rfl
  | cons d r ih =>
    intro a b c xs
    show h1N q T (c :: b :: a :: xs) d + hcF q T (d :: c :: b :: a :: xs) r = (T a b c d :: winL T (b :: c :: d :: r)).countP (hq q)
    rw [ih b c d (a :: xs), List.countP_cons]
    show (if hq q (T a b c d) = true then 1 else 0) + _ = _
    omega
def tf (b : Bool) : Nat := cond b 1 0
/-- what the first three samples of a script may add -/
def mixF (f : Nat → Nat → Bool) : List Nat → Nat
  | [] => 0
  | [_] => 1
  | [a, b] => 1 + tf (f a b)
  | a :: b :: c :: _ => 1 + tf (f a b) + tf (f b c)
/-- f says of two samples, one behind the other, whether some others before them bring them into the plane -/
def fOk (q : Z3) (T : Nat → Nat → Nat → Nat → T3) (f : Nat → Nat → Bool) : Prop := ∀ a b c d, a ≤ 2000 → b ≤ 2000 → c ≤ 2000 → d ≤ 2000 → hq q (T a b c d) = true → f c d = true
theorem getD_le {xs : List Nat} (h : ∀ n, n ∈ xs → n ≤ 2000) (k : Nat) : xs.getD k 1000 ≤ 2000 := by
  rw [List.getD_eq_getElem?_getD]
  cases e : xs[k]? with
  | none => show 1000 ≤ 2000; omega
  | some v => exact h v (List.mem_of_getElem? e)
theorem hcF_mix {q : Z3} {T : Nat → Nat → Nat → Nat → T3} {f : Nat → Nat → Bool} (hf : fOk q T f) {L xs : List Nat} (hL : ∀ n, n ∈ L → n ≤ 2000) (hx : ∀ n, n ∈ xs → n ≤ 2000) : hcF q T xs L ≤ mixF f L + (winL T L).countP (hq q) := by
  have one : ∀ ys d, h1N q T ys d ≤ 1 := fun ys d => by unfold h1N; split <;> omega
  have two : ∀ ys c d, (∀ n, n ∈ ys → n ≤ 2000) → c ≤ 2000 → d ≤ 2000 → h1N q T (c :: ys) d ≤ tf (f c d) := by
    intro ys c d hys hc hd
    unfold h1N
    split
    · rename_i h
      have h2 : hq q (T (ys.getD 1 1000) (ys.getD 0 1000) c d) = true := h
      rw [hf _ _ _ _ (getD_le hys 1) (getD_le hys 0) hc hd h2]
      exact Nat.le_refl _
    · exact Nat.zero_le _
  match L, hL with
  | [], _ => exact Nat.le_refl _
  | [a], _ =>
    have := one xs a
    show h1N q T xs a + 0 ≤ 1 + 0
    omega
  | [a, b], hL =>
    have h1 := one xs a
    have h2 := two xs a b hx (hL a (by simp)) (hL b (by simp))
    show h1N q T xs a + (h1N q T (a :: xs) b + 0) ≤ 1 + tf (f a b) + 0
    omega
  | a :: b :: c :: r, hL =>
    have h1 := one xs a
    have h2 := two xs a b hx (hL a (by simp)) (hL b (by simp))
    have h3 := two (a :: xs) b c (fun n hn => by
      rcases List.mem_cons.mp hn with e | e
      · rw [e]; exact hL a (by simp)
      · exact hx n e) (hL b (by simp)) (hL c (by simp))
    have h4 := hcF_pure q T r a b c xs
    show h1N q T xs a + (h1N q T (a :: xs) b + (h1N q T (b :: a :: xs) c + hcF q T (c :: b :: a :: xs) r)) ≤ 1 + tf (f a b) + tf (f b c) + _
    omega
end
section
/-! ===== certificates: what an act adds, against its samples ===== -/
def yN (c0 c1 c2 : Nat) (a : T3) : Nat := Nat.sub (Nat.add (Nat.add (Nat.add (Nat.mul c0 a.1) (Nat.mul c1 a.2.1)) (Nat.mul c2 a.2.2)) 42345693184) (Nat.add (Nat.mul 8388608 (Nat.add (Nat.add a.1 a.2.1) a.2.2)) (Nat.mul 1000 (Nat.add (Nat.add c0 c1) c2)))
def cntY (c0 c1 c2 : Nat) : List T3 → Nat
  | [] => 0
  | a :: l => cond (Nat.beq (yN c0 c1 c2 a) 17179869184) (Nat.succ (cntY c0 c1 c2 l)) (cntY c0 c1 c2 l)
theorem cntY_eq {c0 c1 c2 : Nat} (h0 : okc c0) (h1 : okc c1) (h2 : okc c2) {l : List T3} (hl : ∀ a, a ∈ l → ok3 a) : cntY c0 c1 c2 l = l.countP (hq (ofc c0 c1 c2)) := by
  induction l with
  | nil => rfl
  | cons a l ih =>
    have h3 := (yF_val h0 h1 h2 (hl a List.mem_cons_self)).2.1
    have h4 := ih (fun b hb => hl b (List.mem_cons_of_mem _ hb))
    rw [List.countP_cons, ← h4]
    show cond (Nat.beq (yF c0 c1 c2 a) 17179869184) (cntY c0 c1 c2 l + 1) (cntY c0 c1 c2 l) = _
    unfold hq
    by_cases e : yF c0 c1 c2 a = 17179869184
    · rw [e, if_pos (by rw [decide_eq_true_eq]; omega)]
      rfl
    · rw [if_neg (by rw [decide_eq_true_eq]; omega)]
      have : Nat.beq (yF c0 c1 c2 a) 17179869184 = false := by
        rw [Bool.eq_false_iff]
        intro z
        exact e (Nat.eq_of_beq_eq_true z)
      rw [this]
      rfl
def totY (f : Nat → Nat → Bool) (T : Nat → Nat → Nat → Nat → T3) (c0 c1 c2 : Nat) (L : List Nat) : Nat := Nat.add (mixF f L) (cntY c0 c1 c2 (winL T L))
def chk8 (f : Nat → Nat → Bool) (T : Nat → Nat → Nat → Nat → T3) (c0 c1 c2 A : Nat) : Bool := (List.range 2001).all (fun s => Nat.ble (totY f T c0 c1 c2 (orbL s 8)) A)
def chkm (f : Nat → Nat → Bool) (T : Nat → Nat → Nat → Nat → T3) (c0 c1 c2 be ga : Nat) : Bool := (List.range 101).all (fun m => Nat.ble (Nat.mul 1000 (totY f T c0 c1 c2 (orbL m m))) (Nat.add (Nat.mul be m) ga))
abbrev tot (f : Nat → Nat → Bool) (T : Nat → Nat → Nat → Nat → T3) (q : Z3) (L : List Nat) : Nat := mixF f L + (winL T L).countP (hq q)
def Cert (T : Nat → Nat → Nat → Nat → T3) (q : Z3) : Prop := ∃ (A be ga : Nat) (f : Nat → Nat → Bool), fOk q T f ∧ (∀ s, s ≤ 2000 → tot f T q (orbL s 8) ≤ A) ∧ (∀ m, m ≤ 100 → 1000 * tot f T q (orbL m m) ≤ be * m + ga) ∧ 1000 * A ≤ be * A + ga ∧ be ≤ 1000 ∧ 1000 ≤ be + ga ∧ 2000 * be + 100 * ga ≤ 906999
def fT (_ _ : Nat) : Bool := true
theorem fT_ok (q : Z3) (T : Nat → Nat → Nat → Nat → T3) : fOk q T fT := fun _ _ _ _ _ _ _ _ _ => rfl
def f5 (a b : Nat) : Bool := and (Nat.ble (Nat.mul 3 a) (Nat.mul 5 b)) (and (Nat.ble (Nat.mul 5 b) (Nat.add (Nat.mul 3 a) 4000)) (Nat.beq (Nat.mod (Nat.add a b) 2) 0))
theorem f5_ok : fOk (5, -3, -2) T2 f5 := by
  intro a b c d ha hb hc hd h
  have h1 : dz (5, -3, -2) (T2 a b c d) = 0 := of_decide_eq_true h
  unfold dz T2 at h1
  dsimp only at h1
  unfold f5
  rw [Bool.and_eq_true, Bool.and_eq_true]
  refine ⟨Nat.ble_eq.mpr (show 3 * c ≤ 5 * d by omega), Nat.ble_eq.mpr (show 5 * d ≤ 3 * c + 4000 by omega), Nat.beq_eq.mpr (show (c + d) % 2 = 0 by omega)⟩
theorem cert_of {T : Nat → Nat → Nat → Nat → T3} (hT : okT T) {q : Z3} {c0 c1 c2 A be ga : Nat} {f : Nat → Nat → Bool} (hq0 : q = ofc c0 c1 c2) (h0 : okc c0) (h1 : okc c1) (h2 : okc c2) (hf : fOk q T f)
    (h8 : chk8 f T c0 c1 c2 A = true) (hm : chkm f T c0 c1 c2 be ga = true) (hA : 1000 * A ≤ be * A + ga) (hb : be ≤ 1000) (hs : 1000 ≤ be + ga) (ht : 2000 * be + 100 * ga ≤ 906999) : Cert T q := by
  subst hq0
  have e : ∀ s k, totY f T c0 c1 c2 (orbL s k) = tot f T (ofc c0 c1 c2) (orbL s k) := by
    intro s k
    show mixF f (orbL s k) + cntY c0 c1 c2 (winL T (orbL s k)) = _
    rw [cntY_eq h0 h1 h2 (winL_ok hT _ (orbL_le s k))]
  refine ⟨A, be, ga, f, hf, fun s hs => ?_, fun m hm2 => ?_, hA, hb, hs, ht⟩
  · unfold chk8 at h8
    rw [List.all_eq_true] at h8
    have := Nat.le_of_ble_eq_true (h8 s (List.mem_range.mpr (by omega)))
    rw [e] at this
    exact this
  · unfold chkm at hm
    rw [List.all_eq_true] at hm
    have := Nat.le_of_ble_eq_true (hm m (List.mem_range.mpr (by omega)))
    rw [e] at this
    exact this
end
section
/-! ===== the planes that hold many windows of a script ===== -/
theorem ctT0_0_8 : chk8 fT T0 8388609 8388600 8388615 6 = true := by decide +kernel
theorem ctT0_0_m : chkm fT T0 8388609 8388600 8388615 212 4732 = true := by decide +kernel
theorem ctT0_0 : Cert T0 (1, -8, 7) := cert_of okT0 (c0 := 8388609) (c1 := 8388600) (c2 := 8388615) (by decide +kernel) (by decide) (by decide) (by decide) (fT_ok _ _) ctT0_0_8 ctT0_0_m (by decide) (by decide) (by decide) (by decide)
theorem ctT0_1_8 : chk8 fT T0 8388619 8388607 8388598 5 = true := by decide +kernel
theorem ctT0_1_m : chkm fT T0 8388619 8388607 8388598 180 4100 = true := by decide +kernel
theorem ctT0_1 : Cert T0 (11, -1, -10) := cert_of okT0 (c0 := 8388619) (c1 := 8388607) (c2 := 8388598) (by decide +kernel) (by decide) (by decide) (by decide) (fT_ok _ _) ctT0_1_8 ctT0_1_m (by decide) (by decide) (by decide) (by decide)
theorem ctT0_2_8 : chk8 fT T0 8390250 8387913 8385660 5 = true := by decide +kernel
theorem ctT0_2_m : chkm fT T0 8390250 8387913 8385660 130 4350 = true := by decide +kernel
theorem ctT0_2 : Cert T0 (1642, -695, -2948) := cert_of okT0 (c0 := 8390250) (c1 := 8387913) (c2 := 8385660) (by decide +kernel) (by decide) (by decide) (by decide) (fT_ok _ _) ctT0_2_8 ctT0_2_m (by decide) (by decide) (by decide) (by decide)
theorem ctT0_3_8 : chk8 fT T0 8390530 8388109 8385184 5 = true := by decide +kernel
theorem ctT0_3_m : chkm fT T0 8390530 8388109 8385184 130 4350 = true := by decide +kernel
theorem ctT0_3 : Cert T0 (1922, -499, -3424) := cert_of okT0 (c0 := 8390530) (c1 := 8388109) (c2 := 8385184) (by decide +kernel) (by decide) (by decide) (by decide) (fT_ok _ _) ctT0_3_8 ctT0_3_m (by decide) (by decide) (by decide) (by decide)
theorem ctT0_4_8 : chk8 fT T0 8395851 8386953 8393025 5 = true := by decide +kernel
theorem ctT0_4_m : chkm fT T0 8395851 8386953 8393025 130 4350 = true := by decide +kernel
theorem ctT0_4 : Cert T0 (7243, -1655, 4417) := cert_of okT0 (c0 := 8395851) (c1 := 8386953) (c2 := 8393025) (by decide +kernel) (by decide) (by decide) (by decide) (fT_ok _ _) ctT0_4_8 ctT0_4_m (by decide) (by decide) (by decide) (by decide)
theorem ctT0_5_8 : chk8 fT T0 8401108 8395357 8381365 5 = true := by decide +kernel
theorem ctT0_5_m : chkm fT T0 8401108 8395357 8381365 130 4350 = true := by decide +kernel
theorem ctT0_5 : Cert T0 (12500, 6749, -7243) := cert_of okT0 (c0 := 8401108) (c1 := 8395357) (c2 := 8381365) (by decide +kernel) (by decide) (by decide) (by decide) (fT_ok _ _) ctT0_5_8 ctT0_5_m (by decide) (by decide) (by decide) (by decide)
theorem ctT1_0_8 : chk8 fT T1 8389107 8388524 8390194 5 = true := by decide +kernel
theorem ctT1_0_m : chkm fT T1 8389107 8388524 8390194 167 4165 = true := by decide +kernel
theorem ctT1_0 : Cert T1 (499, -84, 1586) := cert_of okT1 (c0 := 8389107) (c1 := 8388524) (c2 := 8390194) (by decide +kernel) (by decide) (by decide) (by decide) (fT_ok _ _) ctT1_0_8 ctT1_0_m (by decide) (by decide) (by decide) (by decide)
theorem ctT1_1_8 : chk8 fT T1 8389359 8388650 8389816 5 = true := by decide +kernel
theorem ctT1_1_m : chkm fT T1 8389359 8388650 8389816 139 4305 = true := by decide +kernel
theorem ctT1_1 : Cert T1 (751, 42, 1208) := cert_of okT1 (c0 := 8389359) (c1 := 8388650) (c2 := 8389816) (by decide +kernel) (by decide) (by decide) (by decide) (fT_ok _ _) ctT1_1_8 ctT1_1_m (by decide) (by decide) (by decide) (by decide)
theorem ctT1_2_8 : chk8 fT T1 8391108 8390441 8388277 6 = true := by decide +kernel
theorem ctT1_2_m : chkm fT T1 8391108 8390441 8388277 215 4710 = true := by decide +kernel
theorem ctT1_2 : Cert T1 (2500, 1833, -331) := cert_of okT1 (c0 := 8391108) (c1 := 8390441) (c2 := 8388277) (by decide +kernel) (by decide) (by decide) (by decide) (fT_ok _ _) ctT1_2_8 ctT1_2_m (by decide) (by decide) (by decide) (by decide)
theorem ctT1_3_8 : chk8 fT T1 8391612 8390945 8387269 6 = true := by decide +kernel
theorem ctT1_3_m : chkm fT T1 8391612 8390945 8387269 184 4904 = true := by decide +kernel
theorem ctT1_3 : Cert T1 (3004, 2337, -1339) := cert_of okT1 (c0 := 8391612) (c1 := 8390945) (c2 := 8387269) (by decide +kernel) (by decide) (by decide) (by decide) (fT_ok _ _) ctT1_3_8 ctT1_3_m (by decide) (by decide) (by decide) (by decide)
theorem ctT1_4_8 : chk8 fT T1 8393613 8390777 8383435 6 = true := by decide +kernel
theorem ctT1_4_m : chkm fT T1 8393613 8390777 8383435 129 5229 = true := by decide +kernel
theorem ctT1_4 : Cert T1 (5005, 2169, -5173) := cert_of okT1 (c0 := 8393613) (c1 := 8390777) (c2 := 8383435) (by decide +kernel) (by decide) (by decide) (by decide) (fT_ok _ _) ctT1_4_8 ctT1_4_m (by decide) (by decide) (by decide) (by decide)
theorem ctT1_5_8 : chk8 fT T1 8393613 8390945 8397274 5 = true := by decide +kernel
theorem ctT1_5_m : chkm fT T1 8393613 8390945 8397274 130 4350 = true := by decide +kernel
theorem ctT1_5 : Cert T1 (5005, 2337, 8666) := cert_of okT1 (c0 := 8393613) (c1 := 8390945) (c2 := 8397274) (by decide +kernel) (by decide) (by decide) (by decide) (fT_ok _ _) ctT1_5_8 ctT1_5_m (by decide) (by decide) (by decide) (by decide)
theorem ctT1_6_8 : chk8 fT T1 8395456 8383682 8384685 5 = true := by decide +kernel
theorem ctT1_6_m : chkm fT T1 8395456 8383682 8384685 130 4350 = true := by decide +kernel
theorem ctT1_6 : Cert T1 (6848, -4926, -3923) := cert_of okT1 (c0 := 8395456) (c1 := 8383682) (c2 := 8384685) (by decide +kernel) (by decide) (by decide) (by decide) (fT_ok _ _) ctT1_6_8 ctT1_6_m (by decide) (by decide) (by decide) (by decide)
theorem ctT1_7_8 : chk8 fT T1 8395851 8387615 8388361 5 = true := by decide +kernel
theorem ctT1_7_m : chkm fT T1 8395851 8387615 8388361 130 4350 = true := by decide +kernel
theorem ctT1_7 : Cert T1 (7243, -993, -247) := cert_of okT1 (c0 := 8395851) (c1 := 8387615) (c2 := 8388361) (by decide +kernel) (by decide) (by decide) (by decide) (fT_ok _ _) ctT1_7_8 ctT1_7_m (by decide) (by decide) (by decide) (by decide)
theorem ctT2_0_8 : chk8 fT T2 8388610 8388611 8388603 6 = true := by decide +kernel
theorem ctT2_0_m : chkm fT T2 8388610 8388611 8388603 200 4800 = true := by decide +kernel
theorem ctT2_0 : Cert T2 (2, 3, -5) := cert_of okT2 (c0 := 8388610) (c1 := 8388611) (c2 := 8388603) (by decide +kernel) (by decide) (by decide) (by decide) (fT_ok _ _) ctT2_0_8 ctT2_0_m (by decide) (by decide) (by decide) (by decide)
theorem ctT2_1_8 : chk8 f5 T2 8388613 8388605 8388606 4 = true := by decide +kernel
theorem ctT2_1_m : chkm f5 T2 8388613 8388605 8388606 268 2928 = true := by decide +kernel
theorem ctT2_1 : Cert T2 (5, -3, -2) := cert_of okT2 (c0 := 8388613) (c1 := 8388605) (c2 := 8388606) (by decide +kernel) (by decide) (by decide) (by decide) f5_ok ctT2_1_8 ctT2_1_m (by decide) (by decide) (by decide) (by decide)
theorem ctT2_2_8 : chk8 fT T2 8391439 8391938 8384448 5 = true := by decide +kernel
theorem ctT2_2_m : chkm fT T2 8391439 8391938 8384448 162 4190 = true := by decide +kernel
theorem ctT2_2 : Cert T2 (2831, 3330, -4160) := cert_of okT2 (c0 := 8391439) (c1 := 8391938) (c2 := 8384448) (by decide +kernel) (by decide) (by decide) (by decide) (fT_ok _ _) ctT2_2_8 ctT2_2_m (by decide) (by decide) (by decide) (by decide)
theorem ctT2_3_8 : chk8 fT T2 8392941 8375777 8401108 5 = true := by decide +kernel
theorem ctT2_3_m : chkm fT T2 8392941 8375777 8401108 130 4350 = true := by decide +kernel
theorem ctT2_3 : Cert T2 (4333, -12831, 12500) := cert_of okT2 (c0 := 8392941) (c1 := 8375777) (c2 := 8401108) (by decide +kernel) (by decide) (by decide) (by decide) (fT_ok _ _) ctT2_3_8 ctT2_3_m (by decide) (by decide) (by decide) (by decide)
theorem ctT2_4_8 : chk8 fT T2 8395357 8379443 8393025 5 = true := by decide +kernel
theorem ctT2_4_m : chkm fT T2 8395357 8379443 8393025 130 4350 = true := by decide +kernel
theorem ctT2_4 : Cert T2 (6749, -9165, 4417) := cert_of okT2 (c0 := 8395357) (c1 := 8379443) (c2 := 8393025) (by decide +kernel) (by decide) (by decide) (by decide) (fT_ok _ _) ctT2_4_8 ctT2_4_m (by decide) (by decide) (by decide) (by decide)
theorem ctT2_5_8 : chk8 fT T2 8397783 8397284 8386765 5 = true := by decide +kernel
theorem ctT2_5_m : chkm fT T2 8397783 8397284 8386765 162 4190 = true := by decide +kernel
theorem ctT2_5 : Cert T2 (9175, 8676, -1843) := cert_of okT2 (c0 := 8397783) (c1 := 8397284) (c2 := 8386765) (by decide +kernel) (by decide) (by decide) (by decide) (fT_ok _ _) ctT2_5_8 ctT2_5_m (by decide) (by decide) (by decide) (by decide)
theorem ctT4_0_8 : chk8 fT T4 8388609 8388600 8388615 6 = true := by decide +kernel
theorem ctT4_0_m : chkm fT T4 8388609 8388600 8388615 212 4732 = true := by decide +kernel
theorem ctT4_0 : Cert T4 (1, -8, 7) := cert_of okT4 (c0 := 8388609) (c1 := 8388600) (c2 := 8388615) (by decide +kernel) (by decide) (by decide) (by decide) (fT_ok _ _) ctT4_0_8 ctT4_0_m (by decide) (by decide) (by decide) (by decide)
theorem ctT4_1_8 : chk8 fT T4 8388619 8388607 8388598 5 = true := by decide +kernel
theorem ctT4_1_m : chkm fT T4 8388619 8388607 8388598 205 3980 = true := by decide +kernel
theorem ctT4_1 : Cert T4 (11, -1, -10) := cert_of okT4 (c0 := 8388619) (c1 := 8388607) (c2 := 8388598) (by decide +kernel) (by decide) (by decide) (by decide) (fT_ok _ _) ctT4_1_8 ctT4_1_m (by decide) (by decide) (by decide) (by decide)
theorem ctT4_2_8 : chk8 fT T4 8390530 8388109 8385184 5 = true := by decide +kernel
theorem ctT4_2_m : chkm fT T4 8390530 8388109 8385184 130 4350 = true := by decide +kernel
theorem ctT4_2 : Cert T4 (1922, -499, -3424) := cert_of okT4 (c0 := 8390530) (c1 := 8388109) (c2 := 8385184) (by decide +kernel) (by decide) (by decide) (by decide) (fT_ok _ _) ctT4_2_8 ctT4_2_m (by decide) (by decide) (by decide) (by decide)
theorem ctT4_3_8 : chk8 fT T4 8393025 8388855 8387946 5 = true := by decide +kernel
theorem ctT4_3_m : chkm fT T4 8393025 8388855 8387946 130 4350 = true := by decide +kernel
theorem ctT4_3 : Cert T4 (4417, 247, -662) := cert_of okT4 (c0 := 8393025) (c1 := 8388855) (c2 := 8387946) (by decide +kernel) (by decide) (by decide) (by decide) (fT_ok _ _) ctT4_3_8 ctT4_3_m (by decide) (by decide) (by decide) (by decide)
theorem ctT4_4_8 : chk8 fT T4 8395851 8386953 8393025 5 = true := by decide +kernel
theorem ctT4_4_m : chkm fT T4 8395851 8386953 8393025 130 4350 = true := by decide +kernel
theorem ctT4_4 : Cert T4 (7243, -1655, 4417) := cert_of okT4 (c0 := 8395851) (c1 := 8386953) (c2 := 8393025) (by decide +kernel) (by decide) (by decide) (by decide) (fT_ok _ _) ctT4_4_8 ctT4_4_m (by decide) (by decide) (by decide) (by decide)
theorem ctT4_5_8 : chk8 fT T4 8401108 8395357 8381365 5 = true := by decide +kernel
theorem ctT4_5_m : chkm fT T4 8401108 8395357 8381365 141 4310 = true := by decide +kernel
theorem ctT4_5 : Cert T4 (12500, 6749, -7243) := cert_of okT4 (c0 := 8401108) (c1 := 8395357) (c2 := 8381365) (by decide +kernel) (by decide) (by decide) (by decide) (fT_ok _ _) ctT4_5_8 ctT4_5_m (by decide) (by decide) (by decide) (by decide)
def D0 : List Z3 := [(1, -8, 7), (11, -1, -10), (1642, -695, -2948), (1922, -499, -3424), (7243, -1655, 4417), (12500, 6749, -7243)]
theorem D0_ok : ∀ e, e ∈ D0 → Cert T0 e ∧ e ≠ (0, 0, 0) := by
  intro e he
  simp only [D0, List.mem_cons, List.not_mem_nil, or_false] at he
  rcases he with rfl | rfl | rfl | rfl | rfl | rfl
  · exact ⟨ctT0_0, by decide⟩
  · exact ⟨ctT0_1, by decide⟩
  · exact ⟨ctT0_2, by decide⟩
  · exact ⟨ctT0_3, by decide⟩
  · exact ⟨ctT0_4, by decide⟩
  · exact ⟨ctT0_5, by decide⟩
def D1 : List Z3 := [(499, -84, 1586), (751, 42, 1208), (2500, 1833, -331), (3004, 2337, -1339), (5005, 2169, -5173), (5005, 2337, 8666), (6848, -4926, -3923), (7243, -993, -247)]
theorem D1_ok : ∀ e, e ∈ D1 → Cert T1 e ∧ e ≠ (0, 0, 0) := by
  intro e he
  simp only [D1, List.mem_cons, List.not_mem_nil, or_false] at he
  rcases he with rfl | rfl | rfl | rfl | rfl | rfl | rfl | rfl
  · exact ⟨ctT1_0, by decide⟩
  · exact ⟨ctT1_1, by decide⟩
  · exact ⟨ctT1_2, by decide⟩
  · exact ⟨ctT1_3, by decide⟩
  · exact ⟨ctT1_4, by decide⟩
  · exact ⟨ctT1_5, by decide⟩
  · exact ⟨ctT1_6, by decide⟩
  · exact ⟨ctT1_7, by decide⟩
def D2 : List Z3 := [(2, 3, -5), (5, -3, -2), (2831, 3330, -4160), (4333, -12831, 12500), (6749, -9165, 4417), (9175, 8676, -1843)]
theorem D2_ok : ∀ e, e ∈ D2 → Cert T2 e ∧ e ≠ (0, 0, 0) := by
  intro e he
  simp only [D2, List.mem_cons, List.not_mem_nil, or_false] at he
  rcases he with rfl | rfl | rfl | rfl | rfl | rfl
  · exact ⟨ctT2_0, by decide⟩
  · exact ⟨ctT2_1, by decide⟩
  · exact ⟨ctT2_2, by decide⟩
  · exact ⟨ctT2_3, by decide⟩
  · exact ⟨ctT2_4, by decide⟩
  · exact ⟨ctT2_5, by decide⟩
def D4 : List Z3 := [(1, -8, 7), (11, -1, -10), (1922, -499, -3424), (4417, 247, -662), (7243, -1655, 4417), (12500, 6749, -7243)]
theorem D4_ok : ∀ e, e ∈ D4 → Cert T4 e ∧ e ≠ (0, 0, 0) := by
  intro e he
  simp only [D4, List.mem_cons, List.not_mem_nil, or_false] at he
  rcases he with rfl | rfl | rfl | rfl | rfl | rfl
  · exact ⟨ctT4_0, by decide⟩
  · exact ⟨ctT4_1, by decide⟩
  · exact ⟨ctT4_2, by decide⟩
  · exact ⟨ctT4_3, by decide⟩
  · exact ⟨ctT4_4, by decide⟩
  · exact ⟨ctT4_5, by decide⟩
end
section
/-! ===== every plane has a certificate ===== -/
def hM (m : Nat) : Nat := Nat.sub (Nat.div (Nat.add (Nat.mul 88 m) 7296) 1000) 3
def chkM (T : Nat → Nat → Nat → Nat → T3) (Dl : List Z3) (m : Nat) : Bool := or (Nat.ble m (Nat.add (hM m) 3)) (chkW (hM m) 7 Dl (winL T (orbL m m)))
theorem chk_0 : (List.range 101).all (chkM T0 D0) = true := by decide +kernel
theorem chk_1 : (List.range 101).all (chkM T1 D1) = true := by decide +kernel
theorem chk_2 : (List.range 101).all (chkM T2 D2) = true := by decide +kernel
theorem chk_4 : (List.range 101).all (chkM T4 D4) = true := by decide +kernel
theorem hM_ok : (List.range 101).all (fun m => Nat.ble (m - 3) (hM m * 8)) = true := by decide +kernel
theorem mixF_T (L : List Nat) : mixF fT L + (L.length - 3) ≤ L.length ∧ mixF fT L ≤ 3 := by
  match L with
  | [] => exact ⟨by decide, by decide⟩
  | [_] => exact ⟨by show 1 + (1 - 3) ≤ 1; omega, by show 1 ≤ 3; omega⟩
  | [_, _] => exact ⟨by show 1 + 1 + (2 - 3) ≤ 2; omega, by show 1 + 1 ≤ 3; omega⟩
  | _ :: _ :: _ :: r =>
    refine ⟨?_, by show 1 + 1 + 1 ≤ 3; omega⟩
    show 1 + 1 + 1 + (r.length + 1 + 1 + 1 - 3) ≤ r.length + 1 + 1 + 1
    omega
theorem tot_T (T : Nat → Nat → Nat → Nat → T3) (q : Z3) (L : List Nat) : tot fT T q L ≤ L.length := by
  have h1 := (mixF_T L).1
  have h2 := List.countP_le_length (p := hq q) (l := winL T L)
  rw [winL_len] at h2
  show mixF fT L + (winL T L).countP (hq q) ≤ L.length
  omega
theorem cert_all {T : Nat → Nat → Nat → Nat → T3} (hT : okT T) {Dl : List Z3} (hD : ∀ e, e ∈ Dl → Cert T e ∧ e ≠ (0, 0, 0)) (hc : (List.range 101).all (chkM T Dl) = true) {q : Z3} (hq0 : q ≠ (0, 0, 0)) : ∃ e, Cert T e ∧ ∀ a, hq q a = hq e a := by
  by_cases h : ∃ e, e ∈ Dl ∧ crz q e = (0, 0, 0)
  · obtain ⟨e, h1, h2⟩ := h
    obtain ⟨h3, h4⟩ := hD e h1
    refine ⟨e, h3, fun a => ?_⟩
    unfold hq
    have : (dz q a = 0) = (dz e a = 0) := propext ⟨fun z => crz_dz (crz_swap h2) hq0 a z h4, fun z => crz_dz h2 h4 a z hq0⟩
    simp only [this]
  · refine ⟨q, ?_, fun a => rfl⟩
    rw [List.all_eq_true] at hc
    have hk := hM_ok
    rw [List.all_eq_true] at hk
    refine ⟨8, 88, 7296, fT, fT_ok _ _, fun s _ => ?_, fun m hm => ?_, by decide, by decide, by decide, by decide⟩
    · have := tot_T T q (orbL s 8)
      rw [orbL_len] at this
      exact this
    · have h1 := hc m (List.mem_range.mpr (by omega))
      have h2 := Nat.le_of_ble_eq_true (hk m (List.mem_range.mpr (by omega)))
      have h3 := tot_T T q (orbL m m)
      rw [orbL_len] at h3
      have h4 : hM m = (88 * m + 7296) / 1000 - 3 := rfl
      unfold chkM at h1
      rw [Bool.or_eq_true] at h1
      rcases h1 with h1 | h1
      · have h5 : m ≤ hM m + 3 := Nat.le_of_ble_eq_true h1
        omega
      · by_cases h6 : m ≤ hM m + 3
        · omega
        · have hlen : (winL T (orbL m m)).length = m - 3 := by rw [winL_len, orbL_len]
          rcases chkW_sound (winL_ok hT _ (orbL_le m m)) (by rw [hlen]; omega) (by rw [hlen]; exact h2) (by rw [hlen]; omega) h1 hq0 with h7 | h7
          · have h8 := (mixF_T (orbL m m)).2
            show 1000 * (mixF fT (orbL m m) + (winL T (orbL m m)).countP (hq q)) ≤ _
            omega
          · exact absurd h7 h
end
section
/-! ===== at most 906 windows of 100 acts lie in one plane beside a place ===== -/
def VA (A : List Nat) : Prop := (∃ n, n ≤ 2000 ∧ A = [n]) ∨ (∃ s k, s ≤ 2000 ∧ 1 ≤ k ∧ k ≤ 8 ∧ A = orbL s k) ∨ (∃ m, 1 ≤ m ∧ m ≤ 100 ∧ A = orbL m m)
def xsOf : List (List Nat) → List Nat
  | [] => []
  | A :: as => A.reverse ++ xsOf as
theorem VA_le {A : List Nat} (h : VA A) : ∀ n, n ∈ A → n ≤ 2000 := by
  intro n hn
  rcases h with ⟨m, h1, rfl⟩ | ⟨s, k, _, _, _, rfl⟩ | ⟨m, _, _, rfl⟩
  · rw [List.mem_singleton.mp hn]; exact h1
  · exact orbL_le s k n hn
  · exact orbL_le m m n hn
theorem xsOf_le {as : List (List Nat)} (h : ∀ A, A ∈ as → VA A) : ∀ n, n ∈ xsOf as → n ≤ 2000 := by
  induction as with
  | nil => intro n hn; exact absurd hn List.not_mem_nil
  | cons A as ih =>
    intro n hn
    rcases List.mem_append.mp (show n ∈ A.reverse ++ xsOf as from hn) with h1 | h1
    · exact VA_le (h A List.mem_cons_self) n (List.mem_reverse.mp h1)
    · exact ih (fun B hB => h B (List.mem_cons_of_mem _ hB)) n h1
theorem act_le {T : Nat → Nat → Nat → Nat → T3} {e : Z3} {A8 be ga : Nat} {f : Nat → Nat → Bool} (hf : fOk e T f) (h8 : ∀ s, s ≤ 2000 → tot f T e (orbL s 8) ≤ A8) (hm : ∀ m, m ≤ 100 → 1000 * tot f T e (orbL m m) ≤ be * m + ga) (hA : 1000 * A8 ≤ be * A8 + ga) (hb : be ≤ 1000) (h1 : 1000 ≤ be + ga)
    {A xs : List Nat} (hV : VA A) (hx : ∀ n, n ∈ xs → n ≤ 2000) : 1000 * hcF e T xs A ≤ be * A.length + ga := by
  rcases hV with ⟨n, hn, rfl⟩ | ⟨s, k, hs, hk1, hk8, rfl⟩ | ⟨m, hm1, hm2, rfl⟩
  · have := hcF_le e T [n] xs
    have e1 : ([n] : List Nat).length = 1 := rfl
    rw [e1] at this ⊢
    omega
  · have k1 := hcF_le e T (orbL s k) xs
    rw [orbL_len] at k1 ⊢
    obtain ⟨u, hu⟩ := orbL_add s k (8 - k)
    rw [show k + (8 - k) = 8 by omega] at hu
    have k2 := hcF_app e T (orbL s k) (orbL u (8 - k)) xs
    rw [← hu] at k2
    have k3 := hcF_mix hf (orbL_le s 8) hx
    have k4 := h8 s hs
    have k5 : hcF e T xs (orbL s k) ≤ A8 := Nat.le_trans k2 (Nat.le_trans k3 k4)
    generalize hcF e T xs (orbL s k) = h at *
    obtain ⟨g, hg⟩ : ∃ g, 1000 = be + g := ⟨1000 - be, by omega⟩
    have y1 : 1000 * A8 = be * A8 + g * A8 := (congrArg (fun z => z * A8) hg).trans (Nat.add_mul ..)
    have y2 : 1000 * h = be * h + g * h := (congrArg (fun z => z * h) hg).trans (Nat.add_mul ..)
    have z1 := Nat.mul_le_mul_left g k5
    have z2 := Nat.mul_le_mul_left be k1
    omega
  · have k3 := hcF_mix hf (orbL_le m m) hx
    have k4 := hm m hm2
    rw [orbL_len]
    have k5 := Nat.mul_le_mul_left 1000 k3
    exact Nat.le_trans k5 k4
theorem acts_le {T : Nat → Nat → Nat → Nat → T3} {e : Z3} (hC : Cert T e) {as : List (List Nat)} (hV : ∀ A, A ∈ as → VA A) (hn : as.length ≤ 100) (hl : (xsOf as).length ≤ 2000) : hcN e T (xsOf as) ≤ 906 := by
  obtain ⟨A8, be, ga, f, hf, h8, hm, hA, hb, h1, ht⟩ := hC
  have key : ∀ as : List (List Nat), (∀ A, A ∈ as → VA A) → 1000 * hcN e T (xsOf as) ≤ be * (xsOf as).length + ga * as.length := by
    intro as
    induction as with
    | nil => intro _; exact Nat.zero_le _
    | cons A as ih =>
      intro hV
      have i1 := ih (fun B hB => hV B (List.mem_cons_of_mem _ hB))
      have i2 := act_le hf h8 hm hA hb h1 (hV A List.mem_cons_self) (xsOf_le (fun B hB => hV B (List.mem_cons_of_mem _ hB)))
      show 1000 * hcN e T (A.reverse ++ xsOf as) ≤ be * (A.reverse ++ xsOf as).length + ga * (as.length + 1)
      rw [hcN_app, List.length_append, List.length_reverse, Nat.mul_add, Nat.mul_add, Nat.mul_add]
      omega
  have k := key as hV
  have z1 := Nat.mul_le_mul_left be hl
  have z2 := Nat.mul_le_mul_left ga hn
  omega
/-- the windows of a list of samples, 1000 taken off -/
def Hist : List Nat → List (Nat → Int32) → Prop
  | [], [] => True
  | d :: xs, w :: ws => (∀ k, k < 4 → (w k).toInt = (((d :: xs).getD k 1000 : Nat) : Int) - 1000) ∧ Hist xs ws
  | [], _ :: _ => False
  | _ :: _, [] => False
def vz (i : Nat) (w : Nat → Int32) : Z3 := (wi w (offI i).1, wi w (offI i).2.1, wi w (offI i).2.2)
def dv (q v : Z3) : Int := q.1 * v.1 + q.2.1 * v.2.1 + q.2.2 * v.2.2
def TI (i : Nat) : Nat → Nat → Nat → Nat → T3 := if i = 0 then T0 else if i = 1 then T1 else if i = 2 then T2 else T4
theorem hist_count (q : Z3) {i : Nat} (hi : i < 4) : ∀ (xs : List Nat) (ws : List (Nat → Int32)), Hist xs ws → ws.countP (fun w => decide (dv q (vz i w) = 0)) = hcN q (TI i) xs := by
  intro xs
  induction xs with
  | nil =>
    intro ws h
    cases ws with
    | nil => rfl
    | cons w ws => exact h.elim
  | cons d xs ih =>
    intro ws h
    cases ws with
    | nil => exact h.elim
    | cons w ws =>
      obtain ⟨h1, h2⟩ := h
      rw [List.countP_cons, ih ws h2]
      show _ = hcN q (TI i) xs + h1N q (TI i) xs d
      have e0 : (w 0).toInt = (d : Int) - 1000 := h1 0 (by omega)
      have e1 : (w 1).toInt = ((xs.getD 0 1000 : Nat) : Int) - 1000 := h1 1 (by omega)
      have e2 : (w 2).toInt = ((xs.getD 1 1000 : Nat) : Int) - 1000 := h1 2 (by omega)
      have e3 : (w 3).toInt = ((xs.getD 2 1000 : Nat) : Int) - 1000 := h1 3 (by omega)
      have e : dv q (vz i w) = dz q (TI i (xs.getD 2 1000) (xs.getD 1 1000) (xs.getD 0 1000) d) := by
        unfold dv vz dz TI
        rcases (show i = 0 ∨ i = 1 ∨ i = 2 ∨ i = 3 by omega) with h | h | h | h <;> subst h <;> simp [offI, T0, T1, T2, T4, e0, e1, e2, e3]
      unfold h1N hq
      rw [e]
theorem plane_ex {i : Nat} {Ls : List (Nat → Int32)} (h : ∀ a b c, a ∈ Ls → b ∈ Ls → c ∈ Ls → detI i a b c = 0) : ∃ q : Z3, q ≠ (0, 0, 0) ∧ ∀ w, w ∈ Ls → dv q (vz i w) = 0 := by
  by_cases h1 : ∃ a b, a ∈ Ls ∧ b ∈ Ls ∧ crz (vz i a) (vz i b) ≠ (0, 0, 0)
  · obtain ⟨a, b, ha, hb, hn⟩ := h1
    refine ⟨_, hn, fun w hw => ?_⟩
    have := h a b w ha hb hw
    unfold detI det3 at this
    unfold dv crz vz
    dsimp only
    grind
  · have h2 : ∀ a b, a ∈ Ls → b ∈ Ls → crz (vz i a) (vz i b) = (0, 0, 0) := fun a b ha hb => Classical.byContradiction fun hn => h1 ⟨a, b, ha, hb, hn⟩
    have hone : ((1, 0, 0) : Z3) ≠ (0, 0, 0) := by decide
    by_cases h3 : ∃ a, a ∈ Ls ∧ vz i a ≠ (0, 0, 0)
    · obtain ⟨a, ha, hn⟩ := h3
      have h4 := fun w hw => h2 a w ha hw
      generalize vz i a = v at hn h4
      obtain ⟨x, y, z⟩ := v
      by_cases hx : x = 0 ∧ y = 0
      · obtain ⟨rfl, rfl⟩ := hx
        have hz : z ≠ 0 := fun e => hn (by rw [e])
        refine ⟨(1, 0, 0), hone, fun w hw => ?_⟩
        have h5 := h4 w hw
        unfold crz at h5
        dsimp only at h5
        have h6 : z * (vz i w).1 - 0 * (vz i w).2.2 = 0 := congrArg (fun z : Z3 => z.2.1) h5
        have h7 : (vz i w).1 = 0 := (Int.mul_eq_zero.mp (by grind : z * (vz i w).1 = 0)).resolve_left hz
        unfold dv
        dsimp only
        grind
      · refine ⟨(y, -x, 0), fun e => hx ⟨?_, ?_⟩, fun w hw => ?_⟩
        · have : -x = 0 := congrArg (fun z : Z3 => z.2.1) e
          omega
        · exact congrArg (fun z : Z3 => z.1) e
        · have h5 := h4 w hw
          unfold crz at h5
          dsimp only at h5
          have h6 : x * (vz i w).2.1 - y * (vz i w).1 = 0 := congrArg (fun z : Z3 => z.2.2) h5
          unfold dv
          dsimp only
          grind
    · refine ⟨(1, 0, 0), hone, fun w hw => ?_⟩
      have : vz i w = (0, 0, 0) := Classical.byContradiction fun hn => h3 ⟨w, hw, hn⟩
      rw [this]
      decide
theorem hist_HB {as : List (List Nat)} {ws : List (Nat → Int32)} (hV : ∀ A, A ∈ as → VA A) (hn : as.length ≤ 100) (hl : (xsOf as).length ≤ 2000) (hH : Hist (xsOf as) ws) : HB ws := by
  intro i hi Ls hs hd
  obtain ⟨q, hq0, hq1⟩ := plane_ex hd
  have h1 : Ls.countP (fun w => decide (dv q (vz i w) = 0)) = Ls.length := by
    rw [List.countP_eq_length]
    intro w hw
    rw [decide_eq_true_eq]
    exact hq1 w hw
  have h2 := hs.countP_le (p := fun w => decide (dv q (vz i w) = 0))
  rw [h1, hist_count q hi _ _ hH] at h2
  have h3 : ∃ e, Cert (TI i) e ∧ ∀ a, hq q a = hq e a := by
    unfold TI
    rcases (show i = 0 ∨ i = 1 ∨ i = 2 ∨ i = 3 by omega) with h | h | h | h <;> subst h
    · exact cert_all okT0 D0_ok chk_0 hq0
    · exact cert_all okT1 D1_ok chk_1 hq0
    · exact cert_all okT2 D2_ok chk_2 hq0
    · exact cert_all okT4 D4_ok chk_4 hq0
  obtain ⟨e, hC, he⟩ := h3
  have h4 : ∀ xs, hcN q (TI i) xs = hcN e (TI i) xs := by
    intro xs
    induction xs with
    | nil => rfl
    | cons d xs ih =>
      show hcN q (TI i) xs + h1N q (TI i) xs d = hcN e (TI i) xs + h1N e (TI i) xs d
      rw [ih]
      unfold h1N
      rw [he]
  rw [h4] at h2
  exact Nat.le_trans h2 (acts_le hC hV hn hl)
end
