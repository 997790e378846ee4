/-! ===== sizes of rationals ===== -/
def ab (x : Rat) : Rat := if 0 ≤ x then x else -x
theorem ab_def (x : Rat) : (0 ≤ x ∧ ab x = x) ∨ (x < 0 ∧ ab x = -x) := by
  unfold ab
  by_cases h : 0 ≤ x
  · left; exact ⟨h, if_pos h⟩
  · right; exact ⟨Rat.not_le.mp h, if_neg h⟩
theorem ab_nonneg (x : Rat) : 0 ≤ ab x := by
  rcases ab_def x with h | h <;> grind
theorem ab_le {x b : Rat} : ab x ≤ b ↔ (-b ≤ x ∧ x ≤ b) := by
  rcases ab_def x with h | h <;> grind
theorem le_ab (x : Rat) : x ≤ ab x := by
  rcases ab_def x with h | h <;> grind
theorem neg_le_ab (x : Rat) : -x ≤ ab x := by
  rcases ab_def x with h | h <;> grind
theorem ab_neg (x : Rat) : ab (-x) = ab x := by
  rcases ab_def x with h | h <;> rcases ab_def (-x) with h2 | h2 <;> grind
theorem ab_add (x y : Rat) : ab (x + y) ≤ ab x + ab y := by
  rcases ab_def x with h | h <;> rcases ab_def y with h2 | h2 <;> rcases ab_def (x + y) with h3 | h3 <;> grind
theorem ab_sub (x y : Rat) : ab (x - y) ≤ ab x + ab y := by
  rcases ab_def x with h | h <;> rcases ab_def y with h2 | h2 <;> rcases ab_def (x - y) with h3 | h3 <;> grind
theorem ab_of_nonneg {x : Rat} (h : 0 ≤ x) : ab x = x := if_pos h
theorem ab_mul (x y : Rat) : ab (x * y) = ab x * ab y := by
  have key : ∀ a b : Rat, 0 ≤ a → 0 ≤ b → 0 ≤ a * b := fun a b ha hb => Rat.mul_nonneg ha hb
  rcases ab_def x with h | h <;> rcases ab_def y with h2 | h2
  · rw [ab_of_nonneg (key x y h.1 h2.1), h.2, h2.2]
  · have := key x (-y) h.1 (by grind)
    rw [← ab_neg, show -(x * y) = x * -y by grind, ab_of_nonneg this, h.2, h2.2]
  · have := key (-x) y (by grind) h2.1
    rw [← ab_neg, show -(x * y) = -x * y by grind, ab_of_nonneg this, h.2, h2.2]
  · have := key (-x) (-y) (by grind) (by grind)
    rw [show x * y = -x * -y by grind, ab_of_nonneg this, h.2, h2.2]
/-! ===== values ===== -/
def rv : Dt → Rat
  | .fin s c q => ((FP.Core.signed s c : Int) : Rat) * zp q
  | _ => 0
/-- a number -/
def fn (d : Dt) : Prop := ∃ s c q, d = .fin s c q
theorem fn.nn {d : Dt} (h : fn d) : d ≠ .nan := by
  obtain ⟨s, c, q, rfl⟩ := h
  exact fun h => FP.Core.Datum.noConfusion h
/-- r is x, rounded -/
def near (r x : Rat) : Prop := ab (r - x) ≤ uu * ab x + ty
theorem sgn_ab (s : Bool) (c : Nat) : ((FP.Core.signed s c : Int) : Rat) = if s then -(c : Rat) else (c : Rat) := by
  cases s <;> rfl
theorem rv_ab (s : Bool) (c : Nat) (q : Int) : ab (rv (.fin s c q)) = (c : Rat) * zp q := by
  show ab (((FP.Core.signed s c : Int) : Rat) * zp q) = _
  have h : 0 ≤ (c : Rat) * zp q := Rat.mul_nonneg Rat.natCast_nonneg (Rat.le_of_lt (zp_pos q))
  rw [sgn_ab]
  cases s
  · exact ab_of_nonneg h
  · show ab (-(c : Rat) * zp q) = _
    rw [Rat.neg_mul, ab_neg]
    exact ab_of_nonneg h
/-- a ratio rounded, with its sign -/
theorem rr_val {s : Bool} {A B : Nat} {e : Int} (hB : 0 < B) {x : Rat} (hx : x = if s then -mag A B e else mag A B e) (h : ab x < zp 1023) :
    fn (FP.Core.roundRatio FP.Core.b64 s A B e) ∧ near (rv (FP.Core.roundRatio FP.Core.b64 s A B e)) x := by
  have hm := mag_nonneg A B e
  have hax : ab x = mag A B e := by
    rw [hx]
    cases s
    · exact ab_of_nonneg hm
    · show ab (-mag A B e) = _
      rw [ab_neg]; exact ab_of_nonneg hm
  rw [hax] at h
  obtain ⟨c, q, hr⟩ := rr_fin (s := s) hB h
  obtain ⟨-, h1, h2⟩ := rr_near hB hr
  rw [hr]
  refine ⟨⟨s, c, q, rfl⟩, ?_⟩
  unfold near
  rw [hax, ab_le]
  show _ ≤ ((FP.Core.signed s c : Int) : Rat) * zp q - x ∧ _
  rw [sgn_ab, hx]
  cases s
  · show _ ≤ (c : Rat) * zp q - mag A B e ∧ (c : Rat) * zp q - mag A B e ≤ _
    constructor <;> grind
  · show _ ≤ -(c : Rat) * zp q - -mag A B e ∧ -(c : Rat) * zp q - -mag A B e ≤ _
    rw [Rat.neg_mul]
    constructor <;> grind
theorem mag_one (c : Nat) (q : Int) : mag c 1 q = (c : Rat) * zp q := by
  show (c : Rat) * ((1 : Nat) : Rat)⁻¹ * zp q = _
  rw [show (((1 : Nat) : Rat))⁻¹ = 1 by decide +kernel, Rat.mul_one]
theorem round_val {s : Bool} {c : Nat} {q : Int} (h : ab (rv (.fin s c q)) < zp 1023) : fn (FP.Core.round FP.Core.b64 (.fin s c q)) ∧ near (rv (FP.Core.round FP.Core.b64 (.fin s c q))) (rv (.fin s c q)) := by
  refine rr_val (by decide) ?_ h
  rw [mag_one]
  show ((FP.Core.signed s c : Int) : Rat) * zp q = _
  rw [sgn_ab]
  cases s
  · rfl
  · exact Rat.neg_mul ..
theorem sum_val (s t : Bool) (c d : Nat) (q r : Int) : ∃ v n e, FP.Core.exactSum (.fin s c q) (.fin t d r) = .fin v n e ∧ rv (.fin v n e) = rv (.fin s c q) + rv (.fin t d r) := by
  refine ⟨_, _, _, rfl, ?_⟩
  show ((FP.Core.signed _ _ : Int) : Rat) * zp _ = ((FP.Core.signed s c : Int) : Rat) * zp q + ((FP.Core.signed t d : Int) : Rat) * zp r
  have h1 : ∀ v : Int, FP.Core.signed (FP.Core.sumSign s t v) v.natAbs = v := by
    intro v
    unfold FP.Core.sumSign FP.Core.signed
    by_cases hv : v = 0
    · subst hv; simp
    · rw [if_neg hv]
      by_cases hn : v < 0
      · rw [decide_eq_true hn]; simp; omega
      · rw [decide_eq_false hn]; simp; omega
  rw [h1]
  have h2 : ∀ (s : Bool) (c : Nat) (q e : Int), e ≤ q → ((FP.Core.signed s (FP.Core.inUnits c q e) : Int) : Rat) * zp e = ((FP.Core.signed s c : Int) : Rat) * zp q := by
    intro s c q e h
    unfold FP.Core.inUnits
    rw [FP.Core.signed_mul, Rat.intCast_mul, Rat.mul_assoc]
    have h3 : (((2 ^ (q - e).toNat : Nat) : Int) : Rat) * zp e = zp q := by
      show ((2 ^ (q - e).toNat : Nat) : Rat) * zp e = zp q
      rw [← zp_nat, ← zp_add, show ((q - e).toNat : Int) + e = q by omega]
    rw [h3]
  unfold FP.Core.sumUnits
  rw [Rat.intCast_add, Rat.add_mul, h2 s c q _ (by omega), h2 t d r _ (by omega)]
/-! ===== the operations, between numbers ===== -/
theorem fAdd_val {x y : Dt} (hx : fn x) (hy : fn y) (h : ab (rv x + rv y) < zp 1023) : fn (fAdd x y) ∧ near (rv (fAdd x y)) (rv x + rv y) := by
  obtain ⟨s, c, q, rfl⟩ := hx
  obtain ⟨t, d, r, rfl⟩ := hy
  obtain ⟨v, n, e, h1, h2⟩ := sum_val s t c d q r
  unfold fAdd
  rw [h1, ← h2]
  rw [← h2] at h
  exact round_val h
theorem fn_neg {x : Dt} (hx : fn x) : fn (fNeg x) := by
  obtain ⟨s, c, q, rfl⟩ := hx
  exact ⟨!s, c, q, rfl⟩
theorem rv_neg (x : Dt) : rv (fNeg x) = -rv x := by
  cases x with
  | nan => exact (show (0 : Rat) = -0 by decide +kernel)
  | inf s => exact (show (0 : Rat) = -0 by decide +kernel)
  | fin s c q =>
    show ((FP.Core.signed (!s) c : Int) : Rat) * zp q = -(((FP.Core.signed s c : Int) : Rat) * zp q)
    rw [sgn_ab, sgn_ab]
    cases s
    · exact Rat.neg_mul ..
    · show (c : Rat) * zp q = -(-(c : Rat) * zp q)
      grind
theorem fSub_add (x y : Dt) : fSub x y = fAdd x (fNeg y) := rfl
theorem fSub_val {x y : Dt} (hx : fn x) (hy : fn y) (h : ab (rv x - rv y) < zp 1023) : fn (fSub x y) ∧ near (rv (fSub x y)) (rv x - rv y) := by
  have e : rv x - rv y = rv x + rv (fNeg y) := by rw [rv_neg]; grind
  rw [e] at h ⊢
  exact fAdd_val hx (fn_neg hy) h
theorem fMul_val {x y : Dt} (hx : fn x) (hy : fn y) (h : ab (rv x * rv y) < zp 1023) : fn (fMul x y) ∧ near (rv (fMul x y)) (rv x * rv y) := by
  obtain ⟨s, c, q, rfl⟩ := hx
  obtain ⟨t, d, r, rfl⟩ := hy
  have e : rv (.fin (s != t) (c * d) (q + r)) = rv (.fin s c q) * rv (.fin t d r) := by
    show ((FP.Core.signed (s != t) (c * d) : Int) : Rat) * zp (q + r) = ((FP.Core.signed s c : Int) : Rat) * zp q * (((FP.Core.signed t d : Int) : Rat) * zp r)
    rw [sgn_ab, sgn_ab, sgn_ab, zp_add, Rat.natCast_mul]
    cases s <;> cases t <;> simp <;> grind
  rw [← e] at h ⊢
  exact round_val h
theorem fDiv_val {x y : Dt} (hx : fn x) (hy : fn y) (h0 : rv y ≠ 0) (h : ab (rv x / rv y) < zp 1023) : fn (fDiv x y) ∧ near (rv (fDiv x y)) (rv x / rv y) := by
  obtain ⟨s, c, q, rfl⟩ := hx
  obtain ⟨t, d, r, rfl⟩ := hy
  have hd : ¬ d = 0 := by
    intro hd
    subst hd
    apply h0
    show ((FP.Core.signed t 0 : Int) : Rat) * zp r = 0
    rw [FP.Core.signed_zero]
    exact Rat.zero_mul _
  have hd' : (d : Rat) ≠ 0 := fun h => hd (Rat.natCast_eq_zero_iff.mp h)
  have e1 : fDiv (.fin s c q) (.fin t d r) = FP.Core.roundRatio FP.Core.b64 (s != t) c d (q - r) := by
    show (if d = 0 then _ else _) = _
    rw [if_neg hd]
  rw [e1]
  refine rr_val (by omega) ?_ h
  have hzr : zp r ≠ 0 := fun h => absurd (zp_pos r) (by rw [h]; decide +kernel)
  have hq : zp q = zp (q - r) * zp r := by rw [← zp_add, show q - r + r = q by omega]
  show ((FP.Core.signed s c : Int) : Rat) * zp q / (((FP.Core.signed t d : Int) : Rat) * zp r) = _
  rw [sgn_ab, sgn_ab, hq]
  show _ = if (s != t) = true then -((c : Rat) / (d : Rat) * zp (q - r)) else (c : Rat) / (d : Rat) * zp (q - r)
  generalize zp (q - r) = Z
  generalize zp r = R at hzr
  generalize (c : Rat) = C
  generalize (d : Rat) = D at hd'
  have hDR : D * R ≠ 0 := fun h => (Rat.mul_eq_zero.mp h).elim hd' hzr
  have key : C * (Z * R) / (D * R) = C / D * Z := by
    have h1 : C * (Z * R) / (D * R) * (D * R) = C * (Z * R) := Rat.div_mul_cancel hDR
    have h2 : C / D * D = C := Rat.div_mul_cancel hd'
    have h3 : (C / D * Z) * (D * R) = C * (Z * R) := by
      generalize C / D = E at h2
      rw [← h2]; grind
    have h4 : (C * (Z * R) / (D * R) - C / D * Z) * (D * R) = 0 := by grind
    rcases Rat.mul_eq_zero.mp h4 with h5 | h5
    · grind
    · exact absurd h5 hDR
  have n1 : ∀ a b : Rat, -a / b = -(a / b) := fun a b => Rat.neg_mul ..
  have n2 : ∀ a b : Rat, b ≠ 0 → a / -b = -(a / b) := by
    intro a b hb
    have h1 : a / -b * -b = a := Rat.div_mul_cancel (by grind)
    have h2 : a / b * b = a := Rat.div_mul_cancel hb
    have h3 : (a / -b + a / b) * b = 0 := by grind
    rcases Rat.mul_eq_zero.mp h3 with h5 | h5
    · grind
    · exact absurd h5 hb
  cases s <;> cases t
  · exact key
  · show C * (Z * R) / (-D * R) = -(C / D * Z)
    rw [Rat.neg_mul, n2 _ _ hDR, key]
  · show -C * (Z * R) / (D * R) = -(C / D * Z)
    rw [Rat.neg_mul, n1, key]
  · show -C * (Z * R) / (-D * R) = C / D * Z
    rw [Rat.neg_mul, Rat.neg_mul, n1, n2 _ _ hDR, key, Rat.neg_neg]
