/-! ===== rounding where it may end beyond the doubles ===== -/
theorem round_ext (s : Bool) (c : Nat) (q : Int) : (fn (FP.Core.round FP.Core.b64 (.fin s c q)) ∧ near (rv (FP.Core.round FP.Core.b64 (.fin s c q))) (rv (.fin s c q))) ∨ (∃ v, FP.Core.round FP.Core.b64 (.fin s c q) = .inf v ∧ (v = false → zp 1023 ≤ rv (.fin s c q)) ∧ (v = true → rv (.fin s c q) ≤ -zp 1023)) := by
  by_cases h : ab (rv (.fin s c q)) < zp 1023
  · exact Or.inl (round_val h)
  · have h1 := Rat.not_lt.mp h
    have hz := zp_pos 1023
    have hsg : (s = false → 0 ≤ rv (.fin s c q)) ∧ (s = true → rv (.fin s c q) ≤ 0) := by
      have hc : 0 ≤ (c : Rat) * zp q := Rat.mul_nonneg Rat.natCast_nonneg (Rat.le_of_lt (zp_pos q))
      constructor
      · intro e
        subst e
        exact hc
      · intro e
        subst e
        show -(c : Rat) * zp q ≤ 0
        rw [Rat.neg_mul]
        grind
    cases e : FP.Core.round FP.Core.b64 (.fin s c q) with
    | nan => exact absurd e (rr_nn s c 1 q)
    | inf v =>
      right
      have hv : v = s := by
        have e0 : FP.Core.roundRatio FP.Core.b64 s c 1 q = .inf v := e
        unfold FP.Core.roundRatio at e0
        split at e0
        · cases e0
        · unfold FP.Core.roundAt FP.Core.settle FP.Core.bound at e0
          split at e0
          · split at e0
            · cases e0
            · cases e0; rfl
          · split at e0
            · cases e0
            · cases e0; rfl
      refine ⟨v, rfl, ?_, ?_⟩
      · intro e1
        rw [hv] at e1
        rw [ab_of_nonneg (hsg.1 e1)] at h1
        exact h1
      · intro e1
        rw [hv] at e1
        have h2 := hsg.2 e1
        rcases ab_def (rv (.fin s c q)) with h3 | h3 <;> grind
    | fin t d r =>
      left
      refine ⟨⟨t, d, r, rfl⟩, ?_⟩
      have e0 : FP.Core.roundRatio FP.Core.b64 s c 1 q = .fin t d r := e
      obtain ⟨ht, h2, h3⟩ := rr_near (by decide) e0
      rw [mag_one] at h2 h3
      unfold near
      rw [rv_ab, ab_le]
      subst ht
      show _ ≤ ((FP.Core.signed t d : Int) : Rat) * zp r - ((FP.Core.signed t c : Int) : Rat) * zp q ∧ ((FP.Core.signed t d : Int) : Rat) * zp r - ((FP.Core.signed t c : Int) : Rat) * zp q ≤ _
      rw [sgn_ab, sgn_ab]
      cases t
      · show _ ≤ (d : Rat) * zp r - (c : Rat) * zp q ∧ (d : Rat) * zp r - (c : Rat) * zp q ≤ _
        constructor <;> grind
      · show _ ≤ -(d : Rat) * zp r - -(c : Rat) * zp q ∧ -(d : Rat) * zp r - -(c : Rat) * zp q ≤ _
        rw [Rat.neg_mul, Rat.neg_mul]
        constructor <;> grind
/-- d is x, rounded, or infinite on its side -/
def nearX (d : Dt) (x : Rat) : Prop := (fn d ∧ near (rv d) x) ∨ ∃ v, d = .inf v ∧ (v = false → zp 1023 ≤ x) ∧ (v = true → x ≤ -zp 1023)
theorem fMul_ext {x y : Dt} (hx : fn x) (hy : fn y) : nearX (fMul x y) (rv x * rv y) := by
  obtain ⟨s, c, q, rfl⟩ := hx
  obtain ⟨t, d, r, rfl⟩ := hy
  have e : rv (.fin (s != t) (c * d) (q + r)) = rv (.fin s c q) * rv (.fin t d r) := by
    show ((FP.Core.signed (s != t) (c * d) : Int) : Rat) * zp (q + r) = ((FP.Core.signed s c : Int) : Rat) * zp q * (((FP.Core.signed t d : Int) : Rat) * zp r)
    rw [sgn_ab, sgn_ab, sgn_ab, zp_add, Rat.natCast_mul]
    cases s <;> cases t <;> simp <;> grind
  rw [← e]
  exact round_ext (s != t) (c * d) (q + r)
theorem fAdd_ext {x y : Dt} (hx : fn x) (hy : fn y) : nearX (fAdd x y) (rv x + rv y) := by
  obtain ⟨s, c, q, rfl⟩ := hx
  obtain ⟨t, d, r, rfl⟩ := hy
  obtain ⟨v, n, e, h1, h2⟩ := sum_val s t c d q r
  rw [← h2]
  unfold fAdd
  rw [h1]
  exact round_ext v n e
theorem fSub_ext {x y : Dt} (hx : fn x) (hy : fn y) : nearX (fSub x y) (rv x - rv y) := by
  have e : rv x - rv y = rv x + rv (fNeg y) := by rw [rv_neg]; grind
  rw [e]
  exact fAdd_ext hx (fn_neg hy)
theorem fSub_inf {x : Dt} (hx : fn x) (v : Bool) : fSub x (.inf v) = .inf (!v) := by
  obtain ⟨s, c, q, rfl⟩ := hx
  rfl
/-- a number above 0 has the sign + -/
theorem pos_sign {s : Bool} {c : Nat} {q : Int} (h : 0 < rv (.fin s c q)) : s = false := by
  cases s
  · rfl
  · have hc : 0 ≤ (c : Rat) * zp q := Rat.mul_nonneg Rat.natCast_nonneg (Rat.le_of_lt (zp_pos q))
    have h1 : 0 < -(c : Rat) * zp q := h
    rw [Rat.neg_mul] at h1
    grind
theorem fDiv_inf {y : Dt} (hy : fn y) (h : 0 < rv y) (v : Bool) : fDiv (.inf v) y = .inf v := by
  obtain ⟨t, d, r, rfl⟩ := hy
  have ht := pos_sign h
  subst ht
  show FP.Core.Datum.inf (v != false) = _
  cases v <;> rfl
theorem fDiv_ext {x y : Dt} (hx : fn x) (hy : fn y) (h : 0 < rv y) : (fn (fDiv x y) ∧ near (rv (fDiv x y)) (rv x / rv y)) ∨ ∃ v, fDiv x y = .inf v ∧ (v = false → 0 ≤ rv x) ∧ (v = true → rv x ≤ 0) := by
  by_cases hb : ab (rv x / rv y) < zp 1023
  · exact Or.inl (fDiv_val hx hy (fun e => by rw [e] at h; exact Rat.lt_irrefl h) hb)
  · obtain ⟨s, c, q, rfl⟩ := hx
    obtain ⟨t, d, r, rfl⟩ := hy
    have ht := pos_sign h
    subst ht
    have hd : ¬ d = 0 := by
      intro hd
      subst hd
      have h1 : (0 : Rat) < ((0 : Nat) : Rat) * zp r := h
      rw [show (((0 : Nat) : Rat)) = 0 from rfl, Rat.zero_mul] at h1
      exact Rat.lt_irrefl h1
    have e1 : fDiv (.fin s c q) (.fin false d r) = FP.Core.roundRatio FP.Core.b64 (s != false) c d (q - r) := by
      show (if d = 0 then _ else _) = _
      rw [if_neg hd]
    have es : (s != false) = s := by cases s <;> rfl
    rw [e1, es]
    have hc : 0 ≤ (c : Rat) * zp q := Rat.mul_nonneg Rat.natCast_nonneg (Rat.le_of_lt (zp_pos q))
    have hsg : (s = false → 0 ≤ rv (.fin s c q)) ∧ (s = true → rv (.fin s c q) ≤ 0) := by
      constructor
      · intro e
        subst e
        exact hc
      · intro e
        subst e
        show -(c : Rat) * zp q ≤ 0
        rw [Rat.neg_mul]
        grind
    have hrat : mag c d (q - r) = (c : Rat) * zp q / ((d : Rat) * zp r) := by
      have hd' : (d : Rat) ≠ 0 := fun h => hd (Rat.natCast_eq_zero_iff.mp h)
      have hzr := zp_ne r
      have hq : zp q = zp (q - r) * zp r := by rw [← zp_add, show q - r + r = q by omega]
      rw [hq]
      show (c : Rat) / (d : Rat) * zp (q - r) = _
      generalize zp (q - r) = Z
      generalize zp r = R at hzr
      generalize (c : Rat) = C
      generalize (d : Rat) = D at hd'
      have hDR : D * R ≠ 0 := fun h => (Rat.mul_eq_zero.mp h).elim hd' hzr
      have h1 : C * (Z * R) / (D * R) * (D * R) = C * (Z * R) := Rat.div_mul_cancel hDR
      have h2 : C / D * D = C := Rat.div_mul_cancel hd'
      have h3 : (C / D * Z) * (D * R) = C * (Z * R) := by
        generalize C / D = E at h2
        rw [← h2]; grind
      have h4 : (C * (Z * R) / (D * R) - C / D * Z) * (D * R) = 0 := by grind
      rcases Rat.mul_eq_zero.mp h4 with h5 | h5
      · grind
      · exact absurd h5 hDR
    cases e : FP.Core.roundRatio FP.Core.b64 s c d (q - r) with
    | nan => exact absurd e (rr_nn s c d (q - r))
    | inf v =>
      right
      have hv : v = s := by
        unfold FP.Core.roundRatio at e
        split at e
        · cases e
        · unfold FP.Core.roundAt FP.Core.settle FP.Core.bound at e
          split at e
          · split at e
            · cases e
            · cases e; rfl
          · split at e
            · cases e
            · cases e; rfl
      exact ⟨v, rfl, fun h => hsg.1 (hv ▸ h), fun h => hsg.2 (hv ▸ h)⟩
    | fin t c2 q2 =>
      left
      refine ⟨⟨t, c2, q2, rfl⟩, ?_⟩
      obtain ⟨ht, h2, h3⟩ := rr_near (by omega) e
      subst ht
      have hm := mag_nonneg c d (q - r)
      have hx : rv (.fin t c q) / rv (.fin false d r) = if t then -mag c d (q - r) else mag c d (q - r) := by
        rw [hrat]
        show ((FP.Core.signed t c : Int) : Rat) * zp q / ((d : Rat) * zp r) = _
        rw [sgn_ab]
        cases t
        · rfl
        · show -(c : Rat) * zp q / _ = -((c : Rat) * zp q / _)
          rw [Rat.neg_mul]
          exact Rat.neg_mul ..
      rw [hx]
      unfold near
      rw [ab_le]
      show _ ≤ ((FP.Core.signed t c2 : Int) : Rat) * zp q2 - _ ∧ ((FP.Core.signed t c2 : Int) : Rat) * zp q2 - _ ≤ _
      rw [sgn_ab]
      cases t
      · show -(uu * ab (mag c d (q - r)) + ty) ≤ (c2 : Rat) * zp q2 - mag c d (q - r) ∧ (c2 : Rat) * zp q2 - mag c d (q - r) ≤ uu * ab (mag c d (q - r)) + ty
        rw [ab_of_nonneg hm]
        constructor <;> grind
      · show -(uu * ab (-mag c d (q - r)) + ty) ≤ -(c2 : Rat) * zp q2 - -mag c d (q - r) ∧ -(c2 : Rat) * zp q2 - -mag c d (q - r) ≤ uu * ab (-mag c d (q - r)) + ty
        rw [ab_neg, ab_of_nonneg hm, Rat.neg_mul]
        constructor <;> grind
