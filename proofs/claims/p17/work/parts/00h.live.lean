/-! ===== a step without a reset ===== -/
theorem mu_pos0 {mu : Dt} (h : okMu mu) : 0 < rv mu := by
  have := h.2.1
  grind
theorem bad_no {q : Dt} (hq : fn q) (h : ¬ rBad q) : 0 ≤ rv q ∧ rv q ≤ 1000000 := by
  have h1 : ¬ rv q < 0 := fun z => h (Or.inr ((fO_val hq c_zero.1).1.mpr (by rw [c_zero.2]; exact z)))
  have h2 : ¬ 1000000 < rv q := fun z => h (Or.inl ((fO_val hq c_1e6.1).2.1.mpr (by rw [c_1e6.2]; exact z)))
  exact ⟨Rat.not_lt.mp h1, Rat.not_lt.mp h2⟩
theorem kg_bound {p k g mu : Dt} (hp : fn p) (p0 : 0 ≤ rv p) (p1 : rv p ≤ 1000000) (hk : fn k) (hg : fn g) (hmu : okMu mu) (h : ¬ rBad (fDiv (fSub p (fMul k g)) mu)) : rv k * rv g ≤ 1000003 := by
  have hm0 := mu_pos0 hmu
  obtain ⟨m1, m2, m3⟩ := hmu
  rcases fMul_ext hk hg with ⟨k1, k2⟩ | ⟨v, e, -⟩
  · rcases fSub_ext hp k1 with ⟨d1, d2⟩ | ⟨v, e, -⟩
    · rcases fDiv_ext d1 m1 hm0 with ⟨q1, q2⟩ | ⟨v, e, -⟩
      · have q0 := (bad_no q1 h).1
        refine Rat.not_lt.mp fun hc => ?_
        have t1 := ty_pos
        have t2 := ty_small
        unfold near at k2 d2 q2
        have hyd : rv (fSub p (fMul k g)) / rv mu * rv mu = rv (fSub p (fMul k g)) := Rat.div_mul_cancel (fun e => by rw [e] at hm0; exact Rat.lt_irrefl hm0)
        generalize rv (fDiv (fSub p (fMul k g)) mu) = Q at q0 q2
        generalize rv (fSub p (fMul k g)) / rv mu = y at q2 hyd
        generalize rv (fSub p (fMul k g)) = d at d2 hyd
        generalize rv (fMul k g) = z at k2 d2
        generalize rv k * rv g = x at hc k2
        generalize rv p = P at *
        generalize rv mu = M at *
        rw [ab_of_nonneg (by grind : 0 ≤ x)] at k2
        have k3 := ab_le.mp k2
        have hz : 1000002 ≤ z := by grind
        have e1 : ab (P - z) = z - P := by
          rw [← ab_neg, show -(P - z) = z - P by grind]
          exact ab_of_nonneg (by grind)
        rw [e1] at d2
        have d3 := ab_le.mp d2
        have hd : d ≤ -1 := by grind
        have hy : y ≤ -9 / 10 := by
          refine Rat.not_lt.mp fun hc => ?_
          have := Rat.mul_nonneg (show 0 ≤ y + 9 / 10 by grind) (Rat.le_of_lt hm0)
          grind
        have e2 : ab y = -y := by
          rw [← ab_neg]
          exact ab_of_nonneg (by grind)
        rw [e2] at q2
        have q3 := ab_le.mp q2
        grind
      · rw [e] at h; exact absurd (bad_inf v) h
    · rw [e, fDiv_inf m1 hm0] at h
      exact absurd (bad_inf v) h
  · rw [e, fSub_inf hp, fDiv_inf m1 hm0] at h
    exact absurd (bad_inf _) h
theorem zp_980 : zp 980 * 10000 ≤ zp 1000 := by decide +kernel
theorem zp_1000b : zp 1000 * 1000003 < zp 1022 := by decide +kernel
theorem ty_1000 : ty * zp 1000 ≤ 1 / 1000000 := by decide +kernel
theorem zp_980b : 1000000 ≤ zp 980 := by decide +kernel
theorem div_ab {a b B : Rat} (hb : 0 < b) (h : ab a ≤ B * b) : ab (a / b) ≤ B := by
  have e : a / b * b = a := Rat.div_mul_cancel (fun e => by rw [e] at hb; exact Rat.lt_irrefl hb)
  generalize a / b = y at e ⊢
  rw [← e] at h
  have h1 := ab_le.mp h
  rw [ab_le]
  constructor
  · exact Rat.le_of_mul_le_mul_right (by grind : -B * b ≤ y * b) hb
  · exact Rat.le_of_mul_le_mul_right h1.2 hb
/-- the rows times the window, and m -/
theorem rls_gm {n : Nat} {mu : Dt} {P : Nat → Nat → Dt} {xi : Nat → Int32} {M : Rat} (hn : n ≤ 4) (hP : ∀ i j, i < n → j < n → fn (P i j) ∧ ab (rv (P i j)) ≤ M) (h1 : 1 ≤ M) (hM : M ≤ zp 980) (hx : okX n xi) (hmu : okMu mu) :
    (∀ i, i < n → fn (sOut n (P i) xi)) ∧ fn (sM n mu P xi) ∧ ∃ G : Rat, 1 ≤ G ∧ G ≤ zp 1000 ∧ (∀ i, i < n → ab (rv (sOut n (P i) xi)) ≤ G) ∧ (G = 1 ∨ ∃ i, i < n ∧ G = ab (rv (sOut n (P i) xi))) ∧ ab (rv (sM n mu P xi)) ≤ 4003 * G := by
  have z := zp_980
  have z2 := zp_980b
  have hg : ∀ i, i < n → fn (sOut n (P i) xi) ∧ ab (rv (sOut n (P i) xi)) ≤ 4001 * M := by
    intro i hi
    obtain ⟨a, b⟩ := g_val (R := M) hn hx h1 (by grind) (fun j hj => hP i j hi hj)
    refine ⟨a, ?_⟩
    have h2 := rsum_ab (f := fun j => rv (P i j) * xr xi j) (n := n) (B := M * 1000) (fun j hj => mul_ab (hP i j hi hj).2 (hx j hj))
    have hn4 : (n : Rat) ≤ 4 := by
      have := Rat.natCast_le_natCast.mpr hn
      exact this
    have h5 := Rat.mul_le_mul_of_nonneg_right hn4 (show 0 ≤ M * 1000 by grind)
    have k1 := ab_le.mp b
    have k2 := ab_le.mp h2
    rw [ab_le]
    constructor <;> grind
  obtain ⟨G, g1, g2, g3⟩ := gmax (fun i => rv (sOut n (P i) xi)) n
  have hG : G ≤ zp 1000 := by
    rcases g3 with g3 | ⟨i, hi, g3⟩
    · grind
    · have := (hg i hi).2
      grind
  obtain ⟨a, b⟩ := m_val hn hx hmu g1 hG (fun i hi => ⟨(hg i hi).1, g2 i hi⟩)
  exact ⟨fun i hi => (hg i hi).1, a, G, g1, hG, g2, g3, b⟩
/-- where m isn't too small, every k is a number, near g / m -/
theorem rls_k {n : Nat} {mu : Dt} {P : Nat → Nat → Dt} {xi : Nat → Int32} {M : Rat} (hn : n ≤ 4) (hP : ∀ i j, i < n → j < n → fn (P i j) ∧ ab (rv (P i j)) ≤ M) (h1 : 1 ≤ M) (hM : M ≤ zp 980) (hx : okX n xi) (hmu : okMu mu) (hlow : ¬ rLow n mu P xi) :
    1 / 1000001 ≤ rv (sM n mu P xi) ∧ ∀ i, i < n → fn (rK n mu P xi i) ∧ near (rv (rK n mu P xi i)) (rv (sOut n (P i) xi) / rv (sM n mu P xi)) := by
  obtain ⟨g0, m0, G, g1, g2, g3, -, -⟩ := rls_gm hn hP h1 hM hx hmu
  have hm : 1 / 1000001 ≤ rv (sM n mu P xi) := by
    have h2 : ¬ rv (sM n mu P xi) < rv (dV 4517329193108106637) := fun z => hlow ((fO_val m0 c_micro.1).1.mpr z)
    have h3 := Rat.not_lt.mp h2
    have h4 := c_micro.2
    grind
  refine ⟨hm, fun i hi => ?_⟩
  have hm0 : 0 < rv (sM n mu P xi) := by grind
  have hq : ab (rv (sOut n (P i) xi) / rv (sM n mu P xi)) ≤ zp 1000 * 1000001 := by
    refine div_ab hm0 ?_
    have e1 := g3 i hi
    have e2 := Rat.mul_le_mul_of_nonneg_left hm (Rat.le_of_lt (zp_pos 1000))
    grind
  have z1 := zp_1000b
  have z2 := zp_1022
  have z3 := zp_pos 1000
  exact fDiv_val (g0 i hi) m0 (fun e => by rw [e] at hm0; exact Rat.lt_irrefl hm0) (by grind)
