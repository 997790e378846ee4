theorem near_mul {k y g G : Rat} (hk : near k y) (hg : ab g ≤ G) (hG : G ≤ zp 1000) : ab (k * g - y * g) ≤ uu * ab (y * g) + 1 / 1000000 := by
  have e : k * g - y * g = (k - y) * g := by grind
  rw [e, ab_mul, ab_mul]
  unfold near at hk
  have h1 := Rat.mul_le_mul_of_nonneg_right hk (ab_nonneg g)
  have h2 := Rat.mul_le_mul_of_nonneg_left (Rat.le_trans hg hG) (Rat.le_of_lt ty_pos)
  have h3 := ty_1000
  grind
theorem yg_bound {k y g m G : Rat} (hk : near k y) (hg : ab g ≤ G) (hG : G ≤ zp 1000) (hm : 0 < m) (hy : y * m = g) (h : k * g ≤ 1000003) : y * g ≤ 1000004 := by
  have h1 := near_mul hk hg hG
  have h0 : 0 ≤ y * g := by
    rw [← hy]
    have : y * (y * m) = (y * y) * m := by grind
    rw [this]
    refine Rat.mul_nonneg ?_ (Rat.le_of_lt hm)
    rcases ab_def y with h | h
    · exact Rat.mul_nonneg h.1 h.1
    · have := Rat.mul_nonneg (show 0 ≤ -y by grind) (show 0 ≤ -y by grind)
      grind
  rw [ab_of_nonneg h0] at h1
  have h2 := ab_le.mp h1
  grind
theorem sq_ab {a b C m : Rat} (h1 : a * a ≤ C * m) (h2 : b * b ≤ C * m) : ab (a * b) ≤ C * m := by
  have sq : ∀ x : Rat, 0 ≤ x * x := by
    intro x
    rcases ab_def x with h | h
    · exact Rat.mul_nonneg h.1 h.1
    · have := Rat.mul_nonneg (show 0 ≤ -x by grind) (show 0 ≤ -x by grind)
      grind
  have k1 := sq (a - b)
  have k2 := sq (a + b)
  rw [ab_le]
  constructor <;> grind
theorem tri_end {A B D T Z X Y c p t : Rat} (e4 : A ≤ uu * D + T) (hT : T ≤ 1) (hd : D ≤ Z + (uu * Z + t)) (ht : t ≤ 1) (hpz : Z ≤ p + 1000006) (d2 : B ≤ uu * Z + t) (hz : c ≤ 1000006) (e6 : X ≤ A + Y) (e7 : Y ≤ B + c) (hp : 0 ≤ p) : X ≤ 2097152 + p / 2251799813685248 := by
  grind
/-- a step that isn't reset -/
theorem rls_live {n : Nat} {mu : Dt} {P : Nat → Nat → Dt} {xi : Nat → Int32} {M : Rat} (hn : n ≤ 4) (hP : okP n M P) (h1 : 1 ≤ M) (hM : M ≤ zp 980) (hx : okX n xi) (hmu : okMu mu) (hlow : ¬ rLow n mu P xi) (hov : ¬ rOv (fun i => rQ n mu P xi i i) n = true) :
    (∀ i, i < n → ab (rv (sOut n (P i) xi)) ≤ 4294967296) ∧ (∀ i j, i < n → j < n → fn (rQ n mu P xi i j) ∧ ab (rv (rQ n mu P xi i j) * rv mu - rv (P i j)) ≤ 2097152 + ab (rv (P i j)) / 2251799813685248) ∧ ∀ i, i < n → 0 ≤ rv (rQ n mu P xi i i) ∧ rv (rQ n mu P xi i i) ≤ 1000000 := by
  obtain ⟨g0, m0, G, g1, g2, g3, g4, mG⟩ := rls_gm hn hP.1 h1 hM hx hmu
  obtain ⟨hm, hk⟩ := rls_k hn hP.1 h1 hM hx hmu hlow
  have hb := rOv_no hov
  have hm0 : 0 < rv (sM n mu P xi) := by grind
  have hmn : rv (sM n mu P xi) ≠ 0 := fun e => by rw [e] at hm0; exact Rat.lt_irrefl hm0
  have hy : ∀ i, rv (sOut n (P i) xi) / rv (sM n mu P xi) * rv (sM n mu P xi) = rv (sOut n (P i) xi) := fun i => Rat.div_mul_cancel hmn
  have hmu0 := mu_pos0 hmu
  have hyg : ∀ i, i < n → rv (sOut n (P i) xi) / rv (sM n mu P xi) * rv (sOut n (P i) xi) ≤ 1000004 := by
    intro i hi
    have h2 := kg_bound (hP.1 i i hi hi).1 (hP.2 i hi).1 (hP.2 i hi).2 (hk i hi).1 (g0 i hi) hmu (hb i hi)
    exact yg_bound (hk i hi).2 (g3 i hi) g2 hm0 (hy i) h2
  have hgg : ∀ i, i < n → rv (sOut n (P i) xi) * rv (sOut n (P i) xi) ≤ 1000004 * rv (sM n mu P xi) := by
    intro i hi
    have h2 := Rat.mul_le_mul_of_nonneg_right (hyg i hi) (Rat.le_of_lt hm0)
    have h3 := hy i
    generalize rv (sOut n (P i) xi) / rv (sM n mu P xi) = y at h2 h3
    have h4 : y * rv (sOut n (P i) xi) * rv (sM n mu P xi) = (y * rv (sM n mu P xi)) * rv (sOut n (P i) xi) := by grind
    rw [h4, h3] at h2
    exact h2
  have hG : G ≤ 4003016012 := by
    rcases g4 with g4 | ⟨i, hi, g4⟩
    · grind
    · have h2 := hgg i hi
      have h3 : G * G = rv (sOut n (P i) xi) * rv (sOut n (P i) xi) := by
        rw [g4, ← ab_mul]
        refine ab_of_nonneg ?_
        generalize rv (sOut n (P i) xi) = x
        rcases ab_def x with h | h
        · exact Rat.mul_nonneg h.1 h.1
        · have := Rat.mul_nonneg (show 0 ≤ -x by grind) (show 0 ≤ -x by grind)
          grind
      have h4 := (ab_le.mp mG).2
      refine Rat.le_of_mul_le_mul_right (c := G) ?_ (by grind)
      rw [h3]
      grind
  have hmain : ∀ i j, i < n → j < n → fn (rQ n mu P xi i j) ∧ ab (rv (rQ n mu P xi i j) * rv mu - rv (P i j)) ≤ 2097152 + ab (rv (P i j)) / 2251799813685248 := by
    intro i j hi hj
    have hgj := g3 j hj
    have hyj : ab (rv (sOut n (P i) xi) / rv (sM n mu P xi) * rv (sOut n (P j) xi)) ≤ 1000004 := by
      have h2 := ab_le.mp (sq_ab (hgg i hi) (hgg j hj))
      have h3 := hy i
      generalize rv (sOut n (P i) xi) / rv (sM n mu P xi) = y at h3 ⊢
      have h4 : y * rv (sOut n (P j) xi) * rv (sM n mu P xi) = rv (sOut n (P i) xi) * rv (sOut n (P j) xi) := by
        rw [← h3]; grind
      rw [ab_le]
      constructor
      · exact Rat.le_of_mul_le_mul_right (by rw [h4]; grind : -1000004 * rv (sM n mu P xi) ≤ _) hm0
      · exact Rat.le_of_mul_le_mul_right (by rw [h4]; exact h2.2) hm0
    have hkg := near_mul (hk i hi).2 hgj g2
    have z1 := zp_980
    have z2 := zp_980b
    have z3 := zp_1000b
    have z4 := zp_1022
    have t1 := ty_pos
    have t2 := ty_small
    have kk := (hk i hi).1
    have gg := g0 j hj
    obtain ⟨p1, p2⟩ := hP.1 i j hi hj
    have hkg2 : ab (rv (rK n mu P xi i) * rv (sOut n (P j) xi)) ≤ 1000005 := by
      have a1 := ab_le.mp hkg
      have a2 := ab_le.mp hyj
      rw [ab_le]
      constructor <;> grind
    obtain ⟨q1, q2⟩ := fMul_val kk gg (by grind)
    show fn (fDiv (fSub (P i j) (fMul (rK n mu P xi i) (sOut n (P j) xi))) mu) ∧ ab (rv (fDiv (fSub (P i j) (fMul (rK n mu P xi i) (sOut n (P j) xi))) mu) * rv mu - rv (P i j)) ≤ _
    generalize fMul (rK n mu P xi i) (sOut n (P j) xi) = z at q1 q2 ⊢
    unfold near at q2
    have hz : ab (rv z) ≤ 1000006 := by
      have a1 := ab_le.mp q2
      have a2 := ab_le.mp hkg2
      rw [ab_le]
      constructor <;> grind
    have hpz : ab (rv (P i j) - rv z) ≤ ab (rv (P i j)) + 1000006 := by
      have := ab_sub (rv (P i j)) (rv z)
      grind
    obtain ⟨d1, d2⟩ := fSub_val p1 q1 (by grind)
    generalize fSub (P i j) z = d at d1 d2 ⊢
    unfold near at d2
    have hd : ab (rv d) ≤ ab (rv (P i j) - rv z) + (uu * ab (rv (P i j) - rv z) + ty) := by
      have := ab_add (rv d - (rv (P i j) - rv z)) (rv (P i j) - rv z)
      rw [show rv d - (rv (P i j) - rv z) + (rv (P i j) - rv z) = rv d by grind] at this
      grind
    have hmn2 : rv mu ≠ 0 := fun e => by rw [e] at hmu0; exact Rat.lt_irrefl hmu0
    have hm2 := hmu.2
    have hdm : ab (rv d / rv mu) ≤ zp 1000 := by
      refine div_ab hmu0 ?_
      have := Rat.mul_le_mul_of_nonneg_left hm2.1 (Rat.le_of_lt (zp_pos 1000))
      grind
    obtain ⟨e1, e2⟩ := fDiv_val d1 hmu.1 hmn2 (by grind)
    refine ⟨e1, ?_⟩
    have hyd : rv d / rv mu * rv mu = rv d := Rat.div_mul_cancel hmn2
    unfold near at e2
    have e3 := Rat.mul_le_mul_of_nonneg_right e2 (Rat.le_of_lt hmu0)
    have e4 : ab (rv (fDiv d mu) * rv mu - rv d) ≤ uu * ab (rv d) + ty * rv mu := by
      generalize rv d / rv mu = y at hyd e3
      rw [← hyd]
      have a1 : ab (rv (fDiv d mu) * rv mu - y * rv mu) = ab (rv (fDiv d mu) - y) * rv mu := by
        rw [show rv (fDiv d mu) * rv mu - y * rv mu = (rv (fDiv d mu) - y) * rv mu by grind, ab_mul, ab_of_nonneg (Rat.le_of_lt hmu0)]
      have a2 : ab (y * rv mu) = ab y * rv mu := by rw [ab_mul, ab_of_nonneg (Rat.le_of_lt hmu0)]
      rw [a1, a2]
      grind
    have e5 : ty * rv mu ≤ 1 := by
      have := Rat.mul_le_mul_of_nonneg_left hm2.2 (Rat.le_of_lt t1)
      grind
    have e6 := ab_add (rv (fDiv d mu) * rv mu - rv d) (rv d - rv (P i j))
    have e7 := ab_add (rv d - (rv (P i j) - rv z)) (-rv z)
    rw [ab_neg] at e7
    rw [show rv (fDiv d mu) * rv mu - rv d + (rv d - rv (P i j)) = rv (fDiv d mu) * rv mu - rv (P i j) by grind] at e6
    rw [show rv d - (rv (P i j) - rv z) + -rv z = rv d - rv (P i j) by grind] at e7
    exact tri_end e4 e5 hd (by grind : ty ≤ 1) hpz d2 hz e6 e7 (ab_nonneg _)
  exact ⟨fun i hi => by have := g3 i hi; grind, hmain, fun i hi => bad_no (hmain i i hi hi).1 (hb i hi)⟩
