/-! ===== three windows that a huge row learned are in one plane ===== -/
def det3 (a0 a1 a2 b0 b1 b2 c0 c1 c2 : Int) : Int := a0 * (b1 * c2 - b2 * c1) - a1 * (b0 * c2 - b2 * c0) + a2 * (b0 * c1 - b1 * c0)
abbrev wi (w : Nat → Int32) (k : Nat) : Int := (w k).toInt
def offI (i : Nat) : Nat × Nat × Nat := if i = 0 then (1, 2, 3) else if i = 1 then (0, 2, 3) else if i = 2 then (0, 1, 3) else (0, 1, 2)
def detI (i : Nat) (a b c : Nat → Int32) : Int := det3 (wi a (offI i).1) (wi a (offI i).2.1) (wi a (offI i).2.2) (wi b (offI i).1) (wi b (offI i).2.1) (wi b (offI i).2.2) (wi c (offI i).1) (wi c (offI i).2.1) (wi c (offI i).2.2)
theorem minor_ab {a b c d : Rat} (ha : ab a ≤ 1000) (hb : ab b ≤ 1000) (hc : ab c ≤ 1000) (hd : ab d ≤ 1000) : ab (a * b - c * d) ≤ 2000000 := by
  have h1 := mul_ab ha hb
  have h2 := mul_ab hc hd
  have h3 := ab_sub (a * b) (c * d)
  grind
theorem int_ab {z : Int} (h : z ≠ 0) : 1 ≤ ab (z : Rat) := by
  rcases (show z ≤ -1 ∨ 1 ≤ z by omega) with h1 | h1
  · have h2 : (z : Rat) ≤ ((-1 : Int) : Rat) := Rat.intCast_le_intCast.mpr h1
    have h3 : ((-1 : Int) : Rat) = -1 := rfl
    have := neg_le_ab (z : Rat)
    grind
  · have h2 : ((1 : Int) : Rat) ≤ (z : Rat) := Rat.intCast_le_intCast.mpr h1
    have h3 : ((1 : Int) : Rat) = 1 := rfl
    have := le_ab (z : Rat)
    grind
theorem cramer {a0 a1 a2 b0 b1 b2 c0 c1 c2 : Int} {v0 v1 v2 E : Rat} (hD : det3 a0 a1 a2 b0 b1 b2 c0 c1 c2 ≠ 0)
    (ha1 : ab (a1 : Rat) ≤ 1000) (ha2 : ab (a2 : Rat) ≤ 1000) (hb1 : ab (b1 : Rat) ≤ 1000) (hb2 : ab (b2 : Rat) ≤ 1000) (hc1 : ab (c1 : Rat) ≤ 1000) (hc2 : ab (c2 : Rat) ≤ 1000)
    (ea : ab (v0 * a0 + v1 * a1 + v2 * a2) ≤ E) (eb : ab (v0 * b0 + v1 * b1 + v2 * b2) ≤ E) (ec : ab (v0 * c0 + v1 * c1 + v2 * c2) ≤ E) : ab v0 ≤ 6000000 * E := by
  have hk := int_ab hD
  have e : ((det3 a0 a1 a2 b0 b1 b2 c0 c1 c2 : Int) : Rat) * v0 = (v0 * a0 + v1 * a1 + v2 * a2) * ((b1 : Rat) * c2 - b2 * c1) - (v0 * b0 + v1 * b1 + v2 * b2) * ((a1 : Rat) * c2 - a2 * c1) + (v0 * c0 + v1 * c1 + v2 * c2) * ((a1 : Rat) * b2 - a2 * b1) := by
    unfold det3
    simp only [Rat.intCast_add, Rat.intCast_sub, Rat.intCast_mul]
    grind
  have m1 := mul_ab ea (minor_ab hb1 hc2 hb2 hc1)
  have m2 := mul_ab eb (minor_ab ha1 hc2 ha2 hc1)
  have m3 := mul_ab ec (minor_ab ha1 hb2 ha2 hb1)
  have h1 := ab_add ((v0 * a0 + v1 * a1 + v2 * a2) * ((b1 : Rat) * c2 - b2 * c1) - (v0 * b0 + v1 * b1 + v2 * b2) * ((a1 : Rat) * c2 - a2 * c1)) ((v0 * c0 + v1 * c1 + v2 * c2) * ((a1 : Rat) * b2 - a2 * b1))
  have h2 := ab_sub ((v0 * a0 + v1 * a1 + v2 * a2) * ((b1 : Rat) * c2 - b2 * c1)) ((v0 * b0 + v1 * b1 + v2 * b2) * ((a1 : Rat) * c2 - a2 * c1))
  rw [← e, ab_mul] at h1
  have h3 := Rat.mul_le_mul_of_nonneg_right hk (ab_nonneg v0)
  grind
theorem cramer3 {a0 a1 a2 b0 b1 b2 c0 c1 c2 : Int} {v0 v1 v2 E : Rat} (hD : det3 a0 a1 a2 b0 b1 b2 c0 c1 c2 ≠ 0)
    (ha0 : ab (a0 : Rat) ≤ 1000) (ha1 : ab (a1 : Rat) ≤ 1000) (ha2 : ab (a2 : Rat) ≤ 1000) (hb0 : ab (b0 : Rat) ≤ 1000) (hb1 : ab (b1 : Rat) ≤ 1000) (hb2 : ab (b2 : Rat) ≤ 1000) (hc0 : ab (c0 : Rat) ≤ 1000) (hc1 : ab (c1 : Rat) ≤ 1000) (hc2 : ab (c2 : Rat) ≤ 1000)
    (ea : ab (v0 * a0 + v1 * a1 + v2 * a2) ≤ E) (eb : ab (v0 * b0 + v1 * b1 + v2 * b2) ≤ E) (ec : ab (v0 * c0 + v1 * c1 + v2 * c2) ≤ E) : ab v0 ≤ 6000000 * E ∧ ab v1 ≤ 6000000 * E ∧ ab v2 ≤ 6000000 * E := by
  refine ⟨cramer hD ha1 ha2 hb1 hb2 hc1 hc2 ea eb ec, ?_, ?_⟩
  · refine cramer (a0 := a1) (a1 := a0) (a2 := a2) (b0 := b1) (b1 := b0) (b2 := b2) (c0 := c1) (c1 := c0) (c2 := c2) (v1 := v0) (v2 := v2) ?_ ha0 ha2 hb0 hb2 hc0 hc2 ?_ ?_ ?_
    · intro h; apply hD; unfold det3 at h ⊢; grind
    · rw [show v1 * (a1 : Rat) + v0 * a0 + v2 * a2 = v0 * a0 + v1 * a1 + v2 * a2 by grind]; exact ea
    · rw [show v1 * (b1 : Rat) + v0 * b0 + v2 * b2 = v0 * b0 + v1 * b1 + v2 * b2 by grind]; exact eb
    · rw [show v1 * (c1 : Rat) + v0 * c0 + v2 * c2 = v0 * c0 + v1 * c1 + v2 * c2 by grind]; exact ec
  · refine cramer (a0 := a2) (a1 := a1) (a2 := a0) (b0 := b2) (b1 := b1) (b2 := b0) (c0 := c2) (c1 := c1) (c2 := c0) (v1 := v1) (v2 := v0) ?_ ha1 ha0 hb1 hb0 hc1 hc0 ?_ ?_ ?_
    · intro h; apply hD; unfold det3 at h ⊢; grind
    · rw [show v2 * (a2 : Rat) + v1 * a1 + v0 * a0 = v0 * a0 + v1 * a1 + v2 * a2 by grind]; exact ea
    · rw [show v2 * (b2 : Rat) + v1 * b1 + v0 * b0 = v0 * b0 + v1 * b1 + v2 * b2 by grind]; exact eb
    · rw [show v2 * (c2 : Rat) + v1 * c1 + v0 * c0 = v0 * c0 + v1 * c1 + v2 * c2 by grind]; exact ec
theorem offI_lt (i : Nat) (hi : i < 4) : (offI i).1 < 4 ∧ (offI i).2.1 < 4 ∧ (offI i).2.2 < 4 := by
  rcases (show i = 0 ∨ i = 1 ∨ i = 2 ∨ i = 3 by omega) with h | h | h | h <;> subst h <;> decide
theorem offI_all {i : Nat} (hi : i < 4) {j : Nat} (hj : j < 4) (hne : j ≠ i) : j = (offI i).1 ∨ j = (offI i).2.1 ∨ j = (offI i).2.2 := by
  rcases (show i = 0 ∨ i = 1 ∨ i = 2 ∨ i = 3 by omega) with h | h | h | h <;> subst h <;> rcases (show j = 0 ∨ j = 1 ∨ j = 2 ∨ j = 3 by omega) with h | h | h | h <;> subst h <;> first | (exact absurd rfl hne) | decide
theorem dot_off {i : Nat} (hi : i < 4) (v : Nat → Rat) (w : Nat → Int32) : dot v w = v (offI i).1 * (wi w (offI i).1 : Rat) + v (offI i).2.1 * (wi w (offI i).2.1 : Rat) + v (offI i).2.2 * (wi w (offI i).2.2 : Rat) + v i * xr w i := by
  unfold dot
  rcases (show i = 0 ∨ i = 1 ∨ i = 2 ∨ i = 3 by omega) with h | h | h | h <;> subst h <;> simp [offI] <;> grind
theorem three {i : Nat} (hi : i < 4) {v : Nat → Rat} {R : Rat} (hR : top v R) (hR0 : 1180591620717411303424 ≤ R) (hvi : ab (v i) ≤ 1000000) {a b c : Nat → Int32}
    (wa : ∀ j, j < 4 → ab (xr a j) ≤ 1000) (wb : ∀ j, j < 4 → ab (xr b j) ≤ 1000) (wc : ∀ j, j < 4 → ab (xr c j) ≤ 1000)
    (da : ab (dot v a) ≤ 2002 * R / 68719476736) (db : ab (dot v b) ≤ 2002 * R / 68719476736) (dc : ab (dot v c) ≤ 2002 * R / 68719476736) : detI i a b c = 0 := by
  refine Classical.byContradiction fun hD => ?_
  obtain ⟨o1, o2, o3⟩ := offI_lt i hi
  have part : ∀ w : Nat → Int32, (∀ j, j < 4 → ab (xr w j) ≤ 1000) → ab (dot v w) ≤ 2002 * R / 68719476736 → ab (v (offI i).1 * (wi w (offI i).1 : Rat) + v (offI i).2.1 * (wi w (offI i).2.1 : Rat) + v (offI i).2.2 * (wi w (offI i).2.2 : Rat)) ≤ 2002 * R / 68719476736 + 1000000000 := by
    intro w hw hd
    rw [dot_off hi] at hd
    have h1 := mul_ab hvi (hw i hi)
    generalize v (offI i).1 * (wi w (offI i).1 : Rat) + v (offI i).2.1 * (wi w (offI i).2.1 : Rat) + v (offI i).2.2 * (wi w (offI i).2.2 : Rat) = y at hd ⊢
    have h2 := ab_sub (y + v i * xr w i) (v i * xr w i)
    rw [show y + v i * xr w i - v i * xr w i = y by grind] at h2
    grind
  have hc := cramer3 (v0 := v (offI i).1) (v1 := v (offI i).2.1) (v2 := v (offI i).2.2) hD (wa _ o1) (wa _ o2) (wa _ o3) (wb _ o1) (wb _ o2) (wb _ o3) (wc _ o1) (wc _ o2) (wc _ o3) (part a wa da) (part b wb db) (part c wc dc)
  obtain ⟨h1, j, hj, h2⟩ := hR
  by_cases hne : j = i
  · rw [hne] at h2
    grind
  · rcases offI_all hi hj hne with e | e | e
    · rw [e] at h2; grind
    · rw [e] at h2; grind
    · rw [e] at h2; grind
