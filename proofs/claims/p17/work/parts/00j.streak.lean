/-! ===== a huge row of the square, and the windows that it learned ===== -/
def rw4 (n : Nat) (P : Nat → Nat → Dt) (i j : Nat) : Rat := if j < n then rv (P i j) else 0
def dot (v : Nat → Rat) (w : Nat → Int32) : Rat := v 0 * xr w 0 + v 1 * xr w 1 + v 2 * xr w 2 + v 3 * xr w 3
theorem dot_rsum {n : Nat} (hn : n ≤ 4) (P : Nat → Nat → Dt) (i : Nat) (w : Nat → Int32) : rsum (fun j => rv (P i j) * xr w j) n = dot (rw4 n P i) w := by
  have h : n = 0 ∨ n = 1 ∨ n = 2 ∨ n = 3 ∨ n = 4 := by omega
  unfold dot rw4
  rcases h with h | h | h | h | h <;> subst h <;> simp [rsum] <;> grind
/-- R is the greatest size in v -/
def top (v : Nat → Rat) (R : Rat) : Prop := (∀ j, j < 4 → ab (v j) ≤ R) ∧ ∃ j, j < 4 ∧ ab (v j) = R
theorem top_ex (v : Nat → Rat) : ∃ R, top v R := by
  have key : ∀ n : Nat, ∃ R, (∀ j, j < n + 1 → ab (v j) ≤ R) ∧ ∃ j, j < n + 1 ∧ ab (v j) = R := by
    intro n
    induction n with
    | zero => exact ⟨ab (v 0), fun j hj => by rw [show j = 0 by omega]; exact Rat.le_refl, 0, by omega, rfl⟩
    | succ n ih =>
      obtain ⟨R, h1, j, h2, h3⟩ := ih
      by_cases h : ab (v (n + 1)) ≤ R
      · refine ⟨R, fun k hk => ?_, j, by omega, h3⟩
        by_cases e : k = n + 1
        · rw [e]; exact h
        · exact h1 k (by omega)
      · have h' := Rat.not_le.mp h
        refine ⟨ab (v (n + 1)), fun k hk => ?_, n + 1, by omega, rfl⟩
        by_cases e : k = n + 1
        · rw [e]; exact Rat.le_refl
        · have := h1 k (by omega)
          grind
  exact key 3
/-- one step that isn't reset, of a row -/
def stepR (v u : Nat → Rat) (s : Rat) : Prop := 1125899906842623 / 2251799813685248 ≤ s ∧ s ≤ 1001 / 1000 ∧ ∀ j, j < 4 → ab (u j * s - v j) ≤ 2097152 + ab (v j) / 2251799813685248
theorem step_top {v u : Nat → Rat} {s R S : Rat} (h : stepR v u s) (hR : top v R) (hS : top u S) (hR0 : 1180591620717411303424 ≤ R) : R * (281474976710655 / 281474976710656) ≤ S * s := by
  obtain ⟨h1, h2, h3⟩ := h
  obtain ⟨r1, j, hj, r2⟩ := hR
  have a1 := h3 j hj
  have a2 := hS.1 j hj
  have a3 := ab_add (u j * s - v j) (-(u j * s))
  rw [show u j * s - v j + -(u j * s) = -v j by grind, ab_neg, ab_neg, ab_mul, ab_of_nonneg (show 0 ≤ s by grind)] at a3
  have a4 := Rat.mul_le_mul_of_nonneg_right a2 (show 0 ≤ s by grind)
  grind
theorem step_up {v u : Nat → Rat} {s R : Rat} (h : stepR v u s) (hR : ∀ j, j < 4 → ab (v j) ≤ R) (hR0 : 1180591620717411303424 ≤ R) : ∀ j, j < 4 → ab (u j) ≤ R * (1001 / 500) := by
  obtain ⟨h1, h2, h3⟩ := h
  intro j hj
  have a1 := h3 j hj
  have a2 := hR j hj
  have a3 := ab_add (u j * s - v j) (v j)
  rw [show u j * s - v j + v j = u j * s by grind, ab_mul, ab_of_nonneg (show 0 ≤ s by grind)] at a3
  have a4 := Rat.mul_le_mul_of_nonneg_left h1 (ab_nonneg (u j))
  grind
theorem dot_ab {e : Nat → Rat} {w : Nat → Int32} {B : Rat} (hw : ∀ j, j < 4 → ab (xr w j) ≤ 1000) (he : ∀ j, j < 4 → ab (e j) ≤ B) : ab (dot e w) ≤ 4000 * B := by
  have m : ∀ j, j < 4 → ab (e j * xr w j) ≤ B * 1000 := fun j hj => mul_ab (he j hj) (hw j hj)
  have m0 := m 0 (by omega)
  have m1 := m 1 (by omega)
  have m2 := m 2 (by omega)
  have m3 := m 3 (by omega)
  unfold dot
  have a1 := ab_add (e 0 * xr w 0 + e 1 * xr w 1 + e 2 * xr w 2) (e 3 * xr w 3)
  have a2 := ab_add (e 0 * xr w 0 + e 1 * xr w 1) (e 2 * xr w 2)
  have a3 := ab_add (e 0 * xr w 0) (e 1 * xr w 1)
  grind
theorem dot_step {v u : Nat → Rat} {s R : Rat} {w : Nat → Int32} (h : stepR v u s) (hR : ∀ j, j < 4 → ab (v j) ≤ R) (hw : ∀ j, j < 4 → ab (xr w j) ≤ 1000) : ab (dot u w) * s ≤ ab (dot v w) + 4000 * (2097152 + R / 2251799813685248) := by
  obtain ⟨h1, h2, h3⟩ := h
  have a1 := dot_ab (e := fun j => u j * s - v j) (B := 2097152 + R / 2251799813685248) hw (fun j hj => by have := h3 j hj; have := hR j hj; grind)
  have a2 : dot u w * s = dot (fun j => u j * s - v j) w + dot v w := by unfold dot; grind
  have a3 := ab_add (dot (fun j => u j * s - v j) w) (dot v w)
  rw [← a2, ab_mul, ab_of_nonneg (show 0 ≤ s by grind)] at a3
  grind
/-- how far a window that was learned is off the row behind one more step -/
theorem res_step {v u : Nat → Rat} {s R S C : Rat} {w : Nat → Int32} (h : stepR v u s) (hR : top v R) (hS : top u S) (hR0 : 1180591620717411303424 ≤ R) (hw : ∀ j, j < 4 → ab (xr w j) ≤ 1000) (hC0 : 0 ≤ C) (hC : C ≤ 4000) (hd : ab (dot v w) ≤ C * R / 68719476736) : ab (dot u w) ≤ (C + 1) * S / 68719476736 := by
  have b1 := step_top h hR hS hR0
  have b2 := dot_step h hR.1 hw
  have hs : 0 < s := by have := h.1; grind
  have b3 := Rat.mul_le_mul_of_nonneg_left b1 (show 0 ≤ C + 1 by grind)
  have b4 := Rat.mul_le_mul_of_nonneg_right hC (show 0 ≤ R by grind)
  refine Rat.le_of_mul_le_mul_right (c := s) ?_ hs
  have e1 : (C + 1) * S / 68719476736 * s = (C + 1) * (S * s) / 68719476736 := by grind
  rw [e1]
  grind
theorem res_new {v u : Nat → Rat} {s R S : Rat} {w : Nat → Int32} (h : stepR v u s) (hR : top v R) (hS : top u S) (hR0 : 1180591620717411303424 ≤ R) (hw : ∀ j, j < 4 → ab (xr w j) ≤ 1000) (hd : ab (dot v w) ≤ 4294967296 + R / 68719476736) : ab (dot u w) ≤ 2 * S / 68719476736 := by
  have b1 := step_top h hR hS hR0
  have b2 := dot_step h hR.1 hw
  have hs : 0 < s := by have := h.1; grind
  refine Rat.le_of_mul_le_mul_right (c := s) ?_ hs
  grind
