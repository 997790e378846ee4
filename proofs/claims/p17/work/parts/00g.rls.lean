/-! ===== one step of recursive least squares ===== -/
def sOut (n : Nat) (w : Nat → Dt) (xi : Nat → Int32) : Dt := smN (dV 0) (fun k => fMul (w k) (fI (xi k))) n
def sM (n : Nat) (st : Dt) (P : Nat → Nat → Dt) (xi : Nat → Int32) : Dt := smN st (fun i => fMul (fI (xi i)) (sOut n (P i) xi)) n
def rK (n : Nat) (mu : Dt) (P : Nat → Nat → Dt) (xi : Nat → Int32) (i : Nat) : Dt := fDiv (sOut n (P i) xi) (sM n mu P xi)
def rQ (n : Nat) (mu : Dt) (P : Nat → Nat → Dt) (xi : Nat → Int32) (i j : Nat) : Dt := fDiv (fSub (P i j) (fMul (rK n mu P xi i) (sOut n (P j) xi))) mu
abbrev rLow (n : Nat) (mu : Dt) (P : Nat → Nat → Dt) (xi : Nat → Int32) : Prop := fO (sM n mu P xi) (dV 4517329193108106637) = some .lt
abbrev rBad (d : Dt) : Prop := fO d (dV 4696837146684686336) = some .gt ∨ fO d (dV 0) = some .lt
def rOv (f : Nat → Dt) : Nat → Bool
  | 0 => false
  | j + 1 => rOv f j || decide (rBad (f j))
theorem rOv_no {f : Nat → Dt} {n : Nat} (h : ¬ rOv f n = true) : ∀ i, i < n → ¬ rBad (f i) := by
  induction n with
  | zero => intro i hi; omega
  | succ n ih =>
    have h1 : ¬ (rOv f n || decide (rBad (f n))) = true := h
    rw [Bool.or_eq_true] at h1
    intro i hi
    by_cases e : i = n
    · subst e
      exact fun z => h1 (Or.inr (decide_eq_true z))
    · exact ih (fun z => h1 (Or.inl z)) i (by omega)
theorem bad_inf (v : Bool) : rBad (.inf v) := by
  cases v <;> decide +kernel
def okP (n : Nat) (M : Rat) (P : Nat → Nat → Dt) : Prop := (∀ i j, i < n → j < n → fn (P i j) ∧ ab (rv (P i j)) ≤ M) ∧ ∀ i, i < n → 0 ≤ rv (P i i) ∧ rv (P i i) ≤ 1000000
abbrev xr (xi : Nat → Int32) (k : Nat) : Rat := ((xi k).toInt : Rat)
def okX (n : Nat) (xi : Nat → Int32) : Prop := ∀ k, k < n → ab (xr xi k) ≤ 1000
def okMu (mu : Dt) : Prop := fn mu ∧ 1125899906842623 / 2251799813685248 ≤ rv mu ∧ rv mu ≤ 1001 / 1000
theorem ab_zero : ab 0 = 0 := by decide +kernel
theorem mul_ab {a b A B : Rat} (ha : ab a ≤ A) (hb : ab b ≤ B) : ab (a * b) ≤ A * B := by
  rw [ab_mul]
  have h1 := Rat.mul_le_mul_of_nonneg_right ha (ab_nonneg b)
  have h2 := Rat.mul_le_mul_of_nonneg_left hb (show 0 ≤ A from Rat.le_trans (ab_nonneg a) ha)
  exact Rat.le_trans h1 h2
theorem g_val {n : Nat} {w : Nat → Dt} {xi : Nat → Int32} {R : Rat} (hn : n ≤ 4) (hx : okX n xi) (hR : 1 ≤ R) (hR2 : R ≤ zp 1000) (hw : ∀ j, j < n → fn (w j) ∧ ab (rv (w j)) ≤ R) :
    fn (sOut n w xi) ∧ ab (rv (sOut n w xi) - rsum (fun j => rv (w j) * xr xi j) n) ≤ R / 68719476736 := by
  have h := fold_val (a := dV 0) (f := w) (g := fun k => fI (xi k)) (W := R) (n := n) (by omega) hR hR2 c_zero.1 (by rw [c_zero.2, ab_zero]; grind) (fun k hk => (hw k hk).1) (fun k _ => (fI_val (xi k)).1)
    (fun k hk => by
      have h1 := mul_ab (hw k hk).2 (hx k hk)
      rw [(fI_val (xi k)).2]
      grind)
  refine ⟨h.1, ?_⟩
  have h2 := h.2
  rw [c_zero.2] at h2
  have e : rsum (fun k => rv (w k) * rv (fI (xi k))) n = rsum (fun j => rv (w j) * xr xi j) n := rsum_congr fun k _ => by rw [(fI_val (xi k)).2]
  rw [e] at h2
  have hn4 : (n : Rat) ≤ 4 := by
    have := Rat.natCast_le_natCast.mpr hn
    exact this
  have h3 := Rat.mul_le_mul_of_nonneg_right hn4 (show 0 ≤ R / 274877906944 by grind)
  show ab (rv (smN (dV 0) (fun k => fMul (w k) (fI (xi k))) n) - _) ≤ _
  rw [show rv (smN (dV 0) (fun k => fMul (w k) (fI (xi k))) n) - rsum (fun j => rv (w j) * xr xi j) n = rv (smN (dV 0) (fun k => fMul (w k) (fI (xi k))) n) - (0 + rsum (fun j => rv (w j) * xr xi j) n) by grind]
  grind
theorem gmax (f : Nat → Rat) : ∀ n : Nat, ∃ G : Rat, 1 ≤ G ∧ (∀ i, i < n → ab (f i) ≤ G) ∧ (G = 1 ∨ ∃ i, i < n ∧ G = ab (f i)) := by
  intro n
  induction n with
  | zero => exact ⟨1, Rat.le_refl, fun i hi => by omega, Or.inl rfl⟩
  | succ n ih =>
    obtain ⟨G, h1, h2, h3⟩ := ih
    by_cases h : ab (f n) ≤ G
    · refine ⟨G, h1, fun i hi => ?_, h3.imp id (fun ⟨i, hi, e⟩ => ⟨i, by omega, e⟩)⟩
      by_cases e : i = n
      · rw [e]; exact h
      · exact h2 i (by omega)
    · have h' := Rat.not_le.mp h
      refine ⟨ab (f n), by grind, fun i hi => ?_, Or.inr ⟨n, by omega, rfl⟩⟩
      by_cases e : i = n
      · rw [e]; exact Rat.le_refl
      · have := h2 i (by omega)
        grind
theorem m_val {n : Nat} {mu : Dt} {P : Nat → Nat → Dt} {xi : Nat → Int32} {G : Rat} (hn : n ≤ 4) (hx : okX n xi) (hmu : okMu mu) (hG : 1 ≤ G) (hG2 : G ≤ zp 1000) (hg : ∀ i, i < n → fn (sOut n (P i) xi) ∧ ab (rv (sOut n (P i) xi)) ≤ G) :
    fn (sM n mu P xi) ∧ ab (rv (sM n mu P xi)) ≤ 4003 * G := by
  obtain ⟨m1, m2, m3⟩ := hmu
  have hmu0 : ab (rv mu) ≤ 1001 / 1000 := by rw [ab_le]; constructor <;> grind
  have hp : ∀ k, k < n → ab (rv (fI (xi k)) * rv (sOut n (P k) xi)) ≤ 1000 * G := fun k hk => by
    rw [(fI_val (xi k)).2]
    exact mul_ab (hx k hk) (hg k hk).2
  have h := fold_val (a := mu) (f := fun k => fI (xi k)) (g := fun k => sOut n (P k) xi) (W := G) (n := n) (by omega) hG hG2 m1 (by grind) (fun k _ => (fI_val (xi k)).1) (fun k hk => (hg k hk).1) hp
  refine ⟨h.1, ?_⟩
  have h2 := h.2
  have h3 := rsum_ab hp
  have hn4 : (n : Rat) ≤ 4 := by
    have := Rat.natCast_le_natCast.mpr hn
    exact this
  have h4 := Rat.mul_le_mul_of_nonneg_right hn4 (show 0 ≤ G / 274877906944 by grind)
  have h5 := Rat.mul_le_mul_of_nonneg_right hn4 (show 0 ≤ 1000 * G by grind)
  show ab (rv (smN mu (fun i => fMul (fI (xi i)) (sOut n (P i) xi)) n)) ≤ _
  generalize rv (smN mu (fun i => fMul (fI (xi i)) (sOut n (P i) xi)) n) = z at h2 ⊢
  generalize rsum (fun k => rv (fI (xi k)) * rv (sOut n (P k) xi)) n = S at h2 h3
  have k1 := ab_le.mp h2
  have k2 := ab_le.mp h3
  have k3 := ab_le.mp hmu0
  rw [ab_le]
  constructor <;> grind
