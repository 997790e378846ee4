/-! ===== the class's values are the reference's ===== -/
abbrev nzD : Dt := .fin true 0 FP.Core.b64.qmin
abbrev okD (x : Dt) : Prop := FP.Core.fits FP.Core.b64 x
theorem ok_dV (x : UInt64) : okD (dV x) := FP.Core.val64_fits x
theorem ok_add (x y : Dt) : okD (fAdd x y) := FP.Core.round_fits FP.Core.good_b64 _
theorem ok_sub (x y : Dt) : okD (fSub x y) := FP.Core.round_fits FP.Core.good_b64 _
theorem ok_mul (x y : Dt) : okD (fMul x y) := FP.Core.round_fits FP.Core.good_b64 _
theorem ok_div (x y : Dt) : okD (fDiv x y) := FP.Core.quotient_fits FP.Core.good_b64 _ _
theorem ok_neg {x : Dt} (h : okD x) : okD (fNeg x) := FP.Core.negate_fits h
theorem dV0 : dV 0 = .fin false 0 FP.Core.b64.qmin := by decide +kernel
theorem zero_q {s : Bool} {q : Int} (h : okD (.fin s 0 q)) : q = FP.Core.b64.qmin := FP.Core.fits_zero_q FP.Core.good_b64 h
theorem add_nz {w : Dt} (hw : okD w) (h : w ≠ nzD) : fAdd w (dV 0) = w := by
  rw [dV0]
  refine FP.Core.round_sum_zero FP.Core.good_b64 hw false (fun s q e => ?_)
  left
  cases s with
  | false => rfl
  | true => exact absurd (by rw [e] at hw ⊢; rw [zero_q hw]) h
theorem add_nzD {w : Dt} (hw : okD w) : fAdd w nzD = w :=
  FP.Core.round_sum_zero FP.Core.good_b64 hw true (fun s q e => by cases s <;> simp)
theorem neg_sub {w v : Dt} (hw : okD w) (hv : okD v) (h : w ≠ nzD) : fAdd w (fNeg v) = fAdd w (fSub (dV 0) v) := by
  rw [dV0]
  cases v with
  | nan => rfl
  | inf s => rfl
  | fin s c q =>
    by_cases hz : c = 0 ∧ s = false
    · obtain ⟨rfl, rfl⟩ := hz
      rw [zero_q hv]
      have e1 : fSub (.fin false 0 FP.Core.b64.qmin) (.fin false 0 FP.Core.b64.qmin) = dV 0 := by decide +kernel
      rw [e1, add_nz hw h]
      exact add_nzD hw
    · have e2 : fSub (.fin false 0 FP.Core.b64.qmin) (.fin s c q) = fNeg (.fin s c q) := by
        show FP.Core.round FP.Core.b64 (FP.Core.exactSum _ (FP.Core.negate (.fin s c q))) = FP.Core.negate (.fin s c q)
        rw [FP.Core.exactSum_comm]
        refine FP.Core.round_sum_zero FP.Core.good_b64 (FP.Core.negate_fits hv) false (fun s2 q2 e => ?_)
        injection e with e3 e4 e5
        left
        cases s with
        | true => rw [← e3]; rfl
        | false => exact absurd ⟨e4, rfl⟩ hz
      rw [e2]
theorem neg_bits (c : Nat) (q : Int) : FP.Core.zval FP.Core.b64 nzD = 0 := by decide +kernel
theorem nz_round {s : Bool} {n : Nat} {e : Int} (hn : 0 < n) (he : FP.Core.b64.qmin ≤ e) : FP.Core.round FP.Core.b64 (.fin s n e) ≠ nzD := by
  intro hr
  have hz : FP.Core.zval FP.Core.b64 nzD = 0 := by decide +kernel
  have hu : 1 ≤ FP.Core.inUnits n e FP.Core.b64.qmin := by
    unfold FP.Core.inUnits
    exact Nat.mul_pos hn (Nat.two_pow_pos _)
  have hone : ((2 ^ (FP.Core.b64.qmin - FP.Core.b64.qmin).toNat : Nat) : Int) = 1 := by decide
  cases s with
  | false =>
    have v1 : FP.Core.zval FP.Core.b64 (dV 1) = 1 := by decide +kernel
    have := FP.Core.zval_round_ge FP.Core.good_b64 (s := false) (c := n) (q := e) (V := dV 1) (ok_dV 1) (by decide +kernel) (Int.le_refl _) he (by
      rw [v1, hone]
      show (1 : Int) * 1 ≤ (FP.Core.inUnits n e FP.Core.b64.qmin : Int)
      omega)
    rw [hr, hz, v1] at this
    omega
  | true =>
    have v1 : FP.Core.zval FP.Core.b64 (dV 9223372036854775809) = -1 := by decide +kernel
    have := FP.Core.zval_round_le FP.Core.good_b64 (s := true) (c := n) (q := e) (V := dV 9223372036854775809) (ok_dV _) (by decide +kernel) (Int.le_refl _) he (by
      rw [v1, hone]
      show -(FP.Core.inUnits n e FP.Core.b64.qmin : Int) ≤ (-1 : Int) * 1
      omega)
    rw [hr, hz, v1] at this
    omega
theorem nz_sum {x y : Dt} (hx : okD x) (hy : okD y) (h : x ≠ nzD) : fAdd x y ≠ nzD := by
  unfold fAdd
  cases x with
  | nan => cases y <;> exact fun q => by cases q
  | inf s => cases y with
    | nan => exact fun q => by cases q
    | inf t => show FP.Core.round _ (if s = t then _ else _) ≠ _; split <;> exact fun q => by cases q
    | fin t d r => exact fun q => by cases q
  | fin s c q => cases y with
    | nan => exact fun q => by cases q
    | inf t => exact fun q => by cases q
    | fin t d r =>
      show FP.Core.round FP.Core.b64 (.fin (FP.Core.sumSign s t (FP.Core.sumUnits s c q t d r (min q r))) (FP.Core.sumUnits s c q t d r (min q r)).natAbs (min q r)) ≠ nzD
      have he : FP.Core.b64.qmin ≤ min q r := by have := hx.2.1; have := hy.2.1; omega
      by_cases hu : FP.Core.sumUnits s c q t d r (min q r) = 0
      · rw [hu]
        show FP.Core.round FP.Core.b64 (.fin (if (0 : Int) = 0 then s && t else decide ((0 : Int) < 0)) 0 (min q r)) ≠ nzD
        rw [if_pos rfl]
        show FP.Core.roundRatio FP.Core.b64 (s && t) 0 1 (min q r) ≠ nzD
        unfold FP.Core.roundRatio
        rw [if_pos rfl]
        intro e
        injection e with e1 e2 e3
        rw [Bool.and_eq_true] at e1
        obtain ⟨rfl, rfl⟩ := e1
        apply h
        have h1 : FP.Core.inUnits c q (min q r) = 0 := by
          unfold FP.Core.sumUnits FP.Core.signed at hu
          simp only [if_true] at hu
          omega
        unfold FP.Core.inUnits at h1
        have h2 := Nat.two_pow_pos (q - min q r).toNat
        rcases Nat.mul_eq_zero.mp h1 with h3 | h3
        · subst h3
          rw [zero_q hx]
        · omega
      · exact nz_round (by omega) he
theorem nz_up {w le : Dt} (hw : okD w) (hl : okD le) (h : w ≠ nzD) : sUp w le ≠ nzD := by
  unfold sUp fHold
  split
  · decide +kernel
  · split
    · decide +kernel
    · exact nz_sum hw hl h
/-! whole numbers as doubles -/
theorem fI_int (x : Int32) : FP.Core.DInt x.toInt (FP.i2d x) := FP.Core.i2d_int x
theorem fO_fI (a b : Int32) : fO (fI a) (fI b) = some (compare a.toInt b.toInt) := FP.Core.dcmp_int (fI_int a) (fI_int b)
theorem fI_0 : fI 0 = dV 0 := by decide +kernel
theorem fI_neg {x : Int32} (h0 : ¬ x.toInt = 0) (h1 : -1000 ≤ x.toInt) (h2 : x.toInt ≤ 1000) : fNeg (fI x) = fI (-x) := by
  have e : (-x).toInt = -x.toInt := by
    rw [Int32.toInt_neg]
    exact Int.bmod_eq_of_le (by omega) (by omega)
  show FP.Core.negate (FP.Core.val64 (FP.Core.i2d x)) = FP.Core.val64 (FP.Core.i2d (-x))
  rw [FP.Core.val64_i2d, FP.Core.val64_i2d, FP.Core.negate_round, FP.Core.negate_ofInt h0, e]
abbrev small (xi : Nat → Int32) : Prop := ∀ k, k < 8 → -1000 ≤ (xi k).toInt ∧ (xi k).toInt ≤ 1000
theorem fAbs_fI {x : Int32} (h1 : -1000 ≤ x.toInt) (h2 : x.toInt ≤ 1000) : fAbs (fI x) = fI (if x < 0 then -x else x) := by
  unfold fAbs
  rw [← fI_0, fO_fI]
  by_cases h : x < 0
  · have h3 : x.toInt < (0 : Int32).toInt := Int32.lt_iff_toInt_lt.mp h
    rw [if_pos h, if_pos (by rw [Int.compare_eq_lt.mpr h3])]
    have h4 : (0 : Int32).toInt = 0 := by decide
    exact fI_neg (by omega) h1 h2
  · have h3 : ¬ x.toInt < (0 : Int32).toInt := fun q => h (Int32.lt_iff_toInt_lt.mpr q)
    rw [if_neg h, if_neg (fun q => h3 (Int.compare_eq_lt.mp (Option.some.inj q)))]
theorem sGr_gI {xi : Nat → Int32} (hx : small xi) : ∀ n, n ≤ 8 → sGr xi n = fI (gI xi n) := by
  intro n
  induction n with
  | zero => intro _; exact fI_0.symm
  | succ n ih =>
    intro hn
    have hk := hx n (by omega)
    unfold sGr gI
    rw [ih (by omega), fAbs_fI hk.1 hk.2, fO_fI]
    by_cases h : gI xi n < (if xi n < 0 then -xi n else xi n)
    · rw [if_pos h, if_pos (by rw [Int.compare_eq_gt.mpr (Int32.lt_iff_toInt_lt.mp h)])]
    · rw [if_neg h, if_neg (fun q => h (Int32.lt_iff_toInt_lt.mpr (Int.compare_eq_gt.mp (Option.some.inj q))))]
theorem sLoud_iff {wa : Int32} {n : Nat} {xi : Nat → Int32} {mi : UInt64} (hn : n ≤ 8) (hx : small xi) : sLoud wa n xi (dV mi) ↔ sLoudM wa n xi (dV mi) := by
  unfold sLoud sLoudM
  rw [fAbs_sSz, sGr_gI hx n hn]
theorem int_one : FP.Core.DInt 1 4607182418800017408 := by
  have h := fI_int 1
  rw [show FP.i2d 1 = 4607182418800017408 by decide +kernel, show (1 : Int32).toInt = 1 by decide] at h
  exact h
theorem norm_int {xi : Nat → Int32} (hx : small xi) : ∀ n, n ≤ 8 → ∃ (b : UInt64) (z : Int), dV b = sNorm n xi ∧ FP.Core.DInt z b ∧ 1 ≤ z ∧ z ≤ 1 + 1000000 * (n : Int) := by
  intro n
  induction n with
  | zero => intro _; exact ⟨4607182418800017408, 1, rfl, int_one, by omega, by omega⟩
  | succ n ih =>
    intro hn
    obtain ⟨b, z, h1, h2, h3, h4⟩ := ih (by omega)
    have hk := hx n (by omega)
    have hm : ((xi n).toInt * (xi n).toInt) = (((xi n).toInt.natAbs * (xi n).toInt.natAbs : Nat) : Int) := (Int.natAbs_mul_self).symm
    have hb : (xi n).toInt.natAbs * (xi n).toInt.natAbs ≤ 1000 * 1000 := Nat.mul_le_mul (by omega) (by omega)
    have d1 := FP.Core.dmul_int (fI_int (xi n)) (fI_int (xi n)) (by rw [hm]; omega)
    have d2 := FP.Core.dadd_int h2 d1 (by rw [hm]; omega)
    refine ⟨_, _, ?_, d2, by rw [hm]; omega, by rw [hm]; omega⟩
    show FP.Core.val64 (FP.Core.dadd b (FP.Core.dmul (FP.i2d (xi n)) (FP.i2d (xi n)))) = fAdd (sNorm n xi) (fMul (fI (xi n)) (fI (xi n)))
    rw [FP.Core.val64_dadd, FP.Core.val64_dmul]
    show fAdd (dV b) _ = _
    rw [h1]
    rfl
theorem norm_ge {xi : Nat → Int32} (hx : small xi) {n : Nat} (hn : n ≤ 8) : ¬ (fO (sNorm n xi) kOne = some .lt ∨ fO (sNorm n xi) kOne = none) := by
  obtain ⟨b, z, h1, h2, h3, h4⟩ := norm_int hx n hn
  rw [← h1]
  have : fO (dV b) kOne = some (compare z 1) := FP.Core.dcmp_int h2 int_one
  rw [this]
  rintro (q | q)
  · have := Int.compare_eq_lt.mp (Option.some.inj q); omega
  · cases q
/-- what a weight learns, on either side -/
theorem les_eq {kd th : Int32} {w er x : Dt} {n : Nat} {xi : Nat → Int32} (hw : okD w) (h : w ≠ nzD) (hx : small xi) (hn : n ≤ 8) :
    sUp w (sLes kd th er x (sNm kd n xi)) = sUp w (sLesM kd th er x (sNorm n xi)) := by
  unfold sLes sLesM sNm
  by_cases k0 : kd = 0
  · rw [if_pos k0, if_pos k0]
  · rw [if_neg k0, if_neg k0]
    by_cases k1 : kd = 1
    · rw [if_pos k1, if_pos k1, if_pos k1, if_neg (norm_ge hx hn)]
    · rw [if_neg k1, if_neg k1]
      by_cases h1 : fO er (dV 0) = some .gt
      · rw [if_pos h1, if_pos h1]
      · rw [if_neg h1, if_neg h1]
        by_cases h2 : fO er (dV 0) = some .lt
        · rw [if_pos h2, if_pos h2]
          unfold sUp
          rw [neg_sub hw (ok_mul _ _) h]
        · rw [if_neg h2, if_neg h2]
theorem ok_lesM {kd th : Int32} {er x nm : Dt} : okD (sLesM kd th er x nm) := by
  unfold sLesM
  repeat' split
  · exact ok_mul _ _
  · exact ok_div _ _
  · exact ok_mul _ _
  · exact ok_sub _ _
  · exact ok_dV 0
