/-! ===== filters whose doubles are numbers within bounds ===== -/
def fb (B : Rat) (d : Dt) : Prop := fn d ∧ ab (rv d) ≤ B
theorem fb.mono {B C : Rat} {d : Dt} (h : fb B d) (hBC : B ≤ C) : fb C d := ⟨h.1, Rat.le_trans h.2 hBC⟩
theorem fb_zero {B : Rat} (h : 0 ≤ B) : fb B (dV 0) := ⟨c_zero.1, by rw [c_zero.2, ab_zero]; exact h⟩
theorem hold_fb {x : Dt} (h : x ≠ .nan) : fb 1000000000 (fHold x k1e9 (fNeg k1e9)) := by
  have e0 : rv (fNeg k1e9) = -1000000000 := by rw [rv_neg, c_1e9.2]
  have hk : fb 1000000000 k1e9 := ⟨c_1e9.1, by rw [c_1e9.2]; decide +kernel⟩
  have hn : fb 1000000000 (fNeg k1e9) := ⟨fn_neg c_1e9.1, by rw [e0]; decide +kernel⟩
  unfold fHold
  split
  · exact hk
  · rename_i h1
    split
    · exact hn
    · rename_i h2
      cases x with
      | nan => exact absurd rfl h
      | inf s =>
        cases s
        · exact absurd (by decide +kernel) h1
        · exact absurd (by decide +kernel) h2
      | fin s c q =>
        have hf : fn (.fin s c q) := ⟨s, c, q, rfl⟩
        refine ⟨hf, ?_⟩
        have a1 : ¬ 1000000000 < rv (.fin s c q) := fun z => h1 ((fO_val hf c_1e9.1).2.1.mpr (by rw [c_1e9.2]; exact z))
        have a2 : ¬ rv (.fin s c q) < -1000000000 := fun z => h2 ((fO_val hf (fn_neg c_1e9.1)).1.mpr (by rw [e0]; exact z))
        rw [ab_le]
        exact ⟨Rat.not_lt.mp a2, Rat.not_lt.mp a1⟩
theorem up_fb {w le : Dt} (hw : fn w) (hl : le ≠ .nan) : fb 1000000000 (sUp w le) := hold_fb (nn_add hw hl)
theorem zbig : (1000000000000000000000000000000 : Rat) < zp 1023 := by decide +kernel
theorem mul_fb {x y : Dt} {A B : Rat} (hx : fb A x) (hy : fb B y) (hAB : A * B ≤ 100000000000000000000000000000) : fb (A * B + (A * B / 1000000 + 1)) (fMul x y) := by
  have h1 := mul_ab hx.2 hy.2
  have z := zbig
  obtain ⟨a, b⟩ := fMul_val hx.1 hy.1 (by grind)
  refine ⟨a, ?_⟩
  have t1 := ty_pos
  have t2 := ty_small
  unfold near at b
  have h2 := ab_add (rv (fMul x y) - rv x * rv y) (rv x * rv y)
  rw [show rv (fMul x y) - rv x * rv y + rv x * rv y = rv (fMul x y) by grind] at h2
  have h3 := ab_nonneg (rv x * rv y)
  grind
theorem div_fb {x y : Dt} {A b : Rat} (hx : fb A x) (hy : fn y) (hb : 1 ≤ b) (hyb : b ≤ rv y) (hA : A ≤ 100000000000000000000000000000) : fb (A / b + (A / b / 1000000 + 1)) (fDiv x y) := by
  have hy0 : 0 < rv y := by grind
  have hbn : b ≠ 0 := fun e => by rw [e] at hb; exact absurd hb (by decide +kernel)
  have e0 : A / b * b = A := Rat.div_mul_cancel hbn
  have hA0 : 0 ≤ A := Rat.le_trans (ab_nonneg _) hx.2
  have hq0 : 0 ≤ A / b := by
    refine Rat.not_lt.mp fun hc => ?_
    have := Rat.mul_nonneg (show 0 ≤ -(A / b) by grind) (show 0 ≤ b by grind)
    have h9 : A / b * b < 0 := by
      have := Rat.mul_lt_mul_of_pos_right hc (show 0 < b by grind)
      rw [Rat.zero_mul] at this
      exact this
    grind
  have h1 : ab (rv x / rv y) ≤ A / b := by
    refine div_ab hy0 ?_
    have := Rat.mul_le_mul_of_nonneg_left hyb hq0
    have := hx.2
    grind
  have hqA : A / b ≤ A := by
    have := Rat.mul_le_mul_of_nonneg_left hb hq0
    grind
  have z := zbig
  obtain ⟨a, c⟩ := fDiv_val hx.1 hy (fun e => by rw [e] at hy0; exact Rat.lt_irrefl hy0) (by grind)
  refine ⟨a, ?_⟩
  have t1 := ty_pos
  have t2 := ty_small
  unfold near at c
  have h2 := ab_add (rv (fDiv x y) - rv x / rv y) (rv x / rv y)
  rw [show rv (fDiv x y) - rv x / rv y + rv x / rv y = rv (fDiv x y) by grind] at h2
  have h3 := ab_nonneg (rv x / rv y)
  grind
theorem sub_fb {x y : Dt} {A B : Rat} (hx : fb A x) (hy : fb B y) (hAB : A + B ≤ 100000000000000000000000000000) : fb (A + B + ((A + B) / 1000000 + 1)) (fSub x y) := by
  have h1 := ab_sub (rv x) (rv y)
  have hx2 := hx.2
  have hy2 := hy.2
  have z := zbig
  obtain ⟨a, b⟩ := fSub_val hx.1 hy.1 (by grind)
  refine ⟨a, ?_⟩
  have t1 := ty_pos
  have t2 := ty_small
  unfold near at b
  have h2 := ab_add (rv (fSub x y) - (rv x - rv y)) (rv x - rv y)
  rw [show rv (fSub x y) - (rv x - rv y) + (rv x - rv y) = rv (fSub x y) by grind] at h2
  have h3 := ab_nonneg (rv x - rv y)
  grind
theorem fI_fb {x : Int32} {N : Int} (h : -N ≤ x.toInt ∧ x.toInt ≤ N) : fb (N : Rat) (fI x) := by
  obtain ⟨a, b⟩ := fI_val x
  refine ⟨a, ?_⟩
  rw [b, ab_le]
  refine ⟨?_, Rat.intCast_le_intCast.mpr h.2⟩
  have := Rat.intCast_le_intCast.mpr h.1
  rw [Rat.intCast_neg] at this
  exact this
/-- a sum of products of at most 16 pairs -/
theorem fold_fb {a : Dt} {f g : Nat → Dt} {W : Rat} {n : Nat} (hn : n ≤ 16) (hW : 1 ≤ W) (hW2 : W ≤ 1000000000000000000000000000000) (ha : fb (1000 * W) a) (hf : ∀ k, k < n → fn (f k)) (hg : ∀ k, k < n → fn (g k)) (hfg : ∀ k, k < n → ab (rv (f k) * rv (g k)) ≤ 1000 * W) :
    fb (18000 * W) (smN a (fun k => fMul (f k) (g k)) n) := by
  have z : (1000000000000000000000000000000 : Rat) ≤ zp 1000 := by decide +kernel
  have h := fold_val hn hW (Rat.le_trans hW2 z) ha.1 ha.2 hf hg hfg
  refine ⟨h.1, ?_⟩
  have h1 := rsum_ab hfg
  have hn16 : (n : Rat) ≤ 16 := by
    have := Rat.natCast_le_natCast.mpr hn
    exact this
  have h3 := Rat.mul_le_mul_of_nonneg_right hn16 (show 0 ≤ W / 274877906944 by grind)
  have h4 := Rat.mul_le_mul_of_nonneg_right hn16 (show 0 ≤ 1000 * W by grind)
  have h5 := h.2
  have h6 := ha.2
  generalize rv (smN a (fun k => fMul (f k) (g k)) n) = x at h5 ⊢
  generalize rsum (fun k => rv (f k) * rv (g k)) n = S at h1 h5
  have k1 := ab_le.mp h5
  have k2 := ab_le.mp h1
  have k3 := ab_le.mp h6
  rw [ab_le]
  constructor <;> grind
theorem small_x {xi : Nat → Int32} (h : small xi) {k : Nat} (hk : k < 8) : ab (xr xi k) ≤ 1000 := by
  obtain ⟨a, b⟩ := h k hk
  have a' : (((-1000 : Int)) : Rat) ≤ xr xi k := Rat.intCast_le_intCast.mpr a
  have b' : xr xi k ≤ ((1000 : Int) : Rat) := Rat.intCast_le_intCast.mpr b
  rw [ab_le]
  exact ⟨a', b'⟩
theorem out_fb {n : Nat} {w : Nat → Dt} {xi : Nat → Int32} (hn : n ≤ 8) (hx : small xi) (hw : ∀ j, j < n → fb 1000000000 (w j)) : fb 18000000000000 (sOut n w xi) := by
  have h := fold_fb (a := dV 0) (f := w) (g := fun k => fI (xi k)) (W := 1000000000) (n := n) (by omega) (by decide +kernel) (by decide +kernel) (fb_zero (by decide +kernel)) (fun k hk => (hw k hk).1) (fun k _ => (fI_val (xi k)).1) (fun k hk => by
    rw [(fI_val (xi k)).2]
    have := mul_ab (hw k hk).2 (small_x hx (show k < 8 by omega))
    grind)
  exact h.mono (by decide +kernel)
/-- the hundredths of the path -/
abbrev okPa (pa : Nat → Int32) : Prop := ∀ k, k < 8 → -1000 ≤ (pa k).toInt ∧ (pa k).toInt ≤ 1000
theorem pa_fb {pa : Nat → Int32} (h : okPa pa) {k : Nat} (hk : k < 8) : fb 20 (fDiv (fI (pa k)) k100) := by
  have h1 := div_fb (b := 100) (fI_fb (h k hk)) c_100.1 (by decide +kernel) (by rw [c_100.2]; exact Rat.le_refl) (by decide +kernel)
  exact h1.mono (by decide +kernel)
theorem mic_fb {t : Int32} {pa xi : Nat → Int32} (ht : -1000 ≤ t.toInt ∧ t.toInt ≤ 1000) (hp : okPa pa) (hx : small xi) : fb 1000000 (sMic t pa xi) := by
  have h := fold_fb (a := fI t) (f := fun k => fDiv (fI (pa k)) k100) (g := fun k => fI (xi k)) (W := 20) (n := 8) (by omega) (by decide +kernel) (by decide +kernel) ((fI_fb ht).mono (by decide +kernel)) (fun k hk => (pa_fb hp hk).1) (fun k _ => (fI_val (xi k)).1) (fun k hk => by
    rw [(fI_val (xi k)).2]
    have := mul_ab (pa_fb hp hk).2 (small_x hx hk)
    grind)
  exact h.mono (by decide +kernel)
theorem th_fb {th : Int32} (h : 1 ≤ th ∧ th ≤ 2000) : fb 10 (fDiv (fI th) k1000) := by
  have a := Int32.le_iff_toInt_le.mp h.1
  have b := Int32.le_iff_toInt_le.mp h.2
  rw [show (1 : Int32).toInt = 1 by decide] at a
  rw [show (2000 : Int32).toInt = 2000 by decide] at b
  have h1 := div_fb (b := 1000) (fI_fb (N := 2000) (x := th) ⟨by omega, by omega⟩) c_1000.1 (by decide +kernel) (by rw [c_1000.2]; exact Rat.le_refl) (by decide +kernel)
  exact h1.mono (by decide +kernel)
theorem mu_ok {th : Int32} (h : 500 ≤ th ∧ th ≤ 1000) : okMu (fDiv (fI th) k1000) := by
  have a := Int32.le_iff_toInt_le.mp h.1
  have b := Int32.le_iff_toInt_le.mp h.2
  rw [show (500 : Int32).toInt = 500 by decide] at a
  rw [show (1000 : Int32).toInt = 1000 by decide] at b
  obtain ⟨f1, f2⟩ := fI_val th
  have a' : ((500 : Int) : Rat) ≤ (th.toInt : Rat) := Rat.intCast_le_intCast.mpr a
  have b' : (th.toInt : Rat) ≤ ((1000 : Int) : Rat) := Rat.intCast_le_intCast.mpr b
  have a2 : (500 : Rat) ≤ rv (fI th) := by rw [f2]; exact a'
  have b2 : rv (fI th) ≤ 1000 := by rw [f2]; exact b'
  have e : rv (fI th) / 1000 * 1000 = rv (fI th) := Rat.div_mul_cancel (by decide +kernel)
  have hq : ab (rv (fI th) / rv k1000) < zp 1023 := by
    rw [c_1000.2]
    have h1 : ab (rv (fI th) / 1000) ≤ 1 := by rw [ab_le]; constructor <;> grind
    have h2 : (1 : Rat) < zp 1023 := by decide +kernel
    grind
  obtain ⟨d1, d2⟩ := fDiv_val f1 c_1000.1 (by rw [c_1000.2]; decide +kernel) hq
  rw [c_1000.2] at d2
  unfold near at d2
  have h1 : ab (rv (fI th) / 1000) ≤ rv (fI th) / 1000 := by rw [ab_of_nonneg (by grind)]; exact Rat.le_refl
  have t1 : ty * 1000000000000000000000000000000 ≤ 1 := ty_small
  have t2 := ty_pos
  have k := ab_le.mp d2
  refine ⟨d1, ?_, ?_⟩ <;> grind
