/-! ===== what holds of a good bench, as isSo asks it ===== -/
theorem round_nn0 {s : Bool} {c : Nat} {q : Int} (h0 : 0 ≤ rv (.fin s c q)) : 0 ≤ rv (FP.Core.round FP.Core.b64 (.fin s c q)) := by
  cases e : FP.Core.round FP.Core.b64 (.fin s c q) with
  | nan => exact Rat.le_refl
  | inf v => exact Rat.le_refl
  | fin t d r =>
    have e0 : FP.Core.roundRatio FP.Core.b64 s c 1 q = .fin t d r := e
    obtain ⟨ht, -, -⟩ := rr_near (by decide) e0
    subst ht
    cases t
    · exact Rat.mul_nonneg Rat.natCast_nonneg (Rat.le_of_lt (zp_pos r))
    · have h1 : 0 ≤ -(c : Rat) * zp q := h0
      have hc : c = 0 := by
        refine Classical.byContradiction fun hc => ?_
        have h2 : (0 : Rat) < (c : Rat) := Rat.natCast_pos.mpr (by omega)
        have h3 := Rat.mul_pos h2 (zp_pos q)
        rw [Rat.neg_mul] at h1
        grind
      subst hc
      cases e0
      show 0 ≤ -((0 : Nat) : Rat) * zp _
      rw [show (((0 : Nat) : Rat)) = 0 from rfl, Rat.neg_mul, Rat.zero_mul]
      exact (by decide +kernel : (0 : Rat) ≤ -0)
theorem fMul_nn0 {x y : Dt} (hx : fn x) (hy : fn y) (h : 0 ≤ rv x * rv y) : 0 ≤ rv (fMul x y) := by
  obtain ⟨s, c, q, rfl⟩ := hx
  obtain ⟨t, d, r, rfl⟩ := hy
  have e : rv (.fin (s != t) (c * d) (q + r)) = rv (.fin s c q) * rv (.fin t d r) := by
    show ((FP.Core.signed (s != t) (c * d) : Int) : Rat) * zp (q + r) = ((FP.Core.signed s c : Int) : Rat) * zp q * (((FP.Core.signed t d : Int) : Rat) * zp r)
    rw [sgn_ab, sgn_ab, sgn_ab, zp_add, Rat.natCast_mul]
    cases s <;> cases t <;> simp <;> grind
  rw [← e] at h
  exact round_nn0 h
theorem fAdd_nn0 {x y : Dt} (hx : fn x) (hy : fn y) (h : 0 ≤ rv x + rv y) : 0 ≤ rv (fAdd x y) := by
  obtain ⟨s, c, q, rfl⟩ := hx
  obtain ⟨t, d, r, rfl⟩ := hy
  obtain ⟨v, n, e, h1, h2⟩ := sum_val s t c d q r
  unfold fAdd
  rw [h1]
  rw [← h2] at h
  exact round_nn0 h
theorem sq_nn (x : Rat) : 0 ≤ x * x := by
  rcases ab_def x with h | h
  · exact Rat.mul_nonneg h.1 h.1
  · have := Rat.mul_nonneg (show 0 ≤ -x by grind) (show 0 ≤ -x by grind)
    grind
/-- sums of squares -/
theorem sqs_nn {f : Nat → Dt} {W : Rat} {n : Nat} (hn : n ≤ 16) (hW : 1 ≤ W) (hW2 : W ≤ 1000000000000000000000000000000) (hf : ∀ k, k < n → fn (f k)) (hfg : ∀ k, k < n → ab (rv (f k) * rv (f k)) ≤ 1000 * W) :
    fb (18000 * W) (smN (dV 0) (fun k => fMul (f k) (f k)) n) ∧ 0 ≤ rv (smN (dV 0) (fun k => fMul (f k) (f k)) n) := by
  have z : (1000000000000000000000000000000 : Rat) * 1000 < zp 1023 := by decide +kernel
  have hb : ∀ m, m ≤ n → fb (18000 * W) (smN (dV 0) (fun k => fMul (f k) (f k)) m) := fun m hm => fold_fb (by omega) hW hW2 (fb_zero (by grind)) (fun k hk => hf k (by omega)) (fun k hk => hf k (by omega)) (fun k hk => hfg k (by omega))
  refine ⟨hb n (Nat.le_refl _), ?_⟩
  have key : ∀ m, m ≤ n → 0 ≤ rv (smN (dV 0) (fun k => fMul (f k) (f k)) m) := by
    intro m
    induction m with
    | zero => intro _; show 0 ≤ rv (dV 0); rw [c_zero.2]; exact Rat.le_refl
    | succ m ih =>
      intro hm
      have h1 := ih (by omega)
      have h2 := fMul_nn0 (hf m (by omega)) (hf m (by omega)) (sq_nn _)
      have h3 := (fMul_val (hf m (by omega)) (hf m (by omega)) (by have := hfg m (by omega); grind)).1
      exact fAdd_nn0 (hb m (by omega)).1 h3 (by grind)
  exact key n (Nat.le_refl _)
theorem off_nn {n : Nat} {w : Nat → Dt} {pa : Nat → Int32} (hn : n ≤ 8) (hp : okPa pa) (hw : ∀ j, j < n → fb 1000000000 (w j)) : fn (sOff n w pa) ∧ 0 ≤ rv (sOff n w pa) := by
  have hg : ∀ k, k < n → fb 2000000000 (gapV (w k) (pa k)) := fun k hk => (sub_fb (hw k hk) (pa_fb hp (show k < 8 by omega)) (by decide +kernel)).mono (by decide +kernel)
  have h := sqs_nn (f := fun k => gapV (w k) (pa k)) (W := 4000000000000000) (n := n) (by omega) (by decide +kernel) (by decide +kernel) (fun k hk => (hg k hk).1) (fun k hk => by
    have := mul_ab (hg k hk).2 (hg k hk).2
    grind)
  exact ⟨h.1.1, h.2⟩
theorem pow_nn {t : Nat} {e : Nat → Dt} (he : ∀ j, j < 16 → fb 100000000000000 (e j)) : fn (sPow t e) ∧ 0 ≤ rv (sPow t e) := by
  unfold sPow
  split
  · rw [c_zero.2]; exact ⟨c_zero.1, Rat.le_refl⟩
  · rename_i h0
    have hk : ∀ k, (t - 16 + k) % 16 < 16 := fun k => Nat.mod_lt _ (by decide)
    have h := sqs_nn (f := fun k => e ((t - 16 + k) % 16)) (W := 10000000000000000000000000) (n := t - (t - 16)) (by omega) (by decide +kernel) (by decide +kernel) (fun k _ => (he _ (hk k)).1) (fun k _ => by
      have := mul_ab (he _ (hk k)).2 (he _ (hk k)).2
      grind)
    obtain ⟨m, hm1, hm2, hm⟩ : ∃ m, 1 ≤ m ∧ m ≤ 16 ∧ t - (t - 16) = m := ⟨_, by omega, by omega, rfl⟩
    rw [hm] at h ⊢
    obtain ⟨i1, i2⟩ := fI_val (nI m)
    have e1 : (nI m).toInt = (m : Int) := nI_toInt (by omega)
    have i3 : 1 ≤ rv (fI (nI m)) := by
      rw [i2, e1]
      have : ((1 : Int) : Rat) ≤ ((m : Int) : Rat) := Rat.intCast_le_intCast.mpr (by omega)
      exact this
    generalize smN (dV 0) (fun k => fMul (e ((t - 16 + k) % 16)) (e ((t - 16 + k) % 16))) m = S at h ⊢
    obtain ⟨⟨h1, h2⟩, h3⟩ := h
    have hy0 : 0 < rv (fI (nI m)) := by grind
    have hq : ab (rv S / rv (fI (nI m))) ≤ 18000 * 10000000000000000000000000 := by
      refine div_ab hy0 ?_
      have := Rat.mul_le_mul_of_nonneg_left i3 (show (0 : Rat) ≤ 18000 * 10000000000000000000000000 by decide +kernel)
      grind
    have z : (18000 * 10000000000000000000000000 : Rat) < zp 1023 := by decide +kernel
    obtain ⟨d1, -⟩ := fDiv_val h1 i1 (fun e => by rw [e] at hy0; exact Rat.lt_irrefl hy0) (by grind)
    refine ⟨d1, ?_⟩
    generalize fI (nI m) = y at i1 hy0 d1 ⊢
    obtain ⟨s, c, q, rfl⟩ := h1
    obtain ⟨t2, d, r, rfl⟩ := i1
    have ht := pos_sign hy0
    subst ht
    have hd : ¬ d = 0 := by
      intro hd
      subst hd
      have h9 : (0 : Rat) < ((0 : Nat) : Rat) * zp r := hy0
      rw [show (((0 : Nat) : Rat)) = 0 from rfl, Rat.zero_mul] at h9
      exact Rat.lt_irrefl h9
    have e2 : fDiv (.fin s c q) (.fin false d r) = FP.Core.roundRatio FP.Core.b64 (s != false) c d (q - r) := by
      show (if d = 0 then _ else _) = _
      rw [if_neg hd]
    rw [e2]
    cases hr : FP.Core.roundRatio FP.Core.b64 (s != false) c d (q - r) with
    | nan => exact Rat.le_refl
    | inf v => exact Rat.le_refl
    | fin t3 c3 q3 =>
      obtain ⟨ht3, -, -⟩ := rr_near (by omega) hr
      cases t3
      · exact Rat.mul_nonneg Rat.natCast_nonneg (Rat.le_of_lt (zp_pos q3))
      · have hs : s = true := by
          cases s
          · exact absurd ht3 (by decide)
          · rfl
        subst hs
        have h9 : 0 ≤ -(c : Rat) * zp q := h3
        have hc : c = 0 := by
          refine Classical.byContradiction fun hc => ?_
          have k2 : (0 : Rat) < (c : Rat) := Rat.natCast_pos.mpr (by omega)
          have k3 := Rat.mul_pos k2 (zp_pos q)
          rw [Rat.neg_mul] at h9
          grind
        subst hc
        unfold FP.Core.roundRatio at hr
        rw [if_pos rfl] at hr
        cases hr
        show 0 ≤ -((0 : Nat) : Rat) * zp _
        rw [show (((0 : Nat) : Rat)) = 0 from rfl, Rat.neg_mul, Rat.zero_mul]
        exact (by decide +kernel : (0 : Rat) ≤ -0)
/-- the best is the least off -/
theorem bst_le {f : Nat → Dt} : ∀ n, (∀ j, j < n → fn (f j)) → (n = 0 ∧ bstN f n = none) ∨ ∃ i, i < n ∧ bstN f n = some i ∧ ∀ j, j < n → rv (f i) ≤ rv (f j) := by
  intro n
  induction n with
  | zero => intro _; exact Or.inl ⟨rfl, rfl⟩
  | succ n ih =>
    intro hf
    right
    rcases ih (fun j hj => hf j (by omega)) with ⟨h1, h2⟩ | ⟨i, h1, h2, h3⟩
    · refine ⟨n, by omega, ?_, fun j hj => ?_⟩
      · simp only [bstN, h2]
      · rw [show j = n by omega]; exact Rat.le_refl
    · have hv := (fO_val (hf n (by omega)) (hf i (by omega))).1
      by_cases hlt : rv (f n) < rv (f i)
      · refine ⟨n, by omega, ?_, fun j hj => ?_⟩
        · simp only [bstN, h2]
          exact if_pos (hv.mpr hlt)
        · by_cases e : j = n
          · rw [e]; exact Rat.le_refl
          · have := h3 j (by omega)
            grind
      · refine ⟨i, by omega, ?_, fun j hj => ?_⟩
        · simp only [bstN, h2]
          exact if_neg (fun z => hlt (hv.mp z))
        · by_cases e : j = n
          · rw [e]; exact Rat.not_lt.mp hlt
          · exact h3 j (by omega)
