/-! ===== sums of products, one behind the other ===== -/
def smN (a : Dt) (f : Nat → Dt) : Nat → Dt
  | 0 => a
  | n + 1 => fAdd (smN a f n) (f n)
theorem smN_congr {a : Dt} {f g : Nat → Dt} {n : Nat} (h : ∀ i, i < n → f i = g i) : smN a f n = smN a g n := by
  induction n with
  | zero => rfl
  | succ n ih =>
    show fAdd (smN a f n) (f n) = fAdd (smN a g n) (g n)
    rw [ih (fun i hi => h i (by omega)), h n (by omega)]
def rsum (f : Nat → Rat) : Nat → Rat
  | 0 => 0
  | n + 1 => rsum f n + f n
theorem rsum_ab {f : Nat → Rat} {n : Nat} {B : Rat} (h : ∀ k, k < n → ab (f k) ≤ B) : ab (rsum f n) ≤ (n : Rat) * B := by
  induction n with
  | zero =>
    show ab 0 ≤ ((0 : Nat) : Rat) * B
    rw [show (((0 : Nat) : Rat)) = 0 from rfl, Rat.zero_mul]
    exact (by decide +kernel : ab 0 ≤ 0)
  | succ n ih =>
    have h1 := ih (fun k hk => h k (by omega))
    have h2 := h n (by omega)
    have h3 := ab_add (rsum f n) (f n)
    show ab (rsum f n + f n) ≤ ((n + 1 : Nat) : Rat) * B
    rw [Rat.natCast_add]
    show _ ≤ ((n : Rat) + 1) * B
    grind
theorem rsum_congr {f g : Nat → Rat} {n : Nat} (h : ∀ k, k < n → f k = g k) : rsum f n = rsum g n := by
  induction n with
  | zero => rfl
  | succ n ih =>
    show rsum f n + f n = rsum g n + g n
    rw [ih (fun k hk => h k (by omega)), h n (by omega)]
theorem zp_1000 : zp 1000 * 1000000 ≤ zp 1022 := by decide +kernel
theorem zp_1022 : zp 1022 < zp 1023 := by decide +kernel
theorem ty_pos : 0 < ty := zp_pos _
theorem ty_small : ty * 1000000000000000000000000000000 ≤ 1 := by decide +kernel
theorem fold_val {a : Dt} {f g : Nat → Dt} {W : Rat} {n : Nat} (hn : n ≤ 16) (hW : 1 ≤ W) (hW2 : W ≤ zp 1000) (ha : fn a) (haW : ab (rv a) ≤ 1000 * W)
    (hf : ∀ k, k < n → fn (f k)) (hg : ∀ k, k < n → fn (g k)) (hfg : ∀ k, k < n → ab (rv (f k) * rv (g k)) ≤ 1000 * W) :
    fn (smN a (fun k => fMul (f k) (g k)) n) ∧ ab (rv (smN a (fun k => fMul (f k) (g k)) n) - (rv a + rsum (fun k => rv (f k) * rv (g k)) n)) ≤ (n : Rat) * (W / 274877906944) := by
  induction n with
  | zero =>
    refine ⟨ha, ?_⟩
    show ab (rv a - (rv a + 0)) ≤ ((0 : Nat) : Rat) * _
    rw [show (((0 : Nat) : Rat)) = 0 from rfl, Rat.zero_mul, show rv a - (rv a + 0) = 0 by grind]
    exact (by decide +kernel : ab 0 ≤ 0)
  | succ n ih =>
    obtain ⟨i1, i2⟩ := ih (by omega) (fun k hk => hf k (by omega)) (fun k hk => hg k (by omega)) (fun k hk => hfg k (by omega))
    have hn16 : (n : Rat) ≤ 15 := by
      have := Rat.natCast_le_natCast.mpr (show n ≤ 15 by omega)
      exact this
    have hn0 : (0 : Rat) ≤ (n : Rat) := Rat.natCast_nonneg
    have hp := hfg n (by omega)
    have hS := rsum_ab (f := fun k => rv (f k) * rv (g k)) (n := n) (B := 1000 * W) (fun k hk => hfg k (by omega))
    have z1 := zp_1000
    have z2 := zp_1022
    have t1 := ty_pos
    have t2 := ty_small
    obtain ⟨p1, p2⟩ := fMul_val (hf n (by omega)) (hg n (by omega)) (by grind)
    have nW1 : (n : Rat) * W ≤ 15 * W := Rat.mul_le_mul_of_nonneg_right hn16 (by grind)
    have nW0 : 0 ≤ (n : Rat) * W := Rat.mul_nonneg hn0 (by grind)
    show fn (fAdd (smN a (fun k => fMul (f k) (g k)) n) (fMul (f n) (g n))) ∧ ab (rv (fAdd (smN a (fun k => fMul (f k) (g k)) n) (fMul (f n) (g n))) - (rv a + (rsum (fun k => rv (f k) * rv (g k)) n + rv (f n) * rv (g n)))) ≤ ((n + 1 : Nat) : Rat) * (W / 274877906944)
    rw [Rat.natCast_add, show (((1 : Nat) : Rat)) = 1 from rfl]
    generalize smN a (fun k => fMul (f k) (g k)) n = s at i1 i2 ⊢
    generalize fMul (f n) (g n) = p at p1 p2 ⊢
    generalize rsum (fun k => rv (f k) * rv (g k)) n = S at i2 hS ⊢
    generalize rv (f n) * rv (g n) = x at hp p2 ⊢
    unfold near at p2
    have q2 := ab_le.mp (show ab (rv p - x) ≤ uu * (1000 * W) + ty by grind)
    have q3 := ab_le.mp i2
    have q4 := ab_le.mp hS
    have q5 := ab_le.mp hp
    have q6 := ab_le.mp haW
    have hsp : ab (rv s + rv p) ≤ 20000 * W := by
      rw [ab_le]
      constructor <;> grind
    obtain ⟨r1, r2⟩ := fAdd_val i1 p1 (by grind)
    refine ⟨r1, ?_⟩
    unfold near at r2
    have r3 := ab_le.mp (show ab (rv (fAdd s p) - (rv s + rv p)) ≤ uu * (20000 * W) + ty by grind)
    rw [ab_le]
    constructor <;> grind
