/-! recursive least squares, over the values: n taps, the step mu, the square P, the x -/
def rK (n : Nat) (mu : Dt) (P : Nat → Nat → Dt) (xi : Nat → Int32) (i : Nat) : Dt := fDiv (sOut n (P i) xi) (sM n mu P xi)
def rQ (n : Nat) (mu : Dt) (P : Nat → Nat → Dt) (xi : Nat → Int32) (i j : Nat) : Dt := fDiv (fSub (P i j) (fMul (rK n mu P xi i) (sOut n (P j) xi))) mu
abbrev rLow (n : Nat) (mu : Dt) (P : Nat → Nat → Dt) (xi : Nat → Int32) : Prop := fO (sM n mu P xi) (dV 4517329193108106637) = some .lt
abbrev rBad (d : Dt) : Prop := fO d (dV 4696837146684686336) = some .gt ∨ fO d (dV 0) = some .lt
def rOv (f : Nat → Dt) : Nat → Bool
  | 0 => false
  | j + 1 => rOv f j || decide (rBad (f j))
abbrev bI (b : Bool) : Int32 := if b = true then 1 else 0
def rRes (n : Nat) (mu : Dt) (P : Nat → Nat → Dt) (xi : Nat → Int32) : Bool := decide (rLow n mu P xi) || rOv (fun i => rQ n mu P xi i i) n
/-- P behind a sample -/
def rP (n : Nat) (mu : Dt) (P : Nat → Nat → Dt) (xi : Nat → Int32) (i j : Nat) : Dt := if rRes n mu P xi = true then (if i = j then dV H100 else dV 0) else rQ n mu P xi i j
/-- a weight behind a sample -/
def rW (n : Nat) (mu er : Dt) (P : Nat → Nat → Dt) (xi : Nat → Int32) (w : Dt) (j : Nat) : Dt := if rLow n mu P xi then w else sUp w (fMul (rK n mu P xi j) er)
abbrev pV (Sq : Nat → UInt64) (fx : Nat) : Nat → Nat → Dt := fun i j => dV (Sq (16 * fx + 4 * i + j))
theorem rOv_t {f : Nat → Dt} {i : Nat} (h : rOv f i = true) : rOv f (i + 1) = true := by show (rOv f i || _) = true; rw [h]; rfl
theorem rOv_b {f : Nat → Dt} {i : Nat} (h : rBad (f i)) : rOv f (i + 1) = true := by show (rOv f i || decide (rBad (f i))) = true; rw [decide_eq_true h, Bool.or_true]
theorem rOv_f {f : Nat → Dt} {i : Nat} (h : ¬ rOv f i = true) (h2 : ¬ rBad (f i)) : rOv f (i + 1) = false := by
  show (rOv f i || decide (rBad (f i))) = false
  rw [decide_eq_false h2, Bool.or_false]
  exact Bool.eq_false_iff.mpr h
theorem bI_1 {b : Bool} (h : b = true) : bI b = 1 := if_pos h
theorem bI_0 {b : Bool} (h : b = false) : bI b = 0 := by rw [h]; rfl
theorem bI_t {b : Bool} (h : ¬ bI b = 0) : b = true := by
  cases b with
  | true => rfl
  | false => exact absurd rfl h
theorem bI_f {b : Bool} (h : bI b = 0) : ¬ b = true := by
  intro q
  rw [bI_1 q] at h
  exact absurd h (by decide)
/-- one number of the square is written -/
theorem sq_step {F : Nat → UInt64} {Q P : Nat → Nat → Dt} {b i j n : Nat} {v : UInt64} (hj : j < 4) (hv : dV v = Q i j)
    (h : ∀ a c, a < n → c < n → n ≤ 4 → dV (F (b + 4 * a + c)) = if a < i ∨ (a = i ∧ c < j) then Q a c else P a c) :
    ∀ a c, a < n → c < n → n ≤ 4 → dV (vf_upd F (b + 4 * i + j) v (b + 4 * a + c)) = if a < i ∨ (a = i ∧ c < j + 1) then Q a c else P a c := by
  intro a c ha hc hn
  unfold vf_upd
  by_cases e : b + 4 * a + c = b + 4 * i + j
  · rw [if_pos e, hv, if_pos (by omega), show a = i by omega, show c = j by omega]
  · rw [if_neg e, h a c ha hc hn]
    by_cases d : a < i ∨ (a = i ∧ c < j)
    · rw [if_pos d, if_pos (by omega)]
    · rw [if_neg d, if_neg (by omega)]
theorem sq_row {F : Nat → UInt64} {Q P : Nat → Nat → Dt} {b i j n : Nat} (h : ∀ a c, a < n → c < n → n ≤ 4 → dV (F (b + 4 * a + c)) = if a < i ∨ (a = i ∧ c < j) then Q a c else P a c) (hj : n ≤ j) :
    ∀ a c, a < n → c < n → n ≤ 4 → dV (F (b + 4 * a + c)) = if a < i + 1 ∨ (a = i + 1 ∧ c < 0) then Q a c else P a c := by
  intro a c ha hc hn
  rw [h a c ha hc hn]
  by_cases z : a < i + 1
  · rw [if_pos (by omega), if_pos (by omega)]
  · rw [if_neg (by omega), if_neg (by omega)]
theorem g_done {f : Nat → UInt64} {g : Nat → Dt} {i : Nat} (h : ∀ k, k < i → dV (f k) = g k) (h2 : dV (f i) = g i) : ∀ k, k < i + 1 → dV (f k) = g k := by
  intro k hk
  by_cases e : k = i
  · rw [e]; exact h2
  · exact h k (by omega)
theorem vf_keep {f : Nat → UInt64} {g : Nat → Dt} {i : Nat} {v : UInt64} (h : ∀ k, k < i → dV (f k) = g k) : ∀ k, k < i → dV (vf_upd f i v k) = g k := by
  intro k hk
  unfold vf_upd
  rw [if_neg (by omega)]
  exact h k hk
theorem cl_gt2 {o : Option Ordering} (h : 0 < Op.cmpValue o CmpOp.l) : o = some .gt := by
  rcases o with _ | (_ | _ | _) <;> first | rfl | (exact absurd h (by decide))
theorem cl_ngt2 {o : Option Ordering} (h : ¬ 0 < Op.cmpValue o CmpOp.l) : ¬ o = some .gt := by
  intro e
  rw [e] at h
  exact h (by decide)
