/-! recursive least squares, over the values: n taps, the step mu, the square P, the x -/
abbrev bI (b : Bool) : Int32 := if b = true then 1 else 0
/-- a weight behind a sample -/
def rW (n : Nat) (mu er : Dt) (P : Nat → Nat → Dt) (xi : Nat → Int32) (w : Dt) (j : Nat) : Dt := if rLow n mu P xi then w else sUp w (fMul (rK n mu P xi j) er)
theorem rOv_t {f : Nat → Dt} {i : Nat} (h : rOv f i = true) : rOv f (i + 1) = true := by show (rOv f i || _) = true; rw [h]; rfl
theorem rOv_b {f : Nat → Dt} {i : Nat} (h : rBad (f i)) : rOv f (i + 1) = true := by show (rOv f i || decide (rBad (f i))) = true; rw [decide_eq_true h, Bool.or_true]
theorem rOv_f {f : Nat → Dt} {i : Nat} (h : ¬ rOv f i = true) (h2 : ¬ rBad (f i)) : rOv f (i + 1) = false := by
  show (rOv f i || decide (rBad (f i))) = false
  rw [decide_eq_false h2, Bool.or_false]
  exact Bool.eq_false_iff.mpr h
theorem bI_1 {b : Bool} (h : b = true) : bI b = 1 := if_pos h
theorem bI_0 {b : Bool} (h : b = false) : bI b = 0 := by rw [h]; rfl
theorem bI_t {b : Bool} (h : ¬ bI b = 0) : b = true := by
  cases b with
  | true => rfl
  | false => exact absurd rfl h
theorem bI_f {b : Bool} (h : bI b = 0) : ¬ b = true := by
  intro q
  rw [bI_1 q] at h
  exact absurd h (by decide)
/-- one number of the square is written -/
theorem sq_step {F : Nat → UInt64} {Q P : Nat → Nat → Dt} {b i j n : Nat} {v : UInt64} (hj : j < 4) (hv : dV v = Q i j)
    (h : ∀ a c, a < n → c < n → n ≤ 4 → dV (F (b + 4 * a + c)) = if a < i ∨ (a = i ∧ c < j) then Q a c else P a c) :
    ∀ a c, a < n → c < n → n ≤ 4 → dV (vf_upd F (b + 4 * i + j) v (b + 4 * a + c)) = if a < i ∨ (a = i ∧ c < j + 1) then Q a c else P a c := by
  intro a c ha hc hn
  unfold vf_upd
  by_cases e : b + 4 * a + c = b + 4 * i + j
  · rw [if_pos e, hv, if_pos (by omega), show a = i by omega, show c = j by omega]
  · rw [if_neg e, h a c ha hc hn]
    by_cases d : a < i ∨ (a = i ∧ c < j)
    · rw [if_pos d, if_pos (by omega)]
    · rw [if_neg d, if_neg (by omega)]
theorem sq_row {F : Nat → UInt64} {Q P : Nat → Nat → Dt} {b i j n : Nat} (h : ∀ a c, a < n → c < n → n ≤ 4 → dV (F (b + 4 * a + c)) = if a < i ∨ (a = i ∧ c < j) then Q a c else P a c) (hj : n ≤ j) :
    ∀ a c, a < n → c < n → n ≤ 4 → dV (F (b + 4 * a + c)) = if a < i + 1 ∨ (a = i + 1 ∧ c < 0) then Q a c else P a c := by
  intro a c ha hc hn
  rw [h a c ha hc hn]
  by_cases z : a < i + 1
  · rw [if_pos (by omega), if_pos (by omega)]
  · rw [if_neg (by omega), if_neg (by omega)]
theorem g_done {f : Nat → UInt64} {g : Nat → Dt} {i : Nat} (h : ∀ k, k < i → dV (f k) = g k) (h2 : dV (f i) = g i) : ∀ k, k < i + 1 → dV (f k) = g k := by
  intro k hk
  by_cases e : k = i
  · rw [e]; exact h2
  · exact h k (by omega)
theorem vf_keep {f : Nat → UInt64} {g : Nat → Dt} {i : Nat} {v : UInt64} (h : ∀ k, k < i → dV (f k) = g k) : ∀ k, k < i → dV (vf_upd f i v k) = g k := by
  intro k hk
  unfold vf_upd
  rw [if_neg (by omega)]
  exact h k hk
theorem cl_gt2 {o : Option Ordering} (h : 0 < Op.cmpValue o CmpOp.l) : o = some .gt := by
  rcases o with _ | (_ | _ | _) <;> first | rfl | (exact absurd h (by decide))
theorem cl_ngt2 {o : Option Ordering} (h : ¬ 0 < Op.cmpValue o CmpOp.l) : ¬ o = some .gt := by
  intro e
  rw [e] at h
  exact h (by decide)

/-! ===== a filter as a value: ((kind, taps, step, watch, tail), (left, had, held, resets), (output, error), weights, errors, square) ===== -/
abbrev FV : Type := (Int32 × Int32 × Int32 × Int32 × Int32) × (Int32 × Int32 × Int32 × Int32) × (Dt × Dt) × (Nat → Dt) × (Nat → Dt) × (Nat → Nat → Dt)
abbrev tn (t : Int32) : Nat := t.toNatClampNeg
def cutN (n : Nat) (f : Nat → Dt) : Nat → Dt := fun j => if j < n then f j else dV 0
def cutP (k : Prop) [Decidable k] (n : Nat) (f : Nat → Nat → Dt) : Nat → Nat → Dt := fun a c => if k ∧ a < n ∧ c < n then f a c else dV 0
theorem cutN_eq {n : Nat} {f g : Nat → Dt} (h : ∀ j, j < n → f j = g j) : cutN n f = cutN n g := by
  funext j
  unfold cutN
  by_cases e : j < n
  · rw [if_pos e, if_pos e, h j e]
  · rw [if_neg e, if_neg e]
theorem cutP_eq {k : Prop} [Decidable k] {n : Nat} {f g : Nat → Nat → Dt} (h : k → ∀ a c, a < n → c < n → f a c = g a c) : cutP k n f = cutP k n g := by
  funext a c
  unfold cutP
  by_cases e : k ∧ a < n ∧ c < n
  · rw [if_pos e, if_pos e, h e.1 a c e.2.1 e.2.2]
  · rw [if_neg e, if_neg e]
theorem cutN_at {n j : Nat} {f : Nat → Dt} (h : j < n) : cutN n f j = f j := if_pos h
theorem cutP_at {k : Prop} [Decidable k] {n a c : Nat} {f : Nat → Nat → Dt} (h : k) (ha : a < n) (hc : c < n) : cutP k n f a c = f a c := if_pos ⟨h, ha, hc⟩
theorem sOut_congr {n : Nat} {w v : Nat → Dt} {xi : Nat → Int32} (h : ∀ j, j < n → w j = v j) : sOut n w xi = sOut n v xi := smN_congr fun i hi => by rw [h i hi]
theorem sM_congr {n : Nat} {st : Dt} {P Q : Nat → Nat → Dt} {xi : Nat → Int32} (h : ∀ a c, a < n → c < n → P a c = Q a c) : sM n st P xi = sM n st Q xi := smN_congr fun i hi => by rw [sOut_congr (fun j hj => h i j hi hj)]
theorem rK_congr {n : Nat} {mu : Dt} {P Q : Nat → Nat → Dt} {xi : Nat → Int32} (h : ∀ a c, a < n → c < n → P a c = Q a c) {i : Nat} (hi : i < n) : rK n mu P xi i = rK n mu Q xi i := by
  unfold rK
  rw [sOut_congr (fun j hj => h i j hi hj), sM_congr h]
theorem rQ_congr {n : Nat} {mu : Dt} {P Q : Nat → Nat → Dt} {xi : Nat → Int32} (h : ∀ a c, a < n → c < n → P a c = Q a c) {i j : Nat} (hi : i < n) (hj : j < n) : rQ n mu P xi i j = rQ n mu Q xi i j := by
  unfold rQ
  rw [rK_congr h hi, h i j hi hj, sOut_congr (fun k hk => h j k hj hk)]
theorem rOv_congr {f g : Nat → Dt} {n : Nat} (h : ∀ i, i < n → f i = g i) : rOv f n = rOv g n := by
  induction n with
  | zero => rfl
  | succ n ih =>
    show (rOv f n || decide (rBad (f n))) = (rOv g n || decide (rBad (g n)))
    rw [ih (fun i hi => h i (by omega)), h n (by omega)]
theorem rRes_congr {n : Nat} {mu : Dt} {P Q : Nat → Nat → Dt} {xi : Nat → Int32} (h : ∀ a c, a < n → c < n → P a c = Q a c) : rRes n mu P xi = rRes n mu Q xi := by
  unfold rRes rLow
  rw [sM_congr h, rOv_congr (fun i hi => rQ_congr h hi hi)]
theorem rP_congr {n : Nat} {mu : Dt} {P Q : Nat → Nat → Dt} {xi : Nat → Int32} (h : ∀ a c, a < n → c < n → P a c = Q a c) {i j : Nat} (hi : i < n) (hj : j < n) : rP n mu P xi i j = rP n mu Q xi i j := by
  unfold rP
  rw [rRes_congr h, rQ_congr h hi hj]
theorem rW_congr {n : Nat} {mu er w : Dt} {P Q : Nat → Nat → Dt} {xi : Nat → Int32} (h : ∀ a c, a < n → c < n → P a c = Q a c) {j : Nat} (hj : j < n) : rW n mu er P xi w j = rW n mu er Q xi w j := by
  unfold rW rLow
  rw [sM_congr h, rK_congr h hj]
/-- the reference's hear, on values -/
def hmN (v : FV) : Nat := tn v.1.2.1
def hmLoud (xi : Nat → Int32) (mi : Dt) (v : FV) : Prop := sLoudM v.1.2.2.2.1 (hmN v) xi mi
def hmOut (xi : Nat → Int32) (v : FV) : Dt := sOut (hmN v) v.2.2.2.1 xi
def hmErr (xi : Nat → Int32) (mi : Dt) (v : FV) : Dt := fSub mi (hmOut xi v)
def hmMu (v : FV) : Dt := fDiv (fI v.1.2.2.1) k1000
def hmHold (xi : Nat → Int32) (mi : Dt) (v : FV) : Prop := sLoudM v.1.2.2.2.1 (hmN v) xi mi ∨ 0 < v.2.1.1
abbrev hmHold' (xi : Nat → Int32) (mi : Dt) (v : FV) : Prop := sLoudM v.1.2.2.2.1 (hmN v) xi mi ∨ 0 < v.2.1.1
abbrev hmLearnsP (xi : Nat → Int32) (mi : Dt) (v : FV) : Prop := ¬ hmHold' xi mi v ∧ v.1.1 = 3
def hearM (xi : Nat → Int32) (mi : Dt) (v : FV) : FV :=
  (v.1,
   (if sLoudM v.1.2.2.2.1 (hmN v) xi mi then v.1.2.2.2.2 else if 0 < v.2.1.1 then v.2.1.1 - 1 else 0,
    v.2.1.2.1 + 1,
    if hmHold' xi mi v then v.2.1.2.2.1 + 1 else v.2.1.2.2.1,
    if hmLearnsP xi mi v ∧ rRes (hmN v) (hmMu v) v.2.2.2.2.2 xi = true then v.2.1.2.2.2 + 1 else v.2.1.2.2.2),
   (hmOut xi v, hmErr xi mi v),
   cutN (hmN v) (fun j => if hmHold' xi mi v then v.2.2.2.1 j else if v.1.1 = 3 then rW (hmN v) (hmMu v) (hmErr xi mi v) v.2.2.2.2.2 xi (v.2.2.2.1 j) j else sUp (v.2.2.2.1 j) (sLesM v.1.1 v.1.2.2.1 (hmErr xi mi v) (fI (xi j)) (sNorm (hmN v) xi))),
   cutN 16 (fun j => if j = tn v.2.1.2.1 % 16 then hmErr xi mi v else v.2.2.2.2.1 j),
   cutP (v.1.1 = 3) (hmN v) (fun a c => if hmLearnsP xi mi v then rP (hmN v) (hmMu v) v.2.2.2.2.2 xi a c else v.2.2.2.2.2 a c))
theorem tn_nI {n : Nat} (h : n < 2147483648) : tn (nI n) = n := nI_clamp h
/-! ===== a sample goes to all filters ===== -/
/-- a filter that can stand: taps in bounds, heard no more than T -/
def vS (T : Nat) (v : FV) : Prop := ∃ n tt, v.1.2.1 = nI n ∧ 1 ≤ n ∧ n ≤ 8 ∧ (v.1.1 = 3 → n ≤ 4) ∧ v.2.1.2.1 = nI tt ∧ tt ≤ T
theorem hearM_vS {T : Nat} {xi : Nat → Int32} {mi : Dt} {v : FV} (h : vS T v) : vS (T + 1) (hearM xi mi v) := by
  obtain ⟨n, tt, h1, h2, h3, h4, h5, h6⟩ := h
  refine ⟨n, tt + 1, h1, h2, h3, h4, ?_, by omega⟩
  show v.2.1.2.1 + 1 = _
  rw [h5]
  exact (nI_succ tt).symm
/-! ===== what a call is answered with: 0, or the place of what it throws ===== -/
abbrev isF (f fi : Int32) : Prop := 0 ≤ f ∧ f ≤ fi - 1
abbrev stpB (kd th : Int32) : Prop := (kd = 3 ∧ 500 ≤ th ∧ th ≤ 1000) ∨ (¬ kd = 3 ∧ 1 ≤ th ∧ th ≤ 2000)
def pathC (a b : Int32) : Int32 := if 0 ≤ a ∧ a ≤ 7 then (if -1000 ≤ b ∧ b ≤ 1000 then 0 else 2) else 1
def filtC (kd n th fi : Int32) : Int32 := if 0 ≤ kd ∧ kd ≤ 3 then (if 1 ≤ n ∧ n ≤ (if kd = 3 then 4 else 8) then (if stpB kd th then (if fi = 6 then 2 else 0) else 1) else 1) else 1
def stepC (f th fi kd : Int32) : Int32 := if isF f fi then (if stpB kd th then 0 else 2) else 1
def watchC (f a b fi : Int32) : Int32 := if isF f fi then (if 0 ≤ a ∧ a ≤ 1000 then (if 0 ≤ b ∧ b ≤ 20 then 0 else 2) else 2) else 1
def beginC (f fi : Int32) : Int32 := if isF f fi then 0 else 1
def feedC (a b sa : Int32) : Int32 := if -1000 ≤ a ∧ a ≤ 1000 then (if -1000 ≤ b ∧ b ≤ 1000 then (if sa = 2000 then 2 else 0) else 1) else 1
def scriptC (a b sa : Int32) : Int32 := if 0 ≤ a ∧ a ≤ 2000 then (if 1 ≤ b ∧ b ≤ 100 then (if sa + b ≤ 2000 then 0 else 2) else 1) else 1
def weightC (f a fi n : Int32) : Int32 := if isF f fi then (if 0 ≤ a ∧ a ≤ n - 1 then 0 else 1) else 1
def ofC (f a fi : Int32) : Int32 := if isF f fi then (if 0 ≤ a ∧ a ≤ 3 then 0 else 2) else 1
def batchC (a : Int32) : Int32 := if 0 ≤ a ∧ a ≤ 1 then 0 else 1
def squareC (f a b fi n kd : Int32) : Int32 := if isF f fi then (if 0 ≤ a ∧ a ≤ n - 1 then (if 0 ≤ b ∧ b ≤ n - 1 then (if kd = 3 then 0 else 2) else 1) else 1) else 1
theorem in_tn {x : Int32} (h : 0 ≤ x) : x = nI (tn x) := by
  obtain ⟨j, hj, rfl⟩ := nI_of (Int32.not_lt.mpr h)
  rw [tn_nI hj]
theorem tn_le {x : Int32} {b : Nat} (h : 0 ≤ x) (hb : b < 2147483648) (h1 : x ≤ nI b) : tn x ≤ b := by
  obtain ⟨j, hj, rfl⟩ := nI_of (Int32.not_lt.mpr h)
  rw [tn_nI hj]
  exact (nI_leI hj hb).mp h1
theorem nI_pm {n : Nat} (h0 : 0 < n) : nI n - 1 = nI (n - 1) := by
  obtain ⟨k, rfl⟩ : ∃ k, n = k + 1 := ⟨n - 1, by omega⟩
  exact nI_pred k
theorem in_m1 {x : Int32} {n : Nat} (hn : n < 2147483648) (h : 0 ≤ x ∧ x ≤ nI n - 1) : x = nI (tn x) ∧ tn x < n := by
  refine ⟨in_tn h.1, ?_⟩
  by_cases h0 : 0 < n
  · have := tn_le h.1 (by omega) (nI_pm h0 ▸ h.2)
    omega
  · have : n = 0 := by omega
    subst this
    have h2 := Int32.le_trans h.1 h.2
    exact absurd h2 (by decide)
theorem m1_in {j n : Nat} (hn : n < 2147483648) (h : j < n) : 0 ≤ nI j ∧ nI j ≤ nI n - 1 := by
  refine ⟨nI_pos' (by omega), ?_⟩
  rw [nI_pm (by omega)]
  exact nI_le (by omega) (by omega)
theorem in_b {j b : Nat} (hb : b < 2147483648) (h : j ≤ b) : 0 ≤ nI j ∧ nI j ≤ nI b := ⟨nI_pos' (by omega), nI_le h hb⟩
theorem stp_1 {kd th : Int32} (h : stpB kd th) : (if kd = 3 then (if 500 ≤ th ∧ th ≤ 1000 then (1 : Int32) else 0) else (if 1 ≤ th ∧ th ≤ 2000 then 1 else 0)) = 1 := by
  rcases h with ⟨a, b⟩ | ⟨a, b⟩
  · rw [if_pos a, if_pos b]
  · rw [if_neg a, if_pos b]
theorem stp_0 {kd th : Int32} (h : ¬ stpB kd th) : (if kd = 3 then (if 500 ≤ th ∧ th ≤ 1000 then (1 : Int32) else 0) else (if 1 ≤ th ∧ th ≤ 2000 then 1 else 0)) = 0 := by
  by_cases a : kd = 3
  · rw [if_pos a, if_neg (fun b => h (Or.inl ⟨a, b⟩))]
  · rw [if_neg a, if_neg (fun b => h (Or.inr ⟨a, b⟩))]

/-! ===== samples, as values ===== -/
/-- the bench but for its path: (x, latest x0, latest x1), latest microphones, microphone, samples, filters -/
abbrev BS : Type := ((Nat → Int32) × (Nat → Int32) × (Nat → Int32)) × (Nat → Dt) × Dt × Nat × (Nat → FV)
def bsS (pa : Nat → Int32) (v ta : Int32) (b : BS) : BS :=
  ((shX b.1.1 v, vf_upd b.1.2.1 (b.2.2.2.1 % 16) v, vf_upd b.1.2.2 (b.2.2.2.1 % 16) (b.1.1 0)), vf_upd b.2.1 (b.2.2.2.1 % 16) (sMic ta pa (shX b.1.1 v)), sMic ta pa (shX b.1.1 v), b.2.2.2.1 + 1, fun g => hearM (shX b.1.1 v) (sMic ta pa (shX b.1.1 v)) (b.2.2.2.2 g))
def nxN (a : Nat) : Nat := (7 * a + 1001) % 2001
def scrA (a : Nat) : Nat → Nat
  | 0 => a
  | k + 1 => nxN (scrA a k)
def bsN (pa : Nat → Int32) (a : Nat) : Nat → BS → BS
  | 0, b => b
  | k + 1, b => bsS pa (nI (scrA a (k + 1)) - 1000) 0 (bsN pa a k b)
theorem vf_dV {f : Nat → UInt64} {k : Nat} {x : UInt64} : (fun i => dV (vf_upd f k x i)) = vf_upd (fun i => dV (f i)) k (dV x) := by
  funext j
  unfold vf_upd
  by_cases h : j = k
  · rw [if_pos h, if_pos h]
  · rw [if_neg h, if_neg h]
theorem nI_ne {a b : Nat} (ha : a < 2147483648) (hb : b < 2147483648) (h : ¬ a = b) : ¬ nI a = nI b := fun q => h (nI_inj ha hb q)
/-- the best of the first k, by how far off they are -/
def bstN (f : Nat → Dt) : Nat → Option Nat
  | 0 => none
  | k + 1 => match bstN f k with
    | none => some k
    | some i => if fO (f k) (f i) = some .lt then some k else some i
def bstI (o : Option Nat) : Int32 := match o with
  | none => -1
  | some i => nI i
theorem bstN_lt {f : Nat → Dt} {k i : Nat} (h : bstN f k = some i) : i < k := by
  induction k generalizing i with
  | zero => exact absurd h (by simp [bstN])
  | succ k ih =>
    unfold bstN at h
    split at h
    · injection h with h; omega
    · rename_i j hj
      have := ih hj
      split at h
      · injection h with h; omega
      · injection h with h; omega
theorem bstN_congr {f g : Nat → Dt} {k : Nat} (h : ∀ i, i < k → f i = g i) : bstN f k = bstN g k := by
  induction k with
  | zero => rfl
  | succ k ih =>
    unfold bstN
    rw [ih (fun i hi => h i (by omega))]
    split
    · rfl
    · rename_i j hj
      rw [h k (by omega), h j (by have := bstN_lt hj; omega)]

theorem fNeg_sub {x : UInt64} (h : fO (dV x) (dV 0) = some .lt) : fSub (dV 0) (dV x) = fNeg (dV x) := by
  have hx : FP.Core.val64 x ≠ .nan := (FP.Core.dcmp_some (a := x) (b := 0) h).1
  have hn : FP.Core.val64 (FP.Core.dneg x) ≠ .nan := by
    intro q
    rw [FP.Core.val64_dneg] at q
    apply hx
    rw [← FP.Core.negate_negate (FP.Core.val64 x), q]
    rfl
  have hz : FP.Core.dneg x ≠ FP.Core.dzeroNeg := by
    intro q
    have e := FP.Core.dneg_dneg hx
    rw [q] at e
    rw [← e] at h
    exact absurd h (by decide +kernel)
  have e : FP.Core.dsub 0 x = FP.Core.dneg x := by
    rw [FP.Core.dsub_eq, FP.Core.dadd_comm]
    exact FP.Core.dadd_zero hn hz
  exact (FP.Core.val64_dsub 0 x).symm.trans ((congrArg FP.Core.val64 e).trans (FP.Core.val64_dneg x))
theorem fAbs_sSz (x : UInt64) : fAbs (dV x) = sSz (dV x) := by
  unfold fAbs sSz
  by_cases h : fO (dV x) (dV 0) = some .lt
  · rw [if_pos h, if_pos h, fNeg_sub h]
  · rw [if_neg h, if_neg h]
theorem scrA_le {a : Nat} (h : a ≤ 2000) (k : Nat) : scrA a k ≤ 2000 := by
  induction k with
  | zero => exact h
  | succ k ih =>
    have := Nat.mod_lt (7 * scrA a k + 1001) (show 2001 > 0 by decide)
    show (7 * scrA a k + 1001) % 2001 ≤ 2000
    omega
theorem nI_rem2001 {a : Nat} (ha : a < 2147483648) : nI a - nI a / 2001 * 2001 = nI (a % 2001) := pk_rem (d := 2001) ha (by decide) (by decide)
