/-! ===== what the methods compute, over the values of doubles ===== -/
/-- 100.0, 1000.0, 1.0, 1000000000.0 and others as values -/
abbrev k100 : Dt := dV 4636737291354636288
abbrev k1000 : Dt := dV 4652007308841189376
abbrev k1e9 : Dt := dV 4741671816366391296
def sMic (t : Int32) (pa : Nat → Int32) (xi : Nat → Int32) : Dt := smN (fI t) (fun k => fMul (fDiv (fI (pa k)) k100) (fI (xi k))) 8
def gapV (w : Dt) (p : Int32) : Dt := fSub w (fDiv (fI p) k100)
def sOff (n : Nat) (w : Nat → Dt) (pa : Nat → Int32) : Dt := smN (dV 0) (fun k => fMul (gapV (w k) (pa k)) (gapV (w k) (pa k))) n
def shX (xi : Nat → Int32) (x : Int32) : Nat → Int32 := fun k => if k = 0 then x else if k < 8 then xi (k - 1) else xi k
/-- the sum of products over the latest 16 of t samples -/
def sSum (t : Nat) (a b : Nat → Dt) : Dt := smN (dV 0) (fun k => fMul (a ((t - 16 + k) % 16)) (b ((t - 16 + k) % 16))) (t - (t - 16))
def sBz (t : Nat) (a b : Nat → Dt) : Dt := fSub (fMul (sSum t a a) (sSum t b b)) (fMul (sSum t a b) (sSum t a b))
def sBatch (tap : Int32) (t : Nat) (a b m : Nat → Dt) : Dt :=
  if fO (fAbs (sBz t a b)) (dV 4602678819172646912) = some .lt then dV 0
  else if tap = 0 then fDiv (fSub (fMul (sSum t a m) (sSum t b b)) (fMul (sSum t b m) (sSum t a b))) (sBz t a b)
  else fDiv (fSub (fMul (sSum t b m) (sSum t a a)) (fMul (sSum t a m) (sSum t a b))) (sBz t a b)
/-! whole numbers -/
theorem nI_mod {t k : Nat} (ht : t < 2147483648) (hk : k < 2147483648) : nI t % nI k = nI (t % k) := by
  apply Int32.toInt_inj.mp
  rw [Int32.toInt_mod, nI_toInt ht, nI_toInt hk, nI_toInt (by have := Nat.mod_le t k; omega), Int.ofNat_tmod]
theorem nI_16 : nI 16 = 16 := by decide
theorem i_nonneg_xor {a b : Int32} (ha : 0 ≤ a) (hb : 0 ≤ b) : 0 ≤ a ^^^ b := by
  have m : ∀ x : Int32, 0 ≤ x ↔ x.toBitVec.msb = false := fun x => by
    rw [BitVec.msb_eq_toInt, decide_eq_false_iff_not, Int32.le_iff_toInt_le]
    exact Int.not_lt.symm
  rw [m] at ha hb ⊢
  rw [Int32.toBitVec_xor, BitVec.msb_xor, ha, hb]
  rfl
theorem nI_sub {a b : Nat} (h : b ≤ a) (ha : a < 2147483648) : nI a - nI b = nI (a - b) := by
  rw [show nI a = nI (a - b) + nI b from by show Int32.ofNat a = Int32.ofNat (a - b) + Int32.ofNat b; rw [← Int32.ofNat_add, Nat.sub_add_cancel h]]
  exact Int32.add_sub_cancel _ _
/-- Math.max(0, t - 16) -/
theorem nI_max16 {t : Nat} (ht : t < 2147483648) : (if (0 : Int32) < nI t - 16 then nI t - 16 else 0) = nI (t - 16) := by
  by_cases h : 16 ≤ t
  · rw [← nI_16, nI_sub h ht]
    by_cases h0 : t - 16 = 0
    · rw [h0]; rfl
    · rw [if_pos]
      exact nI_lt (a := 0) (by omega) (by omega)
  · rw [show t - 16 = 0 by omega]
    rw [if_neg]
    · rfl
    · rw [Int32.lt_iff_toInt_lt, Int32.toInt_sub, nI_toInt ht]
      show ¬ (0 : Int) < ((t : Int) - 16).bmod (2 ^ 32)
      rw [Int.bmod_eq_of_le (by omega) (by omega)]
      omega
theorem vf_fI {f : Nat → Int32} {k : Nat} {x : Int32} : vf_upd (fun j => FP.i2d (f j)) k (FP.i2d x) = fun j => FP.i2d (vf_upd f k x j) := by
  funext j
  unfold vf_upd
  by_cases h : j = k
  · simp [h]
  · simp [h]
theorem nI_dec (k : Nat) : nI (k + 1) + Int32.ofInt (-1) = nI k := (Int32.sub_eq_add_neg (nI (k + 1)) 1).symm.trans (nI_pred k)
def shK (xi : Nat → Int32) (k : Nat) : Nat → Int32 := fun i => if k < i ∧ i < 8 then xi (i - 1) else xi i
theorem shK_7 (xi : Nat → Int32) : shK xi 7 = xi := by
  funext i
  unfold shK
  rw [if_neg (by omega)]
theorem shK_step (xi : Nat → Int32) {k : Nat} (h : k + 1 ≤ 7) : vf_upd (shK xi (k + 1)) (k + 1) (shK xi (k + 1) k) = shK xi k := by
  funext i
  unfold vf_upd shK
  by_cases e : i = k + 1
  · subst e
    rw [if_pos rfl, if_neg (by omega), if_pos (by omega)]
    rfl
  · rw [if_neg e]
    by_cases c : k < i ∧ i < 8
    · rw [if_pos c, if_pos (by omega)]
    · rw [if_neg c, if_neg (by omega)]
theorem shK_0 (xi : Nat → Int32) (x : Int32) : vf_upd (shK xi 0) 0 x = shX xi x := by
  funext i
  unfold vf_upd shK shX
  by_cases e : i = 0
  · rw [if_pos e, if_pos e]
  · rw [if_neg e, if_neg e]
    by_cases c : i < 8
    · rw [if_pos ⟨by omega, c⟩, if_pos c]
    · rw [if_neg (by omega), if_neg c]
theorem vf_fill {f : Nat → UInt64} {j : Nat} {v : UInt64} (h : ∀ i, i < j → f i = v) : ∀ i, i < j + 1 → vf_upd f j v i = v := by
  intro i hi
  unfold vf_upd
  by_cases e : i = j
  · rw [if_pos e]
  · rw [if_neg e]
    exact h i (by omega)
/-- Met.ofW for a method of a class with rows of natives, of which this method has none -/
theorem Met.ofWF {l : Launch} {y : MethodName} {ws ws' : List Cond} {rm : Room} {Pc : Array Value → State → Prop} {Qc : Array Value → State → Outcome → State → Prop} {mc ms : Nat} {free : Addr → Prop} {cc : ByteArray} {maxL : Nat} {ret : Option FieldType}
    (hy : plainFor y = true) (hw : ws = Cond.code y cc maxL ret :: ws')
    (body : ∀ p e s m args below meth c s₁, BodyLoose p l y (headSpec ws rm) cc maxL ret e s m args below meth c s₁ → c.maxLocals = maxL → Pc args s →
      W p l e (headSpec ws rm).room s m args below meth c s.heap [] 0 0 (MQ below Qc args s mc ms free) (entryFrame m args maxL)) : Met l y ws rm Pc Qc mc ms free := by
  refine MetFree.of_bodySF (code := cc) (maxLocals := maxL) (ret := ret) hy ?_ ?_
  · intro args s m h hn
    obtain ⟨meth, c, h1, h2, h3, h4, h5, h6, -, -⟩ := Cond.code_spec hn (atoms_spec (ws := ws) h _ (by rw [hw]; exact List.mem_cons_self))
    exact ⟨meth, c, h1, h2, h3, h4, h5, h6⟩
  · intro p e s m args below meth c s₁ B hml hP _
    have hh0 : s₁.heap = s.heap := by rw [B.state]; rfl
    obtain ⟨t, a1, o, b1, b2, b3⟩ := body p e s m args below meth c s₁ B hml hP s₁ hh0 (Stand.of_body B)
    exact ⟨t, o, a1, b1, b2, b3⟩
/-! a filter that is no RLS -/
abbrev kOne : Dt := dV 4607182418800017408
def sGr (xi : Nat → Int32) : Nat → Dt
  | 0 => dV 0
  | k + 1 => if fO (fAbs (fI (xi k))) (sGr xi k) = some .gt then fAbs (fI (xi k)) else sGr xi k
abbrev sLoud (wa : Int32) (n : Nat) (xi : Nat → Int32) (mi : Dt) : Prop := 0 < wa ∧ fO (fAbs mi) (fMul (fDiv (fI wa) k100) (sGr xi n)) = some .gt
def sLes (kd th : Int32) (er x nm : Dt) : Dt :=
  if kd = 0 then fMul (fMul (fDiv (fI th) k1000) er) x
  else if kd = 1 then (if fO nm kOne = some .lt ∨ fO nm kOne = none then dV 0 else fDiv (fMul (fMul (fDiv (fI th) k1000) er) x) nm)
  else if fO er (dV 0) = some .gt then fMul (fDiv (fI th) k1000) x
  else if fO er (dV 0) = some .lt then fNeg (fMul (fDiv (fI th) k1000) x) else dV 0
def sNorm (n : Nat) (xi : Nat → Int32) : Dt := smN kOne (fun k => fMul (fI (xi k)) (fI (xi k))) n
def sUp (w le : Dt) : Dt := fHold (fAdd w le) k1e9 (fNeg k1e9)
def sNm (kd : Int32) (n : Nat) (xi : Nat → Int32) : Dt := if kd = 1 then sNorm n xi else kOne
def sPow (t : Nat) (e : Nat → Dt) : Dt := if t = 0 then dV 0 else fDiv (smN (dV 0) (fun k => fMul (e ((t - 16 + k) % 16)) (e ((t - 16 + k) % 16))) (t - (t - 16))) (fI (nI (t - (t - 16))))
theorem look0 : Op.lookupswitch.offset [(0, 25), (1, 35)] 57 (0 : Int32).toInt = 25 := by decide
theorem look1 : Op.lookupswitch.offset [(0, 25), (1, 35)] 57 (1 : Int32).toInt = 35 := by decide
theorem look2 {k : Int32} (h0 : ¬ k = 0) (h1 : ¬ k = 1) : Op.lookupswitch.offset [(0, 25), (1, 35)] 57 k.toInt = 57 := by
  have a0 : ¬ k.toInt = 0 := fun h => h0 (Int32.toInt_inj.mp h)
  have a1 : ¬ k.toInt = 1 := fun h => h1 (Int32.toInt_inj.mp h)
  have b0 : ¬ (0 : Int) = k.toInt := fun h => a0 h.symm
  have b1 : ¬ (1 : Int) = k.toInt := fun h => a1 h.symm
  simp [Op.lookupswitch.offset, a0, a1, b0, b1]
theorem vf_ups {f : Nat → UInt64} {g : Nat → Dt} {j : Nat} {v : UInt64} (h : ∀ i, i < j → dV (f i) = g i) (hv : dV v = g j) : ∀ i, i < j + 1 → dV (vf_upd f j v i) = g i := by
  intro i hi
  unfold vf_upd
  by_cases e : i = j
  · rw [if_pos e, hv, e]
  · rw [if_neg e]
    exact h i (by omega)
theorem vf_rest {f g : Nat → UInt64} {j : Nat} {v : UInt64} (h : ∀ i, j ≤ i → f i = g i) : ∀ i, j + 1 ≤ i → vf_upd f j v i = g i := by
  intro i hi
  unfold vf_upd
  rw [if_neg (by omega)]
  exact h i (by omega)
theorem nI_inj {a b : Nat} (ha : a < 2147483648) (hb : b < 2147483648) (h : nI a = nI b) : a = b := by
  have h1 := congrArg Int32.toInt h
  rw [nI_toInt ha, nI_toInt hb] at h1
  omega
/-! the square of an RLS -/
def upP (P : Nat → Nat → UInt64) (i j : Nat) (x : UInt64) : Nat → Nat → UInt64 := vf_upd P i (vf_upd (P i) j x)
theorem upP_same {P : Nat → Nat → UInt64} {i j : Nat} {x : UInt64} : upP P i j x i j = x := by simp [upP, vf_upd]
theorem upP_ne {P : Nat → Nat → UInt64} {i j a b : Nat} {x : UInt64} (h : a ≠ i ∨ b ≠ j) : upP P i j x a b = P a b := by
  unfold upP vf_upd
  by_cases e : a = i
  · subst e
    rw [if_pos rfl, if_neg (h.elim (fun h => absurd rfl h) id)]
  · rw [if_neg e]
abbrev sqO (o an ag ah n : Nat) : Nat × va_E := (o, .inr (2, [.int (nI n), .ref an, .ref ag, .ref ah]))
theorem rows_of_pl {q : Nat → ClassId} {n : Nat} {r : Nat → Nat} {f : Nat → va_E} {z : vp_A} : va_pl (([] : List Nat) ++ (List.range n).map r) (vr_up f ((List.range n).map r) (.inl (q 1, z))) = (List.range n).map (fun j => (r j, .inl (q 1, z))) := by
  unfold va_pl
  rw [List.nil_append, List.map_map]
  apply List.map_congr_left
  intro a ha
  show (r a, vr_up f ((List.range n).map r) (.inl (q 1, z)) (r a)) = _
  rw [vr_up_in (List.mem_map.mpr ⟨a, ha, rfl⟩)]
theorem vf_self {α : Type} {f : Nat → α} {j : Nat} {v : α} : vf_upd f j v j = v := if_pos rfl
theorem fst_step {P : Nat → Nat → UInt64} {i j n : Nat} {v : UInt64} (hv : v = if i = j then H100 else 0) (h : ∀ a b, (a < i ∧ b < n) ∨ (a = i ∧ b < j) → P a b = if a = b then H100 else 0) : ∀ a b, (a < i ∧ b < n) ∨ (a = i ∧ b < j + 1) → upP P i j v a b = if a = b then H100 else 0 := by
  intro a b hab
  by_cases e : a = i ∧ b = j
  · rw [e.1, e.2, upP_same, hv]
  · rw [upP_ne (by omega)]
    exact h a b (by omega)
/-! the reference -/
theorem nI_mul (a b : Nat) : nI a * nI b = nI (a * b) := (Int32.ofNat_mul a b).symm
theorem nI_rem16 {a : Nat} (ha : a < 2147483648) : nI a - nI a / 16 * 16 = nI (a % 16) := pk_rem (d := 16) ha (by decide) (by decide)
theorem neg1e9 : dV 13965043853221167104 = fNeg k1e9 := by decide +kernel
def sSz (v : Dt) : Dt := if fO v (dV 0) = some .lt then fSub (dV 0) v else v
def gI (xi : Nat → Int32) : Nat → Int32
  | 0 => 0
  | k + 1 => if gI xi k < (if xi k < 0 then - xi k else xi k) then (if xi k < 0 then - xi k else xi k) else gI xi k
abbrev sLoudM (wa : Int32) (n : Nat) (xi : Nat → Int32) (mi : Dt) : Prop := 0 < wa ∧ fO (sSz mi) (fMul (fDiv (fI wa) k100) (fI (gI xi n))) = some .gt
def sLesM (kd th : Int32) (er x nm : Dt) : Dt :=
  if kd = 0 then fMul (fMul (fDiv (fI th) k1000) er) x
  else if kd = 1 then fDiv (fMul (fMul (fDiv (fI th) k1000) er) x) nm
  else if fO er (dV 0) = some .gt then fMul (fDiv (fI th) k1000) x
  else if fO er (dV 0) = some .lt then fSub (dV 0) (fMul (fDiv (fI th) k1000) x) else dV 0
theorem rs_step {F : Nat → UInt64} {b i j : Nat} {v : UInt64} (hj : j < 4) (hv : v = if i = j then H100 else 0) (h : ∀ a c, ((a < i ∧ c < 4) ∨ (a = i ∧ c < j)) → F (b + 4 * a + c) = if a = c then H100 else 0) : ∀ a c, ((a < i ∧ c < 4) ∨ (a = i ∧ c < j + 1)) → vf_upd F (b + 4 * i + j) v (b + 4 * a + c) = if a = c then H100 else 0 := by
  intro a c hac
  unfold vf_upd
  by_cases e : b + 4 * a + c = b + 4 * i + j
  · rw [if_pos e, hv, show a = i by omega, show c = j by omega]
  · rw [if_neg e]
    exact h a c (by omega)
theorem rs_out {F G : Nat → UInt64} {b k : Nat} {v : UInt64} (hk : b ≤ k ∧ k < b + 16) (h : ∀ i, (i < b ∨ b + 16 ≤ i) → F i = G i) : ∀ i, (i < b ∨ b + 16 ≤ i) → vf_upd F k v i = G i := by
  intro i hi
  unfold vf_upd
  rw [if_neg (by omega)]
  exact h i hi
theorem wt_ups {F : Nat → UInt64} {g : Nat → Dt} {b j : Nat} {v : UInt64} (h : ∀ i, i < j → dV (F (b + i)) = g i) (hv : dV v = g j) : ∀ i, i < j + 1 → dV (vf_upd F (b + j) v (b + i)) = g i := by
  intro i hi
  unfold vf_upd
  by_cases e : i = j
  · rw [if_pos (by omega), hv, e]
  · rw [if_neg (by omega)]
    exact h i (by omega)
theorem wt_out {F G : Nat → UInt64} {b j n : Nat} {v : UInt64} (hj : j < n) (h : ∀ i, (i < b ∨ b + n ≤ i) → F i = G i) : ∀ i, (i < b ∨ b + n ≤ i) → vf_upd F (b + j) v i = G i := by
  intro i hi
  unfold vf_upd
  rw [if_neg (by omega)]
  exact h i hi
theorem wt_rest {F G : Nat → UInt64} {b j : Nat} {v : UInt64} (h : ∀ i, j ≤ i → F (b + i) = G (b + i)) : ∀ i, j + 1 ≤ i → vf_upd F (b + j) v (b + i) = G (b + i) := by
  intro i hi
  unfold vf_upd
  rw [if_neg (by omega)]
  exact h i (by omega)
theorem nar_b {p : Prop} [Decidable p] {r : Int32} (h : r = if p then 1 else 0) : narrow .boolean (.int r) = .int r := by
  rw [h]
  split <;> rfl
