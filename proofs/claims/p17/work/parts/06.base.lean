/-! ===== the values of doubles, a NaN's bits left out ===== -/
theorem nan_bits {a : UInt64} (h : isNaN64 a = true) : dV a = .nan := by
  have h1 : FP.Core.dIsNaN a = true := by
    rw [FP.Core.isNaN_bits]
    have h2 := isNaN64_iff.mp h
    rw [show (0x7fffffffffffffff : Nat) = 2 ^ 63 - 1 from rfl, Nat.and_two_pow_sub_one_eq_mod] at h2
    exact h2
  have h3 : decide (FP.Core.decode FP.Core.b64 a.toNat = .nan) = true := h1
  exact of_decide_eq_true h3
theorem dV_alike {r v : UInt64} (h : alike64 r v = true) : dV r = dV v := by
  unfold alike64 at h
  rw [Bool.or_eq_true, Bool.and_eq_true] at h
  rcases h with h | ⟨h1, h2⟩
  · rw [of_decide_eq_true h]
  · rw [nan_bits h1, nan_bits h2]
theorem dV_add {r x y : UInt64} (h : alike64 r (FP.dadd x y) = true) : dV r = fAdd (dV x) (dV y) := (dV_alike h).trans (FP.Core.val64_dadd x y)
theorem dV_sub {r x y : UInt64} (h : alike64 r (FP.dsub x y) = true) : dV r = fSub (dV x) (dV y) := (dV_alike h).trans (FP.Core.val64_dsub x y)
theorem dV_mul {r x y : UInt64} (h : alike64 r (FP.dmul x y) = true) : dV r = fMul (dV x) (dV y) := (dV_alike h).trans (FP.Core.val64_dmul x y)
theorem dV_div {r x y : UInt64} (h : alike64 r (FP.ddiv x y) = true) : dV r = fDiv (dV x) (dV y) := (dV_alike h).trans (FP.Core.val64_ddiv x y)
theorem dV_neg (x : UInt64) : dV (FP.dneg x) = fNeg (dV x) := FP.val64_dneg x
theorem dV_i2d (i : Int32) : dV (FP.i2d i) = fI i := rfl
theorem dcmp_fO (x y : UInt64) : FP.dcmp x y = fO (dV x) (dV y) := rfl
/-- dcmpl, dcmpg against 0 -/
theorem cl_le (o : Option Ordering) : (Op.cmpValue o CmpOp.l ≤ 0) ↔ ¬ o = some .gt := by rcases o with _ | (_ | _ | _) <;> decide
theorem cl_lt (o : Option Ordering) : (Op.cmpValue o CmpOp.l < 0) ↔ (o = some .lt ∨ o = none) := by rcases o with _ | (_ | _ | _) <;> decide
theorem cg_ge (o : Option Ordering) : (0 ≤ Op.cmpValue o CmpOp.g) ↔ ¬ o = some .lt := by rcases o with _ | (_ | _ | _) <;> decide
theorem cg_gt (o : Option Ordering) : (0 < Op.cmpValue o CmpOp.g) ↔ (o = some .gt ∨ o = none) := by rcases o with _ | (_ | _ | _) <;> decide
theorem cl_eq (o : Option Ordering) : (Op.cmpValue o CmpOp.l = 0) ↔ o = some .eq := by rcases o with _ | (_ | _ | _) <;> decide
/-- either way -/
def fAbs (x : Dt) : Dt := if fO x (dV 0) = some .lt then fNeg x else x
theorem fHold_gt {x b nb : Dt} (h : fO x b = some .gt) : fHold x b nb = b := if_pos h
theorem fHold_lt {x b nb : Dt} (h1 : ¬ fO x b = some .gt) (h2 : fO x nb = some .lt) : fHold x b nb = nb := by unfold fHold; rw [if_neg h1, if_pos h2]
theorem fHold_mid {x b nb : Dt} (h1 : ¬ fO x b = some .gt) (h2 : ¬ fO x nb = some .lt) : fHold x b nb = x := by unfold fHold; rw [if_neg h1, if_neg h2]
theorem fAbs_lt {x : Dt} (h : fO x (dV 0) = some .lt) : fAbs x = fNeg x := if_pos h
theorem fAbs_n {x : Dt} (h : ¬ fO x (dV 0) = some .lt) : fAbs x = x := if_neg h
/-! ===== what the classes' cells hold ===== -/
abbrev aI (q : Nat → ClassId) (n : Nat) (f : Nat → Int32) : va_E := .inl (q 0, n, .inl f)
abbrev aD (q : Nat → ClassId) (n : Nat) (f : Nat → UInt64) : va_E := .inl (q 1, n, .inr (.inr (.inr (.inl f))))
abbrev aA (q : Nat → ClassId) (n : Nat) (f : Nat → Option Nat) : va_E := .inl (q 2, n, .inr (.inr (.inr (.inr f))))
abbrev aF (q : Nat → ClassId) (n : Nat) (f : Nat → Option Nat) : va_E := .inl (q 3, n, .inr (.inr (.inr (.inr f))))
/-- the arrays' classes -/
abbrev tyA (q : Nat → ClassId) : List (ClassId × FieldType) := [(q 0, .int), (q 1, .double), (q 2, .array .double), (q 3, .object "EchoBench$Filter")]
/-- links between nest mates, which no list of words holds -/
def nestW : List Cond := [
  .fieldLinkNest RX3 104 "EchoBench$Filter" "weights" "[D" "EchoBench",
  .fieldLinkNest RX3 110 "EchoBench$Filter" "output" "D" "EchoBench",
  .fieldLinkNest RX3 114 "EchoBench$Filter" "error" "D" "EchoBench",
  .fieldLinkNest RX3 127 "EchoBench$Filter" "heard" "I" "EchoBench",
  .fieldLinkNest RX3 130 "EchoBench$Filter" "held" "I" "EchoBench",
  .fieldLinkNest RX3 133 "EchoBench$Filter" "resets" "I" "EchoBench",
  .fieldLinkNest RX3 136 "EchoBench$Filter" "holdsLeft" "I" "EchoBench",
  .fieldLinkNest RX3 139 "EchoBench$Samples" "lastMicrophone" "D" "EchoBench",
  .fieldLinkNest RX3 150 "EchoBench$Filter" "square" "LEchoBench$Square;" "EchoBench",
  .fieldLinkNest RX3 165 "EchoBench$Samples" "xs" "[D" "EchoBench",
  .fieldLinkNest RX3 70 "EchoBench$Filter" "kind" "I" "EchoBench",
  .fieldLinkNest RX3 73 "EchoBench$Filter" "thousandths" "I" "EchoBench",
  .fieldLinkNest RX3 78 "EchoBench$Filter" "watchHundredths" "I" "EchoBench",
  .fieldLinkNest RX3 81 "EchoBench$Filter" "tail" "I" "EchoBench",
  .fieldLinkNest RX3 91 "EchoBench$Samples" "taken" "I" "EchoBench",
  .methodLinkNest RX0 112 yX2_prepare "EchoBench",
  .methodLinkNest RX0 115 yX2_share "EchoBench",
  .methodLinkNest RX0 119 yX2_renew "EchoBench",
  .methodLinkNest RX0 125 yX3_heldTo "EchoBench",
  .methodLinkNest RX0 24 yX2_init "EchoBench",
  .methodLinkNest RX0 40 yX2_restart "EchoBench",
  .methodLinkNest RX0 93 yX3_eitherWay "EchoBench",
  .methodLinkNest RX1 52 yX3_eitherWay "EchoBench",
  .methodLinkNest RX2 27 yX3_isWithin "EchoBench",
  .methodLinkNest RX3 117 yX1_offness "EchoBench",
  .methodLinkNest RX3 121 yX0_power "EchoBench",
  .methodLinkNest RX3 142 yX1_batchWeight "EchoBench",
  .methodLinkNest RX3 156 yX2_number "EchoBench",
  .methodLinkNest RX3 162 yX1_take "EchoBench",
  .methodLinkNest RX3 168 yX0_hear "EchoBench",
  .methodLinkNest RX3 42 yX1_tellPath "EchoBench",
  .methodLinkNest RX3 61 yX0_init "EchoBench",
  .methodLinkNest RX3 84 yX0_restart "EchoBench",
  .methodLinkNest RX3 9 yX1_init "EchoBench"]
def isNest : Cond → Bool
  | .fieldLinkNest .. => true
  | .methodLinkNest .. => true
  | _ => false
theorem nestW_is : ∀ w ∈ nestW, isNest w = true := by decide +kernel
/-- the links between nest mates, and that an array class of arrays, and one of filters, stands -/
def NF (U : State) : Prop := (∀ w ∈ nestW, va_Nw w U) ∧ va_AOA .double U ∧ va_AO "EchoBench$Filter" U
theorem va_AOA.moved {ty : FieldType} {u U : State} (hvm : u.vm.Alike U.vm) (h : va_AOA ty u) : va_AOA ty U := arrayOver_alikeB hvm h
theorem NF.warm {s U : State} (hW : s.WarmedH U.vm) (h : NF s) : NF U := by
  refine ⟨fun w hw => ?_, va_AOA.moved hW.alike h.2.1, va_AO.moved hW.alike h.2.2⟩
  have h1 := h.1 w hw
  have h2 := nestW_is w hw
  cases w <;> first | exact va_Nw.warmF hW h1 | exact va_Nw.warmM hW h1 | (simp [isNest] at h2; done)
theorem NF.drawn {s : State} (h : NF s) (d : Drawn) : NF (s.setDrawn d) := ⟨fun w hw => (Cond.before_setDrawn #[] s d w).trans (h.1 w hw), (Cond.before_setDrawn #[] s d _).trans h.2.1, (Cond.before_setDrawn #[] s d _).trans h.2.2⟩
/-- a contract's start: the arguments, the cells, the arrays' classes, the links -/
abbrev PreW (G : va_G) (q : Nat → ClassId) (av : List Value) (w : va_W) (sz : Nat) : Array Value → State → Prop := va_Pc av (fun U => U.heap.size = sz ∧ va_P G vwCl w U.heap ∧ va_K G vwCl (tyA q) U ∧ va_D (fun _ => True) w ∧ NF U)
abbrev EndW (G : va_G) (w0 : va_W) (sz : Nat) (w : va_W) (t : State) : Prop := va_P G vwCl w t.heap ∧ va_D (va_A w0 sz) w
section BX0
variable {p : Program} {l : Launch} {e : Env} {R : Room} {s : State} {m : MethodId} {args : Array Value} {below : List Frame} {meth : Method} {c : Code} {H : Heap} {locs : List Loc} {cells slots : Nat} {Q : State → Prop}
variable {cc : ByteArray} {pc : Nat} {ls : Array Slot} {rest : List Value} {D : va_G} {cl : List vw_C} {A : Nat → Prop} {a : Nat} {tys : List (ClassId × FieldType)} {ws : va_W} {H0 : Heap}
theorem va_aldA (hexec : p.tables.exec = Jvm.exec) (hb : c.code = cc) (hK : va_K D cl tys s) (hP : va_P D cl ws H) (q0 t0 : Nat) {cA : ClassId} {ty : FieldType} {n : Nat} {f : Nat → Option Nat} (ha : ws[q0]? = some (a, .inl (cA, n, .inr (.inr (.inr (.inr f)))))) (ht : tys[t0]? = some (cA, .array ty)) {i : Int32} {v : Nat} (hin : vp_in i n) (hv : f i.toNatClampNeg = some v) (hdg : decode cc pc = .ok (.aaload, 1))
    (kk : W p l e R s m args below meth c H locs cells slots Q (F0 m (pc + 1) ls (.ref v :: rest))) : W p l e R s m args below meth c H locs cells slots Q (F0 m pc ls (.int i :: .ref a :: rest)) := by
  have hlt : i.toNatClampNeg < n := Nat.not_le.mp fun q => hin (Or.inr q)
  exact W.aald (v := .ref v) (ty := .array ty) hexec hb (hP q0 _ ha) ((hK.2 t0 _ ht).1 n (fun j => va_rf (f j))) rfl (fun q => by cases q) (by show ¬ (i < 0 ∨ (arrV _ _ _).slots.size ≤ _); rw [arrV_size]; exact hin) (by show (arrV _ _ _).slots[_]? = _; rw [arrV_read _ _ hlt, hv]; rfl) rfl rfl hdg kk
theorem vpin {i : Int32} {j n : Nat} (hi : i = nI j) (hj : j < n) (hn : n < 2147483648) : vp_in i n := by
  rw [hi]
  exact nI_in hj hn
theorem va_daldJ (hexec : p.tables.exec = Jvm.exec) (hb : c.code = cc) (hK : va_K D cl tys s) (hP : va_P D cl ws H) (q0 t0 : Nat) {cA : ClassId} {n : Nat} {f : Nat → UInt64} (ha : ws[q0]? = some (a, .inl (cA, n, .inr (.inr (.inr (.inl f)))))) (ht : tys[t0]? = some (cA, .double)) {i : Int32} {j : Nat} (hi : i = nI j) (hj : j < n) (hn : n < 2147483648) (hdg : decode cc pc = .ok (.daload, 1))
    (kk : W p l e R s m args below meth c H locs cells slots Q (F0 m (pc + 1) ls (.double (f j) :: rest))) : W p l e R s m args below meth c H locs cells slots Q (F0 m pc ls (.int i :: .ref a :: rest)) :=
  va_dald hexec hb hK hP q0 t0 ha ht (vpin hi hj hn) hdg (by rw [hi, nI_clamp (by omega)]; exact kk)
theorem va_ialdJ (hexec : p.tables.exec = Jvm.exec) (hb : c.code = cc) (hK : va_K D cl tys s) (hP : va_P D cl ws H) (q0 t0 : Nat) {cA : ClassId} {n : Nat} {f : Nat → Int32} (ha : ws[q0]? = some (a, .inl (cA, n, .inl f))) (ht : tys[t0]? = some (cA, .int)) {i : Int32} {j : Nat} (hi : i = nI j) (hj : j < n) (hn : n < 2147483648) (hdg : decode cc pc = .ok (.iaload, 1))
    (kk : W p l e R s m args below meth c H locs cells slots Q (F0 m (pc + 1) ls (.int (f j) :: rest))) : W p l e R s m args below meth c H locs cells slots Q (F0 m pc ls (.int i :: .ref a :: rest)) :=
  va_iald hexec hb hK hP q0 t0 ha ht (vpin hi hj hn) hdg (by rw [hi, nI_clamp (by omega)]; exact kk)
theorem va_laldJ (hexec : p.tables.exec = Jvm.exec) (hb : c.code = cc) (hK : va_K D cl tys s) (hP : va_P D cl ws H) (q0 t0 : Nat) {cA : ClassId} {n : Nat} {f : Nat → Int64} (ha : ws[q0]? = some (a, .inl (cA, n, .inr (.inl f)))) (ht : tys[t0]? = some (cA, .long)) {i : Int32} {j : Nat} (hi : i = nI j) (hj : j < n) (hn : n < 2147483648) (hdg : decode cc pc = .ok (.laload, 1))
    (kk : W p l e R s m args below meth c H locs cells slots Q (F0 m (pc + 1) ls (.long (f j) :: rest))) : W p l e R s m args below meth c H locs cells slots Q (F0 m pc ls (.int i :: .ref a :: rest)) :=
  va_lald hexec hb hK hP q0 t0 ha ht (vpin hi hj hn) hdg (by rw [hi, nI_clamp (by omega)]; exact kk)
theorem va_aldqJ (hexec : p.tables.exec = Jvm.exec) (hb : c.code = cc) (hK : va_K D cl tys s) (hP : va_P D cl ws H) (q0 t0 : Nat) {cA : ClassId} {C : String} {n : Nat} {f : Nat → Option Nat} (ha : ws[q0]? = some (a, .inl (cA, n, .inr (.inr (.inr (.inr f)))))) (ht : tys[t0]? = some (cA, .object C)) {i : Int32} {j : Nat} (hi : i = nI j) (hj : j < n) (hn : n < 2147483648) (hdg : decode cc pc = .ok (.aaload, 1))
    (kk : W p l e R s m args below meth c H locs cells slots Q (F0 m (pc + 1) ls (va_rf (f j) :: rest))) : W p l e R s m args below meth c H locs cells slots Q (F0 m pc ls (.int i :: .ref a :: rest)) :=
  va_aldq hexec hb hK hP q0 t0 ha ht (vpin hi hj hn) hdg (by rw [hi, nI_clamp (by omega)]; exact kk)
theorem va_aldAJ (hexec : p.tables.exec = Jvm.exec) (hb : c.code = cc) (hK : va_K D cl tys s) (hP : va_P D cl ws H) (q0 t0 : Nat) {cA : ClassId} {ty : FieldType} {n : Nat} {f : Nat → Option Nat} (ha : ws[q0]? = some (a, .inl (cA, n, .inr (.inr (.inr (.inr f)))))) (ht : tys[t0]? = some (cA, .array ty)) {i : Int32} {j : Nat} {v : Nat} (hi : i = nI j) (hj : j < n) (hn : n < 2147483648) (hv : f j = some v) (hdg : decode cc pc = .ok (.aaload, 1))
    (kk : W p l e R s m args below meth c H locs cells slots Q (F0 m (pc + 1) ls (.ref v :: rest))) : W p l e R s m args below meth c H locs cells slots Q (F0 m pc ls (.int i :: .ref a :: rest)) :=
  va_aldA hexec hb hK hP q0 t0 ha ht (vpin hi hj hn) (by rw [hi, nI_clamp (by omega)]; exact hv) hdg kk
theorem va_dastJ (hexec : p.tables.exec = Jvm.exec) (hb : c.code = cc) (hK : va_K D cl tys s) (hP : va_P D cl ws H) (hD : va_D A ws) (hS : va_S A H0 H locs) (q0 t0 : Nat) {cA : ClassId} {n : Nat} {f : Nat → UInt64} (ha : ws[q0]? = some (a, .inl (cA, n, .inr (.inr (.inr (.inl f)))))) (ht : tys[t0]? = some (cA, .double)) {i : Int32} {j : Nat} {x : UInt64} (hi : i = nI j) (hj : j < n) (hn : n < 2147483648) (hdg : decode cc pc = .ok (.dastore, 1))
    (kk : ∀ (H1 : Heap) (locs1 : List Loc), va_P D cl (ws.set q0 (a, .inl (cA, n, .inr (.inr (.inr (.inl (vf_upd f j x))))))) H1 → va_D A (ws.set q0 (a, .inl (cA, n, .inr (.inr (.inr (.inl (vf_upd f j x))))))) → va_S A H0 H1 locs1 → W p l e R s m args below meth c H1 locs1 cells slots Q (F0 m (pc + 1) ls rest)) : W p l e R s m args below meth c H locs cells slots Q (F0 m pc ls (.double x :: .int i :: .ref a :: rest)) :=
  va_dast hexec hb hK hP hD hS q0 t0 ha ht (vpin hi hj hn) hdg (by rw [hi, nI_clamp (by omega)]; exact kk)
theorem va_iastJ (hexec : p.tables.exec = Jvm.exec) (hb : c.code = cc) (hK : va_K D cl tys s) (hP : va_P D cl ws H) (hD : va_D A ws) (hS : va_S A H0 H locs) (q0 t0 : Nat) {cA : ClassId} {n : Nat} {f : Nat → Int32} (ha : ws[q0]? = some (a, .inl (cA, n, .inl f))) (ht : tys[t0]? = some (cA, .int)) {i : Int32} {j : Nat} {x : Int32} (hi : i = nI j) (hj : j < n) (hn : n < 2147483648) (hdg : decode cc pc = .ok (.iastore, 1))
    (kk : ∀ (H1 : Heap) (locs1 : List Loc), va_P D cl (ws.set q0 (a, .inl (cA, n, .inl (vf_upd f j x)))) H1 → va_D A (ws.set q0 (a, .inl (cA, n, .inl (vf_upd f j x)))) → va_S A H0 H1 locs1 → W p l e R s m args below meth c H1 locs1 cells slots Q (F0 m (pc + 1) ls rest)) : W p l e R s m args below meth c H locs cells slots Q (F0 m pc ls (.int x :: .int i :: .ref a :: rest)) :=
  va_iast hexec hb hK hP hD hS q0 t0 ha ht (vpin hi hj hn) hdg (by rw [hi, nI_clamp (by omega)]; exact kk)
theorem lv_dc0 (hexec : p.tables.exec = Jvm.exec) (hb : c.code = cc) (hdg : decode cc pc = .ok (.dconst 0, 1)) (k : W p l e R s m args below meth c H locs cells slots Q (F0 m (pc + 1) ls (.double 0 :: rest))) : W p l e R s m args below meth c H locs cells slots Q (F0 m pc ls rest) := lv_dconst0 hexec hb hdg k
theorem lv_dc1 (hexec : p.tables.exec = Jvm.exec) (hb : c.code = cc) (hdg : decode cc pc = .ok (.dconst 1, 1)) (k : W p l e R s m args below meth c H locs cells slots Q (F0 m (pc + 1) ls (.double 4607182418800017408 :: rest))) : W p l e R s m args below meth c H locs cells slots Q (F0 m pc ls rest) := lv_dconst1 hexec hb hdg k
end BX0
theorem nestW_ot : ∀ w ∈ nestW, w.onTables = true := by decide +kernel
theorem preW_blind {G : va_G} {q : Nat → ClassId} {av : List Value} {w : va_W} {sz : Nat} : FrameBlind (PreW G q av w sz) := fun a U g mk h => by
  obtain ⟨q0, q1, qP, qK, qD, qN⟩ := h
  exact ⟨q0, q1, qP, va_K.moved (u := U) (U := U.calling g mk a) (Vm.Alike.refl U.vm) qK, qD, ⟨fun w hw => va_Nw.same (u := U) (U := U.calling g mk a) (nestW_ot w hw) rfl (qN.1 w hw), va_AOA.moved (u := U) (U := U.calling g mk a) (Vm.Alike.refl U.vm) qN.2.1, va_AO.moved (u := U) (U := U.calling g mk a) (Vm.Alike.refl U.vm) qN.2.2⟩⟩
theorem preW_start {G : va_G} {q : Nat → ClassId} {av : List Value} {w : va_W} {A : Nat → Prop} {s : State} {H : Heap} (hP : va_P G vwCl w H) (hK : va_K G vwCl (tyA q) s) (hD : va_D A w) (hNF : NF s) : ∀ U : State, U.heap = H → s.WarmedH U.vm → PreW G q av w H.size av.toArray U := fun U hU hW => ⟨rfl, by rw [hU], by rw [hU]; exact hP, va_K.moved hW.alike hK, hD.weaken (fun _ _ _ _ => trivial), hNF.warm hW⟩
/-! ===== rows of cells with addresses by a function ===== -/
def rowsW (q : Nat → ClassId) (w n : Nat) (ad : Nat → Nat) (P : Nat → Nat → UInt64) : va_W := (List.range n).map (fun j => (ad j, aD q w (P j)))
theorem rowsW_get {q : Nat → ClassId} {w n : Nat} {ad : Nat → Nat} {P : Nat → Nat → UInt64} {X : va_W} {j k : Nat} (hj : j < n) (hk : k = X.length + j) : (X ++ rowsW q w n ad P)[k]? = some (ad j, aD q w (P j)) := by
  subst hk
  rw [List.getElem?_append_right (by omega)]
  simp [rowsW, hj]
theorem rowsW_set {q : Nat → ClassId} {w n : Nat} {ad : Nat → Nat} {P : Nat → Nat → UInt64} {X : va_W} {j k : Nat} {f : Nat → UInt64} (hj : j < n) (hk : k = X.length + j) : (X ++ rowsW q w n ad P).set k (ad j, aD q w f) = X ++ rowsW q w n ad (vf_upd P j f) := by
  subst hk
  apply List.ext_getElem?
  intro i
  by_cases hi : i < X.length
  · rw [List.getElem?_set_ne (by omega), List.getElem?_append_left hi, List.getElem?_append_left hi]
  · rw [List.getElem?_append_right (by omega)]
    by_cases he : i = X.length + j
    · subst he
      rw [List.getElem?_set_self (by simp [rowsW]; omega)]
      simp [rowsW, hj, vf_upd]
    · rw [List.getElem?_set_ne (Ne.symm he), List.getElem?_append_right (by omega)]
      by_cases h2 : i - X.length < n
      · simp [rowsW, h2, vf_upd, show i - X.length ≠ j by omega]
      · rw [List.getElem?_eq_none (by simp [rowsW]; omega), List.getElem?_eq_none (by simp [rowsW]; omega)]
abbrev EndA (G : va_G) (A : Nat → Prop) (w : va_W) (t : State) : Prop := va_P G vwCl w t.heap ∧ va_D A w
theorem ra_D {G : va_G} {q : Nat → ClassId} {U : State} {cA : ClassId} (hK : va_K G vwCl (tyA q) U) (h1 : va_K G vwCl (tyA q ++ [(cA, .double)]) U) : cA = q 1 := by
  have a1 : U.vm.findClass ("[" ++ (FieldType.double).toString) = some cA := (h1.2 4 _ rfl).2
  have a2 : U.vm.findClass ("[" ++ (FieldType.double).toString) = some (q 1) := (hK.2 1 _ rfl).2
  exact Option.some.inj (a1.symm.trans a2)
theorem ra_I {G : va_G} {q : Nat → ClassId} {U : State} {cA : ClassId} (hK : va_K G vwCl (tyA q) U) (h1 : va_K G vwCl (tyA q ++ [(cA, .int)]) U) : cA = q 0 := by
  have a1 : U.vm.findClass ("[" ++ (FieldType.int).toString) = some cA := (h1.2 4 _ rfl).2
  have a2 : U.vm.findClass ("[" ++ (FieldType.int).toString) = some (q 0) := (hK.2 0 _ rfl).2
  exact Option.some.inj (a1.symm.trans a2)
theorem ra_A {G : va_G} {q : Nat → ClassId} {U : State} {cA : ClassId} (hK : va_K G vwCl (tyA q) U) (h1 : va_K G vwCl (tyA q ++ [(cA, .array .double)]) U) : cA = q 2 := by
  have a1 : U.vm.findClass ("[" ++ (FieldType.array .double).toString) = some cA := (h1.2 4 _ rfl).2
  have a2 : U.vm.findClass ("[" ++ (FieldType.array .double).toString) = some (q 2) := (hK.2 2 _ rfl).2
  exact Option.some.inj (a1.symm.trans a2)
theorem ra_F {G : va_G} {q : Nat → ClassId} {U : State} {cA : ClassId} (hK : va_K G vwCl (tyA q) U) (h1 : va_K G vwCl (tyA q ++ [(cA, .object "EchoBench$Filter")]) U) : cA = q 3 := by
  have a1 : va_RA U cA (.object "EchoBench$Filter") := (h1.2 4 _ rfl).2
  have a2 : va_RA U (q 3) (.object "EchoBench$Filter") := (hK.2 3 _ rfl).2
  obtain ⟨-, -, -, -, -, e1⟩ := a1
  obtain ⟨-, -, -, -, -, e2⟩ := a2
  exact Option.some.inj (e1.symm.trans e2)
