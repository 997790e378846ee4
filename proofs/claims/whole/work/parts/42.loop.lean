/-! ===== the law's loop ===== -/
/-- what a relation between a filter of the class and one of the reference must keep: RF before a call, RG behind it -/
def RFok (hc : HF) (RF RG : FV → FV → Prop) : Prop := (∀ xi mi v w, RG v w → RG (hc xi mi v) (hearM xi mi w)) ∧ (∀ x v w, RF v w → RG (stepV x v) (stepV x w)) ∧ (∀ a b v w, RF v w → RG (watchV a b v) (watchV a b w)) ∧ (∀ v w, RF v w → RG (beginV v) (beginV w)) ∧ (∀ kd n st, RG (freshFV kd n st) (freshFV kd n st)) ∧ (∀ v w, RF v w → v.1 = w.1) ∧ ∀ v w, RF v w → RG v w
theorem RFok.up {hc : HF} {RF RG : FV → FV → Prop} (h : RFok hc RF RG) : ∀ v w, RF v w → RG v w := h.2.2.2.2.2.2
def LInv (RF : FV → FV → Prop) (nf tk : Nat) (mi : UInt64) (xi : Nat → Int32) (fm : Nat → UInt64) (C : Nat → CFt) (oa : Nat → Nat) (mi2 : UInt64) (fm2 : Nat → UInt64) (I : Nat → Nat → Int32) (D : Nat → Nat → UInt64) : Prop :=
  nf ≤ 6 ∧ tk ≤ 2000 ∧ small xi ∧ dV mi = dV mi2 ∧ (fun i => dV (fm i)) = (fun i => dV (fm2 i)) ∧ (∀ g, g < nf → cAd (C g) 0 = oa g ∧ okF tk (C g) ∧ vS tk (mF I D g) ∧ RF (vcF (C g)) (mF I D g)) ∧ ∀ g, nf ≤ g → virgin I D g
/-- from the place pc of the law's body, with i behind in the script, it comes to its end -/
def LK (RF : FV → FV → Prop) (p : Program) (l : Launch) (e : Env) (s : State) (m : MethodId) (below : List Frame) (meth : Method) (c : Code) (G : va_G) (q : Nat → ClassId) (A : Nat → Prop) (b o3 o1 af a1 ax b0 b1 b2 ol od om : Nat) (am : Nat → Nat) (pc i kc ks : Nat) : Prop :=
  ∀ (nf tk : Nat) (mi : UInt64) (pa xi z0 z1 : Nat → Int32) (fm : Nat → UInt64) (C : Nat → CFt) (oa : Nat → Nat) (th : Int32) (mi2 : UInt64) (fm2 gg : Nat → UInt64) (I : Nat → Nat → Int32) (D : Nat → Nat → UInt64) (fl : Nat → Int64) (fd : Nat → UInt64) (H : Heap) (locs : List Loc) (d0 : Drawn) (ls : Array Slot), LInv RF nf tk mi xi fm C oa mi2 fm2 I D → s.drawn.sameBut d0 lw_cs → va_P G vwCl ([(o3, .inr (3, [.ref o1, .ref af, .int (nI nf)])), (af, aF q 6 (fun j => if j < nf then some (oa j) else none)), (o1, .inr (1, [.ref a1, .ref ax, .ref b0, .ref b1, .ref b2, .double mi, .int (nI tk)])), (a1, aI q 8 pa), (ax, aD q 8 (fun i => FP.i2d (xi i))), (b0, aD q 16 (fun i => FP.i2d (z0 i))), (b1, aD q 16 (fun i => FP.i2d (z1 i))), (b2, aD q 16 fm), (ol, aL q 1 fl), (od, aD q 1 fd), (om, .inr (4, [.int th, .int (nI tk), .ref (am 0), .ref (am 1), .double mi2, .ref (am 2), .ref (am 3), .ref (am 4), .int (nI nf), .ref (am 5), .ref (am 6), .ref (am 7), .ref (am 8), .ref (am 9), .ref (am 10), .ref (am 11), .ref (am 12), .ref (am 13), .ref (am 14), .ref (am 15), .ref (am 16), .ref (am 17), .ref (am 18), .ref (am 19)])), ((am 0), aI q 8 pa), ((am 1), aI q 8 xi), ((am 2), aI q 16 z0), ((am 3), aI q 16 z1), ((am 4), aD q 16 fm2), ((am 5), aI q 6 (I 0)), ((am 6), aI q 6 (I 1)), ((am 7), aI q 6 (I 2)), ((am 8), aI q 6 (I 3)), ((am 9), aI q 6 (I 4)), ((am 10), aI q 6 (I 5)), ((am 11), aI q 6 (I 6)), ((am 12), aI q 6 (I 7)), ((am 13), aI q 6 (I 8)), ((am 14), aD q 48 (D 0)), ((am 15), aD q 6 (D 1)), ((am 16), aD q 6 (D 2)), ((am 17), aD q 96 (D 3)), ((am 18), aD q 96 (D 4)), ((am 19), aD q 4 gg)] ++ TW nf (WQ q C)) H → va_D A ([(o3, .inr (3, [.ref o1, .ref af, .int (nI nf)])), (af, aF q 6 (fun j => if j < nf then some (oa j) else none)), (o1, .inr (1, [.ref a1, .ref ax, .ref b0, .ref b1, .ref b2, .double mi, .int (nI tk)])), (a1, aI q 8 pa), (ax, aD q 8 (fun i => FP.i2d (xi i))), (b0, aD q 16 (fun i => FP.i2d (z0 i))), (b1, aD q 16 (fun i => FP.i2d (z1 i))), (b2, aD q 16 fm), (ol, aL q 1 fl), (od, aD q 1 fd), (om, .inr (4, [.int th, .int (nI tk), .ref (am 0), .ref (am 1), .double mi2, .ref (am 2), .ref (am 3), .ref (am 4), .int (nI nf), .ref (am 5), .ref (am 6), .ref (am 7), .ref (am 8), .ref (am 9), .ref (am 10), .ref (am 11), .ref (am 12), .ref (am 13), .ref (am 14), .ref (am 15), .ref (am 16), .ref (am 17), .ref (am 18), .ref (am 19)])), ((am 0), aI q 8 pa), ((am 1), aI q 8 xi), ((am 2), aI q 16 z0), ((am 3), aI q 16 z1), ((am 4), aD q 16 fm2), ((am 5), aI q 6 (I 0)), ((am 6), aI q 6 (I 1)), ((am 7), aI q 6 (I 2)), ((am 8), aI q 6 (I 3)), ((am 9), aI q 6 (I 4)), ((am 10), aI q 6 (I 5)), ((am 11), aI q 6 (I 6)), ((am 12), aI q 6 (I 7)), ((am 13), aI q 6 (I 8)), ((am 14), aD q 48 (D 0)), ((am 15), aD q 6 (D 1)), ((am 16), aD q 6 (D 2)), ((am 17), aD q 96 (D 3)), ((am 18), aD q 96 (D 4)), ((am 19), aD q 4 gg)] ++ TW nf (WQ q C)) → va_S A s.heap H locs → lv_has ls 10 [(0, .ref b), (1, .ref o3), (2, .ref om), (3, .ref ol), (4, .ref od), (5, .int (nI i))] →
    W p l e room_1 (s.setDrawn d0) m #[Value.ref b] below meth c H locs kc ks (lw_Z below #[Value.ref b] s) (F0 m pc ls [])
/-- what stands still in the law's body -/
def LFix (p : Program) (l : Launch) (s : State) (m : MethodId) (meth : Method) (c : Code) (G : va_G) (q : Nat → ClassId) (A : Nat → Prop) (b L : Nat) (xs : Nat → Int32) : Prop :=
  p.tables.exec = Jvm.exec ∧ c.code = cL_law ∧ meth.sig.returnType = ret ∧ c.maxLocals = 10 ∧ s.vm.findClass RL = some m.cls ∧ (∀ w ∈ wsL_law, w.before #[Value.ref b] s = true) ∧ va_X b L xs s s.heap ∧ b < s.heap.size ∧ ¬ A b ∧ meth.locks = false ∧ va_K G vwCl (tyA q) s ∧ NF s ∧ NT A s ∧ NC s ∧ l.stackTraces = false ∧ (∀ q : Nat, s.heap.size ≤ q → A q) ∧ L ≤ 2048
theorem va_sldJ {p : Program} {l : Launch} {e : Env} {R : Room} {s : State} {m : MethodId} {args : Array Value} {below : List Frame} {meth : Method} {c : Code} {H : Heap} {locs : List Loc} {cells slots : Nat} {Q : State → Prop} {cc : ByteArray} {pc : Nat} {ls : Array Slot} {rest : List Value} {A : Nat → Prop} {H0 : Heap}
    (hexec : p.tables.exec = Jvm.exec) (hb : c.code = cc) {b L : Nat} {xs : Nat → Int32} (hX : va_X b L xs s H0) (hbl : b < H0.size) (hbA : ¬ A b) (hS : va_S A H0 H locs) {j : Nat} {v : Int32} (hj : j < L) (hL : L ≤ 2048) (hv : xs j = v) (hdg : decode cc pc = .ok (.iaload, 1))
    (kk : W p l e R s m args below meth c H locs cells slots Q (F0 m (pc + 1) ls (.int v :: rest))) : W p l e R s m args below meth c H locs cells slots Q (F0 m pc ls (.int (nI j) :: .ref b :: rest)) :=
  va_sld hexec hb hX hbl hbA hS (nI_in hj (by omega)) hdg (by rw [nI_clamp (by omega), hv]; exact kk)
theorem lg_same (x : Int64) : lg_cmp x x = 0 := by simp [lg_cmp]
theorem int_cmp (a : Int) : compare a a = Ordering.eq := by
  show compareOfLessAndEq a a = _
  unfold compareOfLessAndEq
  simp
theorem fO_refl (x : Dt) : fO x x = some .eq ∨ fO x x = none := by
  cases x with
  | nan => exact Or.inr rfl
  | inf s => exact Or.inl (congrArg some (int_cmp _))
  | fin s c q => exact Or.inl (congrArg some (int_cmp _))
theorem fO_self {x y : UInt64} (h : dV x = dV y) : fO (dV x) (dV y) = some .eq ∨ (fO (dV x) (dV y) = none ∧ fO (dV x) (dV x) = none ∧ fO (dV y) (dV y) = none) := by
  rw [h]
  rcases fO_refl (dV y) with ho | ho
  · exact Or.inl ho
  · exact Or.inr ⟨ho, ho, ho⟩
theorem cl_none {o : Option Ordering} (h : o = none) : ¬ Op.cmpValue o CmpOp.l = 0 := by rw [h]; decide
theorem LInv.up {RF RG : FV → FV → Prop} {nf tk : Nat} {mi : UInt64} {xi : Nat → Int32} {fm : Nat → UInt64} {C : Nat → CFt} {oa : Nat → Nat} {mi2 : UInt64} {fm2 : Nat → UInt64} {I : Nat → Nat → Int32} {D : Nat → Nat → UInt64} (h : LInv RF nf tk mi xi fm C oa mi2 fm2 I D) (hu : ∀ v w, RF v w → RG v w) : LInv RG nf tk mi xi fm C oa mi2 fm2 I D :=
  ⟨h.1, h.2.1, h.2.2.1, h.2.2.2.1, h.2.2.2.2.1, fun g hg => ⟨(h.2.2.2.2.2.1 g hg).1, (h.2.2.2.2.2.1 g hg).2.1, (h.2.2.2.2.2.1 g hg).2.2.1, hu _ _ (h.2.2.2.2.2.1 g hg).2.2.2⟩, h.2.2.2.2.2.2⟩
theorem LInv.upd {RF RG : FV → FV → Prop} {nf tk : Nat} {mi : UInt64} {xi : Nat → Int32} {fm : Nat → UInt64} {C C' : Nat → CFt} {oa : Nat → Nat} {mi2 : UInt64} {fm2 : Nat → UInt64} {I I' : Nat → Nat → Int32} {D D' : Nat → Nat → UInt64} {fx : Nat} {c : Prop} [Decidable c] {F : FV → FV} (h : LInv RF nf tk mi xi fm C oa mi2 fm2 I D)
    (hu : ∀ v w, RF v w → RG v w) (hF : ∀ v w, RF v w → RG (F v) (F w)) (hvF : ∀ v, vS tk v → vS tk (F v)) (hC' : ∀ g, g < nf → sameF (C' g) (C g) ∧ okF tk (C' g) ∧ vcF (C' g) = if c ∧ g = fx then F (vcF (C g)) else vcF (C g))
    (hM : ∀ g, g < nf → mF I' D' g = if c ∧ g = fx then F (mF I D g) else mF I D g) (hv : ∀ g, nf ≤ g → virgin I' D' g) : LInv RG nf tk mi xi fm C' oa mi2 fm2 I' D' := by
  obtain ⟨h1, h2, h3, h4, h5, h6, h7⟩ := h
  refine ⟨h1, h2, h3, h4, h5, fun g hg => ?_, hv⟩
  obtain ⟨a1, a2, a3, a4⟩ := h6 g hg
  obtain ⟨b1, b2, b3⟩ := hC' g hg
  refine ⟨(congrFun b1.1 0).trans a1, b2, ?_, ?_⟩
  · rw [hM g hg]
    split
    · exact hvF _ a3
    · exact a3
  · rw [b3, hM g hg]
    split
    · exact hF _ _ a4
    · exact hu _ _ a4
theorem mF_step {I : Nat → Nat → Int32} {D : Nat → Nat → UInt64} {fx g : Nat} {x : Int32} : mF (mkI (I 0) (I 1) (vf_upd (I 2) fx x) (I 3) (I 4) (I 5) (I 6) (I 7) (I 8)) D g = if g = fx then stepV x (mF I D g) else mF I D g := by
  show ((I 0 g, I 1 g, vf_upd (I 2) fx x g, I 3 g, I 4 g), (mF I D g).2) = _
  unfold vf_upd
  by_cases e : g = fx
  · rw [if_pos e, if_pos e]; rfl
  · rw [if_neg e, if_neg e]; rfl
theorem mF_watch {I : Nat → Nat → Int32} {D : Nat → Nat → UInt64} {fx g : Nat} {x y : Int32} : mF (mkI (I 0) (I 1) (I 2) (vf_upd (I 3) fx x) (vf_upd (I 4) fx y) (I 5) (I 6) (I 7) (I 8)) D g = if g = fx then watchV x y (mF I D g) else mF I D g := by
  show ((I 0 g, I 1 g, I 2 g, vf_upd (I 3) fx x g, vf_upd (I 4) fx y g), (mF I D g).2) = _
  unfold vf_upd
  by_cases e : g = fx
  · rw [if_pos e, if_pos e, if_pos e]; rfl
  · rw [if_neg e, if_neg e, if_neg e]; rfl
theorem vir_set {I J : Nat → Nat → Int32} {D : Nat → Nat → UInt64} {g : Nat} (hv : virgin I D g) (h : ∀ k, 3 ≤ k → k < 9 → J k g = I k g) : virgin J D g := ⟨fun k h3 h9 => (h k h3 h9).trans (hv.1 k h3 h9), hv.2⟩
theorem vir_step {I : Nat → Nat → Int32} {D : Nat → Nat → UInt64} {fx g : Nat} {x : Int32} (hv : virgin I D g) : virgin (mkI (I 0) (I 1) (vf_upd (I 2) fx x) (I 3) (I 4) (I 5) (I 6) (I 7) (I 8)) D g := vir_set hv fun k h3 h9 => by
  rcases (show k = 3 ∨ k = 4 ∨ k = 5 ∨ k = 6 ∨ k = 7 ∨ k = 8 by omega) with rfl | rfl | rfl | rfl | rfl | rfl <;> rfl
theorem vir_watch {I : Nat → Nat → Int32} {D : Nat → Nat → UInt64} {fx g : Nat} {x y : Int32} (hg : g ≠ fx) (hv : virgin I D g) : virgin (mkI (I 0) (I 1) (I 2) (vf_upd (I 3) fx x) (vf_upd (I 4) fx y) (I 5) (I 6) (I 7) (I 8)) D g := vir_set hv fun k h3 h9 => by
  rcases (show k = 3 ∨ k = 4 ∨ k = 5 ∨ k = 6 ∨ k = 7 ∨ k = 8 by omega) with rfl | rfl | rfl | rfl | rfl | rfl
  · exact if_neg hg
  · exact if_neg hg
  · rfl
  · rfl
  · rfl
  · rfl
/-- two benches are alike but for their filters, which a relation holds together -/
def RB (RF : FV → FV → Prop) (nf : Nat) (a b : BS) : Prop := a.1 = b.1 ∧ a.2.1 = b.2.1 ∧ a.2.2.1 = b.2.2.1 ∧ a.2.2.2.1 = b.2.2.2.1 ∧ ∀ g, g < nf → RF (a.2.2.2.2 g) (b.2.2.2.2 g)
theorem RB_S {RF : FV → FV → Prop} {hc : HF} (h : ∀ xi mi v w, RF v w → RF (hc xi mi v) (hearM xi mi w)) {nf : Nat} {a b : BS} {pa : Nat → Int32} {v ta : Int32} (hr : RB RF nf a b) : RB RF nf (bsC hc pa v ta a) (bsS pa v ta b) := by
  obtain ⟨h1, h2, h3, h4, h5⟩ := hr
  refine ⟨?_, ?_, ?_, ?_, fun g hg => ?_⟩
  · show (_, _, _) = (_, _, _); rw [h1, h4]
  · show vf_upd _ _ _ = vf_upd _ _ _; rw [h1, h2, h4]
  · show sMic _ _ _ = sMic _ _ _; rw [h1]
  · show _ + 1 = _ + 1; rw [h4]
  · show RF (hc (shX a.1.1 v) (sMic ta pa (shX a.1.1 v)) _) (hearM _ _ _)
    rw [h1]
    exact h _ _ _ _ (h5 g hg)
theorem RB_N {RF : FV → FV → Prop} {hc : HF} (h : ∀ xi mi v w, RF v w → RF (hc xi mi v) (hearM xi mi w)) {nf : Nat} {a b : BS} {pa : Nat → Int32} {v : Nat} (hr : RB RF nf a b) (k : Nat) : RB RF nf (bsCN hc pa v k a) (bsN pa v k b) := by
  induction k with
  | zero => exact hr
  | succ k ih => exact RB_S h ih
def bC0 (tk : Nat) (mi : UInt64) (xi z0 z1 : Nat → Int32) (fm : Nat → UInt64) (C : Nat → CFt) : BS := ((xi, z0, z1), (fun i => dV (fm i)), dV mi, tk, fun g => vcF (C g))
def bM0 (tk : Nat) (mi : UInt64) (xi z0 z1 : Nat → Int32) (fm : Nat → UInt64) (I : Nat → Nat → Int32) (D : Nat → Nat → UInt64) : BS := ((xi, z0, z1), (fun i => dV (fm i)), dV mi, tk, fun g => mF I D g)
theorem picC0 (nf tk : Nat) (mi : UInt64) (xi z0 z1 : Nat → Int32) (fm : Nat → UInt64) (C : Nat → CFt) : picC nf tk xi z0 z1 fm mi C (bC0 tk mi xi z0 z1 fm C) := ⟨rfl, rfl, rfl, rfl, fun _ _ => rfl⟩
theorem picM0 (nf tk : Nat) (mi : UInt64) (xi z0 z1 : Nat → Int32) (fm : Nat → UInt64) (I : Nat → Nat → Int32) (D : Nat → Nat → UInt64) : picM nf tk xi z0 z1 fm mi I D (bM0 tk mi xi z0 z1 fm I D) := ⟨rfl, rfl, rfl, rfl, fun _ _ => rfl⟩
theorem LInv.rb {RF : FV → FV → Prop} {nf tk : Nat} {mi : UInt64} {xi z0 z1 : Nat → Int32} {fm : Nat → UInt64} {C : Nat → CFt} {oa : Nat → Nat} {mi2 : UInt64} {fm2 : Nat → UInt64} {I : Nat → Nat → Int32} {D : Nat → Nat → UInt64} (h : LInv RF nf tk mi xi fm C oa mi2 fm2 I D) : RB RF nf (bC0 tk mi xi z0 z1 fm C) (bM0 tk mi2 xi z0 z1 fm2 I D) :=
  ⟨rfl, h.2.2.2.2.1, h.2.2.2.1, rfl, fun g hg => (h.2.2.2.2.2.1 g hg).2.2.2⟩
theorem LInv.samp {RF RG : FV → FV → Prop} {nf tk : Nat} {mi : UInt64} {xi : Nat → Int32} {fm : Nat → UInt64} {C : Nat → CFt} {oa : Nat → Nat} {mi2 : UInt64} {fm2 : Nat → UInt64} {I : Nat → Nat → Int32} {D : Nat → Nat → UInt64} (h : LInv RF nf tk mi xi fm C oa mi2 fm2 I D) {b1 b2 : BS} (hRB : RB RG nf b1 b2)
    {k1 k2 : Nat} {x1 y1 w1 x2 y2 w2 : Nat → Int32} {f1 f2 : Nat → UInt64} {m1 m2 : UInt64} {F : Nat → CFt} {J : Nat → Nat → Int32} {E : Nat → Nat → UInt64} (hpc : picC nf k1 x1 y1 w1 f1 m1 F b1) (hpm : picM nf k2 x2 y2 w2 f2 m2 J E b2) (hk : k1 ≤ 2000) (hx : small x1)
    (hF : ∀ g, g < nf → sameF (F g) (C g) ∧ okF k1 (F g)) (hv : ∀ g, g < nf → vS k2 (mF J E g)) (hs : ∀ g, nf ≤ g → sameS I J D E g) : (x2 = x1 ∧ y2 = y1 ∧ w2 = w1 ∧ k2 = k1) ∧ LInv RG nf k1 m1 x1 f1 F oa m2 f2 J E := by
  obtain ⟨r1, r2, r3, r4, r5⟩ := hRB
  obtain ⟨c1, c2, c3, c4, c5⟩ := hpc
  obtain ⟨m1', m2', m3', m4', m5'⟩ := hpm
  have e1 : (x2, y2, w2) = (x1, y1, w1) := by rw [← m1', ← c1, r1]
  have e4 : k2 = k1 := by rw [← m4', ← c4, r4]
  refine ⟨⟨congrArg (fun z => z.1) e1, congrArg (fun z => z.2.1) e1, congrArg (fun z => z.2.2) e1, e4⟩, h.1, hk, hx, ?_, ?_, fun g hg => ?_, fun g hg => sameS_virgin (hs g hg) (h.2.2.2.2.2.2 g hg)⟩
  · rw [← c3, ← m3', r3]
  · rw [← c2, ← m2', r2]
  · refine ⟨(congrFun (hF g hg).1.1 0).trans (h.2.2.2.2.2.1 g hg).1, (hF g hg).2, e4 ▸ hv g hg, ?_⟩
    rw [c5 g hg, m5' g hg]
    exact r5 g hg
theorem stepC_eq {f x fi k k2 : Int32} (h : isF f fi → k = k2) : stepC f x fi k = stepC f x fi k2 := by
  unfold stepC
  by_cases hF : isF f fi
  · rw [h hF]
  · rw [if_neg hF, if_neg hF]
theorem weightC_eq {f x fi k k2 : Int32} (h : isF f fi → k = k2) : weightC f x fi k = weightC f x fi k2 := by
  unfold weightC
  by_cases hF : isF f fi
  · rw [h hF]
  · rw [if_neg hF, if_neg hF]
theorem squareC_eq {f x y fi n k n2 k2 : Int32} (h : isF f fi → n = n2 ∧ k = k2) : squareC f x y fi n k = squareC f x y fi n2 k2 := by
  unfold squareC
  by_cases hF : isF f fi
  · rw [(h hF).1, (h hF).2]
  · rw [if_neg hF, if_neg hF]
