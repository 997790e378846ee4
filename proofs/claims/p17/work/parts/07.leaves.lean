set_option maxHeartbeats 4000000 in
set_option maxRecDepth 100000 in
/-- isWithin: 1 or 0 -/
theorem m_X3_isWithin (l : Launch) (G : va_G) (q : Nat → ClassId) (sz : Nat) (x lo hi : Int32)  : Met l yX3_isWithin wsX3_isWithin ({ frames := 0, cells := 0, slots := 0, locals := 0 } : Jvm.Room) (PreW G q [.int x, .int lo, .int hi] [] sz) (va_Qi (fun (r : Int32) (_ : Unit) => r = if lo ≤ x ∧ x ≤ hi then 1 else 0) (fun (_ : Unit) t => EndA G (va_A [] sz) [] t) (va_A [] sz)) 0 0 (va_A [] sz) := by
  refine Met.ofW (cc := cX3_isWithin) (maxL := 3) (ret := (some .boolean)) (by decide +kernel) rfl ?_
  intro p e s m args below meth c s₁ B hml hv
  obtain ⟨rfl, hsz, hP, hK, hD0, hNF⟩ := hv
  have hx := B.exec
  have hb := B.bytes
  have hr := B.returns
  have hts := atoms_spec (ws := wsX3_isWithin) B.pre
  have hown : s.vm.findClass RX3 = some m.cls := findClass_of_methodNamed B.named
  have hlocks := B.notSynchronized
  subst hsz
  have hD := hD0.self (sz := s.heap.size)
  generalize hAe : va_A [] s.heap.size = A at hD ⊢
  have hA : ∀ q : Nat, s.heap.size ≤ q → A q := fun q h => by rw [← hAe]; exact Or.inr h
  have hS : va_S A s.heap s.heap [] := va_S.rf
  have hP : va_P G vwCl [] s.heap := hP
  have hl := lv_entry ([.int x, .int lo, .int hi]) (n := 3) (Nat.le_of_ble_eq_true rfl)
  rw [lg_entry_eq]
  generalize (lg_sl ([.int x, .int lo, .int hi]) ++ List.replicate (3 - (lg_sl ([.int x, .int lo, .int hi])).length) Slot.unset).toArray = ls at hl ⊢
  have hl : lv_has ls 3 [(0, .int x), (1, .int lo), (2, .int hi)] := hl
  refine lv_iload_n hx hb dX3_isWithin_0 rfl (lv_at hl 0 rfl) ?_
  refine lv_iload_n hx hb dX3_isWithin_1 rfl (lv_at hl 1 rfl) ?_
  refine lv_icmp_lt (tgt := 14) hx hb dX3_isWithin_2 (by decide) (fun c1 => ?_) (fun c1 => ?_)
  · skip
    refine lv_iconst (v := 0) hx hb dX3_isWithin_14 (by decide) ?_
    have hP9 := hP
    have hD9 := hD
    exact W.zret (v := 0) hx hb hr (by decide) (fun t ht hW => ⟨⟨0, (), rfl, (if_neg (fun q => absurd c1 (Int32.not_lt.mpr q.1))).symm, by rw [ht]; exact hP9, hD9⟩, hS.F ht⟩) hS.2.2 dX3_isWithin_15
  · skip
    refine lv_iload_n hx hb dX3_isWithin_5 rfl (lv_at hl 0 rfl) ?_
    refine lv_iload_n hx hb dX3_isWithin_6 rfl (lv_at hl 2 rfl) ?_
    refine lv_icmp_gt (tgt := 14) hx hb dX3_isWithin_7 (by decide) (fun c2 => ?_) (fun c2 => ?_)
    · skip
      refine lv_iconst (v := 0) hx hb dX3_isWithin_14 (by decide) ?_
      have hP9 := hP
      have hD9 := hD
      exact W.zret (v := 0) hx hb hr (by decide) (fun t ht hW => ⟨⟨0, (), rfl, (if_neg (fun q => absurd c2 (Int32.not_lt.mpr q.2))).symm, by rw [ht]; exact hP9, hD9⟩, hS.F ht⟩) hS.2.2 dX3_isWithin_15
    · skip
      refine lv_iconst (v := 1) hx hb dX3_isWithin_10 (by decide) ?_
      refine lv_goto (tgt := 15) hx hb dX3_isWithin_11 (by decide) ?_
      have hP9 := hP
      have hD9 := hD
      exact W.zret (v := 1) hx hb hr (by decide) (fun t ht hW => ⟨⟨1, (), rfl, (if_pos ⟨Int32.not_lt.mp c1, Int32.not_lt.mp c2⟩).symm, by rw [ht]; exact hP9, hD9⟩, hS.F ht⟩) hS.2.2 dX3_isWithin_15

set_option maxHeartbeats 4000000 in
set_option maxRecDepth 100000 in
theorem m_X3_heldTo (l : Launch) (G : va_G) (q : Nat → ClassId) (sz : Nat) (x b : UInt64)  : Met l yX3_heldTo wsX3_heldTo ({ frames := 0, cells := 0, slots := 0, locals := 0 } : Jvm.Room) (PreW G q [.double x, .double b] [] sz) (va_Qd (fun (r : UInt64) (_ : Unit) => dV r = fHold (dV x) (dV b) (fNeg (dV b))) (fun (_ : Unit) t => EndA G (va_A [] sz) [] t) (va_A [] sz)) 0 0 (va_A [] sz) := by
  refine Met.ofW (cc := cX3_heldTo) (maxL := 4) (ret := (some .double)) (by decide +kernel) rfl ?_
  intro p e s m args below meth c s₁ B hml hv
  obtain ⟨rfl, hsz, hP, hK, hD0, hNF⟩ := hv
  have hx := B.exec
  have hb := B.bytes
  have hr := B.returns
  have hts := atoms_spec (ws := wsX3_heldTo) B.pre
  have hown : s.vm.findClass RX3 = some m.cls := findClass_of_methodNamed B.named
  have hlocks := B.notSynchronized
  subst hsz
  have hD := hD0.self (sz := s.heap.size)
  generalize hAe : va_A [] s.heap.size = A at hD ⊢
  have hA : ∀ q : Nat, s.heap.size ≤ q → A q := fun q h => by rw [← hAe]; exact Or.inr h
  have hS : va_S A s.heap s.heap [] := va_S.rf
  have hP : va_P G vwCl [] s.heap := hP
  have hl := lv_entry ([.double x, .double b]) (n := 4) (Nat.le_of_ble_eq_true rfl)
  rw [lg_entry_eq]
  generalize (lg_sl ([.double x, .double b]) ++ List.replicate (4 - (lg_sl ([.double x, .double b])).length) Slot.unset).toArray = ls at hl ⊢
  have hl : lv_has ls 4 [(0, .double x), (2, .double b)] := hl
  refine lv_dload_n hx hb dX3_heldTo_0 rfl (lv_at hl 0 rfl) ?_
  refine lv_dload_n hx hb dX3_heldTo_1 rfl (lv_at hl 1 rfl) ?_
  refine lv_dcmp hx hb dX3_heldTo_2 ?_
  refine lv_if_le (tgt := 10) hx hb dX3_heldTo_3 (by decide) (fun c1 => ?_) (fun c1 => ?_)
  · skip
    rw [cl_le, dcmp_fO] at c1
    refine lv_dload_n hx hb dX3_heldTo_10 rfl (lv_at hl 0 rfl) ?_
    refine lv_dload_n hx hb dX3_heldTo_11 rfl (lv_at hl 1 rfl) ?_
    refine lv_dneg hx hb dX3_heldTo_12 ?_
    refine lv_dcmp hx hb dX3_heldTo_13 ?_
    refine lv_if_ge (tgt := 22) hx hb dX3_heldTo_14 (by decide) (fun c2 => ?_) (fun c2 => ?_)
    · skip
      rw [cg_ge, dcmp_fO, dV_neg] at c2
      refine lv_dload_n hx hb dX3_heldTo_22 rfl (lv_at hl 0 rfl) ?_
      have hP9 := hP
      have hD9 := hD
      exact W.dret (v := x) hx hb hr (fun t ht hW => ⟨⟨x, (), rfl, (fHold_mid c1 c2).symm, by rw [ht]; exact hP9, hD9⟩, hS.F ht⟩) hS.2.2 dX3_heldTo_23
    · skip
      rw [cg_ge, dcmp_fO, dV_neg, Classical.not_not] at c2
      refine lv_dload_n hx hb dX3_heldTo_17 rfl (lv_at hl 1 rfl) ?_
      refine lv_dneg hx hb dX3_heldTo_18 ?_
      refine lv_goto (tgt := 23) hx hb dX3_heldTo_19 (by decide) ?_
      have hP9 := hP
      have hD9 := hD
      exact W.dret (v := (FP.dneg b)) hx hb hr (fun t ht hW => ⟨⟨(FP.dneg b), (), rfl, ((dV_neg b).trans (fHold_lt c1 c2).symm), by rw [ht]; exact hP9, hD9⟩, hS.F ht⟩) hS.2.2 dX3_heldTo_23
  · skip
    rw [cl_le, dcmp_fO, Classical.not_not] at c1
    refine lv_dload_n hx hb dX3_heldTo_6 rfl (lv_at hl 1 rfl) ?_
    refine lv_goto (tgt := 23) hx hb dX3_heldTo_7 (by decide) ?_
    have hP9 := hP
    have hD9 := hD
    exact W.dret (v := b) hx hb hr (fun t ht hW => ⟨⟨b, (), rfl, (fHold_gt c1).symm, by rw [ht]; exact hP9, hD9⟩, hS.F ht⟩) hS.2.2 dX3_heldTo_23

set_option maxHeartbeats 4000000 in
set_option maxRecDepth 100000 in
theorem m_X3_eitherWay (l : Launch) (G : va_G) (q : Nat → ClassId) (sz : Nat) (x : UInt64)  : Met l yX3_eitherWay wsX3_eitherWay ({ frames := 0, cells := 0, slots := 0, locals := 0 } : Jvm.Room) (PreW G q [.double x] [] sz) (va_Qd (fun (r : UInt64) (_ : Unit) => dV r = fAbs (dV x)) (fun (_ : Unit) t => EndA G (va_A [] sz) [] t) (va_A [] sz)) 0 0 (va_A [] sz) := by
  refine Met.ofW (cc := cX3_eitherWay) (maxL := 2) (ret := (some .double)) (by decide +kernel) rfl ?_
  intro p e s m args below meth c s₁ B hml hv
  obtain ⟨rfl, hsz, hP, hK, hD0, hNF⟩ := hv
  have hx := B.exec
  have hb := B.bytes
  have hr := B.returns
  have hts := atoms_spec (ws := wsX3_eitherWay) B.pre
  have hown : s.vm.findClass RX3 = some m.cls := findClass_of_methodNamed B.named
  have hlocks := B.notSynchronized
  subst hsz
  have hD := hD0.self (sz := s.heap.size)
  generalize hAe : va_A [] s.heap.size = A at hD ⊢
  have hA : ∀ q : Nat, s.heap.size ≤ q → A q := fun q h => by rw [← hAe]; exact Or.inr h
  have hS : va_S A s.heap s.heap [] := va_S.rf
  have hP : va_P G vwCl [] s.heap := hP
  have hl := lv_entry ([.double x]) (n := 2) (Nat.le_of_ble_eq_true rfl)
  rw [lg_entry_eq]
  generalize (lg_sl ([.double x]) ++ List.replicate (2 - (lg_sl ([.double x])).length) Slot.unset).toArray = ls at hl ⊢
  have hl : lv_has ls 2 [(0, .double x)] := hl
  refine lv_dload_n hx hb dX3_eitherWay_0 rfl (lv_at hl 0 rfl) ?_
  refine lv_dc0 hx hb dX3_eitherWay_1 ?_
  refine lv_dcmp hx hb dX3_eitherWay_2 ?_
  refine lv_if_ge (tgt := 11) hx hb dX3_eitherWay_3 (by decide) (fun c1 => ?_) (fun c1 => ?_)
  · skip
    rw [cg_ge, dcmp_fO] at c1
    refine lv_dload_n hx hb dX3_eitherWay_11 rfl (lv_at hl 0 rfl) ?_
    have hP9 := hP
    have hD9 := hD
    exact W.dret (v := x) hx hb hr (fun t ht hW => ⟨⟨x, (), rfl, (fAbs_n c1).symm, by rw [ht]; exact hP9, hD9⟩, hS.F ht⟩) hS.2.2 dX3_eitherWay_12
  · skip
    rw [cg_ge, dcmp_fO, Classical.not_not] at c1
    refine lv_dload_n hx hb dX3_eitherWay_6 rfl (lv_at hl 0 rfl) ?_
    refine lv_dneg hx hb dX3_eitherWay_7 ?_
    refine lv_goto (tgt := 12) hx hb dX3_eitherWay_8 (by decide) ?_
    have hP9 := hP
    have hD9 := hD
    exact W.dret (v := (FP.dneg x)) hx hb hr (fun t ht hW => ⟨⟨(FP.dneg x), (), rfl, ((dV_neg x).trans (fAbs_lt c1).symm), by rw [ht]; exact hP9, hD9⟩, hS.F ht⟩) hS.2.2 dX3_eitherWay_12

theorem in_X0_outputAt_X0 : ∀ w ∈ wsX00, w ∈ wsX0_outputAt := by decide +kernel
set_option maxHeartbeats 4000000 in
set_option maxRecDepth 100000 in
/-- outputAt: the sum of the weights times the x -/
theorem m_X0_outputAt (l : Launch) (G : va_G) (q : Nat → ClassId) (sz : Nat) (o0 aw ae ax n : Nat) (sq : Value) (kd th wa ta lf ce cd rs : Int32) (ou er : UInt64) (fw : Nat → UInt64) (xi : Nat → Int32) (hn : n ≤ 8) : MetD lw_cs l yX0_outputAt wsX0_outputAt ({ frames := 0, cells := 0, slots := 0, locals := 0 } : Jvm.Room) (PreW G q [.ref o0, .ref ax] [(o0, .inr (0, [.int kd, .ref aw, .ref ae, sq, .int th, .int wa, .int ta, .int lf, .double ou, .double er, .int ce, .int cd, .int rs])), (aw, aD q n fw), (ax, aD q 8 (fun k => FP.i2d (xi k)))] sz) (va_Qd (fun (r : UInt64) (_ : Unit) => dV r = sOut n (fun k => dV (fw k)) xi) (fun (_ : Unit) t => EndA G (va_A [(o0, .inr (0, [.int kd, .ref aw, .ref ae, sq, .int th, .int wa, .int ta, .int lf, .double ou, .double er, .int ce, .int cd, .int rs])), (aw, aD q n fw), (ax, aD q 8 (fun k => FP.i2d (xi k)))] sz) [(o0, .inr (0, [.int kd, .ref aw, .ref ae, sq, .int th, .int wa, .int ta, .int lf, .double ou, .double er, .int ce, .int cd, .int rs])), (aw, aD q n fw), (ax, aD q 8 (fun k => FP.i2d (xi k)))] t) (va_A [(o0, .inr (0, [.int kd, .ref aw, .ref ae, sq, .int th, .int wa, .int ta, .int lf, .double ou, .double er, .int ce, .int cd, .int rs])), (aw, aD q n fw), (ax, aD q 8 (fun k => FP.i2d (xi k)))] sz)) 0 0 (va_A [(o0, .inr (0, [.int kd, .ref aw, .ref ae, sq, .int th, .int wa, .int ta, .int lf, .double ou, .double er, .int ce, .int cd, .int rs])), (aw, aD q n fw), (ax, aD q 8 (fun k => FP.i2d (xi k)))] sz) := by
  refine MetD.ofW (cc := cX0_outputAt) (maxL := 5) (ret := (some .double)) (by decide +kernel) rfl ?_
  intro p e s m args below meth c s₁ B hml hv hd0
  obtain ⟨rfl, hsz, hP, hK, hD0, hNF⟩ := hv
  have hx := B.exec
  have hb := B.bytes
  have hr := B.returns
  have hts := atoms_spec (ws := wsX0_outputAt) B.pre
  have hown : s.vm.findClass RX0 = some m.cls := findClass_of_methodNamed B.named
  have hlocks := B.notSynchronized
  subst hsz
  have hD := hD0.self (sz := s.heap.size)
  generalize hAe : va_A [(o0, .inr (0, [.int kd, .ref aw, .ref ae, sq, .int th, .int wa, .int ta, .int lf, .double ou, .double er, .int ce, .int cd, .int rs])), (aw, aD q n fw), (ax, aD q 8 (fun k => FP.i2d (xi k)))] s.heap.size = A at hD ⊢
  have hA : ∀ q : Nat, s.heap.size ≤ q → A q := fun q h => by rw [← hAe]; exact Or.inr h
  have hS : va_S A s.heap s.heap [] := va_S.rf
  have hP : va_P G vwCl [(o0, .inr (0, [.int kd, .ref aw, .ref ae, sq, .int th, .int wa, .int ta, .int lf, .double ou, .double er, .int ce, .int cd, .int rs])), (aw, aD q n fw), (ax, aD q 8 (fun k => FP.i2d (xi k)))] s.heap := hP
  have hl := lv_entry ([.ref o0, .ref ax]) (n := 5) (Nat.le_of_ble_eq_true rfl)
  rw [lg_entry_eq]
  generalize (lg_sl ([.ref o0, .ref ax]) ++ List.replicate (5 - (lg_sl ([.ref o0, .ref ax])).length) Slot.unset).toArray = ls at hl ⊢
  have hl : lv_has ls 5 [(0, .ref o0), (1, .ref ax)] := hl
  have LOOP : ∀ (k : Nat) (j : Nat) (a : UInt64), j + k = n → dV a = smN (dV 0) (fun k => fMul (dV (fw k)) (fI (xi k))) j → ∀ (H : Heap) (locs : List Loc) (d0 : Drawn), s.drawn.sameBut d0 lw_cs → va_P G vwCl [(o0, .inr (0, [.int kd, .ref aw, .ref ae, sq, .int th, .int wa, .int ta, .int lf, .double ou, .double er, .int ce, .int cd, .int rs])), (aw, aD q n fw), (ax, aD q 8 (fun k => FP.i2d (xi k)))] H → va_D A [(o0, .inr (0, [.int kd, .ref aw, .ref ae, sq, .int th, .int wa, .int ta, .int lf, .double ou, .double er, .int ce, .int cd, .int rs])), (aw, aD q n fw), (ax, aD q 8 (fun k => FP.i2d (xi k)))] → va_S A s.heap H locs → ∀ (ls : Array Slot), lv_has ls 5 [(0, .ref o0), (1, .ref ax), (2, .double a), (4, .int (nI j))] → W p l e (headSpec wsX0_outputAt ({ frames := 0, cells := 0, slots := 0, locals := 0 } : Jvm.Room)).room (s.setDrawn d0) m #[.ref o0, .ref ax] below meth c H locs 0 0 (MQD lw_cs below (va_Qd (fun (r : UInt64) (_ : Unit) => dV r = sOut n (fun k => dV (fw k)) xi) (fun (_ : Unit) t => EndA G A [(o0, .inr (0, [.int kd, .ref aw, .ref ae, sq, .int th, .int wa, .int ta, .int lf, .double ou, .double er, .int ce, .int cd, .int rs])), (aw, aD q n fw), (ax, aD q 8 (fun k => FP.i2d (xi k)))] t) A) #[.ref o0, .ref ax] s 0 0 A) (F0 m 5 ls []) := by
    intro k
    induction k with
    | zero =>
      intro j a hj ha H locs d0 hd0 hP hD hS ls hl
      refine lv_iload hx hb dX0_outputAt_5 (lv_at hl 3 rfl) ?_
      refine lv_aload_n hx hb dX0_outputAt_7 rfl (lv_at hl 0 rfl) ?_
      refine va_get (D := G) (ci := 0) (v := .ref aw) (C := RX0) (T := TX0) (N := 13) hx hb (dr_words hts d0) in_X0_outputAt_X0 hown hK hP 0 rfl rfl 1 (by decide) (dr_words hts d0 (.fieldLink RX0 15 "EchoBench$Filter" "weights" "[D") (by decide +kernel)) (fun _ h9 => h9) rfl dX0_outputAt_8 ?_
      refine va_alen (s := s.setDrawn d0) (D := G) hx hb hK hP 1 1 rfl rfl (v := (nI n)) rfl dX0_outputAt_11 ?_
      refine lv_icmp_ge (tgt := 43) hx hb dX0_outputAt_12 (by decide) (fun _ => ?_) (fun h => absurd (nI_le (by omega) (by omega)) h)
      refine lv_dload_n hx hb dX0_outputAt_43 rfl (lv_at hl 2 rfl) ?_
      have hP9 := hP
      have hD9 := hD
      refine W.endD hd0 ?_
      exact W.dret (v := a) hx hb hr (fun t ht hW => ⟨⟨a, (), rfl, by dsimp only; rw [ha, show j = n by omega]; rfl, by rw [ht]; exact hP9, hD9⟩, hS.F ht⟩) hS.2.2 dX0_outputAt_44
    | succ k ih =>
      intro j a hj ha H locs d0 hd0 hP hD hS ls hl
      refine lv_iload hx hb dX0_outputAt_5 (lv_at hl 3 rfl) ?_
      refine lv_aload_n hx hb dX0_outputAt_7 rfl (lv_at hl 0 rfl) ?_
      refine va_get (D := G) (ci := 0) (v := .ref aw) (C := RX0) (T := TX0) (N := 13) hx hb (dr_words hts d0) in_X0_outputAt_X0 hown hK hP 0 rfl rfl 1 (by decide) (dr_words hts d0 (.fieldLink RX0 15 "EchoBench$Filter" "weights" "[D") (by decide +kernel)) (fun _ h9 => h9) rfl dX0_outputAt_8 ?_
      refine va_alen (s := s.setDrawn d0) (D := G) hx hb hK hP 1 1 rfl rfl (v := (nI n)) rfl dX0_outputAt_11 ?_
      refine lv_icmp_ge (tgt := 43) hx hb dX0_outputAt_12 (by decide) (fun h => absurd h (nI_ge (by omega) (by omega))) (fun _ => ?_)
      refine lv_iload hx hb dX0_outputAt_15 (lv_at hl 3 rfl) ?_
      refine lv_aload_n hx hb dX0_outputAt_17 rfl (lv_at hl 1 rfl) ?_
      refine va_alen (s := s.setDrawn d0) (D := G) hx hb hK hP 2 1 rfl rfl (v := 8) rfl dX0_outputAt_18 ?_
      refine lv_icmp_ge (tgt := 43) hx hb dX0_outputAt_19 (by decide) (fun h => absurd h (nI_ge (b := 8) (by omega) (by omega))) (fun _ => ?_)
      refine lv_dload_n hx hb dX0_outputAt_22 rfl (lv_at hl 2 rfl) ?_
      refine lv_aload_n hx hb dX0_outputAt_23 rfl (lv_at hl 0 rfl) ?_
      refine va_get (D := G) (ci := 0) (v := .ref aw) (C := RX0) (T := TX0) (N := 13) hx hb (dr_words hts d0) in_X0_outputAt_X0 hown hK hP 0 rfl rfl 1 (by decide) (dr_words hts d0 (.fieldLink RX0 15 "EchoBench$Filter" "weights" "[D") (by decide +kernel)) (fun _ h9 => h9) rfl dX0_outputAt_24 ?_
      refine lv_iload hx hb dX0_outputAt_27 (lv_at hl 3 rfl) ?_
      refine va_daldJ (s := s.setDrawn d0) hx hb hK hP 1 1 rfl rfl (j := j) rfl (by omega) (by omega) dX0_outputAt_29 ?_
      refine lv_aload_n hx hb dX0_outputAt_30 rfl (lv_at hl 1 rfl) ?_
      refine lv_iload hx hb dX0_outputAt_31 (lv_at hl 3 rfl) ?_
      refine va_daldJ (s := s.setDrawn d0) hx hb hK hP 2 1 rfl rfl (j := j) rfl (by omega) (by decide) dX0_outputAt_33 ?_
      refine lv_dmul_any hd0 lw_bits hx hb dX0_outputAt_34 (fun r4 dr4 ar4 hr4 => ?_)
      have er4 := dV_mul ar4
      refine lv_dadd_any hr4 lw_bits hx hb dX0_outputAt_35 (fun r5 dr5 ar5 hr5 => ?_)
      have er5 := dV_add ar5
      refine lv_dstore_n (lv' := [(2, .double r5), (0, .ref o0), (1, .ref ax), (4, .int (nI j))]) hx hb dX0_outputAt_36 rfl hl (by decide) rfl (fun ls hl => ?_)
      refine lv_iinc (v := nI (j + 1)) (lv' := [(4, .int (nI (j + 1))), (2, .double r5), (0, .ref o0), (1, .ref ax)]) hx hb dX0_outputAt_37 hl (k := 3) rfl (nI_succ _).symm (by decide) rfl (fun ls hl => ?_)
      refine lv_goto (tgt := 5) hx hb dX0_outputAt_40 (by decide) ?_
      exact ih (j + 1) r5 (by omega) (by rw [er5, er4, ha]; rfl) _ _ _ hr5 (hP.sub [0, 1, 2] rfl) (hD.sub [0, 1, 2] (by decide) rfl) hS ls (lv_sub hl [2, 3, 1, 0] rfl)
  refine lv_dc0 hx hb dX0_outputAt_0 ?_
  refine lv_dstore_n (lv' := [(2, .double 0), (0, .ref o0), (1, .ref ax)]) hx hb dX0_outputAt_1 rfl hl (by decide) rfl (fun ls hl => ?_)
  refine lv_iconst (v := 0) hx hb dX0_outputAt_2 (by decide) ?_
  refine lv_istore (lv' := [(4, .int 0), (2, .double 0), (0, .ref o0), (1, .ref ax)]) hx hb dX0_outputAt_3 hl (by decide) rfl (fun ls hl => ?_)
  exact LOOP n 0 0 (by omega) rfl _ _ _ hd0 (hP.sub [0, 1, 2] rfl) (hD.sub [0, 1, 2] (by decide) rfl) hS ls (lv_sub hl [2, 3, 1, 0] rfl)
