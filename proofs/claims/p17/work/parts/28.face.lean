theorem in_X3_batch_X3 : ∀ w ∈ wsX30, w ∈ wsX3_batch := by decide +kernel
set_option maxHeartbeats 4000000 in
set_option maxRecDepth 100000 in
/-- batch: where it returns -/
theorem m_X3_batch (l : Launch) (G : va_G) (q : Nat → ClassId) (sz : Nat) (o3 o1 af nf a1 ax b0 b1 b2 tk : Nat) (mi : UInt64) (pa xi z0 z1 : Nat → Int32) (fm : Nat → UInt64) (tp : Int32) (htk : tk ≤ 2000) (htp : 0 ≤ tp ∧ tp ≤ 1) : MetD lw_cs l yX3_batch wsX3_batch ({ frames := 3, cells := 0, slots := 0, locals := 119 } : Jvm.Room) (PreW G q [.ref o3, .int tp] [(o3, .inr (3, [.ref o1, .ref af, .int (nI nf)])), (o1, .inr (1, [.ref a1, .ref ax, .ref b0, .ref b1, .ref b2, .double mi, .int (nI tk)])), (b0, aD q 16 (fun i => FP.i2d (z0 i))), (b1, aD q 16 (fun i => FP.i2d (z1 i))), (b2, aD q 16 fm)] sz) (va_Qd (fun (r : UInt64) (_ : Unit) => dV r = sBatch tp tk (fun k => fI (z0 k)) (fun k => fI (z1 k)) (fun k => dV (fm k))) (fun (_ : Unit) t => EndA G (va_A [(o3, .inr (3, [.ref o1, .ref af, .int (nI nf)])), (o1, .inr (1, [.ref a1, .ref ax, .ref b0, .ref b1, .ref b2, .double mi, .int (nI tk)])), (b0, aD q 16 (fun i => FP.i2d (z0 i))), (b1, aD q 16 (fun i => FP.i2d (z1 i))), (b2, aD q 16 fm)] sz) [(o3, .inr (3, [.ref o1, .ref af, .int (nI nf)])), (o1, .inr (1, [.ref a1, .ref ax, .ref b0, .ref b1, .ref b2, .double mi, .int (nI tk)])), (b0, aD q 16 (fun i => FP.i2d (z0 i))), (b1, aD q 16 (fun i => FP.i2d (z1 i))), (b2, aD q 16 fm)] t) (va_A [(o3, .inr (3, [.ref o1, .ref af, .int (nI nf)])), (o1, .inr (1, [.ref a1, .ref ax, .ref b0, .ref b1, .ref b2, .double mi, .int (nI tk)])), (b0, aD q 16 (fun i => FP.i2d (z0 i))), (b1, aD q 16 (fun i => FP.i2d (z1 i))), (b2, aD q 16 fm)] sz)) 0 0 (va_A [(o3, .inr (3, [.ref o1, .ref af, .int (nI nf)])), (o1, .inr (1, [.ref a1, .ref ax, .ref b0, .ref b1, .ref b2, .double mi, .int (nI tk)])), (b0, aD q 16 (fun i => FP.i2d (z0 i))), (b1, aD q 16 (fun i => FP.i2d (z1 i))), (b2, aD q 16 fm)] sz) := by
  refine MetD.ofW (cc := cX3_batch) (maxL := 2) (ret := (some .double)) (by decide +kernel) rfl ?_
  intro p e s m args below meth c s₁ B hml hv hd0
  obtain ⟨rfl, hsz, hP, hK, hD0, hNF⟩ := hv
  have hx := B.exec
  have hb := B.bytes
  have hr := B.returns
  have hts := atoms_spec (ws := wsX3_batch) B.pre
  have hown : s.vm.findClass RX3 = some m.cls := findClass_of_methodNamed B.named
  have hlocks := B.notSynchronized
  subst hsz
  have hD := hD0.self (sz := s.heap.size)
  generalize hAe : va_A [(o3, .inr (3, [.ref o1, .ref af, .int (nI nf)])), (o1, .inr (1, [.ref a1, .ref ax, .ref b0, .ref b1, .ref b2, .double mi, .int (nI tk)])), (b0, aD q 16 (fun i => FP.i2d (z0 i))), (b1, aD q 16 (fun i => FP.i2d (z1 i))), (b2, aD q 16 fm)] s.heap.size = A at hD ⊢
  have hA : ∀ q : Nat, s.heap.size ≤ q → A q := fun q h => by rw [← hAe]; exact Or.inr h
  have hS : va_S A s.heap s.heap [] := va_S.rf
  have hP : va_P G vwCl [(o3, .inr (3, [.ref o1, .ref af, .int (nI nf)])), (o1, .inr (1, [.ref a1, .ref ax, .ref b0, .ref b1, .ref b2, .double mi, .int (nI tk)])), (b0, aD q 16 (fun i => FP.i2d (z0 i))), (b1, aD q 16 (fun i => FP.i2d (z1 i))), (b2, aD q 16 fm)] s.heap := hP
  have hl := lv_entry ([.ref o3, .int tp]) (n := 2) (Nat.le_of_ble_eq_true rfl)
  rw [lg_entry_eq]
  generalize (lg_sl ([.ref o3, .int tp]) ++ List.replicate (2 - (lg_sl ([.ref o3, .int tp])).length) Slot.unset).toArray = ls at hl ⊢
  have hl : lv_has ls 2 [(0, .ref o3), (1, .int tp)] := hl
  refine lv_iload_n hx hb dX3_batch_0 rfl (lv_at hl 1 rfl) ?_
  refine lv_iconst (v := 0) hx hb dX3_batch_1 (by decide) ?_
  refine lv_iconst (v := 1) hx hb dX3_batch_2 (by decide) ?_
  have hPc := hP.sub (ws' := []) [] rfl
  have hDc := hD.sub (ws' := []) [] (by decide) rfl
  have hFc := va_free (wc := []) hD hS hA [] rfl
  refine va_calli (va_runS (As := [.int tp, .int 0, .int 1]) (rest := []) ⟨hx, hb, hml, hown, (dr_words hts s.drawn)⟩ (m_X3_isWithin l G q s.heap.size tp 0 1) (va_cwS 3 (dr_words hts s.drawn) gX3_batch_X3_isWithin rfl rfl rfl (by decide +kernel) ⟨Nat.le_of_ble_eq_true rfl, Nat.le_of_ble_eq_true rfl⟩) ⟨preW_blind, preW_start (s := s.setDrawn s.drawn) hPc hK hDc (hNF.drawn s.drawn)⟩ rfl rfl hl.1 rfl (lv_room (Nat.le_of_ble_eq_true rfl)) dX3_batch_3 ⟨(Nat.zero_le _), (Nat.zero_le _)⟩) hS (fun q _ h => hFc q h) hFc (fun ri1 u9 t9 H1 locs ht9 hv9 hw hB9 hz9 hk9 hS => ?_)
  obtain ⟨⟩ := u9
  obtain ⟨hP1, hD1⟩ := hB9
  rw [ht9] at hP1
  obtain ⟨hP, hD⟩ := va_join (wr := [(o3, .inr (3, [.ref o1, .ref af, .int (nI nf)])), (o1, .inr (1, [.ref a1, .ref ax, .ref b0, .ref b1, .ref b2, .double mi, .int (nI tk)])), (b0, aD q 16 (fun i => FP.i2d (z0 i))), (b1, aD q 16 (fun i => FP.i2d (z1 i))), (b2, aD q 16 fm)]) (w1 := []) hP hD [] [0, 1, 2, 3, 4] rfl rfl (by decide) (by decide) hk9 hFc hP1 hD1
  generalize H1 = H at hP hS ⊢
  have hP : va_P G vwCl [(o3, .inr (3, [.ref o1, .ref af, .int (nI nf)])), (o1, .inr (1, [.ref a1, .ref ax, .ref b0, .ref b1, .ref b2, .double mi, .int (nI tk)])), (b0, aD q 16 (fun i => FP.i2d (z0 i))), (b1, aD q 16 (fun i => FP.i2d (z1 i))), (b2, aD q 16 fm)] H := hP
  have hD : va_D A [(o3, .inr (3, [.ref o1, .ref af, .int (nI nf)])), (o1, .inr (1, [.ref a1, .ref ax, .ref b0, .ref b1, .ref b2, .double mi, .int (nI tk)])), (b0, aD q 16 (fun i => FP.i2d (z0 i))), (b1, aD q 16 (fun i => FP.i2d (z1 i))), (b2, aD q 16 fm)] := hD
  obtain rfl : ri1 = 1 := hw.trans (if_pos htp)
  refine lv_if_ne (tgt := 19) hx hb dX3_batch_6 (by decide) (fun _ => ?_) (fun h => absurd h (by decide))
  refine lv_aload_n hx hb dX3_batch_19 rfl (lv_at hl 0 rfl) ?_
  refine va_get (D := G) (ci := 3) (v := .ref o1) (C := RX3) (T := TX3) (N := 3) hx hb (dr_words hts s.drawn) in_X3_batch_X3 hown hK hP 0 rfl rfl 0 (by decide) (dr_words hts s.drawn (.fieldLink RX3 10 "EchoBench" "samples" "LEchoBench$Samples;") (by decide +kernel)) (fun _ h9 => h9) rfl dX3_batch_20 ?_
  refine lv_iload_n hx hb dX3_batch_23 rfl (lv_at hl 1 rfl) ?_
  have hPc := hP.sub (ws' := [(o1, .inr (1, [.ref a1, .ref ax, .ref b0, .ref b1, .ref b2, .double mi, .int (nI tk)])), (b0, aD q 16 (fun i => FP.i2d (z0 i))), (b1, aD q 16 (fun i => FP.i2d (z1 i))), (b2, aD q 16 fm)]) [1, 2, 3, 4] rfl
  have hDc := hD.sub (ws' := [(o1, .inr (1, [.ref a1, .ref ax, .ref b0, .ref b1, .ref b2, .double mi, .int (nI tk)])), (b0, aD q 16 (fun i => FP.i2d (z0 i))), (b1, aD q 16 (fun i => FP.i2d (z1 i))), (b2, aD q 16 fm)]) [1, 2, 3, 4] (by decide) rfl
  have hFc := va_free (wc := [(o1, .inr (1, [.ref a1, .ref ax, .ref b0, .ref b1, .ref b2, .double mi, .int (nI tk)])), (b0, aD q 16 (fun i => FP.i2d (z0 i))), (b1, aD q 16 (fun i => FP.i2d (z1 i))), (b2, aD q 16 fm)]) hD hS hA [1, 2, 3, 4] rfl
  refine va_calldD hd0 (va_runVN_D (As := [.int tp]) (rest := []) ⟨hx, hb, hml, hown, (dr_words hts s.drawn)⟩ (m_X1_batchWeight l G q H.size o1 a1 ax b0 b1 b2 tk mi pa xi z0 z1 fm tp htk) ⟨va_cnB 1 (dr_words hts s.drawn) gX3_batch_X1_batchWeight_n142 rfl rfl rfl ((hNF.drawn s.drawn).1 (.methodLinkNest RX3 142 yX1_batchWeight "EchoBench") (by decide +kernel)) (dr_words hts s.drawn (.initialized RX1) (by decide +kernel)) (by decide +kernel) ⟨Nat.le_of_ble_eq_true rfl, Nat.le_of_ble_eq_true rfl⟩, (dr_words hts s.drawn (.instanceMethod yX1_batchWeight) (by decide +kernel)), (dr_words hts s.drawn (.selects RX1 yX1_batchWeight yX1_batchWeight) (by decide +kernel))⟩ ⟨preW_blind, (va_recv hK hPc (ci := 1) (q0 := 0) rfl rfl), preW_start (s := s.setDrawn s.drawn) hPc hK hDc (hNF.drawn s.drawn)⟩ rfl rfl hl.1 rfl (lv_room (Nat.le_of_ble_eq_true rfl)) dX3_batch_24 ⟨(Nat.zero_le _), (Nat.zero_le _)⟩) hS (fun q _ h => hFc q h) hFc (fun r1 u9 t9 H1 locs ht9 hv9 hw hB9 hz9 hk9 hS du4 hu4 => ?_)
  obtain ⟨⟩ := u9
  obtain ⟨hP1, hD1⟩ := hB9
  rw [ht9] at hP1
  obtain ⟨hP, hD⟩ := va_join (wr := [(o3, .inr (3, [.ref o1, .ref af, .int (nI nf)]))]) (w1 := [(o1, .inr (1, [.ref a1, .ref ax, .ref b0, .ref b1, .ref b2, .double mi, .int (nI tk)])), (b0, aD q 16 (fun i => FP.i2d (z0 i))), (b1, aD q 16 (fun i => FP.i2d (z1 i))), (b2, aD q 16 fm)]) hP hD [1, 2, 3, 4] [0] rfl rfl (by decide) (by decide) hk9 hFc hP1 hD1
  generalize H1 = H at hP hS ⊢
  have hP : va_P G vwCl [(o3, .inr (3, [.ref o1, .ref af, .int (nI nf)])), (o1, .inr (1, [.ref a1, .ref ax, .ref b0, .ref b1, .ref b2, .double mi, .int (nI tk)])), (b0, aD q 16 (fun i => FP.i2d (z0 i))), (b1, aD q 16 (fun i => FP.i2d (z1 i))), (b2, aD q 16 fm)] H := hP
  have hD : va_D A [(o3, .inr (3, [.ref o1, .ref af, .int (nI nf)])), (o1, .inr (1, [.ref a1, .ref ax, .ref b0, .ref b1, .ref b2, .double mi, .int (nI tk)])), (b0, aD q 16 (fun i => FP.i2d (z0 i))), (b1, aD q 16 (fun i => FP.i2d (z1 i))), (b2, aD q 16 fm)] := hD
  have hr1 := hw
  have hP9 := hP
  have hD9 := hD
  refine W.endD hu4 ?_
  exact W.dret (v := r1) hx hb hr (fun t ht hW => ⟨⟨r1, (), rfl, hr1, by rw [ht]; exact hP9, hD9⟩, hS.F ht⟩) hS.2.2 dX3_batch_27

theorem in_X3_of_X3 : ∀ w ∈ wsX30, w ∈ wsX3_of := by decide +kernel
set_option maxHeartbeats 4000000 in
set_option maxRecDepth 100000 in
/-- of: where it returns -/
theorem m_X3_of2 (l : Launch) (G : va_G) (q : Nat → ClassId) (sz : Nat) (o3 o1 af nf : Nat) (oa : Nat → Nat) (fx n aw ae : Nat) (sq : Value) (kd th wa ta lf ce cd rs : Int32) (ou er : UInt64) (a1 ax b0 b1 b2 tk : Nat) (mi : UInt64) (pa : Nat → Int32) (fw : Nat → UInt64) (hnf : nf ≤ 6) (hfx : fx < nf) (hn : n ≤ 8) : MetD lw_cs l yX3_of wsX3_of ({ frames := 1, cells := 0, slots := 0, locals := 26 } : Jvm.Room) (PreW G q [.ref o3, .int (nI fx), .int 2] [(o3, .inr (3, [.ref o1, .ref af, .int (nI nf)])), (af, aF q 6 (fun j => if j < nf then some (oa j) else none)), ((oa fx), .inr (0, [.int kd, .ref aw, .ref ae, sq, .int th, .int wa, .int ta, .int lf, .double ou, .double er, .int ce, .int cd, .int rs])), (aw, aD q n fw), (o1, .inr (1, [.ref a1, .ref ax, .ref b0, .ref b1, .ref b2, .double mi, .int (nI tk)])), (a1, aI q 8 pa)] sz) (va_Qd (fun (r : UInt64) (_ : Unit) => dV r = sOff n (fun k => dV (fw k)) pa) (fun (_ : Unit) t => EndA G (va_A [(o3, .inr (3, [.ref o1, .ref af, .int (nI nf)])), (af, aF q 6 (fun j => if j < nf then some (oa j) else none)), ((oa fx), .inr (0, [.int kd, .ref aw, .ref ae, sq, .int th, .int wa, .int ta, .int lf, .double ou, .double er, .int ce, .int cd, .int rs])), (aw, aD q n fw), (o1, .inr (1, [.ref a1, .ref ax, .ref b0, .ref b1, .ref b2, .double mi, .int (nI tk)])), (a1, aI q 8 pa)] sz) [(o3, .inr (3, [.ref o1, .ref af, .int (nI nf)])), (af, aF q 6 (fun j => if j < nf then some (oa j) else none)), ((oa fx), .inr (0, [.int kd, .ref aw, .ref ae, sq, .int th, .int wa, .int ta, .int lf, .double ou, .double er, .int ce, .int cd, .int rs])), (aw, aD q n fw), (o1, .inr (1, [.ref a1, .ref ax, .ref b0, .ref b1, .ref b2, .double mi, .int (nI tk)])), (a1, aI q 8 pa)] t) (va_A [(o3, .inr (3, [.ref o1, .ref af, .int (nI nf)])), (af, aF q 6 (fun j => if j < nf then some (oa j) else none)), ((oa fx), .inr (0, [.int kd, .ref aw, .ref ae, sq, .int th, .int wa, .int ta, .int lf, .double ou, .double er, .int ce, .int cd, .int rs])), (aw, aD q n fw), (o1, .inr (1, [.ref a1, .ref ax, .ref b0, .ref b1, .ref b2, .double mi, .int (nI tk)])), (a1, aI q 8 pa)] sz)) 0 0 (va_A [(o3, .inr (3, [.ref o1, .ref af, .int (nI nf)])), (af, aF q 6 (fun j => if j < nf then some (oa j) else none)), ((oa fx), .inr (0, [.int kd, .ref aw, .ref ae, sq, .int th, .int wa, .int ta, .int lf, .double ou, .double er, .int ce, .int cd, .int rs])), (aw, aD q n fw), (o1, .inr (1, [.ref a1, .ref ax, .ref b0, .ref b1, .ref b2, .double mi, .int (nI tk)])), (a1, aI q 8 pa)] sz) := by
  refine MetD.ofW (cc := cX3_of) (maxL := 4) (ret := (some .double)) (by decide +kernel) rfl ?_
  intro p e s m args below meth c s₁ B hml hv hd0
  obtain ⟨rfl, hsz, hP, hK, hD0, hNF⟩ := hv
  have hx := B.exec
  have hb := B.bytes
  have hr := B.returns
  have hts := atoms_spec (ws := wsX3_of) B.pre
  have hown : s.vm.findClass RX3 = some m.cls := findClass_of_methodNamed B.named
  have hlocks := B.notSynchronized
  subst hsz
  have hD := hD0.self (sz := s.heap.size)
  generalize hAe : va_A [(o3, .inr (3, [.ref o1, .ref af, .int (nI nf)])), (af, aF q 6 (fun j => if j < nf then some (oa j) else none)), ((oa fx), .inr (0, [.int kd, .ref aw, .ref ae, sq, .int th, .int wa, .int ta, .int lf, .double ou, .double er, .int ce, .int cd, .int rs])), (aw, aD q n fw), (o1, .inr (1, [.ref a1, .ref ax, .ref b0, .ref b1, .ref b2, .double mi, .int (nI tk)])), (a1, aI q 8 pa)] s.heap.size = A at hD ⊢
  have hA : ∀ q : Nat, s.heap.size ≤ q → A q := fun q h => by rw [← hAe]; exact Or.inr h
  have hS : va_S A s.heap s.heap [] := va_S.rf
  have hP : va_P G vwCl [(o3, .inr (3, [.ref o1, .ref af, .int (nI nf)])), (af, aF q 6 (fun j => if j < nf then some (oa j) else none)), ((oa fx), .inr (0, [.int kd, .ref aw, .ref ae, sq, .int th, .int wa, .int ta, .int lf, .double ou, .double er, .int ce, .int cd, .int rs])), (aw, aD q n fw), (o1, .inr (1, [.ref a1, .ref ax, .ref b0, .ref b1, .ref b2, .double mi, .int (nI tk)])), (a1, aI q 8 pa)] s.heap := hP
  have hl := lv_entry ([.ref o3, .int (nI fx), .int 2]) (n := 4) (Nat.le_of_ble_eq_true rfl)
  rw [lg_entry_eq]
  generalize (lg_sl ([.ref o3, .int (nI fx), .int 2]) ++ List.replicate (4 - (lg_sl ([.ref o3, .int (nI fx), .int 2])).length) Slot.unset).toArray = ls at hl ⊢
  have hl : lv_has ls 4 [(0, .ref o3), (1, .int (nI fx)), (2, .int 2)] := hl
  refine lv_aload_n hx hb dX3_of_0 rfl (lv_at hl 0 rfl) ?_
  refine lv_iload_n hx hb dX3_of_1 rfl (lv_at hl 1 rfl) ?_
  have hPc := hP.sub (ws' := [(o3, .inr (3, [.ref o1, .ref af, .int (nI nf)])), (af, aF q 6 (fun j => if j < nf then some (oa j) else none))]) [0, 1] rfl
  have hDc := hD.sub (ws' := [(o3, .inr (3, [.ref o1, .ref af, .int (nI nf)])), (af, aF q 6 (fun j => if j < nf then some (oa j) else none))]) [0, 1] (by decide) rfl
  have hFc := va_free (wc := [(o3, .inr (3, [.ref o1, .ref af, .int (nI nf)])), (af, aF q 6 (fun j => if j < nf then some (oa j) else none))]) hD hS hA [0, 1] rfl
  refine va_callq (va_runV (As := [.int (nI fx)]) (rest := []) ⟨hx, hb, hml, hown, (dr_words hts s.drawn)⟩ (m_X3_numbered l G q s.heap.size o3 o1 af nf oa fx hnf hfx) (cwV 1 (dr_words hts s.drawn) gX3_of_X3_numbered rfl rfl rfl (by decide +kernel) ⟨Nat.le_of_ble_eq_true rfl, Nat.le_of_ble_eq_true rfl⟩) ⟨preW_blind, (va_recv hK hPc (ci := 3) (q0 := 0) rfl rfl), preW_start (s := s.setDrawn s.drawn) hPc hK hDc (hNF.drawn s.drawn)⟩ rfl rfl hl.1 rfl (lv_room (Nat.le_of_ble_eq_true rfl)) dX3_of_2 ⟨(Nat.zero_le _), (Nat.zero_le _)⟩) hS (fun q _ h => hFc q h) hFc (fun fr1 u9 t9 H1 locs ht9 hv9 hw hB9 hz9 hk9 hS => ?_)
  obtain ⟨⟩ := u9
  obtain ⟨hP1, hD1⟩ := hB9
  rw [ht9] at hP1
  obtain ⟨hP, hD⟩ := va_join (wr := [((oa fx), .inr (0, [.int kd, .ref aw, .ref ae, sq, .int th, .int wa, .int ta, .int lf, .double ou, .double er, .int ce, .int cd, .int rs])), (aw, aD q n fw), (o1, .inr (1, [.ref a1, .ref ax, .ref b0, .ref b1, .ref b2, .double mi, .int (nI tk)])), (a1, aI q 8 pa)]) (w1 := [(o3, .inr (3, [.ref o1, .ref af, .int (nI nf)])), (af, aF q 6 (fun j => if j < nf then some (oa j) else none))]) hP hD [0, 1] [2, 3, 4, 5] rfl rfl (by decide) (by decide) hk9 hFc hP1 hD1
  generalize H1 = H at hP hS ⊢
  have hP : va_P G vwCl [((oa fx), .inr (0, [.int kd, .ref aw, .ref ae, sq, .int th, .int wa, .int ta, .int lf, .double ou, .double er, .int ce, .int cd, .int rs])), (aw, aD q n fw), (o1, .inr (1, [.ref a1, .ref ax, .ref b0, .ref b1, .ref b2, .double mi, .int (nI tk)])), (a1, aI q 8 pa), (o3, .inr (3, [.ref o1, .ref af, .int (nI nf)])), (af, aF q 6 (fun j => if j < nf then some (oa j) else none))] H := hP
  have hD : va_D A [((oa fx), .inr (0, [.int kd, .ref aw, .ref ae, sq, .int th, .int wa, .int ta, .int lf, .double ou, .double er, .int ce, .int cd, .int rs])), (aw, aD q n fw), (o1, .inr (1, [.ref a1, .ref ax, .ref b0, .ref b1, .ref b2, .double mi, .int (nI tk)])), (a1, aI q 8 pa), (o3, .inr (3, [.ref o1, .ref af, .int (nI nf)])), (af, aF q 6 (fun j => if j < nf then some (oa j) else none))] := hD
  obtain rfl : fr1 = some (oa fx) := hw
  refine lv_astore_n (lv' := [(3, .ref (oa fx)), (0, .ref o3), (1, .int (nI fx)), (2, .int 2)]) hx hb dX3_of_5 rfl hl (by decide) rfl (fun ls hl => ?_)
  refine lv_aload_n hx hb dX3_of_6 rfl (lv_at hl 0 rfl) ?_
  refine lv_ifnonnull (tgt := 20) hx hb dX3_of_7 (by decide) ?_
  refine lv_iload_n hx hb dX3_of_20 rfl (lv_at hl 3 rfl) ?_
  refine lv_tableIn (off := 41) (tgt := 62) hx hb dX3_of_21 (by decide) (by decide) (by decide) (by decide) ?_
  refine lv_aload_n hx hb dX3_of_62 rfl (lv_at hl 1 rfl) ?_
  refine va_get (D := G) (ci := 3) (v := .ref o1) (C := RX3) (T := TX3) (N := 3) hx hb (dr_words hts s.drawn) in_X3_of_X3 hown hK hP 4 rfl rfl 0 (by decide) (dr_words hts s.drawn (.fieldLink RX3 10 "EchoBench" "samples" "LEchoBench$Samples;") (by decide +kernel)) (fun _ h9 => h9) rfl dX3_of_63 ?_
  refine lv_aload_n hx hb dX3_of_66 rfl (lv_at hl 0 rfl) ?_
  refine va_getN (D := G) (ci := 0) (v := .ref aw) (C := RX0) (T := TX0) (N := 13) hx hb (dr_words hts s.drawn) in_X3_of_X0 hown hK hP 0 rfl rfl 1 (by decide) (va_Nw.use rfl ((hNF.drawn s.drawn).1 (.fieldLinkNest RX3 104 "EchoBench$Filter" "weights" "[D" "EchoBench") (by decide +kernel))) (fun _ h9 => h9) rfl dX3_of_67 ?_
  have hPc := hP.sub (ws' := [(o1, .inr (1, [.ref a1, .ref ax, .ref b0, .ref b1, .ref b2, .double mi, .int (nI tk)])), (a1, aI q 8 pa), (aw, aD q n fw)]) [2, 3, 1] rfl
  have hDc := hD.sub (ws' := [(o1, .inr (1, [.ref a1, .ref ax, .ref b0, .ref b1, .ref b2, .double mi, .int (nI tk)])), (a1, aI q 8 pa), (aw, aD q n fw)]) [2, 3, 1] (by decide) rfl
  have hFc := va_free (wc := [(o1, .inr (1, [.ref a1, .ref ax, .ref b0, .ref b1, .ref b2, .double mi, .int (nI tk)])), (a1, aI q 8 pa), (aw, aD q n fw)]) hD hS hA [2, 3, 1] rfl
  refine va_calldD hd0 (va_runVN_D (As := [.ref aw]) (rest := []) ⟨hx, hb, hml, hown, (dr_words hts s.drawn)⟩ (m_X1_offness l G q H.size o1 a1 ax b0 b1 b2 tk aw n mi pa fw hn) ⟨va_cnB 1 (dr_words hts s.drawn) gX3_of_X1_offness_n117 rfl rfl rfl ((hNF.drawn s.drawn).1 (.methodLinkNest RX3 117 yX1_offness "EchoBench") (by decide +kernel)) (dr_words hts s.drawn (.initialized RX1) (by decide +kernel)) (by decide +kernel) ⟨Nat.le_of_ble_eq_true rfl, Nat.le_of_ble_eq_true rfl⟩, (dr_words hts s.drawn (.instanceMethod yX1_offness) (by decide +kernel)), (dr_words hts s.drawn (.selects RX1 yX1_offness yX1_offness) (by decide +kernel))⟩ ⟨preW_blind, (va_recv hK hPc (ci := 1) (q0 := 0) rfl rfl), preW_start (s := s.setDrawn s.drawn) hPc hK hDc (hNF.drawn s.drawn)⟩ rfl rfl hl.1 rfl (lv_room (Nat.le_of_ble_eq_true rfl)) dX3_of_70 ⟨(Nat.zero_le _), (Nat.zero_le _)⟩) hS (fun q _ h => hFc q h) hFc (fun r1 u9 t9 H1 locs ht9 hv9 hw hB9 hz9 hk9 hS du3 hu3 => ?_)
  obtain ⟨⟩ := u9
  obtain ⟨hP1, hD1⟩ := hB9
  rw [ht9] at hP1
  obtain ⟨hP, hD⟩ := va_join (wr := [((oa fx), .inr (0, [.int kd, .ref aw, .ref ae, sq, .int th, .int wa, .int ta, .int lf, .double ou, .double er, .int ce, .int cd, .int rs])), (o3, .inr (3, [.ref o1, .ref af, .int (nI nf)])), (af, aF q 6 (fun j => if j < nf then some (oa j) else none))]) (w1 := [(o1, .inr (1, [.ref a1, .ref ax, .ref b0, .ref b1, .ref b2, .double mi, .int (nI tk)])), (a1, aI q 8 pa), (aw, aD q n fw)]) hP hD [2, 3, 1] [0, 4, 5] rfl rfl (by decide) (by decide) hk9 hFc hP1 hD1
  generalize H1 = H at hP hS ⊢
  have hP : va_P G vwCl [((oa fx), .inr (0, [.int kd, .ref aw, .ref ae, sq, .int th, .int wa, .int ta, .int lf, .double ou, .double er, .int ce, .int cd, .int rs])), (o3, .inr (3, [.ref o1, .ref af, .int (nI nf)])), (af, aF q 6 (fun j => if j < nf then some (oa j) else none)), (o1, .inr (1, [.ref a1, .ref ax, .ref b0, .ref b1, .ref b2, .double mi, .int (nI tk)])), (a1, aI q 8 pa), (aw, aD q n fw)] H := hP
  have hD : va_D A [((oa fx), .inr (0, [.int kd, .ref aw, .ref ae, sq, .int th, .int wa, .int ta, .int lf, .double ou, .double er, .int ce, .int cd, .int rs])), (o3, .inr (3, [.ref o1, .ref af, .int (nI nf)])), (af, aF q 6 (fun j => if j < nf then some (oa j) else none)), (o1, .inr (1, [.ref a1, .ref ax, .ref b0, .ref b1, .ref b2, .double mi, .int (nI tk)])), (a1, aI q 8 pa), (aw, aD q n fw)] := hD
  have hr1 := hw
  have hP := hP.sub (ws' := [(o3, .inr (3, [.ref o1, .ref af, .int (nI nf)])), (af, aF q 6 (fun j => if j < nf then some (oa j) else none)), ((oa fx), .inr (0, [.int kd, .ref aw, .ref ae, sq, .int th, .int wa, .int ta, .int lf, .double ou, .double er, .int ce, .int cd, .int rs])), (aw, aD q n fw), (o1, .inr (1, [.ref a1, .ref ax, .ref b0, .ref b1, .ref b2, .double mi, .int (nI tk)])), (a1, aI q 8 pa)]) [1, 2, 0, 5, 3, 4] rfl
  have hD := hD.sub (ws' := [(o3, .inr (3, [.ref o1, .ref af, .int (nI nf)])), (af, aF q 6 (fun j => if j < nf then some (oa j) else none)), ((oa fx), .inr (0, [.int kd, .ref aw, .ref ae, sq, .int th, .int wa, .int ta, .int lf, .double ou, .double er, .int ce, .int cd, .int rs])), (aw, aD q n fw), (o1, .inr (1, [.ref a1, .ref ax, .ref b0, .ref b1, .ref b2, .double mi, .int (nI tk)])), (a1, aI q 8 pa)]) [1, 2, 0, 5, 3, 4] (by decide) rfl
  have hP9 := hP
  have hD9 := hD
  refine W.endD hu3 ?_
  exact W.dret (v := r1) hx hb hr (fun t ht hW => ⟨⟨r1, (), rfl, hr1, by rw [ht]; exact hP9, hD9⟩, hS.F ht⟩) hS.2.2 dX3_of_73

set_option maxHeartbeats 4000000 in
set_option maxRecDepth 100000 in
/-- of: where it returns -/
theorem m_X3_of3 (l : Launch) (G : va_G) (q : Nat → ClassId) (sz : Nat) (o3 o1 af nf : Nat) (oa : Nat → Nat) (fx n aw ae : Nat) (sq : Value) (kd th wa ta lf cd rs : Int32) (ou er : UInt64) (tt : Nat) (fe : Nat → UInt64) (hnf : nf ≤ 6) (hfx : fx < nf) (htt : tt ≤ 2000) : MetD lw_cs l yX3_of wsX3_of ({ frames := 2, cells := 0, slots := 0, locals := 86 } : Jvm.Room) (PreW G q [.ref o3, .int (nI fx), .int 3] [(o3, .inr (3, [.ref o1, .ref af, .int (nI nf)])), (af, aF q 6 (fun j => if j < nf then some (oa j) else none)), ((oa fx), .inr (0, [.int kd, .ref aw, .ref ae, sq, .int th, .int wa, .int ta, .int lf, .double ou, .double er, .int (nI tt), .int cd, .int rs])), (ae, aD q 16 fe)] sz) (va_Qd (fun (r : UInt64) (_ : Unit) => dV r = sPow tt (fun k => dV (fe k))) (fun (_ : Unit) t => EndA G (va_A [(o3, .inr (3, [.ref o1, .ref af, .int (nI nf)])), (af, aF q 6 (fun j => if j < nf then some (oa j) else none)), ((oa fx), .inr (0, [.int kd, .ref aw, .ref ae, sq, .int th, .int wa, .int ta, .int lf, .double ou, .double er, .int (nI tt), .int cd, .int rs])), (ae, aD q 16 fe)] sz) [(o3, .inr (3, [.ref o1, .ref af, .int (nI nf)])), (af, aF q 6 (fun j => if j < nf then some (oa j) else none)), ((oa fx), .inr (0, [.int kd, .ref aw, .ref ae, sq, .int th, .int wa, .int ta, .int lf, .double ou, .double er, .int (nI tt), .int cd, .int rs])), (ae, aD q 16 fe)] t) (va_A [(o3, .inr (3, [.ref o1, .ref af, .int (nI nf)])), (af, aF q 6 (fun j => if j < nf then some (oa j) else none)), ((oa fx), .inr (0, [.int kd, .ref aw, .ref ae, sq, .int th, .int wa, .int ta, .int lf, .double ou, .double er, .int (nI tt), .int cd, .int rs])), (ae, aD q 16 fe)] sz)) 0 0 (va_A [(o3, .inr (3, [.ref o1, .ref af, .int (nI nf)])), (af, aF q 6 (fun j => if j < nf then some (oa j) else none)), ((oa fx), .inr (0, [.int kd, .ref aw, .ref ae, sq, .int th, .int wa, .int ta, .int lf, .double ou, .double er, .int (nI tt), .int cd, .int rs])), (ae, aD q 16 fe)] sz) := by
  refine MetD.ofW (cc := cX3_of) (maxL := 4) (ret := (some .double)) (by decide +kernel) rfl ?_
  intro p e s m args below meth c s₁ B hml hv hd0
  obtain ⟨rfl, hsz, hP, hK, hD0, hNF⟩ := hv
  have hx := B.exec
  have hb := B.bytes
  have hr := B.returns
  have hts := atoms_spec (ws := wsX3_of) B.pre
  have hown : s.vm.findClass RX3 = some m.cls := findClass_of_methodNamed B.named
  have hlocks := B.notSynchronized
  subst hsz
  have hD := hD0.self (sz := s.heap.size)
  generalize hAe : va_A [(o3, .inr (3, [.ref o1, .ref af, .int (nI nf)])), (af, aF q 6 (fun j => if j < nf then some (oa j) else none)), ((oa fx), .inr (0, [.int kd, .ref aw, .ref ae, sq, .int th, .int wa, .int ta, .int lf, .double ou, .double er, .int (nI tt), .int cd, .int rs])), (ae, aD q 16 fe)] s.heap.size = A at hD ⊢
  have hA : ∀ q : Nat, s.heap.size ≤ q → A q := fun q h => by rw [← hAe]; exact Or.inr h
  have hS : va_S A s.heap s.heap [] := va_S.rf
  have hP : va_P G vwCl [(o3, .inr (3, [.ref o1, .ref af, .int (nI nf)])), (af, aF q 6 (fun j => if j < nf then some (oa j) else none)), ((oa fx), .inr (0, [.int kd, .ref aw, .ref ae, sq, .int th, .int wa, .int ta, .int lf, .double ou, .double er, .int (nI tt), .int cd, .int rs])), (ae, aD q 16 fe)] s.heap := hP
  have hl := lv_entry ([.ref o3, .int (nI fx), .int 3]) (n := 4) (Nat.le_of_ble_eq_true rfl)
  rw [lg_entry_eq]
  generalize (lg_sl ([.ref o3, .int (nI fx), .int 3]) ++ List.replicate (4 - (lg_sl ([.ref o3, .int (nI fx), .int 3])).length) Slot.unset).toArray = ls at hl ⊢
  have hl : lv_has ls 4 [(0, .ref o3), (1, .int (nI fx)), (2, .int 3)] := hl
  refine lv_aload_n hx hb dX3_of_0 rfl (lv_at hl 0 rfl) ?_
  refine lv_iload_n hx hb dX3_of_1 rfl (lv_at hl 1 rfl) ?_
  have hPc := hP.sub (ws' := [(o3, .inr (3, [.ref o1, .ref af, .int (nI nf)])), (af, aF q 6 (fun j => if j < nf then some (oa j) else none))]) [0, 1] rfl
  have hDc := hD.sub (ws' := [(o3, .inr (3, [.ref o1, .ref af, .int (nI nf)])), (af, aF q 6 (fun j => if j < nf then some (oa j) else none))]) [0, 1] (by decide) rfl
  have hFc := va_free (wc := [(o3, .inr (3, [.ref o1, .ref af, .int (nI nf)])), (af, aF q 6 (fun j => if j < nf then some (oa j) else none))]) hD hS hA [0, 1] rfl
  refine va_callq (va_runV (As := [.int (nI fx)]) (rest := []) ⟨hx, hb, hml, hown, (dr_words hts s.drawn)⟩ (m_X3_numbered l G q s.heap.size o3 o1 af nf oa fx hnf hfx) (cwV 1 (dr_words hts s.drawn) gX3_of_X3_numbered rfl rfl rfl (by decide +kernel) ⟨Nat.le_of_ble_eq_true rfl, Nat.le_of_ble_eq_true rfl⟩) ⟨preW_blind, (va_recv hK hPc (ci := 3) (q0 := 0) rfl rfl), preW_start (s := s.setDrawn s.drawn) hPc hK hDc (hNF.drawn s.drawn)⟩ rfl rfl hl.1 rfl (lv_room (Nat.le_of_ble_eq_true rfl)) dX3_of_2 ⟨(Nat.zero_le _), (Nat.zero_le _)⟩) hS (fun q _ h => hFc q h) hFc (fun fr1 u9 t9 H1 locs ht9 hv9 hw hB9 hz9 hk9 hS => ?_)
  obtain ⟨⟩ := u9
  obtain ⟨hP1, hD1⟩ := hB9
  rw [ht9] at hP1
  obtain ⟨hP, hD⟩ := va_join (wr := [((oa fx), .inr (0, [.int kd, .ref aw, .ref ae, sq, .int th, .int wa, .int ta, .int lf, .double ou, .double er, .int (nI tt), .int cd, .int rs])), (ae, aD q 16 fe)]) (w1 := [(o3, .inr (3, [.ref o1, .ref af, .int (nI nf)])), (af, aF q 6 (fun j => if j < nf then some (oa j) else none))]) hP hD [0, 1] [2, 3] rfl rfl (by decide) (by decide) hk9 hFc hP1 hD1
  generalize H1 = H at hP hS ⊢
  have hP : va_P G vwCl [((oa fx), .inr (0, [.int kd, .ref aw, .ref ae, sq, .int th, .int wa, .int ta, .int lf, .double ou, .double er, .int (nI tt), .int cd, .int rs])), (ae, aD q 16 fe), (o3, .inr (3, [.ref o1, .ref af, .int (nI nf)])), (af, aF q 6 (fun j => if j < nf then some (oa j) else none))] H := hP
  have hD : va_D A [((oa fx), .inr (0, [.int kd, .ref aw, .ref ae, sq, .int th, .int wa, .int ta, .int lf, .double ou, .double er, .int (nI tt), .int cd, .int rs])), (ae, aD q 16 fe), (o3, .inr (3, [.ref o1, .ref af, .int (nI nf)])), (af, aF q 6 (fun j => if j < nf then some (oa j) else none))] := hD
  obtain rfl : fr1 = some (oa fx) := hw
  refine lv_astore_n (lv' := [(3, .ref (oa fx)), (0, .ref o3), (1, .int (nI fx)), (2, .int 3)]) hx hb dX3_of_5 rfl hl (by decide) rfl (fun ls hl => ?_)
  refine lv_aload_n hx hb dX3_of_6 rfl (lv_at hl 0 rfl) ?_
  refine lv_ifnonnull (tgt := 20) hx hb dX3_of_7 (by decide) ?_
  refine lv_iload_n hx hb dX3_of_20 rfl (lv_at hl 3 rfl) ?_
  refine lv_tableIn (off := 53) (tgt := 74) hx hb dX3_of_21 (by decide) (by decide) (by decide) (by decide) ?_
  refine lv_aload_n hx hb dX3_of_74 rfl (lv_at hl 0 rfl) ?_
  have hPc := hP.sub (ws' := [((oa fx), .inr (0, [.int kd, .ref aw, .ref ae, sq, .int th, .int wa, .int ta, .int lf, .double ou, .double er, .int (nI tt), .int cd, .int rs])), (ae, aD q 16 fe)]) [0, 1] rfl
  have hDc := hD.sub (ws' := [((oa fx), .inr (0, [.int kd, .ref aw, .ref ae, sq, .int th, .int wa, .int ta, .int lf, .double ou, .double er, .int (nI tt), .int cd, .int rs])), (ae, aD q 16 fe)]) [0, 1] (by decide) rfl
  have hFc := va_free (wc := [((oa fx), .inr (0, [.int kd, .ref aw, .ref ae, sq, .int th, .int wa, .int ta, .int lf, .double ou, .double er, .int (nI tt), .int cd, .int rs])), (ae, aD q 16 fe)]) hD hS hA [0, 1] rfl
  refine va_calldD hd0 (va_runVN_D (As := []) (rest := []) ⟨hx, hb, hml, hown, (dr_words hts s.drawn)⟩ (m_X0_power l G q H.size (oa fx) aw ae tt sq kd th wa ta lf cd rs ou er fe htt) ⟨va_cnB 0 (dr_words hts s.drawn) gX3_of_X0_power_n121 rfl rfl rfl ((hNF.drawn s.drawn).1 (.methodLinkNest RX3 121 yX0_power "EchoBench") (by decide +kernel)) (dr_words hts s.drawn (.initialized RX0) (by decide +kernel)) (by decide +kernel) ⟨Nat.le_of_ble_eq_true rfl, Nat.le_of_ble_eq_true rfl⟩, (dr_words hts s.drawn (.instanceMethod yX0_power) (by decide +kernel)), (dr_words hts s.drawn (.selects RX0 yX0_power yX0_power) (by decide +kernel))⟩ ⟨preW_blind, (va_recv hK hPc (ci := 0) (q0 := 0) rfl rfl), preW_start (s := s.setDrawn s.drawn) hPc hK hDc (hNF.drawn s.drawn)⟩ rfl rfl hl.1 rfl (lv_room (Nat.le_of_ble_eq_true rfl)) dX3_of_75 ⟨(Nat.zero_le _), (Nat.zero_le _)⟩) hS (fun q _ h => hFc q h) hFc (fun r1 u9 t9 H1 locs ht9 hv9 hw hB9 hz9 hk9 hS du3 hu3 => ?_)
  obtain ⟨⟩ := u9
  obtain ⟨hP1, hD1⟩ := hB9
  rw [ht9] at hP1
  obtain ⟨hP, hD⟩ := va_join (wr := [(o3, .inr (3, [.ref o1, .ref af, .int (nI nf)])), (af, aF q 6 (fun j => if j < nf then some (oa j) else none))]) (w1 := [((oa fx), .inr (0, [.int kd, .ref aw, .ref ae, sq, .int th, .int wa, .int ta, .int lf, .double ou, .double er, .int (nI tt), .int cd, .int rs])), (ae, aD q 16 fe)]) hP hD [0, 1] [2, 3] rfl rfl (by decide) (by decide) hk9 hFc hP1 hD1
  generalize H1 = H at hP hS ⊢
  have hP : va_P G vwCl [(o3, .inr (3, [.ref o1, .ref af, .int (nI nf)])), (af, aF q 6 (fun j => if j < nf then some (oa j) else none)), ((oa fx), .inr (0, [.int kd, .ref aw, .ref ae, sq, .int th, .int wa, .int ta, .int lf, .double ou, .double er, .int (nI tt), .int cd, .int rs])), (ae, aD q 16 fe)] H := hP
  have hD : va_D A [(o3, .inr (3, [.ref o1, .ref af, .int (nI nf)])), (af, aF q 6 (fun j => if j < nf then some (oa j) else none)), ((oa fx), .inr (0, [.int kd, .ref aw, .ref ae, sq, .int th, .int wa, .int ta, .int lf, .double ou, .double er, .int (nI tt), .int cd, .int rs])), (ae, aD q 16 fe)] := hD
  have hr1 := hw
  have hP9 := hP
  have hD9 := hD
  refine W.endD hu3 ?_
  exact W.dret (v := r1) hx hb hr (fun t ht hW => ⟨⟨r1, (), rfl, hr1, by rw [ht]; exact hP9, hD9⟩, hS.F ht⟩) hS.2.2 dX3_of_78

theorem in_X3_square_X0 : ∀ w ∈ wsX00, w ∈ wsX3_square := by decide +kernel
set_option maxHeartbeats 4000000 in
set_option maxRecDepth 100000 in
/-- square: where it returns -/
theorem m_X3_square (l : Launch) (G : va_G) (q : Nat → ClassId) (sz : Nat) (o3 o1 af nf : Nat) (oa : Nat → Nat) (fx n aw ae : Nat) (kd th wa ta lf ce cd rs : Int32) (ou er : UInt64) (os an ag ah ja jc : Nat) (ar : Nat → Nat) (P : Nat → Nat → UInt64) (fw : Nat → UInt64) (hnf : nf ≤ 6) (hfx : fx < nf) (hn : n ≤ 4) (hja : ja < n) (hjc : jc < n) : Met l yX3_square wsX3_square ({ frames := 2, cells := 0, slots := 0, locals := 44 } : Jvm.Room) (PreW G q [.ref o3, .int (nI fx), .int (nI ja), .int (nI jc)] ([(o3, .inr (3, [.ref o1, .ref af, .int (nI nf)])), (af, aF q 6 (fun j => if j < nf then some (oa j) else none)), ((oa fx), .inr (0, [.int kd, .ref aw, .ref ae, .ref os, .int th, .int wa, .int ta, .int lf, .double ou, .double er, .int ce, .int cd, .int rs])), (aw, aD q n fw), (os, .inr (2, [.int (nI n), .ref an, .ref ag, .ref ah])), (an, aA q n (fun j => if j < n then some (ar j) else none))] ++ rowsW q n n ar P) sz) (va_Qd (fun (r : UInt64) (_ : Unit) => r = P ja jc) (fun (_ : Unit) t => EndA G (va_A ([(o3, .inr (3, [.ref o1, .ref af, .int (nI nf)])), (af, aF q 6 (fun j => if j < nf then some (oa j) else none)), ((oa fx), .inr (0, [.int kd, .ref aw, .ref ae, .ref os, .int th, .int wa, .int ta, .int lf, .double ou, .double er, .int ce, .int cd, .int rs])), (aw, aD q n fw), (os, .inr (2, [.int (nI n), .ref an, .ref ag, .ref ah])), (an, aA q n (fun j => if j < n then some (ar j) else none))] ++ rowsW q n n ar P) sz) ([(o3, .inr (3, [.ref o1, .ref af, .int (nI nf)])), (af, aF q 6 (fun j => if j < nf then some (oa j) else none)), ((oa fx), .inr (0, [.int kd, .ref aw, .ref ae, .ref os, .int th, .int wa, .int ta, .int lf, .double ou, .double er, .int ce, .int cd, .int rs])), (aw, aD q n fw), (os, .inr (2, [.int (nI n), .ref an, .ref ag, .ref ah])), (an, aA q n (fun j => if j < n then some (ar j) else none))] ++ rowsW q n n ar P) t) (va_A ([(o3, .inr (3, [.ref o1, .ref af, .int (nI nf)])), (af, aF q 6 (fun j => if j < nf then some (oa j) else none)), ((oa fx), .inr (0, [.int kd, .ref aw, .ref ae, .ref os, .int th, .int wa, .int ta, .int lf, .double ou, .double er, .int ce, .int cd, .int rs])), (aw, aD q n fw), (os, .inr (2, [.int (nI n), .ref an, .ref ag, .ref ah])), (an, aA q n (fun j => if j < n then some (ar j) else none))] ++ rowsW q n n ar P) sz)) 0 0 (va_A ([(o3, .inr (3, [.ref o1, .ref af, .int (nI nf)])), (af, aF q 6 (fun j => if j < nf then some (oa j) else none)), ((oa fx), .inr (0, [.int kd, .ref aw, .ref ae, .ref os, .int th, .int wa, .int ta, .int lf, .double ou, .double er, .int ce, .int cd, .int rs])), (aw, aD q n fw), (os, .inr (2, [.int (nI n), .ref an, .ref ag, .ref ah])), (an, aA q n (fun j => if j < n then some (ar j) else none))] ++ rowsW q n n ar P) sz) := by
  refine Met.ofW (cc := cX3_square) (maxL := 6) (ret := (some .double)) (by decide +kernel) rfl ?_
  intro p e s m args below meth c s₁ B hml hv
  obtain ⟨rfl, hsz, hP, hK, hD0, hNF⟩ := hv
  have hx := B.exec
  have hb := B.bytes
  have hr := B.returns
  have hts := atoms_spec (ws := wsX3_square) B.pre
  have hown : s.vm.findClass RX3 = some m.cls := findClass_of_methodNamed B.named
  have hlocks := B.notSynchronized
  subst hsz
  have hD := hD0.self (sz := s.heap.size)
  generalize hAe : va_A ([(o3, .inr (3, [.ref o1, .ref af, .int (nI nf)])), (af, aF q 6 (fun j => if j < nf then some (oa j) else none)), ((oa fx), .inr (0, [.int kd, .ref aw, .ref ae, .ref os, .int th, .int wa, .int ta, .int lf, .double ou, .double er, .int ce, .int cd, .int rs])), (aw, aD q n fw), (os, .inr (2, [.int (nI n), .ref an, .ref ag, .ref ah])), (an, aA q n (fun j => if j < n then some (ar j) else none))] ++ rowsW q n n ar P) s.heap.size = A at hD ⊢
  have hA : ∀ q : Nat, s.heap.size ≤ q → A q := fun q h => by rw [← hAe]; exact Or.inr h
  have hS : va_S A s.heap s.heap [] := va_S.rf
  have hP : va_P G vwCl ([(o3, .inr (3, [.ref o1, .ref af, .int (nI nf)])), (af, aF q 6 (fun j => if j < nf then some (oa j) else none)), ((oa fx), .inr (0, [.int kd, .ref aw, .ref ae, .ref os, .int th, .int wa, .int ta, .int lf, .double ou, .double er, .int ce, .int cd, .int rs])), (aw, aD q n fw), (os, .inr (2, [.int (nI n), .ref an, .ref ag, .ref ah])), (an, aA q n (fun j => if j < n then some (ar j) else none))] ++ rowsW q n n ar P) s.heap := hP
  have hl := lv_entry ([.ref o3, .int (nI fx), .int (nI ja), .int (nI jc)]) (n := 6) (Nat.le_of_ble_eq_true rfl)
  rw [lg_entry_eq]
  generalize (lg_sl ([.ref o3, .int (nI fx), .int (nI ja), .int (nI jc)]) ++ List.replicate (6 - (lg_sl ([.ref o3, .int (nI fx), .int (nI ja), .int (nI jc)])).length) Slot.unset).toArray = ls at hl ⊢
  have hl : lv_has ls 6 [(0, .ref o3), (1, .int (nI fx)), (2, .int (nI ja)), (3, .int (nI jc))] := hl
  refine lv_aload_n hx hb dX3_square_0 rfl (lv_at hl 0 rfl) ?_
  refine lv_iload_n hx hb dX3_square_1 rfl (lv_at hl 1 rfl) ?_
  have hPc := hP.sub (ws' := [(o3, .inr (3, [.ref o1, .ref af, .int (nI nf)])), (af, aF q 6 (fun j => if j < nf then some (oa j) else none))]) [0, 1] rfl
  have hDc := hD.sub (ws' := [(o3, .inr (3, [.ref o1, .ref af, .int (nI nf)])), (af, aF q 6 (fun j => if j < nf then some (oa j) else none))]) [0, 1] (by decide) rfl
  have hFc := va_free (wc := [(o3, .inr (3, [.ref o1, .ref af, .int (nI nf)])), (af, aF q 6 (fun j => if j < nf then some (oa j) else none))]) hD hS hA [0, 1] rfl
  refine va_callq (va_runV (As := [.int (nI fx)]) (rest := []) ⟨hx, hb, hml, hown, hts⟩ (m_X3_numbered l G q s.heap.size o3 o1 af nf oa fx hnf hfx) (cwV 1 hts gX3_square_X3_numbered rfl rfl rfl (by decide +kernel) ⟨Nat.le_of_ble_eq_true rfl, Nat.le_of_ble_eq_true rfl⟩) ⟨preW_blind, (va_recv hK hPc (ci := 3) (q0 := 0) rfl rfl), preW_start hPc hK hDc hNF⟩ rfl rfl hl.1 rfl (lv_room (Nat.le_of_ble_eq_true rfl)) dX3_square_2 ⟨(Nat.zero_le _), (Nat.zero_le _)⟩) hS (fun q _ h => hFc q h) hFc (fun fr1 u9 t9 H1 locs ht9 hv9 hw hB9 hz9 hk9 hS => ?_)
  obtain ⟨⟩ := u9
  obtain ⟨hP1, hD1⟩ := hB9
  rw [ht9] at hP1
  obtain ⟨hP, hD⟩ := va_joinQ (wr := [((oa fx), .inr (0, [.int kd, .ref aw, .ref ae, .ref os, .int th, .int wa, .int ta, .int lf, .double ou, .double er, .int ce, .int cd, .int rs])), (aw, aD q n fw), (os, .inr (2, [.int (nI n), .ref an, .ref ag, .ref ah])), (an, aA q n (fun j => if j < n then some (ar j) else none))]) (w1 := [(o3, .inr (3, [.ref o1, .ref af, .int (nI nf)])), (af, aF q 6 (fun j => if j < nf then some (oa j) else none))]) hP hD [0, 1] [2, 3, 4, 5] rfl rfl (by decide) (by decide) hk9 hFc hP1 hD1
  generalize H1 = H at hP hS ⊢
  have hP : va_P G vwCl ([((oa fx), .inr (0, [.int kd, .ref aw, .ref ae, .ref os, .int th, .int wa, .int ta, .int lf, .double ou, .double er, .int ce, .int cd, .int rs])), (aw, aD q n fw), (os, .inr (2, [.int (nI n), .ref an, .ref ag, .ref ah])), (an, aA q n (fun j => if j < n then some (ar j) else none)), (o3, .inr (3, [.ref o1, .ref af, .int (nI nf)])), (af, aF q 6 (fun j => if j < nf then some (oa j) else none))] ++ rowsW q n n ar P) H := hP
  have hD : va_D A ([((oa fx), .inr (0, [.int kd, .ref aw, .ref ae, .ref os, .int th, .int wa, .int ta, .int lf, .double ou, .double er, .int ce, .int cd, .int rs])), (aw, aD q n fw), (os, .inr (2, [.int (nI n), .ref an, .ref ag, .ref ah])), (an, aA q n (fun j => if j < n then some (ar j) else none)), (o3, .inr (3, [.ref o1, .ref af, .int (nI nf)])), (af, aF q 6 (fun j => if j < nf then some (oa j) else none))] ++ rowsW q n n ar P) := hD
  obtain rfl : fr1 = some (oa fx) := hw
  refine lv_astore (lv' := [(4, .ref (oa fx)), (0, .ref o3), (1, .int (nI fx)), (2, .int (nI ja)), (3, .int (nI jc))]) hx hb dX3_square_5 hl (by decide) rfl (fun ls hl => ?_)
  refine lv_aload hx hb dX3_square_7 (lv_at hl 0 rfl) ?_
  refine lv_ifnonnull (tgt := 22) hx hb dX3_square_9 (by decide) ?_
  refine lv_aload hx hb dX3_square_22 (lv_at hl 0 rfl) ?_
  refine va_getN (D := G) (ci := 0) (v := .ref aw) (C := RX0) (T := TX0) (N := 13) hx hb hts in_X3_square_X0 hown hK hP 0 rfl rfl 1 (by decide) (va_Nw.use rfl (hNF.1 (.fieldLinkNest RX3 104 "EchoBench$Filter" "weights" "[D" "EchoBench") (by decide +kernel))) (fun _ h9 => h9) rfl dX3_square_24 ?_
  refine va_alen (D := G) hx hb hK hP 1 1 rfl rfl (v := (nI n)) rfl dX3_square_27 ?_
  refine lv_istore (lv' := [(5, .int (nI n)), (4, .ref (oa fx)), (0, .ref o3), (1, .int (nI fx)), (2, .int (nI ja)), (3, .int (nI jc))]) hx hb dX3_square_28 hl (by decide) rfl (fun ls hl => ?_)
  refine lv_iload_n hx hb dX3_square_30 rfl (lv_at hl 4 rfl) ?_
  refine lv_iconst (v := 0) hx hb dX3_square_31 (by decide) ?_
  refine lv_iload hx hb dX3_square_32 (lv_at hl 0 rfl) ?_
  refine lv_iconst (v := 1) hx hb dX3_square_34 (by decide) ?_
  refine lv_isub hx hb dX3_square_35 ?_
  refine lv_topi (fun x3 ex3 => ?_)
  have hPc := hP.sub (ws' := []) [] rfl
  have hDc := hD.sub (ws' := []) [] (by decide) rfl
  have hFc := va_free (wc := []) hD hS hA [] rfl
  refine va_calli (va_runS (As := [.int (nI ja), .int 0, .int x3]) (rest := []) ⟨hx, hb, hml, hown, hts⟩ (m_X3_isWithin l G q H.size (nI ja) 0 x3) (va_cwS 3 hts gX3_square_X3_isWithin rfl rfl rfl (by decide +kernel) ⟨Nat.le_of_ble_eq_true rfl, Nat.le_of_ble_eq_true rfl⟩) ⟨preW_blind, preW_start hPc hK hDc hNF⟩ rfl rfl hl.1 rfl (lv_room (Nat.le_of_ble_eq_true rfl)) dX3_square_36 ⟨(Nat.zero_le _), (Nat.zero_le _)⟩) hS (fun q _ h => hFc q h) hFc (fun ri4 u9 t9 H1 locs ht9 hv9 hw hB9 hz9 hk9 hS => ?_)
  obtain ⟨⟩ := u9
  obtain ⟨hP1, hD1⟩ := hB9
  rw [ht9] at hP1
  obtain ⟨hP, hD⟩ := va_joinQ (wr := [((oa fx), .inr (0, [.int kd, .ref aw, .ref ae, .ref os, .int th, .int wa, .int ta, .int lf, .double ou, .double er, .int ce, .int cd, .int rs])), (aw, aD q n fw), (os, .inr (2, [.int (nI n), .ref an, .ref ag, .ref ah])), (an, aA q n (fun j => if j < n then some (ar j) else none)), (o3, .inr (3, [.ref o1, .ref af, .int (nI nf)])), (af, aF q 6 (fun j => if j < nf then some (oa j) else none))]) (w1 := []) hP hD [] [0, 1, 2, 3, 4, 5] rfl rfl (by decide) (by decide) hk9 hFc hP1 hD1
  generalize H1 = H at hP hS ⊢
  have hP : va_P G vwCl ([((oa fx), .inr (0, [.int kd, .ref aw, .ref ae, .ref os, .int th, .int wa, .int ta, .int lf, .double ou, .double er, .int ce, .int cd, .int rs])), (aw, aD q n fw), (os, .inr (2, [.int (nI n), .ref an, .ref ag, .ref ah])), (an, aA q n (fun j => if j < n then some (ar j) else none)), (o3, .inr (3, [.ref o1, .ref af, .int (nI nf)])), (af, aF q 6 (fun j => if j < nf then some (oa j) else none))] ++ rowsW q n n ar P) H := hP
  have hD : va_D A ([((oa fx), .inr (0, [.int kd, .ref aw, .ref ae, .ref os, .int th, .int wa, .int ta, .int lf, .double ou, .double er, .int ce, .int cd, .int rs])), (aw, aD q n fw), (os, .inr (2, [.int (nI n), .ref an, .ref ag, .ref ah])), (an, aA q n (fun j => if j < n then some (ar j) else none)), (o3, .inr (3, [.ref o1, .ref af, .int (nI nf)])), (af, aF q 6 (fun j => if j < nf then some (oa j) else none))] ++ rowsW q n n ar P) := hD
  obtain rfl : ri4 = 1 := hw.trans (if_pos (by rw [ex3]; exact m1_in (by omega) hja))
  refine lv_if_ne (tgt := 52) hx hb dX3_square_39 (by decide) (fun _ => ?_) (fun h => absurd h (by decide))
  refine lv_iload_n hx hb dX3_square_52 rfl (lv_at hl 5 rfl) ?_
  refine lv_iconst (v := 0) hx hb dX3_square_53 (by decide) ?_
  refine lv_iload hx hb dX3_square_54 (lv_at hl 0 rfl) ?_
  refine lv_iconst (v := 1) hx hb dX3_square_56 (by decide) ?_
  refine lv_isub hx hb dX3_square_57 ?_
  refine lv_topi (fun x7 ex7 => ?_)
  have hPc := hP.sub (ws' := []) [] rfl
  have hDc := hD.sub (ws' := []) [] (by decide) rfl
  have hFc := va_free (wc := []) hD hS hA [] rfl
  refine va_calli (va_runS (As := [.int (nI jc), .int 0, .int x7]) (rest := []) ⟨hx, hb, hml, hown, hts⟩ (m_X3_isWithin l G q H.size (nI jc) 0 x7) (va_cwS 3 hts gX3_square_X3_isWithin rfl rfl rfl (by decide +kernel) ⟨Nat.le_of_ble_eq_true rfl, Nat.le_of_ble_eq_true rfl⟩) ⟨preW_blind, preW_start hPc hK hDc hNF⟩ rfl rfl hl.1 rfl (lv_room (Nat.le_of_ble_eq_true rfl)) dX3_square_58 ⟨(Nat.zero_le _), (Nat.zero_le _)⟩) hS (fun q _ h => hFc q h) hFc (fun ri8 u9 t9 H1 locs ht9 hv9 hw hB9 hz9 hk9 hS => ?_)
  obtain ⟨⟩ := u9
  obtain ⟨hP1, hD1⟩ := hB9
  rw [ht9] at hP1
  obtain ⟨hP, hD⟩ := va_joinQ (wr := [((oa fx), .inr (0, [.int kd, .ref aw, .ref ae, .ref os, .int th, .int wa, .int ta, .int lf, .double ou, .double er, .int ce, .int cd, .int rs])), (aw, aD q n fw), (os, .inr (2, [.int (nI n), .ref an, .ref ag, .ref ah])), (an, aA q n (fun j => if j < n then some (ar j) else none)), (o3, .inr (3, [.ref o1, .ref af, .int (nI nf)])), (af, aF q 6 (fun j => if j < nf then some (oa j) else none))]) (w1 := []) hP hD [] [0, 1, 2, 3, 4, 5] rfl rfl (by decide) (by decide) hk9 hFc hP1 hD1
  generalize H1 = H at hP hS ⊢
  have hP : va_P G vwCl ([((oa fx), .inr (0, [.int kd, .ref aw, .ref ae, .ref os, .int th, .int wa, .int ta, .int lf, .double ou, .double er, .int ce, .int cd, .int rs])), (aw, aD q n fw), (os, .inr (2, [.int (nI n), .ref an, .ref ag, .ref ah])), (an, aA q n (fun j => if j < n then some (ar j) else none)), (o3, .inr (3, [.ref o1, .ref af, .int (nI nf)])), (af, aF q 6 (fun j => if j < nf then some (oa j) else none))] ++ rowsW q n n ar P) H := hP
  have hD : va_D A ([((oa fx), .inr (0, [.int kd, .ref aw, .ref ae, .ref os, .int th, .int wa, .int ta, .int lf, .double ou, .double er, .int ce, .int cd, .int rs])), (aw, aD q n fw), (os, .inr (2, [.int (nI n), .ref an, .ref ag, .ref ah])), (an, aA q n (fun j => if j < n then some (ar j) else none)), (o3, .inr (3, [.ref o1, .ref af, .int (nI nf)])), (af, aF q 6 (fun j => if j < nf then some (oa j) else none))] ++ rowsW q n n ar P) := hD
  obtain rfl : ri8 = 1 := hw.trans (if_pos (by rw [ex7]; exact m1_in (by omega) hjc))
  refine lv_if_ne (tgt := 74) hx hb dX3_square_61 (by decide) (fun _ => ?_) (fun h => absurd h (by decide))
  refine lv_aload hx hb dX3_square_74 (lv_at hl 1 rfl) ?_
  refine va_getN (D := G) (ci := 0) (v := .ref os) (C := RX0) (T := TX0) (N := 13) hx hb hts in_X3_square_X0 hown hK hP 0 rfl rfl 3 (by decide) (va_Nw.use rfl (hNF.1 (.fieldLinkNest RX3 150 "EchoBench$Filter" "square" "LEchoBench$Square;" "EchoBench") (by decide +kernel))) (fun _ h9 => h9) rfl dX3_square_76 ?_
  refine lv_ifnonnull (tgt := 92) hx hb dX3_square_79 (by decide) ?_
  refine lv_aload hx hb dX3_square_92 (lv_at hl 1 rfl) ?_
  refine va_getN (D := G) (ci := 0) (v := .ref os) (C := RX0) (T := TX0) (N := 13) hx hb hts in_X3_square_X0 hown hK hP 0 rfl rfl 3 (by decide) (va_Nw.use rfl (hNF.1 (.fieldLinkNest RX3 150 "EchoBench$Filter" "square" "LEchoBench$Square;" "EchoBench") (by decide +kernel))) (fun _ h9 => h9) rfl dX3_square_94 ?_
  refine lv_iload_n hx hb dX3_square_97 rfl (lv_at hl 4 rfl) ?_
  refine lv_iload_n hx hb dX3_square_98 rfl (lv_at hl 5 rfl) ?_
  have hPc := hP.part (cx := [(os, .inr (2, [.int (nI n), .ref an, .ref ag, .ref ah])), (an, aA q n (fun j => if j < n then some (ar j) else none))]) [2, 3] rfl
  have hDc := hD.part (cx := [(os, .inr (2, [.int (nI n), .ref an, .ref ag, .ref ah])), (an, aA q n (fun j => if j < n then some (ar j) else none))]) [2, 3] (by decide) rfl
  have hFc := va_freeP (cx := [(os, .inr (2, [.int (nI n), .ref an, .ref ag, .ref ah])), (an, aA q n (fun j => if j < n then some (ar j) else none))]) hD hS hA [2, 3] rfl
  refine va_calld (va_runVN (As := [.int (nI ja), .int (nI jc)]) (rest := []) ⟨hx, hb, hml, hown, hts⟩ (m_X2_number l G q H.size os an ag ah n ar P ja jc hn hja hjc) ⟨va_cnB 2 hts gX3_square_X2_number_n156 rfl rfl rfl (hNF.1 (.methodLinkNest RX3 156 yX2_number "EchoBench") (by decide +kernel)) (hts (.initialized RX2) (by decide +kernel)) (by decide +kernel) ⟨Nat.le_of_ble_eq_true rfl, Nat.le_of_ble_eq_true rfl⟩, (hts (.instanceMethod yX2_number) (by decide +kernel)), (hts (.selects RX2 yX2_number yX2_number) (by decide +kernel))⟩ ⟨preW_blind, (va_recv hK hPc (ci := 2) (q0 := 0) rfl rfl), preW_start hPc hK hDc hNF⟩ rfl rfl hl.1 rfl (lv_room (Nat.le_of_ble_eq_true rfl)) dX3_square_99 ⟨(Nat.zero_le _), (Nat.zero_le _)⟩) hS (fun q _ h => hFc q h) hFc (fun r1 u9 t9 H1 locs ht9 hv9 hw hB9 hz9 hk9 hS => ?_)
  obtain ⟨⟩ := u9
  obtain ⟨hP1, hD1⟩ := hB9
  rw [ht9] at hP1
  obtain ⟨hP, hD⟩ := va_joinP (wr := [((oa fx), .inr (0, [.int kd, .ref aw, .ref ae, .ref os, .int th, .int wa, .int ta, .int lf, .double ou, .double er, .int ce, .int cd, .int rs])), (aw, aD q n fw), (o3, .inr (3, [.ref o1, .ref af, .int (nI nf)])), (af, aF q 6 (fun j => if j < nf then some (oa j) else none))]) (rx := [(os, .inr (2, [.int (nI n), .ref an, .ref ag, .ref ah])), (an, aA q n (fun j => if j < n then some (ar j) else none))]) (pl1 := rowsW q n n ar P) hP hD [2, 3] [0, 1, 4, 5] rfl rfl (by decide) (by decide) hk9 hFc hP1 hD1
  generalize H1 = H at hP hS ⊢
  have hP : va_P G vwCl ([((oa fx), .inr (0, [.int kd, .ref aw, .ref ae, .ref os, .int th, .int wa, .int ta, .int lf, .double ou, .double er, .int ce, .int cd, .int rs])), (aw, aD q n fw), (o3, .inr (3, [.ref o1, .ref af, .int (nI nf)])), (af, aF q 6 (fun j => if j < nf then some (oa j) else none)), (os, .inr (2, [.int (nI n), .ref an, .ref ag, .ref ah])), (an, aA q n (fun j => if j < n then some (ar j) else none))] ++ rowsW q n n ar P) H := hP
  have hD : va_D A ([((oa fx), .inr (0, [.int kd, .ref aw, .ref ae, .ref os, .int th, .int wa, .int ta, .int lf, .double ou, .double er, .int ce, .int cd, .int rs])), (aw, aD q n fw), (o3, .inr (3, [.ref o1, .ref af, .int (nI nf)])), (af, aF q 6 (fun j => if j < nf then some (oa j) else none)), (os, .inr (2, [.int (nI n), .ref an, .ref ag, .ref ah])), (an, aA q n (fun j => if j < n then some (ar j) else none))] ++ rowsW q n n ar P) := hD
  have hr1 := hw
  have hP := hP.part (cx := [(o3, .inr (3, [.ref o1, .ref af, .int (nI nf)])), (af, aF q 6 (fun j => if j < nf then some (oa j) else none)), ((oa fx), .inr (0, [.int kd, .ref aw, .ref ae, .ref os, .int th, .int wa, .int ta, .int lf, .double ou, .double er, .int ce, .int cd, .int rs])), (aw, aD q n fw), (os, .inr (2, [.int (nI n), .ref an, .ref ag, .ref ah])), (an, aA q n (fun j => if j < n then some (ar j) else none))]) [2, 3, 0, 1, 4, 5] rfl
  have hD := hD.part (cx := [(o3, .inr (3, [.ref o1, .ref af, .int (nI nf)])), (af, aF q 6 (fun j => if j < nf then some (oa j) else none)), ((oa fx), .inr (0, [.int kd, .ref aw, .ref ae, .ref os, .int th, .int wa, .int ta, .int lf, .double ou, .double er, .int ce, .int cd, .int rs])), (aw, aD q n fw), (os, .inr (2, [.int (nI n), .ref an, .ref ag, .ref ah])), (an, aA q n (fun j => if j < n then some (ar j) else none))]) [2, 3, 0, 1, 4, 5] (by decide) rfl
  have hP9 := hP
  have hD9 := hD
  exact W.dret (v := r1) hx hb hr (fun t ht hW => ⟨⟨r1, (), rfl, hr1, by rw [ht]; exact hP9, hD9⟩, hS.F ht⟩) hS.2.2 dX3_square_102

set_option maxHeartbeats 4000000 in
set_option maxRecDepth 100000 in
/-- restart, of an RLS -/
theorem m_X0_restartR (l : Launch) (G : va_G) (q : Nat → ClassId) (sz : Nat) (o0 aw ae n : Nat) (kd th wa ta lf ce cd rs : Int32) (ou er : UInt64) (fw : Nat → UInt64) (os an ag ah : Nat) (ar : Nat → Nat) (P : Nat → Nat → UInt64) (hn : n ≤ 4) : Met l yX0_restart wsX0_restart ({ frames := 3, cells := 0, slots := 0, locals := 80 } : Jvm.Room) (PreW G q [.ref o0] ([(o0, .inr (0, [.int kd, .ref aw, .ref ae, .ref os, .int th, .int wa, .int ta, .int lf, .double ou, .double er, .int ce, .int cd, .int rs])), (aw, aD q n fw), (os, .inr (2, [.int (nI n), .ref an, .ref ag, .ref ah])), (an, aA q n (fun j => if j < n then some (ar j) else none))] ++ rowsW q n n ar P) sz) (va_Qv (fun (u : (Nat → UInt64) × (Nat → Nat → UInt64)) => (∀ i, i < n → u.1 i = 0) ∧ ∀ a b, a < n → b < n → u.2 a b = if a = b then H100 else 0) (fun (u : (Nat → UInt64) × (Nat → Nat → UInt64)) t => EndA G (va_A ([(o0, .inr (0, [.int kd, .ref aw, .ref ae, .ref os, .int th, .int wa, .int ta, .int lf, .double ou, .double er, .int ce, .int cd, .int rs])), (aw, aD q n fw), (os, .inr (2, [.int (nI n), .ref an, .ref ag, .ref ah])), (an, aA q n (fun j => if j < n then some (ar j) else none))] ++ rowsW q n n ar P) sz) ([(o0, .inr (0, [.int kd, .ref aw, .ref ae, .ref os, .int th, .int wa, .int ta, .int 0, .double 0, .double 0, .int 0, .int 0, .int 0])), (aw, aD q n u.1), (os, .inr (2, [.int (nI n), .ref an, .ref ag, .ref ah])), (an, aA q n (fun j => if j < n then some (ar j) else none))] ++ rowsW q n n ar u.2) t) (va_A ([(o0, .inr (0, [.int kd, .ref aw, .ref ae, .ref os, .int th, .int wa, .int ta, .int lf, .double ou, .double er, .int ce, .int cd, .int rs])), (aw, aD q n fw), (os, .inr (2, [.int (nI n), .ref an, .ref ag, .ref ah])), (an, aA q n (fun j => if j < n then some (ar j) else none))] ++ rowsW q n n ar P) sz)) 0 0 (va_A ([(o0, .inr (0, [.int kd, .ref aw, .ref ae, .ref os, .int th, .int wa, .int ta, .int lf, .double ou, .double er, .int ce, .int cd, .int rs])), (aw, aD q n fw), (os, .inr (2, [.int (nI n), .ref an, .ref ag, .ref ah])), (an, aA q n (fun j => if j < n then some (ar j) else none))] ++ rowsW q n n ar P) sz) := by
  refine Met.ofW (cc := cX0_restart) (maxL := 1) (ret := none) (by decide +kernel) rfl ?_
  intro p e s m args below meth c s₁ B hml hv
  obtain ⟨rfl, hsz, hP, hK, hD0, hNF⟩ := hv
  have hx := B.exec
  have hb := B.bytes
  have hr := B.returns
  have hts := atoms_spec (ws := wsX0_restart) B.pre
  have hown : s.vm.findClass RX0 = some m.cls := findClass_of_methodNamed B.named
  have hlocks := B.notSynchronized
  subst hsz
  have hD := hD0.self (sz := s.heap.size)
  generalize hAe : va_A ([(o0, .inr (0, [.int kd, .ref aw, .ref ae, .ref os, .int th, .int wa, .int ta, .int lf, .double ou, .double er, .int ce, .int cd, .int rs])), (aw, aD q n fw), (os, .inr (2, [.int (nI n), .ref an, .ref ag, .ref ah])), (an, aA q n (fun j => if j < n then some (ar j) else none))] ++ rowsW q n n ar P) s.heap.size = A at hD ⊢
  have hA : ∀ q : Nat, s.heap.size ≤ q → A q := fun q h => by rw [← hAe]; exact Or.inr h
  have hS : va_S A s.heap s.heap [] := va_S.rf
  have hP : va_P G vwCl ([(o0, .inr (0, [.int kd, .ref aw, .ref ae, .ref os, .int th, .int wa, .int ta, .int lf, .double ou, .double er, .int ce, .int cd, .int rs])), (aw, aD q n fw), (os, .inr (2, [.int (nI n), .ref an, .ref ag, .ref ah])), (an, aA q n (fun j => if j < n then some (ar j) else none))] ++ rowsW q n n ar P) s.heap := hP
  have hl := lv_entry ([.ref o0]) (n := 1) (Nat.le_of_ble_eq_true rfl)
  rw [lg_entry_eq]
  generalize (lg_sl ([.ref o0]) ++ List.replicate (1 - (lg_sl ([.ref o0])).length) Slot.unset).toArray = ls at hl ⊢
  have hl : lv_has ls 1 [(0, .ref o0)] := hl
  refine lv_aload_n hx hb dX0_restart_0 rfl (lv_at hl 0 rfl) ?_
  refine va_get (D := G) (ci := 0) (v := .ref aw) (C := RX0) (T := TX0) (N := 13) hx hb hts in_X0_restart_X0 hown hK hP 0 rfl rfl 1 (by decide) (hts (.fieldLink RX0 15 "EchoBench$Filter" "weights" "[D") (by decide +kernel)) (fun _ h9 => h9) rfl dX0_restart_1 ?_
  refine lv_dc0 hx hb dX0_restart_4 ?_
  have hPc := hP.sub (ws' := [(aw, aD q n fw)]) [1] rfl
  have hDc := hD.sub (ws' := [(aw, aD q n fw)]) [1] (by decide) rfl
  have hFc := va_free (wc := [(aw, aD q n fw)]) hD hS hA [1] rfl
  refine va_callv (va_runS (As := [.ref aw, .double 0]) (rest := []) ⟨hx, hb, hml, hown, hts⟩ (m_fill l G q s.heap.size aw n fw 0 (by omega)) (va_cwS 2 hts gX0_restart_J7_fill_7f8df rfl rfl rfl (by decide +kernel) ⟨Nat.le_of_ble_eq_true rfl, Nat.le_of_ble_eq_true rfl⟩) ⟨preW_blind, preW_start hPc hK hDc hNF⟩ rfl rfl hl.1 rfl (lv_room (Nat.le_of_ble_eq_true rfl)) dX0_restart_5 ⟨(Nat.zero_le _), (Nat.zero_le _)⟩) hS (fun q _ h => hFc q h) hFc (fun u9 t9 H1 locs ht9 hv9 hw hB9 hz9 hk9 hS => ?_)
  obtain ⟨f1, rfl⟩ : ∃ z, z = u9 := ⟨_, rfl⟩
  obtain ⟨hP1, hD1⟩ := hB9
  rw [ht9] at hP1
  obtain ⟨hP, hD⟩ := va_joinQ (wr := [(o0, .inr (0, [.int kd, .ref aw, .ref ae, .ref os, .int th, .int wa, .int ta, .int lf, .double ou, .double er, .int ce, .int cd, .int rs])), (os, .inr (2, [.int (nI n), .ref an, .ref ag, .ref ah])), (an, aA q n (fun j => if j < n then some (ar j) else none))]) (w1 := [(aw, aD q n f1)]) hP hD [1] [0, 2, 3] rfl rfl (by decide) (by decide) hk9 hFc hP1 hD1
  generalize H1 = H at hP hS ⊢
  have hP : va_P G vwCl ([(o0, .inr (0, [.int kd, .ref aw, .ref ae, .ref os, .int th, .int wa, .int ta, .int lf, .double ou, .double er, .int ce, .int cd, .int rs])), (os, .inr (2, [.int (nI n), .ref an, .ref ag, .ref ah])), (an, aA q n (fun j => if j < n then some (ar j) else none)), (aw, aD q n f1)] ++ rowsW q n n ar P) H := hP
  have hD : va_D A ([(o0, .inr (0, [.int kd, .ref aw, .ref ae, .ref os, .int th, .int wa, .int ta, .int lf, .double ou, .double er, .int ce, .int cd, .int rs])), (os, .inr (2, [.int (nI n), .ref an, .ref ag, .ref ah])), (an, aA q n (fun j => if j < n then some (ar j) else none)), (aw, aD q n f1)] ++ rowsW q n n ar P) := hD
  have hf1 := hw
  refine lv_aload_n hx hb dX0_restart_8 rfl (lv_at hl 0 rfl) ?_
  refine va_get (D := G) (ci := 0) (v := .ref os) (C := RX0) (T := TX0) (N := 13) hx hb hts in_X0_restart_X0 hown hK hP 0 rfl rfl 3 (by decide) (hts (.fieldLink RX0 27 "EchoBench$Filter" "square" "LEchoBench$Square;") (by decide +kernel)) (fun _ h9 => h9) rfl dX0_restart_9 ?_
  refine lv_ifnull hx hb dX0_restart_12 ?_
  refine lv_aload_n hx hb dX0_restart_15 rfl (lv_at hl 0 rfl) ?_
  refine va_get (D := G) (ci := 0) (v := .ref os) (C := RX0) (T := TX0) (N := 13) hx hb hts in_X0_restart_X0 hown hK hP 0 rfl rfl 3 (by decide) (hts (.fieldLink RX0 27 "EchoBench$Filter" "square" "LEchoBench$Square;") (by decide +kernel)) (fun _ h9 => h9) rfl dX0_restart_16 ?_
  have hPc := hP.part (cx := [(os, .inr (2, [.int (nI n), .ref an, .ref ag, .ref ah])), (an, aA q n (fun j => if j < n then some (ar j) else none))]) [1, 2] rfl
  have hDc := hD.part (cx := [(os, .inr (2, [.int (nI n), .ref an, .ref ag, .ref ah])), (an, aA q n (fun j => if j < n then some (ar j) else none))]) [1, 2] (by decide) rfl
  have hFc := va_freeP (cx := [(os, .inr (2, [.int (nI n), .ref an, .ref ag, .ref ah])), (an, aA q n (fun j => if j < n then some (ar j) else none))]) hD hS hA [1, 2] rfl
  refine va_callv (va_runVN (As := []) (rest := []) ⟨hx, hb, hml, hown, hts⟩ (m_X2_restart l G q H.size os an ag ah n ar P hn) ⟨va_cnB 0 hts gX0_restart_X2_restart_n40 rfl rfl rfl (hNF.1 (.methodLinkNest RX0 40 yX2_restart "EchoBench") (by decide +kernel)) (hts (.initialized RX2) (by decide +kernel)) (by decide +kernel) ⟨Nat.le_of_ble_eq_true rfl, Nat.le_of_ble_eq_true rfl⟩, (hts (.instanceMethod yX2_restart) (by decide +kernel)), (hts (.selects RX2 yX2_restart yX2_restart) (by decide +kernel))⟩ ⟨preW_blind, (va_recv hK hPc (ci := 2) (q0 := 0) rfl rfl), preW_start hPc hK hDc hNF⟩ rfl rfl hl.1 rfl (lv_room (Nat.le_of_ble_eq_true rfl)) dX0_restart_19 ⟨(Nat.zero_le _), (Nat.zero_le _)⟩) hS (fun q _ h => hFc q h) hFc (fun u9 t9 H1 locs ht9 hv9 hw hB9 hz9 hk9 hS => ?_)
  obtain ⟨P1, rfl⟩ : ∃ z, z = u9 := ⟨_, rfl⟩
  obtain ⟨hP1, hD1⟩ := hB9
  rw [ht9] at hP1
  obtain ⟨hP, hD⟩ := va_joinP (wr := [(o0, .inr (0, [.int kd, .ref aw, .ref ae, .ref os, .int th, .int wa, .int ta, .int lf, .double ou, .double er, .int ce, .int cd, .int rs])), (aw, aD q n f1)]) (rx := [(os, .inr (2, [.int (nI n), .ref an, .ref ag, .ref ah])), (an, aA q n (fun j => if j < n then some (ar j) else none))]) (pl1 := rowsW q n n ar P1) hP hD [1, 2] [0, 3] rfl rfl (by decide) (by decide) hk9 hFc hP1 hD1
  generalize H1 = H at hP hS ⊢
  have hP : va_P G vwCl ([(o0, .inr (0, [.int kd, .ref aw, .ref ae, .ref os, .int th, .int wa, .int ta, .int lf, .double ou, .double er, .int ce, .int cd, .int rs])), (aw, aD q n f1), (os, .inr (2, [.int (nI n), .ref an, .ref ag, .ref ah])), (an, aA q n (fun j => if j < n then some (ar j) else none))] ++ rowsW q n n ar P1) H := hP
  have hD : va_D A ([(o0, .inr (0, [.int kd, .ref aw, .ref ae, .ref os, .int th, .int wa, .int ta, .int lf, .double ou, .double er, .int ce, .int cd, .int rs])), (aw, aD q n f1), (os, .inr (2, [.int (nI n), .ref an, .ref ag, .ref ah])), (an, aA q n (fun j => if j < n then some (ar j) else none))] ++ rowsW q n n ar P1) := hD
  have hP1r := hw
  refine lv_aload_n hx hb dX0_restart_22 rfl (lv_at hl 0 rfl) ?_
  refine lv_iconst (v := 0) hx hb dX0_restart_23 (by decide) ?_
  refine va_put (D := G) (ci := 0) (v := .int 0) (ty := .int) (C := RX0) (T := TX0) (N := 13) hx hb hts in_X0_restart_X0 tyX0 tyX0_ok nmX0 hown hK hP hD hS 0 rfl rfl 7 (by decide) (hts (.fieldLink RX0 43 "EchoBench$Filter" "holdsLeft" "I") (by decide +kernel)) (fun _ h9 => h9) rfl (by decide +kernel) rfl rfl (Nat.le_of_ble_eq_true rfl) dX0_restart_24 (fun H locs hP hD hS => ?_)
  have hP : va_P G vwCl ([(o0, .inr (0, [.int kd, .ref aw, .ref ae, .ref os, .int th, .int wa, .int ta, .int 0, .double ou, .double er, .int ce, .int cd, .int rs])), (aw, aD q n f1), (os, .inr (2, [.int (nI n), .ref an, .ref ag, .ref ah])), (an, aA q n (fun j => if j < n then some (ar j) else none))] ++ rowsW q n n ar P1) H := hP
  have hD : va_D A ([(o0, .inr (0, [.int kd, .ref aw, .ref ae, .ref os, .int th, .int wa, .int ta, .int 0, .double ou, .double er, .int ce, .int cd, .int rs])), (aw, aD q n f1), (os, .inr (2, [.int (nI n), .ref an, .ref ag, .ref ah])), (an, aA q n (fun j => if j < n then some (ar j) else none))] ++ rowsW q n n ar P1) := hD
  refine lv_aload_n hx hb dX0_restart_27 rfl (lv_at hl 0 rfl) ?_
  refine lv_dc0 hx hb dX0_restart_28 ?_
  refine va_put (D := G) (ci := 0) (v := .double 0) (ty := .double) (C := RX0) (T := TX0) (N := 13) hx hb hts in_X0_restart_X0 tyX0 tyX0_ok nmX0 hown hK hP hD hS 0 rfl rfl 8 (by decide) (hts (.fieldLink RX0 46 "EchoBench$Filter" "output" "D") (by decide +kernel)) (fun _ h9 => h9) rfl (by decide +kernel) rfl rfl (Nat.le_of_ble_eq_true rfl) dX0_restart_29 (fun H locs hP hD hS => ?_)
  have hP : va_P G vwCl ([(o0, .inr (0, [.int kd, .ref aw, .ref ae, .ref os, .int th, .int wa, .int ta, .int 0, .double 0, .double er, .int ce, .int cd, .int rs])), (aw, aD q n f1), (os, .inr (2, [.int (nI n), .ref an, .ref ag, .ref ah])), (an, aA q n (fun j => if j < n then some (ar j) else none))] ++ rowsW q n n ar P1) H := hP
  have hD : va_D A ([(o0, .inr (0, [.int kd, .ref aw, .ref ae, .ref os, .int th, .int wa, .int ta, .int 0, .double 0, .double er, .int ce, .int cd, .int rs])), (aw, aD q n f1), (os, .inr (2, [.int (nI n), .ref an, .ref ag, .ref ah])), (an, aA q n (fun j => if j < n then some (ar j) else none))] ++ rowsW q n n ar P1) := hD
  refine lv_aload_n hx hb dX0_restart_32 rfl (lv_at hl 0 rfl) ?_
  refine lv_dc0 hx hb dX0_restart_33 ?_
  refine va_put (D := G) (ci := 0) (v := .double 0) (ty := .double) (C := RX0) (T := TX0) (N := 13) hx hb hts in_X0_restart_X0 tyX0 tyX0_ok nmX0 hown hK hP hD hS 0 rfl rfl 9 (by decide) (hts (.fieldLink RX0 50 "EchoBench$Filter" "error" "D") (by decide +kernel)) (fun _ h9 => h9) rfl (by decide +kernel) rfl rfl (Nat.le_of_ble_eq_true rfl) dX0_restart_34 (fun H locs hP hD hS => ?_)
  have hP : va_P G vwCl ([(o0, .inr (0, [.int kd, .ref aw, .ref ae, .ref os, .int th, .int wa, .int ta, .int 0, .double 0, .double 0, .int ce, .int cd, .int rs])), (aw, aD q n f1), (os, .inr (2, [.int (nI n), .ref an, .ref ag, .ref ah])), (an, aA q n (fun j => if j < n then some (ar j) else none))] ++ rowsW q n n ar P1) H := hP
  have hD : va_D A ([(o0, .inr (0, [.int kd, .ref aw, .ref ae, .ref os, .int th, .int wa, .int ta, .int 0, .double 0, .double 0, .int ce, .int cd, .int rs])), (aw, aD q n f1), (os, .inr (2, [.int (nI n), .ref an, .ref ag, .ref ah])), (an, aA q n (fun j => if j < n then some (ar j) else none))] ++ rowsW q n n ar P1) := hD
  refine lv_aload_n hx hb dX0_restart_37 rfl (lv_at hl 0 rfl) ?_
  refine lv_iconst (v := 0) hx hb dX0_restart_38 (by decide) ?_
  refine va_put (D := G) (ci := 0) (v := .int 0) (ty := .int) (C := RX0) (T := TX0) (N := 13) hx hb hts in_X0_restart_X0 tyX0 tyX0_ok nmX0 hown hK hP hD hS 0 rfl rfl 10 (by decide) (hts (.fieldLink RX0 53 "EchoBench$Filter" "heard" "I") (by decide +kernel)) (fun _ h9 => h9) rfl (by decide +kernel) rfl rfl (Nat.le_of_ble_eq_true rfl) dX0_restart_39 (fun H locs hP hD hS => ?_)
  have hP : va_P G vwCl ([(o0, .inr (0, [.int kd, .ref aw, .ref ae, .ref os, .int th, .int wa, .int ta, .int 0, .double 0, .double 0, .int 0, .int cd, .int rs])), (aw, aD q n f1), (os, .inr (2, [.int (nI n), .ref an, .ref ag, .ref ah])), (an, aA q n (fun j => if j < n then some (ar j) else none))] ++ rowsW q n n ar P1) H := hP
  have hD : va_D A ([(o0, .inr (0, [.int kd, .ref aw, .ref ae, .ref os, .int th, .int wa, .int ta, .int 0, .double 0, .double 0, .int 0, .int cd, .int rs])), (aw, aD q n f1), (os, .inr (2, [.int (nI n), .ref an, .ref ag, .ref ah])), (an, aA q n (fun j => if j < n then some (ar j) else none))] ++ rowsW q n n ar P1) := hD
  refine lv_aload_n hx hb dX0_restart_42 rfl (lv_at hl 0 rfl) ?_
  refine lv_iconst (v := 0) hx hb dX0_restart_43 (by decide) ?_
  refine va_put (D := G) (ci := 0) (v := .int 0) (ty := .int) (C := RX0) (T := TX0) (N := 13) hx hb hts in_X0_restart_X0 tyX0 tyX0_ok nmX0 hown hK hP hD hS 0 rfl rfl 11 (by decide) (hts (.fieldLink RX0 56 "EchoBench$Filter" "held" "I") (by decide +kernel)) (fun _ h9 => h9) rfl (by decide +kernel) rfl rfl (Nat.le_of_ble_eq_true rfl) dX0_restart_44 (fun H locs hP hD hS => ?_)
  have hP : va_P G vwCl ([(o0, .inr (0, [.int kd, .ref aw, .ref ae, .ref os, .int th, .int wa, .int ta, .int 0, .double 0, .double 0, .int 0, .int 0, .int rs])), (aw, aD q n f1), (os, .inr (2, [.int (nI n), .ref an, .ref ag, .ref ah])), (an, aA q n (fun j => if j < n then some (ar j) else none))] ++ rowsW q n n ar P1) H := hP
  have hD : va_D A ([(o0, .inr (0, [.int kd, .ref aw, .ref ae, .ref os, .int th, .int wa, .int ta, .int 0, .double 0, .double 0, .int 0, .int 0, .int rs])), (aw, aD q n f1), (os, .inr (2, [.int (nI n), .ref an, .ref ag, .ref ah])), (an, aA q n (fun j => if j < n then some (ar j) else none))] ++ rowsW q n n ar P1) := hD
  refine lv_aload_n hx hb dX0_restart_47 rfl (lv_at hl 0 rfl) ?_
  refine lv_iconst (v := 0) hx hb dX0_restart_48 (by decide) ?_
  refine va_put (D := G) (ci := 0) (v := .int 0) (ty := .int) (C := RX0) (T := TX0) (N := 13) hx hb hts in_X0_restart_X0 tyX0 tyX0_ok nmX0 hown hK hP hD hS 0 rfl rfl 12 (by decide) (hts (.fieldLink RX0 59 "EchoBench$Filter" "resets" "I") (by decide +kernel)) (fun _ h9 => h9) rfl (by decide +kernel) rfl rfl (Nat.le_of_ble_eq_true rfl) dX0_restart_49 (fun H locs hP hD hS => ?_)
  have hP : va_P G vwCl ([(o0, .inr (0, [.int kd, .ref aw, .ref ae, .ref os, .int th, .int wa, .int ta, .int 0, .double 0, .double 0, .int 0, .int 0, .int 0])), (aw, aD q n f1), (os, .inr (2, [.int (nI n), .ref an, .ref ag, .ref ah])), (an, aA q n (fun j => if j < n then some (ar j) else none))] ++ rowsW q n n ar P1) H := hP
  have hD : va_D A ([(o0, .inr (0, [.int kd, .ref aw, .ref ae, .ref os, .int th, .int wa, .int ta, .int 0, .double 0, .double 0, .int 0, .int 0, .int 0])), (aw, aD q n f1), (os, .inr (2, [.int (nI n), .ref an, .ref ag, .ref ah])), (an, aA q n (fun j => if j < n then some (ar j) else none))] ++ rowsW q n n ar P1) := hD
  have hP9 := hP
  have hD9 := hD
  exact W.vret hx hb hr (fun t ht hW => ⟨⟨(f1, P1), rfl, ⟨hf1, hP1r⟩, by rw [ht]; exact hP9, hD9⟩, hS.F ht⟩) hS.2.2 dX0_restart_52
