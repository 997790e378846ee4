theorem in_X1_batchWeight_X1 : ∀ w ∈ wsX10, w ∈ wsX1_batchWeight := by decide +kernel
set_option maxHeartbeats 4000000 in
set_option maxRecDepth 100000 in
/-- batchWeight -/
theorem m_X1_batchWeight (l : Launch) (G : va_G) (q : Nat → ClassId) (sz : Nat) (o1 a1 ax b0 b1 b2 tk : Nat) (mi : UInt64) (pa xi z0 z1 : Nat → Int32) (fm : Nat → UInt64) (tp : Int32) (htk : tk ≤ 2000) : MetD lw_cs l yX1_batchWeight wsX1_batchWeight ({ frames := 2, cells := 0, slots := 0, locals := 86 } : Jvm.Room) (PreW G q [.ref o1, .int tp] [(o1, .inr (1, [.ref a1, .ref ax, .ref b0, .ref b1, .ref b2, .double mi, .int (nI tk)])), (b0, aD q 16 (fun i => FP.i2d (z0 i))), (b1, aD q 16 (fun i => FP.i2d (z1 i))), (b2, aD q 16 fm)] sz) (va_Qd (fun (r : UInt64) (_ : Unit) => dV r = sBatch tp tk (fun k => fI (z0 k)) (fun k => fI (z1 k)) (fun k => dV (fm k))) (fun (_ : Unit) t => EndA G (va_A [(o1, .inr (1, [.ref a1, .ref ax, .ref b0, .ref b1, .ref b2, .double mi, .int (nI tk)])), (b0, aD q 16 (fun i => FP.i2d (z0 i))), (b1, aD q 16 (fun i => FP.i2d (z1 i))), (b2, aD q 16 fm)] sz) [(o1, .inr (1, [.ref a1, .ref ax, .ref b0, .ref b1, .ref b2, .double mi, .int (nI tk)])), (b0, aD q 16 (fun i => FP.i2d (z0 i))), (b1, aD q 16 (fun i => FP.i2d (z1 i))), (b2, aD q 16 fm)] t) (va_A [(o1, .inr (1, [.ref a1, .ref ax, .ref b0, .ref b1, .ref b2, .double mi, .int (nI tk)])), (b0, aD q 16 (fun i => FP.i2d (z0 i))), (b1, aD q 16 (fun i => FP.i2d (z1 i))), (b2, aD q 16 fm)] sz)) 0 0 (va_A [(o1, .inr (1, [.ref a1, .ref ax, .ref b0, .ref b1, .ref b2, .double mi, .int (nI tk)])), (b0, aD q 16 (fun i => FP.i2d (z0 i))), (b1, aD q 16 (fun i => FP.i2d (z1 i))), (b2, aD q 16 fm)] sz) := by
  refine MetD.ofW (cc := cX1_batchWeight) (maxL := 14) (ret := (some .double)) (by decide +kernel) rfl ?_
  intro p e s m args below meth c s₁ B hml hv hd0
  obtain ⟨rfl, hsz, hP, hK, hD0, hNF⟩ := hv
  have hx := B.exec
  have hb := B.bytes
  have hr := B.returns
  have hts := atoms_spec (ws := wsX1_batchWeight) B.pre
  have hown : s.vm.findClass RX1 = some m.cls := findClass_of_methodNamed B.named
  have hlocks := B.notSynchronized
  subst hsz
  have hD := hD0.self (sz := s.heap.size)
  generalize hAe : va_A [(o1, .inr (1, [.ref a1, .ref ax, .ref b0, .ref b1, .ref b2, .double mi, .int (nI tk)])), (b0, aD q 16 (fun i => FP.i2d (z0 i))), (b1, aD q 16 (fun i => FP.i2d (z1 i))), (b2, aD q 16 fm)] s.heap.size = A at hD ⊢
  have hA : ∀ q : Nat, s.heap.size ≤ q → A q := fun q h => by rw [← hAe]; exact Or.inr h
  have hS : va_S A s.heap s.heap [] := va_S.rf
  have hP : va_P G vwCl [(o1, .inr (1, [.ref a1, .ref ax, .ref b0, .ref b1, .ref b2, .double mi, .int (nI tk)])), (b0, aD q 16 (fun i => FP.i2d (z0 i))), (b1, aD q 16 (fun i => FP.i2d (z1 i))), (b2, aD q 16 fm)] s.heap := hP
  have hl := lv_entry ([.ref o1, .int tp]) (n := 14) (Nat.le_of_ble_eq_true rfl)
  rw [lg_entry_eq]
  generalize (lg_sl ([.ref o1, .int tp]) ++ List.replicate (14 - (lg_sl ([.ref o1, .int tp])).length) Slot.unset).toArray = ls at hl ⊢
  have hl : lv_has ls 14 [(0, .ref o1), (1, .int tp)] := hl
  refine lv_aload_n hx hb dX1_batchWeight_0 rfl (lv_at hl 0 rfl) ?_
  refine lv_aload_n hx hb dX1_batchWeight_1 rfl (lv_at hl 0 rfl) ?_
  refine va_get (D := G) (ci := 1) (v := .ref b0) (C := RX1) (T := TX1) (N := 7) hx hb (dr_words hts s.drawn) in_X1_batchWeight_X1 hown hK hP 0 rfl rfl 2 (by decide) (dr_words hts s.drawn (.fieldLink RX1 19 "EchoBench$Samples" "latestX0" "[D") (by decide +kernel)) (fun _ h9 => h9) rfl dX1_batchWeight_2 ?_
  refine lv_aload_n hx hb dX1_batchWeight_5 rfl (lv_at hl 0 rfl) ?_
  refine va_get (D := G) (ci := 1) (v := .ref b0) (C := RX1) (T := TX1) (N := 7) hx hb (dr_words hts s.drawn) in_X1_batchWeight_X1 hown hK hP 0 rfl rfl 2 (by decide) (dr_words hts s.drawn (.fieldLink RX1 19 "EchoBench$Samples" "latestX0" "[D") (by decide +kernel)) (fun _ h9 => h9) rfl dX1_batchWeight_6 ?_
  have hPc := hP.sub (ws' := [(o1, .inr (1, [.ref a1, .ref ax, .ref b0, .ref b1, .ref b2, .double mi, .int (nI tk)])), (b0, aD q 16 (fun i => FP.i2d (z0 i)))]) [0, 1] rfl
  have hDc := hD.sub (ws' := [(o1, .inr (1, [.ref a1, .ref ax, .ref b0, .ref b1, .ref b2, .double mi, .int (nI tk)])), (b0, aD q 16 (fun i => FP.i2d (z0 i)))]) [0, 1] (by decide) rfl
  have hFc := va_free (wc := [(o1, .inr (1, [.ref a1, .ref ax, .ref b0, .ref b1, .ref b2, .double mi, .int (nI tk)])), (b0, aD q 16 (fun i => FP.i2d (z0 i)))]) hD hS hA [0, 1] rfl
  refine va_calldD hd0 (va_runV_D (As := [.ref b0, .ref b0]) (rest := []) ⟨hx, hb, hml, hown, (dr_words hts s.drawn)⟩ (m_X1_sum1 l G q s.heap.size o1 a1 ax b0 b1 b2 tk b0 mi (fun i => FP.i2d (z0 i)) htk) (cwV 2 (dr_words hts s.drawn) gX1_batchWeight_X1_sumOfProducts rfl rfl rfl (by decide +kernel) ⟨Nat.le_of_ble_eq_true rfl, Nat.le_of_ble_eq_true rfl⟩) ⟨preW_blind, (va_recv hK hPc (ci := 1) (q0 := 0) rfl rfl), preW_start (s := s.setDrawn s.drawn) hPc hK hDc (hNF.drawn s.drawn)⟩ rfl rfl hl.1 rfl (lv_room (Nat.le_of_ble_eq_true rfl)) dX1_batchWeight_9 ⟨(Nat.zero_le _), (Nat.zero_le _)⟩) hS (fun q _ h => hFc q h) hFc (fun wa u9 t9 H1 locs ht9 hv9 hw hB9 hz9 hk9 hS du1 hu1 => ?_)
  obtain ⟨⟩ := u9
  obtain ⟨hP1, hD1⟩ := hB9
  rw [ht9] at hP1
  obtain ⟨hP, hD⟩ := va_join (wr := [(b1, aD q 16 (fun i => FP.i2d (z1 i))), (b2, aD q 16 fm)]) (w1 := [(o1, .inr (1, [.ref a1, .ref ax, .ref b0, .ref b1, .ref b2, .double mi, .int (nI tk)])), (b0, aD q 16 (fun i => FP.i2d (z0 i)))]) hP hD [0, 1] [2, 3] rfl rfl (by decide) (by decide) hk9 hFc hP1 hD1
  generalize H1 = H at hP hS ⊢
  have hP : va_P G vwCl [(b1, aD q 16 (fun i => FP.i2d (z1 i))), (b2, aD q 16 fm), (o1, .inr (1, [.ref a1, .ref ax, .ref b0, .ref b1, .ref b2, .double mi, .int (nI tk)])), (b0, aD q 16 (fun i => FP.i2d (z0 i)))] H := hP
  have hD : va_D A [(b1, aD q 16 (fun i => FP.i2d (z1 i))), (b2, aD q 16 fm), (o1, .inr (1, [.ref a1, .ref ax, .ref b0, .ref b1, .ref b2, .double mi, .int (nI tk)])), (b0, aD q 16 (fun i => FP.i2d (z0 i)))] := hD
  have hwa := hw
  refine lv_dstore_n (lv' := [(2, .double wa), (0, .ref o1), (1, .int tp)]) hx hb dX1_batchWeight_12 rfl hl (by decide) rfl (fun ls hl => ?_)
  refine lv_aload_n hx hb dX1_batchWeight_13 rfl (lv_at hl 1 rfl) ?_
  refine lv_aload_n hx hb dX1_batchWeight_14 rfl (lv_at hl 1 rfl) ?_
  refine va_get (D := G) (ci := 1) (v := .ref b0) (C := RX1) (T := TX1) (N := 7) hx hb (dr_words hts du1) in_X1_batchWeight_X1 hown hK hP 2 rfl rfl 2 (by decide) (dr_words hts du1 (.fieldLink RX1 19 "EchoBench$Samples" "latestX0" "[D") (by decide +kernel)) (fun _ h9 => h9) rfl dX1_batchWeight_15 ?_
  refine lv_aload_n hx hb dX1_batchWeight_18 rfl (lv_at hl 1 rfl) ?_
  refine va_get (D := G) (ci := 1) (v := .ref b1) (C := RX1) (T := TX1) (N := 7) hx hb (dr_words hts du1) in_X1_batchWeight_X1 hown hK hP 2 rfl rfl 3 (by decide) (dr_words hts du1 (.fieldLink RX1 22 "EchoBench$Samples" "latestX1" "[D") (by decide +kernel)) (fun _ h9 => h9) rfl dX1_batchWeight_19 ?_
  have hPc := hP.sub (ws' := [(o1, .inr (1, [.ref a1, .ref ax, .ref b0, .ref b1, .ref b2, .double mi, .int (nI tk)])), (b0, aD q 16 (fun i => FP.i2d (z0 i))), (b1, aD q 16 (fun i => FP.i2d (z1 i)))]) [2, 3, 0] rfl
  have hDc := hD.sub (ws' := [(o1, .inr (1, [.ref a1, .ref ax, .ref b0, .ref b1, .ref b2, .double mi, .int (nI tk)])), (b0, aD q 16 (fun i => FP.i2d (z0 i))), (b1, aD q 16 (fun i => FP.i2d (z1 i)))]) [2, 3, 0] (by decide) rfl
  have hFc := va_free (wc := [(o1, .inr (1, [.ref a1, .ref ax, .ref b0, .ref b1, .ref b2, .double mi, .int (nI tk)])), (b0, aD q 16 (fun i => FP.i2d (z0 i))), (b1, aD q 16 (fun i => FP.i2d (z1 i)))]) hD hS hA [2, 3, 0] rfl
  refine va_calldD hu1 (va_runV_D (As := [.ref b0, .ref b1]) (rest := []) ⟨hx, hb, hml, hown, (dr_words hts du1)⟩ (m_X1_sum2 l G q H.size o1 a1 ax b0 b1 b2 tk b0 b1 mi (fun i => FP.i2d (z0 i)) (fun i => FP.i2d (z1 i)) htk) (cwV 2 (dr_words hts du1) gX1_batchWeight_X1_sumOfProducts rfl rfl rfl (by decide +kernel) ⟨Nat.le_of_ble_eq_true rfl, Nat.le_of_ble_eq_true rfl⟩) ⟨preW_blind, (va_recv hK hPc (ci := 1) (q0 := 0) rfl rfl), preW_start (s := s.setDrawn du1) hPc hK hDc (hNF.drawn du1)⟩ rfl rfl hl.1 rfl (lv_room (Nat.le_of_ble_eq_true rfl)) dX1_batchWeight_22 ⟨(Nat.zero_le _), (Nat.zero_le _)⟩) hS (fun q _ h => hFc q h) hFc (fun wb u9 t9 H1 locs ht9 hv9 hw hB9 hz9 hk9 hS du2 hu2 => ?_)
  obtain ⟨⟩ := u9
  obtain ⟨hP1, hD1⟩ := hB9
  rw [ht9] at hP1
  obtain ⟨hP, hD⟩ := va_join (wr := [(b2, aD q 16 fm)]) (w1 := [(o1, .inr (1, [.ref a1, .ref ax, .ref b0, .ref b1, .ref b2, .double mi, .int (nI tk)])), (b0, aD q 16 (fun i => FP.i2d (z0 i))), (b1, aD q 16 (fun i => FP.i2d (z1 i)))]) hP hD [2, 3, 0] [1] rfl rfl (by decide) (by decide) hk9 hFc hP1 hD1
  generalize H1 = H at hP hS ⊢
  have hP : va_P G vwCl [(b2, aD q 16 fm), (o1, .inr (1, [.ref a1, .ref ax, .ref b0, .ref b1, .ref b2, .double mi, .int (nI tk)])), (b0, aD q 16 (fun i => FP.i2d (z0 i))), (b1, aD q 16 (fun i => FP.i2d (z1 i)))] H := hP
  have hD : va_D A [(b2, aD q 16 fm), (o1, .inr (1, [.ref a1, .ref ax, .ref b0, .ref b1, .ref b2, .double mi, .int (nI tk)])), (b0, aD q 16 (fun i => FP.i2d (z0 i))), (b1, aD q 16 (fun i => FP.i2d (z1 i)))] := hD
  have hwb := hw
  refine lv_dstore (lv' := [(4, .double wb), (2, .double wa), (0, .ref o1), (1, .int tp)]) hx hb dX1_batchWeight_25 hl (by decide) rfl (fun ls hl => ?_)
  refine lv_aload_n hx hb dX1_batchWeight_27 rfl (lv_at hl 2 rfl) ?_
  refine lv_aload_n hx hb dX1_batchWeight_28 rfl (lv_at hl 2 rfl) ?_
  refine va_get (D := G) (ci := 1) (v := .ref b1) (C := RX1) (T := TX1) (N := 7) hx hb (dr_words hts du2) in_X1_batchWeight_X1 hown hK hP 1 rfl rfl 3 (by decide) (dr_words hts du2 (.fieldLink RX1 22 "EchoBench$Samples" "latestX1" "[D") (by decide +kernel)) (fun _ h9 => h9) rfl dX1_batchWeight_29 ?_
  refine lv_aload_n hx hb dX1_batchWeight_32 rfl (lv_at hl 2 rfl) ?_
  refine va_get (D := G) (ci := 1) (v := .ref b1) (C := RX1) (T := TX1) (N := 7) hx hb (dr_words hts du2) in_X1_batchWeight_X1 hown hK hP 1 rfl rfl 3 (by decide) (dr_words hts du2 (.fieldLink RX1 22 "EchoBench$Samples" "latestX1" "[D") (by decide +kernel)) (fun _ h9 => h9) rfl dX1_batchWeight_33 ?_
  have hPc := hP.sub (ws' := [(o1, .inr (1, [.ref a1, .ref ax, .ref b0, .ref b1, .ref b2, .double mi, .int (nI tk)])), (b1, aD q 16 (fun i => FP.i2d (z1 i)))]) [1, 3] rfl
  have hDc := hD.sub (ws' := [(o1, .inr (1, [.ref a1, .ref ax, .ref b0, .ref b1, .ref b2, .double mi, .int (nI tk)])), (b1, aD q 16 (fun i => FP.i2d (z1 i)))]) [1, 3] (by decide) rfl
  have hFc := va_free (wc := [(o1, .inr (1, [.ref a1, .ref ax, .ref b0, .ref b1, .ref b2, .double mi, .int (nI tk)])), (b1, aD q 16 (fun i => FP.i2d (z1 i)))]) hD hS hA [1, 3] rfl
  refine va_calldD hu2 (va_runV_D (As := [.ref b1, .ref b1]) (rest := []) ⟨hx, hb, hml, hown, (dr_words hts du2)⟩ (m_X1_sum1 l G q H.size o1 a1 ax b0 b1 b2 tk b1 mi (fun i => FP.i2d (z1 i)) htk) (cwV 2 (dr_words hts du2) gX1_batchWeight_X1_sumOfProducts rfl rfl rfl (by decide +kernel) ⟨Nat.le_of_ble_eq_true rfl, Nat.le_of_ble_eq_true rfl⟩) ⟨preW_blind, (va_recv hK hPc (ci := 1) (q0 := 0) rfl rfl), preW_start (s := s.setDrawn du2) hPc hK hDc (hNF.drawn du2)⟩ rfl rfl hl.1 rfl (lv_room (Nat.le_of_ble_eq_true rfl)) dX1_batchWeight_36 ⟨(Nat.zero_le _), (Nat.zero_le _)⟩) hS (fun q _ h => hFc q h) hFc (fun wc u9 t9 H1 locs ht9 hv9 hw hB9 hz9 hk9 hS du3 hu3 => ?_)
  obtain ⟨⟩ := u9
  obtain ⟨hP1, hD1⟩ := hB9
  rw [ht9] at hP1
  obtain ⟨hP, hD⟩ := va_join (wr := [(b2, aD q 16 fm), (b0, aD q 16 (fun i => FP.i2d (z0 i)))]) (w1 := [(o1, .inr (1, [.ref a1, .ref ax, .ref b0, .ref b1, .ref b2, .double mi, .int (nI tk)])), (b1, aD q 16 (fun i => FP.i2d (z1 i)))]) hP hD [1, 3] [0, 2] rfl rfl (by decide) (by decide) hk9 hFc hP1 hD1
  generalize H1 = H at hP hS ⊢
  have hP : va_P G vwCl [(b2, aD q 16 fm), (b0, aD q 16 (fun i => FP.i2d (z0 i))), (o1, .inr (1, [.ref a1, .ref ax, .ref b0, .ref b1, .ref b2, .double mi, .int (nI tk)])), (b1, aD q 16 (fun i => FP.i2d (z1 i)))] H := hP
  have hD : va_D A [(b2, aD q 16 fm), (b0, aD q 16 (fun i => FP.i2d (z0 i))), (o1, .inr (1, [.ref a1, .ref ax, .ref b0, .ref b1, .ref b2, .double mi, .int (nI tk)])), (b1, aD q 16 (fun i => FP.i2d (z1 i)))] := hD
  have hwc := hw
  refine lv_dstore (lv' := [(6, .double wc), (4, .double wb), (2, .double wa), (0, .ref o1), (1, .int tp)]) hx hb dX1_batchWeight_39 hl (by decide) rfl (fun ls hl => ?_)
  refine lv_aload_n hx hb dX1_batchWeight_41 rfl (lv_at hl 3 rfl) ?_
  refine lv_aload_n hx hb dX1_batchWeight_42 rfl (lv_at hl 3 rfl) ?_
  refine va_get (D := G) (ci := 1) (v := .ref b0) (C := RX1) (T := TX1) (N := 7) hx hb (dr_words hts du3) in_X1_batchWeight_X1 hown hK hP 2 rfl rfl 2 (by decide) (dr_words hts du3 (.fieldLink RX1 19 "EchoBench$Samples" "latestX0" "[D") (by decide +kernel)) (fun _ h9 => h9) rfl dX1_batchWeight_43 ?_
  refine lv_aload_n hx hb dX1_batchWeight_46 rfl (lv_at hl 3 rfl) ?_
  refine va_get (D := G) (ci := 1) (v := .ref b2) (C := RX1) (T := TX1) (N := 7) hx hb (dr_words hts du3) in_X1_batchWeight_X1 hown hK hP 2 rfl rfl 4 (by decide) (dr_words hts du3 (.fieldLink RX1 25 "EchoBench$Samples" "latestMicrophone" "[D") (by decide +kernel)) (fun _ h9 => h9) rfl dX1_batchWeight_47 ?_
  have hPc := hP.sub (ws' := [(o1, .inr (1, [.ref a1, .ref ax, .ref b0, .ref b1, .ref b2, .double mi, .int (nI tk)])), (b0, aD q 16 (fun i => FP.i2d (z0 i))), (b2, aD q 16 fm)]) [2, 1, 0] rfl
  have hDc := hD.sub (ws' := [(o1, .inr (1, [.ref a1, .ref ax, .ref b0, .ref b1, .ref b2, .double mi, .int (nI tk)])), (b0, aD q 16 (fun i => FP.i2d (z0 i))), (b2, aD q 16 fm)]) [2, 1, 0] (by decide) rfl
  have hFc := va_free (wc := [(o1, .inr (1, [.ref a1, .ref ax, .ref b0, .ref b1, .ref b2, .double mi, .int (nI tk)])), (b0, aD q 16 (fun i => FP.i2d (z0 i))), (b2, aD q 16 fm)]) hD hS hA [2, 1, 0] rfl
  refine va_calldD hu3 (va_runV_D (As := [.ref b0, .ref b2]) (rest := []) ⟨hx, hb, hml, hown, (dr_words hts du3)⟩ (m_X1_sum2 l G q H.size o1 a1 ax b0 b1 b2 tk b0 b2 mi (fun i => FP.i2d (z0 i)) fm htk) (cwV 2 (dr_words hts du3) gX1_batchWeight_X1_sumOfProducts rfl rfl rfl (by decide +kernel) ⟨Nat.le_of_ble_eq_true rfl, Nat.le_of_ble_eq_true rfl⟩) ⟨preW_blind, (va_recv hK hPc (ci := 1) (q0 := 0) rfl rfl), preW_start (s := s.setDrawn du3) hPc hK hDc (hNF.drawn du3)⟩ rfl rfl hl.1 rfl (lv_room (Nat.le_of_ble_eq_true rfl)) dX1_batchWeight_50 ⟨(Nat.zero_le _), (Nat.zero_le _)⟩) hS (fun q _ h => hFc q h) hFc (fun wp u9 t9 H1 locs ht9 hv9 hw hB9 hz9 hk9 hS du4 hu4 => ?_)
  obtain ⟨⟩ := u9
  obtain ⟨hP1, hD1⟩ := hB9
  rw [ht9] at hP1
  obtain ⟨hP, hD⟩ := va_join (wr := [(b1, aD q 16 (fun i => FP.i2d (z1 i)))]) (w1 := [(o1, .inr (1, [.ref a1, .ref ax, .ref b0, .ref b1, .ref b2, .double mi, .int (nI tk)])), (b0, aD q 16 (fun i => FP.i2d (z0 i))), (b2, aD q 16 fm)]) hP hD [2, 1, 0] [3] rfl rfl (by decide) (by decide) hk9 hFc hP1 hD1
  generalize H1 = H at hP hS ⊢
  have hP : va_P G vwCl [(b1, aD q 16 (fun i => FP.i2d (z1 i))), (o1, .inr (1, [.ref a1, .ref ax, .ref b0, .ref b1, .ref b2, .double mi, .int (nI tk)])), (b0, aD q 16 (fun i => FP.i2d (z0 i))), (b2, aD q 16 fm)] H := hP
  have hD : va_D A [(b1, aD q 16 (fun i => FP.i2d (z1 i))), (o1, .inr (1, [.ref a1, .ref ax, .ref b0, .ref b1, .ref b2, .double mi, .int (nI tk)])), (b0, aD q 16 (fun i => FP.i2d (z0 i))), (b2, aD q 16 fm)] := hD
  have hwp := hw
  refine lv_dstore (lv' := [(8, .double wp), (6, .double wc), (4, .double wb), (2, .double wa), (0, .ref o1), (1, .int tp)]) hx hb dX1_batchWeight_53 hl (by decide) rfl (fun ls hl => ?_)
  refine lv_aload_n hx hb dX1_batchWeight_55 rfl (lv_at hl 4 rfl) ?_
  refine lv_aload_n hx hb dX1_batchWeight_56 rfl (lv_at hl 4 rfl) ?_
  refine va_get (D := G) (ci := 1) (v := .ref b1) (C := RX1) (T := TX1) (N := 7) hx hb (dr_words hts du4) in_X1_batchWeight_X1 hown hK hP 1 rfl rfl 3 (by decide) (dr_words hts du4 (.fieldLink RX1 22 "EchoBench$Samples" "latestX1" "[D") (by decide +kernel)) (fun _ h9 => h9) rfl dX1_batchWeight_57 ?_
  refine lv_aload_n hx hb dX1_batchWeight_60 rfl (lv_at hl 4 rfl) ?_
  refine va_get (D := G) (ci := 1) (v := .ref b2) (C := RX1) (T := TX1) (N := 7) hx hb (dr_words hts du4) in_X1_batchWeight_X1 hown hK hP 1 rfl rfl 4 (by decide) (dr_words hts du4 (.fieldLink RX1 25 "EchoBench$Samples" "latestMicrophone" "[D") (by decide +kernel)) (fun _ h9 => h9) rfl dX1_batchWeight_61 ?_
  have hPc := hP.sub (ws' := [(o1, .inr (1, [.ref a1, .ref ax, .ref b0, .ref b1, .ref b2, .double mi, .int (nI tk)])), (b1, aD q 16 (fun i => FP.i2d (z1 i))), (b2, aD q 16 fm)]) [1, 0, 3] rfl
  have hDc := hD.sub (ws' := [(o1, .inr (1, [.ref a1, .ref ax, .ref b0, .ref b1, .ref b2, .double mi, .int (nI tk)])), (b1, aD q 16 (fun i => FP.i2d (z1 i))), (b2, aD q 16 fm)]) [1, 0, 3] (by decide) rfl
  have hFc := va_free (wc := [(o1, .inr (1, [.ref a1, .ref ax, .ref b0, .ref b1, .ref b2, .double mi, .int (nI tk)])), (b1, aD q 16 (fun i => FP.i2d (z1 i))), (b2, aD q 16 fm)]) hD hS hA [1, 0, 3] rfl
  refine va_calldD hu4 (va_runV_D (As := [.ref b1, .ref b2]) (rest := []) ⟨hx, hb, hml, hown, (dr_words hts du4)⟩ (m_X1_sum2 l G q H.size o1 a1 ax b0 b1 b2 tk b1 b2 mi (fun i => FP.i2d (z1 i)) fm htk) (cwV 2 (dr_words hts du4) gX1_batchWeight_X1_sumOfProducts rfl rfl rfl (by decide +kernel) ⟨Nat.le_of_ble_eq_true rfl, Nat.le_of_ble_eq_true rfl⟩) ⟨preW_blind, (va_recv hK hPc (ci := 1) (q0 := 0) rfl rfl), preW_start (s := s.setDrawn du4) hPc hK hDc (hNF.drawn du4)⟩ rfl rfl hl.1 rfl (lv_room (Nat.le_of_ble_eq_true rfl)) dX1_batchWeight_64 ⟨(Nat.zero_le _), (Nat.zero_le _)⟩) hS (fun q _ h => hFc q h) hFc (fun wq u9 t9 H1 locs ht9 hv9 hw hB9 hz9 hk9 hS du5 hu5 => ?_)
  obtain ⟨⟩ := u9
  obtain ⟨hP1, hD1⟩ := hB9
  rw [ht9] at hP1
  obtain ⟨hP, hD⟩ := va_join (wr := [(b0, aD q 16 (fun i => FP.i2d (z0 i)))]) (w1 := [(o1, .inr (1, [.ref a1, .ref ax, .ref b0, .ref b1, .ref b2, .double mi, .int (nI tk)])), (b1, aD q 16 (fun i => FP.i2d (z1 i))), (b2, aD q 16 fm)]) hP hD [1, 0, 3] [2] rfl rfl (by decide) (by decide) hk9 hFc hP1 hD1
  generalize H1 = H at hP hS ⊢
  have hP : va_P G vwCl [(b0, aD q 16 (fun i => FP.i2d (z0 i))), (o1, .inr (1, [.ref a1, .ref ax, .ref b0, .ref b1, .ref b2, .double mi, .int (nI tk)])), (b1, aD q 16 (fun i => FP.i2d (z1 i))), (b2, aD q 16 fm)] H := hP
  have hD : va_D A [(b0, aD q 16 (fun i => FP.i2d (z0 i))), (o1, .inr (1, [.ref a1, .ref ax, .ref b0, .ref b1, .ref b2, .double mi, .int (nI tk)])), (b1, aD q 16 (fun i => FP.i2d (z1 i))), (b2, aD q 16 fm)] := hD
  have hwq := hw
  refine lv_dstore (lv' := [(10, .double wq), (8, .double wp), (6, .double wc), (4, .double wb), (2, .double wa), (0, .ref o1), (1, .int tp)]) hx hb dX1_batchWeight_67 hl (by decide) rfl (fun ls hl => ?_)
  refine lv_dload_n hx hb dX1_batchWeight_69 rfl (lv_at hl 4 rfl) ?_
  refine lv_dload hx hb dX1_batchWeight_70 (lv_at hl 2 rfl) ?_
  refine lv_dmul_any hu5 lw_bits hx hb dX1_batchWeight_72 (fun r6 dr6 ar6 hr6 => ?_)
  have er6 := dV_mul ar6
  refine lv_dload hx hb dX1_batchWeight_73 (lv_at hl 3 rfl) ?_
  refine lv_dload hx hb dX1_batchWeight_75 (lv_at hl 3 rfl) ?_
  refine lv_dmul_any hr6 lw_bits hx hb dX1_batchWeight_77 (fun r7 dr7 ar7 hr7 => ?_)
  have er7 := dV_mul ar7
  refine lv_dsub_any hr7 lw_bits hx hb dX1_batchWeight_78 (fun r8 dr8 ar8 hr8 => ?_)
  have er8 := dV_sub ar8
  refine lv_dstore (lv' := [(12, .double r8), (10, .double wq), (8, .double wp), (6, .double wc), (4, .double wb), (2, .double wa), (0, .ref o1), (1, .int tp)]) hx hb dX1_batchWeight_79 hl (by decide) rfl (fun ls hl => ?_)
  refine lv_dload hx hb dX1_batchWeight_81 (lv_at hl 0 rfl) ?_
  have hPc := hP.sub (ws' := []) [] rfl
  have hDc := hD.sub (ws' := []) [] (by decide) rfl
  have hFc := va_free (wc := []) hD hS hA [] rfl
  refine va_calld (va_runSN (As := [.double r8]) (rest := []) ⟨hx, hb, hml, hown, (dr_words hts dr8)⟩ (m_X3_eitherWay l G q H.size r8) ⟨va_cnB 1 (dr_words hts dr8) gX1_batchWeight_X3_eitherWay_n52 rfl rfl rfl ((hNF.drawn dr8).1 (.methodLinkNest RX1 52 yX3_eitherWay "EchoBench") (by decide +kernel)) (dr_words hts dr8 (.initialized RX3) (by decide +kernel)) (by decide +kernel) ⟨Nat.le_of_ble_eq_true rfl, Nat.le_of_ble_eq_true rfl⟩, (dr_words hts dr8 (.static yX3_eitherWay) (by decide +kernel)), trivial⟩ ⟨preW_blind, preW_start (s := s.setDrawn dr8) hPc hK hDc (hNF.drawn dr8)⟩ rfl rfl hl.1 rfl (lv_room (Nat.le_of_ble_eq_true rfl)) dX1_batchWeight_83 ⟨(Nat.zero_le _), (Nat.zero_le _)⟩) hS (fun q _ h => hFc q h) hFc (fun we u9 t9 H1 locs ht9 hv9 hw hB9 hz9 hk9 hS => ?_)
  obtain ⟨⟩ := u9
  obtain ⟨hP1, hD1⟩ := hB9
  rw [ht9] at hP1
  obtain ⟨hP, hD⟩ := va_join (wr := [(b0, aD q 16 (fun i => FP.i2d (z0 i))), (o1, .inr (1, [.ref a1, .ref ax, .ref b0, .ref b1, .ref b2, .double mi, .int (nI tk)])), (b1, aD q 16 (fun i => FP.i2d (z1 i))), (b2, aD q 16 fm)]) (w1 := []) hP hD [] [0, 1, 2, 3] rfl rfl (by decide) (by decide) hk9 hFc hP1 hD1
  generalize H1 = H at hP hS ⊢
  have hP : va_P G vwCl [(b0, aD q 16 (fun i => FP.i2d (z0 i))), (o1, .inr (1, [.ref a1, .ref ax, .ref b0, .ref b1, .ref b2, .double mi, .int (nI tk)])), (b1, aD q 16 (fun i => FP.i2d (z1 i))), (b2, aD q 16 fm)] H := hP
  have hD : va_D A [(b0, aD q 16 (fun i => FP.i2d (z0 i))), (o1, .inr (1, [.ref a1, .ref ax, .ref b0, .ref b1, .ref b2, .double mi, .int (nI tk)])), (b1, aD q 16 (fun i => FP.i2d (z1 i))), (b2, aD q 16 fm)] := hD
  have hwe := hw
  have hz : dV r8 = sBz tk (fun k => fI (z0 k)) (fun k => fI (z1 k)) := by rw [er8, er7, er6, hwa, hwb, hwc]; rfl
  try dsimp only at hwe
  rw [hz] at hwe
  refine lv_ldc2d hx hb hown (dr_words hts dr8 (.constantDouble RX1 56 4602678819172646912) (by decide +kernel)) dX1_batchWeight_86 ?_
  refine lv_dcmp hx hb dX1_batchWeight_89 ?_
  refine lv_if_ge (tgt := 95) hx hb dX1_batchWeight_90 (by decide) (fun c1 => ?_) (fun c1 => ?_)
  · skip
    rw [cg_ge, dcmp_fO, hwe] at c1
    refine lv_iload_n hx hb dX1_batchWeight_95 rfl (lv_at hl 7 rfl) ?_
    refine lv_if_ne (tgt := 116) hx hb dX1_batchWeight_96 (by decide) (fun c2 => ?_) (fun c2 => ?_)
    · skip
      refine lv_dload hx hb dX1_batchWeight_116 (lv_at hl 1 rfl) ?_
      refine lv_dload_n hx hb dX1_batchWeight_118 rfl (lv_at hl 5 rfl) ?_
      refine lv_dmul_any hr8 lw_bits hx hb dX1_batchWeight_119 (fun r10 dr10 ar10 hr10 => ?_)
      have er10 := dV_mul ar10
      refine lv_dload hx hb dX1_batchWeight_120 (lv_at hl 2 rfl) ?_
      refine lv_dload hx hb dX1_batchWeight_122 (lv_at hl 4 rfl) ?_
      refine lv_dmul_any hr10 lw_bits hx hb dX1_batchWeight_124 (fun r11 dr11 ar11 hr11 => ?_)
      have er11 := dV_mul ar11
      refine lv_dsub_any hr11 lw_bits hx hb dX1_batchWeight_125 (fun r12 dr12 ar12 hr12 => ?_)
      have er12 := dV_sub ar12
      refine lv_dload hx hb dX1_batchWeight_126 (lv_at hl 0 rfl) ?_
      refine lv_ddiv_any hr12 lw_bits hx hb dX1_batchWeight_128 (fun r13 dr13 ar13 hr13 => ?_)
      have er13 := dV_div ar13
      have hP := hP.sub (ws' := [(o1, .inr (1, [.ref a1, .ref ax, .ref b0, .ref b1, .ref b2, .double mi, .int (nI tk)])), (b0, aD q 16 (fun i => FP.i2d (z0 i))), (b1, aD q 16 (fun i => FP.i2d (z1 i))), (b2, aD q 16 fm)]) [1, 0, 2, 3] rfl
      have hD := hD.sub (ws' := [(o1, .inr (1, [.ref a1, .ref ax, .ref b0, .ref b1, .ref b2, .double mi, .int (nI tk)])), (b0, aD q 16 (fun i => FP.i2d (z0 i))), (b1, aD q 16 (fun i => FP.i2d (z1 i))), (b2, aD q 16 fm)]) [1, 0, 2, 3] (by decide) rfl
      have hP9 := hP
      have hD9 := hD
      refine W.endD hr13 ?_
      exact W.dret (v := r13) hx hb hr (fun t ht hW => ⟨⟨r13, (), rfl, by dsimp only; unfold sBatch; rw [if_neg c1, if_neg c2, er13, er12, er11, er10, hz, hwa, hwb, hwp, hwq]; rfl, by rw [ht]; exact hP9, hD9⟩, hS.F ht⟩) hS.2.2 dX1_batchWeight_129
    · skip
      refine lv_dload hx hb dX1_batchWeight_99 (lv_at hl 2 rfl) ?_
      refine lv_dload hx hb dX1_batchWeight_101 (lv_at hl 3 rfl) ?_
      refine lv_dmul_any hr8 lw_bits hx hb dX1_batchWeight_103 (fun r14 dr14 ar14 hr14 => ?_)
      have er14 := dV_mul ar14
      refine lv_dload hx hb dX1_batchWeight_104 (lv_at hl 1 rfl) ?_
      refine lv_dload hx hb dX1_batchWeight_106 (lv_at hl 4 rfl) ?_
      refine lv_dmul_any hr14 lw_bits hx hb dX1_batchWeight_108 (fun r15 dr15 ar15 hr15 => ?_)
      have er15 := dV_mul ar15
      refine lv_dsub_any hr15 lw_bits hx hb dX1_batchWeight_109 (fun r16 dr16 ar16 hr16 => ?_)
      have er16 := dV_sub ar16
      refine lv_dload hx hb dX1_batchWeight_110 (lv_at hl 0 rfl) ?_
      refine lv_ddiv_any hr16 lw_bits hx hb dX1_batchWeight_112 (fun r17 dr17 ar17 hr17 => ?_)
      have er17 := dV_div ar17
      refine lv_goto (tgt := 129) hx hb dX1_batchWeight_113 (by decide) ?_
      have hP := hP.sub (ws' := [(o1, .inr (1, [.ref a1, .ref ax, .ref b0, .ref b1, .ref b2, .double mi, .int (nI tk)])), (b0, aD q 16 (fun i => FP.i2d (z0 i))), (b1, aD q 16 (fun i => FP.i2d (z1 i))), (b2, aD q 16 fm)]) [1, 0, 2, 3] rfl
      have hD := hD.sub (ws' := [(o1, .inr (1, [.ref a1, .ref ax, .ref b0, .ref b1, .ref b2, .double mi, .int (nI tk)])), (b0, aD q 16 (fun i => FP.i2d (z0 i))), (b1, aD q 16 (fun i => FP.i2d (z1 i))), (b2, aD q 16 fm)]) [1, 0, 2, 3] (by decide) rfl
      have hP9 := hP
      have hD9 := hD
      refine W.endD hr17 ?_
      exact W.dret (v := r17) hx hb hr (fun t ht hW => ⟨⟨r17, (), rfl, by dsimp only; unfold sBatch; rw [if_neg c1, if_pos c2, er17, er16, er15, er14, hz, hwb, hwc, hwp, hwq]; rfl, by rw [ht]; exact hP9, hD9⟩, hS.F ht⟩) hS.2.2 dX1_batchWeight_129
  · skip
    rw [cg_ge, dcmp_fO, hwe, Classical.not_not] at c1
    refine lv_dc0 hx hb dX1_batchWeight_93 ?_
    have hP := hP.sub (ws' := [(o1, .inr (1, [.ref a1, .ref ax, .ref b0, .ref b1, .ref b2, .double mi, .int (nI tk)])), (b0, aD q 16 (fun i => FP.i2d (z0 i))), (b1, aD q 16 (fun i => FP.i2d (z1 i))), (b2, aD q 16 fm)]) [1, 0, 2, 3] rfl
    have hD := hD.sub (ws' := [(o1, .inr (1, [.ref a1, .ref ax, .ref b0, .ref b1, .ref b2, .double mi, .int (nI tk)])), (b0, aD q 16 (fun i => FP.i2d (z0 i))), (b1, aD q 16 (fun i => FP.i2d (z1 i))), (b2, aD q 16 fm)]) [1, 0, 2, 3] (by decide) rfl
    have hP9 := hP
    have hD9 := hD
    refine W.endD hr8 ?_
    exact W.dret (v := 0) hx hb hr (fun t ht hW => ⟨⟨0, (), rfl, by dsimp only; unfold sBatch; rw [if_pos c1], by rw [ht]; exact hP9, hD9⟩, hS.F ht⟩) hS.2.2 dX1_batchWeight_94

theorem in_X0_isLoud_X0 : ∀ w ∈ wsX00, w ∈ wsX0_isLoud := by decide +kernel
set_option maxHeartbeats 4000000 in
set_option maxRecDepth 100000 in
/-- isLoud -/
theorem m_X0_isLoud (l : Launch) (G : va_G) (q : Nat → ClassId) (sz : Nat) (o0 aw ae ax n : Nat) (sq : Value) (kd th wa ta lf ce cd rs : Int32) (ou er : UInt64) (fw : Nat → UInt64) (xi : Nat → Int32) (mi : UInt64) (hn : n ≤ 8) : MetD lw_cs l yX0_isLoud wsX0_isLoud ({ frames := 1, cells := 0, slots := 0, locals := 21 } : Jvm.Room) (PreW G q [.ref o0, .ref ax, .double mi] [(o0, .inr (0, [.int kd, .ref aw, .ref ae, sq, .int th, .int wa, .int ta, .int lf, .double ou, .double er, .int ce, .int cd, .int rs])), (aw, aD q n fw), (ax, aD q 8 (fun k => FP.i2d (xi k)))] sz) (va_Qi (fun (r : Int32) (_ : Unit) => r = if sLoud wa n xi (dV mi) then 1 else 0) (fun (_ : Unit) t => EndA G (va_A [(o0, .inr (0, [.int kd, .ref aw, .ref ae, sq, .int th, .int wa, .int ta, .int lf, .double ou, .double er, .int ce, .int cd, .int rs])), (aw, aD q n fw), (ax, aD q 8 (fun k => FP.i2d (xi k)))] sz) [(o0, .inr (0, [.int kd, .ref aw, .ref ae, sq, .int th, .int wa, .int ta, .int lf, .double ou, .double er, .int ce, .int cd, .int rs])), (aw, aD q n fw), (ax, aD q 8 (fun k => FP.i2d (xi k)))] t) (va_A [(o0, .inr (0, [.int kd, .ref aw, .ref ae, sq, .int th, .int wa, .int ta, .int lf, .double ou, .double er, .int ce, .int cd, .int rs])), (aw, aD q n fw), (ax, aD q 8 (fun k => FP.i2d (xi k)))] sz)) 0 0 (va_A [(o0, .inr (0, [.int kd, .ref aw, .ref ae, sq, .int th, .int wa, .int ta, .int lf, .double ou, .double er, .int ce, .int cd, .int rs])), (aw, aD q n fw), (ax, aD q 8 (fun k => FP.i2d (xi k)))] sz) := by
  refine MetD.ofW (cc := cX0_isLoud) (maxL := 9) (ret := (some .boolean)) (by decide +kernel) rfl ?_
  intro p e s m args below meth c s₁ B hml hv hd0
  obtain ⟨rfl, hsz, hP, hK, hD0, hNF⟩ := hv
  have hx := B.exec
  have hb := B.bytes
  have hr := B.returns
  have hts := atoms_spec (ws := wsX0_isLoud) B.pre
  have hown : s.vm.findClass RX0 = some m.cls := findClass_of_methodNamed B.named
  have hlocks := B.notSynchronized
  subst hsz
  have hD := hD0.self (sz := s.heap.size)
  generalize hAe : va_A [(o0, .inr (0, [.int kd, .ref aw, .ref ae, sq, .int th, .int wa, .int ta, .int lf, .double ou, .double er, .int ce, .int cd, .int rs])), (aw, aD q n fw), (ax, aD q 8 (fun k => FP.i2d (xi k)))] s.heap.size = A at hD ⊢
  have hA : ∀ q : Nat, s.heap.size ≤ q → A q := fun q h => by rw [← hAe]; exact Or.inr h
  have hS : va_S A s.heap s.heap [] := va_S.rf
  have hP : va_P G vwCl [(o0, .inr (0, [.int kd, .ref aw, .ref ae, sq, .int th, .int wa, .int ta, .int lf, .double ou, .double er, .int ce, .int cd, .int rs])), (aw, aD q n fw), (ax, aD q 8 (fun k => FP.i2d (xi k)))] s.heap := hP
  have hl := lv_entry ([.ref o0, .ref ax, .double mi]) (n := 9) (Nat.le_of_ble_eq_true rfl)
  rw [lg_entry_eq]
  generalize (lg_sl ([.ref o0, .ref ax, .double mi]) ++ List.replicate (9 - (lg_sl ([.ref o0, .ref ax, .double mi])).length) Slot.unset).toArray = ls at hl ⊢
  have hl : lv_has ls 9 [(0, .ref o0), (1, .ref ax), (2, .double mi)] := hl
  refine lv_aload_n hx hb dX0_isLoud_0 rfl (lv_at hl 0 rfl) ?_
  refine va_get (D := G) (ci := 0) (v := .int wa) (C := RX0) (T := TX0) (N := 13) hx hb (dr_words hts s.drawn) in_X0_isLoud_X0 hown hK hP 0 rfl rfl 5 (by decide) (dr_words hts s.drawn (.fieldLink RX0 90 "EchoBench$Filter" "watchHundredths" "I") (by decide +kernel)) (fun _ h9 => h9) rfl dX0_isLoud_1 ?_
  refine lv_if_gt (tgt := 9) hx hb dX0_isLoud_4 (by decide) (fun c1 => ?_) (fun c1 => ?_)
  · skip
    have LOOP : ∀ (k : Nat) (j : Nat) (a : UInt64), j + k = n → dV a = sGr xi j → ∀ (H : Heap) (locs : List Loc) (d0 : Drawn), s.drawn.sameBut d0 lw_cs → va_P G vwCl [(o0, .inr (0, [.int kd, .ref aw, .ref ae, sq, .int th, .int wa, .int ta, .int lf, .double ou, .double er, .int ce, .int cd, .int rs])), (aw, aD q n fw), (ax, aD q 8 (fun k => FP.i2d (xi k)))] H → va_D A [(o0, .inr (0, [.int kd, .ref aw, .ref ae, sq, .int th, .int wa, .int ta, .int lf, .double ou, .double er, .int ce, .int cd, .int rs])), (aw, aD q n fw), (ax, aD q 8 (fun k => FP.i2d (xi k)))] → va_S A s.heap H locs → ∀ (ls : Array Slot), lv_has ls 9 [(0, .ref o0), (1, .ref ax), (2, .double mi), (4, .double a), (6, .int (nI j))] → W p l e (headSpec wsX0_isLoud ({ frames := 1, cells := 0, slots := 0, locals := 21 } : Jvm.Room)).room (s.setDrawn d0) m #[.ref o0, .ref ax, .double mi] below meth c H locs 0 0 (MQD lw_cs below (va_Qi (fun (r : Int32) (_ : Unit) => r = if sLoud wa n xi (dV mi) then 1 else 0) (fun (_ : Unit) t => EndA G A [(o0, .inr (0, [.int kd, .ref aw, .ref ae, sq, .int th, .int wa, .int ta, .int lf, .double ou, .double er, .int ce, .int cd, .int rs])), (aw, aD q n fw), (ax, aD q 8 (fun k => FP.i2d (xi k)))] t) A) #[.ref o0, .ref ax, .double mi] s 0 0 A) (F0 m 15 ls []) := by
      intro k
      induction k with
      | zero =>
        intro j a hj ha H locs d0 hd0 hP hD hS ls hl
        refine lv_iload hx hb dX0_isLoud_15 (lv_at hl 4 rfl) ?_
        refine lv_aload_n hx hb dX0_isLoud_17 rfl (lv_at hl 0 rfl) ?_
        refine va_get (D := G) (ci := 0) (v := .ref aw) (C := RX0) (T := TX0) (N := 13) hx hb (dr_words hts d0) in_X0_isLoud_X0 hown hK hP 0 rfl rfl 1 (by decide) (dr_words hts d0 (.fieldLink RX0 15 "EchoBench$Filter" "weights" "[D") (by decide +kernel)) (fun _ h9 => h9) rfl dX0_isLoud_18 ?_
        refine va_alen (s := s.setDrawn d0) (D := G) hx hb hK hP 1 1 rfl rfl (v := (nI n)) rfl dX0_isLoud_21 ?_
        refine lv_icmp_ge (tgt := 64) hx hb dX0_isLoud_22 (by decide) (fun _ => ?_) (fun h => absurd (nI_le (by omega) (by omega)) h)
        refine lv_dload_n hx hb dX0_isLoud_64 rfl (lv_at hl 2 rfl) ?_
        have hPc := hP.sub (ws' := []) [] rfl
        have hDc := hD.sub (ws' := []) [] (by decide) rfl
        have hFc := va_free (wc := []) hD hS hA [] rfl
        refine va_calld (va_runSN (As := [.double mi]) (rest := []) ⟨hx, hb, hml, hown, (dr_words hts d0)⟩ (m_X3_eitherWay l G q H.size mi) ⟨va_cnB 1 (dr_words hts d0) gX0_isLoud_X3_eitherWay_n93 rfl rfl rfl ((hNF.drawn d0).1 (.methodLinkNest RX0 93 yX3_eitherWay "EchoBench") (by decide +kernel)) (dr_words hts d0 (.initialized RX3) (by decide +kernel)) (by decide +kernel) ⟨Nat.le_of_ble_eq_true rfl, Nat.le_of_ble_eq_true rfl⟩, (dr_words hts d0 (.static yX3_eitherWay) (by decide +kernel)), trivial⟩ ⟨preW_blind, preW_start (s := s.setDrawn d0) hPc hK hDc (hNF.drawn d0)⟩ rfl rfl hl.1 rfl (lv_room (Nat.le_of_ble_eq_true rfl)) dX0_isLoud_65 ⟨(Nat.zero_le _), (Nat.zero_le _)⟩) hS (fun q _ h => hFc q h) hFc (fun we u9 t9 H1 locs ht9 hv9 hw hB9 hz9 hk9 hS => ?_)
        obtain ⟨⟩ := u9
        obtain ⟨hP1, hD1⟩ := hB9
        rw [ht9] at hP1
        obtain ⟨hP, hD⟩ := va_join (wr := [(o0, .inr (0, [.int kd, .ref aw, .ref ae, sq, .int th, .int wa, .int ta, .int lf, .double ou, .double er, .int ce, .int cd, .int rs])), (aw, aD q n fw), (ax, aD q 8 (fun k => FP.i2d (xi k)))]) (w1 := []) hP hD [] [0, 1, 2] rfl rfl (by decide) (by decide) hk9 hFc hP1 hD1
        generalize H1 = H at hP hS ⊢
        have hP : va_P G vwCl [(o0, .inr (0, [.int kd, .ref aw, .ref ae, sq, .int th, .int wa, .int ta, .int lf, .double ou, .double er, .int ce, .int cd, .int rs])), (aw, aD q n fw), (ax, aD q 8 (fun k => FP.i2d (xi k)))] H := hP
        have hD : va_D A [(o0, .inr (0, [.int kd, .ref aw, .ref ae, sq, .int th, .int wa, .int ta, .int lf, .double ou, .double er, .int ce, .int cd, .int rs])), (aw, aD q n fw), (ax, aD q 8 (fun k => FP.i2d (xi k)))] := hD
        have hwe := hw
        refine lv_aload_n hx hb dX0_isLoud_68 rfl (lv_at hl 0 rfl) ?_
        refine va_get (D := G) (ci := 0) (v := .int wa) (C := RX0) (T := TX0) (N := 13) hx hb (dr_words hts d0) in_X0_isLoud_X0 hown hK hP 0 rfl rfl 5 (by decide) (dr_words hts d0 (.fieldLink RX0 90 "EchoBench$Filter" "watchHundredths" "I") (by decide +kernel)) (fun _ h9 => h9) rfl dX0_isLoud_69 ?_
        refine lv_i2d hx hb dX0_isLoud_72 ?_
        refine lv_ldc2d hx hb hown (dr_words hts d0 (.constantDouble RX0 97 4636737291354636288) (by decide +kernel)) dX0_isLoud_73 ?_
        refine lv_ddiv_any hd0 lw_bits hx hb dX0_isLoud_76 (fun r3 dr3 ar3 hr3 => ?_)
        have er3 := dV_div ar3
        refine lv_dload hx hb dX0_isLoud_77 (lv_at hl 3 rfl) ?_
        refine lv_dmul_any hr3 lw_bits hx hb dX0_isLoud_79 (fun r4 dr4 ar4 hr4 => ?_)
        have er4 := dV_mul ar4
        refine lv_dcmp hx hb dX0_isLoud_80 ?_
        refine lv_if_le (tgt := 88) hx hb dX0_isLoud_81 (by decide) (fun c2 => ?_) (fun c2 => ?_)
        · skip
          rw [cl_le, dcmp_fO, hwe, er4, er3, ha, show j = n by omega] at c2
          refine lv_iconst (v := 0) hx hb dX0_isLoud_88 (by decide) ?_
          have hP9 := hP
          have hD9 := hD
          refine W.endD hr4 ?_
          exact W.zret (v := 0) hx hb hr (by decide) (fun t ht hW => ⟨⟨0, (), rfl, (if_neg (fun q => c2 q.2)).symm, by rw [ht]; exact hP9, hD9⟩, hS.F ht⟩) hS.2.2 dX0_isLoud_89
        · skip
          rw [cl_le, dcmp_fO, hwe, er4, er3, ha, show j = n by omega, Classical.not_not] at c2
          refine lv_iconst (v := 1) hx hb dX0_isLoud_84 (by decide) ?_
          refine lv_goto (tgt := 89) hx hb dX0_isLoud_85 (by decide) ?_
          have hP9 := hP
          have hD9 := hD
          refine W.endD hr4 ?_
          exact W.zret (v := 1) hx hb hr (by decide) (fun t ht hW => ⟨⟨1, (), rfl, (if_pos ⟨c1, c2⟩).symm, by rw [ht]; exact hP9, hD9⟩, hS.F ht⟩) hS.2.2 dX0_isLoud_89
      | succ k ih =>
        intro j a hj ha H locs d0 hd0 hP hD hS ls hl
        refine lv_iload hx hb dX0_isLoud_15 (lv_at hl 4 rfl) ?_
        refine lv_aload_n hx hb dX0_isLoud_17 rfl (lv_at hl 0 rfl) ?_
        refine va_get (D := G) (ci := 0) (v := .ref aw) (C := RX0) (T := TX0) (N := 13) hx hb (dr_words hts d0) in_X0_isLoud_X0 hown hK hP 0 rfl rfl 1 (by decide) (dr_words hts d0 (.fieldLink RX0 15 "EchoBench$Filter" "weights" "[D") (by decide +kernel)) (fun _ h9 => h9) rfl dX0_isLoud_18 ?_
        refine va_alen (s := s.setDrawn d0) (D := G) hx hb hK hP 1 1 rfl rfl (v := (nI n)) rfl dX0_isLoud_21 ?_
        refine lv_icmp_ge (tgt := 64) hx hb dX0_isLoud_22 (by decide) (fun h => absurd h (nI_ge (by omega) (by omega))) (fun _ => ?_)
        refine lv_iload hx hb dX0_isLoud_25 (lv_at hl 4 rfl) ?_
        refine lv_aload_n hx hb dX0_isLoud_27 rfl (lv_at hl 1 rfl) ?_
        refine va_alen (s := s.setDrawn d0) (D := G) hx hb hK hP 2 1 rfl rfl (v := 8) rfl dX0_isLoud_28 ?_
        refine lv_icmp_ge (tgt := 64) hx hb dX0_isLoud_29 (by decide) (fun h => absurd h (nI_ge (b := 8) (by omega) (by omega))) (fun _ => ?_)
        refine lv_aload_n hx hb dX0_isLoud_32 rfl (lv_at hl 1 rfl) ?_
        refine lv_iload hx hb dX0_isLoud_33 (lv_at hl 4 rfl) ?_
        refine va_daldJ (s := s.setDrawn d0) hx hb hK hP 2 1 rfl rfl (j := j) rfl (by omega) (by decide) dX0_isLoud_35 ?_
        have hPc := hP.sub (ws' := []) [] rfl
        have hDc := hD.sub (ws' := []) [] (by decide) rfl
        have hFc := va_free (wc := []) hD hS hA [] rfl
        refine va_calld (va_runSN (As := [.double ((fun k => FP.i2d (xi k)) j)]) (rest := []) ⟨hx, hb, hml, hown, (dr_words hts d0)⟩ (m_X3_eitherWay l G q H.size (FP.i2d (xi j))) ⟨va_cnB 1 (dr_words hts d0) gX0_isLoud_X3_eitherWay_n93 rfl rfl rfl ((hNF.drawn d0).1 (.methodLinkNest RX0 93 yX3_eitherWay "EchoBench") (by decide +kernel)) (dr_words hts d0 (.initialized RX3) (by decide +kernel)) (by decide +kernel) ⟨Nat.le_of_ble_eq_true rfl, Nat.le_of_ble_eq_true rfl⟩, (dr_words hts d0 (.static yX3_eitherWay) (by decide +kernel)), trivial⟩ ⟨preW_blind, preW_start (s := s.setDrawn d0) hPc hK hDc (hNF.drawn d0)⟩ rfl rfl hl.1 rfl (lv_room (Nat.le_of_ble_eq_true rfl)) dX0_isLoud_36 ⟨(Nat.zero_le _), (Nat.zero_le _)⟩) hS (fun q _ h => hFc q h) hFc (fun we u9 t9 H1 locs ht9 hv9 hw hB9 hz9 hk9 hS => ?_)
        obtain ⟨⟩ := u9
        obtain ⟨hP1, hD1⟩ := hB9
        rw [ht9] at hP1
        obtain ⟨hP, hD⟩ := va_join (wr := [(o0, .inr (0, [.int kd, .ref aw, .ref ae, sq, .int th, .int wa, .int ta, .int lf, .double ou, .double er, .int ce, .int cd, .int rs])), (aw, aD q n fw), (ax, aD q 8 (fun k => FP.i2d (xi k)))]) (w1 := []) hP hD [] [0, 1, 2] rfl rfl (by decide) (by decide) hk9 hFc hP1 hD1
        generalize H1 = H at hP hS ⊢
        have hP : va_P G vwCl [(o0, .inr (0, [.int kd, .ref aw, .ref ae, sq, .int th, .int wa, .int ta, .int lf, .double ou, .double er, .int ce, .int cd, .int rs])), (aw, aD q n fw), (ax, aD q 8 (fun k => FP.i2d (xi k)))] H := hP
        have hD : va_D A [(o0, .inr (0, [.int kd, .ref aw, .ref ae, sq, .int th, .int wa, .int ta, .int lf, .double ou, .double er, .int ce, .int cd, .int rs])), (aw, aD q n fw), (ax, aD q 8 (fun k => FP.i2d (xi k)))] := hD
        have hwe : dV we = fAbs (fI (xi j)) := hw
        refine lv_dstore (lv' := [(7, .double we), (0, .ref o0), (1, .ref ax), (2, .double mi), (4, .double a), (6, .int (nI j))]) hx hb dX0_isLoud_39 hl (by decide) rfl (fun ls hl => ?_)
        refine lv_dload hx hb dX0_isLoud_41 (lv_at hl 0 rfl) ?_
        refine lv_dload hx hb dX0_isLoud_43 (lv_at hl 4 rfl) ?_
        refine lv_dcmp hx hb dX0_isLoud_45 ?_
        refine lv_if_le (tgt := 54) hx hb dX0_isLoud_46 (by decide) (fun c2 => ?_) (fun c2 => ?_)
        · skip
          rw [cl_le, dcmp_fO, hwe, ha] at c2
          refine lv_dload hx hb dX0_isLoud_54 (lv_at hl 4 rfl) ?_
          refine lv_dstore (lv' := [(4, .double a), (7, .double we), (0, .ref o0), (1, .ref ax), (2, .double mi), (6, .int (nI j))]) hx hb dX0_isLoud_56 hl (by decide) rfl (fun ls hl => ?_)
          refine lv_iinc (v := nI (j + 1)) (lv' := [(6, .int (nI (j + 1))), (4, .double a), (7, .double we), (0, .ref o0), (1, .ref ax), (2, .double mi)]) hx hb dX0_isLoud_58 hl (k := 5) rfl (nI_succ _).symm (by decide) rfl (fun ls hl => ?_)
          refine lv_goto (tgt := 15) hx hb dX0_isLoud_61 (by decide) ?_
          exact ih (j + 1) a (by omega) (by rw [ha]; exact (if_neg c2).symm) _ _ _ hd0 (hP.sub [0, 1, 2] rfl) (hD.sub [0, 1, 2] (by decide) rfl) hS ls (lv_sub hl [3, 4, 5, 1, 0] rfl)
        · skip
          rw [cl_le, dcmp_fO, hwe, ha, Classical.not_not] at c2
          refine lv_dload hx hb dX0_isLoud_49 (lv_at hl 0 rfl) ?_
          refine lv_goto (tgt := 56) hx hb dX0_isLoud_51 (by decide) ?_
          refine lv_dstore (lv' := [(4, .double we), (7, .double we), (0, .ref o0), (1, .ref ax), (2, .double mi), (6, .int (nI j))]) hx hb dX0_isLoud_56 hl (by decide) rfl (fun ls hl => ?_)
          refine lv_iinc (v := nI (j + 1)) (lv' := [(6, .int (nI (j + 1))), (4, .double we), (7, .double we), (0, .ref o0), (1, .ref ax), (2, .double mi)]) hx hb dX0_isLoud_58 hl (k := 5) rfl (nI_succ _).symm (by decide) rfl (fun ls hl => ?_)
          refine lv_goto (tgt := 15) hx hb dX0_isLoud_61 (by decide) ?_
          exact ih (j + 1) we (by omega) (by rw [hwe]; exact (if_pos c2).symm) _ _ _ hd0 (hP.sub [0, 1, 2] rfl) (hD.sub [0, 1, 2] (by decide) rfl) hS ls (lv_sub hl [3, 4, 5, 1, 0] rfl)
    refine lv_dc0 hx hb dX0_isLoud_9 ?_
    refine lv_dstore (lv' := [(4, .double 0), (0, .ref o0), (1, .ref ax), (2, .double mi)]) hx hb dX0_isLoud_10 hl (by decide) rfl (fun ls hl => ?_)
    refine lv_iconst (v := 0) hx hb dX0_isLoud_12 (by decide) ?_
    refine lv_istore (lv' := [(6, .int 0), (4, .double 0), (0, .ref o0), (1, .ref ax), (2, .double mi)]) hx hb dX0_isLoud_13 hl (by decide) rfl (fun ls hl => ?_)
    exact LOOP n 0 0 (by omega) rfl _ _ _ hd0 (hP.sub [0, 1, 2] rfl) (hD.sub [0, 1, 2] (by decide) rfl) hS ls (lv_sub hl [2, 3, 4, 1, 0] rfl)
  · skip
    refine lv_iconst (v := 0) hx hb dX0_isLoud_7 (by decide) ?_
    have hP9 := hP
    have hD9 := hD
    refine W.endD hd0 ?_
    exact W.zret (v := 0) hx hb hr (by decide) (fun t ht hW => ⟨⟨0, (), rfl, (if_neg (fun q => c1 q.1)).symm, by rw [ht]; exact hP9, hD9⟩, hS.F ht⟩) hS.2.2 dX0_isLoud_8

theorem in_X0_holdsAt_X0 : ∀ w ∈ wsX00, w ∈ wsX0_holdsAt := by decide +kernel
set_option maxHeartbeats 4000000 in
set_option maxRecDepth 100000 in
/-- holdsAt -/
theorem m_X0_holdsAt (l : Launch) (G : va_G) (q : Nat → ClassId) (sz : Nat) (o0 aw ae ax n : Nat) (sq : Value) (kd th wa ta lf ce cd rs : Int32) (ou er : UInt64) (fw : Nat → UInt64) (xi : Nat → Int32) (mi : UInt64) (hn : n ≤ 8) : MetD lw_cs l yX0_holdsAt wsX0_holdsAt ({ frames := 2, cells := 0, slots := 0, locals := 49 } : Jvm.Room) (PreW G q [.ref o0, .ref ax, .double mi] [(o0, .inr (0, [.int kd, .ref aw, .ref ae, sq, .int th, .int wa, .int ta, .int lf, .double ou, .double er, .int ce, .int cd, .int rs])), (aw, aD q n fw), (ax, aD q 8 (fun k => FP.i2d (xi k)))] sz) (va_Qi (fun (r lg : Int32) => r = (if sLoud wa n xi (dV mi) ∨ 0 < lf then 1 else 0) ∧ lg = if sLoud wa n xi (dV mi) then ta else if 0 < lf then lf - 1 else lf) (fun (lg : Int32) t => EndA G (va_A [(o0, .inr (0, [.int kd, .ref aw, .ref ae, sq, .int th, .int wa, .int ta, .int lf, .double ou, .double er, .int ce, .int cd, .int rs])), (aw, aD q n fw), (ax, aD q 8 (fun k => FP.i2d (xi k)))] sz) [(o0, .inr (0, [.int kd, .ref aw, .ref ae, sq, .int th, .int wa, .int ta, .int lg, .double ou, .double er, .int ce, .int cd, .int rs])), (aw, aD q n fw), (ax, aD q 8 (fun k => FP.i2d (xi k)))] t) (va_A [(o0, .inr (0, [.int kd, .ref aw, .ref ae, sq, .int th, .int wa, .int ta, .int lf, .double ou, .double er, .int ce, .int cd, .int rs])), (aw, aD q n fw), (ax, aD q 8 (fun k => FP.i2d (xi k)))] sz)) 0 0 (va_A [(o0, .inr (0, [.int kd, .ref aw, .ref ae, sq, .int th, .int wa, .int ta, .int lf, .double ou, .double er, .int ce, .int cd, .int rs])), (aw, aD q n fw), (ax, aD q 8 (fun k => FP.i2d (xi k)))] sz) := by
  refine MetD.ofW (cc := cX0_holdsAt) (maxL := 4) (ret := (some .boolean)) (by decide +kernel) rfl ?_
  intro p e s m args below meth c s₁ B hml hv hd0
  obtain ⟨rfl, hsz, hP, hK, hD0, hNF⟩ := hv
  have hx := B.exec
  have hb := B.bytes
  have hr := B.returns
  have hts := atoms_spec (ws := wsX0_holdsAt) B.pre
  have hown : s.vm.findClass RX0 = some m.cls := findClass_of_methodNamed B.named
  have hlocks := B.notSynchronized
  subst hsz
  have hD := hD0.self (sz := s.heap.size)
  generalize hAe : va_A [(o0, .inr (0, [.int kd, .ref aw, .ref ae, sq, .int th, .int wa, .int ta, .int lf, .double ou, .double er, .int ce, .int cd, .int rs])), (aw, aD q n fw), (ax, aD q 8 (fun k => FP.i2d (xi k)))] s.heap.size = A at hD ⊢
  have hA : ∀ q : Nat, s.heap.size ≤ q → A q := fun q h => by rw [← hAe]; exact Or.inr h
  have hS : va_S A s.heap s.heap [] := va_S.rf
  have hP : va_P G vwCl [(o0, .inr (0, [.int kd, .ref aw, .ref ae, sq, .int th, .int wa, .int ta, .int lf, .double ou, .double er, .int ce, .int cd, .int rs])), (aw, aD q n fw), (ax, aD q 8 (fun k => FP.i2d (xi k)))] s.heap := hP
  have hl := lv_entry ([.ref o0, .ref ax, .double mi]) (n := 4) (Nat.le_of_ble_eq_true rfl)
  rw [lg_entry_eq]
  generalize (lg_sl ([.ref o0, .ref ax, .double mi]) ++ List.replicate (4 - (lg_sl ([.ref o0, .ref ax, .double mi])).length) Slot.unset).toArray = ls at hl ⊢
  have hl : lv_has ls 4 [(0, .ref o0), (1, .ref ax), (2, .double mi)] := hl
  refine lv_aload_n hx hb dX0_holdsAt_0 rfl (lv_at hl 0 rfl) ?_
  refine lv_aload_n hx hb dX0_holdsAt_1 rfl (lv_at hl 1 rfl) ?_
  refine lv_dload_n hx hb dX0_holdsAt_2 rfl (lv_at hl 2 rfl) ?_
  have hPc := hP.sub (ws' := [(o0, .inr (0, [.int kd, .ref aw, .ref ae, sq, .int th, .int wa, .int ta, .int lf, .double ou, .double er, .int ce, .int cd, .int rs])), (aw, aD q n fw), (ax, aD q 8 (fun k => FP.i2d (xi k)))]) [0, 1, 2] rfl
  have hDc := hD.sub (ws' := [(o0, .inr (0, [.int kd, .ref aw, .ref ae, sq, .int th, .int wa, .int ta, .int lf, .double ou, .double er, .int ce, .int cd, .int rs])), (aw, aD q n fw), (ax, aD q 8 (fun k => FP.i2d (xi k)))]) [0, 1, 2] (by decide) rfl
  have hFc := va_free (wc := [(o0, .inr (0, [.int kd, .ref aw, .ref ae, sq, .int th, .int wa, .int ta, .int lf, .double ou, .double er, .int ce, .int cd, .int rs])), (aw, aD q n fw), (ax, aD q 8 (fun k => FP.i2d (xi k)))]) hD hS hA [0, 1, 2] rfl
  refine va_calliD hd0 (va_runV_D (As := [.ref ax, .double mi]) (rest := []) ⟨hx, hb, hml, hown, (dr_words hts s.drawn)⟩ (m_X0_isLoud l G q s.heap.size o0 aw ae ax n sq kd th wa ta lf ce cd rs ou er fw xi mi hn) (cwV 2 (dr_words hts s.drawn) gX0_holdsAt_X0_isLoud rfl rfl rfl (by decide +kernel) ⟨Nat.le_of_ble_eq_true rfl, Nat.le_of_ble_eq_true rfl⟩) ⟨preW_blind, (va_recv hK hPc (ci := 0) (q0 := 0) rfl rfl), preW_start (s := s.setDrawn s.drawn) hPc hK hDc (hNF.drawn s.drawn)⟩ rfl rfl hl.1 rfl (lv_room (Nat.le_of_ble_eq_true rfl)) dX0_holdsAt_3 ⟨(Nat.zero_le _), (Nat.zero_le _)⟩) hS (fun q _ h => hFc q h) hFc (fun rl u9 t9 H1 locs ht9 hv9 hw hB9 hz9 hk9 hS du1 hu1 => ?_)
  obtain ⟨⟩ := u9
  obtain ⟨hP1, hD1⟩ := hB9
  rw [ht9] at hP1
  obtain ⟨hP, hD⟩ := va_join (wr := []) (w1 := [(o0, .inr (0, [.int kd, .ref aw, .ref ae, sq, .int th, .int wa, .int ta, .int lf, .double ou, .double er, .int ce, .int cd, .int rs])), (aw, aD q n fw), (ax, aD q 8 (fun k => FP.i2d (xi k)))]) hP hD [0, 1, 2] [] rfl rfl (by decide) (by decide) hk9 hFc hP1 hD1
  generalize H1 = H at hP hS ⊢
  have hP : va_P G vwCl [(o0, .inr (0, [.int kd, .ref aw, .ref ae, sq, .int th, .int wa, .int ta, .int lf, .double ou, .double er, .int ce, .int cd, .int rs])), (aw, aD q n fw), (ax, aD q 8 (fun k => FP.i2d (xi k)))] H := hP
  have hD : va_D A [(o0, .inr (0, [.int kd, .ref aw, .ref ae, sq, .int th, .int wa, .int ta, .int lf, .double ou, .double er, .int ce, .int cd, .int rs])), (aw, aD q n fw), (ax, aD q 8 (fun k => FP.i2d (xi k)))] := hD
  try dsimp only at hw
  refine lv_if_eq (tgt := 19) hx hb dX0_holdsAt_6 (by decide) (fun c1 => ?_) (fun c1 => ?_)
  · skip
    have cn : ¬ sLoud wa n xi (dV mi) := fun h => by rw [if_pos h] at hw; rw [hw] at c1; exact absurd c1 (by decide)
    refine lv_aload_n hx hb dX0_holdsAt_19 rfl (lv_at hl 0 rfl) ?_
    refine va_get (D := G) (ci := 0) (v := .int lf) (C := RX0) (T := TX0) (N := 13) hx hb (dr_words hts du1) in_X0_holdsAt_X0 hown hK hP 0 rfl rfl 7 (by decide) (dr_words hts du1 (.fieldLink RX0 43 "EchoBench$Filter" "holdsLeft" "I") (by decide +kernel)) (fun _ h9 => h9) rfl dX0_holdsAt_20 ?_
    refine lv_if_le (tgt := 38) hx hb dX0_holdsAt_23 (by decide) (fun c2 => ?_) (fun c2 => ?_)
    · skip
      have c2 : ¬ 0 < lf := Int32.not_lt.mpr c2
      refine lv_iconst (v := 0) hx hb dX0_holdsAt_38 (by decide) ?_
      have hP9 := hP
      have hD9 := hD
      refine W.endD hu1 ?_
      exact W.zret (v := 0) hx hb hr (by decide) (fun t ht hW => ⟨⟨0, lf, rfl, ⟨(if_neg (fun h => h.elim cn c2)).symm, by rw [if_neg cn, if_neg c2]⟩, by rw [ht]; exact hP9, hD9⟩, hS.F ht⟩) hS.2.2 dX0_holdsAt_39
    · skip
      have c2 : 0 < lf := Int32.not_le.mp c2
      refine lv_aload_n hx hb dX0_holdsAt_26 rfl (lv_at hl 0 rfl) ?_
      refine lv_dup hx hb dX0_holdsAt_27 rfl ?_
      refine va_get (D := G) (ci := 0) (v := .int lf) (C := RX0) (T := TX0) (N := 13) hx hb (dr_words hts du1) in_X0_holdsAt_X0 hown hK hP 0 rfl rfl 7 (by decide) (dr_words hts du1 (.fieldLink RX0 43 "EchoBench$Filter" "holdsLeft" "I") (by decide +kernel)) (fun _ h9 => h9) rfl dX0_holdsAt_28 ?_
      refine lv_iconst (v := 1) hx hb dX0_holdsAt_31 (by decide) ?_
      refine lv_isub hx hb dX0_holdsAt_32 ?_
      refine lv_topi (fun x2 ex2 => ?_)
      refine va_put (D := G) (ci := 0) (v := .int x2) (ty := .int) (C := RX0) (T := TX0) (N := 13) hx hb (dr_words hts du1) in_X0_holdsAt_X0 tyX0 tyX0_ok nmX0 hown hK hP hD hS 0 rfl rfl 7 (by decide) (dr_words hts du1 (.fieldLink RX0 43 "EchoBench$Filter" "holdsLeft" "I") (by decide +kernel)) (fun _ h9 => h9) rfl (by decide +kernel) rfl rfl (Nat.le_of_ble_eq_true rfl) dX0_holdsAt_33 (fun H locs hP hD hS => ?_)
      have hP : va_P G vwCl [(o0, .inr (0, [.int kd, .ref aw, .ref ae, sq, .int th, .int wa, .int ta, .int x2, .double ou, .double er, .int ce, .int cd, .int rs])), (aw, aD q n fw), (ax, aD q 8 (fun k => FP.i2d (xi k)))] H := hP
      have hD : va_D A [(o0, .inr (0, [.int kd, .ref aw, .ref ae, sq, .int th, .int wa, .int ta, .int x2, .double ou, .double er, .int ce, .int cd, .int rs])), (aw, aD q n fw), (ax, aD q 8 (fun k => FP.i2d (xi k)))] := hD
      refine lv_iconst (v := 1) hx hb dX0_holdsAt_36 (by decide) ?_
      have hP9 := hP
      have hD9 := hD
      refine W.endD hu1 ?_
      exact W.zret (v := 1) hx hb hr (by decide) (fun t ht hW => ⟨⟨1, x2, rfl, ⟨(if_pos (Or.inr c2)).symm, by rw [if_neg cn, if_pos c2]; exact ex2⟩, by rw [ht]; exact hP9, hD9⟩, hS.F ht⟩) hS.2.2 dX0_holdsAt_37
  · skip
    have cn : sLoud wa n xi (dV mi) := Classical.byContradiction fun h => by rw [if_neg h] at hw; exact c1 hw
    refine lv_aload_n hx hb dX0_holdsAt_9 rfl (lv_at hl 0 rfl) ?_
    refine lv_aload_n hx hb dX0_holdsAt_10 rfl (lv_at hl 0 rfl) ?_
    refine va_get (D := G) (ci := 0) (v := .int ta) (C := RX0) (T := TX0) (N := 13) hx hb (dr_words hts du1) in_X0_holdsAt_X0 hown hK hP 0 rfl rfl 6 (by decide) (dr_words hts du1 (.fieldLink RX0 87 "EchoBench$Filter" "tail" "I") (by decide +kernel)) (fun _ h9 => h9) rfl dX0_holdsAt_11 ?_
    refine va_put (D := G) (ci := 0) (v := .int ta) (ty := .int) (C := RX0) (T := TX0) (N := 13) hx hb (dr_words hts du1) in_X0_holdsAt_X0 tyX0 tyX0_ok nmX0 hown hK hP hD hS 0 rfl rfl 7 (by decide) (dr_words hts du1 (.fieldLink RX0 43 "EchoBench$Filter" "holdsLeft" "I") (by decide +kernel)) (fun _ h9 => h9) rfl (by decide +kernel) rfl rfl (Nat.le_of_ble_eq_true rfl) dX0_holdsAt_14 (fun H locs hP hD hS => ?_)
    have hP : va_P G vwCl [(o0, .inr (0, [.int kd, .ref aw, .ref ae, sq, .int th, .int wa, .int ta, .int ta, .double ou, .double er, .int ce, .int cd, .int rs])), (aw, aD q n fw), (ax, aD q 8 (fun k => FP.i2d (xi k)))] H := hP
    have hD : va_D A [(o0, .inr (0, [.int kd, .ref aw, .ref ae, sq, .int th, .int wa, .int ta, .int ta, .double ou, .double er, .int ce, .int cd, .int rs])), (aw, aD q n fw), (ax, aD q 8 (fun k => FP.i2d (xi k)))] := hD
    refine lv_iconst (v := 1) hx hb dX0_holdsAt_17 (by decide) ?_
    have hP9 := hP
    have hD9 := hD
    refine W.endD hu1 ?_
    exact W.zret (v := 1) hx hb hr (by decide) (fun t ht hW => ⟨⟨1, ta, rfl, ⟨(if_pos (Or.inl cn)).symm, (if_pos cn).symm⟩, by rw [ht]; exact hP9, hD9⟩, hS.F ht⟩) hS.2.2 dX0_holdsAt_18

theorem in_X0_normOf_X0 : ∀ w ∈ wsX00, w ∈ wsX0_normOf := by decide +kernel
set_option maxHeartbeats 4000000 in
set_option maxRecDepth 100000 in
/-- normOf -/
theorem m_X0_normOf (l : Launch) (G : va_G) (q : Nat → ClassId) (sz : Nat) (o0 aw ae ax n : Nat) (sq : Value) (kd th wa ta lf ce cd rs : Int32) (ou er : UInt64) (fw : Nat → UInt64) (xi : Nat → Int32) (hn : n ≤ 8) : MetD lw_cs l yX0_normOf wsX0_normOf ({ frames := 0, cells := 0, slots := 0, locals := 0 } : Jvm.Room) (PreW G q [.ref o0, .ref ax] [(o0, .inr (0, [.int kd, .ref aw, .ref ae, sq, .int th, .int wa, .int ta, .int lf, .double ou, .double er, .int ce, .int cd, .int rs])), (aw, aD q n fw), (ax, aD q 8 (fun k => FP.i2d (xi k)))] sz) (va_Qd (fun (r : UInt64) (_ : Unit) => dV r = sNorm n xi) (fun (_ : Unit) t => EndA G (va_A [(o0, .inr (0, [.int kd, .ref aw, .ref ae, sq, .int th, .int wa, .int ta, .int lf, .double ou, .double er, .int ce, .int cd, .int rs])), (aw, aD q n fw), (ax, aD q 8 (fun k => FP.i2d (xi k)))] sz) [(o0, .inr (0, [.int kd, .ref aw, .ref ae, sq, .int th, .int wa, .int ta, .int lf, .double ou, .double er, .int ce, .int cd, .int rs])), (aw, aD q n fw), (ax, aD q 8 (fun k => FP.i2d (xi k)))] t) (va_A [(o0, .inr (0, [.int kd, .ref aw, .ref ae, sq, .int th, .int wa, .int ta, .int lf, .double ou, .double er, .int ce, .int cd, .int rs])), (aw, aD q n fw), (ax, aD q 8 (fun k => FP.i2d (xi k)))] sz)) 0 0 (va_A [(o0, .inr (0, [.int kd, .ref aw, .ref ae, sq, .int th, .int wa, .int ta, .int lf, .double ou, .double er, .int ce, .int cd, .int rs])), (aw, aD q n fw), (ax, aD q 8 (fun k => FP.i2d (xi k)))] sz) := by
  refine MetD.ofW (cc := cX0_normOf) (maxL := 5) (ret := (some .double)) (by decide +kernel) rfl ?_
  intro p e s m args below meth c s₁ B hml hv hd0
  obtain ⟨rfl, hsz, hP, hK, hD0, hNF⟩ := hv
  have hx := B.exec
  have hb := B.bytes
  have hr := B.returns
  have hts := atoms_spec (ws := wsX0_normOf) B.pre
  have hown : s.vm.findClass RX0 = some m.cls := findClass_of_methodNamed B.named
  have hlocks := B.notSynchronized
  subst hsz
  have hD := hD0.self (sz := s.heap.size)
  generalize hAe : va_A [(o0, .inr (0, [.int kd, .ref aw, .ref ae, sq, .int th, .int wa, .int ta, .int lf, .double ou, .double er, .int ce, .int cd, .int rs])), (aw, aD q n fw), (ax, aD q 8 (fun k => FP.i2d (xi k)))] s.heap.size = A at hD ⊢
  have hA : ∀ q : Nat, s.heap.size ≤ q → A q := fun q h => by rw [← hAe]; exact Or.inr h
  have hS : va_S A s.heap s.heap [] := va_S.rf
  have hP : va_P G vwCl [(o0, .inr (0, [.int kd, .ref aw, .ref ae, sq, .int th, .int wa, .int ta, .int lf, .double ou, .double er, .int ce, .int cd, .int rs])), (aw, aD q n fw), (ax, aD q 8 (fun k => FP.i2d (xi k)))] s.heap := hP
  have hl := lv_entry ([.ref o0, .ref ax]) (n := 5) (Nat.le_of_ble_eq_true rfl)
  rw [lg_entry_eq]
  generalize (lg_sl ([.ref o0, .ref ax]) ++ List.replicate (5 - (lg_sl ([.ref o0, .ref ax])).length) Slot.unset).toArray = ls at hl ⊢
  have hl : lv_has ls 5 [(0, .ref o0), (1, .ref ax)] := hl
  have LOOP : ∀ (k : Nat) (j : Nat) (a : UInt64), j + k = n → dV a = smN kOne (fun k => fMul (fI (xi k)) (fI (xi k))) j → ∀ (H : Heap) (locs : List Loc) (d0 : Drawn), s.drawn.sameBut d0 lw_cs → va_P G vwCl [(o0, .inr (0, [.int kd, .ref aw, .ref ae, sq, .int th, .int wa, .int ta, .int lf, .double ou, .double er, .int ce, .int cd, .int rs])), (aw, aD q n fw), (ax, aD q 8 (fun k => FP.i2d (xi k)))] H → va_D A [(o0, .inr (0, [.int kd, .ref aw, .ref ae, sq, .int th, .int wa, .int ta, .int lf, .double ou, .double er, .int ce, .int cd, .int rs])), (aw, aD q n fw), (ax, aD q 8 (fun k => FP.i2d (xi k)))] → va_S A s.heap H locs → ∀ (ls : Array Slot), lv_has ls 5 [(0, .ref o0), (1, .ref ax), (2, .double a), (4, .int (nI j))] → W p l e (headSpec wsX0_normOf ({ frames := 0, cells := 0, slots := 0, locals := 0 } : Jvm.Room)).room (s.setDrawn d0) m #[.ref o0, .ref ax] below meth c H locs 0 0 (MQD lw_cs below (va_Qd (fun (r : UInt64) (_ : Unit) => dV r = sNorm n xi) (fun (_ : Unit) t => EndA G A [(o0, .inr (0, [.int kd, .ref aw, .ref ae, sq, .int th, .int wa, .int ta, .int lf, .double ou, .double er, .int ce, .int cd, .int rs])), (aw, aD q n fw), (ax, aD q 8 (fun k => FP.i2d (xi k)))] t) A) #[.ref o0, .ref ax] s 0 0 A) (F0 m 5 ls []) := by
    intro k
    induction k with
    | zero =>
      intro j a hj ha H locs d0 hd0 hP hD hS ls hl
      refine lv_iload hx hb dX0_normOf_5 (lv_at hl 3 rfl) ?_
      refine lv_aload_n hx hb dX0_normOf_7 rfl (lv_at hl 0 rfl) ?_
      refine va_get (D := G) (ci := 0) (v := .ref aw) (C := RX0) (T := TX0) (N := 13) hx hb (dr_words hts d0) in_X0_normOf_X0 hown hK hP 0 rfl rfl 1 (by decide) (dr_words hts d0 (.fieldLink RX0 15 "EchoBench$Filter" "weights" "[D") (by decide +kernel)) (fun _ h9 => h9) rfl dX0_normOf_8 ?_
      refine va_alen (s := s.setDrawn d0) (D := G) hx hb hK hP 1 1 rfl rfl (v := (nI n)) rfl dX0_normOf_11 ?_
      refine lv_icmp_ge (tgt := 40) hx hb dX0_normOf_12 (by decide) (fun _ => ?_) (fun h => absurd (nI_le (by omega) (by omega)) h)
      refine lv_dload_n hx hb dX0_normOf_40 rfl (lv_at hl 2 rfl) ?_
      have hP9 := hP
      have hD9 := hD
      refine W.endD hd0 ?_
      exact W.dret (v := a) hx hb hr (fun t ht hW => ⟨⟨a, (), rfl, by dsimp only; rw [ha, show j = n by omega]; rfl, by rw [ht]; exact hP9, hD9⟩, hS.F ht⟩) hS.2.2 dX0_normOf_41
    | succ k ih =>
      intro j a hj ha H locs d0 hd0 hP hD hS ls hl
      refine lv_iload hx hb dX0_normOf_5 (lv_at hl 3 rfl) ?_
      refine lv_aload_n hx hb dX0_normOf_7 rfl (lv_at hl 0 rfl) ?_
      refine va_get (D := G) (ci := 0) (v := .ref aw) (C := RX0) (T := TX0) (N := 13) hx hb (dr_words hts d0) in_X0_normOf_X0 hown hK hP 0 rfl rfl 1 (by decide) (dr_words hts d0 (.fieldLink RX0 15 "EchoBench$Filter" "weights" "[D") (by decide +kernel)) (fun _ h9 => h9) rfl dX0_normOf_8 ?_
      refine va_alen (s := s.setDrawn d0) (D := G) hx hb hK hP 1 1 rfl rfl (v := (nI n)) rfl dX0_normOf_11 ?_
      refine lv_icmp_ge (tgt := 40) hx hb dX0_normOf_12 (by decide) (fun h => absurd h (nI_ge (by omega) (by omega))) (fun _ => ?_)
      refine lv_iload hx hb dX0_normOf_15 (lv_at hl 3 rfl) ?_
      refine lv_aload_n hx hb dX0_normOf_17 rfl (lv_at hl 1 rfl) ?_
      refine va_alen (s := s.setDrawn d0) (D := G) hx hb hK hP 2 1 rfl rfl (v := 8) rfl dX0_normOf_18 ?_
      refine lv_icmp_ge (tgt := 40) hx hb dX0_normOf_19 (by decide) (fun h => absurd h (nI_ge (b := 8) (by omega) (by omega))) (fun _ => ?_)
      refine lv_dload_n hx hb dX0_normOf_22 rfl (lv_at hl 2 rfl) ?_
      refine lv_aload_n hx hb dX0_normOf_23 rfl (lv_at hl 1 rfl) ?_
      refine lv_iload hx hb dX0_normOf_24 (lv_at hl 3 rfl) ?_
      refine va_daldJ (s := s.setDrawn d0) hx hb hK hP 2 1 rfl rfl (j := j) rfl (by omega) (by decide) dX0_normOf_26 ?_
      refine lv_aload_n hx hb dX0_normOf_27 rfl (lv_at hl 1 rfl) ?_
      refine lv_iload hx hb dX0_normOf_28 (lv_at hl 3 rfl) ?_
      refine va_daldJ (s := s.setDrawn d0) hx hb hK hP 2 1 rfl rfl (j := j) rfl (by omega) (by decide) dX0_normOf_30 ?_
      refine lv_dmul_any hd0 lw_bits hx hb dX0_normOf_31 (fun r4 dr4 ar4 hr4 => ?_)
      have er4 := dV_mul ar4
      refine lv_dadd_any hr4 lw_bits hx hb dX0_normOf_32 (fun r5 dr5 ar5 hr5 => ?_)
      have er5 := dV_add ar5
      refine lv_dstore_n (lv' := [(2, .double r5), (0, .ref o0), (1, .ref ax), (4, .int (nI j))]) hx hb dX0_normOf_33 rfl hl (by decide) rfl (fun ls hl => ?_)
      refine lv_iinc (v := nI (j + 1)) (lv' := [(4, .int (nI (j + 1))), (2, .double r5), (0, .ref o0), (1, .ref ax)]) hx hb dX0_normOf_34 hl (k := 3) rfl (nI_succ _).symm (by decide) rfl (fun ls hl => ?_)
      refine lv_goto (tgt := 5) hx hb dX0_normOf_37 (by decide) ?_
      exact ih (j + 1) r5 (by omega) (by rw [er5, er4, ha]; rfl) _ _ _ hr5 (hP.sub [0, 1, 2] rfl) (hD.sub [0, 1, 2] (by decide) rfl) hS ls (lv_sub hl [2, 3, 1, 0] rfl)
  refine lv_dc1 hx hb dX0_normOf_0 ?_
  refine lv_dstore_n (lv' := [(2, .double 4607182418800017408), (0, .ref o0), (1, .ref ax)]) hx hb dX0_normOf_1 rfl hl (by decide) rfl (fun ls hl => ?_)
  refine lv_iconst (v := 0) hx hb dX0_normOf_2 (by decide) ?_
  refine lv_istore (lv' := [(4, .int 0), (2, .double 4607182418800017408), (0, .ref o0), (1, .ref ax)]) hx hb dX0_normOf_3 hl (by decide) rfl (fun ls hl => ?_)
  exact LOOP n 0 4607182418800017408 (by omega) rfl _ _ _ hd0 (hP.sub [0, 1, 2] rfl) (hD.sub [0, 1, 2] (by decide) rfl) hS ls (lv_sub hl [2, 3, 1, 0] rfl)

theorem in_X0_add_X0 : ∀ w ∈ wsX00, w ∈ wsX0_add := by decide +kernel
set_option maxHeartbeats 4000000 in
set_option maxRecDepth 100000 in
/-- add -/
theorem m_X0_add (l : Launch) (G : va_G) (q : Nat → ClassId) (sz : Nat) (o0 aw ae ax n : Nat) (sq : Value) (kd th wa ta lf ce cd rs : Int32) (ou er : UInt64) (fw : Nat → UInt64) (xi : Nat → Int32) (j : Nat) (le : UInt64) (hn : n ≤ 8) (hj : j < n) : MetD lw_cs l yX0_add wsX0_add ({ frames := 1, cells := 0, slots := 0, locals := 23 } : Jvm.Room) (PreW G q [.ref o0, .int (nI j), .double le] [(o0, .inr (0, [.int kd, .ref aw, .ref ae, sq, .int th, .int wa, .int ta, .int lf, .double ou, .double er, .int ce, .int cd, .int rs])), (aw, aD q n fw)] sz) (va_Qv (fun (v : UInt64) => dV v = sUp (dV (fw j)) (dV le)) (fun (v : UInt64) t => EndA G (va_A [(o0, .inr (0, [.int kd, .ref aw, .ref ae, sq, .int th, .int wa, .int ta, .int lf, .double ou, .double er, .int ce, .int cd, .int rs])), (aw, aD q n fw)] sz) [(o0, .inr (0, [.int kd, .ref aw, .ref ae, sq, .int th, .int wa, .int ta, .int lf, .double ou, .double er, .int ce, .int cd, .int rs])), (aw, aD q n (vf_upd fw j v))] t) (va_A [(o0, .inr (0, [.int kd, .ref aw, .ref ae, sq, .int th, .int wa, .int ta, .int lf, .double ou, .double er, .int ce, .int cd, .int rs])), (aw, aD q n fw)] sz)) 0 0 (va_A [(o0, .inr (0, [.int kd, .ref aw, .ref ae, sq, .int th, .int wa, .int ta, .int lf, .double ou, .double er, .int ce, .int cd, .int rs])), (aw, aD q n fw)] sz) := by
  refine MetD.ofW (cc := cX0_add) (maxL := 4) (ret := none) (by decide +kernel) rfl ?_
  intro p e s m args below meth c s₁ B hml hv hd0
  obtain ⟨rfl, hsz, hP, hK, hD0, hNF⟩ := hv
  have hx := B.exec
  have hb := B.bytes
  have hr := B.returns
  have hts := atoms_spec (ws := wsX0_add) B.pre
  have hown : s.vm.findClass RX0 = some m.cls := findClass_of_methodNamed B.named
  have hlocks := B.notSynchronized
  subst hsz
  have hD := hD0.self (sz := s.heap.size)
  generalize hAe : va_A [(o0, .inr (0, [.int kd, .ref aw, .ref ae, sq, .int th, .int wa, .int ta, .int lf, .double ou, .double er, .int ce, .int cd, .int rs])), (aw, aD q n fw)] s.heap.size = A at hD ⊢
  have hA : ∀ q : Nat, s.heap.size ≤ q → A q := fun q h => by rw [← hAe]; exact Or.inr h
  have hS : va_S A s.heap s.heap [] := va_S.rf
  have hP : va_P G vwCl [(o0, .inr (0, [.int kd, .ref aw, .ref ae, sq, .int th, .int wa, .int ta, .int lf, .double ou, .double er, .int ce, .int cd, .int rs])), (aw, aD q n fw)] s.heap := hP
  have hl := lv_entry ([.ref o0, .int (nI j), .double le]) (n := 4) (Nat.le_of_ble_eq_true rfl)
  rw [lg_entry_eq]
  generalize (lg_sl ([.ref o0, .int (nI j), .double le]) ++ List.replicate (4 - (lg_sl ([.ref o0, .int (nI j), .double le])).length) Slot.unset).toArray = ls at hl ⊢
  have hl : lv_has ls 4 [(0, .ref o0), (1, .int (nI j)), (2, .double le)] := hl
  refine lv_iload_n hx hb dX0_add_0 rfl (lv_at hl 1 rfl) ?_
  refine lv_if_lt (tgt := 33) hx hb dX0_add_1 (by decide) (fun h => absurd h (Int32.not_lt.mpr (nI_pos' (by omega)))) (fun _ => ?_)
  refine lv_iload_n hx hb dX0_add_4 rfl (lv_at hl 1 rfl) ?_
  refine lv_aload_n hx hb dX0_add_5 rfl (lv_at hl 0 rfl) ?_
  refine va_get (D := G) (ci := 0) (v := .ref aw) (C := RX0) (T := TX0) (N := 13) hx hb (dr_words hts s.drawn) in_X0_add_X0 hown hK hP 0 rfl rfl 1 (by decide) (dr_words hts s.drawn (.fieldLink RX0 15 "EchoBench$Filter" "weights" "[D") (by decide +kernel)) (fun _ h9 => h9) rfl dX0_add_6 ?_
  refine va_alen (s := s.setDrawn s.drawn) (D := G) hx hb hK hP 1 1 rfl rfl (v := (nI n)) rfl dX0_add_9 ?_
  refine lv_icmp_ge (tgt := 33) hx hb dX0_add_10 (by decide) (fun h => absurd h (nI_ge hj (by omega))) (fun _ => ?_)
  refine lv_aload_n hx hb dX0_add_13 rfl (lv_at hl 0 rfl) ?_
  refine va_get (D := G) (ci := 0) (v := .ref aw) (C := RX0) (T := TX0) (N := 13) hx hb (dr_words hts s.drawn) in_X0_add_X0 hown hK hP 0 rfl rfl 1 (by decide) (dr_words hts s.drawn (.fieldLink RX0 15 "EchoBench$Filter" "weights" "[D") (by decide +kernel)) (fun _ h9 => h9) rfl dX0_add_14 ?_
  refine lv_iload_n hx hb dX0_add_17 rfl (lv_at hl 1 rfl) ?_
  refine lv_aload_n hx hb dX0_add_18 rfl (lv_at hl 0 rfl) ?_
  refine va_get (D := G) (ci := 0) (v := .ref aw) (C := RX0) (T := TX0) (N := 13) hx hb (dr_words hts s.drawn) in_X0_add_X0 hown hK hP 0 rfl rfl 1 (by decide) (dr_words hts s.drawn (.fieldLink RX0 15 "EchoBench$Filter" "weights" "[D") (by decide +kernel)) (fun _ h9 => h9) rfl dX0_add_19 ?_
  refine lv_iload_n hx hb dX0_add_22 rfl (lv_at hl 1 rfl) ?_
  refine va_daldJ (s := s.setDrawn s.drawn) hx hb hK hP 1 1 rfl rfl (j := j) rfl hj (by omega) dX0_add_23 ?_
  refine lv_dload_n hx hb dX0_add_24 rfl (lv_at hl 2 rfl) ?_
  refine lv_dadd_any hd0 lw_bits hx hb dX0_add_25 (fun r3 dr3 ar3 hr3 => ?_)
  have er3 := dV_add ar3
  refine lv_ldc2d hx hb hown (dr_words hts dr3 (.constantDouble RX0 123 4741671816366391296) (by decide +kernel)) dX0_add_26 ?_
  have hPc := hP.sub (ws' := []) [] rfl
  have hDc := hD.sub (ws' := []) [] (by decide) rfl
  have hFc := va_free (wc := []) hD hS hA [] rfl
  refine va_calld (va_runSN (As := [.double r3, .double 4741671816366391296]) (rest := [.int (nI j), .ref aw]) ⟨hx, hb, hml, hown, (dr_words hts dr3)⟩ (m_X3_heldTo l G q s.heap.size r3 4741671816366391296) ⟨va_cnB 2 (dr_words hts dr3) gX0_add_X3_heldTo_n125 rfl rfl rfl ((hNF.drawn dr3).1 (.methodLinkNest RX0 125 yX3_heldTo "EchoBench") (by decide +kernel)) (dr_words hts dr3 (.initialized RX3) (by decide +kernel)) (by decide +kernel) ⟨Nat.le_of_ble_eq_true rfl, Nat.le_of_ble_eq_true rfl⟩, (dr_words hts dr3 (.static yX3_heldTo) (by decide +kernel)), trivial⟩ ⟨preW_blind, preW_start (s := s.setDrawn dr3) hPc hK hDc (hNF.drawn dr3)⟩ rfl rfl hl.1 rfl (lv_room (Nat.le_of_ble_eq_true rfl)) dX0_add_29 ⟨(Nat.zero_le _), (Nat.zero_le _)⟩) hS (fun q _ h => hFc q h) hFc (fun v1 u9 t9 H1 locs ht9 hv9 hw hB9 hz9 hk9 hS => ?_)
  obtain ⟨⟩ := u9
  obtain ⟨hP1, hD1⟩ := hB9
  rw [ht9] at hP1
  obtain ⟨hP, hD⟩ := va_join (wr := [(o0, .inr (0, [.int kd, .ref aw, .ref ae, sq, .int th, .int wa, .int ta, .int lf, .double ou, .double er, .int ce, .int cd, .int rs])), (aw, aD q n fw)]) (w1 := []) hP hD [] [0, 1] rfl rfl (by decide) (by decide) hk9 hFc hP1 hD1
  generalize H1 = H at hP hS ⊢
  have hP : va_P G vwCl [(o0, .inr (0, [.int kd, .ref aw, .ref ae, sq, .int th, .int wa, .int ta, .int lf, .double ou, .double er, .int ce, .int cd, .int rs])), (aw, aD q n fw)] H := hP
  have hD : va_D A [(o0, .inr (0, [.int kd, .ref aw, .ref ae, sq, .int th, .int wa, .int ta, .int lf, .double ou, .double er, .int ce, .int cd, .int rs])), (aw, aD q n fw)] := hD
  have hv1 := hw
  refine va_dastJ (s := s.setDrawn dr3) hx hb hK hP hD hS 1 1 rfl rfl (j := j) rfl hj (by omega) dX0_add_32 (fun H locs hP hD hS => ?_)
  have hP : va_P G vwCl [(o0, .inr (0, [.int kd, .ref aw, .ref ae, sq, .int th, .int wa, .int ta, .int lf, .double ou, .double er, .int ce, .int cd, .int rs])), (aw, aD q n (vf_upd fw j v1))] H := hP
  have hD : va_D A [(o0, .inr (0, [.int kd, .ref aw, .ref ae, sq, .int th, .int wa, .int ta, .int lf, .double ou, .double er, .int ce, .int cd, .int rs])), (aw, aD q n (vf_upd fw j v1))] := hD
  have hP9 := hP
  have hD9 := hD
  refine W.endD hr3 ?_
  exact W.vret hx hb hr (fun t ht hW => ⟨⟨v1, rfl, by dsimp only; rw [hv1, er3]; rfl, by rw [ht]; exact hP9, hD9⟩, hS.F ht⟩) hS.2.2 dX0_add_33

theorem in_X0_lesson_X0 : ∀ w ∈ wsX00, w ∈ wsX0_lesson := by decide +kernel
set_option maxHeartbeats 4000000 in
set_option maxRecDepth 100000 in
/-- lesson -/
theorem m_X0_lesson (l : Launch) (G : va_G) (q : Nat → ClassId) (sz : Nat) (o0 aw ae : Nat) (sq : Value) (kd th wa ta lf ce cd rs : Int32) (ou er : UInt64) (x nm : UInt64)  : MetD lw_cs l yX0_lesson wsX0_lesson ({ frames := 0, cells := 0, slots := 0, locals := 0 } : Jvm.Room) (PreW G q [.ref o0, .double x, .double nm] [(o0, .inr (0, [.int kd, .ref aw, .ref ae, sq, .int th, .int wa, .int ta, .int lf, .double ou, .double er, .int ce, .int cd, .int rs]))] sz) (va_Qd (fun (r : UInt64) (_ : Unit) => dV r = sLes kd th (dV er) (dV x) (dV nm)) (fun (_ : Unit) t => EndA G (va_A [(o0, .inr (0, [.int kd, .ref aw, .ref ae, sq, .int th, .int wa, .int ta, .int lf, .double ou, .double er, .int ce, .int cd, .int rs]))] sz) [(o0, .inr (0, [.int kd, .ref aw, .ref ae, sq, .int th, .int wa, .int ta, .int lf, .double ou, .double er, .int ce, .int cd, .int rs]))] t) (va_A [(o0, .inr (0, [.int kd, .ref aw, .ref ae, sq, .int th, .int wa, .int ta, .int lf, .double ou, .double er, .int ce, .int cd, .int rs]))] sz)) 0 0 (va_A [(o0, .inr (0, [.int kd, .ref aw, .ref ae, sq, .int th, .int wa, .int ta, .int lf, .double ou, .double er, .int ce, .int cd, .int rs]))] sz) := by
  refine MetD.ofW (cc := cX0_lesson) (maxL := 7) (ret := (some .double)) (by decide +kernel) rfl ?_
  intro p e s m args below meth c s₁ B hml hv hd0
  obtain ⟨rfl, hsz, hP, hK, hD0, hNF⟩ := hv
  have hx := B.exec
  have hb := B.bytes
  have hr := B.returns
  have hts := atoms_spec (ws := wsX0_lesson) B.pre
  have hown : s.vm.findClass RX0 = some m.cls := findClass_of_methodNamed B.named
  have hlocks := B.notSynchronized
  subst hsz
  have hD := hD0.self (sz := s.heap.size)
  generalize hAe : va_A [(o0, .inr (0, [.int kd, .ref aw, .ref ae, sq, .int th, .int wa, .int ta, .int lf, .double ou, .double er, .int ce, .int cd, .int rs]))] s.heap.size = A at hD ⊢
  have hA : ∀ q : Nat, s.heap.size ≤ q → A q := fun q h => by rw [← hAe]; exact Or.inr h
  have hS : va_S A s.heap s.heap [] := va_S.rf
  have hP : va_P G vwCl [(o0, .inr (0, [.int kd, .ref aw, .ref ae, sq, .int th, .int wa, .int ta, .int lf, .double ou, .double er, .int ce, .int cd, .int rs]))] s.heap := hP
  have hl := lv_entry ([.ref o0, .double x, .double nm]) (n := 7) (Nat.le_of_ble_eq_true rfl)
  rw [lg_entry_eq]
  generalize (lg_sl ([.ref o0, .double x, .double nm]) ++ List.replicate (7 - (lg_sl ([.ref o0, .double x, .double nm])).length) Slot.unset).toArray = ls at hl ⊢
  have hl : lv_has ls 7 [(0, .ref o0), (1, .double x), (3, .double nm)] := hl
  refine lv_aload_n hx hb dX0_lesson_0 rfl (lv_at hl 0 rfl) ?_
  refine va_get (D := G) (ci := 0) (v := .int th) (C := RX0) (T := TX0) (N := 13) hx hb (dr_words hts s.drawn) in_X0_lesson_X0 hown hK hP 0 rfl rfl 4 (by decide) (dr_words hts s.drawn (.fieldLink RX0 31 "EchoBench$Filter" "thousandths" "I") (by decide +kernel)) (fun _ h9 => h9) rfl dX0_lesson_1 ?_
  refine lv_i2d hx hb dX0_lesson_4 ?_
  refine lv_ldc2d hx hb hown (dr_words hts s.drawn (.constantDouble RX0 110 4652007308841189376) (by decide +kernel)) dX0_lesson_5 ?_
  refine lv_ddiv_any hd0 lw_bits hx hb dX0_lesson_8 (fun r1 dr1 ar1 hr1 => ?_)
  have er1 := dV_div ar1
  refine lv_dstore (lv' := [(5, .double r1), (0, .ref o0), (1, .double x), (3, .double nm)]) hx hb dX0_lesson_9 hl (by decide) rfl (fun ls hl => ?_)
  refine lv_aload_n hx hb dX0_lesson_11 rfl (lv_at hl 1 rfl) ?_
  refine va_get (D := G) (ci := 0) (v := .int kd) (C := RX0) (T := TX0) (N := 13) hx hb (dr_words hts dr1) in_X0_lesson_X0 hown hK hP 0 rfl rfl 0 (by decide) (dr_words hts dr1 (.fieldLink RX0 9 "EchoBench$Filter" "kind" "I") (by decide +kernel)) (fun _ h9 => h9) rfl dX0_lesson_12 ?_
  by_cases k0 : kd = 0
  · skip
    rw [k0]
    refine lv_lookup (tgt := 40) hx hb dX0_lesson_15 (by decide) look0 (by decide) ?_
    rw [← k0]
    refine lv_dload hx hb dX0_lesson_40 (lv_at hl 0 rfl) ?_
    refine lv_aload_n hx hb dX0_lesson_42 rfl (lv_at hl 1 rfl) ?_
    refine va_get (D := G) (ci := 0) (v := .double er) (C := RX0) (T := TX0) (N := 13) hx hb (dr_words hts dr1) in_X0_lesson_X0 hown hK hP 0 rfl rfl 9 (by decide) (dr_words hts dr1 (.fieldLink RX0 50 "EchoBench$Filter" "error" "D") (by decide +kernel)) (fun _ h9 => h9) rfl dX0_lesson_43 ?_
    refine lv_dmul_any hr1 lw_bits hx hb dX0_lesson_46 (fun r2 dr2 ar2 hr2 => ?_)
    have er2 := dV_mul ar2
    refine lv_dload_n hx hb dX0_lesson_47 rfl (lv_at hl 2 rfl) ?_
    refine lv_dmul_any hr2 lw_bits hx hb dX0_lesson_48 (fun r3 dr3 ar3 hr3 => ?_)
    have er3 := dV_mul ar3
    have hP9 := hP
    have hD9 := hD
    refine W.endD hr3 ?_
    exact W.dret (v := r3) hx hb hr (fun t ht hW => ⟨⟨r3, (), rfl, by dsimp only; unfold sLes; rw [if_pos k0, er3, er2, er1]; rfl, by rw [ht]; exact hP9, hD9⟩, hS.F ht⟩) hS.2.2 dX0_lesson_49
  by_cases k1 : kd = 1
  · skip
    rw [k1]
    refine lv_lookup (tgt := 50) hx hb dX0_lesson_15 (by decide) look1 (by decide) ?_
    rw [← k1]
    refine lv_dload_n hx hb dX0_lesson_50 rfl (lv_at hl 3 rfl) ?_
    refine lv_dc1 hx hb dX0_lesson_51 ?_
    refine lv_dcmp hx hb dX0_lesson_52 ?_
    refine lv_if_lt (tgt := 70) hx hb dX0_lesson_53 (by decide) (fun c1 => ?_) (fun c1 => ?_)
    · skip
      rw [cl_lt, dcmp_fO] at c1
      refine lv_dc0 hx hb dX0_lesson_70 ?_
      have hP9 := hP
      have hD9 := hD
      refine W.endD hr1 ?_
      exact W.dret (v := 0) hx hb hr (fun t ht hW => ⟨⟨0, (), rfl, by dsimp only; unfold sLes; rw [if_neg k0, if_pos k1, if_pos c1], by rw [ht]; exact hP9, hD9⟩, hS.F ht⟩) hS.2.2 dX0_lesson_71
    · skip
      rw [cl_lt, dcmp_fO] at c1
      refine lv_dload hx hb dX0_lesson_56 (lv_at hl 0 rfl) ?_
      refine lv_aload_n hx hb dX0_lesson_58 rfl (lv_at hl 1 rfl) ?_
      refine va_get (D := G) (ci := 0) (v := .double er) (C := RX0) (T := TX0) (N := 13) hx hb (dr_words hts dr1) in_X0_lesson_X0 hown hK hP 0 rfl rfl 9 (by decide) (dr_words hts dr1 (.fieldLink RX0 50 "EchoBench$Filter" "error" "D") (by decide +kernel)) (fun _ h9 => h9) rfl dX0_lesson_59 ?_
      refine lv_dmul_any hr1 lw_bits hx hb dX0_lesson_62 (fun r4 dr4 ar4 hr4 => ?_)
      have er4 := dV_mul ar4
      refine lv_dload_n hx hb dX0_lesson_63 rfl (lv_at hl 2 rfl) ?_
      refine lv_dmul_any hr4 lw_bits hx hb dX0_lesson_64 (fun r5 dr5 ar5 hr5 => ?_)
      have er5 := dV_mul ar5
      refine lv_dload_n hx hb dX0_lesson_65 rfl (lv_at hl 3 rfl) ?_
      refine lv_ddiv_any hr5 lw_bits hx hb dX0_lesson_66 (fun r6 dr6 ar6 hr6 => ?_)
      have er6 := dV_div ar6
      refine lv_goto (tgt := 71) hx hb dX0_lesson_67 (by decide) ?_
      have hP9 := hP
      have hD9 := hD
      refine W.endD hr6 ?_
      exact W.dret (v := r6) hx hb hr (fun t ht hW => ⟨⟨r6, (), rfl, by dsimp only; unfold sLes; rw [if_neg k0, if_pos k1, if_neg c1, er6, er5, er4, er1]; rfl, by rw [ht]; exact hP9, hD9⟩, hS.F ht⟩) hS.2.2 dX0_lesson_71
  refine lv_lookup (tgt := 72) hx hb dX0_lesson_15 (by decide) (look2 k0 k1) (by decide) ?_
  refine lv_aload_n hx hb dX0_lesson_72 rfl (lv_at hl 1 rfl) ?_
  refine va_get (D := G) (ci := 0) (v := .double er) (C := RX0) (T := TX0) (N := 13) hx hb (dr_words hts dr1) in_X0_lesson_X0 hown hK hP 0 rfl rfl 9 (by decide) (dr_words hts dr1 (.fieldLink RX0 50 "EchoBench$Filter" "error" "D") (by decide +kernel)) (fun _ h9 => h9) rfl dX0_lesson_73 ?_
  refine lv_dc0 hx hb dX0_lesson_76 ?_
  refine lv_dcmp hx hb dX0_lesson_77 ?_
  refine lv_if_le (tgt := 88) hx hb dX0_lesson_78 (by decide) (fun c1 => ?_) (fun c1 => ?_)
  · skip
    rw [cl_le, dcmp_fO] at c1
    refine lv_aload_n hx hb dX0_lesson_88 rfl (lv_at hl 1 rfl) ?_
    refine va_get (D := G) (ci := 0) (v := .double er) (C := RX0) (T := TX0) (N := 13) hx hb (dr_words hts dr1) in_X0_lesson_X0 hown hK hP 0 rfl rfl 9 (by decide) (dr_words hts dr1 (.fieldLink RX0 50 "EchoBench$Filter" "error" "D") (by decide +kernel)) (fun _ h9 => h9) rfl dX0_lesson_89 ?_
    refine lv_dc0 hx hb dX0_lesson_92 ?_
    refine lv_dcmp hx hb dX0_lesson_93 ?_
    refine lv_if_ge (tgt := 105) hx hb dX0_lesson_94 (by decide) (fun c2 => ?_) (fun c2 => ?_)
    · skip
      rw [cg_ge, dcmp_fO] at c2
      refine lv_dc0 hx hb dX0_lesson_105 ?_
      have hP9 := hP
      have hD9 := hD
      refine W.endD hr1 ?_
      exact W.dret (v := 0) hx hb hr (fun t ht hW => ⟨⟨0, (), rfl, by dsimp only; unfold sLes; rw [if_neg k0, if_neg k1, if_neg c1, if_neg c2], by rw [ht]; exact hP9, hD9⟩, hS.F ht⟩) hS.2.2 dX0_lesson_106
    · skip
      rw [cg_ge, dcmp_fO, Classical.not_not] at c2
      refine lv_dload hx hb dX0_lesson_97 (lv_at hl 0 rfl) ?_
      refine lv_dload_n hx hb dX0_lesson_99 rfl (lv_at hl 2 rfl) ?_
      refine lv_dmul_any hr1 lw_bits hx hb dX0_lesson_100 (fun r7 dr7 ar7 hr7 => ?_)
      have er7 := dV_mul ar7
      refine lv_dneg hx hb dX0_lesson_101 ?_
      refine lv_goto (tgt := 106) hx hb dX0_lesson_102 (by decide) ?_
      have hP9 := hP
      have hD9 := hD
      refine W.endD hr7 ?_
      exact W.dret (v := (FP.dneg r7)) hx hb hr (fun t ht hW => ⟨⟨(FP.dneg r7), (), rfl, by dsimp only; unfold sLes; rw [if_neg k0, if_neg k1, if_neg c1, if_pos c2, dV_neg, er7, er1]; rfl, by rw [ht]; exact hP9, hD9⟩, hS.F ht⟩) hS.2.2 dX0_lesson_106
  · skip
    rw [cl_le, dcmp_fO, Classical.not_not] at c1
    refine lv_dload hx hb dX0_lesson_81 (lv_at hl 0 rfl) ?_
    refine lv_dload_n hx hb dX0_lesson_83 rfl (lv_at hl 2 rfl) ?_
    refine lv_dmul_any hr1 lw_bits hx hb dX0_lesson_84 (fun r8 dr8 ar8 hr8 => ?_)
    have er8 := dV_mul ar8
    refine lv_goto (tgt := 106) hx hb dX0_lesson_85 (by decide) ?_
    have hP9 := hP
    have hD9 := hD
    refine W.endD hr8 ?_
    exact W.dret (v := r8) hx hb hr (fun t ht hW => ⟨⟨r8, (), rfl, by dsimp only; unfold sLes; rw [if_neg k0, if_neg k1, if_pos c1, er8, er1]; rfl, by rw [ht]; exact hP9, hD9⟩, hS.F ht⟩) hS.2.2 dX0_lesson_106
