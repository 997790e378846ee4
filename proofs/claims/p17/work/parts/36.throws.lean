theorem out_03 {x : Int32} (h : ¬ (0 ≤ x ∧ x ≤ 3)) : x.toInt < 0 ∨ 3 < x.toInt := by
  by_cases z0 : x < 0
  · have := Int32.lt_iff_toInt_lt.mp z0
    rw [show (0 : Int32).toInt = 0 by decide] at this
    exact Or.inl this
  · have := Int32.lt_iff_toInt_lt.mp (Int32.not_le.mp (fun z3 => h ⟨Int32.not_lt.mp z0, z3⟩))
    rw [show (3 : Int32).toInt = 3 by decide] at this
    exact Or.inr this

theorem at_X3_path_A : ∀ w ∈ (vx_atS RX3 41 exA exN).filter goodWord, w ∈ wsX3_path := by
  intro w h
  unfold wsX3_path
  refine List.mem_cons_of_mem _ ?_
  repeat (first | exact List.mem_append_right _ h | refine List.mem_append_left _ ?_)
theorem at_X3_path_O : ∀ w ∈ (vx_atS RX3 34 exO exN).filter goodWord, w ∈ wsX3_path := by
  intro w h
  unfold wsX3_path
  refine List.mem_cons_of_mem _ ?_
  repeat (first | exact List.mem_append_right _ h | refine List.mem_append_left _ ?_)
set_option maxHeartbeats 4000000 in
set_option maxRecDepth 100000 in
/-- path: where it throws -/
theorem m_X3_path_x (l : Launch) (G : va_G) (q : Nat → ClassId) (sz : Nat) (hst : l.stackTraces = false) (o3 o1 af nf : Nat) (xp xh : Int32) (hc : ¬ pathC xp xh = 0) : vx_Met l yX3_path wsX3_path ({ frames := 6, cells := 1, slots := 6, locals := 100 } : Jvm.Room) (PreX G q [.ref o3, .int xp, .int xh] [(o3, .inr (3, [.ref o1, .ref af, .int (nI nf)]))] sz) (va_Qi (fun (_ : Int32) (_ : Unit) => False) (fun _ _ => True) (va_A [(o3, .inr (3, [.ref o1, .ref af, .int (nI nf)]))] sz)) (vx_X (fun (_ : Unit) => True) (fun E _ t => E = exE1 (pathC xp xh) ∧ EndA G (va_A [(o3, .inr (3, [.ref o1, .ref af, .int (nI nf)]))] sz) [(o3, .inr (3, [.ref o1, .ref af, .int (nI nf)]))] t) (va_A [(o3, .inr (3, [.ref o1, .ref af, .int (nI nf)]))] sz)) 1 6 (va_A [(o3, .inr (3, [.ref o1, .ref af, .int (nI nf)]))] sz) := by
  refine vx_ofW (cc := cX3_path) (maxL := 3) (ret := (some .int)) (by decide +kernel) rfl ?_
  intro p e s m args below meth c s₁ B hml htb hv
  obtain ⟨⟨rfl, hsz, hP, hK, hD0, hNF⟩, hNT⟩ := hv
  have hx := B.exec
  have hb := B.bytes
  have hr := B.returns
  have hts := atoms_spec (ws := wsX3_path) B.pre
  have hown : s.vm.findClass RX3 = some m.cls := findClass_of_methodNamed B.named
  have hlocks := B.notSynchronized
  subst hsz
  have hD := hD0.self (sz := s.heap.size)
  generalize hAe : va_A [(o3, .inr (3, [.ref o1, .ref af, .int (nI nf)]))] s.heap.size = A at hD hNT ⊢
  have hA : ∀ q : Nat, s.heap.size ≤ q → A q := fun q h => by rw [← hAe]; exact Or.inr h
  have hS : va_S A s.heap s.heap [] := va_S.rf
  have hP : va_P G vwCl [(o3, .inr (3, [.ref o1, .ref af, .int (nI nf)]))] s.heap := hP
  have hl := lv_entry ([.ref o3, .int xp, .int xh]) (n := 3) (Nat.le_of_ble_eq_true rfl)
  rw [lg_entry_eq]
  generalize (lg_sl ([.ref o3, .int xp, .int xh]) ++ List.replicate (3 - (lg_sl ([.ref o3, .int xp, .int xh])).length) Slot.unset).toArray = ls at hl ⊢
  have hl : lv_has ls 3 [(0, .ref o3), (1, .int xp), (2, .int xh)] := hl
  refine lv_iload_n hx hb dX3_path_0 rfl (lv_at hl 1 rfl) ?_
  refine lv_iconst (v := 0) hx hb dX3_path_1 (by decide) ?_
  refine lv_bipush (v := 7) hx hb dX3_path_2 (by decide) ?_
  have hPc := hP.sub (ws' := []) [] rfl
  have hDc := hD.sub (ws' := []) [] (by decide) rfl
  have hFc := va_free (wc := []) hD hS hA [] rfl
  refine va_calli (va_runS (As := [.int xp, .int 0, .int 7]) (rest := []) ⟨hx, hb, hml, hown, hts⟩ (m_X3_isWithin l G q s.heap.size xp 0 7) (va_cwS 3 hts gX3_path_X3_isWithin rfl rfl rfl (by decide +kernel) ⟨Nat.le_of_ble_eq_true rfl, Nat.le_of_ble_eq_true rfl⟩) ⟨preW_blind, preW_start hPc hK hDc hNF⟩ rfl rfl hl.1 rfl (lv_room (Nat.le_of_ble_eq_true rfl)) dX3_path_4 ⟨(by show _ ≤ 1; omega), (by show _ ≤ 6; omega)⟩) hS (fun q _ h => hFc q h) hFc (fun ri1 u9 t9 H1 locs ht9 hv9 hw hB9 hz9 hk9 hS => ?_)
  obtain ⟨⟩ := u9
  obtain ⟨hP1, hD1⟩ := hB9
  rw [ht9] at hP1
  obtain ⟨hP, hD⟩ := va_join (wr := [(o3, .inr (3, [.ref o1, .ref af, .int (nI nf)]))]) (w1 := []) hP hD [] [0] rfl rfl (by decide) (by decide) hk9 hFc hP1 hD1
  generalize H1 = H at hP hS ⊢
  have hP : va_P G vwCl [(o3, .inr (3, [.ref o1, .ref af, .int (nI nf)]))] H := hP
  have hD : va_D A [(o3, .inr (3, [.ref o1, .ref af, .int (nI nf)]))] := hD
  by_cases ci3 : 0 ≤ xp ∧ xp ≤ 7
  rotate_left
  · skip
    obtain rfl : ri1 = 0 := hw.trans (if_neg ci3)
    refine lv_if_ne (tgt := 20) hx hb dX3_path_7 (by decide) (fun h => absurd (by decide) h) (fun _ => ?_)
    obtain ⟨sa, hstr⟩ := hNT.1 (32, "no such place") (by decide)
    exact vx_throwS hx hb hst (own := RX3) (cls := exO) (text := "no such place") (names := exN) (ik := 30) (is := 32) (ic := 34) (A := A) hown (by decide +kernel) (by decide +kernel) (hts (.classLink RX3 30 exO) (by decide +kernel)) (hts (.initialized exO) (by decide +kernel)) hstr (vx_hat (fun w hw => hts w (at_X3_path_O w hw)) at_bO (NT.bad hNT)) at_oO hNT.2.2.1 hNT.2.2.2 hS (hl.1.trans hml.symm) dX3_path_10 dX3_path_13 dX3_path_14 dX3_path_16 dX3_path_19 (fun x hx => (htb x hx).elim) (Nat.le_of_ble_eq_true rfl) (Nat.le_of_ble_eq_true rfl) (Nat.le_of_ble_eq_true rfl) (Nat.le_of_ble_eq_true rfl) hlocks (fun t hv1 h1 h2 => ⟨(), trivial, ⟨(by unfold pathC; rw [if_neg ci3]; rfl), hP.kept (fun k x hk => h2 x.1 (hP k x hk).lt), hD⟩, Nat.le_trans hS.1 h1, fun z hz hA2 => (h2 z (Nat.lt_of_lt_of_le hz hS.1)).trans (hS.2.1 z hz hA2)⟩) hS.2.2 (Nat.le_of_ble_eq_true rfl) (Nat.le_of_ble_eq_true rfl)
  obtain rfl : ri1 = 1 := hw.trans (if_pos ci3)
  refine lv_if_ne (tgt := 20) hx hb dX3_path_7 (by decide) (fun _ => ?_) (fun h => absurd h (by decide))
  refine lv_iload_n hx hb dX3_path_20 rfl (lv_at hl 2 rfl) ?_
  refine lv_sipush (v := (-1000)) hx hb dX3_path_21 (by decide) ?_
  refine lv_sipush (v := 1000) hx hb dX3_path_24 (by decide) ?_
  have hPc := hP.sub (ws' := []) [] rfl
  have hDc := hD.sub (ws' := []) [] (by decide) rfl
  have hFc := va_free (wc := []) hD hS hA [] rfl
  refine va_calli (va_runS (As := [.int xh, .int (-1000), .int 1000]) (rest := []) ⟨hx, hb, hml, hown, hts⟩ (m_X3_isWithin l G q H.size xh (-1000) 1000) (va_cwS 3 hts gX3_path_X3_isWithin rfl rfl rfl (by decide +kernel) ⟨Nat.le_of_ble_eq_true rfl, Nat.le_of_ble_eq_true rfl⟩) ⟨preW_blind, preW_start hPc hK hDc hNF⟩ rfl rfl hl.1 rfl (lv_room (Nat.le_of_ble_eq_true rfl)) dX3_path_27 ⟨(by show _ ≤ 1; omega), (by show _ ≤ 6; omega)⟩) hS (fun q _ h => hFc q h) hFc (fun ri6 u9 t9 H1 locs ht9 hv9 hw hB9 hz9 hk9 hS => ?_)
  obtain ⟨⟩ := u9
  obtain ⟨hP1, hD1⟩ := hB9
  rw [ht9] at hP1
  obtain ⟨hP, hD⟩ := va_join (wr := [(o3, .inr (3, [.ref o1, .ref af, .int (nI nf)]))]) (w1 := []) hP hD [] [0] rfl rfl (by decide) (by decide) hk9 hFc hP1 hD1
  generalize H1 = H at hP hS ⊢
  have hP : va_P G vwCl [(o3, .inr (3, [.ref o1, .ref af, .int (nI nf)]))] H := hP
  have hD : va_D A [(o3, .inr (3, [.ref o1, .ref af, .int (nI nf)]))] := hD
  by_cases ci8 : (-1000) ≤ xh ∧ xh ≤ 1000
  rotate_left
  · skip
    obtain rfl : ri6 = 0 := hw.trans (if_neg ci8)
    refine lv_if_ne (tgt := 43) hx hb dX3_path_30 (by decide) (fun h => absurd (by decide) h) (fun _ => ?_)
    obtain ⟨sa, hstr⟩ := hNT.1 (39, "hundredths out of range") (by decide)
    exact vx_throwS hx hb hst (own := RX3) (cls := exA) (text := "hundredths out of range") (names := exN) (ik := 37) (is := 39) (ic := 41) (A := A) hown (by decide +kernel) (by decide +kernel) (hts (.classLink RX3 37 exA) (by decide +kernel)) (hts (.initialized exA) (by decide +kernel)) hstr (vx_hat (fun w hw => hts w (at_X3_path_A w hw)) at_bA (NT.bad hNT)) at_oA hNT.2.2.1 hNT.2.2.2 hS (hl.1.trans hml.symm) dX3_path_33 dX3_path_36 dX3_path_37 dX3_path_39 dX3_path_42 (fun x hx => (htb x hx).elim) (Nat.le_of_ble_eq_true rfl) (Nat.le_of_ble_eq_true rfl) (Nat.le_of_ble_eq_true rfl) (Nat.le_of_ble_eq_true rfl) hlocks (fun t hv1 h1 h2 => ⟨(), trivial, ⟨(by unfold pathC; rw [if_pos ci3, if_neg ci8]; rfl), hP.kept (fun k x hk => h2 x.1 (hP k x hk).lt), hD⟩, Nat.le_trans hS.1 h1, fun z hz hA2 => (h2 z (Nat.lt_of_lt_of_le hz hS.1)).trans (hS.2.1 z hz hA2)⟩) hS.2.2 (Nat.le_of_ble_eq_true rfl) (Nat.le_of_ble_eq_true rfl)
  obtain rfl : ri6 = 1 := hw.trans (if_pos ci8)
  refine lv_if_ne (tgt := 43) hx hb dX3_path_30 (by decide) (fun _ => ?_) (fun h => absurd h (by decide))
  refine lv_aload_n hx hb dX3_path_43 rfl (lv_at hl 0 rfl) ?_
  refine va_get (D := G) (ci := 3) (v := .ref o1) (C := RX3) (T := TX3) (N := 3) hx hb hts in_X3_path_X3 hown hK hP 0 rfl rfl 0 (by decide) (hts (.fieldLink RX3 10 "EchoBench" "samples" "LEchoBench$Samples;") (by decide +kernel)) (fun _ h9 => h9) rfl dX3_path_44 ?_
  refine lv_iload_n hx hb dX3_path_47 rfl (lv_at hl 1 rfl) ?_
  refine lv_iload_n hx hb dX3_path_48 rfl (lv_at hl 2 rfl) ?_
  exact absurd (by unfold pathC; rw [if_pos ci3, if_pos ci8]) hc

theorem at_X3_begin_O : ∀ w ∈ (vx_atS RX3 34 exO exN).filter goodWord, w ∈ wsX3_begin := by
  intro w h
  unfold wsX3_begin
  refine List.mem_cons_of_mem _ ?_
  repeat (first | exact List.mem_append_right _ h | refine List.mem_append_left _ ?_)
set_option maxHeartbeats 4000000 in
set_option maxRecDepth 100000 in
/-- begin: where it throws -/
theorem m_X3_begin_x1 (l : Launch) (G : va_G) (q : Nat → ClassId) (sz : Nat) (hst : l.stackTraces = false) (o3 o1 af nf : Nat) (oa : Nat → Nat) (f : Int32)  (hnf : nf ≤ 6) (hc : ¬ isF f (nI nf)) : vx_Met l yX3_begin wsX3_begin ({ frames := 6, cells := 1, slots := 6, locals := 100 } : Jvm.Room) (PreX G q [.ref o3, .int f] [(o3, .inr (3, [.ref o1, .ref af, .int (nI nf)])), (af, aF q 6 (fun j => if j < nf then some (oa j) else none))] sz) (va_Qv (fun (_ : Unit) => False) (fun _ _ => True) (va_A [(o3, .inr (3, [.ref o1, .ref af, .int (nI nf)])), (af, aF q 6 (fun j => if j < nf then some (oa j) else none))] sz)) (vx_X (fun (_ : Unit) => True) (fun E _ t => E = exO ∧ EndA G (va_A [(o3, .inr (3, [.ref o1, .ref af, .int (nI nf)])), (af, aF q 6 (fun j => if j < nf then some (oa j) else none))] sz) [(o3, .inr (3, [.ref o1, .ref af, .int (nI nf)])), (af, aF q 6 (fun j => if j < nf then some (oa j) else none))] t) (va_A [(o3, .inr (3, [.ref o1, .ref af, .int (nI nf)])), (af, aF q 6 (fun j => if j < nf then some (oa j) else none))] sz)) 1 6 (va_A [(o3, .inr (3, [.ref o1, .ref af, .int (nI nf)])), (af, aF q 6 (fun j => if j < nf then some (oa j) else none))] sz) := by
  refine vx_ofW (cc := cX3_begin) (maxL := 3) (ret := none) (by decide +kernel) rfl ?_
  intro p e s m args below meth c s₁ B hml htb hv
  obtain ⟨⟨rfl, hsz, hP, hK, hD0, hNF⟩, hNT⟩ := hv
  have hx := B.exec
  have hb := B.bytes
  have hr := B.returns
  have hts := atoms_spec (ws := wsX3_begin) B.pre
  have hown : s.vm.findClass RX3 = some m.cls := findClass_of_methodNamed B.named
  have hlocks := B.notSynchronized
  subst hsz
  have hD := hD0.self (sz := s.heap.size)
  generalize hAe : va_A [(o3, .inr (3, [.ref o1, .ref af, .int (nI nf)])), (af, aF q 6 (fun j => if j < nf then some (oa j) else none))] s.heap.size = A at hD hNT ⊢
  have hA : ∀ q : Nat, s.heap.size ≤ q → A q := fun q h => by rw [← hAe]; exact Or.inr h
  have hS : va_S A s.heap s.heap [] := va_S.rf
  have hP : va_P G vwCl [(o3, .inr (3, [.ref o1, .ref af, .int (nI nf)])), (af, aF q 6 (fun j => if j < nf then some (oa j) else none))] s.heap := hP
  have hl := lv_entry ([.ref o3, .int f]) (n := 3) (Nat.le_of_ble_eq_true rfl)
  rw [lg_entry_eq]
  generalize (lg_sl ([.ref o3, .int f]) ++ List.replicate (3 - (lg_sl ([.ref o3, .int f])).length) Slot.unset).toArray = ls at hl ⊢
  have hl : lv_has ls 3 [(0, .ref o3), (1, .int f)] := hl
  refine lv_aload_n hx hb dX3_begin_0 rfl (lv_at hl 0 rfl) ?_
  refine lv_iload_n hx hb dX3_begin_1 rfl (lv_at hl 1 rfl) ?_
  have hPc := hP.sub (ws' := [(o3, .inr (3, [.ref o1, .ref af, .int (nI nf)])), (af, aF q 6 (fun j => if j < nf then some (oa j) else none))]) [0, 1] rfl
  have hDc := hD.sub (ws' := [(o3, .inr (3, [.ref o1, .ref af, .int (nI nf)])), (af, aF q 6 (fun j => if j < nf then some (oa j) else none))]) [0, 1] (by decide) rfl
  have hFc := va_free (wc := [(o3, .inr (3, [.ref o1, .ref af, .int (nI nf)])), (af, aF q 6 (fun j => if j < nf then some (oa j) else none))]) hD hS hA [0, 1] rfl
  refine va_callq (va_runV (As := [.int f]) (rest := []) ⟨hx, hb, hml, hown, hts⟩ (m_X3_numbered_no l G q s.heap.size o3 o1 af nf oa f hnf hc) (cwV 1 hts gX3_begin_X3_numbered rfl rfl rfl (by decide +kernel) ⟨Nat.le_of_ble_eq_true rfl, Nat.le_of_ble_eq_true rfl⟩) ⟨preW_blind, (va_recv hK hPc (ci := 3) (q0 := 0) rfl rfl), preW_start hPc hK hDc hNF⟩ rfl rfl hl.1 rfl (lv_room (Nat.le_of_ble_eq_true rfl)) dX3_begin_2 ⟨(by show _ ≤ 1; omega), (by show _ ≤ 6; omega)⟩) hS (fun q _ h => hFc q h) hFc (fun fr1 u9 t9 H1 locs ht9 hv9 hw hB9 hz9 hk9 hS => ?_)
  obtain ⟨⟩ := u9
  obtain ⟨hP1, hD1⟩ := hB9
  rw [ht9] at hP1
  obtain ⟨hP, hD⟩ := va_join (wr := []) (w1 := [(o3, .inr (3, [.ref o1, .ref af, .int (nI nf)])), (af, aF q 6 (fun j => if j < nf then some (oa j) else none))]) hP hD [0, 1] [] rfl rfl (by decide) (by decide) hk9 hFc hP1 hD1
  generalize H1 = H at hP hS ⊢
  have hP : va_P G vwCl [(o3, .inr (3, [.ref o1, .ref af, .int (nI nf)])), (af, aF q 6 (fun j => if j < nf then some (oa j) else none))] H := hP
  have hD : va_D A [(o3, .inr (3, [.ref o1, .ref af, .int (nI nf)])), (af, aF q 6 (fun j => if j < nf then some (oa j) else none))] := hD
  obtain rfl : fr1 = none := hw
  refine lv_astore_nN (lv' := [(2, .null), (0, .ref o3), (1, .int f)]) hx hb dX3_begin_5 rfl hl (by decide) rfl (fun ls hl => ?_)
  refine lv_aload_nN hx hb dX3_begin_6 rfl (lv_at hl 0 rfl) ?_
  refine lv_ifnonnullN hx hb dX3_begin_7 ?_
  obtain ⟨sa, hstr⟩ := hNT.1 (68, "no such filter") (by decide)
  exact vx_throwS hx hb hst (own := RX3) (cls := exO) (text := "no such filter") (names := exN) (ik := 30) (is := 68) (ic := 34) (A := A) hown (by decide +kernel) (by decide +kernel) (hts (.classLink RX3 30 exO) (by decide +kernel)) (hts (.initialized exO) (by decide +kernel)) hstr (vx_hat (fun w hw => hts w (at_X3_begin_O w hw)) at_bO (NT.bad hNT)) at_oO hNT.2.2.1 hNT.2.2.2 hS (hl.1.trans hml.symm) dX3_begin_10 dX3_begin_13 dX3_begin_14 dX3_begin_16 dX3_begin_19 (fun x hx => (htb x hx).elim) (Nat.le_of_ble_eq_true rfl) (Nat.le_of_ble_eq_true rfl) (Nat.le_of_ble_eq_true rfl) (Nat.le_of_ble_eq_true rfl) hlocks (fun t hv1 h1 h2 => ⟨(), trivial, ⟨rfl, hP.kept (fun k x hk => h2 x.1 (hP k x hk).lt), hD⟩, Nat.le_trans hS.1 h1, fun z hz hA2 => (h2 z (Nat.lt_of_lt_of_le hz hS.1)).trans (hS.2.1 z hz hA2)⟩) hS.2.2 (Nat.le_of_ble_eq_true rfl) (Nat.le_of_ble_eq_true rfl)

theorem at_X3_step_O : ∀ w ∈ (vx_atS RX3 34 exO exN).filter goodWord, w ∈ wsX3_step := by
  intro w h
  unfold wsX3_step
  refine List.mem_cons_of_mem _ ?_
  repeat (first | exact List.mem_append_right _ h | refine List.mem_append_left _ ?_)
set_option maxHeartbeats 4000000 in
set_option maxRecDepth 100000 in
/-- step: where it throws -/
theorem m_X3_step_x1 (l : Launch) (G : va_G) (q : Nat → ClassId) (sz : Nat) (hst : l.stackTraces = false) (o3 o1 af nf : Nat) (oa : Nat → Nat) (f : Int32) (xa : Int32) (hnf : nf ≤ 6) (hc : ¬ isF f (nI nf)) : vx_Met l yX3_step wsX3_step ({ frames := 6, cells := 1, slots := 6, locals := 100 } : Jvm.Room) (PreX G q [.ref o3, .int f, .int xa] [(o3, .inr (3, [.ref o1, .ref af, .int (nI nf)])), (af, aF q 6 (fun j => if j < nf then some (oa j) else none))] sz) (va_Qi (fun (_ : Int32) (_ : Unit) => False) (fun _ _ => True) (va_A [(o3, .inr (3, [.ref o1, .ref af, .int (nI nf)])), (af, aF q 6 (fun j => if j < nf then some (oa j) else none))] sz)) (vx_X (fun (_ : Unit) => True) (fun E _ t => E = exO ∧ EndA G (va_A [(o3, .inr (3, [.ref o1, .ref af, .int (nI nf)])), (af, aF q 6 (fun j => if j < nf then some (oa j) else none))] sz) [(o3, .inr (3, [.ref o1, .ref af, .int (nI nf)])), (af, aF q 6 (fun j => if j < nf then some (oa j) else none))] t) (va_A [(o3, .inr (3, [.ref o1, .ref af, .int (nI nf)])), (af, aF q 6 (fun j => if j < nf then some (oa j) else none))] sz)) 1 6 (va_A [(o3, .inr (3, [.ref o1, .ref af, .int (nI nf)])), (af, aF q 6 (fun j => if j < nf then some (oa j) else none))] sz) := by
  refine vx_ofW (cc := cX3_step) (maxL := 5) (ret := (some .int)) (by decide +kernel) rfl ?_
  intro p e s m args below meth c s₁ B hml htb hv
  obtain ⟨⟨rfl, hsz, hP, hK, hD0, hNF⟩, hNT⟩ := hv
  have hx := B.exec
  have hb := B.bytes
  have hr := B.returns
  have hts := atoms_spec (ws := wsX3_step) B.pre
  have hown : s.vm.findClass RX3 = some m.cls := findClass_of_methodNamed B.named
  have hlocks := B.notSynchronized
  subst hsz
  have hD := hD0.self (sz := s.heap.size)
  generalize hAe : va_A [(o3, .inr (3, [.ref o1, .ref af, .int (nI nf)])), (af, aF q 6 (fun j => if j < nf then some (oa j) else none))] s.heap.size = A at hD hNT ⊢
  have hA : ∀ q : Nat, s.heap.size ≤ q → A q := fun q h => by rw [← hAe]; exact Or.inr h
  have hS : va_S A s.heap s.heap [] := va_S.rf
  have hP : va_P G vwCl [(o3, .inr (3, [.ref o1, .ref af, .int (nI nf)])), (af, aF q 6 (fun j => if j < nf then some (oa j) else none))] s.heap := hP
  have hl := lv_entry ([.ref o3, .int f, .int xa]) (n := 5) (Nat.le_of_ble_eq_true rfl)
  rw [lg_entry_eq]
  generalize (lg_sl ([.ref o3, .int f, .int xa]) ++ List.replicate (5 - (lg_sl ([.ref o3, .int f, .int xa])).length) Slot.unset).toArray = ls at hl ⊢
  have hl : lv_has ls 5 [(0, .ref o3), (1, .int f), (2, .int xa)] := hl
  refine lv_aload_n hx hb dX3_step_0 rfl (lv_at hl 0 rfl) ?_
  refine lv_iload_n hx hb dX3_step_1 rfl (lv_at hl 1 rfl) ?_
  have hPc := hP.sub (ws' := [(o3, .inr (3, [.ref o1, .ref af, .int (nI nf)])), (af, aF q 6 (fun j => if j < nf then some (oa j) else none))]) [0, 1] rfl
  have hDc := hD.sub (ws' := [(o3, .inr (3, [.ref o1, .ref af, .int (nI nf)])), (af, aF q 6 (fun j => if j < nf then some (oa j) else none))]) [0, 1] (by decide) rfl
  have hFc := va_free (wc := [(o3, .inr (3, [.ref o1, .ref af, .int (nI nf)])), (af, aF q 6 (fun j => if j < nf then some (oa j) else none))]) hD hS hA [0, 1] rfl
  refine va_callq (va_runV (As := [.int f]) (rest := []) ⟨hx, hb, hml, hown, hts⟩ (m_X3_numbered_no l G q s.heap.size o3 o1 af nf oa f hnf hc) (cwV 1 hts gX3_step_X3_numbered rfl rfl rfl (by decide +kernel) ⟨Nat.le_of_ble_eq_true rfl, Nat.le_of_ble_eq_true rfl⟩) ⟨preW_blind, (va_recv hK hPc (ci := 3) (q0 := 0) rfl rfl), preW_start hPc hK hDc hNF⟩ rfl rfl hl.1 rfl (lv_room (Nat.le_of_ble_eq_true rfl)) dX3_step_2 ⟨(by show _ ≤ 1; omega), (by show _ ≤ 6; omega)⟩) hS (fun q _ h => hFc q h) hFc (fun fr1 u9 t9 H1 locs ht9 hv9 hw hB9 hz9 hk9 hS => ?_)
  obtain ⟨⟩ := u9
  obtain ⟨hP1, hD1⟩ := hB9
  rw [ht9] at hP1
  obtain ⟨hP, hD⟩ := va_join (wr := []) (w1 := [(o3, .inr (3, [.ref o1, .ref af, .int (nI nf)])), (af, aF q 6 (fun j => if j < nf then some (oa j) else none))]) hP hD [0, 1] [] rfl rfl (by decide) (by decide) hk9 hFc hP1 hD1
  generalize H1 = H at hP hS ⊢
  have hP : va_P G vwCl [(o3, .inr (3, [.ref o1, .ref af, .int (nI nf)])), (af, aF q 6 (fun j => if j < nf then some (oa j) else none))] H := hP
  have hD : va_D A [(o3, .inr (3, [.ref o1, .ref af, .int (nI nf)])), (af, aF q 6 (fun j => if j < nf then some (oa j) else none))] := hD
  obtain rfl : fr1 = none := hw
  refine lv_astore_nN (lv' := [(3, .null), (0, .ref o3), (1, .int f), (2, .int xa)]) hx hb dX3_step_5 rfl hl (by decide) rfl (fun ls hl => ?_)
  refine lv_aload_nN hx hb dX3_step_6 rfl (lv_at hl 0 rfl) ?_
  refine lv_ifnonnullN hx hb dX3_step_7 ?_
  obtain ⟨sa, hstr⟩ := hNT.1 (68, "no such filter") (by decide)
  exact vx_throwS hx hb hst (own := RX3) (cls := exO) (text := "no such filter") (names := exN) (ik := 30) (is := 68) (ic := 34) (A := A) hown (by decide +kernel) (by decide +kernel) (hts (.classLink RX3 30 exO) (by decide +kernel)) (hts (.initialized exO) (by decide +kernel)) hstr (vx_hat (fun w hw => hts w (at_X3_step_O w hw)) at_bO (NT.bad hNT)) at_oO hNT.2.2.1 hNT.2.2.2 hS (hl.1.trans hml.symm) dX3_step_10 dX3_step_13 dX3_step_14 dX3_step_16 dX3_step_19 (fun x hx => (htb x hx).elim) (Nat.le_of_ble_eq_true rfl) (Nat.le_of_ble_eq_true rfl) (Nat.le_of_ble_eq_true rfl) (Nat.le_of_ble_eq_true rfl) hlocks (fun t hv1 h1 h2 => ⟨(), trivial, ⟨rfl, hP.kept (fun k x hk => h2 x.1 (hP k x hk).lt), hD⟩, Nat.le_trans hS.1 h1, fun z hz hA2 => (h2 z (Nat.lt_of_lt_of_le hz hS.1)).trans (hS.2.1 z hz hA2)⟩) hS.2.2 (Nat.le_of_ble_eq_true rfl) (Nat.le_of_ble_eq_true rfl)

theorem at_X3_watch_O : ∀ w ∈ (vx_atS RX3 34 exO exN).filter goodWord, w ∈ wsX3_watch := by
  intro w h
  unfold wsX3_watch
  refine List.mem_cons_of_mem _ ?_
  repeat (first | exact List.mem_append_right _ h | refine List.mem_append_left _ ?_)
set_option maxHeartbeats 4000000 in
set_option maxRecDepth 100000 in
/-- watch: where it throws -/
theorem m_X3_watch_x1 (l : Launch) (G : va_G) (q : Nat → ClassId) (sz : Nat) (hst : l.stackTraces = false) (o3 o1 af nf : Nat) (oa : Nat → Nat) (f : Int32) (xa xb : Int32) (hnf : nf ≤ 6) (hc : ¬ isF f (nI nf)) : vx_Met l yX3_watch wsX3_watch ({ frames := 6, cells := 1, slots := 6, locals := 100 } : Jvm.Room) (PreX G q [.ref o3, .int f, .int xa, .int xb] [(o3, .inr (3, [.ref o1, .ref af, .int (nI nf)])), (af, aF q 6 (fun j => if j < nf then some (oa j) else none))] sz) (va_Qv (fun (_ : Unit) => False) (fun _ _ => True) (va_A [(o3, .inr (3, [.ref o1, .ref af, .int (nI nf)])), (af, aF q 6 (fun j => if j < nf then some (oa j) else none))] sz)) (vx_X (fun (_ : Unit) => True) (fun E _ t => E = exO ∧ EndA G (va_A [(o3, .inr (3, [.ref o1, .ref af, .int (nI nf)])), (af, aF q 6 (fun j => if j < nf then some (oa j) else none))] sz) [(o3, .inr (3, [.ref o1, .ref af, .int (nI nf)])), (af, aF q 6 (fun j => if j < nf then some (oa j) else none))] t) (va_A [(o3, .inr (3, [.ref o1, .ref af, .int (nI nf)])), (af, aF q 6 (fun j => if j < nf then some (oa j) else none))] sz)) 1 6 (va_A [(o3, .inr (3, [.ref o1, .ref af, .int (nI nf)])), (af, aF q 6 (fun j => if j < nf then some (oa j) else none))] sz) := by
  refine vx_ofW (cc := cX3_watch) (maxL := 5) (ret := none) (by decide +kernel) rfl ?_
  intro p e s m args below meth c s₁ B hml htb hv
  obtain ⟨⟨rfl, hsz, hP, hK, hD0, hNF⟩, hNT⟩ := hv
  have hx := B.exec
  have hb := B.bytes
  have hr := B.returns
  have hts := atoms_spec (ws := wsX3_watch) B.pre
  have hown : s.vm.findClass RX3 = some m.cls := findClass_of_methodNamed B.named
  have hlocks := B.notSynchronized
  subst hsz
  have hD := hD0.self (sz := s.heap.size)
  generalize hAe : va_A [(o3, .inr (3, [.ref o1, .ref af, .int (nI nf)])), (af, aF q 6 (fun j => if j < nf then some (oa j) else none))] s.heap.size = A at hD hNT ⊢
  have hA : ∀ q : Nat, s.heap.size ≤ q → A q := fun q h => by rw [← hAe]; exact Or.inr h
  have hS : va_S A s.heap s.heap [] := va_S.rf
  have hP : va_P G vwCl [(o3, .inr (3, [.ref o1, .ref af, .int (nI nf)])), (af, aF q 6 (fun j => if j < nf then some (oa j) else none))] s.heap := hP
  have hl := lv_entry ([.ref o3, .int f, .int xa, .int xb]) (n := 5) (Nat.le_of_ble_eq_true rfl)
  rw [lg_entry_eq]
  generalize (lg_sl ([.ref o3, .int f, .int xa, .int xb]) ++ List.replicate (5 - (lg_sl ([.ref o3, .int f, .int xa, .int xb])).length) Slot.unset).toArray = ls at hl ⊢
  have hl : lv_has ls 5 [(0, .ref o3), (1, .int f), (2, .int xa), (3, .int xb)] := hl
  refine lv_aload_n hx hb dX3_watch_0 rfl (lv_at hl 0 rfl) ?_
  refine lv_iload_n hx hb dX3_watch_1 rfl (lv_at hl 1 rfl) ?_
  have hPc := hP.sub (ws' := [(o3, .inr (3, [.ref o1, .ref af, .int (nI nf)])), (af, aF q 6 (fun j => if j < nf then some (oa j) else none))]) [0, 1] rfl
  have hDc := hD.sub (ws' := [(o3, .inr (3, [.ref o1, .ref af, .int (nI nf)])), (af, aF q 6 (fun j => if j < nf then some (oa j) else none))]) [0, 1] (by decide) rfl
  have hFc := va_free (wc := [(o3, .inr (3, [.ref o1, .ref af, .int (nI nf)])), (af, aF q 6 (fun j => if j < nf then some (oa j) else none))]) hD hS hA [0, 1] rfl
  refine va_callq (va_runV (As := [.int f]) (rest := []) ⟨hx, hb, hml, hown, hts⟩ (m_X3_numbered_no l G q s.heap.size o3 o1 af nf oa f hnf hc) (cwV 1 hts gX3_watch_X3_numbered rfl rfl rfl (by decide +kernel) ⟨Nat.le_of_ble_eq_true rfl, Nat.le_of_ble_eq_true rfl⟩) ⟨preW_blind, (va_recv hK hPc (ci := 3) (q0 := 0) rfl rfl), preW_start hPc hK hDc hNF⟩ rfl rfl hl.1 rfl (lv_room (Nat.le_of_ble_eq_true rfl)) dX3_watch_2 ⟨(by show _ ≤ 1; omega), (by show _ ≤ 6; omega)⟩) hS (fun q _ h => hFc q h) hFc (fun fr1 u9 t9 H1 locs ht9 hv9 hw hB9 hz9 hk9 hS => ?_)
  obtain ⟨⟩ := u9
  obtain ⟨hP1, hD1⟩ := hB9
  rw [ht9] at hP1
  obtain ⟨hP, hD⟩ := va_join (wr := []) (w1 := [(o3, .inr (3, [.ref o1, .ref af, .int (nI nf)])), (af, aF q 6 (fun j => if j < nf then some (oa j) else none))]) hP hD [0, 1] [] rfl rfl (by decide) (by decide) hk9 hFc hP1 hD1
  generalize H1 = H at hP hS ⊢
  have hP : va_P G vwCl [(o3, .inr (3, [.ref o1, .ref af, .int (nI nf)])), (af, aF q 6 (fun j => if j < nf then some (oa j) else none))] H := hP
  have hD : va_D A [(o3, .inr (3, [.ref o1, .ref af, .int (nI nf)])), (af, aF q 6 (fun j => if j < nf then some (oa j) else none))] := hD
  obtain rfl : fr1 = none := hw
  refine lv_astoreN (lv' := [(4, .null), (0, .ref o3), (1, .int f), (2, .int xa), (3, .int xb)]) hx hb dX3_watch_5 hl (by decide) rfl (fun ls hl => ?_)
  refine lv_aloadN hx hb dX3_watch_7 (lv_at hl 0 rfl) ?_
  refine lv_ifnonnullN hx hb dX3_watch_9 ?_
  obtain ⟨sa, hstr⟩ := hNT.1 (68, "no such filter") (by decide)
  exact vx_throwS hx hb hst (own := RX3) (cls := exO) (text := "no such filter") (names := exN) (ik := 30) (is := 68) (ic := 34) (A := A) hown (by decide +kernel) (by decide +kernel) (hts (.classLink RX3 30 exO) (by decide +kernel)) (hts (.initialized exO) (by decide +kernel)) hstr (vx_hat (fun w hw => hts w (at_X3_watch_O w hw)) at_bO (NT.bad hNT)) at_oO hNT.2.2.1 hNT.2.2.2 hS (hl.1.trans hml.symm) dX3_watch_12 dX3_watch_15 dX3_watch_16 dX3_watch_18 dX3_watch_21 (fun x hx => (htb x hx).elim) (Nat.le_of_ble_eq_true rfl) (Nat.le_of_ble_eq_true rfl) (Nat.le_of_ble_eq_true rfl) (Nat.le_of_ble_eq_true rfl) hlocks (fun t hv1 h1 h2 => ⟨(), trivial, ⟨rfl, hP.kept (fun k x hk => h2 x.1 (hP k x hk).lt), hD⟩, Nat.le_trans hS.1 h1, fun z hz hA2 => (h2 z (Nat.lt_of_lt_of_le hz hS.1)).trans (hS.2.1 z hz hA2)⟩) hS.2.2 (Nat.le_of_ble_eq_true rfl) (Nat.le_of_ble_eq_true rfl)

theorem at_X3_weight_O : ∀ w ∈ (vx_atS RX3 34 exO exN).filter goodWord, w ∈ wsX3_weight := by
  intro w h
  unfold wsX3_weight
  refine List.mem_cons_of_mem _ ?_
  repeat (first | exact List.mem_append_right _ h | refine List.mem_append_left _ ?_)
set_option maxHeartbeats 4000000 in
set_option maxRecDepth 100000 in
/-- weight: where it throws -/
theorem m_X3_weight_x1 (l : Launch) (G : va_G) (q : Nat → ClassId) (sz : Nat) (hst : l.stackTraces = false) (o3 o1 af nf : Nat) (oa : Nat → Nat) (f : Int32) (xa : Int32) (hnf : nf ≤ 6) (hc : ¬ isF f (nI nf)) : vx_Met l yX3_weight wsX3_weight ({ frames := 6, cells := 1, slots := 6, locals := 100 } : Jvm.Room) (PreX G q [.ref o3, .int f, .int xa] [(o3, .inr (3, [.ref o1, .ref af, .int (nI nf)])), (af, aF q 6 (fun j => if j < nf then some (oa j) else none))] sz) (va_Qd (fun (_ : UInt64) (_ : Unit) => False) (fun _ _ => True) (va_A [(o3, .inr (3, [.ref o1, .ref af, .int (nI nf)])), (af, aF q 6 (fun j => if j < nf then some (oa j) else none))] sz)) (vx_X (fun (_ : Unit) => True) (fun E _ t => E = exO ∧ EndA G (va_A [(o3, .inr (3, [.ref o1, .ref af, .int (nI nf)])), (af, aF q 6 (fun j => if j < nf then some (oa j) else none))] sz) [(o3, .inr (3, [.ref o1, .ref af, .int (nI nf)])), (af, aF q 6 (fun j => if j < nf then some (oa j) else none))] t) (va_A [(o3, .inr (3, [.ref o1, .ref af, .int (nI nf)])), (af, aF q 6 (fun j => if j < nf then some (oa j) else none))] sz)) 1 6 (va_A [(o3, .inr (3, [.ref o1, .ref af, .int (nI nf)])), (af, aF q 6 (fun j => if j < nf then some (oa j) else none))] sz) := by
  refine vx_ofW (cc := cX3_weight) (maxL := 4) (ret := (some .double)) (by decide +kernel) rfl ?_
  intro p e s m args below meth c s₁ B hml htb hv
  obtain ⟨⟨rfl, hsz, hP, hK, hD0, hNF⟩, hNT⟩ := hv
  have hx := B.exec
  have hb := B.bytes
  have hr := B.returns
  have hts := atoms_spec (ws := wsX3_weight) B.pre
  have hown : s.vm.findClass RX3 = some m.cls := findClass_of_methodNamed B.named
  have hlocks := B.notSynchronized
  subst hsz
  have hD := hD0.self (sz := s.heap.size)
  generalize hAe : va_A [(o3, .inr (3, [.ref o1, .ref af, .int (nI nf)])), (af, aF q 6 (fun j => if j < nf then some (oa j) else none))] s.heap.size = A at hD hNT ⊢
  have hA : ∀ q : Nat, s.heap.size ≤ q → A q := fun q h => by rw [← hAe]; exact Or.inr h
  have hS : va_S A s.heap s.heap [] := va_S.rf
  have hP : va_P G vwCl [(o3, .inr (3, [.ref o1, .ref af, .int (nI nf)])), (af, aF q 6 (fun j => if j < nf then some (oa j) else none))] s.heap := hP
  have hl := lv_entry ([.ref o3, .int f, .int xa]) (n := 4) (Nat.le_of_ble_eq_true rfl)
  rw [lg_entry_eq]
  generalize (lg_sl ([.ref o3, .int f, .int xa]) ++ List.replicate (4 - (lg_sl ([.ref o3, .int f, .int xa])).length) Slot.unset).toArray = ls at hl ⊢
  have hl : lv_has ls 4 [(0, .ref o3), (1, .int f), (2, .int xa)] := hl
  refine lv_aload_n hx hb dX3_weight_0 rfl (lv_at hl 0 rfl) ?_
  refine lv_iload_n hx hb dX3_weight_1 rfl (lv_at hl 1 rfl) ?_
  have hPc := hP.sub (ws' := [(o3, .inr (3, [.ref o1, .ref af, .int (nI nf)])), (af, aF q 6 (fun j => if j < nf then some (oa j) else none))]) [0, 1] rfl
  have hDc := hD.sub (ws' := [(o3, .inr (3, [.ref o1, .ref af, .int (nI nf)])), (af, aF q 6 (fun j => if j < nf then some (oa j) else none))]) [0, 1] (by decide) rfl
  have hFc := va_free (wc := [(o3, .inr (3, [.ref o1, .ref af, .int (nI nf)])), (af, aF q 6 (fun j => if j < nf then some (oa j) else none))]) hD hS hA [0, 1] rfl
  refine va_callq (va_runV (As := [.int f]) (rest := []) ⟨hx, hb, hml, hown, hts⟩ (m_X3_numbered_no l G q s.heap.size o3 o1 af nf oa f hnf hc) (cwV 1 hts gX3_weight_X3_numbered rfl rfl rfl (by decide +kernel) ⟨Nat.le_of_ble_eq_true rfl, Nat.le_of_ble_eq_true rfl⟩) ⟨preW_blind, (va_recv hK hPc (ci := 3) (q0 := 0) rfl rfl), preW_start hPc hK hDc hNF⟩ rfl rfl hl.1 rfl (lv_room (Nat.le_of_ble_eq_true rfl)) dX3_weight_2 ⟨(by show _ ≤ 1; omega), (by show _ ≤ 6; omega)⟩) hS (fun q _ h => hFc q h) hFc (fun fr1 u9 t9 H1 locs ht9 hv9 hw hB9 hz9 hk9 hS => ?_)
  obtain ⟨⟩ := u9
  obtain ⟨hP1, hD1⟩ := hB9
  rw [ht9] at hP1
  obtain ⟨hP, hD⟩ := va_join (wr := []) (w1 := [(o3, .inr (3, [.ref o1, .ref af, .int (nI nf)])), (af, aF q 6 (fun j => if j < nf then some (oa j) else none))]) hP hD [0, 1] [] rfl rfl (by decide) (by decide) hk9 hFc hP1 hD1
  generalize H1 = H at hP hS ⊢
  have hP : va_P G vwCl [(o3, .inr (3, [.ref o1, .ref af, .int (nI nf)])), (af, aF q 6 (fun j => if j < nf then some (oa j) else none))] H := hP
  have hD : va_D A [(o3, .inr (3, [.ref o1, .ref af, .int (nI nf)])), (af, aF q 6 (fun j => if j < nf then some (oa j) else none))] := hD
  obtain rfl : fr1 = none := hw
  refine lv_astore_nN (lv' := [(3, .null), (0, .ref o3), (1, .int f), (2, .int xa)]) hx hb dX3_weight_5 rfl hl (by decide) rfl (fun ls hl => ?_)
  refine lv_aload_nN hx hb dX3_weight_6 rfl (lv_at hl 0 rfl) ?_
  refine lv_ifnonnullN hx hb dX3_weight_7 ?_
  obtain ⟨sa, hstr⟩ := hNT.1 (68, "no such filter") (by decide)
  exact vx_throwS hx hb hst (own := RX3) (cls := exO) (text := "no such filter") (names := exN) (ik := 30) (is := 68) (ic := 34) (A := A) hown (by decide +kernel) (by decide +kernel) (hts (.classLink RX3 30 exO) (by decide +kernel)) (hts (.initialized exO) (by decide +kernel)) hstr (vx_hat (fun w hw => hts w (at_X3_weight_O w hw)) at_bO (NT.bad hNT)) at_oO hNT.2.2.1 hNT.2.2.2 hS (hl.1.trans hml.symm) dX3_weight_10 dX3_weight_13 dX3_weight_14 dX3_weight_16 dX3_weight_19 (fun x hx => (htb x hx).elim) (Nat.le_of_ble_eq_true rfl) (Nat.le_of_ble_eq_true rfl) (Nat.le_of_ble_eq_true rfl) (Nat.le_of_ble_eq_true rfl) hlocks (fun t hv1 h1 h2 => ⟨(), trivial, ⟨rfl, hP.kept (fun k x hk => h2 x.1 (hP k x hk).lt), hD⟩, Nat.le_trans hS.1 h1, fun z hz hA2 => (h2 z (Nat.lt_of_lt_of_le hz hS.1)).trans (hS.2.1 z hz hA2)⟩) hS.2.2 (Nat.le_of_ble_eq_true rfl) (Nat.le_of_ble_eq_true rfl)

theorem at_X3_of_O : ∀ w ∈ (vx_atS RX3 34 exO exN).filter goodWord, w ∈ wsX3_of := by
  intro w h
  unfold wsX3_of
  refine List.mem_cons_of_mem _ ?_
  repeat (first | exact List.mem_append_right _ h | refine List.mem_append_left _ ?_)
set_option maxHeartbeats 4000000 in
set_option maxRecDepth 100000 in
/-- of: where it throws -/
theorem m_X3_of_x1 (l : Launch) (G : va_G) (q : Nat → ClassId) (sz : Nat) (hst : l.stackTraces = false) (o3 o1 af nf : Nat) (oa : Nat → Nat) (f : Int32) (xa : Int32) (hnf : nf ≤ 6) (hc : ¬ isF f (nI nf)) : vx_Met l yX3_of wsX3_of ({ frames := 6, cells := 1, slots := 6, locals := 100 } : Jvm.Room) (PreX G q [.ref o3, .int f, .int xa] [(o3, .inr (3, [.ref o1, .ref af, .int (nI nf)])), (af, aF q 6 (fun j => if j < nf then some (oa j) else none))] sz) (va_Qd (fun (_ : UInt64) (_ : Unit) => False) (fun _ _ => True) (va_A [(o3, .inr (3, [.ref o1, .ref af, .int (nI nf)])), (af, aF q 6 (fun j => if j < nf then some (oa j) else none))] sz)) (vx_X (fun (_ : Unit) => True) (fun E _ t => E = exO ∧ EndA G (va_A [(o3, .inr (3, [.ref o1, .ref af, .int (nI nf)])), (af, aF q 6 (fun j => if j < nf then some (oa j) else none))] sz) [(o3, .inr (3, [.ref o1, .ref af, .int (nI nf)])), (af, aF q 6 (fun j => if j < nf then some (oa j) else none))] t) (va_A [(o3, .inr (3, [.ref o1, .ref af, .int (nI nf)])), (af, aF q 6 (fun j => if j < nf then some (oa j) else none))] sz)) 1 6 (va_A [(o3, .inr (3, [.ref o1, .ref af, .int (nI nf)])), (af, aF q 6 (fun j => if j < nf then some (oa j) else none))] sz) := by
  refine vx_ofW (cc := cX3_of) (maxL := 4) (ret := (some .double)) (by decide +kernel) rfl ?_
  intro p e s m args below meth c s₁ B hml htb hv
  obtain ⟨⟨rfl, hsz, hP, hK, hD0, hNF⟩, hNT⟩ := hv
  have hx := B.exec
  have hb := B.bytes
  have hr := B.returns
  have hts := atoms_spec (ws := wsX3_of) B.pre
  have hown : s.vm.findClass RX3 = some m.cls := findClass_of_methodNamed B.named
  have hlocks := B.notSynchronized
  subst hsz
  have hD := hD0.self (sz := s.heap.size)
  generalize hAe : va_A [(o3, .inr (3, [.ref o1, .ref af, .int (nI nf)])), (af, aF q 6 (fun j => if j < nf then some (oa j) else none))] s.heap.size = A at hD hNT ⊢
  have hA : ∀ q : Nat, s.heap.size ≤ q → A q := fun q h => by rw [← hAe]; exact Or.inr h
  have hS : va_S A s.heap s.heap [] := va_S.rf
  have hP : va_P G vwCl [(o3, .inr (3, [.ref o1, .ref af, .int (nI nf)])), (af, aF q 6 (fun j => if j < nf then some (oa j) else none))] s.heap := hP
  have hl := lv_entry ([.ref o3, .int f, .int xa]) (n := 4) (Nat.le_of_ble_eq_true rfl)
  rw [lg_entry_eq]
  generalize (lg_sl ([.ref o3, .int f, .int xa]) ++ List.replicate (4 - (lg_sl ([.ref o3, .int f, .int xa])).length) Slot.unset).toArray = ls at hl ⊢
  have hl : lv_has ls 4 [(0, .ref o3), (1, .int f), (2, .int xa)] := hl
  refine lv_aload_n hx hb dX3_of_0 rfl (lv_at hl 0 rfl) ?_
  refine lv_iload_n hx hb dX3_of_1 rfl (lv_at hl 1 rfl) ?_
  have hPc := hP.sub (ws' := [(o3, .inr (3, [.ref o1, .ref af, .int (nI nf)])), (af, aF q 6 (fun j => if j < nf then some (oa j) else none))]) [0, 1] rfl
  have hDc := hD.sub (ws' := [(o3, .inr (3, [.ref o1, .ref af, .int (nI nf)])), (af, aF q 6 (fun j => if j < nf then some (oa j) else none))]) [0, 1] (by decide) rfl
  have hFc := va_free (wc := [(o3, .inr (3, [.ref o1, .ref af, .int (nI nf)])), (af, aF q 6 (fun j => if j < nf then some (oa j) else none))]) hD hS hA [0, 1] rfl
  refine va_callq (va_runV (As := [.int f]) (rest := []) ⟨hx, hb, hml, hown, hts⟩ (m_X3_numbered_no l G q s.heap.size o3 o1 af nf oa f hnf hc) (cwV 1 hts gX3_of_X3_numbered rfl rfl rfl (by decide +kernel) ⟨Nat.le_of_ble_eq_true rfl, Nat.le_of_ble_eq_true rfl⟩) ⟨preW_blind, (va_recv hK hPc (ci := 3) (q0 := 0) rfl rfl), preW_start hPc hK hDc hNF⟩ rfl rfl hl.1 rfl (lv_room (Nat.le_of_ble_eq_true rfl)) dX3_of_2 ⟨(by show _ ≤ 1; omega), (by show _ ≤ 6; omega)⟩) hS (fun q _ h => hFc q h) hFc (fun fr1 u9 t9 H1 locs ht9 hv9 hw hB9 hz9 hk9 hS => ?_)
  obtain ⟨⟩ := u9
  obtain ⟨hP1, hD1⟩ := hB9
  rw [ht9] at hP1
  obtain ⟨hP, hD⟩ := va_join (wr := []) (w1 := [(o3, .inr (3, [.ref o1, .ref af, .int (nI nf)])), (af, aF q 6 (fun j => if j < nf then some (oa j) else none))]) hP hD [0, 1] [] rfl rfl (by decide) (by decide) hk9 hFc hP1 hD1
  generalize H1 = H at hP hS ⊢
  have hP : va_P G vwCl [(o3, .inr (3, [.ref o1, .ref af, .int (nI nf)])), (af, aF q 6 (fun j => if j < nf then some (oa j) else none))] H := hP
  have hD : va_D A [(o3, .inr (3, [.ref o1, .ref af, .int (nI nf)])), (af, aF q 6 (fun j => if j < nf then some (oa j) else none))] := hD
  obtain rfl : fr1 = none := hw
  refine lv_astore_nN (lv' := [(3, .null), (0, .ref o3), (1, .int f), (2, .int xa)]) hx hb dX3_of_5 rfl hl (by decide) rfl (fun ls hl => ?_)
  refine lv_aload_nN hx hb dX3_of_6 rfl (lv_at hl 0 rfl) ?_
  refine lv_ifnonnullN hx hb dX3_of_7 ?_
  obtain ⟨sa, hstr⟩ := hNT.1 (68, "no such filter") (by decide)
  exact vx_throwS hx hb hst (own := RX3) (cls := exO) (text := "no such filter") (names := exN) (ik := 30) (is := 68) (ic := 34) (A := A) hown (by decide +kernel) (by decide +kernel) (hts (.classLink RX3 30 exO) (by decide +kernel)) (hts (.initialized exO) (by decide +kernel)) hstr (vx_hat (fun w hw => hts w (at_X3_of_O w hw)) at_bO (NT.bad hNT)) at_oO hNT.2.2.1 hNT.2.2.2 hS (hl.1.trans hml.symm) dX3_of_10 dX3_of_13 dX3_of_14 dX3_of_16 dX3_of_19 (fun x hx => (htb x hx).elim) (Nat.le_of_ble_eq_true rfl) (Nat.le_of_ble_eq_true rfl) (Nat.le_of_ble_eq_true rfl) (Nat.le_of_ble_eq_true rfl) hlocks (fun t hv1 h1 h2 => ⟨(), trivial, ⟨rfl, hP.kept (fun k x hk => h2 x.1 (hP k x hk).lt), hD⟩, Nat.le_trans hS.1 h1, fun z hz hA2 => (h2 z (Nat.lt_of_lt_of_le hz hS.1)).trans (hS.2.1 z hz hA2)⟩) hS.2.2 (Nat.le_of_ble_eq_true rfl) (Nat.le_of_ble_eq_true rfl)

theorem at_X3_count_O : ∀ w ∈ (vx_atS RX3 34 exO exN).filter goodWord, w ∈ wsX3_count := by
  intro w h
  unfold wsX3_count
  refine List.mem_cons_of_mem _ ?_
  repeat (first | exact List.mem_append_right _ h | refine List.mem_append_left _ ?_)
set_option maxHeartbeats 4000000 in
set_option maxRecDepth 100000 in
/-- count: where it throws -/
theorem m_X3_count_x1 (l : Launch) (G : va_G) (q : Nat → ClassId) (sz : Nat) (hst : l.stackTraces = false) (o3 o1 af nf : Nat) (oa : Nat → Nat) (f : Int32) (xa : Int32) (hnf : nf ≤ 6) (hc : ¬ isF f (nI nf)) : vx_Met l yX3_count wsX3_count ({ frames := 6, cells := 1, slots := 6, locals := 100 } : Jvm.Room) (PreX G q [.ref o3, .int f, .int xa] [(o3, .inr (3, [.ref o1, .ref af, .int (nI nf)])), (af, aF q 6 (fun j => if j < nf then some (oa j) else none))] sz) (va_Qi (fun (_ : Int32) (_ : Unit) => False) (fun _ _ => True) (va_A [(o3, .inr (3, [.ref o1, .ref af, .int (nI nf)])), (af, aF q 6 (fun j => if j < nf then some (oa j) else none))] sz)) (vx_X (fun (_ : Unit) => True) (fun E _ t => E = exO ∧ EndA G (va_A [(o3, .inr (3, [.ref o1, .ref af, .int (nI nf)])), (af, aF q 6 (fun j => if j < nf then some (oa j) else none))] sz) [(o3, .inr (3, [.ref o1, .ref af, .int (nI nf)])), (af, aF q 6 (fun j => if j < nf then some (oa j) else none))] t) (va_A [(o3, .inr (3, [.ref o1, .ref af, .int (nI nf)])), (af, aF q 6 (fun j => if j < nf then some (oa j) else none))] sz)) 1 6 (va_A [(o3, .inr (3, [.ref o1, .ref af, .int (nI nf)])), (af, aF q 6 (fun j => if j < nf then some (oa j) else none))] sz) := by
  refine vx_ofW (cc := cX3_count) (maxL := 4) (ret := (some .int)) (by decide +kernel) rfl ?_
  intro p e s m args below meth c s₁ B hml htb hv
  obtain ⟨⟨rfl, hsz, hP, hK, hD0, hNF⟩, hNT⟩ := hv
  have hx := B.exec
  have hb := B.bytes
  have hr := B.returns
  have hts := atoms_spec (ws := wsX3_count) B.pre
  have hown : s.vm.findClass RX3 = some m.cls := findClass_of_methodNamed B.named
  have hlocks := B.notSynchronized
  subst hsz
  have hD := hD0.self (sz := s.heap.size)
  generalize hAe : va_A [(o3, .inr (3, [.ref o1, .ref af, .int (nI nf)])), (af, aF q 6 (fun j => if j < nf then some (oa j) else none))] s.heap.size = A at hD hNT ⊢
  have hA : ∀ q : Nat, s.heap.size ≤ q → A q := fun q h => by rw [← hAe]; exact Or.inr h
  have hS : va_S A s.heap s.heap [] := va_S.rf
  have hP : va_P G vwCl [(o3, .inr (3, [.ref o1, .ref af, .int (nI nf)])), (af, aF q 6 (fun j => if j < nf then some (oa j) else none))] s.heap := hP
  have hl := lv_entry ([.ref o3, .int f, .int xa]) (n := 4) (Nat.le_of_ble_eq_true rfl)
  rw [lg_entry_eq]
  generalize (lg_sl ([.ref o3, .int f, .int xa]) ++ List.replicate (4 - (lg_sl ([.ref o3, .int f, .int xa])).length) Slot.unset).toArray = ls at hl ⊢
  have hl : lv_has ls 4 [(0, .ref o3), (1, .int f), (2, .int xa)] := hl
  refine lv_aload_n hx hb dX3_count_0 rfl (lv_at hl 0 rfl) ?_
  refine lv_iload_n hx hb dX3_count_1 rfl (lv_at hl 1 rfl) ?_
  have hPc := hP.sub (ws' := [(o3, .inr (3, [.ref o1, .ref af, .int (nI nf)])), (af, aF q 6 (fun j => if j < nf then some (oa j) else none))]) [0, 1] rfl
  have hDc := hD.sub (ws' := [(o3, .inr (3, [.ref o1, .ref af, .int (nI nf)])), (af, aF q 6 (fun j => if j < nf then some (oa j) else none))]) [0, 1] (by decide) rfl
  have hFc := va_free (wc := [(o3, .inr (3, [.ref o1, .ref af, .int (nI nf)])), (af, aF q 6 (fun j => if j < nf then some (oa j) else none))]) hD hS hA [0, 1] rfl
  refine va_callq (va_runV (As := [.int f]) (rest := []) ⟨hx, hb, hml, hown, hts⟩ (m_X3_numbered_no l G q s.heap.size o3 o1 af nf oa f hnf hc) (cwV 1 hts gX3_count_X3_numbered rfl rfl rfl (by decide +kernel) ⟨Nat.le_of_ble_eq_true rfl, Nat.le_of_ble_eq_true rfl⟩) ⟨preW_blind, (va_recv hK hPc (ci := 3) (q0 := 0) rfl rfl), preW_start hPc hK hDc hNF⟩ rfl rfl hl.1 rfl (lv_room (Nat.le_of_ble_eq_true rfl)) dX3_count_2 ⟨(by show _ ≤ 1; omega), (by show _ ≤ 6; omega)⟩) hS (fun q _ h => hFc q h) hFc (fun fr1 u9 t9 H1 locs ht9 hv9 hw hB9 hz9 hk9 hS => ?_)
  obtain ⟨⟩ := u9
  obtain ⟨hP1, hD1⟩ := hB9
  rw [ht9] at hP1
  obtain ⟨hP, hD⟩ := va_join (wr := []) (w1 := [(o3, .inr (3, [.ref o1, .ref af, .int (nI nf)])), (af, aF q 6 (fun j => if j < nf then some (oa j) else none))]) hP hD [0, 1] [] rfl rfl (by decide) (by decide) hk9 hFc hP1 hD1
  generalize H1 = H at hP hS ⊢
  have hP : va_P G vwCl [(o3, .inr (3, [.ref o1, .ref af, .int (nI nf)])), (af, aF q 6 (fun j => if j < nf then some (oa j) else none))] H := hP
  have hD : va_D A [(o3, .inr (3, [.ref o1, .ref af, .int (nI nf)])), (af, aF q 6 (fun j => if j < nf then some (oa j) else none))] := hD
  obtain rfl : fr1 = none := hw
  refine lv_astore_nN (lv' := [(3, .null), (0, .ref o3), (1, .int f), (2, .int xa)]) hx hb dX3_count_5 rfl hl (by decide) rfl (fun ls hl => ?_)
  refine lv_aload_nN hx hb dX3_count_6 rfl (lv_at hl 0 rfl) ?_
  refine lv_ifnonnullN hx hb dX3_count_7 ?_
  obtain ⟨sa, hstr⟩ := hNT.1 (68, "no such filter") (by decide)
  exact vx_throwS hx hb hst (own := RX3) (cls := exO) (text := "no such filter") (names := exN) (ik := 30) (is := 68) (ic := 34) (A := A) hown (by decide +kernel) (by decide +kernel) (hts (.classLink RX3 30 exO) (by decide +kernel)) (hts (.initialized exO) (by decide +kernel)) hstr (vx_hat (fun w hw => hts w (at_X3_count_O w hw)) at_bO (NT.bad hNT)) at_oO hNT.2.2.1 hNT.2.2.2 hS (hl.1.trans hml.symm) dX3_count_10 dX3_count_13 dX3_count_14 dX3_count_16 dX3_count_19 (fun x hx => (htb x hx).elim) (Nat.le_of_ble_eq_true rfl) (Nat.le_of_ble_eq_true rfl) (Nat.le_of_ble_eq_true rfl) (Nat.le_of_ble_eq_true rfl) hlocks (fun t hv1 h1 h2 => ⟨(), trivial, ⟨rfl, hP.kept (fun k x hk => h2 x.1 (hP k x hk).lt), hD⟩, Nat.le_trans hS.1 h1, fun z hz hA2 => (h2 z (Nat.lt_of_lt_of_le hz hS.1)).trans (hS.2.1 z hz hA2)⟩) hS.2.2 (Nat.le_of_ble_eq_true rfl) (Nat.le_of_ble_eq_true rfl)

theorem at_X3_square_O : ∀ w ∈ (vx_atS RX3 34 exO exN).filter goodWord, w ∈ wsX3_square := by
  intro w h
  unfold wsX3_square
  refine List.mem_cons_of_mem _ ?_
  repeat (first | exact List.mem_append_right _ h | refine List.mem_append_left _ ?_)
set_option maxHeartbeats 4000000 in
set_option maxRecDepth 100000 in
/-- square: where it throws -/
theorem m_X3_square_x1 (l : Launch) (G : va_G) (q : Nat → ClassId) (sz : Nat) (hst : l.stackTraces = false) (o3 o1 af nf : Nat) (oa : Nat → Nat) (f : Int32) (xa xb : Int32) (hnf : nf ≤ 6) (hc : ¬ isF f (nI nf)) : vx_Met l yX3_square wsX3_square ({ frames := 6, cells := 1, slots := 6, locals := 100 } : Jvm.Room) (PreX G q [.ref o3, .int f, .int xa, .int xb] [(o3, .inr (3, [.ref o1, .ref af, .int (nI nf)])), (af, aF q 6 (fun j => if j < nf then some (oa j) else none))] sz) (va_Qd (fun (_ : UInt64) (_ : Unit) => False) (fun _ _ => True) (va_A [(o3, .inr (3, [.ref o1, .ref af, .int (nI nf)])), (af, aF q 6 (fun j => if j < nf then some (oa j) else none))] sz)) (vx_X (fun (_ : Unit) => True) (fun E _ t => E = exO ∧ EndA G (va_A [(o3, .inr (3, [.ref o1, .ref af, .int (nI nf)])), (af, aF q 6 (fun j => if j < nf then some (oa j) else none))] sz) [(o3, .inr (3, [.ref o1, .ref af, .int (nI nf)])), (af, aF q 6 (fun j => if j < nf then some (oa j) else none))] t) (va_A [(o3, .inr (3, [.ref o1, .ref af, .int (nI nf)])), (af, aF q 6 (fun j => if j < nf then some (oa j) else none))] sz)) 1 6 (va_A [(o3, .inr (3, [.ref o1, .ref af, .int (nI nf)])), (af, aF q 6 (fun j => if j < nf then some (oa j) else none))] sz) := by
  refine vx_ofW (cc := cX3_square) (maxL := 6) (ret := (some .double)) (by decide +kernel) rfl ?_
  intro p e s m args below meth c s₁ B hml htb hv
  obtain ⟨⟨rfl, hsz, hP, hK, hD0, hNF⟩, hNT⟩ := hv
  have hx := B.exec
  have hb := B.bytes
  have hr := B.returns
  have hts := atoms_spec (ws := wsX3_square) B.pre
  have hown : s.vm.findClass RX3 = some m.cls := findClass_of_methodNamed B.named
  have hlocks := B.notSynchronized
  subst hsz
  have hD := hD0.self (sz := s.heap.size)
  generalize hAe : va_A [(o3, .inr (3, [.ref o1, .ref af, .int (nI nf)])), (af, aF q 6 (fun j => if j < nf then some (oa j) else none))] s.heap.size = A at hD hNT ⊢
  have hA : ∀ q : Nat, s.heap.size ≤ q → A q := fun q h => by rw [← hAe]; exact Or.inr h
  have hS : va_S A s.heap s.heap [] := va_S.rf
  have hP : va_P G vwCl [(o3, .inr (3, [.ref o1, .ref af, .int (nI nf)])), (af, aF q 6 (fun j => if j < nf then some (oa j) else none))] s.heap := hP
  have hl := lv_entry ([.ref o3, .int f, .int xa, .int xb]) (n := 6) (Nat.le_of_ble_eq_true rfl)
  rw [lg_entry_eq]
  generalize (lg_sl ([.ref o3, .int f, .int xa, .int xb]) ++ List.replicate (6 - (lg_sl ([.ref o3, .int f, .int xa, .int xb])).length) Slot.unset).toArray = ls at hl ⊢
  have hl : lv_has ls 6 [(0, .ref o3), (1, .int f), (2, .int xa), (3, .int xb)] := hl
  refine lv_aload_n hx hb dX3_square_0 rfl (lv_at hl 0 rfl) ?_
  refine lv_iload_n hx hb dX3_square_1 rfl (lv_at hl 1 rfl) ?_
  have hPc := hP.sub (ws' := [(o3, .inr (3, [.ref o1, .ref af, .int (nI nf)])), (af, aF q 6 (fun j => if j < nf then some (oa j) else none))]) [0, 1] rfl
  have hDc := hD.sub (ws' := [(o3, .inr (3, [.ref o1, .ref af, .int (nI nf)])), (af, aF q 6 (fun j => if j < nf then some (oa j) else none))]) [0, 1] (by decide) rfl
  have hFc := va_free (wc := [(o3, .inr (3, [.ref o1, .ref af, .int (nI nf)])), (af, aF q 6 (fun j => if j < nf then some (oa j) else none))]) hD hS hA [0, 1] rfl
  refine va_callq (va_runV (As := [.int f]) (rest := []) ⟨hx, hb, hml, hown, hts⟩ (m_X3_numbered_no l G q s.heap.size o3 o1 af nf oa f hnf hc) (cwV 1 hts gX3_square_X3_numbered rfl rfl rfl (by decide +kernel) ⟨Nat.le_of_ble_eq_true rfl, Nat.le_of_ble_eq_true rfl⟩) ⟨preW_blind, (va_recv hK hPc (ci := 3) (q0 := 0) rfl rfl), preW_start hPc hK hDc hNF⟩ rfl rfl hl.1 rfl (lv_room (Nat.le_of_ble_eq_true rfl)) dX3_square_2 ⟨(by show _ ≤ 1; omega), (by show _ ≤ 6; omega)⟩) hS (fun q _ h => hFc q h) hFc (fun fr1 u9 t9 H1 locs ht9 hv9 hw hB9 hz9 hk9 hS => ?_)
  obtain ⟨⟩ := u9
  obtain ⟨hP1, hD1⟩ := hB9
  rw [ht9] at hP1
  obtain ⟨hP, hD⟩ := va_join (wr := []) (w1 := [(o3, .inr (3, [.ref o1, .ref af, .int (nI nf)])), (af, aF q 6 (fun j => if j < nf then some (oa j) else none))]) hP hD [0, 1] [] rfl rfl (by decide) (by decide) hk9 hFc hP1 hD1
  generalize H1 = H at hP hS ⊢
  have hP : va_P G vwCl [(o3, .inr (3, [.ref o1, .ref af, .int (nI nf)])), (af, aF q 6 (fun j => if j < nf then some (oa j) else none))] H := hP
  have hD : va_D A [(o3, .inr (3, [.ref o1, .ref af, .int (nI nf)])), (af, aF q 6 (fun j => if j < nf then some (oa j) else none))] := hD
  obtain rfl : fr1 = none := hw
  refine lv_astoreN (lv' := [(4, .null), (0, .ref o3), (1, .int f), (2, .int xa), (3, .int xb)]) hx hb dX3_square_5 hl (by decide) rfl (fun ls hl => ?_)
  refine lv_aloadN hx hb dX3_square_7 (lv_at hl 0 rfl) ?_
  refine lv_ifnonnullN hx hb dX3_square_9 ?_
  obtain ⟨sa, hstr⟩ := hNT.1 (68, "no such filter") (by decide)
  exact vx_throwS hx hb hst (own := RX3) (cls := exO) (text := "no such filter") (names := exN) (ik := 30) (is := 68) (ic := 34) (A := A) hown (by decide +kernel) (by decide +kernel) (hts (.classLink RX3 30 exO) (by decide +kernel)) (hts (.initialized exO) (by decide +kernel)) hstr (vx_hat (fun w hw => hts w (at_X3_square_O w hw)) at_bO (NT.bad hNT)) at_oO hNT.2.2.1 hNT.2.2.2 hS (hl.1.trans hml.symm) dX3_square_12 dX3_square_15 dX3_square_16 dX3_square_18 dX3_square_21 (fun x hx => (htb x hx).elim) (Nat.le_of_ble_eq_true rfl) (Nat.le_of_ble_eq_true rfl) (Nat.le_of_ble_eq_true rfl) (Nat.le_of_ble_eq_true rfl) hlocks (fun t hv1 h1 h2 => ⟨(), trivial, ⟨rfl, hP.kept (fun k x hk => h2 x.1 (hP k x hk).lt), hD⟩, Nat.le_trans hS.1 h1, fun z hz hA2 => (h2 z (Nat.lt_of_lt_of_le hz hS.1)).trans (hS.2.1 z hz hA2)⟩) hS.2.2 (Nat.le_of_ble_eq_true rfl) (Nat.le_of_ble_eq_true rfl)

theorem at_X3_step_A : ∀ w ∈ (vx_atS RX3 41 exA exN).filter goodWord, w ∈ wsX3_step := by
  intro w h
  unfold wsX3_step
  refine List.mem_cons_of_mem _ ?_
  repeat (first | exact List.mem_append_right _ h | refine List.mem_append_left _ ?_)
set_option maxHeartbeats 4000000 in
set_option maxRecDepth 100000 in
/-- step: where it throws -/
theorem m_X3_step_x2 (l : Launch) (G : va_G) (q : Nat → ClassId) (sz : Nat) (hst : l.stackTraces = false) (o3 o1 af nf : Nat) (oa : Nat → Nat) (fx n aw ae : Nat) (sq : Value) (kd th wa ta lf ce cd rs : Int32) (ou er : UInt64) (xa : Int32) (hnf : nf ≤ 6) (hfx : fx < nf) (hc : ¬ stpB kd xa) : vx_Met l yX3_step wsX3_step ({ frames := 6, cells := 1, slots := 6, locals := 100 } : Jvm.Room) (PreX G q [.ref o3, .int (nI fx), .int xa] [(o3, .inr (3, [.ref o1, .ref af, .int (nI nf)])), (af, aF q 6 (fun j => if j < nf then some (oa j) else none)), ((oa fx), .inr (0, [.int kd, .ref aw, .ref ae, sq, .int th, .int wa, .int ta, .int lf, .double ou, .double er, .int ce, .int cd, .int rs]))] sz) (va_Qi (fun (_ : Int32) (_ : Unit) => False) (fun _ _ => True) (va_A [(o3, .inr (3, [.ref o1, .ref af, .int (nI nf)])), (af, aF q 6 (fun j => if j < nf then some (oa j) else none)), ((oa fx), .inr (0, [.int kd, .ref aw, .ref ae, sq, .int th, .int wa, .int ta, .int lf, .double ou, .double er, .int ce, .int cd, .int rs]))] sz)) (vx_X (fun (_ : Unit) => True) (fun E _ t => E = exA ∧ EndA G (va_A [(o3, .inr (3, [.ref o1, .ref af, .int (nI nf)])), (af, aF q 6 (fun j => if j < nf then some (oa j) else none)), ((oa fx), .inr (0, [.int kd, .ref aw, .ref ae, sq, .int th, .int wa, .int ta, .int lf, .double ou, .double er, .int ce, .int cd, .int rs]))] sz) [(o3, .inr (3, [.ref o1, .ref af, .int (nI nf)])), (af, aF q 6 (fun j => if j < nf then some (oa j) else none)), ((oa fx), .inr (0, [.int kd, .ref aw, .ref ae, sq, .int th, .int wa, .int ta, .int lf, .double ou, .double er, .int ce, .int cd, .int rs]))] t) (va_A [(o3, .inr (3, [.ref o1, .ref af, .int (nI nf)])), (af, aF q 6 (fun j => if j < nf then some (oa j) else none)), ((oa fx), .inr (0, [.int kd, .ref aw, .ref ae, sq, .int th, .int wa, .int ta, .int lf, .double ou, .double er, .int ce, .int cd, .int rs]))] sz)) 1 6 (va_A [(o3, .inr (3, [.ref o1, .ref af, .int (nI nf)])), (af, aF q 6 (fun j => if j < nf then some (oa j) else none)), ((oa fx), .inr (0, [.int kd, .ref aw, .ref ae, sq, .int th, .int wa, .int ta, .int lf, .double ou, .double er, .int ce, .int cd, .int rs]))] sz) := by
  refine vx_ofW (cc := cX3_step) (maxL := 5) (ret := (some .int)) (by decide +kernel) rfl ?_
  intro p e s m args below meth c s₁ B hml htb hv
  obtain ⟨⟨rfl, hsz, hP, hK, hD0, hNF⟩, hNT⟩ := hv
  have hx := B.exec
  have hb := B.bytes
  have hr := B.returns
  have hts := atoms_spec (ws := wsX3_step) B.pre
  have hown : s.vm.findClass RX3 = some m.cls := findClass_of_methodNamed B.named
  have hlocks := B.notSynchronized
  subst hsz
  have hD := hD0.self (sz := s.heap.size)
  generalize hAe : va_A [(o3, .inr (3, [.ref o1, .ref af, .int (nI nf)])), (af, aF q 6 (fun j => if j < nf then some (oa j) else none)), ((oa fx), .inr (0, [.int kd, .ref aw, .ref ae, sq, .int th, .int wa, .int ta, .int lf, .double ou, .double er, .int ce, .int cd, .int rs]))] s.heap.size = A at hD hNT ⊢
  have hA : ∀ q : Nat, s.heap.size ≤ q → A q := fun q h => by rw [← hAe]; exact Or.inr h
  have hS : va_S A s.heap s.heap [] := va_S.rf
  have hP : va_P G vwCl [(o3, .inr (3, [.ref o1, .ref af, .int (nI nf)])), (af, aF q 6 (fun j => if j < nf then some (oa j) else none)), ((oa fx), .inr (0, [.int kd, .ref aw, .ref ae, sq, .int th, .int wa, .int ta, .int lf, .double ou, .double er, .int ce, .int cd, .int rs]))] s.heap := hP
  have hl := lv_entry ([.ref o3, .int (nI fx), .int xa]) (n := 5) (Nat.le_of_ble_eq_true rfl)
  rw [lg_entry_eq]
  generalize (lg_sl ([.ref o3, .int (nI fx), .int xa]) ++ List.replicate (5 - (lg_sl ([.ref o3, .int (nI fx), .int xa])).length) Slot.unset).toArray = ls at hl ⊢
  have hl : lv_has ls 5 [(0, .ref o3), (1, .int (nI fx)), (2, .int xa)] := hl
  refine lv_aload_n hx hb dX3_step_0 rfl (lv_at hl 0 rfl) ?_
  refine lv_iload_n hx hb dX3_step_1 rfl (lv_at hl 1 rfl) ?_
  have hPc := hP.sub (ws' := [(o3, .inr (3, [.ref o1, .ref af, .int (nI nf)])), (af, aF q 6 (fun j => if j < nf then some (oa j) else none))]) [0, 1] rfl
  have hDc := hD.sub (ws' := [(o3, .inr (3, [.ref o1, .ref af, .int (nI nf)])), (af, aF q 6 (fun j => if j < nf then some (oa j) else none))]) [0, 1] (by decide) rfl
  have hFc := va_free (wc := [(o3, .inr (3, [.ref o1, .ref af, .int (nI nf)])), (af, aF q 6 (fun j => if j < nf then some (oa j) else none))]) hD hS hA [0, 1] rfl
  refine va_callq (va_runV (As := [.int (nI fx)]) (rest := []) ⟨hx, hb, hml, hown, hts⟩ (m_X3_numbered l G q s.heap.size o3 o1 af nf oa fx hnf hfx) (cwV 1 hts gX3_step_X3_numbered rfl rfl rfl (by decide +kernel) ⟨Nat.le_of_ble_eq_true rfl, Nat.le_of_ble_eq_true rfl⟩) ⟨preW_blind, (va_recv hK hPc (ci := 3) (q0 := 0) rfl rfl), preW_start hPc hK hDc hNF⟩ rfl rfl hl.1 rfl (lv_room (Nat.le_of_ble_eq_true rfl)) dX3_step_2 ⟨(by show _ ≤ 1; omega), (by show _ ≤ 6; omega)⟩) hS (fun q _ h => hFc q h) hFc (fun fr1 u9 t9 H1 locs ht9 hv9 hw hB9 hz9 hk9 hS => ?_)
  obtain ⟨⟩ := u9
  obtain ⟨hP1, hD1⟩ := hB9
  rw [ht9] at hP1
  obtain ⟨hP, hD⟩ := va_join (wr := [((oa fx), .inr (0, [.int kd, .ref aw, .ref ae, sq, .int th, .int wa, .int ta, .int lf, .double ou, .double er, .int ce, .int cd, .int rs]))]) (w1 := [(o3, .inr (3, [.ref o1, .ref af, .int (nI nf)])), (af, aF q 6 (fun j => if j < nf then some (oa j) else none))]) hP hD [0, 1] [2] rfl rfl (by decide) (by decide) hk9 hFc hP1 hD1
  generalize H1 = H at hP hS ⊢
  have hP : va_P G vwCl [((oa fx), .inr (0, [.int kd, .ref aw, .ref ae, sq, .int th, .int wa, .int ta, .int lf, .double ou, .double er, .int ce, .int cd, .int rs])), (o3, .inr (3, [.ref o1, .ref af, .int (nI nf)])), (af, aF q 6 (fun j => if j < nf then some (oa j) else none))] H := hP
  have hD : va_D A [((oa fx), .inr (0, [.int kd, .ref aw, .ref ae, sq, .int th, .int wa, .int ta, .int lf, .double ou, .double er, .int ce, .int cd, .int rs])), (o3, .inr (3, [.ref o1, .ref af, .int (nI nf)])), (af, aF q 6 (fun j => if j < nf then some (oa j) else none))] := hD
  obtain rfl : fr1 = some (oa fx) := hw
  refine lv_astore_n (lv' := [(3, .ref (oa fx)), (0, .ref o3), (1, .int (nI fx)), (2, .int xa)]) hx hb dX3_step_5 rfl hl (by decide) rfl (fun ls hl => ?_)
  refine lv_aload_n hx hb dX3_step_6 rfl (lv_at hl 0 rfl) ?_
  refine lv_ifnonnull (tgt := 20) hx hb dX3_step_7 (by decide) ?_
  refine lv_aload_n hx hb dX3_step_20 rfl (lv_at hl 0 rfl) ?_
  refine va_getN (D := G) (ci := 0) (v := .int kd) (C := RX0) (T := TX0) (N := 13) hx hb hts in_X3_step_X0 hown hK hP 0 rfl rfl 0 (by decide) (va_Nw.use rfl (hNF.1 (.fieldLinkNest RX3 70 "EchoBench$Filter" "kind" "I" "EchoBench") (by decide +kernel))) (fun _ h9 => h9) rfl dX3_step_21 ?_
  refine lv_iload_n hx hb dX3_step_24 rfl (lv_at hl 3 rfl) ?_
  have hPc := hP.sub (ws' := []) [] rfl
  have hDc := hD.sub (ws' := []) [] (by decide) rfl
  have hFc := va_free (wc := []) hD hS hA [] rfl
  refine va_calli (va_runS (As := [.int kd, .int xa]) (rest := []) ⟨hx, hb, hml, hown, hts⟩ (m_X3_isStepOf l G q H.size kd xa) (va_cwS 2 hts gX3_step_X3_isStepOf rfl rfl rfl (by decide +kernel) ⟨Nat.le_of_ble_eq_true rfl, Nat.le_of_ble_eq_true rfl⟩) ⟨preW_blind, preW_start hPc hK hDc hNF⟩ rfl rfl hl.1 rfl (lv_room (Nat.le_of_ble_eq_true rfl)) dX3_step_25 ⟨(by show _ ≤ 1; omega), (by show _ ≤ 6; omega)⟩) hS (fun q _ h => hFc q h) hFc (fun ri3 u9 t9 H1 locs ht9 hv9 hw hB9 hz9 hk9 hS => ?_)
  obtain ⟨⟩ := u9
  obtain ⟨hP1, hD1⟩ := hB9
  rw [ht9] at hP1
  obtain ⟨hP, hD⟩ := va_join (wr := [((oa fx), .inr (0, [.int kd, .ref aw, .ref ae, sq, .int th, .int wa, .int ta, .int lf, .double ou, .double er, .int ce, .int cd, .int rs])), (o3, .inr (3, [.ref o1, .ref af, .int (nI nf)])), (af, aF q 6 (fun j => if j < nf then some (oa j) else none))]) (w1 := []) hP hD [] [0, 1, 2] rfl rfl (by decide) (by decide) hk9 hFc hP1 hD1
  generalize H1 = H at hP hS ⊢
  have hP : va_P G vwCl [((oa fx), .inr (0, [.int kd, .ref aw, .ref ae, sq, .int th, .int wa, .int ta, .int lf, .double ou, .double er, .int ce, .int cd, .int rs])), (o3, .inr (3, [.ref o1, .ref af, .int (nI nf)])), (af, aF q 6 (fun j => if j < nf then some (oa j) else none))] H := hP
  have hD : va_D A [((oa fx), .inr (0, [.int kd, .ref aw, .ref ae, sq, .int th, .int wa, .int ta, .int lf, .double ou, .double er, .int ce, .int cd, .int rs])), (o3, .inr (3, [.ref o1, .ref af, .int (nI nf)])), (af, aF q 6 (fun j => if j < nf then some (oa j) else none))] := hD
  by_cases ci5 : stpB kd xa
  rotate_left
  · skip
    obtain rfl : ri3 = 0 := hw.trans (stp_0 ci5)
    refine lv_if_ne (tgt := 41) hx hb dX3_step_28 (by decide) (fun h => absurd (by decide) h) (fun _ => ?_)
    have hP := hP.sub (ws' := [(o3, .inr (3, [.ref o1, .ref af, .int (nI nf)])), (af, aF q 6 (fun j => if j < nf then some (oa j) else none)), ((oa fx), .inr (0, [.int kd, .ref aw, .ref ae, sq, .int th, .int wa, .int ta, .int lf, .double ou, .double er, .int ce, .int cd, .int rs]))]) [1, 2, 0] rfl
    have hD := hD.sub (ws' := [(o3, .inr (3, [.ref o1, .ref af, .int (nI nf)])), (af, aF q 6 (fun j => if j < nf then some (oa j) else none)), ((oa fx), .inr (0, [.int kd, .ref aw, .ref ae, sq, .int th, .int wa, .int ta, .int lf, .double ou, .double er, .int ce, .int cd, .int rs]))]) [1, 2, 0] (by decide) rfl
    obtain ⟨sa, hstr⟩ := hNT.1 (54, "step out of range") (by decide)
    exact vx_throwS hx hb hst (own := RX3) (cls := exA) (text := "step out of range") (names := exN) (ik := 37) (is := 54) (ic := 41) (A := A) hown (by decide +kernel) (by decide +kernel) (hts (.classLink RX3 37 exA) (by decide +kernel)) (hts (.initialized exA) (by decide +kernel)) hstr (vx_hat (fun w hw => hts w (at_X3_step_A w hw)) at_bA (NT.bad hNT)) at_oA hNT.2.2.1 hNT.2.2.2 hS (hl.1.trans hml.symm) dX3_step_31 dX3_step_34 dX3_step_35 dX3_step_37 dX3_step_40 (fun x hx => (htb x hx).elim) (Nat.le_of_ble_eq_true rfl) (Nat.le_of_ble_eq_true rfl) (Nat.le_of_ble_eq_true rfl) (Nat.le_of_ble_eq_true rfl) hlocks (fun t hv1 h1 h2 => ⟨(), trivial, ⟨rfl, hP.kept (fun k x hk => h2 x.1 (hP k x hk).lt), hD⟩, Nat.le_trans hS.1 h1, fun z hz hA2 => (h2 z (Nat.lt_of_lt_of_le hz hS.1)).trans (hS.2.1 z hz hA2)⟩) hS.2.2 (Nat.le_of_ble_eq_true rfl) (Nat.le_of_ble_eq_true rfl)
  obtain rfl : ri3 = 1 := hw.trans (stp_1 ci5)
  refine lv_if_ne (tgt := 41) hx hb dX3_step_28 (by decide) (fun _ => ?_) (fun h => absurd h (by decide))
  refine lv_aload_n hx hb dX3_step_41 rfl (lv_at hl 0 rfl) ?_
  refine va_getN (D := G) (ci := 0) (v := .int th) (C := RX0) (T := TX0) (N := 13) hx hb hts in_X3_step_X0 hown hK hP 0 rfl rfl 4 (by decide) (va_Nw.use rfl (hNF.1 (.fieldLinkNest RX3 73 "EchoBench$Filter" "thousandths" "I" "EchoBench") (by decide +kernel))) (fun _ h9 => h9) rfl dX3_step_42 ?_
  refine lv_istore (lv' := [(4, .int th), (3, .ref (oa fx)), (0, .ref o3), (1, .int (nI fx)), (2, .int xa)]) hx hb dX3_step_45 hl (by decide) rfl (fun ls hl => ?_)
  refine lv_aload_n hx hb dX3_step_47 rfl (lv_at hl 1 rfl) ?_
  refine lv_iload_n hx hb dX3_step_48 rfl (lv_at hl 4 rfl) ?_
  refine va_putN (D := G) (ci := 0) (v := .int xa) (ty := .int) (C := RX0) (T := TX0) (N := 13) hx hb hts in_X3_step_X0 tyX0 tyX0_ok nmX0 hown hK hP hD hS 0 rfl rfl 4 (by decide) (va_Nw.use rfl (hNF.1 (.fieldLinkNest RX3 73 "EchoBench$Filter" "thousandths" "I" "EchoBench") (by decide +kernel))) (fun _ h9 => h9) rfl (by decide +kernel) rfl rfl (Nat.le_of_ble_eq_true rfl) dX3_step_49 (fun H locs hP hD hS => ?_)
  have hP : va_P G vwCl [((oa fx), .inr (0, [.int kd, .ref aw, .ref ae, sq, .int xa, .int wa, .int ta, .int lf, .double ou, .double er, .int ce, .int cd, .int rs])), (o3, .inr (3, [.ref o1, .ref af, .int (nI nf)])), (af, aF q 6 (fun j => if j < nf then some (oa j) else none))] H := hP
  have hD : va_D A [((oa fx), .inr (0, [.int kd, .ref aw, .ref ae, sq, .int xa, .int wa, .int ta, .int lf, .double ou, .double er, .int ce, .int cd, .int rs])), (o3, .inr (3, [.ref o1, .ref af, .int (nI nf)])), (af, aF q 6 (fun j => if j < nf then some (oa j) else none))] := hD
  refine lv_iload hx hb dX3_step_52 (lv_at hl 0 rfl) ?_
  exact absurd ci5 hc

theorem at_X3_watch_A : ∀ w ∈ (vx_atS RX3 41 exA exN).filter goodWord, w ∈ wsX3_watch := by
  intro w h
  unfold wsX3_watch
  refine List.mem_cons_of_mem _ ?_
  repeat (first | exact List.mem_append_right _ h | refine List.mem_append_left _ ?_)
set_option maxHeartbeats 4000000 in
set_option maxRecDepth 100000 in
/-- watch: where it throws -/
theorem m_X3_watch_x2 (l : Launch) (G : va_G) (q : Nat → ClassId) (sz : Nat) (hst : l.stackTraces = false) (o3 o1 af nf : Nat) (oa : Nat → Nat) (fx n aw ae : Nat) (sq : Value) (kd th wa ta lf ce cd rs : Int32) (ou er : UInt64) (xa xb : Int32) (hnf : nf ≤ 6) (hfx : fx < nf) (hc : ¬ ((0 ≤ xa ∧ xa ≤ 1000) ∧ (0 ≤ xb ∧ xb ≤ 20))) : vx_Met l yX3_watch wsX3_watch ({ frames := 6, cells := 1, slots := 6, locals := 100 } : Jvm.Room) (PreX G q [.ref o3, .int (nI fx), .int xa, .int xb] [(o3, .inr (3, [.ref o1, .ref af, .int (nI nf)])), (af, aF q 6 (fun j => if j < nf then some (oa j) else none)), ((oa fx), .inr (0, [.int kd, .ref aw, .ref ae, sq, .int th, .int wa, .int ta, .int lf, .double ou, .double er, .int ce, .int cd, .int rs]))] sz) (va_Qv (fun (_ : Unit) => False) (fun _ _ => True) (va_A [(o3, .inr (3, [.ref o1, .ref af, .int (nI nf)])), (af, aF q 6 (fun j => if j < nf then some (oa j) else none)), ((oa fx), .inr (0, [.int kd, .ref aw, .ref ae, sq, .int th, .int wa, .int ta, .int lf, .double ou, .double er, .int ce, .int cd, .int rs]))] sz)) (vx_X (fun (_ : Unit) => True) (fun E _ t => E = exA ∧ EndA G (va_A [(o3, .inr (3, [.ref o1, .ref af, .int (nI nf)])), (af, aF q 6 (fun j => if j < nf then some (oa j) else none)), ((oa fx), .inr (0, [.int kd, .ref aw, .ref ae, sq, .int th, .int wa, .int ta, .int lf, .double ou, .double er, .int ce, .int cd, .int rs]))] sz) [(o3, .inr (3, [.ref o1, .ref af, .int (nI nf)])), (af, aF q 6 (fun j => if j < nf then some (oa j) else none)), ((oa fx), .inr (0, [.int kd, .ref aw, .ref ae, sq, .int th, .int wa, .int ta, .int lf, .double ou, .double er, .int ce, .int cd, .int rs]))] t) (va_A [(o3, .inr (3, [.ref o1, .ref af, .int (nI nf)])), (af, aF q 6 (fun j => if j < nf then some (oa j) else none)), ((oa fx), .inr (0, [.int kd, .ref aw, .ref ae, sq, .int th, .int wa, .int ta, .int lf, .double ou, .double er, .int ce, .int cd, .int rs]))] sz)) 1 6 (va_A [(o3, .inr (3, [.ref o1, .ref af, .int (nI nf)])), (af, aF q 6 (fun j => if j < nf then some (oa j) else none)), ((oa fx), .inr (0, [.int kd, .ref aw, .ref ae, sq, .int th, .int wa, .int ta, .int lf, .double ou, .double er, .int ce, .int cd, .int rs]))] sz) := by
  refine vx_ofW (cc := cX3_watch) (maxL := 5) (ret := none) (by decide +kernel) rfl ?_
  intro p e s m args below meth c s₁ B hml htb hv
  obtain ⟨⟨rfl, hsz, hP, hK, hD0, hNF⟩, hNT⟩ := hv
  have hx := B.exec
  have hb := B.bytes
  have hr := B.returns
  have hts := atoms_spec (ws := wsX3_watch) B.pre
  have hown : s.vm.findClass RX3 = some m.cls := findClass_of_methodNamed B.named
  have hlocks := B.notSynchronized
  subst hsz
  have hD := hD0.self (sz := s.heap.size)
  generalize hAe : va_A [(o3, .inr (3, [.ref o1, .ref af, .int (nI nf)])), (af, aF q 6 (fun j => if j < nf then some (oa j) else none)), ((oa fx), .inr (0, [.int kd, .ref aw, .ref ae, sq, .int th, .int wa, .int ta, .int lf, .double ou, .double er, .int ce, .int cd, .int rs]))] s.heap.size = A at hD hNT ⊢
  have hA : ∀ q : Nat, s.heap.size ≤ q → A q := fun q h => by rw [← hAe]; exact Or.inr h
  have hS : va_S A s.heap s.heap [] := va_S.rf
  have hP : va_P G vwCl [(o3, .inr (3, [.ref o1, .ref af, .int (nI nf)])), (af, aF q 6 (fun j => if j < nf then some (oa j) else none)), ((oa fx), .inr (0, [.int kd, .ref aw, .ref ae, sq, .int th, .int wa, .int ta, .int lf, .double ou, .double er, .int ce, .int cd, .int rs]))] s.heap := hP
  have hl := lv_entry ([.ref o3, .int (nI fx), .int xa, .int xb]) (n := 5) (Nat.le_of_ble_eq_true rfl)
  rw [lg_entry_eq]
  generalize (lg_sl ([.ref o3, .int (nI fx), .int xa, .int xb]) ++ List.replicate (5 - (lg_sl ([.ref o3, .int (nI fx), .int xa, .int xb])).length) Slot.unset).toArray = ls at hl ⊢
  have hl : lv_has ls 5 [(0, .ref o3), (1, .int (nI fx)), (2, .int xa), (3, .int xb)] := hl
  refine lv_aload_n hx hb dX3_watch_0 rfl (lv_at hl 0 rfl) ?_
  refine lv_iload_n hx hb dX3_watch_1 rfl (lv_at hl 1 rfl) ?_
  have hPc := hP.sub (ws' := [(o3, .inr (3, [.ref o1, .ref af, .int (nI nf)])), (af, aF q 6 (fun j => if j < nf then some (oa j) else none))]) [0, 1] rfl
  have hDc := hD.sub (ws' := [(o3, .inr (3, [.ref o1, .ref af, .int (nI nf)])), (af, aF q 6 (fun j => if j < nf then some (oa j) else none))]) [0, 1] (by decide) rfl
  have hFc := va_free (wc := [(o3, .inr (3, [.ref o1, .ref af, .int (nI nf)])), (af, aF q 6 (fun j => if j < nf then some (oa j) else none))]) hD hS hA [0, 1] rfl
  refine va_callq (va_runV (As := [.int (nI fx)]) (rest := []) ⟨hx, hb, hml, hown, hts⟩ (m_X3_numbered l G q s.heap.size o3 o1 af nf oa fx hnf hfx) (cwV 1 hts gX3_watch_X3_numbered rfl rfl rfl (by decide +kernel) ⟨Nat.le_of_ble_eq_true rfl, Nat.le_of_ble_eq_true rfl⟩) ⟨preW_blind, (va_recv hK hPc (ci := 3) (q0 := 0) rfl rfl), preW_start hPc hK hDc hNF⟩ rfl rfl hl.1 rfl (lv_room (Nat.le_of_ble_eq_true rfl)) dX3_watch_2 ⟨(by show _ ≤ 1; omega), (by show _ ≤ 6; omega)⟩) hS (fun q _ h => hFc q h) hFc (fun fr1 u9 t9 H1 locs ht9 hv9 hw hB9 hz9 hk9 hS => ?_)
  obtain ⟨⟩ := u9
  obtain ⟨hP1, hD1⟩ := hB9
  rw [ht9] at hP1
  obtain ⟨hP, hD⟩ := va_join (wr := [((oa fx), .inr (0, [.int kd, .ref aw, .ref ae, sq, .int th, .int wa, .int ta, .int lf, .double ou, .double er, .int ce, .int cd, .int rs]))]) (w1 := [(o3, .inr (3, [.ref o1, .ref af, .int (nI nf)])), (af, aF q 6 (fun j => if j < nf then some (oa j) else none))]) hP hD [0, 1] [2] rfl rfl (by decide) (by decide) hk9 hFc hP1 hD1
  generalize H1 = H at hP hS ⊢
  have hP : va_P G vwCl [((oa fx), .inr (0, [.int kd, .ref aw, .ref ae, sq, .int th, .int wa, .int ta, .int lf, .double ou, .double er, .int ce, .int cd, .int rs])), (o3, .inr (3, [.ref o1, .ref af, .int (nI nf)])), (af, aF q 6 (fun j => if j < nf then some (oa j) else none))] H := hP
  have hD : va_D A [((oa fx), .inr (0, [.int kd, .ref aw, .ref ae, sq, .int th, .int wa, .int ta, .int lf, .double ou, .double er, .int ce, .int cd, .int rs])), (o3, .inr (3, [.ref o1, .ref af, .int (nI nf)])), (af, aF q 6 (fun j => if j < nf then some (oa j) else none))] := hD
  obtain rfl : fr1 = some (oa fx) := hw
  refine lv_astore (lv' := [(4, .ref (oa fx)), (0, .ref o3), (1, .int (nI fx)), (2, .int xa), (3, .int xb)]) hx hb dX3_watch_5 hl (by decide) rfl (fun ls hl => ?_)
  refine lv_aload hx hb dX3_watch_7 (lv_at hl 0 rfl) ?_
  refine lv_ifnonnull (tgt := 22) hx hb dX3_watch_9 (by decide) ?_
  refine lv_iload_n hx hb dX3_watch_22 rfl (lv_at hl 3 rfl) ?_
  refine lv_iconst (v := 0) hx hb dX3_watch_23 (by decide) ?_
  refine lv_sipush (v := 1000) hx hb dX3_watch_24 (by decide) ?_
  have hPc := hP.sub (ws' := []) [] rfl
  have hDc := hD.sub (ws' := []) [] (by decide) rfl
  have hFc := va_free (wc := []) hD hS hA [] rfl
  refine va_calli (va_runS (As := [.int xa, .int 0, .int 1000]) (rest := []) ⟨hx, hb, hml, hown, hts⟩ (m_X3_isWithin l G q H.size xa 0 1000) (va_cwS 3 hts gX3_watch_X3_isWithin rfl rfl rfl (by decide +kernel) ⟨Nat.le_of_ble_eq_true rfl, Nat.le_of_ble_eq_true rfl⟩) ⟨preW_blind, preW_start hPc hK hDc hNF⟩ rfl rfl hl.1 rfl (lv_room (Nat.le_of_ble_eq_true rfl)) dX3_watch_27 ⟨(by show _ ≤ 1; omega), (by show _ ≤ 6; omega)⟩) hS (fun q _ h => hFc q h) hFc (fun ri3 u9 t9 H1 locs ht9 hv9 hw hB9 hz9 hk9 hS => ?_)
  obtain ⟨⟩ := u9
  obtain ⟨hP1, hD1⟩ := hB9
  rw [ht9] at hP1
  obtain ⟨hP, hD⟩ := va_join (wr := [((oa fx), .inr (0, [.int kd, .ref aw, .ref ae, sq, .int th, .int wa, .int ta, .int lf, .double ou, .double er, .int ce, .int cd, .int rs])), (o3, .inr (3, [.ref o1, .ref af, .int (nI nf)])), (af, aF q 6 (fun j => if j < nf then some (oa j) else none))]) (w1 := []) hP hD [] [0, 1, 2] rfl rfl (by decide) (by decide) hk9 hFc hP1 hD1
  generalize H1 = H at hP hS ⊢
  have hP : va_P G vwCl [((oa fx), .inr (0, [.int kd, .ref aw, .ref ae, sq, .int th, .int wa, .int ta, .int lf, .double ou, .double er, .int ce, .int cd, .int rs])), (o3, .inr (3, [.ref o1, .ref af, .int (nI nf)])), (af, aF q 6 (fun j => if j < nf then some (oa j) else none))] H := hP
  have hD : va_D A [((oa fx), .inr (0, [.int kd, .ref aw, .ref ae, sq, .int th, .int wa, .int ta, .int lf, .double ou, .double er, .int ce, .int cd, .int rs])), (o3, .inr (3, [.ref o1, .ref af, .int (nI nf)])), (af, aF q 6 (fun j => if j < nf then some (oa j) else none))] := hD
  by_cases ci5 : 0 ≤ xa ∧ xa ≤ 1000
  rotate_left
  · skip
    obtain rfl : ri3 = 0 := hw.trans (if_neg ci5)
    refine lv_if_ne (tgt := 43) hx hb dX3_watch_30 (by decide) (fun h => absurd (by decide) h) (fun _ => ?_)
    have hP := hP.sub (ws' := [(o3, .inr (3, [.ref o1, .ref af, .int (nI nf)])), (af, aF q 6 (fun j => if j < nf then some (oa j) else none)), ((oa fx), .inr (0, [.int kd, .ref aw, .ref ae, sq, .int th, .int wa, .int ta, .int lf, .double ou, .double er, .int ce, .int cd, .int rs]))]) [1, 2, 0] rfl
    have hD := hD.sub (ws' := [(o3, .inr (3, [.ref o1, .ref af, .int (nI nf)])), (af, aF q 6 (fun j => if j < nf then some (oa j) else none)), ((oa fx), .inr (0, [.int kd, .ref aw, .ref ae, sq, .int th, .int wa, .int ta, .int lf, .double ou, .double er, .int ce, .int cd, .int rs]))]) [1, 2, 0] (by decide) rfl
    obtain ⟨sa, hstr⟩ := hNT.1 (39, "hundredths out of range") (by decide)
    exact vx_throwS hx hb hst (own := RX3) (cls := exA) (text := "hundredths out of range") (names := exN) (ik := 37) (is := 39) (ic := 41) (A := A) hown (by decide +kernel) (by decide +kernel) (hts (.classLink RX3 37 exA) (by decide +kernel)) (hts (.initialized exA) (by decide +kernel)) hstr (vx_hat (fun w hw => hts w (at_X3_watch_A w hw)) at_bA (NT.bad hNT)) at_oA hNT.2.2.1 hNT.2.2.2 hS (hl.1.trans hml.symm) dX3_watch_33 dX3_watch_36 dX3_watch_37 dX3_watch_39 dX3_watch_42 (fun x hx => (htb x hx).elim) (Nat.le_of_ble_eq_true rfl) (Nat.le_of_ble_eq_true rfl) (Nat.le_of_ble_eq_true rfl) (Nat.le_of_ble_eq_true rfl) hlocks (fun t hv1 h1 h2 => ⟨(), trivial, ⟨rfl, hP.kept (fun k x hk => h2 x.1 (hP k x hk).lt), hD⟩, Nat.le_trans hS.1 h1, fun z hz hA2 => (h2 z (Nat.lt_of_lt_of_le hz hS.1)).trans (hS.2.1 z hz hA2)⟩) hS.2.2 (Nat.le_of_ble_eq_true rfl) (Nat.le_of_ble_eq_true rfl)
  obtain rfl : ri3 = 1 := hw.trans (if_pos ci5)
  refine lv_if_ne (tgt := 43) hx hb dX3_watch_30 (by decide) (fun _ => ?_) (fun h => absurd h (by decide))
  refine lv_iload_n hx hb dX3_watch_43 rfl (lv_at hl 4 rfl) ?_
  refine lv_iconst (v := 0) hx hb dX3_watch_44 (by decide) ?_
  refine lv_bipush (v := 20) hx hb dX3_watch_45 (by decide) ?_
  have hPc := hP.sub (ws' := []) [] rfl
  have hDc := hD.sub (ws' := []) [] (by decide) rfl
  have hFc := va_free (wc := []) hD hS hA [] rfl
  refine va_calli (va_runS (As := [.int xb, .int 0, .int 20]) (rest := []) ⟨hx, hb, hml, hown, hts⟩ (m_X3_isWithin l G q H.size xb 0 20) (va_cwS 3 hts gX3_watch_X3_isWithin rfl rfl rfl (by decide +kernel) ⟨Nat.le_of_ble_eq_true rfl, Nat.le_of_ble_eq_true rfl⟩) ⟨preW_blind, preW_start hPc hK hDc hNF⟩ rfl rfl hl.1 rfl (lv_room (Nat.le_of_ble_eq_true rfl)) dX3_watch_47 ⟨(by show _ ≤ 1; omega), (by show _ ≤ 6; omega)⟩) hS (fun q _ h => hFc q h) hFc (fun ri8 u9 t9 H1 locs ht9 hv9 hw hB9 hz9 hk9 hS => ?_)
  obtain ⟨⟩ := u9
  obtain ⟨hP1, hD1⟩ := hB9
  rw [ht9] at hP1
  obtain ⟨hP, hD⟩ := va_join (wr := [((oa fx), .inr (0, [.int kd, .ref aw, .ref ae, sq, .int th, .int wa, .int ta, .int lf, .double ou, .double er, .int ce, .int cd, .int rs])), (o3, .inr (3, [.ref o1, .ref af, .int (nI nf)])), (af, aF q 6 (fun j => if j < nf then some (oa j) else none))]) (w1 := []) hP hD [] [0, 1, 2] rfl rfl (by decide) (by decide) hk9 hFc hP1 hD1
  generalize H1 = H at hP hS ⊢
  have hP : va_P G vwCl [((oa fx), .inr (0, [.int kd, .ref aw, .ref ae, sq, .int th, .int wa, .int ta, .int lf, .double ou, .double er, .int ce, .int cd, .int rs])), (o3, .inr (3, [.ref o1, .ref af, .int (nI nf)])), (af, aF q 6 (fun j => if j < nf then some (oa j) else none))] H := hP
  have hD : va_D A [((oa fx), .inr (0, [.int kd, .ref aw, .ref ae, sq, .int th, .int wa, .int ta, .int lf, .double ou, .double er, .int ce, .int cd, .int rs])), (o3, .inr (3, [.ref o1, .ref af, .int (nI nf)])), (af, aF q 6 (fun j => if j < nf then some (oa j) else none))] := hD
  by_cases ci10 : 0 ≤ xb ∧ xb ≤ 20
  rotate_left
  · skip
    obtain rfl : ri8 = 0 := hw.trans (if_neg ci10)
    refine lv_if_ne (tgt := 63) hx hb dX3_watch_50 (by decide) (fun h => absurd (by decide) h) (fun _ => ?_)
    have hP := hP.sub (ws' := [(o3, .inr (3, [.ref o1, .ref af, .int (nI nf)])), (af, aF q 6 (fun j => if j < nf then some (oa j) else none)), ((oa fx), .inr (0, [.int kd, .ref aw, .ref ae, sq, .int th, .int wa, .int ta, .int lf, .double ou, .double er, .int ce, .int cd, .int rs]))]) [1, 2, 0] rfl
    have hD := hD.sub (ws' := [(o3, .inr (3, [.ref o1, .ref af, .int (nI nf)])), (af, aF q 6 (fun j => if j < nf then some (oa j) else none)), ((oa fx), .inr (0, [.int kd, .ref aw, .ref ae, sq, .int th, .int wa, .int ta, .int lf, .double ou, .double er, .int ce, .int cd, .int rs]))]) [1, 2, 0] (by decide) rfl
    obtain ⟨sa, hstr⟩ := hNT.1 (76, "tail out of range") (by decide)
    exact vx_throwS hx hb hst (own := RX3) (cls := exA) (text := "tail out of range") (names := exN) (ik := 37) (is := 76) (ic := 41) (A := A) hown (by decide +kernel) (by decide +kernel) (hts (.classLink RX3 37 exA) (by decide +kernel)) (hts (.initialized exA) (by decide +kernel)) hstr (vx_hat (fun w hw => hts w (at_X3_watch_A w hw)) at_bA (NT.bad hNT)) at_oA hNT.2.2.1 hNT.2.2.2 hS (hl.1.trans hml.symm) dX3_watch_53 dX3_watch_56 dX3_watch_57 dX3_watch_59 dX3_watch_62 (fun x hx => (htb x hx).elim) (Nat.le_of_ble_eq_true rfl) (Nat.le_of_ble_eq_true rfl) (Nat.le_of_ble_eq_true rfl) (Nat.le_of_ble_eq_true rfl) hlocks (fun t hv1 h1 h2 => ⟨(), trivial, ⟨rfl, hP.kept (fun k x hk => h2 x.1 (hP k x hk).lt), hD⟩, Nat.le_trans hS.1 h1, fun z hz hA2 => (h2 z (Nat.lt_of_lt_of_le hz hS.1)).trans (hS.2.1 z hz hA2)⟩) hS.2.2 (Nat.le_of_ble_eq_true rfl) (Nat.le_of_ble_eq_true rfl)
  obtain rfl : ri8 = 1 := hw.trans (if_pos ci10)
  refine lv_if_ne (tgt := 63) hx hb dX3_watch_50 (by decide) (fun _ => ?_) (fun h => absurd h (by decide))
  refine lv_aload hx hb dX3_watch_63 (lv_at hl 0 rfl) ?_
  refine lv_iload_n hx hb dX3_watch_65 rfl (lv_at hl 3 rfl) ?_
  refine va_putN (D := G) (ci := 0) (v := .int xa) (ty := .int) (C := RX0) (T := TX0) (N := 13) hx hb hts in_X3_watch_X0 tyX0 tyX0_ok nmX0 hown hK hP hD hS 0 rfl rfl 5 (by decide) (va_Nw.use rfl (hNF.1 (.fieldLinkNest RX3 78 "EchoBench$Filter" "watchHundredths" "I" "EchoBench") (by decide +kernel))) (fun _ h9 => h9) rfl (by decide +kernel) rfl rfl (Nat.le_of_ble_eq_true rfl) dX3_watch_66 (fun H locs hP hD hS => ?_)
  have hP : va_P G vwCl [((oa fx), .inr (0, [.int kd, .ref aw, .ref ae, sq, .int th, .int xa, .int ta, .int lf, .double ou, .double er, .int ce, .int cd, .int rs])), (o3, .inr (3, [.ref o1, .ref af, .int (nI nf)])), (af, aF q 6 (fun j => if j < nf then some (oa j) else none))] H := hP
  have hD : va_D A [((oa fx), .inr (0, [.int kd, .ref aw, .ref ae, sq, .int th, .int xa, .int ta, .int lf, .double ou, .double er, .int ce, .int cd, .int rs])), (o3, .inr (3, [.ref o1, .ref af, .int (nI nf)])), (af, aF q 6 (fun j => if j < nf then some (oa j) else none))] := hD
  refine lv_aload hx hb dX3_watch_69 (lv_at hl 0 rfl) ?_
  refine lv_iload_n hx hb dX3_watch_71 rfl (lv_at hl 4 rfl) ?_
  refine va_putN (D := G) (ci := 0) (v := .int xb) (ty := .int) (C := RX0) (T := TX0) (N := 13) hx hb hts in_X3_watch_X0 tyX0 tyX0_ok nmX0 hown hK hP hD hS 0 rfl rfl 6 (by decide) (va_Nw.use rfl (hNF.1 (.fieldLinkNest RX3 81 "EchoBench$Filter" "tail" "I" "EchoBench") (by decide +kernel))) (fun _ h9 => h9) rfl (by decide +kernel) rfl rfl (Nat.le_of_ble_eq_true rfl) dX3_watch_72 (fun H locs hP hD hS => ?_)
  have hP : va_P G vwCl [((oa fx), .inr (0, [.int kd, .ref aw, .ref ae, sq, .int th, .int xa, .int xb, .int lf, .double ou, .double er, .int ce, .int cd, .int rs])), (o3, .inr (3, [.ref o1, .ref af, .int (nI nf)])), (af, aF q 6 (fun j => if j < nf then some (oa j) else none))] H := hP
  have hD : va_D A [((oa fx), .inr (0, [.int kd, .ref aw, .ref ae, sq, .int th, .int xa, .int xb, .int lf, .double ou, .double er, .int ce, .int cd, .int rs])), (o3, .inr (3, [.ref o1, .ref af, .int (nI nf)])), (af, aF q 6 (fun j => if j < nf then some (oa j) else none))] := hD
  exact absurd ⟨ci5, ci10⟩ hc

set_option maxHeartbeats 4000000 in
set_option maxRecDepth 100000 in
/-- weight: where it throws -/
theorem m_X3_weight_x2 (l : Launch) (G : va_G) (q : Nat → ClassId) (sz : Nat) (hst : l.stackTraces = false) (o3 o1 af nf : Nat) (oa : Nat → Nat) (fx n aw ae : Nat) (sq : Value) (kd th wa ta lf ce cd rs : Int32) (ou er : UInt64) (xa : Int32) (fw : Nat → UInt64) (hnf : nf ≤ 6) (hfx : fx < nf) (hn : n ≤ 8) (hc : ¬ (0 ≤ xa ∧ xa ≤ nI n - 1)) : vx_Met l yX3_weight wsX3_weight ({ frames := 6, cells := 1, slots := 6, locals := 100 } : Jvm.Room) (PreX G q [.ref o3, .int (nI fx), .int xa] [(o3, .inr (3, [.ref o1, .ref af, .int (nI nf)])), (af, aF q 6 (fun j => if j < nf then some (oa j) else none)), ((oa fx), .inr (0, [.int kd, .ref aw, .ref ae, sq, .int th, .int wa, .int ta, .int lf, .double ou, .double er, .int ce, .int cd, .int rs])), (aw, aD q n fw)] sz) (va_Qd (fun (_ : UInt64) (_ : Unit) => False) (fun _ _ => True) (va_A [(o3, .inr (3, [.ref o1, .ref af, .int (nI nf)])), (af, aF q 6 (fun j => if j < nf then some (oa j) else none)), ((oa fx), .inr (0, [.int kd, .ref aw, .ref ae, sq, .int th, .int wa, .int ta, .int lf, .double ou, .double er, .int ce, .int cd, .int rs])), (aw, aD q n fw)] sz)) (vx_X (fun (_ : Unit) => True) (fun E _ t => E = exO ∧ EndA G (va_A [(o3, .inr (3, [.ref o1, .ref af, .int (nI nf)])), (af, aF q 6 (fun j => if j < nf then some (oa j) else none)), ((oa fx), .inr (0, [.int kd, .ref aw, .ref ae, sq, .int th, .int wa, .int ta, .int lf, .double ou, .double er, .int ce, .int cd, .int rs])), (aw, aD q n fw)] sz) [(o3, .inr (3, [.ref o1, .ref af, .int (nI nf)])), (af, aF q 6 (fun j => if j < nf then some (oa j) else none)), ((oa fx), .inr (0, [.int kd, .ref aw, .ref ae, sq, .int th, .int wa, .int ta, .int lf, .double ou, .double er, .int ce, .int cd, .int rs])), (aw, aD q n fw)] t) (va_A [(o3, .inr (3, [.ref o1, .ref af, .int (nI nf)])), (af, aF q 6 (fun j => if j < nf then some (oa j) else none)), ((oa fx), .inr (0, [.int kd, .ref aw, .ref ae, sq, .int th, .int wa, .int ta, .int lf, .double ou, .double er, .int ce, .int cd, .int rs])), (aw, aD q n fw)] sz)) 1 6 (va_A [(o3, .inr (3, [.ref o1, .ref af, .int (nI nf)])), (af, aF q 6 (fun j => if j < nf then some (oa j) else none)), ((oa fx), .inr (0, [.int kd, .ref aw, .ref ae, sq, .int th, .int wa, .int ta, .int lf, .double ou, .double er, .int ce, .int cd, .int rs])), (aw, aD q n fw)] sz) := by
  refine vx_ofW (cc := cX3_weight) (maxL := 4) (ret := (some .double)) (by decide +kernel) rfl ?_
  intro p e s m args below meth c s₁ B hml htb hv
  obtain ⟨⟨rfl, hsz, hP, hK, hD0, hNF⟩, hNT⟩ := hv
  have hx := B.exec
  have hb := B.bytes
  have hr := B.returns
  have hts := atoms_spec (ws := wsX3_weight) B.pre
  have hown : s.vm.findClass RX3 = some m.cls := findClass_of_methodNamed B.named
  have hlocks := B.notSynchronized
  subst hsz
  have hD := hD0.self (sz := s.heap.size)
  generalize hAe : va_A [(o3, .inr (3, [.ref o1, .ref af, .int (nI nf)])), (af, aF q 6 (fun j => if j < nf then some (oa j) else none)), ((oa fx), .inr (0, [.int kd, .ref aw, .ref ae, sq, .int th, .int wa, .int ta, .int lf, .double ou, .double er, .int ce, .int cd, .int rs])), (aw, aD q n fw)] s.heap.size = A at hD hNT ⊢
  have hA : ∀ q : Nat, s.heap.size ≤ q → A q := fun q h => by rw [← hAe]; exact Or.inr h
  have hS : va_S A s.heap s.heap [] := va_S.rf
  have hP : va_P G vwCl [(o3, .inr (3, [.ref o1, .ref af, .int (nI nf)])), (af, aF q 6 (fun j => if j < nf then some (oa j) else none)), ((oa fx), .inr (0, [.int kd, .ref aw, .ref ae, sq, .int th, .int wa, .int ta, .int lf, .double ou, .double er, .int ce, .int cd, .int rs])), (aw, aD q n fw)] s.heap := hP
  have hl := lv_entry ([.ref o3, .int (nI fx), .int xa]) (n := 4) (Nat.le_of_ble_eq_true rfl)
  rw [lg_entry_eq]
  generalize (lg_sl ([.ref o3, .int (nI fx), .int xa]) ++ List.replicate (4 - (lg_sl ([.ref o3, .int (nI fx), .int xa])).length) Slot.unset).toArray = ls at hl ⊢
  have hl : lv_has ls 4 [(0, .ref o3), (1, .int (nI fx)), (2, .int xa)] := hl
  refine lv_aload_n hx hb dX3_weight_0 rfl (lv_at hl 0 rfl) ?_
  refine lv_iload_n hx hb dX3_weight_1 rfl (lv_at hl 1 rfl) ?_
  have hPc := hP.sub (ws' := [(o3, .inr (3, [.ref o1, .ref af, .int (nI nf)])), (af, aF q 6 (fun j => if j < nf then some (oa j) else none))]) [0, 1] rfl
  have hDc := hD.sub (ws' := [(o3, .inr (3, [.ref o1, .ref af, .int (nI nf)])), (af, aF q 6 (fun j => if j < nf then some (oa j) else none))]) [0, 1] (by decide) rfl
  have hFc := va_free (wc := [(o3, .inr (3, [.ref o1, .ref af, .int (nI nf)])), (af, aF q 6 (fun j => if j < nf then some (oa j) else none))]) hD hS hA [0, 1] rfl
  refine va_callq (va_runV (As := [.int (nI fx)]) (rest := []) ⟨hx, hb, hml, hown, hts⟩ (m_X3_numbered l G q s.heap.size o3 o1 af nf oa fx hnf hfx) (cwV 1 hts gX3_weight_X3_numbered rfl rfl rfl (by decide +kernel) ⟨Nat.le_of_ble_eq_true rfl, Nat.le_of_ble_eq_true rfl⟩) ⟨preW_blind, (va_recv hK hPc (ci := 3) (q0 := 0) rfl rfl), preW_start hPc hK hDc hNF⟩ rfl rfl hl.1 rfl (lv_room (Nat.le_of_ble_eq_true rfl)) dX3_weight_2 ⟨(by show _ ≤ 1; omega), (by show _ ≤ 6; omega)⟩) hS (fun q _ h => hFc q h) hFc (fun fr1 u9 t9 H1 locs ht9 hv9 hw hB9 hz9 hk9 hS => ?_)
  obtain ⟨⟩ := u9
  obtain ⟨hP1, hD1⟩ := hB9
  rw [ht9] at hP1
  obtain ⟨hP, hD⟩ := va_join (wr := [((oa fx), .inr (0, [.int kd, .ref aw, .ref ae, sq, .int th, .int wa, .int ta, .int lf, .double ou, .double er, .int ce, .int cd, .int rs])), (aw, aD q n fw)]) (w1 := [(o3, .inr (3, [.ref o1, .ref af, .int (nI nf)])), (af, aF q 6 (fun j => if j < nf then some (oa j) else none))]) hP hD [0, 1] [2, 3] rfl rfl (by decide) (by decide) hk9 hFc hP1 hD1
  generalize H1 = H at hP hS ⊢
  have hP : va_P G vwCl [((oa fx), .inr (0, [.int kd, .ref aw, .ref ae, sq, .int th, .int wa, .int ta, .int lf, .double ou, .double er, .int ce, .int cd, .int rs])), (aw, aD q n fw), (o3, .inr (3, [.ref o1, .ref af, .int (nI nf)])), (af, aF q 6 (fun j => if j < nf then some (oa j) else none))] H := hP
  have hD : va_D A [((oa fx), .inr (0, [.int kd, .ref aw, .ref ae, sq, .int th, .int wa, .int ta, .int lf, .double ou, .double er, .int ce, .int cd, .int rs])), (aw, aD q n fw), (o3, .inr (3, [.ref o1, .ref af, .int (nI nf)])), (af, aF q 6 (fun j => if j < nf then some (oa j) else none))] := hD
  obtain rfl : fr1 = some (oa fx) := hw
  refine lv_astore_n (lv' := [(3, .ref (oa fx)), (0, .ref o3), (1, .int (nI fx)), (2, .int xa)]) hx hb dX3_weight_5 rfl hl (by decide) rfl (fun ls hl => ?_)
  refine lv_aload_n hx hb dX3_weight_6 rfl (lv_at hl 0 rfl) ?_
  refine lv_ifnonnull (tgt := 20) hx hb dX3_weight_7 (by decide) ?_
  refine lv_iload_n hx hb dX3_weight_20 rfl (lv_at hl 3 rfl) ?_
  refine lv_if_lt (tgt := 33) hx hb dX3_weight_21 (by decide) (fun c1 => ?_) (fun c1 => ?_)
  · skip
    have hP := hP.sub (ws' := [(o3, .inr (3, [.ref o1, .ref af, .int (nI nf)])), (af, aF q 6 (fun j => if j < nf then some (oa j) else none)), ((oa fx), .inr (0, [.int kd, .ref aw, .ref ae, sq, .int th, .int wa, .int ta, .int lf, .double ou, .double er, .int ce, .int cd, .int rs])), (aw, aD q n fw)]) [2, 3, 0, 1] rfl
    have hD := hD.sub (ws' := [(o3, .inr (3, [.ref o1, .ref af, .int (nI nf)])), (af, aF q 6 (fun j => if j < nf then some (oa j) else none)), ((oa fx), .inr (0, [.int kd, .ref aw, .ref ae, sq, .int th, .int wa, .int ta, .int lf, .double ou, .double er, .int ce, .int cd, .int rs])), (aw, aD q n fw)]) [2, 3, 0, 1] (by decide) rfl
    obtain ⟨sa, hstr⟩ := hNT.1 (108, "no such tap") (by decide)
    exact vx_throwS hx hb hst (own := RX3) (cls := exO) (text := "no such tap") (names := exN) (ik := 30) (is := 108) (ic := 34) (A := A) hown (by decide +kernel) (by decide +kernel) (hts (.classLink RX3 30 exO) (by decide +kernel)) (hts (.initialized exO) (by decide +kernel)) hstr (vx_hat (fun w hw => hts w (at_X3_weight_O w hw)) at_bO (NT.bad hNT)) at_oO hNT.2.2.1 hNT.2.2.2 hS (hl.1.trans hml.symm) dX3_weight_33 dX3_weight_36 dX3_weight_37 dX3_weight_39 dX3_weight_42 (fun x hx => (htb x hx).elim) (Nat.le_of_ble_eq_true rfl) (Nat.le_of_ble_eq_true rfl) (Nat.le_of_ble_eq_true rfl) (Nat.le_of_ble_eq_true rfl) hlocks (fun t hv1 h1 h2 => ⟨(), trivial, ⟨rfl, hP.kept (fun k x hk => h2 x.1 (hP k x hk).lt), hD⟩, Nat.le_trans hS.1 h1, fun z hz hA2 => (h2 z (Nat.lt_of_lt_of_le hz hS.1)).trans (hS.2.1 z hz hA2)⟩) hS.2.2 (Nat.le_of_ble_eq_true rfl) (Nat.le_of_ble_eq_true rfl)
  · skip
    refine lv_iload_n hx hb dX3_weight_24 rfl (lv_at hl 3 rfl) ?_
    refine lv_aload_n hx hb dX3_weight_25 rfl (lv_at hl 0 rfl) ?_
    refine va_getN (D := G) (ci := 0) (v := .ref aw) (C := RX0) (T := TX0) (N := 13) hx hb hts in_X3_weight_X0 hown hK hP 0 rfl rfl 1 (by decide) (va_Nw.use rfl (hNF.1 (.fieldLinkNest RX3 104 "EchoBench$Filter" "weights" "[D" "EchoBench") (by decide +kernel))) (fun _ h9 => h9) rfl dX3_weight_26 ?_
    refine va_alen (D := G) hx hb hK hP 1 1 rfl rfl (v := (nI n)) rfl dX3_weight_29 ?_
    refine lv_icmp_lt (tgt := 43) hx hb dX3_weight_30 (by decide) (fun c2 => ?_) (fun c2 => ?_)
    · skip
      obtain ⟨j, hj, rfl⟩ := nI_of c1
      exact absurd (m1_in (by omega) ((nI_ltI hj (by omega)).mp c2)) hc
    · skip
      have hP := hP.sub (ws' := [(o3, .inr (3, [.ref o1, .ref af, .int (nI nf)])), (af, aF q 6 (fun j => if j < nf then some (oa j) else none)), ((oa fx), .inr (0, [.int kd, .ref aw, .ref ae, sq, .int th, .int wa, .int ta, .int lf, .double ou, .double er, .int ce, .int cd, .int rs])), (aw, aD q n fw)]) [2, 3, 0, 1] rfl
      have hD := hD.sub (ws' := [(o3, .inr (3, [.ref o1, .ref af, .int (nI nf)])), (af, aF q 6 (fun j => if j < nf then some (oa j) else none)), ((oa fx), .inr (0, [.int kd, .ref aw, .ref ae, sq, .int th, .int wa, .int ta, .int lf, .double ou, .double er, .int ce, .int cd, .int rs])), (aw, aD q n fw)]) [2, 3, 0, 1] (by decide) rfl
      obtain ⟨sa, hstr⟩ := hNT.1 (108, "no such tap") (by decide)
      exact vx_throwS hx hb hst (own := RX3) (cls := exO) (text := "no such tap") (names := exN) (ik := 30) (is := 108) (ic := 34) (A := A) hown (by decide +kernel) (by decide +kernel) (hts (.classLink RX3 30 exO) (by decide +kernel)) (hts (.initialized exO) (by decide +kernel)) hstr (vx_hat (fun w hw => hts w (at_X3_weight_O w hw)) at_bO (NT.bad hNT)) at_oO hNT.2.2.1 hNT.2.2.2 hS (hl.1.trans hml.symm) dX3_weight_33 dX3_weight_36 dX3_weight_37 dX3_weight_39 dX3_weight_42 (fun x hx => (htb x hx).elim) (Nat.le_of_ble_eq_true rfl) (Nat.le_of_ble_eq_true rfl) (Nat.le_of_ble_eq_true rfl) (Nat.le_of_ble_eq_true rfl) hlocks (fun t hv1 h1 h2 => ⟨(), trivial, ⟨rfl, hP.kept (fun k x hk => h2 x.1 (hP k x hk).lt), hD⟩, Nat.le_trans hS.1 h1, fun z hz hA2 => (h2 z (Nat.lt_of_lt_of_le hz hS.1)).trans (hS.2.1 z hz hA2)⟩) hS.2.2 (Nat.le_of_ble_eq_true rfl) (Nat.le_of_ble_eq_true rfl)

theorem at_X3_of_A : ∀ w ∈ (vx_atS RX3 41 exA exN).filter goodWord, w ∈ wsX3_of := by
  intro w h
  unfold wsX3_of
  refine List.mem_cons_of_mem _ ?_
  repeat (first | exact List.mem_append_right _ h | refine List.mem_append_left _ ?_)
set_option maxHeartbeats 4000000 in
set_option maxRecDepth 100000 in
/-- of: where it throws -/
theorem m_X3_of_x2 (l : Launch) (G : va_G) (q : Nat → ClassId) (sz : Nat) (hst : l.stackTraces = false) (o3 o1 af nf : Nat) (oa : Nat → Nat) (fx n aw ae : Nat) (sq : Value) (kd th wa ta lf ce cd rs : Int32) (ou er : UInt64) (xa : Int32) (hnf : nf ≤ 6) (hfx : fx < nf) (hc : ¬ (0 ≤ xa ∧ xa ≤ 3)) : vx_Met l yX3_of wsX3_of ({ frames := 6, cells := 1, slots := 6, locals := 100 } : Jvm.Room) (PreX G q [.ref o3, .int (nI fx), .int xa] [(o3, .inr (3, [.ref o1, .ref af, .int (nI nf)])), (af, aF q 6 (fun j => if j < nf then some (oa j) else none)), ((oa fx), .inr (0, [.int kd, .ref aw, .ref ae, sq, .int th, .int wa, .int ta, .int lf, .double ou, .double er, .int ce, .int cd, .int rs]))] sz) (va_Qd (fun (_ : UInt64) (_ : Unit) => False) (fun _ _ => True) (va_A [(o3, .inr (3, [.ref o1, .ref af, .int (nI nf)])), (af, aF q 6 (fun j => if j < nf then some (oa j) else none)), ((oa fx), .inr (0, [.int kd, .ref aw, .ref ae, sq, .int th, .int wa, .int ta, .int lf, .double ou, .double er, .int ce, .int cd, .int rs]))] sz)) (vx_X (fun (_ : Unit) => True) (fun E _ t => E = exA ∧ EndA G (va_A [(o3, .inr (3, [.ref o1, .ref af, .int (nI nf)])), (af, aF q 6 (fun j => if j < nf then some (oa j) else none)), ((oa fx), .inr (0, [.int kd, .ref aw, .ref ae, sq, .int th, .int wa, .int ta, .int lf, .double ou, .double er, .int ce, .int cd, .int rs]))] sz) [(o3, .inr (3, [.ref o1, .ref af, .int (nI nf)])), (af, aF q 6 (fun j => if j < nf then some (oa j) else none)), ((oa fx), .inr (0, [.int kd, .ref aw, .ref ae, sq, .int th, .int wa, .int ta, .int lf, .double ou, .double er, .int ce, .int cd, .int rs]))] t) (va_A [(o3, .inr (3, [.ref o1, .ref af, .int (nI nf)])), (af, aF q 6 (fun j => if j < nf then some (oa j) else none)), ((oa fx), .inr (0, [.int kd, .ref aw, .ref ae, sq, .int th, .int wa, .int ta, .int lf, .double ou, .double er, .int ce, .int cd, .int rs]))] sz)) 1 6 (va_A [(o3, .inr (3, [.ref o1, .ref af, .int (nI nf)])), (af, aF q 6 (fun j => if j < nf then some (oa j) else none)), ((oa fx), .inr (0, [.int kd, .ref aw, .ref ae, sq, .int th, .int wa, .int ta, .int lf, .double ou, .double er, .int ce, .int cd, .int rs]))] sz) := by
  refine vx_ofW (cc := cX3_of) (maxL := 4) (ret := (some .double)) (by decide +kernel) rfl ?_
  intro p e s m args below meth c s₁ B hml htb hv
  obtain ⟨⟨rfl, hsz, hP, hK, hD0, hNF⟩, hNT⟩ := hv
  have hx := B.exec
  have hb := B.bytes
  have hr := B.returns
  have hts := atoms_spec (ws := wsX3_of) B.pre
  have hown : s.vm.findClass RX3 = some m.cls := findClass_of_methodNamed B.named
  have hlocks := B.notSynchronized
  subst hsz
  have hD := hD0.self (sz := s.heap.size)
  generalize hAe : va_A [(o3, .inr (3, [.ref o1, .ref af, .int (nI nf)])), (af, aF q 6 (fun j => if j < nf then some (oa j) else none)), ((oa fx), .inr (0, [.int kd, .ref aw, .ref ae, sq, .int th, .int wa, .int ta, .int lf, .double ou, .double er, .int ce, .int cd, .int rs]))] s.heap.size = A at hD hNT ⊢
  have hA : ∀ q : Nat, s.heap.size ≤ q → A q := fun q h => by rw [← hAe]; exact Or.inr h
  have hS : va_S A s.heap s.heap [] := va_S.rf
  have hP : va_P G vwCl [(o3, .inr (3, [.ref o1, .ref af, .int (nI nf)])), (af, aF q 6 (fun j => if j < nf then some (oa j) else none)), ((oa fx), .inr (0, [.int kd, .ref aw, .ref ae, sq, .int th, .int wa, .int ta, .int lf, .double ou, .double er, .int ce, .int cd, .int rs]))] s.heap := hP
  have hl := lv_entry ([.ref o3, .int (nI fx), .int xa]) (n := 4) (Nat.le_of_ble_eq_true rfl)
  rw [lg_entry_eq]
  generalize (lg_sl ([.ref o3, .int (nI fx), .int xa]) ++ List.replicate (4 - (lg_sl ([.ref o3, .int (nI fx), .int xa])).length) Slot.unset).toArray = ls at hl ⊢
  have hl : lv_has ls 4 [(0, .ref o3), (1, .int (nI fx)), (2, .int xa)] := hl
  refine lv_aload_n hx hb dX3_of_0 rfl (lv_at hl 0 rfl) ?_
  refine lv_iload_n hx hb dX3_of_1 rfl (lv_at hl 1 rfl) ?_
  have hPc := hP.sub (ws' := [(o3, .inr (3, [.ref o1, .ref af, .int (nI nf)])), (af, aF q 6 (fun j => if j < nf then some (oa j) else none))]) [0, 1] rfl
  have hDc := hD.sub (ws' := [(o3, .inr (3, [.ref o1, .ref af, .int (nI nf)])), (af, aF q 6 (fun j => if j < nf then some (oa j) else none))]) [0, 1] (by decide) rfl
  have hFc := va_free (wc := [(o3, .inr (3, [.ref o1, .ref af, .int (nI nf)])), (af, aF q 6 (fun j => if j < nf then some (oa j) else none))]) hD hS hA [0, 1] rfl
  refine va_callq (va_runV (As := [.int (nI fx)]) (rest := []) ⟨hx, hb, hml, hown, hts⟩ (m_X3_numbered l G q s.heap.size o3 o1 af nf oa fx hnf hfx) (cwV 1 hts gX3_of_X3_numbered rfl rfl rfl (by decide +kernel) ⟨Nat.le_of_ble_eq_true rfl, Nat.le_of_ble_eq_true rfl⟩) ⟨preW_blind, (va_recv hK hPc (ci := 3) (q0 := 0) rfl rfl), preW_start hPc hK hDc hNF⟩ rfl rfl hl.1 rfl (lv_room (Nat.le_of_ble_eq_true rfl)) dX3_of_2 ⟨(by show _ ≤ 1; omega), (by show _ ≤ 6; omega)⟩) hS (fun q _ h => hFc q h) hFc (fun fr1 u9 t9 H1 locs ht9 hv9 hw hB9 hz9 hk9 hS => ?_)
  obtain ⟨⟩ := u9
  obtain ⟨hP1, hD1⟩ := hB9
  rw [ht9] at hP1
  obtain ⟨hP, hD⟩ := va_join (wr := [((oa fx), .inr (0, [.int kd, .ref aw, .ref ae, sq, .int th, .int wa, .int ta, .int lf, .double ou, .double er, .int ce, .int cd, .int rs]))]) (w1 := [(o3, .inr (3, [.ref o1, .ref af, .int (nI nf)])), (af, aF q 6 (fun j => if j < nf then some (oa j) else none))]) hP hD [0, 1] [2] rfl rfl (by decide) (by decide) hk9 hFc hP1 hD1
  generalize H1 = H at hP hS ⊢
  have hP : va_P G vwCl [((oa fx), .inr (0, [.int kd, .ref aw, .ref ae, sq, .int th, .int wa, .int ta, .int lf, .double ou, .double er, .int ce, .int cd, .int rs])), (o3, .inr (3, [.ref o1, .ref af, .int (nI nf)])), (af, aF q 6 (fun j => if j < nf then some (oa j) else none))] H := hP
  have hD : va_D A [((oa fx), .inr (0, [.int kd, .ref aw, .ref ae, sq, .int th, .int wa, .int ta, .int lf, .double ou, .double er, .int ce, .int cd, .int rs])), (o3, .inr (3, [.ref o1, .ref af, .int (nI nf)])), (af, aF q 6 (fun j => if j < nf then some (oa j) else none))] := hD
  obtain rfl : fr1 = some (oa fx) := hw
  refine lv_astore_n (lv' := [(3, .ref (oa fx)), (0, .ref o3), (1, .int (nI fx)), (2, .int xa)]) hx hb dX3_of_5 rfl hl (by decide) rfl (fun ls hl => ?_)
  refine lv_aload_n hx hb dX3_of_6 rfl (lv_at hl 0 rfl) ?_
  refine lv_ifnonnull (tgt := 20) hx hb dX3_of_7 (by decide) ?_
  refine lv_iload_n hx hb dX3_of_20 rfl (lv_at hl 3 rfl) ?_
  refine lv_tableOut (tgt := 79) hx hb dX3_of_21 (out_03 hc) (by decide) ?_
  have hP := hP.sub (ws' := [(o3, .inr (3, [.ref o1, .ref af, .int (nI nf)])), (af, aF q 6 (fun j => if j < nf then some (oa j) else none)), ((oa fx), .inr (0, [.int kd, .ref aw, .ref ae, sq, .int th, .int wa, .int ta, .int lf, .double ou, .double er, .int ce, .int cd, .int rs]))]) [1, 2, 0] rfl
  have hD := hD.sub (ws' := [(o3, .inr (3, [.ref o1, .ref af, .int (nI nf)])), (af, aF q 6 (fun j => if j < nf then some (oa j) else none)), ((oa fx), .inr (0, [.int kd, .ref aw, .ref ae, sq, .int th, .int wa, .int ta, .int lf, .double ou, .double er, .int ce, .int cd, .int rs]))]) [1, 2, 0] (by decide) rfl
  obtain ⟨sa, hstr⟩ := hNT.1 (125, "what out of range") (by decide)
  exact vx_throwS hx hb hst (own := RX3) (cls := exA) (text := "what out of range") (names := exN) (ik := 37) (is := 125) (ic := 41) (A := A) hown (by decide +kernel) (by decide +kernel) (hts (.classLink RX3 37 exA) (by decide +kernel)) (hts (.initialized exA) (by decide +kernel)) hstr (vx_hat (fun w hw => hts w (at_X3_of_A w hw)) at_bA (NT.bad hNT)) at_oA hNT.2.2.1 hNT.2.2.2 hS (hl.1.trans hml.symm) dX3_of_79 dX3_of_82 dX3_of_83 dX3_of_85 dX3_of_88 (fun x hx => (htb x hx).elim) (Nat.le_of_ble_eq_true rfl) (Nat.le_of_ble_eq_true rfl) (Nat.le_of_ble_eq_true rfl) (Nat.le_of_ble_eq_true rfl) hlocks (fun t hv1 h1 h2 => ⟨(), trivial, ⟨rfl, hP.kept (fun k x hk => h2 x.1 (hP k x hk).lt), hD⟩, Nat.le_trans hS.1 h1, fun z hz hA2 => (h2 z (Nat.lt_of_lt_of_le hz hS.1)).trans (hS.2.1 z hz hA2)⟩) hS.2.2 (Nat.le_of_ble_eq_true rfl) (Nat.le_of_ble_eq_true rfl)

theorem at_X3_count_A : ∀ w ∈ (vx_atS RX3 41 exA exN).filter goodWord, w ∈ wsX3_count := by
  intro w h
  unfold wsX3_count
  refine List.mem_cons_of_mem _ ?_
  repeat (first | exact List.mem_append_right _ h | refine List.mem_append_left _ ?_)
set_option maxHeartbeats 4000000 in
set_option maxRecDepth 100000 in
/-- count: where it throws -/
theorem m_X3_count_x2 (l : Launch) (G : va_G) (q : Nat → ClassId) (sz : Nat) (hst : l.stackTraces = false) (o3 o1 af nf : Nat) (oa : Nat → Nat) (fx n aw ae : Nat) (sq : Value) (kd th wa ta lf ce cd rs : Int32) (ou er : UInt64) (xa : Int32) (hnf : nf ≤ 6) (hfx : fx < nf) (hc : ¬ (0 ≤ xa ∧ xa ≤ 3)) : vx_Met l yX3_count wsX3_count ({ frames := 6, cells := 1, slots := 6, locals := 100 } : Jvm.Room) (PreX G q [.ref o3, .int (nI fx), .int xa] [(o3, .inr (3, [.ref o1, .ref af, .int (nI nf)])), (af, aF q 6 (fun j => if j < nf then some (oa j) else none)), ((oa fx), .inr (0, [.int kd, .ref aw, .ref ae, sq, .int th, .int wa, .int ta, .int lf, .double ou, .double er, .int ce, .int cd, .int rs]))] sz) (va_Qi (fun (_ : Int32) (_ : Unit) => False) (fun _ _ => True) (va_A [(o3, .inr (3, [.ref o1, .ref af, .int (nI nf)])), (af, aF q 6 (fun j => if j < nf then some (oa j) else none)), ((oa fx), .inr (0, [.int kd, .ref aw, .ref ae, sq, .int th, .int wa, .int ta, .int lf, .double ou, .double er, .int ce, .int cd, .int rs]))] sz)) (vx_X (fun (_ : Unit) => True) (fun E _ t => E = exA ∧ EndA G (va_A [(o3, .inr (3, [.ref o1, .ref af, .int (nI nf)])), (af, aF q 6 (fun j => if j < nf then some (oa j) else none)), ((oa fx), .inr (0, [.int kd, .ref aw, .ref ae, sq, .int th, .int wa, .int ta, .int lf, .double ou, .double er, .int ce, .int cd, .int rs]))] sz) [(o3, .inr (3, [.ref o1, .ref af, .int (nI nf)])), (af, aF q 6 (fun j => if j < nf then some (oa j) else none)), ((oa fx), .inr (0, [.int kd, .ref aw, .ref ae, sq, .int th, .int wa, .int ta, .int lf, .double ou, .double er, .int ce, .int cd, .int rs]))] t) (va_A [(o3, .inr (3, [.ref o1, .ref af, .int (nI nf)])), (af, aF q 6 (fun j => if j < nf then some (oa j) else none)), ((oa fx), .inr (0, [.int kd, .ref aw, .ref ae, sq, .int th, .int wa, .int ta, .int lf, .double ou, .double er, .int ce, .int cd, .int rs]))] sz)) 1 6 (va_A [(o3, .inr (3, [.ref o1, .ref af, .int (nI nf)])), (af, aF q 6 (fun j => if j < nf then some (oa j) else none)), ((oa fx), .inr (0, [.int kd, .ref aw, .ref ae, sq, .int th, .int wa, .int ta, .int lf, .double ou, .double er, .int ce, .int cd, .int rs]))] sz) := by
  refine vx_ofW (cc := cX3_count) (maxL := 4) (ret := (some .int)) (by decide +kernel) rfl ?_
  intro p e s m args below meth c s₁ B hml htb hv
  obtain ⟨⟨rfl, hsz, hP, hK, hD0, hNF⟩, hNT⟩ := hv
  have hx := B.exec
  have hb := B.bytes
  have hr := B.returns
  have hts := atoms_spec (ws := wsX3_count) B.pre
  have hown : s.vm.findClass RX3 = some m.cls := findClass_of_methodNamed B.named
  have hlocks := B.notSynchronized
  subst hsz
  have hD := hD0.self (sz := s.heap.size)
  generalize hAe : va_A [(o3, .inr (3, [.ref o1, .ref af, .int (nI nf)])), (af, aF q 6 (fun j => if j < nf then some (oa j) else none)), ((oa fx), .inr (0, [.int kd, .ref aw, .ref ae, sq, .int th, .int wa, .int ta, .int lf, .double ou, .double er, .int ce, .int cd, .int rs]))] s.heap.size = A at hD hNT ⊢
  have hA : ∀ q : Nat, s.heap.size ≤ q → A q := fun q h => by rw [← hAe]; exact Or.inr h
  have hS : va_S A s.heap s.heap [] := va_S.rf
  have hP : va_P G vwCl [(o3, .inr (3, [.ref o1, .ref af, .int (nI nf)])), (af, aF q 6 (fun j => if j < nf then some (oa j) else none)), ((oa fx), .inr (0, [.int kd, .ref aw, .ref ae, sq, .int th, .int wa, .int ta, .int lf, .double ou, .double er, .int ce, .int cd, .int rs]))] s.heap := hP
  have hl := lv_entry ([.ref o3, .int (nI fx), .int xa]) (n := 4) (Nat.le_of_ble_eq_true rfl)
  rw [lg_entry_eq]
  generalize (lg_sl ([.ref o3, .int (nI fx), .int xa]) ++ List.replicate (4 - (lg_sl ([.ref o3, .int (nI fx), .int xa])).length) Slot.unset).toArray = ls at hl ⊢
  have hl : lv_has ls 4 [(0, .ref o3), (1, .int (nI fx)), (2, .int xa)] := hl
  refine lv_aload_n hx hb dX3_count_0 rfl (lv_at hl 0 rfl) ?_
  refine lv_iload_n hx hb dX3_count_1 rfl (lv_at hl 1 rfl) ?_
  have hPc := hP.sub (ws' := [(o3, .inr (3, [.ref o1, .ref af, .int (nI nf)])), (af, aF q 6 (fun j => if j < nf then some (oa j) else none))]) [0, 1] rfl
  have hDc := hD.sub (ws' := [(o3, .inr (3, [.ref o1, .ref af, .int (nI nf)])), (af, aF q 6 (fun j => if j < nf then some (oa j) else none))]) [0, 1] (by decide) rfl
  have hFc := va_free (wc := [(o3, .inr (3, [.ref o1, .ref af, .int (nI nf)])), (af, aF q 6 (fun j => if j < nf then some (oa j) else none))]) hD hS hA [0, 1] rfl
  refine va_callq (va_runV (As := [.int (nI fx)]) (rest := []) ⟨hx, hb, hml, hown, hts⟩ (m_X3_numbered l G q s.heap.size o3 o1 af nf oa fx hnf hfx) (cwV 1 hts gX3_count_X3_numbered rfl rfl rfl (by decide +kernel) ⟨Nat.le_of_ble_eq_true rfl, Nat.le_of_ble_eq_true rfl⟩) ⟨preW_blind, (va_recv hK hPc (ci := 3) (q0 := 0) rfl rfl), preW_start hPc hK hDc hNF⟩ rfl rfl hl.1 rfl (lv_room (Nat.le_of_ble_eq_true rfl)) dX3_count_2 ⟨(by show _ ≤ 1; omega), (by show _ ≤ 6; omega)⟩) hS (fun q _ h => hFc q h) hFc (fun fr1 u9 t9 H1 locs ht9 hv9 hw hB9 hz9 hk9 hS => ?_)
  obtain ⟨⟩ := u9
  obtain ⟨hP1, hD1⟩ := hB9
  rw [ht9] at hP1
  obtain ⟨hP, hD⟩ := va_join (wr := [((oa fx), .inr (0, [.int kd, .ref aw, .ref ae, sq, .int th, .int wa, .int ta, .int lf, .double ou, .double er, .int ce, .int cd, .int rs]))]) (w1 := [(o3, .inr (3, [.ref o1, .ref af, .int (nI nf)])), (af, aF q 6 (fun j => if j < nf then some (oa j) else none))]) hP hD [0, 1] [2] rfl rfl (by decide) (by decide) hk9 hFc hP1 hD1
  generalize H1 = H at hP hS ⊢
  have hP : va_P G vwCl [((oa fx), .inr (0, [.int kd, .ref aw, .ref ae, sq, .int th, .int wa, .int ta, .int lf, .double ou, .double er, .int ce, .int cd, .int rs])), (o3, .inr (3, [.ref o1, .ref af, .int (nI nf)])), (af, aF q 6 (fun j => if j < nf then some (oa j) else none))] H := hP
  have hD : va_D A [((oa fx), .inr (0, [.int kd, .ref aw, .ref ae, sq, .int th, .int wa, .int ta, .int lf, .double ou, .double er, .int ce, .int cd, .int rs])), (o3, .inr (3, [.ref o1, .ref af, .int (nI nf)])), (af, aF q 6 (fun j => if j < nf then some (oa j) else none))] := hD
  obtain rfl : fr1 = some (oa fx) := hw
  refine lv_astore_n (lv' := [(3, .ref (oa fx)), (0, .ref o3), (1, .int (nI fx)), (2, .int xa)]) hx hb dX3_count_5 rfl hl (by decide) rfl (fun ls hl => ?_)
  refine lv_aload_n hx hb dX3_count_6 rfl (lv_at hl 0 rfl) ?_
  refine lv_ifnonnull (tgt := 20) hx hb dX3_count_7 (by decide) ?_
  refine lv_iload_n hx hb dX3_count_20 rfl (lv_at hl 3 rfl) ?_
  refine lv_tableOut (tgt := 72) hx hb dX3_count_21 (out_03 hc) (by decide) ?_
  have hP := hP.sub (ws' := [(o3, .inr (3, [.ref o1, .ref af, .int (nI nf)])), (af, aF q 6 (fun j => if j < nf then some (oa j) else none)), ((oa fx), .inr (0, [.int kd, .ref aw, .ref ae, sq, .int th, .int wa, .int ta, .int lf, .double ou, .double er, .int ce, .int cd, .int rs]))]) [1, 2, 0] rfl
  have hD := hD.sub (ws' := [(o3, .inr (3, [.ref o1, .ref af, .int (nI nf)])), (af, aF q 6 (fun j => if j < nf then some (oa j) else none)), ((oa fx), .inr (0, [.int kd, .ref aw, .ref ae, sq, .int th, .int wa, .int ta, .int lf, .double ou, .double er, .int ce, .int cd, .int rs]))]) [1, 2, 0] (by decide) rfl
  obtain ⟨sa, hstr⟩ := hNT.1 (125, "what out of range") (by decide)
  exact vx_throwS hx hb hst (own := RX3) (cls := exA) (text := "what out of range") (names := exN) (ik := 37) (is := 125) (ic := 41) (A := A) hown (by decide +kernel) (by decide +kernel) (hts (.classLink RX3 37 exA) (by decide +kernel)) (hts (.initialized exA) (by decide +kernel)) hstr (vx_hat (fun w hw => hts w (at_X3_count_A w hw)) at_bA (NT.bad hNT)) at_oA hNT.2.2.1 hNT.2.2.2 hS (hl.1.trans hml.symm) dX3_count_72 dX3_count_75 dX3_count_76 dX3_count_78 dX3_count_81 (fun x hx => (htb x hx).elim) (Nat.le_of_ble_eq_true rfl) (Nat.le_of_ble_eq_true rfl) (Nat.le_of_ble_eq_true rfl) (Nat.le_of_ble_eq_true rfl) hlocks (fun t hv1 h1 h2 => ⟨(), trivial, ⟨rfl, hP.kept (fun k x hk => h2 x.1 (hP k x hk).lt), hD⟩, Nat.le_trans hS.1 h1, fun z hz hA2 => (h2 z (Nat.lt_of_lt_of_le hz hS.1)).trans (hS.2.1 z hz hA2)⟩) hS.2.2 (Nat.le_of_ble_eq_true rfl) (Nat.le_of_ble_eq_true rfl)

theorem at_X3_batch_O : ∀ w ∈ (vx_atS RX3 34 exO exN).filter goodWord, w ∈ wsX3_batch := by
  intro w h
  unfold wsX3_batch
  refine List.mem_cons_of_mem _ ?_
  repeat (first | exact List.mem_append_right _ h | refine List.mem_append_left _ ?_)
set_option maxHeartbeats 4000000 in
set_option maxRecDepth 100000 in
/-- batch: where it throws -/
theorem m_X3_batch_x (l : Launch) (G : va_G) (q : Nat → ClassId) (sz : Nat) (hst : l.stackTraces = false) (o3 o1 af nf : Nat) (xa : Int32) (hc : ¬ (0 ≤ xa ∧ xa ≤ 1)) : vx_Met l yX3_batch wsX3_batch ({ frames := 6, cells := 1, slots := 6, locals := 100 } : Jvm.Room) (PreX G q [.ref o3, .int xa] [(o3, .inr (3, [.ref o1, .ref af, .int (nI nf)]))] sz) (va_Qd (fun (_ : UInt64) (_ : Unit) => False) (fun _ _ => True) (va_A [(o3, .inr (3, [.ref o1, .ref af, .int (nI nf)]))] sz)) (vx_X (fun (_ : Unit) => True) (fun E _ t => E = exO ∧ EndA G (va_A [(o3, .inr (3, [.ref o1, .ref af, .int (nI nf)]))] sz) [(o3, .inr (3, [.ref o1, .ref af, .int (nI nf)]))] t) (va_A [(o3, .inr (3, [.ref o1, .ref af, .int (nI nf)]))] sz)) 1 6 (va_A [(o3, .inr (3, [.ref o1, .ref af, .int (nI nf)]))] sz) := by
  refine vx_ofW (cc := cX3_batch) (maxL := 2) (ret := (some .double)) (by decide +kernel) rfl ?_
  intro p e s m args below meth c s₁ B hml htb hv
  obtain ⟨⟨rfl, hsz, hP, hK, hD0, hNF⟩, hNT⟩ := hv
  have hx := B.exec
  have hb := B.bytes
  have hr := B.returns
  have hts := atoms_spec (ws := wsX3_batch) B.pre
  have hown : s.vm.findClass RX3 = some m.cls := findClass_of_methodNamed B.named
  have hlocks := B.notSynchronized
  subst hsz
  have hD := hD0.self (sz := s.heap.size)
  generalize hAe : va_A [(o3, .inr (3, [.ref o1, .ref af, .int (nI nf)]))] s.heap.size = A at hD hNT ⊢
  have hA : ∀ q : Nat, s.heap.size ≤ q → A q := fun q h => by rw [← hAe]; exact Or.inr h
  have hS : va_S A s.heap s.heap [] := va_S.rf
  have hP : va_P G vwCl [(o3, .inr (3, [.ref o1, .ref af, .int (nI nf)]))] s.heap := hP
  have hl := lv_entry ([.ref o3, .int xa]) (n := 2) (Nat.le_of_ble_eq_true rfl)
  rw [lg_entry_eq]
  generalize (lg_sl ([.ref o3, .int xa]) ++ List.replicate (2 - (lg_sl ([.ref o3, .int xa])).length) Slot.unset).toArray = ls at hl ⊢
  have hl : lv_has ls 2 [(0, .ref o3), (1, .int xa)] := hl
  refine lv_iload_n hx hb dX3_batch_0 rfl (lv_at hl 1 rfl) ?_
  refine lv_iconst (v := 0) hx hb dX3_batch_1 (by decide) ?_
  refine lv_iconst (v := 1) hx hb dX3_batch_2 (by decide) ?_
  have hPc := hP.sub (ws' := []) [] rfl
  have hDc := hD.sub (ws' := []) [] (by decide) rfl
  have hFc := va_free (wc := []) hD hS hA [] rfl
  refine va_calli (va_runS (As := [.int xa, .int 0, .int 1]) (rest := []) ⟨hx, hb, hml, hown, hts⟩ (m_X3_isWithin l G q s.heap.size xa 0 1) (va_cwS 3 hts gX3_batch_X3_isWithin rfl rfl rfl (by decide +kernel) ⟨Nat.le_of_ble_eq_true rfl, Nat.le_of_ble_eq_true rfl⟩) ⟨preW_blind, preW_start hPc hK hDc hNF⟩ rfl rfl hl.1 rfl (lv_room (Nat.le_of_ble_eq_true rfl)) dX3_batch_3 ⟨(by show _ ≤ 1; omega), (by show _ ≤ 6; omega)⟩) hS (fun q _ h => hFc q h) hFc (fun ri1 u9 t9 H1 locs ht9 hv9 hw hB9 hz9 hk9 hS => ?_)
  obtain ⟨⟩ := u9
  obtain ⟨hP1, hD1⟩ := hB9
  rw [ht9] at hP1
  obtain ⟨hP, hD⟩ := va_join (wr := [(o3, .inr (3, [.ref o1, .ref af, .int (nI nf)]))]) (w1 := []) hP hD [] [0] rfl rfl (by decide) (by decide) hk9 hFc hP1 hD1
  generalize H1 = H at hP hS ⊢
  have hP : va_P G vwCl [(o3, .inr (3, [.ref o1, .ref af, .int (nI nf)]))] H := hP
  have hD : va_D A [(o3, .inr (3, [.ref o1, .ref af, .int (nI nf)]))] := hD
  by_cases ci3 : 0 ≤ xa ∧ xa ≤ 1
  rotate_left
  · skip
    obtain rfl : ri1 = 0 := hw.trans (if_neg ci3)
    refine lv_if_ne (tgt := 19) hx hb dX3_batch_6 (by decide) (fun h => absurd (by decide) h) (fun _ => ?_)
    obtain ⟨sa, hstr⟩ := hNT.1 (108, "no such tap") (by decide)
    exact vx_throwS hx hb hst (own := RX3) (cls := exO) (text := "no such tap") (names := exN) (ik := 30) (is := 108) (ic := 34) (A := A) hown (by decide +kernel) (by decide +kernel) (hts (.classLink RX3 30 exO) (by decide +kernel)) (hts (.initialized exO) (by decide +kernel)) hstr (vx_hat (fun w hw => hts w (at_X3_batch_O w hw)) at_bO (NT.bad hNT)) at_oO hNT.2.2.1 hNT.2.2.2 hS (hl.1.trans hml.symm) dX3_batch_9 dX3_batch_12 dX3_batch_13 dX3_batch_15 dX3_batch_18 (fun x hx => (htb x hx).elim) (Nat.le_of_ble_eq_true rfl) (Nat.le_of_ble_eq_true rfl) (Nat.le_of_ble_eq_true rfl) (Nat.le_of_ble_eq_true rfl) hlocks (fun t hv1 h1 h2 => ⟨(), trivial, ⟨rfl, hP.kept (fun k x hk => h2 x.1 (hP k x hk).lt), hD⟩, Nat.le_trans hS.1 h1, fun z hz hA2 => (h2 z (Nat.lt_of_lt_of_le hz hS.1)).trans (hS.2.1 z hz hA2)⟩) hS.2.2 (Nat.le_of_ble_eq_true rfl) (Nat.le_of_ble_eq_true rfl)
  obtain rfl : ri1 = 1 := hw.trans (if_pos ci3)
  refine lv_if_ne (tgt := 19) hx hb dX3_batch_6 (by decide) (fun _ => ?_) (fun h => absurd h (by decide))
  refine lv_aload_n hx hb dX3_batch_19 rfl (lv_at hl 0 rfl) ?_
  refine va_get (D := G) (ci := 3) (v := .ref o1) (C := RX3) (T := TX3) (N := 3) hx hb hts in_X3_batch_X3 hown hK hP 0 rfl rfl 0 (by decide) (hts (.fieldLink RX3 10 "EchoBench" "samples" "LEchoBench$Samples;") (by decide +kernel)) (fun _ h9 => h9) rfl dX3_batch_20 ?_
  refine lv_iload_n hx hb dX3_batch_23 rfl (lv_at hl 1 rfl) ?_
  exact absurd ci3 hc

theorem at_X3_feed_A : ∀ w ∈ (vx_atS RX3 41 exA exN).filter goodWord, w ∈ wsX3_feed := by
  intro w h
  unfold wsX3_feed
  refine List.mem_cons_of_mem _ ?_
  repeat (first | exact List.mem_append_right _ h | refine List.mem_append_left _ ?_)
theorem at_X3_feed_S : ∀ w ∈ (vx_atS RX3 60 exS exN).filter goodWord, w ∈ wsX3_feed := by
  intro w h
  unfold wsX3_feed
  refine List.mem_cons_of_mem _ ?_
  repeat (first | exact List.mem_append_right _ h | refine List.mem_append_left _ ?_)
set_option maxHeartbeats 4000000 in
set_option maxRecDepth 100000 in
/-- feed: where it throws -/
theorem m_X3_feed_x (l : Launch) (G : va_G) (q : Nat → ClassId) (sz : Nat) (hst : l.stackTraces = false) (o3 o1 af nf a1 ax b0 b1 b2 tk : Nat) (mi : UInt64) (xa xb : Int32) (htk : tk ≤ 2000) (hc : ¬ feedC xa xb (nI tk) = 0) : vx_Met l yX3_feed wsX3_feed ({ frames := 6, cells := 1, slots := 6, locals := 100 } : Jvm.Room) (PreX G q [.ref o3, .int xa, .int xb] [(o3, .inr (3, [.ref o1, .ref af, .int (nI nf)])), (o1, .inr (1, [.ref a1, .ref ax, .ref b0, .ref b1, .ref b2, .double mi, .int (nI tk)]))] sz) (va_Qi (fun (_ : Int32) (_ : Unit) => False) (fun _ _ => True) (va_A [(o3, .inr (3, [.ref o1, .ref af, .int (nI nf)])), (o1, .inr (1, [.ref a1, .ref ax, .ref b0, .ref b1, .ref b2, .double mi, .int (nI tk)]))] sz)) (vx_X (fun (_ : Unit) => True) (fun E _ t => E = exE2 (feedC xa xb (nI tk)) ∧ EndA G (va_A [(o3, .inr (3, [.ref o1, .ref af, .int (nI nf)])), (o1, .inr (1, [.ref a1, .ref ax, .ref b0, .ref b1, .ref b2, .double mi, .int (nI tk)]))] sz) [(o3, .inr (3, [.ref o1, .ref af, .int (nI nf)])), (o1, .inr (1, [.ref a1, .ref ax, .ref b0, .ref b1, .ref b2, .double mi, .int (nI tk)]))] t) (va_A [(o3, .inr (3, [.ref o1, .ref af, .int (nI nf)])), (o1, .inr (1, [.ref a1, .ref ax, .ref b0, .ref b1, .ref b2, .double mi, .int (nI tk)]))] sz)) 1 6 (va_A [(o3, .inr (3, [.ref o1, .ref af, .int (nI nf)])), (o1, .inr (1, [.ref a1, .ref ax, .ref b0, .ref b1, .ref b2, .double mi, .int (nI tk)]))] sz) := by
  refine vx_ofW (cc := cX3_feed) (maxL := 3) (ret := (some .int)) (by decide +kernel) rfl ?_
  intro p e s m args below meth c s₁ B hml htb hv
  obtain ⟨⟨rfl, hsz, hP, hK, hD0, hNF⟩, hNT⟩ := hv
  have hx := B.exec
  have hb := B.bytes
  have hr := B.returns
  have hts := atoms_spec (ws := wsX3_feed) B.pre
  have hown : s.vm.findClass RX3 = some m.cls := findClass_of_methodNamed B.named
  have hlocks := B.notSynchronized
  subst hsz
  have hD := hD0.self (sz := s.heap.size)
  generalize hAe : va_A [(o3, .inr (3, [.ref o1, .ref af, .int (nI nf)])), (o1, .inr (1, [.ref a1, .ref ax, .ref b0, .ref b1, .ref b2, .double mi, .int (nI tk)]))] s.heap.size = A at hD hNT ⊢
  have hA : ∀ q : Nat, s.heap.size ≤ q → A q := fun q h => by rw [← hAe]; exact Or.inr h
  have hS : va_S A s.heap s.heap [] := va_S.rf
  have hP : va_P G vwCl [(o3, .inr (3, [.ref o1, .ref af, .int (nI nf)])), (o1, .inr (1, [.ref a1, .ref ax, .ref b0, .ref b1, .ref b2, .double mi, .int (nI tk)]))] s.heap := hP
  have hl := lv_entry ([.ref o3, .int xa, .int xb]) (n := 3) (Nat.le_of_ble_eq_true rfl)
  rw [lg_entry_eq]
  generalize (lg_sl ([.ref o3, .int xa, .int xb]) ++ List.replicate (3 - (lg_sl ([.ref o3, .int xa, .int xb])).length) Slot.unset).toArray = ls at hl ⊢
  have hl : lv_has ls 3 [(0, .ref o3), (1, .int xa), (2, .int xb)] := hl
  refine lv_iload_n hx hb dX3_feed_0 rfl (lv_at hl 1 rfl) ?_
  refine lv_sipush (v := (-1000)) hx hb dX3_feed_1 (by decide) ?_
  refine lv_sipush (v := 1000) hx hb dX3_feed_4 (by decide) ?_
  have hPc := hP.sub (ws' := []) [] rfl
  have hDc := hD.sub (ws' := []) [] (by decide) rfl
  have hFc := va_free (wc := []) hD hS hA [] rfl
  refine va_calli (va_runS (As := [.int xa, .int (-1000), .int 1000]) (rest := []) ⟨hx, hb, hml, hown, hts⟩ (m_X3_isWithin l G q s.heap.size xa (-1000) 1000) (va_cwS 3 hts gX3_feed_X3_isWithin rfl rfl rfl (by decide +kernel) ⟨Nat.le_of_ble_eq_true rfl, Nat.le_of_ble_eq_true rfl⟩) ⟨preW_blind, preW_start hPc hK hDc hNF⟩ rfl rfl hl.1 rfl (lv_room (Nat.le_of_ble_eq_true rfl)) dX3_feed_7 ⟨(by show _ ≤ 1; omega), (by show _ ≤ 6; omega)⟩) hS (fun q _ h => hFc q h) hFc (fun ri1 u9 t9 H1 locs ht9 hv9 hw hB9 hz9 hk9 hS => ?_)
  obtain ⟨⟩ := u9
  obtain ⟨hP1, hD1⟩ := hB9
  rw [ht9] at hP1
  obtain ⟨hP, hD⟩ := va_join (wr := [(o3, .inr (3, [.ref o1, .ref af, .int (nI nf)])), (o1, .inr (1, [.ref a1, .ref ax, .ref b0, .ref b1, .ref b2, .double mi, .int (nI tk)]))]) (w1 := []) hP hD [] [0, 1] rfl rfl (by decide) (by decide) hk9 hFc hP1 hD1
  generalize H1 = H at hP hS ⊢
  have hP : va_P G vwCl [(o3, .inr (3, [.ref o1, .ref af, .int (nI nf)])), (o1, .inr (1, [.ref a1, .ref ax, .ref b0, .ref b1, .ref b2, .double mi, .int (nI tk)]))] H := hP
  have hD : va_D A [(o3, .inr (3, [.ref o1, .ref af, .int (nI nf)])), (o1, .inr (1, [.ref a1, .ref ax, .ref b0, .ref b1, .ref b2, .double mi, .int (nI tk)]))] := hD
  by_cases ci3 : (-1000) ≤ xa ∧ xa ≤ 1000
  rotate_left
  · skip
    obtain rfl : ri1 = 0 := hw.trans (if_neg ci3)
    refine lv_if_ne (tgt := 23) hx hb dX3_feed_10 (by decide) (fun h => absurd (by decide) h) (fun _ => ?_)
    obtain ⟨sa, hstr⟩ := hNT.1 (87, "x out of range") (by decide)
    exact vx_throwS hx hb hst (own := RX3) (cls := exA) (text := "x out of range") (names := exN) (ik := 37) (is := 87) (ic := 41) (A := A) hown (by decide +kernel) (by decide +kernel) (hts (.classLink RX3 37 exA) (by decide +kernel)) (hts (.initialized exA) (by decide +kernel)) hstr (vx_hat (fun w hw => hts w (at_X3_feed_A w hw)) at_bA (NT.bad hNT)) at_oA hNT.2.2.1 hNT.2.2.2 hS (hl.1.trans hml.symm) dX3_feed_13 dX3_feed_16 dX3_feed_17 dX3_feed_19 dX3_feed_22 (fun x hx => (htb x hx).elim) (Nat.le_of_ble_eq_true rfl) (Nat.le_of_ble_eq_true rfl) (Nat.le_of_ble_eq_true rfl) (Nat.le_of_ble_eq_true rfl) hlocks (fun t hv1 h1 h2 => ⟨(), trivial, ⟨(by unfold feedC; rw [if_neg ci3]; rfl), hP.kept (fun k x hk => h2 x.1 (hP k x hk).lt), hD⟩, Nat.le_trans hS.1 h1, fun z hz hA2 => (h2 z (Nat.lt_of_lt_of_le hz hS.1)).trans (hS.2.1 z hz hA2)⟩) hS.2.2 (Nat.le_of_ble_eq_true rfl) (Nat.le_of_ble_eq_true rfl)
  obtain rfl : ri1 = 1 := hw.trans (if_pos ci3)
  refine lv_if_ne (tgt := 23) hx hb dX3_feed_10 (by decide) (fun _ => ?_) (fun h => absurd h (by decide))
  refine lv_iload_n hx hb dX3_feed_23 rfl (lv_at hl 2 rfl) ?_
  refine lv_sipush (v := (-1000)) hx hb dX3_feed_24 (by decide) ?_
  refine lv_sipush (v := 1000) hx hb dX3_feed_27 (by decide) ?_
  have hPc := hP.sub (ws' := []) [] rfl
  have hDc := hD.sub (ws' := []) [] (by decide) rfl
  have hFc := va_free (wc := []) hD hS hA [] rfl
  refine va_calli (va_runS (As := [.int xb, .int (-1000), .int 1000]) (rest := []) ⟨hx, hb, hml, hown, hts⟩ (m_X3_isWithin l G q H.size xb (-1000) 1000) (va_cwS 3 hts gX3_feed_X3_isWithin rfl rfl rfl (by decide +kernel) ⟨Nat.le_of_ble_eq_true rfl, Nat.le_of_ble_eq_true rfl⟩) ⟨preW_blind, preW_start hPc hK hDc hNF⟩ rfl rfl hl.1 rfl (lv_room (Nat.le_of_ble_eq_true rfl)) dX3_feed_30 ⟨(by show _ ≤ 1; omega), (by show _ ≤ 6; omega)⟩) hS (fun q _ h => hFc q h) hFc (fun ri6 u9 t9 H1 locs ht9 hv9 hw hB9 hz9 hk9 hS => ?_)
  obtain ⟨⟩ := u9
  obtain ⟨hP1, hD1⟩ := hB9
  rw [ht9] at hP1
  obtain ⟨hP, hD⟩ := va_join (wr := [(o3, .inr (3, [.ref o1, .ref af, .int (nI nf)])), (o1, .inr (1, [.ref a1, .ref ax, .ref b0, .ref b1, .ref b2, .double mi, .int (nI tk)]))]) (w1 := []) hP hD [] [0, 1] rfl rfl (by decide) (by decide) hk9 hFc hP1 hD1
  generalize H1 = H at hP hS ⊢
  have hP : va_P G vwCl [(o3, .inr (3, [.ref o1, .ref af, .int (nI nf)])), (o1, .inr (1, [.ref a1, .ref ax, .ref b0, .ref b1, .ref b2, .double mi, .int (nI tk)]))] H := hP
  have hD : va_D A [(o3, .inr (3, [.ref o1, .ref af, .int (nI nf)])), (o1, .inr (1, [.ref a1, .ref ax, .ref b0, .ref b1, .ref b2, .double mi, .int (nI tk)]))] := hD
  by_cases ci8 : (-1000) ≤ xb ∧ xb ≤ 1000
  rotate_left
  · skip
    obtain rfl : ri6 = 0 := hw.trans (if_neg ci8)
    refine lv_if_ne (tgt := 46) hx hb dX3_feed_33 (by decide) (fun h => absurd (by decide) h) (fun _ => ?_)
    obtain ⟨sa, hstr⟩ := hNT.1 (89, "talk out of range") (by decide)
    exact vx_throwS hx hb hst (own := RX3) (cls := exA) (text := "talk out of range") (names := exN) (ik := 37) (is := 89) (ic := 41) (A := A) hown (by decide +kernel) (by decide +kernel) (hts (.classLink RX3 37 exA) (by decide +kernel)) (hts (.initialized exA) (by decide +kernel)) hstr (vx_hat (fun w hw => hts w (at_X3_feed_A w hw)) at_bA (NT.bad hNT)) at_oA hNT.2.2.1 hNT.2.2.2 hS (hl.1.trans hml.symm) dX3_feed_36 dX3_feed_39 dX3_feed_40 dX3_feed_42 dX3_feed_45 (fun x hx => (htb x hx).elim) (Nat.le_of_ble_eq_true rfl) (Nat.le_of_ble_eq_true rfl) (Nat.le_of_ble_eq_true rfl) (Nat.le_of_ble_eq_true rfl) hlocks (fun t hv1 h1 h2 => ⟨(), trivial, ⟨(by unfold feedC; rw [if_pos ci3, if_neg ci8]; rfl), hP.kept (fun k x hk => h2 x.1 (hP k x hk).lt), hD⟩, Nat.le_trans hS.1 h1, fun z hz hA2 => (h2 z (Nat.lt_of_lt_of_le hz hS.1)).trans (hS.2.1 z hz hA2)⟩) hS.2.2 (Nat.le_of_ble_eq_true rfl) (Nat.le_of_ble_eq_true rfl)
  obtain rfl : ri6 = 1 := hw.trans (if_pos ci8)
  refine lv_if_ne (tgt := 46) hx hb dX3_feed_33 (by decide) (fun _ => ?_) (fun h => absurd h (by decide))
  refine lv_aload_n hx hb dX3_feed_46 rfl (lv_at hl 0 rfl) ?_
  refine va_get (D := G) (ci := 3) (v := .ref o1) (C := RX3) (T := TX3) (N := 3) hx hb hts in_X3_feed_X3 hown hK hP 0 rfl rfl 0 (by decide) (hts (.fieldLink RX3 10 "EchoBench" "samples" "LEchoBench$Samples;") (by decide +kernel)) (fun _ h9 => h9) rfl dX3_feed_47 ?_
  refine va_getN (D := G) (ci := 1) (v := .int (nI tk)) (C := RX1) (T := TX1) (N := 7) hx hb hts in_X3_feed_X1 hown hK hP 1 rfl rfl 6 (by decide) (va_Nw.use rfl (hNF.1 (.fieldLinkNest RX3 91 "EchoBench$Samples" "taken" "I" "EchoBench") (by decide +kernel))) (fun _ h9 => h9) rfl dX3_feed_50 ?_
  refine lv_sipush (v := 2000) hx hb dX3_feed_53 (by decide) ?_
  refine lv_icmp_lt (tgt := 69) hx hb dX3_feed_56 (by decide) (fun c9 => ?_) (fun c9 => ?_)
  · skip
    have c8 : ¬ nI tk = 2000 := fun z => absurd c9 (by rw [z]; decide)
    exact absurd (by unfold feedC; rw [if_pos ci3, if_pos ci8, if_neg c8]) hc
  · skip
    have c8 : nI tk = 2000 := by have h9 : ¬ tk < 2000 := fun z => c9 (nI_lt (a := tk) (b := 2000) z (by decide)); rw [show tk = 2000 by omega]; rfl
    obtain ⟨sa, hstr⟩ := hNT.1 (94, "no more samples") (by decide)
    exact vx_throwS hx hb hst (own := RX3) (cls := exS) (text := "no more samples") (names := exN) (ik := 56) (is := 94) (ic := 60) (A := A) hown (by decide +kernel) (by decide +kernel) (hts (.classLink RX3 56 exS) (by decide +kernel)) (hts (.initialized exS) (by decide +kernel)) hstr (vx_hat (fun w hw => hts w (at_X3_feed_S w hw)) at_bS (NT.bad hNT)) at_oS hNT.2.2.1 hNT.2.2.2 hS (hl.1.trans hml.symm) dX3_feed_59 dX3_feed_62 dX3_feed_63 dX3_feed_65 dX3_feed_68 (fun x hx => (htb x hx).elim) (Nat.le_of_ble_eq_true rfl) (Nat.le_of_ble_eq_true rfl) (Nat.le_of_ble_eq_true rfl) (Nat.le_of_ble_eq_true rfl) hlocks (fun t hv1 h1 h2 => ⟨(), trivial, ⟨(by unfold feedC; rw [if_pos ci3, if_pos ci8, if_pos c8]; rfl), hP.kept (fun k x hk => h2 x.1 (hP k x hk).lt), hD⟩, Nat.le_trans hS.1 h1, fun z hz hA2 => (h2 z (Nat.lt_of_lt_of_le hz hS.1)).trans (hS.2.1 z hz hA2)⟩) hS.2.2 (Nat.le_of_ble_eq_true rfl) (Nat.le_of_ble_eq_true rfl)

theorem at_X3_script_A : ∀ w ∈ (vx_atS RX3 41 exA exN).filter goodWord, w ∈ wsX3_script := by
  intro w h
  unfold wsX3_script
  refine List.mem_cons_of_mem _ ?_
  repeat (first | exact List.mem_append_right _ h | refine List.mem_append_left _ ?_)
theorem at_X3_script_S : ∀ w ∈ (vx_atS RX3 60 exS exN).filter goodWord, w ∈ wsX3_script := by
  intro w h
  unfold wsX3_script
  refine List.mem_cons_of_mem _ ?_
  repeat (first | exact List.mem_append_right _ h | refine List.mem_append_left _ ?_)
set_option maxHeartbeats 4000000 in
set_option maxRecDepth 100000 in
/-- script: where it throws -/
theorem m_X3_script_x (l : Launch) (G : va_G) (q : Nat → ClassId) (sz : Nat) (hst : l.stackTraces = false) (o3 o1 af nf a1 ax b0 b1 b2 tk : Nat) (mi : UInt64) (xa xb : Int32) (hc : ¬ scriptC xa xb (nI tk) = 0) : vx_Met l yX3_script wsX3_script ({ frames := 6, cells := 1, slots := 6, locals := 100 } : Jvm.Room) (PreX G q [.ref o3, .int xa, .int xb] [(o3, .inr (3, [.ref o1, .ref af, .int (nI nf)])), (o1, .inr (1, [.ref a1, .ref ax, .ref b0, .ref b1, .ref b2, .double mi, .int (nI tk)]))] sz) (va_Qi (fun (_ : Int32) (_ : Unit) => False) (fun _ _ => True) (va_A [(o3, .inr (3, [.ref o1, .ref af, .int (nI nf)])), (o1, .inr (1, [.ref a1, .ref ax, .ref b0, .ref b1, .ref b2, .double mi, .int (nI tk)]))] sz)) (vx_X (fun (_ : Unit) => True) (fun E _ t => E = exE2 (scriptC xa xb (nI tk)) ∧ EndA G (va_A [(o3, .inr (3, [.ref o1, .ref af, .int (nI nf)])), (o1, .inr (1, [.ref a1, .ref ax, .ref b0, .ref b1, .ref b2, .double mi, .int (nI tk)]))] sz) [(o3, .inr (3, [.ref o1, .ref af, .int (nI nf)])), (o1, .inr (1, [.ref a1, .ref ax, .ref b0, .ref b1, .ref b2, .double mi, .int (nI tk)]))] t) (va_A [(o3, .inr (3, [.ref o1, .ref af, .int (nI nf)])), (o1, .inr (1, [.ref a1, .ref ax, .ref b0, .ref b1, .ref b2, .double mi, .int (nI tk)]))] sz)) 1 6 (va_A [(o3, .inr (3, [.ref o1, .ref af, .int (nI nf)])), (o1, .inr (1, [.ref a1, .ref ax, .ref b0, .ref b1, .ref b2, .double mi, .int (nI tk)]))] sz) := by
  refine vx_ofW (cc := cX3_script) (maxL := 5) (ret := (some .int)) (by decide +kernel) rfl ?_
  intro p e s m args below meth c s₁ B hml htb hv
  obtain ⟨⟨rfl, hsz, hP, hK, hD0, hNF⟩, hNT⟩ := hv
  have hx := B.exec
  have hb := B.bytes
  have hr := B.returns
  have hts := atoms_spec (ws := wsX3_script) B.pre
  have hown : s.vm.findClass RX3 = some m.cls := findClass_of_methodNamed B.named
  have hlocks := B.notSynchronized
  subst hsz
  have hD := hD0.self (sz := s.heap.size)
  generalize hAe : va_A [(o3, .inr (3, [.ref o1, .ref af, .int (nI nf)])), (o1, .inr (1, [.ref a1, .ref ax, .ref b0, .ref b1, .ref b2, .double mi, .int (nI tk)]))] s.heap.size = A at hD hNT ⊢
  have hA : ∀ q : Nat, s.heap.size ≤ q → A q := fun q h => by rw [← hAe]; exact Or.inr h
  have hS : va_S A s.heap s.heap [] := va_S.rf
  have hP : va_P G vwCl [(o3, .inr (3, [.ref o1, .ref af, .int (nI nf)])), (o1, .inr (1, [.ref a1, .ref ax, .ref b0, .ref b1, .ref b2, .double mi, .int (nI tk)]))] s.heap := hP
  have hl := lv_entry ([.ref o3, .int xa, .int xb]) (n := 5) (Nat.le_of_ble_eq_true rfl)
  rw [lg_entry_eq]
  generalize (lg_sl ([.ref o3, .int xa, .int xb]) ++ List.replicate (5 - (lg_sl ([.ref o3, .int xa, .int xb])).length) Slot.unset).toArray = ls at hl ⊢
  have hl : lv_has ls 5 [(0, .ref o3), (1, .int xa), (2, .int xb)] := hl
  refine lv_iload_n hx hb dX3_script_0 rfl (lv_at hl 1 rfl) ?_
  refine lv_iconst (v := 0) hx hb dX3_script_1 (by decide) ?_
  refine lv_sipush (v := 2000) hx hb dX3_script_2 (by decide) ?_
  have hPc := hP.sub (ws' := []) [] rfl
  have hDc := hD.sub (ws' := []) [] (by decide) rfl
  have hFc := va_free (wc := []) hD hS hA [] rfl
  refine va_calli (va_runS (As := [.int xa, .int 0, .int 2000]) (rest := []) ⟨hx, hb, hml, hown, hts⟩ (m_X3_isWithin l G q s.heap.size xa 0 2000) (va_cwS 3 hts gX3_script_X3_isWithin rfl rfl rfl (by decide +kernel) ⟨Nat.le_of_ble_eq_true rfl, Nat.le_of_ble_eq_true rfl⟩) ⟨preW_blind, preW_start hPc hK hDc hNF⟩ rfl rfl hl.1 rfl (lv_room (Nat.le_of_ble_eq_true rfl)) dX3_script_5 ⟨(by show _ ≤ 1; omega), (by show _ ≤ 6; omega)⟩) hS (fun q _ h => hFc q h) hFc (fun ri1 u9 t9 H1 locs ht9 hv9 hw hB9 hz9 hk9 hS => ?_)
  obtain ⟨⟩ := u9
  obtain ⟨hP1, hD1⟩ := hB9
  rw [ht9] at hP1
  obtain ⟨hP, hD⟩ := va_join (wr := [(o3, .inr (3, [.ref o1, .ref af, .int (nI nf)])), (o1, .inr (1, [.ref a1, .ref ax, .ref b0, .ref b1, .ref b2, .double mi, .int (nI tk)]))]) (w1 := []) hP hD [] [0, 1] rfl rfl (by decide) (by decide) hk9 hFc hP1 hD1
  generalize H1 = H at hP hS ⊢
  have hP : va_P G vwCl [(o3, .inr (3, [.ref o1, .ref af, .int (nI nf)])), (o1, .inr (1, [.ref a1, .ref ax, .ref b0, .ref b1, .ref b2, .double mi, .int (nI tk)]))] H := hP
  have hD : va_D A [(o3, .inr (3, [.ref o1, .ref af, .int (nI nf)])), (o1, .inr (1, [.ref a1, .ref ax, .ref b0, .ref b1, .ref b2, .double mi, .int (nI tk)]))] := hD
  by_cases ci3 : 0 ≤ xa ∧ xa ≤ 2000
  rotate_left
  · skip
    obtain rfl : ri1 = 0 := hw.trans (if_neg ci3)
    refine lv_if_ne (tgt := 21) hx hb dX3_script_8 (by decide) (fun h => absurd (by decide) h) (fun _ => ?_)
    obtain ⟨sa, hstr⟩ := hNT.1 (100, "v out of range") (by decide)
    exact vx_throwS hx hb hst (own := RX3) (cls := exA) (text := "v out of range") (names := exN) (ik := 37) (is := 100) (ic := 41) (A := A) hown (by decide +kernel) (by decide +kernel) (hts (.classLink RX3 37 exA) (by decide +kernel)) (hts (.initialized exA) (by decide +kernel)) hstr (vx_hat (fun w hw => hts w (at_X3_script_A w hw)) at_bA (NT.bad hNT)) at_oA hNT.2.2.1 hNT.2.2.2 hS (hl.1.trans hml.symm) dX3_script_11 dX3_script_14 dX3_script_15 dX3_script_17 dX3_script_20 (fun x hx => (htb x hx).elim) (Nat.le_of_ble_eq_true rfl) (Nat.le_of_ble_eq_true rfl) (Nat.le_of_ble_eq_true rfl) (Nat.le_of_ble_eq_true rfl) hlocks (fun t hv1 h1 h2 => ⟨(), trivial, ⟨(by unfold scriptC; rw [if_neg ci3]; rfl), hP.kept (fun k x hk => h2 x.1 (hP k x hk).lt), hD⟩, Nat.le_trans hS.1 h1, fun z hz hA2 => (h2 z (Nat.lt_of_lt_of_le hz hS.1)).trans (hS.2.1 z hz hA2)⟩) hS.2.2 (Nat.le_of_ble_eq_true rfl) (Nat.le_of_ble_eq_true rfl)
  obtain rfl : ri1 = 1 := hw.trans (if_pos ci3)
  refine lv_if_ne (tgt := 21) hx hb dX3_script_8 (by decide) (fun _ => ?_) (fun h => absurd h (by decide))
  refine lv_iload_n hx hb dX3_script_21 rfl (lv_at hl 2 rfl) ?_
  refine lv_iconst (v := 1) hx hb dX3_script_22 (by decide) ?_
  refine lv_bipush (v := 100) hx hb dX3_script_23 (by decide) ?_
  have hPc := hP.sub (ws' := []) [] rfl
  have hDc := hD.sub (ws' := []) [] (by decide) rfl
  have hFc := va_free (wc := []) hD hS hA [] rfl
  refine va_calli (va_runS (As := [.int xb, .int 1, .int 100]) (rest := []) ⟨hx, hb, hml, hown, hts⟩ (m_X3_isWithin l G q H.size xb 1 100) (va_cwS 3 hts gX3_script_X3_isWithin rfl rfl rfl (by decide +kernel) ⟨Nat.le_of_ble_eq_true rfl, Nat.le_of_ble_eq_true rfl⟩) ⟨preW_blind, preW_start hPc hK hDc hNF⟩ rfl rfl hl.1 rfl (lv_room (Nat.le_of_ble_eq_true rfl)) dX3_script_25 ⟨(by show _ ≤ 1; omega), (by show _ ≤ 6; omega)⟩) hS (fun q _ h => hFc q h) hFc (fun ri6 u9 t9 H1 locs ht9 hv9 hw hB9 hz9 hk9 hS => ?_)
  obtain ⟨⟩ := u9
  obtain ⟨hP1, hD1⟩ := hB9
  rw [ht9] at hP1
  obtain ⟨hP, hD⟩ := va_join (wr := [(o3, .inr (3, [.ref o1, .ref af, .int (nI nf)])), (o1, .inr (1, [.ref a1, .ref ax, .ref b0, .ref b1, .ref b2, .double mi, .int (nI tk)]))]) (w1 := []) hP hD [] [0, 1] rfl rfl (by decide) (by decide) hk9 hFc hP1 hD1
  generalize H1 = H at hP hS ⊢
  have hP : va_P G vwCl [(o3, .inr (3, [.ref o1, .ref af, .int (nI nf)])), (o1, .inr (1, [.ref a1, .ref ax, .ref b0, .ref b1, .ref b2, .double mi, .int (nI tk)]))] H := hP
  have hD : va_D A [(o3, .inr (3, [.ref o1, .ref af, .int (nI nf)])), (o1, .inr (1, [.ref a1, .ref ax, .ref b0, .ref b1, .ref b2, .double mi, .int (nI tk)]))] := hD
  by_cases ci8 : 1 ≤ xb ∧ xb ≤ 100
  rotate_left
  · skip
    obtain rfl : ri6 = 0 := hw.trans (if_neg ci8)
    refine lv_if_ne (tgt := 41) hx hb dX3_script_28 (by decide) (fun h => absurd (by decide) h) (fun _ => ?_)
    obtain ⟨sa, hstr⟩ := hNT.1 (102, "many out of range") (by decide)
    exact vx_throwS hx hb hst (own := RX3) (cls := exA) (text := "many out of range") (names := exN) (ik := 37) (is := 102) (ic := 41) (A := A) hown (by decide +kernel) (by decide +kernel) (hts (.classLink RX3 37 exA) (by decide +kernel)) (hts (.initialized exA) (by decide +kernel)) hstr (vx_hat (fun w hw => hts w (at_X3_script_A w hw)) at_bA (NT.bad hNT)) at_oA hNT.2.2.1 hNT.2.2.2 hS (hl.1.trans hml.symm) dX3_script_31 dX3_script_34 dX3_script_35 dX3_script_37 dX3_script_40 (fun x hx => (htb x hx).elim) (Nat.le_of_ble_eq_true rfl) (Nat.le_of_ble_eq_true rfl) (Nat.le_of_ble_eq_true rfl) (Nat.le_of_ble_eq_true rfl) hlocks (fun t hv1 h1 h2 => ⟨(), trivial, ⟨(by unfold scriptC; rw [if_pos ci3, if_neg ci8]; rfl), hP.kept (fun k x hk => h2 x.1 (hP k x hk).lt), hD⟩, Nat.le_trans hS.1 h1, fun z hz hA2 => (h2 z (Nat.lt_of_lt_of_le hz hS.1)).trans (hS.2.1 z hz hA2)⟩) hS.2.2 (Nat.le_of_ble_eq_true rfl) (Nat.le_of_ble_eq_true rfl)
  obtain rfl : ri6 = 1 := hw.trans (if_pos ci8)
  refine lv_if_ne (tgt := 41) hx hb dX3_script_28 (by decide) (fun _ => ?_) (fun h => absurd h (by decide))
  refine lv_aload_n hx hb dX3_script_41 rfl (lv_at hl 0 rfl) ?_
  refine va_get (D := G) (ci := 3) (v := .ref o1) (C := RX3) (T := TX3) (N := 3) hx hb hts in_X3_script_X3 hown hK hP 0 rfl rfl 0 (by decide) (hts (.fieldLink RX3 10 "EchoBench" "samples" "LEchoBench$Samples;") (by decide +kernel)) (fun _ h9 => h9) rfl dX3_script_42 ?_
  refine va_getN (D := G) (ci := 1) (v := .int (nI tk)) (C := RX1) (T := TX1) (N := 7) hx hb hts in_X3_script_X1 hown hK hP 1 rfl rfl 6 (by decide) (va_Nw.use rfl (hNF.1 (.fieldLinkNest RX3 91 "EchoBench$Samples" "taken" "I" "EchoBench") (by decide +kernel))) (fun _ h9 => h9) rfl dX3_script_45 ?_
  refine lv_iload_n hx hb dX3_script_48 rfl (lv_at hl 2 rfl) ?_
  refine lv_iadd hx hb dX3_script_49 ?_
  refine lv_topi (fun x11 ex11 => ?_)
  refine lv_sipush (v := 2000) hx hb dX3_script_50 (by decide) ?_
  refine lv_icmp_le (tgt := 66) hx hb dX3_script_53 (by decide) (fun c9 => ?_) (fun c9 => ?_)
  · skip
    rw [ex11] at c9
    exact absurd (by unfold scriptC; rw [if_pos ci3, if_pos ci8, if_pos c9]) hc
  · skip
    rw [ex11] at c9
    obtain ⟨sa, hstr⟩ := hNT.1 (94, "no more samples") (by decide)
    exact vx_throwS hx hb hst (own := RX3) (cls := exS) (text := "no more samples") (names := exN) (ik := 56) (is := 94) (ic := 60) (A := A) hown (by decide +kernel) (by decide +kernel) (hts (.classLink RX3 56 exS) (by decide +kernel)) (hts (.initialized exS) (by decide +kernel)) hstr (vx_hat (fun w hw => hts w (at_X3_script_S w hw)) at_bS (NT.bad hNT)) at_oS hNT.2.2.1 hNT.2.2.2 hS (hl.1.trans hml.symm) dX3_script_56 dX3_script_59 dX3_script_60 dX3_script_62 dX3_script_65 (fun x hx => (htb x hx).elim) (Nat.le_of_ble_eq_true rfl) (Nat.le_of_ble_eq_true rfl) (Nat.le_of_ble_eq_true rfl) (Nat.le_of_ble_eq_true rfl) hlocks (fun t hv1 h1 h2 => ⟨(), trivial, ⟨(by unfold scriptC; rw [if_pos ci3, if_pos ci8, if_neg c9]; rfl), hP.kept (fun k x hk => h2 x.1 (hP k x hk).lt), hD⟩, Nat.le_trans hS.1 h1, fun z hz hA2 => (h2 z (Nat.lt_of_lt_of_le hz hS.1)).trans (hS.2.1 z hz hA2)⟩) hS.2.2 (Nat.le_of_ble_eq_true rfl) (Nat.le_of_ble_eq_true rfl)

set_option maxHeartbeats 4000000 in
set_option maxRecDepth 100000 in
/-- square: where it throws -/
theorem m_X3_square_x2 (l : Launch) (G : va_G) (q : Nat → ClassId) (sz : Nat) (hst : l.stackTraces = false) (o3 o1 af nf : Nat) (oa : Nat → Nat) (fx n aw ae : Nat) (sq : Value) (kd th wa ta lf ce cd rs : Int32) (ou er : UInt64) (xa xb : Int32) (fw : Nat → UInt64) (hnf : nf ≤ 6) (hfx : fx < nf) (hc : ¬ ((0 ≤ xa ∧ xa ≤ nI n - 1) ∧ (0 ≤ xb ∧ xb ≤ nI n - 1))) : vx_Met l yX3_square wsX3_square ({ frames := 6, cells := 1, slots := 6, locals := 100 } : Jvm.Room) (PreX G q [.ref o3, .int (nI fx), .int xa, .int xb] [(o3, .inr (3, [.ref o1, .ref af, .int (nI nf)])), (af, aF q 6 (fun j => if j < nf then some (oa j) else none)), ((oa fx), .inr (0, [.int kd, .ref aw, .ref ae, sq, .int th, .int wa, .int ta, .int lf, .double ou, .double er, .int ce, .int cd, .int rs])), (aw, aD q n fw)] sz) (va_Qd (fun (_ : UInt64) (_ : Unit) => False) (fun _ _ => True) (va_A [(o3, .inr (3, [.ref o1, .ref af, .int (nI nf)])), (af, aF q 6 (fun j => if j < nf then some (oa j) else none)), ((oa fx), .inr (0, [.int kd, .ref aw, .ref ae, sq, .int th, .int wa, .int ta, .int lf, .double ou, .double er, .int ce, .int cd, .int rs])), (aw, aD q n fw)] sz)) (vx_X (fun (_ : Unit) => True) (fun E _ t => E = exO ∧ EndA G (va_A [(o3, .inr (3, [.ref o1, .ref af, .int (nI nf)])), (af, aF q 6 (fun j => if j < nf then some (oa j) else none)), ((oa fx), .inr (0, [.int kd, .ref aw, .ref ae, sq, .int th, .int wa, .int ta, .int lf, .double ou, .double er, .int ce, .int cd, .int rs])), (aw, aD q n fw)] sz) [(o3, .inr (3, [.ref o1, .ref af, .int (nI nf)])), (af, aF q 6 (fun j => if j < nf then some (oa j) else none)), ((oa fx), .inr (0, [.int kd, .ref aw, .ref ae, sq, .int th, .int wa, .int ta, .int lf, .double ou, .double er, .int ce, .int cd, .int rs])), (aw, aD q n fw)] t) (va_A [(o3, .inr (3, [.ref o1, .ref af, .int (nI nf)])), (af, aF q 6 (fun j => if j < nf then some (oa j) else none)), ((oa fx), .inr (0, [.int kd, .ref aw, .ref ae, sq, .int th, .int wa, .int ta, .int lf, .double ou, .double er, .int ce, .int cd, .int rs])), (aw, aD q n fw)] sz)) 1 6 (va_A [(o3, .inr (3, [.ref o1, .ref af, .int (nI nf)])), (af, aF q 6 (fun j => if j < nf then some (oa j) else none)), ((oa fx), .inr (0, [.int kd, .ref aw, .ref ae, sq, .int th, .int wa, .int ta, .int lf, .double ou, .double er, .int ce, .int cd, .int rs])), (aw, aD q n fw)] sz) := by
  refine vx_ofW (cc := cX3_square) (maxL := 6) (ret := (some .double)) (by decide +kernel) rfl ?_
  intro p e s m args below meth c s₁ B hml htb hv
  obtain ⟨⟨rfl, hsz, hP, hK, hD0, hNF⟩, hNT⟩ := hv
  have hx := B.exec
  have hb := B.bytes
  have hr := B.returns
  have hts := atoms_spec (ws := wsX3_square) B.pre
  have hown : s.vm.findClass RX3 = some m.cls := findClass_of_methodNamed B.named
  have hlocks := B.notSynchronized
  subst hsz
  have hD := hD0.self (sz := s.heap.size)
  generalize hAe : va_A [(o3, .inr (3, [.ref o1, .ref af, .int (nI nf)])), (af, aF q 6 (fun j => if j < nf then some (oa j) else none)), ((oa fx), .inr (0, [.int kd, .ref aw, .ref ae, sq, .int th, .int wa, .int ta, .int lf, .double ou, .double er, .int ce, .int cd, .int rs])), (aw, aD q n fw)] s.heap.size = A at hD hNT ⊢
  have hA : ∀ q : Nat, s.heap.size ≤ q → A q := fun q h => by rw [← hAe]; exact Or.inr h
  have hS : va_S A s.heap s.heap [] := va_S.rf
  have hP : va_P G vwCl [(o3, .inr (3, [.ref o1, .ref af, .int (nI nf)])), (af, aF q 6 (fun j => if j < nf then some (oa j) else none)), ((oa fx), .inr (0, [.int kd, .ref aw, .ref ae, sq, .int th, .int wa, .int ta, .int lf, .double ou, .double er, .int ce, .int cd, .int rs])), (aw, aD q n fw)] s.heap := hP
  have hl := lv_entry ([.ref o3, .int (nI fx), .int xa, .int xb]) (n := 6) (Nat.le_of_ble_eq_true rfl)
  rw [lg_entry_eq]
  generalize (lg_sl ([.ref o3, .int (nI fx), .int xa, .int xb]) ++ List.replicate (6 - (lg_sl ([.ref o3, .int (nI fx), .int xa, .int xb])).length) Slot.unset).toArray = ls at hl ⊢
  have hl : lv_has ls 6 [(0, .ref o3), (1, .int (nI fx)), (2, .int xa), (3, .int xb)] := hl
  refine lv_aload_n hx hb dX3_square_0 rfl (lv_at hl 0 rfl) ?_
  refine lv_iload_n hx hb dX3_square_1 rfl (lv_at hl 1 rfl) ?_
  have hPc := hP.sub (ws' := [(o3, .inr (3, [.ref o1, .ref af, .int (nI nf)])), (af, aF q 6 (fun j => if j < nf then some (oa j) else none))]) [0, 1] rfl
  have hDc := hD.sub (ws' := [(o3, .inr (3, [.ref o1, .ref af, .int (nI nf)])), (af, aF q 6 (fun j => if j < nf then some (oa j) else none))]) [0, 1] (by decide) rfl
  have hFc := va_free (wc := [(o3, .inr (3, [.ref o1, .ref af, .int (nI nf)])), (af, aF q 6 (fun j => if j < nf then some (oa j) else none))]) hD hS hA [0, 1] rfl
  refine va_callq (va_runV (As := [.int (nI fx)]) (rest := []) ⟨hx, hb, hml, hown, hts⟩ (m_X3_numbered l G q s.heap.size o3 o1 af nf oa fx hnf hfx) (cwV 1 hts gX3_square_X3_numbered rfl rfl rfl (by decide +kernel) ⟨Nat.le_of_ble_eq_true rfl, Nat.le_of_ble_eq_true rfl⟩) ⟨preW_blind, (va_recv hK hPc (ci := 3) (q0 := 0) rfl rfl), preW_start hPc hK hDc hNF⟩ rfl rfl hl.1 rfl (lv_room (Nat.le_of_ble_eq_true rfl)) dX3_square_2 ⟨(by show _ ≤ 1; omega), (by show _ ≤ 6; omega)⟩) hS (fun q _ h => hFc q h) hFc (fun fr1 u9 t9 H1 locs ht9 hv9 hw hB9 hz9 hk9 hS => ?_)
  obtain ⟨⟩ := u9
  obtain ⟨hP1, hD1⟩ := hB9
  rw [ht9] at hP1
  obtain ⟨hP, hD⟩ := va_join (wr := [((oa fx), .inr (0, [.int kd, .ref aw, .ref ae, sq, .int th, .int wa, .int ta, .int lf, .double ou, .double er, .int ce, .int cd, .int rs])), (aw, aD q n fw)]) (w1 := [(o3, .inr (3, [.ref o1, .ref af, .int (nI nf)])), (af, aF q 6 (fun j => if j < nf then some (oa j) else none))]) hP hD [0, 1] [2, 3] rfl rfl (by decide) (by decide) hk9 hFc hP1 hD1
  generalize H1 = H at hP hS ⊢
  have hP : va_P G vwCl [((oa fx), .inr (0, [.int kd, .ref aw, .ref ae, sq, .int th, .int wa, .int ta, .int lf, .double ou, .double er, .int ce, .int cd, .int rs])), (aw, aD q n fw), (o3, .inr (3, [.ref o1, .ref af, .int (nI nf)])), (af, aF q 6 (fun j => if j < nf then some (oa j) else none))] H := hP
  have hD : va_D A [((oa fx), .inr (0, [.int kd, .ref aw, .ref ae, sq, .int th, .int wa, .int ta, .int lf, .double ou, .double er, .int ce, .int cd, .int rs])), (aw, aD q n fw), (o3, .inr (3, [.ref o1, .ref af, .int (nI nf)])), (af, aF q 6 (fun j => if j < nf then some (oa j) else none))] := hD
  obtain rfl : fr1 = some (oa fx) := hw
  refine lv_astore (lv' := [(4, .ref (oa fx)), (0, .ref o3), (1, .int (nI fx)), (2, .int xa), (3, .int xb)]) hx hb dX3_square_5 hl (by decide) rfl (fun ls hl => ?_)
  refine lv_aload hx hb dX3_square_7 (lv_at hl 0 rfl) ?_
  refine lv_ifnonnull (tgt := 22) hx hb dX3_square_9 (by decide) ?_
  refine lv_aload hx hb dX3_square_22 (lv_at hl 0 rfl) ?_
  refine va_getN (D := G) (ci := 0) (v := .ref aw) (C := RX0) (T := TX0) (N := 13) hx hb hts in_X3_square_X0 hown hK hP 0 rfl rfl 1 (by decide) (va_Nw.use rfl (hNF.1 (.fieldLinkNest RX3 104 "EchoBench$Filter" "weights" "[D" "EchoBench") (by decide +kernel))) (fun _ h9 => h9) rfl dX3_square_24 ?_
  refine va_alen (D := G) hx hb hK hP 1 1 rfl rfl (v := (nI n)) rfl dX3_square_27 ?_
  refine lv_istore (lv' := [(5, .int (nI n)), (4, .ref (oa fx)), (0, .ref o3), (1, .int (nI fx)), (2, .int xa), (3, .int xb)]) hx hb dX3_square_28 hl (by decide) rfl (fun ls hl => ?_)
  refine lv_iload_n hx hb dX3_square_30 rfl (lv_at hl 4 rfl) ?_
  refine lv_iconst (v := 0) hx hb dX3_square_31 (by decide) ?_
  refine lv_iload hx hb dX3_square_32 (lv_at hl 0 rfl) ?_
  refine lv_iconst (v := 1) hx hb dX3_square_34 (by decide) ?_
  refine lv_isub hx hb dX3_square_35 ?_
  refine lv_topi (fun x3 ex3 => ?_)
  have hPc := hP.sub (ws' := []) [] rfl
  have hDc := hD.sub (ws' := []) [] (by decide) rfl
  have hFc := va_free (wc := []) hD hS hA [] rfl
  refine va_calli (va_runS (As := [.int xa, .int 0, .int x3]) (rest := []) ⟨hx, hb, hml, hown, hts⟩ (m_X3_isWithin l G q H.size xa 0 x3) (va_cwS 3 hts gX3_square_X3_isWithin rfl rfl rfl (by decide +kernel) ⟨Nat.le_of_ble_eq_true rfl, Nat.le_of_ble_eq_true rfl⟩) ⟨preW_blind, preW_start hPc hK hDc hNF⟩ rfl rfl hl.1 rfl (lv_room (Nat.le_of_ble_eq_true rfl)) dX3_square_36 ⟨(by show _ ≤ 1; omega), (by show _ ≤ 6; omega)⟩) hS (fun q _ h => hFc q h) hFc (fun ri4 u9 t9 H1 locs ht9 hv9 hw hB9 hz9 hk9 hS => ?_)
  obtain ⟨⟩ := u9
  obtain ⟨hP1, hD1⟩ := hB9
  rw [ht9] at hP1
  obtain ⟨hP, hD⟩ := va_join (wr := [((oa fx), .inr (0, [.int kd, .ref aw, .ref ae, sq, .int th, .int wa, .int ta, .int lf, .double ou, .double er, .int ce, .int cd, .int rs])), (aw, aD q n fw), (o3, .inr (3, [.ref o1, .ref af, .int (nI nf)])), (af, aF q 6 (fun j => if j < nf then some (oa j) else none))]) (w1 := []) hP hD [] [0, 1, 2, 3] rfl rfl (by decide) (by decide) hk9 hFc hP1 hD1
  generalize H1 = H at hP hS ⊢
  have hP : va_P G vwCl [((oa fx), .inr (0, [.int kd, .ref aw, .ref ae, sq, .int th, .int wa, .int ta, .int lf, .double ou, .double er, .int ce, .int cd, .int rs])), (aw, aD q n fw), (o3, .inr (3, [.ref o1, .ref af, .int (nI nf)])), (af, aF q 6 (fun j => if j < nf then some (oa j) else none))] H := hP
  have hD : va_D A [((oa fx), .inr (0, [.int kd, .ref aw, .ref ae, sq, .int th, .int wa, .int ta, .int lf, .double ou, .double er, .int ce, .int cd, .int rs])), (aw, aD q n fw), (o3, .inr (3, [.ref o1, .ref af, .int (nI nf)])), (af, aF q 6 (fun j => if j < nf then some (oa j) else none))] := hD
  by_cases ci6 : 0 ≤ xa ∧ xa ≤ x3
  rotate_left
  · skip
    obtain rfl : ri4 = 0 := hw.trans (if_neg ci6)
    refine lv_if_ne (tgt := 52) hx hb dX3_square_39 (by decide) (fun h => absurd (by decide) h) (fun _ => ?_)
    have hP := hP.sub (ws' := [(o3, .inr (3, [.ref o1, .ref af, .int (nI nf)])), (af, aF q 6 (fun j => if j < nf then some (oa j) else none)), ((oa fx), .inr (0, [.int kd, .ref aw, .ref ae, sq, .int th, .int wa, .int ta, .int lf, .double ou, .double er, .int ce, .int cd, .int rs])), (aw, aD q n fw)]) [2, 3, 0, 1] rfl
    have hD := hD.sub (ws' := [(o3, .inr (3, [.ref o1, .ref af, .int (nI nf)])), (af, aF q 6 (fun j => if j < nf then some (oa j) else none)), ((oa fx), .inr (0, [.int kd, .ref aw, .ref ae, sq, .int th, .int wa, .int ta, .int lf, .double ou, .double er, .int ce, .int cd, .int rs])), (aw, aD q n fw)]) [2, 3, 0, 1] (by decide) rfl
    obtain ⟨sa, hstr⟩ := hNT.1 (146, "no such row") (by decide)
    exact vx_throwS hx hb hst (own := RX3) (cls := exO) (text := "no such row") (names := exN) (ik := 30) (is := 146) (ic := 34) (A := A) hown (by decide +kernel) (by decide +kernel) (hts (.classLink RX3 30 exO) (by decide +kernel)) (hts (.initialized exO) (by decide +kernel)) hstr (vx_hat (fun w hw => hts w (at_X3_square_O w hw)) at_bO (NT.bad hNT)) at_oO hNT.2.2.1 hNT.2.2.2 hS (hl.1.trans hml.symm) dX3_square_42 dX3_square_45 dX3_square_46 dX3_square_48 dX3_square_51 (fun x hx => (htb x hx).elim) (Nat.le_of_ble_eq_true rfl) (Nat.le_of_ble_eq_true rfl) (Nat.le_of_ble_eq_true rfl) (Nat.le_of_ble_eq_true rfl) hlocks (fun t hv1 h1 h2 => ⟨(), trivial, ⟨rfl, hP.kept (fun k x hk => h2 x.1 (hP k x hk).lt), hD⟩, Nat.le_trans hS.1 h1, fun z hz hA2 => (h2 z (Nat.lt_of_lt_of_le hz hS.1)).trans (hS.2.1 z hz hA2)⟩) hS.2.2 (Nat.le_of_ble_eq_true rfl) (Nat.le_of_ble_eq_true rfl)
  obtain rfl : ri4 = 1 := hw.trans (if_pos ci6)
  refine lv_if_ne (tgt := 52) hx hb dX3_square_39 (by decide) (fun _ => ?_) (fun h => absurd h (by decide))
  refine lv_iload_n hx hb dX3_square_52 rfl (lv_at hl 5 rfl) ?_
  refine lv_iconst (v := 0) hx hb dX3_square_53 (by decide) ?_
  refine lv_iload hx hb dX3_square_54 (lv_at hl 0 rfl) ?_
  refine lv_iconst (v := 1) hx hb dX3_square_56 (by decide) ?_
  refine lv_isub hx hb dX3_square_57 ?_
  refine lv_topi (fun x9 ex9 => ?_)
  rw [ex3] at ci6
  have hPc := hP.sub (ws' := []) [] rfl
  have hDc := hD.sub (ws' := []) [] (by decide) rfl
  have hFc := va_free (wc := []) hD hS hA [] rfl
  refine va_calli (va_runS (As := [.int xb, .int 0, .int x9]) (rest := []) ⟨hx, hb, hml, hown, hts⟩ (m_X3_isWithin l G q H.size xb 0 x9) (va_cwS 3 hts gX3_square_X3_isWithin rfl rfl rfl (by decide +kernel) ⟨Nat.le_of_ble_eq_true rfl, Nat.le_of_ble_eq_true rfl⟩) ⟨preW_blind, preW_start hPc hK hDc hNF⟩ rfl rfl hl.1 rfl (lv_room (Nat.le_of_ble_eq_true rfl)) dX3_square_58 ⟨(by show _ ≤ 1; omega), (by show _ ≤ 6; omega)⟩) hS (fun q _ h => hFc q h) hFc (fun ri10 u9 t9 H1 locs ht9 hv9 hw hB9 hz9 hk9 hS => ?_)
  obtain ⟨⟩ := u9
  obtain ⟨hP1, hD1⟩ := hB9
  rw [ht9] at hP1
  obtain ⟨hP, hD⟩ := va_join (wr := [((oa fx), .inr (0, [.int kd, .ref aw, .ref ae, sq, .int th, .int wa, .int ta, .int lf, .double ou, .double er, .int ce, .int cd, .int rs])), (aw, aD q n fw), (o3, .inr (3, [.ref o1, .ref af, .int (nI nf)])), (af, aF q 6 (fun j => if j < nf then some (oa j) else none))]) (w1 := []) hP hD [] [0, 1, 2, 3] rfl rfl (by decide) (by decide) hk9 hFc hP1 hD1
  generalize H1 = H at hP hS ⊢
  have hP : va_P G vwCl [((oa fx), .inr (0, [.int kd, .ref aw, .ref ae, sq, .int th, .int wa, .int ta, .int lf, .double ou, .double er, .int ce, .int cd, .int rs])), (aw, aD q n fw), (o3, .inr (3, [.ref o1, .ref af, .int (nI nf)])), (af, aF q 6 (fun j => if j < nf then some (oa j) else none))] H := hP
  have hD : va_D A [((oa fx), .inr (0, [.int kd, .ref aw, .ref ae, sq, .int th, .int wa, .int ta, .int lf, .double ou, .double er, .int ce, .int cd, .int rs])), (aw, aD q n fw), (o3, .inr (3, [.ref o1, .ref af, .int (nI nf)])), (af, aF q 6 (fun j => if j < nf then some (oa j) else none))] := hD
  by_cases ci12 : 0 ≤ xb ∧ xb ≤ x9
  rotate_left
  · skip
    obtain rfl : ri10 = 0 := hw.trans (if_neg ci12)
    refine lv_if_ne (tgt := 74) hx hb dX3_square_61 (by decide) (fun h => absurd (by decide) h) (fun _ => ?_)
    have hP := hP.sub (ws' := [(o3, .inr (3, [.ref o1, .ref af, .int (nI nf)])), (af, aF q 6 (fun j => if j < nf then some (oa j) else none)), ((oa fx), .inr (0, [.int kd, .ref aw, .ref ae, sq, .int th, .int wa, .int ta, .int lf, .double ou, .double er, .int ce, .int cd, .int rs])), (aw, aD q n fw)]) [2, 3, 0, 1] rfl
    have hD := hD.sub (ws' := [(o3, .inr (3, [.ref o1, .ref af, .int (nI nf)])), (af, aF q 6 (fun j => if j < nf then some (oa j) else none)), ((oa fx), .inr (0, [.int kd, .ref aw, .ref ae, sq, .int th, .int wa, .int ta, .int lf, .double ou, .double er, .int ce, .int cd, .int rs])), (aw, aD q n fw)]) [2, 3, 0, 1] (by decide) rfl
    obtain ⟨sa, hstr⟩ := hNT.1 (148, "no such column") (by decide)
    exact vx_throwS hx hb hst (own := RX3) (cls := exO) (text := "no such column") (names := exN) (ik := 30) (is := 148) (ic := 34) (A := A) hown (by decide +kernel) (by decide +kernel) (hts (.classLink RX3 30 exO) (by decide +kernel)) (hts (.initialized exO) (by decide +kernel)) hstr (vx_hat (fun w hw => hts w (at_X3_square_O w hw)) at_bO (NT.bad hNT)) at_oO hNT.2.2.1 hNT.2.2.2 hS (hl.1.trans hml.symm) dX3_square_64 dX3_square_67 dX3_square_68 dX3_square_70 dX3_square_73 (fun x hx => (htb x hx).elim) (Nat.le_of_ble_eq_true rfl) (Nat.le_of_ble_eq_true rfl) (Nat.le_of_ble_eq_true rfl) (Nat.le_of_ble_eq_true rfl) hlocks (fun t hv1 h1 h2 => ⟨(), trivial, ⟨rfl, hP.kept (fun k x hk => h2 x.1 (hP k x hk).lt), hD⟩, Nat.le_trans hS.1 h1, fun z hz hA2 => (h2 z (Nat.lt_of_lt_of_le hz hS.1)).trans (hS.2.1 z hz hA2)⟩) hS.2.2 (Nat.le_of_ble_eq_true rfl) (Nat.le_of_ble_eq_true rfl)
  obtain rfl : ri10 = 1 := hw.trans (if_pos ci12)
  refine lv_if_ne (tgt := 74) hx hb dX3_square_61 (by decide) (fun _ => ?_) (fun h => absurd h (by decide))
  refine lv_aload hx hb dX3_square_74 (lv_at hl 1 rfl) ?_
  refine va_getN (D := G) (ci := 0) (v := sq) (C := RX0) (T := TX0) (N := 13) hx hb hts in_X3_square_X0 hown hK hP 0 rfl rfl 3 (by decide) (va_Nw.use rfl (hNF.1 (.fieldLinkNest RX3 150 "EchoBench$Filter" "square" "LEchoBench$Square;" "EchoBench") (by decide +kernel))) (fun _ h9 => h9) rfl dX3_square_76 ?_
  rw [ex9] at ci12
  exact absurd ⟨ci6, ci12⟩ hc

theorem at_X3_square_S : ∀ w ∈ (vx_atS RX3 60 exS exN).filter goodWord, w ∈ wsX3_square := by
  intro w h
  unfold wsX3_square
  refine List.mem_cons_of_mem _ ?_
  repeat (first | exact List.mem_append_right _ h | refine List.mem_append_left _ ?_)
set_option maxHeartbeats 4000000 in
set_option maxRecDepth 100000 in
/-- square: where it throws -/
theorem m_X3_square_x3 (l : Launch) (G : va_G) (q : Nat → ClassId) (sz : Nat) (hst : l.stackTraces = false) (o3 o1 af nf : Nat) (oa : Nat → Nat) (fx n aw ae : Nat) (kd th wa ta lf ce cd rs : Int32) (ou er : UInt64) (xa xb : Int32) (fw : Nat → UInt64) (hnf : nf ≤ 6) (hfx : fx < nf) (h1a : 0 ≤ xa ∧ xa ≤ nI n - 1) (h1b : 0 ≤ xb ∧ xb ≤ nI n - 1) : vx_Met l yX3_square wsX3_square ({ frames := 6, cells := 1, slots := 6, locals := 100 } : Jvm.Room) (PreX G q [.ref o3, .int (nI fx), .int xa, .int xb] [(o3, .inr (3, [.ref o1, .ref af, .int (nI nf)])), (af, aF q 6 (fun j => if j < nf then some (oa j) else none)), ((oa fx), .inr (0, [.int kd, .ref aw, .ref ae, .null, .int th, .int wa, .int ta, .int lf, .double ou, .double er, .int ce, .int cd, .int rs])), (aw, aD q n fw)] sz) (va_Qd (fun (_ : UInt64) (_ : Unit) => False) (fun _ _ => True) (va_A [(o3, .inr (3, [.ref o1, .ref af, .int (nI nf)])), (af, aF q 6 (fun j => if j < nf then some (oa j) else none)), ((oa fx), .inr (0, [.int kd, .ref aw, .ref ae, .null, .int th, .int wa, .int ta, .int lf, .double ou, .double er, .int ce, .int cd, .int rs])), (aw, aD q n fw)] sz)) (vx_X (fun (_ : Unit) => True) (fun E _ t => E = exS ∧ EndA G (va_A [(o3, .inr (3, [.ref o1, .ref af, .int (nI nf)])), (af, aF q 6 (fun j => if j < nf then some (oa j) else none)), ((oa fx), .inr (0, [.int kd, .ref aw, .ref ae, .null, .int th, .int wa, .int ta, .int lf, .double ou, .double er, .int ce, .int cd, .int rs])), (aw, aD q n fw)] sz) [(o3, .inr (3, [.ref o1, .ref af, .int (nI nf)])), (af, aF q 6 (fun j => if j < nf then some (oa j) else none)), ((oa fx), .inr (0, [.int kd, .ref aw, .ref ae, .null, .int th, .int wa, .int ta, .int lf, .double ou, .double er, .int ce, .int cd, .int rs])), (aw, aD q n fw)] t) (va_A [(o3, .inr (3, [.ref o1, .ref af, .int (nI nf)])), (af, aF q 6 (fun j => if j < nf then some (oa j) else none)), ((oa fx), .inr (0, [.int kd, .ref aw, .ref ae, .null, .int th, .int wa, .int ta, .int lf, .double ou, .double er, .int ce, .int cd, .int rs])), (aw, aD q n fw)] sz)) 1 6 (va_A [(o3, .inr (3, [.ref o1, .ref af, .int (nI nf)])), (af, aF q 6 (fun j => if j < nf then some (oa j) else none)), ((oa fx), .inr (0, [.int kd, .ref aw, .ref ae, .null, .int th, .int wa, .int ta, .int lf, .double ou, .double er, .int ce, .int cd, .int rs])), (aw, aD q n fw)] sz) := by
  refine vx_ofW (cc := cX3_square) (maxL := 6) (ret := (some .double)) (by decide +kernel) rfl ?_
  intro p e s m args below meth c s₁ B hml htb hv
  obtain ⟨⟨rfl, hsz, hP, hK, hD0, hNF⟩, hNT⟩ := hv
  have hx := B.exec
  have hb := B.bytes
  have hr := B.returns
  have hts := atoms_spec (ws := wsX3_square) B.pre
  have hown : s.vm.findClass RX3 = some m.cls := findClass_of_methodNamed B.named
  have hlocks := B.notSynchronized
  subst hsz
  have hD := hD0.self (sz := s.heap.size)
  generalize hAe : va_A [(o3, .inr (3, [.ref o1, .ref af, .int (nI nf)])), (af, aF q 6 (fun j => if j < nf then some (oa j) else none)), ((oa fx), .inr (0, [.int kd, .ref aw, .ref ae, .null, .int th, .int wa, .int ta, .int lf, .double ou, .double er, .int ce, .int cd, .int rs])), (aw, aD q n fw)] s.heap.size = A at hD hNT ⊢
  have hA : ∀ q : Nat, s.heap.size ≤ q → A q := fun q h => by rw [← hAe]; exact Or.inr h
  have hS : va_S A s.heap s.heap [] := va_S.rf
  have hP : va_P G vwCl [(o3, .inr (3, [.ref o1, .ref af, .int (nI nf)])), (af, aF q 6 (fun j => if j < nf then some (oa j) else none)), ((oa fx), .inr (0, [.int kd, .ref aw, .ref ae, .null, .int th, .int wa, .int ta, .int lf, .double ou, .double er, .int ce, .int cd, .int rs])), (aw, aD q n fw)] s.heap := hP
  have hl := lv_entry ([.ref o3, .int (nI fx), .int xa, .int xb]) (n := 6) (Nat.le_of_ble_eq_true rfl)
  rw [lg_entry_eq]
  generalize (lg_sl ([.ref o3, .int (nI fx), .int xa, .int xb]) ++ List.replicate (6 - (lg_sl ([.ref o3, .int (nI fx), .int xa, .int xb])).length) Slot.unset).toArray = ls at hl ⊢
  have hl : lv_has ls 6 [(0, .ref o3), (1, .int (nI fx)), (2, .int xa), (3, .int xb)] := hl
  refine lv_aload_n hx hb dX3_square_0 rfl (lv_at hl 0 rfl) ?_
  refine lv_iload_n hx hb dX3_square_1 rfl (lv_at hl 1 rfl) ?_
  have hPc := hP.sub (ws' := [(o3, .inr (3, [.ref o1, .ref af, .int (nI nf)])), (af, aF q 6 (fun j => if j < nf then some (oa j) else none))]) [0, 1] rfl
  have hDc := hD.sub (ws' := [(o3, .inr (3, [.ref o1, .ref af, .int (nI nf)])), (af, aF q 6 (fun j => if j < nf then some (oa j) else none))]) [0, 1] (by decide) rfl
  have hFc := va_free (wc := [(o3, .inr (3, [.ref o1, .ref af, .int (nI nf)])), (af, aF q 6 (fun j => if j < nf then some (oa j) else none))]) hD hS hA [0, 1] rfl
  refine va_callq (va_runV (As := [.int (nI fx)]) (rest := []) ⟨hx, hb, hml, hown, hts⟩ (m_X3_numbered l G q s.heap.size o3 o1 af nf oa fx hnf hfx) (cwV 1 hts gX3_square_X3_numbered rfl rfl rfl (by decide +kernel) ⟨Nat.le_of_ble_eq_true rfl, Nat.le_of_ble_eq_true rfl⟩) ⟨preW_blind, (va_recv hK hPc (ci := 3) (q0 := 0) rfl rfl), preW_start hPc hK hDc hNF⟩ rfl rfl hl.1 rfl (lv_room (Nat.le_of_ble_eq_true rfl)) dX3_square_2 ⟨(by show _ ≤ 1; omega), (by show _ ≤ 6; omega)⟩) hS (fun q _ h => hFc q h) hFc (fun fr1 u9 t9 H1 locs ht9 hv9 hw hB9 hz9 hk9 hS => ?_)
  obtain ⟨⟩ := u9
  obtain ⟨hP1, hD1⟩ := hB9
  rw [ht9] at hP1
  obtain ⟨hP, hD⟩ := va_join (wr := [((oa fx), .inr (0, [.int kd, .ref aw, .ref ae, .null, .int th, .int wa, .int ta, .int lf, .double ou, .double er, .int ce, .int cd, .int rs])), (aw, aD q n fw)]) (w1 := [(o3, .inr (3, [.ref o1, .ref af, .int (nI nf)])), (af, aF q 6 (fun j => if j < nf then some (oa j) else none))]) hP hD [0, 1] [2, 3] rfl rfl (by decide) (by decide) hk9 hFc hP1 hD1
  generalize H1 = H at hP hS ⊢
  have hP : va_P G vwCl [((oa fx), .inr (0, [.int kd, .ref aw, .ref ae, .null, .int th, .int wa, .int ta, .int lf, .double ou, .double er, .int ce, .int cd, .int rs])), (aw, aD q n fw), (o3, .inr (3, [.ref o1, .ref af, .int (nI nf)])), (af, aF q 6 (fun j => if j < nf then some (oa j) else none))] H := hP
  have hD : va_D A [((oa fx), .inr (0, [.int kd, .ref aw, .ref ae, .null, .int th, .int wa, .int ta, .int lf, .double ou, .double er, .int ce, .int cd, .int rs])), (aw, aD q n fw), (o3, .inr (3, [.ref o1, .ref af, .int (nI nf)])), (af, aF q 6 (fun j => if j < nf then some (oa j) else none))] := hD
  obtain rfl : fr1 = some (oa fx) := hw
  refine lv_astore (lv' := [(4, .ref (oa fx)), (0, .ref o3), (1, .int (nI fx)), (2, .int xa), (3, .int xb)]) hx hb dX3_square_5 hl (by decide) rfl (fun ls hl => ?_)
  refine lv_aload hx hb dX3_square_7 (lv_at hl 0 rfl) ?_
  refine lv_ifnonnull (tgt := 22) hx hb dX3_square_9 (by decide) ?_
  refine lv_aload hx hb dX3_square_22 (lv_at hl 0 rfl) ?_
  refine va_getN (D := G) (ci := 0) (v := .ref aw) (C := RX0) (T := TX0) (N := 13) hx hb hts in_X3_square_X0 hown hK hP 0 rfl rfl 1 (by decide) (va_Nw.use rfl (hNF.1 (.fieldLinkNest RX3 104 "EchoBench$Filter" "weights" "[D" "EchoBench") (by decide +kernel))) (fun _ h9 => h9) rfl dX3_square_24 ?_
  refine va_alen (D := G) hx hb hK hP 1 1 rfl rfl (v := (nI n)) rfl dX3_square_27 ?_
  refine lv_istore (lv' := [(5, .int (nI n)), (4, .ref (oa fx)), (0, .ref o3), (1, .int (nI fx)), (2, .int xa), (3, .int xb)]) hx hb dX3_square_28 hl (by decide) rfl (fun ls hl => ?_)
  refine lv_iload_n hx hb dX3_square_30 rfl (lv_at hl 4 rfl) ?_
  refine lv_iconst (v := 0) hx hb dX3_square_31 (by decide) ?_
  refine lv_iload hx hb dX3_square_32 (lv_at hl 0 rfl) ?_
  refine lv_iconst (v := 1) hx hb dX3_square_34 (by decide) ?_
  refine lv_isub hx hb dX3_square_35 ?_
  refine lv_topi (fun x3 ex3 => ?_)
  have hPc := hP.sub (ws' := []) [] rfl
  have hDc := hD.sub (ws' := []) [] (by decide) rfl
  have hFc := va_free (wc := []) hD hS hA [] rfl
  refine va_calli (va_runS (As := [.int xa, .int 0, .int x3]) (rest := []) ⟨hx, hb, hml, hown, hts⟩ (m_X3_isWithin l G q H.size xa 0 x3) (va_cwS 3 hts gX3_square_X3_isWithin rfl rfl rfl (by decide +kernel) ⟨Nat.le_of_ble_eq_true rfl, Nat.le_of_ble_eq_true rfl⟩) ⟨preW_blind, preW_start hPc hK hDc hNF⟩ rfl rfl hl.1 rfl (lv_room (Nat.le_of_ble_eq_true rfl)) dX3_square_36 ⟨(by show _ ≤ 1; omega), (by show _ ≤ 6; omega)⟩) hS (fun q _ h => hFc q h) hFc (fun ri4 u9 t9 H1 locs ht9 hv9 hw hB9 hz9 hk9 hS => ?_)
  obtain ⟨⟩ := u9
  obtain ⟨hP1, hD1⟩ := hB9
  rw [ht9] at hP1
  obtain ⟨hP, hD⟩ := va_join (wr := [((oa fx), .inr (0, [.int kd, .ref aw, .ref ae, .null, .int th, .int wa, .int ta, .int lf, .double ou, .double er, .int ce, .int cd, .int rs])), (aw, aD q n fw), (o3, .inr (3, [.ref o1, .ref af, .int (nI nf)])), (af, aF q 6 (fun j => if j < nf then some (oa j) else none))]) (w1 := []) hP hD [] [0, 1, 2, 3] rfl rfl (by decide) (by decide) hk9 hFc hP1 hD1
  generalize H1 = H at hP hS ⊢
  have hP : va_P G vwCl [((oa fx), .inr (0, [.int kd, .ref aw, .ref ae, .null, .int th, .int wa, .int ta, .int lf, .double ou, .double er, .int ce, .int cd, .int rs])), (aw, aD q n fw), (o3, .inr (3, [.ref o1, .ref af, .int (nI nf)])), (af, aF q 6 (fun j => if j < nf then some (oa j) else none))] H := hP
  have hD : va_D A [((oa fx), .inr (0, [.int kd, .ref aw, .ref ae, .null, .int th, .int wa, .int ta, .int lf, .double ou, .double er, .int ce, .int cd, .int rs])), (aw, aD q n fw), (o3, .inr (3, [.ref o1, .ref af, .int (nI nf)])), (af, aF q 6 (fun j => if j < nf then some (oa j) else none))] := hD
  obtain rfl : ri4 = 1 := hw.trans (if_pos (by rw [ex3]; exact h1a))
  refine lv_if_ne (tgt := 52) hx hb dX3_square_39 (by decide) (fun _ => ?_) (fun h => absurd h (by decide))
  refine lv_iload_n hx hb dX3_square_52 rfl (lv_at hl 5 rfl) ?_
  refine lv_iconst (v := 0) hx hb dX3_square_53 (by decide) ?_
  refine lv_iload hx hb dX3_square_54 (lv_at hl 0 rfl) ?_
  refine lv_iconst (v := 1) hx hb dX3_square_56 (by decide) ?_
  refine lv_isub hx hb dX3_square_57 ?_
  refine lv_topi (fun x7 ex7 => ?_)
  have hPc := hP.sub (ws' := []) [] rfl
  have hDc := hD.sub (ws' := []) [] (by decide) rfl
  have hFc := va_free (wc := []) hD hS hA [] rfl
  refine va_calli (va_runS (As := [.int xb, .int 0, .int x7]) (rest := []) ⟨hx, hb, hml, hown, hts⟩ (m_X3_isWithin l G q H.size xb 0 x7) (va_cwS 3 hts gX3_square_X3_isWithin rfl rfl rfl (by decide +kernel) ⟨Nat.le_of_ble_eq_true rfl, Nat.le_of_ble_eq_true rfl⟩) ⟨preW_blind, preW_start hPc hK hDc hNF⟩ rfl rfl hl.1 rfl (lv_room (Nat.le_of_ble_eq_true rfl)) dX3_square_58 ⟨(by show _ ≤ 1; omega), (by show _ ≤ 6; omega)⟩) hS (fun q _ h => hFc q h) hFc (fun ri8 u9 t9 H1 locs ht9 hv9 hw hB9 hz9 hk9 hS => ?_)
  obtain ⟨⟩ := u9
  obtain ⟨hP1, hD1⟩ := hB9
  rw [ht9] at hP1
  obtain ⟨hP, hD⟩ := va_join (wr := [((oa fx), .inr (0, [.int kd, .ref aw, .ref ae, .null, .int th, .int wa, .int ta, .int lf, .double ou, .double er, .int ce, .int cd, .int rs])), (aw, aD q n fw), (o3, .inr (3, [.ref o1, .ref af, .int (nI nf)])), (af, aF q 6 (fun j => if j < nf then some (oa j) else none))]) (w1 := []) hP hD [] [0, 1, 2, 3] rfl rfl (by decide) (by decide) hk9 hFc hP1 hD1
  generalize H1 = H at hP hS ⊢
  have hP : va_P G vwCl [((oa fx), .inr (0, [.int kd, .ref aw, .ref ae, .null, .int th, .int wa, .int ta, .int lf, .double ou, .double er, .int ce, .int cd, .int rs])), (aw, aD q n fw), (o3, .inr (3, [.ref o1, .ref af, .int (nI nf)])), (af, aF q 6 (fun j => if j < nf then some (oa j) else none))] H := hP
  have hD : va_D A [((oa fx), .inr (0, [.int kd, .ref aw, .ref ae, .null, .int th, .int wa, .int ta, .int lf, .double ou, .double er, .int ce, .int cd, .int rs])), (aw, aD q n fw), (o3, .inr (3, [.ref o1, .ref af, .int (nI nf)])), (af, aF q 6 (fun j => if j < nf then some (oa j) else none))] := hD
  obtain rfl : ri8 = 1 := hw.trans (if_pos (by rw [ex7]; exact h1b))
  refine lv_if_ne (tgt := 74) hx hb dX3_square_61 (by decide) (fun _ => ?_) (fun h => absurd h (by decide))
  refine lv_aload hx hb dX3_square_74 (lv_at hl 1 rfl) ?_
  refine va_getN (D := G) (ci := 0) (v := .null) (C := RX0) (T := TX0) (N := 13) hx hb hts in_X3_square_X0 hown hK hP 0 rfl rfl 3 (by decide) (va_Nw.use rfl (hNF.1 (.fieldLinkNest RX3 150 "EchoBench$Filter" "square" "LEchoBench$Square;" "EchoBench") (by decide +kernel))) (fun _ h9 => h9) rfl dX3_square_76 ?_
  refine lv_ifnonnullN hx hb dX3_square_79 ?_
  have hP := hP.sub (ws' := [(o3, .inr (3, [.ref o1, .ref af, .int (nI nf)])), (af, aF q 6 (fun j => if j < nf then some (oa j) else none)), ((oa fx), .inr (0, [.int kd, .ref aw, .ref ae, .null, .int th, .int wa, .int ta, .int lf, .double ou, .double er, .int ce, .int cd, .int rs])), (aw, aD q n fw)]) [2, 3, 0, 1] rfl
  have hD := hD.sub (ws' := [(o3, .inr (3, [.ref o1, .ref af, .int (nI nf)])), (af, aF q 6 (fun j => if j < nf then some (oa j) else none)), ((oa fx), .inr (0, [.int kd, .ref aw, .ref ae, .null, .int th, .int wa, .int ta, .int lf, .double ou, .double er, .int ce, .int cd, .int rs])), (aw, aD q n fw)]) [2, 3, 0, 1] (by decide) rfl
  obtain ⟨sa, hstr⟩ := hNT.1 (154, "no RLS") (by decide)
  exact vx_throwS hx hb hst (own := RX3) (cls := exS) (text := "no RLS") (names := exN) (ik := 56) (is := 154) (ic := 60) (A := A) hown (by decide +kernel) (by decide +kernel) (hts (.classLink RX3 56 exS) (by decide +kernel)) (hts (.initialized exS) (by decide +kernel)) hstr (vx_hat (fun w hw => hts w (at_X3_square_S w hw)) at_bS (NT.bad hNT)) at_oS hNT.2.2.1 hNT.2.2.2 hS (hl.1.trans hml.symm) dX3_square_82 dX3_square_85 dX3_square_86 dX3_square_88 dX3_square_91 (fun x hx => (htb x hx).elim) (Nat.le_of_ble_eq_true rfl) (Nat.le_of_ble_eq_true rfl) (Nat.le_of_ble_eq_true rfl) (Nat.le_of_ble_eq_true rfl) hlocks (fun t hv1 h1 h2 => ⟨(), trivial, ⟨rfl, hP.kept (fun k x hk => h2 x.1 (hP k x hk).lt), hD⟩, Nat.le_trans hS.1 h1, fun z hz hA2 => (h2 z (Nat.lt_of_lt_of_le hz hS.1)).trans (hS.2.1 z hz hA2)⟩) hS.2.2 (Nat.le_of_ble_eq_true rfl) (Nat.le_of_ble_eq_true rfl)

theorem at_X3_filter_A : ∀ w ∈ (vx_atS RX3 41 exA exN).filter goodWord, w ∈ wsX3_filter := by
  intro w h
  unfold wsX3_filter
  refine List.mem_cons_of_mem _ ?_
  repeat (first | exact List.mem_append_right _ h | refine List.mem_append_left _ ?_)
theorem at_X3_filter_S : ∀ w ∈ (vx_atS RX3 60 exS exN).filter goodWord, w ∈ wsX3_filter := by
  intro w h
  unfold wsX3_filter
  refine List.mem_cons_of_mem _ ?_
  repeat (first | exact List.mem_append_right _ h | refine List.mem_append_left _ ?_)
set_option maxHeartbeats 4000000 in
set_option maxRecDepth 100000 in
/-- filter: where it throws -/
theorem m_X3_filter_x (l : Launch) (G : va_G) (q : Nat → ClassId) (sz : Nat) (hst : l.stackTraces = false) (o3 o1 af nf : Nat) (oa : Nat → Nat) (kd tn1 st : Int32) (hnf : nf ≤ 6) (hc : ¬ filtC kd tn1 st (nI nf) = 0) : vx_Met l yX3_filter wsX3_filter ({ frames := 6, cells := 1, slots := 6, locals := 100 } : Jvm.Room) (PreX G q [.ref o3, .int kd, .int tn1, .int st] [(o3, .inr (3, [.ref o1, .ref af, .int (nI nf)])), (af, aF q 6 (fun j => if j < nf then some (oa j) else none))] sz) (va_Qi (fun (_ : Int32) (_ : Unit) => False) (fun _ _ => True) (va_A [(o3, .inr (3, [.ref o1, .ref af, .int (nI nf)])), (af, aF q 6 (fun j => if j < nf then some (oa j) else none))] sz)) (vx_X (fun (_ : Unit) => True) (fun E _ t => E = exE2 (filtC kd tn1 st (nI nf)) ∧ EndA G (va_A [(o3, .inr (3, [.ref o1, .ref af, .int (nI nf)])), (af, aF q 6 (fun j => if j < nf then some (oa j) else none))] sz) [(o3, .inr (3, [.ref o1, .ref af, .int (nI nf)])), (af, aF q 6 (fun j => if j < nf then some (oa j) else none))] t) (va_A [(o3, .inr (3, [.ref o1, .ref af, .int (nI nf)])), (af, aF q 6 (fun j => if j < nf then some (oa j) else none))] sz)) 1 6 (va_A [(o3, .inr (3, [.ref o1, .ref af, .int (nI nf)])), (af, aF q 6 (fun j => if j < nf then some (oa j) else none))] sz) := by
  refine vx_ofW (cc := cX3_filter) (maxL := 5) (ret := (some .int)) (by decide +kernel) rfl ?_
  intro p e s m args below meth c s₁ B hml htb hv
  obtain ⟨⟨rfl, hsz, hP, hK, hD0, hNF⟩, hNT⟩ := hv
  have hx := B.exec
  have hb := B.bytes
  have hr := B.returns
  have hts := atoms_spec (ws := wsX3_filter) B.pre
  have hown : s.vm.findClass RX3 = some m.cls := findClass_of_methodNamed B.named
  have hlocks := B.notSynchronized
  subst hsz
  have hD := hD0.self (sz := s.heap.size)
  generalize hAe : va_A [(o3, .inr (3, [.ref o1, .ref af, .int (nI nf)])), (af, aF q 6 (fun j => if j < nf then some (oa j) else none))] s.heap.size = A at hD hNT ⊢
  have hA : ∀ q : Nat, s.heap.size ≤ q → A q := fun q h => by rw [← hAe]; exact Or.inr h
  have hS : va_S A s.heap s.heap [] := va_S.rf
  have hP : va_P G vwCl [(o3, .inr (3, [.ref o1, .ref af, .int (nI nf)])), (af, aF q 6 (fun j => if j < nf then some (oa j) else none))] s.heap := hP
  have hl := lv_entry ([.ref o3, .int kd, .int tn1, .int st]) (n := 5) (Nat.le_of_ble_eq_true rfl)
  rw [lg_entry_eq]
  generalize (lg_sl ([.ref o3, .int kd, .int tn1, .int st]) ++ List.replicate (5 - (lg_sl ([.ref o3, .int kd, .int tn1, .int st])).length) Slot.unset).toArray = ls at hl ⊢
  have hl : lv_has ls 5 [(0, .ref o3), (1, .int kd), (2, .int tn1), (3, .int st)] := hl
  refine lv_iload_n hx hb dX3_filter_0 rfl (lv_at hl 1 rfl) ?_
  refine lv_iconst (v := 0) hx hb dX3_filter_1 (by decide) ?_
  refine lv_iconst (v := 3) hx hb dX3_filter_2 (by decide) ?_
  have hPc := hP.sub (ws' := []) [] rfl
  have hDc := hD.sub (ws' := []) [] (by decide) rfl
  have hFc := va_free (wc := []) hD hS hA [] rfl
  refine va_calli (va_runS (As := [.int kd, .int 0, .int 3]) (rest := []) ⟨hx, hb, hml, hown, hts⟩ (m_X3_isWithin l G q s.heap.size kd 0 3) (va_cwS 3 hts gX3_filter_X3_isWithin rfl rfl rfl (by decide +kernel) ⟨Nat.le_of_ble_eq_true rfl, Nat.le_of_ble_eq_true rfl⟩) ⟨preW_blind, preW_start hPc hK hDc hNF⟩ rfl rfl hl.1 rfl (lv_room (Nat.le_of_ble_eq_true rfl)) dX3_filter_3 ⟨(by show _ ≤ 1; omega), (by show _ ≤ 6; omega)⟩) hS (fun q _ h => hFc q h) hFc (fun ri1 u9 t9 H1 locs ht9 hv9 hw hB9 hz9 hk9 hS => ?_)
  obtain ⟨⟩ := u9
  obtain ⟨hP1, hD1⟩ := hB9
  rw [ht9] at hP1
  obtain ⟨hP, hD⟩ := va_join (wr := [(o3, .inr (3, [.ref o1, .ref af, .int (nI nf)])), (af, aF q 6 (fun j => if j < nf then some (oa j) else none))]) (w1 := []) hP hD [] [0, 1] rfl rfl (by decide) (by decide) hk9 hFc hP1 hD1
  generalize H1 = H at hP hS ⊢
  have hP : va_P G vwCl [(o3, .inr (3, [.ref o1, .ref af, .int (nI nf)])), (af, aF q 6 (fun j => if j < nf then some (oa j) else none))] H := hP
  have hD : va_D A [(o3, .inr (3, [.ref o1, .ref af, .int (nI nf)])), (af, aF q 6 (fun j => if j < nf then some (oa j) else none))] := hD
  by_cases ci3 : 0 ≤ kd ∧ kd ≤ 3
  rotate_left
  · skip
    obtain rfl : ri1 = 0 := hw.trans (if_neg ci3)
    refine lv_if_ne (tgt := 19) hx hb dX3_filter_6 (by decide) (fun h => absurd (by decide) h) (fun _ => ?_)
    obtain ⟨sa, hstr⟩ := hNT.1 (46, "kind out of range") (by decide)
    exact vx_throwS hx hb hst (own := RX3) (cls := exA) (text := "kind out of range") (names := exN) (ik := 37) (is := 46) (ic := 41) (A := A) hown (by decide +kernel) (by decide +kernel) (hts (.classLink RX3 37 exA) (by decide +kernel)) (hts (.initialized exA) (by decide +kernel)) hstr (vx_hat (fun w hw => hts w (at_X3_filter_A w hw)) at_bA (NT.bad hNT)) at_oA hNT.2.2.1 hNT.2.2.2 hS (hl.1.trans hml.symm) dX3_filter_9 dX3_filter_12 dX3_filter_13 dX3_filter_15 dX3_filter_18 (fun x hx => (htb x hx).elim) (Nat.le_of_ble_eq_true rfl) (Nat.le_of_ble_eq_true rfl) (Nat.le_of_ble_eq_true rfl) (Nat.le_of_ble_eq_true rfl) hlocks (fun t hv1 h1 h2 => ⟨(), trivial, ⟨(by unfold filtC; rw [if_neg ci3]; rfl), hP.kept (fun k x hk => h2 x.1 (hP k x hk).lt), hD⟩, Nat.le_trans hS.1 h1, fun z hz hA2 => (h2 z (Nat.lt_of_lt_of_le hz hS.1)).trans (hS.2.1 z hz hA2)⟩) hS.2.2 (Nat.le_of_ble_eq_true rfl) (Nat.le_of_ble_eq_true rfl)
  obtain rfl : ri1 = 1 := hw.trans (if_pos ci3)
  refine lv_if_ne (tgt := 19) hx hb dX3_filter_6 (by decide) (fun _ => ?_) (fun h => absurd h (by decide))
  refine lv_iload_n hx hb dX3_filter_19 rfl (lv_at hl 2 rfl) ?_
  refine lv_iconst (v := 1) hx hb dX3_filter_20 (by decide) ?_
  refine lv_iload_n hx hb dX3_filter_21 rfl (lv_at hl 1 rfl) ?_
  refine lv_iconst (v := 3) hx hb dX3_filter_22 (by decide) ?_
  by_cases c3 : kd = 3
  · skip
    refine lv_icmp_ne (tgt := 30) hx hb dX3_filter_23 (by decide) (fun h => absurd c3 h) (fun _ => ?_)
    refine lv_iconst (v := 4) hx hb dX3_filter_26 (by decide) ?_
    refine lv_goto (tgt := 32) hx hb dX3_filter_27 (by decide) ?_
    have hPc := hP.sub (ws' := []) [] rfl
    have hDc := hD.sub (ws' := []) [] (by decide) rfl
    have hFc := va_free (wc := []) hD hS hA [] rfl
    refine va_calli (va_runS (As := [.int tn1, .int 1, .int 4]) (rest := []) ⟨hx, hb, hml, hown, hts⟩ (m_X3_isWithin l G q H.size tn1 1 4) (va_cwS 3 hts gX3_filter_X3_isWithin rfl rfl rfl (by decide +kernel) ⟨Nat.le_of_ble_eq_true rfl, Nat.le_of_ble_eq_true rfl⟩) ⟨preW_blind, preW_start hPc hK hDc hNF⟩ rfl rfl hl.1 rfl (lv_room (Nat.le_of_ble_eq_true rfl)) dX3_filter_32 ⟨(by show _ ≤ 1; omega), (by show _ ≤ 6; omega)⟩) hS (fun q _ h => hFc q h) hFc (fun ri7 u9 t9 H1 locs ht9 hv9 hw hB9 hz9 hk9 hS => ?_)
    obtain ⟨⟩ := u9
    obtain ⟨hP1, hD1⟩ := hB9
    rw [ht9] at hP1
    obtain ⟨hP, hD⟩ := va_join (wr := [(o3, .inr (3, [.ref o1, .ref af, .int (nI nf)])), (af, aF q 6 (fun j => if j < nf then some (oa j) else none))]) (w1 := []) hP hD [] [0, 1] rfl rfl (by decide) (by decide) hk9 hFc hP1 hD1
    generalize H1 = H at hP hS ⊢
    have hP : va_P G vwCl [(o3, .inr (3, [.ref o1, .ref af, .int (nI nf)])), (af, aF q 6 (fun j => if j < nf then some (oa j) else none))] H := hP
    have hD : va_D A [(o3, .inr (3, [.ref o1, .ref af, .int (nI nf)])), (af, aF q 6 (fun j => if j < nf then some (oa j) else none))] := hD
    by_cases ci9 : 1 ≤ tn1 ∧ tn1 ≤ 4
    rotate_left
    · skip
      obtain rfl : ri7 = 0 := hw.trans (if_neg ci9)
      refine lv_if_ne (tgt := 48) hx hb dX3_filter_35 (by decide) (fun h => absurd (by decide) h) (fun _ => ?_)
      obtain ⟨sa, hstr⟩ := hNT.1 (48, "taps out of range") (by decide)
      exact vx_throwS hx hb hst (own := RX3) (cls := exA) (text := "taps out of range") (names := exN) (ik := 37) (is := 48) (ic := 41) (A := A) hown (by decide +kernel) (by decide +kernel) (hts (.classLink RX3 37 exA) (by decide +kernel)) (hts (.initialized exA) (by decide +kernel)) hstr (vx_hat (fun w hw => hts w (at_X3_filter_A w hw)) at_bA (NT.bad hNT)) at_oA hNT.2.2.1 hNT.2.2.2 hS (hl.1.trans hml.symm) dX3_filter_38 dX3_filter_41 dX3_filter_42 dX3_filter_44 dX3_filter_47 (fun x hx => (htb x hx).elim) (Nat.le_of_ble_eq_true rfl) (Nat.le_of_ble_eq_true rfl) (Nat.le_of_ble_eq_true rfl) (Nat.le_of_ble_eq_true rfl) hlocks (fun t hv1 h1 h2 => ⟨(), trivial, ⟨(by unfold filtC; rw [if_pos ci3, if_pos c3, if_neg ci9]; rfl), hP.kept (fun k x hk => h2 x.1 (hP k x hk).lt), hD⟩, Nat.le_trans hS.1 h1, fun z hz hA2 => (h2 z (Nat.lt_of_lt_of_le hz hS.1)).trans (hS.2.1 z hz hA2)⟩) hS.2.2 (Nat.le_of_ble_eq_true rfl) (Nat.le_of_ble_eq_true rfl)
    obtain rfl : ri7 = 1 := hw.trans (if_pos ci9)
    refine lv_if_ne (tgt := 48) hx hb dX3_filter_35 (by decide) (fun _ => ?_) (fun h => absurd h (by decide))
    refine lv_iload_n hx hb dX3_filter_48 rfl (lv_at hl 1 rfl) ?_
    refine lv_iload_n hx hb dX3_filter_49 rfl (lv_at hl 3 rfl) ?_
    have hPc := hP.sub (ws' := []) [] rfl
    have hDc := hD.sub (ws' := []) [] (by decide) rfl
    have hFc := va_free (wc := []) hD hS hA [] rfl
    refine va_calli (va_runS (As := [.int kd, .int st]) (rest := []) ⟨hx, hb, hml, hown, hts⟩ (m_X3_isStepOf l G q H.size kd st) (va_cwS 2 hts gX3_filter_X3_isStepOf rfl rfl rfl (by decide +kernel) ⟨Nat.le_of_ble_eq_true rfl, Nat.le_of_ble_eq_true rfl⟩) ⟨preW_blind, preW_start hPc hK hDc hNF⟩ rfl rfl hl.1 rfl (lv_room (Nat.le_of_ble_eq_true rfl)) dX3_filter_50 ⟨(by show _ ≤ 1; omega), (by show _ ≤ 6; omega)⟩) hS (fun q _ h => hFc q h) hFc (fun ri12 u9 t9 H1 locs ht9 hv9 hw hB9 hz9 hk9 hS => ?_)
    obtain ⟨⟩ := u9
    obtain ⟨hP1, hD1⟩ := hB9
    rw [ht9] at hP1
    obtain ⟨hP, hD⟩ := va_join (wr := [(o3, .inr (3, [.ref o1, .ref af, .int (nI nf)])), (af, aF q 6 (fun j => if j < nf then some (oa j) else none))]) (w1 := []) hP hD [] [0, 1] rfl rfl (by decide) (by decide) hk9 hFc hP1 hD1
    generalize H1 = H at hP hS ⊢
    have hP : va_P G vwCl [(o3, .inr (3, [.ref o1, .ref af, .int (nI nf)])), (af, aF q 6 (fun j => if j < nf then some (oa j) else none))] H := hP
    have hD : va_D A [(o3, .inr (3, [.ref o1, .ref af, .int (nI nf)])), (af, aF q 6 (fun j => if j < nf then some (oa j) else none))] := hD
    by_cases ci14 : stpB kd st
    rotate_left
    · skip
      obtain rfl : ri12 = 0 := hw.trans (stp_0 ci14)
      refine lv_if_ne (tgt := 66) hx hb dX3_filter_53 (by decide) (fun h => absurd (by decide) h) (fun _ => ?_)
      obtain ⟨sa, hstr⟩ := hNT.1 (54, "step out of range") (by decide)
      exact vx_throwS hx hb hst (own := RX3) (cls := exA) (text := "step out of range") (names := exN) (ik := 37) (is := 54) (ic := 41) (A := A) hown (by decide +kernel) (by decide +kernel) (hts (.classLink RX3 37 exA) (by decide +kernel)) (hts (.initialized exA) (by decide +kernel)) hstr (vx_hat (fun w hw => hts w (at_X3_filter_A w hw)) at_bA (NT.bad hNT)) at_oA hNT.2.2.1 hNT.2.2.2 hS (hl.1.trans hml.symm) dX3_filter_56 dX3_filter_59 dX3_filter_60 dX3_filter_62 dX3_filter_65 (fun x hx => (htb x hx).elim) (Nat.le_of_ble_eq_true rfl) (Nat.le_of_ble_eq_true rfl) (Nat.le_of_ble_eq_true rfl) (Nat.le_of_ble_eq_true rfl) hlocks (fun t hv1 h1 h2 => ⟨(), trivial, ⟨(by unfold filtC; rw [if_pos ci3, if_pos c3, if_pos ci9, if_neg ci14]; rfl), hP.kept (fun k x hk => h2 x.1 (hP k x hk).lt), hD⟩, Nat.le_trans hS.1 h1, fun z hz hA2 => (h2 z (Nat.lt_of_lt_of_le hz hS.1)).trans (hS.2.1 z hz hA2)⟩) hS.2.2 (Nat.le_of_ble_eq_true rfl) (Nat.le_of_ble_eq_true rfl)
    obtain rfl : ri12 = 1 := hw.trans (stp_1 ci14)
    refine lv_if_ne (tgt := 66) hx hb dX3_filter_53 (by decide) (fun _ => ?_) (fun h => absurd h (by decide))
    refine lv_aload_n hx hb dX3_filter_66 rfl (lv_at hl 0 rfl) ?_
    refine va_get (D := G) (ci := 3) (v := .int (nI nf)) (C := RX3) (T := TX3) (N := 3) hx hb hts in_X3_filter_X3 hown hK hP 0 rfl rfl 2 (by decide) (hts (.fieldLink RX3 22 "EchoBench" "filterCount" "I") (by decide +kernel)) (fun _ h9 => h9) rfl dX3_filter_67 ?_
    refine lv_aload_n hx hb dX3_filter_70 rfl (lv_at hl 0 rfl) ?_
    refine va_get (D := G) (ci := 3) (v := .ref af) (C := RX3) (T := TX3) (N := 3) hx hb hts in_X3_filter_X3 hown hK hP 0 rfl rfl 1 (by decide) (hts (.fieldLink RX3 18 "EchoBench" "filters" "[LEchoBench$Filter;") (by decide +kernel)) (fun _ h9 => h9) rfl dX3_filter_71 ?_
    refine va_alen (D := G) hx hb hK hP 1 3 rfl rfl (v := 6) rfl dX3_filter_74 ?_
    refine lv_icmp_lt (tgt := 88) hx hb dX3_filter_75 (by decide) (fun c9 => ?_) (fun c9 => ?_)
    · skip
      have c8 : ¬ nI nf = 6 := fun z => absurd c9 (by rw [z]; decide)
      exact absurd (by unfold filtC; rw [if_pos ci3, if_pos c3, if_pos ci9, if_pos ci14, if_neg c8]) hc
    · skip
      have c8 : nI nf = 6 := by have h9 : ¬ nf < 6 := fun z => c9 (nI_lt (a := nf) (b := 6) z (by decide)); rw [show nf = 6 by omega]; rfl
      obtain ⟨sa, hstr⟩ := hNT.1 (58, "no room for another filter") (by decide)
      exact vx_throwS hx hb hst (own := RX3) (cls := exS) (text := "no room for another filter") (names := exN) (ik := 56) (is := 58) (ic := 60) (A := A) hown (by decide +kernel) (by decide +kernel) (hts (.classLink RX3 56 exS) (by decide +kernel)) (hts (.initialized exS) (by decide +kernel)) hstr (vx_hat (fun w hw => hts w (at_X3_filter_S w hw)) at_bS (NT.bad hNT)) at_oS hNT.2.2.1 hNT.2.2.2 hS (hl.1.trans hml.symm) dX3_filter_78 dX3_filter_81 dX3_filter_82 dX3_filter_84 dX3_filter_87 (fun x hx => (htb x hx).elim) (Nat.le_of_ble_eq_true rfl) (Nat.le_of_ble_eq_true rfl) (Nat.le_of_ble_eq_true rfl) (Nat.le_of_ble_eq_true rfl) hlocks (fun t hv1 h1 h2 => ⟨(), trivial, ⟨(by unfold filtC; rw [if_pos ci3, if_pos c3, if_pos ci9, if_pos ci14, if_pos c8]; rfl), hP.kept (fun k x hk => h2 x.1 (hP k x hk).lt), hD⟩, Nat.le_trans hS.1 h1, fun z hz hA2 => (h2 z (Nat.lt_of_lt_of_le hz hS.1)).trans (hS.2.1 z hz hA2)⟩) hS.2.2 (Nat.le_of_ble_eq_true rfl) (Nat.le_of_ble_eq_true rfl)
  refine lv_icmp_ne (tgt := 30) hx hb dX3_filter_23 (by decide) (fun _ => ?_) (fun h => absurd h c3)
  refine lv_bipush (v := 8) hx hb dX3_filter_30 (by decide) ?_
  have hPc := hP.sub (ws' := []) [] rfl
  have hDc := hD.sub (ws' := []) [] (by decide) rfl
  have hFc := va_free (wc := []) hD hS hA [] rfl
  refine va_calli (va_runS (As := [.int tn1, .int 1, .int 8]) (rest := []) ⟨hx, hb, hml, hown, hts⟩ (m_X3_isWithin l G q H.size tn1 1 8) (va_cwS 3 hts gX3_filter_X3_isWithin rfl rfl rfl (by decide +kernel) ⟨Nat.le_of_ble_eq_true rfl, Nat.le_of_ble_eq_true rfl⟩) ⟨preW_blind, preW_start hPc hK hDc hNF⟩ rfl rfl hl.1 rfl (lv_room (Nat.le_of_ble_eq_true rfl)) dX3_filter_32 ⟨(by show _ ≤ 1; omega), (by show _ ≤ 6; omega)⟩) hS (fun q _ h => hFc q h) hFc (fun ri18 u9 t9 H1 locs ht9 hv9 hw hB9 hz9 hk9 hS => ?_)
  obtain ⟨⟩ := u9
  obtain ⟨hP1, hD1⟩ := hB9
  rw [ht9] at hP1
  obtain ⟨hP, hD⟩ := va_join (wr := [(o3, .inr (3, [.ref o1, .ref af, .int (nI nf)])), (af, aF q 6 (fun j => if j < nf then some (oa j) else none))]) (w1 := []) hP hD [] [0, 1] rfl rfl (by decide) (by decide) hk9 hFc hP1 hD1
  generalize H1 = H at hP hS ⊢
  have hP : va_P G vwCl [(o3, .inr (3, [.ref o1, .ref af, .int (nI nf)])), (af, aF q 6 (fun j => if j < nf then some (oa j) else none))] H := hP
  have hD : va_D A [(o3, .inr (3, [.ref o1, .ref af, .int (nI nf)])), (af, aF q 6 (fun j => if j < nf then some (oa j) else none))] := hD
  by_cases ci20 : 1 ≤ tn1 ∧ tn1 ≤ 8
  rotate_left
  · skip
    obtain rfl : ri18 = 0 := hw.trans (if_neg ci20)
    refine lv_if_ne (tgt := 48) hx hb dX3_filter_35 (by decide) (fun h => absurd (by decide) h) (fun _ => ?_)
    obtain ⟨sa, hstr⟩ := hNT.1 (48, "taps out of range") (by decide)
    exact vx_throwS hx hb hst (own := RX3) (cls := exA) (text := "taps out of range") (names := exN) (ik := 37) (is := 48) (ic := 41) (A := A) hown (by decide +kernel) (by decide +kernel) (hts (.classLink RX3 37 exA) (by decide +kernel)) (hts (.initialized exA) (by decide +kernel)) hstr (vx_hat (fun w hw => hts w (at_X3_filter_A w hw)) at_bA (NT.bad hNT)) at_oA hNT.2.2.1 hNT.2.2.2 hS (hl.1.trans hml.symm) dX3_filter_38 dX3_filter_41 dX3_filter_42 dX3_filter_44 dX3_filter_47 (fun x hx => (htb x hx).elim) (Nat.le_of_ble_eq_true rfl) (Nat.le_of_ble_eq_true rfl) (Nat.le_of_ble_eq_true rfl) (Nat.le_of_ble_eq_true rfl) hlocks (fun t hv1 h1 h2 => ⟨(), trivial, ⟨(by unfold filtC; rw [if_pos ci3, if_neg c3, if_neg ci20]; rfl), hP.kept (fun k x hk => h2 x.1 (hP k x hk).lt), hD⟩, Nat.le_trans hS.1 h1, fun z hz hA2 => (h2 z (Nat.lt_of_lt_of_le hz hS.1)).trans (hS.2.1 z hz hA2)⟩) hS.2.2 (Nat.le_of_ble_eq_true rfl) (Nat.le_of_ble_eq_true rfl)
  obtain rfl : ri18 = 1 := hw.trans (if_pos ci20)
  refine lv_if_ne (tgt := 48) hx hb dX3_filter_35 (by decide) (fun _ => ?_) (fun h => absurd h (by decide))
  refine lv_iload_n hx hb dX3_filter_48 rfl (lv_at hl 1 rfl) ?_
  refine lv_iload_n hx hb dX3_filter_49 rfl (lv_at hl 3 rfl) ?_
  have hPc := hP.sub (ws' := []) [] rfl
  have hDc := hD.sub (ws' := []) [] (by decide) rfl
  have hFc := va_free (wc := []) hD hS hA [] rfl
  refine va_calli (va_runS (As := [.int kd, .int st]) (rest := []) ⟨hx, hb, hml, hown, hts⟩ (m_X3_isStepOf l G q H.size kd st) (va_cwS 2 hts gX3_filter_X3_isStepOf rfl rfl rfl (by decide +kernel) ⟨Nat.le_of_ble_eq_true rfl, Nat.le_of_ble_eq_true rfl⟩) ⟨preW_blind, preW_start hPc hK hDc hNF⟩ rfl rfl hl.1 rfl (lv_room (Nat.le_of_ble_eq_true rfl)) dX3_filter_50 ⟨(by show _ ≤ 1; omega), (by show _ ≤ 6; omega)⟩) hS (fun q _ h => hFc q h) hFc (fun ri23 u9 t9 H1 locs ht9 hv9 hw hB9 hz9 hk9 hS => ?_)
  obtain ⟨⟩ := u9
  obtain ⟨hP1, hD1⟩ := hB9
  rw [ht9] at hP1
  obtain ⟨hP, hD⟩ := va_join (wr := [(o3, .inr (3, [.ref o1, .ref af, .int (nI nf)])), (af, aF q 6 (fun j => if j < nf then some (oa j) else none))]) (w1 := []) hP hD [] [0, 1] rfl rfl (by decide) (by decide) hk9 hFc hP1 hD1
  generalize H1 = H at hP hS ⊢
  have hP : va_P G vwCl [(o3, .inr (3, [.ref o1, .ref af, .int (nI nf)])), (af, aF q 6 (fun j => if j < nf then some (oa j) else none))] H := hP
  have hD : va_D A [(o3, .inr (3, [.ref o1, .ref af, .int (nI nf)])), (af, aF q 6 (fun j => if j < nf then some (oa j) else none))] := hD
  by_cases ci25 : stpB kd st
  rotate_left
  · skip
    obtain rfl : ri23 = 0 := hw.trans (stp_0 ci25)
    refine lv_if_ne (tgt := 66) hx hb dX3_filter_53 (by decide) (fun h => absurd (by decide) h) (fun _ => ?_)
    obtain ⟨sa, hstr⟩ := hNT.1 (54, "step out of range") (by decide)
    exact vx_throwS hx hb hst (own := RX3) (cls := exA) (text := "step out of range") (names := exN) (ik := 37) (is := 54) (ic := 41) (A := A) hown (by decide +kernel) (by decide +kernel) (hts (.classLink RX3 37 exA) (by decide +kernel)) (hts (.initialized exA) (by decide +kernel)) hstr (vx_hat (fun w hw => hts w (at_X3_filter_A w hw)) at_bA (NT.bad hNT)) at_oA hNT.2.2.1 hNT.2.2.2 hS (hl.1.trans hml.symm) dX3_filter_56 dX3_filter_59 dX3_filter_60 dX3_filter_62 dX3_filter_65 (fun x hx => (htb x hx).elim) (Nat.le_of_ble_eq_true rfl) (Nat.le_of_ble_eq_true rfl) (Nat.le_of_ble_eq_true rfl) (Nat.le_of_ble_eq_true rfl) hlocks (fun t hv1 h1 h2 => ⟨(), trivial, ⟨(by unfold filtC; rw [if_pos ci3, if_neg c3, if_pos ci20, if_neg ci25]; rfl), hP.kept (fun k x hk => h2 x.1 (hP k x hk).lt), hD⟩, Nat.le_trans hS.1 h1, fun z hz hA2 => (h2 z (Nat.lt_of_lt_of_le hz hS.1)).trans (hS.2.1 z hz hA2)⟩) hS.2.2 (Nat.le_of_ble_eq_true rfl) (Nat.le_of_ble_eq_true rfl)
  obtain rfl : ri23 = 1 := hw.trans (stp_1 ci25)
  refine lv_if_ne (tgt := 66) hx hb dX3_filter_53 (by decide) (fun _ => ?_) (fun h => absurd h (by decide))
  refine lv_aload_n hx hb dX3_filter_66 rfl (lv_at hl 0 rfl) ?_
  refine va_get (D := G) (ci := 3) (v := .int (nI nf)) (C := RX3) (T := TX3) (N := 3) hx hb hts in_X3_filter_X3 hown hK hP 0 rfl rfl 2 (by decide) (hts (.fieldLink RX3 22 "EchoBench" "filterCount" "I") (by decide +kernel)) (fun _ h9 => h9) rfl dX3_filter_67 ?_
  refine lv_aload_n hx hb dX3_filter_70 rfl (lv_at hl 0 rfl) ?_
  refine va_get (D := G) (ci := 3) (v := .ref af) (C := RX3) (T := TX3) (N := 3) hx hb hts in_X3_filter_X3 hown hK hP 0 rfl rfl 1 (by decide) (hts (.fieldLink RX3 18 "EchoBench" "filters" "[LEchoBench$Filter;") (by decide +kernel)) (fun _ h9 => h9) rfl dX3_filter_71 ?_
  refine va_alen (D := G) hx hb hK hP 1 3 rfl rfl (v := 6) rfl dX3_filter_74 ?_
  refine lv_icmp_lt (tgt := 88) hx hb dX3_filter_75 (by decide) (fun c9 => ?_) (fun c9 => ?_)
  · skip
    have c8 : ¬ nI nf = 6 := fun z => absurd c9 (by rw [z]; decide)
    exact absurd (by unfold filtC; rw [if_pos ci3, if_neg c3, if_pos ci20, if_pos ci25, if_neg c8]) hc
  · skip
    have c8 : nI nf = 6 := by have h9 : ¬ nf < 6 := fun z => c9 (nI_lt (a := nf) (b := 6) z (by decide)); rw [show nf = 6 by omega]; rfl
    obtain ⟨sa, hstr⟩ := hNT.1 (58, "no room for another filter") (by decide)
    exact vx_throwS hx hb hst (own := RX3) (cls := exS) (text := "no room for another filter") (names := exN) (ik := 56) (is := 58) (ic := 60) (A := A) hown (by decide +kernel) (by decide +kernel) (hts (.classLink RX3 56 exS) (by decide +kernel)) (hts (.initialized exS) (by decide +kernel)) hstr (vx_hat (fun w hw => hts w (at_X3_filter_S w hw)) at_bS (NT.bad hNT)) at_oS hNT.2.2.1 hNT.2.2.2 hS (hl.1.trans hml.symm) dX3_filter_78 dX3_filter_81 dX3_filter_82 dX3_filter_84 dX3_filter_87 (fun x hx => (htb x hx).elim) (Nat.le_of_ble_eq_true rfl) (Nat.le_of_ble_eq_true rfl) (Nat.le_of_ble_eq_true rfl) (Nat.le_of_ble_eq_true rfl) hlocks (fun t hv1 h1 h2 => ⟨(), trivial, ⟨(by unfold filtC; rw [if_pos ci3, if_neg c3, if_pos ci20, if_pos ci25, if_pos c8]; rfl), hP.kept (fun k x hk => h2 x.1 (hP k x hk).lt), hD⟩, Nat.le_trans hS.1 h1, fun z hz hA2 => (h2 z (Nat.lt_of_lt_of_le hz hS.1)).trans (hS.2.1 z hz hA2)⟩) hS.2.2 (Nat.le_of_ble_eq_true rfl) (Nat.le_of_ble_eq_true rfl)
