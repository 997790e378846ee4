set_option maxHeartbeats 4000000 in
set_option maxRecDepth 100000 in
/-- in -/
theorem m_X4_in (l : Launch) (G : va_G) (q : Nat → ClassId) (sz : Nat) (x lo hi : Int32)  : Met l yX4_in wsX4_in ({ frames := 0, cells := 0, slots := 0, locals := 0 } : Jvm.Room) (PreW G q [.int x, .int lo, .int hi] [] sz) (va_Qi (fun (r : Int32) (_ : Unit) => r = if lo ≤ x ∧ x ≤ hi then 1 else 0) (fun (_ : Unit) t => EndA G (va_A [] sz) [] t) (va_A [] sz)) 0 0 (va_A [] sz) := by
  refine Met.ofW (cc := cX4_in) (maxL := 3) (ret := (some .boolean)) (by decide +kernel) rfl ?_
  intro p e s m args below meth c s₁ B hml hv
  obtain ⟨rfl, hsz, hP, hK, hD0, hNF⟩ := hv
  have hx := B.exec
  have hb := B.bytes
  have hr := B.returns
  have hts := atoms_spec (ws := wsX4_in) B.pre
  have hown : s.vm.findClass RX4 = some m.cls := findClass_of_methodNamed B.named
  have hlocks := B.notSynchronized
  subst hsz
  have hD := hD0.self (sz := s.heap.size)
  generalize hAe : va_A [] s.heap.size = A at hD ⊢
  have hA : ∀ q : Nat, s.heap.size ≤ q → A q := fun q h => by rw [← hAe]; exact Or.inr h
  have hS : va_S A s.heap s.heap [] := va_S.rf
  have hP : va_P G vwCl [] s.heap := hP
  have hl := lv_entry ([.int x, .int lo, .int hi]) (n := 3) (Nat.le_of_ble_eq_true rfl)
  rw [lg_entry_eq]
  generalize (lg_sl ([.int x, .int lo, .int hi]) ++ List.replicate (3 - (lg_sl ([.int x, .int lo, .int hi])).length) Slot.unset).toArray = ls at hl ⊢
  have hl : lv_has ls 3 [(0, .int x), (1, .int lo), (2, .int hi)] := hl
  refine lv_iload_n hx hb dX4_in_0 rfl (lv_at hl 0 rfl) ?_
  refine lv_iload_n hx hb dX4_in_1 rfl (lv_at hl 1 rfl) ?_
  refine lv_icmp_lt (tgt := 14) hx hb dX4_in_2 (by decide) (fun c1 => ?_) (fun c1 => ?_)
  · skip
    refine lv_iconst (v := 0) hx hb dX4_in_14 (by decide) ?_
    have hP9 := hP
    have hD9 := hD
    exact W.zret (v := 0) hx hb hr (by decide) (fun t ht hW => ⟨⟨0, (), rfl, (if_neg (fun q => absurd c1 (Int32.not_lt.mpr q.1))).symm, by rw [ht]; exact hP9, hD9⟩, hS.F ht⟩) hS.2.2 dX4_in_15
  · skip
    refine lv_iload_n hx hb dX4_in_5 rfl (lv_at hl 0 rfl) ?_
    refine lv_iload_n hx hb dX4_in_6 rfl (lv_at hl 2 rfl) ?_
    refine lv_icmp_gt (tgt := 14) hx hb dX4_in_7 (by decide) (fun c2 => ?_) (fun c2 => ?_)
    · skip
      refine lv_iconst (v := 0) hx hb dX4_in_14 (by decide) ?_
      have hP9 := hP
      have hD9 := hD
      exact W.zret (v := 0) hx hb hr (by decide) (fun t ht hW => ⟨⟨0, (), rfl, (if_neg (fun q => absurd c2 (Int32.not_lt.mpr q.2))).symm, by rw [ht]; exact hP9, hD9⟩, hS.F ht⟩) hS.2.2 dX4_in_15
    · skip
      refine lv_iconst (v := 1) hx hb dX4_in_10 (by decide) ?_
      refine lv_goto (tgt := 15) hx hb dX4_in_11 (by decide) ?_
      have hP9 := hP
      have hD9 := hD
      exact W.zret (v := 1) hx hb hr (by decide) (fun t ht hW => ⟨⟨1, (), rfl, (if_pos ⟨Int32.not_lt.mp c1, Int32.not_lt.mp c2⟩).symm, by rw [ht]; exact hP9, hD9⟩, hS.F ht⟩) hS.2.2 dX4_in_15

theorem in_X4_goesWell_X4 : ∀ w ∈ wsX40, w ∈ wsX4_goesWell := by decide +kernel
set_option maxHeartbeats 4000000 in
set_option maxRecDepth 100000 in
/-- goesWell -/
theorem m_X4_goesWell (l : Launch) (G : va_G) (q : Nat → ClassId) (sz : Nat) (om : Nat) (am : Nat → Nat) (th sa fi : Int32) (mi : UInt64) (pl : Int32)  : Met l yX4_goesWell wsX4_goesWell ({ frames := 0, cells := 0, slots := 0, locals := 0 } : Jvm.Room) (PreW G q [.ref om, .int pl] [(om, .inr (4, [.int th, .int sa, .ref (am 0), .ref (am 1), .double mi, .ref (am 2), .ref (am 3), .ref (am 4), .int fi, .ref (am 5), .ref (am 6), .ref (am 7), .ref (am 8), .ref (am 9), .ref (am 10), .ref (am 11), .ref (am 12), .ref (am 13), .ref (am 14), .ref (am 15), .ref (am 16), .ref (am 17), .ref (am 18), .ref (am 19)]))] sz) (va_Qi (fun (r : Int32) (_ : Unit) => r = if pl = 0 then 1 else 0) (fun (_ : Unit) t => EndA G (va_A [(om, .inr (4, [.int th, .int sa, .ref (am 0), .ref (am 1), .double mi, .ref (am 2), .ref (am 3), .ref (am 4), .int fi, .ref (am 5), .ref (am 6), .ref (am 7), .ref (am 8), .ref (am 9), .ref (am 10), .ref (am 11), .ref (am 12), .ref (am 13), .ref (am 14), .ref (am 15), .ref (am 16), .ref (am 17), .ref (am 18), .ref (am 19)]))] sz) [(om, .inr (4, [.int pl, .int sa, .ref (am 0), .ref (am 1), .double mi, .ref (am 2), .ref (am 3), .ref (am 4), .int fi, .ref (am 5), .ref (am 6), .ref (am 7), .ref (am 8), .ref (am 9), .ref (am 10), .ref (am 11), .ref (am 12), .ref (am 13), .ref (am 14), .ref (am 15), .ref (am 16), .ref (am 17), .ref (am 18), .ref (am 19)]))] t) (va_A [(om, .inr (4, [.int th, .int sa, .ref (am 0), .ref (am 1), .double mi, .ref (am 2), .ref (am 3), .ref (am 4), .int fi, .ref (am 5), .ref (am 6), .ref (am 7), .ref (am 8), .ref (am 9), .ref (am 10), .ref (am 11), .ref (am 12), .ref (am 13), .ref (am 14), .ref (am 15), .ref (am 16), .ref (am 17), .ref (am 18), .ref (am 19)]))] sz)) 0 0 (va_A [(om, .inr (4, [.int th, .int sa, .ref (am 0), .ref (am 1), .double mi, .ref (am 2), .ref (am 3), .ref (am 4), .int fi, .ref (am 5), .ref (am 6), .ref (am 7), .ref (am 8), .ref (am 9), .ref (am 10), .ref (am 11), .ref (am 12), .ref (am 13), .ref (am 14), .ref (am 15), .ref (am 16), .ref (am 17), .ref (am 18), .ref (am 19)]))] sz) := by
  refine Met.ofW (cc := cX4_goesWell) (maxL := 2) (ret := (some .boolean)) (by decide +kernel) rfl ?_
  intro p e s m args below meth c s₁ B hml hv
  obtain ⟨rfl, hsz, hP, hK, hD0, hNF⟩ := hv
  have hx := B.exec
  have hb := B.bytes
  have hr := B.returns
  have hts := atoms_spec (ws := wsX4_goesWell) B.pre
  have hown : s.vm.findClass RX4 = some m.cls := findClass_of_methodNamed B.named
  have hlocks := B.notSynchronized
  subst hsz
  have hD := hD0.self (sz := s.heap.size)
  generalize hAe : va_A [(om, .inr (4, [.int th, .int sa, .ref (am 0), .ref (am 1), .double mi, .ref (am 2), .ref (am 3), .ref (am 4), .int fi, .ref (am 5), .ref (am 6), .ref (am 7), .ref (am 8), .ref (am 9), .ref (am 10), .ref (am 11), .ref (am 12), .ref (am 13), .ref (am 14), .ref (am 15), .ref (am 16), .ref (am 17), .ref (am 18), .ref (am 19)]))] s.heap.size = A at hD ⊢
  have hA : ∀ q : Nat, s.heap.size ≤ q → A q := fun q h => by rw [← hAe]; exact Or.inr h
  have hS : va_S A s.heap s.heap [] := va_S.rf
  have hP : va_P G vwCl [(om, .inr (4, [.int th, .int sa, .ref (am 0), .ref (am 1), .double mi, .ref (am 2), .ref (am 3), .ref (am 4), .int fi, .ref (am 5), .ref (am 6), .ref (am 7), .ref (am 8), .ref (am 9), .ref (am 10), .ref (am 11), .ref (am 12), .ref (am 13), .ref (am 14), .ref (am 15), .ref (am 16), .ref (am 17), .ref (am 18), .ref (am 19)]))] s.heap := hP
  have hl := lv_entry ([.ref om, .int pl]) (n := 2) (Nat.le_of_ble_eq_true rfl)
  rw [lg_entry_eq]
  generalize (lg_sl ([.ref om, .int pl]) ++ List.replicate (2 - (lg_sl ([.ref om, .int pl])).length) Slot.unset).toArray = ls at hl ⊢
  have hl : lv_has ls 2 [(0, .ref om), (1, .int pl)] := hl
  refine lv_aload_n hx hb dX4_goesWell_0 rfl (lv_at hl 0 rfl) ?_
  refine lv_iload_n hx hb dX4_goesWell_1 rfl (lv_at hl 1 rfl) ?_
  refine va_put (D := G) (ci := 4) (v := .int pl) (ty := .int) (C := RX4) (T := TX4) (N := 24) hx hb hts in_X4_goesWell_X4 tyX4 tyX4_ok nmX4 hown hK hP hD hS 0 rfl rfl 0 (by decide) (hts (.fieldLink RX4 71 "EchoBenchModel" "thrown" "I") (by decide +kernel)) (fun _ h9 => h9) rfl (by decide +kernel) rfl rfl (Nat.le_of_ble_eq_true rfl) dX4_goesWell_2 (fun H locs hP hD hS => ?_)
  have hP : va_P G vwCl [(om, .inr (4, [.int pl, .int sa, .ref (am 0), .ref (am 1), .double mi, .ref (am 2), .ref (am 3), .ref (am 4), .int fi, .ref (am 5), .ref (am 6), .ref (am 7), .ref (am 8), .ref (am 9), .ref (am 10), .ref (am 11), .ref (am 12), .ref (am 13), .ref (am 14), .ref (am 15), .ref (am 16), .ref (am 17), .ref (am 18), .ref (am 19)]))] H := hP
  have hD : va_D A [(om, .inr (4, [.int pl, .int sa, .ref (am 0), .ref (am 1), .double mi, .ref (am 2), .ref (am 3), .ref (am 4), .int fi, .ref (am 5), .ref (am 6), .ref (am 7), .ref (am 8), .ref (am 9), .ref (am 10), .ref (am 11), .ref (am 12), .ref (am 13), .ref (am 14), .ref (am 15), .ref (am 16), .ref (am 17), .ref (am 18), .ref (am 19)]))] := hD
  refine lv_iload_n hx hb dX4_goesWell_5 rfl (lv_at hl 1 rfl) ?_
  refine lv_if_ne (tgt := 13) hx hb dX4_goesWell_6 (by decide) (fun c1 => ?_) (fun c1 => ?_)
  · skip
    refine lv_iconst (v := 0) hx hb dX4_goesWell_13 (by decide) ?_
    have hP9 := hP
    have hD9 := hD
    exact W.zret (v := 0) hx hb hr (by decide) (fun t ht hW => ⟨⟨0, (), rfl, (if_neg c1).symm, by rw [ht]; exact hP9, hD9⟩, hS.F ht⟩) hS.2.2 dX4_goesWell_14
  · skip
    refine lv_iconst (v := 1) hx hb dX4_goesWell_9 (by decide) ?_
    refine lv_goto (tgt := 14) hx hb dX4_goesWell_10 (by decide) ?_
    have hP9 := hP
    have hD9 := hD
    exact W.zret (v := 1) hx hb hr (by decide) (fun t ht hW => ⟨⟨1, (), rfl, (if_pos c1).symm, by rw [ht]; exact hP9, hD9⟩, hS.F ht⟩) hS.2.2 dX4_goesWell_14

theorem in_X4_isFilter_X4 : ∀ w ∈ wsX40, w ∈ wsX4_isFilter := by decide +kernel
set_option maxHeartbeats 4000000 in
set_option maxRecDepth 100000 in
/-- isFilter -/
theorem m_X4_isFilter (l : Launch) (G : va_G) (q : Nat → ClassId) (sz : Nat) (om : Nat) (am : Nat → Nat) (th sa fi : Int32) (mi : UInt64) (f : Int32)  : Met l yX4_isFilter wsX4_isFilter ({ frames := 1, cells := 0, slots := 0, locals := 22 } : Jvm.Room) (PreW G q [.ref om, .int f] [(om, .inr (4, [.int th, .int sa, .ref (am 0), .ref (am 1), .double mi, .ref (am 2), .ref (am 3), .ref (am 4), .int fi, .ref (am 5), .ref (am 6), .ref (am 7), .ref (am 8), .ref (am 9), .ref (am 10), .ref (am 11), .ref (am 12), .ref (am 13), .ref (am 14), .ref (am 15), .ref (am 16), .ref (am 17), .ref (am 18), .ref (am 19)]))] sz) (va_Qi (fun (r : Int32) (_ : Unit) => r = if 0 ≤ f ∧ f ≤ fi - 1 then 1 else 0) (fun (_ : Unit) t => EndA G (va_A [(om, .inr (4, [.int th, .int sa, .ref (am 0), .ref (am 1), .double mi, .ref (am 2), .ref (am 3), .ref (am 4), .int fi, .ref (am 5), .ref (am 6), .ref (am 7), .ref (am 8), .ref (am 9), .ref (am 10), .ref (am 11), .ref (am 12), .ref (am 13), .ref (am 14), .ref (am 15), .ref (am 16), .ref (am 17), .ref (am 18), .ref (am 19)]))] sz) [(om, .inr (4, [.int th, .int sa, .ref (am 0), .ref (am 1), .double mi, .ref (am 2), .ref (am 3), .ref (am 4), .int fi, .ref (am 5), .ref (am 6), .ref (am 7), .ref (am 8), .ref (am 9), .ref (am 10), .ref (am 11), .ref (am 12), .ref (am 13), .ref (am 14), .ref (am 15), .ref (am 16), .ref (am 17), .ref (am 18), .ref (am 19)]))] t) (va_A [(om, .inr (4, [.int th, .int sa, .ref (am 0), .ref (am 1), .double mi, .ref (am 2), .ref (am 3), .ref (am 4), .int fi, .ref (am 5), .ref (am 6), .ref (am 7), .ref (am 8), .ref (am 9), .ref (am 10), .ref (am 11), .ref (am 12), .ref (am 13), .ref (am 14), .ref (am 15), .ref (am 16), .ref (am 17), .ref (am 18), .ref (am 19)]))] sz)) 0 0 (va_A [(om, .inr (4, [.int th, .int sa, .ref (am 0), .ref (am 1), .double mi, .ref (am 2), .ref (am 3), .ref (am 4), .int fi, .ref (am 5), .ref (am 6), .ref (am 7), .ref (am 8), .ref (am 9), .ref (am 10), .ref (am 11), .ref (am 12), .ref (am 13), .ref (am 14), .ref (am 15), .ref (am 16), .ref (am 17), .ref (am 18), .ref (am 19)]))] sz) := by
  refine Met.ofW (cc := cX4_isFilter) (maxL := 2) (ret := (some .boolean)) (by decide +kernel) rfl ?_
  intro p e s m args below meth c s₁ B hml hv
  obtain ⟨rfl, hsz, hP, hK, hD0, hNF⟩ := hv
  have hx := B.exec
  have hb := B.bytes
  have hr := B.returns
  have hts := atoms_spec (ws := wsX4_isFilter) B.pre
  have hown : s.vm.findClass RX4 = some m.cls := findClass_of_methodNamed B.named
  have hlocks := B.notSynchronized
  subst hsz
  have hD := hD0.self (sz := s.heap.size)
  generalize hAe : va_A [(om, .inr (4, [.int th, .int sa, .ref (am 0), .ref (am 1), .double mi, .ref (am 2), .ref (am 3), .ref (am 4), .int fi, .ref (am 5), .ref (am 6), .ref (am 7), .ref (am 8), .ref (am 9), .ref (am 10), .ref (am 11), .ref (am 12), .ref (am 13), .ref (am 14), .ref (am 15), .ref (am 16), .ref (am 17), .ref (am 18), .ref (am 19)]))] s.heap.size = A at hD ⊢
  have hA : ∀ q : Nat, s.heap.size ≤ q → A q := fun q h => by rw [← hAe]; exact Or.inr h
  have hS : va_S A s.heap s.heap [] := va_S.rf
  have hP : va_P G vwCl [(om, .inr (4, [.int th, .int sa, .ref (am 0), .ref (am 1), .double mi, .ref (am 2), .ref (am 3), .ref (am 4), .int fi, .ref (am 5), .ref (am 6), .ref (am 7), .ref (am 8), .ref (am 9), .ref (am 10), .ref (am 11), .ref (am 12), .ref (am 13), .ref (am 14), .ref (am 15), .ref (am 16), .ref (am 17), .ref (am 18), .ref (am 19)]))] s.heap := hP
  have hl := lv_entry ([.ref om, .int f]) (n := 2) (Nat.le_of_ble_eq_true rfl)
  rw [lg_entry_eq]
  generalize (lg_sl ([.ref om, .int f]) ++ List.replicate (2 - (lg_sl ([.ref om, .int f])).length) Slot.unset).toArray = ls at hl ⊢
  have hl : lv_has ls 2 [(0, .ref om), (1, .int f)] := hl
  refine lv_iload_n hx hb dX4_isFilter_0 rfl (lv_at hl 1 rfl) ?_
  refine lv_iconst (v := 0) hx hb dX4_isFilter_1 (by decide) ?_
  refine lv_aload_n hx hb dX4_isFilter_2 rfl (lv_at hl 0 rfl) ?_
  refine va_get (D := G) (ci := 4) (v := .int fi) (C := RX4) (T := TX4) (N := 24) hx hb hts in_X4_isFilter_X4 hown hK hP 0 rfl rfl 8 (by decide) (hts (.fieldLink RX4 75 "EchoBenchModel" "filters" "I") (by decide +kernel)) (fun _ h9 => h9) rfl dX4_isFilter_3 ?_
  refine lv_iconst (v := 1) hx hb dX4_isFilter_6 (by decide) ?_
  refine lv_isub hx hb dX4_isFilter_7 ?_
  have hPc := hP.sub (ws' := []) [] rfl
  have hDc := hD.sub (ws' := []) [] (by decide) rfl
  have hFc := va_free (wc := []) hD hS hA [] rfl
  refine va_calli (va_runS (As := [.int f, .int 0, .int (fi - 1)]) (rest := []) ⟨hx, hb, hml, hown, hts⟩ (m_X4_in l G q s.heap.size f 0 (fi - 1)) (va_cwS 3 hts gX4_isFilter_X4_in rfl rfl rfl (by decide +kernel) ⟨Nat.le_of_ble_eq_true rfl, Nat.le_of_ble_eq_true rfl⟩) ⟨preW_blind, preW_start hPc hK hDc hNF⟩ rfl rfl hl.1 rfl (lv_room (Nat.le_of_ble_eq_true rfl)) dX4_isFilter_8 ⟨(Nat.zero_le _), (Nat.zero_le _)⟩) hS (fun q _ h => hFc q h) hFc (fun ri u9 t9 H1 locs ht9 hv9 hw hB9 hz9 hk9 hS => ?_)
  obtain ⟨⟩ := u9
  obtain ⟨hP1, hD1⟩ := hB9
  rw [ht9] at hP1
  obtain ⟨hP, hD⟩ := va_join (wr := [(om, .inr (4, [.int th, .int sa, .ref (am 0), .ref (am 1), .double mi, .ref (am 2), .ref (am 3), .ref (am 4), .int fi, .ref (am 5), .ref (am 6), .ref (am 7), .ref (am 8), .ref (am 9), .ref (am 10), .ref (am 11), .ref (am 12), .ref (am 13), .ref (am 14), .ref (am 15), .ref (am 16), .ref (am 17), .ref (am 18), .ref (am 19)]))]) (w1 := []) hP hD [] [0] rfl rfl (by decide) (by decide) hk9 hFc hP1 hD1
  generalize H1 = H at hP hS ⊢
  have hP : va_P G vwCl [(om, .inr (4, [.int th, .int sa, .ref (am 0), .ref (am 1), .double mi, .ref (am 2), .ref (am 3), .ref (am 4), .int fi, .ref (am 5), .ref (am 6), .ref (am 7), .ref (am 8), .ref (am 9), .ref (am 10), .ref (am 11), .ref (am 12), .ref (am 13), .ref (am 14), .ref (am 15), .ref (am 16), .ref (am 17), .ref (am 18), .ref (am 19)]))] H := hP
  have hD : va_D A [(om, .inr (4, [.int th, .int sa, .ref (am 0), .ref (am 1), .double mi, .ref (am 2), .ref (am 3), .ref (am 4), .int fi, .ref (am 5), .ref (am 6), .ref (am 7), .ref (am 8), .ref (am 9), .ref (am 10), .ref (am 11), .ref (am 12), .ref (am 13), .ref (am 14), .ref (am 15), .ref (am 16), .ref (am 17), .ref (am 18), .ref (am 19)]))] := hD
  have hP9 := hP
  have hD9 := hD
  exact W.zret (v := ri) hx hb hr (nar_b hw) (fun t ht hW => ⟨⟨ri, (), rfl, hw, by rw [ht]; exact hP9, hD9⟩, hS.F ht⟩) hS.2.2 dX4_isFilter_11

set_option maxHeartbeats 4000000 in
set_option maxRecDepth 100000 in
/-- size -/
theorem m_X4_size (l : Launch) (G : va_G) (q : Nat → ClassId) (sz : Nat) (x : UInt64)  : MetD lw_cs l yX4_size wsX4_size ({ frames := 0, cells := 0, slots := 0, locals := 0 } : Jvm.Room) (PreW G q [.double x] [] sz) (va_Qd (fun (r : UInt64) (_ : Unit) => dV r = sSz (dV x)) (fun (_ : Unit) t => EndA G (va_A [] sz) [] t) (va_A [] sz)) 0 0 (va_A [] sz) := by
  refine MetD.ofW (cc := cX4_size) (maxL := 2) (ret := (some .double)) (by decide +kernel) rfl ?_
  intro p e s m args below meth c s₁ B hml hv hd0
  obtain ⟨rfl, hsz, hP, hK, hD0, hNF⟩ := hv
  have hx := B.exec
  have hb := B.bytes
  have hr := B.returns
  have hts := atoms_spec (ws := wsX4_size) B.pre
  have hown : s.vm.findClass RX4 = some m.cls := findClass_of_methodNamed B.named
  have hlocks := B.notSynchronized
  subst hsz
  have hD := hD0.self (sz := s.heap.size)
  generalize hAe : va_A [] s.heap.size = A at hD ⊢
  have hA : ∀ q : Nat, s.heap.size ≤ q → A q := fun q h => by rw [← hAe]; exact Or.inr h
  have hS : va_S A s.heap s.heap [] := va_S.rf
  have hP : va_P G vwCl [] s.heap := hP
  have hl := lv_entry ([.double x]) (n := 2) (Nat.le_of_ble_eq_true rfl)
  rw [lg_entry_eq]
  generalize (lg_sl ([.double x]) ++ List.replicate (2 - (lg_sl ([.double x])).length) Slot.unset).toArray = ls at hl ⊢
  have hl : lv_has ls 2 [(0, .double x)] := hl
  refine lv_dload_n hx hb dX4_size_0 rfl (lv_at hl 0 rfl) ?_
  refine lv_dc0 hx hb dX4_size_1 ?_
  refine lv_dcmp hx hb dX4_size_2 ?_
  refine lv_if_ge (tgt := 12) hx hb dX4_size_3 (by decide) (fun c1 => ?_) (fun c1 => ?_)
  · skip
    rw [cg_ge, dcmp_fO] at c1
    refine lv_dload_n hx hb dX4_size_12 rfl (lv_at hl 0 rfl) ?_
    have hP9 := hP
    have hD9 := hD
    refine W.endD hd0 ?_
    exact W.dret (v := x) hx hb hr (fun t ht hW => ⟨⟨x, (), rfl, (if_neg c1).symm, by rw [ht]; exact hP9, hD9⟩, hS.F ht⟩) hS.2.2 dX4_size_13
  · skip
    rw [cg_ge, dcmp_fO, Classical.not_not] at c1
    refine lv_dc0 hx hb dX4_size_6 ?_
    refine lv_dload_n hx hb dX4_size_7 rfl (lv_at hl 0 rfl) ?_
    refine lv_dsub_any hd0 lw_bits hx hb dX4_size_8 (fun r1 dr1 ar1 hr1 => ?_)
    have er1 := dV_sub ar1
    refine lv_goto (tgt := 13) hx hb dX4_size_9 (by decide) ?_
    have hP9 := hP
    have hD9 := hD
    refine W.endD hr1 ?_
    exact W.dret (v := r1) hx hb hr (fun t ht hW => ⟨⟨r1, (), rfl, er1.trans (if_pos c1).symm, by rw [ht]; exact hP9, hD9⟩, hS.F ht⟩) hS.2.2 dX4_size_13

set_option maxHeartbeats 4000000 in
set_option maxRecDepth 100000 in
/-- isStep -/
theorem m_X4_isStep (l : Launch) (G : va_G) (q : Nat → ClassId) (sz : Nat) (kd th : Int32)  : Met l yX4_isStep wsX4_isStep ({ frames := 1, cells := 0, slots := 0, locals := 22 } : Jvm.Room) (PreW G q [.int kd, .int th] [] sz) (va_Qi (fun (r : Int32) (_ : Unit) => r = if kd = 3 then (if 500 ≤ th ∧ th ≤ 1000 then 1 else 0) else (if 1 ≤ th ∧ th ≤ 2000 then 1 else 0)) (fun (_ : Unit) t => EndA G (va_A [] sz) [] t) (va_A [] sz)) 0 0 (va_A [] sz) := by
  refine Met.ofW (cc := cX4_isStep) (maxL := 2) (ret := (some .boolean)) (by decide +kernel) rfl ?_
  intro p e s m args below meth c s₁ B hml hv
  obtain ⟨rfl, hsz, hP, hK, hD0, hNF⟩ := hv
  have hx := B.exec
  have hb := B.bytes
  have hr := B.returns
  have hts := atoms_spec (ws := wsX4_isStep) B.pre
  have hown : s.vm.findClass RX4 = some m.cls := findClass_of_methodNamed B.named
  have hlocks := B.notSynchronized
  subst hsz
  have hD := hD0.self (sz := s.heap.size)
  generalize hAe : va_A [] s.heap.size = A at hD ⊢
  have hA : ∀ q : Nat, s.heap.size ≤ q → A q := fun q h => by rw [← hAe]; exact Or.inr h
  have hS : va_S A s.heap s.heap [] := va_S.rf
  have hP : va_P G vwCl [] s.heap := hP
  have hl := lv_entry ([.int kd, .int th]) (n := 2) (Nat.le_of_ble_eq_true rfl)
  rw [lg_entry_eq]
  generalize (lg_sl ([.int kd, .int th]) ++ List.replicate (2 - (lg_sl ([.int kd, .int th])).length) Slot.unset).toArray = ls at hl ⊢
  have hl : lv_has ls 2 [(0, .int kd), (1, .int th)] := hl
  refine lv_iload_n hx hb dX4_isStep_0 rfl (lv_at hl 0 rfl) ?_
  refine lv_iconst (v := 3) hx hb dX4_isStep_1 (by decide) ?_
  refine lv_icmp_ne (tgt := 18) hx hb dX4_isStep_2 (by decide) (fun c1 => ?_) (fun c1 => ?_)
  · skip
    refine lv_iload_n hx hb dX4_isStep_18 rfl (lv_at hl 1 rfl) ?_
    refine lv_iconst (v := 1) hx hb dX4_isStep_19 (by decide) ?_
    refine lv_sipush (v := 2000) hx hb dX4_isStep_20 (by decide) ?_
    have hPc := hP.sub (ws' := []) [] rfl
    have hDc := hD.sub (ws' := []) [] (by decide) rfl
    have hFc := va_free (wc := []) hD hS hA [] rfl
    refine va_calli (va_runS (As := [.int th, .int 1, .int 2000]) (rest := []) ⟨hx, hb, hml, hown, hts⟩ (m_X4_in l G q s.heap.size th 1 2000) (va_cwS 3 hts gX4_isStep_X4_in rfl rfl rfl (by decide +kernel) ⟨Nat.le_of_ble_eq_true rfl, Nat.le_of_ble_eq_true rfl⟩) ⟨preW_blind, preW_start hPc hK hDc hNF⟩ rfl rfl hl.1 rfl (lv_room (Nat.le_of_ble_eq_true rfl)) dX4_isStep_23 ⟨(Nat.zero_le _), (Nat.zero_le _)⟩) hS (fun q _ h => hFc q h) hFc (fun ri u9 t9 H1 locs ht9 hv9 hw hB9 hz9 hk9 hS => ?_)
    obtain ⟨⟩ := u9
    obtain ⟨hP1, hD1⟩ := hB9
    rw [ht9] at hP1
    obtain ⟨hP, hD⟩ := va_join (wr := []) (w1 := []) hP hD [] [] rfl rfl (by decide) (by decide) hk9 hFc hP1 hD1
    generalize H1 = H at hP hS ⊢
    have hP : va_P G vwCl [] H := hP
    have hD : va_D A [] := hD
    have hP9 := hP
    have hD9 := hD
    exact W.zret (v := ri) hx hb hr (nar_b hw) (fun t ht hW => ⟨⟨ri, (), rfl, hw.trans (if_neg c1).symm, by rw [ht]; exact hP9, hD9⟩, hS.F ht⟩) hS.2.2 dX4_isStep_26
  · skip
    refine lv_iload_n hx hb dX4_isStep_5 rfl (lv_at hl 1 rfl) ?_
    refine lv_sipush (v := 500) hx hb dX4_isStep_6 (by decide) ?_
    refine lv_sipush (v := 1000) hx hb dX4_isStep_9 (by decide) ?_
    have hPc := hP.sub (ws' := []) [] rfl
    have hDc := hD.sub (ws' := []) [] (by decide) rfl
    have hFc := va_free (wc := []) hD hS hA [] rfl
    refine va_calli (va_runS (As := [.int th, .int 500, .int 1000]) (rest := []) ⟨hx, hb, hml, hown, hts⟩ (m_X4_in l G q s.heap.size th 500 1000) (va_cwS 3 hts gX4_isStep_X4_in rfl rfl rfl (by decide +kernel) ⟨Nat.le_of_ble_eq_true rfl, Nat.le_of_ble_eq_true rfl⟩) ⟨preW_blind, preW_start hPc hK hDc hNF⟩ rfl rfl hl.1 rfl (lv_room (Nat.le_of_ble_eq_true rfl)) dX4_isStep_12 ⟨(Nat.zero_le _), (Nat.zero_le _)⟩) hS (fun q _ h => hFc q h) hFc (fun ri u9 t9 H1 locs ht9 hv9 hw hB9 hz9 hk9 hS => ?_)
    obtain ⟨⟩ := u9
    obtain ⟨hP1, hD1⟩ := hB9
    rw [ht9] at hP1
    obtain ⟨hP, hD⟩ := va_join (wr := []) (w1 := []) hP hD [] [] rfl rfl (by decide) (by decide) hk9 hFc hP1 hD1
    generalize H1 = H at hP hS ⊢
    have hP : va_P G vwCl [] H := hP
    have hD : va_D A [] := hD
    refine lv_goto (tgt := 26) hx hb dX4_isStep_15 (by decide) ?_
    have hP9 := hP
    have hD9 := hD
    exact W.zret (v := ri) hx hb hr (nar_b hw) (fun t ht hW => ⟨⟨ri, (), rfl, hw.trans (if_pos c1).symm, by rw [ht]; exact hP9, hD9⟩, hS.F ht⟩) hS.2.2 dX4_isStep_26

theorem in_X4_reset_X4 : ∀ w ∈ wsX40, w ∈ wsX4_reset := by decide +kernel
set_option maxHeartbeats 4000000 in
set_option maxRecDepth 100000 in
/-- reset -/
theorem m_X4_reset (l : Launch) (G : va_G) (q : Nat → ClassId) (sz : Nat) (om : Nat) (am : Nat → Nat) (th sa fi : Int32) (mi : UInt64) (fx : Nat) (Sq : Nat → UInt64) (hfx : fx < 6) : Met l yX4_reset wsX4_reset ({ frames := 0, cells := 0, slots := 0, locals := 0 } : Jvm.Room) (PreW G q [.ref om, .int (nI fx)] [(om, .inr (4, [.int th, .int sa, .ref (am 0), .ref (am 1), .double mi, .ref (am 2), .ref (am 3), .ref (am 4), .int fi, .ref (am 5), .ref (am 6), .ref (am 7), .ref (am 8), .ref (am 9), .ref (am 10), .ref (am 11), .ref (am 12), .ref (am 13), .ref (am 14), .ref (am 15), .ref (am 16), .ref (am 17), .ref (am 18), .ref (am 19)])), ((am 18), aD q 96 Sq)] sz) (va_Qv (fun (F : Nat → UInt64) => (∀ a c, a < 4 → c < 4 → F (16 * fx + 4 * a + c) = if a = c then H100 else 0) ∧ ∀ i, (i < 16 * fx ∨ 16 * fx + 16 ≤ i) → F i = Sq i) (fun (F : Nat → UInt64) t => EndA G (va_A [(om, .inr (4, [.int th, .int sa, .ref (am 0), .ref (am 1), .double mi, .ref (am 2), .ref (am 3), .ref (am 4), .int fi, .ref (am 5), .ref (am 6), .ref (am 7), .ref (am 8), .ref (am 9), .ref (am 10), .ref (am 11), .ref (am 12), .ref (am 13), .ref (am 14), .ref (am 15), .ref (am 16), .ref (am 17), .ref (am 18), .ref (am 19)])), ((am 18), aD q 96 Sq)] sz) [(om, .inr (4, [.int th, .int sa, .ref (am 0), .ref (am 1), .double mi, .ref (am 2), .ref (am 3), .ref (am 4), .int fi, .ref (am 5), .ref (am 6), .ref (am 7), .ref (am 8), .ref (am 9), .ref (am 10), .ref (am 11), .ref (am 12), .ref (am 13), .ref (am 14), .ref (am 15), .ref (am 16), .ref (am 17), .ref (am 18), .ref (am 19)])), ((am 18), aD q 96 F)] t) (va_A [(om, .inr (4, [.int th, .int sa, .ref (am 0), .ref (am 1), .double mi, .ref (am 2), .ref (am 3), .ref (am 4), .int fi, .ref (am 5), .ref (am 6), .ref (am 7), .ref (am 8), .ref (am 9), .ref (am 10), .ref (am 11), .ref (am 12), .ref (am 13), .ref (am 14), .ref (am 15), .ref (am 16), .ref (am 17), .ref (am 18), .ref (am 19)])), ((am 18), aD q 96 Sq)] sz)) 0 0 (va_A [(om, .inr (4, [.int th, .int sa, .ref (am 0), .ref (am 1), .double mi, .ref (am 2), .ref (am 3), .ref (am 4), .int fi, .ref (am 5), .ref (am 6), .ref (am 7), .ref (am 8), .ref (am 9), .ref (am 10), .ref (am 11), .ref (am 12), .ref (am 13), .ref (am 14), .ref (am 15), .ref (am 16), .ref (am 17), .ref (am 18), .ref (am 19)])), ((am 18), aD q 96 Sq)] sz) := by
  refine Met.ofW (cc := cX4_reset) (maxL := 4) (ret := none) (by decide +kernel) rfl ?_
  intro p e s m args below meth c s₁ B hml hv
  obtain ⟨rfl, hsz, hP, hK, hD0, hNF⟩ := hv
  have hx := B.exec
  have hb := B.bytes
  have hr := B.returns
  have hts := atoms_spec (ws := wsX4_reset) B.pre
  have hown : s.vm.findClass RX4 = some m.cls := findClass_of_methodNamed B.named
  have hlocks := B.notSynchronized
  subst hsz
  have hD := hD0.self (sz := s.heap.size)
  generalize hAe : va_A [(om, .inr (4, [.int th, .int sa, .ref (am 0), .ref (am 1), .double mi, .ref (am 2), .ref (am 3), .ref (am 4), .int fi, .ref (am 5), .ref (am 6), .ref (am 7), .ref (am 8), .ref (am 9), .ref (am 10), .ref (am 11), .ref (am 12), .ref (am 13), .ref (am 14), .ref (am 15), .ref (am 16), .ref (am 17), .ref (am 18), .ref (am 19)])), ((am 18), aD q 96 Sq)] s.heap.size = A at hD ⊢
  have hA : ∀ q : Nat, s.heap.size ≤ q → A q := fun q h => by rw [← hAe]; exact Or.inr h
  have hS : va_S A s.heap s.heap [] := va_S.rf
  have hP : va_P G vwCl [(om, .inr (4, [.int th, .int sa, .ref (am 0), .ref (am 1), .double mi, .ref (am 2), .ref (am 3), .ref (am 4), .int fi, .ref (am 5), .ref (am 6), .ref (am 7), .ref (am 8), .ref (am 9), .ref (am 10), .ref (am 11), .ref (am 12), .ref (am 13), .ref (am 14), .ref (am 15), .ref (am 16), .ref (am 17), .ref (am 18), .ref (am 19)])), ((am 18), aD q 96 Sq)] s.heap := hP
  have hl := lv_entry ([.ref om, .int (nI fx)]) (n := 4) (Nat.le_of_ble_eq_true rfl)
  rw [lg_entry_eq]
  generalize (lg_sl ([.ref om, .int (nI fx)]) ++ List.replicate (4 - (lg_sl ([.ref om, .int (nI fx)])).length) Slot.unset).toArray = ls at hl ⊢
  have hl : lv_has ls 4 [(0, .ref om), (1, .int (nI fx))] := hl
  have LOOP : ∀ (k : Nat) (i : Nat) (F : Nat → UInt64), i + k = 4 → (∀ a c, a < i → c < 4 → F (16 * fx + 4 * a + c) = if a = c then H100 else 0) → (∀ i, (i < 16 * fx ∨ 16 * fx + 16 ≤ i) → F i = Sq i) → ∀ (H : Heap) (locs : List Loc), va_P G vwCl [(om, .inr (4, [.int th, .int sa, .ref (am 0), .ref (am 1), .double mi, .ref (am 2), .ref (am 3), .ref (am 4), .int fi, .ref (am 5), .ref (am 6), .ref (am 7), .ref (am 8), .ref (am 9), .ref (am 10), .ref (am 11), .ref (am 12), .ref (am 13), .ref (am 14), .ref (am 15), .ref (am 16), .ref (am 17), .ref (am 18), .ref (am 19)])), ((am 18), aD q 96 F)] H → va_D A [(om, .inr (4, [.int th, .int sa, .ref (am 0), .ref (am 1), .double mi, .ref (am 2), .ref (am 3), .ref (am 4), .int fi, .ref (am 5), .ref (am 6), .ref (am 7), .ref (am 8), .ref (am 9), .ref (am 10), .ref (am 11), .ref (am 12), .ref (am 13), .ref (am 14), .ref (am 15), .ref (am 16), .ref (am 17), .ref (am 18), .ref (am 19)])), ((am 18), aD q 96 F)] → va_S A s.heap H locs → ∀ (ls : Array Slot), lv_has ls 4 [(0, .ref om), (1, .int (nI fx)), (2, .int (nI i))] → W p l e (headSpec wsX4_reset ({ frames := 0, cells := 0, slots := 0, locals := 0 } : Jvm.Room)).room s m #[.ref om, .int (nI fx)] below meth c H locs 0 0 (MQ below (va_Qv (fun (F : Nat → UInt64) => (∀ a c, a < 4 → c < 4 → F (16 * fx + 4 * a + c) = if a = c then H100 else 0) ∧ ∀ i, (i < 16 * fx ∨ 16 * fx + 16 ≤ i) → F i = Sq i) (fun (F : Nat → UInt64) t => EndA G A [(om, .inr (4, [.int th, .int sa, .ref (am 0), .ref (am 1), .double mi, .ref (am 2), .ref (am 3), .ref (am 4), .int fi, .ref (am 5), .ref (am 6), .ref (am 7), .ref (am 8), .ref (am 9), .ref (am 10), .ref (am 11), .ref (am 12), .ref (am 13), .ref (am 14), .ref (am 15), .ref (am 16), .ref (am 17), .ref (am 18), .ref (am 19)])), ((am 18), aD q 96 F)] t) A) #[.ref om, .int (nI fx)] s 0 0 A) (F0 m 2 ls []) := by
    intro k
    induction k with
    | zero =>
      intro i F hi h1 h0 H locs hP hD hS ls hl
      refine lv_iload_n hx hb dX4_reset_2 rfl (lv_at hl 2 rfl) ?_
      refine lv_iconst (v := 4) hx hb dX4_reset_3 (by decide) ?_
      refine lv_icmp_ge (tgt := 53) hx hb dX4_reset_4 (by decide) (fun _ => ?_) (fun h => absurd (nI_le (a := 4) (by omega) (by omega)) h)
      have hP9 := hP
      have hD9 := hD
      exact W.vret hx hb hr (fun t ht hW => ⟨⟨F, rfl, ⟨fun a c ha hc => h1 a c (by omega) hc, h0⟩, by rw [ht]; exact hP9, hD9⟩, hS.F ht⟩) hS.2.2 dX4_reset_53
    | succ k ih =>
      intro i F hi h1 h0 H locs hP hD hS ls hl
      refine lv_iload_n hx hb dX4_reset_2 rfl (lv_at hl 2 rfl) ?_
      refine lv_iconst (v := 4) hx hb dX4_reset_3 (by decide) ?_
      refine lv_icmp_ge (tgt := 53) hx hb dX4_reset_4 (by decide) (fun h => absurd h (nI_ge (b := 4) (by omega) (by omega))) (fun _ => ?_)
      refine lv_iconst (v := 0) hx hb dX4_reset_7 (by decide) ?_
      refine lv_istore_n (lv' := [(3, .int 0), (0, .ref om), (1, .int (nI fx)), (2, .int (nI i))]) hx hb dX4_reset_8 rfl hl (by decide) rfl (fun ls hl => ?_)
      have LOOP2 : ∀ (k2 : Nat) (j : Nat) (F2 : Nat → UInt64), j + k2 = 4 → (∀ a c, ((a < i ∧ c < 4) ∨ (a = i ∧ c < j)) → F2 (16 * fx + 4 * a + c) = if a = c then H100 else 0) → (∀ i, (i < 16 * fx ∨ 16 * fx + 16 ≤ i) → F2 i = Sq i) → ∀ (H : Heap) (locs : List Loc), va_P G vwCl [(om, .inr (4, [.int th, .int sa, .ref (am 0), .ref (am 1), .double mi, .ref (am 2), .ref (am 3), .ref (am 4), .int fi, .ref (am 5), .ref (am 6), .ref (am 7), .ref (am 8), .ref (am 9), .ref (am 10), .ref (am 11), .ref (am 12), .ref (am 13), .ref (am 14), .ref (am 15), .ref (am 16), .ref (am 17), .ref (am 18), .ref (am 19)])), ((am 18), aD q 96 F2)] H → va_D A [(om, .inr (4, [.int th, .int sa, .ref (am 0), .ref (am 1), .double mi, .ref (am 2), .ref (am 3), .ref (am 4), .int fi, .ref (am 5), .ref (am 6), .ref (am 7), .ref (am 8), .ref (am 9), .ref (am 10), .ref (am 11), .ref (am 12), .ref (am 13), .ref (am 14), .ref (am 15), .ref (am 16), .ref (am 17), .ref (am 18), .ref (am 19)])), ((am 18), aD q 96 F2)] → va_S A s.heap H locs → ∀ (ls : Array Slot), lv_has ls 4 [(0, .ref om), (1, .int (nI fx)), (2, .int (nI i)), (3, .int (nI j))] → W p l e (headSpec wsX4_reset ({ frames := 0, cells := 0, slots := 0, locals := 0 } : Jvm.Room)).room s m #[.ref om, .int (nI fx)] below meth c H locs 0 0 (MQ below (va_Qv (fun (F : Nat → UInt64) => (∀ a c, a < 4 → c < 4 → F (16 * fx + 4 * a + c) = if a = c then H100 else 0) ∧ ∀ i, (i < 16 * fx ∨ 16 * fx + 16 ≤ i) → F i = Sq i) (fun (F : Nat → UInt64) t => EndA G A [(om, .inr (4, [.int th, .int sa, .ref (am 0), .ref (am 1), .double mi, .ref (am 2), .ref (am 3), .ref (am 4), .int fi, .ref (am 5), .ref (am 6), .ref (am 7), .ref (am 8), .ref (am 9), .ref (am 10), .ref (am 11), .ref (am 12), .ref (am 13), .ref (am 14), .ref (am 15), .ref (am 16), .ref (am 17), .ref (am 18), .ref (am 19)])), ((am 18), aD q 96 F)] t) A) #[.ref om, .int (nI fx)] s 0 0 A) (F0 m 9 ls []) := by
        intro k2
        induction k2 with
        | zero =>
          intro j F2 hj h2 h3 H locs hP hD hS ls hl
          refine lv_iload_n hx hb dX4_reset_9 rfl (lv_at hl 3 rfl) ?_
          refine lv_iconst (v := 4) hx hb dX4_reset_10 (by decide) ?_
          refine lv_icmp_ge (tgt := 47) hx hb dX4_reset_11 (by decide) (fun _ => ?_) (fun h => absurd (nI_le (a := 4) (by omega) (by omega)) h)
          refine lv_iinc (v := nI (i + 1)) (lv' := [(2, .int (nI (i + 1))), (0, .ref om), (1, .int (nI fx)), (3, .int (nI j))]) hx hb dX4_reset_47 hl (k := 2) rfl (nI_succ _).symm (by decide) rfl (fun ls hl => ?_)
          refine lv_goto (tgt := 2) hx hb dX4_reset_50 (by decide) ?_
          exact ih (i + 1) F2 (by omega) (fun a c ha hc => h2 a c (by omega)) h3 _ _ (hP.sub [0, 1] rfl) (hD.sub [0, 1] (by decide) rfl) hS ls (lv_sub hl [1, 2, 0] rfl)
        | succ k2 ih2 =>
          intro j F2 hj h2 h3 H locs hP hD hS ls hl
          refine lv_iload_n hx hb dX4_reset_9 rfl (lv_at hl 3 rfl) ?_
          refine lv_iconst (v := 4) hx hb dX4_reset_10 (by decide) ?_
          refine lv_icmp_ge (tgt := 47) hx hb dX4_reset_11 (by decide) (fun h => absurd h (nI_ge (b := 4) (by omega) (by omega))) (fun _ => ?_)
          refine lv_aload_n hx hb dX4_reset_14 rfl (lv_at hl 0 rfl) ?_
          refine va_get (D := G) (ci := 4) (v := .ref (am 18)) (C := RX4) (T := TX4) (N := 24) hx hb hts in_X4_reset_X4 hown hK hP 0 rfl rfl 22 (by decide) (hts (.fieldLink RX4 65 "EchoBenchModel" "square" "[D") (by decide +kernel)) (fun _ h9 => h9) rfl dX4_reset_15 ?_
          refine lv_bipush (v := 16) hx hb dX4_reset_18 (by decide) ?_
          refine lv_iload_n hx hb dX4_reset_20 rfl (lv_at hl 1 rfl) ?_
          refine lv_imul hx hb dX4_reset_21 ?_
          refine lv_topi (fun x5 ex5 => ?_)
          obtain rfl : x5 = (nI (16 * fx)) := ex5.trans (nI_mul 16 fx)
          refine lv_iconst (v := 4) hx hb dX4_reset_22 (by decide) ?_
          refine lv_iload_n hx hb dX4_reset_23 rfl (lv_at hl 2 rfl) ?_
          refine lv_imul hx hb dX4_reset_24 ?_
          refine lv_topi (fun x6 ex6 => ?_)
          obtain rfl : x6 = (nI (4 * i)) := ex6.trans (nI_mul 4 i)
          refine lv_iadd hx hb dX4_reset_25 ?_
          refine lv_topi (fun x7 ex7 => ?_)
          obtain rfl : x7 = (nI (16 * fx + (4 * i))) := ex7.trans (nI_add (16 * fx) (4 * i))
          refine lv_iload_n hx hb dX4_reset_26 rfl (lv_at hl 3 rfl) ?_
          refine lv_iadd hx hb dX4_reset_27 ?_
          refine lv_topi (fun x8 ex8 => ?_)
          obtain rfl : x8 = (nI (16 * fx + (4 * i) + j)) := ex8.trans (nI_add (16 * fx + (4 * i)) j)
          refine lv_iload_n hx hb dX4_reset_28 rfl (lv_at hl 2 rfl) ?_
          refine lv_iload_n hx hb dX4_reset_29 rfl (lv_at hl 3 rfl) ?_
          by_cases eij : i = j
          · skip
            refine lv_icmp_ne (tgt := 39) hx hb dX4_reset_30 (by decide) (fun h => absurd (by rw [eij]) h) (fun _ => ?_)
            refine lv_ldc2d hx hb hown (hts (.constantDouble RX4 97 4636737291354636288) (by decide +kernel)) dX4_reset_33 ?_
            refine lv_goto (tgt := 40) hx hb dX4_reset_36 (by decide) ?_
            refine va_dastJ hx hb hK hP hD hS 1 1 rfl rfl (j := (16 * fx + 4 * i + j)) rfl (by omega) (by decide) dX4_reset_40 (fun H locs hP hD hS => ?_)
            have hP : va_P G vwCl [(om, .inr (4, [.int th, .int sa, .ref (am 0), .ref (am 1), .double mi, .ref (am 2), .ref (am 3), .ref (am 4), .int fi, .ref (am 5), .ref (am 6), .ref (am 7), .ref (am 8), .ref (am 9), .ref (am 10), .ref (am 11), .ref (am 12), .ref (am 13), .ref (am 14), .ref (am 15), .ref (am 16), .ref (am 17), .ref (am 18), .ref (am 19)])), ((am 18), aD q 96 (vf_upd F2 (16 * fx + 4 * i + j) H100))] H := hP
            have hD : va_D A [(om, .inr (4, [.int th, .int sa, .ref (am 0), .ref (am 1), .double mi, .ref (am 2), .ref (am 3), .ref (am 4), .int fi, .ref (am 5), .ref (am 6), .ref (am 7), .ref (am 8), .ref (am 9), .ref (am 10), .ref (am 11), .ref (am 12), .ref (am 13), .ref (am 14), .ref (am 15), .ref (am 16), .ref (am 17), .ref (am 18), .ref (am 19)])), ((am 18), aD q 96 (vf_upd F2 (16 * fx + 4 * i + j) H100))] := hD
            refine lv_iinc (v := nI (j + 1)) (lv' := [(3, .int (nI (j + 1))), (0, .ref om), (1, .int (nI fx)), (2, .int (nI i))]) hx hb dX4_reset_41 hl (k := 3) rfl (nI_succ _).symm (by decide) rfl (fun ls hl => ?_)
            refine lv_goto (tgt := 9) hx hb dX4_reset_44 (by decide) ?_
            exact ih2 (j + 1) (vf_upd F2 (16 * fx + 4 * i + j) H100) (by omega) (rs_step (by omega) (if_pos eij).symm h2) (rs_out (by omega) h3) _ _ (hP.sub [0, 1] rfl) (hD.sub [0, 1] (by decide) rfl) hS ls (lv_sub hl [1, 2, 3, 0] rfl)
          · skip
            refine lv_icmp_ne (tgt := 39) hx hb dX4_reset_30 (by decide) (fun _ => ?_) (fun h => absurd h (fun h => eij (nI_inj (by omega) (by omega) h)))
            refine lv_dc0 hx hb dX4_reset_39 ?_
            refine va_dastJ hx hb hK hP hD hS 1 1 rfl rfl (j := (16 * fx + 4 * i + j)) rfl (by omega) (by decide) dX4_reset_40 (fun H locs hP hD hS => ?_)
            have hP : va_P G vwCl [(om, .inr (4, [.int th, .int sa, .ref (am 0), .ref (am 1), .double mi, .ref (am 2), .ref (am 3), .ref (am 4), .int fi, .ref (am 5), .ref (am 6), .ref (am 7), .ref (am 8), .ref (am 9), .ref (am 10), .ref (am 11), .ref (am 12), .ref (am 13), .ref (am 14), .ref (am 15), .ref (am 16), .ref (am 17), .ref (am 18), .ref (am 19)])), ((am 18), aD q 96 (vf_upd F2 (16 * fx + 4 * i + j) 0))] H := hP
            have hD : va_D A [(om, .inr (4, [.int th, .int sa, .ref (am 0), .ref (am 1), .double mi, .ref (am 2), .ref (am 3), .ref (am 4), .int fi, .ref (am 5), .ref (am 6), .ref (am 7), .ref (am 8), .ref (am 9), .ref (am 10), .ref (am 11), .ref (am 12), .ref (am 13), .ref (am 14), .ref (am 15), .ref (am 16), .ref (am 17), .ref (am 18), .ref (am 19)])), ((am 18), aD q 96 (vf_upd F2 (16 * fx + 4 * i + j) 0))] := hD
            refine lv_iinc (v := nI (j + 1)) (lv' := [(3, .int (nI (j + 1))), (0, .ref om), (1, .int (nI fx)), (2, .int (nI i))]) hx hb dX4_reset_41 hl (k := 3) rfl (nI_succ _).symm (by decide) rfl (fun ls hl => ?_)
            refine lv_goto (tgt := 9) hx hb dX4_reset_44 (by decide) ?_
            exact ih2 (j + 1) (vf_upd F2 (16 * fx + 4 * i + j) 0) (by omega) (rs_step (by omega) (if_neg eij).symm h2) (rs_out (by omega) h3) _ _ (hP.sub [0, 1] rfl) (hD.sub [0, 1] (by decide) rfl) hS ls (lv_sub hl [1, 2, 3, 0] rfl)
      exact LOOP2 4 0 F (by omega) (fun a c hac => h1 a c (by omega) (by omega)) h0 _ _ (hP.sub [0, 1] rfl) (hD.sub [0, 1] (by decide) rfl) hS ls (lv_sub hl [1, 2, 3, 0] rfl)
  refine lv_iconst (v := 0) hx hb dX4_reset_0 (by decide) ?_
  refine lv_istore_n (lv' := [(2, .int 0), (0, .ref om), (1, .int (nI fx))]) hx hb dX4_reset_1 rfl hl (by decide) rfl (fun ls hl => ?_)
  exact LOOP 4 0 Sq (by omega) (fun a c ha hc => absurd ha (by omega)) (fun _ _ => rfl) _ _ (hP.sub [0, 1] rfl) (hD.sub [0, 1] (by decide) rfl) hS ls (lv_sub hl [1, 2, 0] rfl)

theorem in_X4_learn_X4 : ∀ w ∈ wsX40, w ∈ wsX4_learn := by decide +kernel
set_option maxHeartbeats 4000000 in
set_option maxRecDepth 100000 in
/-- learn -/
theorem m_X4_learn (l : Launch) (G : va_G) (q : Nat → ClassId) (sz : Nat) (om : Nat) (am : Nat → Nat) (th sa fi : Int32) (mi : UInt64) (fx j : Nat) (le : UInt64) (Wt : Nat → UInt64) (hfx : fx < 6) (hj : j < 8) : MetD lw_cs l yX4_learn wsX4_learn ({ frames := 0, cells := 0, slots := 0, locals := 0 } : Jvm.Room) (PreW G q [.ref om, .int (nI fx), .int (nI j), .double le] [(om, .inr (4, [.int th, .int sa, .ref (am 0), .ref (am 1), .double mi, .ref (am 2), .ref (am 3), .ref (am 4), .int fi, .ref (am 5), .ref (am 6), .ref (am 7), .ref (am 8), .ref (am 9), .ref (am 10), .ref (am 11), .ref (am 12), .ref (am 13), .ref (am 14), .ref (am 15), .ref (am 16), .ref (am 17), .ref (am 18), .ref (am 19)])), ((am 14), aD q 48 Wt)] sz) (va_Qv (fun (v : UInt64) => dV v = sUp (dV (Wt (8 * fx + j))) (dV le)) (fun (v : UInt64) t => EndA G (va_A [(om, .inr (4, [.int th, .int sa, .ref (am 0), .ref (am 1), .double mi, .ref (am 2), .ref (am 3), .ref (am 4), .int fi, .ref (am 5), .ref (am 6), .ref (am 7), .ref (am 8), .ref (am 9), .ref (am 10), .ref (am 11), .ref (am 12), .ref (am 13), .ref (am 14), .ref (am 15), .ref (am 16), .ref (am 17), .ref (am 18), .ref (am 19)])), ((am 14), aD q 48 Wt)] sz) [(om, .inr (4, [.int th, .int sa, .ref (am 0), .ref (am 1), .double mi, .ref (am 2), .ref (am 3), .ref (am 4), .int fi, .ref (am 5), .ref (am 6), .ref (am 7), .ref (am 8), .ref (am 9), .ref (am 10), .ref (am 11), .ref (am 12), .ref (am 13), .ref (am 14), .ref (am 15), .ref (am 16), .ref (am 17), .ref (am 18), .ref (am 19)])), ((am 14), aD q 48 (vf_upd Wt (8 * fx + j) v))] t) (va_A [(om, .inr (4, [.int th, .int sa, .ref (am 0), .ref (am 1), .double mi, .ref (am 2), .ref (am 3), .ref (am 4), .int fi, .ref (am 5), .ref (am 6), .ref (am 7), .ref (am 8), .ref (am 9), .ref (am 10), .ref (am 11), .ref (am 12), .ref (am 13), .ref (am 14), .ref (am 15), .ref (am 16), .ref (am 17), .ref (am 18), .ref (am 19)])), ((am 14), aD q 48 Wt)] sz)) 0 0 (va_A [(om, .inr (4, [.int th, .int sa, .ref (am 0), .ref (am 1), .double mi, .ref (am 2), .ref (am 3), .ref (am 4), .int fi, .ref (am 5), .ref (am 6), .ref (am 7), .ref (am 8), .ref (am 9), .ref (am 10), .ref (am 11), .ref (am 12), .ref (am 13), .ref (am 14), .ref (am 15), .ref (am 16), .ref (am 17), .ref (am 18), .ref (am 19)])), ((am 14), aD q 48 Wt)] sz) := by
  refine MetD.ofW (cc := cX4_learn) (maxL := 7) (ret := none) (by decide +kernel) rfl ?_
  intro p e s m args below meth c s₁ B hml hv hd0
  obtain ⟨rfl, hsz, hP, hK, hD0, hNF⟩ := hv
  have hx := B.exec
  have hb := B.bytes
  have hr := B.returns
  have hts := atoms_spec (ws := wsX4_learn) B.pre
  have hown : s.vm.findClass RX4 = some m.cls := findClass_of_methodNamed B.named
  have hlocks := B.notSynchronized
  subst hsz
  have hD := hD0.self (sz := s.heap.size)
  generalize hAe : va_A [(om, .inr (4, [.int th, .int sa, .ref (am 0), .ref (am 1), .double mi, .ref (am 2), .ref (am 3), .ref (am 4), .int fi, .ref (am 5), .ref (am 6), .ref (am 7), .ref (am 8), .ref (am 9), .ref (am 10), .ref (am 11), .ref (am 12), .ref (am 13), .ref (am 14), .ref (am 15), .ref (am 16), .ref (am 17), .ref (am 18), .ref (am 19)])), ((am 14), aD q 48 Wt)] s.heap.size = A at hD ⊢
  have hA : ∀ q : Nat, s.heap.size ≤ q → A q := fun q h => by rw [← hAe]; exact Or.inr h
  have hS : va_S A s.heap s.heap [] := va_S.rf
  have hP : va_P G vwCl [(om, .inr (4, [.int th, .int sa, .ref (am 0), .ref (am 1), .double mi, .ref (am 2), .ref (am 3), .ref (am 4), .int fi, .ref (am 5), .ref (am 6), .ref (am 7), .ref (am 8), .ref (am 9), .ref (am 10), .ref (am 11), .ref (am 12), .ref (am 13), .ref (am 14), .ref (am 15), .ref (am 16), .ref (am 17), .ref (am 18), .ref (am 19)])), ((am 14), aD q 48 Wt)] s.heap := hP
  have hl := lv_entry ([.ref om, .int (nI fx), .int (nI j), .double le]) (n := 7) (Nat.le_of_ble_eq_true rfl)
  rw [lg_entry_eq]
  generalize (lg_sl ([.ref om, .int (nI fx), .int (nI j), .double le]) ++ List.replicate (7 - (lg_sl ([.ref om, .int (nI fx), .int (nI j), .double le])).length) Slot.unset).toArray = ls at hl ⊢
  have hl : lv_has ls 7 [(0, .ref om), (1, .int (nI fx)), (2, .int (nI j)), (3, .double le)] := hl
  refine lv_aload_n hx hb dX4_learn_0 rfl (lv_at hl 0 rfl) ?_
  refine va_get (D := G) (ci := 4) (v := .ref (am 14)) (C := RX4) (T := TX4) (N := 24) hx hb (dr_words hts s.drawn) in_X4_learn_X4 hown hK hP 0 rfl rfl 18 (by decide) (dr_words hts s.drawn (.fieldLink RX4 53 "EchoBenchModel" "weight" "[D") (by decide +kernel)) (fun _ h9 => h9) rfl dX4_learn_1 ?_
  refine lv_bipush (v := 8) hx hb dX4_learn_4 (by decide) ?_
  refine lv_iload_n hx hb dX4_learn_6 rfl (lv_at hl 1 rfl) ?_
  refine lv_imul hx hb dX4_learn_7 ?_
  refine lv_topi (fun x1 ex1 => ?_)
  obtain rfl : x1 = (nI (8 * fx)) := ex1.trans (nI_mul 8 fx)
  refine lv_iload_n hx hb dX4_learn_8 rfl (lv_at hl 2 rfl) ?_
  refine lv_iadd hx hb dX4_learn_9 ?_
  refine lv_topi (fun x2 ex2 => ?_)
  obtain rfl : x2 = (nI (8 * fx + j)) := ex2.trans (nI_add (8 * fx) j)
  refine va_daldJ (s := s.setDrawn s.drawn) hx hb hK hP 1 1 rfl rfl (j := (8 * fx + j)) rfl (by omega) (by decide) dX4_learn_10 ?_
  refine lv_dload_n hx hb dX4_learn_11 rfl (lv_at hl 3 rfl) ?_
  refine lv_dadd_any hd0 lw_bits hx hb dX4_learn_12 (fun r3 dr3 ar3 hr3 => ?_)
  have er3 := dV_add ar3
  refine lv_dstore (lv' := [(5, .double r3), (0, .ref om), (1, .int (nI fx)), (2, .int (nI j)), (3, .double le)]) hx hb dX4_learn_13 hl (by decide) rfl (fun ls hl => ?_)
  refine lv_aload_n hx hb dX4_learn_15 rfl (lv_at hl 1 rfl) ?_
  refine va_get (D := G) (ci := 4) (v := .ref (am 14)) (C := RX4) (T := TX4) (N := 24) hx hb (dr_words hts dr3) in_X4_learn_X4 hown hK hP 0 rfl rfl 18 (by decide) (dr_words hts dr3 (.fieldLink RX4 53 "EchoBenchModel" "weight" "[D") (by decide +kernel)) (fun _ h9 => h9) rfl dX4_learn_16 ?_
  refine lv_bipush (v := 8) hx hb dX4_learn_19 (by decide) ?_
  refine lv_iload_n hx hb dX4_learn_21 rfl (lv_at hl 2 rfl) ?_
  refine lv_imul hx hb dX4_learn_22 ?_
  refine lv_topi (fun x4 ex4 => ?_)
  obtain rfl : x4 = (nI (8 * fx)) := ex4.trans (nI_mul 8 fx)
  refine lv_iload_n hx hb dX4_learn_23 rfl (lv_at hl 3 rfl) ?_
  refine lv_iadd hx hb dX4_learn_24 ?_
  refine lv_topi (fun x5 ex5 => ?_)
  obtain rfl : x5 = (nI (8 * fx + j)) := ex5.trans (nI_add (8 * fx) j)
  refine lv_dload hx hb dX4_learn_25 (lv_at hl 0 rfl) ?_
  refine lv_ldc2d hx hb hown (dr_words hts dr3 (.constantDouble RX4 99 4741671816366391296) (by decide +kernel)) dX4_learn_27 ?_
  refine lv_dcmp hx hb dX4_learn_30 ?_
  refine lv_if_le (tgt := 40) hx hb dX4_learn_31 (by decide) (fun c1 => ?_) (fun c1 => ?_)
  · skip
    rw [cl_le, dcmp_fO] at c1
    refine lv_dload hx hb dX4_learn_40 (lv_at hl 0 rfl) ?_
    refine lv_ldc2d hx hb hown (dr_words hts dr3 (.constantDouble RX4 101 13965043853221167104) (by decide +kernel)) dX4_learn_42 ?_
    refine lv_dcmp hx hb dX4_learn_45 ?_
    refine lv_if_ge (tgt := 55) hx hb dX4_learn_46 (by decide) (fun c2 => ?_) (fun c2 => ?_)
    · skip
      rw [cg_ge, dcmp_fO, neg1e9] at c2
      refine lv_dload hx hb dX4_learn_55 (lv_at hl 0 rfl) ?_
      refine va_dastJ (s := s.setDrawn dr3) hx hb hK hP hD hS 1 1 rfl rfl (j := (8 * fx + j)) rfl (by omega) (by decide) dX4_learn_57 (fun H locs hP hD hS => ?_)
      have hP : va_P G vwCl [(om, .inr (4, [.int th, .int sa, .ref (am 0), .ref (am 1), .double mi, .ref (am 2), .ref (am 3), .ref (am 4), .int fi, .ref (am 5), .ref (am 6), .ref (am 7), .ref (am 8), .ref (am 9), .ref (am 10), .ref (am 11), .ref (am 12), .ref (am 13), .ref (am 14), .ref (am 15), .ref (am 16), .ref (am 17), .ref (am 18), .ref (am 19)])), ((am 14), aD q 48 (vf_upd Wt (8 * fx + j) r3))] H := hP
      have hD : va_D A [(om, .inr (4, [.int th, .int sa, .ref (am 0), .ref (am 1), .double mi, .ref (am 2), .ref (am 3), .ref (am 4), .int fi, .ref (am 5), .ref (am 6), .ref (am 7), .ref (am 8), .ref (am 9), .ref (am 10), .ref (am 11), .ref (am 12), .ref (am 13), .ref (am 14), .ref (am 15), .ref (am 16), .ref (am 17), .ref (am 18), .ref (am 19)])), ((am 14), aD q 48 (vf_upd Wt (8 * fx + j) r3))] := hD
      have hP9 := hP
      have hD9 := hD
      refine W.endD hr3 ?_
      exact W.vret hx hb hr (fun t ht hW => ⟨⟨r3, rfl, by dsimp only; unfold sUp; rw [← er3]; exact (fHold_mid c1 c2).symm, by rw [ht]; exact hP9, hD9⟩, hS.F ht⟩) hS.2.2 dX4_learn_58
    · skip
      rw [cg_ge, dcmp_fO, neg1e9, Classical.not_not] at c2
      refine lv_ldc2d hx hb hown (dr_words hts dr3 (.constantDouble RX4 101 13965043853221167104) (by decide +kernel)) dX4_learn_49 ?_
      refine lv_goto (tgt := 57) hx hb dX4_learn_52 (by decide) ?_
      refine va_dastJ (s := s.setDrawn dr3) hx hb hK hP hD hS 1 1 rfl rfl (j := (8 * fx + j)) rfl (by omega) (by decide) dX4_learn_57 (fun H locs hP hD hS => ?_)
      have hP : va_P G vwCl [(om, .inr (4, [.int th, .int sa, .ref (am 0), .ref (am 1), .double mi, .ref (am 2), .ref (am 3), .ref (am 4), .int fi, .ref (am 5), .ref (am 6), .ref (am 7), .ref (am 8), .ref (am 9), .ref (am 10), .ref (am 11), .ref (am 12), .ref (am 13), .ref (am 14), .ref (am 15), .ref (am 16), .ref (am 17), .ref (am 18), .ref (am 19)])), ((am 14), aD q 48 (vf_upd Wt (8 * fx + j) 13965043853221167104))] H := hP
      have hD : va_D A [(om, .inr (4, [.int th, .int sa, .ref (am 0), .ref (am 1), .double mi, .ref (am 2), .ref (am 3), .ref (am 4), .int fi, .ref (am 5), .ref (am 6), .ref (am 7), .ref (am 8), .ref (am 9), .ref (am 10), .ref (am 11), .ref (am 12), .ref (am 13), .ref (am 14), .ref (am 15), .ref (am 16), .ref (am 17), .ref (am 18), .ref (am 19)])), ((am 14), aD q 48 (vf_upd Wt (8 * fx + j) 13965043853221167104))] := hD
      have hP9 := hP
      have hD9 := hD
      refine W.endD hr3 ?_
      exact W.vret hx hb hr (fun t ht hW => ⟨⟨13965043853221167104, rfl, by dsimp only; unfold sUp; rw [← er3, neg1e9]; exact (fHold_lt c1 c2).symm, by rw [ht]; exact hP9, hD9⟩, hS.F ht⟩) hS.2.2 dX4_learn_58
  · skip
    rw [cl_le, dcmp_fO, Classical.not_not] at c1
    refine lv_ldc2d hx hb hown (dr_words hts dr3 (.constantDouble RX4 99 4741671816366391296) (by decide +kernel)) dX4_learn_34 ?_
    refine lv_goto (tgt := 57) hx hb dX4_learn_37 (by decide) ?_
    refine va_dastJ (s := s.setDrawn dr3) hx hb hK hP hD hS 1 1 rfl rfl (j := (8 * fx + j)) rfl (by omega) (by decide) dX4_learn_57 (fun H locs hP hD hS => ?_)
    have hP : va_P G vwCl [(om, .inr (4, [.int th, .int sa, .ref (am 0), .ref (am 1), .double mi, .ref (am 2), .ref (am 3), .ref (am 4), .int fi, .ref (am 5), .ref (am 6), .ref (am 7), .ref (am 8), .ref (am 9), .ref (am 10), .ref (am 11), .ref (am 12), .ref (am 13), .ref (am 14), .ref (am 15), .ref (am 16), .ref (am 17), .ref (am 18), .ref (am 19)])), ((am 14), aD q 48 (vf_upd Wt (8 * fx + j) 4741671816366391296))] H := hP
    have hD : va_D A [(om, .inr (4, [.int th, .int sa, .ref (am 0), .ref (am 1), .double mi, .ref (am 2), .ref (am 3), .ref (am 4), .int fi, .ref (am 5), .ref (am 6), .ref (am 7), .ref (am 8), .ref (am 9), .ref (am 10), .ref (am 11), .ref (am 12), .ref (am 13), .ref (am 14), .ref (am 15), .ref (am 16), .ref (am 17), .ref (am 18), .ref (am 19)])), ((am 14), aD q 48 (vf_upd Wt (8 * fx + j) 4741671816366391296))] := hD
    have hP9 := hP
    have hD9 := hD
    refine W.endD hr3 ?_
    exact W.vret hx hb hr (fun t ht hW => ⟨⟨4741671816366391296, rfl, by dsimp only; unfold sUp; rw [← er3]; exact (fHold_gt c1).symm, by rw [ht]; exact hP9, hD9⟩, hS.F ht⟩) hS.2.2 dX4_learn_58

theorem in_X4_isLoud_X4 : ∀ w ∈ wsX40, w ∈ wsX4_isLoud := by decide +kernel
set_option maxHeartbeats 4000000 in
set_option maxRecDepth 100000 in
/-- isLoud -/
theorem m_X4_isLoud (l : Launch) (G : va_G) (q : Nat → ClassId) (sz : Nat) (om : Nat) (am : Nat → Nat) (th sa fi : Int32) (mi : UInt64) (fx n : Nat) (xi : Nat → Int32) (Ti : Nat → Int32) (Wi : Nat → Int32) (hfx : fx < 6) (hn : n ≤ 8) (hT : Ti fx = nI n) : MetD lw_cs l yX4_isLoud wsX4_isLoud ({ frames := 1, cells := 0, slots := 0, locals := 21 } : Jvm.Room) (PreW G q [.ref om, .int (nI fx)] [(om, .inr (4, [.int th, .int sa, .ref (am 0), .ref (am 1), .double mi, .ref (am 2), .ref (am 3), .ref (am 4), .int fi, .ref (am 5), .ref (am 6), .ref (am 7), .ref (am 8), .ref (am 9), .ref (am 10), .ref (am 11), .ref (am 12), .ref (am 13), .ref (am 14), .ref (am 15), .ref (am 16), .ref (am 17), .ref (am 18), .ref (am 19)])), ((am 1), aI q 8 xi), ((am 6), aI q 6 Ti), ((am 8), aI q 6 Wi)] sz) (va_Qi (fun (r : Int32) (_ : Unit) => r = if sLoudM (Wi fx) n xi (dV mi) then 1 else 0) (fun (_ : Unit) t => EndA G (va_A [(om, .inr (4, [.int th, .int sa, .ref (am 0), .ref (am 1), .double mi, .ref (am 2), .ref (am 3), .ref (am 4), .int fi, .ref (am 5), .ref (am 6), .ref (am 7), .ref (am 8), .ref (am 9), .ref (am 10), .ref (am 11), .ref (am 12), .ref (am 13), .ref (am 14), .ref (am 15), .ref (am 16), .ref (am 17), .ref (am 18), .ref (am 19)])), ((am 1), aI q 8 xi), ((am 6), aI q 6 Ti), ((am 8), aI q 6 Wi)] sz) [(om, .inr (4, [.int th, .int sa, .ref (am 0), .ref (am 1), .double mi, .ref (am 2), .ref (am 3), .ref (am 4), .int fi, .ref (am 5), .ref (am 6), .ref (am 7), .ref (am 8), .ref (am 9), .ref (am 10), .ref (am 11), .ref (am 12), .ref (am 13), .ref (am 14), .ref (am 15), .ref (am 16), .ref (am 17), .ref (am 18), .ref (am 19)])), ((am 1), aI q 8 xi), ((am 6), aI q 6 Ti), ((am 8), aI q 6 Wi)] t) (va_A [(om, .inr (4, [.int th, .int sa, .ref (am 0), .ref (am 1), .double mi, .ref (am 2), .ref (am 3), .ref (am 4), .int fi, .ref (am 5), .ref (am 6), .ref (am 7), .ref (am 8), .ref (am 9), .ref (am 10), .ref (am 11), .ref (am 12), .ref (am 13), .ref (am 14), .ref (am 15), .ref (am 16), .ref (am 17), .ref (am 18), .ref (am 19)])), ((am 1), aI q 8 xi), ((am 6), aI q 6 Ti), ((am 8), aI q 6 Wi)] sz)) 0 0 (va_A [(om, .inr (4, [.int th, .int sa, .ref (am 0), .ref (am 1), .double mi, .ref (am 2), .ref (am 3), .ref (am 4), .int fi, .ref (am 5), .ref (am 6), .ref (am 7), .ref (am 8), .ref (am 9), .ref (am 10), .ref (am 11), .ref (am 12), .ref (am 13), .ref (am 14), .ref (am 15), .ref (am 16), .ref (am 17), .ref (am 18), .ref (am 19)])), ((am 1), aI q 8 xi), ((am 6), aI q 6 Ti), ((am 8), aI q 6 Wi)] sz) := by
  refine MetD.ofW (cc := cX4_isLoud) (maxL := 5) (ret := (some .boolean)) (by decide +kernel) rfl ?_
  intro p e s m args below meth c s₁ B hml hv hd0
  obtain ⟨rfl, hsz, hP, hK, hD0, hNF⟩ := hv
  have hx := B.exec
  have hb := B.bytes
  have hr := B.returns
  have hts := atoms_spec (ws := wsX4_isLoud) B.pre
  have hown : s.vm.findClass RX4 = some m.cls := findClass_of_methodNamed B.named
  have hlocks := B.notSynchronized
  subst hsz
  have hD := hD0.self (sz := s.heap.size)
  generalize hAe : va_A [(om, .inr (4, [.int th, .int sa, .ref (am 0), .ref (am 1), .double mi, .ref (am 2), .ref (am 3), .ref (am 4), .int fi, .ref (am 5), .ref (am 6), .ref (am 7), .ref (am 8), .ref (am 9), .ref (am 10), .ref (am 11), .ref (am 12), .ref (am 13), .ref (am 14), .ref (am 15), .ref (am 16), .ref (am 17), .ref (am 18), .ref (am 19)])), ((am 1), aI q 8 xi), ((am 6), aI q 6 Ti), ((am 8), aI q 6 Wi)] s.heap.size = A at hD ⊢
  have hA : ∀ q : Nat, s.heap.size ≤ q → A q := fun q h => by rw [← hAe]; exact Or.inr h
  have hS : va_S A s.heap s.heap [] := va_S.rf
  have hP : va_P G vwCl [(om, .inr (4, [.int th, .int sa, .ref (am 0), .ref (am 1), .double mi, .ref (am 2), .ref (am 3), .ref (am 4), .int fi, .ref (am 5), .ref (am 6), .ref (am 7), .ref (am 8), .ref (am 9), .ref (am 10), .ref (am 11), .ref (am 12), .ref (am 13), .ref (am 14), .ref (am 15), .ref (am 16), .ref (am 17), .ref (am 18), .ref (am 19)])), ((am 1), aI q 8 xi), ((am 6), aI q 6 Ti), ((am 8), aI q 6 Wi)] s.heap := hP
  have hl := lv_entry ([.ref om, .int (nI fx)]) (n := 5) (Nat.le_of_ble_eq_true rfl)
  rw [lg_entry_eq]
  generalize (lg_sl ([.ref om, .int (nI fx)]) ++ List.replicate (5 - (lg_sl ([.ref om, .int (nI fx)])).length) Slot.unset).toArray = ls at hl ⊢
  have hl : lv_has ls 5 [(0, .ref om), (1, .int (nI fx))] := hl
  have LOOP : ∀ (k : Nat) (j : Nat) (mg : Int32), j + k = n → mg = gI xi j → ∀ (H : Heap) (locs : List Loc) (d0 : Drawn), s.drawn.sameBut d0 lw_cs → va_P G vwCl [(om, .inr (4, [.int th, .int sa, .ref (am 0), .ref (am 1), .double mi, .ref (am 2), .ref (am 3), .ref (am 4), .int fi, .ref (am 5), .ref (am 6), .ref (am 7), .ref (am 8), .ref (am 9), .ref (am 10), .ref (am 11), .ref (am 12), .ref (am 13), .ref (am 14), .ref (am 15), .ref (am 16), .ref (am 17), .ref (am 18), .ref (am 19)])), ((am 1), aI q 8 xi), ((am 6), aI q 6 Ti), ((am 8), aI q 6 Wi)] H → va_D A [(om, .inr (4, [.int th, .int sa, .ref (am 0), .ref (am 1), .double mi, .ref (am 2), .ref (am 3), .ref (am 4), .int fi, .ref (am 5), .ref (am 6), .ref (am 7), .ref (am 8), .ref (am 9), .ref (am 10), .ref (am 11), .ref (am 12), .ref (am 13), .ref (am 14), .ref (am 15), .ref (am 16), .ref (am 17), .ref (am 18), .ref (am 19)])), ((am 1), aI q 8 xi), ((am 6), aI q 6 Ti), ((am 8), aI q 6 Wi)] → va_S A s.heap H locs → ∀ (ls : Array Slot), lv_has ls 5 [(0, .ref om), (1, .int (nI fx)), (2, .int mg), (3, .int (nI j))] → W p l e (headSpec wsX4_isLoud ({ frames := 1, cells := 0, slots := 0, locals := 21 } : Jvm.Room)).room (s.setDrawn d0) m #[.ref om, .int (nI fx)] below meth c H locs 0 0 (MQD lw_cs below (va_Qi (fun (r : Int32) (_ : Unit) => r = if sLoudM (Wi fx) n xi (dV mi) then 1 else 0) (fun (_ : Unit) t => EndA G A [(om, .inr (4, [.int th, .int sa, .ref (am 0), .ref (am 1), .double mi, .ref (am 2), .ref (am 3), .ref (am 4), .int fi, .ref (am 5), .ref (am 6), .ref (am 7), .ref (am 8), .ref (am 9), .ref (am 10), .ref (am 11), .ref (am 12), .ref (am 13), .ref (am 14), .ref (am 15), .ref (am 16), .ref (am 17), .ref (am 18), .ref (am 19)])), ((am 1), aI q 8 xi), ((am 6), aI q 6 Ti), ((am 8), aI q 6 Wi)] t) A) #[.ref om, .int (nI fx)] s 0 0 A) (F0 m 4 ls []) := by
    intro k
    induction k with
    | zero =>
      intro j mg hj ha H locs d0 hd0 hP hD hS ls hl
      refine lv_iload_n hx hb dX4_isLoud_4 rfl (lv_at hl 3 rfl) ?_
      refine lv_aload_n hx hb dX4_isLoud_5 rfl (lv_at hl 0 rfl) ?_
      refine va_get (D := G) (ci := 4) (v := .ref (am 6)) (C := RX4) (T := TX4) (N := 24) hx hb (dr_words hts d0) in_X4_isLoud_X4 hown hK hP 0 rfl rfl 10 (by decide) (dr_words hts d0 (.fieldLink RX4 29 "EchoBenchModel" "taps" "[I") (by decide +kernel)) (fun _ h9 => h9) rfl dX4_isLoud_6 ?_
      refine lv_iload_n hx hb dX4_isLoud_9 rfl (lv_at hl 1 rfl) ?_
      refine va_ialdJ (s := s.setDrawn d0) hx hb hK hP 2 0 rfl rfl (j := fx) rfl (by omega) (by decide) dX4_isLoud_10 ?_
      rw [hT]
      refine lv_icmp_ge (tgt := 60) hx hb dX4_isLoud_11 (by decide) (fun _ => ?_) (fun h => absurd (nI_le (by omega) (by omega)) h)
      refine lv_aload_n hx hb dX4_isLoud_60 rfl (lv_at hl 0 rfl) ?_
      refine va_get (D := G) (ci := 4) (v := .ref (am 8)) (C := RX4) (T := TX4) (N := 24) hx hb (dr_words hts d0) in_X4_isLoud_X4 hown hK hP 0 rfl rfl 12 (by decide) (dr_words hts d0 (.fieldLink RX4 35 "EchoBenchModel" "watch" "[I") (by decide +kernel)) (fun _ h9 => h9) rfl dX4_isLoud_61 ?_
      refine lv_iload_n hx hb dX4_isLoud_64 rfl (lv_at hl 1 rfl) ?_
      refine va_ialdJ (s := s.setDrawn d0) hx hb hK hP 3 0 rfl rfl (j := fx) rfl (by omega) (by decide) dX4_isLoud_65 ?_
      refine lv_if_le (tgt := 98) hx hb dX4_isLoud_66 (by decide) (fun c1 => ?_) (fun c1 => ?_)
      · skip
        have c1 : ¬ 0 < Wi fx := Int32.not_lt.mpr c1
        refine lv_iconst (v := 0) hx hb dX4_isLoud_98 (by decide) ?_
        have hP9 := hP
        have hD9 := hD
        refine W.endD hd0 ?_
        exact W.zret (v := 0) hx hb hr (by decide) (fun t ht hW => ⟨⟨0, (), rfl, (if_neg (fun q => c1 q.1)).symm, by rw [ht]; exact hP9, hD9⟩, hS.F ht⟩) hS.2.2 dX4_isLoud_99
      · skip
        have c1 : 0 < Wi fx := Int32.not_le.mp c1
        refine lv_aload_n hx hb dX4_isLoud_69 rfl (lv_at hl 0 rfl) ?_
        refine va_get (D := G) (ci := 4) (v := .double mi) (C := RX4) (T := TX4) (N := 24) hx hb (dr_words hts d0) in_X4_isLoud_X4 hown hK hP 0 rfl rfl 4 (by decide) (dr_words hts d0 (.fieldLink RX4 113 "EchoBenchModel" "microphone" "D") (by decide +kernel)) (fun _ h9 => h9) rfl dX4_isLoud_70 ?_
        have hPc := hP.sub (ws' := []) [] rfl
        have hDc := hD.sub (ws' := []) [] (by decide) rfl
        have hFc := va_free (wc := []) hD hS hA [] rfl
        refine va_calldD hd0 (va_runS_D (As := [.double mi]) (rest := []) ⟨hx, hb, hml, hown, (dr_words hts d0)⟩ (m_X4_size l G q H.size mi) (va_cwS 1 (dr_words hts d0) gX4_isLoud_X4_size rfl rfl rfl (by decide +kernel) ⟨Nat.le_of_ble_eq_true rfl, Nat.le_of_ble_eq_true rfl⟩) ⟨preW_blind, preW_start (s := s.setDrawn d0) hPc hK hDc (hNF.drawn d0)⟩ rfl rfl hl.1 rfl (lv_room (Nat.le_of_ble_eq_true rfl)) dX4_isLoud_73 ⟨(Nat.zero_le _), (Nat.zero_le _)⟩) hS (fun q _ h => hFc q h) hFc (fun rz u9 t9 H1 locs ht9 hv9 hw hB9 hz9 hk9 hS du2 hu2 => ?_)
        obtain ⟨⟩ := u9
        obtain ⟨hP1, hD1⟩ := hB9
        rw [ht9] at hP1
        obtain ⟨hP, hD⟩ := va_join (wr := [(om, .inr (4, [.int th, .int sa, .ref (am 0), .ref (am 1), .double mi, .ref (am 2), .ref (am 3), .ref (am 4), .int fi, .ref (am 5), .ref (am 6), .ref (am 7), .ref (am 8), .ref (am 9), .ref (am 10), .ref (am 11), .ref (am 12), .ref (am 13), .ref (am 14), .ref (am 15), .ref (am 16), .ref (am 17), .ref (am 18), .ref (am 19)])), ((am 1), aI q 8 xi), ((am 6), aI q 6 Ti), ((am 8), aI q 6 Wi)]) (w1 := []) hP hD [] [0, 1, 2, 3] rfl rfl (by decide) (by decide) hk9 hFc hP1 hD1
        generalize H1 = H at hP hS ⊢
        have hP : va_P G vwCl [(om, .inr (4, [.int th, .int sa, .ref (am 0), .ref (am 1), .double mi, .ref (am 2), .ref (am 3), .ref (am 4), .int fi, .ref (am 5), .ref (am 6), .ref (am 7), .ref (am 8), .ref (am 9), .ref (am 10), .ref (am 11), .ref (am 12), .ref (am 13), .ref (am 14), .ref (am 15), .ref (am 16), .ref (am 17), .ref (am 18), .ref (am 19)])), ((am 1), aI q 8 xi), ((am 6), aI q 6 Ti), ((am 8), aI q 6 Wi)] H := hP
        have hD : va_D A [(om, .inr (4, [.int th, .int sa, .ref (am 0), .ref (am 1), .double mi, .ref (am 2), .ref (am 3), .ref (am 4), .int fi, .ref (am 5), .ref (am 6), .ref (am 7), .ref (am 8), .ref (am 9), .ref (am 10), .ref (am 11), .ref (am 12), .ref (am 13), .ref (am 14), .ref (am 15), .ref (am 16), .ref (am 17), .ref (am 18), .ref (am 19)])), ((am 1), aI q 8 xi), ((am 6), aI q 6 Ti), ((am 8), aI q 6 Wi)] := hD
        have hrz := hw
        refine lv_aload_n hx hb dX4_isLoud_76 rfl (lv_at hl 0 rfl) ?_
        refine va_get (D := G) (ci := 4) (v := .ref (am 8)) (C := RX4) (T := TX4) (N := 24) hx hb (dr_words hts du2) in_X4_isLoud_X4 hown hK hP 0 rfl rfl 12 (by decide) (dr_words hts du2 (.fieldLink RX4 35 "EchoBenchModel" "watch" "[I") (by decide +kernel)) (fun _ h9 => h9) rfl dX4_isLoud_77 ?_
        refine lv_iload_n hx hb dX4_isLoud_80 rfl (lv_at hl 1 rfl) ?_
        refine va_ialdJ (s := s.setDrawn du2) hx hb hK hP 3 0 rfl rfl (j := fx) rfl (by omega) (by decide) dX4_isLoud_81 ?_
        refine lv_i2d hx hb dX4_isLoud_82 ?_
        refine lv_ldc2d hx hb hown (dr_words hts du2 (.constantDouble RX4 97 4636737291354636288) (by decide +kernel)) dX4_isLoud_83 ?_
        refine lv_ddiv_any hu2 lw_bits hx hb dX4_isLoud_86 (fun r3 dr3 ar3 hr3 => ?_)
        have er3 := dV_div ar3
        refine lv_iload_n hx hb dX4_isLoud_87 rfl (lv_at hl 2 rfl) ?_
        refine lv_i2d hx hb dX4_isLoud_88 ?_
        refine lv_dmul_any hr3 lw_bits hx hb dX4_isLoud_89 (fun r4 dr4 ar4 hr4 => ?_)
        have er4 := dV_mul ar4
        refine lv_dcmp hx hb dX4_isLoud_90 ?_
        refine lv_if_le (tgt := 98) hx hb dX4_isLoud_91 (by decide) (fun c2 => ?_) (fun c2 => ?_)
        · skip
          rw [cl_le, dcmp_fO, hrz, er4, er3, dV_i2d, dV_i2d, ha, show j = n by omega] at c2
          refine lv_iconst (v := 0) hx hb dX4_isLoud_98 (by decide) ?_
          have hP9 := hP
          have hD9 := hD
          refine W.endD hr4 ?_
          exact W.zret (v := 0) hx hb hr (by decide) (fun t ht hW => ⟨⟨0, (), rfl, (if_neg (fun q => c2 q.2)).symm, by rw [ht]; exact hP9, hD9⟩, hS.F ht⟩) hS.2.2 dX4_isLoud_99
        · skip
          rw [cl_le, dcmp_fO, hrz, er4, er3, dV_i2d, dV_i2d, ha, show j = n by omega, Classical.not_not] at c2
          refine lv_iconst (v := 1) hx hb dX4_isLoud_94 (by decide) ?_
          refine lv_goto (tgt := 99) hx hb dX4_isLoud_95 (by decide) ?_
          have hP9 := hP
          have hD9 := hD
          refine W.endD hr4 ?_
          exact W.zret (v := 1) hx hb hr (by decide) (fun t ht hW => ⟨⟨1, (), rfl, (if_pos ⟨c1, c2⟩).symm, by rw [ht]; exact hP9, hD9⟩, hS.F ht⟩) hS.2.2 dX4_isLoud_99
    | succ k ih =>
      intro j mg hj ha H locs d0 hd0 hP hD hS ls hl
      refine lv_iload_n hx hb dX4_isLoud_4 rfl (lv_at hl 3 rfl) ?_
      refine lv_aload_n hx hb dX4_isLoud_5 rfl (lv_at hl 0 rfl) ?_
      refine va_get (D := G) (ci := 4) (v := .ref (am 6)) (C := RX4) (T := TX4) (N := 24) hx hb (dr_words hts d0) in_X4_isLoud_X4 hown hK hP 0 rfl rfl 10 (by decide) (dr_words hts d0 (.fieldLink RX4 29 "EchoBenchModel" "taps" "[I") (by decide +kernel)) (fun _ h9 => h9) rfl dX4_isLoud_6 ?_
      refine lv_iload_n hx hb dX4_isLoud_9 rfl (lv_at hl 1 rfl) ?_
      refine va_ialdJ (s := s.setDrawn d0) hx hb hK hP 2 0 rfl rfl (j := fx) rfl (by omega) (by decide) dX4_isLoud_10 ?_
      rw [hT]
      refine lv_icmp_ge (tgt := 60) hx hb dX4_isLoud_11 (by decide) (fun h => absurd h (nI_ge (by omega) (by omega))) (fun _ => ?_)
      refine lv_aload_n hx hb dX4_isLoud_14 rfl (lv_at hl 0 rfl) ?_
      refine va_get (D := G) (ci := 4) (v := .ref (am 1)) (C := RX4) (T := TX4) (N := 24) hx hb (dr_words hts d0) in_X4_isLoud_X4 hown hK hP 0 rfl rfl 3 (by decide) (dr_words hts d0 (.fieldLink RX4 13 "EchoBenchModel" "x" "[I") (by decide +kernel)) (fun _ h9 => h9) rfl dX4_isLoud_15 ?_
      refine lv_iload_n hx hb dX4_isLoud_18 rfl (lv_at hl 3 rfl) ?_
      refine va_ialdJ (s := s.setDrawn d0) hx hb hK hP 1 0 rfl rfl (j := j) rfl (by omega) (by decide) dX4_isLoud_19 ?_
      refine lv_if_ge (tgt := 33) hx hb dX4_isLoud_20 (by decide) (fun c1 => ?_) (fun c1 => ?_)
      · skip
        refine lv_aload_n hx hb dX4_isLoud_33 rfl (lv_at hl 0 rfl) ?_
        refine va_get (D := G) (ci := 4) (v := .ref (am 1)) (C := RX4) (T := TX4) (N := 24) hx hb (dr_words hts d0) in_X4_isLoud_X4 hown hK hP 0 rfl rfl 3 (by decide) (dr_words hts d0 (.fieldLink RX4 13 "EchoBenchModel" "x" "[I") (by decide +kernel)) (fun _ h9 => h9) rfl dX4_isLoud_34 ?_
        refine lv_iload_n hx hb dX4_isLoud_37 rfl (lv_at hl 3 rfl) ?_
        refine va_ialdJ (s := s.setDrawn d0) hx hb hK hP 1 0 rfl rfl (j := j) rfl (by omega) (by decide) dX4_isLoud_38 ?_
        have c1 : ¬ xi j < 0 := Int32.not_lt.mpr c1
        refine lv_istore (lv' := [(4, .int (xi j)), (0, .ref om), (1, .int (nI fx)), (2, .int mg), (3, .int (nI j))]) hx hb dX4_isLoud_39 hl (by decide) rfl (fun ls hl => ?_)
        refine lv_iload hx hb dX4_isLoud_41 (lv_at hl 0 rfl) ?_
        refine lv_iload_n hx hb dX4_isLoud_43 rfl (lv_at hl 3 rfl) ?_
        refine lv_icmp_le (tgt := 52) hx hb dX4_isLoud_44 (by decide) (fun c2 => ?_) (fun c2 => ?_)
        · skip
          have c2 : ¬ mg < (xi j) := Int32.not_lt.mpr c2
          refine lv_iload_n hx hb dX4_isLoud_52 rfl (lv_at hl 3 rfl) ?_
          refine lv_istore_n (lv' := [(2, .int mg), (4, .int (xi j)), (0, .ref om), (1, .int (nI fx)), (3, .int (nI j))]) hx hb dX4_isLoud_53 rfl hl (by decide) rfl (fun ls hl => ?_)
          refine lv_iinc (v := nI (j + 1)) (lv' := [(3, .int (nI (j + 1))), (2, .int mg), (4, .int (xi j)), (0, .ref om), (1, .int (nI fx))]) hx hb dX4_isLoud_54 hl (k := 4) rfl (nI_succ _).symm (by decide) rfl (fun ls hl => ?_)
          refine lv_goto (tgt := 4) hx hb dX4_isLoud_57 (by decide) ?_
          exact ih (j + 1) mg (by omega) (by rw [ha] at c2 ⊢; show _ = if _ then _ else _; rw [if_neg c1, if_neg c2]) _ _ _ hd0 (hP.sub [0, 1, 2, 3] rfl) (hD.sub [0, 1, 2, 3] (by decide) rfl) hS ls (lv_sub hl [3, 4, 1, 0] rfl)
        · skip
          have c2 : mg < (xi j) := Int32.not_le.mp c2
          refine lv_iload hx hb dX4_isLoud_47 (lv_at hl 0 rfl) ?_
          refine lv_goto (tgt := 53) hx hb dX4_isLoud_49 (by decide) ?_
          refine lv_istore_n (lv' := [(2, .int (xi j)), (4, .int (xi j)), (0, .ref om), (1, .int (nI fx)), (3, .int (nI j))]) hx hb dX4_isLoud_53 rfl hl (by decide) rfl (fun ls hl => ?_)
          refine lv_iinc (v := nI (j + 1)) (lv' := [(3, .int (nI (j + 1))), (2, .int (xi j)), (4, .int (xi j)), (0, .ref om), (1, .int (nI fx))]) hx hb dX4_isLoud_54 hl (k := 4) rfl (nI_succ _).symm (by decide) rfl (fun ls hl => ?_)
          refine lv_goto (tgt := 4) hx hb dX4_isLoud_57 (by decide) ?_
          exact ih (j + 1) (xi j) (by omega) (by rw [ha] at c2; show _ = if _ then _ else _; rw [if_neg c1, if_pos c2]) _ _ _ hd0 (hP.sub [0, 1, 2, 3] rfl) (hD.sub [0, 1, 2, 3] (by decide) rfl) hS ls (lv_sub hl [3, 4, 1, 0] rfl)
      · skip
        refine lv_aload_n hx hb dX4_isLoud_23 rfl (lv_at hl 0 rfl) ?_
        refine va_get (D := G) (ci := 4) (v := .ref (am 1)) (C := RX4) (T := TX4) (N := 24) hx hb (dr_words hts d0) in_X4_isLoud_X4 hown hK hP 0 rfl rfl 3 (by decide) (dr_words hts d0 (.fieldLink RX4 13 "EchoBenchModel" "x" "[I") (by decide +kernel)) (fun _ h9 => h9) rfl dX4_isLoud_24 ?_
        refine lv_iload_n hx hb dX4_isLoud_27 rfl (lv_at hl 3 rfl) ?_
        refine va_ialdJ (s := s.setDrawn d0) hx hb hK hP 1 0 rfl rfl (j := j) rfl (by omega) (by decide) dX4_isLoud_28 ?_
        have c1 : xi j < 0 := Int32.not_le.mp c1
        refine lv_ineg hx hb dX4_isLoud_29 ?_
        refine lv_topi (fun x6 ex6 => ?_)
        obtain rfl : x6 = (-(xi j)) := ex6
        refine lv_goto (tgt := 39) hx hb dX4_isLoud_30 (by decide) ?_
        refine lv_istore (lv' := [(4, .int (-(xi j))), (0, .ref om), (1, .int (nI fx)), (2, .int mg), (3, .int (nI j))]) hx hb dX4_isLoud_39 hl (by decide) rfl (fun ls hl => ?_)
        refine lv_iload hx hb dX4_isLoud_41 (lv_at hl 0 rfl) ?_
        refine lv_iload_n hx hb dX4_isLoud_43 rfl (lv_at hl 3 rfl) ?_
        refine lv_icmp_le (tgt := 52) hx hb dX4_isLoud_44 (by decide) (fun c2 => ?_) (fun c2 => ?_)
        · skip
          have c2 : ¬ mg < (-(xi j)) := Int32.not_lt.mpr c2
          refine lv_iload_n hx hb dX4_isLoud_52 rfl (lv_at hl 3 rfl) ?_
          refine lv_istore_n (lv' := [(2, .int mg), (4, .int (-(xi j))), (0, .ref om), (1, .int (nI fx)), (3, .int (nI j))]) hx hb dX4_isLoud_53 rfl hl (by decide) rfl (fun ls hl => ?_)
          refine lv_iinc (v := nI (j + 1)) (lv' := [(3, .int (nI (j + 1))), (2, .int mg), (4, .int (-(xi j))), (0, .ref om), (1, .int (nI fx))]) hx hb dX4_isLoud_54 hl (k := 4) rfl (nI_succ _).symm (by decide) rfl (fun ls hl => ?_)
          refine lv_goto (tgt := 4) hx hb dX4_isLoud_57 (by decide) ?_
          exact ih (j + 1) mg (by omega) (by rw [ha] at c2 ⊢; show _ = if _ then _ else _; rw [if_pos c1, if_neg c2]) _ _ _ hd0 (hP.sub [0, 1, 2, 3] rfl) (hD.sub [0, 1, 2, 3] (by decide) rfl) hS ls (lv_sub hl [3, 4, 1, 0] rfl)
        · skip
          have c2 : mg < (-(xi j)) := Int32.not_le.mp c2
          refine lv_iload hx hb dX4_isLoud_47 (lv_at hl 0 rfl) ?_
          refine lv_goto (tgt := 53) hx hb dX4_isLoud_49 (by decide) ?_
          refine lv_istore_n (lv' := [(2, .int (-(xi j))), (4, .int (-(xi j))), (0, .ref om), (1, .int (nI fx)), (3, .int (nI j))]) hx hb dX4_isLoud_53 rfl hl (by decide) rfl (fun ls hl => ?_)
          refine lv_iinc (v := nI (j + 1)) (lv' := [(3, .int (nI (j + 1))), (2, .int (-(xi j))), (4, .int (-(xi j))), (0, .ref om), (1, .int (nI fx))]) hx hb dX4_isLoud_54 hl (k := 4) rfl (nI_succ _).symm (by decide) rfl (fun ls hl => ?_)
          refine lv_goto (tgt := 4) hx hb dX4_isLoud_57 (by decide) ?_
          exact ih (j + 1) (-(xi j)) (by omega) (by rw [ha] at c2; show _ = if _ then _ else _; rw [if_pos c1, if_pos c2]) _ _ _ hd0 (hP.sub [0, 1, 2, 3] rfl) (hD.sub [0, 1, 2, 3] (by decide) rfl) hS ls (lv_sub hl [3, 4, 1, 0] rfl)
  refine lv_iconst (v := 0) hx hb dX4_isLoud_0 (by decide) ?_
  refine lv_istore_n (lv' := [(2, .int 0), (0, .ref om), (1, .int (nI fx))]) hx hb dX4_isLoud_1 rfl hl (by decide) rfl (fun ls hl => ?_)
  refine lv_iconst (v := 0) hx hb dX4_isLoud_2 (by decide) ?_
  refine lv_istore_n (lv' := [(3, .int 0), (2, .int 0), (0, .ref om), (1, .int (nI fx))]) hx hb dX4_isLoud_3 rfl hl (by decide) rfl (fun ls hl => ?_)
  exact LOOP n 0 0 (by omega) rfl _ _ _ hd0 (hP.sub [0, 1, 2, 3] rfl) (hD.sub [0, 1, 2, 3] (by decide) rfl) hS ls (lv_sub hl [2, 3, 1, 0] rfl)

theorem in_X4_learnAll_X4 : ∀ w ∈ wsX40, w ∈ wsX4_learnAll := by decide +kernel
set_option maxHeartbeats 4000000 in
set_option maxRecDepth 100000 in
/-- learnAll -/
theorem m_X4_learnAll (l : Launch) (G : va_G) (q : Nat → ClassId) (sz : Nat) (om : Nat) (am : Nat → Nat) (th sa fi : Int32) (mi : UInt64) (fx n : Nat) (xi : Nat → Int32) (Ki : Nat → Int32) (Ti : Nat → Int32) (Si : Nat → Int32) (Wt : Nat → UInt64) (Er : Nat → UInt64) (hfx : fx < 6) (hn : n ≤ 8) (hT : Ti fx = nI n) : MetD lw_cs l yX4_learnAll wsX4_learnAll ({ frames := 1, cells := 0, slots := 0, locals := 26 } : Jvm.Room) (PreW G q [.ref om, .int (nI fx)] [(om, .inr (4, [.int th, .int sa, .ref (am 0), .ref (am 1), .double mi, .ref (am 2), .ref (am 3), .ref (am 4), .int fi, .ref (am 5), .ref (am 6), .ref (am 7), .ref (am 8), .ref (am 9), .ref (am 10), .ref (am 11), .ref (am 12), .ref (am 13), .ref (am 14), .ref (am 15), .ref (am 16), .ref (am 17), .ref (am 18), .ref (am 19)])), ((am 1), aI q 8 xi), ((am 5), aI q 6 Ki), ((am 6), aI q 6 Ti), ((am 7), aI q 6 Si), ((am 14), aD q 48 Wt), ((am 16), aD q 6 Er)] sz) (va_Qv (fun (F : Nat → UInt64) => (∀ j, j < n → dV (F (8 * fx + j)) = sUp (dV (Wt (8 * fx + j))) (sLesM (Ki fx) (Si fx) (dV (Er fx)) (fI (xi j)) (sNorm n xi))) ∧ ∀ i, (i < 8 * fx ∨ 8 * fx + n ≤ i) → F i = Wt i) (fun (F : Nat → UInt64) t => EndA G (va_A [(om, .inr (4, [.int th, .int sa, .ref (am 0), .ref (am 1), .double mi, .ref (am 2), .ref (am 3), .ref (am 4), .int fi, .ref (am 5), .ref (am 6), .ref (am 7), .ref (am 8), .ref (am 9), .ref (am 10), .ref (am 11), .ref (am 12), .ref (am 13), .ref (am 14), .ref (am 15), .ref (am 16), .ref (am 17), .ref (am 18), .ref (am 19)])), ((am 1), aI q 8 xi), ((am 5), aI q 6 Ki), ((am 6), aI q 6 Ti), ((am 7), aI q 6 Si), ((am 14), aD q 48 Wt), ((am 16), aD q 6 Er)] sz) [(om, .inr (4, [.int th, .int sa, .ref (am 0), .ref (am 1), .double mi, .ref (am 2), .ref (am 3), .ref (am 4), .int fi, .ref (am 5), .ref (am 6), .ref (am 7), .ref (am 8), .ref (am 9), .ref (am 10), .ref (am 11), .ref (am 12), .ref (am 13), .ref (am 14), .ref (am 15), .ref (am 16), .ref (am 17), .ref (am 18), .ref (am 19)])), ((am 1), aI q 8 xi), ((am 5), aI q 6 Ki), ((am 6), aI q 6 Ti), ((am 7), aI q 6 Si), ((am 14), aD q 48 F), ((am 16), aD q 6 Er)] t) (va_A [(om, .inr (4, [.int th, .int sa, .ref (am 0), .ref (am 1), .double mi, .ref (am 2), .ref (am 3), .ref (am 4), .int fi, .ref (am 5), .ref (am 6), .ref (am 7), .ref (am 8), .ref (am 9), .ref (am 10), .ref (am 11), .ref (am 12), .ref (am 13), .ref (am 14), .ref (am 15), .ref (am 16), .ref (am 17), .ref (am 18), .ref (am 19)])), ((am 1), aI q 8 xi), ((am 5), aI q 6 Ki), ((am 6), aI q 6 Ti), ((am 7), aI q 6 Si), ((am 14), aD q 48 Wt), ((am 16), aD q 6 Er)] sz)) 0 0 (va_A [(om, .inr (4, [.int th, .int sa, .ref (am 0), .ref (am 1), .double mi, .ref (am 2), .ref (am 3), .ref (am 4), .int fi, .ref (am 5), .ref (am 6), .ref (am 7), .ref (am 8), .ref (am 9), .ref (am 10), .ref (am 11), .ref (am 12), .ref (am 13), .ref (am 14), .ref (am 15), .ref (am 16), .ref (am 17), .ref (am 18), .ref (am 19)])), ((am 1), aI q 8 xi), ((am 5), aI q 6 Ki), ((am 6), aI q 6 Ti), ((am 7), aI q 6 Si), ((am 14), aD q 48 Wt), ((am 16), aD q 6 Er)] sz) := by
  refine MetD.ofW (cc := cX4_learnAll) (maxL := 7) (ret := none) (by decide +kernel) rfl ?_
  intro p e s m args below meth c s₁ B hml hv hd0
  obtain ⟨rfl, hsz, hP, hK, hD0, hNF⟩ := hv
  have hx := B.exec
  have hb := B.bytes
  have hr := B.returns
  have hts := atoms_spec (ws := wsX4_learnAll) B.pre
  have hown : s.vm.findClass RX4 = some m.cls := findClass_of_methodNamed B.named
  have hlocks := B.notSynchronized
  subst hsz
  have hD := hD0.self (sz := s.heap.size)
  generalize hAe : va_A [(om, .inr (4, [.int th, .int sa, .ref (am 0), .ref (am 1), .double mi, .ref (am 2), .ref (am 3), .ref (am 4), .int fi, .ref (am 5), .ref (am 6), .ref (am 7), .ref (am 8), .ref (am 9), .ref (am 10), .ref (am 11), .ref (am 12), .ref (am 13), .ref (am 14), .ref (am 15), .ref (am 16), .ref (am 17), .ref (am 18), .ref (am 19)])), ((am 1), aI q 8 xi), ((am 5), aI q 6 Ki), ((am 6), aI q 6 Ti), ((am 7), aI q 6 Si), ((am 14), aD q 48 Wt), ((am 16), aD q 6 Er)] s.heap.size = A at hD ⊢
  have hA : ∀ q : Nat, s.heap.size ≤ q → A q := fun q h => by rw [← hAe]; exact Or.inr h
  have hS : va_S A s.heap s.heap [] := va_S.rf
  have hP : va_P G vwCl [(om, .inr (4, [.int th, .int sa, .ref (am 0), .ref (am 1), .double mi, .ref (am 2), .ref (am 3), .ref (am 4), .int fi, .ref (am 5), .ref (am 6), .ref (am 7), .ref (am 8), .ref (am 9), .ref (am 10), .ref (am 11), .ref (am 12), .ref (am 13), .ref (am 14), .ref (am 15), .ref (am 16), .ref (am 17), .ref (am 18), .ref (am 19)])), ((am 1), aI q 8 xi), ((am 5), aI q 6 Ki), ((am 6), aI q 6 Ti), ((am 7), aI q 6 Si), ((am 14), aD q 48 Wt), ((am 16), aD q 6 Er)] s.heap := hP
  have hl := lv_entry ([.ref om, .int (nI fx)]) (n := 7) (Nat.le_of_ble_eq_true rfl)
  rw [lg_entry_eq]
  generalize (lg_sl ([.ref om, .int (nI fx)]) ++ List.replicate (7 - (lg_sl ([.ref om, .int (nI fx)])).length) Slot.unset).toArray = ls at hl ⊢
  have hl : lv_has ls 7 [(0, .ref om), (1, .int (nI fx))] := hl
  refine lv_aload_n hx hb dX4_learnAll_0 rfl (lv_at hl 0 rfl) ?_
  refine va_get (D := G) (ci := 4) (v := .ref (am 7)) (C := RX4) (T := TX4) (N := 24) hx hb (dr_words hts s.drawn) in_X4_learnAll_X4 hown hK hP 0 rfl rfl 11 (by decide) (dr_words hts s.drawn (.fieldLink RX4 32 "EchoBenchModel" "step" "[I") (by decide +kernel)) (fun _ h9 => h9) rfl dX4_learnAll_1 ?_
  refine lv_iload_n hx hb dX4_learnAll_4 rfl (lv_at hl 1 rfl) ?_
  refine va_ialdJ (s := s.setDrawn s.drawn) hx hb hK hP 4 0 rfl rfl (j := fx) rfl (by omega) (by decide) dX4_learnAll_5 ?_
  refine lv_i2d hx hb dX4_learnAll_6 ?_
  refine lv_ldc2d hx hb hown (dr_words hts s.drawn (.constantDouble RX4 103 4652007308841189376) (by decide +kernel)) dX4_learnAll_7 ?_
  refine lv_ddiv_any hd0 lw_bits hx hb dX4_learnAll_10 (fun r1 dr1 ar1 hr1 => ?_)
  have er1 := dV_div ar1
  refine lv_dstore_n (lv' := [(2, .double r1), (0, .ref om), (1, .int (nI fx))]) hx hb dX4_learnAll_11 rfl hl (by decide) rfl (fun ls hl => ?_)
  refine lv_dc1 hx hb dX4_learnAll_12 ?_
  refine lv_dstore (lv' := [(4, .double 4607182418800017408), (2, .double r1), (0, .ref om), (1, .int (nI fx))]) hx hb dX4_learnAll_13 hl (by decide) rfl (fun ls hl => ?_)
  refine lv_iconst (v := 0) hx hb dX4_learnAll_15 (by decide) ?_
  refine lv_istore (lv' := [(6, .int 0), (4, .double 4607182418800017408), (2, .double r1), (0, .ref om), (1, .int (nI fx))]) hx hb dX4_learnAll_16 hl (by decide) rfl (fun ls hl => ?_)
  have LOOP : ∀ (k : Nat) (j : Nat) (a : UInt64), j + k = n → dV a = smN kOne (fun k => fMul (fI (xi k)) (fI (xi k))) j → ∀ (H : Heap) (locs : List Loc) (d0 : Drawn), s.drawn.sameBut d0 lw_cs → va_P G vwCl [(om, .inr (4, [.int th, .int sa, .ref (am 0), .ref (am 1), .double mi, .ref (am 2), .ref (am 3), .ref (am 4), .int fi, .ref (am 5), .ref (am 6), .ref (am 7), .ref (am 8), .ref (am 9), .ref (am 10), .ref (am 11), .ref (am 12), .ref (am 13), .ref (am 14), .ref (am 15), .ref (am 16), .ref (am 17), .ref (am 18), .ref (am 19)])), ((am 1), aI q 8 xi), ((am 5), aI q 6 Ki), ((am 6), aI q 6 Ti), ((am 7), aI q 6 Si), ((am 14), aD q 48 Wt), ((am 16), aD q 6 Er)] H → va_D A [(om, .inr (4, [.int th, .int sa, .ref (am 0), .ref (am 1), .double mi, .ref (am 2), .ref (am 3), .ref (am 4), .int fi, .ref (am 5), .ref (am 6), .ref (am 7), .ref (am 8), .ref (am 9), .ref (am 10), .ref (am 11), .ref (am 12), .ref (am 13), .ref (am 14), .ref (am 15), .ref (am 16), .ref (am 17), .ref (am 18), .ref (am 19)])), ((am 1), aI q 8 xi), ((am 5), aI q 6 Ki), ((am 6), aI q 6 Ti), ((am 7), aI q 6 Si), ((am 14), aD q 48 Wt), ((am 16), aD q 6 Er)] → va_S A s.heap H locs → ∀ (ls : Array Slot), lv_has ls 7 [(0, .ref om), (1, .int (nI fx)), (2, .double r1), (4, .double a), (6, .int (nI j))] → W p l e (headSpec wsX4_learnAll ({ frames := 1, cells := 0, slots := 0, locals := 26 } : Jvm.Room)).room (s.setDrawn d0) m #[.ref om, .int (nI fx)] below meth c H locs 0 0 (MQD lw_cs below (va_Qv (fun (F : Nat → UInt64) => (∀ j, j < n → dV (F (8 * fx + j)) = sUp (dV (Wt (8 * fx + j))) (sLesM (Ki fx) (Si fx) (dV (Er fx)) (fI (xi j)) (sNorm n xi))) ∧ ∀ i, (i < 8 * fx ∨ 8 * fx + n ≤ i) → F i = Wt i) (fun (F : Nat → UInt64) t => EndA G A [(om, .inr (4, [.int th, .int sa, .ref (am 0), .ref (am 1), .double mi, .ref (am 2), .ref (am 3), .ref (am 4), .int fi, .ref (am 5), .ref (am 6), .ref (am 7), .ref (am 8), .ref (am 9), .ref (am 10), .ref (am 11), .ref (am 12), .ref (am 13), .ref (am 14), .ref (am 15), .ref (am 16), .ref (am 17), .ref (am 18), .ref (am 19)])), ((am 1), aI q 8 xi), ((am 5), aI q 6 Ki), ((am 6), aI q 6 Ti), ((am 7), aI q 6 Si), ((am 14), aD q 48 F), ((am 16), aD q 6 Er)] t) A) #[.ref om, .int (nI fx)] s 0 0 A) (F0 m 18 ls []) := by
    intro k
    induction k with
    | zero =>
      intro j a hj ha H locs d0 hd0 hP hD hS ls hl
      refine lv_iload hx hb dX4_learnAll_18 (lv_at hl 4 rfl) ?_
      refine lv_aload_n hx hb dX4_learnAll_20 rfl (lv_at hl 0 rfl) ?_
      refine va_get (D := G) (ci := 4) (v := .ref (am 6)) (C := RX4) (T := TX4) (N := 24) hx hb (dr_words hts d0) in_X4_learnAll_X4 hown hK hP 0 rfl rfl 10 (by decide) (dr_words hts d0 (.fieldLink RX4 29 "EchoBenchModel" "taps" "[I") (by decide +kernel)) (fun _ h9 => h9) rfl dX4_learnAll_21 ?_
      refine lv_iload_n hx hb dX4_learnAll_24 rfl (lv_at hl 1 rfl) ?_
      refine va_ialdJ (s := s.setDrawn d0) hx hb hK hP 3 0 rfl rfl (j := fx) rfl (by omega) (by decide) dX4_learnAll_25 ?_
      rw [hT]
      refine lv_icmp_ge (tgt := 57) hx hb dX4_learnAll_26 (by decide) (fun _ => ?_) (fun h => absurd (nI_le (by omega) (by omega)) h)
      have hN : dV a = sNorm n xi := by rw [ha, show j = n by omega]; rfl
      refine lv_iconst (v := 0) hx hb dX4_learnAll_57 (by decide) ?_
      refine lv_istore (lv' := [(6, .int 0), (0, .ref om), (1, .int (nI fx)), (2, .double r1), (4, .double a)]) hx hb dX4_learnAll_58 hl (by decide) rfl (fun ls hl => ?_)
      have LOOP2 : ∀ (k2 : Nat) (j : Nat) (F : Nat → UInt64), j + k2 = n → (∀ j', j' < j → dV (F (8 * fx + j')) = sUp (dV (Wt (8 * fx + j'))) (sLesM (Ki fx) (Si fx) (dV (Er fx)) (fI (xi j')) (sNorm n xi))) → (∀ j', j ≤ j' → F (8 * fx + j') = Wt (8 * fx + j')) → (∀ i, (i < 8 * fx ∨ 8 * fx + n ≤ i) → F i = Wt i) → ∀ (H : Heap) (locs : List Loc) (d0 : Drawn), s.drawn.sameBut d0 lw_cs → va_P G vwCl [(om, .inr (4, [.int th, .int sa, .ref (am 0), .ref (am 1), .double mi, .ref (am 2), .ref (am 3), .ref (am 4), .int fi, .ref (am 5), .ref (am 6), .ref (am 7), .ref (am 8), .ref (am 9), .ref (am 10), .ref (am 11), .ref (am 12), .ref (am 13), .ref (am 14), .ref (am 15), .ref (am 16), .ref (am 17), .ref (am 18), .ref (am 19)])), ((am 1), aI q 8 xi), ((am 5), aI q 6 Ki), ((am 6), aI q 6 Ti), ((am 7), aI q 6 Si), ((am 14), aD q 48 F), ((am 16), aD q 6 Er)] H → va_D A [(om, .inr (4, [.int th, .int sa, .ref (am 0), .ref (am 1), .double mi, .ref (am 2), .ref (am 3), .ref (am 4), .int fi, .ref (am 5), .ref (am 6), .ref (am 7), .ref (am 8), .ref (am 9), .ref (am 10), .ref (am 11), .ref (am 12), .ref (am 13), .ref (am 14), .ref (am 15), .ref (am 16), .ref (am 17), .ref (am 18), .ref (am 19)])), ((am 1), aI q 8 xi), ((am 5), aI q 6 Ki), ((am 6), aI q 6 Ti), ((am 7), aI q 6 Si), ((am 14), aD q 48 F), ((am 16), aD q 6 Er)] → va_S A s.heap H locs → ∀ (ls : Array Slot), lv_has ls 7 [(0, .ref om), (1, .int (nI fx)), (2, .double r1), (4, .double a), (6, .int (nI j))] → W p l e (headSpec wsX4_learnAll ({ frames := 1, cells := 0, slots := 0, locals := 26 } : Jvm.Room)).room (s.setDrawn d0) m #[.ref om, .int (nI fx)] below meth c H locs 0 0 (MQD lw_cs below (va_Qv (fun (F : Nat → UInt64) => (∀ j, j < n → dV (F (8 * fx + j)) = sUp (dV (Wt (8 * fx + j))) (sLesM (Ki fx) (Si fx) (dV (Er fx)) (fI (xi j)) (sNorm n xi))) ∧ ∀ i, (i < 8 * fx ∨ 8 * fx + n ≤ i) → F i = Wt i) (fun (F : Nat → UInt64) t => EndA G A [(om, .inr (4, [.int th, .int sa, .ref (am 0), .ref (am 1), .double mi, .ref (am 2), .ref (am 3), .ref (am 4), .int fi, .ref (am 5), .ref (am 6), .ref (am 7), .ref (am 8), .ref (am 9), .ref (am 10), .ref (am 11), .ref (am 12), .ref (am 13), .ref (am 14), .ref (am 15), .ref (am 16), .ref (am 17), .ref (am 18), .ref (am 19)])), ((am 1), aI q 8 xi), ((am 5), aI q 6 Ki), ((am 6), aI q 6 Ti), ((am 7), aI q 6 Si), ((am 14), aD q 48 F), ((am 16), aD q 6 Er)] t) A) #[.ref om, .int (nI fx)] s 0 0 A) (F0 m 60 ls []) := by
        intro k2
        induction k2 with
        | zero =>
          intro j F hj h1 h2 h3 H locs d0 hd0 hP hD hS ls hl
          refine lv_iload hx hb dX4_learnAll_60 (lv_at hl 4 rfl) ?_
          refine lv_aload_n hx hb dX4_learnAll_62 rfl (lv_at hl 0 rfl) ?_
          refine va_get (D := G) (ci := 4) (v := .ref (am 6)) (C := RX4) (T := TX4) (N := 24) hx hb (dr_words hts d0) in_X4_learnAll_X4 hown hK hP 0 rfl rfl 10 (by decide) (dr_words hts d0 (.fieldLink RX4 29 "EchoBenchModel" "taps" "[I") (by decide +kernel)) (fun _ h9 => h9) rfl dX4_learnAll_63 ?_
          refine lv_iload_n hx hb dX4_learnAll_66 rfl (lv_at hl 1 rfl) ?_
          refine va_ialdJ (s := s.setDrawn d0) hx hb hK hP 3 0 rfl rfl (j := fx) rfl (by omega) (by decide) dX4_learnAll_67 ?_
          rw [hT]
          refine lv_icmp_ge (tgt := 211) hx hb dX4_learnAll_68 (by decide) (fun _ => ?_) (fun h => absurd (nI_le (by omega) (by omega)) h)
          have hP9 := hP
          have hD9 := hD
          refine W.endD hd0 ?_
          exact W.vret hx hb hr (fun t ht hW => ⟨⟨F, rfl, ⟨fun j1 hj1 => h1 j1 (by omega), h3⟩, by rw [ht]; exact hP9, hD9⟩, hS.F ht⟩) hS.2.2 dX4_learnAll_211
        | succ k2 ih2 =>
          intro j F hj h1 h2 h3 H locs d0 hd0 hP hD hS ls hl
          refine lv_iload hx hb dX4_learnAll_60 (lv_at hl 4 rfl) ?_
          refine lv_aload_n hx hb dX4_learnAll_62 rfl (lv_at hl 0 rfl) ?_
          refine va_get (D := G) (ci := 4) (v := .ref (am 6)) (C := RX4) (T := TX4) (N := 24) hx hb (dr_words hts d0) in_X4_learnAll_X4 hown hK hP 0 rfl rfl 10 (by decide) (dr_words hts d0 (.fieldLink RX4 29 "EchoBenchModel" "taps" "[I") (by decide +kernel)) (fun _ h9 => h9) rfl dX4_learnAll_63 ?_
          refine lv_iload_n hx hb dX4_learnAll_66 rfl (lv_at hl 1 rfl) ?_
          refine va_ialdJ (s := s.setDrawn d0) hx hb hK hP 3 0 rfl rfl (j := fx) rfl (by omega) (by decide) dX4_learnAll_67 ?_
          rw [hT]
          refine lv_icmp_ge (tgt := 211) hx hb dX4_learnAll_68 (by decide) (fun h => absurd h (nI_ge (by omega) (by omega))) (fun _ => ?_)
          refine lv_aload_n hx hb dX4_learnAll_71 rfl (lv_at hl 0 rfl) ?_
          refine va_get (D := G) (ci := 4) (v := .ref (am 5)) (C := RX4) (T := TX4) (N := 24) hx hb (dr_words hts d0) in_X4_learnAll_X4 hown hK hP 0 rfl rfl 9 (by decide) (dr_words hts d0 (.fieldLink RX4 26 "EchoBenchModel" "kind" "[I") (by decide +kernel)) (fun _ h9 => h9) rfl dX4_learnAll_72 ?_
          refine lv_iload_n hx hb dX4_learnAll_75 rfl (lv_at hl 1 rfl) ?_
          refine va_ialdJ (s := s.setDrawn d0) hx hb hK hP 2 0 rfl rfl (j := fx) rfl (by omega) (by decide) dX4_learnAll_76 ?_
          refine lv_if_ne (tgt := 107) hx hb dX4_learnAll_77 (by decide) (fun c1 => ?_) (fun c1 => ?_)
          · skip
            refine lv_aload_n hx hb dX4_learnAll_107 rfl (lv_at hl 0 rfl) ?_
            refine va_get (D := G) (ci := 4) (v := .ref (am 5)) (C := RX4) (T := TX4) (N := 24) hx hb (dr_words hts d0) in_X4_learnAll_X4 hown hK hP 0 rfl rfl 9 (by decide) (dr_words hts d0 (.fieldLink RX4 26 "EchoBenchModel" "kind" "[I") (by decide +kernel)) (fun _ h9 => h9) rfl dX4_learnAll_108 ?_
            refine lv_iload_n hx hb dX4_learnAll_111 rfl (lv_at hl 1 rfl) ?_
            refine va_ialdJ (s := s.setDrawn d0) hx hb hK hP 2 0 rfl rfl (j := fx) rfl (by omega) (by decide) dX4_learnAll_112 ?_
            refine lv_iconst (v := 1) hx hb dX4_learnAll_113 (by decide) ?_
            refine lv_icmp_ne (tgt := 147) hx hb dX4_learnAll_114 (by decide) (fun c2 => ?_) (fun c2 => ?_)
            · skip
              refine lv_aload_n hx hb dX4_learnAll_147 rfl (lv_at hl 0 rfl) ?_
              refine lv_iload_n hx hb dX4_learnAll_148 rfl (lv_at hl 1 rfl) ?_
              refine lv_iload hx hb dX4_learnAll_149 (lv_at hl 4 rfl) ?_
              refine lv_aload_n hx hb dX4_learnAll_151 rfl (lv_at hl 0 rfl) ?_
              refine va_get (D := G) (ci := 4) (v := .ref (am 16)) (C := RX4) (T := TX4) (N := 24) hx hb (dr_words hts d0) in_X4_learnAll_X4 hown hK hP 0 rfl rfl 20 (by decide) (dr_words hts d0 (.fieldLink RX4 59 "EchoBenchModel" "error" "[D") (by decide +kernel)) (fun _ h9 => h9) rfl dX4_learnAll_152 ?_
              refine lv_iload_n hx hb dX4_learnAll_155 rfl (lv_at hl 1 rfl) ?_
              refine va_daldJ (s := s.setDrawn d0) hx hb hK hP 6 1 rfl rfl (j := fx) rfl (by omega) (by decide) dX4_learnAll_156 ?_
              refine lv_dc0 hx hb dX4_learnAll_157 ?_
              refine lv_dcmp hx hb dX4_learnAll_158 ?_
              refine lv_if_le (tgt := 175) hx hb dX4_learnAll_159 (by decide) (fun c3 => ?_) (fun c3 => ?_)
              · skip
                rw [cl_le, dcmp_fO] at c3
                refine lv_aload_n hx hb dX4_learnAll_175 rfl (lv_at hl 0 rfl) ?_
                refine va_get (D := G) (ci := 4) (v := .ref (am 16)) (C := RX4) (T := TX4) (N := 24) hx hb (dr_words hts d0) in_X4_learnAll_X4 hown hK hP 0 rfl rfl 20 (by decide) (dr_words hts d0 (.fieldLink RX4 59 "EchoBenchModel" "error" "[D") (by decide +kernel)) (fun _ h9 => h9) rfl dX4_learnAll_176 ?_
                refine lv_iload_n hx hb dX4_learnAll_179 rfl (lv_at hl 1 rfl) ?_
                refine va_daldJ (s := s.setDrawn d0) hx hb hK hP 6 1 rfl rfl (j := fx) rfl (by omega) (by decide) dX4_learnAll_180 ?_
                refine lv_dc0 hx hb dX4_learnAll_181 ?_
                refine lv_dcmp hx hb dX4_learnAll_182 ?_
                refine lv_if_ge (tgt := 201) hx hb dX4_learnAll_183 (by decide) (fun c4 => ?_) (fun c4 => ?_)
                · skip
                  rw [cg_ge, dcmp_fO] at c4
                  refine lv_dc0 hx hb dX4_learnAll_201 ?_
                  have hPc := hP.sub (ws' := [(om, .inr (4, [.int th, .int sa, .ref (am 0), .ref (am 1), .double mi, .ref (am 2), .ref (am 3), .ref (am 4), .int fi, .ref (am 5), .ref (am 6), .ref (am 7), .ref (am 8), .ref (am 9), .ref (am 10), .ref (am 11), .ref (am 12), .ref (am 13), .ref (am 14), .ref (am 15), .ref (am 16), .ref (am 17), .ref (am 18), .ref (am 19)])), ((am 14), aD q 48 F)]) [0, 5] rfl
                  have hDc := hD.sub (ws' := [(om, .inr (4, [.int th, .int sa, .ref (am 0), .ref (am 1), .double mi, .ref (am 2), .ref (am 3), .ref (am 4), .int fi, .ref (am 5), .ref (am 6), .ref (am 7), .ref (am 8), .ref (am 9), .ref (am 10), .ref (am 11), .ref (am 12), .ref (am 13), .ref (am 14), .ref (am 15), .ref (am 16), .ref (am 17), .ref (am 18), .ref (am 19)])), ((am 14), aD q 48 F)]) [0, 5] (by decide) rfl
                  have hFc := va_free (wc := [(om, .inr (4, [.int th, .int sa, .ref (am 0), .ref (am 1), .double mi, .ref (am 2), .ref (am 3), .ref (am 4), .int fi, .ref (am 5), .ref (am 6), .ref (am 7), .ref (am 8), .ref (am 9), .ref (am 10), .ref (am 11), .ref (am 12), .ref (am 13), .ref (am 14), .ref (am 15), .ref (am 16), .ref (am 17), .ref (am 18), .ref (am 19)])), ((am 14), aD q 48 F)]) hD hS hA [0, 5] rfl
                  refine va_callvD hd0 (va_runV_D (As := [.int (nI fx), .int (nI j), .double 0]) (rest := []) ⟨hx, hb, hml, hown, (dr_words hts d0)⟩ (m_X4_learn l G q H.size om am th sa fi mi fx j 0 F hfx (by omega)) (cwV 3 (dr_words hts d0) gX4_learnAll_X4_learn rfl rfl rfl (by decide +kernel) ⟨Nat.le_of_ble_eq_true rfl, Nat.le_of_ble_eq_true rfl⟩) ⟨preW_blind, (va_recv hK hPc (ci := 4) (q0 := 0) rfl rfl), preW_start (s := s.setDrawn d0) hPc hK hDc (hNF.drawn d0)⟩ rfl rfl hl.1 rfl (lv_room (Nat.le_of_ble_eq_true rfl)) dX4_learnAll_202 ⟨(Nat.zero_le _), (Nat.zero_le _)⟩) hS (fun q _ h => hFc q h) hFc (fun u9 t9 H1 locs ht9 hv9 hw hB9 hz9 hk9 hS du7 hu7 => ?_)
                  obtain ⟨v5, rfl⟩ : ∃ z, z = u9 := ⟨_, rfl⟩
                  obtain ⟨hP1, hD1⟩ := hB9
                  rw [ht9] at hP1
                  obtain ⟨hP, hD⟩ := va_join (wr := [((am 1), aI q 8 xi), ((am 5), aI q 6 Ki), ((am 6), aI q 6 Ti), ((am 7), aI q 6 Si), ((am 16), aD q 6 Er)]) (w1 := [(om, .inr (4, [.int th, .int sa, .ref (am 0), .ref (am 1), .double mi, .ref (am 2), .ref (am 3), .ref (am 4), .int fi, .ref (am 5), .ref (am 6), .ref (am 7), .ref (am 8), .ref (am 9), .ref (am 10), .ref (am 11), .ref (am 12), .ref (am 13), .ref (am 14), .ref (am 15), .ref (am 16), .ref (am 17), .ref (am 18), .ref (am 19)])), ((am 14), aD q 48 (vf_upd F (8 * fx + j) v5))]) hP hD [0, 5] [1, 2, 3, 4, 6] rfl rfl (by decide) (by decide) hk9 hFc hP1 hD1
                  generalize H1 = H at hP hS ⊢
                  have hP : va_P G vwCl [((am 1), aI q 8 xi), ((am 5), aI q 6 Ki), ((am 6), aI q 6 Ti), ((am 7), aI q 6 Si), ((am 16), aD q 6 Er), (om, .inr (4, [.int th, .int sa, .ref (am 0), .ref (am 1), .double mi, .ref (am 2), .ref (am 3), .ref (am 4), .int fi, .ref (am 5), .ref (am 6), .ref (am 7), .ref (am 8), .ref (am 9), .ref (am 10), .ref (am 11), .ref (am 12), .ref (am 13), .ref (am 14), .ref (am 15), .ref (am 16), .ref (am 17), .ref (am 18), .ref (am 19)])), ((am 14), aD q 48 (vf_upd F (8 * fx + j) v5))] H := hP
                  have hD : va_D A [((am 1), aI q 8 xi), ((am 5), aI q 6 Ki), ((am 6), aI q 6 Ti), ((am 7), aI q 6 Si), ((am 16), aD q 6 Er), (om, .inr (4, [.int th, .int sa, .ref (am 0), .ref (am 1), .double mi, .ref (am 2), .ref (am 3), .ref (am 4), .int fi, .ref (am 5), .ref (am 6), .ref (am 7), .ref (am 8), .ref (am 9), .ref (am 10), .ref (am 11), .ref (am 12), .ref (am 13), .ref (am 14), .ref (am 15), .ref (am 16), .ref (am 17), .ref (am 18), .ref (am 19)])), ((am 14), aD q 48 (vf_upd F (8 * fx + j) v5))] := hD
                  have hv5 := hw
                  refine lv_iinc (v := nI (j + 1)) (lv' := [(6, .int (nI (j + 1))), (0, .ref om), (1, .int (nI fx)), (2, .double r1), (4, .double a)]) hx hb dX4_learnAll_205 hl (k := 4) rfl (nI_succ _).symm (by decide) rfl (fun ls hl => ?_)
                  refine lv_goto (tgt := 60) hx hb dX4_learnAll_208 (by decide) ?_
                  exact ih2 (j + 1) (vf_upd F (8 * fx + j) v5) (by omega) (wt_ups (g := fun i => sUp (dV (Wt (8 * fx + i))) (sLesM (Ki fx) (Si fx) (dV (Er fx)) (fI (xi i)) (sNorm n xi))) h1 (by rw [hv5, h2 j (Nat.le_refl _)]; show sUp _ _ = sUp _ _; congr 1; unfold sLesM; rw [if_neg c1, if_neg c2, if_neg c3, if_neg c4])) (wt_rest h2) (wt_out (by omega) h3) _ _ _ hu7 (hP.sub [5, 0, 1, 2, 3, 6, 4] rfl) (hD.sub [5, 0, 1, 2, 3, 6, 4] (by decide) rfl) hS ls (lv_sub hl [1, 2, 3, 4, 0] rfl)
                · skip
                  rw [cg_ge, dcmp_fO, Classical.not_not] at c4
                  refine lv_dc0 hx hb dX4_learnAll_186 ?_
                  refine lv_dload_n hx hb dX4_learnAll_187 rfl (lv_at hl 2 rfl) ?_
                  refine lv_aload_n hx hb dX4_learnAll_188 rfl (lv_at hl 0 rfl) ?_
                  refine va_get (D := G) (ci := 4) (v := .ref (am 1)) (C := RX4) (T := TX4) (N := 24) hx hb (dr_words hts d0) in_X4_learnAll_X4 hown hK hP 0 rfl rfl 3 (by decide) (dr_words hts d0 (.fieldLink RX4 13 "EchoBenchModel" "x" "[I") (by decide +kernel)) (fun _ h9 => h9) rfl dX4_learnAll_189 ?_
                  refine lv_iload hx hb dX4_learnAll_192 (lv_at hl 4 rfl) ?_
                  refine va_ialdJ (s := s.setDrawn d0) hx hb hK hP 1 0 rfl rfl (j := j) rfl (by omega) (by decide) dX4_learnAll_194 ?_
                  refine lv_i2d hx hb dX4_learnAll_195 ?_
                  refine lv_dmul_any hd0 lw_bits hx hb dX4_learnAll_196 (fun r8 dr8 ar8 hr8 => ?_)
                  have er8 := dV_mul ar8
                  refine lv_dsub_any hr8 lw_bits hx hb dX4_learnAll_197 (fun r9 dr9 ar9 hr9 => ?_)
                  have er9 := dV_sub ar9
                  refine lv_goto (tgt := 202) hx hb dX4_learnAll_198 (by decide) ?_
                  have hPc := hP.sub (ws' := [(om, .inr (4, [.int th, .int sa, .ref (am 0), .ref (am 1), .double mi, .ref (am 2), .ref (am 3), .ref (am 4), .int fi, .ref (am 5), .ref (am 6), .ref (am 7), .ref (am 8), .ref (am 9), .ref (am 10), .ref (am 11), .ref (am 12), .ref (am 13), .ref (am 14), .ref (am 15), .ref (am 16), .ref (am 17), .ref (am 18), .ref (am 19)])), ((am 14), aD q 48 F)]) [0, 5] rfl
                  have hDc := hD.sub (ws' := [(om, .inr (4, [.int th, .int sa, .ref (am 0), .ref (am 1), .double mi, .ref (am 2), .ref (am 3), .ref (am 4), .int fi, .ref (am 5), .ref (am 6), .ref (am 7), .ref (am 8), .ref (am 9), .ref (am 10), .ref (am 11), .ref (am 12), .ref (am 13), .ref (am 14), .ref (am 15), .ref (am 16), .ref (am 17), .ref (am 18), .ref (am 19)])), ((am 14), aD q 48 F)]) [0, 5] (by decide) rfl
                  have hFc := va_free (wc := [(om, .inr (4, [.int th, .int sa, .ref (am 0), .ref (am 1), .double mi, .ref (am 2), .ref (am 3), .ref (am 4), .int fi, .ref (am 5), .ref (am 6), .ref (am 7), .ref (am 8), .ref (am 9), .ref (am 10), .ref (am 11), .ref (am 12), .ref (am 13), .ref (am 14), .ref (am 15), .ref (am 16), .ref (am 17), .ref (am 18), .ref (am 19)])), ((am 14), aD q 48 F)]) hD hS hA [0, 5] rfl
                  refine va_callvD hr9 (va_runV_D (As := [.int (nI fx), .int (nI j), .double r9]) (rest := []) ⟨hx, hb, hml, hown, (dr_words hts dr9)⟩ (m_X4_learn l G q H.size om am th sa fi mi fx j r9 F hfx (by omega)) (cwV 3 (dr_words hts dr9) gX4_learnAll_X4_learn rfl rfl rfl (by decide +kernel) ⟨Nat.le_of_ble_eq_true rfl, Nat.le_of_ble_eq_true rfl⟩) ⟨preW_blind, (va_recv hK hPc (ci := 4) (q0 := 0) rfl rfl), preW_start (s := s.setDrawn dr9) hPc hK hDc (hNF.drawn dr9)⟩ rfl rfl hl.1 rfl (lv_room (Nat.le_of_ble_eq_true rfl)) dX4_learnAll_202 ⟨(Nat.zero_le _), (Nat.zero_le _)⟩) hS (fun q _ h => hFc q h) hFc (fun u9 t9 H1 locs ht9 hv9 hw hB9 hz9 hk9 hS du12 hu12 => ?_)
                  obtain ⟨v10, rfl⟩ : ∃ z, z = u9 := ⟨_, rfl⟩
                  obtain ⟨hP1, hD1⟩ := hB9
                  rw [ht9] at hP1
                  obtain ⟨hP, hD⟩ := va_join (wr := [((am 1), aI q 8 xi), ((am 5), aI q 6 Ki), ((am 6), aI q 6 Ti), ((am 7), aI q 6 Si), ((am 16), aD q 6 Er)]) (w1 := [(om, .inr (4, [.int th, .int sa, .ref (am 0), .ref (am 1), .double mi, .ref (am 2), .ref (am 3), .ref (am 4), .int fi, .ref (am 5), .ref (am 6), .ref (am 7), .ref (am 8), .ref (am 9), .ref (am 10), .ref (am 11), .ref (am 12), .ref (am 13), .ref (am 14), .ref (am 15), .ref (am 16), .ref (am 17), .ref (am 18), .ref (am 19)])), ((am 14), aD q 48 (vf_upd F (8 * fx + j) v10))]) hP hD [0, 5] [1, 2, 3, 4, 6] rfl rfl (by decide) (by decide) hk9 hFc hP1 hD1
                  generalize H1 = H at hP hS ⊢
                  have hP : va_P G vwCl [((am 1), aI q 8 xi), ((am 5), aI q 6 Ki), ((am 6), aI q 6 Ti), ((am 7), aI q 6 Si), ((am 16), aD q 6 Er), (om, .inr (4, [.int th, .int sa, .ref (am 0), .ref (am 1), .double mi, .ref (am 2), .ref (am 3), .ref (am 4), .int fi, .ref (am 5), .ref (am 6), .ref (am 7), .ref (am 8), .ref (am 9), .ref (am 10), .ref (am 11), .ref (am 12), .ref (am 13), .ref (am 14), .ref (am 15), .ref (am 16), .ref (am 17), .ref (am 18), .ref (am 19)])), ((am 14), aD q 48 (vf_upd F (8 * fx + j) v10))] H := hP
                  have hD : va_D A [((am 1), aI q 8 xi), ((am 5), aI q 6 Ki), ((am 6), aI q 6 Ti), ((am 7), aI q 6 Si), ((am 16), aD q 6 Er), (om, .inr (4, [.int th, .int sa, .ref (am 0), .ref (am 1), .double mi, .ref (am 2), .ref (am 3), .ref (am 4), .int fi, .ref (am 5), .ref (am 6), .ref (am 7), .ref (am 8), .ref (am 9), .ref (am 10), .ref (am 11), .ref (am 12), .ref (am 13), .ref (am 14), .ref (am 15), .ref (am 16), .ref (am 17), .ref (am 18), .ref (am 19)])), ((am 14), aD q 48 (vf_upd F (8 * fx + j) v10))] := hD
                  have hv10 := hw
                  refine lv_iinc (v := nI (j + 1)) (lv' := [(6, .int (nI (j + 1))), (0, .ref om), (1, .int (nI fx)), (2, .double r1), (4, .double a)]) hx hb dX4_learnAll_205 hl (k := 4) rfl (nI_succ _).symm (by decide) rfl (fun ls hl => ?_)
                  refine lv_goto (tgt := 60) hx hb dX4_learnAll_208 (by decide) ?_
                  exact ih2 (j + 1) (vf_upd F (8 * fx + j) v10) (by omega) (wt_ups (g := fun i => sUp (dV (Wt (8 * fx + i))) (sLesM (Ki fx) (Si fx) (dV (Er fx)) (fI (xi i)) (sNorm n xi))) h1 (by rw [hv10, h2 j (Nat.le_refl _)]; show sUp _ _ = sUp _ _; congr 1; unfold sLesM; rw [if_neg c1, if_neg c2, if_neg c3, if_pos c4, er9, er8, er1]; rfl)) (wt_rest h2) (wt_out (by omega) h3) _ _ _ hu12 (hP.sub [5, 0, 1, 2, 3, 6, 4] rfl) (hD.sub [5, 0, 1, 2, 3, 6, 4] (by decide) rfl) hS ls (lv_sub hl [1, 2, 3, 4, 0] rfl)
              · skip
                rw [cl_le, dcmp_fO, Classical.not_not] at c3
                refine lv_dload_n hx hb dX4_learnAll_162 rfl (lv_at hl 2 rfl) ?_
                refine lv_aload_n hx hb dX4_learnAll_163 rfl (lv_at hl 0 rfl) ?_
                refine va_get (D := G) (ci := 4) (v := .ref (am 1)) (C := RX4) (T := TX4) (N := 24) hx hb (dr_words hts d0) in_X4_learnAll_X4 hown hK hP 0 rfl rfl 3 (by decide) (dr_words hts d0 (.fieldLink RX4 13 "EchoBenchModel" "x" "[I") (by decide +kernel)) (fun _ h9 => h9) rfl dX4_learnAll_164 ?_
                refine lv_iload hx hb dX4_learnAll_167 (lv_at hl 4 rfl) ?_
                refine va_ialdJ (s := s.setDrawn d0) hx hb hK hP 1 0 rfl rfl (j := j) rfl (by omega) (by decide) dX4_learnAll_169 ?_
                refine lv_i2d hx hb dX4_learnAll_170 ?_
                refine lv_dmul_any hd0 lw_bits hx hb dX4_learnAll_171 (fun r13 dr13 ar13 hr13 => ?_)
                have er13 := dV_mul ar13
                refine lv_goto (tgt := 202) hx hb dX4_learnAll_172 (by decide) ?_
                have hPc := hP.sub (ws' := [(om, .inr (4, [.int th, .int sa, .ref (am 0), .ref (am 1), .double mi, .ref (am 2), .ref (am 3), .ref (am 4), .int fi, .ref (am 5), .ref (am 6), .ref (am 7), .ref (am 8), .ref (am 9), .ref (am 10), .ref (am 11), .ref (am 12), .ref (am 13), .ref (am 14), .ref (am 15), .ref (am 16), .ref (am 17), .ref (am 18), .ref (am 19)])), ((am 14), aD q 48 F)]) [0, 5] rfl
                have hDc := hD.sub (ws' := [(om, .inr (4, [.int th, .int sa, .ref (am 0), .ref (am 1), .double mi, .ref (am 2), .ref (am 3), .ref (am 4), .int fi, .ref (am 5), .ref (am 6), .ref (am 7), .ref (am 8), .ref (am 9), .ref (am 10), .ref (am 11), .ref (am 12), .ref (am 13), .ref (am 14), .ref (am 15), .ref (am 16), .ref (am 17), .ref (am 18), .ref (am 19)])), ((am 14), aD q 48 F)]) [0, 5] (by decide) rfl
                have hFc := va_free (wc := [(om, .inr (4, [.int th, .int sa, .ref (am 0), .ref (am 1), .double mi, .ref (am 2), .ref (am 3), .ref (am 4), .int fi, .ref (am 5), .ref (am 6), .ref (am 7), .ref (am 8), .ref (am 9), .ref (am 10), .ref (am 11), .ref (am 12), .ref (am 13), .ref (am 14), .ref (am 15), .ref (am 16), .ref (am 17), .ref (am 18), .ref (am 19)])), ((am 14), aD q 48 F)]) hD hS hA [0, 5] rfl
                refine va_callvD hr13 (va_runV_D (As := [.int (nI fx), .int (nI j), .double r13]) (rest := []) ⟨hx, hb, hml, hown, (dr_words hts dr13)⟩ (m_X4_learn l G q H.size om am th sa fi mi fx j r13 F hfx (by omega)) (cwV 3 (dr_words hts dr13) gX4_learnAll_X4_learn rfl rfl rfl (by decide +kernel) ⟨Nat.le_of_ble_eq_true rfl, Nat.le_of_ble_eq_true rfl⟩) ⟨preW_blind, (va_recv hK hPc (ci := 4) (q0 := 0) rfl rfl), preW_start (s := s.setDrawn dr13) hPc hK hDc (hNF.drawn dr13)⟩ rfl rfl hl.1 rfl (lv_room (Nat.le_of_ble_eq_true rfl)) dX4_learnAll_202 ⟨(Nat.zero_le _), (Nat.zero_le _)⟩) hS (fun q _ h => hFc q h) hFc (fun u9 t9 H1 locs ht9 hv9 hw hB9 hz9 hk9 hS du16 hu16 => ?_)
                obtain ⟨v14, rfl⟩ : ∃ z, z = u9 := ⟨_, rfl⟩
                obtain ⟨hP1, hD1⟩ := hB9
                rw [ht9] at hP1
                obtain ⟨hP, hD⟩ := va_join (wr := [((am 1), aI q 8 xi), ((am 5), aI q 6 Ki), ((am 6), aI q 6 Ti), ((am 7), aI q 6 Si), ((am 16), aD q 6 Er)]) (w1 := [(om, .inr (4, [.int th, .int sa, .ref (am 0), .ref (am 1), .double mi, .ref (am 2), .ref (am 3), .ref (am 4), .int fi, .ref (am 5), .ref (am 6), .ref (am 7), .ref (am 8), .ref (am 9), .ref (am 10), .ref (am 11), .ref (am 12), .ref (am 13), .ref (am 14), .ref (am 15), .ref (am 16), .ref (am 17), .ref (am 18), .ref (am 19)])), ((am 14), aD q 48 (vf_upd F (8 * fx + j) v14))]) hP hD [0, 5] [1, 2, 3, 4, 6] rfl rfl (by decide) (by decide) hk9 hFc hP1 hD1
                generalize H1 = H at hP hS ⊢
                have hP : va_P G vwCl [((am 1), aI q 8 xi), ((am 5), aI q 6 Ki), ((am 6), aI q 6 Ti), ((am 7), aI q 6 Si), ((am 16), aD q 6 Er), (om, .inr (4, [.int th, .int sa, .ref (am 0), .ref (am 1), .double mi, .ref (am 2), .ref (am 3), .ref (am 4), .int fi, .ref (am 5), .ref (am 6), .ref (am 7), .ref (am 8), .ref (am 9), .ref (am 10), .ref (am 11), .ref (am 12), .ref (am 13), .ref (am 14), .ref (am 15), .ref (am 16), .ref (am 17), .ref (am 18), .ref (am 19)])), ((am 14), aD q 48 (vf_upd F (8 * fx + j) v14))] H := hP
                have hD : va_D A [((am 1), aI q 8 xi), ((am 5), aI q 6 Ki), ((am 6), aI q 6 Ti), ((am 7), aI q 6 Si), ((am 16), aD q 6 Er), (om, .inr (4, [.int th, .int sa, .ref (am 0), .ref (am 1), .double mi, .ref (am 2), .ref (am 3), .ref (am 4), .int fi, .ref (am 5), .ref (am 6), .ref (am 7), .ref (am 8), .ref (am 9), .ref (am 10), .ref (am 11), .ref (am 12), .ref (am 13), .ref (am 14), .ref (am 15), .ref (am 16), .ref (am 17), .ref (am 18), .ref (am 19)])), ((am 14), aD q 48 (vf_upd F (8 * fx + j) v14))] := hD
                have hv14 := hw
                refine lv_iinc (v := nI (j + 1)) (lv' := [(6, .int (nI (j + 1))), (0, .ref om), (1, .int (nI fx)), (2, .double r1), (4, .double a)]) hx hb dX4_learnAll_205 hl (k := 4) rfl (nI_succ _).symm (by decide) rfl (fun ls hl => ?_)
                refine lv_goto (tgt := 60) hx hb dX4_learnAll_208 (by decide) ?_
                exact ih2 (j + 1) (vf_upd F (8 * fx + j) v14) (by omega) (wt_ups (g := fun i => sUp (dV (Wt (8 * fx + i))) (sLesM (Ki fx) (Si fx) (dV (Er fx)) (fI (xi i)) (sNorm n xi))) h1 (by rw [hv14, h2 j (Nat.le_refl _)]; show sUp _ _ = sUp _ _; congr 1; unfold sLesM; rw [if_neg c1, if_neg c2, if_pos c3, er13, er1]; rfl)) (wt_rest h2) (wt_out (by omega) h3) _ _ _ hu16 (hP.sub [5, 0, 1, 2, 3, 6, 4] rfl) (hD.sub [5, 0, 1, 2, 3, 6, 4] (by decide) rfl) hS ls (lv_sub hl [1, 2, 3, 4, 0] rfl)
            · skip
              refine lv_aload_n hx hb dX4_learnAll_117 rfl (lv_at hl 0 rfl) ?_
              refine lv_iload_n hx hb dX4_learnAll_118 rfl (lv_at hl 1 rfl) ?_
              refine lv_iload hx hb dX4_learnAll_119 (lv_at hl 4 rfl) ?_
              refine lv_dload_n hx hb dX4_learnAll_121 rfl (lv_at hl 2 rfl) ?_
              refine lv_aload_n hx hb dX4_learnAll_122 rfl (lv_at hl 0 rfl) ?_
              refine va_get (D := G) (ci := 4) (v := .ref (am 16)) (C := RX4) (T := TX4) (N := 24) hx hb (dr_words hts d0) in_X4_learnAll_X4 hown hK hP 0 rfl rfl 20 (by decide) (dr_words hts d0 (.fieldLink RX4 59 "EchoBenchModel" "error" "[D") (by decide +kernel)) (fun _ h9 => h9) rfl dX4_learnAll_123 ?_
              refine lv_iload_n hx hb dX4_learnAll_126 rfl (lv_at hl 1 rfl) ?_
              refine va_daldJ (s := s.setDrawn d0) hx hb hK hP 6 1 rfl rfl (j := fx) rfl (by omega) (by decide) dX4_learnAll_127 ?_
              refine lv_dmul_any hd0 lw_bits hx hb dX4_learnAll_128 (fun r17 dr17 ar17 hr17 => ?_)
              have er17 := dV_mul ar17
              refine lv_aload_n hx hb dX4_learnAll_129 rfl (lv_at hl 0 rfl) ?_
              refine va_get (D := G) (ci := 4) (v := .ref (am 1)) (C := RX4) (T := TX4) (N := 24) hx hb (dr_words hts dr17) in_X4_learnAll_X4 hown hK hP 0 rfl rfl 3 (by decide) (dr_words hts dr17 (.fieldLink RX4 13 "EchoBenchModel" "x" "[I") (by decide +kernel)) (fun _ h9 => h9) rfl dX4_learnAll_130 ?_
              refine lv_iload hx hb dX4_learnAll_133 (lv_at hl 4 rfl) ?_
              refine va_ialdJ (s := s.setDrawn dr17) hx hb hK hP 1 0 rfl rfl (j := j) rfl (by omega) (by decide) dX4_learnAll_135 ?_
              refine lv_i2d hx hb dX4_learnAll_136 ?_
              refine lv_dmul_any hr17 lw_bits hx hb dX4_learnAll_137 (fun r18 dr18 ar18 hr18 => ?_)
              have er18 := dV_mul ar18
              refine lv_dload hx hb dX4_learnAll_138 (lv_at hl 3 rfl) ?_
              refine lv_ddiv_any hr18 lw_bits hx hb dX4_learnAll_140 (fun r19 dr19 ar19 hr19 => ?_)
              have er19 := dV_div ar19
              have hPc := hP.sub (ws' := [(om, .inr (4, [.int th, .int sa, .ref (am 0), .ref (am 1), .double mi, .ref (am 2), .ref (am 3), .ref (am 4), .int fi, .ref (am 5), .ref (am 6), .ref (am 7), .ref (am 8), .ref (am 9), .ref (am 10), .ref (am 11), .ref (am 12), .ref (am 13), .ref (am 14), .ref (am 15), .ref (am 16), .ref (am 17), .ref (am 18), .ref (am 19)])), ((am 14), aD q 48 F)]) [0, 5] rfl
              have hDc := hD.sub (ws' := [(om, .inr (4, [.int th, .int sa, .ref (am 0), .ref (am 1), .double mi, .ref (am 2), .ref (am 3), .ref (am 4), .int fi, .ref (am 5), .ref (am 6), .ref (am 7), .ref (am 8), .ref (am 9), .ref (am 10), .ref (am 11), .ref (am 12), .ref (am 13), .ref (am 14), .ref (am 15), .ref (am 16), .ref (am 17), .ref (am 18), .ref (am 19)])), ((am 14), aD q 48 F)]) [0, 5] (by decide) rfl
              have hFc := va_free (wc := [(om, .inr (4, [.int th, .int sa, .ref (am 0), .ref (am 1), .double mi, .ref (am 2), .ref (am 3), .ref (am 4), .int fi, .ref (am 5), .ref (am 6), .ref (am 7), .ref (am 8), .ref (am 9), .ref (am 10), .ref (am 11), .ref (am 12), .ref (am 13), .ref (am 14), .ref (am 15), .ref (am 16), .ref (am 17), .ref (am 18), .ref (am 19)])), ((am 14), aD q 48 F)]) hD hS hA [0, 5] rfl
              refine va_callvD hr19 (va_runV_D (As := [.int (nI fx), .int (nI j), .double r19]) (rest := []) ⟨hx, hb, hml, hown, (dr_words hts dr19)⟩ (m_X4_learn l G q H.size om am th sa fi mi fx j r19 F hfx (by omega)) (cwV 3 (dr_words hts dr19) gX4_learnAll_X4_learn rfl rfl rfl (by decide +kernel) ⟨Nat.le_of_ble_eq_true rfl, Nat.le_of_ble_eq_true rfl⟩) ⟨preW_blind, (va_recv hK hPc (ci := 4) (q0 := 0) rfl rfl), preW_start (s := s.setDrawn dr19) hPc hK hDc (hNF.drawn dr19)⟩ rfl rfl hl.1 rfl (lv_room (Nat.le_of_ble_eq_true rfl)) dX4_learnAll_141 ⟨(Nat.zero_le _), (Nat.zero_le _)⟩) hS (fun q _ h => hFc q h) hFc (fun u9 t9 H1 locs ht9 hv9 hw hB9 hz9 hk9 hS du22 hu22 => ?_)
              obtain ⟨v20, rfl⟩ : ∃ z, z = u9 := ⟨_, rfl⟩
              obtain ⟨hP1, hD1⟩ := hB9
              rw [ht9] at hP1
              obtain ⟨hP, hD⟩ := va_join (wr := [((am 1), aI q 8 xi), ((am 5), aI q 6 Ki), ((am 6), aI q 6 Ti), ((am 7), aI q 6 Si), ((am 16), aD q 6 Er)]) (w1 := [(om, .inr (4, [.int th, .int sa, .ref (am 0), .ref (am 1), .double mi, .ref (am 2), .ref (am 3), .ref (am 4), .int fi, .ref (am 5), .ref (am 6), .ref (am 7), .ref (am 8), .ref (am 9), .ref (am 10), .ref (am 11), .ref (am 12), .ref (am 13), .ref (am 14), .ref (am 15), .ref (am 16), .ref (am 17), .ref (am 18), .ref (am 19)])), ((am 14), aD q 48 (vf_upd F (8 * fx + j) v20))]) hP hD [0, 5] [1, 2, 3, 4, 6] rfl rfl (by decide) (by decide) hk9 hFc hP1 hD1
              generalize H1 = H at hP hS ⊢
              have hP : va_P G vwCl [((am 1), aI q 8 xi), ((am 5), aI q 6 Ki), ((am 6), aI q 6 Ti), ((am 7), aI q 6 Si), ((am 16), aD q 6 Er), (om, .inr (4, [.int th, .int sa, .ref (am 0), .ref (am 1), .double mi, .ref (am 2), .ref (am 3), .ref (am 4), .int fi, .ref (am 5), .ref (am 6), .ref (am 7), .ref (am 8), .ref (am 9), .ref (am 10), .ref (am 11), .ref (am 12), .ref (am 13), .ref (am 14), .ref (am 15), .ref (am 16), .ref (am 17), .ref (am 18), .ref (am 19)])), ((am 14), aD q 48 (vf_upd F (8 * fx + j) v20))] H := hP
              have hD : va_D A [((am 1), aI q 8 xi), ((am 5), aI q 6 Ki), ((am 6), aI q 6 Ti), ((am 7), aI q 6 Si), ((am 16), aD q 6 Er), (om, .inr (4, [.int th, .int sa, .ref (am 0), .ref (am 1), .double mi, .ref (am 2), .ref (am 3), .ref (am 4), .int fi, .ref (am 5), .ref (am 6), .ref (am 7), .ref (am 8), .ref (am 9), .ref (am 10), .ref (am 11), .ref (am 12), .ref (am 13), .ref (am 14), .ref (am 15), .ref (am 16), .ref (am 17), .ref (am 18), .ref (am 19)])), ((am 14), aD q 48 (vf_upd F (8 * fx + j) v20))] := hD
              have hv20 := hw
              refine lv_goto (tgt := 205) hx hb dX4_learnAll_144 (by decide) ?_
              refine lv_iinc (v := nI (j + 1)) (lv' := [(6, .int (nI (j + 1))), (0, .ref om), (1, .int (nI fx)), (2, .double r1), (4, .double a)]) hx hb dX4_learnAll_205 hl (k := 4) rfl (nI_succ _).symm (by decide) rfl (fun ls hl => ?_)
              refine lv_goto (tgt := 60) hx hb dX4_learnAll_208 (by decide) ?_
              exact ih2 (j + 1) (vf_upd F (8 * fx + j) v20) (by omega) (wt_ups (g := fun i => sUp (dV (Wt (8 * fx + i))) (sLesM (Ki fx) (Si fx) (dV (Er fx)) (fI (xi i)) (sNorm n xi))) h1 (by rw [hv20, h2 j (Nat.le_refl _)]; show sUp _ _ = sUp _ _; congr 1; unfold sLesM; rw [if_neg c1, if_pos c2, er19, er18, er17, er1, hN]; rfl)) (wt_rest h2) (wt_out (by omega) h3) _ _ _ hu22 (hP.sub [5, 0, 1, 2, 3, 6, 4] rfl) (hD.sub [5, 0, 1, 2, 3, 6, 4] (by decide) rfl) hS ls (lv_sub hl [1, 2, 3, 4, 0] rfl)
          · skip
            refine lv_aload_n hx hb dX4_learnAll_80 rfl (lv_at hl 0 rfl) ?_
            refine lv_iload_n hx hb dX4_learnAll_81 rfl (lv_at hl 1 rfl) ?_
            refine lv_iload hx hb dX4_learnAll_82 (lv_at hl 4 rfl) ?_
            refine lv_dload_n hx hb dX4_learnAll_84 rfl (lv_at hl 2 rfl) ?_
            refine lv_aload_n hx hb dX4_learnAll_85 rfl (lv_at hl 0 rfl) ?_
            refine va_get (D := G) (ci := 4) (v := .ref (am 16)) (C := RX4) (T := TX4) (N := 24) hx hb (dr_words hts d0) in_X4_learnAll_X4 hown hK hP 0 rfl rfl 20 (by decide) (dr_words hts d0 (.fieldLink RX4 59 "EchoBenchModel" "error" "[D") (by decide +kernel)) (fun _ h9 => h9) rfl dX4_learnAll_86 ?_
            refine lv_iload_n hx hb dX4_learnAll_89 rfl (lv_at hl 1 rfl) ?_
            refine va_daldJ (s := s.setDrawn d0) hx hb hK hP 6 1 rfl rfl (j := fx) rfl (by omega) (by decide) dX4_learnAll_90 ?_
            refine lv_dmul_any hd0 lw_bits hx hb dX4_learnAll_91 (fun r23 dr23 ar23 hr23 => ?_)
            have er23 := dV_mul ar23
            refine lv_aload_n hx hb dX4_learnAll_92 rfl (lv_at hl 0 rfl) ?_
            refine va_get (D := G) (ci := 4) (v := .ref (am 1)) (C := RX4) (T := TX4) (N := 24) hx hb (dr_words hts dr23) in_X4_learnAll_X4 hown hK hP 0 rfl rfl 3 (by decide) (dr_words hts dr23 (.fieldLink RX4 13 "EchoBenchModel" "x" "[I") (by decide +kernel)) (fun _ h9 => h9) rfl dX4_learnAll_93 ?_
            refine lv_iload hx hb dX4_learnAll_96 (lv_at hl 4 rfl) ?_
            refine va_ialdJ (s := s.setDrawn dr23) hx hb hK hP 1 0 rfl rfl (j := j) rfl (by omega) (by decide) dX4_learnAll_98 ?_
            refine lv_i2d hx hb dX4_learnAll_99 ?_
            refine lv_dmul_any hr23 lw_bits hx hb dX4_learnAll_100 (fun r24 dr24 ar24 hr24 => ?_)
            have er24 := dV_mul ar24
            have hPc := hP.sub (ws' := [(om, .inr (4, [.int th, .int sa, .ref (am 0), .ref (am 1), .double mi, .ref (am 2), .ref (am 3), .ref (am 4), .int fi, .ref (am 5), .ref (am 6), .ref (am 7), .ref (am 8), .ref (am 9), .ref (am 10), .ref (am 11), .ref (am 12), .ref (am 13), .ref (am 14), .ref (am 15), .ref (am 16), .ref (am 17), .ref (am 18), .ref (am 19)])), ((am 14), aD q 48 F)]) [0, 5] rfl
            have hDc := hD.sub (ws' := [(om, .inr (4, [.int th, .int sa, .ref (am 0), .ref (am 1), .double mi, .ref (am 2), .ref (am 3), .ref (am 4), .int fi, .ref (am 5), .ref (am 6), .ref (am 7), .ref (am 8), .ref (am 9), .ref (am 10), .ref (am 11), .ref (am 12), .ref (am 13), .ref (am 14), .ref (am 15), .ref (am 16), .ref (am 17), .ref (am 18), .ref (am 19)])), ((am 14), aD q 48 F)]) [0, 5] (by decide) rfl
            have hFc := va_free (wc := [(om, .inr (4, [.int th, .int sa, .ref (am 0), .ref (am 1), .double mi, .ref (am 2), .ref (am 3), .ref (am 4), .int fi, .ref (am 5), .ref (am 6), .ref (am 7), .ref (am 8), .ref (am 9), .ref (am 10), .ref (am 11), .ref (am 12), .ref (am 13), .ref (am 14), .ref (am 15), .ref (am 16), .ref (am 17), .ref (am 18), .ref (am 19)])), ((am 14), aD q 48 F)]) hD hS hA [0, 5] rfl
            refine va_callvD hr24 (va_runV_D (As := [.int (nI fx), .int (nI j), .double r24]) (rest := []) ⟨hx, hb, hml, hown, (dr_words hts dr24)⟩ (m_X4_learn l G q H.size om am th sa fi mi fx j r24 F hfx (by omega)) (cwV 3 (dr_words hts dr24) gX4_learnAll_X4_learn rfl rfl rfl (by decide +kernel) ⟨Nat.le_of_ble_eq_true rfl, Nat.le_of_ble_eq_true rfl⟩) ⟨preW_blind, (va_recv hK hPc (ci := 4) (q0 := 0) rfl rfl), preW_start (s := s.setDrawn dr24) hPc hK hDc (hNF.drawn dr24)⟩ rfl rfl hl.1 rfl (lv_room (Nat.le_of_ble_eq_true rfl)) dX4_learnAll_101 ⟨(Nat.zero_le _), (Nat.zero_le _)⟩) hS (fun q _ h => hFc q h) hFc (fun u9 t9 H1 locs ht9 hv9 hw hB9 hz9 hk9 hS du27 hu27 => ?_)
            obtain ⟨v25, rfl⟩ : ∃ z, z = u9 := ⟨_, rfl⟩
            obtain ⟨hP1, hD1⟩ := hB9
            rw [ht9] at hP1
            obtain ⟨hP, hD⟩ := va_join (wr := [((am 1), aI q 8 xi), ((am 5), aI q 6 Ki), ((am 6), aI q 6 Ti), ((am 7), aI q 6 Si), ((am 16), aD q 6 Er)]) (w1 := [(om, .inr (4, [.int th, .int sa, .ref (am 0), .ref (am 1), .double mi, .ref (am 2), .ref (am 3), .ref (am 4), .int fi, .ref (am 5), .ref (am 6), .ref (am 7), .ref (am 8), .ref (am 9), .ref (am 10), .ref (am 11), .ref (am 12), .ref (am 13), .ref (am 14), .ref (am 15), .ref (am 16), .ref (am 17), .ref (am 18), .ref (am 19)])), ((am 14), aD q 48 (vf_upd F (8 * fx + j) v25))]) hP hD [0, 5] [1, 2, 3, 4, 6] rfl rfl (by decide) (by decide) hk9 hFc hP1 hD1
            generalize H1 = H at hP hS ⊢
            have hP : va_P G vwCl [((am 1), aI q 8 xi), ((am 5), aI q 6 Ki), ((am 6), aI q 6 Ti), ((am 7), aI q 6 Si), ((am 16), aD q 6 Er), (om, .inr (4, [.int th, .int sa, .ref (am 0), .ref (am 1), .double mi, .ref (am 2), .ref (am 3), .ref (am 4), .int fi, .ref (am 5), .ref (am 6), .ref (am 7), .ref (am 8), .ref (am 9), .ref (am 10), .ref (am 11), .ref (am 12), .ref (am 13), .ref (am 14), .ref (am 15), .ref (am 16), .ref (am 17), .ref (am 18), .ref (am 19)])), ((am 14), aD q 48 (vf_upd F (8 * fx + j) v25))] H := hP
            have hD : va_D A [((am 1), aI q 8 xi), ((am 5), aI q 6 Ki), ((am 6), aI q 6 Ti), ((am 7), aI q 6 Si), ((am 16), aD q 6 Er), (om, .inr (4, [.int th, .int sa, .ref (am 0), .ref (am 1), .double mi, .ref (am 2), .ref (am 3), .ref (am 4), .int fi, .ref (am 5), .ref (am 6), .ref (am 7), .ref (am 8), .ref (am 9), .ref (am 10), .ref (am 11), .ref (am 12), .ref (am 13), .ref (am 14), .ref (am 15), .ref (am 16), .ref (am 17), .ref (am 18), .ref (am 19)])), ((am 14), aD q 48 (vf_upd F (8 * fx + j) v25))] := hD
            have hv25 := hw
            refine lv_goto (tgt := 205) hx hb dX4_learnAll_104 (by decide) ?_
            refine lv_iinc (v := nI (j + 1)) (lv' := [(6, .int (nI (j + 1))), (0, .ref om), (1, .int (nI fx)), (2, .double r1), (4, .double a)]) hx hb dX4_learnAll_205 hl (k := 4) rfl (nI_succ _).symm (by decide) rfl (fun ls hl => ?_)
            refine lv_goto (tgt := 60) hx hb dX4_learnAll_208 (by decide) ?_
            exact ih2 (j + 1) (vf_upd F (8 * fx + j) v25) (by omega) (wt_ups (g := fun i => sUp (dV (Wt (8 * fx + i))) (sLesM (Ki fx) (Si fx) (dV (Er fx)) (fI (xi i)) (sNorm n xi))) h1 (by rw [hv25, h2 j (Nat.le_refl _)]; show sUp _ _ = sUp _ _; congr 1; unfold sLesM; rw [if_pos c1, er24, er23, er1]; rfl)) (wt_rest h2) (wt_out (by omega) h3) _ _ _ hu27 (hP.sub [5, 0, 1, 2, 3, 6, 4] rfl) (hD.sub [5, 0, 1, 2, 3, 6, 4] (by decide) rfl) hS ls (lv_sub hl [1, 2, 3, 4, 0] rfl)
      exact LOOP2 n 0 Wt (by omega) (fun j1 hj1 => absurd hj1 (by omega)) (fun _ _ => rfl) (fun _ _ => rfl) _ _ _ hd0 (hP.sub [0, 1, 2, 3, 4, 5, 6] rfl) (hD.sub [0, 1, 2, 3, 4, 5, 6] (by decide) rfl) hS ls (lv_sub hl [1, 2, 3, 4, 0] rfl)
    | succ k ih =>
      intro j a hj ha H locs d0 hd0 hP hD hS ls hl
      refine lv_iload hx hb dX4_learnAll_18 (lv_at hl 4 rfl) ?_
      refine lv_aload_n hx hb dX4_learnAll_20 rfl (lv_at hl 0 rfl) ?_
      refine va_get (D := G) (ci := 4) (v := .ref (am 6)) (C := RX4) (T := TX4) (N := 24) hx hb (dr_words hts d0) in_X4_learnAll_X4 hown hK hP 0 rfl rfl 10 (by decide) (dr_words hts d0 (.fieldLink RX4 29 "EchoBenchModel" "taps" "[I") (by decide +kernel)) (fun _ h9 => h9) rfl dX4_learnAll_21 ?_
      refine lv_iload_n hx hb dX4_learnAll_24 rfl (lv_at hl 1 rfl) ?_
      refine va_ialdJ (s := s.setDrawn d0) hx hb hK hP 3 0 rfl rfl (j := fx) rfl (by omega) (by decide) dX4_learnAll_25 ?_
      rw [hT]
      refine lv_icmp_ge (tgt := 57) hx hb dX4_learnAll_26 (by decide) (fun h => absurd h (nI_ge (by omega) (by omega))) (fun _ => ?_)
      refine lv_dload hx hb dX4_learnAll_29 (lv_at hl 3 rfl) ?_
      refine lv_aload_n hx hb dX4_learnAll_31 rfl (lv_at hl 0 rfl) ?_
      refine va_get (D := G) (ci := 4) (v := .ref (am 1)) (C := RX4) (T := TX4) (N := 24) hx hb (dr_words hts d0) in_X4_learnAll_X4 hown hK hP 0 rfl rfl 3 (by decide) (dr_words hts d0 (.fieldLink RX4 13 "EchoBenchModel" "x" "[I") (by decide +kernel)) (fun _ h9 => h9) rfl dX4_learnAll_32 ?_
      refine lv_iload hx hb dX4_learnAll_35 (lv_at hl 4 rfl) ?_
      refine va_ialdJ (s := s.setDrawn d0) hx hb hK hP 1 0 rfl rfl (j := j) rfl (by omega) (by decide) dX4_learnAll_37 ?_
      refine lv_i2d hx hb dX4_learnAll_38 ?_
      refine lv_aload_n hx hb dX4_learnAll_39 rfl (lv_at hl 0 rfl) ?_
      refine va_get (D := G) (ci := 4) (v := .ref (am 1)) (C := RX4) (T := TX4) (N := 24) hx hb (dr_words hts d0) in_X4_learnAll_X4 hown hK hP 0 rfl rfl 3 (by decide) (dr_words hts d0 (.fieldLink RX4 13 "EchoBenchModel" "x" "[I") (by decide +kernel)) (fun _ h9 => h9) rfl dX4_learnAll_40 ?_
      refine lv_iload hx hb dX4_learnAll_43 (lv_at hl 4 rfl) ?_
      refine va_ialdJ (s := s.setDrawn d0) hx hb hK hP 1 0 rfl rfl (j := j) rfl (by omega) (by decide) dX4_learnAll_45 ?_
      refine lv_i2d hx hb dX4_learnAll_46 ?_
      refine lv_dmul_any hd0 lw_bits hx hb dX4_learnAll_47 (fun r29 dr29 ar29 hr29 => ?_)
      have er29 := dV_mul ar29
      refine lv_dadd_any hr29 lw_bits hx hb dX4_learnAll_48 (fun r30 dr30 ar30 hr30 => ?_)
      have er30 := dV_add ar30
      refine lv_dstore (lv' := [(4, .double r30), (0, .ref om), (1, .int (nI fx)), (2, .double r1), (6, .int (nI j))]) hx hb dX4_learnAll_49 hl (by decide) rfl (fun ls hl => ?_)
      refine lv_iinc (v := nI (j + 1)) (lv' := [(6, .int (nI (j + 1))), (4, .double r30), (0, .ref om), (1, .int (nI fx)), (2, .double r1)]) hx hb dX4_learnAll_51 hl (k := 4) rfl (nI_succ _).symm (by decide) rfl (fun ls hl => ?_)
      refine lv_goto (tgt := 18) hx hb dX4_learnAll_54 (by decide) ?_
      exact ih (j + 1) r30 (by omega) (by rw [er30, er29, ha]; rfl) _ _ _ hr30 (hP.sub [0, 1, 2, 3, 4, 5, 6] rfl) (hD.sub [0, 1, 2, 3, 4, 5, 6] (by decide) rfl) hS ls (lv_sub hl [2, 3, 4, 1, 0] rfl)
  exact LOOP n 0 4607182418800017408 (by omega) rfl _ _ _ hr1 (hP.sub [0, 1, 2, 3, 4, 5, 6] rfl) (hD.sub [0, 1, 2, 3, 4, 5, 6] (by decide) rfl) hS ls (lv_sub hl [3, 4, 2, 1, 0] rfl)
