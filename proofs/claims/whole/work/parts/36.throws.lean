theorem at_X3_path_A : ∀ w ∈ (vx_atS RX3 41 exA exN).filter goodWord, w ∈ wsX3_path := by
  intro w h
  unfold wsX3_path
  refine List.mem_cons_of_mem _ ?_
  repeat (first | exact List.mem_append_right _ h | refine List.mem_append_left _ ?_)
theorem at_X3_path_O : ∀ w ∈ (vx_atS RX3 34 exO exN).filter goodWord, w ∈ wsX3_path := by
  intro w h
  unfold wsX3_path
  refine List.mem_cons_of_mem _ ?_
  repeat (first | exact List.mem_append_right _ h | refine List.mem_append_left _ ?_)
set_option maxHeartbeats 4000000 in
set_option maxRecDepth 100000 in
/-- path: where it throws -/
theorem m_X3_path_x (l : Launch) (G : va_G) (q : Nat → ClassId) (sz : Nat) (hst : l.stackTraces = false) (o3 o1 af nf : Nat) (xp xh : Int32) (hc : ¬ pathC xp xh = 0) : vx_Met l yX3_path wsX3_path ({ frames := 6, cells := 1, slots := 6, locals := 100 } : Jvm.Room) (PreX G q [.ref o3, .int xp, .int xh] [(o3, .inr (3, [.ref o1, .ref af, .int (nI nf)]))] sz) (va_Qi (fun (_ : Int32) (_ : Unit) => False) (fun _ _ => True) (va_A [(o3, .inr (3, [.ref o1, .ref af, .int (nI nf)]))] sz)) (vx_X (fun (_ : Unit) => True) (fun E _ t => E = exE1 (pathC xp xh) ∧ EndA G (va_A [(o3, .inr (3, [.ref o1, .ref af, .int (nI nf)]))] sz) [(o3, .inr (3, [.ref o1, .ref af, .int (nI nf)]))] t) (va_A [(o3, .inr (3, [.ref o1, .ref af, .int (nI nf)]))] sz)) 1 6 (va_A [(o3, .inr (3, [.ref o1, .ref af, .int (nI nf)]))] sz) := by
  refine vx_ofW (cc := cX3_path) (maxL := 3) (ret := (some .int)) (by decide +kernel) rfl ?_
  intro p e s m args below meth c s₁ B hml htb hv
  obtain ⟨⟨rfl, hsz, hP, hK, hD0, hNF⟩, hNT⟩ := hv
  have hx := B.exec
  have hb := B.bytes
  have hr := B.returns
  have hts := atoms_spec (ws := wsX3_path) B.pre
  have hown : s.vm.findClass RX3 = some m.cls := findClass_of_methodNamed B.named
  have hlocks := B.notSynchronized
  subst hsz
  have hD := hD0.self (sz := s.heap.size)
  generalize hAe : va_A [(o3, .inr (3, [.ref o1, .ref af, .int (nI nf)]))] s.heap.size = A at hD hNT ⊢
  have hA : ∀ q : Nat, s.heap.size ≤ q → A q := fun q h => by rw [← hAe]; exact Or.inr h
  have hS : va_S A s.heap s.heap [] := va_S.rf
  have hP : va_P G vwCl [(o3, .inr (3, [.ref o1, .ref af, .int (nI nf)]))] s.heap := hP
  have hl := lv_entry ([.ref o3, .int xp, .int xh]) (n := 3) (Nat.le_of_ble_eq_true rfl)
  rw [lg_entry_eq]
  generalize (lg_sl ([.ref o3, .int xp, .int xh]) ++ List.replicate (3 - (lg_sl ([.ref o3, .int xp, .int xh])).length) Slot.unset).toArray = ls at hl ⊢
  have hl : lv_has ls 3 [(0, .ref o3), (1, .int xp), (2, .int xh)] := hl
  refine lv_iload_n hx hb dX3_path_0 rfl (lv_at hl 1 rfl) ?_
  refine lv_iconst (v := 0) hx hb dX3_path_1 (by decide) ?_
  refine lv_bipush (v := 7) hx hb dX3_path_2 (by decide) ?_
  have hPc := hP.sub (ws' := []) [] rfl
  have hDc := hD.sub (ws' := []) [] (by decide) rfl
  have hFc := va_free (wc := []) hD hS hA [] rfl
  refine va_calli (va_runS (As := [.int xp, .int 0, .int 7]) (rest := []) ⟨hx, hb, hml, hown, hts⟩ (m_X3_isWithin l G q s.heap.size xp 0 7) (va_cwS 3 hts gX3_path_X3_isWithin rfl rfl rfl (by decide +kernel) ⟨Nat.le_of_ble_eq_true rfl, Nat.le_of_ble_eq_true rfl⟩) ⟨preW_blind, preW_start hPc hK hDc hNF⟩ rfl rfl hl.1 rfl (lv_room (Nat.le_of_ble_eq_true rfl)) dX3_path_4 ⟨(by show _ ≤ 1; omega), (by show _ ≤ 6; omega)⟩) hS (fun q _ h => hFc q h) hFc (fun ri1 u9 t9 H1 locs ht9 hv9 hw hB9 hz9 hk9 hS => ?_)
  obtain ⟨⟩ := u9
  obtain ⟨hP1, hD1⟩ := hB9
  rw [ht9] at hP1
  obtain ⟨hP, hD⟩ := va_join (wr := [(o3, .inr (3, [.ref o1, .ref af, .int (nI nf)]))]) (w1 := []) hP hD [] [0] rfl rfl (by decide) (by decide) hk9 hFc hP1 hD1
  generalize H1 = H at hP hS ⊢
  have hP : va_P G vwCl [(o3, .inr (3, [.ref o1, .ref af, .int (nI nf)]))] H := hP
  have hD : va_D A [(o3, .inr (3, [.ref o1, .ref af, .int (nI nf)]))] := hD
  by_cases ci3 : 0 ≤ xp ∧ xp ≤ 7
  rotate_left
  · skip
    obtain rfl : ri1 = 0 := hw.trans (if_neg ci3)
    refine lv_if_ne (tgt := 20) hx hb dX3_path_7 (by decide) (fun h => absurd (by decide) h) (fun _ => ?_)
    obtain ⟨sa, hstr⟩ := hNT.1 (32, "no such place") (by decide)
    exact vx_throwS hx hb hst (own := RX3) (cls := exO) (text := "no such place") (names := exN) (ik := 30) (is := 32) (ic := 34) (A := A) hown (by decide +kernel) (by decide +kernel) (hts (.classLink RX3 30 exO) (by decide +kernel)) (hts (.initialized exO) (by decide +kernel)) hstr (vx_hat (fun w hw => hts w (at_X3_path_O w hw)) at_bO (NT.bad hNT)) at_oO hNT.2.2.1 hNT.2.2.2 hS (hl.1.trans hml.symm) dX3_path_10 dX3_path_13 dX3_path_14 dX3_path_16 dX3_path_19 (fun x hx => (htb x hx).elim) (Nat.le_of_ble_eq_true rfl) (Nat.le_of_ble_eq_true rfl) (Nat.le_of_ble_eq_true rfl) (Nat.le_of_ble_eq_true rfl) hlocks (fun t hv1 h1 h2 => ⟨(), trivial, ⟨(by unfold pathC; rw [if_neg ci3]; rfl), hP.kept (fun k x hk => h2 x.1 (hP k x hk).lt), hD⟩, Nat.le_trans hS.1 h1, fun z hz hA2 => (h2 z (Nat.lt_of_lt_of_le hz hS.1)).trans (hS.2.1 z hz hA2)⟩) hS.2.2 (Nat.le_of_ble_eq_true rfl) (Nat.le_of_ble_eq_true rfl)
  obtain rfl : ri1 = 1 := hw.trans (if_pos ci3)
  refine lv_if_ne (tgt := 20) hx hb dX3_path_7 (by decide) (fun _ => ?_) (fun h => absurd h (by decide))
  refine lv_iload_n hx hb dX3_path_20 rfl (lv_at hl 2 rfl) ?_
  refine lv_sipush (v := (-1000)) hx hb dX3_path_21 (by decide) ?_
  refine lv_sipush (v := 1000) hx hb dX3_path_24 (by decide) ?_
  have hPc := hP.sub (ws' := []) [] rfl
  have hDc := hD.sub (ws' := []) [] (by decide) rfl
  have hFc := va_free (wc := []) hD hS hA [] rfl
  refine va_calli (va_runS (As := [.int xh, .int (-1000), .int 1000]) (rest := []) ⟨hx, hb, hml, hown, hts⟩ (m_X3_isWithin l G q H.size xh (-1000) 1000) (va_cwS 3 hts gX3_path_X3_isWithin rfl rfl rfl (by decide +kernel) ⟨Nat.le_of_ble_eq_true rfl, Nat.le_of_ble_eq_true rfl⟩) ⟨preW_blind, preW_start hPc hK hDc hNF⟩ rfl rfl hl.1 rfl (lv_room (Nat.le_of_ble_eq_true rfl)) dX3_path_27 ⟨(by show _ ≤ 1; omega), (by show _ ≤ 6; omega)⟩) hS (fun q _ h => hFc q h) hFc (fun ri6 u9 t9 H1 locs ht9 hv9 hw hB9 hz9 hk9 hS => ?_)
  obtain ⟨⟩ := u9
  obtain ⟨hP1, hD1⟩ := hB9
  rw [ht9] at hP1
  obtain ⟨hP, hD⟩ := va_join (wr := [(o3, .inr (3, [.ref o1, .ref af, .int (nI nf)]))]) (w1 := []) hP hD [] [0] rfl rfl (by decide) (by decide) hk9 hFc hP1 hD1
  generalize H1 = H at hP hS ⊢
  have hP : va_P G vwCl [(o3, .inr (3, [.ref o1, .ref af, .int (nI nf)]))] H := hP
  have hD : va_D A [(o3, .inr (3, [.ref o1, .ref af, .int (nI nf)]))] := hD
  by_cases ci8 : (-1000) ≤ xh ∧ xh ≤ 1000
  rotate_left
  · skip
    obtain rfl : ri6 = 0 := hw.trans (if_neg ci8)
    refine lv_if_ne (tgt := 43) hx hb dX3_path_30 (by decide) (fun h => absurd (by decide) h) (fun _ => ?_)
    obtain ⟨sa, hstr⟩ := hNT.1 (39, "hundredths out of range") (by decide)
    exact vx_throwS hx hb hst (own := RX3) (cls := exA) (text := "hundredths out of range") (names := exN) (ik := 37) (is := 39) (ic := 41) (A := A) hown (by decide +kernel) (by decide +kernel) (hts (.classLink RX3 37 exA) (by decide +kernel)) (hts (.initialized exA) (by decide +kernel)) hstr (vx_hat (fun w hw => hts w (at_X3_path_A w hw)) at_bA (NT.bad hNT)) at_oA hNT.2.2.1 hNT.2.2.2 hS (hl.1.trans hml.symm) dX3_path_33 dX3_path_36 dX3_path_37 dX3_path_39 dX3_path_42 (fun x hx => (htb x hx).elim) (Nat.le_of_ble_eq_true rfl) (Nat.le_of_ble_eq_true rfl) (Nat.le_of_ble_eq_true rfl) (Nat.le_of_ble_eq_true rfl) hlocks (fun t hv1 h1 h2 => ⟨(), trivial, ⟨(by unfold pathC; rw [if_pos ci3, if_neg ci8]; rfl), hP.kept (fun k x hk => h2 x.1 (hP k x hk).lt), hD⟩, Nat.le_trans hS.1 h1, fun z hz hA2 => (h2 z (Nat.lt_of_lt_of_le hz hS.1)).trans (hS.2.1 z hz hA2)⟩) hS.2.2 (Nat.le_of_ble_eq_true rfl) (Nat.le_of_ble_eq_true rfl)
  obtain rfl : ri6 = 1 := hw.trans (if_pos ci8)
  refine lv_if_ne (tgt := 43) hx hb dX3_path_30 (by decide) (fun _ => ?_) (fun h => absurd h (by decide))
  refine lv_aload_n hx hb dX3_path_43 rfl (lv_at hl 0 rfl) ?_
  refine va_get (D := G) (ci := 3) (v := .ref o1) (C := RX3) (T := TX3) (N := 3) hx hb hts in_X3_path_X3 hown hK hP 0 rfl rfl 0 (by decide) (hts (.fieldLink RX3 10 "EchoBench" "samples" "LEchoBench$Samples;") (by decide +kernel)) (fun _ h9 => h9) rfl dX3_path_44 ?_
  refine lv_iload_n hx hb dX3_path_47 rfl (lv_at hl 1 rfl) ?_
  refine lv_iload_n hx hb dX3_path_48 rfl (lv_at hl 2 rfl) ?_
  exact absurd (by unfold pathC; rw [if_pos ci3, if_pos ci8]) hc
