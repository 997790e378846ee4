theorem in_X1_init_X1 : ∀ w ∈ wsX10, w ∈ wsX1_init := by decide +kernel
set_option maxHeartbeats 4000000 in
set_option maxRecDepth 100000 in
/-- the constructor of Samples -/
theorem m_X1_init (l : Launch) (G : va_G) (q : Nat → ClassId) (sz : Nat) (o1 : Nat)  : Met l yX1_init wsX1_init ({ frames := 2, cells := 5, slots := 64, locals := 40 } : Jvm.Room) (PreW G q [.ref o1] [(o1, .inr (1, [.null, .null, .null, .null, .null, .double 0, .int 0]))] sz) (va_Qv (fun (_ : Nat → Nat) => True) (fun (u : Nat → Nat) t => EndA G (va_A [(o1, .inr (1, [.null, .null, .null, .null, .null, .double 0, .int 0]))] sz) [(o1, .inr (1, [.ref (u 0), .ref (u 1), .ref (u 2), .ref (u 3), .ref (u 4), .double 0, .int 0])), (u 0, aI q 8 (fun _ => 0)), (u 1, aD q 8 (fun _ => FP.i2d 0)), (u 2, aD q 16 (fun _ => FP.i2d 0)), (u 3, aD q 16 (fun _ => FP.i2d 0)), (u 4, aD q 16 (fun _ => 0))] t) (va_A [(o1, .inr (1, [.null, .null, .null, .null, .null, .double 0, .int 0]))] sz)) 5 64 (va_A [(o1, .inr (1, [.null, .null, .null, .null, .null, .double 0, .int 0]))] sz) := by
  refine Met.ofW (cc := cX1_init) (maxL := 1) (ret := none) (by decide +kernel) rfl ?_
  intro p e s m args below meth c s₁ B hml hv
  obtain ⟨rfl, hsz, hP, hK, hD0, hNF⟩ := hv
  have hx := B.exec
  have hb := B.bytes
  have hr := B.returns
  have hts := atoms_spec (ws := wsX1_init) B.pre
  have hown : s.vm.findClass RX1 = some m.cls := findClass_of_methodNamed B.named
  have hlocks := B.notSynchronized
  have hin : meth.name = "<init>" := (name_of_methodNamed B.named B.method).1
  subst hsz
  have hD := hD0.self (sz := s.heap.size)
  generalize hAe : va_A [(o1, .inr (1, [.null, .null, .null, .null, .null, .double 0, .int 0]))] s.heap.size = A at hD ⊢
  have hA : ∀ q : Nat, s.heap.size ≤ q → A q := fun q h => by rw [← hAe]; exact Or.inr h
  have hS : va_S A s.heap s.heap [] := va_S.rf
  have hP : va_P G vwCl [(o1, .inr (1, [.null, .null, .null, .null, .null, .double 0, .int 0]))] s.heap := hP
  have hl := lv_entry ([.ref o1]) (n := 1) (Nat.le_of_ble_eq_true rfl)
  rw [lg_entry_eq]
  generalize (lg_sl ([.ref o1]) ++ List.replicate (1 - (lg_sl ([.ref o1])).length) Slot.unset).toArray = ls at hl ⊢
  have hl : lv_has ls 1 [(0, .ref o1)] := hl
  refine lv_aload_n hx hb dX1_init_0 rfl (lv_at hl 0 rfl) ?_
  refine W.objInit hx hb hown (hts (.methodLink RX1 3 objectInit) (by decide +kernel)) (hts (.instanceMethod objectInit) (by decide +kernel)) (hts _ (List.mem_cons_of_mem _ (List.mem_append_left _ (List.mem_of_getElem? (i := 2) rfl)))) rfl (by rw [hml]; exact hl.1) rfl dX1_init_1 (Nat.le_of_ble_eq_true rfl) (Nat.le_of_ble_eq_true rfl) ?_
  refine W.eq (g2 := F0 m 4 ls []) rfl ?_
  refine lv_aload_n hx hb dX1_init_4 rfl (lv_at hl 0 rfl) ?_
  refine lv_bipush (v := 8) hx hb dX1_init_5 (by decide) ?_
  refine va_newa (atype := .int) hx hb (hts (.arrayClass .int) (by decide +kernel)) (ty := .int) rfl (s := s) hK hP hD hS hA (a0 := (8, .inl (fun _ => 0))) (fun _ => rfl) (by decide) rfl (by show 8 * 4 ≤ 536870912; omega) (by show _ ≤ 5; omega) (by show _ ≤ 64; omega) dX1_init_7 (fun y1 cA H hK1 hP hD hS => ?_)
  have hcA : cA = q 0 := ra_I hK hK1
  subst hcA
  have hP : va_P G vwCl [(o1, .inr (1, [.null, .null, .null, .null, .null, .double 0, .int 0])), (y1, aI q 8 (fun _ => 0))] H := hP
  have hD : va_D A [(o1, .inr (1, [.null, .null, .null, .null, .null, .double 0, .int 0])), (y1, aI q 8 (fun _ => 0))] := hD
  refine va_putF (D := G) (ci := 1) (v := .ref y1) (ty := (tyX1 0)) (C := RX1) (T := TX1) (N := 7) hx hb hts in_X1_init_X1 tyX1 tyX1_ok nmX1 hown hK hP hD hS 0 rfl rfl 0 (by decide) (hts (.fieldLink RX1 9 "EchoBench$Samples" "pathHundredths" "[I") (by decide +kernel)) (fun _ h9 => h9) rfl hin rfl (by decide +kernel) rfl rfl (Nat.le_of_ble_eq_true rfl) dX1_init_9 (fun H locs hP hD hS => ?_)
  have hP : va_P G vwCl [(o1, .inr (1, [.ref y1, .null, .null, .null, .null, .double 0, .int 0])), (y1, aI q 8 (fun _ => 0))] H := hP
  have hD : va_D A [(o1, .inr (1, [.ref y1, .null, .null, .null, .null, .double 0, .int 0])), (y1, aI q 8 (fun _ => 0))] := hD
  refine lv_aload_n hx hb dX1_init_12 rfl (lv_at hl 0 rfl) ?_
  refine lv_bipush (v := 8) hx hb dX1_init_13 (by decide) ?_
  refine va_newa (atype := .double) hx hb (hts (.arrayClass .double) (by decide +kernel)) (ty := .double) rfl (s := s) hK hP hD hS hA (a0 := (8, .inr (.inr (.inr (.inl (fun _ => 0)))))) (fun _ => rfl) (by decide) rfl (by show 8 * 8 ≤ 536870912; omega) (by show _ ≤ 5; omega) (by show _ ≤ 64; omega) dX1_init_15 (fun y2 cA H hK1 hP hD hS => ?_)
  have hcA : cA = q 1 := ra_D hK hK1
  subst hcA
  have hP : va_P G vwCl [(o1, .inr (1, [.ref y1, .null, .null, .null, .null, .double 0, .int 0])), (y1, aI q 8 (fun _ => 0)), (y2, aD q 8 (fun _ => 0))] H := hP
  have hD : va_D A [(o1, .inr (1, [.ref y1, .null, .null, .null, .null, .double 0, .int 0])), (y1, aI q 8 (fun _ => 0)), (y2, aD q 8 (fun _ => 0))] := hD
  refine va_putF (D := G) (ci := 1) (v := .ref y2) (ty := (tyX1 1)) (C := RX1) (T := TX1) (N := 7) hx hb hts in_X1_init_X1 tyX1 tyX1_ok nmX1 hown hK hP hD hS 0 rfl rfl 1 (by decide) (hts (.fieldLink RX1 15 "EchoBench$Samples" "xs" "[D") (by decide +kernel)) (fun _ h9 => h9) rfl hin rfl (by decide +kernel) rfl rfl (Nat.le_of_ble_eq_true rfl) dX1_init_17 (fun H locs hP hD hS => ?_)
  have hP : va_P G vwCl [(o1, .inr (1, [.ref y1, .ref y2, .null, .null, .null, .double 0, .int 0])), (y1, aI q 8 (fun _ => 0)), (y2, aD q 8 (fun _ => 0))] H := hP
  have hD : va_D A [(o1, .inr (1, [.ref y1, .ref y2, .null, .null, .null, .double 0, .int 0])), (y1, aI q 8 (fun _ => 0)), (y2, aD q 8 (fun _ => 0))] := hD
  refine lv_aload_n hx hb dX1_init_20 rfl (lv_at hl 0 rfl) ?_
  refine lv_bipush (v := 16) hx hb dX1_init_21 (by decide) ?_
  refine va_newa (atype := .double) hx hb (hts (.arrayClass .double) (by decide +kernel)) (ty := .double) rfl (s := s) hK hP hD hS hA (a0 := (16, .inr (.inr (.inr (.inl (fun _ => 0)))))) (fun _ => rfl) (by decide) rfl (by show 16 * 8 ≤ 536870912; omega) (by show _ ≤ 5; omega) (by show _ ≤ 64; omega) dX1_init_23 (fun y3 cA H hK1 hP hD hS => ?_)
  have hcA : cA = q 1 := ra_D hK hK1
  subst hcA
  have hP : va_P G vwCl [(o1, .inr (1, [.ref y1, .ref y2, .null, .null, .null, .double 0, .int 0])), (y1, aI q 8 (fun _ => 0)), (y2, aD q 8 (fun _ => 0)), (y3, aD q 16 (fun _ => 0))] H := hP
  have hD : va_D A [(o1, .inr (1, [.ref y1, .ref y2, .null, .null, .null, .double 0, .int 0])), (y1, aI q 8 (fun _ => 0)), (y2, aD q 8 (fun _ => 0)), (y3, aD q 16 (fun _ => 0))] := hD
  refine va_putF (D := G) (ci := 1) (v := .ref y3) (ty := (tyX1 2)) (C := RX1) (T := TX1) (N := 7) hx hb hts in_X1_init_X1 tyX1 tyX1_ok nmX1 hown hK hP hD hS 0 rfl rfl 2 (by decide) (hts (.fieldLink RX1 19 "EchoBench$Samples" "latestX0" "[D") (by decide +kernel)) (fun _ h9 => h9) rfl hin rfl (by decide +kernel) rfl rfl (Nat.le_of_ble_eq_true rfl) dX1_init_25 (fun H locs hP hD hS => ?_)
  have hP : va_P G vwCl [(o1, .inr (1, [.ref y1, .ref y2, .ref y3, .null, .null, .double 0, .int 0])), (y1, aI q 8 (fun _ => 0)), (y2, aD q 8 (fun _ => 0)), (y3, aD q 16 (fun _ => 0))] H := hP
  have hD : va_D A [(o1, .inr (1, [.ref y1, .ref y2, .ref y3, .null, .null, .double 0, .int 0])), (y1, aI q 8 (fun _ => 0)), (y2, aD q 8 (fun _ => 0)), (y3, aD q 16 (fun _ => 0))] := hD
  refine lv_aload_n hx hb dX1_init_28 rfl (lv_at hl 0 rfl) ?_
  refine lv_bipush (v := 16) hx hb dX1_init_29 (by decide) ?_
  refine va_newa (atype := .double) hx hb (hts (.arrayClass .double) (by decide +kernel)) (ty := .double) rfl (s := s) hK hP hD hS hA (a0 := (16, .inr (.inr (.inr (.inl (fun _ => 0)))))) (fun _ => rfl) (by decide) rfl (by show 16 * 8 ≤ 536870912; omega) (by show _ ≤ 5; omega) (by show _ ≤ 64; omega) dX1_init_31 (fun y4 cA H hK1 hP hD hS => ?_)
  have hcA : cA = q 1 := ra_D hK hK1
  subst hcA
  have hP : va_P G vwCl [(o1, .inr (1, [.ref y1, .ref y2, .ref y3, .null, .null, .double 0, .int 0])), (y1, aI q 8 (fun _ => 0)), (y2, aD q 8 (fun _ => 0)), (y3, aD q 16 (fun _ => 0)), (y4, aD q 16 (fun _ => 0))] H := hP
  have hD : va_D A [(o1, .inr (1, [.ref y1, .ref y2, .ref y3, .null, .null, .double 0, .int 0])), (y1, aI q 8 (fun _ => 0)), (y2, aD q 8 (fun _ => 0)), (y3, aD q 16 (fun _ => 0)), (y4, aD q 16 (fun _ => 0))] := hD
  refine va_putF (D := G) (ci := 1) (v := .ref y4) (ty := (tyX1 3)) (C := RX1) (T := TX1) (N := 7) hx hb hts in_X1_init_X1 tyX1 tyX1_ok nmX1 hown hK hP hD hS 0 rfl rfl 3 (by decide) (hts (.fieldLink RX1 22 "EchoBench$Samples" "latestX1" "[D") (by decide +kernel)) (fun _ h9 => h9) rfl hin rfl (by decide +kernel) rfl rfl (Nat.le_of_ble_eq_true rfl) dX1_init_33 (fun H locs hP hD hS => ?_)
  have hP : va_P G vwCl [(o1, .inr (1, [.ref y1, .ref y2, .ref y3, .ref y4, .null, .double 0, .int 0])), (y1, aI q 8 (fun _ => 0)), (y2, aD q 8 (fun _ => 0)), (y3, aD q 16 (fun _ => 0)), (y4, aD q 16 (fun _ => 0))] H := hP
  have hD : va_D A [(o1, .inr (1, [.ref y1, .ref y2, .ref y3, .ref y4, .null, .double 0, .int 0])), (y1, aI q 8 (fun _ => 0)), (y2, aD q 8 (fun _ => 0)), (y3, aD q 16 (fun _ => 0)), (y4, aD q 16 (fun _ => 0))] := hD
  refine lv_aload_n hx hb dX1_init_36 rfl (lv_at hl 0 rfl) ?_
  refine lv_bipush (v := 16) hx hb dX1_init_37 (by decide) ?_
  refine va_newa (atype := .double) hx hb (hts (.arrayClass .double) (by decide +kernel)) (ty := .double) rfl (s := s) hK hP hD hS hA (a0 := (16, .inr (.inr (.inr (.inl (fun _ => 0)))))) (fun _ => rfl) (by decide) rfl (by show 16 * 8 ≤ 536870912; omega) (by show _ ≤ 5; omega) (by show _ ≤ 64; omega) dX1_init_39 (fun y5 cA H hK1 hP hD hS => ?_)
  have hcA : cA = q 1 := ra_D hK hK1
  subst hcA
  have hP : va_P G vwCl [(o1, .inr (1, [.ref y1, .ref y2, .ref y3, .ref y4, .null, .double 0, .int 0])), (y1, aI q 8 (fun _ => 0)), (y2, aD q 8 (fun _ => 0)), (y3, aD q 16 (fun _ => 0)), (y4, aD q 16 (fun _ => 0)), (y5, aD q 16 (fun _ => 0))] H := hP
  have hD : va_D A [(o1, .inr (1, [.ref y1, .ref y2, .ref y3, .ref y4, .null, .double 0, .int 0])), (y1, aI q 8 (fun _ => 0)), (y2, aD q 8 (fun _ => 0)), (y3, aD q 16 (fun _ => 0)), (y4, aD q 16 (fun _ => 0)), (y5, aD q 16 (fun _ => 0))] := hD
  refine va_putF (D := G) (ci := 1) (v := .ref y5) (ty := (tyX1 4)) (C := RX1) (T := TX1) (N := 7) hx hb hts in_X1_init_X1 tyX1 tyX1_ok nmX1 hown hK hP hD hS 0 rfl rfl 4 (by decide) (hts (.fieldLink RX1 25 "EchoBench$Samples" "latestMicrophone" "[D") (by decide +kernel)) (fun _ h9 => h9) rfl hin rfl (by decide +kernel) rfl rfl (Nat.le_of_ble_eq_true rfl) dX1_init_41 (fun H locs hP hD hS => ?_)
  have hP : va_P G vwCl [(o1, .inr (1, [.ref y1, .ref y2, .ref y3, .ref y4, .ref y5, .double 0, .int 0])), (y1, aI q 8 (fun _ => 0)), (y2, aD q 8 (fun _ => 0)), (y3, aD q 16 (fun _ => 0)), (y4, aD q 16 (fun _ => 0)), (y5, aD q 16 (fun _ => 0))] H := hP
  have hD : va_D A [(o1, .inr (1, [.ref y1, .ref y2, .ref y3, .ref y4, .ref y5, .double 0, .int 0])), (y1, aI q 8 (fun _ => 0)), (y2, aD q 8 (fun _ => 0)), (y3, aD q 16 (fun _ => 0)), (y4, aD q 16 (fun _ => 0)), (y5, aD q 16 (fun _ => 0))] := hD
  refine lv_aload_n hx hb dX1_init_44 rfl (lv_at hl 0 rfl) ?_
  refine lv_dc0 hx hb dX1_init_45 ?_
  refine va_put (D := G) (ci := 1) (v := .double 0) (ty := .double) (C := RX1) (T := TX1) (N := 7) hx hb hts in_X1_init_X1 tyX1 tyX1_ok nmX1 hown hK hP hD hS 0 rfl rfl 5 (by decide) (hts (.fieldLink RX1 28 "EchoBench$Samples" "lastMicrophone" "D") (by decide +kernel)) (fun _ h9 => h9) rfl (by decide +kernel) rfl rfl (Nat.le_of_ble_eq_true rfl) dX1_init_46 (fun H locs hP hD hS => ?_)
  have hP : va_P G vwCl [(o1, .inr (1, [.ref y1, .ref y2, .ref y3, .ref y4, .ref y5, .double 0, .int 0])), (y1, aI q 8 (fun _ => 0)), (y2, aD q 8 (fun _ => 0)), (y3, aD q 16 (fun _ => 0)), (y4, aD q 16 (fun _ => 0)), (y5, aD q 16 (fun _ => 0))] H := hP
  have hD : va_D A [(o1, .inr (1, [.ref y1, .ref y2, .ref y3, .ref y4, .ref y5, .double 0, .int 0])), (y1, aI q 8 (fun _ => 0)), (y2, aD q 8 (fun _ => 0)), (y3, aD q 16 (fun _ => 0)), (y4, aD q 16 (fun _ => 0)), (y5, aD q 16 (fun _ => 0))] := hD
  refine lv_aload_n hx hb dX1_init_49 rfl (lv_at hl 0 rfl) ?_
  refine lv_iconst (v := 0) hx hb dX1_init_50 (by decide) ?_
  refine va_put (D := G) (ci := 1) (v := .int 0) (ty := .int) (C := RX1) (T := TX1) (N := 7) hx hb hts in_X1_init_X1 tyX1 tyX1_ok nmX1 hown hK hP hD hS 0 rfl rfl 6 (by decide) (hts (.fieldLink RX1 32 "EchoBench$Samples" "taken" "I") (by decide +kernel)) (fun _ h9 => h9) rfl (by decide +kernel) rfl rfl (Nat.le_of_ble_eq_true rfl) dX1_init_51 (fun H locs hP hD hS => ?_)
  have hP : va_P G vwCl [(o1, .inr (1, [.ref y1, .ref y2, .ref y3, .ref y4, .ref y5, .double 0, .int 0])), (y1, aI q 8 (fun _ => 0)), (y2, aD q 8 (fun _ => 0)), (y3, aD q 16 (fun _ => 0)), (y4, aD q 16 (fun _ => 0)), (y5, aD q 16 (fun _ => 0))] H := hP
  have hD : va_D A [(o1, .inr (1, [.ref y1, .ref y2, .ref y3, .ref y4, .ref y5, .double 0, .int 0])), (y1, aI q 8 (fun _ => 0)), (y2, aD q 8 (fun _ => 0)), (y3, aD q 16 (fun _ => 0)), (y4, aD q 16 (fun _ => 0)), (y5, aD q 16 (fun _ => 0))] := hD
  have hP9 := hP
  have hD9 := hD
  exact W.vret hx hb hr (fun t ht hW => ⟨⟨(fun k => [y1, y2, y3, y4, y5].getD k 0), rfl, trivial, by rw [ht]; exact hP9, hD9⟩, hS.F ht⟩) hS.2.2 dX1_init_54
