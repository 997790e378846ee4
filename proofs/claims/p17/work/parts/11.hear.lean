theorem in_X0_power_X0 : ∀ w ∈ wsX00, w ∈ wsX0_power := by decide +kernel
set_option maxHeartbeats 4000000 in
set_option maxRecDepth 100000 in
/-- power -/
theorem m_X0_power (l : Launch) (G : va_G) (q : Nat → ClassId) (sz : Nat) (o0 aw ae tt : Nat) (sq : Value) (kd th wa ta lf cd rs : Int32) (ou er : UInt64) (fe : Nat → UInt64) (htt : tt ≤ 2000) : MetD lw_cs l yX0_power wsX0_power ({ frames := 1, cells := 0, slots := 0, locals := 60 } : Jvm.Room) (PreW G q [.ref o0] [(o0, .inr (0, [.int kd, .ref aw, .ref ae, sq, .int th, .int wa, .int ta, .int lf, .double ou, .double er, .int (nI tt), .int cd, .int rs])), (ae, aD q 16 fe)] sz) (va_Qd (fun (r : UInt64) (_ : Unit) => dV r = sPow tt (fun k => dV (fe k))) (fun (_ : Unit) t => EndA G (va_A [(o0, .inr (0, [.int kd, .ref aw, .ref ae, sq, .int th, .int wa, .int ta, .int lf, .double ou, .double er, .int (nI tt), .int cd, .int rs])), (ae, aD q 16 fe)] sz) [(o0, .inr (0, [.int kd, .ref aw, .ref ae, sq, .int th, .int wa, .int ta, .int lf, .double ou, .double er, .int (nI tt), .int cd, .int rs])), (ae, aD q 16 fe)] t) (va_A [(o0, .inr (0, [.int kd, .ref aw, .ref ae, sq, .int th, .int wa, .int ta, .int lf, .double ou, .double er, .int (nI tt), .int cd, .int rs])), (ae, aD q 16 fe)] sz)) 0 0 (va_A [(o0, .inr (0, [.int kd, .ref aw, .ref ae, sq, .int th, .int wa, .int ta, .int lf, .double ou, .double er, .int (nI tt), .int cd, .int rs])), (ae, aD q 16 fe)] sz) := by
  refine MetD.ofW (cc := cX0_power) (maxL := 7) (ret := (some .double)) (by decide +kernel) rfl ?_
  intro p e s m args below meth c s₁ B hml hv hd0
  obtain ⟨rfl, hsz, hP, hK, hD0, hNF⟩ := hv
  have hx := B.exec
  have hb := B.bytes
  have hr := B.returns
  have hts := atoms_spec (ws := wsX0_power) B.pre
  have hown : s.vm.findClass RX0 = some m.cls := findClass_of_methodNamed B.named
  have hlocks := B.notSynchronized
  subst hsz
  have hD := hD0.self (sz := s.heap.size)
  generalize hAe : va_A [(o0, .inr (0, [.int kd, .ref aw, .ref ae, sq, .int th, .int wa, .int ta, .int lf, .double ou, .double er, .int (nI tt), .int cd, .int rs])), (ae, aD q 16 fe)] s.heap.size = A at hD ⊢
  have hA : ∀ q : Nat, s.heap.size ≤ q → A q := fun q h => by rw [← hAe]; exact Or.inr h
  have hS : va_S A s.heap s.heap [] := va_S.rf
  have hP : va_P G vwCl [(o0, .inr (0, [.int kd, .ref aw, .ref ae, sq, .int th, .int wa, .int ta, .int lf, .double ou, .double er, .int (nI tt), .int cd, .int rs])), (ae, aD q 16 fe)] s.heap := hP
  have hl := lv_entry ([.ref o0]) (n := 7) (Nat.le_of_ble_eq_true rfl)
  rw [lg_entry_eq]
  generalize (lg_sl ([.ref o0]) ++ List.replicate (7 - (lg_sl ([.ref o0])).length) Slot.unset).toArray = ls at hl ⊢
  have hl : lv_has ls 7 [(0, .ref o0)] := hl
  have LOOP : ∀ (k : Nat) (j : Nat) (a : UInt64), tt - 16 + j + k = tt → dV a = smN (dV 0) (fun k => fMul (dV (fe ((tt - 16 + k) % 16))) (dV (fe ((tt - 16 + k) % 16)))) j → ∀ (H : Heap) (locs : List Loc) (d0 : Drawn), s.drawn.sameBut d0 lw_cs → va_P G vwCl [(o0, .inr (0, [.int kd, .ref aw, .ref ae, sq, .int th, .int wa, .int ta, .int lf, .double ou, .double er, .int (nI tt), .int cd, .int rs])), (ae, aD q 16 fe)] H → va_D A [(o0, .inr (0, [.int kd, .ref aw, .ref ae, sq, .int th, .int wa, .int ta, .int lf, .double ou, .double er, .int (nI tt), .int cd, .int rs])), (ae, aD q 16 fe)] → va_S A s.heap H locs → ∀ (ls : Array Slot), lv_has ls 7 [(0, .ref o0), (1, .double a), (3, .int (nI (tt - 16))), (4, .int (nI (tt - 16 + j)))] → W p l e (headSpec wsX0_power ({ frames := 1, cells := 0, slots := 0, locals := 60 } : Jvm.Room)).room (s.setDrawn d0) m #[.ref o0] below meth c H locs 0 0 (MQD lw_cs below (va_Qd (fun (r : UInt64) (_ : Unit) => dV r = sPow tt (fun k => dV (fe k))) (fun (_ : Unit) t => EndA G A [(o0, .inr (0, [.int kd, .ref aw, .ref ae, sq, .int th, .int wa, .int ta, .int lf, .double ou, .double er, .int (nI tt), .int cd, .int rs])), (ae, aD q 16 fe)] t) A) #[.ref o0] s 0 0 A) (F0 m 17 ls []) := by
    intro k
    induction k with
    | zero =>
      intro j a hj ha H locs d0 hd0 hP hD hS ls hl
      refine lv_iload hx hb dX0_power_17 (lv_at hl 3 rfl) ?_
      refine lv_aload_n hx hb dX0_power_19 rfl (lv_at hl 0 rfl) ?_
      refine va_get (D := G) (ci := 0) (v := .int (nI tt)) (C := RX0) (T := TX0) (N := 13) hx hb (dr_words hts d0) in_X0_power_X0 hown hK hP 0 rfl rfl 10 (by decide) (dr_words hts d0 (.fieldLink RX0 53 "EchoBench$Filter" "heard" "I") (by decide +kernel)) (fun _ h9 => h9) rfl dX0_power_20 ?_
      refine lv_icmp_ge (tgt := 54) hx hb dX0_power_23 (by decide) (fun _ => ?_) (fun h => absurd (nI_le (by omega) (by omega)) h)
      refine lv_aload_n hx hb dX0_power_54 rfl (lv_at hl 0 rfl) ?_
      refine va_get (D := G) (ci := 0) (v := .int (nI tt)) (C := RX0) (T := TX0) (N := 13) hx hb (dr_words hts d0) in_X0_power_X0 hown hK hP 0 rfl rfl 10 (by decide) (dr_words hts d0 (.fieldLink RX0 53 "EchoBench$Filter" "heard" "I") (by decide +kernel)) (fun _ h9 => h9) rfl dX0_power_55 ?_
      refine lv_iload_n hx hb dX0_power_58 rfl (lv_at hl 2 rfl) ?_
      have ej : j = tt - (tt - 16) := by omega
      subst ej
      by_cases t0 : tt = 0
      · skip
        refine lv_icmp_le (tgt := 74) hx hb dX0_power_59 (by decide) (fun _ => ?_) (fun h => absurd (nI_le (by omega) (by omega)) h)
        refine lv_dc0 hx hb dX0_power_74 ?_
        have hP9 := hP
        have hD9 := hD
        refine W.endD hd0 ?_
        exact W.dret (v := 0) hx hb hr (fun t ht hW => ⟨⟨0, (), rfl, by dsimp only; unfold sPow; rw [if_pos t0], by rw [ht]; exact hP9, hD9⟩, hS.F ht⟩) hS.2.2 dX0_power_75
      refine lv_icmp_le (tgt := 74) hx hb dX0_power_59 (by decide) (fun h => absurd h (nI_ge (by omega) (by omega))) (fun _ => ?_)
      refine lv_dload_n hx hb dX0_power_62 rfl (lv_at hl 1 rfl) ?_
      refine lv_aload_n hx hb dX0_power_63 rfl (lv_at hl 0 rfl) ?_
      refine va_get (D := G) (ci := 0) (v := .int (nI tt)) (C := RX0) (T := TX0) (N := 13) hx hb (dr_words hts d0) in_X0_power_X0 hown hK hP 0 rfl rfl 10 (by decide) (dr_words hts d0 (.fieldLink RX0 53 "EchoBench$Filter" "heard" "I") (by decide +kernel)) (fun _ h9 => h9) rfl dX0_power_64 ?_
      refine lv_iload_n hx hb dX0_power_67 rfl (lv_at hl 2 rfl) ?_
      refine lv_isub hx hb dX0_power_68 ?_
      refine lv_topi (fun x4 ex4 => ?_)
      refine lv_i2d hx hb dX0_power_69 ?_
      refine lv_ddiv_any hd0 lw_bits hx hb dX0_power_70 (fun r5 dr5 ar5 hr5 => ?_)
      have er5 := dV_div ar5
      refine lv_goto (tgt := 75) hx hb dX0_power_71 (by decide) ?_
      have hP9 := hP
      have hD9 := hD
      refine W.endD hr5 ?_
      exact W.dret (v := r5) hx hb hr (fun t ht hW => ⟨⟨r5, (), rfl, by dsimp only; unfold sPow; rw [if_neg t0, er5, ha, dV_i2d, ex4, nI_sub (by omega) (by omega)], by rw [ht]; exact hP9, hD9⟩, hS.F ht⟩) hS.2.2 dX0_power_75
    | succ k ih =>
      intro j a hj ha H locs d0 hd0 hP hD hS ls hl
      refine lv_iload hx hb dX0_power_17 (lv_at hl 3 rfl) ?_
      refine lv_aload_n hx hb dX0_power_19 rfl (lv_at hl 0 rfl) ?_
      refine va_get (D := G) (ci := 0) (v := .int (nI tt)) (C := RX0) (T := TX0) (N := 13) hx hb (dr_words hts d0) in_X0_power_X0 hown hK hP 0 rfl rfl 10 (by decide) (dr_words hts d0 (.fieldLink RX0 53 "EchoBench$Filter" "heard" "I") (by decide +kernel)) (fun _ h9 => h9) rfl dX0_power_20 ?_
      refine lv_icmp_ge (tgt := 54) hx hb dX0_power_23 (by decide) (fun h => absurd h (nI_ge (by omega) (by omega))) (fun _ => ?_)
      refine lv_aload_n hx hb dX0_power_26 rfl (lv_at hl 0 rfl) ?_
      refine va_get (D := G) (ci := 0) (v := .ref ae) (C := RX0) (T := TX0) (N := 13) hx hb (dr_words hts d0) in_X0_power_X0 hown hK hP 0 rfl rfl 2 (by decide) (dr_words hts d0 (.fieldLink RX0 19 "EchoBench$Filter" "latestErrors" "[D") (by decide +kernel)) (fun _ h9 => h9) rfl dX0_power_27 ?_
      refine lv_iload hx hb dX0_power_30 (lv_at hl 3 rfl) ?_
      refine lv_bipush (v := 16) hx hb dX0_power_32 (by decide) ?_
      have hPc := hP.sub (ws' := []) [] rfl
      have hDc := hD.sub (ws' := []) [] (by decide) rfl
      have hFc := va_free (wc := []) hD hS hA [] rfl
      refine va_calli (va_runS (As := [.int (nI (tt - 16 + j)), .int 16]) (rest := [.ref ae]) ⟨hx, hb, hml, hown, (dr_words hts d0)⟩ (m_floorMod l G q H.size (tt - 16 + j) (by omega)) (va_cwS 2 (dr_words hts d0) gX0_power_J9_floorMod_7cf53 rfl rfl rfl (by decide +kernel) ⟨Nat.le_of_ble_eq_true rfl, Nat.le_of_ble_eq_true rfl⟩) ⟨preW_blind, preW_start (s := s.setDrawn d0) hPc hK hDc (hNF.drawn d0)⟩ rfl rfl hl.1 rfl (lv_room (Nat.le_of_ble_eq_true rfl)) dX0_power_34 ⟨(Nat.zero_le _), (Nat.zero_le _)⟩) hS (fun q _ h => hFc q h) hFc (fun sl u9 t9 H1 locs ht9 hv9 hw hB9 hz9 hk9 hS => ?_)
      obtain ⟨⟩ := u9
      obtain ⟨hP1, hD1⟩ := hB9
      rw [ht9] at hP1
      obtain ⟨hP, hD⟩ := va_join (wr := [(o0, .inr (0, [.int kd, .ref aw, .ref ae, sq, .int th, .int wa, .int ta, .int lf, .double ou, .double er, .int (nI tt), .int cd, .int rs])), (ae, aD q 16 fe)]) (w1 := []) hP hD [] [0, 1] rfl rfl (by decide) (by decide) hk9 hFc hP1 hD1
      generalize H1 = H at hP hS ⊢
      have hP : va_P G vwCl [(o0, .inr (0, [.int kd, .ref aw, .ref ae, sq, .int th, .int wa, .int ta, .int lf, .double ou, .double er, .int (nI tt), .int cd, .int rs])), (ae, aD q 16 fe)] H := hP
      have hD : va_D A [(o0, .inr (0, [.int kd, .ref aw, .ref ae, sq, .int th, .int wa, .int ta, .int lf, .double ou, .double er, .int (nI tt), .int cd, .int rs])), (ae, aD q 16 fe)] := hD
      try dsimp only at hw
      subst hw
      refine va_daldJ (s := s.setDrawn d0) hx hb hK hP 1 1 rfl rfl (j := ((tt - 16 + j) % 16)) rfl (Nat.mod_lt _ (by decide)) (by decide) dX0_power_37 ?_
      refine lv_dstore (lv' := [(5, .double (fe ((tt - 16 + j) % 16))), (0, .ref o0), (1, .double a), (3, .int (nI (tt - 16))), (4, .int (nI (tt - 16 + j)))]) hx hb dX0_power_38 hl (by decide) rfl (fun ls hl => ?_)
      refine lv_dload_n hx hb dX0_power_40 rfl (lv_at hl 2 rfl) ?_
      refine lv_dload hx hb dX0_power_41 (lv_at hl 0 rfl) ?_
      refine lv_dload hx hb dX0_power_43 (lv_at hl 0 rfl) ?_
      refine lv_dmul_any hd0 lw_bits hx hb dX0_power_45 (fun r8 dr8 ar8 hr8 => ?_)
      have er8 := dV_mul ar8
      refine lv_dadd_any hr8 lw_bits hx hb dX0_power_46 (fun r9 dr9 ar9 hr9 => ?_)
      have er9 := dV_add ar9
      refine lv_dstore_n (lv' := [(1, .double r9), (5, .double (fe ((tt - 16 + j) % 16))), (0, .ref o0), (3, .int (nI (tt - 16))), (4, .int (nI (tt - 16 + j)))]) hx hb dX0_power_47 rfl hl (by decide) rfl (fun ls hl => ?_)
      refine lv_iinc (v := nI (tt - 16 + (j + 1))) (lv' := [(4, .int (nI (tt - 16 + (j + 1)))), (1, .double r9), (5, .double (fe ((tt - 16 + j) % 16))), (0, .ref o0), (3, .int (nI (tt - 16)))]) hx hb dX0_power_48 hl (k := 4) rfl (nI_succ (tt - 16 + j)).symm (by decide) rfl (fun ls hl => ?_)
      refine lv_goto (tgt := 17) hx hb dX0_power_51 (by decide) ?_
      exact ih (j + 1) r9 (by omega) (by rw [er9, er8, ha]; rfl) _ _ _ hr9 (hP.sub [0, 1] rfl) (hD.sub [0, 1] (by decide) rfl) hS ls (lv_sub hl [3, 1, 4, 0] rfl)
  refine lv_dc0 hx hb dX0_power_0 ?_
  refine lv_dstore_n (lv' := [(1, .double 0), (0, .ref o0)]) hx hb dX0_power_1 rfl hl (by decide) rfl (fun ls hl => ?_)
  refine lv_iconst (v := 0) hx hb dX0_power_2 (by decide) ?_
  refine lv_aload_n hx hb dX0_power_3 rfl (lv_at hl 1 rfl) ?_
  refine va_get (D := G) (ci := 0) (v := .int (nI tt)) (C := RX0) (T := TX0) (N := 13) hx hb (dr_words hts s.drawn) in_X0_power_X0 hown hK hP 0 rfl rfl 10 (by decide) (dr_words hts s.drawn (.fieldLink RX0 53 "EchoBench$Filter" "heard" "I") (by decide +kernel)) (fun _ h9 => h9) rfl dX0_power_4 ?_
  refine lv_bipush (v := 16) hx hb dX0_power_7 (by decide) ?_
  refine lv_isub hx hb dX0_power_9 ?_
  refine lv_topi (fun x10 ex10 => ?_)
  refine va_mmax hx hb (hml.trans hl.1.symm) hown (dr_words hts s.drawn (.methodLink RX0 128 Lib.Math.max.name) (by decide +kernel)) (dr_words hts s.drawn (.static Lib.Math.max.name) (by decide +kernel)) (dr_words hts s.drawn (.initialized "java/lang/Math") (by decide +kernel)) (dr_words hts s.drawn (.code Lib.Math.max.name Lib.Math.max.code 2 (some .int)) (by decide +kernel)) (Nat.le_of_ble_eq_true rfl) (Nat.le_of_ble_eq_true rfl) (Nat.zero_le _) (Nat.zero_le _) dX0_power_10 ?_
  refine lv_topi (fun x11 ex11 => ?_)
  obtain rfl : x11 = (nI (tt - 16)) := (ex11.trans (by rw [ex10]; exact nI_max16 (by omega)))
  refine lv_istore_n (lv' := [(3, .int (nI (tt - 16))), (1, .double 0), (0, .ref o0)]) hx hb dX0_power_13 rfl hl (by decide) rfl (fun ls hl => ?_)
  refine lv_iload_n hx hb dX0_power_14 rfl (lv_at hl 0 rfl) ?_
  refine lv_istore (lv' := [(4, .int (nI (tt - 16))), (3, .int (nI (tt - 16))), (1, .double 0), (0, .ref o0)]) hx hb dX0_power_15 hl (by decide) rfl (fun ls hl => ?_)
  exact LOOP (tt - (tt - 16)) 0 0 (by omega) rfl _ _ _ hd0 (hP.sub [0, 1] rfl) (hD.sub [0, 1] (by decide) rfl) hS ls (lv_sub hl [3, 2, 1, 0] rfl)

theorem in_X0_learn_X0 : ∀ w ∈ wsX00, w ∈ wsX0_learn := by decide +kernel
set_option maxHeartbeats 4000000 in
set_option maxRecDepth 100000 in
/-- learn, of a filter that is no RLS -/
theorem m_X0_learnN (l : Launch) (G : va_G) (q : Nat → ClassId) (sz : Nat) (o0 aw ae ax n : Nat) (kd th wa ta lf ce cd rs : Int32) (ou er : UInt64) (fw : Nat → UInt64) (xi : Nat → Int32) (hn : n ≤ 8) : MetD lw_cs l yX0_learn wsX0_learn ({ frames := 2, cells := 0, slots := 0, locals := 46 } : Jvm.Room) (PreW G q [.ref o0, .ref ax] [(o0, .inr (0, [.int kd, .ref aw, .ref ae, .null, .int th, .int wa, .int ta, .int lf, .double ou, .double er, .int ce, .int cd, .int rs])), (aw, aD q n fw), (ax, aD q 8 (fun k => FP.i2d (xi k)))] sz) (va_Qv (fun (f : Nat → UInt64) => ∀ j, j < n → dV (f j) = sUp (dV (fw j)) (sLes kd th (dV er) (fI (xi j)) (sNm kd n xi))) (fun (f : Nat → UInt64) t => EndA G (va_A [(o0, .inr (0, [.int kd, .ref aw, .ref ae, .null, .int th, .int wa, .int ta, .int lf, .double ou, .double er, .int ce, .int cd, .int rs])), (aw, aD q n fw), (ax, aD q 8 (fun k => FP.i2d (xi k)))] sz) [(o0, .inr (0, [.int kd, .ref aw, .ref ae, .null, .int th, .int wa, .int ta, .int lf, .double ou, .double er, .int ce, .int cd, .int rs])), (aw, aD q n f), (ax, aD q 8 (fun k => FP.i2d (xi k)))] t) (va_A [(o0, .inr (0, [.int kd, .ref aw, .ref ae, .null, .int th, .int wa, .int ta, .int lf, .double ou, .double er, .int ce, .int cd, .int rs])), (aw, aD q n fw), (ax, aD q 8 (fun k => FP.i2d (xi k)))] sz)) 0 0 (va_A [(o0, .inr (0, [.int kd, .ref aw, .ref ae, .null, .int th, .int wa, .int ta, .int lf, .double ou, .double er, .int ce, .int cd, .int rs])), (aw, aD q n fw), (ax, aD q 8 (fun k => FP.i2d (xi k)))] sz) := by
  refine MetD.ofW (cc := cX0_learn) (maxL := 5) (ret := none) (by decide +kernel) rfl ?_
  intro p e s m args below meth c s₁ B hml hv hd0
  obtain ⟨rfl, hsz, hP, hK, hD0, hNF⟩ := hv
  have hx := B.exec
  have hb := B.bytes
  have hr := B.returns
  have hts := atoms_spec (ws := wsX0_learn) B.pre
  have hown : s.vm.findClass RX0 = some m.cls := findClass_of_methodNamed B.named
  have hlocks := B.notSynchronized
  subst hsz
  have hD := hD0.self (sz := s.heap.size)
  generalize hAe : va_A [(o0, .inr (0, [.int kd, .ref aw, .ref ae, .null, .int th, .int wa, .int ta, .int lf, .double ou, .double er, .int ce, .int cd, .int rs])), (aw, aD q n fw), (ax, aD q 8 (fun k => FP.i2d (xi k)))] s.heap.size = A at hD ⊢
  have hA : ∀ q : Nat, s.heap.size ≤ q → A q := fun q h => by rw [← hAe]; exact Or.inr h
  have hS : va_S A s.heap s.heap [] := va_S.rf
  have hP : va_P G vwCl [(o0, .inr (0, [.int kd, .ref aw, .ref ae, .null, .int th, .int wa, .int ta, .int lf, .double ou, .double er, .int ce, .int cd, .int rs])), (aw, aD q n fw), (ax, aD q 8 (fun k => FP.i2d (xi k)))] s.heap := hP
  have hl := lv_entry ([.ref o0, .ref ax]) (n := 5) (Nat.le_of_ble_eq_true rfl)
  rw [lg_entry_eq]
  generalize (lg_sl ([.ref o0, .ref ax]) ++ List.replicate (5 - (lg_sl ([.ref o0, .ref ax])).length) Slot.unset).toArray = ls at hl ⊢
  have hl : lv_has ls 5 [(0, .ref o0), (1, .ref ax)] := hl
  refine lv_aload_n hx hb dX0_learn_0 rfl (lv_at hl 0 rfl) ?_
  refine va_get (D := G) (ci := 0) (v := .int kd) (C := RX0) (T := TX0) (N := 13) hx hb (dr_words hts s.drawn) in_X0_learn_X0 hown hK hP 0 rfl rfl 0 (by decide) (dr_words hts s.drawn (.fieldLink RX0 9 "EchoBench$Filter" "kind" "I") (by decide +kernel)) (fun _ h9 => h9) rfl dX0_learn_1 ?_
  refine lv_iconst (v := 1) hx hb dX0_learn_4 (by decide) ?_
  have LOOP : ∀ (k : Nat) (j : Nat) (nm : UInt64) (f : Nat → UInt64), j + k = n → dV nm = sNm kd n xi → (∀ j', j' < j → dV (f j') = sUp (dV (fw j')) (sLes kd th (dV er) (fI (xi j')) (sNm kd n xi))) → (∀ j', j ≤ j' → f j' = fw j') → ∀ (H : Heap) (locs : List Loc) (d0 : Drawn), s.drawn.sameBut d0 lw_cs → va_P G vwCl [(o0, .inr (0, [.int kd, .ref aw, .ref ae, .null, .int th, .int wa, .int ta, .int lf, .double ou, .double er, .int ce, .int cd, .int rs])), (aw, aD q n f), (ax, aD q 8 (fun k => FP.i2d (xi k)))] H → va_D A [(o0, .inr (0, [.int kd, .ref aw, .ref ae, .null, .int th, .int wa, .int ta, .int lf, .double ou, .double er, .int ce, .int cd, .int rs])), (aw, aD q n f), (ax, aD q 8 (fun k => FP.i2d (xi k)))] → va_S A s.heap H locs → ∀ (ls : Array Slot), lv_has ls 5 [(0, .ref o0), (1, .ref ax), (2, .double nm), (4, .int (nI j))] → W p l e (headSpec wsX0_learn ({ frames := 2, cells := 0, slots := 0, locals := 46 } : Jvm.Room)).room (s.setDrawn d0) m #[.ref o0, .ref ax] below meth c H locs 0 0 (MQD lw_cs below (va_Qv (fun (f : Nat → UInt64) => ∀ j, j < n → dV (f j) = sUp (dV (fw j)) (sLes kd th (dV er) (fI (xi j)) (sNm kd n xi))) (fun (f : Nat → UInt64) t => EndA G A [(o0, .inr (0, [.int kd, .ref aw, .ref ae, .null, .int th, .int wa, .int ta, .int lf, .double ou, .double er, .int ce, .int cd, .int rs])), (aw, aD q n f), (ax, aD q 8 (fun k => FP.i2d (xi k)))] t) A) #[.ref o0, .ref ax] s 0 0 A) (F0 m 21 ls []) := by
    intro k
    induction k with
    | zero =>
      intro j nm f hj hm h1 h2 H locs d0 hd0 hP hD hS ls hl
      refine lv_iload hx hb dX0_learn_21 (lv_at hl 3 rfl) ?_
      refine lv_aload_n hx hb dX0_learn_23 rfl (lv_at hl 0 rfl) ?_
      refine va_get (D := G) (ci := 0) (v := .ref aw) (C := RX0) (T := TX0) (N := 13) hx hb (dr_words hts d0) in_X0_learn_X0 hown hK hP 0 rfl rfl 1 (by decide) (dr_words hts d0 (.fieldLink RX0 15 "EchoBench$Filter" "weights" "[D") (by decide +kernel)) (fun _ h9 => h9) rfl dX0_learn_24 ?_
      refine va_alen (s := s.setDrawn d0) (D := G) hx hb hK hP 1 1 rfl rfl (v := (nI n)) rfl dX0_learn_27 ?_
      refine lv_icmp_ge (tgt := 59) hx hb dX0_learn_28 (by decide) (fun _ => ?_) (fun h => absurd (nI_le (by omega) (by omega)) h)
      have hP9 := hP
      have hD9 := hD
      refine W.endD hd0 ?_
      exact W.vret hx hb hr (fun t ht hW => ⟨⟨f, rfl, by dsimp only; intro i hi; exact h1 i (by omega), by rw [ht]; exact hP9, hD9⟩, hS.F ht⟩) hS.2.2 dX0_learn_59
    | succ k ih =>
      intro j nm f hj hm h1 h2 H locs d0 hd0 hP hD hS ls hl
      refine lv_iload hx hb dX0_learn_21 (lv_at hl 3 rfl) ?_
      refine lv_aload_n hx hb dX0_learn_23 rfl (lv_at hl 0 rfl) ?_
      refine va_get (D := G) (ci := 0) (v := .ref aw) (C := RX0) (T := TX0) (N := 13) hx hb (dr_words hts d0) in_X0_learn_X0 hown hK hP 0 rfl rfl 1 (by decide) (dr_words hts d0 (.fieldLink RX0 15 "EchoBench$Filter" "weights" "[D") (by decide +kernel)) (fun _ h9 => h9) rfl dX0_learn_24 ?_
      refine va_alen (s := s.setDrawn d0) (D := G) hx hb hK hP 1 1 rfl rfl (v := (nI n)) rfl dX0_learn_27 ?_
      refine lv_icmp_ge (tgt := 59) hx hb dX0_learn_28 (by decide) (fun h => absurd h (nI_ge (by omega) (by omega))) (fun _ => ?_)
      refine lv_iload hx hb dX0_learn_31 (lv_at hl 3 rfl) ?_
      refine lv_aload_n hx hb dX0_learn_33 rfl (lv_at hl 1 rfl) ?_
      refine va_alen (s := s.setDrawn d0) (D := G) hx hb hK hP 2 1 rfl rfl (v := 8) rfl dX0_learn_34 ?_
      refine lv_icmp_ge (tgt := 59) hx hb dX0_learn_35 (by decide) (fun h => absurd h (nI_ge (b := 8) (by omega) (by omega))) (fun _ => ?_)
      refine lv_aload_n hx hb dX0_learn_38 rfl (lv_at hl 0 rfl) ?_
      refine lv_iload hx hb dX0_learn_39 (lv_at hl 3 rfl) ?_
      refine lv_aload_n hx hb dX0_learn_41 rfl (lv_at hl 0 rfl) ?_
      refine lv_aload_n hx hb dX0_learn_42 rfl (lv_at hl 1 rfl) ?_
      refine lv_iload hx hb dX0_learn_43 (lv_at hl 3 rfl) ?_
      refine va_daldJ (s := s.setDrawn d0) hx hb hK hP 2 1 rfl rfl (j := j) rfl (by omega) (by decide) dX0_learn_45 ?_
      refine lv_dload_n hx hb dX0_learn_46 rfl (lv_at hl 2 rfl) ?_
      have hPc := hP.sub (ws' := [(o0, .inr (0, [.int kd, .ref aw, .ref ae, .null, .int th, .int wa, .int ta, .int lf, .double ou, .double er, .int ce, .int cd, .int rs]))]) [0] rfl
      have hDc := hD.sub (ws' := [(o0, .inr (0, [.int kd, .ref aw, .ref ae, .null, .int th, .int wa, .int ta, .int lf, .double ou, .double er, .int ce, .int cd, .int rs]))]) [0] (by decide) rfl
      have hFc := va_free (wc := [(o0, .inr (0, [.int kd, .ref aw, .ref ae, .null, .int th, .int wa, .int ta, .int lf, .double ou, .double er, .int ce, .int cd, .int rs]))]) hD hS hA [0] rfl
      refine va_calldD hd0 (va_runV_D (As := [.double ((fun k => FP.i2d (xi k)) j), .double nm]) (rest := [.int (nI j), .ref o0]) ⟨hx, hb, hml, hown, (dr_words hts d0)⟩ (m_X0_lesson l G q H.size o0 aw ae .null kd th wa ta lf ce cd rs ou er (FP.i2d (xi j)) nm) (cwV 2 (dr_words hts d0) gX0_learn_X0_lesson rfl rfl rfl (by decide +kernel) ⟨Nat.le_of_ble_eq_true rfl, Nat.le_of_ble_eq_true rfl⟩) ⟨preW_blind, (va_recv hK hPc (ci := 0) (q0 := 0) rfl rfl), preW_start (s := s.setDrawn d0) hPc hK hDc (hNF.drawn d0)⟩ rfl rfl hl.1 rfl (lv_room (Nat.le_of_ble_eq_true rfl)) dX0_learn_47 ⟨(Nat.zero_le _), (Nat.zero_le _)⟩) hS (fun q _ h => hFc q h) hFc (fun le u9 t9 H1 locs ht9 hv9 hw hB9 hz9 hk9 hS du4 hu4 => ?_)
      obtain ⟨⟩ := u9
      obtain ⟨hP1, hD1⟩ := hB9
      rw [ht9] at hP1
      obtain ⟨hP, hD⟩ := va_join (wr := [(aw, aD q n f), (ax, aD q 8 (fun k => FP.i2d (xi k)))]) (w1 := [(o0, .inr (0, [.int kd, .ref aw, .ref ae, .null, .int th, .int wa, .int ta, .int lf, .double ou, .double er, .int ce, .int cd, .int rs]))]) hP hD [0] [1, 2] rfl rfl (by decide) (by decide) hk9 hFc hP1 hD1
      generalize H1 = H at hP hS ⊢
      have hP : va_P G vwCl [(aw, aD q n f), (ax, aD q 8 (fun k => FP.i2d (xi k))), (o0, .inr (0, [.int kd, .ref aw, .ref ae, .null, .int th, .int wa, .int ta, .int lf, .double ou, .double er, .int ce, .int cd, .int rs]))] H := hP
      have hD : va_D A [(aw, aD q n f), (ax, aD q 8 (fun k => FP.i2d (xi k))), (o0, .inr (0, [.int kd, .ref aw, .ref ae, .null, .int th, .int wa, .int ta, .int lf, .double ou, .double er, .int ce, .int cd, .int rs]))] := hD
      have hle := hw
      have hPc := hP.sub (ws' := [(o0, .inr (0, [.int kd, .ref aw, .ref ae, .null, .int th, .int wa, .int ta, .int lf, .double ou, .double er, .int ce, .int cd, .int rs])), (aw, aD q n f)]) [2, 0] rfl
      have hDc := hD.sub (ws' := [(o0, .inr (0, [.int kd, .ref aw, .ref ae, .null, .int th, .int wa, .int ta, .int lf, .double ou, .double er, .int ce, .int cd, .int rs])), (aw, aD q n f)]) [2, 0] (by decide) rfl
      have hFc := va_free (wc := [(o0, .inr (0, [.int kd, .ref aw, .ref ae, .null, .int th, .int wa, .int ta, .int lf, .double ou, .double er, .int ce, .int cd, .int rs])), (aw, aD q n f)]) hD hS hA [2, 0] rfl
      refine va_callvD hu4 (va_runV_D (As := [.int (nI j), .double le]) (rest := []) ⟨hx, hb, hml, hown, (dr_words hts du4)⟩ (m_X0_add l G q H.size o0 aw ae ax n .null kd th wa ta lf ce cd rs ou er f xi j le hn (by omega)) (cwV 2 (dr_words hts du4) gX0_learn_X0_add rfl rfl rfl (by decide +kernel) ⟨Nat.le_of_ble_eq_true rfl, Nat.le_of_ble_eq_true rfl⟩) ⟨preW_blind, (va_recv hK hPc (ci := 0) (q0 := 0) rfl rfl), preW_start (s := s.setDrawn du4) hPc hK hDc (hNF.drawn du4)⟩ rfl rfl hl.1 rfl (lv_room (Nat.le_of_ble_eq_true rfl)) dX0_learn_50 ⟨(Nat.zero_le _), (Nat.zero_le _)⟩) hS (fun q _ h => hFc q h) hFc (fun u9 t9 H1 locs ht9 hv9 hw hB9 hz9 hk9 hS du6 hu6 => ?_)
      obtain ⟨v1, rfl⟩ : ∃ z, z = u9 := ⟨_, rfl⟩
      obtain ⟨hP1, hD1⟩ := hB9
      rw [ht9] at hP1
      obtain ⟨hP, hD⟩ := va_join (wr := [(ax, aD q 8 (fun k => FP.i2d (xi k)))]) (w1 := [(o0, .inr (0, [.int kd, .ref aw, .ref ae, .null, .int th, .int wa, .int ta, .int lf, .double ou, .double er, .int ce, .int cd, .int rs])), (aw, aD q n (vf_upd f j v1))]) hP hD [2, 0] [1] rfl rfl (by decide) (by decide) hk9 hFc hP1 hD1
      generalize H1 = H at hP hS ⊢
      have hP : va_P G vwCl [(ax, aD q 8 (fun k => FP.i2d (xi k))), (o0, .inr (0, [.int kd, .ref aw, .ref ae, .null, .int th, .int wa, .int ta, .int lf, .double ou, .double er, .int ce, .int cd, .int rs])), (aw, aD q n (vf_upd f j v1))] H := hP
      have hD : va_D A [(ax, aD q 8 (fun k => FP.i2d (xi k))), (o0, .inr (0, [.int kd, .ref aw, .ref ae, .null, .int th, .int wa, .int ta, .int lf, .double ou, .double er, .int ce, .int cd, .int rs])), (aw, aD q n (vf_upd f j v1))] := hD
      have hv1 := hw
      refine lv_iinc (v := nI (j + 1)) (lv' := [(4, .int (nI (j + 1))), (0, .ref o0), (1, .ref ax), (2, .double nm)]) hx hb dX0_learn_53 hl (k := 3) rfl (nI_succ _).symm (by decide) rfl (fun ls hl => ?_)
      refine lv_goto (tgt := 21) hx hb dX0_learn_56 (by decide) ?_
      exact ih (j + 1) nm (vf_upd f j v1) (by omega) hm (vf_ups (g := fun i => sUp (dV (fw i)) (sLes kd th (dV er) (fI (xi i)) (sNm kd n xi))) h1 (by rw [hv1, hle, hm, h2 j (Nat.le_refl _)]; rfl)) (vf_rest h2) _ _ _ hu6 (hP.sub [1, 2, 0] rfl) (hD.sub [1, 2, 0] (by decide) rfl) hS ls (lv_sub hl [1, 2, 3, 0] rfl)
  refine lv_icmp_ne (tgt := 16) hx hb dX0_learn_5 (by decide) (fun c1 => ?_) (fun c1 => ?_)
  · skip
    refine lv_dc1 hx hb dX0_learn_16 ?_
    refine lv_dstore_n (lv' := [(2, .double 4607182418800017408), (0, .ref o0), (1, .ref ax)]) hx hb dX0_learn_17 rfl hl (by decide) rfl (fun ls hl => ?_)
    refine lv_iconst (v := 0) hx hb dX0_learn_18 (by decide) ?_
    refine lv_istore (lv' := [(4, .int 0), (2, .double 4607182418800017408), (0, .ref o0), (1, .ref ax)]) hx hb dX0_learn_19 hl (by decide) rfl (fun ls hl => ?_)
    exact LOOP n 0 4607182418800017408 fw (by omega) (if_neg c1).symm (fun i hi => absurd hi (by omega)) (fun _ _ => rfl) _ _ _ hd0 (hP.sub [0, 1, 2] rfl) (hD.sub [0, 1, 2] (by decide) rfl) hS ls (lv_sub hl [2, 3, 1, 0] rfl)
  · skip
    refine lv_aload_n hx hb dX0_learn_8 rfl (lv_at hl 0 rfl) ?_
    refine lv_aload_n hx hb dX0_learn_9 rfl (lv_at hl 1 rfl) ?_
    have hPc := hP.sub (ws' := [(o0, .inr (0, [.int kd, .ref aw, .ref ae, .null, .int th, .int wa, .int ta, .int lf, .double ou, .double er, .int ce, .int cd, .int rs])), (aw, aD q n fw), (ax, aD q 8 (fun k => FP.i2d (xi k)))]) [0, 1, 2] rfl
    have hDc := hD.sub (ws' := [(o0, .inr (0, [.int kd, .ref aw, .ref ae, .null, .int th, .int wa, .int ta, .int lf, .double ou, .double er, .int ce, .int cd, .int rs])), (aw, aD q n fw), (ax, aD q 8 (fun k => FP.i2d (xi k)))]) [0, 1, 2] (by decide) rfl
    have hFc := va_free (wc := [(o0, .inr (0, [.int kd, .ref aw, .ref ae, .null, .int th, .int wa, .int ta, .int lf, .double ou, .double er, .int ce, .int cd, .int rs])), (aw, aD q n fw), (ax, aD q 8 (fun k => FP.i2d (xi k)))]) hD hS hA [0, 1, 2] rfl
    refine va_calldD hd0 (va_runV_D (As := [.ref ax]) (rest := []) ⟨hx, hb, hml, hown, (dr_words hts s.drawn)⟩ (m_X0_normOf l G q s.heap.size o0 aw ae ax n .null kd th wa ta lf ce cd rs ou er fw xi hn) (cwV 1 (dr_words hts s.drawn) gX0_learn_X0_normOf rfl rfl rfl (by decide +kernel) ⟨Nat.le_of_ble_eq_true rfl, Nat.le_of_ble_eq_true rfl⟩) ⟨preW_blind, (va_recv hK hPc (ci := 0) (q0 := 0) rfl rfl), preW_start (s := s.setDrawn s.drawn) hPc hK hDc (hNF.drawn s.drawn)⟩ rfl rfl hl.1 rfl (lv_room (Nat.le_of_ble_eq_true rfl)) dX0_learn_10 ⟨(Nat.zero_le _), (Nat.zero_le _)⟩) hS (fun q _ h => hFc q h) hFc (fun nv u9 t9 H1 locs ht9 hv9 hw hB9 hz9 hk9 hS du7 hu7 => ?_)
    obtain ⟨⟩ := u9
    obtain ⟨hP1, hD1⟩ := hB9
    rw [ht9] at hP1
    obtain ⟨hP, hD⟩ := va_join (wr := []) (w1 := [(o0, .inr (0, [.int kd, .ref aw, .ref ae, .null, .int th, .int wa, .int ta, .int lf, .double ou, .double er, .int ce, .int cd, .int rs])), (aw, aD q n fw), (ax, aD q 8 (fun k => FP.i2d (xi k)))]) hP hD [0, 1, 2] [] rfl rfl (by decide) (by decide) hk9 hFc hP1 hD1
    generalize H1 = H at hP hS ⊢
    have hP : va_P G vwCl [(o0, .inr (0, [.int kd, .ref aw, .ref ae, .null, .int th, .int wa, .int ta, .int lf, .double ou, .double er, .int ce, .int cd, .int rs])), (aw, aD q n fw), (ax, aD q 8 (fun k => FP.i2d (xi k)))] H := hP
    have hD : va_D A [(o0, .inr (0, [.int kd, .ref aw, .ref ae, .null, .int th, .int wa, .int ta, .int lf, .double ou, .double er, .int ce, .int cd, .int rs])), (aw, aD q n fw), (ax, aD q 8 (fun k => FP.i2d (xi k)))] := hD
    have hnv := hw
    refine lv_goto (tgt := 17) hx hb dX0_learn_13 (by decide) ?_
    refine lv_dstore_n (lv' := [(2, .double nv), (0, .ref o0), (1, .ref ax)]) hx hb dX0_learn_17 rfl hl (by decide) rfl (fun ls hl => ?_)
    refine lv_iconst (v := 0) hx hb dX0_learn_18 (by decide) ?_
    refine lv_istore (lv' := [(4, .int 0), (2, .double nv), (0, .ref o0), (1, .ref ax)]) hx hb dX0_learn_19 hl (by decide) rfl (fun ls hl => ?_)
    exact LOOP n 0 nv fw (by omega) (hnv.trans (if_pos c1).symm) (fun i hi => absurd hi (by omega)) (fun _ _ => rfl) _ _ _ hu7 (hP.sub [0, 1, 2] rfl) (hD.sub [0, 1, 2] (by decide) rfl) hS ls (lv_sub hl [2, 3, 1, 0] rfl)

theorem in_X0_hear_X0 : ∀ w ∈ wsX00, w ∈ wsX0_hear := by decide +kernel
set_option maxHeartbeats 4000000 in
set_option maxRecDepth 100000 in
/-- hear, of a filter that is no RLS -/
theorem m_X0_hearN (l : Launch) (G : va_G) (q : Nat → ClassId) (sz : Nat) (o0 aw ae ax n tt : Nat) (kd th wa ta lf cd rs : Int32) (ou er : UInt64) (fw fe : Nat → UInt64) (xi : Nat → Int32) (mi : UInt64) (hn : n ≤ 8) (htt : tt < 2000) : MetD lw_cs l yX0_hear wsX0_hear ({ frames := 6, cells := 0, slots := 0, locals := 200 } : Jvm.Room) (PreW G q [.ref o0, .ref ax, .double mi] [(o0, .inr (0, [.int kd, .ref aw, .ref ae, .null, .int th, .int wa, .int ta, .int lf, .double ou, .double er, .int (nI tt), .int cd, .int rs])), (aw, aD q n fw), (ae, aD q 16 fe), (ax, aD q 8 (fun k => FP.i2d (xi k)))] sz) (va_Qv (fun (u : UInt64 × UInt64 × (Nat → UInt64) × Int32 × Int32) => dV u.1 = sOut n (fun k => dV (fw k)) xi ∧ dV u.2.1 = fSub (dV mi) (sOut n (fun k => dV (fw k)) xi) ∧ (∀ j, j < n → dV (u.2.2.1 j) = if (sLoud wa n xi (dV mi) ∨ 0 < lf) then dV (fw j) else sUp (dV (fw j)) (sLes kd th (fSub (dV mi) (sOut n (fun k => dV (fw k)) xi)) (fI (xi j)) (sNm kd n xi))) ∧ u.2.2.2.1 = (if sLoud wa n xi (dV mi) then ta else if 0 < lf then lf - 1 else lf) ∧ u.2.2.2.2 = if (sLoud wa n xi (dV mi) ∨ 0 < lf) then cd + 1 else cd) (fun (u : UInt64 × UInt64 × (Nat → UInt64) × Int32 × Int32) t => EndA G (va_A [(o0, .inr (0, [.int kd, .ref aw, .ref ae, .null, .int th, .int wa, .int ta, .int lf, .double ou, .double er, .int (nI tt), .int cd, .int rs])), (aw, aD q n fw), (ae, aD q 16 fe), (ax, aD q 8 (fun k => FP.i2d (xi k)))] sz) [(o0, .inr (0, [.int kd, .ref aw, .ref ae, .null, .int th, .int wa, .int ta, .int u.2.2.2.1, .double u.1, .double u.2.1, .int (nI (tt + 1)), .int u.2.2.2.2, .int rs])), (aw, aD q n u.2.2.1), (ae, aD q 16 (vf_upd fe (tt % 16) u.2.1)), (ax, aD q 8 (fun k => FP.i2d (xi k)))] t) (va_A [(o0, .inr (0, [.int kd, .ref aw, .ref ae, .null, .int th, .int wa, .int ta, .int lf, .double ou, .double er, .int (nI tt), .int cd, .int rs])), (aw, aD q n fw), (ae, aD q 16 fe), (ax, aD q 8 (fun k => FP.i2d (xi k)))] sz)) 0 0 (va_A [(o0, .inr (0, [.int kd, .ref aw, .ref ae, .null, .int th, .int wa, .int ta, .int lf, .double ou, .double er, .int (nI tt), .int cd, .int rs])), (aw, aD q n fw), (ae, aD q 16 fe), (ax, aD q 8 (fun k => FP.i2d (xi k)))] sz) := by
  refine MetD.ofW (cc := cX0_hear) (maxL := 4) (ret := none) (by decide +kernel) rfl ?_
  intro p e s m args below meth c s₁ B hml hv hd0
  obtain ⟨rfl, hsz, hP, hK, hD0, hNF⟩ := hv
  have hx := B.exec
  have hb := B.bytes
  have hr := B.returns
  have hts := atoms_spec (ws := wsX0_hear) B.pre
  have hown : s.vm.findClass RX0 = some m.cls := findClass_of_methodNamed B.named
  have hlocks := B.notSynchronized
  subst hsz
  have hD := hD0.self (sz := s.heap.size)
  generalize hAe : va_A [(o0, .inr (0, [.int kd, .ref aw, .ref ae, .null, .int th, .int wa, .int ta, .int lf, .double ou, .double er, .int (nI tt), .int cd, .int rs])), (aw, aD q n fw), (ae, aD q 16 fe), (ax, aD q 8 (fun k => FP.i2d (xi k)))] s.heap.size = A at hD ⊢
  have hA : ∀ q : Nat, s.heap.size ≤ q → A q := fun q h => by rw [← hAe]; exact Or.inr h
  have hS : va_S A s.heap s.heap [] := va_S.rf
  have hP : va_P G vwCl [(o0, .inr (0, [.int kd, .ref aw, .ref ae, .null, .int th, .int wa, .int ta, .int lf, .double ou, .double er, .int (nI tt), .int cd, .int rs])), (aw, aD q n fw), (ae, aD q 16 fe), (ax, aD q 8 (fun k => FP.i2d (xi k)))] s.heap := hP
  have hl := lv_entry ([.ref o0, .ref ax, .double mi]) (n := 4) (Nat.le_of_ble_eq_true rfl)
  rw [lg_entry_eq]
  generalize (lg_sl ([.ref o0, .ref ax, .double mi]) ++ List.replicate (4 - (lg_sl ([.ref o0, .ref ax, .double mi])).length) Slot.unset).toArray = ls at hl ⊢
  have hl : lv_has ls 4 [(0, .ref o0), (1, .ref ax), (2, .double mi)] := hl
  refine lv_aload_n hx hb dX0_hear_0 rfl (lv_at hl 0 rfl) ?_
  refine lv_aload_n hx hb dX0_hear_1 rfl (lv_at hl 0 rfl) ?_
  refine lv_aload_n hx hb dX0_hear_2 rfl (lv_at hl 1 rfl) ?_
  have hPc := hP.sub (ws' := [(o0, .inr (0, [.int kd, .ref aw, .ref ae, .null, .int th, .int wa, .int ta, .int lf, .double ou, .double er, .int (nI tt), .int cd, .int rs])), (aw, aD q n fw), (ax, aD q 8 (fun k => FP.i2d (xi k)))]) [0, 1, 3] rfl
  have hDc := hD.sub (ws' := [(o0, .inr (0, [.int kd, .ref aw, .ref ae, .null, .int th, .int wa, .int ta, .int lf, .double ou, .double er, .int (nI tt), .int cd, .int rs])), (aw, aD q n fw), (ax, aD q 8 (fun k => FP.i2d (xi k)))]) [0, 1, 3] (by decide) rfl
  have hFc := va_free (wc := [(o0, .inr (0, [.int kd, .ref aw, .ref ae, .null, .int th, .int wa, .int ta, .int lf, .double ou, .double er, .int (nI tt), .int cd, .int rs])), (aw, aD q n fw), (ax, aD q 8 (fun k => FP.i2d (xi k)))]) hD hS hA [0, 1, 3] rfl
  refine va_calldD hd0 (va_runV_D (As := [.ref ax]) (rest := [.ref o0]) ⟨hx, hb, hml, hown, (dr_words hts s.drawn)⟩ (m_X0_outputAt l G q s.heap.size o0 aw ae ax n .null kd th wa ta lf (nI tt) cd rs ou er fw xi hn) (cwV 1 (dr_words hts s.drawn) gX0_hear_X0_outputAt rfl rfl rfl (by decide +kernel) ⟨Nat.le_of_ble_eq_true rfl, Nat.le_of_ble_eq_true rfl⟩) ⟨preW_blind, (va_recv hK hPc (ci := 0) (q0 := 0) rfl rfl), preW_start (s := s.setDrawn s.drawn) hPc hK hDc (hNF.drawn s.drawn)⟩ rfl rfl hl.1 rfl (lv_room (Nat.le_of_ble_eq_true rfl)) dX0_hear_3 ⟨(Nat.zero_le _), (Nat.zero_le _)⟩) hS (fun q _ h => hFc q h) hFc (fun o1 u9 t9 H1 locs ht9 hv9 hw hB9 hz9 hk9 hS du1 hu1 => ?_)
  obtain ⟨⟩ := u9
  obtain ⟨hP1, hD1⟩ := hB9
  rw [ht9] at hP1
  obtain ⟨hP, hD⟩ := va_join (wr := [(ae, aD q 16 fe)]) (w1 := [(o0, .inr (0, [.int kd, .ref aw, .ref ae, .null, .int th, .int wa, .int ta, .int lf, .double ou, .double er, .int (nI tt), .int cd, .int rs])), (aw, aD q n fw), (ax, aD q 8 (fun k => FP.i2d (xi k)))]) hP hD [0, 1, 3] [2] rfl rfl (by decide) (by decide) hk9 hFc hP1 hD1
  generalize H1 = H at hP hS ⊢
  have hP : va_P G vwCl [(ae, aD q 16 fe), (o0, .inr (0, [.int kd, .ref aw, .ref ae, .null, .int th, .int wa, .int ta, .int lf, .double ou, .double er, .int (nI tt), .int cd, .int rs])), (aw, aD q n fw), (ax, aD q 8 (fun k => FP.i2d (xi k)))] H := hP
  have hD : va_D A [(ae, aD q 16 fe), (o0, .inr (0, [.int kd, .ref aw, .ref ae, .null, .int th, .int wa, .int ta, .int lf, .double ou, .double er, .int (nI tt), .int cd, .int rs])), (aw, aD q n fw), (ax, aD q 8 (fun k => FP.i2d (xi k)))] := hD
  have ho1 := hw
  refine va_put (D := G) (ci := 0) (v := .double o1) (ty := .double) (C := RX0) (T := TX0) (N := 13) hx hb (dr_words hts du1) in_X0_hear_X0 tyX0 tyX0_ok nmX0 hown hK hP hD hS 1 rfl rfl 8 (by decide) (dr_words hts du1 (.fieldLink RX0 46 "EchoBench$Filter" "output" "D") (by decide +kernel)) (fun _ h9 => h9) rfl (by decide +kernel) rfl rfl (Nat.le_of_ble_eq_true rfl) dX0_hear_6 (fun H locs hP hD hS => ?_)
  have hP : va_P G vwCl [(ae, aD q 16 fe), (o0, .inr (0, [.int kd, .ref aw, .ref ae, .null, .int th, .int wa, .int ta, .int lf, .double o1, .double er, .int (nI tt), .int cd, .int rs])), (aw, aD q n fw), (ax, aD q 8 (fun k => FP.i2d (xi k)))] H := hP
  have hD : va_D A [(ae, aD q 16 fe), (o0, .inr (0, [.int kd, .ref aw, .ref ae, .null, .int th, .int wa, .int ta, .int lf, .double o1, .double er, .int (nI tt), .int cd, .int rs])), (aw, aD q n fw), (ax, aD q 8 (fun k => FP.i2d (xi k)))] := hD
  refine lv_aload_n hx hb dX0_hear_9 rfl (lv_at hl 0 rfl) ?_
  refine lv_dload_n hx hb dX0_hear_10 rfl (lv_at hl 2 rfl) ?_
  refine lv_aload_n hx hb dX0_hear_11 rfl (lv_at hl 0 rfl) ?_
  refine va_get (D := G) (ci := 0) (v := .double o1) (C := RX0) (T := TX0) (N := 13) hx hb (dr_words hts du1) in_X0_hear_X0 hown hK hP 1 rfl rfl 8 (by decide) (dr_words hts du1 (.fieldLink RX0 46 "EchoBench$Filter" "output" "D") (by decide +kernel)) (fun _ h9 => h9) rfl dX0_hear_12 ?_
  refine lv_dsub_any hu1 lw_bits hx hb dX0_hear_15 (fun r2 dr2 ar2 hr2 => ?_)
  have er2 := dV_sub ar2
  refine va_put (D := G) (ci := 0) (v := .double r2) (ty := .double) (C := RX0) (T := TX0) (N := 13) hx hb (dr_words hts dr2) in_X0_hear_X0 tyX0 tyX0_ok nmX0 hown hK hP hD hS 1 rfl rfl 9 (by decide) (dr_words hts dr2 (.fieldLink RX0 50 "EchoBench$Filter" "error" "D") (by decide +kernel)) (fun _ h9 => h9) rfl (by decide +kernel) rfl rfl (Nat.le_of_ble_eq_true rfl) dX0_hear_16 (fun H locs hP hD hS => ?_)
  have hP : va_P G vwCl [(ae, aD q 16 fe), (o0, .inr (0, [.int kd, .ref aw, .ref ae, .null, .int th, .int wa, .int ta, .int lf, .double o1, .double r2, .int (nI tt), .int cd, .int rs])), (aw, aD q n fw), (ax, aD q 8 (fun k => FP.i2d (xi k)))] H := hP
  have hD : va_D A [(ae, aD q 16 fe), (o0, .inr (0, [.int kd, .ref aw, .ref ae, .null, .int th, .int wa, .int ta, .int lf, .double o1, .double r2, .int (nI tt), .int cd, .int rs])), (aw, aD q n fw), (ax, aD q 8 (fun k => FP.i2d (xi k)))] := hD
  refine lv_aload_n hx hb dX0_hear_19 rfl (lv_at hl 0 rfl) ?_
  refine va_get (D := G) (ci := 0) (v := .ref ae) (C := RX0) (T := TX0) (N := 13) hx hb (dr_words hts dr2) in_X0_hear_X0 hown hK hP 1 rfl rfl 2 (by decide) (dr_words hts dr2 (.fieldLink RX0 19 "EchoBench$Filter" "latestErrors" "[D") (by decide +kernel)) (fun _ h9 => h9) rfl dX0_hear_20 ?_
  refine lv_aload_n hx hb dX0_hear_23 rfl (lv_at hl 0 rfl) ?_
  refine va_get (D := G) (ci := 0) (v := .int (nI tt)) (C := RX0) (T := TX0) (N := 13) hx hb (dr_words hts dr2) in_X0_hear_X0 hown hK hP 1 rfl rfl 10 (by decide) (dr_words hts dr2 (.fieldLink RX0 53 "EchoBench$Filter" "heard" "I") (by decide +kernel)) (fun _ h9 => h9) rfl dX0_hear_24 ?_
  refine lv_bipush (v := 16) hx hb dX0_hear_27 (by decide) ?_
  have hr1 : dV r2 = fSub (dV mi) (sOut n (fun k => dV (fw k)) xi) := by rw [er2, ho1]
  have hPc := hP.sub (ws' := []) [] rfl
  have hDc := hD.sub (ws' := []) [] (by decide) rfl
  have hFc := va_free (wc := []) hD hS hA [] rfl
  refine va_calli (va_runS (As := [.int (nI tt), .int 16]) (rest := [.ref ae]) ⟨hx, hb, hml, hown, (dr_words hts dr2)⟩ (m_floorMod l G q H.size tt (by omega)) (va_cwS 2 (dr_words hts dr2) gX0_hear_J9_floorMod_7cf53 rfl rfl rfl (by decide +kernel) ⟨Nat.le_of_ble_eq_true rfl, Nat.le_of_ble_eq_true rfl⟩) ⟨preW_blind, preW_start (s := s.setDrawn dr2) hPc hK hDc (hNF.drawn dr2)⟩ rfl rfl hl.1 rfl (lv_room (Nat.le_of_ble_eq_true rfl)) dX0_hear_29 ⟨(Nat.zero_le _), (Nat.zero_le _)⟩) hS (fun q _ h => hFc q h) hFc (fun sl u9 t9 H1 locs ht9 hv9 hw hB9 hz9 hk9 hS => ?_)
  obtain ⟨⟩ := u9
  obtain ⟨hP1, hD1⟩ := hB9
  rw [ht9] at hP1
  obtain ⟨hP, hD⟩ := va_join (wr := [(ae, aD q 16 fe), (o0, .inr (0, [.int kd, .ref aw, .ref ae, .null, .int th, .int wa, .int ta, .int lf, .double o1, .double r2, .int (nI tt), .int cd, .int rs])), (aw, aD q n fw), (ax, aD q 8 (fun k => FP.i2d (xi k)))]) (w1 := []) hP hD [] [0, 1, 2, 3] rfl rfl (by decide) (by decide) hk9 hFc hP1 hD1
  generalize H1 = H at hP hS ⊢
  have hP : va_P G vwCl [(ae, aD q 16 fe), (o0, .inr (0, [.int kd, .ref aw, .ref ae, .null, .int th, .int wa, .int ta, .int lf, .double o1, .double r2, .int (nI tt), .int cd, .int rs])), (aw, aD q n fw), (ax, aD q 8 (fun k => FP.i2d (xi k)))] H := hP
  have hD : va_D A [(ae, aD q 16 fe), (o0, .inr (0, [.int kd, .ref aw, .ref ae, .null, .int th, .int wa, .int ta, .int lf, .double o1, .double r2, .int (nI tt), .int cd, .int rs])), (aw, aD q n fw), (ax, aD q 8 (fun k => FP.i2d (xi k)))] := hD
  try dsimp only at hw
  subst hw
  refine lv_aload_n hx hb dX0_hear_32 rfl (lv_at hl 0 rfl) ?_
  refine va_get (D := G) (ci := 0) (v := .double r2) (C := RX0) (T := TX0) (N := 13) hx hb (dr_words hts dr2) in_X0_hear_X0 hown hK hP 1 rfl rfl 9 (by decide) (dr_words hts dr2 (.fieldLink RX0 50 "EchoBench$Filter" "error" "D") (by decide +kernel)) (fun _ h9 => h9) rfl dX0_hear_33 ?_
  refine va_dastJ (s := s.setDrawn dr2) hx hb hK hP hD hS 0 1 rfl rfl (j := (tt % 16)) rfl (Nat.mod_lt _ (by decide)) (by decide) dX0_hear_36 (fun H locs hP hD hS => ?_)
  have hP : va_P G vwCl [(ae, aD q 16 (vf_upd fe (tt % 16) r2)), (o0, .inr (0, [.int kd, .ref aw, .ref ae, .null, .int th, .int wa, .int ta, .int lf, .double o1, .double r2, .int (nI tt), .int cd, .int rs])), (aw, aD q n fw), (ax, aD q 8 (fun k => FP.i2d (xi k)))] H := hP
  have hD : va_D A [(ae, aD q 16 (vf_upd fe (tt % 16) r2)), (o0, .inr (0, [.int kd, .ref aw, .ref ae, .null, .int th, .int wa, .int ta, .int lf, .double o1, .double r2, .int (nI tt), .int cd, .int rs])), (aw, aD q n fw), (ax, aD q 8 (fun k => FP.i2d (xi k)))] := hD
  refine lv_aload_n hx hb dX0_hear_37 rfl (lv_at hl 0 rfl) ?_
  refine lv_dup hx hb dX0_hear_38 rfl ?_
  refine va_get (D := G) (ci := 0) (v := .int (nI tt)) (C := RX0) (T := TX0) (N := 13) hx hb (dr_words hts dr2) in_X0_hear_X0 hown hK hP 1 rfl rfl 10 (by decide) (dr_words hts dr2 (.fieldLink RX0 53 "EchoBench$Filter" "heard" "I") (by decide +kernel)) (fun _ h9 => h9) rfl dX0_hear_39 ?_
  refine lv_iconst (v := 1) hx hb dX0_hear_42 (by decide) ?_
  refine lv_iadd hx hb dX0_hear_43 ?_
  refine lv_topi (fun x4 ex4 => ?_)
  obtain rfl : x4 = (nI (tt + 1)) := ex4.trans (nI_succ tt).symm
  refine va_put (D := G) (ci := 0) (v := .int (nI (tt + 1))) (ty := .int) (C := RX0) (T := TX0) (N := 13) hx hb (dr_words hts dr2) in_X0_hear_X0 tyX0 tyX0_ok nmX0 hown hK hP hD hS 1 rfl rfl 10 (by decide) (dr_words hts dr2 (.fieldLink RX0 53 "EchoBench$Filter" "heard" "I") (by decide +kernel)) (fun _ h9 => h9) rfl (by decide +kernel) rfl rfl (Nat.le_of_ble_eq_true rfl) dX0_hear_44 (fun H locs hP hD hS => ?_)
  have hP : va_P G vwCl [(ae, aD q 16 (vf_upd fe (tt % 16) r2)), (o0, .inr (0, [.int kd, .ref aw, .ref ae, .null, .int th, .int wa, .int ta, .int lf, .double o1, .double r2, .int (nI (tt + 1)), .int cd, .int rs])), (aw, aD q n fw), (ax, aD q 8 (fun k => FP.i2d (xi k)))] H := hP
  have hD : va_D A [(ae, aD q 16 (vf_upd fe (tt % 16) r2)), (o0, .inr (0, [.int kd, .ref aw, .ref ae, .null, .int th, .int wa, .int ta, .int lf, .double o1, .double r2, .int (nI (tt + 1)), .int cd, .int rs])), (aw, aD q n fw), (ax, aD q 8 (fun k => FP.i2d (xi k)))] := hD
  refine lv_aload_n hx hb dX0_hear_47 rfl (lv_at hl 0 rfl) ?_
  refine lv_aload_n hx hb dX0_hear_48 rfl (lv_at hl 1 rfl) ?_
  refine lv_dload_n hx hb dX0_hear_49 rfl (lv_at hl 2 rfl) ?_
  have hPc := hP.sub (ws' := [(o0, .inr (0, [.int kd, .ref aw, .ref ae, .null, .int th, .int wa, .int ta, .int lf, .double o1, .double r2, .int (nI (tt + 1)), .int cd, .int rs])), (aw, aD q n fw), (ax, aD q 8 (fun k => FP.i2d (xi k)))]) [1, 2, 3] rfl
  have hDc := hD.sub (ws' := [(o0, .inr (0, [.int kd, .ref aw, .ref ae, .null, .int th, .int wa, .int ta, .int lf, .double o1, .double r2, .int (nI (tt + 1)), .int cd, .int rs])), (aw, aD q n fw), (ax, aD q 8 (fun k => FP.i2d (xi k)))]) [1, 2, 3] (by decide) rfl
  have hFc := va_free (wc := [(o0, .inr (0, [.int kd, .ref aw, .ref ae, .null, .int th, .int wa, .int ta, .int lf, .double o1, .double r2, .int (nI (tt + 1)), .int cd, .int rs])), (aw, aD q n fw), (ax, aD q 8 (fun k => FP.i2d (xi k)))]) hD hS hA [1, 2, 3] rfl
  refine va_calliD hr2 (va_runV_D (As := [.ref ax, .double mi]) (rest := []) ⟨hx, hb, hml, hown, (dr_words hts dr2)⟩ (m_X0_holdsAt l G q H.size o0 aw ae ax n .null kd th wa ta lf (nI (tt + 1)) cd rs o1 r2 fw xi mi hn) (cwV 2 (dr_words hts dr2) gX0_hear_X0_holdsAt rfl rfl rfl (by decide +kernel) ⟨Nat.le_of_ble_eq_true rfl, Nat.le_of_ble_eq_true rfl⟩) ⟨preW_blind, (va_recv hK hPc (ci := 0) (q0 := 0) rfl rfl), preW_start (s := s.setDrawn dr2) hPc hK hDc (hNF.drawn dr2)⟩ rfl rfl hl.1 rfl (lv_room (Nat.le_of_ble_eq_true rfl)) dX0_hear_50 ⟨(Nat.zero_le _), (Nat.zero_le _)⟩) hS (fun q _ h => hFc q h) hFc (fun hh u9 t9 H1 locs ht9 hv9 hw hB9 hz9 hk9 hS du5 hu5 => ?_)
  obtain ⟨lg, rfl⟩ : ∃ z, z = u9 := ⟨_, rfl⟩
  obtain ⟨hP1, hD1⟩ := hB9
  rw [ht9] at hP1
  obtain ⟨hP, hD⟩ := va_join (wr := [(ae, aD q 16 (vf_upd fe (tt % 16) r2))]) (w1 := [(o0, .inr (0, [.int kd, .ref aw, .ref ae, .null, .int th, .int wa, .int ta, .int lg, .double o1, .double r2, .int (nI (tt + 1)), .int cd, .int rs])), (aw, aD q n fw), (ax, aD q 8 (fun k => FP.i2d (xi k)))]) hP hD [1, 2, 3] [0] rfl rfl (by decide) (by decide) hk9 hFc hP1 hD1
  generalize H1 = H at hP hS ⊢
  have hP : va_P G vwCl [(ae, aD q 16 (vf_upd fe (tt % 16) r2)), (o0, .inr (0, [.int kd, .ref aw, .ref ae, .null, .int th, .int wa, .int ta, .int lg, .double o1, .double r2, .int (nI (tt + 1)), .int cd, .int rs])), (aw, aD q n fw), (ax, aD q 8 (fun k => FP.i2d (xi k)))] H := hP
  have hD : va_D A [(ae, aD q 16 (vf_upd fe (tt % 16) r2)), (o0, .inr (0, [.int kd, .ref aw, .ref ae, .null, .int th, .int wa, .int ta, .int lg, .double o1, .double r2, .int (nI (tt + 1)), .int cd, .int rs])), (aw, aD q n fw), (ax, aD q 8 (fun k => FP.i2d (xi k)))] := hD
  have hlg := hw.2
  have hh1 := hw.1
  refine lv_if_eq (tgt := 69) hx hb dX0_hear_53 (by decide) (fun c1 => ?_) (fun c1 => ?_)
  · skip
    have cn : ¬ (sLoud wa n xi (dV mi) ∨ 0 < lf) := fun h => by rw [if_pos h] at hh1; rw [hh1] at c1; exact absurd c1 (by decide)
    refine lv_aload_n hx hb dX0_hear_69 rfl (lv_at hl 0 rfl) ?_
    refine va_get (D := G) (ci := 0) (v := .null) (C := RX0) (T := TX0) (N := 13) hx hb (dr_words hts du5) in_X0_hear_X0 hown hK hP 1 rfl rfl 3 (by decide) (dr_words hts du5 (.fieldLink RX0 27 "EchoBench$Filter" "square" "LEchoBench$Square;") (by decide +kernel)) (fun _ h9 => h9) rfl dX0_hear_70 ?_
    refine lv_ifnullN (tgt := 88) hx hb dX0_hear_73 (by decide) ?_
    refine lv_aload_n hx hb dX0_hear_88 rfl (lv_at hl 0 rfl) ?_
    refine lv_aload_n hx hb dX0_hear_89 rfl (lv_at hl 1 rfl) ?_
    have hPc := hP.sub (ws' := [(o0, .inr (0, [.int kd, .ref aw, .ref ae, .null, .int th, .int wa, .int ta, .int lg, .double o1, .double r2, .int (nI (tt + 1)), .int cd, .int rs])), (aw, aD q n fw), (ax, aD q 8 (fun k => FP.i2d (xi k)))]) [1, 2, 3] rfl
    have hDc := hD.sub (ws' := [(o0, .inr (0, [.int kd, .ref aw, .ref ae, .null, .int th, .int wa, .int ta, .int lg, .double o1, .double r2, .int (nI (tt + 1)), .int cd, .int rs])), (aw, aD q n fw), (ax, aD q 8 (fun k => FP.i2d (xi k)))]) [1, 2, 3] (by decide) rfl
    have hFc := va_free (wc := [(o0, .inr (0, [.int kd, .ref aw, .ref ae, .null, .int th, .int wa, .int ta, .int lg, .double o1, .double r2, .int (nI (tt + 1)), .int cd, .int rs])), (aw, aD q n fw), (ax, aD q 8 (fun k => FP.i2d (xi k)))]) hD hS hA [1, 2, 3] rfl
    refine va_callvD hu5 (va_runV_D (As := [.ref ax]) (rest := []) ⟨hx, hb, hml, hown, (dr_words hts du5)⟩ (m_X0_learnN l G q H.size o0 aw ae ax n kd th wa ta lg (nI (tt + 1)) cd rs o1 r2 fw xi hn) (cwV 1 (dr_words hts du5) gX0_hear_X0_learn rfl rfl rfl (by decide +kernel) ⟨Nat.le_of_ble_eq_true rfl, Nat.le_of_ble_eq_true rfl⟩) ⟨preW_blind, (va_recv hK hPc (ci := 0) (q0 := 0) rfl rfl), preW_start (s := s.setDrawn du5) hPc hK hDc (hNF.drawn du5)⟩ rfl rfl hl.1 rfl (lv_room (Nat.le_of_ble_eq_true rfl)) dX0_hear_90 ⟨(Nat.zero_le _), (Nat.zero_le _)⟩) hS (fun q _ h => hFc q h) hFc (fun u9 t9 H1 locs ht9 hv9 hw hB9 hz9 hk9 hS du7 hu7 => ?_)
    obtain ⟨f1, rfl⟩ : ∃ z, z = u9 := ⟨_, rfl⟩
    obtain ⟨hP1, hD1⟩ := hB9
    rw [ht9] at hP1
    obtain ⟨hP, hD⟩ := va_join (wr := [(ae, aD q 16 (vf_upd fe (tt % 16) r2))]) (w1 := [(o0, .inr (0, [.int kd, .ref aw, .ref ae, .null, .int th, .int wa, .int ta, .int lg, .double o1, .double r2, .int (nI (tt + 1)), .int cd, .int rs])), (aw, aD q n f1), (ax, aD q 8 (fun k => FP.i2d (xi k)))]) hP hD [1, 2, 3] [0] rfl rfl (by decide) (by decide) hk9 hFc hP1 hD1
    generalize H1 = H at hP hS ⊢
    have hP : va_P G vwCl [(ae, aD q 16 (vf_upd fe (tt % 16) r2)), (o0, .inr (0, [.int kd, .ref aw, .ref ae, .null, .int th, .int wa, .int ta, .int lg, .double o1, .double r2, .int (nI (tt + 1)), .int cd, .int rs])), (aw, aD q n f1), (ax, aD q 8 (fun k => FP.i2d (xi k)))] H := hP
    have hD : va_D A [(ae, aD q 16 (vf_upd fe (tt % 16) r2)), (o0, .inr (0, [.int kd, .ref aw, .ref ae, .null, .int th, .int wa, .int ta, .int lg, .double o1, .double r2, .int (nI (tt + 1)), .int cd, .int rs])), (aw, aD q n f1), (ax, aD q 8 (fun k => FP.i2d (xi k)))] := hD
    have hf1 := hw
    have hP := hP.sub (ws' := [(o0, .inr (0, [.int kd, .ref aw, .ref ae, .null, .int th, .int wa, .int ta, .int lg, .double o1, .double r2, .int (nI (tt + 1)), .int cd, .int rs])), (aw, aD q n f1), (ae, aD q 16 (vf_upd fe (tt % 16) r2)), (ax, aD q 8 (fun k => FP.i2d (xi k)))]) [1, 2, 0, 3] rfl
    have hD := hD.sub (ws' := [(o0, .inr (0, [.int kd, .ref aw, .ref ae, .null, .int th, .int wa, .int ta, .int lg, .double o1, .double r2, .int (nI (tt + 1)), .int cd, .int rs])), (aw, aD q n f1), (ae, aD q 16 (vf_upd fe (tt % 16) r2)), (ax, aD q 8 (fun k => FP.i2d (xi k)))]) [1, 2, 0, 3] (by decide) rfl
    have hP9 := hP
    have hD9 := hD
    refine W.endD hu7 ?_
    exact W.vret hx hb hr (fun t ht hW => ⟨⟨(o1, r2, f1, lg, cd), rfl, ⟨ho1, hr1, fun j hj => by dsimp only; rw [if_neg cn, hf1 j hj, hr1], hlg, by dsimp only; rw [if_neg cn]⟩, by rw [ht]; exact hP9, hD9⟩, hS.F ht⟩) hS.2.2 dX0_hear_93
  · skip
    have cn : (sLoud wa n xi (dV mi) ∨ 0 < lf) := Classical.byContradiction fun h => by rw [if_neg h] at hh1; exact c1 hh1
    refine lv_aload_n hx hb dX0_hear_56 rfl (lv_at hl 0 rfl) ?_
    refine lv_dup hx hb dX0_hear_57 rfl ?_
    refine va_get (D := G) (ci := 0) (v := .int cd) (C := RX0) (T := TX0) (N := 13) hx hb (dr_words hts du5) in_X0_hear_X0 hown hK hP 1 rfl rfl 11 (by decide) (dr_words hts du5 (.fieldLink RX0 56 "EchoBench$Filter" "held" "I") (by decide +kernel)) (fun _ h9 => h9) rfl dX0_hear_58 ?_
    refine lv_iconst (v := 1) hx hb dX0_hear_61 (by decide) ?_
    refine lv_iadd hx hb dX0_hear_62 ?_
    refine lv_topi (fun x8 ex8 => ?_)
    refine va_put (D := G) (ci := 0) (v := .int x8) (ty := .int) (C := RX0) (T := TX0) (N := 13) hx hb (dr_words hts du5) in_X0_hear_X0 tyX0 tyX0_ok nmX0 hown hK hP hD hS 1 rfl rfl 11 (by decide) (dr_words hts du5 (.fieldLink RX0 56 "EchoBench$Filter" "held" "I") (by decide +kernel)) (fun _ h9 => h9) rfl (by decide +kernel) rfl rfl (Nat.le_of_ble_eq_true rfl) dX0_hear_63 (fun H locs hP hD hS => ?_)
    have hP : va_P G vwCl [(ae, aD q 16 (vf_upd fe (tt % 16) r2)), (o0, .inr (0, [.int kd, .ref aw, .ref ae, .null, .int th, .int wa, .int ta, .int lg, .double o1, .double r2, .int (nI (tt + 1)), .int x8, .int rs])), (aw, aD q n fw), (ax, aD q 8 (fun k => FP.i2d (xi k)))] H := hP
    have hD : va_D A [(ae, aD q 16 (vf_upd fe (tt % 16) r2)), (o0, .inr (0, [.int kd, .ref aw, .ref ae, .null, .int th, .int wa, .int ta, .int lg, .double o1, .double r2, .int (nI (tt + 1)), .int x8, .int rs])), (aw, aD q n fw), (ax, aD q 8 (fun k => FP.i2d (xi k)))] := hD
    refine lv_goto (tgt := 93) hx hb dX0_hear_66 (by decide) ?_
    have hP := hP.sub (ws' := [(o0, .inr (0, [.int kd, .ref aw, .ref ae, .null, .int th, .int wa, .int ta, .int lg, .double o1, .double r2, .int (nI (tt + 1)), .int x8, .int rs])), (aw, aD q n fw), (ae, aD q 16 (vf_upd fe (tt % 16) r2)), (ax, aD q 8 (fun k => FP.i2d (xi k)))]) [1, 2, 0, 3] rfl
    have hD := hD.sub (ws' := [(o0, .inr (0, [.int kd, .ref aw, .ref ae, .null, .int th, .int wa, .int ta, .int lg, .double o1, .double r2, .int (nI (tt + 1)), .int x8, .int rs])), (aw, aD q n fw), (ae, aD q 16 (vf_upd fe (tt % 16) r2)), (ax, aD q 8 (fun k => FP.i2d (xi k)))]) [1, 2, 0, 3] (by decide) rfl
    have hP9 := hP
    have hD9 := hD
    refine W.endD hu5 ?_
    exact W.vret hx hb hr (fun t ht hW => ⟨⟨(o1, r2, fw, lg, x8), rfl, ⟨ho1, hr1, fun j hj => by dsimp only; rw [if_pos cn], hlg, by dsimp only; rw [if_pos cn, ex8]⟩, by rw [ht]; exact hP9, hD9⟩, hS.F ht⟩) hS.2.2 dX0_hear_93

theorem in_X0_restart_X0 : ∀ w ∈ wsX00, w ∈ wsX0_restart := by decide +kernel
set_option maxHeartbeats 4000000 in
set_option maxRecDepth 100000 in
/-- restart, of a filter that is no RLS -/
theorem m_X0_restartN (l : Launch) (G : va_G) (q : Nat → ClassId) (sz : Nat) (o0 aw ae n : Nat) (kd th wa ta lf ce cd rs : Int32) (ou er : UInt64) (fw : Nat → UInt64) (hn : n ≤ 8) : Met l yX0_restart wsX0_restart ({ frames := 3, cells := 0, slots := 0, locals := 80 } : Jvm.Room) (PreW G q [.ref o0] [(o0, .inr (0, [.int kd, .ref aw, .ref ae, .null, .int th, .int wa, .int ta, .int lf, .double ou, .double er, .int ce, .int cd, .int rs])), (aw, aD q n fw)] sz) (va_Qv (fun (f : Nat → UInt64) => ∀ i, i < n → f i = 0) (fun (f : Nat → UInt64) t => EndA G (va_A [(o0, .inr (0, [.int kd, .ref aw, .ref ae, .null, .int th, .int wa, .int ta, .int lf, .double ou, .double er, .int ce, .int cd, .int rs])), (aw, aD q n fw)] sz) [(o0, .inr (0, [.int kd, .ref aw, .ref ae, .null, .int th, .int wa, .int ta, .int 0, .double 0, .double 0, .int 0, .int 0, .int 0])), (aw, aD q n f)] t) (va_A [(o0, .inr (0, [.int kd, .ref aw, .ref ae, .null, .int th, .int wa, .int ta, .int lf, .double ou, .double er, .int ce, .int cd, .int rs])), (aw, aD q n fw)] sz)) 0 0 (va_A [(o0, .inr (0, [.int kd, .ref aw, .ref ae, .null, .int th, .int wa, .int ta, .int lf, .double ou, .double er, .int ce, .int cd, .int rs])), (aw, aD q n fw)] sz) := by
  refine Met.ofW (cc := cX0_restart) (maxL := 1) (ret := none) (by decide +kernel) rfl ?_
  intro p e s m args below meth c s₁ B hml hv
  obtain ⟨rfl, hsz, hP, hK, hD0, hNF⟩ := hv
  have hx := B.exec
  have hb := B.bytes
  have hr := B.returns
  have hts := atoms_spec (ws := wsX0_restart) B.pre
  have hown : s.vm.findClass RX0 = some m.cls := findClass_of_methodNamed B.named
  have hlocks := B.notSynchronized
  subst hsz
  have hD := hD0.self (sz := s.heap.size)
  generalize hAe : va_A [(o0, .inr (0, [.int kd, .ref aw, .ref ae, .null, .int th, .int wa, .int ta, .int lf, .double ou, .double er, .int ce, .int cd, .int rs])), (aw, aD q n fw)] s.heap.size = A at hD ⊢
  have hA : ∀ q : Nat, s.heap.size ≤ q → A q := fun q h => by rw [← hAe]; exact Or.inr h
  have hS : va_S A s.heap s.heap [] := va_S.rf
  have hP : va_P G vwCl [(o0, .inr (0, [.int kd, .ref aw, .ref ae, .null, .int th, .int wa, .int ta, .int lf, .double ou, .double er, .int ce, .int cd, .int rs])), (aw, aD q n fw)] s.heap := hP
  have hl := lv_entry ([.ref o0]) (n := 1) (Nat.le_of_ble_eq_true rfl)
  rw [lg_entry_eq]
  generalize (lg_sl ([.ref o0]) ++ List.replicate (1 - (lg_sl ([.ref o0])).length) Slot.unset).toArray = ls at hl ⊢
  have hl : lv_has ls 1 [(0, .ref o0)] := hl
  refine lv_aload_n hx hb dX0_restart_0 rfl (lv_at hl 0 rfl) ?_
  refine va_get (D := G) (ci := 0) (v := .ref aw) (C := RX0) (T := TX0) (N := 13) hx hb hts in_X0_restart_X0 hown hK hP 0 rfl rfl 1 (by decide) (hts (.fieldLink RX0 15 "EchoBench$Filter" "weights" "[D") (by decide +kernel)) (fun _ h9 => h9) rfl dX0_restart_1 ?_
  refine lv_dc0 hx hb dX0_restart_4 ?_
  have hPc := hP.sub (ws' := [(aw, aD q n fw)]) [1] rfl
  have hDc := hD.sub (ws' := [(aw, aD q n fw)]) [1] (by decide) rfl
  have hFc := va_free (wc := [(aw, aD q n fw)]) hD hS hA [1] rfl
  refine va_callv (va_runS (As := [.ref aw, .double 0]) (rest := []) ⟨hx, hb, hml, hown, hts⟩ (m_fill l G q s.heap.size aw n fw 0 (by omega)) (va_cwS 2 hts gX0_restart_J7_fill_7f8df rfl rfl rfl (by decide +kernel) ⟨Nat.le_of_ble_eq_true rfl, Nat.le_of_ble_eq_true rfl⟩) ⟨preW_blind, preW_start hPc hK hDc hNF⟩ rfl rfl hl.1 rfl (lv_room (Nat.le_of_ble_eq_true rfl)) dX0_restart_5 ⟨(Nat.zero_le _), (Nat.zero_le _)⟩) hS (fun q _ h => hFc q h) hFc (fun u9 t9 H1 locs ht9 hv9 hw hB9 hz9 hk9 hS => ?_)
  obtain ⟨f1, rfl⟩ : ∃ z, z = u9 := ⟨_, rfl⟩
  obtain ⟨hP1, hD1⟩ := hB9
  rw [ht9] at hP1
  obtain ⟨hP, hD⟩ := va_join (wr := [(o0, .inr (0, [.int kd, .ref aw, .ref ae, .null, .int th, .int wa, .int ta, .int lf, .double ou, .double er, .int ce, .int cd, .int rs]))]) (w1 := [(aw, aD q n f1)]) hP hD [1] [0] rfl rfl (by decide) (by decide) hk9 hFc hP1 hD1
  generalize H1 = H at hP hS ⊢
  have hP : va_P G vwCl [(o0, .inr (0, [.int kd, .ref aw, .ref ae, .null, .int th, .int wa, .int ta, .int lf, .double ou, .double er, .int ce, .int cd, .int rs])), (aw, aD q n f1)] H := hP
  have hD : va_D A [(o0, .inr (0, [.int kd, .ref aw, .ref ae, .null, .int th, .int wa, .int ta, .int lf, .double ou, .double er, .int ce, .int cd, .int rs])), (aw, aD q n f1)] := hD
  have hf1 := hw
  refine lv_aload_n hx hb dX0_restart_8 rfl (lv_at hl 0 rfl) ?_
  refine va_get (D := G) (ci := 0) (v := .null) (C := RX0) (T := TX0) (N := 13) hx hb hts in_X0_restart_X0 hown hK hP 0 rfl rfl 3 (by decide) (hts (.fieldLink RX0 27 "EchoBench$Filter" "square" "LEchoBench$Square;") (by decide +kernel)) (fun _ h9 => h9) rfl dX0_restart_9 ?_
  refine lv_ifnullN (tgt := 22) hx hb dX0_restart_12 (by decide) ?_
  refine lv_aload_n hx hb dX0_restart_22 rfl (lv_at hl 0 rfl) ?_
  refine lv_iconst (v := 0) hx hb dX0_restart_23 (by decide) ?_
  refine va_put (D := G) (ci := 0) (v := .int 0) (ty := .int) (C := RX0) (T := TX0) (N := 13) hx hb hts in_X0_restart_X0 tyX0 tyX0_ok nmX0 hown hK hP hD hS 0 rfl rfl 7 (by decide) (hts (.fieldLink RX0 43 "EchoBench$Filter" "holdsLeft" "I") (by decide +kernel)) (fun _ h9 => h9) rfl (by decide +kernel) rfl rfl (Nat.le_of_ble_eq_true rfl) dX0_restart_24 (fun H locs hP hD hS => ?_)
  have hP : va_P G vwCl [(o0, .inr (0, [.int kd, .ref aw, .ref ae, .null, .int th, .int wa, .int ta, .int 0, .double ou, .double er, .int ce, .int cd, .int rs])), (aw, aD q n f1)] H := hP
  have hD : va_D A [(o0, .inr (0, [.int kd, .ref aw, .ref ae, .null, .int th, .int wa, .int ta, .int 0, .double ou, .double er, .int ce, .int cd, .int rs])), (aw, aD q n f1)] := hD
  refine lv_aload_n hx hb dX0_restart_27 rfl (lv_at hl 0 rfl) ?_
  refine lv_dc0 hx hb dX0_restart_28 ?_
  refine va_put (D := G) (ci := 0) (v := .double 0) (ty := .double) (C := RX0) (T := TX0) (N := 13) hx hb hts in_X0_restart_X0 tyX0 tyX0_ok nmX0 hown hK hP hD hS 0 rfl rfl 8 (by decide) (hts (.fieldLink RX0 46 "EchoBench$Filter" "output" "D") (by decide +kernel)) (fun _ h9 => h9) rfl (by decide +kernel) rfl rfl (Nat.le_of_ble_eq_true rfl) dX0_restart_29 (fun H locs hP hD hS => ?_)
  have hP : va_P G vwCl [(o0, .inr (0, [.int kd, .ref aw, .ref ae, .null, .int th, .int wa, .int ta, .int 0, .double 0, .double er, .int ce, .int cd, .int rs])), (aw, aD q n f1)] H := hP
  have hD : va_D A [(o0, .inr (0, [.int kd, .ref aw, .ref ae, .null, .int th, .int wa, .int ta, .int 0, .double 0, .double er, .int ce, .int cd, .int rs])), (aw, aD q n f1)] := hD
  refine lv_aload_n hx hb dX0_restart_32 rfl (lv_at hl 0 rfl) ?_
  refine lv_dc0 hx hb dX0_restart_33 ?_
  refine va_put (D := G) (ci := 0) (v := .double 0) (ty := .double) (C := RX0) (T := TX0) (N := 13) hx hb hts in_X0_restart_X0 tyX0 tyX0_ok nmX0 hown hK hP hD hS 0 rfl rfl 9 (by decide) (hts (.fieldLink RX0 50 "EchoBench$Filter" "error" "D") (by decide +kernel)) (fun _ h9 => h9) rfl (by decide +kernel) rfl rfl (Nat.le_of_ble_eq_true rfl) dX0_restart_34 (fun H locs hP hD hS => ?_)
  have hP : va_P G vwCl [(o0, .inr (0, [.int kd, .ref aw, .ref ae, .null, .int th, .int wa, .int ta, .int 0, .double 0, .double 0, .int ce, .int cd, .int rs])), (aw, aD q n f1)] H := hP
  have hD : va_D A [(o0, .inr (0, [.int kd, .ref aw, .ref ae, .null, .int th, .int wa, .int ta, .int 0, .double 0, .double 0, .int ce, .int cd, .int rs])), (aw, aD q n f1)] := hD
  refine lv_aload_n hx hb dX0_restart_37 rfl (lv_at hl 0 rfl) ?_
  refine lv_iconst (v := 0) hx hb dX0_restart_38 (by decide) ?_
  refine va_put (D := G) (ci := 0) (v := .int 0) (ty := .int) (C := RX0) (T := TX0) (N := 13) hx hb hts in_X0_restart_X0 tyX0 tyX0_ok nmX0 hown hK hP hD hS 0 rfl rfl 10 (by decide) (hts (.fieldLink RX0 53 "EchoBench$Filter" "heard" "I") (by decide +kernel)) (fun _ h9 => h9) rfl (by decide +kernel) rfl rfl (Nat.le_of_ble_eq_true rfl) dX0_restart_39 (fun H locs hP hD hS => ?_)
  have hP : va_P G vwCl [(o0, .inr (0, [.int kd, .ref aw, .ref ae, .null, .int th, .int wa, .int ta, .int 0, .double 0, .double 0, .int 0, .int cd, .int rs])), (aw, aD q n f1)] H := hP
  have hD : va_D A [(o0, .inr (0, [.int kd, .ref aw, .ref ae, .null, .int th, .int wa, .int ta, .int 0, .double 0, .double 0, .int 0, .int cd, .int rs])), (aw, aD q n f1)] := hD
  refine lv_aload_n hx hb dX0_restart_42 rfl (lv_at hl 0 rfl) ?_
  refine lv_iconst (v := 0) hx hb dX0_restart_43 (by decide) ?_
  refine va_put (D := G) (ci := 0) (v := .int 0) (ty := .int) (C := RX0) (T := TX0) (N := 13) hx hb hts in_X0_restart_X0 tyX0 tyX0_ok nmX0 hown hK hP hD hS 0 rfl rfl 11 (by decide) (hts (.fieldLink RX0 56 "EchoBench$Filter" "held" "I") (by decide +kernel)) (fun _ h9 => h9) rfl (by decide +kernel) rfl rfl (Nat.le_of_ble_eq_true rfl) dX0_restart_44 (fun H locs hP hD hS => ?_)
  have hP : va_P G vwCl [(o0, .inr (0, [.int kd, .ref aw, .ref ae, .null, .int th, .int wa, .int ta, .int 0, .double 0, .double 0, .int 0, .int 0, .int rs])), (aw, aD q n f1)] H := hP
  have hD : va_D A [(o0, .inr (0, [.int kd, .ref aw, .ref ae, .null, .int th, .int wa, .int ta, .int 0, .double 0, .double 0, .int 0, .int 0, .int rs])), (aw, aD q n f1)] := hD
  refine lv_aload_n hx hb dX0_restart_47 rfl (lv_at hl 0 rfl) ?_
  refine lv_iconst (v := 0) hx hb dX0_restart_48 (by decide) ?_
  refine va_put (D := G) (ci := 0) (v := .int 0) (ty := .int) (C := RX0) (T := TX0) (N := 13) hx hb hts in_X0_restart_X0 tyX0 tyX0_ok nmX0 hown hK hP hD hS 0 rfl rfl 12 (by decide) (hts (.fieldLink RX0 59 "EchoBench$Filter" "resets" "I") (by decide +kernel)) (fun _ h9 => h9) rfl (by decide +kernel) rfl rfl (Nat.le_of_ble_eq_true rfl) dX0_restart_49 (fun H locs hP hD hS => ?_)
  have hP : va_P G vwCl [(o0, .inr (0, [.int kd, .ref aw, .ref ae, .null, .int th, .int wa, .int ta, .int 0, .double 0, .double 0, .int 0, .int 0, .int 0])), (aw, aD q n f1)] H := hP
  have hD : va_D A [(o0, .inr (0, [.int kd, .ref aw, .ref ae, .null, .int th, .int wa, .int ta, .int 0, .double 0, .double 0, .int 0, .int 0, .int 0])), (aw, aD q n f1)] := hD
  have hP9 := hP
  have hD9 := hD
  exact W.vret hx hb hr (fun t ht hW => ⟨⟨f1, rfl, hf1, by rw [ht]; exact hP9, hD9⟩, hS.F ht⟩) hS.2.2 dX0_restart_52
