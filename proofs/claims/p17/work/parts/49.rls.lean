theorem mu_all : ∀ k : Fin 501, fO (fDiv (fI (nI (500 + k.val))) k1000) (dV 0) = some .gt := by decide +kernel
theorem mu_pos {th : Int32} (h : 500 ≤ th ∧ th ≤ 1000) : fO (fDiv (fI th) k1000) (dV 0) = some .gt := by
  have h0 : (0 : Int32) ≤ th := Int32.le_trans (by decide) h.1
  have e := in_tn h0
  have h2 : tn th ≤ 1000 := tn_le h0 (by decide) h.2
  have h1 : 500 ≤ tn th := (nI_leI (a := 500) (b := tn th) (by omega) (by omega)).mp (by rw [← e]; exact h.1)
  have h3 := mu_all ⟨tn th - 500, by omega⟩
  rw [show 500 + (tn th - 500) = tn th by omega, ← e] at h3
  exact h3

theorem in_X0_learnBySquare_X0 : ∀ w ∈ wsX00, w ∈ wsX0_learnBySquare := by decide +kernel
set_option maxHeartbeats 4000000 in
set_option maxRecDepth 100000 in
/-- learnBySquare -/
theorem m_X0_learnBySquare (l : Launch) (G : va_G) (q : Nat → ClassId) (sz : Nat) (o0 aw ae ax n : Nat) (kd th wa ta lf ce cd rs : Int32) (ou er : UInt64) (fw : Nat → UInt64) (xi : Nat → Int32) (os an ag ah : Nat) (ar : Nat → Nat) (P : Nat → Nat → UInt64) (fg fh : Nat → UInt64) (hn : n ≤ 4) (hth : 500 ≤ th ∧ th ≤ 1000) : MetD lw_cs l yX0_learnBySquare wsX0_learnBySquare ({ frames := 4, cells := 0, slots := 0, locals := 140 } : Jvm.Room) (PreW G q [.ref o0, .ref os, .ref ax] ([(o0, .inr (0, [.int kd, .ref aw, .ref ae, .ref os, .int th, .int wa, .int ta, .int lf, .double ou, .double er, .int ce, .int cd, .int rs])), (aw, aD q n fw), (os, .inr (2, [.int (nI n), .ref an, .ref ag, .ref ah])), (an, aA q n (fun j => if j < n then some (ar j) else none)), (ag, aD q n fg), (ah, aD q n fh), (ax, aD q 8 (fun k => FP.i2d (xi k)))] ++ rowsW q n n ar P) sz) (va_Qv (fun (u : (Nat → UInt64) × (Nat → UInt64) × (Nat → UInt64) × (Nat → Nat → UInt64) × Int32) => (∀ j, j < n → dV (u.1 j) = if gLow n (fDiv (fI th) k1000) (fun i j => dV (P i j)) xi then dV (fw j) else sUp (dV (fw j)) (gMul (gK n (fDiv (fI th) k1000) (fun i j => dV (P i j)) xi j) (dV er))) ∧ (∀ j, j < n → dV (fw j) ≠ nzD → dV (u.1 j) ≠ nzD) ∧ (∀ a c, a < n → c < n → dV (u.2.2.2.1 a c) = if (gLow n (fDiv (fI th) k1000) (fun i j => dV (P i j)) xi ∨ ¬ gAll (fun i => gQ n (fDiv (fI th) k1000) (fun i j => dV (P i j)) xi i i) n = true) then (if a = c then dV H100 else dV 0) else gQ n (fDiv (fI th) k1000) (fun i j => dV (P i j)) xi a c) ∧ u.2.2.2.2 = if (gLow n (fDiv (fI th) k1000) (fun i j => dV (P i j)) xi ∨ ¬ gAll (fun i => gQ n (fDiv (fI th) k1000) (fun i j => dV (P i j)) xi i i) n = true) then rs + 1 else rs) (fun (u : (Nat → UInt64) × (Nat → UInt64) × (Nat → UInt64) × (Nat → Nat → UInt64) × Int32) t => EndA G (va_A ([(o0, .inr (0, [.int kd, .ref aw, .ref ae, .ref os, .int th, .int wa, .int ta, .int lf, .double ou, .double er, .int ce, .int cd, .int rs])), (aw, aD q n fw), (os, .inr (2, [.int (nI n), .ref an, .ref ag, .ref ah])), (an, aA q n (fun j => if j < n then some (ar j) else none)), (ag, aD q n fg), (ah, aD q n fh), (ax, aD q 8 (fun k => FP.i2d (xi k)))] ++ rowsW q n n ar P) sz) ([(o0, .inr (0, [.int kd, .ref aw, .ref ae, .ref os, .int th, .int wa, .int ta, .int lf, .double ou, .double er, .int ce, .int cd, .int u.2.2.2.2])), (aw, aD q n u.1), (os, .inr (2, [.int (nI n), .ref an, .ref ag, .ref ah])), (an, aA q n (fun j => if j < n then some (ar j) else none)), (ag, aD q n u.2.1), (ah, aD q n u.2.2.1), (ax, aD q 8 (fun k => FP.i2d (xi k)))] ++ rowsW q n n ar u.2.2.2.1) t) (va_A ([(o0, .inr (0, [.int kd, .ref aw, .ref ae, .ref os, .int th, .int wa, .int ta, .int lf, .double ou, .double er, .int ce, .int cd, .int rs])), (aw, aD q n fw), (os, .inr (2, [.int (nI n), .ref an, .ref ag, .ref ah])), (an, aA q n (fun j => if j < n then some (ar j) else none)), (ag, aD q n fg), (ah, aD q n fh), (ax, aD q 8 (fun k => FP.i2d (xi k)))] ++ rowsW q n n ar P) sz)) 0 0 (va_A ([(o0, .inr (0, [.int kd, .ref aw, .ref ae, .ref os, .int th, .int wa, .int ta, .int lf, .double ou, .double er, .int ce, .int cd, .int rs])), (aw, aD q n fw), (os, .inr (2, [.int (nI n), .ref an, .ref ag, .ref ah])), (an, aA q n (fun j => if j < n then some (ar j) else none)), (ag, aD q n fg), (ah, aD q n fh), (ax, aD q 8 (fun k => FP.i2d (xi k)))] ++ rowsW q n n ar P) sz) := by
  refine MetD.ofW (cc := cX0_learnBySquare) (maxL := 7) (ret := none) (by decide +kernel) rfl ?_
  intro p e s m args below meth c s₁ B hml hv hd0
  obtain ⟨rfl, hsz, hP, hK, hD0, hNF⟩ := hv
  have hx := B.exec
  have hb := B.bytes
  have hr := B.returns
  have hts := atoms_spec (ws := wsX0_learnBySquare) B.pre
  have hown : s.vm.findClass RX0 = some m.cls := findClass_of_methodNamed B.named
  have hlocks := B.notSynchronized
  subst hsz
  have hD := hD0.self (sz := s.heap.size)
  generalize hAe : va_A ([(o0, .inr (0, [.int kd, .ref aw, .ref ae, .ref os, .int th, .int wa, .int ta, .int lf, .double ou, .double er, .int ce, .int cd, .int rs])), (aw, aD q n fw), (os, .inr (2, [.int (nI n), .ref an, .ref ag, .ref ah])), (an, aA q n (fun j => if j < n then some (ar j) else none)), (ag, aD q n fg), (ah, aD q n fh), (ax, aD q 8 (fun k => FP.i2d (xi k)))] ++ rowsW q n n ar P) s.heap.size = A at hD ⊢
  have hA : ∀ q : Nat, s.heap.size ≤ q → A q := fun q h => by rw [← hAe]; exact Or.inr h
  have hS : va_S A s.heap s.heap [] := va_S.rf
  have hP : va_P G vwCl ([(o0, .inr (0, [.int kd, .ref aw, .ref ae, .ref os, .int th, .int wa, .int ta, .int lf, .double ou, .double er, .int ce, .int cd, .int rs])), (aw, aD q n fw), (os, .inr (2, [.int (nI n), .ref an, .ref ag, .ref ah])), (an, aA q n (fun j => if j < n then some (ar j) else none)), (ag, aD q n fg), (ah, aD q n fh), (ax, aD q 8 (fun k => FP.i2d (xi k)))] ++ rowsW q n n ar P) s.heap := hP
  have hl := lv_entry ([.ref o0, .ref os, .ref ax]) (n := 7) (Nat.le_of_ble_eq_true rfl)
  rw [lg_entry_eq]
  generalize (lg_sl ([.ref o0, .ref os, .ref ax]) ++ List.replicate (7 - (lg_sl ([.ref o0, .ref os, .ref ax])).length) Slot.unset).toArray = ls at hl ⊢
  have hl : lv_has ls 7 [(0, .ref o0), (1, .ref os), (2, .ref ax)] := hl
  refine lv_aload_n hx hb dX0_learnBySquare_0 rfl (lv_at hl 0 rfl) ?_
  refine va_get (D := G) (ci := 0) (v := .int th) (C := RX0) (T := TX0) (N := 13) hx hb (dr_words hts s.drawn) in_X0_learnBySquare_X0 hown hK hP 0 rfl rfl 4 (by decide) (dr_words hts s.drawn (.fieldLink RX0 31 "EchoBench$Filter" "thousandths" "I") (by decide +kernel)) (fun _ h9 => h9) rfl dX0_learnBySquare_1 ?_
  refine lv_i2d hx hb dX0_learnBySquare_4 ?_
  refine lv_ldc2d hx hb hown (dr_words hts s.drawn (.constantDouble RX0 110 4652007308841189376) (by decide +kernel)) dX0_learnBySquare_5 ?_
  refine lv_ddiv_any hd0 lw_bits hx hb dX0_learnBySquare_8 (fun r1 dr1 ar1 hr1 => ?_)
  have er1 := dV_div ar1
  refine lv_dstore_n (lv' := [(3, .double r1), (0, .ref o0), (1, .ref os), (2, .ref ax)]) hx hb dX0_learnBySquare_9 rfl hl (by decide) rfl (fun ls hl => ?_)
  refine lv_aload_n hx hb dX0_learnBySquare_10 rfl (lv_at hl 2 rfl) ?_
  refine lv_aload_n hx hb dX0_learnBySquare_11 rfl (lv_at hl 3 rfl) ?_
  refine lv_dload_n hx hb dX0_learnBySquare_12 rfl (lv_at hl 0 rfl) ?_
  have hst : dV r1 = (fDiv (fI th) k1000) := by rw [er1]; rfl
  have hPc := hP.part (cx := [(os, .inr (2, [.int (nI n), .ref an, .ref ag, .ref ah])), (an, aA q n (fun j => if j < n then some (ar j) else none)), (ag, aD q n fg), (ah, aD q n fh), (ax, aD q 8 (fun k => FP.i2d (xi k)))]) [2, 3, 4, 5, 6] rfl
  have hDc := hD.part (cx := [(os, .inr (2, [.int (nI n), .ref an, .ref ag, .ref ah])), (an, aA q n (fun j => if j < n then some (ar j) else none)), (ag, aD q n fg), (ah, aD q n fh), (ax, aD q 8 (fun k => FP.i2d (xi k)))]) [2, 3, 4, 5, 6] (by decide) rfl
  have hFc := va_freeP (cx := [(os, .inr (2, [.int (nI n), .ref an, .ref ag, .ref ah])), (an, aA q n (fun j => if j < n then some (ar j) else none)), (ag, aD q n fg), (ah, aD q n fh), (ax, aD q 8 (fun k => FP.i2d (xi k)))]) hD hS hA [2, 3, 4, 5, 6] rfl
  refine va_calliD hr1 (va_runVN_D (As := [.ref ax, .double r1]) (rest := []) ⟨hx, hb, hml, hown, (dr_words hts dr1)⟩ (m_X2_prepare l G q s.heap.size os an ag ah n ar P ax xi fg fh r1 hn) ⟨va_cnB 2 (dr_words hts dr1) gX0_learnBySquare_X2_prepare_n112 rfl rfl rfl ((hNF.drawn dr1).1 (.methodLinkNest RX0 112 yX2_prepare "EchoBench") (by decide +kernel)) (dr_words hts dr1 (.initialized RX2) (by decide +kernel)) (by decide +kernel) ⟨Nat.le_of_ble_eq_true rfl, Nat.le_of_ble_eq_true rfl⟩, (dr_words hts dr1 (.instanceMethod yX2_prepare) (by decide +kernel)), (dr_words hts dr1 (.selects RX2 yX2_prepare yX2_prepare) (by decide +kernel))⟩ ⟨preW_blind, (va_recv hK hPc (ci := 2) (q0 := 0) rfl rfl), preW_start (s := s.setDrawn dr1) hPc hK hDc (hNF.drawn dr1)⟩ rfl rfl hl.1 rfl (lv_room (Nat.le_of_ble_eq_true rfl)) dX0_learnBySquare_13 ⟨(Nat.zero_le _), (Nat.zero_le _)⟩) hS (fun q _ h => hFc q h) hFc (fun pr u9 t9 H1 locs ht9 hv9 hw hB9 hz9 hk9 hS du2 hu2 => ?_)
  obtain ⟨g1, k1⟩ := u9
  obtain ⟨hP1, hD1⟩ := hB9
  rw [ht9] at hP1
  obtain ⟨hP, hD⟩ := va_joinP (wr := [(o0, .inr (0, [.int kd, .ref aw, .ref ae, .ref os, .int th, .int wa, .int ta, .int lf, .double ou, .double er, .int ce, .int cd, .int rs])), (aw, aD q n fw)]) (rx := [(os, .inr (2, [.int (nI n), .ref an, .ref ag, .ref ah])), (an, aA q n (fun j => if j < n then some (ar j) else none)), (ag, aD q n g1), (ah, aD q n k1), (ax, aD q 8 (fun k => FP.i2d (xi k)))]) (pl1 := rowsW q n n ar P) hP hD [2, 3, 4, 5, 6] [0, 1] rfl rfl (by decide) (by decide) hk9 hFc hP1 hD1
  generalize H1 = H at hP hS ⊢
  have hP : va_P G vwCl ([(o0, .inr (0, [.int kd, .ref aw, .ref ae, .ref os, .int th, .int wa, .int ta, .int lf, .double ou, .double er, .int ce, .int cd, .int rs])), (aw, aD q n fw), (os, .inr (2, [.int (nI n), .ref an, .ref ag, .ref ah])), (an, aA q n (fun j => if j < n then some (ar j) else none)), (ag, aD q n g1), (ah, aD q n k1), (ax, aD q 8 (fun k => FP.i2d (xi k)))] ++ rowsW q n n ar P) H := hP
  have hD : va_D A ([(o0, .inr (0, [.int kd, .ref aw, .ref ae, .ref os, .int th, .int wa, .int ta, .int lf, .double ou, .double er, .int ce, .int cd, .int rs])), (aw, aD q n fw), (os, .inr (2, [.int (nI n), .ref an, .ref ag, .ref ah])), (an, aA q n (fun j => if j < n then some (ar j) else none)), (ag, aD q n g1), (ah, aD q n k1), (ax, aD q 8 (fun k => FP.i2d (xi k)))] ++ rowsW q n n ar P) := hD
  rw [hst] at hw
  obtain ⟨hpr, hg1, hk1⟩ := hw
  try dsimp only at hpr hg1 hk1
  refine lv_istore (lv' := [(5, .int pr), (3, .double r1), (0, .ref o0), (1, .ref os), (2, .ref ax)]) hx hb dX0_learnBySquare_16 hl (by decide) rfl (fun ls hl => ?_)
  refine lv_iload hx hb dX0_learnBySquare_18 (lv_at hl 0 rfl) ?_
  by_cases hlow : gLow n (fDiv (fI th) k1000) (fun i j => dV (P i j)) xi
  · skip
    rw [if_pos hlow] at hpr
    refine lv_if_eq (tgt := 66) hx hb dX0_learnBySquare_20 (by decide) (fun _ => ?_) (fun h => absurd hpr h)
    refine lv_iload hx hb dX0_learnBySquare_66 (lv_at hl 0 rfl) ?_
    refine lv_if_ne (tgt := 85) hx hb dX0_learnBySquare_68 (by decide) (fun h => absurd hpr h) (fun _ => ?_)
    refine lv_aload_n hx hb dX0_learnBySquare_71 rfl (lv_at hl 3 rfl) ?_
    have hres : (gLow n (fDiv (fI th) k1000) (fun i j => dV (P i j)) xi ∨ ¬ gAll (fun i => gQ n (fDiv (fI th) k1000) (fun i j => dV (P i j)) xi i i) n = true) := Or.inl hlow
    have hPc := hP.part (cx := [(os, .inr (2, [.int (nI n), .ref an, .ref ag, .ref ah])), (an, aA q n (fun j => if j < n then some (ar j) else none))]) [2, 3] rfl
    have hDc := hD.part (cx := [(os, .inr (2, [.int (nI n), .ref an, .ref ag, .ref ah])), (an, aA q n (fun j => if j < n then some (ar j) else none))]) [2, 3] (by decide) rfl
    have hFc := va_freeP (cx := [(os, .inr (2, [.int (nI n), .ref an, .ref ag, .ref ah])), (an, aA q n (fun j => if j < n then some (ar j) else none))]) hD hS hA [2, 3] rfl
    refine va_callv (va_runVN (As := []) (rest := []) ⟨hx, hb, hml, hown, (dr_words hts du2)⟩ (m_X2_restart l G q H.size os an ag ah n ar P hn) ⟨va_cnB 0 (dr_words hts du2) gX0_learnBySquare_X2_restart_n40 rfl rfl rfl ((hNF.drawn du2).1 (.methodLinkNest RX0 40 yX2_restart "EchoBench") (by decide +kernel)) (dr_words hts du2 (.initialized RX2) (by decide +kernel)) (by decide +kernel) ⟨Nat.le_of_ble_eq_true rfl, Nat.le_of_ble_eq_true rfl⟩, (dr_words hts du2 (.instanceMethod yX2_restart) (by decide +kernel)), (dr_words hts du2 (.selects RX2 yX2_restart yX2_restart) (by decide +kernel))⟩ ⟨preW_blind, (va_recv hK hPc (ci := 2) (q0 := 0) rfl rfl), preW_start (s := s.setDrawn du2) hPc hK hDc (hNF.drawn du2)⟩ rfl rfl hl.1 rfl (lv_room (Nat.le_of_ble_eq_true rfl)) dX0_learnBySquare_72 ⟨(Nat.zero_le _), (Nat.zero_le _)⟩) hS (fun q _ h => hFc q h) hFc (fun u9 t9 H1 locs ht9 hv9 hw hB9 hz9 hk9 hS => ?_)
    obtain ⟨P9, rfl⟩ : ∃ z, z = u9 := ⟨_, rfl⟩
    obtain ⟨hP1, hD1⟩ := hB9
    rw [ht9] at hP1
    obtain ⟨hP, hD⟩ := va_joinP (wr := [(o0, .inr (0, [.int kd, .ref aw, .ref ae, .ref os, .int th, .int wa, .int ta, .int lf, .double ou, .double er, .int ce, .int cd, .int rs])), (aw, aD q n fw), (ag, aD q n g1), (ah, aD q n k1), (ax, aD q 8 (fun k => FP.i2d (xi k)))]) (rx := [(os, .inr (2, [.int (nI n), .ref an, .ref ag, .ref ah])), (an, aA q n (fun j => if j < n then some (ar j) else none))]) (pl1 := rowsW q n n ar P9) hP hD [2, 3] [0, 1, 4, 5, 6] rfl rfl (by decide) (by decide) hk9 hFc hP1 hD1
    generalize H1 = H at hP hS ⊢
    have hP : va_P G vwCl ([(o0, .inr (0, [.int kd, .ref aw, .ref ae, .ref os, .int th, .int wa, .int ta, .int lf, .double ou, .double er, .int ce, .int cd, .int rs])), (aw, aD q n fw), (ag, aD q n g1), (ah, aD q n k1), (ax, aD q 8 (fun k => FP.i2d (xi k))), (os, .inr (2, [.int (nI n), .ref an, .ref ag, .ref ah])), (an, aA q n (fun j => if j < n then some (ar j) else none))] ++ rowsW q n n ar P9) H := hP
    have hD : va_D A ([(o0, .inr (0, [.int kd, .ref aw, .ref ae, .ref os, .int th, .int wa, .int ta, .int lf, .double ou, .double er, .int ce, .int cd, .int rs])), (aw, aD q n fw), (ag, aD q n g1), (ah, aD q n k1), (ax, aD q 8 (fun k => FP.i2d (xi k))), (os, .inr (2, [.int (nI n), .ref an, .ref ag, .ref ah])), (an, aA q n (fun j => if j < n then some (ar j) else none))] ++ rowsW q n n ar P9) := hD
    have hP9r := hw
    refine lv_aload_n hx hb dX0_learnBySquare_75 rfl (lv_at hl 2 rfl) ?_
    refine lv_dup hx hb dX0_learnBySquare_76 rfl ?_
    refine va_get (D := G) (ci := 0) (v := .int rs) (C := RX0) (T := TX0) (N := 13) hx hb (dr_words hts du2) in_X0_learnBySquare_X0 hown hK hP 0 rfl rfl 12 (by decide) (dr_words hts du2 (.fieldLink RX0 59 "EchoBench$Filter" "resets" "I") (by decide +kernel)) (fun _ h9 => h9) rfl dX0_learnBySquare_77 ?_
    refine lv_iconst (v := 1) hx hb dX0_learnBySquare_80 (by decide) ?_
    refine lv_iadd hx hb dX0_learnBySquare_81 ?_
    refine lv_topi (fun x7 ex7 => ?_)
    refine va_put (D := G) (ci := 0) (v := .int x7) (ty := .int) (C := RX0) (T := TX0) (N := 13) hx hb (dr_words hts du2) in_X0_learnBySquare_X0 tyX0 tyX0_ok nmX0 hown hK hP hD hS 0 rfl rfl 12 (by decide) (dr_words hts du2 (.fieldLink RX0 59 "EchoBench$Filter" "resets" "I") (by decide +kernel)) (fun _ h9 => h9) rfl (by decide +kernel) rfl rfl (Nat.le_of_ble_eq_true rfl) dX0_learnBySquare_82 (fun H locs hP hD hS => ?_)
    have hP : va_P G vwCl ([(o0, .inr (0, [.int kd, .ref aw, .ref ae, .ref os, .int th, .int wa, .int ta, .int lf, .double ou, .double er, .int ce, .int cd, .int x7])), (aw, aD q n fw), (ag, aD q n g1), (ah, aD q n k1), (ax, aD q 8 (fun k => FP.i2d (xi k))), (os, .inr (2, [.int (nI n), .ref an, .ref ag, .ref ah])), (an, aA q n (fun j => if j < n then some (ar j) else none))] ++ rowsW q n n ar P9) H := hP
    have hD : va_D A ([(o0, .inr (0, [.int kd, .ref aw, .ref ae, .ref os, .int th, .int wa, .int ta, .int lf, .double ou, .double er, .int ce, .int cd, .int x7])), (aw, aD q n fw), (ag, aD q n g1), (ah, aD q n k1), (ax, aD q 8 (fun k => FP.i2d (xi k))), (os, .inr (2, [.int (nI n), .ref an, .ref ag, .ref ah])), (an, aA q n (fun j => if j < n then some (ar j) else none))] ++ rowsW q n n ar P9) := hD
    have hP := hP.part (cx := [(o0, .inr (0, [.int kd, .ref aw, .ref ae, .ref os, .int th, .int wa, .int ta, .int lf, .double ou, .double er, .int ce, .int cd, .int x7])), (aw, aD q n fw), (os, .inr (2, [.int (nI n), .ref an, .ref ag, .ref ah])), (an, aA q n (fun j => if j < n then some (ar j) else none)), (ag, aD q n g1), (ah, aD q n k1), (ax, aD q 8 (fun k => FP.i2d (xi k)))]) [0, 1, 5, 6, 2, 3, 4] rfl
    have hD := hD.part (cx := [(o0, .inr (0, [.int kd, .ref aw, .ref ae, .ref os, .int th, .int wa, .int ta, .int lf, .double ou, .double er, .int ce, .int cd, .int x7])), (aw, aD q n fw), (os, .inr (2, [.int (nI n), .ref an, .ref ag, .ref ah])), (an, aA q n (fun j => if j < n then some (ar j) else none)), (ag, aD q n g1), (ah, aD q n k1), (ax, aD q 8 (fun k => FP.i2d (xi k)))]) [0, 1, 5, 6, 2, 3, 4] (by decide) rfl
    have hP9 := hP
    have hD9 := hD
    refine W.endD hu2 ?_
    exact W.vret hx hb hr (fun t ht hW => ⟨⟨(fw, g1, k1, P9, x7), rfl, ⟨fun j hj => by dsimp only; rw [if_pos hlow], fun _ _ h9 => h9, fun a c ha hc => by dsimp only; rw [if_pos (hres), hP9r a c ha hc]; split <;> rfl, by dsimp only; rw [if_pos hres, ex7]⟩, by rw [ht]; exact hP9, hD9⟩, hS.F ht⟩) hS.2.2 dX0_learnBySquare_85
  rw [if_neg hlow] at hpr
  have hK := hK
  refine lv_if_eq (tgt := 66) hx hb dX0_learnBySquare_20 (by decide) (fun h => absurd h (fun z => absurd (hpr.symm.trans z) (by decide))) (fun _ => ?_)
  refine lv_iconst (v := 0) hx hb dX0_learnBySquare_23 (by decide) ?_
  refine lv_istore (lv' := [(6, .int 0), (5, .int pr), (3, .double r1), (0, .ref o0), (1, .ref os), (2, .ref ax)]) hx hb dX0_learnBySquare_24 hl (by decide) rfl (fun ls hl => ?_)
  have hkk : ∀ i, i < n → dV (k1 i) = gK n (fDiv (fI th) k1000) (fun i j => dV (P i j)) xi i := hk1 hlow
  have LOOP : ∀ (k : Nat) (j : Nat) (f : Nat → UInt64), j + k = n → (∀ j', j' < j → dV (f j') = sUp (dV (fw j')) (gMul (gK n (fDiv (fI th) k1000) (fun i j => dV (P i j)) xi j') (dV er))) → (∀ j', j ≤ j' → f j' = fw j') → (∀ j', j' < j → dV (fw j') ≠ nzD → dV (f j') ≠ nzD) → ∀ (H : Heap) (locs : List Loc) (d0 : Drawn), s.drawn.sameBut d0 lw_cs → va_P G vwCl ([(o0, .inr (0, [.int kd, .ref aw, .ref ae, .ref os, .int th, .int wa, .int ta, .int lf, .double ou, .double er, .int ce, .int cd, .int rs])), (aw, aD q n f), (os, .inr (2, [.int (nI n), .ref an, .ref ag, .ref ah])), (an, aA q n (fun j => if j < n then some (ar j) else none)), (ag, aD q n g1), (ah, aD q n k1), (ax, aD q 8 (fun k => FP.i2d (xi k)))] ++ rowsW q n n ar P) H → va_D A ([(o0, .inr (0, [.int kd, .ref aw, .ref ae, .ref os, .int th, .int wa, .int ta, .int lf, .double ou, .double er, .int ce, .int cd, .int rs])), (aw, aD q n f), (os, .inr (2, [.int (nI n), .ref an, .ref ag, .ref ah])), (an, aA q n (fun j => if j < n then some (ar j) else none)), (ag, aD q n g1), (ah, aD q n k1), (ax, aD q 8 (fun k => FP.i2d (xi k)))] ++ rowsW q n n ar P) → va_S A s.heap H locs → ∀ (ls : Array Slot), lv_has ls 7 [(0, .ref o0), (1, .ref os), (2, .ref ax), (3, .double r1), (6, .int (nI j))] → W p l e (headSpec wsX0_learnBySquare ({ frames := 4, cells := 0, slots := 0, locals := 140 } : Jvm.Room)).room (s.setDrawn d0) m #[.ref o0, .ref os, .ref ax] below meth c H locs 0 0 (MQD lw_cs below (va_Qv (fun (u : (Nat → UInt64) × (Nat → UInt64) × (Nat → UInt64) × (Nat → Nat → UInt64) × Int32) => (∀ j, j < n → dV (u.1 j) = if gLow n (fDiv (fI th) k1000) (fun i j => dV (P i j)) xi then dV (fw j) else sUp (dV (fw j)) (gMul (gK n (fDiv (fI th) k1000) (fun i j => dV (P i j)) xi j) (dV er))) ∧ (∀ j, j < n → dV (fw j) ≠ nzD → dV (u.1 j) ≠ nzD) ∧ (∀ a c, a < n → c < n → dV (u.2.2.2.1 a c) = if (gLow n (fDiv (fI th) k1000) (fun i j => dV (P i j)) xi ∨ ¬ gAll (fun i => gQ n (fDiv (fI th) k1000) (fun i j => dV (P i j)) xi i i) n = true) then (if a = c then dV H100 else dV 0) else gQ n (fDiv (fI th) k1000) (fun i j => dV (P i j)) xi a c) ∧ u.2.2.2.2 = if (gLow n (fDiv (fI th) k1000) (fun i j => dV (P i j)) xi ∨ ¬ gAll (fun i => gQ n (fDiv (fI th) k1000) (fun i j => dV (P i j)) xi i i) n = true) then rs + 1 else rs) (fun (u : (Nat → UInt64) × (Nat → UInt64) × (Nat → UInt64) × (Nat → Nat → UInt64) × Int32) t => EndA G A ([(o0, .inr (0, [.int kd, .ref aw, .ref ae, .ref os, .int th, .int wa, .int ta, .int lf, .double ou, .double er, .int ce, .int cd, .int u.2.2.2.2])), (aw, aD q n u.1), (os, .inr (2, [.int (nI n), .ref an, .ref ag, .ref ah])), (an, aA q n (fun j => if j < n then some (ar j) else none)), (ag, aD q n u.2.1), (ah, aD q n u.2.2.1), (ax, aD q 8 (fun k => FP.i2d (xi k)))] ++ rowsW q n n ar u.2.2.2.1) t) A) #[.ref o0, .ref os, .ref ax] s 0 0 A) (F0 m 26 ls []) := by
    intro k
    induction k with
    | zero =>
      intro j f hj h1 h2 h3 H locs d0 hd0 hP hD hS ls hl
      refine lv_iload hx hb dX0_learnBySquare_26 (lv_at hl 4 rfl) ?_
      refine lv_aload_n hx hb dX0_learnBySquare_28 rfl (lv_at hl 0 rfl) ?_
      refine va_get (D := G) (ci := 0) (v := .ref aw) (C := RX0) (T := TX0) (N := 13) hx hb (dr_words hts d0) in_X0_learnBySquare_X0 hown hK hP 0 rfl rfl 1 (by decide) (dr_words hts d0 (.fieldLink RX0 15 "EchoBench$Filter" "weights" "[D") (by decide +kernel)) (fun _ h9 => h9) rfl dX0_learnBySquare_29 ?_
      refine va_alen (s := s.setDrawn d0) (D := G) hx hb hK hP 1 1 rfl rfl (v := (nI n)) rfl dX0_learnBySquare_32 ?_
      refine lv_icmp_ge (tgt := 59) hx hb dX0_learnBySquare_33 (by decide) (fun _ => ?_) (fun h => absurd (nI_le (by omega) (by omega)) h)
      refine lv_aload_n hx hb dX0_learnBySquare_59 rfl (lv_at hl 1 rfl) ?_
      refine lv_dload_n hx hb dX0_learnBySquare_60 rfl (lv_at hl 3 rfl) ?_
      have hmu : fO (dV r1) (dV 0) = some .gt := by rw [hst]; exact mu_pos hth
      have hPc := hP.part (cx := [(os, .inr (2, [.int (nI n), .ref an, .ref ag, .ref ah])), (an, aA q n (fun j => if j < n then some (ar j) else none)), (ag, aD q n g1), (ah, aD q n k1)]) [2, 3, 4, 5] rfl
      have hDc := hD.part (cx := [(os, .inr (2, [.int (nI n), .ref an, .ref ag, .ref ah])), (an, aA q n (fun j => if j < n then some (ar j) else none)), (ag, aD q n g1), (ah, aD q n k1)]) [2, 3, 4, 5] (by decide) rfl
      have hFc := va_freeP (cx := [(os, .inr (2, [.int (nI n), .ref an, .ref ag, .ref ah])), (an, aA q n (fun j => if j < n then some (ar j) else none)), (ag, aD q n g1), (ah, aD q n k1)]) hD hS hA [2, 3, 4, 5] rfl
      refine va_calliD hd0 (va_runVN_D (As := [.double r1]) (rest := []) ⟨hx, hb, hml, hown, (dr_words hts d0)⟩ (m_X2_renew l G q H.size os an ag ah n ar P g1 k1 r1 hn hmu) ⟨va_cnB 1 (dr_words hts d0) gX0_learnBySquare_X2_renew_n119 rfl rfl rfl ((hNF.drawn d0).1 (.methodLinkNest RX0 119 yX2_renew "EchoBench") (by decide +kernel)) (dr_words hts d0 (.initialized RX2) (by decide +kernel)) (by decide +kernel) ⟨Nat.le_of_ble_eq_true rfl, Nat.le_of_ble_eq_true rfl⟩, (dr_words hts d0 (.instanceMethod yX2_renew) (by decide +kernel)), (dr_words hts d0 (.selects RX2 yX2_renew yX2_renew) (by decide +kernel))⟩ ⟨preW_blind, (va_recv hK hPc (ci := 2) (q0 := 0) rfl rfl), preW_start (s := s.setDrawn d0) hPc hK hDc (hNF.drawn d0)⟩ rfl rfl hl.1 rfl (lv_room (Nat.le_of_ble_eq_true rfl)) dX0_learnBySquare_61 ⟨(Nat.zero_le _), (Nat.zero_le _)⟩) hS (fun q _ h => hFc q h) hFc (fun rn u9 t9 H1 locs ht9 hv9 hw hB9 hz9 hk9 hS du10 hu10 => ?_)
      obtain ⟨P1, rfl⟩ : ∃ z, z = u9 := ⟨_, rfl⟩
      obtain ⟨hP1, hD1⟩ := hB9
      rw [ht9] at hP1
      obtain ⟨hP, hD⟩ := va_joinP (wr := [(o0, .inr (0, [.int kd, .ref aw, .ref ae, .ref os, .int th, .int wa, .int ta, .int lf, .double ou, .double er, .int ce, .int cd, .int rs])), (aw, aD q n f), (ax, aD q 8 (fun k => FP.i2d (xi k)))]) (rx := [(os, .inr (2, [.int (nI n), .ref an, .ref ag, .ref ah])), (an, aA q n (fun j => if j < n then some (ar j) else none)), (ag, aD q n g1), (ah, aD q n k1)]) (pl1 := rowsW q n n ar P1) hP hD [2, 3, 4, 5] [0, 1, 6] rfl rfl (by decide) (by decide) hk9 hFc hP1 hD1
      generalize H1 = H at hP hS ⊢
      have hP : va_P G vwCl ([(o0, .inr (0, [.int kd, .ref aw, .ref ae, .ref os, .int th, .int wa, .int ta, .int lf, .double ou, .double er, .int ce, .int cd, .int rs])), (aw, aD q n f), (ax, aD q 8 (fun k => FP.i2d (xi k))), (os, .inr (2, [.int (nI n), .ref an, .ref ag, .ref ah])), (an, aA q n (fun j => if j < n then some (ar j) else none)), (ag, aD q n g1), (ah, aD q n k1)] ++ rowsW q n n ar P1) H := hP
      have hD : va_D A ([(o0, .inr (0, [.int kd, .ref aw, .ref ae, .ref os, .int th, .int wa, .int ta, .int lf, .double ou, .double er, .int ce, .int cd, .int rs])), (aw, aD q n f), (ax, aD q 8 (fun k => FP.i2d (xi k))), (os, .inr (2, [.int (nI n), .ref an, .ref ag, .ref ah])), (an, aA q n (fun j => if j < n then some (ar j) else none)), (ag, aD q n g1), (ah, aD q n k1)] ++ rowsW q n n ar P1) := hD
      obtain ⟨hrn, hP1q⟩ := hw
      try dsimp only at hrn hP1q
      have hQ : ∀ a c, a < n → c < n → gR (dV r1) (fun a c => dV (P a c)) (fun i => dV (k1 i)) (fun j => dV (g1 j)) a c = gQ n (fDiv (fI th) k1000) (fun i j => dV (P i j)) xi a c := fun a c ha hc => by show fDiv (gSub _ (gMul (dV (k1 a)) (dV (g1 c)))) (dV r1) = fDiv (gSub _ (gMul _ _)) _; rw [hkk a ha, hg1 c hc, hst]
      have hgA : gAll (fun i => gR (dV r1) (fun a c => dV (P a c)) (fun i => dV (k1 i)) (fun j => dV (g1 j)) i i) n = gAll (fun i => gQ n (fDiv (fI th) k1000) (fun i j => dV (P i j)) xi i i) n := gAll_congr fun i hi => hQ i i hi hi
      rw [hgA] at hrn
      refine lv_istore (lv' := [(5, .int rn), (0, .ref o0), (1, .ref os), (2, .ref ax), (3, .double r1), (6, .int (nI j))]) hx hb dX0_learnBySquare_64 hl (by decide) rfl (fun ls hl => ?_)
      refine lv_iload hx hb dX0_learnBySquare_66 (lv_at hl 0 rfl) ?_
      by_cases hsnd : gAll (fun i => gQ n (fDiv (fI th) k1000) (fun i j => dV (P i j)) xi i i) n = true
      · skip
        have hrn1 : rn = 1 := hrn.trans (by rw [hsnd]; rfl)
        refine lv_if_ne (tgt := 85) hx hb dX0_learnBySquare_68 (by decide) (fun _ => ?_) (fun h => absurd h (fun z => absurd (hrn1.symm.trans z) (by decide)))
        have hres : ¬ (gLow n (fDiv (fI th) k1000) (fun i j => dV (P i j)) xi ∨ ¬ gAll (fun i => gQ n (fDiv (fI th) k1000) (fun i j => dV (P i j)) xi i i) n = true) := fun z => z.elim hlow (fun z => z hsnd)
        have hP := hP.part (cx := [(o0, .inr (0, [.int kd, .ref aw, .ref ae, .ref os, .int th, .int wa, .int ta, .int lf, .double ou, .double er, .int ce, .int cd, .int rs])), (aw, aD q n f), (os, .inr (2, [.int (nI n), .ref an, .ref ag, .ref ah])), (an, aA q n (fun j => if j < n then some (ar j) else none)), (ag, aD q n g1), (ah, aD q n k1), (ax, aD q 8 (fun k => FP.i2d (xi k)))]) [0, 1, 3, 4, 5, 6, 2] rfl
        have hD := hD.part (cx := [(o0, .inr (0, [.int kd, .ref aw, .ref ae, .ref os, .int th, .int wa, .int ta, .int lf, .double ou, .double er, .int ce, .int cd, .int rs])), (aw, aD q n f), (os, .inr (2, [.int (nI n), .ref an, .ref ag, .ref ah])), (an, aA q n (fun j => if j < n then some (ar j) else none)), (ag, aD q n g1), (ah, aD q n k1), (ax, aD q 8 (fun k => FP.i2d (xi k)))]) [0, 1, 3, 4, 5, 6, 2] (by decide) rfl
        have hP9 := hP
        have hD9 := hD
        refine W.endD hu10 ?_
        exact W.vret hx hb hr (fun t ht hW => ⟨⟨(f, g1, k1, P1, rs), rfl, ⟨fun i hi => by dsimp only; rw [if_neg hlow]; exact h1 i (by omega), fun i hi => h3 i (by omega), fun a c ha hc => by dsimp only; rw [if_neg hres, hP1q a c ha hc, hQ a c ha hc], by dsimp only; rw [if_neg hres]⟩, by rw [ht]; exact hP9, hD9⟩, hS.F ht⟩) hS.2.2 dX0_learnBySquare_85
      · skip
        have hrn0 : rn = 0 := hrn.trans (by rw [Bool.eq_false_iff.mpr hsnd]; rfl)
        refine lv_if_ne (tgt := 85) hx hb dX0_learnBySquare_68 (by decide) (fun h => absurd hrn0 h) (fun _ => ?_)
        refine lv_aload_n hx hb dX0_learnBySquare_71 rfl (lv_at hl 2 rfl) ?_
        have hres : (gLow n (fDiv (fI th) k1000) (fun i j => dV (P i j)) xi ∨ ¬ gAll (fun i => gQ n (fDiv (fI th) k1000) (fun i j => dV (P i j)) xi i i) n = true) := Or.inr hsnd
        have hPc := hP.part (cx := [(os, .inr (2, [.int (nI n), .ref an, .ref ag, .ref ah])), (an, aA q n (fun j => if j < n then some (ar j) else none))]) [3, 4] rfl
        have hDc := hD.part (cx := [(os, .inr (2, [.int (nI n), .ref an, .ref ag, .ref ah])), (an, aA q n (fun j => if j < n then some (ar j) else none))]) [3, 4] (by decide) rfl
        have hFc := va_freeP (cx := [(os, .inr (2, [.int (nI n), .ref an, .ref ag, .ref ah])), (an, aA q n (fun j => if j < n then some (ar j) else none))]) hD hS hA [3, 4] rfl
        refine va_callv (va_runVN (As := []) (rest := []) ⟨hx, hb, hml, hown, (dr_words hts du10)⟩ (m_X2_restart l G q H.size os an ag ah n ar P1 hn) ⟨va_cnB 0 (dr_words hts du10) gX0_learnBySquare_X2_restart_n40 rfl rfl rfl ((hNF.drawn du10).1 (.methodLinkNest RX0 40 yX2_restart "EchoBench") (by decide +kernel)) (dr_words hts du10 (.initialized RX2) (by decide +kernel)) (by decide +kernel) ⟨Nat.le_of_ble_eq_true rfl, Nat.le_of_ble_eq_true rfl⟩, (dr_words hts du10 (.instanceMethod yX2_restart) (by decide +kernel)), (dr_words hts du10 (.selects RX2 yX2_restart yX2_restart) (by decide +kernel))⟩ ⟨preW_blind, (va_recv hK hPc (ci := 2) (q0 := 0) rfl rfl), preW_start (s := s.setDrawn du10) hPc hK hDc (hNF.drawn du10)⟩ rfl rfl hl.1 rfl (lv_room (Nat.le_of_ble_eq_true rfl)) dX0_learnBySquare_72 ⟨(Nat.zero_le _), (Nat.zero_le _)⟩) hS (fun q _ h => hFc q h) hFc (fun u9 t9 H1 locs ht9 hv9 hw hB9 hz9 hk9 hS => ?_)
        obtain ⟨P9, rfl⟩ : ∃ z, z = u9 := ⟨_, rfl⟩
        obtain ⟨hP1, hD1⟩ := hB9
        rw [ht9] at hP1
        obtain ⟨hP, hD⟩ := va_joinP (wr := [(o0, .inr (0, [.int kd, .ref aw, .ref ae, .ref os, .int th, .int wa, .int ta, .int lf, .double ou, .double er, .int ce, .int cd, .int rs])), (aw, aD q n f), (ax, aD q 8 (fun k => FP.i2d (xi k))), (ag, aD q n g1), (ah, aD q n k1)]) (rx := [(os, .inr (2, [.int (nI n), .ref an, .ref ag, .ref ah])), (an, aA q n (fun j => if j < n then some (ar j) else none))]) (pl1 := rowsW q n n ar P9) hP hD [3, 4] [0, 1, 2, 5, 6] rfl rfl (by decide) (by decide) hk9 hFc hP1 hD1
        generalize H1 = H at hP hS ⊢
        have hP : va_P G vwCl ([(o0, .inr (0, [.int kd, .ref aw, .ref ae, .ref os, .int th, .int wa, .int ta, .int lf, .double ou, .double er, .int ce, .int cd, .int rs])), (aw, aD q n f), (ax, aD q 8 (fun k => FP.i2d (xi k))), (ag, aD q n g1), (ah, aD q n k1), (os, .inr (2, [.int (nI n), .ref an, .ref ag, .ref ah])), (an, aA q n (fun j => if j < n then some (ar j) else none))] ++ rowsW q n n ar P9) H := hP
        have hD : va_D A ([(o0, .inr (0, [.int kd, .ref aw, .ref ae, .ref os, .int th, .int wa, .int ta, .int lf, .double ou, .double er, .int ce, .int cd, .int rs])), (aw, aD q n f), (ax, aD q 8 (fun k => FP.i2d (xi k))), (ag, aD q n g1), (ah, aD q n k1), (os, .inr (2, [.int (nI n), .ref an, .ref ag, .ref ah])), (an, aA q n (fun j => if j < n then some (ar j) else none))] ++ rowsW q n n ar P9) := hD
        have hP9r := hw
        refine lv_aload_n hx hb dX0_learnBySquare_75 rfl (lv_at hl 1 rfl) ?_
        refine lv_dup hx hb dX0_learnBySquare_76 rfl ?_
        refine va_get (D := G) (ci := 0) (v := .int rs) (C := RX0) (T := TX0) (N := 13) hx hb (dr_words hts du10) in_X0_learnBySquare_X0 hown hK hP 0 rfl rfl 12 (by decide) (dr_words hts du10 (.fieldLink RX0 59 "EchoBench$Filter" "resets" "I") (by decide +kernel)) (fun _ h9 => h9) rfl dX0_learnBySquare_77 ?_
        refine lv_iconst (v := 1) hx hb dX0_learnBySquare_80 (by decide) ?_
        refine lv_iadd hx hb dX0_learnBySquare_81 ?_
        refine lv_topi (fun x15 ex15 => ?_)
        refine va_put (D := G) (ci := 0) (v := .int x15) (ty := .int) (C := RX0) (T := TX0) (N := 13) hx hb (dr_words hts du10) in_X0_learnBySquare_X0 tyX0 tyX0_ok nmX0 hown hK hP hD hS 0 rfl rfl 12 (by decide) (dr_words hts du10 (.fieldLink RX0 59 "EchoBench$Filter" "resets" "I") (by decide +kernel)) (fun _ h9 => h9) rfl (by decide +kernel) rfl rfl (Nat.le_of_ble_eq_true rfl) dX0_learnBySquare_82 (fun H locs hP hD hS => ?_)
        have hP : va_P G vwCl ([(o0, .inr (0, [.int kd, .ref aw, .ref ae, .ref os, .int th, .int wa, .int ta, .int lf, .double ou, .double er, .int ce, .int cd, .int x15])), (aw, aD q n f), (ax, aD q 8 (fun k => FP.i2d (xi k))), (ag, aD q n g1), (ah, aD q n k1), (os, .inr (2, [.int (nI n), .ref an, .ref ag, .ref ah])), (an, aA q n (fun j => if j < n then some (ar j) else none))] ++ rowsW q n n ar P9) H := hP
        have hD : va_D A ([(o0, .inr (0, [.int kd, .ref aw, .ref ae, .ref os, .int th, .int wa, .int ta, .int lf, .double ou, .double er, .int ce, .int cd, .int x15])), (aw, aD q n f), (ax, aD q 8 (fun k => FP.i2d (xi k))), (ag, aD q n g1), (ah, aD q n k1), (os, .inr (2, [.int (nI n), .ref an, .ref ag, .ref ah])), (an, aA q n (fun j => if j < n then some (ar j) else none))] ++ rowsW q n n ar P9) := hD
        have hP := hP.part (cx := [(o0, .inr (0, [.int kd, .ref aw, .ref ae, .ref os, .int th, .int wa, .int ta, .int lf, .double ou, .double er, .int ce, .int cd, .int x15])), (aw, aD q n f), (os, .inr (2, [.int (nI n), .ref an, .ref ag, .ref ah])), (an, aA q n (fun j => if j < n then some (ar j) else none)), (ag, aD q n g1), (ah, aD q n k1), (ax, aD q 8 (fun k => FP.i2d (xi k)))]) [0, 1, 5, 6, 3, 4, 2] rfl
        have hD := hD.part (cx := [(o0, .inr (0, [.int kd, .ref aw, .ref ae, .ref os, .int th, .int wa, .int ta, .int lf, .double ou, .double er, .int ce, .int cd, .int x15])), (aw, aD q n f), (os, .inr (2, [.int (nI n), .ref an, .ref ag, .ref ah])), (an, aA q n (fun j => if j < n then some (ar j) else none)), (ag, aD q n g1), (ah, aD q n k1), (ax, aD q 8 (fun k => FP.i2d (xi k)))]) [0, 1, 5, 6, 3, 4, 2] (by decide) rfl
        have hP9 := hP
        have hD9 := hD
        refine W.endD hu10 ?_
        exact W.vret hx hb hr (fun t ht hW => ⟨⟨(f, g1, k1, P9, x15), rfl, ⟨fun i hi => by dsimp only; rw [if_neg hlow]; exact h1 i (by omega), fun i hi => h3 i (by omega), fun a c ha hc => by dsimp only; rw [if_pos (hres), hP9r a c ha hc]; split <;> rfl, by dsimp only; rw [if_pos hres, ex15]⟩, by rw [ht]; exact hP9, hD9⟩, hS.F ht⟩) hS.2.2 dX0_learnBySquare_85
    | succ k ih =>
      intro j f hj h1 h2 h3 H locs d0 hd0 hP hD hS ls hl
      refine lv_iload hx hb dX0_learnBySquare_26 (lv_at hl 4 rfl) ?_
      refine lv_aload_n hx hb dX0_learnBySquare_28 rfl (lv_at hl 0 rfl) ?_
      refine va_get (D := G) (ci := 0) (v := .ref aw) (C := RX0) (T := TX0) (N := 13) hx hb (dr_words hts d0) in_X0_learnBySquare_X0 hown hK hP 0 rfl rfl 1 (by decide) (dr_words hts d0 (.fieldLink RX0 15 "EchoBench$Filter" "weights" "[D") (by decide +kernel)) (fun _ h9 => h9) rfl dX0_learnBySquare_29 ?_
      refine va_alen (s := s.setDrawn d0) (D := G) hx hb hK hP 1 1 rfl rfl (v := (nI n)) rfl dX0_learnBySquare_32 ?_
      refine lv_icmp_ge (tgt := 59) hx hb dX0_learnBySquare_33 (by decide) (fun h => absurd h (nI_ge (by omega) (by omega))) (fun _ => ?_)
      refine lv_aload_n hx hb dX0_learnBySquare_36 rfl (lv_at hl 0 rfl) ?_
      refine lv_iload hx hb dX0_learnBySquare_37 (lv_at hl 4 rfl) ?_
      refine lv_aload_n hx hb dX0_learnBySquare_39 rfl (lv_at hl 1 rfl) ?_
      refine lv_iload hx hb dX0_learnBySquare_40 (lv_at hl 4 rfl) ?_
      have hPc := hP.sub (ws' := [(os, .inr (2, [.int (nI n), .ref an, .ref ag, .ref ah])), (ah, aD q n k1)]) [2, 5] rfl
      have hDc := hD.sub (ws' := [(os, .inr (2, [.int (nI n), .ref an, .ref ag, .ref ah])), (ah, aD q n k1)]) [2, 5] (by decide) rfl
      have hFc := va_free (wc := [(os, .inr (2, [.int (nI n), .ref an, .ref ag, .ref ah])), (ah, aD q n k1)]) hD hS hA [2, 5] rfl
      refine va_calld (va_runVN (As := [.int (nI j)]) (rest := [.int (nI j), .ref o0]) ⟨hx, hb, hml, hown, (dr_words hts d0)⟩ (m_X2_share l G q H.size os an ag ah n k1 j hn (by omega)) ⟨va_cnB 1 (dr_words hts d0) gX0_learnBySquare_X2_share_n115 rfl rfl rfl ((hNF.drawn d0).1 (.methodLinkNest RX0 115 yX2_share "EchoBench") (by decide +kernel)) (dr_words hts d0 (.initialized RX2) (by decide +kernel)) (by decide +kernel) ⟨Nat.le_of_ble_eq_true rfl, Nat.le_of_ble_eq_true rfl⟩, (dr_words hts d0 (.instanceMethod yX2_share) (by decide +kernel)), (dr_words hts d0 (.selects RX2 yX2_share yX2_share) (by decide +kernel))⟩ ⟨preW_blind, (va_recv hK hPc (ci := 2) (q0 := 0) rfl rfl), preW_start (s := s.setDrawn d0) hPc hK hDc (hNF.drawn d0)⟩ rfl rfl hl.1 rfl (lv_room (Nat.le_of_ble_eq_true rfl)) dX0_learnBySquare_42 ⟨(Nat.zero_le _), (Nat.zero_le _)⟩) hS (fun q _ h => hFc q h) hFc (fun sh u9 t9 H1 locs ht9 hv9 hw hB9 hz9 hk9 hS => ?_)
      obtain ⟨⟩ := u9
      obtain ⟨hP1, hD1⟩ := hB9
      rw [ht9] at hP1
      obtain ⟨hP, hD⟩ := va_joinQ (wr := [(o0, .inr (0, [.int kd, .ref aw, .ref ae, .ref os, .int th, .int wa, .int ta, .int lf, .double ou, .double er, .int ce, .int cd, .int rs])), (aw, aD q n f), (an, aA q n (fun j => if j < n then some (ar j) else none)), (ag, aD q n g1), (ax, aD q 8 (fun k => FP.i2d (xi k)))]) (w1 := [(os, .inr (2, [.int (nI n), .ref an, .ref ag, .ref ah])), (ah, aD q n k1)]) hP hD [2, 5] [0, 1, 3, 4, 6] rfl rfl (by decide) (by decide) hk9 hFc hP1 hD1
      generalize H1 = H at hP hS ⊢
      have hP : va_P G vwCl ([(o0, .inr (0, [.int kd, .ref aw, .ref ae, .ref os, .int th, .int wa, .int ta, .int lf, .double ou, .double er, .int ce, .int cd, .int rs])), (aw, aD q n f), (an, aA q n (fun j => if j < n then some (ar j) else none)), (ag, aD q n g1), (ax, aD q 8 (fun k => FP.i2d (xi k))), (os, .inr (2, [.int (nI n), .ref an, .ref ag, .ref ah])), (ah, aD q n k1)] ++ rowsW q n n ar P) H := hP
      have hD : va_D A ([(o0, .inr (0, [.int kd, .ref aw, .ref ae, .ref os, .int th, .int wa, .int ta, .int lf, .double ou, .double er, .int ce, .int cd, .int rs])), (aw, aD q n f), (an, aA q n (fun j => if j < n then some (ar j) else none)), (ag, aD q n g1), (ax, aD q 8 (fun k => FP.i2d (xi k))), (os, .inr (2, [.int (nI n), .ref an, .ref ag, .ref ah])), (ah, aD q n k1)] ++ rowsW q n n ar P) := hD
      have hsh : sh = k1 j := hw
      refine lv_aload_n hx hb dX0_learnBySquare_45 rfl (lv_at hl 0 rfl) ?_
      refine va_get (D := G) (ci := 0) (v := .double er) (C := RX0) (T := TX0) (N := 13) hx hb (dr_words hts d0) in_X0_learnBySquare_X0 hown hK hP 0 rfl rfl 9 (by decide) (dr_words hts d0 (.fieldLink RX0 50 "EchoBench$Filter" "error" "D") (by decide +kernel)) (fun _ h9 => h9) rfl dX0_learnBySquare_46 ?_
      refine lv_dmul_any hd0 lw_bits hx hb dX0_learnBySquare_49 (fun r18 dr18 ar18 hr18 => ?_)
      have er18 := dV_mul ar18
      have hPc := hP.sub (ws' := [(o0, .inr (0, [.int kd, .ref aw, .ref ae, .ref os, .int th, .int wa, .int ta, .int lf, .double ou, .double er, .int ce, .int cd, .int rs])), (aw, aD q n f)]) [0, 1] rfl
      have hDc := hD.sub (ws' := [(o0, .inr (0, [.int kd, .ref aw, .ref ae, .ref os, .int th, .int wa, .int ta, .int lf, .double ou, .double er, .int ce, .int cd, .int rs])), (aw, aD q n f)]) [0, 1] (by decide) rfl
      have hFc := va_free (wc := [(o0, .inr (0, [.int kd, .ref aw, .ref ae, .ref os, .int th, .int wa, .int ta, .int lf, .double ou, .double er, .int ce, .int cd, .int rs])), (aw, aD q n f)]) hD hS hA [0, 1] rfl
      refine va_callvD hr18 (va_runV_D (As := [.int (nI j), .double r18]) (rest := []) ⟨hx, hb, hml, hown, (dr_words hts dr18)⟩ (m_X0_add l G q H.size o0 aw ae ax n (.ref os) kd th wa ta lf ce cd rs ou er f xi j r18 (by omega) (by omega)) (cwV 2 (dr_words hts dr18) gX0_learnBySquare_X0_add rfl rfl rfl (by decide +kernel) ⟨Nat.le_of_ble_eq_true rfl, Nat.le_of_ble_eq_true rfl⟩) ⟨preW_blind, (va_recv hK hPc (ci := 0) (q0 := 0) rfl rfl), preW_start (s := s.setDrawn dr18) hPc hK hDc (hNF.drawn dr18)⟩ rfl rfl hl.1 rfl (lv_room (Nat.le_of_ble_eq_true rfl)) dX0_learnBySquare_50 ⟨(Nat.zero_le _), (Nat.zero_le _)⟩) hS (fun q _ h => hFc q h) hFc (fun u9 t9 H1 locs ht9 hv9 hw hB9 hz9 hk9 hS du20 hu20 => ?_)
      obtain ⟨v1, rfl⟩ : ∃ z, z = u9 := ⟨_, rfl⟩
      obtain ⟨hP1, hD1⟩ := hB9
      rw [ht9] at hP1
      obtain ⟨hP, hD⟩ := va_joinQ (wr := [(an, aA q n (fun j => if j < n then some (ar j) else none)), (ag, aD q n g1), (ax, aD q 8 (fun k => FP.i2d (xi k))), (os, .inr (2, [.int (nI n), .ref an, .ref ag, .ref ah])), (ah, aD q n k1)]) (w1 := [(o0, .inr (0, [.int kd, .ref aw, .ref ae, .ref os, .int th, .int wa, .int ta, .int lf, .double ou, .double er, .int ce, .int cd, .int rs])), (aw, aD q n (vf_upd f j v1))]) hP hD [0, 1] [2, 3, 4, 5, 6] rfl rfl (by decide) (by decide) hk9 hFc hP1 hD1
      generalize H1 = H at hP hS ⊢
      have hP : va_P G vwCl ([(an, aA q n (fun j => if j < n then some (ar j) else none)), (ag, aD q n g1), (ax, aD q 8 (fun k => FP.i2d (xi k))), (os, .inr (2, [.int (nI n), .ref an, .ref ag, .ref ah])), (ah, aD q n k1), (o0, .inr (0, [.int kd, .ref aw, .ref ae, .ref os, .int th, .int wa, .int ta, .int lf, .double ou, .double er, .int ce, .int cd, .int rs])), (aw, aD q n (vf_upd f j v1))] ++ rowsW q n n ar P) H := hP
      have hD : va_D A ([(an, aA q n (fun j => if j < n then some (ar j) else none)), (ag, aD q n g1), (ax, aD q 8 (fun k => FP.i2d (xi k))), (os, .inr (2, [.int (nI n), .ref an, .ref ag, .ref ah])), (ah, aD q n k1), (o0, .inr (0, [.int kd, .ref aw, .ref ae, .ref os, .int th, .int wa, .int ta, .int lf, .double ou, .double er, .int ce, .int cd, .int rs])), (aw, aD q n (vf_upd f j v1))] ++ rowsW q n n ar P) := hD
      have hv1 := hw
      refine lv_iinc (v := nI (j + 1)) (lv' := [(6, .int (nI (j + 1))), (0, .ref o0), (1, .ref os), (2, .ref ax), (3, .double r1)]) hx hb dX0_learnBySquare_53 hl (k := 4) rfl (nI_succ _).symm (by decide) rfl (fun ls hl => ?_)
      refine lv_goto (tgt := 26) hx hb dX0_learnBySquare_56 (by decide) ?_
      exact ih (j + 1) (vf_upd f j v1) (by omega) (vf_ups (g := fun i => sUp (dV (fw i)) (gMul (gK n (fDiv (fI th) k1000) (fun i j => dV (P i j)) xi i) (dV er))) h1 (by rw [hv1, er18, hsh, hkk j (by omega), h2 j (Nat.le_refl _)])) (vf_rest h2) (fun i hi h9 => by by_cases e9 : i = j; (rw [e9, vf_self, hv1, h2 j (Nat.le_refl _)]; rw [e9] at h9; exact nz_up (ok_dV _) (ok_dV _) h9); (rw [show vf_upd f j v1 i = f i from if_neg e9]; exact h3 i (by omega) h9)) _ _ _ hu20 (hP.part (cx := [(o0, .inr (0, [.int kd, .ref aw, .ref ae, .ref os, .int th, .int wa, .int ta, .int lf, .double ou, .double er, .int ce, .int cd, .int rs])), (aw, aD q n (vf_upd f j v1)), (os, .inr (2, [.int (nI n), .ref an, .ref ag, .ref ah])), (an, aA q n (fun j => if j < n then some (ar j) else none)), (ag, aD q n g1), (ah, aD q n k1), (ax, aD q 8 (fun k => FP.i2d (xi k)))]) [5, 6, 3, 0, 1, 4, 2] rfl) (hD.part (cx := [(o0, .inr (0, [.int kd, .ref aw, .ref ae, .ref os, .int th, .int wa, .int ta, .int lf, .double ou, .double er, .int ce, .int cd, .int rs])), (aw, aD q n (vf_upd f j v1)), (os, .inr (2, [.int (nI n), .ref an, .ref ag, .ref ah])), (an, aA q n (fun j => if j < n then some (ar j) else none)), (ag, aD q n g1), (ah, aD q n k1), (ax, aD q 8 (fun k => FP.i2d (xi k)))]) [5, 6, 3, 0, 1, 4, 2] (by decide) rfl) hS ls (lv_sub hl [1, 2, 3, 4, 0] rfl)
  exact LOOP n 0 fw (by omega) (fun i hi => absurd hi (by omega)) (fun _ _ => rfl) (fun i hi => absurd hi (by omega)) _ _ _ hu2 (hP.part (cx := [(o0, .inr (0, [.int kd, .ref aw, .ref ae, .ref os, .int th, .int wa, .int ta, .int lf, .double ou, .double er, .int ce, .int cd, .int rs])), (aw, aD q n fw), (os, .inr (2, [.int (nI n), .ref an, .ref ag, .ref ah])), (an, aA q n (fun j => if j < n then some (ar j) else none)), (ag, aD q n g1), (ah, aD q n k1), (ax, aD q 8 (fun k => FP.i2d (xi k)))]) [0, 1, 2, 3, 4, 5, 6] rfl) (hD.part (cx := [(o0, .inr (0, [.int kd, .ref aw, .ref ae, .ref os, .int th, .int wa, .int ta, .int lf, .double ou, .double er, .int ce, .int cd, .int rs])), (aw, aD q n fw), (os, .inr (2, [.int (nI n), .ref an, .ref ag, .ref ah])), (an, aA q n (fun j => if j < n then some (ar j) else none)), (ag, aD q n g1), (ah, aD q n k1), (ax, aD q 8 (fun k => FP.i2d (xi k)))]) [0, 1, 2, 3, 4, 5, 6] (by decide) rfl) hS ls (lv_sub hl [3, 4, 5, 2, 0] rfl)
