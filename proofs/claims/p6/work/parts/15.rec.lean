theorem in_X4_learnRecursively_X4 : ∀ w ∈ wsX40, w ∈ wsX4_learnRecursively := by decide +kernel
set_option maxHeartbeats 4000000 in
set_option maxRecDepth 100000 in
/-- learnRecursively -/
theorem m_X4_learnRec (l : Launch) (G : va_G) (q : Nat → ClassId) (sz : Nat) (om : Nat) (am : Nat → Nat) (th sa fi : Int32) (mi : UInt64) (fx n : Nat) (xi : Nat → Int32) (Ti : Nat → Int32) (Si : Nat → Int32) (Ri : Nat → Int32) (Wt : Nat → UInt64) (Er : Nat → UInt64) (Sq : Nat → UInt64) (gg : Nat → UInt64) (hfx : fx < 6) (hn : n ≤ 4) (hT : Ti fx = nI n) : MetD lw_cs l yX4_learnRecursively wsX4_learnRecursively ({ frames := 1, cells := 0, slots := 0, locals := 26 } : Jvm.Room) (PreW G q [.ref om, .int (nI fx)] [(om, .inr (4, [.int th, .int sa, .ref (am 0), .ref (am 1), .double mi, .ref (am 2), .ref (am 3), .ref (am 4), .int fi, .ref (am 5), .ref (am 6), .ref (am 7), .ref (am 8), .ref (am 9), .ref (am 10), .ref (am 11), .ref (am 12), .ref (am 13), .ref (am 14), .ref (am 15), .ref (am 16), .ref (am 17), .ref (am 18), .ref (am 19)])), ((am 1), aI q 8 xi), ((am 6), aI q 6 Ti), ((am 7), aI q 6 Si), ((am 13), aI q 6 Ri), ((am 14), aD q 48 Wt), ((am 16), aD q 6 Er), ((am 18), aD q 96 Sq), ((am 19), aD q 4 gg)] sz) (va_Qv (fun (u : (Nat → UInt64) × (Nat → UInt64) × (Nat → UInt64) × (Nat → Int32)) => (∀ j, j < n → dV (u.1 (8 * fx + j)) = rW n (fDiv (fI (Si fx)) k1000) (dV (Er fx)) (pV Sq fx) xi (dV (Wt (8 * fx + j))) j) ∧ (∀ i, (i < 8 * fx ∨ 8 * fx + n ≤ i) → u.1 i = Wt i) ∧ (∀ a c, a < n → c < n → dV (u.2.1 (16 * fx + 4 * a + c)) = rP n (fDiv (fI (Si fx)) k1000) (pV Sq fx) xi a c) ∧ (∀ i, (i < 16 * fx ∨ 16 * fx + 16 ≤ i) → u.2.1 i = Sq i) ∧ u.2.2.2 = (if rRes n (fDiv (fI (Si fx)) k1000) (pV Sq fx) xi = true then vf_upd Ri fx (Ri fx + 1) else Ri)) (fun (u : (Nat → UInt64) × (Nat → UInt64) × (Nat → UInt64) × (Nat → Int32)) t => EndA G (va_A [(om, .inr (4, [.int th, .int sa, .ref (am 0), .ref (am 1), .double mi, .ref (am 2), .ref (am 3), .ref (am 4), .int fi, .ref (am 5), .ref (am 6), .ref (am 7), .ref (am 8), .ref (am 9), .ref (am 10), .ref (am 11), .ref (am 12), .ref (am 13), .ref (am 14), .ref (am 15), .ref (am 16), .ref (am 17), .ref (am 18), .ref (am 19)])), ((am 1), aI q 8 xi), ((am 6), aI q 6 Ti), ((am 7), aI q 6 Si), ((am 13), aI q 6 Ri), ((am 14), aD q 48 Wt), ((am 16), aD q 6 Er), ((am 18), aD q 96 Sq), ((am 19), aD q 4 gg)] sz) [(om, .inr (4, [.int th, .int sa, .ref (am 0), .ref (am 1), .double mi, .ref (am 2), .ref (am 3), .ref (am 4), .int fi, .ref (am 5), .ref (am 6), .ref (am 7), .ref (am 8), .ref (am 9), .ref (am 10), .ref (am 11), .ref (am 12), .ref (am 13), .ref (am 14), .ref (am 15), .ref (am 16), .ref (am 17), .ref (am 18), .ref (am 19)])), ((am 1), aI q 8 xi), ((am 6), aI q 6 Ti), ((am 7), aI q 6 Si), ((am 13), aI q 6 u.2.2.2), ((am 14), aD q 48 u.1), ((am 16), aD q 6 Er), ((am 18), aD q 96 u.2.1), ((am 19), aD q 4 u.2.2.1)] t) (va_A [(om, .inr (4, [.int th, .int sa, .ref (am 0), .ref (am 1), .double mi, .ref (am 2), .ref (am 3), .ref (am 4), .int fi, .ref (am 5), .ref (am 6), .ref (am 7), .ref (am 8), .ref (am 9), .ref (am 10), .ref (am 11), .ref (am 12), .ref (am 13), .ref (am 14), .ref (am 15), .ref (am 16), .ref (am 17), .ref (am 18), .ref (am 19)])), ((am 1), aI q 8 xi), ((am 6), aI q 6 Ti), ((am 7), aI q 6 Si), ((am 13), aI q 6 Ri), ((am 14), aD q 48 Wt), ((am 16), aD q 6 Er), ((am 18), aD q 96 Sq), ((am 19), aD q 4 gg)] sz)) 0 0 (va_A [(om, .inr (4, [.int th, .int sa, .ref (am 0), .ref (am 1), .double mi, .ref (am 2), .ref (am 3), .ref (am 4), .int fi, .ref (am 5), .ref (am 6), .ref (am 7), .ref (am 8), .ref (am 9), .ref (am 10), .ref (am 11), .ref (am 12), .ref (am 13), .ref (am 14), .ref (am 15), .ref (am 16), .ref (am 17), .ref (am 18), .ref (am 19)])), ((am 1), aI q 8 xi), ((am 6), aI q 6 Ti), ((am 7), aI q 6 Si), ((am 13), aI q 6 Ri), ((am 14), aD q 48 Wt), ((am 16), aD q 6 Er), ((am 18), aD q 96 Sq), ((am 19), aD q 4 gg)] sz) := by
  refine MetD.ofW (cc := cX4_learnRecursively) (maxL := 13) (ret := none) (by decide +kernel) rfl ?_
  intro p e s m args below meth c s₁ B hml hv hd0
  obtain ⟨rfl, hsz, hP, hK, hD0, hNF⟩ := hv
  have hx := B.exec
  have hb := B.bytes
  have hr := B.returns
  have hts := atoms_spec (ws := wsX4_learnRecursively) B.pre
  have hown : s.vm.findClass RX4 = some m.cls := findClass_of_methodNamed B.named
  have hlocks := B.notSynchronized
  subst hsz
  have hD := hD0.self (sz := s.heap.size)
  generalize hAe : va_A [(om, .inr (4, [.int th, .int sa, .ref (am 0), .ref (am 1), .double mi, .ref (am 2), .ref (am 3), .ref (am 4), .int fi, .ref (am 5), .ref (am 6), .ref (am 7), .ref (am 8), .ref (am 9), .ref (am 10), .ref (am 11), .ref (am 12), .ref (am 13), .ref (am 14), .ref (am 15), .ref (am 16), .ref (am 17), .ref (am 18), .ref (am 19)])), ((am 1), aI q 8 xi), ((am 6), aI q 6 Ti), ((am 7), aI q 6 Si), ((am 13), aI q 6 Ri), ((am 14), aD q 48 Wt), ((am 16), aD q 6 Er), ((am 18), aD q 96 Sq), ((am 19), aD q 4 gg)] s.heap.size = A at hD ⊢
  have hA : ∀ q : Nat, s.heap.size ≤ q → A q := fun q h => by rw [← hAe]; exact Or.inr h
  have hS : va_S A s.heap s.heap [] := va_S.rf
  have hP : va_P G vwCl [(om, .inr (4, [.int th, .int sa, .ref (am 0), .ref (am 1), .double mi, .ref (am 2), .ref (am 3), .ref (am 4), .int fi, .ref (am 5), .ref (am 6), .ref (am 7), .ref (am 8), .ref (am 9), .ref (am 10), .ref (am 11), .ref (am 12), .ref (am 13), .ref (am 14), .ref (am 15), .ref (am 16), .ref (am 17), .ref (am 18), .ref (am 19)])), ((am 1), aI q 8 xi), ((am 6), aI q 6 Ti), ((am 7), aI q 6 Si), ((am 13), aI q 6 Ri), ((am 14), aD q 48 Wt), ((am 16), aD q 6 Er), ((am 18), aD q 96 Sq), ((am 19), aD q 4 gg)] s.heap := hP
  have hl := lv_entry ([.ref om, .int (nI fx)]) (n := 13) (Nat.le_of_ble_eq_true rfl)
  rw [lg_entry_eq]
  generalize (lg_sl ([.ref om, .int (nI fx)]) ++ List.replicate (13 - (lg_sl ([.ref om, .int (nI fx)])).length) Slot.unset).toArray = ls at hl ⊢
  have hl : lv_has ls 13 [(0, .ref om), (1, .int (nI fx))] := hl
  refine lv_aload_n hx hb dX4_learnRecursively_0 rfl (lv_at hl 0 rfl) ?_
  refine va_get (D := G) (ci := 4) (v := .ref (am 6)) (C := RX4) (T := TX4) (N := 24) hx hb (dr_words hts s.drawn) in_X4_learnRecursively_X4 hown hK hP 0 rfl rfl 10 (by decide) (dr_words hts s.drawn (.fieldLink RX4 29 "EchoBenchModel" "taps" "[I") (by decide +kernel)) (fun _ h9 => h9) rfl dX4_learnRecursively_1 ?_
  refine lv_iload_n hx hb dX4_learnRecursively_4 rfl (lv_at hl 1 rfl) ?_
  refine va_ialdJ (s := s.setDrawn s.drawn) hx hb hK hP 2 0 rfl rfl (j := fx) rfl (by omega) (by decide) dX4_learnRecursively_5 ?_
  rw [hT]
  refine lv_istore_n (lv' := [(2, .int (nI n)), (0, .ref om), (1, .int (nI fx))]) hx hb dX4_learnRecursively_6 rfl hl (by decide) rfl (fun ls hl => ?_)
  refine lv_aload_n hx hb dX4_learnRecursively_7 rfl (lv_at hl 1 rfl) ?_
  refine va_get (D := G) (ci := 4) (v := .ref (am 7)) (C := RX4) (T := TX4) (N := 24) hx hb (dr_words hts s.drawn) in_X4_learnRecursively_X4 hown hK hP 0 rfl rfl 11 (by decide) (dr_words hts s.drawn (.fieldLink RX4 32 "EchoBenchModel" "step" "[I") (by decide +kernel)) (fun _ h9 => h9) rfl dX4_learnRecursively_8 ?_
  refine lv_iload_n hx hb dX4_learnRecursively_11 rfl (lv_at hl 2 rfl) ?_
  refine va_ialdJ (s := s.setDrawn s.drawn) hx hb hK hP 3 0 rfl rfl (j := fx) rfl (by omega) (by decide) dX4_learnRecursively_12 ?_
  refine lv_i2d hx hb dX4_learnRecursively_13 ?_
  refine lv_ldc2d hx hb hown (dr_words hts s.drawn (.constantDouble RX4 103 4652007308841189376) (by decide +kernel)) dX4_learnRecursively_14 ?_
  refine lv_ddiv_any hd0 lw_bits hx hb dX4_learnRecursively_17 (fun r1 dr1 ar1 hr1 => ?_)
  have er1 := dV_div ar1
  refine lv_dstore_n (lv' := [(3, .double r1), (2, .int (nI n)), (0, .ref om), (1, .int (nI fx))]) hx hb dX4_learnRecursively_18 rfl hl (by decide) rfl (fun ls hl => ?_)
  refine lv_dload_n hx hb dX4_learnRecursively_19 rfl (lv_at hl 0 rfl) ?_
  refine lv_dstore (lv' := [(5, .double r1), (3, .double r1), (2, .int (nI n)), (0, .ref om), (1, .int (nI fx))]) hx hb dX4_learnRecursively_20 hl (by decide) rfl (fun ls hl => ?_)
  refine lv_iconst (v := 0) hx hb dX4_learnRecursively_22 (by decide) ?_
  refine lv_istore (lv' := [(7, .int 0), (5, .double r1), (3, .double r1), (2, .int (nI n)), (0, .ref om), (1, .int (nI fx))]) hx hb dX4_learnRecursively_23 hl (by decide) rfl (fun ls hl => ?_)
  have hmu : dV r1 = (fDiv (fI (Si fx)) k1000) := by rw [er1]; rfl
  have LA : ∀ (k : Nat) (i : Nat) (ga : Nat → UInt64), i + k = n → (∀ i', i' < i → dV (ga i') = sOut n (pV Sq fx i') xi) → ∀ (H : Heap) (locs : List Loc) (d0 : Drawn), s.drawn.sameBut d0 lw_cs → va_P G vwCl [(om, .inr (4, [.int th, .int sa, .ref (am 0), .ref (am 1), .double mi, .ref (am 2), .ref (am 3), .ref (am 4), .int fi, .ref (am 5), .ref (am 6), .ref (am 7), .ref (am 8), .ref (am 9), .ref (am 10), .ref (am 11), .ref (am 12), .ref (am 13), .ref (am 14), .ref (am 15), .ref (am 16), .ref (am 17), .ref (am 18), .ref (am 19)])), ((am 1), aI q 8 xi), ((am 6), aI q 6 Ti), ((am 7), aI q 6 Si), ((am 13), aI q 6 Ri), ((am 14), aD q 48 Wt), ((am 16), aD q 6 Er), ((am 18), aD q 96 Sq), ((am 19), aD q 4 ga)] H → va_D A [(om, .inr (4, [.int th, .int sa, .ref (am 0), .ref (am 1), .double mi, .ref (am 2), .ref (am 3), .ref (am 4), .int fi, .ref (am 5), .ref (am 6), .ref (am 7), .ref (am 8), .ref (am 9), .ref (am 10), .ref (am 11), .ref (am 12), .ref (am 13), .ref (am 14), .ref (am 15), .ref (am 16), .ref (am 17), .ref (am 18), .ref (am 19)])), ((am 1), aI q 8 xi), ((am 6), aI q 6 Ti), ((am 7), aI q 6 Si), ((am 13), aI q 6 Ri), ((am 14), aD q 48 Wt), ((am 16), aD q 6 Er), ((am 18), aD q 96 Sq), ((am 19), aD q 4 ga)] → va_S A s.heap H locs → ∀ (ls : Array Slot), lv_has ls 13 [(0, .ref om), (1, .int (nI fx)), (2, .int (nI n)), (3, .double r1), (5, .double r1), (7, .int (nI i))] → W p l e (headSpec wsX4_learnRecursively ({ frames := 1, cells := 0, slots := 0, locals := 26 } : Jvm.Room)).room (s.setDrawn d0) m #[.ref om, .int (nI fx)] below meth c H locs 0 0 (MQD lw_cs below (va_Qv (fun (u : (Nat → UInt64) × (Nat → UInt64) × (Nat → UInt64) × (Nat → Int32)) => (∀ j, j < n → dV (u.1 (8 * fx + j)) = rW n (fDiv (fI (Si fx)) k1000) (dV (Er fx)) (pV Sq fx) xi (dV (Wt (8 * fx + j))) j) ∧ (∀ i, (i < 8 * fx ∨ 8 * fx + n ≤ i) → u.1 i = Wt i) ∧ (∀ a c, a < n → c < n → dV (u.2.1 (16 * fx + 4 * a + c)) = rP n (fDiv (fI (Si fx)) k1000) (pV Sq fx) xi a c) ∧ (∀ i, (i < 16 * fx ∨ 16 * fx + 16 ≤ i) → u.2.1 i = Sq i) ∧ u.2.2.2 = (if rRes n (fDiv (fI (Si fx)) k1000) (pV Sq fx) xi = true then vf_upd Ri fx (Ri fx + 1) else Ri)) (fun (u : (Nat → UInt64) × (Nat → UInt64) × (Nat → UInt64) × (Nat → Int32)) t => EndA G A [(om, .inr (4, [.int th, .int sa, .ref (am 0), .ref (am 1), .double mi, .ref (am 2), .ref (am 3), .ref (am 4), .int fi, .ref (am 5), .ref (am 6), .ref (am 7), .ref (am 8), .ref (am 9), .ref (am 10), .ref (am 11), .ref (am 12), .ref (am 13), .ref (am 14), .ref (am 15), .ref (am 16), .ref (am 17), .ref (am 18), .ref (am 19)])), ((am 1), aI q 8 xi), ((am 6), aI q 6 Ti), ((am 7), aI q 6 Si), ((am 13), aI q 6 u.2.2.2), ((am 14), aD q 48 u.1), ((am 16), aD q 6 Er), ((am 18), aD q 96 u.2.1), ((am 19), aD q 4 u.2.2.1)] t) A) #[.ref om, .int (nI fx)] s 0 0 A) (F0 m 25 ls []) := by
    intro k
    induction k with
    | zero =>
      intro i ga hi hg H locs d0 hd0 hP hD hS ls hl
      refine lv_iload hx hb dX4_learnRecursively_25 (lv_at hl 5 rfl) ?_
      refine lv_iload_n hx hb dX4_learnRecursively_27 rfl (lv_at hl 2 rfl) ?_
      refine lv_icmp_ge (tgt := 96) hx hb dX4_learnRecursively_28 (by decide) (fun _ => ?_) (fun h => absurd (nI_le (by omega) (by omega)) h)
      refine lv_iconst (v := 0) hx hb dX4_learnRecursively_96 (by decide) ?_
      refine lv_istore (lv' := [(7, .int 0), (0, .ref om), (1, .int (nI fx)), (2, .int (nI n)), (3, .double r1), (5, .double r1)]) hx hb dX4_learnRecursively_97 hl (by decide) rfl (fun ls hl => ?_)
      have LB : ∀ (k2 : Nat) (j : Nat) (a : UInt64), j + k2 = n → dV a = smN (fDiv (fI (Si fx)) k1000) (fun i => fMul (fI (xi i)) (sOut n (pV Sq fx i) xi)) j → ∀ (H : Heap) (locs : List Loc) (d0 : Drawn), s.drawn.sameBut d0 lw_cs → va_P G vwCl [(om, .inr (4, [.int th, .int sa, .ref (am 0), .ref (am 1), .double mi, .ref (am 2), .ref (am 3), .ref (am 4), .int fi, .ref (am 5), .ref (am 6), .ref (am 7), .ref (am 8), .ref (am 9), .ref (am 10), .ref (am 11), .ref (am 12), .ref (am 13), .ref (am 14), .ref (am 15), .ref (am 16), .ref (am 17), .ref (am 18), .ref (am 19)])), ((am 1), aI q 8 xi), ((am 6), aI q 6 Ti), ((am 7), aI q 6 Si), ((am 13), aI q 6 Ri), ((am 14), aD q 48 Wt), ((am 16), aD q 6 Er), ((am 18), aD q 96 Sq), ((am 19), aD q 4 ga)] H → va_D A [(om, .inr (4, [.int th, .int sa, .ref (am 0), .ref (am 1), .double mi, .ref (am 2), .ref (am 3), .ref (am 4), .int fi, .ref (am 5), .ref (am 6), .ref (am 7), .ref (am 8), .ref (am 9), .ref (am 10), .ref (am 11), .ref (am 12), .ref (am 13), .ref (am 14), .ref (am 15), .ref (am 16), .ref (am 17), .ref (am 18), .ref (am 19)])), ((am 1), aI q 8 xi), ((am 6), aI q 6 Ti), ((am 7), aI q 6 Si), ((am 13), aI q 6 Ri), ((am 14), aD q 48 Wt), ((am 16), aD q 6 Er), ((am 18), aD q 96 Sq), ((am 19), aD q 4 ga)] → va_S A s.heap H locs → ∀ (ls : Array Slot), lv_has ls 13 [(0, .ref om), (1, .int (nI fx)), (2, .int (nI n)), (3, .double r1), (5, .double a), (7, .int (nI j))] → W p l e (headSpec wsX4_learnRecursively ({ frames := 1, cells := 0, slots := 0, locals := 26 } : Jvm.Room)).room (s.setDrawn d0) m #[.ref om, .int (nI fx)] below meth c H locs 0 0 (MQD lw_cs below (va_Qv (fun (u : (Nat → UInt64) × (Nat → UInt64) × (Nat → UInt64) × (Nat → Int32)) => (∀ j, j < n → dV (u.1 (8 * fx + j)) = rW n (fDiv (fI (Si fx)) k1000) (dV (Er fx)) (pV Sq fx) xi (dV (Wt (8 * fx + j))) j) ∧ (∀ i, (i < 8 * fx ∨ 8 * fx + n ≤ i) → u.1 i = Wt i) ∧ (∀ a c, a < n → c < n → dV (u.2.1 (16 * fx + 4 * a + c)) = rP n (fDiv (fI (Si fx)) k1000) (pV Sq fx) xi a c) ∧ (∀ i, (i < 16 * fx ∨ 16 * fx + 16 ≤ i) → u.2.1 i = Sq i) ∧ u.2.2.2 = (if rRes n (fDiv (fI (Si fx)) k1000) (pV Sq fx) xi = true then vf_upd Ri fx (Ri fx + 1) else Ri)) (fun (u : (Nat → UInt64) × (Nat → UInt64) × (Nat → UInt64) × (Nat → Int32)) t => EndA G A [(om, .inr (4, [.int th, .int sa, .ref (am 0), .ref (am 1), .double mi, .ref (am 2), .ref (am 3), .ref (am 4), .int fi, .ref (am 5), .ref (am 6), .ref (am 7), .ref (am 8), .ref (am 9), .ref (am 10), .ref (am 11), .ref (am 12), .ref (am 13), .ref (am 14), .ref (am 15), .ref (am 16), .ref (am 17), .ref (am 18), .ref (am 19)])), ((am 1), aI q 8 xi), ((am 6), aI q 6 Ti), ((am 7), aI q 6 Si), ((am 13), aI q 6 u.2.2.2), ((am 14), aD q 48 u.1), ((am 16), aD q 6 Er), ((am 18), aD q 96 u.2.1), ((am 19), aD q 4 u.2.2.1)] t) A) #[.ref om, .int (nI fx)] s 0 0 A) (F0 m 99 ls []) := by
        intro k2
        induction k2 with
        | zero =>
          intro j a hj ha H locs d0 hd0 hP hD hS ls hl
          refine lv_iload hx hb dX4_learnRecursively_99 (lv_at hl 5 rfl) ?_
          refine lv_iload_n hx hb dX4_learnRecursively_101 rfl (lv_at hl 2 rfl) ?_
          refine lv_icmp_ge (tgt := 132) hx hb dX4_learnRecursively_102 (by decide) (fun _ => ?_) (fun h => absurd (nI_le (by omega) (by omega)) h)
          refine lv_dload hx hb dX4_learnRecursively_132 (lv_at hl 4 rfl) ?_
          refine lv_ldc2d hx hb hown (dr_words hts d0 (.constantDouble RX4 105 4517329193108106637) (by decide +kernel)) dX4_learnRecursively_134 ?_
          refine lv_dcmp hx hb dX4_learnRecursively_137 ?_
          have hM : dV a = sM n (fDiv (fI (Si fx)) k1000) (pV Sq fx) xi := by rw [ha, show j = n by omega]; rfl
          refine lv_if_ge (tgt := 157) hx hb dX4_learnRecursively_138 (by decide) (fun c1 => ?_) (fun c1 => ?_)
          · skip
            rw [cg_ge, dcmp_fO, hM] at c1
            refine lv_iconst (v := 0) hx hb dX4_learnRecursively_157 (by decide) ?_
            refine lv_istore (lv' := [(7, .int 0), (0, .ref om), (1, .int (nI fx)), (2, .int (nI n)), (3, .double r1), (5, .double a)]) hx hb dX4_learnRecursively_158 hl (by decide) rfl (fun ls hl => ?_)
            refine lv_iconst (v := 0) hx hb dX4_learnRecursively_160 (by decide) ?_
            refine lv_istore (lv' := [(8, .int 0), (7, .int 0), (0, .ref om), (1, .int (nI fx)), (2, .int (nI n)), (3, .double r1), (5, .double a)]) hx hb dX4_learnRecursively_161 hl (by decide) rfl (fun ls hl => ?_)
            have LC : ∀ (k3 : Nat) (i1 : Nat) (ov : Int32) (W2 : Nat → UInt64) (S2 : Nat → UInt64), i1 + k3 = n → ov = bI (rOv (fun i => rQ n (fDiv (fI (Si fx)) k1000) (pV Sq fx) xi i i) i1) → (∀ j', j' < i1 → dV (W2 (8 * fx + j')) = sUp (dV (Wt (8 * fx + j'))) (fMul (rK n (fDiv (fI (Si fx)) k1000) (pV Sq fx) xi j') (dV (Er fx)))) → (∀ j', i1 ≤ j' → W2 (8 * fx + j') = Wt (8 * fx + j')) → (∀ i, (i < 8 * fx ∨ 8 * fx + n ≤ i) → W2 i = Wt i) → (∀ a c, a < n → c < n → n ≤ 4 → dV (S2 (16 * fx + 4 * a + c)) = if a < i1 ∨ (a = i1 ∧ c < 0) then rQ n (fDiv (fI (Si fx)) k1000) (pV Sq fx) xi a c else pV Sq fx a c) → (∀ i, (i < 16 * fx ∨ 16 * fx + 16 ≤ i) → S2 i = Sq i) → ∀ (H : Heap) (locs : List Loc) (d0 : Drawn), s.drawn.sameBut d0 lw_cs → va_P G vwCl [(om, .inr (4, [.int th, .int sa, .ref (am 0), .ref (am 1), .double mi, .ref (am 2), .ref (am 3), .ref (am 4), .int fi, .ref (am 5), .ref (am 6), .ref (am 7), .ref (am 8), .ref (am 9), .ref (am 10), .ref (am 11), .ref (am 12), .ref (am 13), .ref (am 14), .ref (am 15), .ref (am 16), .ref (am 17), .ref (am 18), .ref (am 19)])), ((am 1), aI q 8 xi), ((am 6), aI q 6 Ti), ((am 7), aI q 6 Si), ((am 13), aI q 6 Ri), ((am 14), aD q 48 W2), ((am 16), aD q 6 Er), ((am 18), aD q 96 S2), ((am 19), aD q 4 ga)] H → va_D A [(om, .inr (4, [.int th, .int sa, .ref (am 0), .ref (am 1), .double mi, .ref (am 2), .ref (am 3), .ref (am 4), .int fi, .ref (am 5), .ref (am 6), .ref (am 7), .ref (am 8), .ref (am 9), .ref (am 10), .ref (am 11), .ref (am 12), .ref (am 13), .ref (am 14), .ref (am 15), .ref (am 16), .ref (am 17), .ref (am 18), .ref (am 19)])), ((am 1), aI q 8 xi), ((am 6), aI q 6 Ti), ((am 7), aI q 6 Si), ((am 13), aI q 6 Ri), ((am 14), aD q 48 W2), ((am 16), aD q 6 Er), ((am 18), aD q 96 S2), ((am 19), aD q 4 ga)] → va_S A s.heap H locs → ∀ (ls : Array Slot), lv_has ls 13 [(0, .ref om), (1, .int (nI fx)), (2, .int (nI n)), (3, .double r1), (5, .double a), (7, .int ov), (8, .int (nI i1))] → W p l e (headSpec wsX4_learnRecursively ({ frames := 1, cells := 0, slots := 0, locals := 26 } : Jvm.Room)).room (s.setDrawn d0) m #[.ref om, .int (nI fx)] below meth c H locs 0 0 (MQD lw_cs below (va_Qv (fun (u : (Nat → UInt64) × (Nat → UInt64) × (Nat → UInt64) × (Nat → Int32)) => (∀ j, j < n → dV (u.1 (8 * fx + j)) = rW n (fDiv (fI (Si fx)) k1000) (dV (Er fx)) (pV Sq fx) xi (dV (Wt (8 * fx + j))) j) ∧ (∀ i, (i < 8 * fx ∨ 8 * fx + n ≤ i) → u.1 i = Wt i) ∧ (∀ a c, a < n → c < n → dV (u.2.1 (16 * fx + 4 * a + c)) = rP n (fDiv (fI (Si fx)) k1000) (pV Sq fx) xi a c) ∧ (∀ i, (i < 16 * fx ∨ 16 * fx + 16 ≤ i) → u.2.1 i = Sq i) ∧ u.2.2.2 = (if rRes n (fDiv (fI (Si fx)) k1000) (pV Sq fx) xi = true then vf_upd Ri fx (Ri fx + 1) else Ri)) (fun (u : (Nat → UInt64) × (Nat → UInt64) × (Nat → UInt64) × (Nat → Int32)) t => EndA G A [(om, .inr (4, [.int th, .int sa, .ref (am 0), .ref (am 1), .double mi, .ref (am 2), .ref (am 3), .ref (am 4), .int fi, .ref (am 5), .ref (am 6), .ref (am 7), .ref (am 8), .ref (am 9), .ref (am 10), .ref (am 11), .ref (am 12), .ref (am 13), .ref (am 14), .ref (am 15), .ref (am 16), .ref (am 17), .ref (am 18), .ref (am 19)])), ((am 1), aI q 8 xi), ((am 6), aI q 6 Ti), ((am 7), aI q 6 Si), ((am 13), aI q 6 u.2.2.2), ((am 14), aD q 48 u.1), ((am 16), aD q 6 Er), ((am 18), aD q 96 u.2.1), ((am 19), aD q 4 u.2.2.1)] t) A) #[.ref om, .int (nI fx)] s 0 0 A) (F0 m 163 ls []) := by
              intro k3
              induction k3 with
              | zero =>
                intro i1 ov W2 S2 hi1 hov hW1 hW2 hW3 hS2 hS3 H locs d0 hd0 hP hD hS ls hl
                refine lv_iload hx hb dX4_learnRecursively_163 (lv_at hl 6 rfl) ?_
                refine lv_iload_n hx hb dX4_learnRecursively_165 rfl (lv_at hl 2 rfl) ?_
                refine lv_icmp_ge (tgt := 303) hx hb dX4_learnRecursively_166 (by decide) (fun _ => ?_) (fun h => absurd (nI_le (by omega) (by omega)) h)
                refine lv_iload hx hb dX4_learnRecursively_303 (lv_at hl 5 rfl) ?_
                have ei : i1 = n := by omega
                refine lv_if_eq (tgt := 323) hx hb dX4_learnRecursively_305 (by decide) (fun c2 => ?_) (fun c2 => ?_)
                · skip
                  have hres : rRes n (fDiv (fI (Si fx)) k1000) (pV Sq fx) xi = false := by unfold rRes; rw [decide_eq_false c1, Bool.false_or]; rw [hov, ei] at c2; exact Bool.eq_false_iff.mpr (bI_f c2)
                  have hP9 := hP
                  have hD9 := hD
                  refine W.endD hd0 ?_
                  exact W.vret hx hb hr (fun t ht hW => ⟨⟨(W2, S2, ga, Ri), rfl, ⟨fun j1 hj1 => by dsimp only; unfold rW; rw [if_neg c1]; exact hW1 j1 (by omega), hW3, fun a1 c1 ha1 hc1 => by dsimp only; unfold rP; rw [hres, if_neg (by decide), hS2 a1 c1 ha1 hc1 hn, if_pos (by omega)], hS3, by dsimp only; rw [hres, if_neg (by decide)]⟩, by rw [ht]; exact hP9, hD9⟩, hS.F ht⟩) hS.2.2 dX4_learnRecursively_323
                · skip
                  have hres : rRes n (fDiv (fI (Si fx)) k1000) (pV Sq fx) xi = true := by unfold rRes; rw [decide_eq_false c1, Bool.false_or]; rw [hov, ei] at c2; exact bI_t c2
                  refine lv_aload_n hx hb dX4_learnRecursively_308 rfl (lv_at hl 0 rfl) ?_
                  refine lv_iload_n hx hb dX4_learnRecursively_309 rfl (lv_at hl 1 rfl) ?_
                  have hPc := hP.sub (ws' := [(om, .inr (4, [.int th, .int sa, .ref (am 0), .ref (am 1), .double mi, .ref (am 2), .ref (am 3), .ref (am 4), .int fi, .ref (am 5), .ref (am 6), .ref (am 7), .ref (am 8), .ref (am 9), .ref (am 10), .ref (am 11), .ref (am 12), .ref (am 13), .ref (am 14), .ref (am 15), .ref (am 16), .ref (am 17), .ref (am 18), .ref (am 19)])), ((am 18), aD q 96 S2)]) [0, 7] rfl
                  have hDc := hD.sub (ws' := [(om, .inr (4, [.int th, .int sa, .ref (am 0), .ref (am 1), .double mi, .ref (am 2), .ref (am 3), .ref (am 4), .int fi, .ref (am 5), .ref (am 6), .ref (am 7), .ref (am 8), .ref (am 9), .ref (am 10), .ref (am 11), .ref (am 12), .ref (am 13), .ref (am 14), .ref (am 15), .ref (am 16), .ref (am 17), .ref (am 18), .ref (am 19)])), ((am 18), aD q 96 S2)]) [0, 7] (by decide) rfl
                  have hFc := va_free (wc := [(om, .inr (4, [.int th, .int sa, .ref (am 0), .ref (am 1), .double mi, .ref (am 2), .ref (am 3), .ref (am 4), .int fi, .ref (am 5), .ref (am 6), .ref (am 7), .ref (am 8), .ref (am 9), .ref (am 10), .ref (am 11), .ref (am 12), .ref (am 13), .ref (am 14), .ref (am 15), .ref (am 16), .ref (am 17), .ref (am 18), .ref (am 19)])), ((am 18), aD q 96 S2)]) hD hS hA [0, 7] rfl
                  refine va_callv (va_runV (As := [.int (nI fx)]) (rest := []) ⟨hx, hb, hml, hown, (dr_words hts d0)⟩ (m_X4_reset l G q H.size om am th sa fi mi fx S2 hfx) (cwV 1 (dr_words hts d0) gX4_learnRecursively_X4_reset rfl rfl rfl (by decide +kernel) ⟨Nat.le_of_ble_eq_true rfl, Nat.le_of_ble_eq_true rfl⟩) ⟨preW_blind, (va_recv hK hPc (ci := 4) (q0 := 0) rfl rfl), preW_start (s := s.setDrawn d0) hPc hK hDc (hNF.drawn d0)⟩ rfl rfl hl.1 rfl (lv_room (Nat.le_of_ble_eq_true rfl)) dX4_learnRecursively_310 ⟨(Nat.zero_le _), (Nat.zero_le _)⟩) hS (fun q _ h => hFc q h) hFc (fun u9 t9 H1 locs ht9 hv9 hw hB9 hz9 hk9 hS => ?_)
                  obtain ⟨S3, rfl⟩ : ∃ z, z = u9 := ⟨_, rfl⟩
                  obtain ⟨hP1, hD1⟩ := hB9
                  rw [ht9] at hP1
                  obtain ⟨hP, hD⟩ := va_join (wr := [((am 1), aI q 8 xi), ((am 6), aI q 6 Ti), ((am 7), aI q 6 Si), ((am 13), aI q 6 Ri), ((am 14), aD q 48 W2), ((am 16), aD q 6 Er), ((am 19), aD q 4 ga)]) (w1 := [(om, .inr (4, [.int th, .int sa, .ref (am 0), .ref (am 1), .double mi, .ref (am 2), .ref (am 3), .ref (am 4), .int fi, .ref (am 5), .ref (am 6), .ref (am 7), .ref (am 8), .ref (am 9), .ref (am 10), .ref (am 11), .ref (am 12), .ref (am 13), .ref (am 14), .ref (am 15), .ref (am 16), .ref (am 17), .ref (am 18), .ref (am 19)])), ((am 18), aD q 96 S3)]) hP hD [0, 7] [1, 2, 3, 4, 5, 6, 8] rfl rfl (by decide) (by decide) hk9 hFc hP1 hD1
                  generalize H1 = H at hP hS ⊢
                  have hP : va_P G vwCl [((am 1), aI q 8 xi), ((am 6), aI q 6 Ti), ((am 7), aI q 6 Si), ((am 13), aI q 6 Ri), ((am 14), aD q 48 W2), ((am 16), aD q 6 Er), ((am 19), aD q 4 ga), (om, .inr (4, [.int th, .int sa, .ref (am 0), .ref (am 1), .double mi, .ref (am 2), .ref (am 3), .ref (am 4), .int fi, .ref (am 5), .ref (am 6), .ref (am 7), .ref (am 8), .ref (am 9), .ref (am 10), .ref (am 11), .ref (am 12), .ref (am 13), .ref (am 14), .ref (am 15), .ref (am 16), .ref (am 17), .ref (am 18), .ref (am 19)])), ((am 18), aD q 96 S3)] H := hP
                  have hD : va_D A [((am 1), aI q 8 xi), ((am 6), aI q 6 Ti), ((am 7), aI q 6 Si), ((am 13), aI q 6 Ri), ((am 14), aD q 48 W2), ((am 16), aD q 6 Er), ((am 19), aD q 4 ga), (om, .inr (4, [.int th, .int sa, .ref (am 0), .ref (am 1), .double mi, .ref (am 2), .ref (am 3), .ref (am 4), .int fi, .ref (am 5), .ref (am 6), .ref (am 7), .ref (am 8), .ref (am 9), .ref (am 10), .ref (am 11), .ref (am 12), .ref (am 13), .ref (am 14), .ref (am 15), .ref (am 16), .ref (am 17), .ref (am 18), .ref (am 19)])), ((am 18), aD q 96 S3)] := hD
                  have hR := hw
                  refine lv_aload_n hx hb dX4_learnRecursively_313 rfl (lv_at hl 0 rfl) ?_
                  refine va_get (D := G) (ci := 4) (v := .ref (am 13)) (C := RX4) (T := TX4) (N := 24) hx hb (dr_words hts d0) in_X4_learnRecursively_X4 hown hK hP 7 rfl rfl 17 (by decide) (dr_words hts d0 (.fieldLink RX4 50 "EchoBenchModel" "resets" "[I") (by decide +kernel)) (fun _ h9 => h9) rfl dX4_learnRecursively_314 ?_
                  refine lv_iload_n hx hb dX4_learnRecursively_317 rfl (lv_at hl 1 rfl) ?_
                  refine lv_dup2_11 hx hb dX4_learnRecursively_318 rfl rfl ?_
                  refine va_ialdJ (s := s.setDrawn d0) hx hb hK hP 3 0 rfl rfl (j := fx) rfl (by omega) (by decide) dX4_learnRecursively_319 ?_
                  refine lv_iconst (v := 1) hx hb dX4_learnRecursively_320 (by decide) ?_
                  refine lv_iadd hx hb dX4_learnRecursively_321 ?_
                  refine lv_topi (fun x7 ex7 => ?_)
                  rw [ex7]
                  refine va_iastJ (s := s.setDrawn d0) hx hb hK hP hD hS 3 0 rfl rfl (j := fx) rfl (by omega) (by decide) dX4_learnRecursively_322 (fun H locs hP hD hS => ?_)
                  have hP : va_P G vwCl [((am 1), aI q 8 xi), ((am 6), aI q 6 Ti), ((am 7), aI q 6 Si), ((am 13), aI q 6 (vf_upd Ri fx (Ri fx + 1))), ((am 14), aD q 48 W2), ((am 16), aD q 6 Er), ((am 19), aD q 4 ga), (om, .inr (4, [.int th, .int sa, .ref (am 0), .ref (am 1), .double mi, .ref (am 2), .ref (am 3), .ref (am 4), .int fi, .ref (am 5), .ref (am 6), .ref (am 7), .ref (am 8), .ref (am 9), .ref (am 10), .ref (am 11), .ref (am 12), .ref (am 13), .ref (am 14), .ref (am 15), .ref (am 16), .ref (am 17), .ref (am 18), .ref (am 19)])), ((am 18), aD q 96 S3)] H := hP
                  have hD : va_D A [((am 1), aI q 8 xi), ((am 6), aI q 6 Ti), ((am 7), aI q 6 Si), ((am 13), aI q 6 (vf_upd Ri fx (Ri fx + 1))), ((am 14), aD q 48 W2), ((am 16), aD q 6 Er), ((am 19), aD q 4 ga), (om, .inr (4, [.int th, .int sa, .ref (am 0), .ref (am 1), .double mi, .ref (am 2), .ref (am 3), .ref (am 4), .int fi, .ref (am 5), .ref (am 6), .ref (am 7), .ref (am 8), .ref (am 9), .ref (am 10), .ref (am 11), .ref (am 12), .ref (am 13), .ref (am 14), .ref (am 15), .ref (am 16), .ref (am 17), .ref (am 18), .ref (am 19)])), ((am 18), aD q 96 S3)] := hD
                  have hP := hP.sub (ws' := [(om, .inr (4, [.int th, .int sa, .ref (am 0), .ref (am 1), .double mi, .ref (am 2), .ref (am 3), .ref (am 4), .int fi, .ref (am 5), .ref (am 6), .ref (am 7), .ref (am 8), .ref (am 9), .ref (am 10), .ref (am 11), .ref (am 12), .ref (am 13), .ref (am 14), .ref (am 15), .ref (am 16), .ref (am 17), .ref (am 18), .ref (am 19)])), ((am 1), aI q 8 xi), ((am 6), aI q 6 Ti), ((am 7), aI q 6 Si), ((am 13), aI q 6 (vf_upd Ri fx (Ri fx + 1))), ((am 14), aD q 48 W2), ((am 16), aD q 6 Er), ((am 18), aD q 96 S3), ((am 19), aD q 4 ga)]) [7, 0, 1, 2, 3, 4, 5, 8, 6] rfl
                  have hD := hD.sub (ws' := [(om, .inr (4, [.int th, .int sa, .ref (am 0), .ref (am 1), .double mi, .ref (am 2), .ref (am 3), .ref (am 4), .int fi, .ref (am 5), .ref (am 6), .ref (am 7), .ref (am 8), .ref (am 9), .ref (am 10), .ref (am 11), .ref (am 12), .ref (am 13), .ref (am 14), .ref (am 15), .ref (am 16), .ref (am 17), .ref (am 18), .ref (am 19)])), ((am 1), aI q 8 xi), ((am 6), aI q 6 Ti), ((am 7), aI q 6 Si), ((am 13), aI q 6 (vf_upd Ri fx (Ri fx + 1))), ((am 14), aD q 48 W2), ((am 16), aD q 6 Er), ((am 18), aD q 96 S3), ((am 19), aD q 4 ga)]) [7, 0, 1, 2, 3, 4, 5, 8, 6] (by decide) rfl
                  have hP9 := hP
                  have hD9 := hD
                  refine W.endD hd0 ?_
                  exact W.vret hx hb hr (fun t ht hW => ⟨⟨(W2, S3, ga, vf_upd Ri fx (Ri fx + 1)), rfl, ⟨fun j1 hj1 => by dsimp only; unfold rW; rw [if_neg c1]; exact hW1 j1 (by omega), hW3, fun a1 c1 ha1 hc1 => by dsimp only; unfold rP; rw [hres, if_pos rfl, hR.1 a1 c1 (by omega) (by omega)]; split <;> rfl, fun i2 hi2 => (hR.2 i2 hi2).trans (hS3 i2 hi2), by dsimp only; rw [hres, if_pos rfl]⟩, by rw [ht]; exact hP9, hD9⟩, hS.F ht⟩) hS.2.2 dX4_learnRecursively_323
              | succ k3 ih3 =>
                intro i1 ov W2 S2 hi1 hov hW1 hW2 hW3 hS2 hS3 H locs d0 hd0 hP hD hS ls hl
                refine lv_iload hx hb dX4_learnRecursively_163 (lv_at hl 6 rfl) ?_
                refine lv_iload_n hx hb dX4_learnRecursively_165 rfl (lv_at hl 2 rfl) ?_
                refine lv_icmp_ge (tgt := 303) hx hb dX4_learnRecursively_166 (by decide) (fun h => absurd h (nI_ge (by omega) (by omega))) (fun _ => ?_)
                refine lv_aload_n hx hb dX4_learnRecursively_169 rfl (lv_at hl 0 rfl) ?_
                refine va_get (D := G) (ci := 4) (v := .ref (am 19)) (C := RX4) (T := TX4) (N := 24) hx hb (dr_words hts d0) in_X4_learnRecursively_X4 hown hK hP 0 rfl rfl 23 (by decide) (dr_words hts d0 (.fieldLink RX4 68 "EchoBenchModel" "g" "[D") (by decide +kernel)) (fun _ h9 => h9) rfl dX4_learnRecursively_170 ?_
                refine lv_iload hx hb dX4_learnRecursively_173 (lv_at hl 6 rfl) ?_
                refine va_daldJ (s := s.setDrawn d0) hx hb hK hP 8 1 rfl rfl (j := i1) rfl (by omega) (by decide) dX4_learnRecursively_175 ?_
                refine lv_dload hx hb dX4_learnRecursively_176 (lv_at hl 4 rfl) ?_
                refine lv_ddiv_any hd0 lw_bits hx hb dX4_learnRecursively_178 (fun r9 dr9 ar9 hr9 => ?_)
                have er9 := dV_div ar9
                refine lv_dstore (lv' := [(9, .double r9), (0, .ref om), (1, .int (nI fx)), (2, .int (nI n)), (3, .double r1), (5, .double a), (7, .int ov), (8, .int (nI i1))]) hx hb dX4_learnRecursively_179 hl (by decide) rfl (fun ls hl => ?_)
                refine lv_aload_n hx hb dX4_learnRecursively_181 rfl (lv_at hl 1 rfl) ?_
                refine lv_iload_n hx hb dX4_learnRecursively_182 rfl (lv_at hl 2 rfl) ?_
                refine lv_iload hx hb dX4_learnRecursively_183 (lv_at hl 7 rfl) ?_
                refine lv_dload hx hb dX4_learnRecursively_185 (lv_at hl 0 rfl) ?_
                refine lv_aload_n hx hb dX4_learnRecursively_187 rfl (lv_at hl 1 rfl) ?_
                refine va_get (D := G) (ci := 4) (v := .ref (am 16)) (C := RX4) (T := TX4) (N := 24) hx hb (dr_words hts dr9) in_X4_learnRecursively_X4 hown hK hP 0 rfl rfl 20 (by decide) (dr_words hts dr9 (.fieldLink RX4 59 "EchoBenchModel" "error" "[D") (by decide +kernel)) (fun _ h9 => h9) rfl dX4_learnRecursively_188 ?_
                refine lv_iload_n hx hb dX4_learnRecursively_191 rfl (lv_at hl 2 rfl) ?_
                have hki : dV r9 = rK n (fDiv (fI (Si fx)) k1000) (pV Sq fx) xi i1 := by rw [er9, hg i1 (by omega), hM]; rfl
                refine va_daldJ (s := s.setDrawn dr9) hx hb hK hP 6 1 rfl rfl (j := fx) rfl (by omega) (by decide) dX4_learnRecursively_192 ?_
                refine lv_dmul_any hr9 lw_bits hx hb dX4_learnRecursively_193 (fun r10 dr10 ar10 hr10 => ?_)
                have er10 := dV_mul ar10
                have hPc := hP.sub (ws' := [(om, .inr (4, [.int th, .int sa, .ref (am 0), .ref (am 1), .double mi, .ref (am 2), .ref (am 3), .ref (am 4), .int fi, .ref (am 5), .ref (am 6), .ref (am 7), .ref (am 8), .ref (am 9), .ref (am 10), .ref (am 11), .ref (am 12), .ref (am 13), .ref (am 14), .ref (am 15), .ref (am 16), .ref (am 17), .ref (am 18), .ref (am 19)])), ((am 14), aD q 48 W2)]) [0, 5] rfl
                have hDc := hD.sub (ws' := [(om, .inr (4, [.int th, .int sa, .ref (am 0), .ref (am 1), .double mi, .ref (am 2), .ref (am 3), .ref (am 4), .int fi, .ref (am 5), .ref (am 6), .ref (am 7), .ref (am 8), .ref (am 9), .ref (am 10), .ref (am 11), .ref (am 12), .ref (am 13), .ref (am 14), .ref (am 15), .ref (am 16), .ref (am 17), .ref (am 18), .ref (am 19)])), ((am 14), aD q 48 W2)]) [0, 5] (by decide) rfl
                have hFc := va_free (wc := [(om, .inr (4, [.int th, .int sa, .ref (am 0), .ref (am 1), .double mi, .ref (am 2), .ref (am 3), .ref (am 4), .int fi, .ref (am 5), .ref (am 6), .ref (am 7), .ref (am 8), .ref (am 9), .ref (am 10), .ref (am 11), .ref (am 12), .ref (am 13), .ref (am 14), .ref (am 15), .ref (am 16), .ref (am 17), .ref (am 18), .ref (am 19)])), ((am 14), aD q 48 W2)]) hD hS hA [0, 5] rfl
                refine va_callvD hr10 (va_runV_D (As := [.int (nI fx), .int (nI i1), .double r10]) (rest := []) ⟨hx, hb, hml, hown, (dr_words hts dr10)⟩ (m_X4_learn l G q H.size om am th sa fi mi fx i1 r10 W2 hfx (by omega)) (cwV 3 (dr_words hts dr10) gX4_learnRecursively_X4_learn rfl rfl rfl (by decide +kernel) ⟨Nat.le_of_ble_eq_true rfl, Nat.le_of_ble_eq_true rfl⟩) ⟨preW_blind, (va_recv hK hPc (ci := 4) (q0 := 0) rfl rfl), preW_start (s := s.setDrawn dr10) hPc hK hDc (hNF.drawn dr10)⟩ rfl rfl hl.1 rfl (lv_room (Nat.le_of_ble_eq_true rfl)) dX4_learnRecursively_194 ⟨(Nat.zero_le _), (Nat.zero_le _)⟩) hS (fun q _ h => hFc q h) hFc (fun u9 t9 H1 locs ht9 hv9 hw hB9 hz9 hk9 hS du12 hu12 => ?_)
                obtain ⟨wv, rfl⟩ : ∃ z, z = u9 := ⟨_, rfl⟩
                obtain ⟨hP1, hD1⟩ := hB9
                rw [ht9] at hP1
                obtain ⟨hP, hD⟩ := va_join (wr := [((am 1), aI q 8 xi), ((am 6), aI q 6 Ti), ((am 7), aI q 6 Si), ((am 13), aI q 6 Ri), ((am 16), aD q 6 Er), ((am 18), aD q 96 S2), ((am 19), aD q 4 ga)]) (w1 := [(om, .inr (4, [.int th, .int sa, .ref (am 0), .ref (am 1), .double mi, .ref (am 2), .ref (am 3), .ref (am 4), .int fi, .ref (am 5), .ref (am 6), .ref (am 7), .ref (am 8), .ref (am 9), .ref (am 10), .ref (am 11), .ref (am 12), .ref (am 13), .ref (am 14), .ref (am 15), .ref (am 16), .ref (am 17), .ref (am 18), .ref (am 19)])), ((am 14), aD q 48 (vf_upd W2 (8 * fx + i1) wv))]) hP hD [0, 5] [1, 2, 3, 4, 6, 7, 8] rfl rfl (by decide) (by decide) hk9 hFc hP1 hD1
                generalize H1 = H at hP hS ⊢
                have hP : va_P G vwCl [((am 1), aI q 8 xi), ((am 6), aI q 6 Ti), ((am 7), aI q 6 Si), ((am 13), aI q 6 Ri), ((am 16), aD q 6 Er), ((am 18), aD q 96 S2), ((am 19), aD q 4 ga), (om, .inr (4, [.int th, .int sa, .ref (am 0), .ref (am 1), .double mi, .ref (am 2), .ref (am 3), .ref (am 4), .int fi, .ref (am 5), .ref (am 6), .ref (am 7), .ref (am 8), .ref (am 9), .ref (am 10), .ref (am 11), .ref (am 12), .ref (am 13), .ref (am 14), .ref (am 15), .ref (am 16), .ref (am 17), .ref (am 18), .ref (am 19)])), ((am 14), aD q 48 (vf_upd W2 (8 * fx + i1) wv))] H := hP
                have hD : va_D A [((am 1), aI q 8 xi), ((am 6), aI q 6 Ti), ((am 7), aI q 6 Si), ((am 13), aI q 6 Ri), ((am 16), aD q 6 Er), ((am 18), aD q 96 S2), ((am 19), aD q 4 ga), (om, .inr (4, [.int th, .int sa, .ref (am 0), .ref (am 1), .double mi, .ref (am 2), .ref (am 3), .ref (am 4), .int fi, .ref (am 5), .ref (am 6), .ref (am 7), .ref (am 8), .ref (am 9), .ref (am 10), .ref (am 11), .ref (am 12), .ref (am 13), .ref (am 14), .ref (am 15), .ref (am 16), .ref (am 17), .ref (am 18), .ref (am 19)])), ((am 14), aD q 48 (vf_upd W2 (8 * fx + i1) wv))] := hD
                have hwv := hw
                refine lv_iconst (v := 0) hx hb dX4_learnRecursively_197 (by decide) ?_
                refine lv_istore (lv' := [(11, .int 0), (9, .double r9), (0, .ref om), (1, .int (nI fx)), (2, .int (nI n)), (3, .double r1), (5, .double a), (7, .int ov), (8, .int (nI i1))]) hx hb dX4_learnRecursively_198 hl (by decide) rfl (fun ls hl => ?_)
                have LD : ∀ (k4 : Nat) (j1 : Nat) (S4 : Nat → UInt64), j1 + k4 = n → (∀ a c, a < n → c < n → n ≤ 4 → dV (S4 (16 * fx + 4 * a + c)) = if a < i1 ∨ (a = i1 ∧ c < j1) then rQ n (fDiv (fI (Si fx)) k1000) (pV Sq fx) xi a c else pV Sq fx a c) → (∀ i, (i < 16 * fx ∨ 16 * fx + 16 ≤ i) → S4 i = Sq i) → ∀ (H : Heap) (locs : List Loc) (d0 : Drawn), s.drawn.sameBut d0 lw_cs → va_P G vwCl [((am 1), aI q 8 xi), ((am 6), aI q 6 Ti), ((am 7), aI q 6 Si), ((am 13), aI q 6 Ri), ((am 16), aD q 6 Er), ((am 18), aD q 96 S4), ((am 19), aD q 4 ga), (om, .inr (4, [.int th, .int sa, .ref (am 0), .ref (am 1), .double mi, .ref (am 2), .ref (am 3), .ref (am 4), .int fi, .ref (am 5), .ref (am 6), .ref (am 7), .ref (am 8), .ref (am 9), .ref (am 10), .ref (am 11), .ref (am 12), .ref (am 13), .ref (am 14), .ref (am 15), .ref (am 16), .ref (am 17), .ref (am 18), .ref (am 19)])), ((am 14), aD q 48 (vf_upd W2 (8 * fx + i1) wv))] H → va_D A [((am 1), aI q 8 xi), ((am 6), aI q 6 Ti), ((am 7), aI q 6 Si), ((am 13), aI q 6 Ri), ((am 16), aD q 6 Er), ((am 18), aD q 96 S4), ((am 19), aD q 4 ga), (om, .inr (4, [.int th, .int sa, .ref (am 0), .ref (am 1), .double mi, .ref (am 2), .ref (am 3), .ref (am 4), .int fi, .ref (am 5), .ref (am 6), .ref (am 7), .ref (am 8), .ref (am 9), .ref (am 10), .ref (am 11), .ref (am 12), .ref (am 13), .ref (am 14), .ref (am 15), .ref (am 16), .ref (am 17), .ref (am 18), .ref (am 19)])), ((am 14), aD q 48 (vf_upd W2 (8 * fx + i1) wv))] → va_S A s.heap H locs → ∀ (ls : Array Slot), lv_has ls 13 [(0, .ref om), (1, .int (nI fx)), (2, .int (nI n)), (3, .double r1), (5, .double a), (7, .int ov), (8, .int (nI i1)), (9, .double r9), (11, .int (nI j1))] → W p l e (headSpec wsX4_learnRecursively ({ frames := 1, cells := 0, slots := 0, locals := 26 } : Jvm.Room)).room (s.setDrawn d0) m #[.ref om, .int (nI fx)] below meth c H locs 0 0 (MQD lw_cs below (va_Qv (fun (u : (Nat → UInt64) × (Nat → UInt64) × (Nat → UInt64) × (Nat → Int32)) => (∀ j, j < n → dV (u.1 (8 * fx + j)) = rW n (fDiv (fI (Si fx)) k1000) (dV (Er fx)) (pV Sq fx) xi (dV (Wt (8 * fx + j))) j) ∧ (∀ i, (i < 8 * fx ∨ 8 * fx + n ≤ i) → u.1 i = Wt i) ∧ (∀ a c, a < n → c < n → dV (u.2.1 (16 * fx + 4 * a + c)) = rP n (fDiv (fI (Si fx)) k1000) (pV Sq fx) xi a c) ∧ (∀ i, (i < 16 * fx ∨ 16 * fx + 16 ≤ i) → u.2.1 i = Sq i) ∧ u.2.2.2 = (if rRes n (fDiv (fI (Si fx)) k1000) (pV Sq fx) xi = true then vf_upd Ri fx (Ri fx + 1) else Ri)) (fun (u : (Nat → UInt64) × (Nat → UInt64) × (Nat → UInt64) × (Nat → Int32)) t => EndA G A [(om, .inr (4, [.int th, .int sa, .ref (am 0), .ref (am 1), .double mi, .ref (am 2), .ref (am 3), .ref (am 4), .int fi, .ref (am 5), .ref (am 6), .ref (am 7), .ref (am 8), .ref (am 9), .ref (am 10), .ref (am 11), .ref (am 12), .ref (am 13), .ref (am 14), .ref (am 15), .ref (am 16), .ref (am 17), .ref (am 18), .ref (am 19)])), ((am 1), aI q 8 xi), ((am 6), aI q 6 Ti), ((am 7), aI q 6 Si), ((am 13), aI q 6 u.2.2.2), ((am 14), aD q 48 u.1), ((am 16), aD q 6 Er), ((am 18), aD q 96 u.2.1), ((am 19), aD q 4 u.2.2.1)] t) A) #[.ref om, .int (nI fx)] s 0 0 A) (F0 m 200 ls []) := by
                  intro k4
                  induction k4 with
                  | zero =>
                    intro j1 S4 hj1 hT2 hT3 H locs d0 hd0 hP hD hS ls hl
                    refine lv_iload hx hb dX4_learnRecursively_200 (lv_at hl 8 rfl) ?_
                    refine lv_iload_n hx hb dX4_learnRecursively_202 rfl (lv_at hl 2 rfl) ?_
                    refine lv_icmp_ge (tgt := 253) hx hb dX4_learnRecursively_203 (by decide) (fun _ => ?_) (fun h => absurd (nI_le (by omega) (by omega)) h)
                    refine lv_aload_n hx hb dX4_learnRecursively_253 rfl (lv_at hl 0 rfl) ?_
                    refine va_get (D := G) (ci := 4) (v := .ref (am 18)) (C := RX4) (T := TX4) (N := 24) hx hb (dr_words hts d0) in_X4_learnRecursively_X4 hown hK hP 7 rfl rfl 22 (by decide) (dr_words hts d0 (.fieldLink RX4 65 "EchoBenchModel" "square" "[D") (by decide +kernel)) (fun _ h9 => h9) rfl dX4_learnRecursively_254 ?_
                    refine lv_bipush (v := 16) hx hb dX4_learnRecursively_257 (by decide) ?_
                    refine lv_iload_n hx hb dX4_learnRecursively_259 rfl (lv_at hl 1 rfl) ?_
                    refine lv_imul hx hb dX4_learnRecursively_260 ?_
                    refine lv_topi (fun x14 ex14 => ?_)
                    obtain rfl : x14 = (nI (16 * fx)) := ex14.trans (nI_mul 16 fx)
                    refine lv_iconst (v := 5) hx hb dX4_learnRecursively_261 (by decide) ?_
                    refine lv_iload hx hb dX4_learnRecursively_262 (lv_at hl 6 rfl) ?_
                    refine lv_imul hx hb dX4_learnRecursively_264 ?_
                    refine lv_topi (fun x15 ex15 => ?_)
                    obtain rfl : x15 = (nI (5 * i1)) := ex15.trans (nI_mul 5 i1)
                    refine lv_iadd hx hb dX4_learnRecursively_265 ?_
                    refine lv_topi (fun x16 ex16 => ?_)
                    obtain rfl : x16 = (nI (16 * fx + (5 * i1))) := ex16.trans (nI_add (16 * fx) (5 * i1))
                    refine va_daldJ (s := s.setDrawn d0) hx hb hK hP 5 1 rfl rfl (j := (16 * fx + 5 * i1)) rfl (by omega) (by decide) dX4_learnRecursively_266 ?_
                    refine lv_dstore (lv' := [(11, .double (S4 (16 * fx + 5 * i1))), (0, .ref om), (1, .int (nI fx)), (2, .int (nI n)), (3, .double r1), (5, .double a), (7, .int ov), (8, .int (nI i1)), (9, .double r9)]) hx hb dX4_learnRecursively_267 hl (by decide) rfl (fun ls hl => ?_)
                    refine lv_iload hx hb dX4_learnRecursively_269 (lv_at hl 6 rfl) ?_
                    have how : dV (S4 (16 * fx + 5 * i1)) = rQ n (fDiv (fI (Si fx)) k1000) (pV Sq fx) xi i1 i1 := by rw [show 16 * fx + 5 * i1 = 16 * fx + 4 * i1 + i1 by omega, hT2 i1 i1 (by omega) (by omega) hn, if_pos (by omega)]
                    refine lv_if_ne (tgt := 290) hx hb dX4_learnRecursively_271 (by decide) (fun c3 => ?_) (fun c3 => ?_)
                    · skip
                      have ht1 : rOv (fun i => rQ n (fDiv (fI (Si fx)) k1000) (pV Sq fx) xi i i) i1 = true := bI_t (hov ▸ c3)
                      refine lv_iconst (v := 1) hx hb dX4_learnRecursively_290 (by decide) ?_
                      refine lv_goto (tgt := 295) hx hb dX4_learnRecursively_291 (by decide) ?_
                      refine lv_istore (lv' := [(7, .int 1), (11, .double (S4 (16 * fx + 5 * i1))), (0, .ref om), (1, .int (nI fx)), (2, .int (nI n)), (3, .double r1), (5, .double a), (8, .int (nI i1)), (9, .double r9)]) hx hb dX4_learnRecursively_295 hl (by decide) rfl (fun ls hl => ?_)
                      refine lv_iinc (v := nI (i1 + 1)) (lv' := [(8, .int (nI (i1 + 1))), (7, .int 1), (11, .double (S4 (16 * fx + 5 * i1))), (0, .ref om), (1, .int (nI fx)), (2, .int (nI n)), (3, .double r1), (5, .double a), (9, .double r9)]) hx hb dX4_learnRecursively_297 hl (k := 7) rfl (nI_succ _).symm (by decide) rfl (fun ls hl => ?_)
                      refine lv_goto (tgt := 163) hx hb dX4_learnRecursively_300 (by decide) ?_
                      exact ih3 (i1 + 1) 1 (vf_upd W2 (8 * fx + i1) wv) S4 (by omega) (bI_1 (rOv_t ht1)).symm (wt_ups (g := fun i => sUp (dV (Wt (8 * fx + i))) (fMul (rK n (fDiv (fI (Si fx)) k1000) (pV Sq fx) xi i) (dV (Er fx)))) hW1 (by rw [hwv, er10, hki, hW2 i1 (Nat.le_refl _)])) (wt_rest hW2) (wt_out (by omega) hW3) (sq_row hT2 (by omega)) hT3 _ _ _ hd0 (hP.sub [7, 0, 1, 2, 3, 8, 4, 5, 6] rfl) (hD.sub [7, 0, 1, 2, 3, 8, 4, 5, 6] (by decide) rfl) hS ls (lv_sub hl [3, 4, 5, 6, 7, 1, 0] rfl)
                    · skip
                      have hf1 : ¬ rOv (fun i => rQ n (fDiv (fI (Si fx)) k1000) (pV Sq fx) xi i i) i1 = true := bI_f (hov ▸ c3)
                      refine lv_dload hx hb dX4_learnRecursively_274 (lv_at hl 0 rfl) ?_
                      refine lv_ldc2d hx hb hown (dr_words hts d0 (.constantDouble RX4 111 4696837146684686336) (by decide +kernel)) dX4_learnRecursively_276 ?_
                      refine lv_dcmp hx hb dX4_learnRecursively_279 ?_
                      refine lv_if_gt (tgt := 290) hx hb dX4_learnRecursively_280 (by decide) (fun c4 => ?_) (fun c4 => ?_)
                      · skip
                        have c4 := cl_gt2 c4
                        rw [dcmp_fO, how] at c4
                        refine lv_iconst (v := 1) hx hb dX4_learnRecursively_290 (by decide) ?_
                        refine lv_goto (tgt := 295) hx hb dX4_learnRecursively_291 (by decide) ?_
                        refine lv_istore (lv' := [(7, .int 1), (11, .double (S4 (16 * fx + 5 * i1))), (0, .ref om), (1, .int (nI fx)), (2, .int (nI n)), (3, .double r1), (5, .double a), (8, .int (nI i1)), (9, .double r9)]) hx hb dX4_learnRecursively_295 hl (by decide) rfl (fun ls hl => ?_)
                        refine lv_iinc (v := nI (i1 + 1)) (lv' := [(8, .int (nI (i1 + 1))), (7, .int 1), (11, .double (S4 (16 * fx + 5 * i1))), (0, .ref om), (1, .int (nI fx)), (2, .int (nI n)), (3, .double r1), (5, .double a), (9, .double r9)]) hx hb dX4_learnRecursively_297 hl (k := 7) rfl (nI_succ _).symm (by decide) rfl (fun ls hl => ?_)
                        refine lv_goto (tgt := 163) hx hb dX4_learnRecursively_300 (by decide) ?_
                        exact ih3 (i1 + 1) 1 (vf_upd W2 (8 * fx + i1) wv) S4 (by omega) (bI_1 (rOv_b (f := (fun i => rQ n (fDiv (fI (Si fx)) k1000) (pV Sq fx) xi i i)) (Or.inl c4))).symm (wt_ups (g := fun i => sUp (dV (Wt (8 * fx + i))) (fMul (rK n (fDiv (fI (Si fx)) k1000) (pV Sq fx) xi i) (dV (Er fx)))) hW1 (by rw [hwv, er10, hki, hW2 i1 (Nat.le_refl _)])) (wt_rest hW2) (wt_out (by omega) hW3) (sq_row hT2 (by omega)) hT3 _ _ _ hd0 (hP.sub [7, 0, 1, 2, 3, 8, 4, 5, 6] rfl) (hD.sub [7, 0, 1, 2, 3, 8, 4, 5, 6] (by decide) rfl) hS ls (lv_sub hl [3, 4, 5, 6, 7, 1, 0] rfl)
                      · skip
                        have c4 := cl_ngt2 c4
                        rw [dcmp_fO, how] at c4
                        refine lv_dload hx hb dX4_learnRecursively_283 (lv_at hl 0 rfl) ?_
                        refine lv_dc0 hx hb dX4_learnRecursively_285 ?_
                        refine lv_dcmp hx hb dX4_learnRecursively_286 ?_
                        refine lv_if_ge (tgt := 294) hx hb dX4_learnRecursively_287 (by decide) (fun c5 => ?_) (fun c5 => ?_)
                        · skip
                          rw [cg_ge, dcmp_fO, how] at c5
                          refine lv_iconst (v := 0) hx hb dX4_learnRecursively_294 (by decide) ?_
                          refine lv_istore (lv' := [(7, .int 0), (11, .double (S4 (16 * fx + 5 * i1))), (0, .ref om), (1, .int (nI fx)), (2, .int (nI n)), (3, .double r1), (5, .double a), (8, .int (nI i1)), (9, .double r9)]) hx hb dX4_learnRecursively_295 hl (by decide) rfl (fun ls hl => ?_)
                          refine lv_iinc (v := nI (i1 + 1)) (lv' := [(8, .int (nI (i1 + 1))), (7, .int 0), (11, .double (S4 (16 * fx + 5 * i1))), (0, .ref om), (1, .int (nI fx)), (2, .int (nI n)), (3, .double r1), (5, .double a), (9, .double r9)]) hx hb dX4_learnRecursively_297 hl (k := 7) rfl (nI_succ _).symm (by decide) rfl (fun ls hl => ?_)
                          refine lv_goto (tgt := 163) hx hb dX4_learnRecursively_300 (by decide) ?_
                          exact ih3 (i1 + 1) 0 (vf_upd W2 (8 * fx + i1) wv) S4 (by omega) (bI_0 (rOv_f hf1 (fun z => z.elim c4 c5))).symm (wt_ups (g := fun i => sUp (dV (Wt (8 * fx + i))) (fMul (rK n (fDiv (fI (Si fx)) k1000) (pV Sq fx) xi i) (dV (Er fx)))) hW1 (by rw [hwv, er10, hki, hW2 i1 (Nat.le_refl _)])) (wt_rest hW2) (wt_out (by omega) hW3) (sq_row hT2 (by omega)) hT3 _ _ _ hd0 (hP.sub [7, 0, 1, 2, 3, 8, 4, 5, 6] rfl) (hD.sub [7, 0, 1, 2, 3, 8, 4, 5, 6] (by decide) rfl) hS ls (lv_sub hl [3, 4, 5, 6, 7, 1, 0] rfl)
                        · skip
                          rw [cg_ge, dcmp_fO, how, Classical.not_not] at c5
                          refine lv_iconst (v := 1) hx hb dX4_learnRecursively_290 (by decide) ?_
                          refine lv_goto (tgt := 295) hx hb dX4_learnRecursively_291 (by decide) ?_
                          refine lv_istore (lv' := [(7, .int 1), (11, .double (S4 (16 * fx + 5 * i1))), (0, .ref om), (1, .int (nI fx)), (2, .int (nI n)), (3, .double r1), (5, .double a), (8, .int (nI i1)), (9, .double r9)]) hx hb dX4_learnRecursively_295 hl (by decide) rfl (fun ls hl => ?_)
                          refine lv_iinc (v := nI (i1 + 1)) (lv' := [(8, .int (nI (i1 + 1))), (7, .int 1), (11, .double (S4 (16 * fx + 5 * i1))), (0, .ref om), (1, .int (nI fx)), (2, .int (nI n)), (3, .double r1), (5, .double a), (9, .double r9)]) hx hb dX4_learnRecursively_297 hl (k := 7) rfl (nI_succ _).symm (by decide) rfl (fun ls hl => ?_)
                          refine lv_goto (tgt := 163) hx hb dX4_learnRecursively_300 (by decide) ?_
                          exact ih3 (i1 + 1) 1 (vf_upd W2 (8 * fx + i1) wv) S4 (by omega) (bI_1 (rOv_b (f := (fun i => rQ n (fDiv (fI (Si fx)) k1000) (pV Sq fx) xi i i)) (Or.inr c5))).symm (wt_ups (g := fun i => sUp (dV (Wt (8 * fx + i))) (fMul (rK n (fDiv (fI (Si fx)) k1000) (pV Sq fx) xi i) (dV (Er fx)))) hW1 (by rw [hwv, er10, hki, hW2 i1 (Nat.le_refl _)])) (wt_rest hW2) (wt_out (by omega) hW3) (sq_row hT2 (by omega)) hT3 _ _ _ hd0 (hP.sub [7, 0, 1, 2, 3, 8, 4, 5, 6] rfl) (hD.sub [7, 0, 1, 2, 3, 8, 4, 5, 6] (by decide) rfl) hS ls (lv_sub hl [3, 4, 5, 6, 7, 1, 0] rfl)
                  | succ k4 ih4 =>
                    intro j1 S4 hj1 hT2 hT3 H locs d0 hd0 hP hD hS ls hl
                    refine lv_iload hx hb dX4_learnRecursively_200 (lv_at hl 8 rfl) ?_
                    refine lv_iload_n hx hb dX4_learnRecursively_202 rfl (lv_at hl 2 rfl) ?_
                    refine lv_icmp_ge (tgt := 253) hx hb dX4_learnRecursively_203 (by decide) (fun h => absurd h (nI_ge (by omega) (by omega))) (fun _ => ?_)
                    refine lv_bipush (v := 16) hx hb dX4_learnRecursively_206 (by decide) ?_
                    refine lv_iload_n hx hb dX4_learnRecursively_208 rfl (lv_at hl 1 rfl) ?_
                    refine lv_imul hx hb dX4_learnRecursively_209 ?_
                    refine lv_topi (fun x18 ex18 => ?_)
                    obtain rfl : x18 = (nI (16 * fx)) := ex18.trans (nI_mul 16 fx)
                    refine lv_iconst (v := 4) hx hb dX4_learnRecursively_210 (by decide) ?_
                    refine lv_iload hx hb dX4_learnRecursively_211 (lv_at hl 6 rfl) ?_
                    refine lv_imul hx hb dX4_learnRecursively_213 ?_
                    refine lv_topi (fun x19 ex19 => ?_)
                    obtain rfl : x19 = (nI (4 * i1)) := ex19.trans (nI_mul 4 i1)
                    refine lv_iadd hx hb dX4_learnRecursively_214 ?_
                    refine lv_topi (fun x20 ex20 => ?_)
                    obtain rfl : x20 = (nI (16 * fx + (4 * i1))) := ex20.trans (nI_add (16 * fx) (4 * i1))
                    refine lv_iload hx hb dX4_learnRecursively_215 (lv_at hl 8 rfl) ?_
                    refine lv_iadd hx hb dX4_learnRecursively_217 ?_
                    refine lv_topi (fun x21 ex21 => ?_)
                    obtain rfl : x21 = (nI (16 * fx + (4 * i1) + j1)) := ex21.trans (nI_add (16 * fx + (4 * i1)) j1)
                    refine lv_istore (lv' := [(12, .int (nI (16 * fx + (4 * i1) + j1))), (0, .ref om), (1, .int (nI fx)), (2, .int (nI n)), (3, .double r1), (5, .double a), (7, .int ov), (8, .int (nI i1)), (9, .double r9), (11, .int (nI j1))]) hx hb dX4_learnRecursively_218 hl (by decide) rfl (fun ls hl => ?_)
                    refine lv_aload_n hx hb dX4_learnRecursively_220 rfl (lv_at hl 1 rfl) ?_
                    refine va_get (D := G) (ci := 4) (v := .ref (am 18)) (C := RX4) (T := TX4) (N := 24) hx hb (dr_words hts d0) in_X4_learnRecursively_X4 hown hK hP 7 rfl rfl 22 (by decide) (dr_words hts d0 (.fieldLink RX4 65 "EchoBenchModel" "square" "[D") (by decide +kernel)) (fun _ h9 => h9) rfl dX4_learnRecursively_221 ?_
                    refine lv_iload hx hb dX4_learnRecursively_224 (lv_at hl 0 rfl) ?_
                    refine lv_aload_n hx hb dX4_learnRecursively_226 rfl (lv_at hl 1 rfl) ?_
                    refine va_get (D := G) (ci := 4) (v := .ref (am 18)) (C := RX4) (T := TX4) (N := 24) hx hb (dr_words hts d0) in_X4_learnRecursively_X4 hown hK hP 7 rfl rfl 22 (by decide) (dr_words hts d0 (.fieldLink RX4 65 "EchoBenchModel" "square" "[D") (by decide +kernel)) (fun _ h9 => h9) rfl dX4_learnRecursively_227 ?_
                    refine lv_iload hx hb dX4_learnRecursively_230 (lv_at hl 0 rfl) ?_
                    refine va_daldJ (s := s.setDrawn d0) hx hb hK hP 5 1 rfl rfl (j := (16 * fx + 4 * i1 + j1)) rfl (by omega) (by decide) dX4_learnRecursively_232 ?_
                    refine lv_dload hx hb dX4_learnRecursively_233 (lv_at hl 8 rfl) ?_
                    refine lv_aload_n hx hb dX4_learnRecursively_235 rfl (lv_at hl 1 rfl) ?_
                    refine va_get (D := G) (ci := 4) (v := .ref (am 19)) (C := RX4) (T := TX4) (N := 24) hx hb (dr_words hts d0) in_X4_learnRecursively_X4 hown hK hP 7 rfl rfl 23 (by decide) (dr_words hts d0 (.fieldLink RX4 68 "EchoBenchModel" "g" "[D") (by decide +kernel)) (fun _ h9 => h9) rfl dX4_learnRecursively_236 ?_
                    refine lv_iload hx hb dX4_learnRecursively_239 (lv_at hl 9 rfl) ?_
                    refine va_daldJ (s := s.setDrawn d0) hx hb hK hP 6 1 rfl rfl (j := j1) rfl (by omega) (by decide) dX4_learnRecursively_241 ?_
                    refine lv_dmul_any hd0 lw_bits hx hb dX4_learnRecursively_242 (fun r22 dr22 ar22 hr22 => ?_)
                    have er22 := dV_mul ar22
                    refine lv_dsub_any hr22 lw_bits hx hb dX4_learnRecursively_243 (fun r23 dr23 ar23 hr23 => ?_)
                    have er23 := dV_sub ar23
                    refine lv_dload_n hx hb dX4_learnRecursively_244 rfl (lv_at hl 4 rfl) ?_
                    refine lv_ddiv_any hr23 lw_bits hx hb dX4_learnRecursively_245 (fun r24 dr24 ar24 hr24 => ?_)
                    have er24 := dV_div ar24
                    refine va_dastJ (s := s.setDrawn dr24) hx hb hK hP hD hS 5 1 rfl rfl (j := (16 * fx + 4 * i1 + j1)) rfl (by omega) (by decide) dX4_learnRecursively_246 (fun H locs hP hD hS => ?_)
                    have hP : va_P G vwCl [((am 1), aI q 8 xi), ((am 6), aI q 6 Ti), ((am 7), aI q 6 Si), ((am 13), aI q 6 Ri), ((am 16), aD q 6 Er), ((am 18), aD q 96 (vf_upd S4 (16 * fx + 4 * i1 + j1) r24)), ((am 19), aD q 4 ga), (om, .inr (4, [.int th, .int sa, .ref (am 0), .ref (am 1), .double mi, .ref (am 2), .ref (am 3), .ref (am 4), .int fi, .ref (am 5), .ref (am 6), .ref (am 7), .ref (am 8), .ref (am 9), .ref (am 10), .ref (am 11), .ref (am 12), .ref (am 13), .ref (am 14), .ref (am 15), .ref (am 16), .ref (am 17), .ref (am 18), .ref (am 19)])), ((am 14), aD q 48 (vf_upd W2 (8 * fx + i1) wv))] H := hP
                    have hD : va_D A [((am 1), aI q 8 xi), ((am 6), aI q 6 Ti), ((am 7), aI q 6 Si), ((am 13), aI q 6 Ri), ((am 16), aD q 6 Er), ((am 18), aD q 96 (vf_upd S4 (16 * fx + 4 * i1 + j1) r24)), ((am 19), aD q 4 ga), (om, .inr (4, [.int th, .int sa, .ref (am 0), .ref (am 1), .double mi, .ref (am 2), .ref (am 3), .ref (am 4), .int fi, .ref (am 5), .ref (am 6), .ref (am 7), .ref (am 8), .ref (am 9), .ref (am 10), .ref (am 11), .ref (am 12), .ref (am 13), .ref (am 14), .ref (am 15), .ref (am 16), .ref (am 17), .ref (am 18), .ref (am 19)])), ((am 14), aD q 48 (vf_upd W2 (8 * fx + i1) wv))] := hD
                    refine lv_iinc (v := nI (j1 + 1)) (lv' := [(11, .int (nI (j1 + 1))), (12, .int (nI (16 * fx + (4 * i1) + j1))), (0, .ref om), (1, .int (nI fx)), (2, .int (nI n)), (3, .double r1), (5, .double a), (7, .int ov), (8, .int (nI i1)), (9, .double r9)]) hx hb dX4_learnRecursively_247 hl (k := 9) rfl (nI_succ _).symm (by decide) rfl (fun ls hl => ?_)
                    refine lv_goto (tgt := 200) hx hb dX4_learnRecursively_250 (by decide) ?_
                    exact ih4 (j1 + 1) (vf_upd S4 (16 * fx + 4 * i1 + j1) r24) (by omega) (sq_step (by omega) (by rw [er24, er23, er22, hmu, hki, hT2 i1 j1 (by omega) (by omega) hn, if_neg (by omega), hg j1 (by omega)]; rfl) hT2) (rs_out (by omega) hT3) _ _ _ hr24 (hP.sub [0, 1, 2, 3, 4, 5, 6, 7, 8] rfl) (hD.sub [0, 1, 2, 3, 4, 5, 6, 7, 8] (by decide) rfl) hS ls (lv_sub hl [2, 3, 4, 5, 6, 7, 8, 9, 0] rfl)
                exact LD n 0 S2 (by omega) hS2 hS3 _ _ _ hu12 (hP.sub [0, 1, 2, 3, 4, 5, 6, 7, 8] rfl) (hD.sub [0, 1, 2, 3, 4, 5, 6, 7, 8] (by decide) rfl) hS ls (lv_sub hl [2, 3, 4, 5, 6, 7, 8, 1, 0] rfl)
            exact LC n 0 0 Wt Sq (by omega) rfl (fun j1 hj1 => absurd hj1 (by omega)) (fun _ _ => rfl) (fun _ _ => rfl) (fun a1 c1 ha1 hc1 hn1 => by rw [if_neg (by omega)]) (fun _ _ => rfl) _ _ _ hd0 (hP.sub [0, 1, 2, 3, 4, 5, 6, 7, 8] rfl) (hD.sub [0, 1, 2, 3, 4, 5, 6, 7, 8] (by decide) rfl) hS ls (lv_sub hl [2, 3, 4, 5, 6, 1, 0] rfl)
          · skip
            rw [cg_ge, dcmp_fO, hM, Classical.not_not] at c1
            refine lv_aload_n hx hb dX4_learnRecursively_141 rfl (lv_at hl 0 rfl) ?_
            refine lv_iload_n hx hb dX4_learnRecursively_142 rfl (lv_at hl 1 rfl) ?_
            have hres : rRes n (fDiv (fI (Si fx)) k1000) (pV Sq fx) xi = true := by unfold rRes; rw [decide_eq_true c1]; rfl
            have hPc := hP.sub (ws' := [(om, .inr (4, [.int th, .int sa, .ref (am 0), .ref (am 1), .double mi, .ref (am 2), .ref (am 3), .ref (am 4), .int fi, .ref (am 5), .ref (am 6), .ref (am 7), .ref (am 8), .ref (am 9), .ref (am 10), .ref (am 11), .ref (am 12), .ref (am 13), .ref (am 14), .ref (am 15), .ref (am 16), .ref (am 17), .ref (am 18), .ref (am 19)])), ((am 18), aD q 96 Sq)]) [0, 7] rfl
            have hDc := hD.sub (ws' := [(om, .inr (4, [.int th, .int sa, .ref (am 0), .ref (am 1), .double mi, .ref (am 2), .ref (am 3), .ref (am 4), .int fi, .ref (am 5), .ref (am 6), .ref (am 7), .ref (am 8), .ref (am 9), .ref (am 10), .ref (am 11), .ref (am 12), .ref (am 13), .ref (am 14), .ref (am 15), .ref (am 16), .ref (am 17), .ref (am 18), .ref (am 19)])), ((am 18), aD q 96 Sq)]) [0, 7] (by decide) rfl
            have hFc := va_free (wc := [(om, .inr (4, [.int th, .int sa, .ref (am 0), .ref (am 1), .double mi, .ref (am 2), .ref (am 3), .ref (am 4), .int fi, .ref (am 5), .ref (am 6), .ref (am 7), .ref (am 8), .ref (am 9), .ref (am 10), .ref (am 11), .ref (am 12), .ref (am 13), .ref (am 14), .ref (am 15), .ref (am 16), .ref (am 17), .ref (am 18), .ref (am 19)])), ((am 18), aD q 96 Sq)]) hD hS hA [0, 7] rfl
            refine va_callv (va_runV (As := [.int (nI fx)]) (rest := []) ⟨hx, hb, hml, hown, (dr_words hts d0)⟩ (m_X4_reset l G q H.size om am th sa fi mi fx Sq hfx) (cwV 1 (dr_words hts d0) gX4_learnRecursively_X4_reset rfl rfl rfl (by decide +kernel) ⟨Nat.le_of_ble_eq_true rfl, Nat.le_of_ble_eq_true rfl⟩) ⟨preW_blind, (va_recv hK hPc (ci := 4) (q0 := 0) rfl rfl), preW_start (s := s.setDrawn d0) hPc hK hDc (hNF.drawn d0)⟩ rfl rfl hl.1 rfl (lv_room (Nat.le_of_ble_eq_true rfl)) dX4_learnRecursively_143 ⟨(Nat.zero_le _), (Nat.zero_le _)⟩) hS (fun q _ h => hFc q h) hFc (fun u9 t9 H1 locs ht9 hv9 hw hB9 hz9 hk9 hS => ?_)
            obtain ⟨S3, rfl⟩ : ∃ z, z = u9 := ⟨_, rfl⟩
            obtain ⟨hP1, hD1⟩ := hB9
            rw [ht9] at hP1
            obtain ⟨hP, hD⟩ := va_join (wr := [((am 1), aI q 8 xi), ((am 6), aI q 6 Ti), ((am 7), aI q 6 Si), ((am 13), aI q 6 Ri), ((am 14), aD q 48 Wt), ((am 16), aD q 6 Er), ((am 19), aD q 4 ga)]) (w1 := [(om, .inr (4, [.int th, .int sa, .ref (am 0), .ref (am 1), .double mi, .ref (am 2), .ref (am 3), .ref (am 4), .int fi, .ref (am 5), .ref (am 6), .ref (am 7), .ref (am 8), .ref (am 9), .ref (am 10), .ref (am 11), .ref (am 12), .ref (am 13), .ref (am 14), .ref (am 15), .ref (am 16), .ref (am 17), .ref (am 18), .ref (am 19)])), ((am 18), aD q 96 S3)]) hP hD [0, 7] [1, 2, 3, 4, 5, 6, 8] rfl rfl (by decide) (by decide) hk9 hFc hP1 hD1
            generalize H1 = H at hP hS ⊢
            have hP : va_P G vwCl [((am 1), aI q 8 xi), ((am 6), aI q 6 Ti), ((am 7), aI q 6 Si), ((am 13), aI q 6 Ri), ((am 14), aD q 48 Wt), ((am 16), aD q 6 Er), ((am 19), aD q 4 ga), (om, .inr (4, [.int th, .int sa, .ref (am 0), .ref (am 1), .double mi, .ref (am 2), .ref (am 3), .ref (am 4), .int fi, .ref (am 5), .ref (am 6), .ref (am 7), .ref (am 8), .ref (am 9), .ref (am 10), .ref (am 11), .ref (am 12), .ref (am 13), .ref (am 14), .ref (am 15), .ref (am 16), .ref (am 17), .ref (am 18), .ref (am 19)])), ((am 18), aD q 96 S3)] H := hP
            have hD : va_D A [((am 1), aI q 8 xi), ((am 6), aI q 6 Ti), ((am 7), aI q 6 Si), ((am 13), aI q 6 Ri), ((am 14), aD q 48 Wt), ((am 16), aD q 6 Er), ((am 19), aD q 4 ga), (om, .inr (4, [.int th, .int sa, .ref (am 0), .ref (am 1), .double mi, .ref (am 2), .ref (am 3), .ref (am 4), .int fi, .ref (am 5), .ref (am 6), .ref (am 7), .ref (am 8), .ref (am 9), .ref (am 10), .ref (am 11), .ref (am 12), .ref (am 13), .ref (am 14), .ref (am 15), .ref (am 16), .ref (am 17), .ref (am 18), .ref (am 19)])), ((am 18), aD q 96 S3)] := hD
            have hR := hw
            refine lv_aload_n hx hb dX4_learnRecursively_146 rfl (lv_at hl 0 rfl) ?_
            refine va_get (D := G) (ci := 4) (v := .ref (am 13)) (C := RX4) (T := TX4) (N := 24) hx hb (dr_words hts d0) in_X4_learnRecursively_X4 hown hK hP 7 rfl rfl 17 (by decide) (dr_words hts d0 (.fieldLink RX4 50 "EchoBenchModel" "resets" "[I") (by decide +kernel)) (fun _ h9 => h9) rfl dX4_learnRecursively_147 ?_
            refine lv_iload_n hx hb dX4_learnRecursively_150 rfl (lv_at hl 1 rfl) ?_
            refine lv_dup2_11 hx hb dX4_learnRecursively_151 rfl rfl ?_
            refine va_ialdJ (s := s.setDrawn d0) hx hb hK hP 3 0 rfl rfl (j := fx) rfl (by omega) (by decide) dX4_learnRecursively_152 ?_
            refine lv_iconst (v := 1) hx hb dX4_learnRecursively_153 (by decide) ?_
            refine lv_iadd hx hb dX4_learnRecursively_154 ?_
            refine lv_topi (fun x27 ex27 => ?_)
            rw [ex27]
            refine va_iastJ (s := s.setDrawn d0) hx hb hK hP hD hS 3 0 rfl rfl (j := fx) rfl (by omega) (by decide) dX4_learnRecursively_155 (fun H locs hP hD hS => ?_)
            have hP : va_P G vwCl [((am 1), aI q 8 xi), ((am 6), aI q 6 Ti), ((am 7), aI q 6 Si), ((am 13), aI q 6 (vf_upd Ri fx (Ri fx + 1))), ((am 14), aD q 48 Wt), ((am 16), aD q 6 Er), ((am 19), aD q 4 ga), (om, .inr (4, [.int th, .int sa, .ref (am 0), .ref (am 1), .double mi, .ref (am 2), .ref (am 3), .ref (am 4), .int fi, .ref (am 5), .ref (am 6), .ref (am 7), .ref (am 8), .ref (am 9), .ref (am 10), .ref (am 11), .ref (am 12), .ref (am 13), .ref (am 14), .ref (am 15), .ref (am 16), .ref (am 17), .ref (am 18), .ref (am 19)])), ((am 18), aD q 96 S3)] H := hP
            have hD : va_D A [((am 1), aI q 8 xi), ((am 6), aI q 6 Ti), ((am 7), aI q 6 Si), ((am 13), aI q 6 (vf_upd Ri fx (Ri fx + 1))), ((am 14), aD q 48 Wt), ((am 16), aD q 6 Er), ((am 19), aD q 4 ga), (om, .inr (4, [.int th, .int sa, .ref (am 0), .ref (am 1), .double mi, .ref (am 2), .ref (am 3), .ref (am 4), .int fi, .ref (am 5), .ref (am 6), .ref (am 7), .ref (am 8), .ref (am 9), .ref (am 10), .ref (am 11), .ref (am 12), .ref (am 13), .ref (am 14), .ref (am 15), .ref (am 16), .ref (am 17), .ref (am 18), .ref (am 19)])), ((am 18), aD q 96 S3)] := hD
            have hP := hP.sub (ws' := [(om, .inr (4, [.int th, .int sa, .ref (am 0), .ref (am 1), .double mi, .ref (am 2), .ref (am 3), .ref (am 4), .int fi, .ref (am 5), .ref (am 6), .ref (am 7), .ref (am 8), .ref (am 9), .ref (am 10), .ref (am 11), .ref (am 12), .ref (am 13), .ref (am 14), .ref (am 15), .ref (am 16), .ref (am 17), .ref (am 18), .ref (am 19)])), ((am 1), aI q 8 xi), ((am 6), aI q 6 Ti), ((am 7), aI q 6 Si), ((am 13), aI q 6 (vf_upd Ri fx (Ri fx + 1))), ((am 14), aD q 48 Wt), ((am 16), aD q 6 Er), ((am 18), aD q 96 S3), ((am 19), aD q 4 ga)]) [7, 0, 1, 2, 3, 4, 5, 8, 6] rfl
            have hD := hD.sub (ws' := [(om, .inr (4, [.int th, .int sa, .ref (am 0), .ref (am 1), .double mi, .ref (am 2), .ref (am 3), .ref (am 4), .int fi, .ref (am 5), .ref (am 6), .ref (am 7), .ref (am 8), .ref (am 9), .ref (am 10), .ref (am 11), .ref (am 12), .ref (am 13), .ref (am 14), .ref (am 15), .ref (am 16), .ref (am 17), .ref (am 18), .ref (am 19)])), ((am 1), aI q 8 xi), ((am 6), aI q 6 Ti), ((am 7), aI q 6 Si), ((am 13), aI q 6 (vf_upd Ri fx (Ri fx + 1))), ((am 14), aD q 48 Wt), ((am 16), aD q 6 Er), ((am 18), aD q 96 S3), ((am 19), aD q 4 ga)]) [7, 0, 1, 2, 3, 4, 5, 8, 6] (by decide) rfl
            have hP9 := hP
            have hD9 := hD
            refine W.endD hd0 ?_
            exact W.vret hx hb hr (fun t ht hW => ⟨⟨(Wt, S3, ga, vf_upd Ri fx (Ri fx + 1)), rfl, ⟨fun j1 hj1 => by dsimp only; unfold rW; rw [if_pos c1], fun _ _ => rfl, fun a1 c1 ha1 hc1 => by dsimp only; unfold rP; rw [hres, if_pos rfl, hR.1 a1 c1 (by omega) (by omega)]; split <;> rfl, hR.2, by dsimp only; rw [hres, if_pos rfl]⟩, by rw [ht]; exact hP9, hD9⟩, hS.F ht⟩) hS.2.2 dX4_learnRecursively_156
        | succ k2 ih2 =>
          intro j a hj ha H locs d0 hd0 hP hD hS ls hl
          refine lv_iload hx hb dX4_learnRecursively_99 (lv_at hl 5 rfl) ?_
          refine lv_iload_n hx hb dX4_learnRecursively_101 rfl (lv_at hl 2 rfl) ?_
          refine lv_icmp_ge (tgt := 132) hx hb dX4_learnRecursively_102 (by decide) (fun h => absurd h (nI_ge (by omega) (by omega))) (fun _ => ?_)
          refine lv_dload hx hb dX4_learnRecursively_105 (lv_at hl 4 rfl) ?_
          refine lv_aload_n hx hb dX4_learnRecursively_107 rfl (lv_at hl 0 rfl) ?_
          refine va_get (D := G) (ci := 4) (v := .ref (am 1)) (C := RX4) (T := TX4) (N := 24) hx hb (dr_words hts d0) in_X4_learnRecursively_X4 hown hK hP 0 rfl rfl 3 (by decide) (dr_words hts d0 (.fieldLink RX4 13 "EchoBenchModel" "x" "[I") (by decide +kernel)) (fun _ h9 => h9) rfl dX4_learnRecursively_108 ?_
          refine lv_iload hx hb dX4_learnRecursively_111 (lv_at hl 5 rfl) ?_
          refine va_ialdJ (s := s.setDrawn d0) hx hb hK hP 1 0 rfl rfl (j := j) rfl (by omega) (by decide) dX4_learnRecursively_113 ?_
          refine lv_i2d hx hb dX4_learnRecursively_114 ?_
          refine lv_aload_n hx hb dX4_learnRecursively_115 rfl (lv_at hl 0 rfl) ?_
          refine va_get (D := G) (ci := 4) (v := .ref (am 19)) (C := RX4) (T := TX4) (N := 24) hx hb (dr_words hts d0) in_X4_learnRecursively_X4 hown hK hP 0 rfl rfl 23 (by decide) (dr_words hts d0 (.fieldLink RX4 68 "EchoBenchModel" "g" "[D") (by decide +kernel)) (fun _ h9 => h9) rfl dX4_learnRecursively_116 ?_
          refine lv_iload hx hb dX4_learnRecursively_119 (lv_at hl 5 rfl) ?_
          refine va_daldJ (s := s.setDrawn d0) hx hb hK hP 8 1 rfl rfl (j := j) rfl (by omega) (by decide) dX4_learnRecursively_121 ?_
          refine lv_dmul_any hd0 lw_bits hx hb dX4_learnRecursively_122 (fun r29 dr29 ar29 hr29 => ?_)
          have er29 := dV_mul ar29
          refine lv_dadd_any hr29 lw_bits hx hb dX4_learnRecursively_123 (fun r30 dr30 ar30 hr30 => ?_)
          have er30 := dV_add ar30
          refine lv_dstore (lv' := [(5, .double r30), (0, .ref om), (1, .int (nI fx)), (2, .int (nI n)), (3, .double r1), (7, .int (nI j))]) hx hb dX4_learnRecursively_124 hl (by decide) rfl (fun ls hl => ?_)
          refine lv_iinc (v := nI (j + 1)) (lv' := [(7, .int (nI (j + 1))), (5, .double r30), (0, .ref om), (1, .int (nI fx)), (2, .int (nI n)), (3, .double r1)]) hx hb dX4_learnRecursively_126 hl (k := 5) rfl (nI_succ _).symm (by decide) rfl (fun ls hl => ?_)
          refine lv_goto (tgt := 99) hx hb dX4_learnRecursively_129 (by decide) ?_
          exact ih2 (j + 1) r30 (by omega) (by rw [er30, er29, ha, hg j (by omega)]; rfl) _ _ _ hr30 (hP.sub [0, 1, 2, 3, 4, 5, 6, 7, 8] rfl) (hD.sub [0, 1, 2, 3, 4, 5, 6, 7, 8] (by decide) rfl) hS ls (lv_sub hl [2, 3, 4, 5, 1, 0] rfl)
      exact LB n 0 r1 (by omega) hmu _ _ _ hd0 (hP.sub [0, 1, 2, 3, 4, 5, 6, 7, 8] rfl) (hD.sub [0, 1, 2, 3, 4, 5, 6, 7, 8] (by decide) rfl) hS ls (lv_sub hl [1, 2, 3, 4, 5, 0] rfl)
    | succ k ih =>
      intro i ga hi hg H locs d0 hd0 hP hD hS ls hl
      refine lv_iload hx hb dX4_learnRecursively_25 (lv_at hl 5 rfl) ?_
      refine lv_iload_n hx hb dX4_learnRecursively_27 rfl (lv_at hl 2 rfl) ?_
      refine lv_icmp_ge (tgt := 96) hx hb dX4_learnRecursively_28 (by decide) (fun h => absurd h (nI_ge (by omega) (by omega))) (fun _ => ?_)
      refine lv_aload_n hx hb dX4_learnRecursively_31 rfl (lv_at hl 0 rfl) ?_
      refine va_get (D := G) (ci := 4) (v := .ref (am 19)) (C := RX4) (T := TX4) (N := 24) hx hb (dr_words hts d0) in_X4_learnRecursively_X4 hown hK hP 0 rfl rfl 23 (by decide) (dr_words hts d0 (.fieldLink RX4 68 "EchoBenchModel" "g" "[D") (by decide +kernel)) (fun _ h9 => h9) rfl dX4_learnRecursively_32 ?_
      refine lv_iload hx hb dX4_learnRecursively_35 (lv_at hl 5 rfl) ?_
      refine lv_dc0 hx hb dX4_learnRecursively_37 ?_
      refine va_dastJ (s := s.setDrawn d0) hx hb hK hP hD hS 8 1 rfl rfl (j := i) rfl (by omega) (by decide) dX4_learnRecursively_38 (fun H locs hP hD hS => ?_)
      have hP : va_P G vwCl [(om, .inr (4, [.int th, .int sa, .ref (am 0), .ref (am 1), .double mi, .ref (am 2), .ref (am 3), .ref (am 4), .int fi, .ref (am 5), .ref (am 6), .ref (am 7), .ref (am 8), .ref (am 9), .ref (am 10), .ref (am 11), .ref (am 12), .ref (am 13), .ref (am 14), .ref (am 15), .ref (am 16), .ref (am 17), .ref (am 18), .ref (am 19)])), ((am 1), aI q 8 xi), ((am 6), aI q 6 Ti), ((am 7), aI q 6 Si), ((am 13), aI q 6 Ri), ((am 14), aD q 48 Wt), ((am 16), aD q 6 Er), ((am 18), aD q 96 Sq), ((am 19), aD q 4 (vf_upd ga i 0))] H := hP
      have hD : va_D A [(om, .inr (4, [.int th, .int sa, .ref (am 0), .ref (am 1), .double mi, .ref (am 2), .ref (am 3), .ref (am 4), .int fi, .ref (am 5), .ref (am 6), .ref (am 7), .ref (am 8), .ref (am 9), .ref (am 10), .ref (am 11), .ref (am 12), .ref (am 13), .ref (am 14), .ref (am 15), .ref (am 16), .ref (am 17), .ref (am 18), .ref (am 19)])), ((am 1), aI q 8 xi), ((am 6), aI q 6 Ti), ((am 7), aI q 6 Si), ((am 13), aI q 6 Ri), ((am 14), aD q 48 Wt), ((am 16), aD q 6 Er), ((am 18), aD q 96 Sq), ((am 19), aD q 4 (vf_upd ga i 0))] := hD
      refine lv_iconst (v := 0) hx hb dX4_learnRecursively_39 (by decide) ?_
      refine lv_istore (lv' := [(8, .int 0), (0, .ref om), (1, .int (nI fx)), (2, .int (nI n)), (3, .double r1), (5, .double r1), (7, .int (nI i))]) hx hb dX4_learnRecursively_40 hl (by decide) rfl (fun ls hl => ?_)
      have LI : ∀ (k2 : Nat) (j : Nat) (gb : Nat → UInt64), j + k2 = n → (∀ i', i' < i → dV (gb i') = sOut n (pV Sq fx i') xi) → dV (gb i) = smN (dV 0) (fun k => fMul (pV Sq fx i k) (fI (xi k))) j → ∀ (H : Heap) (locs : List Loc) (d0 : Drawn), s.drawn.sameBut d0 lw_cs → va_P G vwCl [(om, .inr (4, [.int th, .int sa, .ref (am 0), .ref (am 1), .double mi, .ref (am 2), .ref (am 3), .ref (am 4), .int fi, .ref (am 5), .ref (am 6), .ref (am 7), .ref (am 8), .ref (am 9), .ref (am 10), .ref (am 11), .ref (am 12), .ref (am 13), .ref (am 14), .ref (am 15), .ref (am 16), .ref (am 17), .ref (am 18), .ref (am 19)])), ((am 1), aI q 8 xi), ((am 6), aI q 6 Ti), ((am 7), aI q 6 Si), ((am 13), aI q 6 Ri), ((am 14), aD q 48 Wt), ((am 16), aD q 6 Er), ((am 18), aD q 96 Sq), ((am 19), aD q 4 gb)] H → va_D A [(om, .inr (4, [.int th, .int sa, .ref (am 0), .ref (am 1), .double mi, .ref (am 2), .ref (am 3), .ref (am 4), .int fi, .ref (am 5), .ref (am 6), .ref (am 7), .ref (am 8), .ref (am 9), .ref (am 10), .ref (am 11), .ref (am 12), .ref (am 13), .ref (am 14), .ref (am 15), .ref (am 16), .ref (am 17), .ref (am 18), .ref (am 19)])), ((am 1), aI q 8 xi), ((am 6), aI q 6 Ti), ((am 7), aI q 6 Si), ((am 13), aI q 6 Ri), ((am 14), aD q 48 Wt), ((am 16), aD q 6 Er), ((am 18), aD q 96 Sq), ((am 19), aD q 4 gb)] → va_S A s.heap H locs → ∀ (ls : Array Slot), lv_has ls 13 [(0, .ref om), (1, .int (nI fx)), (2, .int (nI n)), (3, .double r1), (5, .double r1), (7, .int (nI i)), (8, .int (nI j))] → W p l e (headSpec wsX4_learnRecursively ({ frames := 1, cells := 0, slots := 0, locals := 26 } : Jvm.Room)).room (s.setDrawn d0) m #[.ref om, .int (nI fx)] below meth c H locs 0 0 (MQD lw_cs below (va_Qv (fun (u : (Nat → UInt64) × (Nat → UInt64) × (Nat → UInt64) × (Nat → Int32)) => (∀ j, j < n → dV (u.1 (8 * fx + j)) = rW n (fDiv (fI (Si fx)) k1000) (dV (Er fx)) (pV Sq fx) xi (dV (Wt (8 * fx + j))) j) ∧ (∀ i, (i < 8 * fx ∨ 8 * fx + n ≤ i) → u.1 i = Wt i) ∧ (∀ a c, a < n → c < n → dV (u.2.1 (16 * fx + 4 * a + c)) = rP n (fDiv (fI (Si fx)) k1000) (pV Sq fx) xi a c) ∧ (∀ i, (i < 16 * fx ∨ 16 * fx + 16 ≤ i) → u.2.1 i = Sq i) ∧ u.2.2.2 = (if rRes n (fDiv (fI (Si fx)) k1000) (pV Sq fx) xi = true then vf_upd Ri fx (Ri fx + 1) else Ri)) (fun (u : (Nat → UInt64) × (Nat → UInt64) × (Nat → UInt64) × (Nat → Int32)) t => EndA G A [(om, .inr (4, [.int th, .int sa, .ref (am 0), .ref (am 1), .double mi, .ref (am 2), .ref (am 3), .ref (am 4), .int fi, .ref (am 5), .ref (am 6), .ref (am 7), .ref (am 8), .ref (am 9), .ref (am 10), .ref (am 11), .ref (am 12), .ref (am 13), .ref (am 14), .ref (am 15), .ref (am 16), .ref (am 17), .ref (am 18), .ref (am 19)])), ((am 1), aI q 8 xi), ((am 6), aI q 6 Ti), ((am 7), aI q 6 Si), ((am 13), aI q 6 u.2.2.2), ((am 14), aD q 48 u.1), ((am 16), aD q 6 Er), ((am 18), aD q 96 u.2.1), ((am 19), aD q 4 u.2.2.1)] t) A) #[.ref om, .int (nI fx)] s 0 0 A) (F0 m 42 ls []) := by
        intro k2
        induction k2 with
        | zero =>
          intro j gb hj hg1 hg2 H locs d0 hd0 hP hD hS ls hl
          refine lv_iload hx hb dX4_learnRecursively_42 (lv_at hl 6 rfl) ?_
          refine lv_iload_n hx hb dX4_learnRecursively_44 rfl (lv_at hl 2 rfl) ?_
          refine lv_icmp_ge (tgt := 90) hx hb dX4_learnRecursively_45 (by decide) (fun _ => ?_) (fun h => absurd (nI_le (by omega) (by omega)) h)
          refine lv_iinc (v := nI (i + 1)) (lv' := [(7, .int (nI (i + 1))), (0, .ref om), (1, .int (nI fx)), (2, .int (nI n)), (3, .double r1), (5, .double r1), (8, .int (nI j))]) hx hb dX4_learnRecursively_90 hl (k := 5) rfl (nI_succ _).symm (by decide) rfl (fun ls hl => ?_)
          refine lv_goto (tgt := 25) hx hb dX4_learnRecursively_93 (by decide) ?_
          exact ih (i + 1) gb (by omega) (g_done (g := fun i1 => sOut n (pV Sq fx i1) xi) hg1 (by rw [hg2, show j = n by omega]; rfl)) _ _ _ hd0 (hP.sub [0, 1, 2, 3, 4, 5, 6, 7, 8] rfl) (hD.sub [0, 1, 2, 3, 4, 5, 6, 7, 8] (by decide) rfl) hS ls (lv_sub hl [1, 2, 3, 4, 5, 0] rfl)
        | succ k2 ih2 =>
          intro j gb hj hg1 hg2 H locs d0 hd0 hP hD hS ls hl
          refine lv_iload hx hb dX4_learnRecursively_42 (lv_at hl 6 rfl) ?_
          refine lv_iload_n hx hb dX4_learnRecursively_44 rfl (lv_at hl 2 rfl) ?_
          refine lv_icmp_ge (tgt := 90) hx hb dX4_learnRecursively_45 (by decide) (fun h => absurd h (nI_ge (by omega) (by omega))) (fun _ => ?_)
          refine lv_aload_n hx hb dX4_learnRecursively_48 rfl (lv_at hl 0 rfl) ?_
          refine va_get (D := G) (ci := 4) (v := .ref (am 19)) (C := RX4) (T := TX4) (N := 24) hx hb (dr_words hts d0) in_X4_learnRecursively_X4 hown hK hP 0 rfl rfl 23 (by decide) (dr_words hts d0 (.fieldLink RX4 68 "EchoBenchModel" "g" "[D") (by decide +kernel)) (fun _ h9 => h9) rfl dX4_learnRecursively_49 ?_
          refine lv_iload hx hb dX4_learnRecursively_52 (lv_at hl 5 rfl) ?_
          refine lv_dup2_11 hx hb dX4_learnRecursively_54 rfl rfl ?_
          refine va_daldJ (s := s.setDrawn d0) hx hb hK hP 8 1 rfl rfl (j := i) rfl (by omega) (by decide) dX4_learnRecursively_55 ?_
          refine lv_aload_n hx hb dX4_learnRecursively_56 rfl (lv_at hl 0 rfl) ?_
          refine va_get (D := G) (ci := 4) (v := .ref (am 18)) (C := RX4) (T := TX4) (N := 24) hx hb (dr_words hts d0) in_X4_learnRecursively_X4 hown hK hP 0 rfl rfl 22 (by decide) (dr_words hts d0 (.fieldLink RX4 65 "EchoBenchModel" "square" "[D") (by decide +kernel)) (fun _ h9 => h9) rfl dX4_learnRecursively_57 ?_
          refine lv_bipush (v := 16) hx hb dX4_learnRecursively_60 (by decide) ?_
          refine lv_iload_n hx hb dX4_learnRecursively_62 rfl (lv_at hl 1 rfl) ?_
          refine lv_imul hx hb dX4_learnRecursively_63 ?_
          refine lv_topi (fun x34 ex34 => ?_)
          obtain rfl : x34 = (nI (16 * fx)) := ex34.trans (nI_mul 16 fx)
          refine lv_iconst (v := 4) hx hb dX4_learnRecursively_64 (by decide) ?_
          refine lv_iload hx hb dX4_learnRecursively_65 (lv_at hl 5 rfl) ?_
          refine lv_imul hx hb dX4_learnRecursively_67 ?_
          refine lv_topi (fun x35 ex35 => ?_)
          obtain rfl : x35 = (nI (4 * i)) := ex35.trans (nI_mul 4 i)
          refine lv_iadd hx hb dX4_learnRecursively_68 ?_
          refine lv_topi (fun x36 ex36 => ?_)
          obtain rfl : x36 = (nI (16 * fx + (4 * i))) := ex36.trans (nI_add (16 * fx) (4 * i))
          refine lv_iload hx hb dX4_learnRecursively_69 (lv_at hl 6 rfl) ?_
          refine lv_iadd hx hb dX4_learnRecursively_71 ?_
          refine lv_topi (fun x37 ex37 => ?_)
          obtain rfl : x37 = (nI (16 * fx + (4 * i) + j)) := ex37.trans (nI_add (16 * fx + (4 * i)) j)
          refine va_daldJ (s := s.setDrawn d0) hx hb hK hP 7 1 rfl rfl (j := (16 * fx + 4 * i + j)) rfl (by omega) (by decide) dX4_learnRecursively_72 ?_
          refine lv_aload_n hx hb dX4_learnRecursively_73 rfl (lv_at hl 0 rfl) ?_
          refine va_get (D := G) (ci := 4) (v := .ref (am 1)) (C := RX4) (T := TX4) (N := 24) hx hb (dr_words hts d0) in_X4_learnRecursively_X4 hown hK hP 0 rfl rfl 3 (by decide) (dr_words hts d0 (.fieldLink RX4 13 "EchoBenchModel" "x" "[I") (by decide +kernel)) (fun _ h9 => h9) rfl dX4_learnRecursively_74 ?_
          refine lv_iload hx hb dX4_learnRecursively_77 (lv_at hl 6 rfl) ?_
          refine va_ialdJ (s := s.setDrawn d0) hx hb hK hP 1 0 rfl rfl (j := j) rfl (by omega) (by decide) dX4_learnRecursively_79 ?_
          refine lv_i2d hx hb dX4_learnRecursively_80 ?_
          refine lv_dmul_any hd0 lw_bits hx hb dX4_learnRecursively_81 (fun r38 dr38 ar38 hr38 => ?_)
          have er38 := dV_mul ar38
          refine lv_dadd_any hr38 lw_bits hx hb dX4_learnRecursively_82 (fun r39 dr39 ar39 hr39 => ?_)
          have er39 := dV_add ar39
          refine va_dastJ (s := s.setDrawn dr39) hx hb hK hP hD hS 8 1 rfl rfl (j := i) rfl (by omega) (by decide) dX4_learnRecursively_83 (fun H locs hP hD hS => ?_)
          have hP : va_P G vwCl [(om, .inr (4, [.int th, .int sa, .ref (am 0), .ref (am 1), .double mi, .ref (am 2), .ref (am 3), .ref (am 4), .int fi, .ref (am 5), .ref (am 6), .ref (am 7), .ref (am 8), .ref (am 9), .ref (am 10), .ref (am 11), .ref (am 12), .ref (am 13), .ref (am 14), .ref (am 15), .ref (am 16), .ref (am 17), .ref (am 18), .ref (am 19)])), ((am 1), aI q 8 xi), ((am 6), aI q 6 Ti), ((am 7), aI q 6 Si), ((am 13), aI q 6 Ri), ((am 14), aD q 48 Wt), ((am 16), aD q 6 Er), ((am 18), aD q 96 Sq), ((am 19), aD q 4 (vf_upd gb i r39))] H := hP
          have hD : va_D A [(om, .inr (4, [.int th, .int sa, .ref (am 0), .ref (am 1), .double mi, .ref (am 2), .ref (am 3), .ref (am 4), .int fi, .ref (am 5), .ref (am 6), .ref (am 7), .ref (am 8), .ref (am 9), .ref (am 10), .ref (am 11), .ref (am 12), .ref (am 13), .ref (am 14), .ref (am 15), .ref (am 16), .ref (am 17), .ref (am 18), .ref (am 19)])), ((am 1), aI q 8 xi), ((am 6), aI q 6 Ti), ((am 7), aI q 6 Si), ((am 13), aI q 6 Ri), ((am 14), aD q 48 Wt), ((am 16), aD q 6 Er), ((am 18), aD q 96 Sq), ((am 19), aD q 4 (vf_upd gb i r39))] := hD
          refine lv_iinc (v := nI (j + 1)) (lv' := [(8, .int (nI (j + 1))), (0, .ref om), (1, .int (nI fx)), (2, .int (nI n)), (3, .double r1), (5, .double r1), (7, .int (nI i))]) hx hb dX4_learnRecursively_84 hl (k := 6) rfl (nI_succ _).symm (by decide) rfl (fun ls hl => ?_)
          refine lv_goto (tgt := 42) hx hb dX4_learnRecursively_87 (by decide) ?_
          exact ih2 (j + 1) (vf_upd gb i r39) (by omega) (vf_keep hg1) (by rw [vf_self, er39, er38, hg2]; rfl) _ _ _ hr39 (hP.sub [0, 1, 2, 3, 4, 5, 6, 7, 8] rfl) (hD.sub [0, 1, 2, 3, 4, 5, 6, 7, 8] (by decide) rfl) hS ls (lv_sub hl [1, 2, 3, 4, 5, 6, 0] rfl)
      exact LI n 0 (vf_upd ga i 0) (by omega) (vf_keep hg) (by rw [vf_self]; rfl) _ _ _ hd0 (hP.sub [0, 1, 2, 3, 4, 5, 6, 7, 8] rfl) (hD.sub [0, 1, 2, 3, 4, 5, 6, 7, 8] (by decide) rfl) hS ls (lv_sub hl [1, 2, 3, 4, 5, 6, 0] rfl)
  exact LA n 0 gg (by omega) (fun i1 hi1 => absurd hi1 (by omega)) _ _ _ hr1 (hP.sub [0, 1, 2, 3, 4, 5, 6, 7, 8] rfl) (hD.sub [0, 1, 2, 3, 4, 5, 6, 7, 8] (by decide) rfl) hS ls (lv_sub hl [4, 5, 3, 2, 1, 0] rfl)
