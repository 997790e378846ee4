theorem fNeg_sub {x : UInt64} (h : fO (dV x) (dV 0) = some .lt) : fSub (dV 0) (dV x) = fNeg (dV x) := by
  have hx : FP.Core.val64 x ≠ .nan := (FP.Core.dcmp_some (a := x) (b := 0) h).1
  have hn : FP.Core.val64 (FP.Core.dneg x) ≠ .nan := by
    intro q
    rw [FP.Core.val64_dneg] at q
    apply hx
    rw [← FP.Core.negate_negate (FP.Core.val64 x), q]
    rfl
  have hz : FP.Core.dneg x ≠ FP.Core.dzeroNeg := by
    intro q
    have e := FP.Core.dneg_dneg hx
    rw [q] at e
    rw [← e] at h
    exact absurd h (by decide +kernel)
  have e : FP.Core.dsub 0 x = FP.Core.dneg x := by
    rw [FP.Core.dsub_eq, FP.Core.dadd_comm]
    exact FP.Core.dadd_zero hn hz
  exact (FP.Core.val64_dsub 0 x).symm.trans ((congrArg FP.Core.val64 e).trans (FP.Core.val64_dneg x))
theorem fAbs_sSz (x : UInt64) : fAbs (dV x) = sSz (dV x) := by
  unfold fAbs sSz
  by_cases h : fO (dV x) (dV 0) = some .lt
  · rw [if_pos h, if_pos h, fNeg_sub h]
  · rw [if_neg h, if_neg h]
theorem scrA_le {a : Nat} (h : a ≤ 2000) (k : Nat) : scrA a k ≤ 2000 := by
  induction k with
  | zero => exact h
  | succ k ih =>
    have := Nat.mod_lt (7 * scrA a k + 1001) (show 2001 > 0 by decide)
    show (7 * scrA a k + 1001) % 2001 ≤ 2000
    omega
theorem nI_rem2001 {a : Nat} (ha : a < 2147483648) : nI a - nI a / 2001 * 2001 = nI (a % 2001) := pk_rem (d := 2001) ha (by decide) (by decide)

theorem in_X4_batch_X4 : ∀ w ∈ wsX40, w ∈ wsX4_batch := by decide +kernel
set_option maxHeartbeats 4000000 in
set_option maxRecDepth 100000 in
/-- batch: where it goes well -/
theorem m_X4_batch (l : Launch) (G : va_G) (q : Nat → ClassId) (sz : Nat) (om : Nat) (am : Nat → Nat) (th fi : Int32) (mi : UInt64) (T : Nat) (tp : Int32) (z0 z1 : Nat → Int32) (fm : Nat → UInt64) (hT : T ≤ 2000) (htp : 0 ≤ tp ∧ tp ≤ 1) : MetD lw_cs l yX4_batch wsX4_batch ({ frames := 1, cells := 0, slots := 0, locals := 22 } : Jvm.Room) (PreW G q [.ref om, .int tp] [(om, .inr (4, [.int th, .int (nI T), .ref (am 0), .ref (am 1), .double mi, .ref (am 2), .ref (am 3), .ref (am 4), .int fi, .ref (am 5), .ref (am 6), .ref (am 7), .ref (am 8), .ref (am 9), .ref (am 10), .ref (am 11), .ref (am 12), .ref (am 13), .ref (am 14), .ref (am 15), .ref (am 16), .ref (am 17), .ref (am 18), .ref (am 19)])), ((am 2), aI q 16 z0), ((am 3), aI q 16 z1), ((am 4), aD q 16 fm)] sz) (va_Qd (fun (r : UInt64) (_ : Unit) => dV r = sBatch tp T (fun k => fI (z0 k)) (fun k => fI (z1 k)) (fun k => dV (fm k))) (fun (_ : Unit) t => EndA G (va_A [(om, .inr (4, [.int th, .int (nI T), .ref (am 0), .ref (am 1), .double mi, .ref (am 2), .ref (am 3), .ref (am 4), .int fi, .ref (am 5), .ref (am 6), .ref (am 7), .ref (am 8), .ref (am 9), .ref (am 10), .ref (am 11), .ref (am 12), .ref (am 13), .ref (am 14), .ref (am 15), .ref (am 16), .ref (am 17), .ref (am 18), .ref (am 19)])), ((am 2), aI q 16 z0), ((am 3), aI q 16 z1), ((am 4), aD q 16 fm)] sz) [(om, .inr (4, [.int 0, .int (nI T), .ref (am 0), .ref (am 1), .double mi, .ref (am 2), .ref (am 3), .ref (am 4), .int fi, .ref (am 5), .ref (am 6), .ref (am 7), .ref (am 8), .ref (am 9), .ref (am 10), .ref (am 11), .ref (am 12), .ref (am 13), .ref (am 14), .ref (am 15), .ref (am 16), .ref (am 17), .ref (am 18), .ref (am 19)])), ((am 2), aI q 16 z0), ((am 3), aI q 16 z1), ((am 4), aD q 16 fm)] t) (va_A [(om, .inr (4, [.int th, .int (nI T), .ref (am 0), .ref (am 1), .double mi, .ref (am 2), .ref (am 3), .ref (am 4), .int fi, .ref (am 5), .ref (am 6), .ref (am 7), .ref (am 8), .ref (am 9), .ref (am 10), .ref (am 11), .ref (am 12), .ref (am 13), .ref (am 14), .ref (am 15), .ref (am 16), .ref (am 17), .ref (am 18), .ref (am 19)])), ((am 2), aI q 16 z0), ((am 3), aI q 16 z1), ((am 4), aD q 16 fm)] sz)) 0 0 (va_A [(om, .inr (4, [.int th, .int (nI T), .ref (am 0), .ref (am 1), .double mi, .ref (am 2), .ref (am 3), .ref (am 4), .int fi, .ref (am 5), .ref (am 6), .ref (am 7), .ref (am 8), .ref (am 9), .ref (am 10), .ref (am 11), .ref (am 12), .ref (am 13), .ref (am 14), .ref (am 15), .ref (am 16), .ref (am 17), .ref (am 18), .ref (am 19)])), ((am 2), aI q 16 z0), ((am 3), aI q 16 z1), ((am 4), aD q 16 fm)] sz) := by
  refine MetD.ofW (cc := cX4_batch) (maxL := 18) (ret := (some .double)) (by decide +kernel) rfl ?_
  intro p e s m args below meth c s₁ B hml hv hd0
  obtain ⟨rfl, hsz, hP, hK, hD0, hNF⟩ := hv
  have hx := B.exec
  have hb := B.bytes
  have hr := B.returns
  have hts := atoms_spec (ws := wsX4_batch) B.pre
  have hown : s.vm.findClass RX4 = some m.cls := findClass_of_methodNamed B.named
  have hlocks := B.notSynchronized
  subst hsz
  have hD := hD0.self (sz := s.heap.size)
  generalize hAe : va_A [(om, .inr (4, [.int th, .int (nI T), .ref (am 0), .ref (am 1), .double mi, .ref (am 2), .ref (am 3), .ref (am 4), .int fi, .ref (am 5), .ref (am 6), .ref (am 7), .ref (am 8), .ref (am 9), .ref (am 10), .ref (am 11), .ref (am 12), .ref (am 13), .ref (am 14), .ref (am 15), .ref (am 16), .ref (am 17), .ref (am 18), .ref (am 19)])), ((am 2), aI q 16 z0), ((am 3), aI q 16 z1), ((am 4), aD q 16 fm)] s.heap.size = A at hD ⊢
  have hA : ∀ q : Nat, s.heap.size ≤ q → A q := fun q h => by rw [← hAe]; exact Or.inr h
  have hS : va_S A s.heap s.heap [] := va_S.rf
  have hP : va_P G vwCl [(om, .inr (4, [.int th, .int (nI T), .ref (am 0), .ref (am 1), .double mi, .ref (am 2), .ref (am 3), .ref (am 4), .int fi, .ref (am 5), .ref (am 6), .ref (am 7), .ref (am 8), .ref (am 9), .ref (am 10), .ref (am 11), .ref (am 12), .ref (am 13), .ref (am 14), .ref (am 15), .ref (am 16), .ref (am 17), .ref (am 18), .ref (am 19)])), ((am 2), aI q 16 z0), ((am 3), aI q 16 z1), ((am 4), aD q 16 fm)] s.heap := hP
  have hl := lv_entry ([.ref om, .int tp]) (n := 18) (Nat.le_of_ble_eq_true rfl)
  rw [lg_entry_eq]
  generalize (lg_sl ([.ref om, .int tp]) ++ List.replicate (18 - (lg_sl ([.ref om, .int tp])).length) Slot.unset).toArray = ls at hl ⊢
  have hl : lv_has ls 18 [(0, .ref om), (1, .int tp)] := hl
  refine lv_aload_n hx hb dX4_batch_0 rfl (lv_at hl 0 rfl) ?_
  refine lv_iload_n hx hb dX4_batch_1 rfl (lv_at hl 1 rfl) ?_
  refine lv_iconst (v := 0) hx hb dX4_batch_2 (by decide) ?_
  refine lv_iconst (v := 1) hx hb dX4_batch_3 (by decide) ?_
  have hPc := hP.sub (ws' := []) [] rfl
  have hDc := hD.sub (ws' := []) [] (by decide) rfl
  have hFc := va_free (wc := []) hD hS hA [] rfl
  refine va_calli (va_runS (As := [.int tp, .int 0, .int 1]) (rest := [.ref om]) ⟨hx, hb, hml, hown, (dr_words hts s.drawn)⟩ (m_X4_in l G q s.heap.size tp 0 1) (va_cwS 3 (dr_words hts s.drawn) gX4_batch_X4_in rfl rfl rfl (by decide +kernel) ⟨Nat.le_of_ble_eq_true rfl, Nat.le_of_ble_eq_true rfl⟩) ⟨preW_blind, preW_start (s := s.setDrawn s.drawn) hPc hK hDc (hNF.drawn s.drawn)⟩ rfl rfl hl.1 rfl (lv_room (Nat.le_of_ble_eq_true rfl)) dX4_batch_4 ⟨(Nat.zero_le _), (Nat.zero_le _)⟩) hS (fun q _ h => hFc q h) hFc (fun ri1 u9 t9 H1 locs ht9 hv9 hw hB9 hz9 hk9 hS => ?_)
  obtain ⟨⟩ := u9
  obtain ⟨hP1, hD1⟩ := hB9
  rw [ht9] at hP1
  obtain ⟨hP, hD⟩ := va_join (wr := [(om, .inr (4, [.int th, .int (nI T), .ref (am 0), .ref (am 1), .double mi, .ref (am 2), .ref (am 3), .ref (am 4), .int fi, .ref (am 5), .ref (am 6), .ref (am 7), .ref (am 8), .ref (am 9), .ref (am 10), .ref (am 11), .ref (am 12), .ref (am 13), .ref (am 14), .ref (am 15), .ref (am 16), .ref (am 17), .ref (am 18), .ref (am 19)])), ((am 2), aI q 16 z0), ((am 3), aI q 16 z1), ((am 4), aD q 16 fm)]) (w1 := []) hP hD [] [0, 1, 2, 3] rfl rfl (by decide) (by decide) hk9 hFc hP1 hD1
  generalize H1 = H at hP hS ⊢
  have hP : va_P G vwCl [(om, .inr (4, [.int th, .int (nI T), .ref (am 0), .ref (am 1), .double mi, .ref (am 2), .ref (am 3), .ref (am 4), .int fi, .ref (am 5), .ref (am 6), .ref (am 7), .ref (am 8), .ref (am 9), .ref (am 10), .ref (am 11), .ref (am 12), .ref (am 13), .ref (am 14), .ref (am 15), .ref (am 16), .ref (am 17), .ref (am 18), .ref (am 19)])), ((am 2), aI q 16 z0), ((am 3), aI q 16 z1), ((am 4), aD q 16 fm)] H := hP
  have hD : va_D A [(om, .inr (4, [.int th, .int (nI T), .ref (am 0), .ref (am 1), .double mi, .ref (am 2), .ref (am 3), .ref (am 4), .int fi, .ref (am 5), .ref (am 6), .ref (am 7), .ref (am 8), .ref (am 9), .ref (am 10), .ref (am 11), .ref (am 12), .ref (am 13), .ref (am 14), .ref (am 15), .ref (am 16), .ref (am 17), .ref (am 18), .ref (am 19)])), ((am 2), aI q 16 z0), ((am 3), aI q 16 z1), ((am 4), aD q 16 fm)] := hD
  obtain rfl : ri1 = 1 := hw.trans (if_pos htp)
  refine lv_if_eq (tgt := 14) hx hb dX4_batch_7 (by decide) (fun h => absurd h (by decide)) (fun _ => ?_)
  refine lv_iconst (v := 0) hx hb dX4_batch_10 (by decide) ?_
  refine lv_goto (tgt := 15) hx hb dX4_batch_11 (by decide) ?_
  have hPc := hP.sub (ws' := [(om, .inr (4, [.int th, .int (nI T), .ref (am 0), .ref (am 1), .double mi, .ref (am 2), .ref (am 3), .ref (am 4), .int fi, .ref (am 5), .ref (am 6), .ref (am 7), .ref (am 8), .ref (am 9), .ref (am 10), .ref (am 11), .ref (am 12), .ref (am 13), .ref (am 14), .ref (am 15), .ref (am 16), .ref (am 17), .ref (am 18), .ref (am 19)]))]) [0] rfl
  have hDc := hD.sub (ws' := [(om, .inr (4, [.int th, .int (nI T), .ref (am 0), .ref (am 1), .double mi, .ref (am 2), .ref (am 3), .ref (am 4), .int fi, .ref (am 5), .ref (am 6), .ref (am 7), .ref (am 8), .ref (am 9), .ref (am 10), .ref (am 11), .ref (am 12), .ref (am 13), .ref (am 14), .ref (am 15), .ref (am 16), .ref (am 17), .ref (am 18), .ref (am 19)]))]) [0] (by decide) rfl
  have hFc := va_free (wc := [(om, .inr (4, [.int th, .int (nI T), .ref (am 0), .ref (am 1), .double mi, .ref (am 2), .ref (am 3), .ref (am 4), .int fi, .ref (am 5), .ref (am 6), .ref (am 7), .ref (am 8), .ref (am 9), .ref (am 10), .ref (am 11), .ref (am 12), .ref (am 13), .ref (am 14), .ref (am 15), .ref (am 16), .ref (am 17), .ref (am 18), .ref (am 19)]))]) hD hS hA [0] rfl
  refine va_calli (va_runV (As := [.int 0]) (rest := []) ⟨hx, hb, hml, hown, (dr_words hts s.drawn)⟩ (m_X4_goesWell l G q H.size om am th (nI T) fi mi 0) (cwV 1 (dr_words hts s.drawn) gX4_batch_X4_goesWell rfl rfl rfl (by decide +kernel) ⟨Nat.le_of_ble_eq_true rfl, Nat.le_of_ble_eq_true rfl⟩) ⟨preW_blind, (va_recv hK hPc (ci := 4) (q0 := 0) rfl rfl), preW_start (s := s.setDrawn s.drawn) hPc hK hDc (hNF.drawn s.drawn)⟩ rfl rfl hl.1 rfl (lv_room (Nat.le_of_ble_eq_true rfl)) dX4_batch_15 ⟨(Nat.zero_le _), (Nat.zero_le _)⟩) hS (fun q _ h => hFc q h) hFc (fun gr4 u9 t9 H1 locs ht9 hv9 hw hB9 hz9 hk9 hS => ?_)
  obtain ⟨⟩ := u9
  obtain ⟨hP1, hD1⟩ := hB9
  rw [ht9] at hP1
  obtain ⟨hP, hD⟩ := va_join (wr := [((am 2), aI q 16 z0), ((am 3), aI q 16 z1), ((am 4), aD q 16 fm)]) (w1 := [(om, .inr (4, [.int 0, .int (nI T), .ref (am 0), .ref (am 1), .double mi, .ref (am 2), .ref (am 3), .ref (am 4), .int fi, .ref (am 5), .ref (am 6), .ref (am 7), .ref (am 8), .ref (am 9), .ref (am 10), .ref (am 11), .ref (am 12), .ref (am 13), .ref (am 14), .ref (am 15), .ref (am 16), .ref (am 17), .ref (am 18), .ref (am 19)]))]) hP hD [0] [1, 2, 3] rfl rfl (by decide) (by decide) hk9 hFc hP1 hD1
  generalize H1 = H at hP hS ⊢
  have hP : va_P G vwCl [((am 2), aI q 16 z0), ((am 3), aI q 16 z1), ((am 4), aD q 16 fm), (om, .inr (4, [.int 0, .int (nI T), .ref (am 0), .ref (am 1), .double mi, .ref (am 2), .ref (am 3), .ref (am 4), .int fi, .ref (am 5), .ref (am 6), .ref (am 7), .ref (am 8), .ref (am 9), .ref (am 10), .ref (am 11), .ref (am 12), .ref (am 13), .ref (am 14), .ref (am 15), .ref (am 16), .ref (am 17), .ref (am 18), .ref (am 19)]))] H := hP
  have hD : va_D A [((am 2), aI q 16 z0), ((am 3), aI q 16 z1), ((am 4), aD q 16 fm), (om, .inr (4, [.int 0, .int (nI T), .ref (am 0), .ref (am 1), .double mi, .ref (am 2), .ref (am 3), .ref (am 4), .int fi, .ref (am 5), .ref (am 6), .ref (am 7), .ref (am 8), .ref (am 9), .ref (am 10), .ref (am 11), .ref (am 12), .ref (am 13), .ref (am 14), .ref (am 15), .ref (am 16), .ref (am 17), .ref (am 18), .ref (am 19)]))] := hD
  obtain rfl : gr4 = 1 := hw.trans (by decide)
  refine lv_if_ne (tgt := 23) hx hb dX4_batch_18 (by decide) (fun _ => ?_) (fun h => absurd h (by decide))
  refine lv_aload_n hx hb dX4_batch_23 rfl (lv_at hl 0 rfl) ?_
  refine va_get (D := G) (ci := 4) (v := .int (nI T)) (C := RX4) (T := TX4) (N := 24) hx hb (dr_words hts s.drawn) in_X4_batch_X4 hown hK hP 3 rfl rfl 1 (by decide) (dr_words hts s.drawn (.fieldLink RX4 130 "EchoBenchModel" "samples" "I") (by decide +kernel)) (fun _ h9 => h9) rfl dX4_batch_24 ?_
  refine lv_bipush (v := 16) hx hb dX4_batch_27 (by decide) ?_
  have LOOP : ∀ (k : Nat) (j : Nat) (ka : UInt64) (kb : UInt64) (kc : UInt64) (kp : UInt64) (kq : UInt64), T - 16 + j + k = T → dV ka = smN (dV 0) (fun k => fMul (fI (z0 ((T - 16 + k) % 16))) (fI (z0 ((T - 16 + k) % 16)))) j → dV kb = smN (dV 0) (fun k => fMul (fI (z0 ((T - 16 + k) % 16))) (fI (z1 ((T - 16 + k) % 16)))) j → dV kc = smN (dV 0) (fun k => fMul (fI (z1 ((T - 16 + k) % 16))) (fI (z1 ((T - 16 + k) % 16)))) j → dV kp = smN (dV 0) (fun k => fMul (fI (z0 ((T - 16 + k) % 16))) (dV (fm ((T - 16 + k) % 16)))) j → dV kq = smN (dV 0) (fun k => fMul (fI (z1 ((T - 16 + k) % 16))) (dV (fm ((T - 16 + k) % 16)))) j → ∀ (H : Heap) (locs : List Loc) (d0 : Drawn), s.drawn.sameBut d0 lw_cs → va_P G vwCl [(om, .inr (4, [.int 0, .int (nI T), .ref (am 0), .ref (am 1), .double mi, .ref (am 2), .ref (am 3), .ref (am 4), .int fi, .ref (am 5), .ref (am 6), .ref (am 7), .ref (am 8), .ref (am 9), .ref (am 10), .ref (am 11), .ref (am 12), .ref (am 13), .ref (am 14), .ref (am 15), .ref (am 16), .ref (am 17), .ref (am 18), .ref (am 19)])), ((am 2), aI q 16 z0), ((am 3), aI q 16 z1), ((am 4), aD q 16 fm)] H → va_D A [(om, .inr (4, [.int 0, .int (nI T), .ref (am 0), .ref (am 1), .double mi, .ref (am 2), .ref (am 3), .ref (am 4), .int fi, .ref (am 5), .ref (am 6), .ref (am 7), .ref (am 8), .ref (am 9), .ref (am 10), .ref (am 11), .ref (am 12), .ref (am 13), .ref (am 14), .ref (am 15), .ref (am 16), .ref (am 17), .ref (am 18), .ref (am 19)])), ((am 2), aI q 16 z0), ((am 3), aI q 16 z1), ((am 4), aD q 16 fm)] → va_S A s.heap H locs → ∀ (ls : Array Slot), lv_has ls 18 [(0, .ref om), (1, .int tp), (2, .int (nI (T - (T - 16)))), (3, .double ka), (5, .double kb), (7, .double kc), (9, .double kp), (11, .double kq), (13, .int (nI (T - 16 + j)))] → W p l e (headSpec wsX4_batch ({ frames := 1, cells := 0, slots := 0, locals := 22 } : Jvm.Room)).room (s.setDrawn d0) m #[.ref om, .int tp] below meth c H locs 0 0 (MQD lw_cs below (va_Qd (fun (r : UInt64) (_ : Unit) => dV r = sBatch tp T (fun k => fI (z0 k)) (fun k => fI (z1 k)) (fun k => dV (fm k))) (fun (_ : Unit) t => EndA G A [(om, .inr (4, [.int 0, .int (nI T), .ref (am 0), .ref (am 1), .double mi, .ref (am 2), .ref (am 3), .ref (am 4), .int fi, .ref (am 5), .ref (am 6), .ref (am 7), .ref (am 8), .ref (am 9), .ref (am 10), .ref (am 11), .ref (am 12), .ref (am 13), .ref (am 14), .ref (am 15), .ref (am 16), .ref (am 17), .ref (am 18), .ref (am 19)])), ((am 2), aI q 16 z0), ((am 3), aI q 16 z1), ((am 4), aD q 16 fm)] t) A) #[.ref om, .int tp] s 0 0 A) (F0 m 64 ls []) := by
    intro k
    induction k with
    | zero =>
      intro j ka kb kc kp kq hj hka hkb hkc hkp hkq H locs d0 hd0 hP hD hS ls hl
      refine lv_iload hx hb dX4_batch_64 (lv_at hl 8 rfl) ?_
      refine lv_aload_n hx hb dX4_batch_66 rfl (lv_at hl 0 rfl) ?_
      refine va_get (D := G) (ci := 4) (v := .int (nI T)) (C := RX4) (T := TX4) (N := 24) hx hb (dr_words hts d0) in_X4_batch_X4 hown hK hP 0 rfl rfl 1 (by decide) (dr_words hts d0 (.fieldLink RX4 130 "EchoBenchModel" "samples" "I") (by decide +kernel)) (fun _ h9 => h9) rfl dX4_batch_67 ?_
      refine lv_icmp_ge (tgt := 169) hx hb dX4_batch_70 (by decide) (fun _ => ?_) (fun h => absurd (nI_le (by omega) (by omega)) h)
      have ej : j = T - (T - 16) := by omega
      subst ej
      refine lv_dload_n hx hb dX4_batch_169 rfl (lv_at hl 3 rfl) ?_
      refine lv_dload hx hb dX4_batch_170 (lv_at hl 5 rfl) ?_
      refine lv_dmul_any hd0 lw_bits hx hb dX4_batch_172 (fun r8 dr8 ar8 hr8 => ?_)
      have er8 := dV_mul ar8
      refine lv_dload hx hb dX4_batch_173 (lv_at hl 4 rfl) ?_
      refine lv_dload hx hb dX4_batch_175 (lv_at hl 4 rfl) ?_
      refine lv_dmul_any hr8 lw_bits hx hb dX4_batch_177 (fun r9 dr9 ar9 hr9 => ?_)
      have er9 := dV_mul ar9
      refine lv_dsub_any hr9 lw_bits hx hb dX4_batch_178 (fun r10 dr10 ar10 hr10 => ?_)
      have er10 := dV_sub ar10
      refine lv_dstore (lv' := [(13, .double r10), (0, .ref om), (1, .int tp), (2, .int (nI (T - (T - 16)))), (3, .double ka), (5, .double kb), (7, .double kc), (9, .double kp), (11, .double kq)]) hx hb dX4_batch_179 hl (by decide) rfl (fun ls hl => ?_)
      refine lv_dload hx hb dX4_batch_181 (lv_at hl 0 rfl) ?_
      have hka : dV ka = sSum T (fun k => fI (z0 k)) (fun k => fI (z0 k)) := hka
      have hkb : dV kb = sSum T (fun k => fI (z0 k)) (fun k => fI (z1 k)) := hkb
      have hkc : dV kc = sSum T (fun k => fI (z1 k)) (fun k => fI (z1 k)) := hkc
      have hkp : dV kp = sSum T (fun k => fI (z0 k)) (fun k => dV (fm k)) := hkp
      have hkq : dV kq = sSum T (fun k => fI (z1 k)) (fun k => dV (fm k)) := hkq
      have hz : dV r10 = sBz T (fun k => fI (z0 k)) (fun k => fI (z1 k)) := by rw [er10, er9, er8, hka, hkb, hkc]; rfl
      have hPc := hP.sub (ws' := []) [] rfl
      have hDc := hD.sub (ws' := []) [] (by decide) rfl
      have hFc := va_free (wc := []) hD hS hA [] rfl
      refine va_calldD hr10 (va_runS_D (As := [.double r10]) (rest := []) ⟨hx, hb, hml, hown, (dr_words hts dr10)⟩ (m_X4_size l G q H.size r10) (va_cwS 1 (dr_words hts dr10) gX4_batch_X4_size rfl rfl rfl (by decide +kernel) ⟨Nat.le_of_ble_eq_true rfl, Nat.le_of_ble_eq_true rfl⟩) ⟨preW_blind, preW_start (s := s.setDrawn dr10) hPc hK hDc (hNF.drawn dr10)⟩ rfl rfl hl.1 rfl (lv_room (Nat.le_of_ble_eq_true rfl)) dX4_batch_183 ⟨(Nat.zero_le _), (Nat.zero_le _)⟩) hS (fun q _ h => hFc q h) hFc (fun we u9 t9 H1 locs ht9 hv9 hw hB9 hz9 hk9 hS du11 hu11 => ?_)
      obtain ⟨⟩ := u9
      obtain ⟨hP1, hD1⟩ := hB9
      rw [ht9] at hP1
      obtain ⟨hP, hD⟩ := va_join (wr := [(om, .inr (4, [.int 0, .int (nI T), .ref (am 0), .ref (am 1), .double mi, .ref (am 2), .ref (am 3), .ref (am 4), .int fi, .ref (am 5), .ref (am 6), .ref (am 7), .ref (am 8), .ref (am 9), .ref (am 10), .ref (am 11), .ref (am 12), .ref (am 13), .ref (am 14), .ref (am 15), .ref (am 16), .ref (am 17), .ref (am 18), .ref (am 19)])), ((am 2), aI q 16 z0), ((am 3), aI q 16 z1), ((am 4), aD q 16 fm)]) (w1 := []) hP hD [] [0, 1, 2, 3] rfl rfl (by decide) (by decide) hk9 hFc hP1 hD1
      generalize H1 = H at hP hS ⊢
      have hP : va_P G vwCl [(om, .inr (4, [.int 0, .int (nI T), .ref (am 0), .ref (am 1), .double mi, .ref (am 2), .ref (am 3), .ref (am 4), .int fi, .ref (am 5), .ref (am 6), .ref (am 7), .ref (am 8), .ref (am 9), .ref (am 10), .ref (am 11), .ref (am 12), .ref (am 13), .ref (am 14), .ref (am 15), .ref (am 16), .ref (am 17), .ref (am 18), .ref (am 19)])), ((am 2), aI q 16 z0), ((am 3), aI q 16 z1), ((am 4), aD q 16 fm)] H := hP
      have hD : va_D A [(om, .inr (4, [.int 0, .int (nI T), .ref (am 0), .ref (am 1), .double mi, .ref (am 2), .ref (am 3), .ref (am 4), .int fi, .ref (am 5), .ref (am 6), .ref (am 7), .ref (am 8), .ref (am 9), .ref (am 10), .ref (am 11), .ref (am 12), .ref (am 13), .ref (am 14), .ref (am 15), .ref (am 16), .ref (am 17), .ref (am 18), .ref (am 19)])), ((am 2), aI q 16 z0), ((am 3), aI q 16 z1), ((am 4), aD q 16 fm)] := hD
      have hwe : dV we = fAbs (sBz T (fun k => fI (z0 k)) (fun k => fI (z1 k))) := by rw [← hz, fAbs_sSz]; exact hw
      refine lv_ldc2d hx hb hown (dr_words hts du11 (.constantDouble RX4 147 4602678819172646912) (by decide +kernel)) dX4_batch_186 ?_
      refine lv_dcmp hx hb dX4_batch_189 ?_
      refine lv_if_ge (tgt := 197) hx hb dX4_batch_190 (by decide) (fun c1 => ?_) (fun c1 => ?_)
      · skip
        rw [cg_ge, dcmp_fO, hwe] at c1
        refine lv_iload_n hx hb dX4_batch_197 rfl (lv_at hl 2 rfl) ?_
        refine lv_if_ne (tgt := 218) hx hb dX4_batch_198 (by decide) (fun c2 => ?_) (fun c2 => ?_)
        · skip
          refine lv_dload hx hb dX4_batch_218 (lv_at hl 8 rfl) ?_
          refine lv_dload_n hx hb dX4_batch_220 rfl (lv_at hl 4 rfl) ?_
          refine lv_dmul_any hu11 lw_bits hx hb dX4_batch_221 (fun r12 dr12 ar12 hr12 => ?_)
          have er12 := dV_mul ar12
          refine lv_dload hx hb dX4_batch_222 (lv_at hl 7 rfl) ?_
          refine lv_dload hx hb dX4_batch_224 (lv_at hl 5 rfl) ?_
          refine lv_dmul_any hr12 lw_bits hx hb dX4_batch_226 (fun r13 dr13 ar13 hr13 => ?_)
          have er13 := dV_mul ar13
          refine lv_dsub_any hr13 lw_bits hx hb dX4_batch_227 (fun r14 dr14 ar14 hr14 => ?_)
          have er14 := dV_sub ar14
          refine lv_dload hx hb dX4_batch_228 (lv_at hl 0 rfl) ?_
          refine lv_ddiv_any hr14 lw_bits hx hb dX4_batch_230 (fun r15 dr15 ar15 hr15 => ?_)
          have er15 := dV_div ar15
          have hP9 := hP
          have hD9 := hD
          refine W.endD hr15 ?_
          exact W.dret (v := r15) hx hb hr (fun t ht hW => ⟨⟨r15, (), rfl, by dsimp only; unfold sBatch; rw [if_neg c1, if_neg c2, er15, er14, er13, er12, hz, hka, hkb, hkp, hkq], by rw [ht]; exact hP9, hD9⟩, hS.F ht⟩) hS.2.2 dX4_batch_231
        · skip
          refine lv_dload hx hb dX4_batch_201 (lv_at hl 7 rfl) ?_
          refine lv_dload hx hb dX4_batch_203 (lv_at hl 6 rfl) ?_
          refine lv_dmul_any hu11 lw_bits hx hb dX4_batch_205 (fun r16 dr16 ar16 hr16 => ?_)
          have er16 := dV_mul ar16
          refine lv_dload hx hb dX4_batch_206 (lv_at hl 8 rfl) ?_
          refine lv_dload hx hb dX4_batch_208 (lv_at hl 5 rfl) ?_
          refine lv_dmul_any hr16 lw_bits hx hb dX4_batch_210 (fun r17 dr17 ar17 hr17 => ?_)
          have er17 := dV_mul ar17
          refine lv_dsub_any hr17 lw_bits hx hb dX4_batch_211 (fun r18 dr18 ar18 hr18 => ?_)
          have er18 := dV_sub ar18
          refine lv_dload hx hb dX4_batch_212 (lv_at hl 0 rfl) ?_
          refine lv_ddiv_any hr18 lw_bits hx hb dX4_batch_214 (fun r19 dr19 ar19 hr19 => ?_)
          have er19 := dV_div ar19
          refine lv_goto (tgt := 231) hx hb dX4_batch_215 (by decide) ?_
          have hP9 := hP
          have hD9 := hD
          refine W.endD hr19 ?_
          exact W.dret (v := r19) hx hb hr (fun t ht hW => ⟨⟨r19, (), rfl, by dsimp only; unfold sBatch; rw [if_neg c1, if_pos c2, er19, er18, er17, er16, hz, hkb, hkc, hkp, hkq], by rw [ht]; exact hP9, hD9⟩, hS.F ht⟩) hS.2.2 dX4_batch_231
      · skip
        rw [cg_ge, dcmp_fO, hwe, Classical.not_not] at c1
        refine lv_dc0 hx hb dX4_batch_193 ?_
        refine lv_goto (tgt := 231) hx hb dX4_batch_194 (by decide) ?_
        have hP9 := hP
        have hD9 := hD
        refine W.endD hu11 ?_
        exact W.dret (v := 0) hx hb hr (fun t ht hW => ⟨⟨0, (), rfl, by dsimp only; unfold sBatch; rw [if_pos c1], by rw [ht]; exact hP9, hD9⟩, hS.F ht⟩) hS.2.2 dX4_batch_231
    | succ k ih =>
      intro j ka kb kc kp kq hj hka hkb hkc hkp hkq H locs d0 hd0 hP hD hS ls hl
      refine lv_iload hx hb dX4_batch_64 (lv_at hl 8 rfl) ?_
      refine lv_aload_n hx hb dX4_batch_66 rfl (lv_at hl 0 rfl) ?_
      refine va_get (D := G) (ci := 4) (v := .int (nI T)) (C := RX4) (T := TX4) (N := 24) hx hb (dr_words hts d0) in_X4_batch_X4 hown hK hP 0 rfl rfl 1 (by decide) (dr_words hts d0 (.fieldLink RX4 130 "EchoBenchModel" "samples" "I") (by decide +kernel)) (fun _ h9 => h9) rfl dX4_batch_67 ?_
      refine lv_icmp_ge (tgt := 169) hx hb dX4_batch_70 (by decide) (fun h => absurd h (nI_ge (by omega) (by omega))) (fun _ => ?_)
      refine lv_aload_n hx hb dX4_batch_73 rfl (lv_at hl 0 rfl) ?_
      refine va_get (D := G) (ci := 4) (v := .ref (am 2)) (C := RX4) (T := TX4) (N := 24) hx hb (dr_words hts d0) in_X4_batch_X4 hown hK hP 0 rfl rfl 5 (by decide) (dr_words hts d0 (.fieldLink RX4 16 "EchoBenchModel" "was0" "[I") (by decide +kernel)) (fun _ h9 => h9) rfl dX4_batch_74 ?_
      refine lv_iload hx hb dX4_batch_77 (lv_at hl 8 rfl) ?_
      refine lv_bipush (v := 16) hx hb dX4_batch_79 (by decide) ?_
      refine lv_irem hx hb dX4_batch_81 (by decide) ?_
      refine lv_topi (fun x21 ex21 => ?_)
      obtain rfl : x21 = (nI ((T - 16 + j) % 16)) := ex21.trans (nI_rem16 (by omega))
      refine va_ialdJ (s := s.setDrawn d0) hx hb hK hP 1 0 rfl rfl (j := ((T - 16 + j) % 16)) rfl (Nat.mod_lt _ (by decide)) (by decide) dX4_batch_82 ?_
      refine lv_i2d hx hb dX4_batch_83 ?_
      refine lv_dstore (lv' := [(14, .double (FP.i2d (z0 ((T - 16 + j) % 16)))), (0, .ref om), (1, .int tp), (2, .int (nI (T - (T - 16)))), (3, .double ka), (5, .double kb), (7, .double kc), (9, .double kp), (11, .double kq), (13, .int (nI (T - 16 + j)))]) hx hb dX4_batch_84 hl (by decide) rfl (fun ls hl => ?_)
      refine lv_aload_n hx hb dX4_batch_86 rfl (lv_at hl 1 rfl) ?_
      refine va_get (D := G) (ci := 4) (v := .ref (am 3)) (C := RX4) (T := TX4) (N := 24) hx hb (dr_words hts d0) in_X4_batch_X4 hown hK hP 0 rfl rfl 6 (by decide) (dr_words hts d0 (.fieldLink RX4 19 "EchoBenchModel" "was1" "[I") (by decide +kernel)) (fun _ h9 => h9) rfl dX4_batch_87 ?_
      refine lv_iload hx hb dX4_batch_90 (lv_at hl 9 rfl) ?_
      refine lv_bipush (v := 16) hx hb dX4_batch_92 (by decide) ?_
      refine lv_irem hx hb dX4_batch_94 (by decide) ?_
      refine lv_topi (fun x22 ex22 => ?_)
      obtain rfl : x22 = (nI ((T - 16 + j) % 16)) := ex22.trans (nI_rem16 (by omega))
      refine va_ialdJ (s := s.setDrawn d0) hx hb hK hP 2 0 rfl rfl (j := ((T - 16 + j) % 16)) rfl (Nat.mod_lt _ (by decide)) (by decide) dX4_batch_95 ?_
      refine lv_i2d hx hb dX4_batch_96 ?_
      refine lv_dstore (lv' := [(16, .double (FP.i2d (z1 ((T - 16 + j) % 16)))), (14, .double (FP.i2d (z0 ((T - 16 + j) % 16)))), (0, .ref om), (1, .int tp), (2, .int (nI (T - (T - 16)))), (3, .double ka), (5, .double kb), (7, .double kc), (9, .double kp), (11, .double kq), (13, .int (nI (T - 16 + j)))]) hx hb dX4_batch_97 hl (by decide) rfl (fun ls hl => ?_)
      refine lv_dload_n hx hb dX4_batch_99 rfl (lv_at hl 5 rfl) ?_
      refine lv_dload hx hb dX4_batch_100 (lv_at hl 1 rfl) ?_
      refine lv_dload hx hb dX4_batch_102 (lv_at hl 1 rfl) ?_
      refine lv_dmul_any hd0 lw_bits hx hb dX4_batch_104 (fun r23 dr23 ar23 hr23 => ?_)
      have er23 := dV_mul ar23
      refine lv_dadd_any hr23 lw_bits hx hb dX4_batch_105 (fun r24 dr24 ar24 hr24 => ?_)
      have er24 := dV_add ar24
      refine lv_dstore_n (lv' := [(3, .double r24), (16, .double (FP.i2d (z1 ((T - 16 + j) % 16)))), (14, .double (FP.i2d (z0 ((T - 16 + j) % 16)))), (0, .ref om), (1, .int tp), (2, .int (nI (T - (T - 16)))), (5, .double kb), (7, .double kc), (9, .double kp), (11, .double kq), (13, .int (nI (T - 16 + j)))]) hx hb dX4_batch_106 rfl hl (by decide) rfl (fun ls hl => ?_)
      refine lv_dload hx hb dX4_batch_107 (lv_at hl 6 rfl) ?_
      refine lv_dload hx hb dX4_batch_109 (lv_at hl 2 rfl) ?_
      refine lv_dload hx hb dX4_batch_111 (lv_at hl 1 rfl) ?_
      refine lv_dmul_any hr24 lw_bits hx hb dX4_batch_113 (fun r25 dr25 ar25 hr25 => ?_)
      have er25 := dV_mul ar25
      refine lv_dadd_any hr25 lw_bits hx hb dX4_batch_114 (fun r26 dr26 ar26 hr26 => ?_)
      have er26 := dV_add ar26
      refine lv_dstore (lv' := [(5, .double r26), (3, .double r24), (16, .double (FP.i2d (z1 ((T - 16 + j) % 16)))), (14, .double (FP.i2d (z0 ((T - 16 + j) % 16)))), (0, .ref om), (1, .int tp), (2, .int (nI (T - (T - 16)))), (7, .double kc), (9, .double kp), (11, .double kq), (13, .int (nI (T - 16 + j)))]) hx hb dX4_batch_115 hl (by decide) rfl (fun ls hl => ?_)
      refine lv_dload hx hb dX4_batch_117 (lv_at hl 7 rfl) ?_
      refine lv_dload hx hb dX4_batch_119 (lv_at hl 2 rfl) ?_
      refine lv_dload hx hb dX4_batch_121 (lv_at hl 2 rfl) ?_
      refine lv_dmul_any hr26 lw_bits hx hb dX4_batch_123 (fun r27 dr27 ar27 hr27 => ?_)
      have er27 := dV_mul ar27
      refine lv_dadd_any hr27 lw_bits hx hb dX4_batch_124 (fun r28 dr28 ar28 hr28 => ?_)
      have er28 := dV_add ar28
      refine lv_dstore (lv' := [(7, .double r28), (5, .double r26), (3, .double r24), (16, .double (FP.i2d (z1 ((T - 16 + j) % 16)))), (14, .double (FP.i2d (z0 ((T - 16 + j) % 16)))), (0, .ref om), (1, .int tp), (2, .int (nI (T - (T - 16)))), (9, .double kp), (11, .double kq), (13, .int (nI (T - 16 + j)))]) hx hb dX4_batch_125 hl (by decide) rfl (fun ls hl => ?_)
      refine lv_dload hx hb dX4_batch_127 (lv_at hl 8 rfl) ?_
      refine lv_dload hx hb dX4_batch_129 (lv_at hl 4 rfl) ?_
      refine lv_aload_n hx hb dX4_batch_131 rfl (lv_at hl 5 rfl) ?_
      refine va_get (D := G) (ci := 4) (v := .ref (am 4)) (C := RX4) (T := TX4) (N := 24) hx hb (dr_words hts dr28) in_X4_batch_X4 hown hK hP 0 rfl rfl 7 (by decide) (dr_words hts dr28 (.fieldLink RX4 22 "EchoBenchModel" "heard" "[D") (by decide +kernel)) (fun _ h9 => h9) rfl dX4_batch_132 ?_
      refine lv_iload hx hb dX4_batch_135 (lv_at hl 10 rfl) ?_
      refine lv_bipush (v := 16) hx hb dX4_batch_137 (by decide) ?_
      refine lv_irem hx hb dX4_batch_139 (by decide) ?_
      refine lv_topi (fun x29 ex29 => ?_)
      obtain rfl : x29 = (nI ((T - 16 + j) % 16)) := ex29.trans (nI_rem16 (by omega))
      refine va_daldJ (s := s.setDrawn dr28) hx hb hK hP 3 1 rfl rfl (j := ((T - 16 + j) % 16)) rfl (Nat.mod_lt _ (by decide)) (by decide) dX4_batch_140 ?_
      refine lv_dmul_any hr28 lw_bits hx hb dX4_batch_141 (fun r30 dr30 ar30 hr30 => ?_)
      have er30 := dV_mul ar30
      refine lv_dadd_any hr30 lw_bits hx hb dX4_batch_142 (fun r31 dr31 ar31 hr31 => ?_)
      have er31 := dV_add ar31
      refine lv_dstore (lv' := [(9, .double r31), (7, .double r28), (5, .double r26), (3, .double r24), (16, .double (FP.i2d (z1 ((T - 16 + j) % 16)))), (14, .double (FP.i2d (z0 ((T - 16 + j) % 16)))), (0, .ref om), (1, .int tp), (2, .int (nI (T - (T - 16)))), (11, .double kq), (13, .int (nI (T - 16 + j)))]) hx hb dX4_batch_143 hl (by decide) rfl (fun ls hl => ?_)
      refine lv_dload hx hb dX4_batch_145 (lv_at hl 9 rfl) ?_
      refine lv_dload hx hb dX4_batch_147 (lv_at hl 4 rfl) ?_
      refine lv_aload_n hx hb dX4_batch_149 rfl (lv_at hl 6 rfl) ?_
      refine va_get (D := G) (ci := 4) (v := .ref (am 4)) (C := RX4) (T := TX4) (N := 24) hx hb (dr_words hts dr31) in_X4_batch_X4 hown hK hP 0 rfl rfl 7 (by decide) (dr_words hts dr31 (.fieldLink RX4 22 "EchoBenchModel" "heard" "[D") (by decide +kernel)) (fun _ h9 => h9) rfl dX4_batch_150 ?_
      refine lv_iload hx hb dX4_batch_153 (lv_at hl 10 rfl) ?_
      refine lv_bipush (v := 16) hx hb dX4_batch_155 (by decide) ?_
      refine lv_irem hx hb dX4_batch_157 (by decide) ?_
      refine lv_topi (fun x32 ex32 => ?_)
      obtain rfl : x32 = (nI ((T - 16 + j) % 16)) := ex32.trans (nI_rem16 (by omega))
      refine va_daldJ (s := s.setDrawn dr31) hx hb hK hP 3 1 rfl rfl (j := ((T - 16 + j) % 16)) rfl (Nat.mod_lt _ (by decide)) (by decide) dX4_batch_158 ?_
      refine lv_dmul_any hr31 lw_bits hx hb dX4_batch_159 (fun r33 dr33 ar33 hr33 => ?_)
      have er33 := dV_mul ar33
      refine lv_dadd_any hr33 lw_bits hx hb dX4_batch_160 (fun r34 dr34 ar34 hr34 => ?_)
      have er34 := dV_add ar34
      refine lv_dstore (lv' := [(11, .double r34), (9, .double r31), (7, .double r28), (5, .double r26), (3, .double r24), (16, .double (FP.i2d (z1 ((T - 16 + j) % 16)))), (14, .double (FP.i2d (z0 ((T - 16 + j) % 16)))), (0, .ref om), (1, .int tp), (2, .int (nI (T - (T - 16)))), (13, .int (nI (T - 16 + j)))]) hx hb dX4_batch_161 hl (by decide) rfl (fun ls hl => ?_)
      refine lv_iinc (v := nI (T - 16 + (j + 1))) (lv' := [(13, .int (nI (T - 16 + (j + 1)))), (11, .double r34), (9, .double r31), (7, .double r28), (5, .double r26), (3, .double r24), (16, .double (FP.i2d (z1 ((T - 16 + j) % 16)))), (14, .double (FP.i2d (z0 ((T - 16 + j) % 16)))), (0, .ref om), (1, .int tp), (2, .int (nI (T - (T - 16))))]) hx hb dX4_batch_163 hl (k := 10) rfl (nI_succ (T - 16 + j)).symm (by decide) rfl (fun ls hl => ?_)
      refine lv_goto (tgt := 64) hx hb dX4_batch_166 (by decide) ?_
      exact ih (j + 1) r24 r26 r28 r31 r34 (by omega) (by rw [er24, er23, hka]; rfl) (by rw [er26, er25, hkb]; rfl) (by rw [er28, er27, hkc]; rfl) (by rw [er31, er30, hkp]; rfl) (by rw [er34, er33, hkq]; rfl) _ _ _ hr34 (hP.sub [0, 1, 2, 3] rfl) (hD.sub [0, 1, 2, 3] (by decide) rfl) hS ls (lv_sub hl [8, 9, 10, 5, 4, 3, 2, 1, 0] rfl)
  by_cases t1 : T < 16
  · skip
    refine lv_icmp_ge (tgt := 39) hx hb dX4_batch_29 (by decide) (fun h => absurd h (nI_ge (b := 16) t1 (by decide))) (fun _ => ?_)
    refine lv_aload_n hx hb dX4_batch_32 rfl (lv_at hl 0 rfl) ?_
    refine va_get (D := G) (ci := 4) (v := .int (nI T)) (C := RX4) (T := TX4) (N := 24) hx hb (dr_words hts s.drawn) in_X4_batch_X4 hown hK hP 3 rfl rfl 1 (by decide) (dr_words hts s.drawn (.fieldLink RX4 130 "EchoBenchModel" "samples" "I") (by decide +kernel)) (fun _ h9 => h9) rfl dX4_batch_33 ?_
    refine lv_goto (tgt := 41) hx hb dX4_batch_36 (by decide) ?_
    have e9 : nI T = (nI (T - (T - 16))) := by congr 1; omega
    refine lv_topi (fun x99 ex99 => ?_)
    obtain rfl : x99 = (nI (T - (T - 16))) := ex99.trans e9
    refine lv_istore_n (lv' := [(2, .int (nI (T - (T - 16)))), (0, .ref om), (1, .int tp)]) hx hb dX4_batch_41 rfl hl (by decide) rfl (fun ls hl => ?_)
    refine lv_dc0 hx hb dX4_batch_42 ?_
    refine lv_dstore_n (lv' := [(3, .double 0), (2, .int (nI (T - (T - 16)))), (0, .ref om), (1, .int tp)]) hx hb dX4_batch_43 rfl hl (by decide) rfl (fun ls hl => ?_)
    refine lv_dc0 hx hb dX4_batch_44 ?_
    refine lv_dstore (lv' := [(5, .double 0), (3, .double 0), (2, .int (nI (T - (T - 16)))), (0, .ref om), (1, .int tp)]) hx hb dX4_batch_45 hl (by decide) rfl (fun ls hl => ?_)
    refine lv_dc0 hx hb dX4_batch_47 ?_
    refine lv_dstore (lv' := [(7, .double 0), (5, .double 0), (3, .double 0), (2, .int (nI (T - (T - 16)))), (0, .ref om), (1, .int tp)]) hx hb dX4_batch_48 hl (by decide) rfl (fun ls hl => ?_)
    refine lv_dc0 hx hb dX4_batch_50 ?_
    refine lv_dstore (lv' := [(9, .double 0), (7, .double 0), (5, .double 0), (3, .double 0), (2, .int (nI (T - (T - 16)))), (0, .ref om), (1, .int tp)]) hx hb dX4_batch_51 hl (by decide) rfl (fun ls hl => ?_)
    refine lv_dc0 hx hb dX4_batch_53 ?_
    refine lv_dstore (lv' := [(11, .double 0), (9, .double 0), (7, .double 0), (5, .double 0), (3, .double 0), (2, .int (nI (T - (T - 16)))), (0, .ref om), (1, .int tp)]) hx hb dX4_batch_54 hl (by decide) rfl (fun ls hl => ?_)
    refine lv_aload_n hx hb dX4_batch_56 rfl (lv_at hl 6 rfl) ?_
    refine va_get (D := G) (ci := 4) (v := .int (nI T)) (C := RX4) (T := TX4) (N := 24) hx hb (dr_words hts s.drawn) in_X4_batch_X4 hown hK hP 3 rfl rfl 1 (by decide) (dr_words hts s.drawn (.fieldLink RX4 130 "EchoBenchModel" "samples" "I") (by decide +kernel)) (fun _ h9 => h9) rfl dX4_batch_57 ?_
    refine lv_iload_n hx hb dX4_batch_60 rfl (lv_at hl 5 rfl) ?_
    refine lv_isub hx hb dX4_batch_61 ?_
    refine lv_topi (fun x36 ex36 => ?_)
    refine lv_istore (lv' := [(13, .int x36), (11, .double 0), (9, .double 0), (7, .double 0), (5, .double 0), (3, .double 0), (2, .int (nI (T - (T - 16)))), (0, .ref om), (1, .int tp)]) hx hb dX4_batch_62 hl (by decide) rfl (fun ls hl => ?_)
    obtain rfl : x36 = (nI (T - 16 + 0)) := (ex36.trans (by rw [nI_sub (by omega) (by omega)]; congr 1; omega))
    exact LOOP (T - (T - 16)) 0 0 0 0 0 0 (by omega) rfl rfl rfl rfl rfl _ _ _ hd0 (hP.sub [3, 0, 1, 2] rfl) (hD.sub [3, 0, 1, 2] (by decide) rfl) hS ls (lv_sub hl [7, 8, 6, 5, 4, 3, 2, 1, 0] rfl)
  refine lv_icmp_ge (tgt := 39) hx hb dX4_batch_29 (by decide) (fun _ => ?_) (fun h => absurd (nI_le (a := 16) (by omega) (by omega)) h)
  refine lv_bipush (v := 16) hx hb dX4_batch_39 (by decide) ?_
  have e9 : (16 : Int32) = (nI (T - (T - 16))) := by rw [show T - (T - 16) = 16 by omega]; rfl
  refine lv_topi (fun x99 ex99 => ?_)
  obtain rfl : x99 = (nI (T - (T - 16))) := ex99.trans e9
  refine lv_istore_n (lv' := [(2, .int (nI (T - (T - 16)))), (0, .ref om), (1, .int tp)]) hx hb dX4_batch_41 rfl hl (by decide) rfl (fun ls hl => ?_)
  refine lv_dc0 hx hb dX4_batch_42 ?_
  refine lv_dstore_n (lv' := [(3, .double 0), (2, .int (nI (T - (T - 16)))), (0, .ref om), (1, .int tp)]) hx hb dX4_batch_43 rfl hl (by decide) rfl (fun ls hl => ?_)
  refine lv_dc0 hx hb dX4_batch_44 ?_
  refine lv_dstore (lv' := [(5, .double 0), (3, .double 0), (2, .int (nI (T - (T - 16)))), (0, .ref om), (1, .int tp)]) hx hb dX4_batch_45 hl (by decide) rfl (fun ls hl => ?_)
  refine lv_dc0 hx hb dX4_batch_47 ?_
  refine lv_dstore (lv' := [(7, .double 0), (5, .double 0), (3, .double 0), (2, .int (nI (T - (T - 16)))), (0, .ref om), (1, .int tp)]) hx hb dX4_batch_48 hl (by decide) rfl (fun ls hl => ?_)
  refine lv_dc0 hx hb dX4_batch_50 ?_
  refine lv_dstore (lv' := [(9, .double 0), (7, .double 0), (5, .double 0), (3, .double 0), (2, .int (nI (T - (T - 16)))), (0, .ref om), (1, .int tp)]) hx hb dX4_batch_51 hl (by decide) rfl (fun ls hl => ?_)
  refine lv_dc0 hx hb dX4_batch_53 ?_
  refine lv_dstore (lv' := [(11, .double 0), (9, .double 0), (7, .double 0), (5, .double 0), (3, .double 0), (2, .int (nI (T - (T - 16)))), (0, .ref om), (1, .int tp)]) hx hb dX4_batch_54 hl (by decide) rfl (fun ls hl => ?_)
  refine lv_aload_n hx hb dX4_batch_56 rfl (lv_at hl 6 rfl) ?_
  refine va_get (D := G) (ci := 4) (v := .int (nI T)) (C := RX4) (T := TX4) (N := 24) hx hb (dr_words hts s.drawn) in_X4_batch_X4 hown hK hP 3 rfl rfl 1 (by decide) (dr_words hts s.drawn (.fieldLink RX4 130 "EchoBenchModel" "samples" "I") (by decide +kernel)) (fun _ h9 => h9) rfl dX4_batch_57 ?_
  refine lv_iload_n hx hb dX4_batch_60 rfl (lv_at hl 5 rfl) ?_
  refine lv_isub hx hb dX4_batch_61 ?_
  refine lv_topi (fun x38 ex38 => ?_)
  refine lv_istore (lv' := [(13, .int x38), (11, .double 0), (9, .double 0), (7, .double 0), (5, .double 0), (3, .double 0), (2, .int (nI (T - (T - 16)))), (0, .ref om), (1, .int tp)]) hx hb dX4_batch_62 hl (by decide) rfl (fun ls hl => ?_)
  obtain rfl : x38 = (nI (T - 16 + 0)) := (ex38.trans (by rw [nI_sub (by omega) (by omega)]; congr 1; omega))
  exact LOOP (T - (T - 16)) 0 0 0 0 0 0 (by omega) rfl rfl rfl rfl rfl _ _ _ hd0 (hP.sub [3, 0, 1, 2] rfl) (hD.sub [3, 0, 1, 2] (by decide) rfl) hS ls (lv_sub hl [7, 8, 6, 5, 4, 3, 2, 1, 0] rfl)

theorem in_X4_filter_X4 : ∀ w ∈ wsX40, w ∈ wsX4_filter := by decide +kernel
set_option maxHeartbeats 4000000 in
set_option maxRecDepth 100000 in
/-- filter: where it goes well -/
theorem m_X4_filter (l : Launch) (G : va_G) (q : Nat → ClassId) (sz : Nat) (om : Nat) (am : Nat → Nat) (th sa : Int32) (mi : UInt64) (nf : Nat) (kd tn1 st : Int32) (Ki Ti Si : Nat → Int32) (Sq : Nat → UInt64) (hnf : nf < 6) (hk : 0 ≤ kd ∧ kd ≤ 3) (hn : 1 ≤ tn1 ∧ tn1 ≤ (if kd = 3 then 4 else 8)) (hs : stpB kd st) : Met l yX4_filter wsX4_filter ({ frames := 2, cells := 0, slots := 0, locals := 43 } : Jvm.Room) (PreW G q [.ref om, .int kd, .int tn1, .int st] [(om, .inr (4, [.int th, .int sa, .ref (am 0), .ref (am 1), .double mi, .ref (am 2), .ref (am 3), .ref (am 4), .int (nI nf), .ref (am 5), .ref (am 6), .ref (am 7), .ref (am 8), .ref (am 9), .ref (am 10), .ref (am 11), .ref (am 12), .ref (am 13), .ref (am 14), .ref (am 15), .ref (am 16), .ref (am 17), .ref (am 18), .ref (am 19)])), ((am 5), aI q 6 Ki), ((am 6), aI q 6 Ti), ((am 7), aI q 6 Si), ((am 18), aD q 96 Sq)] sz) (va_Qi (fun (r : Int32) (F : Nat → UInt64) => r = nI nf ∧ (∀ a c, a < 4 → c < 4 → F (16 * nf + 4 * a + c) = if a = c then H100 else 0) ∧ ∀ i, (i < 16 * nf ∨ 16 * nf + 16 ≤ i) → F i = Sq i) (fun (F : Nat → UInt64) t => EndA G (va_A [(om, .inr (4, [.int th, .int sa, .ref (am 0), .ref (am 1), .double mi, .ref (am 2), .ref (am 3), .ref (am 4), .int (nI nf), .ref (am 5), .ref (am 6), .ref (am 7), .ref (am 8), .ref (am 9), .ref (am 10), .ref (am 11), .ref (am 12), .ref (am 13), .ref (am 14), .ref (am 15), .ref (am 16), .ref (am 17), .ref (am 18), .ref (am 19)])), ((am 5), aI q 6 Ki), ((am 6), aI q 6 Ti), ((am 7), aI q 6 Si), ((am 18), aD q 96 Sq)] sz) [(om, .inr (4, [.int 0, .int sa, .ref (am 0), .ref (am 1), .double mi, .ref (am 2), .ref (am 3), .ref (am 4), .int (nI (nf + 1)), .ref (am 5), .ref (am 6), .ref (am 7), .ref (am 8), .ref (am 9), .ref (am 10), .ref (am 11), .ref (am 12), .ref (am 13), .ref (am 14), .ref (am 15), .ref (am 16), .ref (am 17), .ref (am 18), .ref (am 19)])), ((am 5), aI q 6 (vf_upd Ki nf kd)), ((am 6), aI q 6 (vf_upd Ti nf tn1)), ((am 7), aI q 6 (vf_upd Si nf st)), ((am 18), aD q 96 F)] t) (va_A [(om, .inr (4, [.int th, .int sa, .ref (am 0), .ref (am 1), .double mi, .ref (am 2), .ref (am 3), .ref (am 4), .int (nI nf), .ref (am 5), .ref (am 6), .ref (am 7), .ref (am 8), .ref (am 9), .ref (am 10), .ref (am 11), .ref (am 12), .ref (am 13), .ref (am 14), .ref (am 15), .ref (am 16), .ref (am 17), .ref (am 18), .ref (am 19)])), ((am 5), aI q 6 Ki), ((am 6), aI q 6 Ti), ((am 7), aI q 6 Si), ((am 18), aD q 96 Sq)] sz)) 0 0 (va_A [(om, .inr (4, [.int th, .int sa, .ref (am 0), .ref (am 1), .double mi, .ref (am 2), .ref (am 3), .ref (am 4), .int (nI nf), .ref (am 5), .ref (am 6), .ref (am 7), .ref (am 8), .ref (am 9), .ref (am 10), .ref (am 11), .ref (am 12), .ref (am 13), .ref (am 14), .ref (am 15), .ref (am 16), .ref (am 17), .ref (am 18), .ref (am 19)])), ((am 5), aI q 6 Ki), ((am 6), aI q 6 Ti), ((am 7), aI q 6 Si), ((am 18), aD q 96 Sq)] sz) := by
  refine Met.ofW (cc := cX4_filter) (maxL := 5) (ret := (some .int)) (by decide +kernel) rfl ?_
  intro p e s m args below meth c s₁ B hml hv
  obtain ⟨rfl, hsz, hP, hK, hD0, hNF⟩ := hv
  have hx := B.exec
  have hb := B.bytes
  have hr := B.returns
  have hts := atoms_spec (ws := wsX4_filter) B.pre
  have hown : s.vm.findClass RX4 = some m.cls := findClass_of_methodNamed B.named
  have hlocks := B.notSynchronized
  subst hsz
  have hD := hD0.self (sz := s.heap.size)
  generalize hAe : va_A [(om, .inr (4, [.int th, .int sa, .ref (am 0), .ref (am 1), .double mi, .ref (am 2), .ref (am 3), .ref (am 4), .int (nI nf), .ref (am 5), .ref (am 6), .ref (am 7), .ref (am 8), .ref (am 9), .ref (am 10), .ref (am 11), .ref (am 12), .ref (am 13), .ref (am 14), .ref (am 15), .ref (am 16), .ref (am 17), .ref (am 18), .ref (am 19)])), ((am 5), aI q 6 Ki), ((am 6), aI q 6 Ti), ((am 7), aI q 6 Si), ((am 18), aD q 96 Sq)] s.heap.size = A at hD ⊢
  have hA : ∀ q : Nat, s.heap.size ≤ q → A q := fun q h => by rw [← hAe]; exact Or.inr h
  have hS : va_S A s.heap s.heap [] := va_S.rf
  have hP : va_P G vwCl [(om, .inr (4, [.int th, .int sa, .ref (am 0), .ref (am 1), .double mi, .ref (am 2), .ref (am 3), .ref (am 4), .int (nI nf), .ref (am 5), .ref (am 6), .ref (am 7), .ref (am 8), .ref (am 9), .ref (am 10), .ref (am 11), .ref (am 12), .ref (am 13), .ref (am 14), .ref (am 15), .ref (am 16), .ref (am 17), .ref (am 18), .ref (am 19)])), ((am 5), aI q 6 Ki), ((am 6), aI q 6 Ti), ((am 7), aI q 6 Si), ((am 18), aD q 96 Sq)] s.heap := hP
  have hl := lv_entry ([.ref om, .int kd, .int tn1, .int st]) (n := 5) (Nat.le_of_ble_eq_true rfl)
  rw [lg_entry_eq]
  generalize (lg_sl ([.ref om, .int kd, .int tn1, .int st]) ++ List.replicate (5 - (lg_sl ([.ref om, .int kd, .int tn1, .int st])).length) Slot.unset).toArray = ls at hl ⊢
  have hl : lv_has ls 5 [(0, .ref om), (1, .int kd), (2, .int tn1), (3, .int st)] := hl
  refine lv_iload_n hx hb dX4_filter_0 rfl (lv_at hl 1 rfl) ?_
  refine lv_iconst (v := 0) hx hb dX4_filter_1 (by decide) ?_
  refine lv_iconst (v := 3) hx hb dX4_filter_2 (by decide) ?_
  have hPc := hP.sub (ws' := []) [] rfl
  have hDc := hD.sub (ws' := []) [] (by decide) rfl
  have hFc := va_free (wc := []) hD hS hA [] rfl
  refine va_calli (va_runS (As := [.int kd, .int 0, .int 3]) (rest := []) ⟨hx, hb, hml, hown, hts⟩ (m_X4_in l G q s.heap.size kd 0 3) (va_cwS 3 hts gX4_filter_X4_in rfl rfl rfl (by decide +kernel) ⟨Nat.le_of_ble_eq_true rfl, Nat.le_of_ble_eq_true rfl⟩) ⟨preW_blind, preW_start hPc hK hDc hNF⟩ rfl rfl hl.1 rfl (lv_room (Nat.le_of_ble_eq_true rfl)) dX4_filter_3 ⟨(Nat.zero_le _), (Nat.zero_le _)⟩) hS (fun q _ h => hFc q h) hFc (fun ri1 u9 t9 H1 locs ht9 hv9 hw hB9 hz9 hk9 hS => ?_)
  obtain ⟨⟩ := u9
  obtain ⟨hP1, hD1⟩ := hB9
  rw [ht9] at hP1
  obtain ⟨hP, hD⟩ := va_join (wr := [(om, .inr (4, [.int th, .int sa, .ref (am 0), .ref (am 1), .double mi, .ref (am 2), .ref (am 3), .ref (am 4), .int (nI nf), .ref (am 5), .ref (am 6), .ref (am 7), .ref (am 8), .ref (am 9), .ref (am 10), .ref (am 11), .ref (am 12), .ref (am 13), .ref (am 14), .ref (am 15), .ref (am 16), .ref (am 17), .ref (am 18), .ref (am 19)])), ((am 5), aI q 6 Ki), ((am 6), aI q 6 Ti), ((am 7), aI q 6 Si), ((am 18), aD q 96 Sq)]) (w1 := []) hP hD [] [0, 1, 2, 3, 4] rfl rfl (by decide) (by decide) hk9 hFc hP1 hD1
  generalize H1 = H at hP hS ⊢
  have hP : va_P G vwCl [(om, .inr (4, [.int th, .int sa, .ref (am 0), .ref (am 1), .double mi, .ref (am 2), .ref (am 3), .ref (am 4), .int (nI nf), .ref (am 5), .ref (am 6), .ref (am 7), .ref (am 8), .ref (am 9), .ref (am 10), .ref (am 11), .ref (am 12), .ref (am 13), .ref (am 14), .ref (am 15), .ref (am 16), .ref (am 17), .ref (am 18), .ref (am 19)])), ((am 5), aI q 6 Ki), ((am 6), aI q 6 Ti), ((am 7), aI q 6 Si), ((am 18), aD q 96 Sq)] H := hP
  have hD : va_D A [(om, .inr (4, [.int th, .int sa, .ref (am 0), .ref (am 1), .double mi, .ref (am 2), .ref (am 3), .ref (am 4), .int (nI nf), .ref (am 5), .ref (am 6), .ref (am 7), .ref (am 8), .ref (am 9), .ref (am 10), .ref (am 11), .ref (am 12), .ref (am 13), .ref (am 14), .ref (am 15), .ref (am 16), .ref (am 17), .ref (am 18), .ref (am 19)])), ((am 5), aI q 6 Ki), ((am 6), aI q 6 Ti), ((am 7), aI q 6 Si), ((am 18), aD q 96 Sq)] := hD
  obtain rfl : ri1 = 1 := hw.trans (if_pos hk)
  refine lv_if_eq (tgt := 40) hx hb dX4_filter_6 (by decide) (fun h => absurd h (by decide)) (fun _ => ?_)
  refine lv_iload_n hx hb dX4_filter_9 rfl (lv_at hl 2 rfl) ?_
  refine lv_iconst (v := 1) hx hb dX4_filter_10 (by decide) ?_
  refine lv_iload_n hx hb dX4_filter_11 rfl (lv_at hl 1 rfl) ?_
  refine lv_iconst (v := 3) hx hb dX4_filter_12 (by decide) ?_
  by_cases c3 : kd = 3
  · skip
    rw [if_pos c3] at hn
    refine lv_icmp_ne (tgt := 20) hx hb dX4_filter_13 (by decide) (fun h => absurd c3 h) (fun _ => ?_)
    refine lv_iconst (v := 4) hx hb dX4_filter_16 (by decide) ?_
    refine lv_goto (tgt := 22) hx hb dX4_filter_17 (by decide) ?_
    have hPc := hP.sub (ws' := []) [] rfl
    have hDc := hD.sub (ws' := []) [] (by decide) rfl
    have hFc := va_free (wc := []) hD hS hA [] rfl
    refine va_calli (va_runS (As := [.int tn1, .int 1, .int 4]) (rest := []) ⟨hx, hb, hml, hown, hts⟩ (m_X4_in l G q H.size tn1 1 4) (va_cwS 3 hts gX4_filter_X4_in rfl rfl rfl (by decide +kernel) ⟨Nat.le_of_ble_eq_true rfl, Nat.le_of_ble_eq_true rfl⟩) ⟨preW_blind, preW_start hPc hK hDc hNF⟩ rfl rfl hl.1 rfl (lv_room (Nat.le_of_ble_eq_true rfl)) dX4_filter_22 ⟨(Nat.zero_le _), (Nat.zero_le _)⟩) hS (fun q _ h => hFc q h) hFc (fun ri5 u9 t9 H1 locs ht9 hv9 hw hB9 hz9 hk9 hS => ?_)
    obtain ⟨⟩ := u9
    obtain ⟨hP1, hD1⟩ := hB9
    rw [ht9] at hP1
    obtain ⟨hP, hD⟩ := va_join (wr := [(om, .inr (4, [.int th, .int sa, .ref (am 0), .ref (am 1), .double mi, .ref (am 2), .ref (am 3), .ref (am 4), .int (nI nf), .ref (am 5), .ref (am 6), .ref (am 7), .ref (am 8), .ref (am 9), .ref (am 10), .ref (am 11), .ref (am 12), .ref (am 13), .ref (am 14), .ref (am 15), .ref (am 16), .ref (am 17), .ref (am 18), .ref (am 19)])), ((am 5), aI q 6 Ki), ((am 6), aI q 6 Ti), ((am 7), aI q 6 Si), ((am 18), aD q 96 Sq)]) (w1 := []) hP hD [] [0, 1, 2, 3, 4] rfl rfl (by decide) (by decide) hk9 hFc hP1 hD1
    generalize H1 = H at hP hS ⊢
    have hP : va_P G vwCl [(om, .inr (4, [.int th, .int sa, .ref (am 0), .ref (am 1), .double mi, .ref (am 2), .ref (am 3), .ref (am 4), .int (nI nf), .ref (am 5), .ref (am 6), .ref (am 7), .ref (am 8), .ref (am 9), .ref (am 10), .ref (am 11), .ref (am 12), .ref (am 13), .ref (am 14), .ref (am 15), .ref (am 16), .ref (am 17), .ref (am 18), .ref (am 19)])), ((am 5), aI q 6 Ki), ((am 6), aI q 6 Ti), ((am 7), aI q 6 Si), ((am 18), aD q 96 Sq)] H := hP
    have hD : va_D A [(om, .inr (4, [.int th, .int sa, .ref (am 0), .ref (am 1), .double mi, .ref (am 2), .ref (am 3), .ref (am 4), .int (nI nf), .ref (am 5), .ref (am 6), .ref (am 7), .ref (am 8), .ref (am 9), .ref (am 10), .ref (am 11), .ref (am 12), .ref (am 13), .ref (am 14), .ref (am 15), .ref (am 16), .ref (am 17), .ref (am 18), .ref (am 19)])), ((am 5), aI q 6 Ki), ((am 6), aI q 6 Ti), ((am 7), aI q 6 Si), ((am 18), aD q 96 Sq)] := hD
    obtain rfl : ri5 = 1 := hw.trans (if_pos hn)
    refine lv_if_eq (tgt := 40) hx hb dX4_filter_25 (by decide) (fun h => absurd h (by decide)) (fun _ => ?_)
    refine lv_iload_n hx hb dX4_filter_28 rfl (lv_at hl 1 rfl) ?_
    refine lv_iload_n hx hb dX4_filter_29 rfl (lv_at hl 3 rfl) ?_
    have hPc := hP.sub (ws' := []) [] rfl
    have hDc := hD.sub (ws' := []) [] (by decide) rfl
    have hFc := va_free (wc := []) hD hS hA [] rfl
    refine va_calli (va_runS (As := [.int kd, .int st]) (rest := []) ⟨hx, hb, hml, hown, hts⟩ (m_X4_isStep l G q H.size kd st) (va_cwS 2 hts gX4_filter_X4_isStep rfl rfl rfl (by decide +kernel) ⟨Nat.le_of_ble_eq_true rfl, Nat.le_of_ble_eq_true rfl⟩) ⟨preW_blind, preW_start hPc hK hDc hNF⟩ rfl rfl hl.1 rfl (lv_room (Nat.le_of_ble_eq_true rfl)) dX4_filter_30 ⟨(Nat.zero_le _), (Nat.zero_le _)⟩) hS (fun q _ h => hFc q h) hFc (fun rs8 u9 t9 H1 locs ht9 hv9 hw hB9 hz9 hk9 hS => ?_)
    obtain ⟨⟩ := u9
    obtain ⟨hP1, hD1⟩ := hB9
    rw [ht9] at hP1
    obtain ⟨hP, hD⟩ := va_join (wr := [(om, .inr (4, [.int th, .int sa, .ref (am 0), .ref (am 1), .double mi, .ref (am 2), .ref (am 3), .ref (am 4), .int (nI nf), .ref (am 5), .ref (am 6), .ref (am 7), .ref (am 8), .ref (am 9), .ref (am 10), .ref (am 11), .ref (am 12), .ref (am 13), .ref (am 14), .ref (am 15), .ref (am 16), .ref (am 17), .ref (am 18), .ref (am 19)])), ((am 5), aI q 6 Ki), ((am 6), aI q 6 Ti), ((am 7), aI q 6 Si), ((am 18), aD q 96 Sq)]) (w1 := []) hP hD [] [0, 1, 2, 3, 4] rfl rfl (by decide) (by decide) hk9 hFc hP1 hD1
    generalize H1 = H at hP hS ⊢
    have hP : va_P G vwCl [(om, .inr (4, [.int th, .int sa, .ref (am 0), .ref (am 1), .double mi, .ref (am 2), .ref (am 3), .ref (am 4), .int (nI nf), .ref (am 5), .ref (am 6), .ref (am 7), .ref (am 8), .ref (am 9), .ref (am 10), .ref (am 11), .ref (am 12), .ref (am 13), .ref (am 14), .ref (am 15), .ref (am 16), .ref (am 17), .ref (am 18), .ref (am 19)])), ((am 5), aI q 6 Ki), ((am 6), aI q 6 Ti), ((am 7), aI q 6 Si), ((am 18), aD q 96 Sq)] H := hP
    have hD : va_D A [(om, .inr (4, [.int th, .int sa, .ref (am 0), .ref (am 1), .double mi, .ref (am 2), .ref (am 3), .ref (am 4), .int (nI nf), .ref (am 5), .ref (am 6), .ref (am 7), .ref (am 8), .ref (am 9), .ref (am 10), .ref (am 11), .ref (am 12), .ref (am 13), .ref (am 14), .ref (am 15), .ref (am 16), .ref (am 17), .ref (am 18), .ref (am 19)])), ((am 5), aI q 6 Ki), ((am 6), aI q 6 Ti), ((am 7), aI q 6 Si), ((am 18), aD q 96 Sq)] := hD
    obtain rfl : rs8 = 1 := hw.trans (stp_1 hs)
    refine lv_if_eq (tgt := 40) hx hb dX4_filter_33 (by decide) (fun h => absurd h (by decide)) (fun _ => ?_)
    refine lv_iconst (v := 1) hx hb dX4_filter_36 (by decide) ?_
    refine lv_goto (tgt := 41) hx hb dX4_filter_37 (by decide) ?_
    refine lv_istore (lv' := [(4, .int 1), (0, .ref om), (1, .int kd), (2, .int tn1), (3, .int st)]) hx hb dX4_filter_41 hl (by decide) rfl (fun ls hl => ?_)
    refine lv_aload_n hx hb dX4_filter_43 rfl (lv_at hl 1 rfl) ?_
    refine lv_iload hx hb dX4_filter_44 (lv_at hl 0 rfl) ?_
    refine lv_if_ne (tgt := 53) hx hb dX4_filter_46 (by decide) (fun _ => ?_) (fun h => absurd h (by decide))
    refine lv_aload_n hx hb dX4_filter_53 rfl (lv_at hl 1 rfl) ?_
    refine va_get (D := G) (ci := 4) (v := .int (nI nf)) (C := RX4) (T := TX4) (N := 24) hx hb hts in_X4_filter_X4 hown hK hP 0 rfl rfl 8 (by decide) (hts (.fieldLink RX4 75 "EchoBenchModel" "filters" "I") (by decide +kernel)) (fun _ h9 => h9) rfl dX4_filter_54 ?_
    refine lv_bipush (v := 6) hx hb dX4_filter_57 (by decide) ?_
    refine lv_icmp_ne (tgt := 66) hx hb dX4_filter_59 (by decide) (fun _ => ?_) (fun h => absurd h (nI_ne (b := 6) (by omega) (by decide) (by omega)))
    refine lv_iconst (v := 0) hx hb dX4_filter_66 (by decide) ?_
    have hPc := hP.sub (ws' := [(om, .inr (4, [.int th, .int sa, .ref (am 0), .ref (am 1), .double mi, .ref (am 2), .ref (am 3), .ref (am 4), .int (nI nf), .ref (am 5), .ref (am 6), .ref (am 7), .ref (am 8), .ref (am 9), .ref (am 10), .ref (am 11), .ref (am 12), .ref (am 13), .ref (am 14), .ref (am 15), .ref (am 16), .ref (am 17), .ref (am 18), .ref (am 19)]))]) [0] rfl
    have hDc := hD.sub (ws' := [(om, .inr (4, [.int th, .int sa, .ref (am 0), .ref (am 1), .double mi, .ref (am 2), .ref (am 3), .ref (am 4), .int (nI nf), .ref (am 5), .ref (am 6), .ref (am 7), .ref (am 8), .ref (am 9), .ref (am 10), .ref (am 11), .ref (am 12), .ref (am 13), .ref (am 14), .ref (am 15), .ref (am 16), .ref (am 17), .ref (am 18), .ref (am 19)]))]) [0] (by decide) rfl
    have hFc := va_free (wc := [(om, .inr (4, [.int th, .int sa, .ref (am 0), .ref (am 1), .double mi, .ref (am 2), .ref (am 3), .ref (am 4), .int (nI nf), .ref (am 5), .ref (am 6), .ref (am 7), .ref (am 8), .ref (am 9), .ref (am 10), .ref (am 11), .ref (am 12), .ref (am 13), .ref (am 14), .ref (am 15), .ref (am 16), .ref (am 17), .ref (am 18), .ref (am 19)]))]) hD hS hA [0] rfl
    refine va_calli (va_runV (As := [.int 0]) (rest := []) ⟨hx, hb, hml, hown, hts⟩ (m_X4_goesWell l G q H.size om am th sa (nI nf) mi 0) (cwV 1 hts gX4_filter_X4_goesWell rfl rfl rfl (by decide +kernel) ⟨Nat.le_of_ble_eq_true rfl, Nat.le_of_ble_eq_true rfl⟩) ⟨preW_blind, (va_recv hK hPc (ci := 4) (q0 := 0) rfl rfl), preW_start hPc hK hDc hNF⟩ rfl rfl hl.1 rfl (lv_room (Nat.le_of_ble_eq_true rfl)) dX4_filter_67 ⟨(Nat.zero_le _), (Nat.zero_le _)⟩) hS (fun q _ h => hFc q h) hFc (fun gr13 u9 t9 H1 locs ht9 hv9 hw hB9 hz9 hk9 hS => ?_)
    obtain ⟨⟩ := u9
    obtain ⟨hP1, hD1⟩ := hB9
    rw [ht9] at hP1
    obtain ⟨hP, hD⟩ := va_join (wr := [((am 5), aI q 6 Ki), ((am 6), aI q 6 Ti), ((am 7), aI q 6 Si), ((am 18), aD q 96 Sq)]) (w1 := [(om, .inr (4, [.int 0, .int sa, .ref (am 0), .ref (am 1), .double mi, .ref (am 2), .ref (am 3), .ref (am 4), .int (nI nf), .ref (am 5), .ref (am 6), .ref (am 7), .ref (am 8), .ref (am 9), .ref (am 10), .ref (am 11), .ref (am 12), .ref (am 13), .ref (am 14), .ref (am 15), .ref (am 16), .ref (am 17), .ref (am 18), .ref (am 19)]))]) hP hD [0] [1, 2, 3, 4] rfl rfl (by decide) (by decide) hk9 hFc hP1 hD1
    generalize H1 = H at hP hS ⊢
    have hP : va_P G vwCl [((am 5), aI q 6 Ki), ((am 6), aI q 6 Ti), ((am 7), aI q 6 Si), ((am 18), aD q 96 Sq), (om, .inr (4, [.int 0, .int sa, .ref (am 0), .ref (am 1), .double mi, .ref (am 2), .ref (am 3), .ref (am 4), .int (nI nf), .ref (am 5), .ref (am 6), .ref (am 7), .ref (am 8), .ref (am 9), .ref (am 10), .ref (am 11), .ref (am 12), .ref (am 13), .ref (am 14), .ref (am 15), .ref (am 16), .ref (am 17), .ref (am 18), .ref (am 19)]))] H := hP
    have hD : va_D A [((am 5), aI q 6 Ki), ((am 6), aI q 6 Ti), ((am 7), aI q 6 Si), ((am 18), aD q 96 Sq), (om, .inr (4, [.int 0, .int sa, .ref (am 0), .ref (am 1), .double mi, .ref (am 2), .ref (am 3), .ref (am 4), .int (nI nf), .ref (am 5), .ref (am 6), .ref (am 7), .ref (am 8), .ref (am 9), .ref (am 10), .ref (am 11), .ref (am 12), .ref (am 13), .ref (am 14), .ref (am 15), .ref (am 16), .ref (am 17), .ref (am 18), .ref (am 19)]))] := hD
    obtain rfl : gr13 = 1 := hw.trans (by decide)
    refine lv_if_ne (tgt := 75) hx hb dX4_filter_70 (by decide) (fun _ => ?_) (fun h => absurd h (by decide))
    refine lv_aload_n hx hb dX4_filter_75 rfl (lv_at hl 1 rfl) ?_
    refine va_get (D := G) (ci := 4) (v := .ref (am 5)) (C := RX4) (T := TX4) (N := 24) hx hb hts in_X4_filter_X4 hown hK hP 4 rfl rfl 9 (by decide) (hts (.fieldLink RX4 26 "EchoBenchModel" "kind" "[I") (by decide +kernel)) (fun _ h9 => h9) rfl dX4_filter_76 ?_
    refine lv_aload_n hx hb dX4_filter_79 rfl (lv_at hl 1 rfl) ?_
    refine va_get (D := G) (ci := 4) (v := .int (nI nf)) (C := RX4) (T := TX4) (N := 24) hx hb hts in_X4_filter_X4 hown hK hP 4 rfl rfl 8 (by decide) (hts (.fieldLink RX4 75 "EchoBenchModel" "filters" "I") (by decide +kernel)) (fun _ h9 => h9) rfl dX4_filter_80 ?_
    refine lv_iload_n hx hb dX4_filter_83 rfl (lv_at hl 2 rfl) ?_
    refine va_iastJ hx hb hK hP hD hS 0 0 rfl rfl (j := nf) rfl (by omega) (by decide) dX4_filter_84 (fun H locs hP hD hS => ?_)
    have hP : va_P G vwCl [((am 5), aI q 6 (vf_upd Ki nf kd)), ((am 6), aI q 6 Ti), ((am 7), aI q 6 Si), ((am 18), aD q 96 Sq), (om, .inr (4, [.int 0, .int sa, .ref (am 0), .ref (am 1), .double mi, .ref (am 2), .ref (am 3), .ref (am 4), .int (nI nf), .ref (am 5), .ref (am 6), .ref (am 7), .ref (am 8), .ref (am 9), .ref (am 10), .ref (am 11), .ref (am 12), .ref (am 13), .ref (am 14), .ref (am 15), .ref (am 16), .ref (am 17), .ref (am 18), .ref (am 19)]))] H := hP
    have hD : va_D A [((am 5), aI q 6 (vf_upd Ki nf kd)), ((am 6), aI q 6 Ti), ((am 7), aI q 6 Si), ((am 18), aD q 96 Sq), (om, .inr (4, [.int 0, .int sa, .ref (am 0), .ref (am 1), .double mi, .ref (am 2), .ref (am 3), .ref (am 4), .int (nI nf), .ref (am 5), .ref (am 6), .ref (am 7), .ref (am 8), .ref (am 9), .ref (am 10), .ref (am 11), .ref (am 12), .ref (am 13), .ref (am 14), .ref (am 15), .ref (am 16), .ref (am 17), .ref (am 18), .ref (am 19)]))] := hD
    refine lv_aload_n hx hb dX4_filter_85 rfl (lv_at hl 1 rfl) ?_
    refine va_get (D := G) (ci := 4) (v := .ref (am 6)) (C := RX4) (T := TX4) (N := 24) hx hb hts in_X4_filter_X4 hown hK hP 4 rfl rfl 10 (by decide) (hts (.fieldLink RX4 29 "EchoBenchModel" "taps" "[I") (by decide +kernel)) (fun _ h9 => h9) rfl dX4_filter_86 ?_
    refine lv_aload_n hx hb dX4_filter_89 rfl (lv_at hl 1 rfl) ?_
    refine va_get (D := G) (ci := 4) (v := .int (nI nf)) (C := RX4) (T := TX4) (N := 24) hx hb hts in_X4_filter_X4 hown hK hP 4 rfl rfl 8 (by decide) (hts (.fieldLink RX4 75 "EchoBenchModel" "filters" "I") (by decide +kernel)) (fun _ h9 => h9) rfl dX4_filter_90 ?_
    refine lv_iload_n hx hb dX4_filter_93 rfl (lv_at hl 3 rfl) ?_
    refine va_iastJ hx hb hK hP hD hS 1 0 rfl rfl (j := nf) rfl (by omega) (by decide) dX4_filter_94 (fun H locs hP hD hS => ?_)
    have hP : va_P G vwCl [((am 5), aI q 6 (vf_upd Ki nf kd)), ((am 6), aI q 6 (vf_upd Ti nf tn1)), ((am 7), aI q 6 Si), ((am 18), aD q 96 Sq), (om, .inr (4, [.int 0, .int sa, .ref (am 0), .ref (am 1), .double mi, .ref (am 2), .ref (am 3), .ref (am 4), .int (nI nf), .ref (am 5), .ref (am 6), .ref (am 7), .ref (am 8), .ref (am 9), .ref (am 10), .ref (am 11), .ref (am 12), .ref (am 13), .ref (am 14), .ref (am 15), .ref (am 16), .ref (am 17), .ref (am 18), .ref (am 19)]))] H := hP
    have hD : va_D A [((am 5), aI q 6 (vf_upd Ki nf kd)), ((am 6), aI q 6 (vf_upd Ti nf tn1)), ((am 7), aI q 6 Si), ((am 18), aD q 96 Sq), (om, .inr (4, [.int 0, .int sa, .ref (am 0), .ref (am 1), .double mi, .ref (am 2), .ref (am 3), .ref (am 4), .int (nI nf), .ref (am 5), .ref (am 6), .ref (am 7), .ref (am 8), .ref (am 9), .ref (am 10), .ref (am 11), .ref (am 12), .ref (am 13), .ref (am 14), .ref (am 15), .ref (am 16), .ref (am 17), .ref (am 18), .ref (am 19)]))] := hD
    refine lv_aload_n hx hb dX4_filter_95 rfl (lv_at hl 1 rfl) ?_
    refine va_get (D := G) (ci := 4) (v := .ref (am 7)) (C := RX4) (T := TX4) (N := 24) hx hb hts in_X4_filter_X4 hown hK hP 4 rfl rfl 11 (by decide) (hts (.fieldLink RX4 32 "EchoBenchModel" "step" "[I") (by decide +kernel)) (fun _ h9 => h9) rfl dX4_filter_96 ?_
    refine lv_aload_n hx hb dX4_filter_99 rfl (lv_at hl 1 rfl) ?_
    refine va_get (D := G) (ci := 4) (v := .int (nI nf)) (C := RX4) (T := TX4) (N := 24) hx hb hts in_X4_filter_X4 hown hK hP 4 rfl rfl 8 (by decide) (hts (.fieldLink RX4 75 "EchoBenchModel" "filters" "I") (by decide +kernel)) (fun _ h9 => h9) rfl dX4_filter_100 ?_
    refine lv_iload_n hx hb dX4_filter_103 rfl (lv_at hl 4 rfl) ?_
    refine va_iastJ hx hb hK hP hD hS 2 0 rfl rfl (j := nf) rfl (by omega) (by decide) dX4_filter_104 (fun H locs hP hD hS => ?_)
    have hP : va_P G vwCl [((am 5), aI q 6 (vf_upd Ki nf kd)), ((am 6), aI q 6 (vf_upd Ti nf tn1)), ((am 7), aI q 6 (vf_upd Si nf st)), ((am 18), aD q 96 Sq), (om, .inr (4, [.int 0, .int sa, .ref (am 0), .ref (am 1), .double mi, .ref (am 2), .ref (am 3), .ref (am 4), .int (nI nf), .ref (am 5), .ref (am 6), .ref (am 7), .ref (am 8), .ref (am 9), .ref (am 10), .ref (am 11), .ref (am 12), .ref (am 13), .ref (am 14), .ref (am 15), .ref (am 16), .ref (am 17), .ref (am 18), .ref (am 19)]))] H := hP
    have hD : va_D A [((am 5), aI q 6 (vf_upd Ki nf kd)), ((am 6), aI q 6 (vf_upd Ti nf tn1)), ((am 7), aI q 6 (vf_upd Si nf st)), ((am 18), aD q 96 Sq), (om, .inr (4, [.int 0, .int sa, .ref (am 0), .ref (am 1), .double mi, .ref (am 2), .ref (am 3), .ref (am 4), .int (nI nf), .ref (am 5), .ref (am 6), .ref (am 7), .ref (am 8), .ref (am 9), .ref (am 10), .ref (am 11), .ref (am 12), .ref (am 13), .ref (am 14), .ref (am 15), .ref (am 16), .ref (am 17), .ref (am 18), .ref (am 19)]))] := hD
    refine lv_aload_n hx hb dX4_filter_105 rfl (lv_at hl 1 rfl) ?_
    refine lv_aload_n hx hb dX4_filter_106 rfl (lv_at hl 1 rfl) ?_
    refine va_get (D := G) (ci := 4) (v := .int (nI nf)) (C := RX4) (T := TX4) (N := 24) hx hb hts in_X4_filter_X4 hown hK hP 4 rfl rfl 8 (by decide) (hts (.fieldLink RX4 75 "EchoBenchModel" "filters" "I") (by decide +kernel)) (fun _ h9 => h9) rfl dX4_filter_107 ?_
    have hPc := hP.sub (ws' := [(om, .inr (4, [.int 0, .int sa, .ref (am 0), .ref (am 1), .double mi, .ref (am 2), .ref (am 3), .ref (am 4), .int (nI nf), .ref (am 5), .ref (am 6), .ref (am 7), .ref (am 8), .ref (am 9), .ref (am 10), .ref (am 11), .ref (am 12), .ref (am 13), .ref (am 14), .ref (am 15), .ref (am 16), .ref (am 17), .ref (am 18), .ref (am 19)])), ((am 18), aD q 96 Sq)]) [4, 3] rfl
    have hDc := hD.sub (ws' := [(om, .inr (4, [.int 0, .int sa, .ref (am 0), .ref (am 1), .double mi, .ref (am 2), .ref (am 3), .ref (am 4), .int (nI nf), .ref (am 5), .ref (am 6), .ref (am 7), .ref (am 8), .ref (am 9), .ref (am 10), .ref (am 11), .ref (am 12), .ref (am 13), .ref (am 14), .ref (am 15), .ref (am 16), .ref (am 17), .ref (am 18), .ref (am 19)])), ((am 18), aD q 96 Sq)]) [4, 3] (by decide) rfl
    have hFc := va_free (wc := [(om, .inr (4, [.int 0, .int sa, .ref (am 0), .ref (am 1), .double mi, .ref (am 2), .ref (am 3), .ref (am 4), .int (nI nf), .ref (am 5), .ref (am 6), .ref (am 7), .ref (am 8), .ref (am 9), .ref (am 10), .ref (am 11), .ref (am 12), .ref (am 13), .ref (am 14), .ref (am 15), .ref (am 16), .ref (am 17), .ref (am 18), .ref (am 19)])), ((am 18), aD q 96 Sq)]) hD hS hA [4, 3] rfl
    refine va_callv (va_runV (As := [.int (nI nf)]) (rest := []) ⟨hx, hb, hml, hown, hts⟩ (m_X4_reset l G q H.size om am 0 sa (nI nf) mi nf Sq hnf) (cwV 1 hts gX4_filter_X4_reset rfl rfl rfl (by decide +kernel) ⟨Nat.le_of_ble_eq_true rfl, Nat.le_of_ble_eq_true rfl⟩) ⟨preW_blind, (va_recv hK hPc (ci := 4) (q0 := 0) rfl rfl), preW_start hPc hK hDc hNF⟩ rfl rfl hl.1 rfl (lv_room (Nat.le_of_ble_eq_true rfl)) dX4_filter_110 ⟨(Nat.zero_le _), (Nat.zero_le _)⟩) hS (fun q _ h => hFc q h) hFc (fun u9 t9 H1 locs ht9 hv9 hw hB9 hz9 hk9 hS => ?_)
    obtain ⟨F1, rfl⟩ : ∃ z, z = u9 := ⟨_, rfl⟩
    obtain ⟨hP1, hD1⟩ := hB9
    rw [ht9] at hP1
    obtain ⟨hP, hD⟩ := va_join (wr := [((am 5), aI q 6 (vf_upd Ki nf kd)), ((am 6), aI q 6 (vf_upd Ti nf tn1)), ((am 7), aI q 6 (vf_upd Si nf st))]) (w1 := [(om, .inr (4, [.int 0, .int sa, .ref (am 0), .ref (am 1), .double mi, .ref (am 2), .ref (am 3), .ref (am 4), .int (nI nf), .ref (am 5), .ref (am 6), .ref (am 7), .ref (am 8), .ref (am 9), .ref (am 10), .ref (am 11), .ref (am 12), .ref (am 13), .ref (am 14), .ref (am 15), .ref (am 16), .ref (am 17), .ref (am 18), .ref (am 19)])), ((am 18), aD q 96 F1)]) hP hD [4, 3] [0, 1, 2] rfl rfl (by decide) (by decide) hk9 hFc hP1 hD1
    generalize H1 = H at hP hS ⊢
    have hP : va_P G vwCl [((am 5), aI q 6 (vf_upd Ki nf kd)), ((am 6), aI q 6 (vf_upd Ti nf tn1)), ((am 7), aI q 6 (vf_upd Si nf st)), (om, .inr (4, [.int 0, .int sa, .ref (am 0), .ref (am 1), .double mi, .ref (am 2), .ref (am 3), .ref (am 4), .int (nI nf), .ref (am 5), .ref (am 6), .ref (am 7), .ref (am 8), .ref (am 9), .ref (am 10), .ref (am 11), .ref (am 12), .ref (am 13), .ref (am 14), .ref (am 15), .ref (am 16), .ref (am 17), .ref (am 18), .ref (am 19)])), ((am 18), aD q 96 F1)] H := hP
    have hD : va_D A [((am 5), aI q 6 (vf_upd Ki nf kd)), ((am 6), aI q 6 (vf_upd Ti nf tn1)), ((am 7), aI q 6 (vf_upd Si nf st)), (om, .inr (4, [.int 0, .int sa, .ref (am 0), .ref (am 1), .double mi, .ref (am 2), .ref (am 3), .ref (am 4), .int (nI nf), .ref (am 5), .ref (am 6), .ref (am 7), .ref (am 8), .ref (am 9), .ref (am 10), .ref (am 11), .ref (am 12), .ref (am 13), .ref (am 14), .ref (am 15), .ref (am 16), .ref (am 17), .ref (am 18), .ref (am 19)])), ((am 18), aD q 96 F1)] := hD
    have hF := hw
    refine lv_aload_n hx hb dX4_filter_113 rfl (lv_at hl 1 rfl) ?_
    refine lv_dup hx hb dX4_filter_114 rfl ?_
    refine va_get (D := G) (ci := 4) (v := .int (nI nf)) (C := RX4) (T := TX4) (N := 24) hx hb hts in_X4_filter_X4 hown hK hP 3 rfl rfl 8 (by decide) (hts (.fieldLink RX4 75 "EchoBenchModel" "filters" "I") (by decide +kernel)) (fun _ h9 => h9) rfl dX4_filter_115 ?_
    refine lv_iconst (v := 1) hx hb dX4_filter_118 (by decide) ?_
    refine lv_iadd hx hb dX4_filter_119 ?_
    refine lv_topi (fun x18 ex18 => ?_)
    obtain rfl : x18 = (nI (nf + 1)) := ex18.trans (nI_add nf 1)
    refine va_put (D := G) (ci := 4) (v := .int (nI (nf + 1))) (ty := .int) (C := RX4) (T := TX4) (N := 24) hx hb hts in_X4_filter_X4 tyX4 tyX4_ok nmX4 hown hK hP hD hS 3 rfl rfl 8 (by decide) (hts (.fieldLink RX4 75 "EchoBenchModel" "filters" "I") (by decide +kernel)) (fun _ h9 => h9) rfl (by decide +kernel) rfl rfl (Nat.le_of_ble_eq_true rfl) dX4_filter_120 (fun H locs hP hD hS => ?_)
    have hP : va_P G vwCl [((am 5), aI q 6 (vf_upd Ki nf kd)), ((am 6), aI q 6 (vf_upd Ti nf tn1)), ((am 7), aI q 6 (vf_upd Si nf st)), (om, .inr (4, [.int 0, .int sa, .ref (am 0), .ref (am 1), .double mi, .ref (am 2), .ref (am 3), .ref (am 4), .int (nI (nf + 1)), .ref (am 5), .ref (am 6), .ref (am 7), .ref (am 8), .ref (am 9), .ref (am 10), .ref (am 11), .ref (am 12), .ref (am 13), .ref (am 14), .ref (am 15), .ref (am 16), .ref (am 17), .ref (am 18), .ref (am 19)])), ((am 18), aD q 96 F1)] H := hP
    have hD : va_D A [((am 5), aI q 6 (vf_upd Ki nf kd)), ((am 6), aI q 6 (vf_upd Ti nf tn1)), ((am 7), aI q 6 (vf_upd Si nf st)), (om, .inr (4, [.int 0, .int sa, .ref (am 0), .ref (am 1), .double mi, .ref (am 2), .ref (am 3), .ref (am 4), .int (nI (nf + 1)), .ref (am 5), .ref (am 6), .ref (am 7), .ref (am 8), .ref (am 9), .ref (am 10), .ref (am 11), .ref (am 12), .ref (am 13), .ref (am 14), .ref (am 15), .ref (am 16), .ref (am 17), .ref (am 18), .ref (am 19)])), ((am 18), aD q 96 F1)] := hD
    refine lv_aload_n hx hb dX4_filter_123 rfl (lv_at hl 1 rfl) ?_
    refine va_get (D := G) (ci := 4) (v := .int (nI (nf + 1))) (C := RX4) (T := TX4) (N := 24) hx hb hts in_X4_filter_X4 hown hK hP 3 rfl rfl 8 (by decide) (hts (.fieldLink RX4 75 "EchoBenchModel" "filters" "I") (by decide +kernel)) (fun _ h9 => h9) rfl dX4_filter_124 ?_
    refine lv_iconst (v := 1) hx hb dX4_filter_127 (by decide) ?_
    refine lv_isub hx hb dX4_filter_128 ?_
    refine lv_topi (fun x19 ex19 => ?_)
    have hx9 : x19 = nI nf := ex19.trans (nI_pred nf)
    have hP := hP.sub (ws' := [(om, .inr (4, [.int 0, .int sa, .ref (am 0), .ref (am 1), .double mi, .ref (am 2), .ref (am 3), .ref (am 4), .int (nI (nf + 1)), .ref (am 5), .ref (am 6), .ref (am 7), .ref (am 8), .ref (am 9), .ref (am 10), .ref (am 11), .ref (am 12), .ref (am 13), .ref (am 14), .ref (am 15), .ref (am 16), .ref (am 17), .ref (am 18), .ref (am 19)])), ((am 5), aI q 6 (vf_upd Ki nf kd)), ((am 6), aI q 6 (vf_upd Ti nf tn1)), ((am 7), aI q 6 (vf_upd Si nf st)), ((am 18), aD q 96 F1)]) [3, 0, 1, 2, 4] rfl
    have hD := hD.sub (ws' := [(om, .inr (4, [.int 0, .int sa, .ref (am 0), .ref (am 1), .double mi, .ref (am 2), .ref (am 3), .ref (am 4), .int (nI (nf + 1)), .ref (am 5), .ref (am 6), .ref (am 7), .ref (am 8), .ref (am 9), .ref (am 10), .ref (am 11), .ref (am 12), .ref (am 13), .ref (am 14), .ref (am 15), .ref (am 16), .ref (am 17), .ref (am 18), .ref (am 19)])), ((am 5), aI q 6 (vf_upd Ki nf kd)), ((am 6), aI q 6 (vf_upd Ti nf tn1)), ((am 7), aI q 6 (vf_upd Si nf st)), ((am 18), aD q 96 F1)]) [3, 0, 1, 2, 4] (by decide) rfl
    have hP9 := hP
    have hD9 := hD
    exact W.iret (v := x19) hx hb hr (fun t ht hW => ⟨⟨x19, F1, rfl, ⟨hx9, hF⟩, by rw [ht]; exact hP9, hD9⟩, hS.F ht⟩) hS.2.2 dX4_filter_129
  rw [if_neg c3] at hn
  refine lv_icmp_ne (tgt := 20) hx hb dX4_filter_13 (by decide) (fun _ => ?_) (fun h => absurd h c3)
  refine lv_bipush (v := 8) hx hb dX4_filter_20 (by decide) ?_
  have hPc := hP.sub (ws' := []) [] rfl
  have hDc := hD.sub (ws' := []) [] (by decide) rfl
  have hFc := va_free (wc := []) hD hS hA [] rfl
  refine va_calli (va_runS (As := [.int tn1, .int 1, .int 8]) (rest := []) ⟨hx, hb, hml, hown, hts⟩ (m_X4_in l G q H.size tn1 1 8) (va_cwS 3 hts gX4_filter_X4_in rfl rfl rfl (by decide +kernel) ⟨Nat.le_of_ble_eq_true rfl, Nat.le_of_ble_eq_true rfl⟩) ⟨preW_blind, preW_start hPc hK hDc hNF⟩ rfl rfl hl.1 rfl (lv_room (Nat.le_of_ble_eq_true rfl)) dX4_filter_22 ⟨(Nat.zero_le _), (Nat.zero_le _)⟩) hS (fun q _ h => hFc q h) hFc (fun ri21 u9 t9 H1 locs ht9 hv9 hw hB9 hz9 hk9 hS => ?_)
  obtain ⟨⟩ := u9
  obtain ⟨hP1, hD1⟩ := hB9
  rw [ht9] at hP1
  obtain ⟨hP, hD⟩ := va_join (wr := [(om, .inr (4, [.int th, .int sa, .ref (am 0), .ref (am 1), .double mi, .ref (am 2), .ref (am 3), .ref (am 4), .int (nI nf), .ref (am 5), .ref (am 6), .ref (am 7), .ref (am 8), .ref (am 9), .ref (am 10), .ref (am 11), .ref (am 12), .ref (am 13), .ref (am 14), .ref (am 15), .ref (am 16), .ref (am 17), .ref (am 18), .ref (am 19)])), ((am 5), aI q 6 Ki), ((am 6), aI q 6 Ti), ((am 7), aI q 6 Si), ((am 18), aD q 96 Sq)]) (w1 := []) hP hD [] [0, 1, 2, 3, 4] rfl rfl (by decide) (by decide) hk9 hFc hP1 hD1
  generalize H1 = H at hP hS ⊢
  have hP : va_P G vwCl [(om, .inr (4, [.int th, .int sa, .ref (am 0), .ref (am 1), .double mi, .ref (am 2), .ref (am 3), .ref (am 4), .int (nI nf), .ref (am 5), .ref (am 6), .ref (am 7), .ref (am 8), .ref (am 9), .ref (am 10), .ref (am 11), .ref (am 12), .ref (am 13), .ref (am 14), .ref (am 15), .ref (am 16), .ref (am 17), .ref (am 18), .ref (am 19)])), ((am 5), aI q 6 Ki), ((am 6), aI q 6 Ti), ((am 7), aI q 6 Si), ((am 18), aD q 96 Sq)] H := hP
  have hD : va_D A [(om, .inr (4, [.int th, .int sa, .ref (am 0), .ref (am 1), .double mi, .ref (am 2), .ref (am 3), .ref (am 4), .int (nI nf), .ref (am 5), .ref (am 6), .ref (am 7), .ref (am 8), .ref (am 9), .ref (am 10), .ref (am 11), .ref (am 12), .ref (am 13), .ref (am 14), .ref (am 15), .ref (am 16), .ref (am 17), .ref (am 18), .ref (am 19)])), ((am 5), aI q 6 Ki), ((am 6), aI q 6 Ti), ((am 7), aI q 6 Si), ((am 18), aD q 96 Sq)] := hD
  obtain rfl : ri21 = 1 := hw.trans (if_pos hn)
  refine lv_if_eq (tgt := 40) hx hb dX4_filter_25 (by decide) (fun h => absurd h (by decide)) (fun _ => ?_)
  refine lv_iload_n hx hb dX4_filter_28 rfl (lv_at hl 1 rfl) ?_
  refine lv_iload_n hx hb dX4_filter_29 rfl (lv_at hl 3 rfl) ?_
  have hPc := hP.sub (ws' := []) [] rfl
  have hDc := hD.sub (ws' := []) [] (by decide) rfl
  have hFc := va_free (wc := []) hD hS hA [] rfl
  refine va_calli (va_runS (As := [.int kd, .int st]) (rest := []) ⟨hx, hb, hml, hown, hts⟩ (m_X4_isStep l G q H.size kd st) (va_cwS 2 hts gX4_filter_X4_isStep rfl rfl rfl (by decide +kernel) ⟨Nat.le_of_ble_eq_true rfl, Nat.le_of_ble_eq_true rfl⟩) ⟨preW_blind, preW_start hPc hK hDc hNF⟩ rfl rfl hl.1 rfl (lv_room (Nat.le_of_ble_eq_true rfl)) dX4_filter_30 ⟨(Nat.zero_le _), (Nat.zero_le _)⟩) hS (fun q _ h => hFc q h) hFc (fun rs24 u9 t9 H1 locs ht9 hv9 hw hB9 hz9 hk9 hS => ?_)
  obtain ⟨⟩ := u9
  obtain ⟨hP1, hD1⟩ := hB9
  rw [ht9] at hP1
  obtain ⟨hP, hD⟩ := va_join (wr := [(om, .inr (4, [.int th, .int sa, .ref (am 0), .ref (am 1), .double mi, .ref (am 2), .ref (am 3), .ref (am 4), .int (nI nf), .ref (am 5), .ref (am 6), .ref (am 7), .ref (am 8), .ref (am 9), .ref (am 10), .ref (am 11), .ref (am 12), .ref (am 13), .ref (am 14), .ref (am 15), .ref (am 16), .ref (am 17), .ref (am 18), .ref (am 19)])), ((am 5), aI q 6 Ki), ((am 6), aI q 6 Ti), ((am 7), aI q 6 Si), ((am 18), aD q 96 Sq)]) (w1 := []) hP hD [] [0, 1, 2, 3, 4] rfl rfl (by decide) (by decide) hk9 hFc hP1 hD1
  generalize H1 = H at hP hS ⊢
  have hP : va_P G vwCl [(om, .inr (4, [.int th, .int sa, .ref (am 0), .ref (am 1), .double mi, .ref (am 2), .ref (am 3), .ref (am 4), .int (nI nf), .ref (am 5), .ref (am 6), .ref (am 7), .ref (am 8), .ref (am 9), .ref (am 10), .ref (am 11), .ref (am 12), .ref (am 13), .ref (am 14), .ref (am 15), .ref (am 16), .ref (am 17), .ref (am 18), .ref (am 19)])), ((am 5), aI q 6 Ki), ((am 6), aI q 6 Ti), ((am 7), aI q 6 Si), ((am 18), aD q 96 Sq)] H := hP
  have hD : va_D A [(om, .inr (4, [.int th, .int sa, .ref (am 0), .ref (am 1), .double mi, .ref (am 2), .ref (am 3), .ref (am 4), .int (nI nf), .ref (am 5), .ref (am 6), .ref (am 7), .ref (am 8), .ref (am 9), .ref (am 10), .ref (am 11), .ref (am 12), .ref (am 13), .ref (am 14), .ref (am 15), .ref (am 16), .ref (am 17), .ref (am 18), .ref (am 19)])), ((am 5), aI q 6 Ki), ((am 6), aI q 6 Ti), ((am 7), aI q 6 Si), ((am 18), aD q 96 Sq)] := hD
  obtain rfl : rs24 = 1 := hw.trans (stp_1 hs)
  refine lv_if_eq (tgt := 40) hx hb dX4_filter_33 (by decide) (fun h => absurd h (by decide)) (fun _ => ?_)
  refine lv_iconst (v := 1) hx hb dX4_filter_36 (by decide) ?_
  refine lv_goto (tgt := 41) hx hb dX4_filter_37 (by decide) ?_
  refine lv_istore (lv' := [(4, .int 1), (0, .ref om), (1, .int kd), (2, .int tn1), (3, .int st)]) hx hb dX4_filter_41 hl (by decide) rfl (fun ls hl => ?_)
  refine lv_aload_n hx hb dX4_filter_43 rfl (lv_at hl 1 rfl) ?_
  refine lv_iload hx hb dX4_filter_44 (lv_at hl 0 rfl) ?_
  refine lv_if_ne (tgt := 53) hx hb dX4_filter_46 (by decide) (fun _ => ?_) (fun h => absurd h (by decide))
  refine lv_aload_n hx hb dX4_filter_53 rfl (lv_at hl 1 rfl) ?_
  refine va_get (D := G) (ci := 4) (v := .int (nI nf)) (C := RX4) (T := TX4) (N := 24) hx hb hts in_X4_filter_X4 hown hK hP 0 rfl rfl 8 (by decide) (hts (.fieldLink RX4 75 "EchoBenchModel" "filters" "I") (by decide +kernel)) (fun _ h9 => h9) rfl dX4_filter_54 ?_
  refine lv_bipush (v := 6) hx hb dX4_filter_57 (by decide) ?_
  refine lv_icmp_ne (tgt := 66) hx hb dX4_filter_59 (by decide) (fun _ => ?_) (fun h => absurd h (nI_ne (b := 6) (by omega) (by decide) (by omega)))
  refine lv_iconst (v := 0) hx hb dX4_filter_66 (by decide) ?_
  have hPc := hP.sub (ws' := [(om, .inr (4, [.int th, .int sa, .ref (am 0), .ref (am 1), .double mi, .ref (am 2), .ref (am 3), .ref (am 4), .int (nI nf), .ref (am 5), .ref (am 6), .ref (am 7), .ref (am 8), .ref (am 9), .ref (am 10), .ref (am 11), .ref (am 12), .ref (am 13), .ref (am 14), .ref (am 15), .ref (am 16), .ref (am 17), .ref (am 18), .ref (am 19)]))]) [0] rfl
  have hDc := hD.sub (ws' := [(om, .inr (4, [.int th, .int sa, .ref (am 0), .ref (am 1), .double mi, .ref (am 2), .ref (am 3), .ref (am 4), .int (nI nf), .ref (am 5), .ref (am 6), .ref (am 7), .ref (am 8), .ref (am 9), .ref (am 10), .ref (am 11), .ref (am 12), .ref (am 13), .ref (am 14), .ref (am 15), .ref (am 16), .ref (am 17), .ref (am 18), .ref (am 19)]))]) [0] (by decide) rfl
  have hFc := va_free (wc := [(om, .inr (4, [.int th, .int sa, .ref (am 0), .ref (am 1), .double mi, .ref (am 2), .ref (am 3), .ref (am 4), .int (nI nf), .ref (am 5), .ref (am 6), .ref (am 7), .ref (am 8), .ref (am 9), .ref (am 10), .ref (am 11), .ref (am 12), .ref (am 13), .ref (am 14), .ref (am 15), .ref (am 16), .ref (am 17), .ref (am 18), .ref (am 19)]))]) hD hS hA [0] rfl
  refine va_calli (va_runV (As := [.int 0]) (rest := []) ⟨hx, hb, hml, hown, hts⟩ (m_X4_goesWell l G q H.size om am th sa (nI nf) mi 0) (cwV 1 hts gX4_filter_X4_goesWell rfl rfl rfl (by decide +kernel) ⟨Nat.le_of_ble_eq_true rfl, Nat.le_of_ble_eq_true rfl⟩) ⟨preW_blind, (va_recv hK hPc (ci := 4) (q0 := 0) rfl rfl), preW_start hPc hK hDc hNF⟩ rfl rfl hl.1 rfl (lv_room (Nat.le_of_ble_eq_true rfl)) dX4_filter_67 ⟨(Nat.zero_le _), (Nat.zero_le _)⟩) hS (fun q _ h => hFc q h) hFc (fun gr29 u9 t9 H1 locs ht9 hv9 hw hB9 hz9 hk9 hS => ?_)
  obtain ⟨⟩ := u9
  obtain ⟨hP1, hD1⟩ := hB9
  rw [ht9] at hP1
  obtain ⟨hP, hD⟩ := va_join (wr := [((am 5), aI q 6 Ki), ((am 6), aI q 6 Ti), ((am 7), aI q 6 Si), ((am 18), aD q 96 Sq)]) (w1 := [(om, .inr (4, [.int 0, .int sa, .ref (am 0), .ref (am 1), .double mi, .ref (am 2), .ref (am 3), .ref (am 4), .int (nI nf), .ref (am 5), .ref (am 6), .ref (am 7), .ref (am 8), .ref (am 9), .ref (am 10), .ref (am 11), .ref (am 12), .ref (am 13), .ref (am 14), .ref (am 15), .ref (am 16), .ref (am 17), .ref (am 18), .ref (am 19)]))]) hP hD [0] [1, 2, 3, 4] rfl rfl (by decide) (by decide) hk9 hFc hP1 hD1
  generalize H1 = H at hP hS ⊢
  have hP : va_P G vwCl [((am 5), aI q 6 Ki), ((am 6), aI q 6 Ti), ((am 7), aI q 6 Si), ((am 18), aD q 96 Sq), (om, .inr (4, [.int 0, .int sa, .ref (am 0), .ref (am 1), .double mi, .ref (am 2), .ref (am 3), .ref (am 4), .int (nI nf), .ref (am 5), .ref (am 6), .ref (am 7), .ref (am 8), .ref (am 9), .ref (am 10), .ref (am 11), .ref (am 12), .ref (am 13), .ref (am 14), .ref (am 15), .ref (am 16), .ref (am 17), .ref (am 18), .ref (am 19)]))] H := hP
  have hD : va_D A [((am 5), aI q 6 Ki), ((am 6), aI q 6 Ti), ((am 7), aI q 6 Si), ((am 18), aD q 96 Sq), (om, .inr (4, [.int 0, .int sa, .ref (am 0), .ref (am 1), .double mi, .ref (am 2), .ref (am 3), .ref (am 4), .int (nI nf), .ref (am 5), .ref (am 6), .ref (am 7), .ref (am 8), .ref (am 9), .ref (am 10), .ref (am 11), .ref (am 12), .ref (am 13), .ref (am 14), .ref (am 15), .ref (am 16), .ref (am 17), .ref (am 18), .ref (am 19)]))] := hD
  obtain rfl : gr29 = 1 := hw.trans (by decide)
  refine lv_if_ne (tgt := 75) hx hb dX4_filter_70 (by decide) (fun _ => ?_) (fun h => absurd h (by decide))
  refine lv_aload_n hx hb dX4_filter_75 rfl (lv_at hl 1 rfl) ?_
  refine va_get (D := G) (ci := 4) (v := .ref (am 5)) (C := RX4) (T := TX4) (N := 24) hx hb hts in_X4_filter_X4 hown hK hP 4 rfl rfl 9 (by decide) (hts (.fieldLink RX4 26 "EchoBenchModel" "kind" "[I") (by decide +kernel)) (fun _ h9 => h9) rfl dX4_filter_76 ?_
  refine lv_aload_n hx hb dX4_filter_79 rfl (lv_at hl 1 rfl) ?_
  refine va_get (D := G) (ci := 4) (v := .int (nI nf)) (C := RX4) (T := TX4) (N := 24) hx hb hts in_X4_filter_X4 hown hK hP 4 rfl rfl 8 (by decide) (hts (.fieldLink RX4 75 "EchoBenchModel" "filters" "I") (by decide +kernel)) (fun _ h9 => h9) rfl dX4_filter_80 ?_
  refine lv_iload_n hx hb dX4_filter_83 rfl (lv_at hl 2 rfl) ?_
  refine va_iastJ hx hb hK hP hD hS 0 0 rfl rfl (j := nf) rfl (by omega) (by decide) dX4_filter_84 (fun H locs hP hD hS => ?_)
  have hP : va_P G vwCl [((am 5), aI q 6 (vf_upd Ki nf kd)), ((am 6), aI q 6 Ti), ((am 7), aI q 6 Si), ((am 18), aD q 96 Sq), (om, .inr (4, [.int 0, .int sa, .ref (am 0), .ref (am 1), .double mi, .ref (am 2), .ref (am 3), .ref (am 4), .int (nI nf), .ref (am 5), .ref (am 6), .ref (am 7), .ref (am 8), .ref (am 9), .ref (am 10), .ref (am 11), .ref (am 12), .ref (am 13), .ref (am 14), .ref (am 15), .ref (am 16), .ref (am 17), .ref (am 18), .ref (am 19)]))] H := hP
  have hD : va_D A [((am 5), aI q 6 (vf_upd Ki nf kd)), ((am 6), aI q 6 Ti), ((am 7), aI q 6 Si), ((am 18), aD q 96 Sq), (om, .inr (4, [.int 0, .int sa, .ref (am 0), .ref (am 1), .double mi, .ref (am 2), .ref (am 3), .ref (am 4), .int (nI nf), .ref (am 5), .ref (am 6), .ref (am 7), .ref (am 8), .ref (am 9), .ref (am 10), .ref (am 11), .ref (am 12), .ref (am 13), .ref (am 14), .ref (am 15), .ref (am 16), .ref (am 17), .ref (am 18), .ref (am 19)]))] := hD
  refine lv_aload_n hx hb dX4_filter_85 rfl (lv_at hl 1 rfl) ?_
  refine va_get (D := G) (ci := 4) (v := .ref (am 6)) (C := RX4) (T := TX4) (N := 24) hx hb hts in_X4_filter_X4 hown hK hP 4 rfl rfl 10 (by decide) (hts (.fieldLink RX4 29 "EchoBenchModel" "taps" "[I") (by decide +kernel)) (fun _ h9 => h9) rfl dX4_filter_86 ?_
  refine lv_aload_n hx hb dX4_filter_89 rfl (lv_at hl 1 rfl) ?_
  refine va_get (D := G) (ci := 4) (v := .int (nI nf)) (C := RX4) (T := TX4) (N := 24) hx hb hts in_X4_filter_X4 hown hK hP 4 rfl rfl 8 (by decide) (hts (.fieldLink RX4 75 "EchoBenchModel" "filters" "I") (by decide +kernel)) (fun _ h9 => h9) rfl dX4_filter_90 ?_
  refine lv_iload_n hx hb dX4_filter_93 rfl (lv_at hl 3 rfl) ?_
  refine va_iastJ hx hb hK hP hD hS 1 0 rfl rfl (j := nf) rfl (by omega) (by decide) dX4_filter_94 (fun H locs hP hD hS => ?_)
  have hP : va_P G vwCl [((am 5), aI q 6 (vf_upd Ki nf kd)), ((am 6), aI q 6 (vf_upd Ti nf tn1)), ((am 7), aI q 6 Si), ((am 18), aD q 96 Sq), (om, .inr (4, [.int 0, .int sa, .ref (am 0), .ref (am 1), .double mi, .ref (am 2), .ref (am 3), .ref (am 4), .int (nI nf), .ref (am 5), .ref (am 6), .ref (am 7), .ref (am 8), .ref (am 9), .ref (am 10), .ref (am 11), .ref (am 12), .ref (am 13), .ref (am 14), .ref (am 15), .ref (am 16), .ref (am 17), .ref (am 18), .ref (am 19)]))] H := hP
  have hD : va_D A [((am 5), aI q 6 (vf_upd Ki nf kd)), ((am 6), aI q 6 (vf_upd Ti nf tn1)), ((am 7), aI q 6 Si), ((am 18), aD q 96 Sq), (om, .inr (4, [.int 0, .int sa, .ref (am 0), .ref (am 1), .double mi, .ref (am 2), .ref (am 3), .ref (am 4), .int (nI nf), .ref (am 5), .ref (am 6), .ref (am 7), .ref (am 8), .ref (am 9), .ref (am 10), .ref (am 11), .ref (am 12), .ref (am 13), .ref (am 14), .ref (am 15), .ref (am 16), .ref (am 17), .ref (am 18), .ref (am 19)]))] := hD
  refine lv_aload_n hx hb dX4_filter_95 rfl (lv_at hl 1 rfl) ?_
  refine va_get (D := G) (ci := 4) (v := .ref (am 7)) (C := RX4) (T := TX4) (N := 24) hx hb hts in_X4_filter_X4 hown hK hP 4 rfl rfl 11 (by decide) (hts (.fieldLink RX4 32 "EchoBenchModel" "step" "[I") (by decide +kernel)) (fun _ h9 => h9) rfl dX4_filter_96 ?_
  refine lv_aload_n hx hb dX4_filter_99 rfl (lv_at hl 1 rfl) ?_
  refine va_get (D := G) (ci := 4) (v := .int (nI nf)) (C := RX4) (T := TX4) (N := 24) hx hb hts in_X4_filter_X4 hown hK hP 4 rfl rfl 8 (by decide) (hts (.fieldLink RX4 75 "EchoBenchModel" "filters" "I") (by decide +kernel)) (fun _ h9 => h9) rfl dX4_filter_100 ?_
  refine lv_iload_n hx hb dX4_filter_103 rfl (lv_at hl 4 rfl) ?_
  refine va_iastJ hx hb hK hP hD hS 2 0 rfl rfl (j := nf) rfl (by omega) (by decide) dX4_filter_104 (fun H locs hP hD hS => ?_)
  have hP : va_P G vwCl [((am 5), aI q 6 (vf_upd Ki nf kd)), ((am 6), aI q 6 (vf_upd Ti nf tn1)), ((am 7), aI q 6 (vf_upd Si nf st)), ((am 18), aD q 96 Sq), (om, .inr (4, [.int 0, .int sa, .ref (am 0), .ref (am 1), .double mi, .ref (am 2), .ref (am 3), .ref (am 4), .int (nI nf), .ref (am 5), .ref (am 6), .ref (am 7), .ref (am 8), .ref (am 9), .ref (am 10), .ref (am 11), .ref (am 12), .ref (am 13), .ref (am 14), .ref (am 15), .ref (am 16), .ref (am 17), .ref (am 18), .ref (am 19)]))] H := hP
  have hD : va_D A [((am 5), aI q 6 (vf_upd Ki nf kd)), ((am 6), aI q 6 (vf_upd Ti nf tn1)), ((am 7), aI q 6 (vf_upd Si nf st)), ((am 18), aD q 96 Sq), (om, .inr (4, [.int 0, .int sa, .ref (am 0), .ref (am 1), .double mi, .ref (am 2), .ref (am 3), .ref (am 4), .int (nI nf), .ref (am 5), .ref (am 6), .ref (am 7), .ref (am 8), .ref (am 9), .ref (am 10), .ref (am 11), .ref (am 12), .ref (am 13), .ref (am 14), .ref (am 15), .ref (am 16), .ref (am 17), .ref (am 18), .ref (am 19)]))] := hD
  refine lv_aload_n hx hb dX4_filter_105 rfl (lv_at hl 1 rfl) ?_
  refine lv_aload_n hx hb dX4_filter_106 rfl (lv_at hl 1 rfl) ?_
  refine va_get (D := G) (ci := 4) (v := .int (nI nf)) (C := RX4) (T := TX4) (N := 24) hx hb hts in_X4_filter_X4 hown hK hP 4 rfl rfl 8 (by decide) (hts (.fieldLink RX4 75 "EchoBenchModel" "filters" "I") (by decide +kernel)) (fun _ h9 => h9) rfl dX4_filter_107 ?_
  have hPc := hP.sub (ws' := [(om, .inr (4, [.int 0, .int sa, .ref (am 0), .ref (am 1), .double mi, .ref (am 2), .ref (am 3), .ref (am 4), .int (nI nf), .ref (am 5), .ref (am 6), .ref (am 7), .ref (am 8), .ref (am 9), .ref (am 10), .ref (am 11), .ref (am 12), .ref (am 13), .ref (am 14), .ref (am 15), .ref (am 16), .ref (am 17), .ref (am 18), .ref (am 19)])), ((am 18), aD q 96 Sq)]) [4, 3] rfl
  have hDc := hD.sub (ws' := [(om, .inr (4, [.int 0, .int sa, .ref (am 0), .ref (am 1), .double mi, .ref (am 2), .ref (am 3), .ref (am 4), .int (nI nf), .ref (am 5), .ref (am 6), .ref (am 7), .ref (am 8), .ref (am 9), .ref (am 10), .ref (am 11), .ref (am 12), .ref (am 13), .ref (am 14), .ref (am 15), .ref (am 16), .ref (am 17), .ref (am 18), .ref (am 19)])), ((am 18), aD q 96 Sq)]) [4, 3] (by decide) rfl
  have hFc := va_free (wc := [(om, .inr (4, [.int 0, .int sa, .ref (am 0), .ref (am 1), .double mi, .ref (am 2), .ref (am 3), .ref (am 4), .int (nI nf), .ref (am 5), .ref (am 6), .ref (am 7), .ref (am 8), .ref (am 9), .ref (am 10), .ref (am 11), .ref (am 12), .ref (am 13), .ref (am 14), .ref (am 15), .ref (am 16), .ref (am 17), .ref (am 18), .ref (am 19)])), ((am 18), aD q 96 Sq)]) hD hS hA [4, 3] rfl
  refine va_callv (va_runV (As := [.int (nI nf)]) (rest := []) ⟨hx, hb, hml, hown, hts⟩ (m_X4_reset l G q H.size om am 0 sa (nI nf) mi nf Sq hnf) (cwV 1 hts gX4_filter_X4_reset rfl rfl rfl (by decide +kernel) ⟨Nat.le_of_ble_eq_true rfl, Nat.le_of_ble_eq_true rfl⟩) ⟨preW_blind, (va_recv hK hPc (ci := 4) (q0 := 0) rfl rfl), preW_start hPc hK hDc hNF⟩ rfl rfl hl.1 rfl (lv_room (Nat.le_of_ble_eq_true rfl)) dX4_filter_110 ⟨(Nat.zero_le _), (Nat.zero_le _)⟩) hS (fun q _ h => hFc q h) hFc (fun u9 t9 H1 locs ht9 hv9 hw hB9 hz9 hk9 hS => ?_)
  obtain ⟨F1, rfl⟩ : ∃ z, z = u9 := ⟨_, rfl⟩
  obtain ⟨hP1, hD1⟩ := hB9
  rw [ht9] at hP1
  obtain ⟨hP, hD⟩ := va_join (wr := [((am 5), aI q 6 (vf_upd Ki nf kd)), ((am 6), aI q 6 (vf_upd Ti nf tn1)), ((am 7), aI q 6 (vf_upd Si nf st))]) (w1 := [(om, .inr (4, [.int 0, .int sa, .ref (am 0), .ref (am 1), .double mi, .ref (am 2), .ref (am 3), .ref (am 4), .int (nI nf), .ref (am 5), .ref (am 6), .ref (am 7), .ref (am 8), .ref (am 9), .ref (am 10), .ref (am 11), .ref (am 12), .ref (am 13), .ref (am 14), .ref (am 15), .ref (am 16), .ref (am 17), .ref (am 18), .ref (am 19)])), ((am 18), aD q 96 F1)]) hP hD [4, 3] [0, 1, 2] rfl rfl (by decide) (by decide) hk9 hFc hP1 hD1
  generalize H1 = H at hP hS ⊢
  have hP : va_P G vwCl [((am 5), aI q 6 (vf_upd Ki nf kd)), ((am 6), aI q 6 (vf_upd Ti nf tn1)), ((am 7), aI q 6 (vf_upd Si nf st)), (om, .inr (4, [.int 0, .int sa, .ref (am 0), .ref (am 1), .double mi, .ref (am 2), .ref (am 3), .ref (am 4), .int (nI nf), .ref (am 5), .ref (am 6), .ref (am 7), .ref (am 8), .ref (am 9), .ref (am 10), .ref (am 11), .ref (am 12), .ref (am 13), .ref (am 14), .ref (am 15), .ref (am 16), .ref (am 17), .ref (am 18), .ref (am 19)])), ((am 18), aD q 96 F1)] H := hP
  have hD : va_D A [((am 5), aI q 6 (vf_upd Ki nf kd)), ((am 6), aI q 6 (vf_upd Ti nf tn1)), ((am 7), aI q 6 (vf_upd Si nf st)), (om, .inr (4, [.int 0, .int sa, .ref (am 0), .ref (am 1), .double mi, .ref (am 2), .ref (am 3), .ref (am 4), .int (nI nf), .ref (am 5), .ref (am 6), .ref (am 7), .ref (am 8), .ref (am 9), .ref (am 10), .ref (am 11), .ref (am 12), .ref (am 13), .ref (am 14), .ref (am 15), .ref (am 16), .ref (am 17), .ref (am 18), .ref (am 19)])), ((am 18), aD q 96 F1)] := hD
  have hF := hw
  refine lv_aload_n hx hb dX4_filter_113 rfl (lv_at hl 1 rfl) ?_
  refine lv_dup hx hb dX4_filter_114 rfl ?_
  refine va_get (D := G) (ci := 4) (v := .int (nI nf)) (C := RX4) (T := TX4) (N := 24) hx hb hts in_X4_filter_X4 hown hK hP 3 rfl rfl 8 (by decide) (hts (.fieldLink RX4 75 "EchoBenchModel" "filters" "I") (by decide +kernel)) (fun _ h9 => h9) rfl dX4_filter_115 ?_
  refine lv_iconst (v := 1) hx hb dX4_filter_118 (by decide) ?_
  refine lv_iadd hx hb dX4_filter_119 ?_
  refine lv_topi (fun x34 ex34 => ?_)
  obtain rfl : x34 = (nI (nf + 1)) := ex34.trans (nI_add nf 1)
  refine va_put (D := G) (ci := 4) (v := .int (nI (nf + 1))) (ty := .int) (C := RX4) (T := TX4) (N := 24) hx hb hts in_X4_filter_X4 tyX4 tyX4_ok nmX4 hown hK hP hD hS 3 rfl rfl 8 (by decide) (hts (.fieldLink RX4 75 "EchoBenchModel" "filters" "I") (by decide +kernel)) (fun _ h9 => h9) rfl (by decide +kernel) rfl rfl (Nat.le_of_ble_eq_true rfl) dX4_filter_120 (fun H locs hP hD hS => ?_)
  have hP : va_P G vwCl [((am 5), aI q 6 (vf_upd Ki nf kd)), ((am 6), aI q 6 (vf_upd Ti nf tn1)), ((am 7), aI q 6 (vf_upd Si nf st)), (om, .inr (4, [.int 0, .int sa, .ref (am 0), .ref (am 1), .double mi, .ref (am 2), .ref (am 3), .ref (am 4), .int (nI (nf + 1)), .ref (am 5), .ref (am 6), .ref (am 7), .ref (am 8), .ref (am 9), .ref (am 10), .ref (am 11), .ref (am 12), .ref (am 13), .ref (am 14), .ref (am 15), .ref (am 16), .ref (am 17), .ref (am 18), .ref (am 19)])), ((am 18), aD q 96 F1)] H := hP
  have hD : va_D A [((am 5), aI q 6 (vf_upd Ki nf kd)), ((am 6), aI q 6 (vf_upd Ti nf tn1)), ((am 7), aI q 6 (vf_upd Si nf st)), (om, .inr (4, [.int 0, .int sa, .ref (am 0), .ref (am 1), .double mi, .ref (am 2), .ref (am 3), .ref (am 4), .int (nI (nf + 1)), .ref (am 5), .ref (am 6), .ref (am 7), .ref (am 8), .ref (am 9), .ref (am 10), .ref (am 11), .ref (am 12), .ref (am 13), .ref (am 14), .ref (am 15), .ref (am 16), .ref (am 17), .ref (am 18), .ref (am 19)])), ((am 18), aD q 96 F1)] := hD
  refine lv_aload_n hx hb dX4_filter_123 rfl (lv_at hl 1 rfl) ?_
  refine va_get (D := G) (ci := 4) (v := .int (nI (nf + 1))) (C := RX4) (T := TX4) (N := 24) hx hb hts in_X4_filter_X4 hown hK hP 3 rfl rfl 8 (by decide) (hts (.fieldLink RX4 75 "EchoBenchModel" "filters" "I") (by decide +kernel)) (fun _ h9 => h9) rfl dX4_filter_124 ?_
  refine lv_iconst (v := 1) hx hb dX4_filter_127 (by decide) ?_
  refine lv_isub hx hb dX4_filter_128 ?_
  refine lv_topi (fun x35 ex35 => ?_)
  have hx9 : x35 = nI nf := ex35.trans (nI_pred nf)
  have hP := hP.sub (ws' := [(om, .inr (4, [.int 0, .int sa, .ref (am 0), .ref (am 1), .double mi, .ref (am 2), .ref (am 3), .ref (am 4), .int (nI (nf + 1)), .ref (am 5), .ref (am 6), .ref (am 7), .ref (am 8), .ref (am 9), .ref (am 10), .ref (am 11), .ref (am 12), .ref (am 13), .ref (am 14), .ref (am 15), .ref (am 16), .ref (am 17), .ref (am 18), .ref (am 19)])), ((am 5), aI q 6 (vf_upd Ki nf kd)), ((am 6), aI q 6 (vf_upd Ti nf tn1)), ((am 7), aI q 6 (vf_upd Si nf st)), ((am 18), aD q 96 F1)]) [3, 0, 1, 2, 4] rfl
  have hD := hD.sub (ws' := [(om, .inr (4, [.int 0, .int sa, .ref (am 0), .ref (am 1), .double mi, .ref (am 2), .ref (am 3), .ref (am 4), .int (nI (nf + 1)), .ref (am 5), .ref (am 6), .ref (am 7), .ref (am 8), .ref (am 9), .ref (am 10), .ref (am 11), .ref (am 12), .ref (am 13), .ref (am 14), .ref (am 15), .ref (am 16), .ref (am 17), .ref (am 18), .ref (am 19)])), ((am 5), aI q 6 (vf_upd Ki nf kd)), ((am 6), aI q 6 (vf_upd Ti nf tn1)), ((am 7), aI q 6 (vf_upd Si nf st)), ((am 18), aD q 96 F1)]) [3, 0, 1, 2, 4] (by decide) rfl
  have hP9 := hP
  have hD9 := hD
  exact W.iret (v := x35) hx hb hr (fun t ht hW => ⟨⟨x35, F1, rfl, ⟨hx9, hF⟩, by rw [ht]; exact hP9, hD9⟩, hS.F ht⟩) hS.2.2 dX4_filter_129

set_option maxHeartbeats 4000000 in
set_option maxRecDepth 100000 in
/-- filter: where it throws -/
theorem m_X4_filter_no (l : Launch) (G : va_G) (q : Nat → ClassId) (sz : Nat) (om : Nat) (am : Nat → Nat) (th sa : Int32) (mi : UInt64) (nf : Nat) (kd tn1 st : Int32) (hc : ¬ filtC kd tn1 st (nI nf) = 0) : Met l yX4_filter wsX4_filter ({ frames := 2, cells := 0, slots := 0, locals := 43 } : Jvm.Room) (PreW G q [.ref om, .int kd, .int tn1, .int st] [(om, .inr (4, [.int th, .int sa, .ref (am 0), .ref (am 1), .double mi, .ref (am 2), .ref (am 3), .ref (am 4), .int (nI nf), .ref (am 5), .ref (am 6), .ref (am 7), .ref (am 8), .ref (am 9), .ref (am 10), .ref (am 11), .ref (am 12), .ref (am 13), .ref (am 14), .ref (am 15), .ref (am 16), .ref (am 17), .ref (am 18), .ref (am 19)]))] sz) (va_Qi (fun (_ : Int32) (u : Int32) => u = filtC kd tn1 st (nI nf)) (fun (u : Int32) t => EndA G (va_A [(om, .inr (4, [.int th, .int sa, .ref (am 0), .ref (am 1), .double mi, .ref (am 2), .ref (am 3), .ref (am 4), .int (nI nf), .ref (am 5), .ref (am 6), .ref (am 7), .ref (am 8), .ref (am 9), .ref (am 10), .ref (am 11), .ref (am 12), .ref (am 13), .ref (am 14), .ref (am 15), .ref (am 16), .ref (am 17), .ref (am 18), .ref (am 19)]))] sz) [(om, .inr (4, [.int u, .int sa, .ref (am 0), .ref (am 1), .double mi, .ref (am 2), .ref (am 3), .ref (am 4), .int (nI nf), .ref (am 5), .ref (am 6), .ref (am 7), .ref (am 8), .ref (am 9), .ref (am 10), .ref (am 11), .ref (am 12), .ref (am 13), .ref (am 14), .ref (am 15), .ref (am 16), .ref (am 17), .ref (am 18), .ref (am 19)]))] t) (va_A [(om, .inr (4, [.int th, .int sa, .ref (am 0), .ref (am 1), .double mi, .ref (am 2), .ref (am 3), .ref (am 4), .int (nI nf), .ref (am 5), .ref (am 6), .ref (am 7), .ref (am 8), .ref (am 9), .ref (am 10), .ref (am 11), .ref (am 12), .ref (am 13), .ref (am 14), .ref (am 15), .ref (am 16), .ref (am 17), .ref (am 18), .ref (am 19)]))] sz)) 0 0 (va_A [(om, .inr (4, [.int th, .int sa, .ref (am 0), .ref (am 1), .double mi, .ref (am 2), .ref (am 3), .ref (am 4), .int (nI nf), .ref (am 5), .ref (am 6), .ref (am 7), .ref (am 8), .ref (am 9), .ref (am 10), .ref (am 11), .ref (am 12), .ref (am 13), .ref (am 14), .ref (am 15), .ref (am 16), .ref (am 17), .ref (am 18), .ref (am 19)]))] sz) := by
  refine Met.ofW (cc := cX4_filter) (maxL := 5) (ret := (some .int)) (by decide +kernel) rfl ?_
  intro p e s m args below meth c s₁ B hml hv
  obtain ⟨rfl, hsz, hP, hK, hD0, hNF⟩ := hv
  have hx := B.exec
  have hb := B.bytes
  have hr := B.returns
  have hts := atoms_spec (ws := wsX4_filter) B.pre
  have hown : s.vm.findClass RX4 = some m.cls := findClass_of_methodNamed B.named
  have hlocks := B.notSynchronized
  subst hsz
  have hD := hD0.self (sz := s.heap.size)
  generalize hAe : va_A [(om, .inr (4, [.int th, .int sa, .ref (am 0), .ref (am 1), .double mi, .ref (am 2), .ref (am 3), .ref (am 4), .int (nI nf), .ref (am 5), .ref (am 6), .ref (am 7), .ref (am 8), .ref (am 9), .ref (am 10), .ref (am 11), .ref (am 12), .ref (am 13), .ref (am 14), .ref (am 15), .ref (am 16), .ref (am 17), .ref (am 18), .ref (am 19)]))] s.heap.size = A at hD ⊢
  have hA : ∀ q : Nat, s.heap.size ≤ q → A q := fun q h => by rw [← hAe]; exact Or.inr h
  have hS : va_S A s.heap s.heap [] := va_S.rf
  have hP : va_P G vwCl [(om, .inr (4, [.int th, .int sa, .ref (am 0), .ref (am 1), .double mi, .ref (am 2), .ref (am 3), .ref (am 4), .int (nI nf), .ref (am 5), .ref (am 6), .ref (am 7), .ref (am 8), .ref (am 9), .ref (am 10), .ref (am 11), .ref (am 12), .ref (am 13), .ref (am 14), .ref (am 15), .ref (am 16), .ref (am 17), .ref (am 18), .ref (am 19)]))] s.heap := hP
  have hl := lv_entry ([.ref om, .int kd, .int tn1, .int st]) (n := 5) (Nat.le_of_ble_eq_true rfl)
  rw [lg_entry_eq]
  generalize (lg_sl ([.ref om, .int kd, .int tn1, .int st]) ++ List.replicate (5 - (lg_sl ([.ref om, .int kd, .int tn1, .int st])).length) Slot.unset).toArray = ls at hl ⊢
  have hl : lv_has ls 5 [(0, .ref om), (1, .int kd), (2, .int tn1), (3, .int st)] := hl
  refine lv_iload_n hx hb dX4_filter_0 rfl (lv_at hl 1 rfl) ?_
  refine lv_iconst (v := 0) hx hb dX4_filter_1 (by decide) ?_
  refine lv_iconst (v := 3) hx hb dX4_filter_2 (by decide) ?_
  have hPc := hP.sub (ws' := []) [] rfl
  have hDc := hD.sub (ws' := []) [] (by decide) rfl
  have hFc := va_free (wc := []) hD hS hA [] rfl
  refine va_calli (va_runS (As := [.int kd, .int 0, .int 3]) (rest := []) ⟨hx, hb, hml, hown, hts⟩ (m_X4_in l G q s.heap.size kd 0 3) (va_cwS 3 hts gX4_filter_X4_in rfl rfl rfl (by decide +kernel) ⟨Nat.le_of_ble_eq_true rfl, Nat.le_of_ble_eq_true rfl⟩) ⟨preW_blind, preW_start hPc hK hDc hNF⟩ rfl rfl hl.1 rfl (lv_room (Nat.le_of_ble_eq_true rfl)) dX4_filter_3 ⟨(Nat.zero_le _), (Nat.zero_le _)⟩) hS (fun q _ h => hFc q h) hFc (fun ri1 u9 t9 H1 locs ht9 hv9 hw hB9 hz9 hk9 hS => ?_)
  obtain ⟨⟩ := u9
  obtain ⟨hP1, hD1⟩ := hB9
  rw [ht9] at hP1
  obtain ⟨hP, hD⟩ := va_join (wr := [(om, .inr (4, [.int th, .int sa, .ref (am 0), .ref (am 1), .double mi, .ref (am 2), .ref (am 3), .ref (am 4), .int (nI nf), .ref (am 5), .ref (am 6), .ref (am 7), .ref (am 8), .ref (am 9), .ref (am 10), .ref (am 11), .ref (am 12), .ref (am 13), .ref (am 14), .ref (am 15), .ref (am 16), .ref (am 17), .ref (am 18), .ref (am 19)]))]) (w1 := []) hP hD [] [0] rfl rfl (by decide) (by decide) hk9 hFc hP1 hD1
  generalize H1 = H at hP hS ⊢
  have hP : va_P G vwCl [(om, .inr (4, [.int th, .int sa, .ref (am 0), .ref (am 1), .double mi, .ref (am 2), .ref (am 3), .ref (am 4), .int (nI nf), .ref (am 5), .ref (am 6), .ref (am 7), .ref (am 8), .ref (am 9), .ref (am 10), .ref (am 11), .ref (am 12), .ref (am 13), .ref (am 14), .ref (am 15), .ref (am 16), .ref (am 17), .ref (am 18), .ref (am 19)]))] H := hP
  have hD : va_D A [(om, .inr (4, [.int th, .int sa, .ref (am 0), .ref (am 1), .double mi, .ref (am 2), .ref (am 3), .ref (am 4), .int (nI nf), .ref (am 5), .ref (am 6), .ref (am 7), .ref (am 8), .ref (am 9), .ref (am 10), .ref (am 11), .ref (am 12), .ref (am 13), .ref (am 14), .ref (am 15), .ref (am 16), .ref (am 17), .ref (am 18), .ref (am 19)]))] := hD
  by_cases ci3 : 0 ≤ kd ∧ kd ≤ 3
  rotate_left
  · skip
    obtain rfl : ri1 = 0 := hw.trans (if_neg ci3)
    refine lv_if_eq (tgt := 40) hx hb dX4_filter_6 (by decide) (fun _ => ?_) (fun h => absurd (by decide) h)
    refine lv_iconst (v := 0) hx hb dX4_filter_40 (by decide) ?_
    refine lv_istore (lv' := [(4, .int 0), (0, .ref om), (1, .int kd), (2, .int tn1), (3, .int st)]) hx hb dX4_filter_41 hl (by decide) rfl (fun ls hl => ?_)
    refine lv_aload_n hx hb dX4_filter_43 rfl (lv_at hl 1 rfl) ?_
    refine lv_iload hx hb dX4_filter_44 (lv_at hl 0 rfl) ?_
    refine lv_if_ne (tgt := 53) hx hb dX4_filter_46 (by decide) (fun h => absurd (by decide) h) (fun _ => ?_)
    refine lv_iconst (v := 1) hx hb dX4_filter_49 (by decide) ?_
    refine lv_goto (tgt := 67) hx hb dX4_filter_50 (by decide) ?_
    have hPc := hP.sub (ws' := [(om, .inr (4, [.int th, .int sa, .ref (am 0), .ref (am 1), .double mi, .ref (am 2), .ref (am 3), .ref (am 4), .int (nI nf), .ref (am 5), .ref (am 6), .ref (am 7), .ref (am 8), .ref (am 9), .ref (am 10), .ref (am 11), .ref (am 12), .ref (am 13), .ref (am 14), .ref (am 15), .ref (am 16), .ref (am 17), .ref (am 18), .ref (am 19)]))]) [0] rfl
    have hDc := hD.sub (ws' := [(om, .inr (4, [.int th, .int sa, .ref (am 0), .ref (am 1), .double mi, .ref (am 2), .ref (am 3), .ref (am 4), .int (nI nf), .ref (am 5), .ref (am 6), .ref (am 7), .ref (am 8), .ref (am 9), .ref (am 10), .ref (am 11), .ref (am 12), .ref (am 13), .ref (am 14), .ref (am 15), .ref (am 16), .ref (am 17), .ref (am 18), .ref (am 19)]))]) [0] (by decide) rfl
    have hFc := va_free (wc := [(om, .inr (4, [.int th, .int sa, .ref (am 0), .ref (am 1), .double mi, .ref (am 2), .ref (am 3), .ref (am 4), .int (nI nf), .ref (am 5), .ref (am 6), .ref (am 7), .ref (am 8), .ref (am 9), .ref (am 10), .ref (am 11), .ref (am 12), .ref (am 13), .ref (am 14), .ref (am 15), .ref (am 16), .ref (am 17), .ref (am 18), .ref (am 19)]))]) hD hS hA [0] rfl
    refine va_calli (va_runV (As := [.int 1]) (rest := []) ⟨hx, hb, hml, hown, hts⟩ (m_X4_goesWell l G q H.size om am th sa (nI nf) mi 1) (cwV 1 hts gX4_filter_X4_goesWell rfl rfl rfl (by decide +kernel) ⟨Nat.le_of_ble_eq_true rfl, Nat.le_of_ble_eq_true rfl⟩) ⟨preW_blind, (va_recv hK hPc (ci := 4) (q0 := 0) rfl rfl), preW_start hPc hK hDc hNF⟩ rfl rfl hl.1 rfl (lv_room (Nat.le_of_ble_eq_true rfl)) dX4_filter_67 ⟨(Nat.zero_le _), (Nat.zero_le _)⟩) hS (fun q _ h => hFc q h) hFc (fun gr6 u9 t9 H1 locs ht9 hv9 hw hB9 hz9 hk9 hS => ?_)
    obtain ⟨⟩ := u9
    obtain ⟨hP1, hD1⟩ := hB9
    rw [ht9] at hP1
    obtain ⟨hP, hD⟩ := va_join (wr := []) (w1 := [(om, .inr (4, [.int 1, .int sa, .ref (am 0), .ref (am 1), .double mi, .ref (am 2), .ref (am 3), .ref (am 4), .int (nI nf), .ref (am 5), .ref (am 6), .ref (am 7), .ref (am 8), .ref (am 9), .ref (am 10), .ref (am 11), .ref (am 12), .ref (am 13), .ref (am 14), .ref (am 15), .ref (am 16), .ref (am 17), .ref (am 18), .ref (am 19)]))]) hP hD [0] [] rfl rfl (by decide) (by decide) hk9 hFc hP1 hD1
    generalize H1 = H at hP hS ⊢
    have hP : va_P G vwCl [(om, .inr (4, [.int 1, .int sa, .ref (am 0), .ref (am 1), .double mi, .ref (am 2), .ref (am 3), .ref (am 4), .int (nI nf), .ref (am 5), .ref (am 6), .ref (am 7), .ref (am 8), .ref (am 9), .ref (am 10), .ref (am 11), .ref (am 12), .ref (am 13), .ref (am 14), .ref (am 15), .ref (am 16), .ref (am 17), .ref (am 18), .ref (am 19)]))] H := hP
    have hD : va_D A [(om, .inr (4, [.int 1, .int sa, .ref (am 0), .ref (am 1), .double mi, .ref (am 2), .ref (am 3), .ref (am 4), .int (nI nf), .ref (am 5), .ref (am 6), .ref (am 7), .ref (am 8), .ref (am 9), .ref (am 10), .ref (am 11), .ref (am 12), .ref (am 13), .ref (am 14), .ref (am 15), .ref (am 16), .ref (am 17), .ref (am 18), .ref (am 19)]))] := hD
    obtain rfl : gr6 = 0 := hw.trans (by decide)
    refine lv_if_ne (tgt := 75) hx hb dX4_filter_70 (by decide) (fun h => absurd (by decide) h) (fun _ => ?_)
    refine lv_iconst (v := 0) hx hb dX4_filter_73 (by decide) ?_
    have hP9 := hP
    have hD9 := hD
    exact W.iret (v := 0) hx hb hr (fun t ht hW => ⟨⟨0, 1, rfl, by dsimp only; unfold filtC; rw [if_neg ci3], by rw [ht]; exact hP9, hD9⟩, hS.F ht⟩) hS.2.2 dX4_filter_74
  obtain rfl : ri1 = 1 := hw.trans (if_pos ci3)
  refine lv_if_eq (tgt := 40) hx hb dX4_filter_6 (by decide) (fun h => absurd h (by decide)) (fun _ => ?_)
  refine lv_iload_n hx hb dX4_filter_9 rfl (lv_at hl 2 rfl) ?_
  refine lv_iconst (v := 1) hx hb dX4_filter_10 (by decide) ?_
  refine lv_iload_n hx hb dX4_filter_11 rfl (lv_at hl 1 rfl) ?_
  refine lv_iconst (v := 3) hx hb dX4_filter_12 (by decide) ?_
  by_cases c3 : kd = 3
  · skip
    refine lv_icmp_ne (tgt := 20) hx hb dX4_filter_13 (by decide) (fun h => absurd c3 h) (fun _ => ?_)
    refine lv_iconst (v := 4) hx hb dX4_filter_16 (by decide) ?_
    refine lv_goto (tgt := 22) hx hb dX4_filter_17 (by decide) ?_
    have hPc := hP.sub (ws' := []) [] rfl
    have hDc := hD.sub (ws' := []) [] (by decide) rfl
    have hFc := va_free (wc := []) hD hS hA [] rfl
    refine va_calli (va_runS (As := [.int tn1, .int 1, .int 4]) (rest := []) ⟨hx, hb, hml, hown, hts⟩ (m_X4_in l G q H.size tn1 1 4) (va_cwS 3 hts gX4_filter_X4_in rfl rfl rfl (by decide +kernel) ⟨Nat.le_of_ble_eq_true rfl, Nat.le_of_ble_eq_true rfl⟩) ⟨preW_blind, preW_start hPc hK hDc hNF⟩ rfl rfl hl.1 rfl (lv_room (Nat.le_of_ble_eq_true rfl)) dX4_filter_22 ⟨(Nat.zero_le _), (Nat.zero_le _)⟩) hS (fun q _ h => hFc q h) hFc (fun ri11 u9 t9 H1 locs ht9 hv9 hw hB9 hz9 hk9 hS => ?_)
    obtain ⟨⟩ := u9
    obtain ⟨hP1, hD1⟩ := hB9
    rw [ht9] at hP1
    obtain ⟨hP, hD⟩ := va_join (wr := [(om, .inr (4, [.int th, .int sa, .ref (am 0), .ref (am 1), .double mi, .ref (am 2), .ref (am 3), .ref (am 4), .int (nI nf), .ref (am 5), .ref (am 6), .ref (am 7), .ref (am 8), .ref (am 9), .ref (am 10), .ref (am 11), .ref (am 12), .ref (am 13), .ref (am 14), .ref (am 15), .ref (am 16), .ref (am 17), .ref (am 18), .ref (am 19)]))]) (w1 := []) hP hD [] [0] rfl rfl (by decide) (by decide) hk9 hFc hP1 hD1
    generalize H1 = H at hP hS ⊢
    have hP : va_P G vwCl [(om, .inr (4, [.int th, .int sa, .ref (am 0), .ref (am 1), .double mi, .ref (am 2), .ref (am 3), .ref (am 4), .int (nI nf), .ref (am 5), .ref (am 6), .ref (am 7), .ref (am 8), .ref (am 9), .ref (am 10), .ref (am 11), .ref (am 12), .ref (am 13), .ref (am 14), .ref (am 15), .ref (am 16), .ref (am 17), .ref (am 18), .ref (am 19)]))] H := hP
    have hD : va_D A [(om, .inr (4, [.int th, .int sa, .ref (am 0), .ref (am 1), .double mi, .ref (am 2), .ref (am 3), .ref (am 4), .int (nI nf), .ref (am 5), .ref (am 6), .ref (am 7), .ref (am 8), .ref (am 9), .ref (am 10), .ref (am 11), .ref (am 12), .ref (am 13), .ref (am 14), .ref (am 15), .ref (am 16), .ref (am 17), .ref (am 18), .ref (am 19)]))] := hD
    by_cases ci13 : 1 ≤ tn1 ∧ tn1 ≤ 4
    rotate_left
    · skip
      obtain rfl : ri11 = 0 := hw.trans (if_neg ci13)
      refine lv_if_eq (tgt := 40) hx hb dX4_filter_25 (by decide) (fun _ => ?_) (fun h => absurd (by decide) h)
      refine lv_iconst (v := 0) hx hb dX4_filter_40 (by decide) ?_
      refine lv_istore (lv' := [(4, .int 0), (0, .ref om), (1, .int kd), (2, .int tn1), (3, .int st)]) hx hb dX4_filter_41 hl (by decide) rfl (fun ls hl => ?_)
      refine lv_aload_n hx hb dX4_filter_43 rfl (lv_at hl 1 rfl) ?_
      refine lv_iload hx hb dX4_filter_44 (lv_at hl 0 rfl) ?_
      refine lv_if_ne (tgt := 53) hx hb dX4_filter_46 (by decide) (fun h => absurd (by decide) h) (fun _ => ?_)
      refine lv_iconst (v := 1) hx hb dX4_filter_49 (by decide) ?_
      refine lv_goto (tgt := 67) hx hb dX4_filter_50 (by decide) ?_
      have hPc := hP.sub (ws' := [(om, .inr (4, [.int th, .int sa, .ref (am 0), .ref (am 1), .double mi, .ref (am 2), .ref (am 3), .ref (am 4), .int (nI nf), .ref (am 5), .ref (am 6), .ref (am 7), .ref (am 8), .ref (am 9), .ref (am 10), .ref (am 11), .ref (am 12), .ref (am 13), .ref (am 14), .ref (am 15), .ref (am 16), .ref (am 17), .ref (am 18), .ref (am 19)]))]) [0] rfl
      have hDc := hD.sub (ws' := [(om, .inr (4, [.int th, .int sa, .ref (am 0), .ref (am 1), .double mi, .ref (am 2), .ref (am 3), .ref (am 4), .int (nI nf), .ref (am 5), .ref (am 6), .ref (am 7), .ref (am 8), .ref (am 9), .ref (am 10), .ref (am 11), .ref (am 12), .ref (am 13), .ref (am 14), .ref (am 15), .ref (am 16), .ref (am 17), .ref (am 18), .ref (am 19)]))]) [0] (by decide) rfl
      have hFc := va_free (wc := [(om, .inr (4, [.int th, .int sa, .ref (am 0), .ref (am 1), .double mi, .ref (am 2), .ref (am 3), .ref (am 4), .int (nI nf), .ref (am 5), .ref (am 6), .ref (am 7), .ref (am 8), .ref (am 9), .ref (am 10), .ref (am 11), .ref (am 12), .ref (am 13), .ref (am 14), .ref (am 15), .ref (am 16), .ref (am 17), .ref (am 18), .ref (am 19)]))]) hD hS hA [0] rfl
      refine va_calli (va_runV (As := [.int 1]) (rest := []) ⟨hx, hb, hml, hown, hts⟩ (m_X4_goesWell l G q H.size om am th sa (nI nf) mi 1) (cwV 1 hts gX4_filter_X4_goesWell rfl rfl rfl (by decide +kernel) ⟨Nat.le_of_ble_eq_true rfl, Nat.le_of_ble_eq_true rfl⟩) ⟨preW_blind, (va_recv hK hPc (ci := 4) (q0 := 0) rfl rfl), preW_start hPc hK hDc hNF⟩ rfl rfl hl.1 rfl (lv_room (Nat.le_of_ble_eq_true rfl)) dX4_filter_67 ⟨(Nat.zero_le _), (Nat.zero_le _)⟩) hS (fun q _ h => hFc q h) hFc (fun gr16 u9 t9 H1 locs ht9 hv9 hw hB9 hz9 hk9 hS => ?_)
      obtain ⟨⟩ := u9
      obtain ⟨hP1, hD1⟩ := hB9
      rw [ht9] at hP1
      obtain ⟨hP, hD⟩ := va_join (wr := []) (w1 := [(om, .inr (4, [.int 1, .int sa, .ref (am 0), .ref (am 1), .double mi, .ref (am 2), .ref (am 3), .ref (am 4), .int (nI nf), .ref (am 5), .ref (am 6), .ref (am 7), .ref (am 8), .ref (am 9), .ref (am 10), .ref (am 11), .ref (am 12), .ref (am 13), .ref (am 14), .ref (am 15), .ref (am 16), .ref (am 17), .ref (am 18), .ref (am 19)]))]) hP hD [0] [] rfl rfl (by decide) (by decide) hk9 hFc hP1 hD1
      generalize H1 = H at hP hS ⊢
      have hP : va_P G vwCl [(om, .inr (4, [.int 1, .int sa, .ref (am 0), .ref (am 1), .double mi, .ref (am 2), .ref (am 3), .ref (am 4), .int (nI nf), .ref (am 5), .ref (am 6), .ref (am 7), .ref (am 8), .ref (am 9), .ref (am 10), .ref (am 11), .ref (am 12), .ref (am 13), .ref (am 14), .ref (am 15), .ref (am 16), .ref (am 17), .ref (am 18), .ref (am 19)]))] H := hP
      have hD : va_D A [(om, .inr (4, [.int 1, .int sa, .ref (am 0), .ref (am 1), .double mi, .ref (am 2), .ref (am 3), .ref (am 4), .int (nI nf), .ref (am 5), .ref (am 6), .ref (am 7), .ref (am 8), .ref (am 9), .ref (am 10), .ref (am 11), .ref (am 12), .ref (am 13), .ref (am 14), .ref (am 15), .ref (am 16), .ref (am 17), .ref (am 18), .ref (am 19)]))] := hD
      obtain rfl : gr16 = 0 := hw.trans (by decide)
      refine lv_if_ne (tgt := 75) hx hb dX4_filter_70 (by decide) (fun h => absurd (by decide) h) (fun _ => ?_)
      refine lv_iconst (v := 0) hx hb dX4_filter_73 (by decide) ?_
      have hP9 := hP
      have hD9 := hD
      exact W.iret (v := 0) hx hb hr (fun t ht hW => ⟨⟨0, 1, rfl, by dsimp only; unfold filtC; rw [if_pos ci3, if_pos c3, if_neg ci13], by rw [ht]; exact hP9, hD9⟩, hS.F ht⟩) hS.2.2 dX4_filter_74
    obtain rfl : ri11 = 1 := hw.trans (if_pos ci13)
    refine lv_if_eq (tgt := 40) hx hb dX4_filter_25 (by decide) (fun h => absurd h (by decide)) (fun _ => ?_)
    refine lv_iload_n hx hb dX4_filter_28 rfl (lv_at hl 1 rfl) ?_
    refine lv_iload_n hx hb dX4_filter_29 rfl (lv_at hl 3 rfl) ?_
    have hPc := hP.sub (ws' := []) [] rfl
    have hDc := hD.sub (ws' := []) [] (by decide) rfl
    have hFc := va_free (wc := []) hD hS hA [] rfl
    refine va_calli (va_runS (As := [.int kd, .int st]) (rest := []) ⟨hx, hb, hml, hown, hts⟩ (m_X4_isStep l G q H.size kd st) (va_cwS 2 hts gX4_filter_X4_isStep rfl rfl rfl (by decide +kernel) ⟨Nat.le_of_ble_eq_true rfl, Nat.le_of_ble_eq_true rfl⟩) ⟨preW_blind, preW_start hPc hK hDc hNF⟩ rfl rfl hl.1 rfl (lv_room (Nat.le_of_ble_eq_true rfl)) dX4_filter_30 ⟨(Nat.zero_le _), (Nat.zero_le _)⟩) hS (fun q _ h => hFc q h) hFc (fun rs20 u9 t9 H1 locs ht9 hv9 hw hB9 hz9 hk9 hS => ?_)
    obtain ⟨⟩ := u9
    obtain ⟨hP1, hD1⟩ := hB9
    rw [ht9] at hP1
    obtain ⟨hP, hD⟩ := va_join (wr := [(om, .inr (4, [.int th, .int sa, .ref (am 0), .ref (am 1), .double mi, .ref (am 2), .ref (am 3), .ref (am 4), .int (nI nf), .ref (am 5), .ref (am 6), .ref (am 7), .ref (am 8), .ref (am 9), .ref (am 10), .ref (am 11), .ref (am 12), .ref (am 13), .ref (am 14), .ref (am 15), .ref (am 16), .ref (am 17), .ref (am 18), .ref (am 19)]))]) (w1 := []) hP hD [] [0] rfl rfl (by decide) (by decide) hk9 hFc hP1 hD1
    generalize H1 = H at hP hS ⊢
    have hP : va_P G vwCl [(om, .inr (4, [.int th, .int sa, .ref (am 0), .ref (am 1), .double mi, .ref (am 2), .ref (am 3), .ref (am 4), .int (nI nf), .ref (am 5), .ref (am 6), .ref (am 7), .ref (am 8), .ref (am 9), .ref (am 10), .ref (am 11), .ref (am 12), .ref (am 13), .ref (am 14), .ref (am 15), .ref (am 16), .ref (am 17), .ref (am 18), .ref (am 19)]))] H := hP
    have hD : va_D A [(om, .inr (4, [.int th, .int sa, .ref (am 0), .ref (am 1), .double mi, .ref (am 2), .ref (am 3), .ref (am 4), .int (nI nf), .ref (am 5), .ref (am 6), .ref (am 7), .ref (am 8), .ref (am 9), .ref (am 10), .ref (am 11), .ref (am 12), .ref (am 13), .ref (am 14), .ref (am 15), .ref (am 16), .ref (am 17), .ref (am 18), .ref (am 19)]))] := hD
    by_cases ci22 : stpB kd st
    rotate_left
    · skip
      obtain rfl : rs20 = 0 := hw.trans (stp_0 ci22)
      refine lv_if_eq (tgt := 40) hx hb dX4_filter_33 (by decide) (fun _ => ?_) (fun h => absurd (by decide) h)
      refine lv_iconst (v := 0) hx hb dX4_filter_40 (by decide) ?_
      refine lv_istore (lv' := [(4, .int 0), (0, .ref om), (1, .int kd), (2, .int tn1), (3, .int st)]) hx hb dX4_filter_41 hl (by decide) rfl (fun ls hl => ?_)
      refine lv_aload_n hx hb dX4_filter_43 rfl (lv_at hl 1 rfl) ?_
      refine lv_iload hx hb dX4_filter_44 (lv_at hl 0 rfl) ?_
      refine lv_if_ne (tgt := 53) hx hb dX4_filter_46 (by decide) (fun h => absurd (by decide) h) (fun _ => ?_)
      refine lv_iconst (v := 1) hx hb dX4_filter_49 (by decide) ?_
      refine lv_goto (tgt := 67) hx hb dX4_filter_50 (by decide) ?_
      have hPc := hP.sub (ws' := [(om, .inr (4, [.int th, .int sa, .ref (am 0), .ref (am 1), .double mi, .ref (am 2), .ref (am 3), .ref (am 4), .int (nI nf), .ref (am 5), .ref (am 6), .ref (am 7), .ref (am 8), .ref (am 9), .ref (am 10), .ref (am 11), .ref (am 12), .ref (am 13), .ref (am 14), .ref (am 15), .ref (am 16), .ref (am 17), .ref (am 18), .ref (am 19)]))]) [0] rfl
      have hDc := hD.sub (ws' := [(om, .inr (4, [.int th, .int sa, .ref (am 0), .ref (am 1), .double mi, .ref (am 2), .ref (am 3), .ref (am 4), .int (nI nf), .ref (am 5), .ref (am 6), .ref (am 7), .ref (am 8), .ref (am 9), .ref (am 10), .ref (am 11), .ref (am 12), .ref (am 13), .ref (am 14), .ref (am 15), .ref (am 16), .ref (am 17), .ref (am 18), .ref (am 19)]))]) [0] (by decide) rfl
      have hFc := va_free (wc := [(om, .inr (4, [.int th, .int sa, .ref (am 0), .ref (am 1), .double mi, .ref (am 2), .ref (am 3), .ref (am 4), .int (nI nf), .ref (am 5), .ref (am 6), .ref (am 7), .ref (am 8), .ref (am 9), .ref (am 10), .ref (am 11), .ref (am 12), .ref (am 13), .ref (am 14), .ref (am 15), .ref (am 16), .ref (am 17), .ref (am 18), .ref (am 19)]))]) hD hS hA [0] rfl
      refine va_calli (va_runV (As := [.int 1]) (rest := []) ⟨hx, hb, hml, hown, hts⟩ (m_X4_goesWell l G q H.size om am th sa (nI nf) mi 1) (cwV 1 hts gX4_filter_X4_goesWell rfl rfl rfl (by decide +kernel) ⟨Nat.le_of_ble_eq_true rfl, Nat.le_of_ble_eq_true rfl⟩) ⟨preW_blind, (va_recv hK hPc (ci := 4) (q0 := 0) rfl rfl), preW_start hPc hK hDc hNF⟩ rfl rfl hl.1 rfl (lv_room (Nat.le_of_ble_eq_true rfl)) dX4_filter_67 ⟨(Nat.zero_le _), (Nat.zero_le _)⟩) hS (fun q _ h => hFc q h) hFc (fun gr25 u9 t9 H1 locs ht9 hv9 hw hB9 hz9 hk9 hS => ?_)
      obtain ⟨⟩ := u9
      obtain ⟨hP1, hD1⟩ := hB9
      rw [ht9] at hP1
      obtain ⟨hP, hD⟩ := va_join (wr := []) (w1 := [(om, .inr (4, [.int 1, .int sa, .ref (am 0), .ref (am 1), .double mi, .ref (am 2), .ref (am 3), .ref (am 4), .int (nI nf), .ref (am 5), .ref (am 6), .ref (am 7), .ref (am 8), .ref (am 9), .ref (am 10), .ref (am 11), .ref (am 12), .ref (am 13), .ref (am 14), .ref (am 15), .ref (am 16), .ref (am 17), .ref (am 18), .ref (am 19)]))]) hP hD [0] [] rfl rfl (by decide) (by decide) hk9 hFc hP1 hD1
      generalize H1 = H at hP hS ⊢
      have hP : va_P G vwCl [(om, .inr (4, [.int 1, .int sa, .ref (am 0), .ref (am 1), .double mi, .ref (am 2), .ref (am 3), .ref (am 4), .int (nI nf), .ref (am 5), .ref (am 6), .ref (am 7), .ref (am 8), .ref (am 9), .ref (am 10), .ref (am 11), .ref (am 12), .ref (am 13), .ref (am 14), .ref (am 15), .ref (am 16), .ref (am 17), .ref (am 18), .ref (am 19)]))] H := hP
      have hD : va_D A [(om, .inr (4, [.int 1, .int sa, .ref (am 0), .ref (am 1), .double mi, .ref (am 2), .ref (am 3), .ref (am 4), .int (nI nf), .ref (am 5), .ref (am 6), .ref (am 7), .ref (am 8), .ref (am 9), .ref (am 10), .ref (am 11), .ref (am 12), .ref (am 13), .ref (am 14), .ref (am 15), .ref (am 16), .ref (am 17), .ref (am 18), .ref (am 19)]))] := hD
      obtain rfl : gr25 = 0 := hw.trans (by decide)
      refine lv_if_ne (tgt := 75) hx hb dX4_filter_70 (by decide) (fun h => absurd (by decide) h) (fun _ => ?_)
      refine lv_iconst (v := 0) hx hb dX4_filter_73 (by decide) ?_
      have hP9 := hP
      have hD9 := hD
      exact W.iret (v := 0) hx hb hr (fun t ht hW => ⟨⟨0, 1, rfl, by dsimp only; unfold filtC; rw [if_pos ci3, if_pos c3, if_pos ci13, if_neg ci22], by rw [ht]; exact hP9, hD9⟩, hS.F ht⟩) hS.2.2 dX4_filter_74
    obtain rfl : rs20 = 1 := hw.trans (stp_1 ci22)
    refine lv_if_eq (tgt := 40) hx hb dX4_filter_33 (by decide) (fun h => absurd h (by decide)) (fun _ => ?_)
    refine lv_iconst (v := 1) hx hb dX4_filter_36 (by decide) ?_
    refine lv_goto (tgt := 41) hx hb dX4_filter_37 (by decide) ?_
    refine lv_istore (lv' := [(4, .int 1), (0, .ref om), (1, .int kd), (2, .int tn1), (3, .int st)]) hx hb dX4_filter_41 hl (by decide) rfl (fun ls hl => ?_)
    refine lv_aload_n hx hb dX4_filter_43 rfl (lv_at hl 1 rfl) ?_
    refine lv_iload hx hb dX4_filter_44 (lv_at hl 0 rfl) ?_
    refine lv_if_ne (tgt := 53) hx hb dX4_filter_46 (by decide) (fun _ => ?_) (fun h => absurd h (by decide))
    refine lv_aload_n hx hb dX4_filter_53 rfl (lv_at hl 1 rfl) ?_
    refine va_get (D := G) (ci := 4) (v := .int (nI nf)) (C := RX4) (T := TX4) (N := 24) hx hb hts in_X4_filter_X4 hown hK hP 0 rfl rfl 8 (by decide) (hts (.fieldLink RX4 75 "EchoBenchModel" "filters" "I") (by decide +kernel)) (fun _ h9 => h9) rfl dX4_filter_54 ?_
    refine lv_bipush (v := 6) hx hb dX4_filter_57 (by decide) ?_
    refine lv_icmp_ne (tgt := 66) hx hb dX4_filter_59 (by decide) (fun c9 => ?_) (fun c9 => ?_)
    · skip
      exact absurd (by unfold filtC; rw [if_pos ci3, if_pos c3, if_pos ci13, if_pos ci22, if_neg c9]) hc
    · skip
      refine lv_iconst (v := 2) hx hb dX4_filter_62 (by decide) ?_
      refine lv_goto (tgt := 67) hx hb dX4_filter_63 (by decide) ?_
      have hPc := hP.sub (ws' := [(om, .inr (4, [.int th, .int sa, .ref (am 0), .ref (am 1), .double mi, .ref (am 2), .ref (am 3), .ref (am 4), .int (nI nf), .ref (am 5), .ref (am 6), .ref (am 7), .ref (am 8), .ref (am 9), .ref (am 10), .ref (am 11), .ref (am 12), .ref (am 13), .ref (am 14), .ref (am 15), .ref (am 16), .ref (am 17), .ref (am 18), .ref (am 19)]))]) [0] rfl
      have hDc := hD.sub (ws' := [(om, .inr (4, [.int th, .int sa, .ref (am 0), .ref (am 1), .double mi, .ref (am 2), .ref (am 3), .ref (am 4), .int (nI nf), .ref (am 5), .ref (am 6), .ref (am 7), .ref (am 8), .ref (am 9), .ref (am 10), .ref (am 11), .ref (am 12), .ref (am 13), .ref (am 14), .ref (am 15), .ref (am 16), .ref (am 17), .ref (am 18), .ref (am 19)]))]) [0] (by decide) rfl
      have hFc := va_free (wc := [(om, .inr (4, [.int th, .int sa, .ref (am 0), .ref (am 1), .double mi, .ref (am 2), .ref (am 3), .ref (am 4), .int (nI nf), .ref (am 5), .ref (am 6), .ref (am 7), .ref (am 8), .ref (am 9), .ref (am 10), .ref (am 11), .ref (am 12), .ref (am 13), .ref (am 14), .ref (am 15), .ref (am 16), .ref (am 17), .ref (am 18), .ref (am 19)]))]) hD hS hA [0] rfl
      refine va_calli (va_runV (As := [.int 2]) (rest := []) ⟨hx, hb, hml, hown, hts⟩ (m_X4_goesWell l G q H.size om am th sa (nI nf) mi 2) (cwV 1 hts gX4_filter_X4_goesWell rfl rfl rfl (by decide +kernel) ⟨Nat.le_of_ble_eq_true rfl, Nat.le_of_ble_eq_true rfl⟩) ⟨preW_blind, (va_recv hK hPc (ci := 4) (q0 := 0) rfl rfl), preW_start hPc hK hDc hNF⟩ rfl rfl hl.1 rfl (lv_room (Nat.le_of_ble_eq_true rfl)) dX4_filter_67 ⟨(Nat.zero_le _), (Nat.zero_le _)⟩) hS (fun q _ h => hFc q h) hFc (fun gr30 u9 t9 H1 locs ht9 hv9 hw hB9 hz9 hk9 hS => ?_)
      obtain ⟨⟩ := u9
      obtain ⟨hP1, hD1⟩ := hB9
      rw [ht9] at hP1
      obtain ⟨hP, hD⟩ := va_join (wr := []) (w1 := [(om, .inr (4, [.int 2, .int sa, .ref (am 0), .ref (am 1), .double mi, .ref (am 2), .ref (am 3), .ref (am 4), .int (nI nf), .ref (am 5), .ref (am 6), .ref (am 7), .ref (am 8), .ref (am 9), .ref (am 10), .ref (am 11), .ref (am 12), .ref (am 13), .ref (am 14), .ref (am 15), .ref (am 16), .ref (am 17), .ref (am 18), .ref (am 19)]))]) hP hD [0] [] rfl rfl (by decide) (by decide) hk9 hFc hP1 hD1
      generalize H1 = H at hP hS ⊢
      have hP : va_P G vwCl [(om, .inr (4, [.int 2, .int sa, .ref (am 0), .ref (am 1), .double mi, .ref (am 2), .ref (am 3), .ref (am 4), .int (nI nf), .ref (am 5), .ref (am 6), .ref (am 7), .ref (am 8), .ref (am 9), .ref (am 10), .ref (am 11), .ref (am 12), .ref (am 13), .ref (am 14), .ref (am 15), .ref (am 16), .ref (am 17), .ref (am 18), .ref (am 19)]))] H := hP
      have hD : va_D A [(om, .inr (4, [.int 2, .int sa, .ref (am 0), .ref (am 1), .double mi, .ref (am 2), .ref (am 3), .ref (am 4), .int (nI nf), .ref (am 5), .ref (am 6), .ref (am 7), .ref (am 8), .ref (am 9), .ref (am 10), .ref (am 11), .ref (am 12), .ref (am 13), .ref (am 14), .ref (am 15), .ref (am 16), .ref (am 17), .ref (am 18), .ref (am 19)]))] := hD
      obtain rfl : gr30 = 0 := hw.trans (by decide)
      refine lv_if_ne (tgt := 75) hx hb dX4_filter_70 (by decide) (fun h => absurd (by decide) h) (fun _ => ?_)
      refine lv_iconst (v := 0) hx hb dX4_filter_73 (by decide) ?_
      have hP9 := hP
      have hD9 := hD
      exact W.iret (v := 0) hx hb hr (fun t ht hW => ⟨⟨0, 2, rfl, by dsimp only; unfold filtC; rw [if_pos ci3, if_pos c3, if_pos ci13, if_pos ci22, if_pos c9], by rw [ht]; exact hP9, hD9⟩, hS.F ht⟩) hS.2.2 dX4_filter_74
  refine lv_icmp_ne (tgt := 20) hx hb dX4_filter_13 (by decide) (fun _ => ?_) (fun h => absurd h c3)
  refine lv_bipush (v := 8) hx hb dX4_filter_20 (by decide) ?_
  have hPc := hP.sub (ws' := []) [] rfl
  have hDc := hD.sub (ws' := []) [] (by decide) rfl
  have hFc := va_free (wc := []) hD hS hA [] rfl
  refine va_calli (va_runS (As := [.int tn1, .int 1, .int 8]) (rest := []) ⟨hx, hb, hml, hown, hts⟩ (m_X4_in l G q H.size tn1 1 8) (va_cwS 3 hts gX4_filter_X4_in rfl rfl rfl (by decide +kernel) ⟨Nat.le_of_ble_eq_true rfl, Nat.le_of_ble_eq_true rfl⟩) ⟨preW_blind, preW_start hPc hK hDc hNF⟩ rfl rfl hl.1 rfl (lv_room (Nat.le_of_ble_eq_true rfl)) dX4_filter_22 ⟨(Nat.zero_le _), (Nat.zero_le _)⟩) hS (fun q _ h => hFc q h) hFc (fun ri34 u9 t9 H1 locs ht9 hv9 hw hB9 hz9 hk9 hS => ?_)
  obtain ⟨⟩ := u9
  obtain ⟨hP1, hD1⟩ := hB9
  rw [ht9] at hP1
  obtain ⟨hP, hD⟩ := va_join (wr := [(om, .inr (4, [.int th, .int sa, .ref (am 0), .ref (am 1), .double mi, .ref (am 2), .ref (am 3), .ref (am 4), .int (nI nf), .ref (am 5), .ref (am 6), .ref (am 7), .ref (am 8), .ref (am 9), .ref (am 10), .ref (am 11), .ref (am 12), .ref (am 13), .ref (am 14), .ref (am 15), .ref (am 16), .ref (am 17), .ref (am 18), .ref (am 19)]))]) (w1 := []) hP hD [] [0] rfl rfl (by decide) (by decide) hk9 hFc hP1 hD1
  generalize H1 = H at hP hS ⊢
  have hP : va_P G vwCl [(om, .inr (4, [.int th, .int sa, .ref (am 0), .ref (am 1), .double mi, .ref (am 2), .ref (am 3), .ref (am 4), .int (nI nf), .ref (am 5), .ref (am 6), .ref (am 7), .ref (am 8), .ref (am 9), .ref (am 10), .ref (am 11), .ref (am 12), .ref (am 13), .ref (am 14), .ref (am 15), .ref (am 16), .ref (am 17), .ref (am 18), .ref (am 19)]))] H := hP
  have hD : va_D A [(om, .inr (4, [.int th, .int sa, .ref (am 0), .ref (am 1), .double mi, .ref (am 2), .ref (am 3), .ref (am 4), .int (nI nf), .ref (am 5), .ref (am 6), .ref (am 7), .ref (am 8), .ref (am 9), .ref (am 10), .ref (am 11), .ref (am 12), .ref (am 13), .ref (am 14), .ref (am 15), .ref (am 16), .ref (am 17), .ref (am 18), .ref (am 19)]))] := hD
  by_cases ci36 : 1 ≤ tn1 ∧ tn1 ≤ 8
  rotate_left
  · skip
    obtain rfl : ri34 = 0 := hw.trans (if_neg ci36)
    refine lv_if_eq (tgt := 40) hx hb dX4_filter_25 (by decide) (fun _ => ?_) (fun h => absurd (by decide) h)
    refine lv_iconst (v := 0) hx hb dX4_filter_40 (by decide) ?_
    refine lv_istore (lv' := [(4, .int 0), (0, .ref om), (1, .int kd), (2, .int tn1), (3, .int st)]) hx hb dX4_filter_41 hl (by decide) rfl (fun ls hl => ?_)
    refine lv_aload_n hx hb dX4_filter_43 rfl (lv_at hl 1 rfl) ?_
    refine lv_iload hx hb dX4_filter_44 (lv_at hl 0 rfl) ?_
    refine lv_if_ne (tgt := 53) hx hb dX4_filter_46 (by decide) (fun h => absurd (by decide) h) (fun _ => ?_)
    refine lv_iconst (v := 1) hx hb dX4_filter_49 (by decide) ?_
    refine lv_goto (tgt := 67) hx hb dX4_filter_50 (by decide) ?_
    have hPc := hP.sub (ws' := [(om, .inr (4, [.int th, .int sa, .ref (am 0), .ref (am 1), .double mi, .ref (am 2), .ref (am 3), .ref (am 4), .int (nI nf), .ref (am 5), .ref (am 6), .ref (am 7), .ref (am 8), .ref (am 9), .ref (am 10), .ref (am 11), .ref (am 12), .ref (am 13), .ref (am 14), .ref (am 15), .ref (am 16), .ref (am 17), .ref (am 18), .ref (am 19)]))]) [0] rfl
    have hDc := hD.sub (ws' := [(om, .inr (4, [.int th, .int sa, .ref (am 0), .ref (am 1), .double mi, .ref (am 2), .ref (am 3), .ref (am 4), .int (nI nf), .ref (am 5), .ref (am 6), .ref (am 7), .ref (am 8), .ref (am 9), .ref (am 10), .ref (am 11), .ref (am 12), .ref (am 13), .ref (am 14), .ref (am 15), .ref (am 16), .ref (am 17), .ref (am 18), .ref (am 19)]))]) [0] (by decide) rfl
    have hFc := va_free (wc := [(om, .inr (4, [.int th, .int sa, .ref (am 0), .ref (am 1), .double mi, .ref (am 2), .ref (am 3), .ref (am 4), .int (nI nf), .ref (am 5), .ref (am 6), .ref (am 7), .ref (am 8), .ref (am 9), .ref (am 10), .ref (am 11), .ref (am 12), .ref (am 13), .ref (am 14), .ref (am 15), .ref (am 16), .ref (am 17), .ref (am 18), .ref (am 19)]))]) hD hS hA [0] rfl
    refine va_calli (va_runV (As := [.int 1]) (rest := []) ⟨hx, hb, hml, hown, hts⟩ (m_X4_goesWell l G q H.size om am th sa (nI nf) mi 1) (cwV 1 hts gX4_filter_X4_goesWell rfl rfl rfl (by decide +kernel) ⟨Nat.le_of_ble_eq_true rfl, Nat.le_of_ble_eq_true rfl⟩) ⟨preW_blind, (va_recv hK hPc (ci := 4) (q0 := 0) rfl rfl), preW_start hPc hK hDc hNF⟩ rfl rfl hl.1 rfl (lv_room (Nat.le_of_ble_eq_true rfl)) dX4_filter_67 ⟨(Nat.zero_le _), (Nat.zero_le _)⟩) hS (fun q _ h => hFc q h) hFc (fun gr39 u9 t9 H1 locs ht9 hv9 hw hB9 hz9 hk9 hS => ?_)
    obtain ⟨⟩ := u9
    obtain ⟨hP1, hD1⟩ := hB9
    rw [ht9] at hP1
    obtain ⟨hP, hD⟩ := va_join (wr := []) (w1 := [(om, .inr (4, [.int 1, .int sa, .ref (am 0), .ref (am 1), .double mi, .ref (am 2), .ref (am 3), .ref (am 4), .int (nI nf), .ref (am 5), .ref (am 6), .ref (am 7), .ref (am 8), .ref (am 9), .ref (am 10), .ref (am 11), .ref (am 12), .ref (am 13), .ref (am 14), .ref (am 15), .ref (am 16), .ref (am 17), .ref (am 18), .ref (am 19)]))]) hP hD [0] [] rfl rfl (by decide) (by decide) hk9 hFc hP1 hD1
    generalize H1 = H at hP hS ⊢
    have hP : va_P G vwCl [(om, .inr (4, [.int 1, .int sa, .ref (am 0), .ref (am 1), .double mi, .ref (am 2), .ref (am 3), .ref (am 4), .int (nI nf), .ref (am 5), .ref (am 6), .ref (am 7), .ref (am 8), .ref (am 9), .ref (am 10), .ref (am 11), .ref (am 12), .ref (am 13), .ref (am 14), .ref (am 15), .ref (am 16), .ref (am 17), .ref (am 18), .ref (am 19)]))] H := hP
    have hD : va_D A [(om, .inr (4, [.int 1, .int sa, .ref (am 0), .ref (am 1), .double mi, .ref (am 2), .ref (am 3), .ref (am 4), .int (nI nf), .ref (am 5), .ref (am 6), .ref (am 7), .ref (am 8), .ref (am 9), .ref (am 10), .ref (am 11), .ref (am 12), .ref (am 13), .ref (am 14), .ref (am 15), .ref (am 16), .ref (am 17), .ref (am 18), .ref (am 19)]))] := hD
    obtain rfl : gr39 = 0 := hw.trans (by decide)
    refine lv_if_ne (tgt := 75) hx hb dX4_filter_70 (by decide) (fun h => absurd (by decide) h) (fun _ => ?_)
    refine lv_iconst (v := 0) hx hb dX4_filter_73 (by decide) ?_
    have hP9 := hP
    have hD9 := hD
    exact W.iret (v := 0) hx hb hr (fun t ht hW => ⟨⟨0, 1, rfl, by dsimp only; unfold filtC; rw [if_pos ci3, if_neg c3, if_neg ci36], by rw [ht]; exact hP9, hD9⟩, hS.F ht⟩) hS.2.2 dX4_filter_74
  obtain rfl : ri34 = 1 := hw.trans (if_pos ci36)
  refine lv_if_eq (tgt := 40) hx hb dX4_filter_25 (by decide) (fun h => absurd h (by decide)) (fun _ => ?_)
  refine lv_iload_n hx hb dX4_filter_28 rfl (lv_at hl 1 rfl) ?_
  refine lv_iload_n hx hb dX4_filter_29 rfl (lv_at hl 3 rfl) ?_
  have hPc := hP.sub (ws' := []) [] rfl
  have hDc := hD.sub (ws' := []) [] (by decide) rfl
  have hFc := va_free (wc := []) hD hS hA [] rfl
  refine va_calli (va_runS (As := [.int kd, .int st]) (rest := []) ⟨hx, hb, hml, hown, hts⟩ (m_X4_isStep l G q H.size kd st) (va_cwS 2 hts gX4_filter_X4_isStep rfl rfl rfl (by decide +kernel) ⟨Nat.le_of_ble_eq_true rfl, Nat.le_of_ble_eq_true rfl⟩) ⟨preW_blind, preW_start hPc hK hDc hNF⟩ rfl rfl hl.1 rfl (lv_room (Nat.le_of_ble_eq_true rfl)) dX4_filter_30 ⟨(Nat.zero_le _), (Nat.zero_le _)⟩) hS (fun q _ h => hFc q h) hFc (fun rs43 u9 t9 H1 locs ht9 hv9 hw hB9 hz9 hk9 hS => ?_)
  obtain ⟨⟩ := u9
  obtain ⟨hP1, hD1⟩ := hB9
  rw [ht9] at hP1
  obtain ⟨hP, hD⟩ := va_join (wr := [(om, .inr (4, [.int th, .int sa, .ref (am 0), .ref (am 1), .double mi, .ref (am 2), .ref (am 3), .ref (am 4), .int (nI nf), .ref (am 5), .ref (am 6), .ref (am 7), .ref (am 8), .ref (am 9), .ref (am 10), .ref (am 11), .ref (am 12), .ref (am 13), .ref (am 14), .ref (am 15), .ref (am 16), .ref (am 17), .ref (am 18), .ref (am 19)]))]) (w1 := []) hP hD [] [0] rfl rfl (by decide) (by decide) hk9 hFc hP1 hD1
  generalize H1 = H at hP hS ⊢
  have hP : va_P G vwCl [(om, .inr (4, [.int th, .int sa, .ref (am 0), .ref (am 1), .double mi, .ref (am 2), .ref (am 3), .ref (am 4), .int (nI nf), .ref (am 5), .ref (am 6), .ref (am 7), .ref (am 8), .ref (am 9), .ref (am 10), .ref (am 11), .ref (am 12), .ref (am 13), .ref (am 14), .ref (am 15), .ref (am 16), .ref (am 17), .ref (am 18), .ref (am 19)]))] H := hP
  have hD : va_D A [(om, .inr (4, [.int th, .int sa, .ref (am 0), .ref (am 1), .double mi, .ref (am 2), .ref (am 3), .ref (am 4), .int (nI nf), .ref (am 5), .ref (am 6), .ref (am 7), .ref (am 8), .ref (am 9), .ref (am 10), .ref (am 11), .ref (am 12), .ref (am 13), .ref (am 14), .ref (am 15), .ref (am 16), .ref (am 17), .ref (am 18), .ref (am 19)]))] := hD
  by_cases ci45 : stpB kd st
  rotate_left
  · skip
    obtain rfl : rs43 = 0 := hw.trans (stp_0 ci45)
    refine lv_if_eq (tgt := 40) hx hb dX4_filter_33 (by decide) (fun _ => ?_) (fun h => absurd (by decide) h)
    refine lv_iconst (v := 0) hx hb dX4_filter_40 (by decide) ?_
    refine lv_istore (lv' := [(4, .int 0), (0, .ref om), (1, .int kd), (2, .int tn1), (3, .int st)]) hx hb dX4_filter_41 hl (by decide) rfl (fun ls hl => ?_)
    refine lv_aload_n hx hb dX4_filter_43 rfl (lv_at hl 1 rfl) ?_
    refine lv_iload hx hb dX4_filter_44 (lv_at hl 0 rfl) ?_
    refine lv_if_ne (tgt := 53) hx hb dX4_filter_46 (by decide) (fun h => absurd (by decide) h) (fun _ => ?_)
    refine lv_iconst (v := 1) hx hb dX4_filter_49 (by decide) ?_
    refine lv_goto (tgt := 67) hx hb dX4_filter_50 (by decide) ?_
    have hPc := hP.sub (ws' := [(om, .inr (4, [.int th, .int sa, .ref (am 0), .ref (am 1), .double mi, .ref (am 2), .ref (am 3), .ref (am 4), .int (nI nf), .ref (am 5), .ref (am 6), .ref (am 7), .ref (am 8), .ref (am 9), .ref (am 10), .ref (am 11), .ref (am 12), .ref (am 13), .ref (am 14), .ref (am 15), .ref (am 16), .ref (am 17), .ref (am 18), .ref (am 19)]))]) [0] rfl
    have hDc := hD.sub (ws' := [(om, .inr (4, [.int th, .int sa, .ref (am 0), .ref (am 1), .double mi, .ref (am 2), .ref (am 3), .ref (am 4), .int (nI nf), .ref (am 5), .ref (am 6), .ref (am 7), .ref (am 8), .ref (am 9), .ref (am 10), .ref (am 11), .ref (am 12), .ref (am 13), .ref (am 14), .ref (am 15), .ref (am 16), .ref (am 17), .ref (am 18), .ref (am 19)]))]) [0] (by decide) rfl
    have hFc := va_free (wc := [(om, .inr (4, [.int th, .int sa, .ref (am 0), .ref (am 1), .double mi, .ref (am 2), .ref (am 3), .ref (am 4), .int (nI nf), .ref (am 5), .ref (am 6), .ref (am 7), .ref (am 8), .ref (am 9), .ref (am 10), .ref (am 11), .ref (am 12), .ref (am 13), .ref (am 14), .ref (am 15), .ref (am 16), .ref (am 17), .ref (am 18), .ref (am 19)]))]) hD hS hA [0] rfl
    refine va_calli (va_runV (As := [.int 1]) (rest := []) ⟨hx, hb, hml, hown, hts⟩ (m_X4_goesWell l G q H.size om am th sa (nI nf) mi 1) (cwV 1 hts gX4_filter_X4_goesWell rfl rfl rfl (by decide +kernel) ⟨Nat.le_of_ble_eq_true rfl, Nat.le_of_ble_eq_true rfl⟩) ⟨preW_blind, (va_recv hK hPc (ci := 4) (q0 := 0) rfl rfl), preW_start hPc hK hDc hNF⟩ rfl rfl hl.1 rfl (lv_room (Nat.le_of_ble_eq_true rfl)) dX4_filter_67 ⟨(Nat.zero_le _), (Nat.zero_le _)⟩) hS (fun q _ h => hFc q h) hFc (fun gr48 u9 t9 H1 locs ht9 hv9 hw hB9 hz9 hk9 hS => ?_)
    obtain ⟨⟩ := u9
    obtain ⟨hP1, hD1⟩ := hB9
    rw [ht9] at hP1
    obtain ⟨hP, hD⟩ := va_join (wr := []) (w1 := [(om, .inr (4, [.int 1, .int sa, .ref (am 0), .ref (am 1), .double mi, .ref (am 2), .ref (am 3), .ref (am 4), .int (nI nf), .ref (am 5), .ref (am 6), .ref (am 7), .ref (am 8), .ref (am 9), .ref (am 10), .ref (am 11), .ref (am 12), .ref (am 13), .ref (am 14), .ref (am 15), .ref (am 16), .ref (am 17), .ref (am 18), .ref (am 19)]))]) hP hD [0] [] rfl rfl (by decide) (by decide) hk9 hFc hP1 hD1
    generalize H1 = H at hP hS ⊢
    have hP : va_P G vwCl [(om, .inr (4, [.int 1, .int sa, .ref (am 0), .ref (am 1), .double mi, .ref (am 2), .ref (am 3), .ref (am 4), .int (nI nf), .ref (am 5), .ref (am 6), .ref (am 7), .ref (am 8), .ref (am 9), .ref (am 10), .ref (am 11), .ref (am 12), .ref (am 13), .ref (am 14), .ref (am 15), .ref (am 16), .ref (am 17), .ref (am 18), .ref (am 19)]))] H := hP
    have hD : va_D A [(om, .inr (4, [.int 1, .int sa, .ref (am 0), .ref (am 1), .double mi, .ref (am 2), .ref (am 3), .ref (am 4), .int (nI nf), .ref (am 5), .ref (am 6), .ref (am 7), .ref (am 8), .ref (am 9), .ref (am 10), .ref (am 11), .ref (am 12), .ref (am 13), .ref (am 14), .ref (am 15), .ref (am 16), .ref (am 17), .ref (am 18), .ref (am 19)]))] := hD
    obtain rfl : gr48 = 0 := hw.trans (by decide)
    refine lv_if_ne (tgt := 75) hx hb dX4_filter_70 (by decide) (fun h => absurd (by decide) h) (fun _ => ?_)
    refine lv_iconst (v := 0) hx hb dX4_filter_73 (by decide) ?_
    have hP9 := hP
    have hD9 := hD
    exact W.iret (v := 0) hx hb hr (fun t ht hW => ⟨⟨0, 1, rfl, by dsimp only; unfold filtC; rw [if_pos ci3, if_neg c3, if_pos ci36, if_neg ci45], by rw [ht]; exact hP9, hD9⟩, hS.F ht⟩) hS.2.2 dX4_filter_74
  obtain rfl : rs43 = 1 := hw.trans (stp_1 ci45)
  refine lv_if_eq (tgt := 40) hx hb dX4_filter_33 (by decide) (fun h => absurd h (by decide)) (fun _ => ?_)
  refine lv_iconst (v := 1) hx hb dX4_filter_36 (by decide) ?_
  refine lv_goto (tgt := 41) hx hb dX4_filter_37 (by decide) ?_
  refine lv_istore (lv' := [(4, .int 1), (0, .ref om), (1, .int kd), (2, .int tn1), (3, .int st)]) hx hb dX4_filter_41 hl (by decide) rfl (fun ls hl => ?_)
  refine lv_aload_n hx hb dX4_filter_43 rfl (lv_at hl 1 rfl) ?_
  refine lv_iload hx hb dX4_filter_44 (lv_at hl 0 rfl) ?_
  refine lv_if_ne (tgt := 53) hx hb dX4_filter_46 (by decide) (fun _ => ?_) (fun h => absurd h (by decide))
  refine lv_aload_n hx hb dX4_filter_53 rfl (lv_at hl 1 rfl) ?_
  refine va_get (D := G) (ci := 4) (v := .int (nI nf)) (C := RX4) (T := TX4) (N := 24) hx hb hts in_X4_filter_X4 hown hK hP 0 rfl rfl 8 (by decide) (hts (.fieldLink RX4 75 "EchoBenchModel" "filters" "I") (by decide +kernel)) (fun _ h9 => h9) rfl dX4_filter_54 ?_
  refine lv_bipush (v := 6) hx hb dX4_filter_57 (by decide) ?_
  refine lv_icmp_ne (tgt := 66) hx hb dX4_filter_59 (by decide) (fun c9 => ?_) (fun c9 => ?_)
  · skip
    exact absurd (by unfold filtC; rw [if_pos ci3, if_neg c3, if_pos ci36, if_pos ci45, if_neg c9]) hc
  · skip
    refine lv_iconst (v := 2) hx hb dX4_filter_62 (by decide) ?_
    refine lv_goto (tgt := 67) hx hb dX4_filter_63 (by decide) ?_
    have hPc := hP.sub (ws' := [(om, .inr (4, [.int th, .int sa, .ref (am 0), .ref (am 1), .double mi, .ref (am 2), .ref (am 3), .ref (am 4), .int (nI nf), .ref (am 5), .ref (am 6), .ref (am 7), .ref (am 8), .ref (am 9), .ref (am 10), .ref (am 11), .ref (am 12), .ref (am 13), .ref (am 14), .ref (am 15), .ref (am 16), .ref (am 17), .ref (am 18), .ref (am 19)]))]) [0] rfl
    have hDc := hD.sub (ws' := [(om, .inr (4, [.int th, .int sa, .ref (am 0), .ref (am 1), .double mi, .ref (am 2), .ref (am 3), .ref (am 4), .int (nI nf), .ref (am 5), .ref (am 6), .ref (am 7), .ref (am 8), .ref (am 9), .ref (am 10), .ref (am 11), .ref (am 12), .ref (am 13), .ref (am 14), .ref (am 15), .ref (am 16), .ref (am 17), .ref (am 18), .ref (am 19)]))]) [0] (by decide) rfl
    have hFc := va_free (wc := [(om, .inr (4, [.int th, .int sa, .ref (am 0), .ref (am 1), .double mi, .ref (am 2), .ref (am 3), .ref (am 4), .int (nI nf), .ref (am 5), .ref (am 6), .ref (am 7), .ref (am 8), .ref (am 9), .ref (am 10), .ref (am 11), .ref (am 12), .ref (am 13), .ref (am 14), .ref (am 15), .ref (am 16), .ref (am 17), .ref (am 18), .ref (am 19)]))]) hD hS hA [0] rfl
    refine va_calli (va_runV (As := [.int 2]) (rest := []) ⟨hx, hb, hml, hown, hts⟩ (m_X4_goesWell l G q H.size om am th sa (nI nf) mi 2) (cwV 1 hts gX4_filter_X4_goesWell rfl rfl rfl (by decide +kernel) ⟨Nat.le_of_ble_eq_true rfl, Nat.le_of_ble_eq_true rfl⟩) ⟨preW_blind, (va_recv hK hPc (ci := 4) (q0 := 0) rfl rfl), preW_start hPc hK hDc hNF⟩ rfl rfl hl.1 rfl (lv_room (Nat.le_of_ble_eq_true rfl)) dX4_filter_67 ⟨(Nat.zero_le _), (Nat.zero_le _)⟩) hS (fun q _ h => hFc q h) hFc (fun gr53 u9 t9 H1 locs ht9 hv9 hw hB9 hz9 hk9 hS => ?_)
    obtain ⟨⟩ := u9
    obtain ⟨hP1, hD1⟩ := hB9
    rw [ht9] at hP1
    obtain ⟨hP, hD⟩ := va_join (wr := []) (w1 := [(om, .inr (4, [.int 2, .int sa, .ref (am 0), .ref (am 1), .double mi, .ref (am 2), .ref (am 3), .ref (am 4), .int (nI nf), .ref (am 5), .ref (am 6), .ref (am 7), .ref (am 8), .ref (am 9), .ref (am 10), .ref (am 11), .ref (am 12), .ref (am 13), .ref (am 14), .ref (am 15), .ref (am 16), .ref (am 17), .ref (am 18), .ref (am 19)]))]) hP hD [0] [] rfl rfl (by decide) (by decide) hk9 hFc hP1 hD1
    generalize H1 = H at hP hS ⊢
    have hP : va_P G vwCl [(om, .inr (4, [.int 2, .int sa, .ref (am 0), .ref (am 1), .double mi, .ref (am 2), .ref (am 3), .ref (am 4), .int (nI nf), .ref (am 5), .ref (am 6), .ref (am 7), .ref (am 8), .ref (am 9), .ref (am 10), .ref (am 11), .ref (am 12), .ref (am 13), .ref (am 14), .ref (am 15), .ref (am 16), .ref (am 17), .ref (am 18), .ref (am 19)]))] H := hP
    have hD : va_D A [(om, .inr (4, [.int 2, .int sa, .ref (am 0), .ref (am 1), .double mi, .ref (am 2), .ref (am 3), .ref (am 4), .int (nI nf), .ref (am 5), .ref (am 6), .ref (am 7), .ref (am 8), .ref (am 9), .ref (am 10), .ref (am 11), .ref (am 12), .ref (am 13), .ref (am 14), .ref (am 15), .ref (am 16), .ref (am 17), .ref (am 18), .ref (am 19)]))] := hD
    obtain rfl : gr53 = 0 := hw.trans (by decide)
    refine lv_if_ne (tgt := 75) hx hb dX4_filter_70 (by decide) (fun h => absurd (by decide) h) (fun _ => ?_)
    refine lv_iconst (v := 0) hx hb dX4_filter_73 (by decide) ?_
    have hP9 := hP
    have hD9 := hD
    exact W.iret (v := 0) hx hb hr (fun t ht hW => ⟨⟨0, 2, rfl, by dsimp only; unfold filtC; rw [if_pos ci3, if_neg c3, if_pos ci36, if_pos ci45, if_pos c9], by rw [ht]; exact hP9, hD9⟩, hS.F ht⟩) hS.2.2 dX4_filter_74

theorem in_X4_begin_X4 : ∀ w ∈ wsX40, w ∈ wsX4_begin := by decide +kernel
set_option maxHeartbeats 4000000 in
set_option maxRecDepth 100000 in
/-- begin: where it goes well -/
theorem m_X4_begin (l : Launch) (G : va_G) (q : Nat → ClassId) (sz : Nat) (om : Nat) (am : Nat → Nat) (th sa : Int32) (mi : UInt64) (nf : Nat) (fx : Nat) (Li : Nat → Int32) (Hi : Nat → Int32) (Di : Nat → Int32) (Ri : Nat → Int32) (Wt : Nat → UInt64) (Ou : Nat → UInt64) (Er : Nat → UInt64) (Sq : Nat → UInt64) (hnf : nf ≤ 6) (hfx : fx < nf) : Met l yX4_begin wsX4_begin ({ frames := 2, cells := 0, slots := 0, locals := 43 } : Jvm.Room) (PreW G q [.ref om, .int (nI fx)] [(om, .inr (4, [.int th, .int sa, .ref (am 0), .ref (am 1), .double mi, .ref (am 2), .ref (am 3), .ref (am 4), .int (nI nf), .ref (am 5), .ref (am 6), .ref (am 7), .ref (am 8), .ref (am 9), .ref (am 10), .ref (am 11), .ref (am 12), .ref (am 13), .ref (am 14), .ref (am 15), .ref (am 16), .ref (am 17), .ref (am 18), .ref (am 19)])), ((am 10), aI q 6 Li), ((am 11), aI q 6 Hi), ((am 12), aI q 6 Di), ((am 13), aI q 6 Ri), ((am 14), aD q 48 Wt), ((am 15), aD q 6 Ou), ((am 16), aD q 6 Er), ((am 18), aD q 96 Sq)] sz) (va_Qv (fun (u : (Nat → UInt64) × (Nat → UInt64)) => ((∀ j, j < 8 → u.1 (8 * fx + j) = 0) ∧ ∀ i, (i < 8 * fx ∨ 8 * fx + 8 ≤ i) → u.1 i = Wt i) ∧ (∀ a c, a < 4 → c < 4 → u.2 (16 * fx + 4 * a + c) = if a = c then H100 else 0) ∧ ∀ i, (i < 16 * fx ∨ 16 * fx + 16 ≤ i) → u.2 i = Sq i) (fun (u : (Nat → UInt64) × (Nat → UInt64)) t => EndA G (va_A [(om, .inr (4, [.int th, .int sa, .ref (am 0), .ref (am 1), .double mi, .ref (am 2), .ref (am 3), .ref (am 4), .int (nI nf), .ref (am 5), .ref (am 6), .ref (am 7), .ref (am 8), .ref (am 9), .ref (am 10), .ref (am 11), .ref (am 12), .ref (am 13), .ref (am 14), .ref (am 15), .ref (am 16), .ref (am 17), .ref (am 18), .ref (am 19)])), ((am 10), aI q 6 Li), ((am 11), aI q 6 Hi), ((am 12), aI q 6 Di), ((am 13), aI q 6 Ri), ((am 14), aD q 48 Wt), ((am 15), aD q 6 Ou), ((am 16), aD q 6 Er), ((am 18), aD q 96 Sq)] sz) [(om, .inr (4, [.int 0, .int sa, .ref (am 0), .ref (am 1), .double mi, .ref (am 2), .ref (am 3), .ref (am 4), .int (nI nf), .ref (am 5), .ref (am 6), .ref (am 7), .ref (am 8), .ref (am 9), .ref (am 10), .ref (am 11), .ref (am 12), .ref (am 13), .ref (am 14), .ref (am 15), .ref (am 16), .ref (am 17), .ref (am 18), .ref (am 19)])), ((am 10), aI q 6 (vf_upd Li fx 0)), ((am 11), aI q 6 (vf_upd Hi fx 0)), ((am 12), aI q 6 (vf_upd Di fx 0)), ((am 13), aI q 6 (vf_upd Ri fx 0)), ((am 14), aD q 48 u.1), ((am 15), aD q 6 (vf_upd Ou fx 0)), ((am 16), aD q 6 (vf_upd Er fx 0)), ((am 18), aD q 96 u.2)] t) (va_A [(om, .inr (4, [.int th, .int sa, .ref (am 0), .ref (am 1), .double mi, .ref (am 2), .ref (am 3), .ref (am 4), .int (nI nf), .ref (am 5), .ref (am 6), .ref (am 7), .ref (am 8), .ref (am 9), .ref (am 10), .ref (am 11), .ref (am 12), .ref (am 13), .ref (am 14), .ref (am 15), .ref (am 16), .ref (am 17), .ref (am 18), .ref (am 19)])), ((am 10), aI q 6 Li), ((am 11), aI q 6 Hi), ((am 12), aI q 6 Di), ((am 13), aI q 6 Ri), ((am 14), aD q 48 Wt), ((am 15), aD q 6 Ou), ((am 16), aD q 6 Er), ((am 18), aD q 96 Sq)] sz)) 0 0 (va_A [(om, .inr (4, [.int th, .int sa, .ref (am 0), .ref (am 1), .double mi, .ref (am 2), .ref (am 3), .ref (am 4), .int (nI nf), .ref (am 5), .ref (am 6), .ref (am 7), .ref (am 8), .ref (am 9), .ref (am 10), .ref (am 11), .ref (am 12), .ref (am 13), .ref (am 14), .ref (am 15), .ref (am 16), .ref (am 17), .ref (am 18), .ref (am 19)])), ((am 10), aI q 6 Li), ((am 11), aI q 6 Hi), ((am 12), aI q 6 Di), ((am 13), aI q 6 Ri), ((am 14), aD q 48 Wt), ((am 15), aD q 6 Ou), ((am 16), aD q 6 Er), ((am 18), aD q 96 Sq)] sz) := by
  refine Met.ofW (cc := cX4_begin) (maxL := 3) (ret := none) (by decide +kernel) rfl ?_
  intro p e s m args below meth c s₁ B hml hv
  obtain ⟨rfl, hsz, hP, hK, hD0, hNF⟩ := hv
  have hx := B.exec
  have hb := B.bytes
  have hr := B.returns
  have hts := atoms_spec (ws := wsX4_begin) B.pre
  have hown : s.vm.findClass RX4 = some m.cls := findClass_of_methodNamed B.named
  have hlocks := B.notSynchronized
  subst hsz
  have hD := hD0.self (sz := s.heap.size)
  generalize hAe : va_A [(om, .inr (4, [.int th, .int sa, .ref (am 0), .ref (am 1), .double mi, .ref (am 2), .ref (am 3), .ref (am 4), .int (nI nf), .ref (am 5), .ref (am 6), .ref (am 7), .ref (am 8), .ref (am 9), .ref (am 10), .ref (am 11), .ref (am 12), .ref (am 13), .ref (am 14), .ref (am 15), .ref (am 16), .ref (am 17), .ref (am 18), .ref (am 19)])), ((am 10), aI q 6 Li), ((am 11), aI q 6 Hi), ((am 12), aI q 6 Di), ((am 13), aI q 6 Ri), ((am 14), aD q 48 Wt), ((am 15), aD q 6 Ou), ((am 16), aD q 6 Er), ((am 18), aD q 96 Sq)] s.heap.size = A at hD ⊢
  have hA : ∀ q : Nat, s.heap.size ≤ q → A q := fun q h => by rw [← hAe]; exact Or.inr h
  have hS : va_S A s.heap s.heap [] := va_S.rf
  have hP : va_P G vwCl [(om, .inr (4, [.int th, .int sa, .ref (am 0), .ref (am 1), .double mi, .ref (am 2), .ref (am 3), .ref (am 4), .int (nI nf), .ref (am 5), .ref (am 6), .ref (am 7), .ref (am 8), .ref (am 9), .ref (am 10), .ref (am 11), .ref (am 12), .ref (am 13), .ref (am 14), .ref (am 15), .ref (am 16), .ref (am 17), .ref (am 18), .ref (am 19)])), ((am 10), aI q 6 Li), ((am 11), aI q 6 Hi), ((am 12), aI q 6 Di), ((am 13), aI q 6 Ri), ((am 14), aD q 48 Wt), ((am 15), aD q 6 Ou), ((am 16), aD q 6 Er), ((am 18), aD q 96 Sq)] s.heap := hP
  have hl := lv_entry ([.ref om, .int (nI fx)]) (n := 3) (Nat.le_of_ble_eq_true rfl)
  rw [lg_entry_eq]
  generalize (lg_sl ([.ref om, .int (nI fx)]) ++ List.replicate (3 - (lg_sl ([.ref om, .int (nI fx)])).length) Slot.unset).toArray = ls at hl ⊢
  have hl : lv_has ls 3 [(0, .ref om), (1, .int (nI fx))] := hl
  refine lv_aload_n hx hb dX4_begin_0 rfl (lv_at hl 0 rfl) ?_
  refine lv_aload_n hx hb dX4_begin_1 rfl (lv_at hl 0 rfl) ?_
  refine lv_iload_n hx hb dX4_begin_2 rfl (lv_at hl 1 rfl) ?_
  have hPc := hP.sub (ws' := [(om, .inr (4, [.int th, .int sa, .ref (am 0), .ref (am 1), .double mi, .ref (am 2), .ref (am 3), .ref (am 4), .int (nI nf), .ref (am 5), .ref (am 6), .ref (am 7), .ref (am 8), .ref (am 9), .ref (am 10), .ref (am 11), .ref (am 12), .ref (am 13), .ref (am 14), .ref (am 15), .ref (am 16), .ref (am 17), .ref (am 18), .ref (am 19)]))]) [0] rfl
  have hDc := hD.sub (ws' := [(om, .inr (4, [.int th, .int sa, .ref (am 0), .ref (am 1), .double mi, .ref (am 2), .ref (am 3), .ref (am 4), .int (nI nf), .ref (am 5), .ref (am 6), .ref (am 7), .ref (am 8), .ref (am 9), .ref (am 10), .ref (am 11), .ref (am 12), .ref (am 13), .ref (am 14), .ref (am 15), .ref (am 16), .ref (am 17), .ref (am 18), .ref (am 19)]))]) [0] (by decide) rfl
  have hFc := va_free (wc := [(om, .inr (4, [.int th, .int sa, .ref (am 0), .ref (am 1), .double mi, .ref (am 2), .ref (am 3), .ref (am 4), .int (nI nf), .ref (am 5), .ref (am 6), .ref (am 7), .ref (am 8), .ref (am 9), .ref (am 10), .ref (am 11), .ref (am 12), .ref (am 13), .ref (am 14), .ref (am 15), .ref (am 16), .ref (am 17), .ref (am 18), .ref (am 19)]))]) hD hS hA [0] rfl
  refine va_calli (va_runV (As := [.int (nI fx)]) (rest := [.ref om]) ⟨hx, hb, hml, hown, hts⟩ (m_X4_isFilter l G q s.heap.size om am th sa (nI nf) mi (nI fx)) (cwV 1 hts gX4_begin_X4_isFilter rfl rfl rfl (by decide +kernel) ⟨Nat.le_of_ble_eq_true rfl, Nat.le_of_ble_eq_true rfl⟩) ⟨preW_blind, (va_recv hK hPc (ci := 4) (q0 := 0) rfl rfl), preW_start hPc hK hDc hNF⟩ rfl rfl hl.1 rfl (lv_room (Nat.le_of_ble_eq_true rfl)) dX4_begin_3 ⟨(Nat.zero_le _), (Nat.zero_le _)⟩) hS (fun q _ h => hFc q h) hFc (fun rf1 u9 t9 H1 locs ht9 hv9 hw hB9 hz9 hk9 hS => ?_)
  obtain ⟨⟩ := u9
  obtain ⟨hP1, hD1⟩ := hB9
  rw [ht9] at hP1
  obtain ⟨hP, hD⟩ := va_join (wr := [((am 10), aI q 6 Li), ((am 11), aI q 6 Hi), ((am 12), aI q 6 Di), ((am 13), aI q 6 Ri), ((am 14), aD q 48 Wt), ((am 15), aD q 6 Ou), ((am 16), aD q 6 Er), ((am 18), aD q 96 Sq)]) (w1 := [(om, .inr (4, [.int th, .int sa, .ref (am 0), .ref (am 1), .double mi, .ref (am 2), .ref (am 3), .ref (am 4), .int (nI nf), .ref (am 5), .ref (am 6), .ref (am 7), .ref (am 8), .ref (am 9), .ref (am 10), .ref (am 11), .ref (am 12), .ref (am 13), .ref (am 14), .ref (am 15), .ref (am 16), .ref (am 17), .ref (am 18), .ref (am 19)]))]) hP hD [0] [1, 2, 3, 4, 5, 6, 7, 8] rfl rfl (by decide) (by decide) hk9 hFc hP1 hD1
  generalize H1 = H at hP hS ⊢
  have hP : va_P G vwCl [((am 10), aI q 6 Li), ((am 11), aI q 6 Hi), ((am 12), aI q 6 Di), ((am 13), aI q 6 Ri), ((am 14), aD q 48 Wt), ((am 15), aD q 6 Ou), ((am 16), aD q 6 Er), ((am 18), aD q 96 Sq), (om, .inr (4, [.int th, .int sa, .ref (am 0), .ref (am 1), .double mi, .ref (am 2), .ref (am 3), .ref (am 4), .int (nI nf), .ref (am 5), .ref (am 6), .ref (am 7), .ref (am 8), .ref (am 9), .ref (am 10), .ref (am 11), .ref (am 12), .ref (am 13), .ref (am 14), .ref (am 15), .ref (am 16), .ref (am 17), .ref (am 18), .ref (am 19)]))] H := hP
  have hD : va_D A [((am 10), aI q 6 Li), ((am 11), aI q 6 Hi), ((am 12), aI q 6 Di), ((am 13), aI q 6 Ri), ((am 14), aD q 48 Wt), ((am 15), aD q 6 Ou), ((am 16), aD q 6 Er), ((am 18), aD q 96 Sq), (om, .inr (4, [.int th, .int sa, .ref (am 0), .ref (am 1), .double mi, .ref (am 2), .ref (am 3), .ref (am 4), .int (nI nf), .ref (am 5), .ref (am 6), .ref (am 7), .ref (am 8), .ref (am 9), .ref (am 10), .ref (am 11), .ref (am 12), .ref (am 13), .ref (am 14), .ref (am 15), .ref (am 16), .ref (am 17), .ref (am 18), .ref (am 19)]))] := hD
  obtain rfl : rf1 = 1 := hw.trans (if_pos (m1_in (by omega) hfx))
  refine lv_if_eq (tgt := 13) hx hb dX4_begin_6 (by decide) (fun h => absurd h (by decide)) (fun _ => ?_)
  refine lv_iconst (v := 0) hx hb dX4_begin_9 (by decide) ?_
  refine lv_goto (tgt := 14) hx hb dX4_begin_10 (by decide) ?_
  have hPc := hP.sub (ws' := [(om, .inr (4, [.int th, .int sa, .ref (am 0), .ref (am 1), .double mi, .ref (am 2), .ref (am 3), .ref (am 4), .int (nI nf), .ref (am 5), .ref (am 6), .ref (am 7), .ref (am 8), .ref (am 9), .ref (am 10), .ref (am 11), .ref (am 12), .ref (am 13), .ref (am 14), .ref (am 15), .ref (am 16), .ref (am 17), .ref (am 18), .ref (am 19)]))]) [8] rfl
  have hDc := hD.sub (ws' := [(om, .inr (4, [.int th, .int sa, .ref (am 0), .ref (am 1), .double mi, .ref (am 2), .ref (am 3), .ref (am 4), .int (nI nf), .ref (am 5), .ref (am 6), .ref (am 7), .ref (am 8), .ref (am 9), .ref (am 10), .ref (am 11), .ref (am 12), .ref (am 13), .ref (am 14), .ref (am 15), .ref (am 16), .ref (am 17), .ref (am 18), .ref (am 19)]))]) [8] (by decide) rfl
  have hFc := va_free (wc := [(om, .inr (4, [.int th, .int sa, .ref (am 0), .ref (am 1), .double mi, .ref (am 2), .ref (am 3), .ref (am 4), .int (nI nf), .ref (am 5), .ref (am 6), .ref (am 7), .ref (am 8), .ref (am 9), .ref (am 10), .ref (am 11), .ref (am 12), .ref (am 13), .ref (am 14), .ref (am 15), .ref (am 16), .ref (am 17), .ref (am 18), .ref (am 19)]))]) hD hS hA [8] rfl
  refine va_calli (va_runV (As := [.int 0]) (rest := []) ⟨hx, hb, hml, hown, hts⟩ (m_X4_goesWell l G q H.size om am th sa (nI nf) mi 0) (cwV 1 hts gX4_begin_X4_goesWell rfl rfl rfl (by decide +kernel) ⟨Nat.le_of_ble_eq_true rfl, Nat.le_of_ble_eq_true rfl⟩) ⟨preW_blind, (va_recv hK hPc (ci := 4) (q0 := 0) rfl rfl), preW_start hPc hK hDc hNF⟩ rfl rfl hl.1 rfl (lv_room (Nat.le_of_ble_eq_true rfl)) dX4_begin_14 ⟨(Nat.zero_le _), (Nat.zero_le _)⟩) hS (fun q _ h => hFc q h) hFc (fun gr4 u9 t9 H1 locs ht9 hv9 hw hB9 hz9 hk9 hS => ?_)
  obtain ⟨⟩ := u9
  obtain ⟨hP1, hD1⟩ := hB9
  rw [ht9] at hP1
  obtain ⟨hP, hD⟩ := va_join (wr := [((am 10), aI q 6 Li), ((am 11), aI q 6 Hi), ((am 12), aI q 6 Di), ((am 13), aI q 6 Ri), ((am 14), aD q 48 Wt), ((am 15), aD q 6 Ou), ((am 16), aD q 6 Er), ((am 18), aD q 96 Sq)]) (w1 := [(om, .inr (4, [.int 0, .int sa, .ref (am 0), .ref (am 1), .double mi, .ref (am 2), .ref (am 3), .ref (am 4), .int (nI nf), .ref (am 5), .ref (am 6), .ref (am 7), .ref (am 8), .ref (am 9), .ref (am 10), .ref (am 11), .ref (am 12), .ref (am 13), .ref (am 14), .ref (am 15), .ref (am 16), .ref (am 17), .ref (am 18), .ref (am 19)]))]) hP hD [8] [0, 1, 2, 3, 4, 5, 6, 7] rfl rfl (by decide) (by decide) hk9 hFc hP1 hD1
  generalize H1 = H at hP hS ⊢
  have hP : va_P G vwCl [((am 10), aI q 6 Li), ((am 11), aI q 6 Hi), ((am 12), aI q 6 Di), ((am 13), aI q 6 Ri), ((am 14), aD q 48 Wt), ((am 15), aD q 6 Ou), ((am 16), aD q 6 Er), ((am 18), aD q 96 Sq), (om, .inr (4, [.int 0, .int sa, .ref (am 0), .ref (am 1), .double mi, .ref (am 2), .ref (am 3), .ref (am 4), .int (nI nf), .ref (am 5), .ref (am 6), .ref (am 7), .ref (am 8), .ref (am 9), .ref (am 10), .ref (am 11), .ref (am 12), .ref (am 13), .ref (am 14), .ref (am 15), .ref (am 16), .ref (am 17), .ref (am 18), .ref (am 19)]))] H := hP
  have hD : va_D A [((am 10), aI q 6 Li), ((am 11), aI q 6 Hi), ((am 12), aI q 6 Di), ((am 13), aI q 6 Ri), ((am 14), aD q 48 Wt), ((am 15), aD q 6 Ou), ((am 16), aD q 6 Er), ((am 18), aD q 96 Sq), (om, .inr (4, [.int 0, .int sa, .ref (am 0), .ref (am 1), .double mi, .ref (am 2), .ref (am 3), .ref (am 4), .int (nI nf), .ref (am 5), .ref (am 6), .ref (am 7), .ref (am 8), .ref (am 9), .ref (am 10), .ref (am 11), .ref (am 12), .ref (am 13), .ref (am 14), .ref (am 15), .ref (am 16), .ref (am 17), .ref (am 18), .ref (am 19)]))] := hD
  obtain rfl : gr4 = 1 := hw.trans (by decide)
  refine lv_if_ne (tgt := 21) hx hb dX4_begin_17 (by decide) (fun _ => ?_) (fun h => absurd h (by decide))
  refine lv_iconst (v := 0) hx hb dX4_begin_21 (by decide) ?_
  refine lv_istore_n (lv' := [(2, .int 0), (0, .ref om), (1, .int (nI fx))]) hx hb dX4_begin_22 rfl hl (by decide) rfl (fun ls hl => ?_)
  have LOOP : ∀ (k : Nat) (j : Nat) (F : Nat → UInt64), j + k = 8 → (∀ i, i < j → F (8 * fx + i) = 0) → (∀ i, (i < 8 * fx ∨ 8 * fx + 8 ≤ i) → F i = Wt i) → ∀ (H : Heap) (locs : List Loc), va_P G vwCl [(om, .inr (4, [.int 0, .int sa, .ref (am 0), .ref (am 1), .double mi, .ref (am 2), .ref (am 3), .ref (am 4), .int (nI nf), .ref (am 5), .ref (am 6), .ref (am 7), .ref (am 8), .ref (am 9), .ref (am 10), .ref (am 11), .ref (am 12), .ref (am 13), .ref (am 14), .ref (am 15), .ref (am 16), .ref (am 17), .ref (am 18), .ref (am 19)])), ((am 10), aI q 6 Li), ((am 11), aI q 6 Hi), ((am 12), aI q 6 Di), ((am 13), aI q 6 Ri), ((am 14), aD q 48 F), ((am 15), aD q 6 Ou), ((am 16), aD q 6 Er), ((am 18), aD q 96 Sq)] H → va_D A [(om, .inr (4, [.int 0, .int sa, .ref (am 0), .ref (am 1), .double mi, .ref (am 2), .ref (am 3), .ref (am 4), .int (nI nf), .ref (am 5), .ref (am 6), .ref (am 7), .ref (am 8), .ref (am 9), .ref (am 10), .ref (am 11), .ref (am 12), .ref (am 13), .ref (am 14), .ref (am 15), .ref (am 16), .ref (am 17), .ref (am 18), .ref (am 19)])), ((am 10), aI q 6 Li), ((am 11), aI q 6 Hi), ((am 12), aI q 6 Di), ((am 13), aI q 6 Ri), ((am 14), aD q 48 F), ((am 15), aD q 6 Ou), ((am 16), aD q 6 Er), ((am 18), aD q 96 Sq)] → va_S A s.heap H locs → ∀ (ls : Array Slot), lv_has ls 3 [(0, .ref om), (1, .int (nI fx)), (2, .int (nI j))] → W p l e (headSpec wsX4_begin ({ frames := 2, cells := 0, slots := 0, locals := 43 } : Jvm.Room)).room s m #[.ref om, .int (nI fx)] below meth c H locs 0 0 (MQ below (va_Qv (fun (u : (Nat → UInt64) × (Nat → UInt64)) => ((∀ j, j < 8 → u.1 (8 * fx + j) = 0) ∧ ∀ i, (i < 8 * fx ∨ 8 * fx + 8 ≤ i) → u.1 i = Wt i) ∧ (∀ a c, a < 4 → c < 4 → u.2 (16 * fx + 4 * a + c) = if a = c then H100 else 0) ∧ ∀ i, (i < 16 * fx ∨ 16 * fx + 16 ≤ i) → u.2 i = Sq i) (fun (u : (Nat → UInt64) × (Nat → UInt64)) t => EndA G A [(om, .inr (4, [.int 0, .int sa, .ref (am 0), .ref (am 1), .double mi, .ref (am 2), .ref (am 3), .ref (am 4), .int (nI nf), .ref (am 5), .ref (am 6), .ref (am 7), .ref (am 8), .ref (am 9), .ref (am 10), .ref (am 11), .ref (am 12), .ref (am 13), .ref (am 14), .ref (am 15), .ref (am 16), .ref (am 17), .ref (am 18), .ref (am 19)])), ((am 10), aI q 6 (vf_upd Li fx 0)), ((am 11), aI q 6 (vf_upd Hi fx 0)), ((am 12), aI q 6 (vf_upd Di fx 0)), ((am 13), aI q 6 (vf_upd Ri fx 0)), ((am 14), aD q 48 u.1), ((am 15), aD q 6 (vf_upd Ou fx 0)), ((am 16), aD q 6 (vf_upd Er fx 0)), ((am 18), aD q 96 u.2)] t) A) #[.ref om, .int (nI fx)] s 0 0 A) (F0 m 23 ls []) := by
    intro k
    induction k with
    | zero =>
      intro j F hj h1 h2 H locs hP hD hS ls hl
      refine lv_iload_n hx hb dX4_begin_23 rfl (lv_at hl 2 rfl) ?_
      refine lv_bipush (v := 8) hx hb dX4_begin_24 (by decide) ?_
      refine lv_icmp_ge (tgt := 47) hx hb dX4_begin_26 (by decide) (fun _ => ?_) (fun h => absurd (nI_le (a := 8) (by omega) (by omega)) h)
      refine lv_aload_n hx hb dX4_begin_47 rfl (lv_at hl 0 rfl) ?_
      refine lv_iload_n hx hb dX4_begin_48 rfl (lv_at hl 1 rfl) ?_
      have hPc := hP.sub (ws' := [(om, .inr (4, [.int 0, .int sa, .ref (am 0), .ref (am 1), .double mi, .ref (am 2), .ref (am 3), .ref (am 4), .int (nI nf), .ref (am 5), .ref (am 6), .ref (am 7), .ref (am 8), .ref (am 9), .ref (am 10), .ref (am 11), .ref (am 12), .ref (am 13), .ref (am 14), .ref (am 15), .ref (am 16), .ref (am 17), .ref (am 18), .ref (am 19)])), ((am 18), aD q 96 Sq)]) [0, 8] rfl
      have hDc := hD.sub (ws' := [(om, .inr (4, [.int 0, .int sa, .ref (am 0), .ref (am 1), .double mi, .ref (am 2), .ref (am 3), .ref (am 4), .int (nI nf), .ref (am 5), .ref (am 6), .ref (am 7), .ref (am 8), .ref (am 9), .ref (am 10), .ref (am 11), .ref (am 12), .ref (am 13), .ref (am 14), .ref (am 15), .ref (am 16), .ref (am 17), .ref (am 18), .ref (am 19)])), ((am 18), aD q 96 Sq)]) [0, 8] (by decide) rfl
      have hFc := va_free (wc := [(om, .inr (4, [.int 0, .int sa, .ref (am 0), .ref (am 1), .double mi, .ref (am 2), .ref (am 3), .ref (am 4), .int (nI nf), .ref (am 5), .ref (am 6), .ref (am 7), .ref (am 8), .ref (am 9), .ref (am 10), .ref (am 11), .ref (am 12), .ref (am 13), .ref (am 14), .ref (am 15), .ref (am 16), .ref (am 17), .ref (am 18), .ref (am 19)])), ((am 18), aD q 96 Sq)]) hD hS hA [0, 8] rfl
      refine va_callv (va_runV (As := [.int (nI fx)]) (rest := []) ⟨hx, hb, hml, hown, hts⟩ (m_X4_reset l G q H.size om am 0 sa (nI nf) mi fx Sq (by omega)) (cwV 1 hts gX4_begin_X4_reset rfl rfl rfl (by decide +kernel) ⟨Nat.le_of_ble_eq_true rfl, Nat.le_of_ble_eq_true rfl⟩) ⟨preW_blind, (va_recv hK hPc (ci := 4) (q0 := 0) rfl rfl), preW_start hPc hK hDc hNF⟩ rfl rfl hl.1 rfl (lv_room (Nat.le_of_ble_eq_true rfl)) dX4_begin_49 ⟨(Nat.zero_le _), (Nat.zero_le _)⟩) hS (fun q _ h => hFc q h) hFc (fun u9 t9 H1 locs ht9 hv9 hw hB9 hz9 hk9 hS => ?_)
      obtain ⟨F1, rfl⟩ : ∃ z, z = u9 := ⟨_, rfl⟩
      obtain ⟨hP1, hD1⟩ := hB9
      rw [ht9] at hP1
      obtain ⟨hP, hD⟩ := va_join (wr := [((am 10), aI q 6 Li), ((am 11), aI q 6 Hi), ((am 12), aI q 6 Di), ((am 13), aI q 6 Ri), ((am 14), aD q 48 F), ((am 15), aD q 6 Ou), ((am 16), aD q 6 Er)]) (w1 := [(om, .inr (4, [.int 0, .int sa, .ref (am 0), .ref (am 1), .double mi, .ref (am 2), .ref (am 3), .ref (am 4), .int (nI nf), .ref (am 5), .ref (am 6), .ref (am 7), .ref (am 8), .ref (am 9), .ref (am 10), .ref (am 11), .ref (am 12), .ref (am 13), .ref (am 14), .ref (am 15), .ref (am 16), .ref (am 17), .ref (am 18), .ref (am 19)])), ((am 18), aD q 96 F1)]) hP hD [0, 8] [1, 2, 3, 4, 5, 6, 7] rfl rfl (by decide) (by decide) hk9 hFc hP1 hD1
      generalize H1 = H at hP hS ⊢
      have hP : va_P G vwCl [((am 10), aI q 6 Li), ((am 11), aI q 6 Hi), ((am 12), aI q 6 Di), ((am 13), aI q 6 Ri), ((am 14), aD q 48 F), ((am 15), aD q 6 Ou), ((am 16), aD q 6 Er), (om, .inr (4, [.int 0, .int sa, .ref (am 0), .ref (am 1), .double mi, .ref (am 2), .ref (am 3), .ref (am 4), .int (nI nf), .ref (am 5), .ref (am 6), .ref (am 7), .ref (am 8), .ref (am 9), .ref (am 10), .ref (am 11), .ref (am 12), .ref (am 13), .ref (am 14), .ref (am 15), .ref (am 16), .ref (am 17), .ref (am 18), .ref (am 19)])), ((am 18), aD q 96 F1)] H := hP
      have hD : va_D A [((am 10), aI q 6 Li), ((am 11), aI q 6 Hi), ((am 12), aI q 6 Di), ((am 13), aI q 6 Ri), ((am 14), aD q 48 F), ((am 15), aD q 6 Ou), ((am 16), aD q 6 Er), (om, .inr (4, [.int 0, .int sa, .ref (am 0), .ref (am 1), .double mi, .ref (am 2), .ref (am 3), .ref (am 4), .int (nI nf), .ref (am 5), .ref (am 6), .ref (am 7), .ref (am 8), .ref (am 9), .ref (am 10), .ref (am 11), .ref (am 12), .ref (am 13), .ref (am 14), .ref (am 15), .ref (am 16), .ref (am 17), .ref (am 18), .ref (am 19)])), ((am 18), aD q 96 F1)] := hD
      have hF := hw
      refine lv_aload_n hx hb dX4_begin_52 rfl (lv_at hl 0 rfl) ?_
      refine va_get (D := G) (ci := 4) (v := .ref (am 10)) (C := RX4) (T := TX4) (N := 24) hx hb hts in_X4_begin_X4 hown hK hP 7 rfl rfl 14 (by decide) (hts (.fieldLink RX4 41 "EchoBenchModel" "left" "[I") (by decide +kernel)) (fun _ h9 => h9) rfl dX4_begin_53 ?_
      refine lv_iload_n hx hb dX4_begin_56 rfl (lv_at hl 1 rfl) ?_
      refine lv_iconst (v := 0) hx hb dX4_begin_57 (by decide) ?_
      refine va_iastJ hx hb hK hP hD hS 0 0 rfl rfl (j := fx) rfl (by omega) (by decide) dX4_begin_58 (fun H locs hP hD hS => ?_)
      have hP : va_P G vwCl [((am 10), aI q 6 (vf_upd Li fx 0)), ((am 11), aI q 6 Hi), ((am 12), aI q 6 Di), ((am 13), aI q 6 Ri), ((am 14), aD q 48 F), ((am 15), aD q 6 Ou), ((am 16), aD q 6 Er), (om, .inr (4, [.int 0, .int sa, .ref (am 0), .ref (am 1), .double mi, .ref (am 2), .ref (am 3), .ref (am 4), .int (nI nf), .ref (am 5), .ref (am 6), .ref (am 7), .ref (am 8), .ref (am 9), .ref (am 10), .ref (am 11), .ref (am 12), .ref (am 13), .ref (am 14), .ref (am 15), .ref (am 16), .ref (am 17), .ref (am 18), .ref (am 19)])), ((am 18), aD q 96 F1)] H := hP
      have hD : va_D A [((am 10), aI q 6 (vf_upd Li fx 0)), ((am 11), aI q 6 Hi), ((am 12), aI q 6 Di), ((am 13), aI q 6 Ri), ((am 14), aD q 48 F), ((am 15), aD q 6 Ou), ((am 16), aD q 6 Er), (om, .inr (4, [.int 0, .int sa, .ref (am 0), .ref (am 1), .double mi, .ref (am 2), .ref (am 3), .ref (am 4), .int (nI nf), .ref (am 5), .ref (am 6), .ref (am 7), .ref (am 8), .ref (am 9), .ref (am 10), .ref (am 11), .ref (am 12), .ref (am 13), .ref (am 14), .ref (am 15), .ref (am 16), .ref (am 17), .ref (am 18), .ref (am 19)])), ((am 18), aD q 96 F1)] := hD
      refine lv_aload_n hx hb dX4_begin_59 rfl (lv_at hl 0 rfl) ?_
      refine va_get (D := G) (ci := 4) (v := .ref (am 11)) (C := RX4) (T := TX4) (N := 24) hx hb hts in_X4_begin_X4 hown hK hP 7 rfl rfl 15 (by decide) (hts (.fieldLink RX4 44 "EchoBenchModel" "had" "[I") (by decide +kernel)) (fun _ h9 => h9) rfl dX4_begin_60 ?_
      refine lv_iload_n hx hb dX4_begin_63 rfl (lv_at hl 1 rfl) ?_
      refine lv_iconst (v := 0) hx hb dX4_begin_64 (by decide) ?_
      refine va_iastJ hx hb hK hP hD hS 1 0 rfl rfl (j := fx) rfl (by omega) (by decide) dX4_begin_65 (fun H locs hP hD hS => ?_)
      have hP : va_P G vwCl [((am 10), aI q 6 (vf_upd Li fx 0)), ((am 11), aI q 6 (vf_upd Hi fx 0)), ((am 12), aI q 6 Di), ((am 13), aI q 6 Ri), ((am 14), aD q 48 F), ((am 15), aD q 6 Ou), ((am 16), aD q 6 Er), (om, .inr (4, [.int 0, .int sa, .ref (am 0), .ref (am 1), .double mi, .ref (am 2), .ref (am 3), .ref (am 4), .int (nI nf), .ref (am 5), .ref (am 6), .ref (am 7), .ref (am 8), .ref (am 9), .ref (am 10), .ref (am 11), .ref (am 12), .ref (am 13), .ref (am 14), .ref (am 15), .ref (am 16), .ref (am 17), .ref (am 18), .ref (am 19)])), ((am 18), aD q 96 F1)] H := hP
      have hD : va_D A [((am 10), aI q 6 (vf_upd Li fx 0)), ((am 11), aI q 6 (vf_upd Hi fx 0)), ((am 12), aI q 6 Di), ((am 13), aI q 6 Ri), ((am 14), aD q 48 F), ((am 15), aD q 6 Ou), ((am 16), aD q 6 Er), (om, .inr (4, [.int 0, .int sa, .ref (am 0), .ref (am 1), .double mi, .ref (am 2), .ref (am 3), .ref (am 4), .int (nI nf), .ref (am 5), .ref (am 6), .ref (am 7), .ref (am 8), .ref (am 9), .ref (am 10), .ref (am 11), .ref (am 12), .ref (am 13), .ref (am 14), .ref (am 15), .ref (am 16), .ref (am 17), .ref (am 18), .ref (am 19)])), ((am 18), aD q 96 F1)] := hD
      refine lv_aload_n hx hb dX4_begin_66 rfl (lv_at hl 0 rfl) ?_
      refine va_get (D := G) (ci := 4) (v := .ref (am 12)) (C := RX4) (T := TX4) (N := 24) hx hb hts in_X4_begin_X4 hown hK hP 7 rfl rfl 16 (by decide) (hts (.fieldLink RX4 47 "EchoBenchModel" "held" "[I") (by decide +kernel)) (fun _ h9 => h9) rfl dX4_begin_67 ?_
      refine lv_iload_n hx hb dX4_begin_70 rfl (lv_at hl 1 rfl) ?_
      refine lv_iconst (v := 0) hx hb dX4_begin_71 (by decide) ?_
      refine va_iastJ hx hb hK hP hD hS 2 0 rfl rfl (j := fx) rfl (by omega) (by decide) dX4_begin_72 (fun H locs hP hD hS => ?_)
      have hP : va_P G vwCl [((am 10), aI q 6 (vf_upd Li fx 0)), ((am 11), aI q 6 (vf_upd Hi fx 0)), ((am 12), aI q 6 (vf_upd Di fx 0)), ((am 13), aI q 6 Ri), ((am 14), aD q 48 F), ((am 15), aD q 6 Ou), ((am 16), aD q 6 Er), (om, .inr (4, [.int 0, .int sa, .ref (am 0), .ref (am 1), .double mi, .ref (am 2), .ref (am 3), .ref (am 4), .int (nI nf), .ref (am 5), .ref (am 6), .ref (am 7), .ref (am 8), .ref (am 9), .ref (am 10), .ref (am 11), .ref (am 12), .ref (am 13), .ref (am 14), .ref (am 15), .ref (am 16), .ref (am 17), .ref (am 18), .ref (am 19)])), ((am 18), aD q 96 F1)] H := hP
      have hD : va_D A [((am 10), aI q 6 (vf_upd Li fx 0)), ((am 11), aI q 6 (vf_upd Hi fx 0)), ((am 12), aI q 6 (vf_upd Di fx 0)), ((am 13), aI q 6 Ri), ((am 14), aD q 48 F), ((am 15), aD q 6 Ou), ((am 16), aD q 6 Er), (om, .inr (4, [.int 0, .int sa, .ref (am 0), .ref (am 1), .double mi, .ref (am 2), .ref (am 3), .ref (am 4), .int (nI nf), .ref (am 5), .ref (am 6), .ref (am 7), .ref (am 8), .ref (am 9), .ref (am 10), .ref (am 11), .ref (am 12), .ref (am 13), .ref (am 14), .ref (am 15), .ref (am 16), .ref (am 17), .ref (am 18), .ref (am 19)])), ((am 18), aD q 96 F1)] := hD
      refine lv_aload_n hx hb dX4_begin_73 rfl (lv_at hl 0 rfl) ?_
      refine va_get (D := G) (ci := 4) (v := .ref (am 13)) (C := RX4) (T := TX4) (N := 24) hx hb hts in_X4_begin_X4 hown hK hP 7 rfl rfl 17 (by decide) (hts (.fieldLink RX4 50 "EchoBenchModel" "resets" "[I") (by decide +kernel)) (fun _ h9 => h9) rfl dX4_begin_74 ?_
      refine lv_iload_n hx hb dX4_begin_77 rfl (lv_at hl 1 rfl) ?_
      refine lv_iconst (v := 0) hx hb dX4_begin_78 (by decide) ?_
      refine va_iastJ hx hb hK hP hD hS 3 0 rfl rfl (j := fx) rfl (by omega) (by decide) dX4_begin_79 (fun H locs hP hD hS => ?_)
      have hP : va_P G vwCl [((am 10), aI q 6 (vf_upd Li fx 0)), ((am 11), aI q 6 (vf_upd Hi fx 0)), ((am 12), aI q 6 (vf_upd Di fx 0)), ((am 13), aI q 6 (vf_upd Ri fx 0)), ((am 14), aD q 48 F), ((am 15), aD q 6 Ou), ((am 16), aD q 6 Er), (om, .inr (4, [.int 0, .int sa, .ref (am 0), .ref (am 1), .double mi, .ref (am 2), .ref (am 3), .ref (am 4), .int (nI nf), .ref (am 5), .ref (am 6), .ref (am 7), .ref (am 8), .ref (am 9), .ref (am 10), .ref (am 11), .ref (am 12), .ref (am 13), .ref (am 14), .ref (am 15), .ref (am 16), .ref (am 17), .ref (am 18), .ref (am 19)])), ((am 18), aD q 96 F1)] H := hP
      have hD : va_D A [((am 10), aI q 6 (vf_upd Li fx 0)), ((am 11), aI q 6 (vf_upd Hi fx 0)), ((am 12), aI q 6 (vf_upd Di fx 0)), ((am 13), aI q 6 (vf_upd Ri fx 0)), ((am 14), aD q 48 F), ((am 15), aD q 6 Ou), ((am 16), aD q 6 Er), (om, .inr (4, [.int 0, .int sa, .ref (am 0), .ref (am 1), .double mi, .ref (am 2), .ref (am 3), .ref (am 4), .int (nI nf), .ref (am 5), .ref (am 6), .ref (am 7), .ref (am 8), .ref (am 9), .ref (am 10), .ref (am 11), .ref (am 12), .ref (am 13), .ref (am 14), .ref (am 15), .ref (am 16), .ref (am 17), .ref (am 18), .ref (am 19)])), ((am 18), aD q 96 F1)] := hD
      refine lv_aload_n hx hb dX4_begin_80 rfl (lv_at hl 0 rfl) ?_
      refine va_get (D := G) (ci := 4) (v := .ref (am 15)) (C := RX4) (T := TX4) (N := 24) hx hb hts in_X4_begin_X4 hown hK hP 7 rfl rfl 19 (by decide) (hts (.fieldLink RX4 56 "EchoBenchModel" "output" "[D") (by decide +kernel)) (fun _ h9 => h9) rfl dX4_begin_81 ?_
      refine lv_iload_n hx hb dX4_begin_84 rfl (lv_at hl 1 rfl) ?_
      refine lv_dc0 hx hb dX4_begin_85 ?_
      refine va_dastJ hx hb hK hP hD hS 5 1 rfl rfl (j := fx) rfl (by omega) (by decide) dX4_begin_86 (fun H locs hP hD hS => ?_)
      have hP : va_P G vwCl [((am 10), aI q 6 (vf_upd Li fx 0)), ((am 11), aI q 6 (vf_upd Hi fx 0)), ((am 12), aI q 6 (vf_upd Di fx 0)), ((am 13), aI q 6 (vf_upd Ri fx 0)), ((am 14), aD q 48 F), ((am 15), aD q 6 (vf_upd Ou fx 0)), ((am 16), aD q 6 Er), (om, .inr (4, [.int 0, .int sa, .ref (am 0), .ref (am 1), .double mi, .ref (am 2), .ref (am 3), .ref (am 4), .int (nI nf), .ref (am 5), .ref (am 6), .ref (am 7), .ref (am 8), .ref (am 9), .ref (am 10), .ref (am 11), .ref (am 12), .ref (am 13), .ref (am 14), .ref (am 15), .ref (am 16), .ref (am 17), .ref (am 18), .ref (am 19)])), ((am 18), aD q 96 F1)] H := hP
      have hD : va_D A [((am 10), aI q 6 (vf_upd Li fx 0)), ((am 11), aI q 6 (vf_upd Hi fx 0)), ((am 12), aI q 6 (vf_upd Di fx 0)), ((am 13), aI q 6 (vf_upd Ri fx 0)), ((am 14), aD q 48 F), ((am 15), aD q 6 (vf_upd Ou fx 0)), ((am 16), aD q 6 Er), (om, .inr (4, [.int 0, .int sa, .ref (am 0), .ref (am 1), .double mi, .ref (am 2), .ref (am 3), .ref (am 4), .int (nI nf), .ref (am 5), .ref (am 6), .ref (am 7), .ref (am 8), .ref (am 9), .ref (am 10), .ref (am 11), .ref (am 12), .ref (am 13), .ref (am 14), .ref (am 15), .ref (am 16), .ref (am 17), .ref (am 18), .ref (am 19)])), ((am 18), aD q 96 F1)] := hD
      refine lv_aload_n hx hb dX4_begin_87 rfl (lv_at hl 0 rfl) ?_
      refine va_get (D := G) (ci := 4) (v := .ref (am 16)) (C := RX4) (T := TX4) (N := 24) hx hb hts in_X4_begin_X4 hown hK hP 7 rfl rfl 20 (by decide) (hts (.fieldLink RX4 59 "EchoBenchModel" "error" "[D") (by decide +kernel)) (fun _ h9 => h9) rfl dX4_begin_88 ?_
      refine lv_iload_n hx hb dX4_begin_91 rfl (lv_at hl 1 rfl) ?_
      refine lv_dc0 hx hb dX4_begin_92 ?_
      refine va_dastJ hx hb hK hP hD hS 6 1 rfl rfl (j := fx) rfl (by omega) (by decide) dX4_begin_93 (fun H locs hP hD hS => ?_)
      have hP : va_P G vwCl [((am 10), aI q 6 (vf_upd Li fx 0)), ((am 11), aI q 6 (vf_upd Hi fx 0)), ((am 12), aI q 6 (vf_upd Di fx 0)), ((am 13), aI q 6 (vf_upd Ri fx 0)), ((am 14), aD q 48 F), ((am 15), aD q 6 (vf_upd Ou fx 0)), ((am 16), aD q 6 (vf_upd Er fx 0)), (om, .inr (4, [.int 0, .int sa, .ref (am 0), .ref (am 1), .double mi, .ref (am 2), .ref (am 3), .ref (am 4), .int (nI nf), .ref (am 5), .ref (am 6), .ref (am 7), .ref (am 8), .ref (am 9), .ref (am 10), .ref (am 11), .ref (am 12), .ref (am 13), .ref (am 14), .ref (am 15), .ref (am 16), .ref (am 17), .ref (am 18), .ref (am 19)])), ((am 18), aD q 96 F1)] H := hP
      have hD : va_D A [((am 10), aI q 6 (vf_upd Li fx 0)), ((am 11), aI q 6 (vf_upd Hi fx 0)), ((am 12), aI q 6 (vf_upd Di fx 0)), ((am 13), aI q 6 (vf_upd Ri fx 0)), ((am 14), aD q 48 F), ((am 15), aD q 6 (vf_upd Ou fx 0)), ((am 16), aD q 6 (vf_upd Er fx 0)), (om, .inr (4, [.int 0, .int sa, .ref (am 0), .ref (am 1), .double mi, .ref (am 2), .ref (am 3), .ref (am 4), .int (nI nf), .ref (am 5), .ref (am 6), .ref (am 7), .ref (am 8), .ref (am 9), .ref (am 10), .ref (am 11), .ref (am 12), .ref (am 13), .ref (am 14), .ref (am 15), .ref (am 16), .ref (am 17), .ref (am 18), .ref (am 19)])), ((am 18), aD q 96 F1)] := hD
      have hP := hP.sub (ws' := [(om, .inr (4, [.int 0, .int sa, .ref (am 0), .ref (am 1), .double mi, .ref (am 2), .ref (am 3), .ref (am 4), .int (nI nf), .ref (am 5), .ref (am 6), .ref (am 7), .ref (am 8), .ref (am 9), .ref (am 10), .ref (am 11), .ref (am 12), .ref (am 13), .ref (am 14), .ref (am 15), .ref (am 16), .ref (am 17), .ref (am 18), .ref (am 19)])), ((am 10), aI q 6 (vf_upd Li fx 0)), ((am 11), aI q 6 (vf_upd Hi fx 0)), ((am 12), aI q 6 (vf_upd Di fx 0)), ((am 13), aI q 6 (vf_upd Ri fx 0)), ((am 14), aD q 48 F), ((am 15), aD q 6 (vf_upd Ou fx 0)), ((am 16), aD q 6 (vf_upd Er fx 0)), ((am 18), aD q 96 F1)]) [7, 0, 1, 2, 3, 4, 5, 6, 8] rfl
      have hD := hD.sub (ws' := [(om, .inr (4, [.int 0, .int sa, .ref (am 0), .ref (am 1), .double mi, .ref (am 2), .ref (am 3), .ref (am 4), .int (nI nf), .ref (am 5), .ref (am 6), .ref (am 7), .ref (am 8), .ref (am 9), .ref (am 10), .ref (am 11), .ref (am 12), .ref (am 13), .ref (am 14), .ref (am 15), .ref (am 16), .ref (am 17), .ref (am 18), .ref (am 19)])), ((am 10), aI q 6 (vf_upd Li fx 0)), ((am 11), aI q 6 (vf_upd Hi fx 0)), ((am 12), aI q 6 (vf_upd Di fx 0)), ((am 13), aI q 6 (vf_upd Ri fx 0)), ((am 14), aD q 48 F), ((am 15), aD q 6 (vf_upd Ou fx 0)), ((am 16), aD q 6 (vf_upd Er fx 0)), ((am 18), aD q 96 F1)]) [7, 0, 1, 2, 3, 4, 5, 6, 8] (by decide) rfl
      have hP9 := hP
      have hD9 := hD
      exact W.vret hx hb hr (fun t ht hW => ⟨⟨(F, F1), rfl, ⟨⟨fun i hi => h1 i (by omega), h2⟩, hF⟩, by rw [ht]; exact hP9, hD9⟩, hS.F ht⟩) hS.2.2 dX4_begin_94
    | succ k ih =>
      intro j F hj h1 h2 H locs hP hD hS ls hl
      refine lv_iload_n hx hb dX4_begin_23 rfl (lv_at hl 2 rfl) ?_
      refine lv_bipush (v := 8) hx hb dX4_begin_24 (by decide) ?_
      refine lv_icmp_ge (tgt := 47) hx hb dX4_begin_26 (by decide) (fun h => absurd h (nI_ge (b := 8) (by omega) (by omega))) (fun _ => ?_)
      refine lv_aload_n hx hb dX4_begin_29 rfl (lv_at hl 0 rfl) ?_
      refine va_get (D := G) (ci := 4) (v := .ref (am 14)) (C := RX4) (T := TX4) (N := 24) hx hb hts in_X4_begin_X4 hown hK hP 0 rfl rfl 18 (by decide) (hts (.fieldLink RX4 53 "EchoBenchModel" "weight" "[D") (by decide +kernel)) (fun _ h9 => h9) rfl dX4_begin_30 ?_
      refine lv_bipush (v := 8) hx hb dX4_begin_33 (by decide) ?_
      refine lv_iload_n hx hb dX4_begin_35 rfl (lv_at hl 1 rfl) ?_
      refine lv_imul hx hb dX4_begin_36 ?_
      refine lv_topi (fun x11 ex11 => ?_)
      obtain rfl : x11 = (nI (8 * fx)) := ex11.trans (nI_mul 8 fx)
      refine lv_iload_n hx hb dX4_begin_37 rfl (lv_at hl 2 rfl) ?_
      refine lv_iadd hx hb dX4_begin_38 ?_
      refine lv_topi (fun x12 ex12 => ?_)
      obtain rfl : x12 = (nI (8 * fx + j)) := ex12.trans (nI_add (8 * fx) j)
      refine lv_dc0 hx hb dX4_begin_39 ?_
      refine va_dastJ hx hb hK hP hD hS 5 1 rfl rfl (j := (8 * fx + j)) rfl (by omega) (by decide) dX4_begin_40 (fun H locs hP hD hS => ?_)
      have hP : va_P G vwCl [(om, .inr (4, [.int 0, .int sa, .ref (am 0), .ref (am 1), .double mi, .ref (am 2), .ref (am 3), .ref (am 4), .int (nI nf), .ref (am 5), .ref (am 6), .ref (am 7), .ref (am 8), .ref (am 9), .ref (am 10), .ref (am 11), .ref (am 12), .ref (am 13), .ref (am 14), .ref (am 15), .ref (am 16), .ref (am 17), .ref (am 18), .ref (am 19)])), ((am 10), aI q 6 Li), ((am 11), aI q 6 Hi), ((am 12), aI q 6 Di), ((am 13), aI q 6 Ri), ((am 14), aD q 48 (vf_upd F (8 * fx + j) 0)), ((am 15), aD q 6 Ou), ((am 16), aD q 6 Er), ((am 18), aD q 96 Sq)] H := hP
      have hD : va_D A [(om, .inr (4, [.int 0, .int sa, .ref (am 0), .ref (am 1), .double mi, .ref (am 2), .ref (am 3), .ref (am 4), .int (nI nf), .ref (am 5), .ref (am 6), .ref (am 7), .ref (am 8), .ref (am 9), .ref (am 10), .ref (am 11), .ref (am 12), .ref (am 13), .ref (am 14), .ref (am 15), .ref (am 16), .ref (am 17), .ref (am 18), .ref (am 19)])), ((am 10), aI q 6 Li), ((am 11), aI q 6 Hi), ((am 12), aI q 6 Di), ((am 13), aI q 6 Ri), ((am 14), aD q 48 (vf_upd F (8 * fx + j) 0)), ((am 15), aD q 6 Ou), ((am 16), aD q 6 Er), ((am 18), aD q 96 Sq)] := hD
      refine lv_iinc (v := nI (j + 1)) (lv' := [(2, .int (nI (j + 1))), (0, .ref om), (1, .int (nI fx))]) hx hb dX4_begin_41 hl (k := 2) rfl (nI_succ _).symm (by decide) rfl (fun ls hl => ?_)
      refine lv_goto (tgt := 23) hx hb dX4_begin_44 (by decide) ?_
      exact ih (j + 1) (vf_upd F (8 * fx + j) 0) (by omega) (fun i hi => by unfold vf_upd; by_cases e9 : i = j; (rw [if_pos (by omega)]); (rw [if_neg (by omega)]; exact h1 i (by omega))) (wt_out (n := 8) (by omega) h2) _ _ (hP.sub [0, 1, 2, 3, 4, 5, 6, 7, 8] rfl) (hD.sub [0, 1, 2, 3, 4, 5, 6, 7, 8] (by decide) rfl) hS ls (lv_sub hl [1, 2, 0] rfl)
  exact LOOP 8 0 Wt (by omega) (fun i hi => absurd hi (by omega)) (fun _ _ => rfl) _ _ (hP.sub [8, 0, 1, 2, 3, 4, 5, 6, 7] rfl) (hD.sub [8, 0, 1, 2, 3, 4, 5, 6, 7] (by decide) rfl) hS ls (lv_sub hl [1, 2, 0] rfl)

set_option maxHeartbeats 4000000 in
set_option maxRecDepth 100000 in
/-- feed: where it goes well -/
theorem m_X4_feed (l : Launch) (G : va_G) (q : Nat → ClassId) (sz : Nat) (om : Nat) (am : Nat → Nat) (th : Int32) (mi : UInt64) (T nf : Nat) (v ta : Int32) (pa xi z0 z1 : Nat → Int32) (fm gg : Nat → UInt64) (I : Nat → Nat → Int32) (D : Nat → Nat → UInt64) (hT : T < 2000) (hnf : nf ≤ 6) (hv : ∀ g, g < nf → vS T (mF I D g)) (hva : -1000 ≤ v ∧ v ≤ 1000) (hta : -1000 ≤ ta ∧ ta ≤ 1000) : MetD lw_cs l yX4_feed wsX4_feed ({ frames := 4, cells := 0, slots := 0, locals := 108 } : Jvm.Room) (PreW G q [.ref om, .int v, .int ta] [(om, .inr (4, [.int th, .int (nI T), .ref (am 0), .ref (am 1), .double mi, .ref (am 2), .ref (am 3), .ref (am 4), .int (nI nf), .ref (am 5), .ref (am 6), .ref (am 7), .ref (am 8), .ref (am 9), .ref (am 10), .ref (am 11), .ref (am 12), .ref (am 13), .ref (am 14), .ref (am 15), .ref (am 16), .ref (am 17), .ref (am 18), .ref (am 19)])), ((am 0), aI q 8 pa), ((am 1), aI q 8 xi), ((am 2), aI q 16 z0), ((am 3), aI q 16 z1), ((am 4), aD q 16 fm), ((am 5), aI q 6 (I 0)), ((am 6), aI q 6 (I 1)), ((am 7), aI q 6 (I 2)), ((am 8), aI q 6 (I 3)), ((am 9), aI q 6 (I 4)), ((am 10), aI q 6 (I 5)), ((am 11), aI q 6 (I 6)), ((am 12), aI q 6 (I 7)), ((am 13), aI q 6 (I 8)), ((am 14), aD q 48 (D 0)), ((am 15), aD q 6 (D 1)), ((am 16), aD q 6 (D 2)), ((am 17), aD q 96 (D 3)), ((am 18), aD q 96 (D 4)), ((am 19), aD q 4 gg)] sz) (va_Qi (fun (r : Int32) (u : UInt64 × (Nat → Nat → Int32) × (Nat → Nat → UInt64) × (Nat → UInt64)) => r = nI (T + 1) ∧ dV u.1 = sMic ta pa (shX xi v) ∧ (∀ g, g < nf → mF u.2.1 u.2.2.1 g = hearM (shX xi v) (dV u.1) (mF I D g)) ∧ ∀ g, nf ≤ g → sameS I u.2.1 D u.2.2.1 g) (fun (u : UInt64 × (Nat → Nat → Int32) × (Nat → Nat → UInt64) × (Nat → UInt64)) t => EndA G (va_A [(om, .inr (4, [.int th, .int (nI T), .ref (am 0), .ref (am 1), .double mi, .ref (am 2), .ref (am 3), .ref (am 4), .int (nI nf), .ref (am 5), .ref (am 6), .ref (am 7), .ref (am 8), .ref (am 9), .ref (am 10), .ref (am 11), .ref (am 12), .ref (am 13), .ref (am 14), .ref (am 15), .ref (am 16), .ref (am 17), .ref (am 18), .ref (am 19)])), ((am 0), aI q 8 pa), ((am 1), aI q 8 xi), ((am 2), aI q 16 z0), ((am 3), aI q 16 z1), ((am 4), aD q 16 fm), ((am 5), aI q 6 (I 0)), ((am 6), aI q 6 (I 1)), ((am 7), aI q 6 (I 2)), ((am 8), aI q 6 (I 3)), ((am 9), aI q 6 (I 4)), ((am 10), aI q 6 (I 5)), ((am 11), aI q 6 (I 6)), ((am 12), aI q 6 (I 7)), ((am 13), aI q 6 (I 8)), ((am 14), aD q 48 (D 0)), ((am 15), aD q 6 (D 1)), ((am 16), aD q 6 (D 2)), ((am 17), aD q 96 (D 3)), ((am 18), aD q 96 (D 4)), ((am 19), aD q 4 gg)] sz) [(om, .inr (4, [.int 0, .int (nI (T + 1)), .ref (am 0), .ref (am 1), .double u.1, .ref (am 2), .ref (am 3), .ref (am 4), .int (nI nf), .ref (am 5), .ref (am 6), .ref (am 7), .ref (am 8), .ref (am 9), .ref (am 10), .ref (am 11), .ref (am 12), .ref (am 13), .ref (am 14), .ref (am 15), .ref (am 16), .ref (am 17), .ref (am 18), .ref (am 19)])), ((am 0), aI q 8 pa), ((am 1), aI q 8 (shX xi v)), ((am 2), aI q 16 (vf_upd z0 (T % 16) v)), ((am 3), aI q 16 (vf_upd z1 (T % 16) (xi 0))), ((am 4), aD q 16 (vf_upd fm (T % 16) u.1)), ((am 5), aI q 6 (u.2.1 0)), ((am 6), aI q 6 (u.2.1 1)), ((am 7), aI q 6 (u.2.1 2)), ((am 8), aI q 6 (u.2.1 3)), ((am 9), aI q 6 (u.2.1 4)), ((am 10), aI q 6 (u.2.1 5)), ((am 11), aI q 6 (u.2.1 6)), ((am 12), aI q 6 (u.2.1 7)), ((am 13), aI q 6 (u.2.1 8)), ((am 14), aD q 48 (u.2.2.1 0)), ((am 15), aD q 6 (u.2.2.1 1)), ((am 16), aD q 6 (u.2.2.1 2)), ((am 17), aD q 96 (u.2.2.1 3)), ((am 18), aD q 96 (u.2.2.1 4)), ((am 19), aD q 4 u.2.2.2)] t) (va_A [(om, .inr (4, [.int th, .int (nI T), .ref (am 0), .ref (am 1), .double mi, .ref (am 2), .ref (am 3), .ref (am 4), .int (nI nf), .ref (am 5), .ref (am 6), .ref (am 7), .ref (am 8), .ref (am 9), .ref (am 10), .ref (am 11), .ref (am 12), .ref (am 13), .ref (am 14), .ref (am 15), .ref (am 16), .ref (am 17), .ref (am 18), .ref (am 19)])), ((am 0), aI q 8 pa), ((am 1), aI q 8 xi), ((am 2), aI q 16 z0), ((am 3), aI q 16 z1), ((am 4), aD q 16 fm), ((am 5), aI q 6 (I 0)), ((am 6), aI q 6 (I 1)), ((am 7), aI q 6 (I 2)), ((am 8), aI q 6 (I 3)), ((am 9), aI q 6 (I 4)), ((am 10), aI q 6 (I 5)), ((am 11), aI q 6 (I 6)), ((am 12), aI q 6 (I 7)), ((am 13), aI q 6 (I 8)), ((am 14), aD q 48 (D 0)), ((am 15), aD q 6 (D 1)), ((am 16), aD q 6 (D 2)), ((am 17), aD q 96 (D 3)), ((am 18), aD q 96 (D 4)), ((am 19), aD q 4 gg)] sz)) 0 0 (va_A [(om, .inr (4, [.int th, .int (nI T), .ref (am 0), .ref (am 1), .double mi, .ref (am 2), .ref (am 3), .ref (am 4), .int (nI nf), .ref (am 5), .ref (am 6), .ref (am 7), .ref (am 8), .ref (am 9), .ref (am 10), .ref (am 11), .ref (am 12), .ref (am 13), .ref (am 14), .ref (am 15), .ref (am 16), .ref (am 17), .ref (am 18), .ref (am 19)])), ((am 0), aI q 8 pa), ((am 1), aI q 8 xi), ((am 2), aI q 16 z0), ((am 3), aI q 16 z1), ((am 4), aD q 16 fm), ((am 5), aI q 6 (I 0)), ((am 6), aI q 6 (I 1)), ((am 7), aI q 6 (I 2)), ((am 8), aI q 6 (I 3)), ((am 9), aI q 6 (I 4)), ((am 10), aI q 6 (I 5)), ((am 11), aI q 6 (I 6)), ((am 12), aI q 6 (I 7)), ((am 13), aI q 6 (I 8)), ((am 14), aD q 48 (D 0)), ((am 15), aD q 6 (D 1)), ((am 16), aD q 6 (D 2)), ((am 17), aD q 96 (D 3)), ((am 18), aD q 96 (D 4)), ((am 19), aD q 4 gg)] sz) := by
  refine MetD.ofW (cc := cX4_feed) (maxL := 4) (ret := (some .int)) (by decide +kernel) rfl ?_
  intro p e s m args below meth c s₁ B hml hv hd0
  obtain ⟨rfl, hsz, hP, hK, hD0, hNF⟩ := hv
  have hx := B.exec
  have hb := B.bytes
  have hr := B.returns
  have hts := atoms_spec (ws := wsX4_feed) B.pre
  have hown : s.vm.findClass RX4 = some m.cls := findClass_of_methodNamed B.named
  have hlocks := B.notSynchronized
  subst hsz
  have hD := hD0.self (sz := s.heap.size)
  generalize hAe : va_A [(om, .inr (4, [.int th, .int (nI T), .ref (am 0), .ref (am 1), .double mi, .ref (am 2), .ref (am 3), .ref (am 4), .int (nI nf), .ref (am 5), .ref (am 6), .ref (am 7), .ref (am 8), .ref (am 9), .ref (am 10), .ref (am 11), .ref (am 12), .ref (am 13), .ref (am 14), .ref (am 15), .ref (am 16), .ref (am 17), .ref (am 18), .ref (am 19)])), ((am 0), aI q 8 pa), ((am 1), aI q 8 xi), ((am 2), aI q 16 z0), ((am 3), aI q 16 z1), ((am 4), aD q 16 fm), ((am 5), aI q 6 (I 0)), ((am 6), aI q 6 (I 1)), ((am 7), aI q 6 (I 2)), ((am 8), aI q 6 (I 3)), ((am 9), aI q 6 (I 4)), ((am 10), aI q 6 (I 5)), ((am 11), aI q 6 (I 6)), ((am 12), aI q 6 (I 7)), ((am 13), aI q 6 (I 8)), ((am 14), aD q 48 (D 0)), ((am 15), aD q 6 (D 1)), ((am 16), aD q 6 (D 2)), ((am 17), aD q 96 (D 3)), ((am 18), aD q 96 (D 4)), ((am 19), aD q 4 gg)] s.heap.size = A at hD ⊢
  have hA : ∀ q : Nat, s.heap.size ≤ q → A q := fun q h => by rw [← hAe]; exact Or.inr h
  have hS : va_S A s.heap s.heap [] := va_S.rf
  have hP : va_P G vwCl [(om, .inr (4, [.int th, .int (nI T), .ref (am 0), .ref (am 1), .double mi, .ref (am 2), .ref (am 3), .ref (am 4), .int (nI nf), .ref (am 5), .ref (am 6), .ref (am 7), .ref (am 8), .ref (am 9), .ref (am 10), .ref (am 11), .ref (am 12), .ref (am 13), .ref (am 14), .ref (am 15), .ref (am 16), .ref (am 17), .ref (am 18), .ref (am 19)])), ((am 0), aI q 8 pa), ((am 1), aI q 8 xi), ((am 2), aI q 16 z0), ((am 3), aI q 16 z1), ((am 4), aD q 16 fm), ((am 5), aI q 6 (I 0)), ((am 6), aI q 6 (I 1)), ((am 7), aI q 6 (I 2)), ((am 8), aI q 6 (I 3)), ((am 9), aI q 6 (I 4)), ((am 10), aI q 6 (I 5)), ((am 11), aI q 6 (I 6)), ((am 12), aI q 6 (I 7)), ((am 13), aI q 6 (I 8)), ((am 14), aD q 48 (D 0)), ((am 15), aD q 6 (D 1)), ((am 16), aD q 6 (D 2)), ((am 17), aD q 96 (D 3)), ((am 18), aD q 96 (D 4)), ((am 19), aD q 4 gg)] s.heap := hP
  have hl := lv_entry ([.ref om, .int v, .int ta]) (n := 4) (Nat.le_of_ble_eq_true rfl)
  rw [lg_entry_eq]
  generalize (lg_sl ([.ref om, .int v, .int ta]) ++ List.replicate (4 - (lg_sl ([.ref om, .int v, .int ta])).length) Slot.unset).toArray = ls at hl ⊢
  have hl : lv_has ls 4 [(0, .ref om), (1, .int v), (2, .int ta)] := hl
  refine lv_iload_n hx hb dX4_feed_0 rfl (lv_at hl 1 rfl) ?_
  refine lv_sipush (v := (-1000)) hx hb dX4_feed_1 (by decide) ?_
  refine lv_sipush (v := 1000) hx hb dX4_feed_4 (by decide) ?_
  have hPc := hP.sub (ws' := []) [] rfl
  have hDc := hD.sub (ws' := []) [] (by decide) rfl
  have hFc := va_free (wc := []) hD hS hA [] rfl
  refine va_calli (va_runS (As := [.int v, .int (-1000), .int 1000]) (rest := []) ⟨hx, hb, hml, hown, (dr_words hts s.drawn)⟩ (m_X4_in l G q s.heap.size v (-1000) 1000) (va_cwS 3 (dr_words hts s.drawn) gX4_feed_X4_in rfl rfl rfl (by decide +kernel) ⟨Nat.le_of_ble_eq_true rfl, Nat.le_of_ble_eq_true rfl⟩) ⟨preW_blind, preW_start (s := s.setDrawn s.drawn) hPc hK hDc (hNF.drawn s.drawn)⟩ rfl rfl hl.1 rfl (lv_room (Nat.le_of_ble_eq_true rfl)) dX4_feed_7 ⟨(Nat.zero_le _), (Nat.zero_le _)⟩) hS (fun q _ h => hFc q h) hFc (fun ri1 u9 t9 H1 locs ht9 hv9 hw hB9 hz9 hk9 hS => ?_)
  obtain ⟨⟩ := u9
  obtain ⟨hP1, hD1⟩ := hB9
  rw [ht9] at hP1
  obtain ⟨hP, hD⟩ := va_join (wr := [(om, .inr (4, [.int th, .int (nI T), .ref (am 0), .ref (am 1), .double mi, .ref (am 2), .ref (am 3), .ref (am 4), .int (nI nf), .ref (am 5), .ref (am 6), .ref (am 7), .ref (am 8), .ref (am 9), .ref (am 10), .ref (am 11), .ref (am 12), .ref (am 13), .ref (am 14), .ref (am 15), .ref (am 16), .ref (am 17), .ref (am 18), .ref (am 19)])), ((am 0), aI q 8 pa), ((am 1), aI q 8 xi), ((am 2), aI q 16 z0), ((am 3), aI q 16 z1), ((am 4), aD q 16 fm), ((am 5), aI q 6 (I 0)), ((am 6), aI q 6 (I 1)), ((am 7), aI q 6 (I 2)), ((am 8), aI q 6 (I 3)), ((am 9), aI q 6 (I 4)), ((am 10), aI q 6 (I 5)), ((am 11), aI q 6 (I 6)), ((am 12), aI q 6 (I 7)), ((am 13), aI q 6 (I 8)), ((am 14), aD q 48 (D 0)), ((am 15), aD q 6 (D 1)), ((am 16), aD q 6 (D 2)), ((am 17), aD q 96 (D 3)), ((am 18), aD q 96 (D 4)), ((am 19), aD q 4 gg)]) (w1 := []) hP hD [] [0, 1, 2, 3, 4, 5, 6, 7, 8, 9, 10, 11, 12, 13, 14, 15, 16, 17, 18, 19, 20] rfl rfl (by decide) (by decide) hk9 hFc hP1 hD1
  generalize H1 = H at hP hS ⊢
  have hP : va_P G vwCl [(om, .inr (4, [.int th, .int (nI T), .ref (am 0), .ref (am 1), .double mi, .ref (am 2), .ref (am 3), .ref (am 4), .int (nI nf), .ref (am 5), .ref (am 6), .ref (am 7), .ref (am 8), .ref (am 9), .ref (am 10), .ref (am 11), .ref (am 12), .ref (am 13), .ref (am 14), .ref (am 15), .ref (am 16), .ref (am 17), .ref (am 18), .ref (am 19)])), ((am 0), aI q 8 pa), ((am 1), aI q 8 xi), ((am 2), aI q 16 z0), ((am 3), aI q 16 z1), ((am 4), aD q 16 fm), ((am 5), aI q 6 (I 0)), ((am 6), aI q 6 (I 1)), ((am 7), aI q 6 (I 2)), ((am 8), aI q 6 (I 3)), ((am 9), aI q 6 (I 4)), ((am 10), aI q 6 (I 5)), ((am 11), aI q 6 (I 6)), ((am 12), aI q 6 (I 7)), ((am 13), aI q 6 (I 8)), ((am 14), aD q 48 (D 0)), ((am 15), aD q 6 (D 1)), ((am 16), aD q 6 (D 2)), ((am 17), aD q 96 (D 3)), ((am 18), aD q 96 (D 4)), ((am 19), aD q 4 gg)] H := hP
  have hD : va_D A [(om, .inr (4, [.int th, .int (nI T), .ref (am 0), .ref (am 1), .double mi, .ref (am 2), .ref (am 3), .ref (am 4), .int (nI nf), .ref (am 5), .ref (am 6), .ref (am 7), .ref (am 8), .ref (am 9), .ref (am 10), .ref (am 11), .ref (am 12), .ref (am 13), .ref (am 14), .ref (am 15), .ref (am 16), .ref (am 17), .ref (am 18), .ref (am 19)])), ((am 0), aI q 8 pa), ((am 1), aI q 8 xi), ((am 2), aI q 16 z0), ((am 3), aI q 16 z1), ((am 4), aD q 16 fm), ((am 5), aI q 6 (I 0)), ((am 6), aI q 6 (I 1)), ((am 7), aI q 6 (I 2)), ((am 8), aI q 6 (I 3)), ((am 9), aI q 6 (I 4)), ((am 10), aI q 6 (I 5)), ((am 11), aI q 6 (I 6)), ((am 12), aI q 6 (I 7)), ((am 13), aI q 6 (I 8)), ((am 14), aD q 48 (D 0)), ((am 15), aD q 6 (D 1)), ((am 16), aD q 6 (D 2)), ((am 17), aD q 96 (D 3)), ((am 18), aD q 96 (D 4)), ((am 19), aD q 4 gg)] := hD
  obtain rfl : ri1 = 1 := hw.trans (if_pos hva)
  refine lv_if_eq (tgt := 30) hx hb dX4_feed_10 (by decide) (fun h => absurd h (by decide)) (fun _ => ?_)
  refine lv_iload_n hx hb dX4_feed_13 rfl (lv_at hl 2 rfl) ?_
  refine lv_sipush (v := (-1000)) hx hb dX4_feed_14 (by decide) ?_
  refine lv_sipush (v := 1000) hx hb dX4_feed_17 (by decide) ?_
  have hPc := hP.sub (ws' := []) [] rfl
  have hDc := hD.sub (ws' := []) [] (by decide) rfl
  have hFc := va_free (wc := []) hD hS hA [] rfl
  refine va_calli (va_runS (As := [.int ta, .int (-1000), .int 1000]) (rest := []) ⟨hx, hb, hml, hown, (dr_words hts s.drawn)⟩ (m_X4_in l G q H.size ta (-1000) 1000) (va_cwS 3 (dr_words hts s.drawn) gX4_feed_X4_in rfl rfl rfl (by decide +kernel) ⟨Nat.le_of_ble_eq_true rfl, Nat.le_of_ble_eq_true rfl⟩) ⟨preW_blind, preW_start (s := s.setDrawn s.drawn) hPc hK hDc (hNF.drawn s.drawn)⟩ rfl rfl hl.1 rfl (lv_room (Nat.le_of_ble_eq_true rfl)) dX4_feed_20 ⟨(Nat.zero_le _), (Nat.zero_le _)⟩) hS (fun q _ h => hFc q h) hFc (fun ri4 u9 t9 H1 locs ht9 hv9 hw hB9 hz9 hk9 hS => ?_)
  obtain ⟨⟩ := u9
  obtain ⟨hP1, hD1⟩ := hB9
  rw [ht9] at hP1
  obtain ⟨hP, hD⟩ := va_join (wr := [(om, .inr (4, [.int th, .int (nI T), .ref (am 0), .ref (am 1), .double mi, .ref (am 2), .ref (am 3), .ref (am 4), .int (nI nf), .ref (am 5), .ref (am 6), .ref (am 7), .ref (am 8), .ref (am 9), .ref (am 10), .ref (am 11), .ref (am 12), .ref (am 13), .ref (am 14), .ref (am 15), .ref (am 16), .ref (am 17), .ref (am 18), .ref (am 19)])), ((am 0), aI q 8 pa), ((am 1), aI q 8 xi), ((am 2), aI q 16 z0), ((am 3), aI q 16 z1), ((am 4), aD q 16 fm), ((am 5), aI q 6 (I 0)), ((am 6), aI q 6 (I 1)), ((am 7), aI q 6 (I 2)), ((am 8), aI q 6 (I 3)), ((am 9), aI q 6 (I 4)), ((am 10), aI q 6 (I 5)), ((am 11), aI q 6 (I 6)), ((am 12), aI q 6 (I 7)), ((am 13), aI q 6 (I 8)), ((am 14), aD q 48 (D 0)), ((am 15), aD q 6 (D 1)), ((am 16), aD q 6 (D 2)), ((am 17), aD q 96 (D 3)), ((am 18), aD q 96 (D 4)), ((am 19), aD q 4 gg)]) (w1 := []) hP hD [] [0, 1, 2, 3, 4, 5, 6, 7, 8, 9, 10, 11, 12, 13, 14, 15, 16, 17, 18, 19, 20] rfl rfl (by decide) (by decide) hk9 hFc hP1 hD1
  generalize H1 = H at hP hS ⊢
  have hP : va_P G vwCl [(om, .inr (4, [.int th, .int (nI T), .ref (am 0), .ref (am 1), .double mi, .ref (am 2), .ref (am 3), .ref (am 4), .int (nI nf), .ref (am 5), .ref (am 6), .ref (am 7), .ref (am 8), .ref (am 9), .ref (am 10), .ref (am 11), .ref (am 12), .ref (am 13), .ref (am 14), .ref (am 15), .ref (am 16), .ref (am 17), .ref (am 18), .ref (am 19)])), ((am 0), aI q 8 pa), ((am 1), aI q 8 xi), ((am 2), aI q 16 z0), ((am 3), aI q 16 z1), ((am 4), aD q 16 fm), ((am 5), aI q 6 (I 0)), ((am 6), aI q 6 (I 1)), ((am 7), aI q 6 (I 2)), ((am 8), aI q 6 (I 3)), ((am 9), aI q 6 (I 4)), ((am 10), aI q 6 (I 5)), ((am 11), aI q 6 (I 6)), ((am 12), aI q 6 (I 7)), ((am 13), aI q 6 (I 8)), ((am 14), aD q 48 (D 0)), ((am 15), aD q 6 (D 1)), ((am 16), aD q 6 (D 2)), ((am 17), aD q 96 (D 3)), ((am 18), aD q 96 (D 4)), ((am 19), aD q 4 gg)] H := hP
  have hD : va_D A [(om, .inr (4, [.int th, .int (nI T), .ref (am 0), .ref (am 1), .double mi, .ref (am 2), .ref (am 3), .ref (am 4), .int (nI nf), .ref (am 5), .ref (am 6), .ref (am 7), .ref (am 8), .ref (am 9), .ref (am 10), .ref (am 11), .ref (am 12), .ref (am 13), .ref (am 14), .ref (am 15), .ref (am 16), .ref (am 17), .ref (am 18), .ref (am 19)])), ((am 0), aI q 8 pa), ((am 1), aI q 8 xi), ((am 2), aI q 16 z0), ((am 3), aI q 16 z1), ((am 4), aD q 16 fm), ((am 5), aI q 6 (I 0)), ((am 6), aI q 6 (I 1)), ((am 7), aI q 6 (I 2)), ((am 8), aI q 6 (I 3)), ((am 9), aI q 6 (I 4)), ((am 10), aI q 6 (I 5)), ((am 11), aI q 6 (I 6)), ((am 12), aI q 6 (I 7)), ((am 13), aI q 6 (I 8)), ((am 14), aD q 48 (D 0)), ((am 15), aD q 6 (D 1)), ((am 16), aD q 6 (D 2)), ((am 17), aD q 96 (D 3)), ((am 18), aD q 96 (D 4)), ((am 19), aD q 4 gg)] := hD
  obtain rfl : ri4 = 1 := hw.trans (if_pos hta)
  refine lv_if_eq (tgt := 30) hx hb dX4_feed_23 (by decide) (fun h => absurd h (by decide)) (fun _ => ?_)
  refine lv_iconst (v := 1) hx hb dX4_feed_26 (by decide) ?_
  refine lv_goto (tgt := 31) hx hb dX4_feed_27 (by decide) ?_
  refine lv_istore_n (lv' := [(3, .int 1), (0, .ref om), (1, .int v), (2, .int ta)]) hx hb dX4_feed_31 rfl hl (by decide) rfl (fun ls hl => ?_)
  refine lv_aload_n hx hb dX4_feed_32 rfl (lv_at hl 1 rfl) ?_
  refine lv_iload_n hx hb dX4_feed_33 rfl (lv_at hl 0 rfl) ?_
  refine lv_if_ne (tgt := 41) hx hb dX4_feed_34 (by decide) (fun _ => ?_) (fun h => absurd h (by decide))
  refine lv_aload_n hx hb dX4_feed_41 rfl (lv_at hl 1 rfl) ?_
  refine va_get (D := G) (ci := 4) (v := .int (nI T)) (C := RX4) (T := TX4) (N := 24) hx hb (dr_words hts s.drawn) in_X4_feed_X4 hown hK hP 0 rfl rfl 1 (by decide) (dr_words hts s.drawn (.fieldLink RX4 130 "EchoBenchModel" "samples" "I") (by decide +kernel)) (fun _ h9 => h9) rfl dX4_feed_42 ?_
  refine lv_sipush (v := 2000) hx hb dX4_feed_45 (by decide) ?_
  refine lv_icmp_ne (tgt := 55) hx hb dX4_feed_48 (by decide) (fun _ => ?_) (fun h => absurd h (nI_ne (b := 2000) (by omega) (by decide) (by omega)))
  refine lv_iconst (v := 0) hx hb dX4_feed_55 (by decide) ?_
  have hPc := hP.sub (ws' := [(om, .inr (4, [.int th, .int (nI T), .ref (am 0), .ref (am 1), .double mi, .ref (am 2), .ref (am 3), .ref (am 4), .int (nI nf), .ref (am 5), .ref (am 6), .ref (am 7), .ref (am 8), .ref (am 9), .ref (am 10), .ref (am 11), .ref (am 12), .ref (am 13), .ref (am 14), .ref (am 15), .ref (am 16), .ref (am 17), .ref (am 18), .ref (am 19)]))]) [0] rfl
  have hDc := hD.sub (ws' := [(om, .inr (4, [.int th, .int (nI T), .ref (am 0), .ref (am 1), .double mi, .ref (am 2), .ref (am 3), .ref (am 4), .int (nI nf), .ref (am 5), .ref (am 6), .ref (am 7), .ref (am 8), .ref (am 9), .ref (am 10), .ref (am 11), .ref (am 12), .ref (am 13), .ref (am 14), .ref (am 15), .ref (am 16), .ref (am 17), .ref (am 18), .ref (am 19)]))]) [0] (by decide) rfl
  have hFc := va_free (wc := [(om, .inr (4, [.int th, .int (nI T), .ref (am 0), .ref (am 1), .double mi, .ref (am 2), .ref (am 3), .ref (am 4), .int (nI nf), .ref (am 5), .ref (am 6), .ref (am 7), .ref (am 8), .ref (am 9), .ref (am 10), .ref (am 11), .ref (am 12), .ref (am 13), .ref (am 14), .ref (am 15), .ref (am 16), .ref (am 17), .ref (am 18), .ref (am 19)]))]) hD hS hA [0] rfl
  refine va_calli (va_runV (As := [.int 0]) (rest := []) ⟨hx, hb, hml, hown, (dr_words hts s.drawn)⟩ (m_X4_goesWell l G q H.size om am th (nI T) (nI nf) mi 0) (cwV 1 (dr_words hts s.drawn) gX4_feed_X4_goesWell rfl rfl rfl (by decide +kernel) ⟨Nat.le_of_ble_eq_true rfl, Nat.le_of_ble_eq_true rfl⟩) ⟨preW_blind, (va_recv hK hPc (ci := 4) (q0 := 0) rfl rfl), preW_start (s := s.setDrawn s.drawn) hPc hK hDc (hNF.drawn s.drawn)⟩ rfl rfl hl.1 rfl (lv_room (Nat.le_of_ble_eq_true rfl)) dX4_feed_56 ⟨(Nat.zero_le _), (Nat.zero_le _)⟩) hS (fun q _ h => hFc q h) hFc (fun gr9 u9 t9 H1 locs ht9 hv9 hw hB9 hz9 hk9 hS => ?_)
  obtain ⟨⟩ := u9
  obtain ⟨hP1, hD1⟩ := hB9
  rw [ht9] at hP1
  obtain ⟨hP, hD⟩ := va_join (wr := [((am 0), aI q 8 pa), ((am 1), aI q 8 xi), ((am 2), aI q 16 z0), ((am 3), aI q 16 z1), ((am 4), aD q 16 fm), ((am 5), aI q 6 (I 0)), ((am 6), aI q 6 (I 1)), ((am 7), aI q 6 (I 2)), ((am 8), aI q 6 (I 3)), ((am 9), aI q 6 (I 4)), ((am 10), aI q 6 (I 5)), ((am 11), aI q 6 (I 6)), ((am 12), aI q 6 (I 7)), ((am 13), aI q 6 (I 8)), ((am 14), aD q 48 (D 0)), ((am 15), aD q 6 (D 1)), ((am 16), aD q 6 (D 2)), ((am 17), aD q 96 (D 3)), ((am 18), aD q 96 (D 4)), ((am 19), aD q 4 gg)]) (w1 := [(om, .inr (4, [.int 0, .int (nI T), .ref (am 0), .ref (am 1), .double mi, .ref (am 2), .ref (am 3), .ref (am 4), .int (nI nf), .ref (am 5), .ref (am 6), .ref (am 7), .ref (am 8), .ref (am 9), .ref (am 10), .ref (am 11), .ref (am 12), .ref (am 13), .ref (am 14), .ref (am 15), .ref (am 16), .ref (am 17), .ref (am 18), .ref (am 19)]))]) hP hD [0] [1, 2, 3, 4, 5, 6, 7, 8, 9, 10, 11, 12, 13, 14, 15, 16, 17, 18, 19, 20] rfl rfl (by decide) (by decide) hk9 hFc hP1 hD1
  generalize H1 = H at hP hS ⊢
  have hP : va_P G vwCl [((am 0), aI q 8 pa), ((am 1), aI q 8 xi), ((am 2), aI q 16 z0), ((am 3), aI q 16 z1), ((am 4), aD q 16 fm), ((am 5), aI q 6 (I 0)), ((am 6), aI q 6 (I 1)), ((am 7), aI q 6 (I 2)), ((am 8), aI q 6 (I 3)), ((am 9), aI q 6 (I 4)), ((am 10), aI q 6 (I 5)), ((am 11), aI q 6 (I 6)), ((am 12), aI q 6 (I 7)), ((am 13), aI q 6 (I 8)), ((am 14), aD q 48 (D 0)), ((am 15), aD q 6 (D 1)), ((am 16), aD q 6 (D 2)), ((am 17), aD q 96 (D 3)), ((am 18), aD q 96 (D 4)), ((am 19), aD q 4 gg), (om, .inr (4, [.int 0, .int (nI T), .ref (am 0), .ref (am 1), .double mi, .ref (am 2), .ref (am 3), .ref (am 4), .int (nI nf), .ref (am 5), .ref (am 6), .ref (am 7), .ref (am 8), .ref (am 9), .ref (am 10), .ref (am 11), .ref (am 12), .ref (am 13), .ref (am 14), .ref (am 15), .ref (am 16), .ref (am 17), .ref (am 18), .ref (am 19)]))] H := hP
  have hD : va_D A [((am 0), aI q 8 pa), ((am 1), aI q 8 xi), ((am 2), aI q 16 z0), ((am 3), aI q 16 z1), ((am 4), aD q 16 fm), ((am 5), aI q 6 (I 0)), ((am 6), aI q 6 (I 1)), ((am 7), aI q 6 (I 2)), ((am 8), aI q 6 (I 3)), ((am 9), aI q 6 (I 4)), ((am 10), aI q 6 (I 5)), ((am 11), aI q 6 (I 6)), ((am 12), aI q 6 (I 7)), ((am 13), aI q 6 (I 8)), ((am 14), aD q 48 (D 0)), ((am 15), aD q 6 (D 1)), ((am 16), aD q 6 (D 2)), ((am 17), aD q 96 (D 3)), ((am 18), aD q 96 (D 4)), ((am 19), aD q 4 gg), (om, .inr (4, [.int 0, .int (nI T), .ref (am 0), .ref (am 1), .double mi, .ref (am 2), .ref (am 3), .ref (am 4), .int (nI nf), .ref (am 5), .ref (am 6), .ref (am 7), .ref (am 8), .ref (am 9), .ref (am 10), .ref (am 11), .ref (am 12), .ref (am 13), .ref (am 14), .ref (am 15), .ref (am 16), .ref (am 17), .ref (am 18), .ref (am 19)]))] := hD
  obtain rfl : gr9 = 1 := hw.trans (by decide)
  refine lv_if_ne (tgt := 64) hx hb dX4_feed_59 (by decide) (fun _ => ?_) (fun h => absurd h (by decide))
  refine lv_aload_n hx hb dX4_feed_64 rfl (lv_at hl 1 rfl) ?_
  refine lv_iload_n hx hb dX4_feed_65 rfl (lv_at hl 2 rfl) ?_
  refine lv_iload_n hx hb dX4_feed_66 rfl (lv_at hl 3 rfl) ?_
  have hPc := hP.sub (ws' := [(om, .inr (4, [.int 0, .int (nI T), .ref (am 0), .ref (am 1), .double mi, .ref (am 2), .ref (am 3), .ref (am 4), .int (nI nf), .ref (am 5), .ref (am 6), .ref (am 7), .ref (am 8), .ref (am 9), .ref (am 10), .ref (am 11), .ref (am 12), .ref (am 13), .ref (am 14), .ref (am 15), .ref (am 16), .ref (am 17), .ref (am 18), .ref (am 19)])), ((am 0), aI q 8 pa), ((am 1), aI q 8 xi), ((am 2), aI q 16 z0), ((am 3), aI q 16 z1), ((am 4), aD q 16 fm), ((am 5), aI q 6 (I 0)), ((am 6), aI q 6 (I 1)), ((am 7), aI q 6 (I 2)), ((am 8), aI q 6 (I 3)), ((am 9), aI q 6 (I 4)), ((am 10), aI q 6 (I 5)), ((am 11), aI q 6 (I 6)), ((am 12), aI q 6 (I 7)), ((am 13), aI q 6 (I 8)), ((am 14), aD q 48 (D 0)), ((am 15), aD q 6 (D 1)), ((am 16), aD q 6 (D 2)), ((am 17), aD q 96 (D 3)), ((am 18), aD q 96 (D 4)), ((am 19), aD q 4 gg)]) [20, 0, 1, 2, 3, 4, 5, 6, 7, 8, 9, 10, 11, 12, 13, 14, 15, 16, 17, 18, 19] rfl
  have hDc := hD.sub (ws' := [(om, .inr (4, [.int 0, .int (nI T), .ref (am 0), .ref (am 1), .double mi, .ref (am 2), .ref (am 3), .ref (am 4), .int (nI nf), .ref (am 5), .ref (am 6), .ref (am 7), .ref (am 8), .ref (am 9), .ref (am 10), .ref (am 11), .ref (am 12), .ref (am 13), .ref (am 14), .ref (am 15), .ref (am 16), .ref (am 17), .ref (am 18), .ref (am 19)])), ((am 0), aI q 8 pa), ((am 1), aI q 8 xi), ((am 2), aI q 16 z0), ((am 3), aI q 16 z1), ((am 4), aD q 16 fm), ((am 5), aI q 6 (I 0)), ((am 6), aI q 6 (I 1)), ((am 7), aI q 6 (I 2)), ((am 8), aI q 6 (I 3)), ((am 9), aI q 6 (I 4)), ((am 10), aI q 6 (I 5)), ((am 11), aI q 6 (I 6)), ((am 12), aI q 6 (I 7)), ((am 13), aI q 6 (I 8)), ((am 14), aD q 48 (D 0)), ((am 15), aD q 6 (D 1)), ((am 16), aD q 6 (D 2)), ((am 17), aD q 96 (D 3)), ((am 18), aD q 96 (D 4)), ((am 19), aD q 4 gg)]) [20, 0, 1, 2, 3, 4, 5, 6, 7, 8, 9, 10, 11, 12, 13, 14, 15, 16, 17, 18, 19] (by decide) rfl
  have hFc := va_free (wc := [(om, .inr (4, [.int 0, .int (nI T), .ref (am 0), .ref (am 1), .double mi, .ref (am 2), .ref (am 3), .ref (am 4), .int (nI nf), .ref (am 5), .ref (am 6), .ref (am 7), .ref (am 8), .ref (am 9), .ref (am 10), .ref (am 11), .ref (am 12), .ref (am 13), .ref (am 14), .ref (am 15), .ref (am 16), .ref (am 17), .ref (am 18), .ref (am 19)])), ((am 0), aI q 8 pa), ((am 1), aI q 8 xi), ((am 2), aI q 16 z0), ((am 3), aI q 16 z1), ((am 4), aD q 16 fm), ((am 5), aI q 6 (I 0)), ((am 6), aI q 6 (I 1)), ((am 7), aI q 6 (I 2)), ((am 8), aI q 6 (I 3)), ((am 9), aI q 6 (I 4)), ((am 10), aI q 6 (I 5)), ((am 11), aI q 6 (I 6)), ((am 12), aI q 6 (I 7)), ((am 13), aI q 6 (I 8)), ((am 14), aD q 48 (D 0)), ((am 15), aD q 6 (D 1)), ((am 16), aD q 6 (D 2)), ((am 17), aD q 96 (D 3)), ((am 18), aD q 96 (D 4)), ((am 19), aD q 4 gg)]) hD hS hA [20, 0, 1, 2, 3, 4, 5, 6, 7, 8, 9, 10, 11, 12, 13, 14, 15, 16, 17, 18, 19] rfl
  refine va_callvD hd0 (va_runV_D (As := [.int v, .int ta]) (rest := []) ⟨hx, hb, hml, hown, (dr_words hts s.drawn)⟩ (m_X4_sample l G q H.size om am 0 mi T nf v ta pa xi z0 z1 fm gg I D hT hnf hv) (cwV 2 (dr_words hts s.drawn) gX4_feed_X4_sample rfl rfl rfl (by decide +kernel) ⟨Nat.le_of_ble_eq_true rfl, Nat.le_of_ble_eq_true rfl⟩) ⟨preW_blind, (va_recv hK hPc (ci := 4) (q0 := 0) rfl rfl), preW_start (s := s.setDrawn s.drawn) hPc hK hDc (hNF.drawn s.drawn)⟩ rfl rfl hl.1 rfl (lv_room (Nat.le_of_ble_eq_true rfl)) dX4_feed_67 ⟨(Nat.zero_le _), (Nat.zero_le _)⟩) hS (fun q _ h => hFc q h) hFc (fun u9 t9 H1 locs ht9 hv9 hw hB9 hz9 hk9 hS du13 hu13 => ?_)
  obtain ⟨um, uJ, uE, ug⟩ := u9
  obtain ⟨hP1, hD1⟩ := hB9
  rw [ht9] at hP1
  obtain ⟨hP, hD⟩ := va_join (wr := []) (w1 := [(om, .inr (4, [.int 0, .int (nI (T + 1)), .ref (am 0), .ref (am 1), .double um, .ref (am 2), .ref (am 3), .ref (am 4), .int (nI nf), .ref (am 5), .ref (am 6), .ref (am 7), .ref (am 8), .ref (am 9), .ref (am 10), .ref (am 11), .ref (am 12), .ref (am 13), .ref (am 14), .ref (am 15), .ref (am 16), .ref (am 17), .ref (am 18), .ref (am 19)])), ((am 0), aI q 8 pa), ((am 1), aI q 8 (shX xi v)), ((am 2), aI q 16 (vf_upd z0 (T % 16) v)), ((am 3), aI q 16 (vf_upd z1 (T % 16) (xi 0))), ((am 4), aD q 16 (vf_upd fm (T % 16) um)), ((am 5), aI q 6 (uJ 0)), ((am 6), aI q 6 (uJ 1)), ((am 7), aI q 6 (uJ 2)), ((am 8), aI q 6 (uJ 3)), ((am 9), aI q 6 (uJ 4)), ((am 10), aI q 6 (uJ 5)), ((am 11), aI q 6 (uJ 6)), ((am 12), aI q 6 (uJ 7)), ((am 13), aI q 6 (uJ 8)), ((am 14), aD q 48 (uE 0)), ((am 15), aD q 6 (uE 1)), ((am 16), aD q 6 (uE 2)), ((am 17), aD q 96 (uE 3)), ((am 18), aD q 96 (uE 4)), ((am 19), aD q 4 ug)]) hP hD [20, 0, 1, 2, 3, 4, 5, 6, 7, 8, 9, 10, 11, 12, 13, 14, 15, 16, 17, 18, 19] [] rfl rfl (by decide) (by decide) hk9 hFc hP1 hD1
  generalize H1 = H at hP hS ⊢
  have hP : va_P G vwCl [(om, .inr (4, [.int 0, .int (nI (T + 1)), .ref (am 0), .ref (am 1), .double um, .ref (am 2), .ref (am 3), .ref (am 4), .int (nI nf), .ref (am 5), .ref (am 6), .ref (am 7), .ref (am 8), .ref (am 9), .ref (am 10), .ref (am 11), .ref (am 12), .ref (am 13), .ref (am 14), .ref (am 15), .ref (am 16), .ref (am 17), .ref (am 18), .ref (am 19)])), ((am 0), aI q 8 pa), ((am 1), aI q 8 (shX xi v)), ((am 2), aI q 16 (vf_upd z0 (T % 16) v)), ((am 3), aI q 16 (vf_upd z1 (T % 16) (xi 0))), ((am 4), aD q 16 (vf_upd fm (T % 16) um)), ((am 5), aI q 6 (uJ 0)), ((am 6), aI q 6 (uJ 1)), ((am 7), aI q 6 (uJ 2)), ((am 8), aI q 6 (uJ 3)), ((am 9), aI q 6 (uJ 4)), ((am 10), aI q 6 (uJ 5)), ((am 11), aI q 6 (uJ 6)), ((am 12), aI q 6 (uJ 7)), ((am 13), aI q 6 (uJ 8)), ((am 14), aD q 48 (uE 0)), ((am 15), aD q 6 (uE 1)), ((am 16), aD q 6 (uE 2)), ((am 17), aD q 96 (uE 3)), ((am 18), aD q 96 (uE 4)), ((am 19), aD q 4 ug)] H := hP
  have hD : va_D A [(om, .inr (4, [.int 0, .int (nI (T + 1)), .ref (am 0), .ref (am 1), .double um, .ref (am 2), .ref (am 3), .ref (am 4), .int (nI nf), .ref (am 5), .ref (am 6), .ref (am 7), .ref (am 8), .ref (am 9), .ref (am 10), .ref (am 11), .ref (am 12), .ref (am 13), .ref (am 14), .ref (am 15), .ref (am 16), .ref (am 17), .ref (am 18), .ref (am 19)])), ((am 0), aI q 8 pa), ((am 1), aI q 8 (shX xi v)), ((am 2), aI q 16 (vf_upd z0 (T % 16) v)), ((am 3), aI q 16 (vf_upd z1 (T % 16) (xi 0))), ((am 4), aD q 16 (vf_upd fm (T % 16) um)), ((am 5), aI q 6 (uJ 0)), ((am 6), aI q 6 (uJ 1)), ((am 7), aI q 6 (uJ 2)), ((am 8), aI q 6 (uJ 3)), ((am 9), aI q 6 (uJ 4)), ((am 10), aI q 6 (uJ 5)), ((am 11), aI q 6 (uJ 6)), ((am 12), aI q 6 (uJ 7)), ((am 13), aI q 6 (uJ 8)), ((am 14), aD q 48 (uE 0)), ((am 15), aD q 6 (uE 1)), ((am 16), aD q 6 (uE 2)), ((am 17), aD q 96 (uE 3)), ((am 18), aD q 96 (uE 4)), ((am 19), aD q 4 ug)] := hD
  have hs := hw
  refine lv_aload_n hx hb dX4_feed_70 rfl (lv_at hl 1 rfl) ?_
  refine va_get (D := G) (ci := 4) (v := .int (nI (T + 1))) (C := RX4) (T := TX4) (N := 24) hx hb (dr_words hts du13) in_X4_feed_X4 hown hK hP 0 rfl rfl 1 (by decide) (dr_words hts du13 (.fieldLink RX4 130 "EchoBenchModel" "samples" "I") (by decide +kernel)) (fun _ h9 => h9) rfl dX4_feed_71 ?_
  have hP9 := hP
  have hD9 := hD
  refine W.endD hu13 ?_
  exact W.iret (v := (nI (T + 1))) hx hb hr (fun t ht hW => ⟨⟨(nI (T + 1)), (um, uJ, uE, ug), rfl, ⟨rfl, hs⟩, by rw [ht]; exact hP9, hD9⟩, hS.F ht⟩) hS.2.2 dX4_feed_74

set_option maxHeartbeats 4000000 in
set_option maxRecDepth 100000 in
/-- script: where it goes well -/
theorem m_X4_script (l : Launch) (G : va_G) (q : Nat → ClassId) (sz : Nat) (om : Nat) (am : Nat → Nat) (th : Int32) (mi : UInt64) (T nf a my : Nat) (pa xi z0 z1 : Nat → Int32) (fm gg : Nat → UInt64) (I : Nat → Nat → Int32) (D : Nat → Nat → UInt64) (b0 : BS) (ha : a ≤ 2000) (hm1 : 1 ≤ my) (hm2 : my ≤ 100) (hT : T + my ≤ 2000) (hnf : nf ≤ 6) (hpic : picM nf T xi z0 z1 fm mi I D b0) (hv : ∀ g, g < nf → vS T (mF I D g)) : MetD lw_cs l yX4_script wsX4_script ({ frames := 4, cells := 0, slots := 0, locals := 108 } : Jvm.Room) (PreW G q [.ref om, .int (nI a), .int (nI my)] [(om, .inr (4, [.int th, .int (nI T), .ref (am 0), .ref (am 1), .double mi, .ref (am 2), .ref (am 3), .ref (am 4), .int (nI nf), .ref (am 5), .ref (am 6), .ref (am 7), .ref (am 8), .ref (am 9), .ref (am 10), .ref (am 11), .ref (am 12), .ref (am 13), .ref (am 14), .ref (am 15), .ref (am 16), .ref (am 17), .ref (am 18), .ref (am 19)])), ((am 0), aI q 8 pa), ((am 1), aI q 8 xi), ((am 2), aI q 16 z0), ((am 3), aI q 16 z1), ((am 4), aD q 16 fm), ((am 5), aI q 6 (I 0)), ((am 6), aI q 6 (I 1)), ((am 7), aI q 6 (I 2)), ((am 8), aI q 6 (I 3)), ((am 9), aI q 6 (I 4)), ((am 10), aI q 6 (I 5)), ((am 11), aI q 6 (I 6)), ((am 12), aI q 6 (I 7)), ((am 13), aI q 6 (I 8)), ((am 14), aD q 48 (D 0)), ((am 15), aD q 6 (D 1)), ((am 16), aD q 6 (D 2)), ((am 17), aD q 96 (D 3)), ((am 18), aD q 96 (D 4)), ((am 19), aD q 4 gg)] sz) (va_Qi (fun (r : Int32) (u : (Nat → Int32) × (Nat → Int32) × (Nat → Int32) × (Nat → UInt64) × UInt64 × (Nat → Nat → Int32) × (Nat → Nat → UInt64) × (Nat → UInt64)) => r = nI (scrA a my) ∧ picM nf (T + my) u.1 u.2.1 u.2.2.1 u.2.2.2.1 u.2.2.2.2.1 u.2.2.2.2.2.1 u.2.2.2.2.2.2.1 (bsN pa a my b0) ∧ (∀ g, g < nf → vS (T + my) (mF u.2.2.2.2.2.1 u.2.2.2.2.2.2.1 g)) ∧ ∀ g, nf ≤ g → sameS I u.2.2.2.2.2.1 D u.2.2.2.2.2.2.1 g) (fun (u : (Nat → Int32) × (Nat → Int32) × (Nat → Int32) × (Nat → UInt64) × UInt64 × (Nat → Nat → Int32) × (Nat → Nat → UInt64) × (Nat → UInt64)) t => EndA G (va_A [(om, .inr (4, [.int th, .int (nI T), .ref (am 0), .ref (am 1), .double mi, .ref (am 2), .ref (am 3), .ref (am 4), .int (nI nf), .ref (am 5), .ref (am 6), .ref (am 7), .ref (am 8), .ref (am 9), .ref (am 10), .ref (am 11), .ref (am 12), .ref (am 13), .ref (am 14), .ref (am 15), .ref (am 16), .ref (am 17), .ref (am 18), .ref (am 19)])), ((am 0), aI q 8 pa), ((am 1), aI q 8 xi), ((am 2), aI q 16 z0), ((am 3), aI q 16 z1), ((am 4), aD q 16 fm), ((am 5), aI q 6 (I 0)), ((am 6), aI q 6 (I 1)), ((am 7), aI q 6 (I 2)), ((am 8), aI q 6 (I 3)), ((am 9), aI q 6 (I 4)), ((am 10), aI q 6 (I 5)), ((am 11), aI q 6 (I 6)), ((am 12), aI q 6 (I 7)), ((am 13), aI q 6 (I 8)), ((am 14), aD q 48 (D 0)), ((am 15), aD q 6 (D 1)), ((am 16), aD q 6 (D 2)), ((am 17), aD q 96 (D 3)), ((am 18), aD q 96 (D 4)), ((am 19), aD q 4 gg)] sz) [(om, .inr (4, [.int 0, .int (nI (T + my)), .ref (am 0), .ref (am 1), .double u.2.2.2.2.1, .ref (am 2), .ref (am 3), .ref (am 4), .int (nI nf), .ref (am 5), .ref (am 6), .ref (am 7), .ref (am 8), .ref (am 9), .ref (am 10), .ref (am 11), .ref (am 12), .ref (am 13), .ref (am 14), .ref (am 15), .ref (am 16), .ref (am 17), .ref (am 18), .ref (am 19)])), ((am 0), aI q 8 pa), ((am 1), aI q 8 u.1), ((am 2), aI q 16 u.2.1), ((am 3), aI q 16 u.2.2.1), ((am 4), aD q 16 u.2.2.2.1), ((am 5), aI q 6 (u.2.2.2.2.2.1 0)), ((am 6), aI q 6 (u.2.2.2.2.2.1 1)), ((am 7), aI q 6 (u.2.2.2.2.2.1 2)), ((am 8), aI q 6 (u.2.2.2.2.2.1 3)), ((am 9), aI q 6 (u.2.2.2.2.2.1 4)), ((am 10), aI q 6 (u.2.2.2.2.2.1 5)), ((am 11), aI q 6 (u.2.2.2.2.2.1 6)), ((am 12), aI q 6 (u.2.2.2.2.2.1 7)), ((am 13), aI q 6 (u.2.2.2.2.2.1 8)), ((am 14), aD q 48 (u.2.2.2.2.2.2.1 0)), ((am 15), aD q 6 (u.2.2.2.2.2.2.1 1)), ((am 16), aD q 6 (u.2.2.2.2.2.2.1 2)), ((am 17), aD q 96 (u.2.2.2.2.2.2.1 3)), ((am 18), aD q 96 (u.2.2.2.2.2.2.1 4)), ((am 19), aD q 4 u.2.2.2.2.2.2.2)] t) (va_A [(om, .inr (4, [.int th, .int (nI T), .ref (am 0), .ref (am 1), .double mi, .ref (am 2), .ref (am 3), .ref (am 4), .int (nI nf), .ref (am 5), .ref (am 6), .ref (am 7), .ref (am 8), .ref (am 9), .ref (am 10), .ref (am 11), .ref (am 12), .ref (am 13), .ref (am 14), .ref (am 15), .ref (am 16), .ref (am 17), .ref (am 18), .ref (am 19)])), ((am 0), aI q 8 pa), ((am 1), aI q 8 xi), ((am 2), aI q 16 z0), ((am 3), aI q 16 z1), ((am 4), aD q 16 fm), ((am 5), aI q 6 (I 0)), ((am 6), aI q 6 (I 1)), ((am 7), aI q 6 (I 2)), ((am 8), aI q 6 (I 3)), ((am 9), aI q 6 (I 4)), ((am 10), aI q 6 (I 5)), ((am 11), aI q 6 (I 6)), ((am 12), aI q 6 (I 7)), ((am 13), aI q 6 (I 8)), ((am 14), aD q 48 (D 0)), ((am 15), aD q 6 (D 1)), ((am 16), aD q 6 (D 2)), ((am 17), aD q 96 (D 3)), ((am 18), aD q 96 (D 4)), ((am 19), aD q 4 gg)] sz)) 0 0 (va_A [(om, .inr (4, [.int th, .int (nI T), .ref (am 0), .ref (am 1), .double mi, .ref (am 2), .ref (am 3), .ref (am 4), .int (nI nf), .ref (am 5), .ref (am 6), .ref (am 7), .ref (am 8), .ref (am 9), .ref (am 10), .ref (am 11), .ref (am 12), .ref (am 13), .ref (am 14), .ref (am 15), .ref (am 16), .ref (am 17), .ref (am 18), .ref (am 19)])), ((am 0), aI q 8 pa), ((am 1), aI q 8 xi), ((am 2), aI q 16 z0), ((am 3), aI q 16 z1), ((am 4), aD q 16 fm), ((am 5), aI q 6 (I 0)), ((am 6), aI q 6 (I 1)), ((am 7), aI q 6 (I 2)), ((am 8), aI q 6 (I 3)), ((am 9), aI q 6 (I 4)), ((am 10), aI q 6 (I 5)), ((am 11), aI q 6 (I 6)), ((am 12), aI q 6 (I 7)), ((am 13), aI q 6 (I 8)), ((am 14), aD q 48 (D 0)), ((am 15), aD q 6 (D 1)), ((am 16), aD q 6 (D 2)), ((am 17), aD q 96 (D 3)), ((am 18), aD q 96 (D 4)), ((am 19), aD q 4 gg)] sz) := by
  refine MetD.ofW (cc := cX4_script) (maxL := 6) (ret := (some .int)) (by decide +kernel) rfl ?_
  intro p e s m args below meth c s₁ B hml hv hd0
  obtain ⟨rfl, hsz, hP, hK, hD0, hNF⟩ := hv
  have hx := B.exec
  have hb := B.bytes
  have hr := B.returns
  have hts := atoms_spec (ws := wsX4_script) B.pre
  have hown : s.vm.findClass RX4 = some m.cls := findClass_of_methodNamed B.named
  have hlocks := B.notSynchronized
  subst hsz
  have hD := hD0.self (sz := s.heap.size)
  generalize hAe : va_A [(om, .inr (4, [.int th, .int (nI T), .ref (am 0), .ref (am 1), .double mi, .ref (am 2), .ref (am 3), .ref (am 4), .int (nI nf), .ref (am 5), .ref (am 6), .ref (am 7), .ref (am 8), .ref (am 9), .ref (am 10), .ref (am 11), .ref (am 12), .ref (am 13), .ref (am 14), .ref (am 15), .ref (am 16), .ref (am 17), .ref (am 18), .ref (am 19)])), ((am 0), aI q 8 pa), ((am 1), aI q 8 xi), ((am 2), aI q 16 z0), ((am 3), aI q 16 z1), ((am 4), aD q 16 fm), ((am 5), aI q 6 (I 0)), ((am 6), aI q 6 (I 1)), ((am 7), aI q 6 (I 2)), ((am 8), aI q 6 (I 3)), ((am 9), aI q 6 (I 4)), ((am 10), aI q 6 (I 5)), ((am 11), aI q 6 (I 6)), ((am 12), aI q 6 (I 7)), ((am 13), aI q 6 (I 8)), ((am 14), aD q 48 (D 0)), ((am 15), aD q 6 (D 1)), ((am 16), aD q 6 (D 2)), ((am 17), aD q 96 (D 3)), ((am 18), aD q 96 (D 4)), ((am 19), aD q 4 gg)] s.heap.size = A at hD ⊢
  have hA : ∀ q : Nat, s.heap.size ≤ q → A q := fun q h => by rw [← hAe]; exact Or.inr h
  have hS : va_S A s.heap s.heap [] := va_S.rf
  have hP : va_P G vwCl [(om, .inr (4, [.int th, .int (nI T), .ref (am 0), .ref (am 1), .double mi, .ref (am 2), .ref (am 3), .ref (am 4), .int (nI nf), .ref (am 5), .ref (am 6), .ref (am 7), .ref (am 8), .ref (am 9), .ref (am 10), .ref (am 11), .ref (am 12), .ref (am 13), .ref (am 14), .ref (am 15), .ref (am 16), .ref (am 17), .ref (am 18), .ref (am 19)])), ((am 0), aI q 8 pa), ((am 1), aI q 8 xi), ((am 2), aI q 16 z0), ((am 3), aI q 16 z1), ((am 4), aD q 16 fm), ((am 5), aI q 6 (I 0)), ((am 6), aI q 6 (I 1)), ((am 7), aI q 6 (I 2)), ((am 8), aI q 6 (I 3)), ((am 9), aI q 6 (I 4)), ((am 10), aI q 6 (I 5)), ((am 11), aI q 6 (I 6)), ((am 12), aI q 6 (I 7)), ((am 13), aI q 6 (I 8)), ((am 14), aD q 48 (D 0)), ((am 15), aD q 6 (D 1)), ((am 16), aD q 6 (D 2)), ((am 17), aD q 96 (D 3)), ((am 18), aD q 96 (D 4)), ((am 19), aD q 4 gg)] s.heap := hP
  have hl := lv_entry ([.ref om, .int (nI a), .int (nI my)]) (n := 6) (Nat.le_of_ble_eq_true rfl)
  rw [lg_entry_eq]
  generalize (lg_sl ([.ref om, .int (nI a), .int (nI my)]) ++ List.replicate (6 - (lg_sl ([.ref om, .int (nI a), .int (nI my)])).length) Slot.unset).toArray = ls at hl ⊢
  have hl : lv_has ls 6 [(0, .ref om), (1, .int (nI a)), (2, .int (nI my))] := hl
  refine lv_iload_n hx hb dX4_script_0 rfl (lv_at hl 1 rfl) ?_
  refine lv_iconst (v := 0) hx hb dX4_script_1 (by decide) ?_
  refine lv_sipush (v := 2000) hx hb dX4_script_2 (by decide) ?_
  have hPc := hP.sub (ws' := []) [] rfl
  have hDc := hD.sub (ws' := []) [] (by decide) rfl
  have hFc := va_free (wc := []) hD hS hA [] rfl
  refine va_calli (va_runS (As := [.int (nI a), .int 0, .int 2000]) (rest := []) ⟨hx, hb, hml, hown, (dr_words hts s.drawn)⟩ (m_X4_in l G q s.heap.size (nI a) 0 2000) (va_cwS 3 (dr_words hts s.drawn) gX4_script_X4_in rfl rfl rfl (by decide +kernel) ⟨Nat.le_of_ble_eq_true rfl, Nat.le_of_ble_eq_true rfl⟩) ⟨preW_blind, preW_start (s := s.setDrawn s.drawn) hPc hK hDc (hNF.drawn s.drawn)⟩ rfl rfl hl.1 rfl (lv_room (Nat.le_of_ble_eq_true rfl)) dX4_script_5 ⟨(Nat.zero_le _), (Nat.zero_le _)⟩) hS (fun q _ h => hFc q h) hFc (fun ri1 u9 t9 H1 locs ht9 hv9 hw hB9 hz9 hk9 hS => ?_)
  obtain ⟨⟩ := u9
  obtain ⟨hP1, hD1⟩ := hB9
  rw [ht9] at hP1
  obtain ⟨hP, hD⟩ := va_join (wr := [(om, .inr (4, [.int th, .int (nI T), .ref (am 0), .ref (am 1), .double mi, .ref (am 2), .ref (am 3), .ref (am 4), .int (nI nf), .ref (am 5), .ref (am 6), .ref (am 7), .ref (am 8), .ref (am 9), .ref (am 10), .ref (am 11), .ref (am 12), .ref (am 13), .ref (am 14), .ref (am 15), .ref (am 16), .ref (am 17), .ref (am 18), .ref (am 19)])), ((am 0), aI q 8 pa), ((am 1), aI q 8 xi), ((am 2), aI q 16 z0), ((am 3), aI q 16 z1), ((am 4), aD q 16 fm), ((am 5), aI q 6 (I 0)), ((am 6), aI q 6 (I 1)), ((am 7), aI q 6 (I 2)), ((am 8), aI q 6 (I 3)), ((am 9), aI q 6 (I 4)), ((am 10), aI q 6 (I 5)), ((am 11), aI q 6 (I 6)), ((am 12), aI q 6 (I 7)), ((am 13), aI q 6 (I 8)), ((am 14), aD q 48 (D 0)), ((am 15), aD q 6 (D 1)), ((am 16), aD q 6 (D 2)), ((am 17), aD q 96 (D 3)), ((am 18), aD q 96 (D 4)), ((am 19), aD q 4 gg)]) (w1 := []) hP hD [] [0, 1, 2, 3, 4, 5, 6, 7, 8, 9, 10, 11, 12, 13, 14, 15, 16, 17, 18, 19, 20] rfl rfl (by decide) (by decide) hk9 hFc hP1 hD1
  generalize H1 = H at hP hS ⊢
  have hP : va_P G vwCl [(om, .inr (4, [.int th, .int (nI T), .ref (am 0), .ref (am 1), .double mi, .ref (am 2), .ref (am 3), .ref (am 4), .int (nI nf), .ref (am 5), .ref (am 6), .ref (am 7), .ref (am 8), .ref (am 9), .ref (am 10), .ref (am 11), .ref (am 12), .ref (am 13), .ref (am 14), .ref (am 15), .ref (am 16), .ref (am 17), .ref (am 18), .ref (am 19)])), ((am 0), aI q 8 pa), ((am 1), aI q 8 xi), ((am 2), aI q 16 z0), ((am 3), aI q 16 z1), ((am 4), aD q 16 fm), ((am 5), aI q 6 (I 0)), ((am 6), aI q 6 (I 1)), ((am 7), aI q 6 (I 2)), ((am 8), aI q 6 (I 3)), ((am 9), aI q 6 (I 4)), ((am 10), aI q 6 (I 5)), ((am 11), aI q 6 (I 6)), ((am 12), aI q 6 (I 7)), ((am 13), aI q 6 (I 8)), ((am 14), aD q 48 (D 0)), ((am 15), aD q 6 (D 1)), ((am 16), aD q 6 (D 2)), ((am 17), aD q 96 (D 3)), ((am 18), aD q 96 (D 4)), ((am 19), aD q 4 gg)] H := hP
  have hD : va_D A [(om, .inr (4, [.int th, .int (nI T), .ref (am 0), .ref (am 1), .double mi, .ref (am 2), .ref (am 3), .ref (am 4), .int (nI nf), .ref (am 5), .ref (am 6), .ref (am 7), .ref (am 8), .ref (am 9), .ref (am 10), .ref (am 11), .ref (am 12), .ref (am 13), .ref (am 14), .ref (am 15), .ref (am 16), .ref (am 17), .ref (am 18), .ref (am 19)])), ((am 0), aI q 8 pa), ((am 1), aI q 8 xi), ((am 2), aI q 16 z0), ((am 3), aI q 16 z1), ((am 4), aD q 16 fm), ((am 5), aI q 6 (I 0)), ((am 6), aI q 6 (I 1)), ((am 7), aI q 6 (I 2)), ((am 8), aI q 6 (I 3)), ((am 9), aI q 6 (I 4)), ((am 10), aI q 6 (I 5)), ((am 11), aI q 6 (I 6)), ((am 12), aI q 6 (I 7)), ((am 13), aI q 6 (I 8)), ((am 14), aD q 48 (D 0)), ((am 15), aD q 6 (D 1)), ((am 16), aD q 6 (D 2)), ((am 17), aD q 96 (D 3)), ((am 18), aD q 96 (D 4)), ((am 19), aD q 4 gg)] := hD
  obtain rfl : ri1 = 1 := hw.trans (if_pos (in_b (b := 2000) (by decide) (by omega)))
  refine lv_if_eq (tgt := 25) hx hb dX4_script_8 (by decide) (fun h => absurd h (by decide)) (fun _ => ?_)
  refine lv_iload_n hx hb dX4_script_11 rfl (lv_at hl 2 rfl) ?_
  refine lv_iconst (v := 1) hx hb dX4_script_12 (by decide) ?_
  refine lv_bipush (v := 100) hx hb dX4_script_13 (by decide) ?_
  have hPc := hP.sub (ws' := []) [] rfl
  have hDc := hD.sub (ws' := []) [] (by decide) rfl
  have hFc := va_free (wc := []) hD hS hA [] rfl
  refine va_calli (va_runS (As := [.int (nI my), .int 1, .int 100]) (rest := []) ⟨hx, hb, hml, hown, (dr_words hts s.drawn)⟩ (m_X4_in l G q H.size (nI my) 1 100) (va_cwS 3 (dr_words hts s.drawn) gX4_script_X4_in rfl rfl rfl (by decide +kernel) ⟨Nat.le_of_ble_eq_true rfl, Nat.le_of_ble_eq_true rfl⟩) ⟨preW_blind, preW_start (s := s.setDrawn s.drawn) hPc hK hDc (hNF.drawn s.drawn)⟩ rfl rfl hl.1 rfl (lv_room (Nat.le_of_ble_eq_true rfl)) dX4_script_15 ⟨(Nat.zero_le _), (Nat.zero_le _)⟩) hS (fun q _ h => hFc q h) hFc (fun ri4 u9 t9 H1 locs ht9 hv9 hw hB9 hz9 hk9 hS => ?_)
  obtain ⟨⟩ := u9
  obtain ⟨hP1, hD1⟩ := hB9
  rw [ht9] at hP1
  obtain ⟨hP, hD⟩ := va_join (wr := [(om, .inr (4, [.int th, .int (nI T), .ref (am 0), .ref (am 1), .double mi, .ref (am 2), .ref (am 3), .ref (am 4), .int (nI nf), .ref (am 5), .ref (am 6), .ref (am 7), .ref (am 8), .ref (am 9), .ref (am 10), .ref (am 11), .ref (am 12), .ref (am 13), .ref (am 14), .ref (am 15), .ref (am 16), .ref (am 17), .ref (am 18), .ref (am 19)])), ((am 0), aI q 8 pa), ((am 1), aI q 8 xi), ((am 2), aI q 16 z0), ((am 3), aI q 16 z1), ((am 4), aD q 16 fm), ((am 5), aI q 6 (I 0)), ((am 6), aI q 6 (I 1)), ((am 7), aI q 6 (I 2)), ((am 8), aI q 6 (I 3)), ((am 9), aI q 6 (I 4)), ((am 10), aI q 6 (I 5)), ((am 11), aI q 6 (I 6)), ((am 12), aI q 6 (I 7)), ((am 13), aI q 6 (I 8)), ((am 14), aD q 48 (D 0)), ((am 15), aD q 6 (D 1)), ((am 16), aD q 6 (D 2)), ((am 17), aD q 96 (D 3)), ((am 18), aD q 96 (D 4)), ((am 19), aD q 4 gg)]) (w1 := []) hP hD [] [0, 1, 2, 3, 4, 5, 6, 7, 8, 9, 10, 11, 12, 13, 14, 15, 16, 17, 18, 19, 20] rfl rfl (by decide) (by decide) hk9 hFc hP1 hD1
  generalize H1 = H at hP hS ⊢
  have hP : va_P G vwCl [(om, .inr (4, [.int th, .int (nI T), .ref (am 0), .ref (am 1), .double mi, .ref (am 2), .ref (am 3), .ref (am 4), .int (nI nf), .ref (am 5), .ref (am 6), .ref (am 7), .ref (am 8), .ref (am 9), .ref (am 10), .ref (am 11), .ref (am 12), .ref (am 13), .ref (am 14), .ref (am 15), .ref (am 16), .ref (am 17), .ref (am 18), .ref (am 19)])), ((am 0), aI q 8 pa), ((am 1), aI q 8 xi), ((am 2), aI q 16 z0), ((am 3), aI q 16 z1), ((am 4), aD q 16 fm), ((am 5), aI q 6 (I 0)), ((am 6), aI q 6 (I 1)), ((am 7), aI q 6 (I 2)), ((am 8), aI q 6 (I 3)), ((am 9), aI q 6 (I 4)), ((am 10), aI q 6 (I 5)), ((am 11), aI q 6 (I 6)), ((am 12), aI q 6 (I 7)), ((am 13), aI q 6 (I 8)), ((am 14), aD q 48 (D 0)), ((am 15), aD q 6 (D 1)), ((am 16), aD q 6 (D 2)), ((am 17), aD q 96 (D 3)), ((am 18), aD q 96 (D 4)), ((am 19), aD q 4 gg)] H := hP
  have hD : va_D A [(om, .inr (4, [.int th, .int (nI T), .ref (am 0), .ref (am 1), .double mi, .ref (am 2), .ref (am 3), .ref (am 4), .int (nI nf), .ref (am 5), .ref (am 6), .ref (am 7), .ref (am 8), .ref (am 9), .ref (am 10), .ref (am 11), .ref (am 12), .ref (am 13), .ref (am 14), .ref (am 15), .ref (am 16), .ref (am 17), .ref (am 18), .ref (am 19)])), ((am 0), aI q 8 pa), ((am 1), aI q 8 xi), ((am 2), aI q 16 z0), ((am 3), aI q 16 z1), ((am 4), aD q 16 fm), ((am 5), aI q 6 (I 0)), ((am 6), aI q 6 (I 1)), ((am 7), aI q 6 (I 2)), ((am 8), aI q 6 (I 3)), ((am 9), aI q 6 (I 4)), ((am 10), aI q 6 (I 5)), ((am 11), aI q 6 (I 6)), ((am 12), aI q 6 (I 7)), ((am 13), aI q 6 (I 8)), ((am 14), aD q 48 (D 0)), ((am 15), aD q 6 (D 1)), ((am 16), aD q 6 (D 2)), ((am 17), aD q 96 (D 3)), ((am 18), aD q 96 (D 4)), ((am 19), aD q 4 gg)] := hD
  obtain rfl : ri4 = 1 := hw.trans (if_pos ⟨nI_le (a := 1) (by omega) (by omega), nI_le (b := 100) (by omega) (by decide)⟩)
  refine lv_if_eq (tgt := 25) hx hb dX4_script_18 (by decide) (fun h => absurd h (by decide)) (fun _ => ?_)
  refine lv_iconst (v := 1) hx hb dX4_script_21 (by decide) ?_
  refine lv_goto (tgt := 26) hx hb dX4_script_22 (by decide) ?_
  refine lv_istore_n (lv' := [(3, .int 1), (0, .ref om), (1, .int (nI a)), (2, .int (nI my))]) hx hb dX4_script_26 rfl hl (by decide) rfl (fun ls hl => ?_)
  refine lv_aload_n hx hb dX4_script_27 rfl (lv_at hl 1 rfl) ?_
  refine lv_iload_n hx hb dX4_script_28 rfl (lv_at hl 0 rfl) ?_
  refine lv_if_ne (tgt := 36) hx hb dX4_script_29 (by decide) (fun _ => ?_) (fun h => absurd h (by decide))
  refine lv_aload_n hx hb dX4_script_36 rfl (lv_at hl 1 rfl) ?_
  refine va_get (D := G) (ci := 4) (v := .int (nI T)) (C := RX4) (T := TX4) (N := 24) hx hb (dr_words hts s.drawn) in_X4_script_X4 hown hK hP 0 rfl rfl 1 (by decide) (dr_words hts s.drawn (.fieldLink RX4 130 "EchoBenchModel" "samples" "I") (by decide +kernel)) (fun _ h9 => h9) rfl dX4_script_37 ?_
  refine lv_iload_n hx hb dX4_script_40 rfl (lv_at hl 3 rfl) ?_
  refine lv_iadd hx hb dX4_script_41 ?_
  refine lv_topi (fun x8 ex8 => ?_)
  obtain rfl : x8 = (nI (T + my)) := ex8.trans (nI_add T my)
  refine lv_sipush (v := 2000) hx hb dX4_script_42 (by decide) ?_
  refine lv_icmp_le (tgt := 52) hx hb dX4_script_45 (by decide) (fun _ => ?_) (fun h => absurd (nI_le (b := 2000) (by omega) (by decide)) h)
  refine lv_iconst (v := 0) hx hb dX4_script_52 (by decide) ?_
  have hPc := hP.sub (ws' := [(om, .inr (4, [.int th, .int (nI T), .ref (am 0), .ref (am 1), .double mi, .ref (am 2), .ref (am 3), .ref (am 4), .int (nI nf), .ref (am 5), .ref (am 6), .ref (am 7), .ref (am 8), .ref (am 9), .ref (am 10), .ref (am 11), .ref (am 12), .ref (am 13), .ref (am 14), .ref (am 15), .ref (am 16), .ref (am 17), .ref (am 18), .ref (am 19)]))]) [0] rfl
  have hDc := hD.sub (ws' := [(om, .inr (4, [.int th, .int (nI T), .ref (am 0), .ref (am 1), .double mi, .ref (am 2), .ref (am 3), .ref (am 4), .int (nI nf), .ref (am 5), .ref (am 6), .ref (am 7), .ref (am 8), .ref (am 9), .ref (am 10), .ref (am 11), .ref (am 12), .ref (am 13), .ref (am 14), .ref (am 15), .ref (am 16), .ref (am 17), .ref (am 18), .ref (am 19)]))]) [0] (by decide) rfl
  have hFc := va_free (wc := [(om, .inr (4, [.int th, .int (nI T), .ref (am 0), .ref (am 1), .double mi, .ref (am 2), .ref (am 3), .ref (am 4), .int (nI nf), .ref (am 5), .ref (am 6), .ref (am 7), .ref (am 8), .ref (am 9), .ref (am 10), .ref (am 11), .ref (am 12), .ref (am 13), .ref (am 14), .ref (am 15), .ref (am 16), .ref (am 17), .ref (am 18), .ref (am 19)]))]) hD hS hA [0] rfl
  refine va_calli (va_runV (As := [.int 0]) (rest := []) ⟨hx, hb, hml, hown, (dr_words hts s.drawn)⟩ (m_X4_goesWell l G q H.size om am th (nI T) (nI nf) mi 0) (cwV 1 (dr_words hts s.drawn) gX4_script_X4_goesWell rfl rfl rfl (by decide +kernel) ⟨Nat.le_of_ble_eq_true rfl, Nat.le_of_ble_eq_true rfl⟩) ⟨preW_blind, (va_recv hK hPc (ci := 4) (q0 := 0) rfl rfl), preW_start (s := s.setDrawn s.drawn) hPc hK hDc (hNF.drawn s.drawn)⟩ rfl rfl hl.1 rfl (lv_room (Nat.le_of_ble_eq_true rfl)) dX4_script_53 ⟨(Nat.zero_le _), (Nat.zero_le _)⟩) hS (fun q _ h => hFc q h) hFc (fun gr10 u9 t9 H1 locs ht9 hv9 hw hB9 hz9 hk9 hS => ?_)
  obtain ⟨⟩ := u9
  obtain ⟨hP1, hD1⟩ := hB9
  rw [ht9] at hP1
  obtain ⟨hP, hD⟩ := va_join (wr := [((am 0), aI q 8 pa), ((am 1), aI q 8 xi), ((am 2), aI q 16 z0), ((am 3), aI q 16 z1), ((am 4), aD q 16 fm), ((am 5), aI q 6 (I 0)), ((am 6), aI q 6 (I 1)), ((am 7), aI q 6 (I 2)), ((am 8), aI q 6 (I 3)), ((am 9), aI q 6 (I 4)), ((am 10), aI q 6 (I 5)), ((am 11), aI q 6 (I 6)), ((am 12), aI q 6 (I 7)), ((am 13), aI q 6 (I 8)), ((am 14), aD q 48 (D 0)), ((am 15), aD q 6 (D 1)), ((am 16), aD q 6 (D 2)), ((am 17), aD q 96 (D 3)), ((am 18), aD q 96 (D 4)), ((am 19), aD q 4 gg)]) (w1 := [(om, .inr (4, [.int 0, .int (nI T), .ref (am 0), .ref (am 1), .double mi, .ref (am 2), .ref (am 3), .ref (am 4), .int (nI nf), .ref (am 5), .ref (am 6), .ref (am 7), .ref (am 8), .ref (am 9), .ref (am 10), .ref (am 11), .ref (am 12), .ref (am 13), .ref (am 14), .ref (am 15), .ref (am 16), .ref (am 17), .ref (am 18), .ref (am 19)]))]) hP hD [0] [1, 2, 3, 4, 5, 6, 7, 8, 9, 10, 11, 12, 13, 14, 15, 16, 17, 18, 19, 20] rfl rfl (by decide) (by decide) hk9 hFc hP1 hD1
  generalize H1 = H at hP hS ⊢
  have hP : va_P G vwCl [((am 0), aI q 8 pa), ((am 1), aI q 8 xi), ((am 2), aI q 16 z0), ((am 3), aI q 16 z1), ((am 4), aD q 16 fm), ((am 5), aI q 6 (I 0)), ((am 6), aI q 6 (I 1)), ((am 7), aI q 6 (I 2)), ((am 8), aI q 6 (I 3)), ((am 9), aI q 6 (I 4)), ((am 10), aI q 6 (I 5)), ((am 11), aI q 6 (I 6)), ((am 12), aI q 6 (I 7)), ((am 13), aI q 6 (I 8)), ((am 14), aD q 48 (D 0)), ((am 15), aD q 6 (D 1)), ((am 16), aD q 6 (D 2)), ((am 17), aD q 96 (D 3)), ((am 18), aD q 96 (D 4)), ((am 19), aD q 4 gg), (om, .inr (4, [.int 0, .int (nI T), .ref (am 0), .ref (am 1), .double mi, .ref (am 2), .ref (am 3), .ref (am 4), .int (nI nf), .ref (am 5), .ref (am 6), .ref (am 7), .ref (am 8), .ref (am 9), .ref (am 10), .ref (am 11), .ref (am 12), .ref (am 13), .ref (am 14), .ref (am 15), .ref (am 16), .ref (am 17), .ref (am 18), .ref (am 19)]))] H := hP
  have hD : va_D A [((am 0), aI q 8 pa), ((am 1), aI q 8 xi), ((am 2), aI q 16 z0), ((am 3), aI q 16 z1), ((am 4), aD q 16 fm), ((am 5), aI q 6 (I 0)), ((am 6), aI q 6 (I 1)), ((am 7), aI q 6 (I 2)), ((am 8), aI q 6 (I 3)), ((am 9), aI q 6 (I 4)), ((am 10), aI q 6 (I 5)), ((am 11), aI q 6 (I 6)), ((am 12), aI q 6 (I 7)), ((am 13), aI q 6 (I 8)), ((am 14), aD q 48 (D 0)), ((am 15), aD q 6 (D 1)), ((am 16), aD q 6 (D 2)), ((am 17), aD q 96 (D 3)), ((am 18), aD q 96 (D 4)), ((am 19), aD q 4 gg), (om, .inr (4, [.int 0, .int (nI T), .ref (am 0), .ref (am 1), .double mi, .ref (am 2), .ref (am 3), .ref (am 4), .int (nI nf), .ref (am 5), .ref (am 6), .ref (am 7), .ref (am 8), .ref (am 9), .ref (am 10), .ref (am 11), .ref (am 12), .ref (am 13), .ref (am 14), .ref (am 15), .ref (am 16), .ref (am 17), .ref (am 18), .ref (am 19)]))] := hD
  obtain rfl : gr10 = 1 := hw.trans (by decide)
  refine lv_if_ne (tgt := 61) hx hb dX4_script_56 (by decide) (fun _ => ?_) (fun h => absurd h (by decide))
  refine lv_iload_n hx hb dX4_script_61 rfl (lv_at hl 2 rfl) ?_
  refine lv_istore (lv' := [(4, .int (nI a)), (3, .int 1), (0, .ref om), (1, .int (nI a)), (2, .int (nI my))]) hx hb dX4_script_62 hl (by decide) rfl (fun ls hl => ?_)
  refine lv_iconst (v := 0) hx hb dX4_script_64 (by decide) ?_
  refine lv_istore (lv' := [(5, .int 0), (4, .int (nI a)), (3, .int 1), (0, .ref om), (1, .int (nI a)), (2, .int (nI my))]) hx hb dX4_script_65 hl (by decide) rfl (fun ls hl => ?_)
  have LOOP : ∀ (k : Nat) (j : Nat) (x1 : Nat → Int32) (y0 : Nat → Int32) (y1 : Nat → Int32) (fn : Nat → UInt64) (mj : UInt64) (J : Nat → Nat → Int32) (F : Nat → Nat → UInt64) (g2 : Nat → UInt64), j + k = my → picM nf (T + j) x1 y0 y1 fn mj J F (bsN pa a j b0) → (∀ g, g < nf → vS (T + j) (mF J F g)) → (∀ g, nf ≤ g → sameS I J D F g) → ∀ (H : Heap) (locs : List Loc) (d0 : Drawn), s.drawn.sameBut d0 lw_cs → va_P G vwCl [(om, .inr (4, [.int 0, .int (nI (T + j)), .ref (am 0), .ref (am 1), .double mj, .ref (am 2), .ref (am 3), .ref (am 4), .int (nI nf), .ref (am 5), .ref (am 6), .ref (am 7), .ref (am 8), .ref (am 9), .ref (am 10), .ref (am 11), .ref (am 12), .ref (am 13), .ref (am 14), .ref (am 15), .ref (am 16), .ref (am 17), .ref (am 18), .ref (am 19)])), ((am 0), aI q 8 pa), ((am 1), aI q 8 x1), ((am 2), aI q 16 y0), ((am 3), aI q 16 y1), ((am 4), aD q 16 fn), ((am 5), aI q 6 (J 0)), ((am 6), aI q 6 (J 1)), ((am 7), aI q 6 (J 2)), ((am 8), aI q 6 (J 3)), ((am 9), aI q 6 (J 4)), ((am 10), aI q 6 (J 5)), ((am 11), aI q 6 (J 6)), ((am 12), aI q 6 (J 7)), ((am 13), aI q 6 (J 8)), ((am 14), aD q 48 (F 0)), ((am 15), aD q 6 (F 1)), ((am 16), aD q 6 (F 2)), ((am 17), aD q 96 (F 3)), ((am 18), aD q 96 (F 4)), ((am 19), aD q 4 g2)] H → va_D A [(om, .inr (4, [.int 0, .int (nI (T + j)), .ref (am 0), .ref (am 1), .double mj, .ref (am 2), .ref (am 3), .ref (am 4), .int (nI nf), .ref (am 5), .ref (am 6), .ref (am 7), .ref (am 8), .ref (am 9), .ref (am 10), .ref (am 11), .ref (am 12), .ref (am 13), .ref (am 14), .ref (am 15), .ref (am 16), .ref (am 17), .ref (am 18), .ref (am 19)])), ((am 0), aI q 8 pa), ((am 1), aI q 8 x1), ((am 2), aI q 16 y0), ((am 3), aI q 16 y1), ((am 4), aD q 16 fn), ((am 5), aI q 6 (J 0)), ((am 6), aI q 6 (J 1)), ((am 7), aI q 6 (J 2)), ((am 8), aI q 6 (J 3)), ((am 9), aI q 6 (J 4)), ((am 10), aI q 6 (J 5)), ((am 11), aI q 6 (J 6)), ((am 12), aI q 6 (J 7)), ((am 13), aI q 6 (J 8)), ((am 14), aD q 48 (F 0)), ((am 15), aD q 6 (F 1)), ((am 16), aD q 6 (F 2)), ((am 17), aD q 96 (F 3)), ((am 18), aD q 96 (F 4)), ((am 19), aD q 4 g2)] → va_S A s.heap H locs → ∀ (ls : Array Slot), lv_has ls 6 [(0, .ref om), (1, .int (nI a)), (2, .int (nI my)), (3, .int 1), (4, .int (nI (scrA a j))), (5, .int (nI j))] → W p l e (headSpec wsX4_script ({ frames := 4, cells := 0, slots := 0, locals := 108 } : Jvm.Room)).room (s.setDrawn d0) m #[.ref om, .int (nI a), .int (nI my)] below meth c H locs 0 0 (MQD lw_cs below (va_Qi (fun (r : Int32) (u : (Nat → Int32) × (Nat → Int32) × (Nat → Int32) × (Nat → UInt64) × UInt64 × (Nat → Nat → Int32) × (Nat → Nat → UInt64) × (Nat → UInt64)) => r = nI (scrA a my) ∧ picM nf (T + my) u.1 u.2.1 u.2.2.1 u.2.2.2.1 u.2.2.2.2.1 u.2.2.2.2.2.1 u.2.2.2.2.2.2.1 (bsN pa a my b0) ∧ (∀ g, g < nf → vS (T + my) (mF u.2.2.2.2.2.1 u.2.2.2.2.2.2.1 g)) ∧ ∀ g, nf ≤ g → sameS I u.2.2.2.2.2.1 D u.2.2.2.2.2.2.1 g) (fun (u : (Nat → Int32) × (Nat → Int32) × (Nat → Int32) × (Nat → UInt64) × UInt64 × (Nat → Nat → Int32) × (Nat → Nat → UInt64) × (Nat → UInt64)) t => EndA G A [(om, .inr (4, [.int 0, .int (nI (T + my)), .ref (am 0), .ref (am 1), .double u.2.2.2.2.1, .ref (am 2), .ref (am 3), .ref (am 4), .int (nI nf), .ref (am 5), .ref (am 6), .ref (am 7), .ref (am 8), .ref (am 9), .ref (am 10), .ref (am 11), .ref (am 12), .ref (am 13), .ref (am 14), .ref (am 15), .ref (am 16), .ref (am 17), .ref (am 18), .ref (am 19)])), ((am 0), aI q 8 pa), ((am 1), aI q 8 u.1), ((am 2), aI q 16 u.2.1), ((am 3), aI q 16 u.2.2.1), ((am 4), aD q 16 u.2.2.2.1), ((am 5), aI q 6 (u.2.2.2.2.2.1 0)), ((am 6), aI q 6 (u.2.2.2.2.2.1 1)), ((am 7), aI q 6 (u.2.2.2.2.2.1 2)), ((am 8), aI q 6 (u.2.2.2.2.2.1 3)), ((am 9), aI q 6 (u.2.2.2.2.2.1 4)), ((am 10), aI q 6 (u.2.2.2.2.2.1 5)), ((am 11), aI q 6 (u.2.2.2.2.2.1 6)), ((am 12), aI q 6 (u.2.2.2.2.2.1 7)), ((am 13), aI q 6 (u.2.2.2.2.2.1 8)), ((am 14), aD q 48 (u.2.2.2.2.2.2.1 0)), ((am 15), aD q 6 (u.2.2.2.2.2.2.1 1)), ((am 16), aD q 6 (u.2.2.2.2.2.2.1 2)), ((am 17), aD q 96 (u.2.2.2.2.2.2.1 3)), ((am 18), aD q 96 (u.2.2.2.2.2.2.1 4)), ((am 19), aD q 4 u.2.2.2.2.2.2.2)] t) A) #[.ref om, .int (nI a), .int (nI my)] s 0 0 A) (F0 m 67 ls []) := by
    intro k
    induction k with
    | zero =>
      intro j x1 y0 y1 fn mj J F g2 hj hpj hvj hsj H locs d0 hd0 hP hD hS ls hl
      refine lv_iload hx hb dX4_script_67 (lv_at hl 5 rfl) ?_
      refine lv_iload_n hx hb dX4_script_69 rfl (lv_at hl 2 rfl) ?_
      refine lv_icmp_ge (tgt := 105) hx hb dX4_script_70 (by decide) (fun _ => ?_) (fun h => absurd (nI_le (by omega) (by omega)) h)
      have ej : my = j := by omega
      subst ej
      refine lv_iload hx hb dX4_script_105 (lv_at hl 4 rfl) ?_
      have hP9 := hP
      have hD9 := hD
      refine W.endD hd0 ?_
      exact W.iret (v := (nI (scrA a my))) hx hb hr (fun t ht hW => ⟨⟨(nI (scrA a my)), (x1, y0, y1, fn, mj, J, F, g2), rfl, ⟨rfl, hpj, hvj, hsj⟩, by rw [ht]; exact hP9, hD9⟩, hS.F ht⟩) hS.2.2 dX4_script_107
    | succ k ih =>
      intro j x1 y0 y1 fn mj J F g2 hj hpj hvj hsj H locs d0 hd0 hP hD hS ls hl
      refine lv_iload hx hb dX4_script_67 (lv_at hl 5 rfl) ?_
      refine lv_iload_n hx hb dX4_script_69 rfl (lv_at hl 2 rfl) ?_
      refine lv_icmp_ge (tgt := 105) hx hb dX4_script_70 (by decide) (fun h => absurd h (nI_ge (by omega) (by omega))) (fun _ => ?_)
      have hsc := scrA_le ha j
      refine lv_bipush (v := 7) hx hb dX4_script_73 (by decide) ?_
      refine lv_iload hx hb dX4_script_75 (lv_at hl 4 rfl) ?_
      refine lv_imul hx hb dX4_script_77 ?_
      refine lv_topi (fun x15 ex15 => ?_)
      obtain rfl : x15 = (nI (7 * (scrA a j))) := ex15.trans (nI_mul 7 (scrA a j))
      refine lv_sipush (v := 1001) hx hb dX4_script_78 (by decide) ?_
      refine lv_iadd hx hb dX4_script_81 ?_
      refine lv_topi (fun x16 ex16 => ?_)
      obtain rfl : x16 = (nI (7 * (scrA a j) + 1001)) := ex16.trans (nI_add (7 * (scrA a j)) 1001)
      refine lv_sipush (v := 2001) hx hb dX4_script_82 (by decide) ?_
      refine lv_irem hx hb dX4_script_85 (by decide) ?_
      refine lv_topi (fun x17 ex17 => ?_)
      obtain rfl : x17 = (nI (scrA a (j + 1))) := ex17.trans (nI_rem2001 (by omega))
      refine lv_istore (lv' := [(4, .int (nI (scrA a (j + 1)))), (0, .ref om), (1, .int (nI a)), (2, .int (nI my)), (3, .int 1), (5, .int (nI j))]) hx hb dX4_script_86 hl (by decide) rfl (fun ls hl => ?_)
      refine lv_aload_n hx hb dX4_script_88 rfl (lv_at hl 1 rfl) ?_
      refine lv_iload hx hb dX4_script_89 (lv_at hl 0 rfl) ?_
      refine lv_sipush (v := 1000) hx hb dX4_script_91 (by decide) ?_
      refine lv_isub hx hb dX4_script_94 ?_
      refine lv_iconst (v := 0) hx hb dX4_script_95 (by decide) ?_
      have hPc := hP.sub (ws' := [(om, .inr (4, [.int 0, .int (nI (T + j)), .ref (am 0), .ref (am 1), .double mj, .ref (am 2), .ref (am 3), .ref (am 4), .int (nI nf), .ref (am 5), .ref (am 6), .ref (am 7), .ref (am 8), .ref (am 9), .ref (am 10), .ref (am 11), .ref (am 12), .ref (am 13), .ref (am 14), .ref (am 15), .ref (am 16), .ref (am 17), .ref (am 18), .ref (am 19)])), ((am 0), aI q 8 pa), ((am 1), aI q 8 x1), ((am 2), aI q 16 y0), ((am 3), aI q 16 y1), ((am 4), aD q 16 fn), ((am 5), aI q 6 (J 0)), ((am 6), aI q 6 (J 1)), ((am 7), aI q 6 (J 2)), ((am 8), aI q 6 (J 3)), ((am 9), aI q 6 (J 4)), ((am 10), aI q 6 (J 5)), ((am 11), aI q 6 (J 6)), ((am 12), aI q 6 (J 7)), ((am 13), aI q 6 (J 8)), ((am 14), aD q 48 (F 0)), ((am 15), aD q 6 (F 1)), ((am 16), aD q 6 (F 2)), ((am 17), aD q 96 (F 3)), ((am 18), aD q 96 (F 4)), ((am 19), aD q 4 g2)]) [0, 1, 2, 3, 4, 5, 6, 7, 8, 9, 10, 11, 12, 13, 14, 15, 16, 17, 18, 19, 20] rfl
      have hDc := hD.sub (ws' := [(om, .inr (4, [.int 0, .int (nI (T + j)), .ref (am 0), .ref (am 1), .double mj, .ref (am 2), .ref (am 3), .ref (am 4), .int (nI nf), .ref (am 5), .ref (am 6), .ref (am 7), .ref (am 8), .ref (am 9), .ref (am 10), .ref (am 11), .ref (am 12), .ref (am 13), .ref (am 14), .ref (am 15), .ref (am 16), .ref (am 17), .ref (am 18), .ref (am 19)])), ((am 0), aI q 8 pa), ((am 1), aI q 8 x1), ((am 2), aI q 16 y0), ((am 3), aI q 16 y1), ((am 4), aD q 16 fn), ((am 5), aI q 6 (J 0)), ((am 6), aI q 6 (J 1)), ((am 7), aI q 6 (J 2)), ((am 8), aI q 6 (J 3)), ((am 9), aI q 6 (J 4)), ((am 10), aI q 6 (J 5)), ((am 11), aI q 6 (J 6)), ((am 12), aI q 6 (J 7)), ((am 13), aI q 6 (J 8)), ((am 14), aD q 48 (F 0)), ((am 15), aD q 6 (F 1)), ((am 16), aD q 6 (F 2)), ((am 17), aD q 96 (F 3)), ((am 18), aD q 96 (F 4)), ((am 19), aD q 4 g2)]) [0, 1, 2, 3, 4, 5, 6, 7, 8, 9, 10, 11, 12, 13, 14, 15, 16, 17, 18, 19, 20] (by decide) rfl
      have hFc := va_free (wc := [(om, .inr (4, [.int 0, .int (nI (T + j)), .ref (am 0), .ref (am 1), .double mj, .ref (am 2), .ref (am 3), .ref (am 4), .int (nI nf), .ref (am 5), .ref (am 6), .ref (am 7), .ref (am 8), .ref (am 9), .ref (am 10), .ref (am 11), .ref (am 12), .ref (am 13), .ref (am 14), .ref (am 15), .ref (am 16), .ref (am 17), .ref (am 18), .ref (am 19)])), ((am 0), aI q 8 pa), ((am 1), aI q 8 x1), ((am 2), aI q 16 y0), ((am 3), aI q 16 y1), ((am 4), aD q 16 fn), ((am 5), aI q 6 (J 0)), ((am 6), aI q 6 (J 1)), ((am 7), aI q 6 (J 2)), ((am 8), aI q 6 (J 3)), ((am 9), aI q 6 (J 4)), ((am 10), aI q 6 (J 5)), ((am 11), aI q 6 (J 6)), ((am 12), aI q 6 (J 7)), ((am 13), aI q 6 (J 8)), ((am 14), aD q 48 (F 0)), ((am 15), aD q 6 (F 1)), ((am 16), aD q 6 (F 2)), ((am 17), aD q 96 (F 3)), ((am 18), aD q 96 (F 4)), ((am 19), aD q 4 g2)]) hD hS hA [0, 1, 2, 3, 4, 5, 6, 7, 8, 9, 10, 11, 12, 13, 14, 15, 16, 17, 18, 19, 20] rfl
      refine va_callvD hd0 (va_runV_D (As := [.int ((nI (scrA a (j + 1))) - 1000), .int 0]) (rest := []) ⟨hx, hb, hml, hown, (dr_words hts d0)⟩ (m_X4_sample l G q H.size om am 0 mj (T + j) nf ((nI (scrA a (j + 1))) - 1000) 0 pa x1 y0 y1 fn g2 J F (by omega) hnf hvj) (cwV 2 (dr_words hts d0) gX4_script_X4_sample rfl rfl rfl (by decide +kernel) ⟨Nat.le_of_ble_eq_true rfl, Nat.le_of_ble_eq_true rfl⟩) ⟨preW_blind, (va_recv hK hPc (ci := 4) (q0 := 0) rfl rfl), preW_start (s := s.setDrawn d0) hPc hK hDc (hNF.drawn d0)⟩ rfl rfl hl.1 rfl (lv_room (Nat.le_of_ble_eq_true rfl)) dX4_script_96 ⟨(Nat.zero_le _), (Nat.zero_le _)⟩) hS (fun q _ h => hFc q h) hFc (fun u9 t9 H1 locs ht9 hv9 hw hB9 hz9 hk9 hS du19 hu19 => ?_)
      obtain ⟨um, uJ, uE, ug⟩ := u9
      obtain ⟨hP1, hD1⟩ := hB9
      rw [ht9] at hP1
      obtain ⟨hP, hD⟩ := va_join (wr := []) (w1 := [(om, .inr (4, [.int 0, .int (nI (T + j + 1)), .ref (am 0), .ref (am 1), .double um, .ref (am 2), .ref (am 3), .ref (am 4), .int (nI nf), .ref (am 5), .ref (am 6), .ref (am 7), .ref (am 8), .ref (am 9), .ref (am 10), .ref (am 11), .ref (am 12), .ref (am 13), .ref (am 14), .ref (am 15), .ref (am 16), .ref (am 17), .ref (am 18), .ref (am 19)])), ((am 0), aI q 8 pa), ((am 1), aI q 8 (shX x1 ((nI (scrA a (j + 1))) - 1000))), ((am 2), aI q 16 (vf_upd y0 ((T + j) % 16) ((nI (scrA a (j + 1))) - 1000))), ((am 3), aI q 16 (vf_upd y1 ((T + j) % 16) (x1 0))), ((am 4), aD q 16 (vf_upd fn ((T + j) % 16) um)), ((am 5), aI q 6 (uJ 0)), ((am 6), aI q 6 (uJ 1)), ((am 7), aI q 6 (uJ 2)), ((am 8), aI q 6 (uJ 3)), ((am 9), aI q 6 (uJ 4)), ((am 10), aI q 6 (uJ 5)), ((am 11), aI q 6 (uJ 6)), ((am 12), aI q 6 (uJ 7)), ((am 13), aI q 6 (uJ 8)), ((am 14), aD q 48 (uE 0)), ((am 15), aD q 6 (uE 1)), ((am 16), aD q 6 (uE 2)), ((am 17), aD q 96 (uE 3)), ((am 18), aD q 96 (uE 4)), ((am 19), aD q 4 ug)]) hP hD [0, 1, 2, 3, 4, 5, 6, 7, 8, 9, 10, 11, 12, 13, 14, 15, 16, 17, 18, 19, 20] [] rfl rfl (by decide) (by decide) hk9 hFc hP1 hD1
      generalize H1 = H at hP hS ⊢
      have hP : va_P G vwCl [(om, .inr (4, [.int 0, .int (nI (T + j + 1)), .ref (am 0), .ref (am 1), .double um, .ref (am 2), .ref (am 3), .ref (am 4), .int (nI nf), .ref (am 5), .ref (am 6), .ref (am 7), .ref (am 8), .ref (am 9), .ref (am 10), .ref (am 11), .ref (am 12), .ref (am 13), .ref (am 14), .ref (am 15), .ref (am 16), .ref (am 17), .ref (am 18), .ref (am 19)])), ((am 0), aI q 8 pa), ((am 1), aI q 8 (shX x1 ((nI (scrA a (j + 1))) - 1000))), ((am 2), aI q 16 (vf_upd y0 ((T + j) % 16) ((nI (scrA a (j + 1))) - 1000))), ((am 3), aI q 16 (vf_upd y1 ((T + j) % 16) (x1 0))), ((am 4), aD q 16 (vf_upd fn ((T + j) % 16) um)), ((am 5), aI q 6 (uJ 0)), ((am 6), aI q 6 (uJ 1)), ((am 7), aI q 6 (uJ 2)), ((am 8), aI q 6 (uJ 3)), ((am 9), aI q 6 (uJ 4)), ((am 10), aI q 6 (uJ 5)), ((am 11), aI q 6 (uJ 6)), ((am 12), aI q 6 (uJ 7)), ((am 13), aI q 6 (uJ 8)), ((am 14), aD q 48 (uE 0)), ((am 15), aD q 6 (uE 1)), ((am 16), aD q 6 (uE 2)), ((am 17), aD q 96 (uE 3)), ((am 18), aD q 96 (uE 4)), ((am 19), aD q 4 ug)] H := hP
      have hD : va_D A [(om, .inr (4, [.int 0, .int (nI (T + j + 1)), .ref (am 0), .ref (am 1), .double um, .ref (am 2), .ref (am 3), .ref (am 4), .int (nI nf), .ref (am 5), .ref (am 6), .ref (am 7), .ref (am 8), .ref (am 9), .ref (am 10), .ref (am 11), .ref (am 12), .ref (am 13), .ref (am 14), .ref (am 15), .ref (am 16), .ref (am 17), .ref (am 18), .ref (am 19)])), ((am 0), aI q 8 pa), ((am 1), aI q 8 (shX x1 ((nI (scrA a (j + 1))) - 1000))), ((am 2), aI q 16 (vf_upd y0 ((T + j) % 16) ((nI (scrA a (j + 1))) - 1000))), ((am 3), aI q 16 (vf_upd y1 ((T + j) % 16) (x1 0))), ((am 4), aD q 16 (vf_upd fn ((T + j) % 16) um)), ((am 5), aI q 6 (uJ 0)), ((am 6), aI q 6 (uJ 1)), ((am 7), aI q 6 (uJ 2)), ((am 8), aI q 6 (uJ 3)), ((am 9), aI q 6 (uJ 4)), ((am 10), aI q 6 (uJ 5)), ((am 11), aI q 6 (uJ 6)), ((am 12), aI q 6 (uJ 7)), ((am 13), aI q 6 (uJ 8)), ((am 14), aD q 48 (uE 0)), ((am 15), aD q 6 (uE 1)), ((am 16), aD q 6 (uE 2)), ((am 17), aD q 96 (uE 3)), ((am 18), aD q 96 (uE 4)), ((am 19), aD q 4 ug)] := hD
      have hs := hw
      refine lv_iinc (v := nI (j + 1)) (lv' := [(5, .int (nI (j + 1))), (4, .int (nI (scrA a (j + 1)))), (0, .ref om), (1, .int (nI a)), (2, .int (nI my)), (3, .int 1)]) hx hb dX4_script_99 hl (k := 5) rfl (nI_succ _).symm (by decide) rfl (fun ls hl => ?_)
      refine lv_goto (tgt := 67) hx hb dX4_script_102 (by decide) ?_
      exact ih (j + 1) (shX x1 ((nI (scrA a (j + 1))) - 1000)) (vf_upd y0 ((T + j) % 16) ((nI (scrA a (j + 1))) - 1000)) (vf_upd y1 ((T + j) % 16) (x1 0)) (vf_upd fn ((T + j) % 16) um) um uJ uE ug (by omega) (picM_step hpj hs.1 hs.2.1) (vS_step hvj hs.2.1) (fun g hg => (hsj g hg).trans (hs.2.2 g hg)) _ _ _ hu19 (hP.sub [0, 1, 2, 3, 4, 5, 6, 7, 8, 9, 10, 11, 12, 13, 14, 15, 16, 17, 18, 19, 20] rfl) (hD.sub [0, 1, 2, 3, 4, 5, 6, 7, 8, 9, 10, 11, 12, 13, 14, 15, 16, 17, 18, 19, 20] (by decide) rfl) hS ls (lv_sub hl [2, 3, 4, 5, 1, 0] rfl)
  exact LOOP my 0 xi z0 z1 fm mi I D gg (by omega) hpic hv (fun g _ => sameS.refl I D g) _ _ _ hd0 (hP.sub [20, 0, 1, 2, 3, 4, 5, 6, 7, 8, 9, 10, 11, 12, 13, 14, 15, 16, 17, 18, 19] rfl) (hD.sub [20, 0, 1, 2, 3, 4, 5, 6, 7, 8, 9, 10, 11, 12, 13, 14, 15, 16, 17, 18, 19] (by decide) rfl) hS ls (lv_sub hl [3, 4, 5, 2, 1, 0] rfl)
