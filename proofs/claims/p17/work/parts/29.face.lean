theorem af_step {oa : Nat → Nat} {nf o : Nat} {i : Int32} (hi : i.toNatClampNeg = nf) : va_up (fun j => if j < nf then some (oa j) else none) i.toNatClampNeg (some o) = fun j => if j < nf + 1 then some (vf_upd oa nf o j) else none := by
  rw [hi]
  funext j
  unfold va_up vf_upd
  by_cases h : j = nf
  · rw [if_pos h, if_pos (by omega), if_pos h]
  · rw [if_neg h]
    dsimp only
    by_cases h2 : j < nf
    · rw [if_pos h2, if_pos (by omega), if_neg h]
    · rw [if_neg h2, if_neg (by omega)]

theorem in_X3_filter_X0 : ∀ w ∈ wsX00, w ∈ wsX3_filter := by decide +kernel
theorem in_X3_filter_X3 : ∀ w ∈ wsX30, w ∈ wsX3_filter := by decide +kernel
set_option maxHeartbeats 4000000 in
set_option maxRecDepth 100000 in
/-- filter: where it returns -/
theorem m_X3_filterN (l : Launch) (G : va_G) (q : Nat → ClassId) (sz : Nat) (o3 o1 af nf : Nat) (oa : Nat → Nat) (n : Nat) (kd st : Int32) (hnf : nf < 6) (hkd : 0 ≤ kd ∧ kd ≤ 3) (hk : ¬ kd = 3) (hn : n ≤ 8) (hn1 : 1 ≤ n) (hs : stpB kd st) : Met l yX3_filter wsX3_filter ({ frames := 6, cells := 11, slots := 73, locals := 140 } : Jvm.Room) (PreW G q [.ref o3, .int kd, .int (nI n), .int st] [(o3, .inr (3, [.ref o1, .ref af, .int (nI nf)])), (af, aF q 6 (fun j => if j < nf then some (oa j) else none))] sz) (va_Qi (fun (r : Int32) (_ : Nat × Nat × Nat) => r = nI nf) (fun (u : Nat × Nat × Nat) t => EndA G (va_A [(o3, .inr (3, [.ref o1, .ref af, .int (nI nf)])), (af, aF q 6 (fun j => if j < nf then some (oa j) else none))] sz) [(o3, .inr (3, [.ref o1, .ref af, .int (nI (nf + 1))])), (af, aF q 6 (fun j => if j < nf + 1 then some (vf_upd oa nf u.1 j) else none)), (u.1, .inr (0, [.int kd, .ref u.2.1, .ref u.2.2, .null, .int st, .int 0, .int 0, .int 0, .double 0, .double 0, .int 0, .int 0, .int 0])), (u.2.1, aD q n (fun _ => 0)), (u.2.2, aD q 16 (fun _ => 0))] t) (va_A [(o3, .inr (3, [.ref o1, .ref af, .int (nI nf)])), (af, aF q 6 (fun j => if j < nf then some (oa j) else none))] sz)) 11 73 (va_A [(o3, .inr (3, [.ref o1, .ref af, .int (nI nf)])), (af, aF q 6 (fun j => if j < nf then some (oa j) else none))] sz) := by
  refine Met.ofW (cc := cX3_filter) (maxL := 5) (ret := (some .int)) (by decide +kernel) rfl ?_
  intro p e s m args below meth c s₁ B hml hv
  obtain ⟨rfl, hsz, hP, hK, hD0, hNF⟩ := hv
  have hx := B.exec
  have hb := B.bytes
  have hr := B.returns
  have hts := atoms_spec (ws := wsX3_filter) B.pre
  have hown : s.vm.findClass RX3 = some m.cls := findClass_of_methodNamed B.named
  have hlocks := B.notSynchronized
  subst hsz
  have hD := hD0.self (sz := s.heap.size)
  generalize hAe : va_A [(o3, .inr (3, [.ref o1, .ref af, .int (nI nf)])), (af, aF q 6 (fun j => if j < nf then some (oa j) else none))] s.heap.size = A at hD ⊢
  have hA : ∀ q : Nat, s.heap.size ≤ q → A q := fun q h => by rw [← hAe]; exact Or.inr h
  have hS : va_S A s.heap s.heap [] := va_S.rf
  have hP : va_P G vwCl [(o3, .inr (3, [.ref o1, .ref af, .int (nI nf)])), (af, aF q 6 (fun j => if j < nf then some (oa j) else none))] s.heap := hP
  have hl := lv_entry ([.ref o3, .int kd, .int (nI n), .int st]) (n := 5) (Nat.le_of_ble_eq_true rfl)
  rw [lg_entry_eq]
  generalize (lg_sl ([.ref o3, .int kd, .int (nI n), .int st]) ++ List.replicate (5 - (lg_sl ([.ref o3, .int kd, .int (nI n), .int st])).length) Slot.unset).toArray = ls at hl ⊢
  have hl : lv_has ls 5 [(0, .ref o3), (1, .int kd), (2, .int (nI n)), (3, .int st)] := hl
  refine lv_iload_n hx hb dX3_filter_0 rfl (lv_at hl 1 rfl) ?_
  refine lv_iconst (v := 0) hx hb dX3_filter_1 (by decide) ?_
  refine lv_iconst (v := 3) hx hb dX3_filter_2 (by decide) ?_
  have hPc := hP.sub (ws' := []) [] rfl
  have hDc := hD.sub (ws' := []) [] (by decide) rfl
  have hFc := va_free (wc := []) hD hS hA [] rfl
  refine va_calli (va_runS (As := [.int kd, .int 0, .int 3]) (rest := []) ⟨hx, hb, hml, hown, hts⟩ (m_X3_isWithin l G q s.heap.size kd 0 3) (va_cwS 3 hts gX3_filter_X3_isWithin rfl rfl rfl (by decide +kernel) ⟨Nat.le_of_ble_eq_true rfl, Nat.le_of_ble_eq_true rfl⟩) ⟨preW_blind, preW_start hPc hK hDc hNF⟩ rfl rfl hl.1 rfl (lv_room (Nat.le_of_ble_eq_true rfl)) dX3_filter_3 ⟨(by show _ ≤ 11; omega), (by show _ ≤ 73; omega)⟩) hS (fun q _ h => hFc q h) hFc (fun ri1 u9 t9 H1 locs ht9 hv9 hw hB9 hz9 hk9 hS => ?_)
  obtain ⟨⟩ := u9
  obtain ⟨hP1, hD1⟩ := hB9
  rw [ht9] at hP1
  obtain ⟨hP, hD⟩ := va_join (wr := [(o3, .inr (3, [.ref o1, .ref af, .int (nI nf)])), (af, aF q 6 (fun j => if j < nf then some (oa j) else none))]) (w1 := []) hP hD [] [0, 1] rfl rfl (by decide) (by decide) hk9 hFc hP1 hD1
  generalize H1 = H at hP hS ⊢
  have hP : va_P G vwCl [(o3, .inr (3, [.ref o1, .ref af, .int (nI nf)])), (af, aF q 6 (fun j => if j < nf then some (oa j) else none))] H := hP
  have hD : va_D A [(o3, .inr (3, [.ref o1, .ref af, .int (nI nf)])), (af, aF q 6 (fun j => if j < nf then some (oa j) else none))] := hD
  obtain rfl : ri1 = 1 := hw.trans (if_pos hkd)
  refine lv_if_ne (tgt := 19) hx hb dX3_filter_6 (by decide) (fun _ => ?_) (fun h => absurd h (by decide))
  refine lv_iload_n hx hb dX3_filter_19 rfl (lv_at hl 2 rfl) ?_
  refine lv_iconst (v := 1) hx hb dX3_filter_20 (by decide) ?_
  refine lv_iload_n hx hb dX3_filter_21 rfl (lv_at hl 1 rfl) ?_
  refine lv_iconst (v := 3) hx hb dX3_filter_22 (by decide) ?_
  refine lv_icmp_ne (tgt := 30) hx hb dX3_filter_23 (by decide) (fun _ => ?_) (fun h => absurd h hk)
  refine lv_bipush (v := 8) hx hb dX3_filter_30 (by decide) ?_
  have hPc := hP.sub (ws' := []) [] rfl
  have hDc := hD.sub (ws' := []) [] (by decide) rfl
  have hFc := va_free (wc := []) hD hS hA [] rfl
  refine va_calli (va_runS (As := [.int (nI n), .int 1, .int 8]) (rest := []) ⟨hx, hb, hml, hown, hts⟩ (m_X3_isWithin l G q H.size (nI n) 1 8) (va_cwS 3 hts gX3_filter_X3_isWithin rfl rfl rfl (by decide +kernel) ⟨Nat.le_of_ble_eq_true rfl, Nat.le_of_ble_eq_true rfl⟩) ⟨preW_blind, preW_start hPc hK hDc hNF⟩ rfl rfl hl.1 rfl (lv_room (Nat.le_of_ble_eq_true rfl)) dX3_filter_32 ⟨(by show _ ≤ 11; omega), (by show _ ≤ 73; omega)⟩) hS (fun q _ h => hFc q h) hFc (fun ri5 u9 t9 H1 locs ht9 hv9 hw hB9 hz9 hk9 hS => ?_)
  obtain ⟨⟩ := u9
  obtain ⟨hP1, hD1⟩ := hB9
  rw [ht9] at hP1
  obtain ⟨hP, hD⟩ := va_join (wr := [(o3, .inr (3, [.ref o1, .ref af, .int (nI nf)])), (af, aF q 6 (fun j => if j < nf then some (oa j) else none))]) (w1 := []) hP hD [] [0, 1] rfl rfl (by decide) (by decide) hk9 hFc hP1 hD1
  generalize H1 = H at hP hS ⊢
  have hP : va_P G vwCl [(o3, .inr (3, [.ref o1, .ref af, .int (nI nf)])), (af, aF q 6 (fun j => if j < nf then some (oa j) else none))] H := hP
  have hD : va_D A [(o3, .inr (3, [.ref o1, .ref af, .int (nI nf)])), (af, aF q 6 (fun j => if j < nf then some (oa j) else none))] := hD
  obtain rfl : ri5 = 1 := hw.trans (if_pos ⟨nI_le (a := 1) hn1 (by omega), nI_le (b := 8) hn (by decide)⟩)
  refine lv_if_ne (tgt := 48) hx hb dX3_filter_35 (by decide) (fun _ => ?_) (fun h => absurd h (by decide))
  refine lv_iload_n hx hb dX3_filter_48 rfl (lv_at hl 1 rfl) ?_
  refine lv_iload_n hx hb dX3_filter_49 rfl (lv_at hl 3 rfl) ?_
  have hPc := hP.sub (ws' := []) [] rfl
  have hDc := hD.sub (ws' := []) [] (by decide) rfl
  have hFc := va_free (wc := []) hD hS hA [] rfl
  refine va_calli (va_runS (As := [.int kd, .int st]) (rest := []) ⟨hx, hb, hml, hown, hts⟩ (m_X3_isStepOf l G q H.size kd st) (va_cwS 2 hts gX3_filter_X3_isStepOf rfl rfl rfl (by decide +kernel) ⟨Nat.le_of_ble_eq_true rfl, Nat.le_of_ble_eq_true rfl⟩) ⟨preW_blind, preW_start hPc hK hDc hNF⟩ rfl rfl hl.1 rfl (lv_room (Nat.le_of_ble_eq_true rfl)) dX3_filter_50 ⟨(by show _ ≤ 11; omega), (by show _ ≤ 73; omega)⟩) hS (fun q _ h => hFc q h) hFc (fun rs8 u9 t9 H1 locs ht9 hv9 hw hB9 hz9 hk9 hS => ?_)
  obtain ⟨⟩ := u9
  obtain ⟨hP1, hD1⟩ := hB9
  rw [ht9] at hP1
  obtain ⟨hP, hD⟩ := va_join (wr := [(o3, .inr (3, [.ref o1, .ref af, .int (nI nf)])), (af, aF q 6 (fun j => if j < nf then some (oa j) else none))]) (w1 := []) hP hD [] [0, 1] rfl rfl (by decide) (by decide) hk9 hFc hP1 hD1
  generalize H1 = H at hP hS ⊢
  have hP : va_P G vwCl [(o3, .inr (3, [.ref o1, .ref af, .int (nI nf)])), (af, aF q 6 (fun j => if j < nf then some (oa j) else none))] H := hP
  have hD : va_D A [(o3, .inr (3, [.ref o1, .ref af, .int (nI nf)])), (af, aF q 6 (fun j => if j < nf then some (oa j) else none))] := hD
  obtain rfl : rs8 = 1 := hw.trans (stp_1 hs)
  refine lv_if_ne (tgt := 66) hx hb dX3_filter_53 (by decide) (fun _ => ?_) (fun h => absurd h (by decide))
  refine lv_aload_n hx hb dX3_filter_66 rfl (lv_at hl 0 rfl) ?_
  refine va_get (D := G) (ci := 3) (v := .int (nI nf)) (C := RX3) (T := TX3) (N := 3) hx hb hts in_X3_filter_X3 hown hK hP 0 rfl rfl 2 (by decide) (hts (.fieldLink RX3 22 "EchoBench" "filterCount" "I") (by decide +kernel)) (fun _ h9 => h9) rfl dX3_filter_67 ?_
  refine lv_aload_n hx hb dX3_filter_70 rfl (lv_at hl 0 rfl) ?_
  refine va_get (D := G) (ci := 3) (v := .ref af) (C := RX3) (T := TX3) (N := 3) hx hb hts in_X3_filter_X3 hown hK hP 0 rfl rfl 1 (by decide) (hts (.fieldLink RX3 18 "EchoBench" "filters" "[LEchoBench$Filter;") (by decide +kernel)) (fun _ h9 => h9) rfl dX3_filter_71 ?_
  refine va_alen (D := G) hx hb hK hP 1 3 rfl rfl (v := 6) rfl dX3_filter_74 ?_
  refine lv_icmp_lt (tgt := 88) hx hb dX3_filter_75 (by decide) (fun _ => ?_) (fun h => absurd (nI_lt (b := 6) hnf (by decide)) h)
  refine lv_aload_n hx hb dX3_filter_88 rfl (lv_at hl 0 rfl) ?_
  refine va_get (D := G) (ci := 3) (v := .int (nI nf)) (C := RX3) (T := TX3) (N := 3) hx hb hts in_X3_filter_X3 hown hK hP 0 rfl rfl 2 (by decide) (hts (.fieldLink RX3 22 "EchoBench" "filterCount" "I") (by decide +kernel)) (fun _ h9 => h9) rfl dX3_filter_89 ?_
  refine lv_istore (lv' := [(4, .int (nI nf)), (0, .ref o3), (1, .int kd), (2, .int (nI n)), (3, .int st)]) hx hb dX3_filter_92 hl (by decide) rfl (fun ls hl => ?_)
  refine lv_aload_n hx hb dX3_filter_94 rfl (lv_at hl 1 rfl) ?_
  refine va_get (D := G) (ci := 3) (v := .ref af) (C := RX3) (T := TX3) (N := 3) hx hb hts in_X3_filter_X3 hown hK hP 0 rfl rfl 1 (by decide) (hts (.fieldLink RX3 18 "EchoBench" "filters" "[LEchoBench$Filter;") (by decide +kernel)) (fun _ h9 => h9) rfl dX3_filter_95 ?_
  refine lv_iload hx hb dX3_filter_98 (lv_at hl 0 rfl) ?_
  refine va_new (ci := 0) (fs := [.int 0, .null, .null, .null, .int 0, .int 0, .int 0, .int 0, .double 0, .double 0, .int 0, .int 0, .int 0]) (C := RX0) (T := TX0) (N := 13) hx hb hts in_X3_filter_X0 tyX0 tyX0_ok hown (hts (.classLink RX3 16 RX0) (by decide +kernel)) (hts (.instantiable RX0 13) (by decide +kernel)) (hts (.initialized RX0) (by decide +kernel)) hK hP hD hS hA rfl (fun j hj => by rcases (show j = 0 ∨ j = 1 ∨ j = 2 ∨ j = 3 ∨ j = 4 ∨ j = 5 ∨ j = 6 ∨ j = 7 ∨ j = 8 ∨ j = 9 ∨ j = 10 ∨ j = 11 ∨ j = 12 by omega) with rfl | rfl | rfl | rfl | rfl | rfl | rfl | rfl | rfl | rfl | rfl | rfl | rfl <;> rfl) (by show _ ≤ 11; omega) (by show _ ≤ 73; omega) dX3_filter_100 (fun o0 H hP hD hS => ?_)
  have hP : va_P G vwCl [(o3, .inr (3, [.ref o1, .ref af, .int (nI nf)])), (af, aF q 6 (fun j => if j < nf then some (oa j) else none)), (o0, .inr (0, [.int 0, .null, .null, .null, .int 0, .int 0, .int 0, .int 0, .double 0, .double 0, .int 0, .int 0, .int 0]))] H := hP
  have hD : va_D A [(o3, .inr (3, [.ref o1, .ref af, .int (nI nf)])), (af, aF q 6 (fun j => if j < nf then some (oa j) else none)), (o0, .inr (0, [.int 0, .null, .null, .null, .int 0, .int 0, .int 0, .int 0, .double 0, .double 0, .int 0, .int 0, .int 0]))] := hD
  refine lv_dup hx hb dX3_filter_103 rfl ?_
  refine lv_iload_n hx hb dX3_filter_104 rfl (lv_at hl 2 rfl) ?_
  refine lv_iload_n hx hb dX3_filter_105 rfl (lv_at hl 3 rfl) ?_
  refine lv_iload_n hx hb dX3_filter_106 rfl (lv_at hl 4 rfl) ?_
  have hPc := hP.sub (ws' := [(o0, .inr (0, [.int 0, .null, .null, .null, .int 0, .int 0, .int 0, .int 0, .double 0, .double 0, .int 0, .int 0, .int 0]))]) [2] rfl
  have hDc := hD.sub (ws' := [(o0, .inr (0, [.int 0, .null, .null, .null, .int 0, .int 0, .int 0, .int 0, .double 0, .double 0, .int 0, .int 0, .int 0]))]) [2] (by decide) rfl
  have hFc := va_free (wc := [(o0, .inr (0, [.int 0, .null, .null, .null, .int 0, .int 0, .int 0, .int 0, .double 0, .double 0, .int 0, .int 0, .int 0]))]) hD hS hA [2] rfl
  refine va_callv (va_runIN (As := [.int kd, .int (nI n), .int st]) (rest := [.ref o0, .int (nI nf), .ref af]) ⟨hx, hb, hml, hown, hts⟩ (m_X0_initN l G q H.size o0 n kd st hk hn) ⟨va_cnB 3 hts gX3_filter_X0_init_n61 rfl rfl rfl (hNF.1 (.methodLinkNest RX3 61 yX0_init "EchoBench") (by decide +kernel)) (hts (.initialized RX0) (by decide +kernel)) (by decide +kernel) ⟨Nat.le_of_ble_eq_true rfl, Nat.le_of_ble_eq_true rfl⟩, rfl, (hts (.instanceMethod yX0_init) (by decide +kernel))⟩ ⟨preW_blind, preW_start hPc hK hDc hNF⟩ rfl rfl hl.1 rfl (lv_room (Nat.le_of_ble_eq_true rfl)) dX3_filter_107 ⟨(by show _ ≤ 11; omega), (by show _ ≤ 73; omega)⟩) hS (fun q _ h => hFc q h) hFc (fun u9 t9 H1 locs ht9 hv9 hw hB9 hz9 hk9 hS => ?_)
  obtain ⟨aw, ae⟩ := u9
  obtain ⟨hP1, hD1⟩ := hB9
  rw [ht9] at hP1
  obtain ⟨hP, hD⟩ := va_join (wr := [(o3, .inr (3, [.ref o1, .ref af, .int (nI nf)])), (af, aF q 6 (fun j => if j < nf then some (oa j) else none))]) (w1 := [(o0, .inr (0, [.int kd, .ref aw, .ref ae, .null, .int st, .int 0, .int 0, .int 0, .double 0, .double 0, .int 0, .int 0, .int 0])), (aw, aD q n (fun _ => 0)), (ae, aD q 16 (fun _ => 0))]) hP hD [2] [0, 1] rfl rfl (by decide) (by decide) hk9 hFc hP1 hD1
  generalize H1 = H at hP hS ⊢
  have hP : va_P G vwCl [(o3, .inr (3, [.ref o1, .ref af, .int (nI nf)])), (af, aF q 6 (fun j => if j < nf then some (oa j) else none)), (o0, .inr (0, [.int kd, .ref aw, .ref ae, .null, .int st, .int 0, .int 0, .int 0, .double 0, .double 0, .int 0, .int 0, .int 0])), (aw, aD q n (fun _ => 0)), (ae, aD q 16 (fun _ => 0))] H := hP
  have hD : va_D A [(o3, .inr (3, [.ref o1, .ref af, .int (nI nf)])), (af, aF q 6 (fun j => if j < nf then some (oa j) else none)), (o0, .inr (0, [.int kd, .ref aw, .ref ae, .null, .int st, .int 0, .int 0, .int 0, .double 0, .double 0, .int 0, .int 0, .int 0])), (aw, aD q n (fun _ => 0)), (ae, aD q 16 (fun _ => 0))] := hD
  refine va_astq hx hb hK hP hD hS 1 3 2 0 rfl rfl rfl rfl (vpin (j := nf) rfl (by omega) (by decide)) dX3_filter_110 (fun H locs hP hD hS => ?_)
  rw [af_step (nI_clamp (by omega))] at hP hD
  have hP : va_P G vwCl [(o3, .inr (3, [.ref o1, .ref af, .int (nI nf)])), (af, aF q 6 (fun j => if j < nf + 1 then some (vf_upd oa nf o0 j) else none)), (o0, .inr (0, [.int kd, .ref aw, .ref ae, .null, .int st, .int 0, .int 0, .int 0, .double 0, .double 0, .int 0, .int 0, .int 0])), (aw, aD q n (fun _ => 0)), (ae, aD q 16 (fun _ => 0))] H := hP
  have hD : va_D A [(o3, .inr (3, [.ref o1, .ref af, .int (nI nf)])), (af, aF q 6 (fun j => if j < nf + 1 then some (vf_upd oa nf o0 j) else none)), (o0, .inr (0, [.int kd, .ref aw, .ref ae, .null, .int st, .int 0, .int 0, .int 0, .double 0, .double 0, .int 0, .int 0, .int 0])), (aw, aD q n (fun _ => 0)), (ae, aD q 16 (fun _ => 0))] := hD
  refine lv_aload_n hx hb dX3_filter_111 rfl (lv_at hl 1 rfl) ?_
  refine lv_dup hx hb dX3_filter_112 rfl ?_
  refine va_get (D := G) (ci := 3) (v := .int (nI nf)) (C := RX3) (T := TX3) (N := 3) hx hb hts in_X3_filter_X3 hown hK hP 0 rfl rfl 2 (by decide) (hts (.fieldLink RX3 22 "EchoBench" "filterCount" "I") (by decide +kernel)) (fun _ h9 => h9) rfl dX3_filter_113 ?_
  refine lv_iconst (v := 1) hx hb dX3_filter_116 (by decide) ?_
  refine lv_iadd hx hb dX3_filter_117 ?_
  refine lv_topi (fun x14 ex14 => ?_)
  obtain rfl : x14 = (nI (nf + 1)) := ex14.trans (nI_add nf 1)
  refine va_put (D := G) (ci := 3) (v := .int (nI (nf + 1))) (ty := .int) (C := RX3) (T := TX3) (N := 3) hx hb hts in_X3_filter_X3 tyX3 tyX3_ok nmX3 hown hK hP hD hS 0 rfl rfl 2 (by decide) (hts (.fieldLink RX3 22 "EchoBench" "filterCount" "I") (by decide +kernel)) (fun _ h9 => h9) rfl (by decide +kernel) rfl rfl (Nat.le_of_ble_eq_true rfl) dX3_filter_118 (fun H locs hP hD hS => ?_)
  have hP : va_P G vwCl [(o3, .inr (3, [.ref o1, .ref af, .int (nI (nf + 1))])), (af, aF q 6 (fun j => if j < nf + 1 then some (vf_upd oa nf o0 j) else none)), (o0, .inr (0, [.int kd, .ref aw, .ref ae, .null, .int st, .int 0, .int 0, .int 0, .double 0, .double 0, .int 0, .int 0, .int 0])), (aw, aD q n (fun _ => 0)), (ae, aD q 16 (fun _ => 0))] H := hP
  have hD : va_D A [(o3, .inr (3, [.ref o1, .ref af, .int (nI (nf + 1))])), (af, aF q 6 (fun j => if j < nf + 1 then some (vf_upd oa nf o0 j) else none)), (o0, .inr (0, [.int kd, .ref aw, .ref ae, .null, .int st, .int 0, .int 0, .int 0, .double 0, .double 0, .int 0, .int 0, .int 0])), (aw, aD q n (fun _ => 0)), (ae, aD q 16 (fun _ => 0))] := hD
  refine lv_iload hx hb dX3_filter_121 (lv_at hl 0 rfl) ?_
  refine W.widen (k := 11) (n := 73) (by omega) (by omega) ?_
  have hP9 := hP
  have hD9 := hD
  exact W.iret (v := (nI nf)) hx hb hr (fun t ht hW => ⟨⟨(nI nf), (o0, aw, ae), rfl, rfl, by rw [ht]; exact hP9, hD9⟩, hS.F ht⟩) hS.2.2 dX3_filter_123

set_option maxHeartbeats 4000000 in
set_option maxRecDepth 100000 in
/-- filter: where it returns -/
theorem m_X3_filterR (l : Launch) (G : va_G) (q : Nat → ClassId) (sz : Nat) (o3 o1 af nf : Nat) (oa : Nat → Nat) (n : Nat) (kd st : Int32) (hnf : nf < 6) (hkd : 0 ≤ kd ∧ kd ≤ 3) (hk : kd = 3) (hn : n ≤ 4) (hn1 : 1 ≤ n) (hs : stpB kd st) : Met l yX3_filter wsX3_filter ({ frames := 6, cells := 11, slots := 73, locals := 140 } : Jvm.Room) (PreW G q [.ref o3, .int kd, .int (nI n), .int st] [(o3, .inr (3, [.ref o1, .ref af, .int (nI nf)])), (af, aF q 6 (fun j => if j < nf then some (oa j) else none))] sz) (va_Qi (fun (r : Int32) (u : Nat × Nat × Nat × Nat × Nat × Nat × Nat × (Nat → Nat) × (Nat → Nat → UInt64)) => r = nI nf ∧ ∀ a b, a < n → b < n → u.2.2.2.2.2.2.2.2 a b = if a = b then H100 else 0) (fun (u : Nat × Nat × Nat × Nat × Nat × Nat × Nat × (Nat → Nat) × (Nat → Nat → UInt64)) t => EndA G (va_A [(o3, .inr (3, [.ref o1, .ref af, .int (nI nf)])), (af, aF q 6 (fun j => if j < nf then some (oa j) else none))] sz) ([(o3, .inr (3, [.ref o1, .ref af, .int (nI (nf + 1))])), (af, aF q 6 (fun j => if j < nf + 1 then some (vf_upd oa nf u.1 j) else none)), (u.1, .inr (0, [.int kd, .ref u.2.1, .ref u.2.2.1, .ref u.2.2.2.1, .int st, .int 0, .int 0, .int 0, .double 0, .double 0, .int 0, .int 0, .int 0])), (u.2.1, aD q n (fun _ => 0)), (u.2.2.1, aD q 16 (fun _ => 0)), (u.2.2.2.1, .inr (2, [.int (nI n), .ref u.2.2.2.2.1, .ref u.2.2.2.2.2.1, .ref u.2.2.2.2.2.2.1])), (u.2.2.2.2.1, aA q n (fun j => if j < n then some (u.2.2.2.2.2.2.2.1 j) else none)), (u.2.2.2.2.2.1, aD q n (fun _ => 0)), (u.2.2.2.2.2.2.1, aD q n (fun _ => 0))] ++ rowsW q n n u.2.2.2.2.2.2.2.1 u.2.2.2.2.2.2.2.2) t) (va_A [(o3, .inr (3, [.ref o1, .ref af, .int (nI nf)])), (af, aF q 6 (fun j => if j < nf then some (oa j) else none))] sz)) 11 73 (va_A [(o3, .inr (3, [.ref o1, .ref af, .int (nI nf)])), (af, aF q 6 (fun j => if j < nf then some (oa j) else none))] sz) := by
  refine Met.ofW (cc := cX3_filter) (maxL := 5) (ret := (some .int)) (by decide +kernel) rfl ?_
  intro p e s m args below meth c s₁ B hml hv
  obtain ⟨rfl, hsz, hP, hK, hD0, hNF⟩ := hv
  have hx := B.exec
  have hb := B.bytes
  have hr := B.returns
  have hts := atoms_spec (ws := wsX3_filter) B.pre
  have hown : s.vm.findClass RX3 = some m.cls := findClass_of_methodNamed B.named
  have hlocks := B.notSynchronized
  subst hsz
  have hD := hD0.self (sz := s.heap.size)
  generalize hAe : va_A [(o3, .inr (3, [.ref o1, .ref af, .int (nI nf)])), (af, aF q 6 (fun j => if j < nf then some (oa j) else none))] s.heap.size = A at hD ⊢
  have hA : ∀ q : Nat, s.heap.size ≤ q → A q := fun q h => by rw [← hAe]; exact Or.inr h
  have hS : va_S A s.heap s.heap [] := va_S.rf
  have hP : va_P G vwCl [(o3, .inr (3, [.ref o1, .ref af, .int (nI nf)])), (af, aF q 6 (fun j => if j < nf then some (oa j) else none))] s.heap := hP
  have hl := lv_entry ([.ref o3, .int kd, .int (nI n), .int st]) (n := 5) (Nat.le_of_ble_eq_true rfl)
  rw [lg_entry_eq]
  generalize (lg_sl ([.ref o3, .int kd, .int (nI n), .int st]) ++ List.replicate (5 - (lg_sl ([.ref o3, .int kd, .int (nI n), .int st])).length) Slot.unset).toArray = ls at hl ⊢
  have hl : lv_has ls 5 [(0, .ref o3), (1, .int kd), (2, .int (nI n)), (3, .int st)] := hl
  refine lv_iload_n hx hb dX3_filter_0 rfl (lv_at hl 1 rfl) ?_
  refine lv_iconst (v := 0) hx hb dX3_filter_1 (by decide) ?_
  refine lv_iconst (v := 3) hx hb dX3_filter_2 (by decide) ?_
  have hPc := hP.sub (ws' := []) [] rfl
  have hDc := hD.sub (ws' := []) [] (by decide) rfl
  have hFc := va_free (wc := []) hD hS hA [] rfl
  refine va_calli (va_runS (As := [.int kd, .int 0, .int 3]) (rest := []) ⟨hx, hb, hml, hown, hts⟩ (m_X3_isWithin l G q s.heap.size kd 0 3) (va_cwS 3 hts gX3_filter_X3_isWithin rfl rfl rfl (by decide +kernel) ⟨Nat.le_of_ble_eq_true rfl, Nat.le_of_ble_eq_true rfl⟩) ⟨preW_blind, preW_start hPc hK hDc hNF⟩ rfl rfl hl.1 rfl (lv_room (Nat.le_of_ble_eq_true rfl)) dX3_filter_3 ⟨(by show _ ≤ 11; omega), (by show _ ≤ 73; omega)⟩) hS (fun q _ h => hFc q h) hFc (fun ri1 u9 t9 H1 locs ht9 hv9 hw hB9 hz9 hk9 hS => ?_)
  obtain ⟨⟩ := u9
  obtain ⟨hP1, hD1⟩ := hB9
  rw [ht9] at hP1
  obtain ⟨hP, hD⟩ := va_join (wr := [(o3, .inr (3, [.ref o1, .ref af, .int (nI nf)])), (af, aF q 6 (fun j => if j < nf then some (oa j) else none))]) (w1 := []) hP hD [] [0, 1] rfl rfl (by decide) (by decide) hk9 hFc hP1 hD1
  generalize H1 = H at hP hS ⊢
  have hP : va_P G vwCl [(o3, .inr (3, [.ref o1, .ref af, .int (nI nf)])), (af, aF q 6 (fun j => if j < nf then some (oa j) else none))] H := hP
  have hD : va_D A [(o3, .inr (3, [.ref o1, .ref af, .int (nI nf)])), (af, aF q 6 (fun j => if j < nf then some (oa j) else none))] := hD
  obtain rfl : ri1 = 1 := hw.trans (if_pos hkd)
  refine lv_if_ne (tgt := 19) hx hb dX3_filter_6 (by decide) (fun _ => ?_) (fun h => absurd h (by decide))
  refine lv_iload_n hx hb dX3_filter_19 rfl (lv_at hl 2 rfl) ?_
  refine lv_iconst (v := 1) hx hb dX3_filter_20 (by decide) ?_
  refine lv_iload_n hx hb dX3_filter_21 rfl (lv_at hl 1 rfl) ?_
  refine lv_iconst (v := 3) hx hb dX3_filter_22 (by decide) ?_
  refine lv_icmp_ne (tgt := 30) hx hb dX3_filter_23 (by decide) (fun h => absurd hk h) (fun _ => ?_)
  refine lv_iconst (v := 4) hx hb dX3_filter_26 (by decide) ?_
  refine lv_goto (tgt := 32) hx hb dX3_filter_27 (by decide) ?_
  have hPc := hP.sub (ws' := []) [] rfl
  have hDc := hD.sub (ws' := []) [] (by decide) rfl
  have hFc := va_free (wc := []) hD hS hA [] rfl
  refine va_calli (va_runS (As := [.int (nI n), .int 1, .int 4]) (rest := []) ⟨hx, hb, hml, hown, hts⟩ (m_X3_isWithin l G q H.size (nI n) 1 4) (va_cwS 3 hts gX3_filter_X3_isWithin rfl rfl rfl (by decide +kernel) ⟨Nat.le_of_ble_eq_true rfl, Nat.le_of_ble_eq_true rfl⟩) ⟨preW_blind, preW_start hPc hK hDc hNF⟩ rfl rfl hl.1 rfl (lv_room (Nat.le_of_ble_eq_true rfl)) dX3_filter_32 ⟨(by show _ ≤ 11; omega), (by show _ ≤ 73; omega)⟩) hS (fun q _ h => hFc q h) hFc (fun ri5 u9 t9 H1 locs ht9 hv9 hw hB9 hz9 hk9 hS => ?_)
  obtain ⟨⟩ := u9
  obtain ⟨hP1, hD1⟩ := hB9
  rw [ht9] at hP1
  obtain ⟨hP, hD⟩ := va_join (wr := [(o3, .inr (3, [.ref o1, .ref af, .int (nI nf)])), (af, aF q 6 (fun j => if j < nf then some (oa j) else none))]) (w1 := []) hP hD [] [0, 1] rfl rfl (by decide) (by decide) hk9 hFc hP1 hD1
  generalize H1 = H at hP hS ⊢
  have hP : va_P G vwCl [(o3, .inr (3, [.ref o1, .ref af, .int (nI nf)])), (af, aF q 6 (fun j => if j < nf then some (oa j) else none))] H := hP
  have hD : va_D A [(o3, .inr (3, [.ref o1, .ref af, .int (nI nf)])), (af, aF q 6 (fun j => if j < nf then some (oa j) else none))] := hD
  obtain rfl : ri5 = 1 := hw.trans (if_pos ⟨nI_le (a := 1) hn1 (by omega), nI_le (b := 4) hn (by decide)⟩)
  refine lv_if_ne (tgt := 48) hx hb dX3_filter_35 (by decide) (fun _ => ?_) (fun h => absurd h (by decide))
  refine lv_iload_n hx hb dX3_filter_48 rfl (lv_at hl 1 rfl) ?_
  refine lv_iload_n hx hb dX3_filter_49 rfl (lv_at hl 3 rfl) ?_
  have hPc := hP.sub (ws' := []) [] rfl
  have hDc := hD.sub (ws' := []) [] (by decide) rfl
  have hFc := va_free (wc := []) hD hS hA [] rfl
  refine va_calli (va_runS (As := [.int kd, .int st]) (rest := []) ⟨hx, hb, hml, hown, hts⟩ (m_X3_isStepOf l G q H.size kd st) (va_cwS 2 hts gX3_filter_X3_isStepOf rfl rfl rfl (by decide +kernel) ⟨Nat.le_of_ble_eq_true rfl, Nat.le_of_ble_eq_true rfl⟩) ⟨preW_blind, preW_start hPc hK hDc hNF⟩ rfl rfl hl.1 rfl (lv_room (Nat.le_of_ble_eq_true rfl)) dX3_filter_50 ⟨(by show _ ≤ 11; omega), (by show _ ≤ 73; omega)⟩) hS (fun q _ h => hFc q h) hFc (fun rs8 u9 t9 H1 locs ht9 hv9 hw hB9 hz9 hk9 hS => ?_)
  obtain ⟨⟩ := u9
  obtain ⟨hP1, hD1⟩ := hB9
  rw [ht9] at hP1
  obtain ⟨hP, hD⟩ := va_join (wr := [(o3, .inr (3, [.ref o1, .ref af, .int (nI nf)])), (af, aF q 6 (fun j => if j < nf then some (oa j) else none))]) (w1 := []) hP hD [] [0, 1] rfl rfl (by decide) (by decide) hk9 hFc hP1 hD1
  generalize H1 = H at hP hS ⊢
  have hP : va_P G vwCl [(o3, .inr (3, [.ref o1, .ref af, .int (nI nf)])), (af, aF q 6 (fun j => if j < nf then some (oa j) else none))] H := hP
  have hD : va_D A [(o3, .inr (3, [.ref o1, .ref af, .int (nI nf)])), (af, aF q 6 (fun j => if j < nf then some (oa j) else none))] := hD
  obtain rfl : rs8 = 1 := hw.trans (stp_1 hs)
  refine lv_if_ne (tgt := 66) hx hb dX3_filter_53 (by decide) (fun _ => ?_) (fun h => absurd h (by decide))
  refine lv_aload_n hx hb dX3_filter_66 rfl (lv_at hl 0 rfl) ?_
  refine va_get (D := G) (ci := 3) (v := .int (nI nf)) (C := RX3) (T := TX3) (N := 3) hx hb hts in_X3_filter_X3 hown hK hP 0 rfl rfl 2 (by decide) (hts (.fieldLink RX3 22 "EchoBench" "filterCount" "I") (by decide +kernel)) (fun _ h9 => h9) rfl dX3_filter_67 ?_
  refine lv_aload_n hx hb dX3_filter_70 rfl (lv_at hl 0 rfl) ?_
  refine va_get (D := G) (ci := 3) (v := .ref af) (C := RX3) (T := TX3) (N := 3) hx hb hts in_X3_filter_X3 hown hK hP 0 rfl rfl 1 (by decide) (hts (.fieldLink RX3 18 "EchoBench" "filters" "[LEchoBench$Filter;") (by decide +kernel)) (fun _ h9 => h9) rfl dX3_filter_71 ?_
  refine va_alen (D := G) hx hb hK hP 1 3 rfl rfl (v := 6) rfl dX3_filter_74 ?_
  refine lv_icmp_lt (tgt := 88) hx hb dX3_filter_75 (by decide) (fun _ => ?_) (fun h => absurd (nI_lt (b := 6) hnf (by decide)) h)
  refine lv_aload_n hx hb dX3_filter_88 rfl (lv_at hl 0 rfl) ?_
  refine va_get (D := G) (ci := 3) (v := .int (nI nf)) (C := RX3) (T := TX3) (N := 3) hx hb hts in_X3_filter_X3 hown hK hP 0 rfl rfl 2 (by decide) (hts (.fieldLink RX3 22 "EchoBench" "filterCount" "I") (by decide +kernel)) (fun _ h9 => h9) rfl dX3_filter_89 ?_
  refine lv_istore (lv' := [(4, .int (nI nf)), (0, .ref o3), (1, .int kd), (2, .int (nI n)), (3, .int st)]) hx hb dX3_filter_92 hl (by decide) rfl (fun ls hl => ?_)
  refine lv_aload_n hx hb dX3_filter_94 rfl (lv_at hl 1 rfl) ?_
  refine va_get (D := G) (ci := 3) (v := .ref af) (C := RX3) (T := TX3) (N := 3) hx hb hts in_X3_filter_X3 hown hK hP 0 rfl rfl 1 (by decide) (hts (.fieldLink RX3 18 "EchoBench" "filters" "[LEchoBench$Filter;") (by decide +kernel)) (fun _ h9 => h9) rfl dX3_filter_95 ?_
  refine lv_iload hx hb dX3_filter_98 (lv_at hl 0 rfl) ?_
  refine va_new (ci := 0) (fs := [.int 0, .null, .null, .null, .int 0, .int 0, .int 0, .int 0, .double 0, .double 0, .int 0, .int 0, .int 0]) (C := RX0) (T := TX0) (N := 13) hx hb hts in_X3_filter_X0 tyX0 tyX0_ok hown (hts (.classLink RX3 16 RX0) (by decide +kernel)) (hts (.instantiable RX0 13) (by decide +kernel)) (hts (.initialized RX0) (by decide +kernel)) hK hP hD hS hA rfl (fun j hj => by rcases (show j = 0 ∨ j = 1 ∨ j = 2 ∨ j = 3 ∨ j = 4 ∨ j = 5 ∨ j = 6 ∨ j = 7 ∨ j = 8 ∨ j = 9 ∨ j = 10 ∨ j = 11 ∨ j = 12 by omega) with rfl | rfl | rfl | rfl | rfl | rfl | rfl | rfl | rfl | rfl | rfl | rfl | rfl <;> rfl) (by show _ ≤ 11; omega) (by show _ ≤ 73; omega) dX3_filter_100 (fun o0 H hP hD hS => ?_)
  have hP : va_P G vwCl [(o3, .inr (3, [.ref o1, .ref af, .int (nI nf)])), (af, aF q 6 (fun j => if j < nf then some (oa j) else none)), (o0, .inr (0, [.int 0, .null, .null, .null, .int 0, .int 0, .int 0, .int 0, .double 0, .double 0, .int 0, .int 0, .int 0]))] H := hP
  have hD : va_D A [(o3, .inr (3, [.ref o1, .ref af, .int (nI nf)])), (af, aF q 6 (fun j => if j < nf then some (oa j) else none)), (o0, .inr (0, [.int 0, .null, .null, .null, .int 0, .int 0, .int 0, .int 0, .double 0, .double 0, .int 0, .int 0, .int 0]))] := hD
  refine lv_dup hx hb dX3_filter_103 rfl ?_
  refine lv_iload_n hx hb dX3_filter_104 rfl (lv_at hl 2 rfl) ?_
  refine lv_iload_n hx hb dX3_filter_105 rfl (lv_at hl 3 rfl) ?_
  refine lv_iload_n hx hb dX3_filter_106 rfl (lv_at hl 4 rfl) ?_
  have hPc := hP.sub (ws' := [(o0, .inr (0, [.int 0, .null, .null, .null, .int 0, .int 0, .int 0, .int 0, .double 0, .double 0, .int 0, .int 0, .int 0]))]) [2] rfl
  have hDc := hD.sub (ws' := [(o0, .inr (0, [.int 0, .null, .null, .null, .int 0, .int 0, .int 0, .int 0, .double 0, .double 0, .int 0, .int 0, .int 0]))]) [2] (by decide) rfl
  have hFc := va_free (wc := [(o0, .inr (0, [.int 0, .null, .null, .null, .int 0, .int 0, .int 0, .int 0, .double 0, .double 0, .int 0, .int 0, .int 0]))]) hD hS hA [2] rfl
  refine va_callv (va_runIN (As := [.int kd, .int (nI n), .int st]) (rest := [.ref o0, .int (nI nf), .ref af]) ⟨hx, hb, hml, hown, hts⟩ (m_X0_initR l G q H.size o0 n kd st hk hn) ⟨va_cnB 3 hts gX3_filter_X0_init_n61 rfl rfl rfl (hNF.1 (.methodLinkNest RX3 61 yX0_init "EchoBench") (by decide +kernel)) (hts (.initialized RX0) (by decide +kernel)) (by decide +kernel) ⟨Nat.le_of_ble_eq_true rfl, Nat.le_of_ble_eq_true rfl⟩, rfl, (hts (.instanceMethod yX0_init) (by decide +kernel))⟩ ⟨preW_blind, preW_start hPc hK hDc hNF⟩ rfl rfl hl.1 rfl (lv_room (Nat.le_of_ble_eq_true rfl)) dX3_filter_107 ⟨(by show _ ≤ 11; omega), (by show _ ≤ 73; omega)⟩) hS (fun q _ h => hFc q h) hFc (fun u9 t9 H1 locs ht9 hv9 hw hB9 hz9 hk9 hS => ?_)
  obtain ⟨aw, ae, os, an, ag, ah, ar, P⟩ := u9
  obtain ⟨hP1, hD1⟩ := hB9
  rw [ht9] at hP1
  obtain ⟨hP, hD⟩ := va_join (wr := [(o3, .inr (3, [.ref o1, .ref af, .int (nI nf)])), (af, aF q 6 (fun j => if j < nf then some (oa j) else none))]) (w1 := ([(o0, .inr (0, [.int kd, .ref aw, .ref ae, .ref os, .int st, .int 0, .int 0, .int 0, .double 0, .double 0, .int 0, .int 0, .int 0])), (aw, aD q n (fun _ => 0)), (ae, aD q 16 (fun _ => 0)), (os, .inr (2, [.int (nI n), .ref an, .ref ag, .ref ah])), (an, aA q n (fun j => if j < n then some (ar j) else none)), (ag, aD q n (fun _ => 0)), (ah, aD q n (fun _ => 0))] ++ rowsW q n n ar P)) hP hD [2] [0, 1] rfl rfl (by decide) (by decide) hk9 hFc hP1 hD1
  generalize H1 = H at hP hS ⊢
  have hP : va_P G vwCl ([(o3, .inr (3, [.ref o1, .ref af, .int (nI nf)])), (af, aF q 6 (fun j => if j < nf then some (oa j) else none)), (o0, .inr (0, [.int kd, .ref aw, .ref ae, .ref os, .int st, .int 0, .int 0, .int 0, .double 0, .double 0, .int 0, .int 0, .int 0])), (aw, aD q n (fun _ => 0)), (ae, aD q 16 (fun _ => 0)), (os, .inr (2, [.int (nI n), .ref an, .ref ag, .ref ah])), (an, aA q n (fun j => if j < n then some (ar j) else none)), (ag, aD q n (fun _ => 0)), (ah, aD q n (fun _ => 0))] ++ rowsW q n n ar P) H := hP
  have hD : va_D A ([(o3, .inr (3, [.ref o1, .ref af, .int (nI nf)])), (af, aF q 6 (fun j => if j < nf then some (oa j) else none)), (o0, .inr (0, [.int kd, .ref aw, .ref ae, .ref os, .int st, .int 0, .int 0, .int 0, .double 0, .double 0, .int 0, .int 0, .int 0])), (aw, aD q n (fun _ => 0)), (ae, aD q 16 (fun _ => 0)), (os, .inr (2, [.int (nI n), .ref an, .ref ag, .ref ah])), (an, aA q n (fun j => if j < n then some (ar j) else none)), (ag, aD q n (fun _ => 0)), (ah, aD q n (fun _ => 0))] ++ rowsW q n n ar P) := hD
  have hPi := hw
  refine va_astq hx hb hK hP hD hS 1 3 2 0 rfl rfl rfl rfl (vpin (j := nf) rfl (by omega) (by decide)) dX3_filter_110 (fun H locs hP hD hS => ?_)
  rw [af_step (nI_clamp (by omega))] at hP hD
  have hP : va_P G vwCl ([(o3, .inr (3, [.ref o1, .ref af, .int (nI nf)])), (af, aF q 6 (fun j => if j < nf + 1 then some (vf_upd oa nf o0 j) else none)), (o0, .inr (0, [.int kd, .ref aw, .ref ae, .ref os, .int st, .int 0, .int 0, .int 0, .double 0, .double 0, .int 0, .int 0, .int 0])), (aw, aD q n (fun _ => 0)), (ae, aD q 16 (fun _ => 0)), (os, .inr (2, [.int (nI n), .ref an, .ref ag, .ref ah])), (an, aA q n (fun j => if j < n then some (ar j) else none)), (ag, aD q n (fun _ => 0)), (ah, aD q n (fun _ => 0))] ++ rowsW q n n ar P) H := hP
  have hD : va_D A ([(o3, .inr (3, [.ref o1, .ref af, .int (nI nf)])), (af, aF q 6 (fun j => if j < nf + 1 then some (vf_upd oa nf o0 j) else none)), (o0, .inr (0, [.int kd, .ref aw, .ref ae, .ref os, .int st, .int 0, .int 0, .int 0, .double 0, .double 0, .int 0, .int 0, .int 0])), (aw, aD q n (fun _ => 0)), (ae, aD q 16 (fun _ => 0)), (os, .inr (2, [.int (nI n), .ref an, .ref ag, .ref ah])), (an, aA q n (fun j => if j < n then some (ar j) else none)), (ag, aD q n (fun _ => 0)), (ah, aD q n (fun _ => 0))] ++ rowsW q n n ar P) := hD
  refine lv_aload_n hx hb dX3_filter_111 rfl (lv_at hl 1 rfl) ?_
  refine lv_dup hx hb dX3_filter_112 rfl ?_
  refine va_get (D := G) (ci := 3) (v := .int (nI nf)) (C := RX3) (T := TX3) (N := 3) hx hb hts in_X3_filter_X3 hown hK hP 0 rfl rfl 2 (by decide) (hts (.fieldLink RX3 22 "EchoBench" "filterCount" "I") (by decide +kernel)) (fun _ h9 => h9) rfl dX3_filter_113 ?_
  refine lv_iconst (v := 1) hx hb dX3_filter_116 (by decide) ?_
  refine lv_iadd hx hb dX3_filter_117 ?_
  refine lv_topi (fun x14 ex14 => ?_)
  obtain rfl : x14 = (nI (nf + 1)) := ex14.trans (nI_add nf 1)
  refine va_put (D := G) (ci := 3) (v := .int (nI (nf + 1))) (ty := .int) (C := RX3) (T := TX3) (N := 3) hx hb hts in_X3_filter_X3 tyX3 tyX3_ok nmX3 hown hK hP hD hS 0 rfl rfl 2 (by decide) (hts (.fieldLink RX3 22 "EchoBench" "filterCount" "I") (by decide +kernel)) (fun _ h9 => h9) rfl (by decide +kernel) rfl rfl (Nat.le_of_ble_eq_true rfl) dX3_filter_118 (fun H locs hP hD hS => ?_)
  have hP : va_P G vwCl ([(o3, .inr (3, [.ref o1, .ref af, .int (nI (nf + 1))])), (af, aF q 6 (fun j => if j < nf + 1 then some (vf_upd oa nf o0 j) else none)), (o0, .inr (0, [.int kd, .ref aw, .ref ae, .ref os, .int st, .int 0, .int 0, .int 0, .double 0, .double 0, .int 0, .int 0, .int 0])), (aw, aD q n (fun _ => 0)), (ae, aD q 16 (fun _ => 0)), (os, .inr (2, [.int (nI n), .ref an, .ref ag, .ref ah])), (an, aA q n (fun j => if j < n then some (ar j) else none)), (ag, aD q n (fun _ => 0)), (ah, aD q n (fun _ => 0))] ++ rowsW q n n ar P) H := hP
  have hD : va_D A ([(o3, .inr (3, [.ref o1, .ref af, .int (nI (nf + 1))])), (af, aF q 6 (fun j => if j < nf + 1 then some (vf_upd oa nf o0 j) else none)), (o0, .inr (0, [.int kd, .ref aw, .ref ae, .ref os, .int st, .int 0, .int 0, .int 0, .double 0, .double 0, .int 0, .int 0, .int 0])), (aw, aD q n (fun _ => 0)), (ae, aD q 16 (fun _ => 0)), (os, .inr (2, [.int (nI n), .ref an, .ref ag, .ref ah])), (an, aA q n (fun j => if j < n then some (ar j) else none)), (ag, aD q n (fun _ => 0)), (ah, aD q n (fun _ => 0))] ++ rowsW q n n ar P) := hD
  refine lv_iload hx hb dX3_filter_121 (lv_at hl 0 rfl) ?_
  refine W.widen (k := 11) (n := 73) (by omega) (by omega) ?_
  have hP9 := hP
  have hD9 := hD
  exact W.iret (v := (nI nf)) hx hb hr (fun t ht hW => ⟨⟨(nI nf), (o0, aw, ae, os, an, ag, ah, ar, P), rfl, ⟨rfl, hPi⟩, by rw [ht]; exact hP9, hD9⟩, hS.F ht⟩) hS.2.2 dX3_filter_123

theorem in_X3_init_X1 : ∀ w ∈ wsX10, w ∈ wsX3_init := by decide +kernel
theorem in_X3_init_X3 : ∀ w ∈ wsX30, w ∈ wsX3_init := by decide +kernel
set_option maxHeartbeats 4000000 in
set_option maxRecDepth 100000 in
/-- the constructor of EchoBench -/
theorem m_X3_init (l : Launch) (G : va_G) (q : Nat → ClassId) (sz : Nat) (o3 : Nat)  : Met l yX3_init wsX3_init ({ frames := 4, cells := 7, slots := 77, locals := 100 } : Jvm.Room) (PreW G q [.ref o3] [(o3, .inr (3, [.null, .null, .int 0]))] sz) (va_Qv (fun (_ : Nat → Nat) => True) (fun (u : Nat → Nat) t => EndA G (va_A [(o3, .inr (3, [.null, .null, .int 0]))] sz) [(o3, .inr (3, [.ref (u 0), .ref (u 6), .int 0])), (u 6, aF q 6 (fun _ => none)), (u 0, .inr (1, [.ref (u 1), .ref (u 2), .ref (u 3), .ref (u 4), .ref (u 5), .double 0, .int 0])), (u 1, aI q 8 (fun _ => 0)), (u 2, aD q 8 (fun _ => FP.i2d 0)), (u 3, aD q 16 (fun _ => FP.i2d 0)), (u 4, aD q 16 (fun _ => FP.i2d 0)), (u 5, aD q 16 (fun _ => 0))] t) (va_A [(o3, .inr (3, [.null, .null, .int 0]))] sz)) 7 77 (va_A [(o3, .inr (3, [.null, .null, .int 0]))] sz) := by
  refine Met.ofW (cc := cX3_init) (maxL := 1) (ret := none) (by decide +kernel) rfl ?_
  intro p e s m args below meth c s₁ B hml hv
  obtain ⟨rfl, hsz, hP, hK, hD0, hNF⟩ := hv
  have hx := B.exec
  have hb := B.bytes
  have hr := B.returns
  have hts := atoms_spec (ws := wsX3_init) B.pre
  have hown : s.vm.findClass RX3 = some m.cls := findClass_of_methodNamed B.named
  have hlocks := B.notSynchronized
  have hin : meth.name = "<init>" := (name_of_methodNamed B.named B.method).1
  subst hsz
  have hD := hD0.self (sz := s.heap.size)
  generalize hAe : va_A [(o3, .inr (3, [.null, .null, .int 0]))] s.heap.size = A at hD ⊢
  have hA : ∀ q : Nat, s.heap.size ≤ q → A q := fun q h => by rw [← hAe]; exact Or.inr h
  have hS : va_S A s.heap s.heap [] := va_S.rf
  have hP : va_P G vwCl [(o3, .inr (3, [.null, .null, .int 0]))] s.heap := hP
  have hl := lv_entry ([.ref o3]) (n := 1) (Nat.le_of_ble_eq_true rfl)
  rw [lg_entry_eq]
  generalize (lg_sl ([.ref o3]) ++ List.replicate (1 - (lg_sl ([.ref o3])).length) Slot.unset).toArray = ls at hl ⊢
  have hl : lv_has ls 1 [(0, .ref o3)] := hl
  refine lv_aload_n hx hb dX3_init_0 rfl (lv_at hl 0 rfl) ?_
  refine W.objInit hx hb hown (hts (.methodLink RX3 1 objectInit) (by decide +kernel)) (hts (.instanceMethod objectInit) (by decide +kernel)) (hts _ (List.mem_cons_of_mem _ (List.mem_append_left _ (List.mem_append_left _ (List.mem_of_getElem? (i := 2) rfl))))) rfl (by rw [hml]; exact hl.1) rfl dX3_init_1 (Nat.le_of_ble_eq_true rfl) (Nat.le_of_ble_eq_true rfl) ?_
  refine W.eq (g2 := F0 m 4 ls []) rfl ?_
  refine lv_aload_n hx hb dX3_init_4 rfl (lv_at hl 0 rfl) ?_
  refine va_new (ci := 1) (fs := [.null, .null, .null, .null, .null, .double 0, .int 0]) (C := RX1) (T := TX1) (N := 7) hx hb hts in_X3_init_X1 tyX1 tyX1_ok hown (hts (.classLink RX3 7 RX1) (by decide +kernel)) (hts (.instantiable RX1 7) (by decide +kernel)) (hts (.initialized RX1) (by decide +kernel)) hK hP hD hS hA rfl (fun j hj => by rcases (show j = 0 ∨ j = 1 ∨ j = 2 ∨ j = 3 ∨ j = 4 ∨ j = 5 ∨ j = 6 by omega) with rfl | rfl | rfl | rfl | rfl | rfl | rfl <;> rfl) (by show _ ≤ 7; omega) (by show _ ≤ 77; omega) dX3_init_5 (fun o1 H hP hD hS => ?_)
  have hP : va_P G vwCl [(o3, .inr (3, [.null, .null, .int 0])), (o1, .inr (1, [.null, .null, .null, .null, .null, .double 0, .int 0]))] H := hP
  have hD : va_D A [(o3, .inr (3, [.null, .null, .int 0])), (o1, .inr (1, [.null, .null, .null, .null, .null, .double 0, .int 0]))] := hD
  refine lv_dup hx hb dX3_init_8 rfl ?_
  have hPc := hP.sub (ws' := [(o1, .inr (1, [.null, .null, .null, .null, .null, .double 0, .int 0]))]) [1] rfl
  have hDc := hD.sub (ws' := [(o1, .inr (1, [.null, .null, .null, .null, .null, .double 0, .int 0]))]) [1] (by decide) rfl
  have hFc := va_free (wc := [(o1, .inr (1, [.null, .null, .null, .null, .null, .double 0, .int 0]))]) hD hS hA [1] rfl
  refine va_callv (va_runIN (As := []) (rest := [.ref o1, .ref o3]) ⟨hx, hb, hml, hown, hts⟩ (m_X1_init l G q H.size o1) ⟨va_cnB 0 hts gX3_init_X1_init_n9 rfl rfl rfl (hNF.1 (.methodLinkNest RX3 9 yX1_init "EchoBench") (by decide +kernel)) (hts (.initialized RX1) (by decide +kernel)) (by decide +kernel) ⟨Nat.le_of_ble_eq_true rfl, Nat.le_of_ble_eq_true rfl⟩, rfl, (hts (.instanceMethod yX1_init) (by decide +kernel))⟩ ⟨preW_blind, preW_start hPc hK hDc hNF⟩ rfl rfl hl.1 rfl (lv_room (Nat.le_of_ble_eq_true rfl)) dX3_init_9 ⟨(by show _ ≤ 7; omega), (by show _ ≤ 77; omega)⟩) hS (fun q _ h => hFc q h) hFc (fun u9 t9 H1 locs ht9 hv9 hw hB9 hz9 hk9 hS => ?_)
  obtain ⟨v1, rfl⟩ : ∃ z, z = u9 := ⟨_, rfl⟩
  obtain ⟨hP1, hD1⟩ := hB9
  rw [ht9] at hP1
  obtain ⟨hP, hD⟩ := va_join (wr := [(o3, .inr (3, [.null, .null, .int 0]))]) (w1 := [(o1, .inr (1, [.ref (v1 0), .ref (v1 1), .ref (v1 2), .ref (v1 3), .ref (v1 4), .double 0, .int 0])), ((v1 0), aI q 8 (fun _ => 0)), ((v1 1), aD q 8 (fun _ => FP.i2d 0)), ((v1 2), aD q 16 (fun _ => FP.i2d 0)), ((v1 3), aD q 16 (fun _ => FP.i2d 0)), ((v1 4), aD q 16 (fun _ => 0))]) hP hD [1] [0] rfl rfl (by decide) (by decide) hk9 hFc hP1 hD1
  generalize H1 = H at hP hS ⊢
  have hP : va_P G vwCl [(o3, .inr (3, [.null, .null, .int 0])), (o1, .inr (1, [.ref (v1 0), .ref (v1 1), .ref (v1 2), .ref (v1 3), .ref (v1 4), .double 0, .int 0])), ((v1 0), aI q 8 (fun _ => 0)), ((v1 1), aD q 8 (fun _ => FP.i2d 0)), ((v1 2), aD q 16 (fun _ => FP.i2d 0)), ((v1 3), aD q 16 (fun _ => FP.i2d 0)), ((v1 4), aD q 16 (fun _ => 0))] H := hP
  have hD : va_D A [(o3, .inr (3, [.null, .null, .int 0])), (o1, .inr (1, [.ref (v1 0), .ref (v1 1), .ref (v1 2), .ref (v1 3), .ref (v1 4), .double 0, .int 0])), ((v1 0), aI q 8 (fun _ => 0)), ((v1 1), aD q 8 (fun _ => FP.i2d 0)), ((v1 2), aD q 16 (fun _ => FP.i2d 0)), ((v1 3), aD q 16 (fun _ => FP.i2d 0)), ((v1 4), aD q 16 (fun _ => 0))] := hD
  refine va_putF (D := G) (ci := 3) (v := .ref o1) (ty := (tyX3 0)) (C := RX3) (T := TX3) (N := 3) hx hb hts in_X3_init_X3 tyX3 tyX3_ok nmX3 hown hK hP hD hS 0 rfl rfl 0 (by decide) (hts (.fieldLink RX3 10 "EchoBench" "samples" "LEchoBench$Samples;") (by decide +kernel)) (fun _ h9 => h9) rfl hin rfl (by decide +kernel) rfl rfl (Nat.le_of_ble_eq_true rfl) dX3_init_12 (fun H locs hP hD hS => ?_)
  have hP : va_P G vwCl [(o3, .inr (3, [.ref o1, .null, .int 0])), (o1, .inr (1, [.ref (v1 0), .ref (v1 1), .ref (v1 2), .ref (v1 3), .ref (v1 4), .double 0, .int 0])), ((v1 0), aI q 8 (fun _ => 0)), ((v1 1), aD q 8 (fun _ => FP.i2d 0)), ((v1 2), aD q 16 (fun _ => FP.i2d 0)), ((v1 3), aD q 16 (fun _ => FP.i2d 0)), ((v1 4), aD q 16 (fun _ => 0))] H := hP
  have hD : va_D A [(o3, .inr (3, [.ref o1, .null, .int 0])), (o1, .inr (1, [.ref (v1 0), .ref (v1 1), .ref (v1 2), .ref (v1 3), .ref (v1 4), .double 0, .int 0])), ((v1 0), aI q 8 (fun _ => 0)), ((v1 1), aD q 8 (fun _ => FP.i2d 0)), ((v1 2), aD q 16 (fun _ => FP.i2d 0)), ((v1 3), aD q 16 (fun _ => FP.i2d 0)), ((v1 4), aD q 16 (fun _ => 0))] := hD
  refine lv_aload_n hx hb dX3_init_15 rfl (lv_at hl 0 rfl) ?_
  refine lv_bipush (v := 6) hx hb dX3_init_16 (by decide) ?_
  refine va_newq hx hb hown (hts (.classLink RX3 16 "EchoBench$Filter") (by decide +kernel)) hNF.2.2 hK hP hD hS hA (n := 6) (N' := 6) (by decide) rfl (by decide) (by show _ ≤ 7; omega) (by show _ ≤ 77; omega) dX3_init_18 (fun af cA H hK1 hP hD hS => ?_)
  have hcA := ra_F hK hK1
  subst hcA
  have hP : va_P G vwCl [(o3, .inr (3, [.ref o1, .null, .int 0])), (o1, .inr (1, [.ref (v1 0), .ref (v1 1), .ref (v1 2), .ref (v1 3), .ref (v1 4), .double 0, .int 0])), ((v1 0), aI q 8 (fun _ => 0)), ((v1 1), aD q 8 (fun _ => FP.i2d 0)), ((v1 2), aD q 16 (fun _ => FP.i2d 0)), ((v1 3), aD q 16 (fun _ => FP.i2d 0)), ((v1 4), aD q 16 (fun _ => 0)), (af, aF q 6 (fun _ => none))] H := hP
  have hD : va_D A [(o3, .inr (3, [.ref o1, .null, .int 0])), (o1, .inr (1, [.ref (v1 0), .ref (v1 1), .ref (v1 2), .ref (v1 3), .ref (v1 4), .double 0, .int 0])), ((v1 0), aI q 8 (fun _ => 0)), ((v1 1), aD q 8 (fun _ => FP.i2d 0)), ((v1 2), aD q 16 (fun _ => FP.i2d 0)), ((v1 3), aD q 16 (fun _ => FP.i2d 0)), ((v1 4), aD q 16 (fun _ => 0)), (af, aF q 6 (fun _ => none))] := hD
  refine va_putF (D := G) (ci := 3) (v := .ref af) (ty := (tyX3 1)) (C := RX3) (T := TX3) (N := 3) hx hb hts in_X3_init_X3 tyX3 tyX3_ok nmX3 hown hK hP hD hS 0 rfl rfl 1 (by decide) (hts (.fieldLink RX3 18 "EchoBench" "filters" "[LEchoBench$Filter;") (by decide +kernel)) (fun _ h9 => h9) rfl hin rfl (by decide +kernel) rfl rfl (Nat.le_of_ble_eq_true rfl) dX3_init_21 (fun H locs hP hD hS => ?_)
  have hP : va_P G vwCl [(o3, .inr (3, [.ref o1, .ref af, .int 0])), (o1, .inr (1, [.ref (v1 0), .ref (v1 1), .ref (v1 2), .ref (v1 3), .ref (v1 4), .double 0, .int 0])), ((v1 0), aI q 8 (fun _ => 0)), ((v1 1), aD q 8 (fun _ => FP.i2d 0)), ((v1 2), aD q 16 (fun _ => FP.i2d 0)), ((v1 3), aD q 16 (fun _ => FP.i2d 0)), ((v1 4), aD q 16 (fun _ => 0)), (af, aF q 6 (fun _ => none))] H := hP
  have hD : va_D A [(o3, .inr (3, [.ref o1, .ref af, .int 0])), (o1, .inr (1, [.ref (v1 0), .ref (v1 1), .ref (v1 2), .ref (v1 3), .ref (v1 4), .double 0, .int 0])), ((v1 0), aI q 8 (fun _ => 0)), ((v1 1), aD q 8 (fun _ => FP.i2d 0)), ((v1 2), aD q 16 (fun _ => FP.i2d 0)), ((v1 3), aD q 16 (fun _ => FP.i2d 0)), ((v1 4), aD q 16 (fun _ => 0)), (af, aF q 6 (fun _ => none))] := hD
  refine lv_aload_n hx hb dX3_init_24 rfl (lv_at hl 0 rfl) ?_
  refine lv_iconst (v := 0) hx hb dX3_init_25 (by decide) ?_
  refine va_put (D := G) (ci := 3) (v := .int 0) (ty := .int) (C := RX3) (T := TX3) (N := 3) hx hb hts in_X3_init_X3 tyX3 tyX3_ok nmX3 hown hK hP hD hS 0 rfl rfl 2 (by decide) (hts (.fieldLink RX3 22 "EchoBench" "filterCount" "I") (by decide +kernel)) (fun _ h9 => h9) rfl (by decide +kernel) rfl rfl (Nat.le_of_ble_eq_true rfl) dX3_init_26 (fun H locs hP hD hS => ?_)
  have hP : va_P G vwCl [(o3, .inr (3, [.ref o1, .ref af, .int 0])), (o1, .inr (1, [.ref (v1 0), .ref (v1 1), .ref (v1 2), .ref (v1 3), .ref (v1 4), .double 0, .int 0])), ((v1 0), aI q 8 (fun _ => 0)), ((v1 1), aD q 8 (fun _ => FP.i2d 0)), ((v1 2), aD q 16 (fun _ => FP.i2d 0)), ((v1 3), aD q 16 (fun _ => FP.i2d 0)), ((v1 4), aD q 16 (fun _ => 0)), (af, aF q 6 (fun _ => none))] H := hP
  have hD : va_D A [(o3, .inr (3, [.ref o1, .ref af, .int 0])), (o1, .inr (1, [.ref (v1 0), .ref (v1 1), .ref (v1 2), .ref (v1 3), .ref (v1 4), .double 0, .int 0])), ((v1 0), aI q 8 (fun _ => 0)), ((v1 1), aD q 8 (fun _ => FP.i2d 0)), ((v1 2), aD q 16 (fun _ => FP.i2d 0)), ((v1 3), aD q 16 (fun _ => FP.i2d 0)), ((v1 4), aD q 16 (fun _ => 0)), (af, aF q 6 (fun _ => none))] := hD
  have hP := hP.sub (ws' := [(o3, .inr (3, [.ref o1, .ref af, .int 0])), (af, aF q 6 (fun _ => none)), (o1, .inr (1, [.ref (v1 0), .ref (v1 1), .ref (v1 2), .ref (v1 3), .ref (v1 4), .double 0, .int 0])), ((v1 0), aI q 8 (fun _ => 0)), ((v1 1), aD q 8 (fun _ => FP.i2d 0)), ((v1 2), aD q 16 (fun _ => FP.i2d 0)), ((v1 3), aD q 16 (fun _ => FP.i2d 0)), ((v1 4), aD q 16 (fun _ => 0))]) [0, 7, 1, 2, 3, 4, 5, 6] rfl
  have hD := hD.sub (ws' := [(o3, .inr (3, [.ref o1, .ref af, .int 0])), (af, aF q 6 (fun _ => none)), (o1, .inr (1, [.ref (v1 0), .ref (v1 1), .ref (v1 2), .ref (v1 3), .ref (v1 4), .double 0, .int 0])), ((v1 0), aI q 8 (fun _ => 0)), ((v1 1), aD q 8 (fun _ => FP.i2d 0)), ((v1 2), aD q 16 (fun _ => FP.i2d 0)), ((v1 3), aD q 16 (fun _ => FP.i2d 0)), ((v1 4), aD q 16 (fun _ => 0))]) [0, 7, 1, 2, 3, 4, 5, 6] (by decide) rfl
  have hP9 := hP
  have hD9 := hD
  exact W.vret hx hb hr (fun t ht hW => ⟨⟨(fun k => [o1, v1 0, v1 1, v1 2, v1 3, v1 4, af].getD k 0), rfl, trivial, by rw [ht]; exact hP9, hD9⟩, hS.F ht⟩) hS.2.2 dX3_init_29
