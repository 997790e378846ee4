theorem va_aldFJ {p : Program} {l : Launch} {e : Env} {R : Room} {s : State} {m : MethodId} {args : Array Value} {below : List Frame} {meth : Method} {c : Code} {H : Heap} {locs : List Loc} {cells slots : Nat} {Q : State → Prop} {cc : ByteArray} {pc : Nat} {ls : Array Slot} {rest : List Value} {D : va_G} {cl : List vw_C} {a : Nat} {tys : List (ClassId × FieldType)} {ws : va_W}
    (hexec : p.tables.exec = Jvm.exec) (hb : c.code = cc) (hK : va_K D cl tys s) (hP : va_P D cl ws H) (q0 t0 : Nat) {cA : ClassId} {C : String} {n : Nat} {f : Nat → Option Nat} (ha : ws[q0]? = some (a, .inl (cA, n, .inr (.inr (.inr (.inr f)))))) (ht : tys[t0]? = some (cA, .object C)) {i : Int32} {j v : Nat} (hi : i = nI j) (hj : j < n) (hn : n < 2147483648) (hv : f j = some v) (hdg : decode cc pc = .ok (.aaload, 1))
    (kk : W p l e R s m args below meth c H locs cells slots Q (F0 m (pc + 1) ls (.ref v :: rest))) : W p l e R s m args below meth c H locs cells slots Q (F0 m pc ls (.int i :: .ref a :: rest)) :=
  va_aldqJ hexec hb hK hP q0 t0 ha ht hi hj hn hdg (by rw [hv]; exact kk)

theorem in_X3_numbered_X3 : ∀ w ∈ wsX30, w ∈ wsX3_numbered := by decide +kernel
set_option maxHeartbeats 4000000 in
set_option maxRecDepth 100000 in
/-- numbered -/
theorem m_X3_numbered (l : Launch) (G : va_G) (q : Nat → ClassId) (sz : Nat) (o3 o1 af nf : Nat) (oa : Nat → Nat) (fx : Nat) (hnf : nf ≤ 6) (hfx : fx < nf) : Met l yX3_numbered wsX3_numbered ({ frames := 0, cells := 0, slots := 0, locals := 0 } : Jvm.Room) (PreW G q [.ref o3, .int (nI fx)] [(o3, .inr (3, [.ref o1, .ref af, .int (nI nf)])), (af, aF q 6 (fun j => if j < nf then some (oa j) else none))] sz) (va_Qq (fun (r : Option Nat) (_ : Unit) => r = some (oa fx)) (fun (_ : Unit) t => EndA G (va_A [(o3, .inr (3, [.ref o1, .ref af, .int (nI nf)])), (af, aF q 6 (fun j => if j < nf then some (oa j) else none))] sz) [(o3, .inr (3, [.ref o1, .ref af, .int (nI nf)])), (af, aF q 6 (fun j => if j < nf then some (oa j) else none))] t) (va_A [(o3, .inr (3, [.ref o1, .ref af, .int (nI nf)])), (af, aF q 6 (fun j => if j < nf then some (oa j) else none))] sz)) 0 0 (va_A [(o3, .inr (3, [.ref o1, .ref af, .int (nI nf)])), (af, aF q 6 (fun j => if j < nf then some (oa j) else none))] sz) := by
  refine Met.ofW (cc := cX3_numbered) (maxL := 2) (ret := (some (.object "EchoBench$Filter"))) (by decide +kernel) rfl ?_
  intro p e s m args below meth c s₁ B hml hv
  obtain ⟨rfl, hsz, hP, hK, hD0, hNF⟩ := hv
  have hx := B.exec
  have hb := B.bytes
  have hr := B.returns
  have hts := atoms_spec (ws := wsX3_numbered) B.pre
  have hown : s.vm.findClass RX3 = some m.cls := findClass_of_methodNamed B.named
  have hlocks := B.notSynchronized
  subst hsz
  have hD := hD0.self (sz := s.heap.size)
  generalize hAe : va_A [(o3, .inr (3, [.ref o1, .ref af, .int (nI nf)])), (af, aF q 6 (fun j => if j < nf then some (oa j) else none))] s.heap.size = A at hD ⊢
  have hA : ∀ q : Nat, s.heap.size ≤ q → A q := fun q h => by rw [← hAe]; exact Or.inr h
  have hS : va_S A s.heap s.heap [] := va_S.rf
  have hP : va_P G vwCl [(o3, .inr (3, [.ref o1, .ref af, .int (nI nf)])), (af, aF q 6 (fun j => if j < nf then some (oa j) else none))] s.heap := hP
  have hl := lv_entry ([.ref o3, .int (nI fx)]) (n := 2) (Nat.le_of_ble_eq_true rfl)
  rw [lg_entry_eq]
  generalize (lg_sl ([.ref o3, .int (nI fx)]) ++ List.replicate (2 - (lg_sl ([.ref o3, .int (nI fx)])).length) Slot.unset).toArray = ls at hl ⊢
  have hl : lv_has ls 2 [(0, .ref o3), (1, .int (nI fx))] := hl
  refine lv_iload_n hx hb dX3_numbered_0 rfl (lv_at hl 1 rfl) ?_
  refine lv_if_lt (tgt := 21) hx hb dX3_numbered_1 (by decide) (fun h => absurd h (Int32.not_lt.mpr (nI_pos' (by omega)))) (fun _ => ?_)
  refine lv_iload_n hx hb dX3_numbered_4 rfl (lv_at hl 1 rfl) ?_
  refine lv_aload_n hx hb dX3_numbered_5 rfl (lv_at hl 0 rfl) ?_
  refine va_get (D := G) (ci := 3) (v := .int (nI nf)) (C := RX3) (T := TX3) (N := 3) hx hb hts in_X3_numbered_X3 hown hK hP 0 rfl rfl 2 (by decide) (hts (.fieldLink RX3 22 "EchoBench" "filterCount" "I") (by decide +kernel)) (fun _ h9 => h9) rfl dX3_numbered_6 ?_
  refine lv_icmp_ge (tgt := 21) hx hb dX3_numbered_9 (by decide) (fun h => absurd h (nI_ge hfx (by omega))) (fun _ => ?_)
  refine lv_iload_n hx hb dX3_numbered_12 rfl (lv_at hl 1 rfl) ?_
  refine lv_aload_n hx hb dX3_numbered_13 rfl (lv_at hl 0 rfl) ?_
  refine va_get (D := G) (ci := 3) (v := .ref af) (C := RX3) (T := TX3) (N := 3) hx hb hts in_X3_numbered_X3 hown hK hP 0 rfl rfl 1 (by decide) (hts (.fieldLink RX3 18 "EchoBench" "filters" "[LEchoBench$Filter;") (by decide +kernel)) (fun _ h9 => h9) rfl dX3_numbered_14 ?_
  refine va_alen (D := G) hx hb hK hP 1 3 rfl rfl (v := 6) rfl dX3_numbered_17 ?_
  refine lv_icmp_lt (tgt := 25) hx hb dX3_numbered_18 (by decide) (fun _ => ?_) (fun h => absurd (nI_lt (b := 6) (by omega) (by decide)) h)
  refine lv_aload_n hx hb dX3_numbered_25 rfl (lv_at hl 0 rfl) ?_
  refine va_get (D := G) (ci := 3) (v := .ref af) (C := RX3) (T := TX3) (N := 3) hx hb hts in_X3_numbered_X3 hown hK hP 0 rfl rfl 1 (by decide) (hts (.fieldLink RX3 18 "EchoBench" "filters" "[LEchoBench$Filter;") (by decide +kernel)) (fun _ h9 => h9) rfl dX3_numbered_26 ?_
  refine lv_iload_n hx hb dX3_numbered_29 rfl (lv_at hl 1 rfl) ?_
  refine va_aldFJ hx hb hK hP 1 3 rfl rfl (j := fx) rfl (by omega) (by decide) (if_pos hfx) dX3_numbered_30 ?_
  have hP9 := hP
  have hD9 := hD
  exact W.aret (v := va_rf (some (oa fx))) hx hb hr (Or.inl ⟨_, rfl⟩) (va_rf_or _) (fun t ht hW => ⟨⟨(some (oa fx)), (), rfl, rfl, by rw [ht]; exact hP9, hD9⟩, hS.F ht⟩) hS.2.2 dX3_numbered_31

set_option maxHeartbeats 4000000 in
set_option maxRecDepth 100000 in
/-- numbered, of no filter -/
theorem m_X3_numbered_no (l : Launch) (G : va_G) (q : Nat → ClassId) (sz : Nat) (o3 o1 af nf : Nat) (oa : Nat → Nat) (f : Int32) (hnf : nf ≤ 6) (hc : ¬ isF f (nI nf)) : Met l yX3_numbered wsX3_numbered ({ frames := 0, cells := 0, slots := 0, locals := 0 } : Jvm.Room) (PreW G q [.ref o3, .int f] [(o3, .inr (3, [.ref o1, .ref af, .int (nI nf)])), (af, aF q 6 (fun j => if j < nf then some (oa j) else none))] sz) (va_Qq (fun (r : Option Nat) (_ : Unit) => r = none) (fun (_ : Unit) t => EndA G (va_A [(o3, .inr (3, [.ref o1, .ref af, .int (nI nf)])), (af, aF q 6 (fun j => if j < nf then some (oa j) else none))] sz) [(o3, .inr (3, [.ref o1, .ref af, .int (nI nf)])), (af, aF q 6 (fun j => if j < nf then some (oa j) else none))] t) (va_A [(o3, .inr (3, [.ref o1, .ref af, .int (nI nf)])), (af, aF q 6 (fun j => if j < nf then some (oa j) else none))] sz)) 0 0 (va_A [(o3, .inr (3, [.ref o1, .ref af, .int (nI nf)])), (af, aF q 6 (fun j => if j < nf then some (oa j) else none))] sz) := by
  refine Met.ofW (cc := cX3_numbered) (maxL := 2) (ret := (some (.object "EchoBench$Filter"))) (by decide +kernel) rfl ?_
  intro p e s m args below meth c s₁ B hml hv
  obtain ⟨rfl, hsz, hP, hK, hD0, hNF⟩ := hv
  have hx := B.exec
  have hb := B.bytes
  have hr := B.returns
  have hts := atoms_spec (ws := wsX3_numbered) B.pre
  have hown : s.vm.findClass RX3 = some m.cls := findClass_of_methodNamed B.named
  have hlocks := B.notSynchronized
  subst hsz
  have hD := hD0.self (sz := s.heap.size)
  generalize hAe : va_A [(o3, .inr (3, [.ref o1, .ref af, .int (nI nf)])), (af, aF q 6 (fun j => if j < nf then some (oa j) else none))] s.heap.size = A at hD ⊢
  have hA : ∀ q : Nat, s.heap.size ≤ q → A q := fun q h => by rw [← hAe]; exact Or.inr h
  have hS : va_S A s.heap s.heap [] := va_S.rf
  have hP : va_P G vwCl [(o3, .inr (3, [.ref o1, .ref af, .int (nI nf)])), (af, aF q 6 (fun j => if j < nf then some (oa j) else none))] s.heap := hP
  have hl := lv_entry ([.ref o3, .int f]) (n := 2) (Nat.le_of_ble_eq_true rfl)
  rw [lg_entry_eq]
  generalize (lg_sl ([.ref o3, .int f]) ++ List.replicate (2 - (lg_sl ([.ref o3, .int f])).length) Slot.unset).toArray = ls at hl ⊢
  have hl : lv_has ls 2 [(0, .ref o3), (1, .int f)] := hl
  refine lv_iload_n hx hb dX3_numbered_0 rfl (lv_at hl 1 rfl) ?_
  refine lv_if_lt (tgt := 21) hx hb dX3_numbered_1 (by decide) (fun c1 => ?_) (fun c1 => ?_)
  · skip
    refine lv_null hx hb dX3_numbered_21 ?_
    refine lv_goto (tgt := 31) hx hb dX3_numbered_22 (by decide) ?_
    have hP9 := hP
    have hD9 := hD
    exact W.aret (v := va_rf none) hx hb hr (Or.inl ⟨_, rfl⟩) (va_rf_or _) (fun t ht hW => ⟨⟨none, (), rfl, rfl, by rw [ht]; exact hP9, hD9⟩, hS.F ht⟩) hS.2.2 dX3_numbered_31
  · skip
    have c1 : 0 ≤ f := Int32.not_lt.mp c1
    refine lv_iload_n hx hb dX3_numbered_4 rfl (lv_at hl 1 rfl) ?_
    refine lv_aload_n hx hb dX3_numbered_5 rfl (lv_at hl 0 rfl) ?_
    refine va_get (D := G) (ci := 3) (v := .int (nI nf)) (C := RX3) (T := TX3) (N := 3) hx hb hts in_X3_numbered_X3 hown hK hP 0 rfl rfl 2 (by decide) (hts (.fieldLink RX3 22 "EchoBench" "filterCount" "I") (by decide +kernel)) (fun _ h9 => h9) rfl dX3_numbered_6 ?_
    refine lv_icmp_ge (tgt := 21) hx hb dX3_numbered_9 (by decide) (fun c2 => ?_) (fun c2 => ?_)
    · skip
      refine lv_null hx hb dX3_numbered_21 ?_
      refine lv_goto (tgt := 31) hx hb dX3_numbered_22 (by decide) ?_
      have hP9 := hP
      have hD9 := hD
      exact W.aret (v := va_rf none) hx hb hr (Or.inl ⟨_, rfl⟩) (va_rf_or _) (fun t ht hW => ⟨⟨none, (), rfl, rfl, by rw [ht]; exact hP9, hD9⟩, hS.F ht⟩) hS.2.2 dX3_numbered_31
    · skip
      obtain ⟨j, hj, rfl⟩ := nI_of (Int32.not_lt.mpr c1)
      exact absurd (m1_in (by omega) ((nI_ltI hj (by omega)).mp (Int32.not_le.mp c2))) hc

set_option maxHeartbeats 4000000 in
set_option maxRecDepth 100000 in
/-- isStepOf -/
theorem m_X3_isStepOf (l : Launch) (G : va_G) (q : Nat → ClassId) (sz : Nat) (kd st : Int32)  : Met l yX3_isStepOf wsX3_isStepOf ({ frames := 1, cells := 0, slots := 0, locals := 22 } : Jvm.Room) (PreW G q [.int kd, .int st] [] sz) (va_Qi (fun (r : Int32) (_ : Unit) => r = if kd = 3 then (if 500 ≤ st ∧ st ≤ 1000 then 1 else 0) else (if 1 ≤ st ∧ st ≤ 2000 then 1 else 0)) (fun (_ : Unit) t => EndA G (va_A [] sz) [] t) (va_A [] sz)) 0 0 (va_A [] sz) := by
  refine Met.ofW (cc := cX3_isStepOf) (maxL := 2) (ret := (some .boolean)) (by decide +kernel) rfl ?_
  intro p e s m args below meth c s₁ B hml hv
  obtain ⟨rfl, hsz, hP, hK, hD0, hNF⟩ := hv
  have hx := B.exec
  have hb := B.bytes
  have hr := B.returns
  have hts := atoms_spec (ws := wsX3_isStepOf) B.pre
  have hown : s.vm.findClass RX3 = some m.cls := findClass_of_methodNamed B.named
  have hlocks := B.notSynchronized
  subst hsz
  have hD := hD0.self (sz := s.heap.size)
  generalize hAe : va_A [] s.heap.size = A at hD ⊢
  have hA : ∀ q : Nat, s.heap.size ≤ q → A q := fun q h => by rw [← hAe]; exact Or.inr h
  have hS : va_S A s.heap s.heap [] := va_S.rf
  have hP : va_P G vwCl [] s.heap := hP
  have hl := lv_entry ([.int kd, .int st]) (n := 2) (Nat.le_of_ble_eq_true rfl)
  rw [lg_entry_eq]
  generalize (lg_sl ([.int kd, .int st]) ++ List.replicate (2 - (lg_sl ([.int kd, .int st])).length) Slot.unset).toArray = ls at hl ⊢
  have hl : lv_has ls 2 [(0, .int kd), (1, .int st)] := hl
  refine lv_iload_n hx hb dX3_isStepOf_0 rfl (lv_at hl 0 rfl) ?_
  refine lv_iconst (v := 3) hx hb dX3_isStepOf_1 (by decide) ?_
  refine lv_icmp_ne (tgt := 18) hx hb dX3_isStepOf_2 (by decide) (fun c1 => ?_) (fun c1 => ?_)
  · skip
    refine lv_iload_n hx hb dX3_isStepOf_18 rfl (lv_at hl 1 rfl) ?_
    refine lv_iconst (v := 1) hx hb dX3_isStepOf_19 (by decide) ?_
    refine lv_sipush (v := 2000) hx hb dX3_isStepOf_20 (by decide) ?_
    have hPc := hP.sub (ws' := []) [] rfl
    have hDc := hD.sub (ws' := []) [] (by decide) rfl
    have hFc := va_free (wc := []) hD hS hA [] rfl
    refine va_calli (va_runS (As := [.int st, .int 1, .int 2000]) (rest := []) ⟨hx, hb, hml, hown, hts⟩ (m_X3_isWithin l G q s.heap.size st 1 2000) (va_cwS 3 hts gX3_isStepOf_X3_isWithin rfl rfl rfl (by decide +kernel) ⟨Nat.le_of_ble_eq_true rfl, Nat.le_of_ble_eq_true rfl⟩) ⟨preW_blind, preW_start hPc hK hDc hNF⟩ rfl rfl hl.1 rfl (lv_room (Nat.le_of_ble_eq_true rfl)) dX3_isStepOf_23 ⟨(Nat.zero_le _), (Nat.zero_le _)⟩) hS (fun q _ h => hFc q h) hFc (fun ri u9 t9 H1 locs ht9 hv9 hw hB9 hz9 hk9 hS => ?_)
    obtain ⟨⟩ := u9
    obtain ⟨hP1, hD1⟩ := hB9
    rw [ht9] at hP1
    obtain ⟨hP, hD⟩ := va_join (wr := []) (w1 := []) hP hD [] [] rfl rfl (by decide) (by decide) hk9 hFc hP1 hD1
    generalize H1 = H at hP hS ⊢
    have hP : va_P G vwCl [] H := hP
    have hD : va_D A [] := hD
    have hP9 := hP
    have hD9 := hD
    exact W.zret (v := ri) hx hb hr (nar_b hw) (fun t ht hW => ⟨⟨ri, (), rfl, hw.trans (if_neg c1).symm, by rw [ht]; exact hP9, hD9⟩, hS.F ht⟩) hS.2.2 dX3_isStepOf_26
  · skip
    refine lv_iload_n hx hb dX3_isStepOf_5 rfl (lv_at hl 1 rfl) ?_
    refine lv_sipush (v := 500) hx hb dX3_isStepOf_6 (by decide) ?_
    refine lv_sipush (v := 1000) hx hb dX3_isStepOf_9 (by decide) ?_
    have hPc := hP.sub (ws' := []) [] rfl
    have hDc := hD.sub (ws' := []) [] (by decide) rfl
    have hFc := va_free (wc := []) hD hS hA [] rfl
    refine va_calli (va_runS (As := [.int st, .int 500, .int 1000]) (rest := []) ⟨hx, hb, hml, hown, hts⟩ (m_X3_isWithin l G q s.heap.size st 500 1000) (va_cwS 3 hts gX3_isStepOf_X3_isWithin rfl rfl rfl (by decide +kernel) ⟨Nat.le_of_ble_eq_true rfl, Nat.le_of_ble_eq_true rfl⟩) ⟨preW_blind, preW_start hPc hK hDc hNF⟩ rfl rfl hl.1 rfl (lv_room (Nat.le_of_ble_eq_true rfl)) dX3_isStepOf_12 ⟨(Nat.zero_le _), (Nat.zero_le _)⟩) hS (fun q _ h => hFc q h) hFc (fun ri u9 t9 H1 locs ht9 hv9 hw hB9 hz9 hk9 hS => ?_)
    obtain ⟨⟩ := u9
    obtain ⟨hP1, hD1⟩ := hB9
    rw [ht9] at hP1
    obtain ⟨hP, hD⟩ := va_join (wr := []) (w1 := []) hP hD [] [] rfl rfl (by decide) (by decide) hk9 hFc hP1 hD1
    generalize H1 = H at hP hS ⊢
    have hP : va_P G vwCl [] H := hP
    have hD : va_D A [] := hD
    refine lv_goto (tgt := 26) hx hb dX3_isStepOf_15 (by decide) ?_
    have hP9 := hP
    have hD9 := hD
    exact W.zret (v := ri) hx hb hr (nar_b hw) (fun t ht hW => ⟨⟨ri, (), rfl, hw.trans (if_pos c1).symm, by rw [ht]; exact hP9, hD9⟩, hS.F ht⟩) hS.2.2 dX3_isStepOf_26

theorem in_X3_path_X3 : ∀ w ∈ wsX30, w ∈ wsX3_path := by decide +kernel
set_option maxHeartbeats 4000000 in
set_option maxRecDepth 100000 in
/-- path: where it returns -/
theorem m_X3_path (l : Launch) (G : va_G) (q : Nat → ClassId) (sz : Nat) (o3 o1 af nf a1 ax b0 b1 b2 tk : Nat) (mi : UInt64) (j : Nat) (xh : Int32) (pa : Nat → Int32) (hj : j < 8) (hh : -1000 ≤ xh ∧ xh ≤ 1000) : Met l yX3_path wsX3_path ({ frames := 1, cells := 0, slots := 0, locals := 23 } : Jvm.Room) (PreW G q [.ref o3, .int (nI j), .int xh] [(o3, .inr (3, [.ref o1, .ref af, .int (nI nf)])), (o1, .inr (1, [.ref a1, .ref ax, .ref b0, .ref b1, .ref b2, .double mi, .int (nI tk)])), (a1, aI q 8 pa)] sz) (va_Qi (fun (r : Int32) (_ : Unit) => r = pa j) (fun (_ : Unit) t => EndA G (va_A [(o3, .inr (3, [.ref o1, .ref af, .int (nI nf)])), (o1, .inr (1, [.ref a1, .ref ax, .ref b0, .ref b1, .ref b2, .double mi, .int (nI tk)])), (a1, aI q 8 pa)] sz) [(o3, .inr (3, [.ref o1, .ref af, .int (nI nf)])), (o1, .inr (1, [.ref a1, .ref ax, .ref b0, .ref b1, .ref b2, .double mi, .int (nI tk)])), (a1, aI q 8 (vf_upd pa j xh))] t) (va_A [(o3, .inr (3, [.ref o1, .ref af, .int (nI nf)])), (o1, .inr (1, [.ref a1, .ref ax, .ref b0, .ref b1, .ref b2, .double mi, .int (nI tk)])), (a1, aI q 8 pa)] sz)) 0 0 (va_A [(o3, .inr (3, [.ref o1, .ref af, .int (nI nf)])), (o1, .inr (1, [.ref a1, .ref ax, .ref b0, .ref b1, .ref b2, .double mi, .int (nI tk)])), (a1, aI q 8 pa)] sz) := by
  refine Met.ofW (cc := cX3_path) (maxL := 3) (ret := (some .int)) (by decide +kernel) rfl ?_
  intro p e s m args below meth c s₁ B hml hv
  obtain ⟨rfl, hsz, hP, hK, hD0, hNF⟩ := hv
  have hx := B.exec
  have hb := B.bytes
  have hr := B.returns
  have hts := atoms_spec (ws := wsX3_path) B.pre
  have hown : s.vm.findClass RX3 = some m.cls := findClass_of_methodNamed B.named
  have hlocks := B.notSynchronized
  subst hsz
  have hD := hD0.self (sz := s.heap.size)
  generalize hAe : va_A [(o3, .inr (3, [.ref o1, .ref af, .int (nI nf)])), (o1, .inr (1, [.ref a1, .ref ax, .ref b0, .ref b1, .ref b2, .double mi, .int (nI tk)])), (a1, aI q 8 pa)] s.heap.size = A at hD ⊢
  have hA : ∀ q : Nat, s.heap.size ≤ q → A q := fun q h => by rw [← hAe]; exact Or.inr h
  have hS : va_S A s.heap s.heap [] := va_S.rf
  have hP : va_P G vwCl [(o3, .inr (3, [.ref o1, .ref af, .int (nI nf)])), (o1, .inr (1, [.ref a1, .ref ax, .ref b0, .ref b1, .ref b2, .double mi, .int (nI tk)])), (a1, aI q 8 pa)] s.heap := hP
  have hl := lv_entry ([.ref o3, .int (nI j), .int xh]) (n := 3) (Nat.le_of_ble_eq_true rfl)
  rw [lg_entry_eq]
  generalize (lg_sl ([.ref o3, .int (nI j), .int xh]) ++ List.replicate (3 - (lg_sl ([.ref o3, .int (nI j), .int xh])).length) Slot.unset).toArray = ls at hl ⊢
  have hl : lv_has ls 3 [(0, .ref o3), (1, .int (nI j)), (2, .int xh)] := hl
  refine lv_iload_n hx hb dX3_path_0 rfl (lv_at hl 1 rfl) ?_
  refine lv_iconst (v := 0) hx hb dX3_path_1 (by decide) ?_
  refine lv_bipush (v := 7) hx hb dX3_path_2 (by decide) ?_
  have hPc := hP.sub (ws' := []) [] rfl
  have hDc := hD.sub (ws' := []) [] (by decide) rfl
  have hFc := va_free (wc := []) hD hS hA [] rfl
  refine va_calli (va_runS (As := [.int (nI j), .int 0, .int 7]) (rest := []) ⟨hx, hb, hml, hown, hts⟩ (m_X3_isWithin l G q s.heap.size (nI j) 0 7) (va_cwS 3 hts gX3_path_X3_isWithin rfl rfl rfl (by decide +kernel) ⟨Nat.le_of_ble_eq_true rfl, Nat.le_of_ble_eq_true rfl⟩) ⟨preW_blind, preW_start hPc hK hDc hNF⟩ rfl rfl hl.1 rfl (lv_room (Nat.le_of_ble_eq_true rfl)) dX3_path_4 ⟨(Nat.zero_le _), (Nat.zero_le _)⟩) hS (fun q _ h => hFc q h) hFc (fun ri1 u9 t9 H1 locs ht9 hv9 hw hB9 hz9 hk9 hS => ?_)
  obtain ⟨⟩ := u9
  obtain ⟨hP1, hD1⟩ := hB9
  rw [ht9] at hP1
  obtain ⟨hP, hD⟩ := va_join (wr := [(o3, .inr (3, [.ref o1, .ref af, .int (nI nf)])), (o1, .inr (1, [.ref a1, .ref ax, .ref b0, .ref b1, .ref b2, .double mi, .int (nI tk)])), (a1, aI q 8 pa)]) (w1 := []) hP hD [] [0, 1, 2] rfl rfl (by decide) (by decide) hk9 hFc hP1 hD1
  generalize H1 = H at hP hS ⊢
  have hP : va_P G vwCl [(o3, .inr (3, [.ref o1, .ref af, .int (nI nf)])), (o1, .inr (1, [.ref a1, .ref ax, .ref b0, .ref b1, .ref b2, .double mi, .int (nI tk)])), (a1, aI q 8 pa)] H := hP
  have hD : va_D A [(o3, .inr (3, [.ref o1, .ref af, .int (nI nf)])), (o1, .inr (1, [.ref a1, .ref ax, .ref b0, .ref b1, .ref b2, .double mi, .int (nI tk)])), (a1, aI q 8 pa)] := hD
  obtain rfl : ri1 = 1 := hw.trans (if_pos (in_b (b := 7) (by decide) (by omega)))
  refine lv_if_ne (tgt := 20) hx hb dX3_path_7 (by decide) (fun _ => ?_) (fun h => absurd h (by decide))
  refine lv_iload_n hx hb dX3_path_20 rfl (lv_at hl 2 rfl) ?_
  refine lv_sipush (v := (-1000)) hx hb dX3_path_21 (by decide) ?_
  refine lv_sipush (v := 1000) hx hb dX3_path_24 (by decide) ?_
  have hPc := hP.sub (ws' := []) [] rfl
  have hDc := hD.sub (ws' := []) [] (by decide) rfl
  have hFc := va_free (wc := []) hD hS hA [] rfl
  refine va_calli (va_runS (As := [.int xh, .int (-1000), .int 1000]) (rest := []) ⟨hx, hb, hml, hown, hts⟩ (m_X3_isWithin l G q H.size xh (-1000) 1000) (va_cwS 3 hts gX3_path_X3_isWithin rfl rfl rfl (by decide +kernel) ⟨Nat.le_of_ble_eq_true rfl, Nat.le_of_ble_eq_true rfl⟩) ⟨preW_blind, preW_start hPc hK hDc hNF⟩ rfl rfl hl.1 rfl (lv_room (Nat.le_of_ble_eq_true rfl)) dX3_path_27 ⟨(Nat.zero_le _), (Nat.zero_le _)⟩) hS (fun q _ h => hFc q h) hFc (fun ri4 u9 t9 H1 locs ht9 hv9 hw hB9 hz9 hk9 hS => ?_)
  obtain ⟨⟩ := u9
  obtain ⟨hP1, hD1⟩ := hB9
  rw [ht9] at hP1
  obtain ⟨hP, hD⟩ := va_join (wr := [(o3, .inr (3, [.ref o1, .ref af, .int (nI nf)])), (o1, .inr (1, [.ref a1, .ref ax, .ref b0, .ref b1, .ref b2, .double mi, .int (nI tk)])), (a1, aI q 8 pa)]) (w1 := []) hP hD [] [0, 1, 2] rfl rfl (by decide) (by decide) hk9 hFc hP1 hD1
  generalize H1 = H at hP hS ⊢
  have hP : va_P G vwCl [(o3, .inr (3, [.ref o1, .ref af, .int (nI nf)])), (o1, .inr (1, [.ref a1, .ref ax, .ref b0, .ref b1, .ref b2, .double mi, .int (nI tk)])), (a1, aI q 8 pa)] H := hP
  have hD : va_D A [(o3, .inr (3, [.ref o1, .ref af, .int (nI nf)])), (o1, .inr (1, [.ref a1, .ref ax, .ref b0, .ref b1, .ref b2, .double mi, .int (nI tk)])), (a1, aI q 8 pa)] := hD
  obtain rfl : ri4 = 1 := hw.trans (if_pos hh)
  refine lv_if_ne (tgt := 43) hx hb dX3_path_30 (by decide) (fun _ => ?_) (fun h => absurd h (by decide))
  refine lv_aload_n hx hb dX3_path_43 rfl (lv_at hl 0 rfl) ?_
  refine va_get (D := G) (ci := 3) (v := .ref o1) (C := RX3) (T := TX3) (N := 3) hx hb hts in_X3_path_X3 hown hK hP 0 rfl rfl 0 (by decide) (hts (.fieldLink RX3 10 "EchoBench" "samples" "LEchoBench$Samples;") (by decide +kernel)) (fun _ h9 => h9) rfl dX3_path_44 ?_
  refine lv_iload_n hx hb dX3_path_47 rfl (lv_at hl 1 rfl) ?_
  refine lv_iload_n hx hb dX3_path_48 rfl (lv_at hl 2 rfl) ?_
  have hPc := hP.sub (ws' := [(o1, .inr (1, [.ref a1, .ref ax, .ref b0, .ref b1, .ref b2, .double mi, .int (nI tk)])), (a1, aI q 8 pa)]) [1, 2] rfl
  have hDc := hD.sub (ws' := [(o1, .inr (1, [.ref a1, .ref ax, .ref b0, .ref b1, .ref b2, .double mi, .int (nI tk)])), (a1, aI q 8 pa)]) [1, 2] (by decide) rfl
  have hFc := va_free (wc := [(o1, .inr (1, [.ref a1, .ref ax, .ref b0, .ref b1, .ref b2, .double mi, .int (nI tk)])), (a1, aI q 8 pa)]) hD hS hA [1, 2] rfl
  refine va_calli (va_runVN (As := [.int (nI j), .int xh]) (rest := []) ⟨hx, hb, hml, hown, hts⟩ (m_X1_tellPath l G q H.size o1 a1 ax b0 b1 b2 tk j mi pa xh hj) ⟨va_cnB 2 hts gX3_path_X1_tellPath_n42 rfl rfl rfl (hNF.1 (.methodLinkNest RX3 42 yX1_tellPath "EchoBench") (by decide +kernel)) (hts (.initialized RX1) (by decide +kernel)) (by decide +kernel) ⟨Nat.le_of_ble_eq_true rfl, Nat.le_of_ble_eq_true rfl⟩, (hts (.instanceMethod yX1_tellPath) (by decide +kernel)), (hts (.selects RX1 yX1_tellPath yX1_tellPath) (by decide +kernel))⟩ ⟨preW_blind, (va_recv hK hPc (ci := 1) (q0 := 0) rfl rfl), preW_start hPc hK hDc hNF⟩ rfl rfl hl.1 rfl (lv_room (Nat.le_of_ble_eq_true rfl)) dX3_path_49 ⟨(Nat.zero_le _), (Nat.zero_le _)⟩) hS (fun q _ h => hFc q h) hFc (fun r1 u9 t9 H1 locs ht9 hv9 hw hB9 hz9 hk9 hS => ?_)
  obtain ⟨⟩ := u9
  obtain ⟨hP1, hD1⟩ := hB9
  rw [ht9] at hP1
  obtain ⟨hP, hD⟩ := va_join (wr := [(o3, .inr (3, [.ref o1, .ref af, .int (nI nf)]))]) (w1 := [(o1, .inr (1, [.ref a1, .ref ax, .ref b0, .ref b1, .ref b2, .double mi, .int (nI tk)])), (a1, aI q 8 (vf_upd pa j xh))]) hP hD [1, 2] [0] rfl rfl (by decide) (by decide) hk9 hFc hP1 hD1
  generalize H1 = H at hP hS ⊢
  have hP : va_P G vwCl [(o3, .inr (3, [.ref o1, .ref af, .int (nI nf)])), (o1, .inr (1, [.ref a1, .ref ax, .ref b0, .ref b1, .ref b2, .double mi, .int (nI tk)])), (a1, aI q 8 (vf_upd pa j xh))] H := hP
  have hD : va_D A [(o3, .inr (3, [.ref o1, .ref af, .int (nI nf)])), (o1, .inr (1, [.ref a1, .ref ax, .ref b0, .ref b1, .ref b2, .double mi, .int (nI tk)])), (a1, aI q 8 (vf_upd pa j xh))] := hD
  have hr1 := hw
  have hP9 := hP
  have hD9 := hD
  exact W.iret (v := r1) hx hb hr (fun t ht hW => ⟨⟨r1, (), rfl, hr1, by rw [ht]; exact hP9, hD9⟩, hS.F ht⟩) hS.2.2 dX3_path_52

theorem in_X3_step_X0 : ∀ w ∈ wsX00, w ∈ wsX3_step := by decide +kernel
set_option maxHeartbeats 4000000 in
set_option maxRecDepth 100000 in
/-- step: where it returns -/
theorem m_X3_step (l : Launch) (G : va_G) (q : Nat → ClassId) (sz : Nat) (o3 o1 af nf : Nat) (oa : Nat → Nat) (fx n aw ae : Nat) (sq : Value) (kd th wa ta lf ce cd rs : Int32) (ou er : UInt64) (xt : Int32) (hnf : nf ≤ 6) (hfx : fx < nf) (hs : stpB kd xt) : Met l yX3_step wsX3_step ({ frames := 2, cells := 0, slots := 0, locals := 43 } : Jvm.Room) (PreW G q [.ref o3, .int (nI fx), .int xt] [(o3, .inr (3, [.ref o1, .ref af, .int (nI nf)])), (af, aF q 6 (fun j => if j < nf then some (oa j) else none)), ((oa fx), .inr (0, [.int kd, .ref aw, .ref ae, sq, .int th, .int wa, .int ta, .int lf, .double ou, .double er, .int ce, .int cd, .int rs]))] sz) (va_Qi (fun (r : Int32) (_ : Unit) => r = th) (fun (_ : Unit) t => EndA G (va_A [(o3, .inr (3, [.ref o1, .ref af, .int (nI nf)])), (af, aF q 6 (fun j => if j < nf then some (oa j) else none)), ((oa fx), .inr (0, [.int kd, .ref aw, .ref ae, sq, .int th, .int wa, .int ta, .int lf, .double ou, .double er, .int ce, .int cd, .int rs]))] sz) [(o3, .inr (3, [.ref o1, .ref af, .int (nI nf)])), (af, aF q 6 (fun j => if j < nf then some (oa j) else none)), ((oa fx), .inr (0, [.int kd, .ref aw, .ref ae, sq, .int xt, .int wa, .int ta, .int lf, .double ou, .double er, .int ce, .int cd, .int rs]))] t) (va_A [(o3, .inr (3, [.ref o1, .ref af, .int (nI nf)])), (af, aF q 6 (fun j => if j < nf then some (oa j) else none)), ((oa fx), .inr (0, [.int kd, .ref aw, .ref ae, sq, .int th, .int wa, .int ta, .int lf, .double ou, .double er, .int ce, .int cd, .int rs]))] sz)) 0 0 (va_A [(o3, .inr (3, [.ref o1, .ref af, .int (nI nf)])), (af, aF q 6 (fun j => if j < nf then some (oa j) else none)), ((oa fx), .inr (0, [.int kd, .ref aw, .ref ae, sq, .int th, .int wa, .int ta, .int lf, .double ou, .double er, .int ce, .int cd, .int rs]))] sz) := by
  refine Met.ofW (cc := cX3_step) (maxL := 5) (ret := (some .int)) (by decide +kernel) rfl ?_
  intro p e s m args below meth c s₁ B hml hv
  obtain ⟨rfl, hsz, hP, hK, hD0, hNF⟩ := hv
  have hx := B.exec
  have hb := B.bytes
  have hr := B.returns
  have hts := atoms_spec (ws := wsX3_step) B.pre
  have hown : s.vm.findClass RX3 = some m.cls := findClass_of_methodNamed B.named
  have hlocks := B.notSynchronized
  subst hsz
  have hD := hD0.self (sz := s.heap.size)
  generalize hAe : va_A [(o3, .inr (3, [.ref o1, .ref af, .int (nI nf)])), (af, aF q 6 (fun j => if j < nf then some (oa j) else none)), ((oa fx), .inr (0, [.int kd, .ref aw, .ref ae, sq, .int th, .int wa, .int ta, .int lf, .double ou, .double er, .int ce, .int cd, .int rs]))] s.heap.size = A at hD ⊢
  have hA : ∀ q : Nat, s.heap.size ≤ q → A q := fun q h => by rw [← hAe]; exact Or.inr h
  have hS : va_S A s.heap s.heap [] := va_S.rf
  have hP : va_P G vwCl [(o3, .inr (3, [.ref o1, .ref af, .int (nI nf)])), (af, aF q 6 (fun j => if j < nf then some (oa j) else none)), ((oa fx), .inr (0, [.int kd, .ref aw, .ref ae, sq, .int th, .int wa, .int ta, .int lf, .double ou, .double er, .int ce, .int cd, .int rs]))] s.heap := hP
  have hl := lv_entry ([.ref o3, .int (nI fx), .int xt]) (n := 5) (Nat.le_of_ble_eq_true rfl)
  rw [lg_entry_eq]
  generalize (lg_sl ([.ref o3, .int (nI fx), .int xt]) ++ List.replicate (5 - (lg_sl ([.ref o3, .int (nI fx), .int xt])).length) Slot.unset).toArray = ls at hl ⊢
  have hl : lv_has ls 5 [(0, .ref o3), (1, .int (nI fx)), (2, .int xt)] := hl
  refine lv_aload_n hx hb dX3_step_0 rfl (lv_at hl 0 rfl) ?_
  refine lv_iload_n hx hb dX3_step_1 rfl (lv_at hl 1 rfl) ?_
  have hPc := hP.sub (ws' := [(o3, .inr (3, [.ref o1, .ref af, .int (nI nf)])), (af, aF q 6 (fun j => if j < nf then some (oa j) else none))]) [0, 1] rfl
  have hDc := hD.sub (ws' := [(o3, .inr (3, [.ref o1, .ref af, .int (nI nf)])), (af, aF q 6 (fun j => if j < nf then some (oa j) else none))]) [0, 1] (by decide) rfl
  have hFc := va_free (wc := [(o3, .inr (3, [.ref o1, .ref af, .int (nI nf)])), (af, aF q 6 (fun j => if j < nf then some (oa j) else none))]) hD hS hA [0, 1] rfl
  refine va_callq (va_runV (As := [.int (nI fx)]) (rest := []) ⟨hx, hb, hml, hown, hts⟩ (m_X3_numbered l G q s.heap.size o3 o1 af nf oa fx hnf hfx) (cwV 1 hts gX3_step_X3_numbered rfl rfl rfl (by decide +kernel) ⟨Nat.le_of_ble_eq_true rfl, Nat.le_of_ble_eq_true rfl⟩) ⟨preW_blind, (va_recv hK hPc (ci := 3) (q0 := 0) rfl rfl), preW_start hPc hK hDc hNF⟩ rfl rfl hl.1 rfl (lv_room (Nat.le_of_ble_eq_true rfl)) dX3_step_2 ⟨(Nat.zero_le _), (Nat.zero_le _)⟩) hS (fun q _ h => hFc q h) hFc (fun fr1 u9 t9 H1 locs ht9 hv9 hw hB9 hz9 hk9 hS => ?_)
  obtain ⟨⟩ := u9
  obtain ⟨hP1, hD1⟩ := hB9
  rw [ht9] at hP1
  obtain ⟨hP, hD⟩ := va_join (wr := [((oa fx), .inr (0, [.int kd, .ref aw, .ref ae, sq, .int th, .int wa, .int ta, .int lf, .double ou, .double er, .int ce, .int cd, .int rs]))]) (w1 := [(o3, .inr (3, [.ref o1, .ref af, .int (nI nf)])), (af, aF q 6 (fun j => if j < nf then some (oa j) else none))]) hP hD [0, 1] [2] rfl rfl (by decide) (by decide) hk9 hFc hP1 hD1
  generalize H1 = H at hP hS ⊢
  have hP : va_P G vwCl [((oa fx), .inr (0, [.int kd, .ref aw, .ref ae, sq, .int th, .int wa, .int ta, .int lf, .double ou, .double er, .int ce, .int cd, .int rs])), (o3, .inr (3, [.ref o1, .ref af, .int (nI nf)])), (af, aF q 6 (fun j => if j < nf then some (oa j) else none))] H := hP
  have hD : va_D A [((oa fx), .inr (0, [.int kd, .ref aw, .ref ae, sq, .int th, .int wa, .int ta, .int lf, .double ou, .double er, .int ce, .int cd, .int rs])), (o3, .inr (3, [.ref o1, .ref af, .int (nI nf)])), (af, aF q 6 (fun j => if j < nf then some (oa j) else none))] := hD
  obtain rfl : fr1 = some (oa fx) := hw
  refine lv_astore_n (lv' := [(3, .ref (oa fx)), (0, .ref o3), (1, .int (nI fx)), (2, .int xt)]) hx hb dX3_step_5 rfl hl (by decide) rfl (fun ls hl => ?_)
  refine lv_aload_n hx hb dX3_step_6 rfl (lv_at hl 0 rfl) ?_
  refine lv_ifnonnull (tgt := 20) hx hb dX3_step_7 (by decide) ?_
  refine lv_aload_n hx hb dX3_step_20 rfl (lv_at hl 0 rfl) ?_
  refine va_getN (D := G) (ci := 0) (v := .int kd) (C := RX0) (T := TX0) (N := 13) hx hb hts in_X3_step_X0 hown hK hP 0 rfl rfl 0 (by decide) (va_Nw.use rfl (hNF.1 (.fieldLinkNest RX3 70 "EchoBench$Filter" "kind" "I" "EchoBench") (by decide +kernel))) (fun _ h9 => h9) rfl dX3_step_21 ?_
  refine lv_iload_n hx hb dX3_step_24 rfl (lv_at hl 3 rfl) ?_
  have hPc := hP.sub (ws' := []) [] rfl
  have hDc := hD.sub (ws' := []) [] (by decide) rfl
  have hFc := va_free (wc := []) hD hS hA [] rfl
  refine va_calli (va_runS (As := [.int kd, .int xt]) (rest := []) ⟨hx, hb, hml, hown, hts⟩ (m_X3_isStepOf l G q H.size kd xt) (va_cwS 2 hts gX3_step_X3_isStepOf rfl rfl rfl (by decide +kernel) ⟨Nat.le_of_ble_eq_true rfl, Nat.le_of_ble_eq_true rfl⟩) ⟨preW_blind, preW_start hPc hK hDc hNF⟩ rfl rfl hl.1 rfl (lv_room (Nat.le_of_ble_eq_true rfl)) dX3_step_25 ⟨(Nat.zero_le _), (Nat.zero_le _)⟩) hS (fun q _ h => hFc q h) hFc (fun rs3 u9 t9 H1 locs ht9 hv9 hw hB9 hz9 hk9 hS => ?_)
  obtain ⟨⟩ := u9
  obtain ⟨hP1, hD1⟩ := hB9
  rw [ht9] at hP1
  obtain ⟨hP, hD⟩ := va_join (wr := [((oa fx), .inr (0, [.int kd, .ref aw, .ref ae, sq, .int th, .int wa, .int ta, .int lf, .double ou, .double er, .int ce, .int cd, .int rs])), (o3, .inr (3, [.ref o1, .ref af, .int (nI nf)])), (af, aF q 6 (fun j => if j < nf then some (oa j) else none))]) (w1 := []) hP hD [] [0, 1, 2] rfl rfl (by decide) (by decide) hk9 hFc hP1 hD1
  generalize H1 = H at hP hS ⊢
  have hP : va_P G vwCl [((oa fx), .inr (0, [.int kd, .ref aw, .ref ae, sq, .int th, .int wa, .int ta, .int lf, .double ou, .double er, .int ce, .int cd, .int rs])), (o3, .inr (3, [.ref o1, .ref af, .int (nI nf)])), (af, aF q 6 (fun j => if j < nf then some (oa j) else none))] H := hP
  have hD : va_D A [((oa fx), .inr (0, [.int kd, .ref aw, .ref ae, sq, .int th, .int wa, .int ta, .int lf, .double ou, .double er, .int ce, .int cd, .int rs])), (o3, .inr (3, [.ref o1, .ref af, .int (nI nf)])), (af, aF q 6 (fun j => if j < nf then some (oa j) else none))] := hD
  obtain rfl : rs3 = 1 := hw.trans (stp_1 hs)
  refine lv_if_ne (tgt := 41) hx hb dX3_step_28 (by decide) (fun _ => ?_) (fun h => absurd h (by decide))
  refine lv_aload_n hx hb dX3_step_41 rfl (lv_at hl 0 rfl) ?_
  refine va_getN (D := G) (ci := 0) (v := .int th) (C := RX0) (T := TX0) (N := 13) hx hb hts in_X3_step_X0 hown hK hP 0 rfl rfl 4 (by decide) (va_Nw.use rfl (hNF.1 (.fieldLinkNest RX3 73 "EchoBench$Filter" "thousandths" "I" "EchoBench") (by decide +kernel))) (fun _ h9 => h9) rfl dX3_step_42 ?_
  refine lv_istore (lv' := [(4, .int th), (3, .ref (oa fx)), (0, .ref o3), (1, .int (nI fx)), (2, .int xt)]) hx hb dX3_step_45 hl (by decide) rfl (fun ls hl => ?_)
  refine lv_aload_n hx hb dX3_step_47 rfl (lv_at hl 1 rfl) ?_
  refine lv_iload_n hx hb dX3_step_48 rfl (lv_at hl 4 rfl) ?_
  refine va_putN (D := G) (ci := 0) (v := .int xt) (ty := .int) (C := RX0) (T := TX0) (N := 13) hx hb hts in_X3_step_X0 tyX0 tyX0_ok nmX0 hown hK hP hD hS 0 rfl rfl 4 (by decide) (va_Nw.use rfl (hNF.1 (.fieldLinkNest RX3 73 "EchoBench$Filter" "thousandths" "I" "EchoBench") (by decide +kernel))) (fun _ h9 => h9) rfl (by decide +kernel) rfl rfl (Nat.le_of_ble_eq_true rfl) dX3_step_49 (fun H locs hP hD hS => ?_)
  have hP : va_P G vwCl [((oa fx), .inr (0, [.int kd, .ref aw, .ref ae, sq, .int xt, .int wa, .int ta, .int lf, .double ou, .double er, .int ce, .int cd, .int rs])), (o3, .inr (3, [.ref o1, .ref af, .int (nI nf)])), (af, aF q 6 (fun j => if j < nf then some (oa j) else none))] H := hP
  have hD : va_D A [((oa fx), .inr (0, [.int kd, .ref aw, .ref ae, sq, .int xt, .int wa, .int ta, .int lf, .double ou, .double er, .int ce, .int cd, .int rs])), (o3, .inr (3, [.ref o1, .ref af, .int (nI nf)])), (af, aF q 6 (fun j => if j < nf then some (oa j) else none))] := hD
  refine lv_iload hx hb dX3_step_52 (lv_at hl 0 rfl) ?_
  have hP := hP.sub (ws' := [(o3, .inr (3, [.ref o1, .ref af, .int (nI nf)])), (af, aF q 6 (fun j => if j < nf then some (oa j) else none)), ((oa fx), .inr (0, [.int kd, .ref aw, .ref ae, sq, .int xt, .int wa, .int ta, .int lf, .double ou, .double er, .int ce, .int cd, .int rs]))]) [1, 2, 0] rfl
  have hD := hD.sub (ws' := [(o3, .inr (3, [.ref o1, .ref af, .int (nI nf)])), (af, aF q 6 (fun j => if j < nf then some (oa j) else none)), ((oa fx), .inr (0, [.int kd, .ref aw, .ref ae, sq, .int xt, .int wa, .int ta, .int lf, .double ou, .double er, .int ce, .int cd, .int rs]))]) [1, 2, 0] (by decide) rfl
  have hP9 := hP
  have hD9 := hD
  exact W.iret (v := th) hx hb hr (fun t ht hW => ⟨⟨th, (), rfl, rfl, by rw [ht]; exact hP9, hD9⟩, hS.F ht⟩) hS.2.2 dX3_step_54

theorem in_X3_watch_X0 : ∀ w ∈ wsX00, w ∈ wsX3_watch := by decide +kernel
set_option maxHeartbeats 4000000 in
set_option maxRecDepth 100000 in
/-- watch: where it returns -/
theorem m_X3_watch (l : Launch) (G : va_G) (q : Nat → ClassId) (sz : Nat) (o3 o1 af nf : Nat) (oa : Nat → Nat) (fx n aw ae : Nat) (sq : Value) (kd th wa ta lf ce cd rs : Int32) (ou er : UInt64) (xa xb : Int32) (hnf : nf ≤ 6) (hfx : fx < nf) (ha : 0 ≤ xa ∧ xa ≤ 1000) (hb1 : 0 ≤ xb ∧ xb ≤ 20) : Met l yX3_watch wsX3_watch ({ frames := 1, cells := 0, slots := 0, locals := 22 } : Jvm.Room) (PreW G q [.ref o3, .int (nI fx), .int xa, .int xb] [(o3, .inr (3, [.ref o1, .ref af, .int (nI nf)])), (af, aF q 6 (fun j => if j < nf then some (oa j) else none)), ((oa fx), .inr (0, [.int kd, .ref aw, .ref ae, sq, .int th, .int wa, .int ta, .int lf, .double ou, .double er, .int ce, .int cd, .int rs]))] sz) (va_Qv (fun (_ : Unit) => True) (fun (_ : Unit) t => EndA G (va_A [(o3, .inr (3, [.ref o1, .ref af, .int (nI nf)])), (af, aF q 6 (fun j => if j < nf then some (oa j) else none)), ((oa fx), .inr (0, [.int kd, .ref aw, .ref ae, sq, .int th, .int wa, .int ta, .int lf, .double ou, .double er, .int ce, .int cd, .int rs]))] sz) [(o3, .inr (3, [.ref o1, .ref af, .int (nI nf)])), (af, aF q 6 (fun j => if j < nf then some (oa j) else none)), ((oa fx), .inr (0, [.int kd, .ref aw, .ref ae, sq, .int th, .int xa, .int xb, .int lf, .double ou, .double er, .int ce, .int cd, .int rs]))] t) (va_A [(o3, .inr (3, [.ref o1, .ref af, .int (nI nf)])), (af, aF q 6 (fun j => if j < nf then some (oa j) else none)), ((oa fx), .inr (0, [.int kd, .ref aw, .ref ae, sq, .int th, .int wa, .int ta, .int lf, .double ou, .double er, .int ce, .int cd, .int rs]))] sz)) 0 0 (va_A [(o3, .inr (3, [.ref o1, .ref af, .int (nI nf)])), (af, aF q 6 (fun j => if j < nf then some (oa j) else none)), ((oa fx), .inr (0, [.int kd, .ref aw, .ref ae, sq, .int th, .int wa, .int ta, .int lf, .double ou, .double er, .int ce, .int cd, .int rs]))] sz) := by
  refine Met.ofW (cc := cX3_watch) (maxL := 5) (ret := none) (by decide +kernel) rfl ?_
  intro p e s m args below meth c s₁ B hml hv
  obtain ⟨rfl, hsz, hP, hK, hD0, hNF⟩ := hv
  have hx := B.exec
  have hb := B.bytes
  have hr := B.returns
  have hts := atoms_spec (ws := wsX3_watch) B.pre
  have hown : s.vm.findClass RX3 = some m.cls := findClass_of_methodNamed B.named
  have hlocks := B.notSynchronized
  subst hsz
  have hD := hD0.self (sz := s.heap.size)
  generalize hAe : va_A [(o3, .inr (3, [.ref o1, .ref af, .int (nI nf)])), (af, aF q 6 (fun j => if j < nf then some (oa j) else none)), ((oa fx), .inr (0, [.int kd, .ref aw, .ref ae, sq, .int th, .int wa, .int ta, .int lf, .double ou, .double er, .int ce, .int cd, .int rs]))] s.heap.size = A at hD ⊢
  have hA : ∀ q : Nat, s.heap.size ≤ q → A q := fun q h => by rw [← hAe]; exact Or.inr h
  have hS : va_S A s.heap s.heap [] := va_S.rf
  have hP : va_P G vwCl [(o3, .inr (3, [.ref o1, .ref af, .int (nI nf)])), (af, aF q 6 (fun j => if j < nf then some (oa j) else none)), ((oa fx), .inr (0, [.int kd, .ref aw, .ref ae, sq, .int th, .int wa, .int ta, .int lf, .double ou, .double er, .int ce, .int cd, .int rs]))] s.heap := hP
  have hl := lv_entry ([.ref o3, .int (nI fx), .int xa, .int xb]) (n := 5) (Nat.le_of_ble_eq_true rfl)
  rw [lg_entry_eq]
  generalize (lg_sl ([.ref o3, .int (nI fx), .int xa, .int xb]) ++ List.replicate (5 - (lg_sl ([.ref o3, .int (nI fx), .int xa, .int xb])).length) Slot.unset).toArray = ls at hl ⊢
  have hl : lv_has ls 5 [(0, .ref o3), (1, .int (nI fx)), (2, .int xa), (3, .int xb)] := hl
  refine lv_aload_n hx hb dX3_watch_0 rfl (lv_at hl 0 rfl) ?_
  refine lv_iload_n hx hb dX3_watch_1 rfl (lv_at hl 1 rfl) ?_
  have hPc := hP.sub (ws' := [(o3, .inr (3, [.ref o1, .ref af, .int (nI nf)])), (af, aF q 6 (fun j => if j < nf then some (oa j) else none))]) [0, 1] rfl
  have hDc := hD.sub (ws' := [(o3, .inr (3, [.ref o1, .ref af, .int (nI nf)])), (af, aF q 6 (fun j => if j < nf then some (oa j) else none))]) [0, 1] (by decide) rfl
  have hFc := va_free (wc := [(o3, .inr (3, [.ref o1, .ref af, .int (nI nf)])), (af, aF q 6 (fun j => if j < nf then some (oa j) else none))]) hD hS hA [0, 1] rfl
  refine va_callq (va_runV (As := [.int (nI fx)]) (rest := []) ⟨hx, hb, hml, hown, hts⟩ (m_X3_numbered l G q s.heap.size o3 o1 af nf oa fx hnf hfx) (cwV 1 hts gX3_watch_X3_numbered rfl rfl rfl (by decide +kernel) ⟨Nat.le_of_ble_eq_true rfl, Nat.le_of_ble_eq_true rfl⟩) ⟨preW_blind, (va_recv hK hPc (ci := 3) (q0 := 0) rfl rfl), preW_start hPc hK hDc hNF⟩ rfl rfl hl.1 rfl (lv_room (Nat.le_of_ble_eq_true rfl)) dX3_watch_2 ⟨(Nat.zero_le _), (Nat.zero_le _)⟩) hS (fun q _ h => hFc q h) hFc (fun fr1 u9 t9 H1 locs ht9 hv9 hw hB9 hz9 hk9 hS => ?_)
  obtain ⟨⟩ := u9
  obtain ⟨hP1, hD1⟩ := hB9
  rw [ht9] at hP1
  obtain ⟨hP, hD⟩ := va_join (wr := [((oa fx), .inr (0, [.int kd, .ref aw, .ref ae, sq, .int th, .int wa, .int ta, .int lf, .double ou, .double er, .int ce, .int cd, .int rs]))]) (w1 := [(o3, .inr (3, [.ref o1, .ref af, .int (nI nf)])), (af, aF q 6 (fun j => if j < nf then some (oa j) else none))]) hP hD [0, 1] [2] rfl rfl (by decide) (by decide) hk9 hFc hP1 hD1
  generalize H1 = H at hP hS ⊢
  have hP : va_P G vwCl [((oa fx), .inr (0, [.int kd, .ref aw, .ref ae, sq, .int th, .int wa, .int ta, .int lf, .double ou, .double er, .int ce, .int cd, .int rs])), (o3, .inr (3, [.ref o1, .ref af, .int (nI nf)])), (af, aF q 6 (fun j => if j < nf then some (oa j) else none))] H := hP
  have hD : va_D A [((oa fx), .inr (0, [.int kd, .ref aw, .ref ae, sq, .int th, .int wa, .int ta, .int lf, .double ou, .double er, .int ce, .int cd, .int rs])), (o3, .inr (3, [.ref o1, .ref af, .int (nI nf)])), (af, aF q 6 (fun j => if j < nf then some (oa j) else none))] := hD
  obtain rfl : fr1 = some (oa fx) := hw
  refine lv_astore (lv' := [(4, .ref (oa fx)), (0, .ref o3), (1, .int (nI fx)), (2, .int xa), (3, .int xb)]) hx hb dX3_watch_5 hl (by decide) rfl (fun ls hl => ?_)
  refine lv_aload hx hb dX3_watch_7 (lv_at hl 0 rfl) ?_
  refine lv_ifnonnull (tgt := 22) hx hb dX3_watch_9 (by decide) ?_
  refine lv_iload_n hx hb dX3_watch_22 rfl (lv_at hl 3 rfl) ?_
  refine lv_iconst (v := 0) hx hb dX3_watch_23 (by decide) ?_
  refine lv_sipush (v := 1000) hx hb dX3_watch_24 (by decide) ?_
  have hPc := hP.sub (ws' := []) [] rfl
  have hDc := hD.sub (ws' := []) [] (by decide) rfl
  have hFc := va_free (wc := []) hD hS hA [] rfl
  refine va_calli (va_runS (As := [.int xa, .int 0, .int 1000]) (rest := []) ⟨hx, hb, hml, hown, hts⟩ (m_X3_isWithin l G q H.size xa 0 1000) (va_cwS 3 hts gX3_watch_X3_isWithin rfl rfl rfl (by decide +kernel) ⟨Nat.le_of_ble_eq_true rfl, Nat.le_of_ble_eq_true rfl⟩) ⟨preW_blind, preW_start hPc hK hDc hNF⟩ rfl rfl hl.1 rfl (lv_room (Nat.le_of_ble_eq_true rfl)) dX3_watch_27 ⟨(Nat.zero_le _), (Nat.zero_le _)⟩) hS (fun q _ h => hFc q h) hFc (fun ri3 u9 t9 H1 locs ht9 hv9 hw hB9 hz9 hk9 hS => ?_)
  obtain ⟨⟩ := u9
  obtain ⟨hP1, hD1⟩ := hB9
  rw [ht9] at hP1
  obtain ⟨hP, hD⟩ := va_join (wr := [((oa fx), .inr (0, [.int kd, .ref aw, .ref ae, sq, .int th, .int wa, .int ta, .int lf, .double ou, .double er, .int ce, .int cd, .int rs])), (o3, .inr (3, [.ref o1, .ref af, .int (nI nf)])), (af, aF q 6 (fun j => if j < nf then some (oa j) else none))]) (w1 := []) hP hD [] [0, 1, 2] rfl rfl (by decide) (by decide) hk9 hFc hP1 hD1
  generalize H1 = H at hP hS ⊢
  have hP : va_P G vwCl [((oa fx), .inr (0, [.int kd, .ref aw, .ref ae, sq, .int th, .int wa, .int ta, .int lf, .double ou, .double er, .int ce, .int cd, .int rs])), (o3, .inr (3, [.ref o1, .ref af, .int (nI nf)])), (af, aF q 6 (fun j => if j < nf then some (oa j) else none))] H := hP
  have hD : va_D A [((oa fx), .inr (0, [.int kd, .ref aw, .ref ae, sq, .int th, .int wa, .int ta, .int lf, .double ou, .double er, .int ce, .int cd, .int rs])), (o3, .inr (3, [.ref o1, .ref af, .int (nI nf)])), (af, aF q 6 (fun j => if j < nf then some (oa j) else none))] := hD
  obtain rfl : ri3 = 1 := hw.trans (if_pos ha)
  refine lv_if_ne (tgt := 43) hx hb dX3_watch_30 (by decide) (fun _ => ?_) (fun h => absurd h (by decide))
  refine lv_iload_n hx hb dX3_watch_43 rfl (lv_at hl 4 rfl) ?_
  refine lv_iconst (v := 0) hx hb dX3_watch_44 (by decide) ?_
  refine lv_bipush (v := 20) hx hb dX3_watch_45 (by decide) ?_
  have hPc := hP.sub (ws' := []) [] rfl
  have hDc := hD.sub (ws' := []) [] (by decide) rfl
  have hFc := va_free (wc := []) hD hS hA [] rfl
  refine va_calli (va_runS (As := [.int xb, .int 0, .int 20]) (rest := []) ⟨hx, hb, hml, hown, hts⟩ (m_X3_isWithin l G q H.size xb 0 20) (va_cwS 3 hts gX3_watch_X3_isWithin rfl rfl rfl (by decide +kernel) ⟨Nat.le_of_ble_eq_true rfl, Nat.le_of_ble_eq_true rfl⟩) ⟨preW_blind, preW_start hPc hK hDc hNF⟩ rfl rfl hl.1 rfl (lv_room (Nat.le_of_ble_eq_true rfl)) dX3_watch_47 ⟨(Nat.zero_le _), (Nat.zero_le _)⟩) hS (fun q _ h => hFc q h) hFc (fun ri6 u9 t9 H1 locs ht9 hv9 hw hB9 hz9 hk9 hS => ?_)
  obtain ⟨⟩ := u9
  obtain ⟨hP1, hD1⟩ := hB9
  rw [ht9] at hP1
  obtain ⟨hP, hD⟩ := va_join (wr := [((oa fx), .inr (0, [.int kd, .ref aw, .ref ae, sq, .int th, .int wa, .int ta, .int lf, .double ou, .double er, .int ce, .int cd, .int rs])), (o3, .inr (3, [.ref o1, .ref af, .int (nI nf)])), (af, aF q 6 (fun j => if j < nf then some (oa j) else none))]) (w1 := []) hP hD [] [0, 1, 2] rfl rfl (by decide) (by decide) hk9 hFc hP1 hD1
  generalize H1 = H at hP hS ⊢
  have hP : va_P G vwCl [((oa fx), .inr (0, [.int kd, .ref aw, .ref ae, sq, .int th, .int wa, .int ta, .int lf, .double ou, .double er, .int ce, .int cd, .int rs])), (o3, .inr (3, [.ref o1, .ref af, .int (nI nf)])), (af, aF q 6 (fun j => if j < nf then some (oa j) else none))] H := hP
  have hD : va_D A [((oa fx), .inr (0, [.int kd, .ref aw, .ref ae, sq, .int th, .int wa, .int ta, .int lf, .double ou, .double er, .int ce, .int cd, .int rs])), (o3, .inr (3, [.ref o1, .ref af, .int (nI nf)])), (af, aF q 6 (fun j => if j < nf then some (oa j) else none))] := hD
  obtain rfl : ri6 = 1 := hw.trans (if_pos hb1)
  refine lv_if_ne (tgt := 63) hx hb dX3_watch_50 (by decide) (fun _ => ?_) (fun h => absurd h (by decide))
  refine lv_aload hx hb dX3_watch_63 (lv_at hl 0 rfl) ?_
  refine lv_iload_n hx hb dX3_watch_65 rfl (lv_at hl 3 rfl) ?_
  refine va_putN (D := G) (ci := 0) (v := .int xa) (ty := .int) (C := RX0) (T := TX0) (N := 13) hx hb hts in_X3_watch_X0 tyX0 tyX0_ok nmX0 hown hK hP hD hS 0 rfl rfl 5 (by decide) (va_Nw.use rfl (hNF.1 (.fieldLinkNest RX3 78 "EchoBench$Filter" "watchHundredths" "I" "EchoBench") (by decide +kernel))) (fun _ h9 => h9) rfl (by decide +kernel) rfl rfl (Nat.le_of_ble_eq_true rfl) dX3_watch_66 (fun H locs hP hD hS => ?_)
  have hP : va_P G vwCl [((oa fx), .inr (0, [.int kd, .ref aw, .ref ae, sq, .int th, .int xa, .int ta, .int lf, .double ou, .double er, .int ce, .int cd, .int rs])), (o3, .inr (3, [.ref o1, .ref af, .int (nI nf)])), (af, aF q 6 (fun j => if j < nf then some (oa j) else none))] H := hP
  have hD : va_D A [((oa fx), .inr (0, [.int kd, .ref aw, .ref ae, sq, .int th, .int xa, .int ta, .int lf, .double ou, .double er, .int ce, .int cd, .int rs])), (o3, .inr (3, [.ref o1, .ref af, .int (nI nf)])), (af, aF q 6 (fun j => if j < nf then some (oa j) else none))] := hD
  refine lv_aload hx hb dX3_watch_69 (lv_at hl 0 rfl) ?_
  refine lv_iload_n hx hb dX3_watch_71 rfl (lv_at hl 4 rfl) ?_
  refine va_putN (D := G) (ci := 0) (v := .int xb) (ty := .int) (C := RX0) (T := TX0) (N := 13) hx hb hts in_X3_watch_X0 tyX0 tyX0_ok nmX0 hown hK hP hD hS 0 rfl rfl 6 (by decide) (va_Nw.use rfl (hNF.1 (.fieldLinkNest RX3 81 "EchoBench$Filter" "tail" "I" "EchoBench") (by decide +kernel))) (fun _ h9 => h9) rfl (by decide +kernel) rfl rfl (Nat.le_of_ble_eq_true rfl) dX3_watch_72 (fun H locs hP hD hS => ?_)
  have hP : va_P G vwCl [((oa fx), .inr (0, [.int kd, .ref aw, .ref ae, sq, .int th, .int xa, .int xb, .int lf, .double ou, .double er, .int ce, .int cd, .int rs])), (o3, .inr (3, [.ref o1, .ref af, .int (nI nf)])), (af, aF q 6 (fun j => if j < nf then some (oa j) else none))] H := hP
  have hD : va_D A [((oa fx), .inr (0, [.int kd, .ref aw, .ref ae, sq, .int th, .int xa, .int xb, .int lf, .double ou, .double er, .int ce, .int cd, .int rs])), (o3, .inr (3, [.ref o1, .ref af, .int (nI nf)])), (af, aF q 6 (fun j => if j < nf then some (oa j) else none))] := hD
  have hP := hP.sub (ws' := [(o3, .inr (3, [.ref o1, .ref af, .int (nI nf)])), (af, aF q 6 (fun j => if j < nf then some (oa j) else none)), ((oa fx), .inr (0, [.int kd, .ref aw, .ref ae, sq, .int th, .int xa, .int xb, .int lf, .double ou, .double er, .int ce, .int cd, .int rs]))]) [1, 2, 0] rfl
  have hD := hD.sub (ws' := [(o3, .inr (3, [.ref o1, .ref af, .int (nI nf)])), (af, aF q 6 (fun j => if j < nf then some (oa j) else none)), ((oa fx), .inr (0, [.int kd, .ref aw, .ref ae, sq, .int th, .int xa, .int xb, .int lf, .double ou, .double er, .int ce, .int cd, .int rs]))]) [1, 2, 0] (by decide) rfl
  have hP9 := hP
  have hD9 := hD
  exact W.vret hx hb hr (fun t ht hW => ⟨⟨(), rfl, trivial, by rw [ht]; exact hP9, hD9⟩, hS.F ht⟩) hS.2.2 dX3_watch_75

theorem in_X3_count_X0 : ∀ w ∈ wsX00, w ∈ wsX3_count := by decide +kernel
set_option maxHeartbeats 4000000 in
set_option maxRecDepth 100000 in
/-- count: where it returns -/
theorem m_X3_count0 (l : Launch) (G : va_G) (q : Nat → ClassId) (sz : Nat) (o3 o1 af nf : Nat) (oa : Nat → Nat) (fx n aw ae : Nat) (sq : Value) (kd th wa ta lf ce cd rs : Int32) (ou er : UInt64) (hnf : nf ≤ 6) (hfx : fx < nf) : Met l yX3_count wsX3_count ({ frames := 1, cells := 0, slots := 0, locals := 21 } : Jvm.Room) (PreW G q [.ref o3, .int (nI fx), .int 0] [(o3, .inr (3, [.ref o1, .ref af, .int (nI nf)])), (af, aF q 6 (fun j => if j < nf then some (oa j) else none)), ((oa fx), .inr (0, [.int kd, .ref aw, .ref ae, sq, .int th, .int wa, .int ta, .int lf, .double ou, .double er, .int ce, .int cd, .int rs]))] sz) (va_Qi (fun (r : Int32) (_ : Unit) => r = ce) (fun (_ : Unit) t => EndA G (va_A [(o3, .inr (3, [.ref o1, .ref af, .int (nI nf)])), (af, aF q 6 (fun j => if j < nf then some (oa j) else none)), ((oa fx), .inr (0, [.int kd, .ref aw, .ref ae, sq, .int th, .int wa, .int ta, .int lf, .double ou, .double er, .int ce, .int cd, .int rs]))] sz) [(o3, .inr (3, [.ref o1, .ref af, .int (nI nf)])), (af, aF q 6 (fun j => if j < nf then some (oa j) else none)), ((oa fx), .inr (0, [.int kd, .ref aw, .ref ae, sq, .int th, .int wa, .int ta, .int lf, .double ou, .double er, .int ce, .int cd, .int rs]))] t) (va_A [(o3, .inr (3, [.ref o1, .ref af, .int (nI nf)])), (af, aF q 6 (fun j => if j < nf then some (oa j) else none)), ((oa fx), .inr (0, [.int kd, .ref aw, .ref ae, sq, .int th, .int wa, .int ta, .int lf, .double ou, .double er, .int ce, .int cd, .int rs]))] sz)) 0 0 (va_A [(o3, .inr (3, [.ref o1, .ref af, .int (nI nf)])), (af, aF q 6 (fun j => if j < nf then some (oa j) else none)), ((oa fx), .inr (0, [.int kd, .ref aw, .ref ae, sq, .int th, .int wa, .int ta, .int lf, .double ou, .double er, .int ce, .int cd, .int rs]))] sz) := by
  refine Met.ofW (cc := cX3_count) (maxL := 4) (ret := (some .int)) (by decide +kernel) rfl ?_
  intro p e s m args below meth c s₁ B hml hv
  obtain ⟨rfl, hsz, hP, hK, hD0, hNF⟩ := hv
  have hx := B.exec
  have hb := B.bytes
  have hr := B.returns
  have hts := atoms_spec (ws := wsX3_count) B.pre
  have hown : s.vm.findClass RX3 = some m.cls := findClass_of_methodNamed B.named
  have hlocks := B.notSynchronized
  subst hsz
  have hD := hD0.self (sz := s.heap.size)
  generalize hAe : va_A [(o3, .inr (3, [.ref o1, .ref af, .int (nI nf)])), (af, aF q 6 (fun j => if j < nf then some (oa j) else none)), ((oa fx), .inr (0, [.int kd, .ref aw, .ref ae, sq, .int th, .int wa, .int ta, .int lf, .double ou, .double er, .int ce, .int cd, .int rs]))] s.heap.size = A at hD ⊢
  have hA : ∀ q : Nat, s.heap.size ≤ q → A q := fun q h => by rw [← hAe]; exact Or.inr h
  have hS : va_S A s.heap s.heap [] := va_S.rf
  have hP : va_P G vwCl [(o3, .inr (3, [.ref o1, .ref af, .int (nI nf)])), (af, aF q 6 (fun j => if j < nf then some (oa j) else none)), ((oa fx), .inr (0, [.int kd, .ref aw, .ref ae, sq, .int th, .int wa, .int ta, .int lf, .double ou, .double er, .int ce, .int cd, .int rs]))] s.heap := hP
  have hl := lv_entry ([.ref o3, .int (nI fx), .int 0]) (n := 4) (Nat.le_of_ble_eq_true rfl)
  rw [lg_entry_eq]
  generalize (lg_sl ([.ref o3, .int (nI fx), .int 0]) ++ List.replicate (4 - (lg_sl ([.ref o3, .int (nI fx), .int 0])).length) Slot.unset).toArray = ls at hl ⊢
  have hl : lv_has ls 4 [(0, .ref o3), (1, .int (nI fx)), (2, .int 0)] := hl
  refine lv_aload_n hx hb dX3_count_0 rfl (lv_at hl 0 rfl) ?_
  refine lv_iload_n hx hb dX3_count_1 rfl (lv_at hl 1 rfl) ?_
  have hPc := hP.sub (ws' := [(o3, .inr (3, [.ref o1, .ref af, .int (nI nf)])), (af, aF q 6 (fun j => if j < nf then some (oa j) else none))]) [0, 1] rfl
  have hDc := hD.sub (ws' := [(o3, .inr (3, [.ref o1, .ref af, .int (nI nf)])), (af, aF q 6 (fun j => if j < nf then some (oa j) else none))]) [0, 1] (by decide) rfl
  have hFc := va_free (wc := [(o3, .inr (3, [.ref o1, .ref af, .int (nI nf)])), (af, aF q 6 (fun j => if j < nf then some (oa j) else none))]) hD hS hA [0, 1] rfl
  refine va_callq (va_runV (As := [.int (nI fx)]) (rest := []) ⟨hx, hb, hml, hown, hts⟩ (m_X3_numbered l G q s.heap.size o3 o1 af nf oa fx hnf hfx) (cwV 1 hts gX3_count_X3_numbered rfl rfl rfl (by decide +kernel) ⟨Nat.le_of_ble_eq_true rfl, Nat.le_of_ble_eq_true rfl⟩) ⟨preW_blind, (va_recv hK hPc (ci := 3) (q0 := 0) rfl rfl), preW_start hPc hK hDc hNF⟩ rfl rfl hl.1 rfl (lv_room (Nat.le_of_ble_eq_true rfl)) dX3_count_2 ⟨(Nat.zero_le _), (Nat.zero_le _)⟩) hS (fun q _ h => hFc q h) hFc (fun fr1 u9 t9 H1 locs ht9 hv9 hw hB9 hz9 hk9 hS => ?_)
  obtain ⟨⟩ := u9
  obtain ⟨hP1, hD1⟩ := hB9
  rw [ht9] at hP1
  obtain ⟨hP, hD⟩ := va_join (wr := [((oa fx), .inr (0, [.int kd, .ref aw, .ref ae, sq, .int th, .int wa, .int ta, .int lf, .double ou, .double er, .int ce, .int cd, .int rs]))]) (w1 := [(o3, .inr (3, [.ref o1, .ref af, .int (nI nf)])), (af, aF q 6 (fun j => if j < nf then some (oa j) else none))]) hP hD [0, 1] [2] rfl rfl (by decide) (by decide) hk9 hFc hP1 hD1
  generalize H1 = H at hP hS ⊢
  have hP : va_P G vwCl [((oa fx), .inr (0, [.int kd, .ref aw, .ref ae, sq, .int th, .int wa, .int ta, .int lf, .double ou, .double er, .int ce, .int cd, .int rs])), (o3, .inr (3, [.ref o1, .ref af, .int (nI nf)])), (af, aF q 6 (fun j => if j < nf then some (oa j) else none))] H := hP
  have hD : va_D A [((oa fx), .inr (0, [.int kd, .ref aw, .ref ae, sq, .int th, .int wa, .int ta, .int lf, .double ou, .double er, .int ce, .int cd, .int rs])), (o3, .inr (3, [.ref o1, .ref af, .int (nI nf)])), (af, aF q 6 (fun j => if j < nf then some (oa j) else none))] := hD
  obtain rfl : fr1 = some (oa fx) := hw
  refine lv_astore_n (lv' := [(3, .ref (oa fx)), (0, .ref o3), (1, .int (nI fx)), (2, .int 0)]) hx hb dX3_count_5 rfl hl (by decide) rfl (fun ls hl => ?_)
  refine lv_aload_n hx hb dX3_count_6 rfl (lv_at hl 0 rfl) ?_
  refine lv_ifnonnull (tgt := 20) hx hb dX3_count_7 (by decide) ?_
  refine lv_iload_n hx hb dX3_count_20 rfl (lv_at hl 3 rfl) ?_
  refine lv_tableIn (off := 31) (tgt := 52) hx hb dX3_count_21 (by decide) (by decide) (by decide) (by decide) ?_
  refine lv_aload_n hx hb dX3_count_52 rfl (lv_at hl 0 rfl) ?_
  refine va_getN (D := G) (ci := 0) (v := .int ce) (C := RX0) (T := TX0) (N := 13) hx hb hts in_X3_count_X0 hown hK hP 0 rfl rfl 10 (by decide) (va_Nw.use rfl (hNF.1 (.fieldLinkNest RX3 127 "EchoBench$Filter" "heard" "I" "EchoBench") (by decide +kernel))) (fun _ h9 => h9) rfl dX3_count_53 ?_
  have hP := hP.sub (ws' := [(o3, .inr (3, [.ref o1, .ref af, .int (nI nf)])), (af, aF q 6 (fun j => if j < nf then some (oa j) else none)), ((oa fx), .inr (0, [.int kd, .ref aw, .ref ae, sq, .int th, .int wa, .int ta, .int lf, .double ou, .double er, .int ce, .int cd, .int rs]))]) [1, 2, 0] rfl
  have hD := hD.sub (ws' := [(o3, .inr (3, [.ref o1, .ref af, .int (nI nf)])), (af, aF q 6 (fun j => if j < nf then some (oa j) else none)), ((oa fx), .inr (0, [.int kd, .ref aw, .ref ae, sq, .int th, .int wa, .int ta, .int lf, .double ou, .double er, .int ce, .int cd, .int rs]))]) [1, 2, 0] (by decide) rfl
  have hP9 := hP
  have hD9 := hD
  exact W.iret (v := ce) hx hb hr (fun t ht hW => ⟨⟨ce, (), rfl, rfl, by rw [ht]; exact hP9, hD9⟩, hS.F ht⟩) hS.2.2 dX3_count_56

set_option maxHeartbeats 4000000 in
set_option maxRecDepth 100000 in
/-- count: where it returns -/
theorem m_X3_count1 (l : Launch) (G : va_G) (q : Nat → ClassId) (sz : Nat) (o3 o1 af nf : Nat) (oa : Nat → Nat) (fx n aw ae : Nat) (sq : Value) (kd th wa ta lf ce cd rs : Int32) (ou er : UInt64) (hnf : nf ≤ 6) (hfx : fx < nf) : Met l yX3_count wsX3_count ({ frames := 1, cells := 0, slots := 0, locals := 21 } : Jvm.Room) (PreW G q [.ref o3, .int (nI fx), .int 1] [(o3, .inr (3, [.ref o1, .ref af, .int (nI nf)])), (af, aF q 6 (fun j => if j < nf then some (oa j) else none)), ((oa fx), .inr (0, [.int kd, .ref aw, .ref ae, sq, .int th, .int wa, .int ta, .int lf, .double ou, .double er, .int ce, .int cd, .int rs]))] sz) (va_Qi (fun (r : Int32) (_ : Unit) => r = cd) (fun (_ : Unit) t => EndA G (va_A [(o3, .inr (3, [.ref o1, .ref af, .int (nI nf)])), (af, aF q 6 (fun j => if j < nf then some (oa j) else none)), ((oa fx), .inr (0, [.int kd, .ref aw, .ref ae, sq, .int th, .int wa, .int ta, .int lf, .double ou, .double er, .int ce, .int cd, .int rs]))] sz) [(o3, .inr (3, [.ref o1, .ref af, .int (nI nf)])), (af, aF q 6 (fun j => if j < nf then some (oa j) else none)), ((oa fx), .inr (0, [.int kd, .ref aw, .ref ae, sq, .int th, .int wa, .int ta, .int lf, .double ou, .double er, .int ce, .int cd, .int rs]))] t) (va_A [(o3, .inr (3, [.ref o1, .ref af, .int (nI nf)])), (af, aF q 6 (fun j => if j < nf then some (oa j) else none)), ((oa fx), .inr (0, [.int kd, .ref aw, .ref ae, sq, .int th, .int wa, .int ta, .int lf, .double ou, .double er, .int ce, .int cd, .int rs]))] sz)) 0 0 (va_A [(o3, .inr (3, [.ref o1, .ref af, .int (nI nf)])), (af, aF q 6 (fun j => if j < nf then some (oa j) else none)), ((oa fx), .inr (0, [.int kd, .ref aw, .ref ae, sq, .int th, .int wa, .int ta, .int lf, .double ou, .double er, .int ce, .int cd, .int rs]))] sz) := by
  refine Met.ofW (cc := cX3_count) (maxL := 4) (ret := (some .int)) (by decide +kernel) rfl ?_
  intro p e s m args below meth c s₁ B hml hv
  obtain ⟨rfl, hsz, hP, hK, hD0, hNF⟩ := hv
  have hx := B.exec
  have hb := B.bytes
  have hr := B.returns
  have hts := atoms_spec (ws := wsX3_count) B.pre
  have hown : s.vm.findClass RX3 = some m.cls := findClass_of_methodNamed B.named
  have hlocks := B.notSynchronized
  subst hsz
  have hD := hD0.self (sz := s.heap.size)
  generalize hAe : va_A [(o3, .inr (3, [.ref o1, .ref af, .int (nI nf)])), (af, aF q 6 (fun j => if j < nf then some (oa j) else none)), ((oa fx), .inr (0, [.int kd, .ref aw, .ref ae, sq, .int th, .int wa, .int ta, .int lf, .double ou, .double er, .int ce, .int cd, .int rs]))] s.heap.size = A at hD ⊢
  have hA : ∀ q : Nat, s.heap.size ≤ q → A q := fun q h => by rw [← hAe]; exact Or.inr h
  have hS : va_S A s.heap s.heap [] := va_S.rf
  have hP : va_P G vwCl [(o3, .inr (3, [.ref o1, .ref af, .int (nI nf)])), (af, aF q 6 (fun j => if j < nf then some (oa j) else none)), ((oa fx), .inr (0, [.int kd, .ref aw, .ref ae, sq, .int th, .int wa, .int ta, .int lf, .double ou, .double er, .int ce, .int cd, .int rs]))] s.heap := hP
  have hl := lv_entry ([.ref o3, .int (nI fx), .int 1]) (n := 4) (Nat.le_of_ble_eq_true rfl)
  rw [lg_entry_eq]
  generalize (lg_sl ([.ref o3, .int (nI fx), .int 1]) ++ List.replicate (4 - (lg_sl ([.ref o3, .int (nI fx), .int 1])).length) Slot.unset).toArray = ls at hl ⊢
  have hl : lv_has ls 4 [(0, .ref o3), (1, .int (nI fx)), (2, .int 1)] := hl
  refine lv_aload_n hx hb dX3_count_0 rfl (lv_at hl 0 rfl) ?_
  refine lv_iload_n hx hb dX3_count_1 rfl (lv_at hl 1 rfl) ?_
  have hPc := hP.sub (ws' := [(o3, .inr (3, [.ref o1, .ref af, .int (nI nf)])), (af, aF q 6 (fun j => if j < nf then some (oa j) else none))]) [0, 1] rfl
  have hDc := hD.sub (ws' := [(o3, .inr (3, [.ref o1, .ref af, .int (nI nf)])), (af, aF q 6 (fun j => if j < nf then some (oa j) else none))]) [0, 1] (by decide) rfl
  have hFc := va_free (wc := [(o3, .inr (3, [.ref o1, .ref af, .int (nI nf)])), (af, aF q 6 (fun j => if j < nf then some (oa j) else none))]) hD hS hA [0, 1] rfl
  refine va_callq (va_runV (As := [.int (nI fx)]) (rest := []) ⟨hx, hb, hml, hown, hts⟩ (m_X3_numbered l G q s.heap.size o3 o1 af nf oa fx hnf hfx) (cwV 1 hts gX3_count_X3_numbered rfl rfl rfl (by decide +kernel) ⟨Nat.le_of_ble_eq_true rfl, Nat.le_of_ble_eq_true rfl⟩) ⟨preW_blind, (va_recv hK hPc (ci := 3) (q0 := 0) rfl rfl), preW_start hPc hK hDc hNF⟩ rfl rfl hl.1 rfl (lv_room (Nat.le_of_ble_eq_true rfl)) dX3_count_2 ⟨(Nat.zero_le _), (Nat.zero_le _)⟩) hS (fun q _ h => hFc q h) hFc (fun fr1 u9 t9 H1 locs ht9 hv9 hw hB9 hz9 hk9 hS => ?_)
  obtain ⟨⟩ := u9
  obtain ⟨hP1, hD1⟩ := hB9
  rw [ht9] at hP1
  obtain ⟨hP, hD⟩ := va_join (wr := [((oa fx), .inr (0, [.int kd, .ref aw, .ref ae, sq, .int th, .int wa, .int ta, .int lf, .double ou, .double er, .int ce, .int cd, .int rs]))]) (w1 := [(o3, .inr (3, [.ref o1, .ref af, .int (nI nf)])), (af, aF q 6 (fun j => if j < nf then some (oa j) else none))]) hP hD [0, 1] [2] rfl rfl (by decide) (by decide) hk9 hFc hP1 hD1
  generalize H1 = H at hP hS ⊢
  have hP : va_P G vwCl [((oa fx), .inr (0, [.int kd, .ref aw, .ref ae, sq, .int th, .int wa, .int ta, .int lf, .double ou, .double er, .int ce, .int cd, .int rs])), (o3, .inr (3, [.ref o1, .ref af, .int (nI nf)])), (af, aF q 6 (fun j => if j < nf then some (oa j) else none))] H := hP
  have hD : va_D A [((oa fx), .inr (0, [.int kd, .ref aw, .ref ae, sq, .int th, .int wa, .int ta, .int lf, .double ou, .double er, .int ce, .int cd, .int rs])), (o3, .inr (3, [.ref o1, .ref af, .int (nI nf)])), (af, aF q 6 (fun j => if j < nf then some (oa j) else none))] := hD
  obtain rfl : fr1 = some (oa fx) := hw
  refine lv_astore_n (lv' := [(3, .ref (oa fx)), (0, .ref o3), (1, .int (nI fx)), (2, .int 1)]) hx hb dX3_count_5 rfl hl (by decide) rfl (fun ls hl => ?_)
  refine lv_aload_n hx hb dX3_count_6 rfl (lv_at hl 0 rfl) ?_
  refine lv_ifnonnull (tgt := 20) hx hb dX3_count_7 (by decide) ?_
  refine lv_iload_n hx hb dX3_count_20 rfl (lv_at hl 3 rfl) ?_
  refine lv_tableIn (off := 36) (tgt := 57) hx hb dX3_count_21 (by decide) (by decide) (by decide) (by decide) ?_
  refine lv_aload_n hx hb dX3_count_57 rfl (lv_at hl 0 rfl) ?_
  refine va_getN (D := G) (ci := 0) (v := .int cd) (C := RX0) (T := TX0) (N := 13) hx hb hts in_X3_count_X0 hown hK hP 0 rfl rfl 11 (by decide) (va_Nw.use rfl (hNF.1 (.fieldLinkNest RX3 130 "EchoBench$Filter" "held" "I" "EchoBench") (by decide +kernel))) (fun _ h9 => h9) rfl dX3_count_58 ?_
  have hP := hP.sub (ws' := [(o3, .inr (3, [.ref o1, .ref af, .int (nI nf)])), (af, aF q 6 (fun j => if j < nf then some (oa j) else none)), ((oa fx), .inr (0, [.int kd, .ref aw, .ref ae, sq, .int th, .int wa, .int ta, .int lf, .double ou, .double er, .int ce, .int cd, .int rs]))]) [1, 2, 0] rfl
  have hD := hD.sub (ws' := [(o3, .inr (3, [.ref o1, .ref af, .int (nI nf)])), (af, aF q 6 (fun j => if j < nf then some (oa j) else none)), ((oa fx), .inr (0, [.int kd, .ref aw, .ref ae, sq, .int th, .int wa, .int ta, .int lf, .double ou, .double er, .int ce, .int cd, .int rs]))]) [1, 2, 0] (by decide) rfl
  have hP9 := hP
  have hD9 := hD
  exact W.iret (v := cd) hx hb hr (fun t ht hW => ⟨⟨cd, (), rfl, rfl, by rw [ht]; exact hP9, hD9⟩, hS.F ht⟩) hS.2.2 dX3_count_61

set_option maxHeartbeats 4000000 in
set_option maxRecDepth 100000 in
/-- count: where it returns -/
theorem m_X3_count2 (l : Launch) (G : va_G) (q : Nat → ClassId) (sz : Nat) (o3 o1 af nf : Nat) (oa : Nat → Nat) (fx n aw ae : Nat) (sq : Value) (kd th wa ta lf ce cd rs : Int32) (ou er : UInt64) (hnf : nf ≤ 6) (hfx : fx < nf) : Met l yX3_count wsX3_count ({ frames := 1, cells := 0, slots := 0, locals := 21 } : Jvm.Room) (PreW G q [.ref o3, .int (nI fx), .int 2] [(o3, .inr (3, [.ref o1, .ref af, .int (nI nf)])), (af, aF q 6 (fun j => if j < nf then some (oa j) else none)), ((oa fx), .inr (0, [.int kd, .ref aw, .ref ae, sq, .int th, .int wa, .int ta, .int lf, .double ou, .double er, .int ce, .int cd, .int rs]))] sz) (va_Qi (fun (r : Int32) (_ : Unit) => r = rs) (fun (_ : Unit) t => EndA G (va_A [(o3, .inr (3, [.ref o1, .ref af, .int (nI nf)])), (af, aF q 6 (fun j => if j < nf then some (oa j) else none)), ((oa fx), .inr (0, [.int kd, .ref aw, .ref ae, sq, .int th, .int wa, .int ta, .int lf, .double ou, .double er, .int ce, .int cd, .int rs]))] sz) [(o3, .inr (3, [.ref o1, .ref af, .int (nI nf)])), (af, aF q 6 (fun j => if j < nf then some (oa j) else none)), ((oa fx), .inr (0, [.int kd, .ref aw, .ref ae, sq, .int th, .int wa, .int ta, .int lf, .double ou, .double er, .int ce, .int cd, .int rs]))] t) (va_A [(o3, .inr (3, [.ref o1, .ref af, .int (nI nf)])), (af, aF q 6 (fun j => if j < nf then some (oa j) else none)), ((oa fx), .inr (0, [.int kd, .ref aw, .ref ae, sq, .int th, .int wa, .int ta, .int lf, .double ou, .double er, .int ce, .int cd, .int rs]))] sz)) 0 0 (va_A [(o3, .inr (3, [.ref o1, .ref af, .int (nI nf)])), (af, aF q 6 (fun j => if j < nf then some (oa j) else none)), ((oa fx), .inr (0, [.int kd, .ref aw, .ref ae, sq, .int th, .int wa, .int ta, .int lf, .double ou, .double er, .int ce, .int cd, .int rs]))] sz) := by
  refine Met.ofW (cc := cX3_count) (maxL := 4) (ret := (some .int)) (by decide +kernel) rfl ?_
  intro p e s m args below meth c s₁ B hml hv
  obtain ⟨rfl, hsz, hP, hK, hD0, hNF⟩ := hv
  have hx := B.exec
  have hb := B.bytes
  have hr := B.returns
  have hts := atoms_spec (ws := wsX3_count) B.pre
  have hown : s.vm.findClass RX3 = some m.cls := findClass_of_methodNamed B.named
  have hlocks := B.notSynchronized
  subst hsz
  have hD := hD0.self (sz := s.heap.size)
  generalize hAe : va_A [(o3, .inr (3, [.ref o1, .ref af, .int (nI nf)])), (af, aF q 6 (fun j => if j < nf then some (oa j) else none)), ((oa fx), .inr (0, [.int kd, .ref aw, .ref ae, sq, .int th, .int wa, .int ta, .int lf, .double ou, .double er, .int ce, .int cd, .int rs]))] s.heap.size = A at hD ⊢
  have hA : ∀ q : Nat, s.heap.size ≤ q → A q := fun q h => by rw [← hAe]; exact Or.inr h
  have hS : va_S A s.heap s.heap [] := va_S.rf
  have hP : va_P G vwCl [(o3, .inr (3, [.ref o1, .ref af, .int (nI nf)])), (af, aF q 6 (fun j => if j < nf then some (oa j) else none)), ((oa fx), .inr (0, [.int kd, .ref aw, .ref ae, sq, .int th, .int wa, .int ta, .int lf, .double ou, .double er, .int ce, .int cd, .int rs]))] s.heap := hP
  have hl := lv_entry ([.ref o3, .int (nI fx), .int 2]) (n := 4) (Nat.le_of_ble_eq_true rfl)
  rw [lg_entry_eq]
  generalize (lg_sl ([.ref o3, .int (nI fx), .int 2]) ++ List.replicate (4 - (lg_sl ([.ref o3, .int (nI fx), .int 2])).length) Slot.unset).toArray = ls at hl ⊢
  have hl : lv_has ls 4 [(0, .ref o3), (1, .int (nI fx)), (2, .int 2)] := hl
  refine lv_aload_n hx hb dX3_count_0 rfl (lv_at hl 0 rfl) ?_
  refine lv_iload_n hx hb dX3_count_1 rfl (lv_at hl 1 rfl) ?_
  have hPc := hP.sub (ws' := [(o3, .inr (3, [.ref o1, .ref af, .int (nI nf)])), (af, aF q 6 (fun j => if j < nf then some (oa j) else none))]) [0, 1] rfl
  have hDc := hD.sub (ws' := [(o3, .inr (3, [.ref o1, .ref af, .int (nI nf)])), (af, aF q 6 (fun j => if j < nf then some (oa j) else none))]) [0, 1] (by decide) rfl
  have hFc := va_free (wc := [(o3, .inr (3, [.ref o1, .ref af, .int (nI nf)])), (af, aF q 6 (fun j => if j < nf then some (oa j) else none))]) hD hS hA [0, 1] rfl
  refine va_callq (va_runV (As := [.int (nI fx)]) (rest := []) ⟨hx, hb, hml, hown, hts⟩ (m_X3_numbered l G q s.heap.size o3 o1 af nf oa fx hnf hfx) (cwV 1 hts gX3_count_X3_numbered rfl rfl rfl (by decide +kernel) ⟨Nat.le_of_ble_eq_true rfl, Nat.le_of_ble_eq_true rfl⟩) ⟨preW_blind, (va_recv hK hPc (ci := 3) (q0 := 0) rfl rfl), preW_start hPc hK hDc hNF⟩ rfl rfl hl.1 rfl (lv_room (Nat.le_of_ble_eq_true rfl)) dX3_count_2 ⟨(Nat.zero_le _), (Nat.zero_le _)⟩) hS (fun q _ h => hFc q h) hFc (fun fr1 u9 t9 H1 locs ht9 hv9 hw hB9 hz9 hk9 hS => ?_)
  obtain ⟨⟩ := u9
  obtain ⟨hP1, hD1⟩ := hB9
  rw [ht9] at hP1
  obtain ⟨hP, hD⟩ := va_join (wr := [((oa fx), .inr (0, [.int kd, .ref aw, .ref ae, sq, .int th, .int wa, .int ta, .int lf, .double ou, .double er, .int ce, .int cd, .int rs]))]) (w1 := [(o3, .inr (3, [.ref o1, .ref af, .int (nI nf)])), (af, aF q 6 (fun j => if j < nf then some (oa j) else none))]) hP hD [0, 1] [2] rfl rfl (by decide) (by decide) hk9 hFc hP1 hD1
  generalize H1 = H at hP hS ⊢
  have hP : va_P G vwCl [((oa fx), .inr (0, [.int kd, .ref aw, .ref ae, sq, .int th, .int wa, .int ta, .int lf, .double ou, .double er, .int ce, .int cd, .int rs])), (o3, .inr (3, [.ref o1, .ref af, .int (nI nf)])), (af, aF q 6 (fun j => if j < nf then some (oa j) else none))] H := hP
  have hD : va_D A [((oa fx), .inr (0, [.int kd, .ref aw, .ref ae, sq, .int th, .int wa, .int ta, .int lf, .double ou, .double er, .int ce, .int cd, .int rs])), (o3, .inr (3, [.ref o1, .ref af, .int (nI nf)])), (af, aF q 6 (fun j => if j < nf then some (oa j) else none))] := hD
  obtain rfl : fr1 = some (oa fx) := hw
  refine lv_astore_n (lv' := [(3, .ref (oa fx)), (0, .ref o3), (1, .int (nI fx)), (2, .int 2)]) hx hb dX3_count_5 rfl hl (by decide) rfl (fun ls hl => ?_)
  refine lv_aload_n hx hb dX3_count_6 rfl (lv_at hl 0 rfl) ?_
  refine lv_ifnonnull (tgt := 20) hx hb dX3_count_7 (by decide) ?_
  refine lv_iload_n hx hb dX3_count_20 rfl (lv_at hl 3 rfl) ?_
  refine lv_tableIn (off := 41) (tgt := 62) hx hb dX3_count_21 (by decide) (by decide) (by decide) (by decide) ?_
  refine lv_aload_n hx hb dX3_count_62 rfl (lv_at hl 0 rfl) ?_
  refine va_getN (D := G) (ci := 0) (v := .int rs) (C := RX0) (T := TX0) (N := 13) hx hb hts in_X3_count_X0 hown hK hP 0 rfl rfl 12 (by decide) (va_Nw.use rfl (hNF.1 (.fieldLinkNest RX3 133 "EchoBench$Filter" "resets" "I" "EchoBench") (by decide +kernel))) (fun _ h9 => h9) rfl dX3_count_63 ?_
  have hP := hP.sub (ws' := [(o3, .inr (3, [.ref o1, .ref af, .int (nI nf)])), (af, aF q 6 (fun j => if j < nf then some (oa j) else none)), ((oa fx), .inr (0, [.int kd, .ref aw, .ref ae, sq, .int th, .int wa, .int ta, .int lf, .double ou, .double er, .int ce, .int cd, .int rs]))]) [1, 2, 0] rfl
  have hD := hD.sub (ws' := [(o3, .inr (3, [.ref o1, .ref af, .int (nI nf)])), (af, aF q 6 (fun j => if j < nf then some (oa j) else none)), ((oa fx), .inr (0, [.int kd, .ref aw, .ref ae, sq, .int th, .int wa, .int ta, .int lf, .double ou, .double er, .int ce, .int cd, .int rs]))]) [1, 2, 0] (by decide) rfl
  have hP9 := hP
  have hD9 := hD
  exact W.iret (v := rs) hx hb hr (fun t ht hW => ⟨⟨rs, (), rfl, rfl, by rw [ht]; exact hP9, hD9⟩, hS.F ht⟩) hS.2.2 dX3_count_66

set_option maxHeartbeats 4000000 in
set_option maxRecDepth 100000 in
/-- count: where it returns -/
theorem m_X3_count3 (l : Launch) (G : va_G) (q : Nat → ClassId) (sz : Nat) (o3 o1 af nf : Nat) (oa : Nat → Nat) (fx n aw ae : Nat) (sq : Value) (kd th wa ta lf ce cd rs : Int32) (ou er : UInt64) (hnf : nf ≤ 6) (hfx : fx < nf) : Met l yX3_count wsX3_count ({ frames := 1, cells := 0, slots := 0, locals := 21 } : Jvm.Room) (PreW G q [.ref o3, .int (nI fx), .int 3] [(o3, .inr (3, [.ref o1, .ref af, .int (nI nf)])), (af, aF q 6 (fun j => if j < nf then some (oa j) else none)), ((oa fx), .inr (0, [.int kd, .ref aw, .ref ae, sq, .int th, .int wa, .int ta, .int lf, .double ou, .double er, .int ce, .int cd, .int rs]))] sz) (va_Qi (fun (r : Int32) (_ : Unit) => r = lf) (fun (_ : Unit) t => EndA G (va_A [(o3, .inr (3, [.ref o1, .ref af, .int (nI nf)])), (af, aF q 6 (fun j => if j < nf then some (oa j) else none)), ((oa fx), .inr (0, [.int kd, .ref aw, .ref ae, sq, .int th, .int wa, .int ta, .int lf, .double ou, .double er, .int ce, .int cd, .int rs]))] sz) [(o3, .inr (3, [.ref o1, .ref af, .int (nI nf)])), (af, aF q 6 (fun j => if j < nf then some (oa j) else none)), ((oa fx), .inr (0, [.int kd, .ref aw, .ref ae, sq, .int th, .int wa, .int ta, .int lf, .double ou, .double er, .int ce, .int cd, .int rs]))] t) (va_A [(o3, .inr (3, [.ref o1, .ref af, .int (nI nf)])), (af, aF q 6 (fun j => if j < nf then some (oa j) else none)), ((oa fx), .inr (0, [.int kd, .ref aw, .ref ae, sq, .int th, .int wa, .int ta, .int lf, .double ou, .double er, .int ce, .int cd, .int rs]))] sz)) 0 0 (va_A [(o3, .inr (3, [.ref o1, .ref af, .int (nI nf)])), (af, aF q 6 (fun j => if j < nf then some (oa j) else none)), ((oa fx), .inr (0, [.int kd, .ref aw, .ref ae, sq, .int th, .int wa, .int ta, .int lf, .double ou, .double er, .int ce, .int cd, .int rs]))] sz) := by
  refine Met.ofW (cc := cX3_count) (maxL := 4) (ret := (some .int)) (by decide +kernel) rfl ?_
  intro p e s m args below meth c s₁ B hml hv
  obtain ⟨rfl, hsz, hP, hK, hD0, hNF⟩ := hv
  have hx := B.exec
  have hb := B.bytes
  have hr := B.returns
  have hts := atoms_spec (ws := wsX3_count) B.pre
  have hown : s.vm.findClass RX3 = some m.cls := findClass_of_methodNamed B.named
  have hlocks := B.notSynchronized
  subst hsz
  have hD := hD0.self (sz := s.heap.size)
  generalize hAe : va_A [(o3, .inr (3, [.ref o1, .ref af, .int (nI nf)])), (af, aF q 6 (fun j => if j < nf then some (oa j) else none)), ((oa fx), .inr (0, [.int kd, .ref aw, .ref ae, sq, .int th, .int wa, .int ta, .int lf, .double ou, .double er, .int ce, .int cd, .int rs]))] s.heap.size = A at hD ⊢
  have hA : ∀ q : Nat, s.heap.size ≤ q → A q := fun q h => by rw [← hAe]; exact Or.inr h
  have hS : va_S A s.heap s.heap [] := va_S.rf
  have hP : va_P G vwCl [(o3, .inr (3, [.ref o1, .ref af, .int (nI nf)])), (af, aF q 6 (fun j => if j < nf then some (oa j) else none)), ((oa fx), .inr (0, [.int kd, .ref aw, .ref ae, sq, .int th, .int wa, .int ta, .int lf, .double ou, .double er, .int ce, .int cd, .int rs]))] s.heap := hP
  have hl := lv_entry ([.ref o3, .int (nI fx), .int 3]) (n := 4) (Nat.le_of_ble_eq_true rfl)
  rw [lg_entry_eq]
  generalize (lg_sl ([.ref o3, .int (nI fx), .int 3]) ++ List.replicate (4 - (lg_sl ([.ref o3, .int (nI fx), .int 3])).length) Slot.unset).toArray = ls at hl ⊢
  have hl : lv_has ls 4 [(0, .ref o3), (1, .int (nI fx)), (2, .int 3)] := hl
  refine lv_aload_n hx hb dX3_count_0 rfl (lv_at hl 0 rfl) ?_
  refine lv_iload_n hx hb dX3_count_1 rfl (lv_at hl 1 rfl) ?_
  have hPc := hP.sub (ws' := [(o3, .inr (3, [.ref o1, .ref af, .int (nI nf)])), (af, aF q 6 (fun j => if j < nf then some (oa j) else none))]) [0, 1] rfl
  have hDc := hD.sub (ws' := [(o3, .inr (3, [.ref o1, .ref af, .int (nI nf)])), (af, aF q 6 (fun j => if j < nf then some (oa j) else none))]) [0, 1] (by decide) rfl
  have hFc := va_free (wc := [(o3, .inr (3, [.ref o1, .ref af, .int (nI nf)])), (af, aF q 6 (fun j => if j < nf then some (oa j) else none))]) hD hS hA [0, 1] rfl
  refine va_callq (va_runV (As := [.int (nI fx)]) (rest := []) ⟨hx, hb, hml, hown, hts⟩ (m_X3_numbered l G q s.heap.size o3 o1 af nf oa fx hnf hfx) (cwV 1 hts gX3_count_X3_numbered rfl rfl rfl (by decide +kernel) ⟨Nat.le_of_ble_eq_true rfl, Nat.le_of_ble_eq_true rfl⟩) ⟨preW_blind, (va_recv hK hPc (ci := 3) (q0 := 0) rfl rfl), preW_start hPc hK hDc hNF⟩ rfl rfl hl.1 rfl (lv_room (Nat.le_of_ble_eq_true rfl)) dX3_count_2 ⟨(Nat.zero_le _), (Nat.zero_le _)⟩) hS (fun q _ h => hFc q h) hFc (fun fr1 u9 t9 H1 locs ht9 hv9 hw hB9 hz9 hk9 hS => ?_)
  obtain ⟨⟩ := u9
  obtain ⟨hP1, hD1⟩ := hB9
  rw [ht9] at hP1
  obtain ⟨hP, hD⟩ := va_join (wr := [((oa fx), .inr (0, [.int kd, .ref aw, .ref ae, sq, .int th, .int wa, .int ta, .int lf, .double ou, .double er, .int ce, .int cd, .int rs]))]) (w1 := [(o3, .inr (3, [.ref o1, .ref af, .int (nI nf)])), (af, aF q 6 (fun j => if j < nf then some (oa j) else none))]) hP hD [0, 1] [2] rfl rfl (by decide) (by decide) hk9 hFc hP1 hD1
  generalize H1 = H at hP hS ⊢
  have hP : va_P G vwCl [((oa fx), .inr (0, [.int kd, .ref aw, .ref ae, sq, .int th, .int wa, .int ta, .int lf, .double ou, .double er, .int ce, .int cd, .int rs])), (o3, .inr (3, [.ref o1, .ref af, .int (nI nf)])), (af, aF q 6 (fun j => if j < nf then some (oa j) else none))] H := hP
  have hD : va_D A [((oa fx), .inr (0, [.int kd, .ref aw, .ref ae, sq, .int th, .int wa, .int ta, .int lf, .double ou, .double er, .int ce, .int cd, .int rs])), (o3, .inr (3, [.ref o1, .ref af, .int (nI nf)])), (af, aF q 6 (fun j => if j < nf then some (oa j) else none))] := hD
  obtain rfl : fr1 = some (oa fx) := hw
  refine lv_astore_n (lv' := [(3, .ref (oa fx)), (0, .ref o3), (1, .int (nI fx)), (2, .int 3)]) hx hb dX3_count_5 rfl hl (by decide) rfl (fun ls hl => ?_)
  refine lv_aload_n hx hb dX3_count_6 rfl (lv_at hl 0 rfl) ?_
  refine lv_ifnonnull (tgt := 20) hx hb dX3_count_7 (by decide) ?_
  refine lv_iload_n hx hb dX3_count_20 rfl (lv_at hl 3 rfl) ?_
  refine lv_tableIn (off := 46) (tgt := 67) hx hb dX3_count_21 (by decide) (by decide) (by decide) (by decide) ?_
  refine lv_aload_n hx hb dX3_count_67 rfl (lv_at hl 0 rfl) ?_
  refine va_getN (D := G) (ci := 0) (v := .int lf) (C := RX0) (T := TX0) (N := 13) hx hb hts in_X3_count_X0 hown hK hP 0 rfl rfl 7 (by decide) (va_Nw.use rfl (hNF.1 (.fieldLinkNest RX3 136 "EchoBench$Filter" "holdsLeft" "I" "EchoBench") (by decide +kernel))) (fun _ h9 => h9) rfl dX3_count_68 ?_
  have hP := hP.sub (ws' := [(o3, .inr (3, [.ref o1, .ref af, .int (nI nf)])), (af, aF q 6 (fun j => if j < nf then some (oa j) else none)), ((oa fx), .inr (0, [.int kd, .ref aw, .ref ae, sq, .int th, .int wa, .int ta, .int lf, .double ou, .double er, .int ce, .int cd, .int rs]))]) [1, 2, 0] rfl
  have hD := hD.sub (ws' := [(o3, .inr (3, [.ref o1, .ref af, .int (nI nf)])), (af, aF q 6 (fun j => if j < nf then some (oa j) else none)), ((oa fx), .inr (0, [.int kd, .ref aw, .ref ae, sq, .int th, .int wa, .int ta, .int lf, .double ou, .double er, .int ce, .int cd, .int rs]))]) [1, 2, 0] (by decide) rfl
  have hP9 := hP
  have hD9 := hD
  exact W.iret (v := lf) hx hb hr (fun t ht hW => ⟨⟨lf, (), rfl, rfl, by rw [ht]; exact hP9, hD9⟩, hS.F ht⟩) hS.2.2 dX3_count_71

theorem in_X3_of_X0 : ∀ w ∈ wsX00, w ∈ wsX3_of := by decide +kernel
set_option maxHeartbeats 4000000 in
set_option maxRecDepth 100000 in
/-- of: where it returns -/
theorem m_X3_of0 (l : Launch) (G : va_G) (q : Nat → ClassId) (sz : Nat) (o3 o1 af nf : Nat) (oa : Nat → Nat) (fx n aw ae : Nat) (sq : Value) (kd th wa ta lf ce cd rs : Int32) (ou er : UInt64) (hnf : nf ≤ 6) (hfx : fx < nf) : Met l yX3_of wsX3_of ({ frames := 1, cells := 0, slots := 0, locals := 21 } : Jvm.Room) (PreW G q [.ref o3, .int (nI fx), .int 0] [(o3, .inr (3, [.ref o1, .ref af, .int (nI nf)])), (af, aF q 6 (fun j => if j < nf then some (oa j) else none)), ((oa fx), .inr (0, [.int kd, .ref aw, .ref ae, sq, .int th, .int wa, .int ta, .int lf, .double ou, .double er, .int ce, .int cd, .int rs]))] sz) (va_Qd (fun (r : UInt64) (_ : Unit) => r = ou) (fun (_ : Unit) t => EndA G (va_A [(o3, .inr (3, [.ref o1, .ref af, .int (nI nf)])), (af, aF q 6 (fun j => if j < nf then some (oa j) else none)), ((oa fx), .inr (0, [.int kd, .ref aw, .ref ae, sq, .int th, .int wa, .int ta, .int lf, .double ou, .double er, .int ce, .int cd, .int rs]))] sz) [(o3, .inr (3, [.ref o1, .ref af, .int (nI nf)])), (af, aF q 6 (fun j => if j < nf then some (oa j) else none)), ((oa fx), .inr (0, [.int kd, .ref aw, .ref ae, sq, .int th, .int wa, .int ta, .int lf, .double ou, .double er, .int ce, .int cd, .int rs]))] t) (va_A [(o3, .inr (3, [.ref o1, .ref af, .int (nI nf)])), (af, aF q 6 (fun j => if j < nf then some (oa j) else none)), ((oa fx), .inr (0, [.int kd, .ref aw, .ref ae, sq, .int th, .int wa, .int ta, .int lf, .double ou, .double er, .int ce, .int cd, .int rs]))] sz)) 0 0 (va_A [(o3, .inr (3, [.ref o1, .ref af, .int (nI nf)])), (af, aF q 6 (fun j => if j < nf then some (oa j) else none)), ((oa fx), .inr (0, [.int kd, .ref aw, .ref ae, sq, .int th, .int wa, .int ta, .int lf, .double ou, .double er, .int ce, .int cd, .int rs]))] sz) := by
  refine Met.ofW (cc := cX3_of) (maxL := 4) (ret := (some .double)) (by decide +kernel) rfl ?_
  intro p e s m args below meth c s₁ B hml hv
  obtain ⟨rfl, hsz, hP, hK, hD0, hNF⟩ := hv
  have hx := B.exec
  have hb := B.bytes
  have hr := B.returns
  have hts := atoms_spec (ws := wsX3_of) B.pre
  have hown : s.vm.findClass RX3 = some m.cls := findClass_of_methodNamed B.named
  have hlocks := B.notSynchronized
  subst hsz
  have hD := hD0.self (sz := s.heap.size)
  generalize hAe : va_A [(o3, .inr (3, [.ref o1, .ref af, .int (nI nf)])), (af, aF q 6 (fun j => if j < nf then some (oa j) else none)), ((oa fx), .inr (0, [.int kd, .ref aw, .ref ae, sq, .int th, .int wa, .int ta, .int lf, .double ou, .double er, .int ce, .int cd, .int rs]))] s.heap.size = A at hD ⊢
  have hA : ∀ q : Nat, s.heap.size ≤ q → A q := fun q h => by rw [← hAe]; exact Or.inr h
  have hS : va_S A s.heap s.heap [] := va_S.rf
  have hP : va_P G vwCl [(o3, .inr (3, [.ref o1, .ref af, .int (nI nf)])), (af, aF q 6 (fun j => if j < nf then some (oa j) else none)), ((oa fx), .inr (0, [.int kd, .ref aw, .ref ae, sq, .int th, .int wa, .int ta, .int lf, .double ou, .double er, .int ce, .int cd, .int rs]))] s.heap := hP
  have hl := lv_entry ([.ref o3, .int (nI fx), .int 0]) (n := 4) (Nat.le_of_ble_eq_true rfl)
  rw [lg_entry_eq]
  generalize (lg_sl ([.ref o3, .int (nI fx), .int 0]) ++ List.replicate (4 - (lg_sl ([.ref o3, .int (nI fx), .int 0])).length) Slot.unset).toArray = ls at hl ⊢
  have hl : lv_has ls 4 [(0, .ref o3), (1, .int (nI fx)), (2, .int 0)] := hl
  refine lv_aload_n hx hb dX3_of_0 rfl (lv_at hl 0 rfl) ?_
  refine lv_iload_n hx hb dX3_of_1 rfl (lv_at hl 1 rfl) ?_
  have hPc := hP.sub (ws' := [(o3, .inr (3, [.ref o1, .ref af, .int (nI nf)])), (af, aF q 6 (fun j => if j < nf then some (oa j) else none))]) [0, 1] rfl
  have hDc := hD.sub (ws' := [(o3, .inr (3, [.ref o1, .ref af, .int (nI nf)])), (af, aF q 6 (fun j => if j < nf then some (oa j) else none))]) [0, 1] (by decide) rfl
  have hFc := va_free (wc := [(o3, .inr (3, [.ref o1, .ref af, .int (nI nf)])), (af, aF q 6 (fun j => if j < nf then some (oa j) else none))]) hD hS hA [0, 1] rfl
  refine va_callq (va_runV (As := [.int (nI fx)]) (rest := []) ⟨hx, hb, hml, hown, hts⟩ (m_X3_numbered l G q s.heap.size o3 o1 af nf oa fx hnf hfx) (cwV 1 hts gX3_of_X3_numbered rfl rfl rfl (by decide +kernel) ⟨Nat.le_of_ble_eq_true rfl, Nat.le_of_ble_eq_true rfl⟩) ⟨preW_blind, (va_recv hK hPc (ci := 3) (q0 := 0) rfl rfl), preW_start hPc hK hDc hNF⟩ rfl rfl hl.1 rfl (lv_room (Nat.le_of_ble_eq_true rfl)) dX3_of_2 ⟨(Nat.zero_le _), (Nat.zero_le _)⟩) hS (fun q _ h => hFc q h) hFc (fun fr1 u9 t9 H1 locs ht9 hv9 hw hB9 hz9 hk9 hS => ?_)
  obtain ⟨⟩ := u9
  obtain ⟨hP1, hD1⟩ := hB9
  rw [ht9] at hP1
  obtain ⟨hP, hD⟩ := va_join (wr := [((oa fx), .inr (0, [.int kd, .ref aw, .ref ae, sq, .int th, .int wa, .int ta, .int lf, .double ou, .double er, .int ce, .int cd, .int rs]))]) (w1 := [(o3, .inr (3, [.ref o1, .ref af, .int (nI nf)])), (af, aF q 6 (fun j => if j < nf then some (oa j) else none))]) hP hD [0, 1] [2] rfl rfl (by decide) (by decide) hk9 hFc hP1 hD1
  generalize H1 = H at hP hS ⊢
  have hP : va_P G vwCl [((oa fx), .inr (0, [.int kd, .ref aw, .ref ae, sq, .int th, .int wa, .int ta, .int lf, .double ou, .double er, .int ce, .int cd, .int rs])), (o3, .inr (3, [.ref o1, .ref af, .int (nI nf)])), (af, aF q 6 (fun j => if j < nf then some (oa j) else none))] H := hP
  have hD : va_D A [((oa fx), .inr (0, [.int kd, .ref aw, .ref ae, sq, .int th, .int wa, .int ta, .int lf, .double ou, .double er, .int ce, .int cd, .int rs])), (o3, .inr (3, [.ref o1, .ref af, .int (nI nf)])), (af, aF q 6 (fun j => if j < nf then some (oa j) else none))] := hD
  obtain rfl : fr1 = some (oa fx) := hw
  refine lv_astore_n (lv' := [(3, .ref (oa fx)), (0, .ref o3), (1, .int (nI fx)), (2, .int 0)]) hx hb dX3_of_5 rfl hl (by decide) rfl (fun ls hl => ?_)
  refine lv_aload_n hx hb dX3_of_6 rfl (lv_at hl 0 rfl) ?_
  refine lv_ifnonnull (tgt := 20) hx hb dX3_of_7 (by decide) ?_
  refine lv_iload_n hx hb dX3_of_20 rfl (lv_at hl 3 rfl) ?_
  refine lv_tableIn (off := 31) (tgt := 52) hx hb dX3_of_21 (by decide) (by decide) (by decide) (by decide) ?_
  refine lv_aload_n hx hb dX3_of_52 rfl (lv_at hl 0 rfl) ?_
  refine va_getN (D := G) (ci := 0) (v := .double ou) (C := RX0) (T := TX0) (N := 13) hx hb hts in_X3_of_X0 hown hK hP 0 rfl rfl 8 (by decide) (va_Nw.use rfl (hNF.1 (.fieldLinkNest RX3 110 "EchoBench$Filter" "output" "D" "EchoBench") (by decide +kernel))) (fun _ h9 => h9) rfl dX3_of_53 ?_
  have hP := hP.sub (ws' := [(o3, .inr (3, [.ref o1, .ref af, .int (nI nf)])), (af, aF q 6 (fun j => if j < nf then some (oa j) else none)), ((oa fx), .inr (0, [.int kd, .ref aw, .ref ae, sq, .int th, .int wa, .int ta, .int lf, .double ou, .double er, .int ce, .int cd, .int rs]))]) [1, 2, 0] rfl
  have hD := hD.sub (ws' := [(o3, .inr (3, [.ref o1, .ref af, .int (nI nf)])), (af, aF q 6 (fun j => if j < nf then some (oa j) else none)), ((oa fx), .inr (0, [.int kd, .ref aw, .ref ae, sq, .int th, .int wa, .int ta, .int lf, .double ou, .double er, .int ce, .int cd, .int rs]))]) [1, 2, 0] (by decide) rfl
  have hP9 := hP
  have hD9 := hD
  exact W.dret (v := ou) hx hb hr (fun t ht hW => ⟨⟨ou, (), rfl, rfl, by rw [ht]; exact hP9, hD9⟩, hS.F ht⟩) hS.2.2 dX3_of_56

set_option maxHeartbeats 4000000 in
set_option maxRecDepth 100000 in
/-- of: where it returns -/
theorem m_X3_of1 (l : Launch) (G : va_G) (q : Nat → ClassId) (sz : Nat) (o3 o1 af nf : Nat) (oa : Nat → Nat) (fx n aw ae : Nat) (sq : Value) (kd th wa ta lf ce cd rs : Int32) (ou er : UInt64) (hnf : nf ≤ 6) (hfx : fx < nf) : Met l yX3_of wsX3_of ({ frames := 1, cells := 0, slots := 0, locals := 21 } : Jvm.Room) (PreW G q [.ref o3, .int (nI fx), .int 1] [(o3, .inr (3, [.ref o1, .ref af, .int (nI nf)])), (af, aF q 6 (fun j => if j < nf then some (oa j) else none)), ((oa fx), .inr (0, [.int kd, .ref aw, .ref ae, sq, .int th, .int wa, .int ta, .int lf, .double ou, .double er, .int ce, .int cd, .int rs]))] sz) (va_Qd (fun (r : UInt64) (_ : Unit) => r = er) (fun (_ : Unit) t => EndA G (va_A [(o3, .inr (3, [.ref o1, .ref af, .int (nI nf)])), (af, aF q 6 (fun j => if j < nf then some (oa j) else none)), ((oa fx), .inr (0, [.int kd, .ref aw, .ref ae, sq, .int th, .int wa, .int ta, .int lf, .double ou, .double er, .int ce, .int cd, .int rs]))] sz) [(o3, .inr (3, [.ref o1, .ref af, .int (nI nf)])), (af, aF q 6 (fun j => if j < nf then some (oa j) else none)), ((oa fx), .inr (0, [.int kd, .ref aw, .ref ae, sq, .int th, .int wa, .int ta, .int lf, .double ou, .double er, .int ce, .int cd, .int rs]))] t) (va_A [(o3, .inr (3, [.ref o1, .ref af, .int (nI nf)])), (af, aF q 6 (fun j => if j < nf then some (oa j) else none)), ((oa fx), .inr (0, [.int kd, .ref aw, .ref ae, sq, .int th, .int wa, .int ta, .int lf, .double ou, .double er, .int ce, .int cd, .int rs]))] sz)) 0 0 (va_A [(o3, .inr (3, [.ref o1, .ref af, .int (nI nf)])), (af, aF q 6 (fun j => if j < nf then some (oa j) else none)), ((oa fx), .inr (0, [.int kd, .ref aw, .ref ae, sq, .int th, .int wa, .int ta, .int lf, .double ou, .double er, .int ce, .int cd, .int rs]))] sz) := by
  refine Met.ofW (cc := cX3_of) (maxL := 4) (ret := (some .double)) (by decide +kernel) rfl ?_
  intro p e s m args below meth c s₁ B hml hv
  obtain ⟨rfl, hsz, hP, hK, hD0, hNF⟩ := hv
  have hx := B.exec
  have hb := B.bytes
  have hr := B.returns
  have hts := atoms_spec (ws := wsX3_of) B.pre
  have hown : s.vm.findClass RX3 = some m.cls := findClass_of_methodNamed B.named
  have hlocks := B.notSynchronized
  subst hsz
  have hD := hD0.self (sz := s.heap.size)
  generalize hAe : va_A [(o3, .inr (3, [.ref o1, .ref af, .int (nI nf)])), (af, aF q 6 (fun j => if j < nf then some (oa j) else none)), ((oa fx), .inr (0, [.int kd, .ref aw, .ref ae, sq, .int th, .int wa, .int ta, .int lf, .double ou, .double er, .int ce, .int cd, .int rs]))] s.heap.size = A at hD ⊢
  have hA : ∀ q : Nat, s.heap.size ≤ q → A q := fun q h => by rw [← hAe]; exact Or.inr h
  have hS : va_S A s.heap s.heap [] := va_S.rf
  have hP : va_P G vwCl [(o3, .inr (3, [.ref o1, .ref af, .int (nI nf)])), (af, aF q 6 (fun j => if j < nf then some (oa j) else none)), ((oa fx), .inr (0, [.int kd, .ref aw, .ref ae, sq, .int th, .int wa, .int ta, .int lf, .double ou, .double er, .int ce, .int cd, .int rs]))] s.heap := hP
  have hl := lv_entry ([.ref o3, .int (nI fx), .int 1]) (n := 4) (Nat.le_of_ble_eq_true rfl)
  rw [lg_entry_eq]
  generalize (lg_sl ([.ref o3, .int (nI fx), .int 1]) ++ List.replicate (4 - (lg_sl ([.ref o3, .int (nI fx), .int 1])).length) Slot.unset).toArray = ls at hl ⊢
  have hl : lv_has ls 4 [(0, .ref o3), (1, .int (nI fx)), (2, .int 1)] := hl
  refine lv_aload_n hx hb dX3_of_0 rfl (lv_at hl 0 rfl) ?_
  refine lv_iload_n hx hb dX3_of_1 rfl (lv_at hl 1 rfl) ?_
  have hPc := hP.sub (ws' := [(o3, .inr (3, [.ref o1, .ref af, .int (nI nf)])), (af, aF q 6 (fun j => if j < nf then some (oa j) else none))]) [0, 1] rfl
  have hDc := hD.sub (ws' := [(o3, .inr (3, [.ref o1, .ref af, .int (nI nf)])), (af, aF q 6 (fun j => if j < nf then some (oa j) else none))]) [0, 1] (by decide) rfl
  have hFc := va_free (wc := [(o3, .inr (3, [.ref o1, .ref af, .int (nI nf)])), (af, aF q 6 (fun j => if j < nf then some (oa j) else none))]) hD hS hA [0, 1] rfl
  refine va_callq (va_runV (As := [.int (nI fx)]) (rest := []) ⟨hx, hb, hml, hown, hts⟩ (m_X3_numbered l G q s.heap.size o3 o1 af nf oa fx hnf hfx) (cwV 1 hts gX3_of_X3_numbered rfl rfl rfl (by decide +kernel) ⟨Nat.le_of_ble_eq_true rfl, Nat.le_of_ble_eq_true rfl⟩) ⟨preW_blind, (va_recv hK hPc (ci := 3) (q0 := 0) rfl rfl), preW_start hPc hK hDc hNF⟩ rfl rfl hl.1 rfl (lv_room (Nat.le_of_ble_eq_true rfl)) dX3_of_2 ⟨(Nat.zero_le _), (Nat.zero_le _)⟩) hS (fun q _ h => hFc q h) hFc (fun fr1 u9 t9 H1 locs ht9 hv9 hw hB9 hz9 hk9 hS => ?_)
  obtain ⟨⟩ := u9
  obtain ⟨hP1, hD1⟩ := hB9
  rw [ht9] at hP1
  obtain ⟨hP, hD⟩ := va_join (wr := [((oa fx), .inr (0, [.int kd, .ref aw, .ref ae, sq, .int th, .int wa, .int ta, .int lf, .double ou, .double er, .int ce, .int cd, .int rs]))]) (w1 := [(o3, .inr (3, [.ref o1, .ref af, .int (nI nf)])), (af, aF q 6 (fun j => if j < nf then some (oa j) else none))]) hP hD [0, 1] [2] rfl rfl (by decide) (by decide) hk9 hFc hP1 hD1
  generalize H1 = H at hP hS ⊢
  have hP : va_P G vwCl [((oa fx), .inr (0, [.int kd, .ref aw, .ref ae, sq, .int th, .int wa, .int ta, .int lf, .double ou, .double er, .int ce, .int cd, .int rs])), (o3, .inr (3, [.ref o1, .ref af, .int (nI nf)])), (af, aF q 6 (fun j => if j < nf then some (oa j) else none))] H := hP
  have hD : va_D A [((oa fx), .inr (0, [.int kd, .ref aw, .ref ae, sq, .int th, .int wa, .int ta, .int lf, .double ou, .double er, .int ce, .int cd, .int rs])), (o3, .inr (3, [.ref o1, .ref af, .int (nI nf)])), (af, aF q 6 (fun j => if j < nf then some (oa j) else none))] := hD
  obtain rfl : fr1 = some (oa fx) := hw
  refine lv_astore_n (lv' := [(3, .ref (oa fx)), (0, .ref o3), (1, .int (nI fx)), (2, .int 1)]) hx hb dX3_of_5 rfl hl (by decide) rfl (fun ls hl => ?_)
  refine lv_aload_n hx hb dX3_of_6 rfl (lv_at hl 0 rfl) ?_
  refine lv_ifnonnull (tgt := 20) hx hb dX3_of_7 (by decide) ?_
  refine lv_iload_n hx hb dX3_of_20 rfl (lv_at hl 3 rfl) ?_
  refine lv_tableIn (off := 36) (tgt := 57) hx hb dX3_of_21 (by decide) (by decide) (by decide) (by decide) ?_
  refine lv_aload_n hx hb dX3_of_57 rfl (lv_at hl 0 rfl) ?_
  refine va_getN (D := G) (ci := 0) (v := .double er) (C := RX0) (T := TX0) (N := 13) hx hb hts in_X3_of_X0 hown hK hP 0 rfl rfl 9 (by decide) (va_Nw.use rfl (hNF.1 (.fieldLinkNest RX3 114 "EchoBench$Filter" "error" "D" "EchoBench") (by decide +kernel))) (fun _ h9 => h9) rfl dX3_of_58 ?_
  have hP := hP.sub (ws' := [(o3, .inr (3, [.ref o1, .ref af, .int (nI nf)])), (af, aF q 6 (fun j => if j < nf then some (oa j) else none)), ((oa fx), .inr (0, [.int kd, .ref aw, .ref ae, sq, .int th, .int wa, .int ta, .int lf, .double ou, .double er, .int ce, .int cd, .int rs]))]) [1, 2, 0] rfl
  have hD := hD.sub (ws' := [(o3, .inr (3, [.ref o1, .ref af, .int (nI nf)])), (af, aF q 6 (fun j => if j < nf then some (oa j) else none)), ((oa fx), .inr (0, [.int kd, .ref aw, .ref ae, sq, .int th, .int wa, .int ta, .int lf, .double ou, .double er, .int ce, .int cd, .int rs]))]) [1, 2, 0] (by decide) rfl
  have hP9 := hP
  have hD9 := hD
  exact W.dret (v := er) hx hb hr (fun t ht hW => ⟨⟨er, (), rfl, rfl, by rw [ht]; exact hP9, hD9⟩, hS.F ht⟩) hS.2.2 dX3_of_61

theorem in_X3_microphone_X1 : ∀ w ∈ wsX10, w ∈ wsX3_microphone := by decide +kernel
theorem in_X3_microphone_X3 : ∀ w ∈ wsX30, w ∈ wsX3_microphone := by decide +kernel
set_option maxHeartbeats 4000000 in
set_option maxRecDepth 100000 in
/-- microphone -/
theorem m_X3_microphone (l : Launch) (G : va_G) (q : Nat → ClassId) (sz : Nat) (o3 o1 af nf a1 ax b0 b1 b2 tk : Nat) (mi : UInt64)  : Met l yX3_microphone wsX3_microphone ({ frames := 0, cells := 0, slots := 0, locals := 0 } : Jvm.Room) (PreW G q [.ref o3] [(o3, .inr (3, [.ref o1, .ref af, .int (nI nf)])), (o1, .inr (1, [.ref a1, .ref ax, .ref b0, .ref b1, .ref b2, .double mi, .int (nI tk)]))] sz) (va_Qd (fun (r : UInt64) (_ : Unit) => r = mi) (fun (_ : Unit) t => EndA G (va_A [(o3, .inr (3, [.ref o1, .ref af, .int (nI nf)])), (o1, .inr (1, [.ref a1, .ref ax, .ref b0, .ref b1, .ref b2, .double mi, .int (nI tk)]))] sz) [(o3, .inr (3, [.ref o1, .ref af, .int (nI nf)])), (o1, .inr (1, [.ref a1, .ref ax, .ref b0, .ref b1, .ref b2, .double mi, .int (nI tk)]))] t) (va_A [(o3, .inr (3, [.ref o1, .ref af, .int (nI nf)])), (o1, .inr (1, [.ref a1, .ref ax, .ref b0, .ref b1, .ref b2, .double mi, .int (nI tk)]))] sz)) 0 0 (va_A [(o3, .inr (3, [.ref o1, .ref af, .int (nI nf)])), (o1, .inr (1, [.ref a1, .ref ax, .ref b0, .ref b1, .ref b2, .double mi, .int (nI tk)]))] sz) := by
  refine Met.ofW (cc := cX3_microphone) (maxL := 1) (ret := (some .double)) (by decide +kernel) rfl ?_
  intro p e s m args below meth c s₁ B hml hv
  obtain ⟨rfl, hsz, hP, hK, hD0, hNF⟩ := hv
  have hx := B.exec
  have hb := B.bytes
  have hr := B.returns
  have hts := atoms_spec (ws := wsX3_microphone) B.pre
  have hown : s.vm.findClass RX3 = some m.cls := findClass_of_methodNamed B.named
  have hlocks := B.notSynchronized
  subst hsz
  have hD := hD0.self (sz := s.heap.size)
  generalize hAe : va_A [(o3, .inr (3, [.ref o1, .ref af, .int (nI nf)])), (o1, .inr (1, [.ref a1, .ref ax, .ref b0, .ref b1, .ref b2, .double mi, .int (nI tk)]))] s.heap.size = A at hD ⊢
  have hA : ∀ q : Nat, s.heap.size ≤ q → A q := fun q h => by rw [← hAe]; exact Or.inr h
  have hS : va_S A s.heap s.heap [] := va_S.rf
  have hP : va_P G vwCl [(o3, .inr (3, [.ref o1, .ref af, .int (nI nf)])), (o1, .inr (1, [.ref a1, .ref ax, .ref b0, .ref b1, .ref b2, .double mi, .int (nI tk)]))] s.heap := hP
  have hl := lv_entry ([.ref o3]) (n := 1) (Nat.le_of_ble_eq_true rfl)
  rw [lg_entry_eq]
  generalize (lg_sl ([.ref o3]) ++ List.replicate (1 - (lg_sl ([.ref o3])).length) Slot.unset).toArray = ls at hl ⊢
  have hl : lv_has ls 1 [(0, .ref o3)] := hl
  refine lv_aload_n hx hb dX3_microphone_0 rfl (lv_at hl 0 rfl) ?_
  refine va_get (D := G) (ci := 3) (v := .ref o1) (C := RX3) (T := TX3) (N := 3) hx hb hts in_X3_microphone_X3 hown hK hP 0 rfl rfl 0 (by decide) (hts (.fieldLink RX3 10 "EchoBench" "samples" "LEchoBench$Samples;") (by decide +kernel)) (fun _ h9 => h9) rfl dX3_microphone_1 ?_
  refine va_getN (D := G) (ci := 1) (v := .double mi) (C := RX1) (T := TX1) (N := 7) hx hb hts in_X3_microphone_X1 hown hK hP 1 rfl rfl 5 (by decide) (va_Nw.use rfl (hNF.1 (.fieldLinkNest RX3 139 "EchoBench$Samples" "lastMicrophone" "D" "EchoBench") (by decide +kernel))) (fun _ h9 => h9) rfl dX3_microphone_4 ?_
  have hP9 := hP
  have hD9 := hD
  exact W.dret (v := mi) hx hb hr (fun t ht hW => ⟨⟨mi, (), rfl, rfl, by rw [ht]; exact hP9, hD9⟩, hS.F ht⟩) hS.2.2 dX3_microphone_7

theorem in_X3_weight_X0 : ∀ w ∈ wsX00, w ∈ wsX3_weight := by decide +kernel
set_option maxHeartbeats 4000000 in
set_option maxRecDepth 100000 in
/-- weight: where it returns -/
theorem m_X3_weight (l : Launch) (G : va_G) (q : Nat → ClassId) (sz : Nat) (o3 o1 af nf : Nat) (oa : Nat → Nat) (fx n aw ae : Nat) (sq : Value) (kd th wa ta lf ce cd rs : Int32) (ou er : UInt64) (j : Nat) (fw : Nat → UInt64) (hnf : nf ≤ 6) (hfx : fx < nf) (hn : n ≤ 8) (hj : j < n) : Met l yX3_weight wsX3_weight ({ frames := 1, cells := 0, slots := 0, locals := 21 } : Jvm.Room) (PreW G q [.ref o3, .int (nI fx), .int (nI j)] [(o3, .inr (3, [.ref o1, .ref af, .int (nI nf)])), (af, aF q 6 (fun j => if j < nf then some (oa j) else none)), ((oa fx), .inr (0, [.int kd, .ref aw, .ref ae, sq, .int th, .int wa, .int ta, .int lf, .double ou, .double er, .int ce, .int cd, .int rs])), (aw, aD q n fw)] sz) (va_Qd (fun (r : UInt64) (_ : Unit) => r = fw j) (fun (_ : Unit) t => EndA G (va_A [(o3, .inr (3, [.ref o1, .ref af, .int (nI nf)])), (af, aF q 6 (fun j => if j < nf then some (oa j) else none)), ((oa fx), .inr (0, [.int kd, .ref aw, .ref ae, sq, .int th, .int wa, .int ta, .int lf, .double ou, .double er, .int ce, .int cd, .int rs])), (aw, aD q n fw)] sz) [(o3, .inr (3, [.ref o1, .ref af, .int (nI nf)])), (af, aF q 6 (fun j => if j < nf then some (oa j) else none)), ((oa fx), .inr (0, [.int kd, .ref aw, .ref ae, sq, .int th, .int wa, .int ta, .int lf, .double ou, .double er, .int ce, .int cd, .int rs])), (aw, aD q n fw)] t) (va_A [(o3, .inr (3, [.ref o1, .ref af, .int (nI nf)])), (af, aF q 6 (fun j => if j < nf then some (oa j) else none)), ((oa fx), .inr (0, [.int kd, .ref aw, .ref ae, sq, .int th, .int wa, .int ta, .int lf, .double ou, .double er, .int ce, .int cd, .int rs])), (aw, aD q n fw)] sz)) 0 0 (va_A [(o3, .inr (3, [.ref o1, .ref af, .int (nI nf)])), (af, aF q 6 (fun j => if j < nf then some (oa j) else none)), ((oa fx), .inr (0, [.int kd, .ref aw, .ref ae, sq, .int th, .int wa, .int ta, .int lf, .double ou, .double er, .int ce, .int cd, .int rs])), (aw, aD q n fw)] sz) := by
  refine Met.ofW (cc := cX3_weight) (maxL := 4) (ret := (some .double)) (by decide +kernel) rfl ?_
  intro p e s m args below meth c s₁ B hml hv
  obtain ⟨rfl, hsz, hP, hK, hD0, hNF⟩ := hv
  have hx := B.exec
  have hb := B.bytes
  have hr := B.returns
  have hts := atoms_spec (ws := wsX3_weight) B.pre
  have hown : s.vm.findClass RX3 = some m.cls := findClass_of_methodNamed B.named
  have hlocks := B.notSynchronized
  subst hsz
  have hD := hD0.self (sz := s.heap.size)
  generalize hAe : va_A [(o3, .inr (3, [.ref o1, .ref af, .int (nI nf)])), (af, aF q 6 (fun j => if j < nf then some (oa j) else none)), ((oa fx), .inr (0, [.int kd, .ref aw, .ref ae, sq, .int th, .int wa, .int ta, .int lf, .double ou, .double er, .int ce, .int cd, .int rs])), (aw, aD q n fw)] s.heap.size = A at hD ⊢
  have hA : ∀ q : Nat, s.heap.size ≤ q → A q := fun q h => by rw [← hAe]; exact Or.inr h
  have hS : va_S A s.heap s.heap [] := va_S.rf
  have hP : va_P G vwCl [(o3, .inr (3, [.ref o1, .ref af, .int (nI nf)])), (af, aF q 6 (fun j => if j < nf then some (oa j) else none)), ((oa fx), .inr (0, [.int kd, .ref aw, .ref ae, sq, .int th, .int wa, .int ta, .int lf, .double ou, .double er, .int ce, .int cd, .int rs])), (aw, aD q n fw)] s.heap := hP
  have hl := lv_entry ([.ref o3, .int (nI fx), .int (nI j)]) (n := 4) (Nat.le_of_ble_eq_true rfl)
  rw [lg_entry_eq]
  generalize (lg_sl ([.ref o3, .int (nI fx), .int (nI j)]) ++ List.replicate (4 - (lg_sl ([.ref o3, .int (nI fx), .int (nI j)])).length) Slot.unset).toArray = ls at hl ⊢
  have hl : lv_has ls 4 [(0, .ref o3), (1, .int (nI fx)), (2, .int (nI j))] := hl
  refine lv_aload_n hx hb dX3_weight_0 rfl (lv_at hl 0 rfl) ?_
  refine lv_iload_n hx hb dX3_weight_1 rfl (lv_at hl 1 rfl) ?_
  have hPc := hP.sub (ws' := [(o3, .inr (3, [.ref o1, .ref af, .int (nI nf)])), (af, aF q 6 (fun j => if j < nf then some (oa j) else none))]) [0, 1] rfl
  have hDc := hD.sub (ws' := [(o3, .inr (3, [.ref o1, .ref af, .int (nI nf)])), (af, aF q 6 (fun j => if j < nf then some (oa j) else none))]) [0, 1] (by decide) rfl
  have hFc := va_free (wc := [(o3, .inr (3, [.ref o1, .ref af, .int (nI nf)])), (af, aF q 6 (fun j => if j < nf then some (oa j) else none))]) hD hS hA [0, 1] rfl
  refine va_callq (va_runV (As := [.int (nI fx)]) (rest := []) ⟨hx, hb, hml, hown, hts⟩ (m_X3_numbered l G q s.heap.size o3 o1 af nf oa fx hnf hfx) (cwV 1 hts gX3_weight_X3_numbered rfl rfl rfl (by decide +kernel) ⟨Nat.le_of_ble_eq_true rfl, Nat.le_of_ble_eq_true rfl⟩) ⟨preW_blind, (va_recv hK hPc (ci := 3) (q0 := 0) rfl rfl), preW_start hPc hK hDc hNF⟩ rfl rfl hl.1 rfl (lv_room (Nat.le_of_ble_eq_true rfl)) dX3_weight_2 ⟨(Nat.zero_le _), (Nat.zero_le _)⟩) hS (fun q _ h => hFc q h) hFc (fun fr1 u9 t9 H1 locs ht9 hv9 hw hB9 hz9 hk9 hS => ?_)
  obtain ⟨⟩ := u9
  obtain ⟨hP1, hD1⟩ := hB9
  rw [ht9] at hP1
  obtain ⟨hP, hD⟩ := va_join (wr := [((oa fx), .inr (0, [.int kd, .ref aw, .ref ae, sq, .int th, .int wa, .int ta, .int lf, .double ou, .double er, .int ce, .int cd, .int rs])), (aw, aD q n fw)]) (w1 := [(o3, .inr (3, [.ref o1, .ref af, .int (nI nf)])), (af, aF q 6 (fun j => if j < nf then some (oa j) else none))]) hP hD [0, 1] [2, 3] rfl rfl (by decide) (by decide) hk9 hFc hP1 hD1
  generalize H1 = H at hP hS ⊢
  have hP : va_P G vwCl [((oa fx), .inr (0, [.int kd, .ref aw, .ref ae, sq, .int th, .int wa, .int ta, .int lf, .double ou, .double er, .int ce, .int cd, .int rs])), (aw, aD q n fw), (o3, .inr (3, [.ref o1, .ref af, .int (nI nf)])), (af, aF q 6 (fun j => if j < nf then some (oa j) else none))] H := hP
  have hD : va_D A [((oa fx), .inr (0, [.int kd, .ref aw, .ref ae, sq, .int th, .int wa, .int ta, .int lf, .double ou, .double er, .int ce, .int cd, .int rs])), (aw, aD q n fw), (o3, .inr (3, [.ref o1, .ref af, .int (nI nf)])), (af, aF q 6 (fun j => if j < nf then some (oa j) else none))] := hD
  obtain rfl : fr1 = some (oa fx) := hw
  refine lv_astore_n (lv' := [(3, .ref (oa fx)), (0, .ref o3), (1, .int (nI fx)), (2, .int (nI j))]) hx hb dX3_weight_5 rfl hl (by decide) rfl (fun ls hl => ?_)
  refine lv_aload_n hx hb dX3_weight_6 rfl (lv_at hl 0 rfl) ?_
  refine lv_ifnonnull (tgt := 20) hx hb dX3_weight_7 (by decide) ?_
  refine lv_iload_n hx hb dX3_weight_20 rfl (lv_at hl 3 rfl) ?_
  refine lv_if_lt (tgt := 33) hx hb dX3_weight_21 (by decide) (fun h => absurd h (Int32.not_lt.mpr (nI_pos' (by omega)))) (fun _ => ?_)
  refine lv_iload_n hx hb dX3_weight_24 rfl (lv_at hl 3 rfl) ?_
  refine lv_aload_n hx hb dX3_weight_25 rfl (lv_at hl 0 rfl) ?_
  refine va_getN (D := G) (ci := 0) (v := .ref aw) (C := RX0) (T := TX0) (N := 13) hx hb hts in_X3_weight_X0 hown hK hP 0 rfl rfl 1 (by decide) (va_Nw.use rfl (hNF.1 (.fieldLinkNest RX3 104 "EchoBench$Filter" "weights" "[D" "EchoBench") (by decide +kernel))) (fun _ h9 => h9) rfl dX3_weight_26 ?_
  refine va_alen (D := G) hx hb hK hP 1 1 rfl rfl (v := (nI n)) rfl dX3_weight_29 ?_
  refine lv_icmp_lt (tgt := 43) hx hb dX3_weight_30 (by decide) (fun _ => ?_) (fun h => absurd (nI_lt hj (by omega)) h)
  refine lv_aload_n hx hb dX3_weight_43 rfl (lv_at hl 0 rfl) ?_
  refine va_getN (D := G) (ci := 0) (v := .ref aw) (C := RX0) (T := TX0) (N := 13) hx hb hts in_X3_weight_X0 hown hK hP 0 rfl rfl 1 (by decide) (va_Nw.use rfl (hNF.1 (.fieldLinkNest RX3 104 "EchoBench$Filter" "weights" "[D" "EchoBench") (by decide +kernel))) (fun _ h9 => h9) rfl dX3_weight_44 ?_
  refine lv_iload_n hx hb dX3_weight_47 rfl (lv_at hl 3 rfl) ?_
  refine va_daldJ hx hb hK hP 1 1 rfl rfl (j := j) rfl hj (by omega) dX3_weight_48 ?_
  have hP := hP.sub (ws' := [(o3, .inr (3, [.ref o1, .ref af, .int (nI nf)])), (af, aF q 6 (fun j => if j < nf then some (oa j) else none)), ((oa fx), .inr (0, [.int kd, .ref aw, .ref ae, sq, .int th, .int wa, .int ta, .int lf, .double ou, .double er, .int ce, .int cd, .int rs])), (aw, aD q n fw)]) [2, 3, 0, 1] rfl
  have hD := hD.sub (ws' := [(o3, .inr (3, [.ref o1, .ref af, .int (nI nf)])), (af, aF q 6 (fun j => if j < nf then some (oa j) else none)), ((oa fx), .inr (0, [.int kd, .ref aw, .ref ae, sq, .int th, .int wa, .int ta, .int lf, .double ou, .double er, .int ce, .int cd, .int rs])), (aw, aD q n fw)]) [2, 3, 0, 1] (by decide) rfl
  have hP9 := hP
  have hD9 := hD
  exact W.dret (v := fw j) hx hb hr (fun t ht hW => ⟨⟨fw j, (), rfl, rfl, by rw [ht]; exact hP9, hD9⟩, hS.F ht⟩) hS.2.2 dX3_weight_49
