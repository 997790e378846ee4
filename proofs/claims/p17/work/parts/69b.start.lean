/-! ===== the law's start ===== -/
theorem start_K {s : State} {args : Array Value} (hts : ∀ w ∈ lw_tbl, w.before args s = true) : ∃ (G : va_G) (q : Nat → ClassId), va_K G vwCl (tyA q) s := by
  obtain ⟨c0, i0, k0⟩ := u_known (C := RX0) (T := TX0) (N := 13) (n := 13) hts inX0 (hts (.instantiable RX0 13) (by decide +kernel))
  obtain ⟨c1, i1, k1⟩ := u_known (C := RX1) (T := TX1) (N := 7) (n := 7) hts inX1 (hts (.instantiable RX1 7) (by decide +kernel))
  obtain ⟨c2, i2, k2⟩ := u_known (C := RX2) (T := TX2) (N := 4) (n := 4) hts inX2 (hts (.instantiable RX2 4) (by decide +kernel))
  obtain ⟨c3, i3, k3⟩ := u_known (C := RX3) (T := TX3) (N := 3) (n := 3) hts inX3 (hts (.instantiable RX3 3) (by decide +kernel))
  obtain ⟨q0, kq0, m0, a0, b0, e0⟩ := Cond.arrayClass_spec (hts (.arrayClass .int) (by decide +kernel))
  obtain ⟨q1, kq1, m1, a1, b1, e1⟩ := Cond.arrayClass_spec (hts (.arrayClass .double) (by decide +kernel))
  obtain ⟨m2, q2, kq2, f2, b2, e2, a2⟩ := Cond.arrayOver_specA (hts (.arrayOver (.array .double)) (by decide +kernel))
  obtain ⟨m3, q3, kq3, f3, g3, b3, e3, a3⟩ := Cond.arrayOver_spec (hts (.arrayOver (.object "EchoBench$Filter")) (by decide +kernel))
  refine ⟨(fun k => if k = 0 then c0 else if k = 1 then c1 else if k = 2 then c2 else c3, fun k => if k = 0 then i0 else if k = 1 then i1 else if k = 2 then i2 else i3), fun k => if k = 0 then q0 else if k = 1 then q1 else if k = 2 then q2 else q3, ?_, ?_⟩
  · intro k z hz
    match k, hz with
    | 0, hz => cases hz; exact k0
    | 1, hz => cases hz; exact k1
    | 2, hz => cases hz; exact k2
    | 3, hz => cases hz; exact k3
    | k + 4, hz => simp [vwCl] at hz
  · intro k z hz
    match k, hz with
    | 0, hz => cases hz; exact ⟨fun n z => ⟨fun k h => (by cases h), kq0, b0, m0, e0⟩, a0⟩
    | 1, hz => cases hz; exact ⟨fun n z => ⟨fun k h => (by cases h), kq1, b1, m1, e1⟩, a1⟩
    | 2, hz => cases hz; exact ⟨fun n z => ⟨fun k h => (by cases h), kq2, b2, m2, e2⟩, a2⟩
    | 3, hz => cases hz; exact ⟨fun n z => ⟨fun k h => (by cases h), kq3, b3, m3, e3⟩, kq3, m3, b3, e3, f3, a3⟩
    | k + 4, hz => simp [tyA] at hz
theorem start_nest : ∀ w ∈ nestW, w ∈ lw_tbl := by decide +kernel
theorem start_NF {s : State} {args : Array Value} (hts : ∀ w ∈ lw_tbl, w.before args s = true) : NF s :=
  ⟨fun w hw => va_any (nestW_ot w hw) (hts w (start_nest w hw)), hts (.arrayOver (.array .double)) (by decide +kernel), va_AO.of (hts (.arrayOver (.object "EchoBench$Filter")) (by decide +kernel))⟩
theorem start_NC {s : State} {args : Array Value} (h : (Jvm.Cond.and given_1 narrow_1).before args s = true) : NC s :=
  ⟨va_Nc.of (flat_of_before _ h (.not (.castable exA exO)) (by decide +kernel)), va_Nc.of (flat_of_before _ h (.not (.castable exS exA)) (by decide +kernel)), va_Nc.of (flat_of_before _ h (.not (.castable exS exO)) (by decide +kernel))⟩
theorem start_exB : ∀ w ∈ exB, w ∈ lw_tbl := by decide +kernel
theorem start_refA : ∀ x ∈ exT, Cond.stringRef RX3 x.1 x.2 ∈ lw_tbl := by decide +kernel
theorem start_refB : ∀ x ∈ exT, Cond.exactly (.string RX3 x.1) "java/lang/String" ∈ flatC (Jvm.Cond.and given_1 narrow_1) := by decide +kernel
theorem start_ref {s : State} {args : Array Value} (hts : ∀ w ∈ lw_tbl, w.before args s = true) (h : (Jvm.Cond.and given_1 narrow_1).before args s = true) (x : Nat × String) (h1 : Cond.stringRef RX3 x.1 x.2 ∈ lw_tbl) (h2 : Cond.exactly (.string RX3 x.1) "java/lang/String" ∈ flatC (Jvm.Cond.and given_1 narrow_1)) : ∃ a, vk_R RX3 x.1 x.2 a s := by
  obtain ⟨a, -, -, -, ha, -⟩ := Cond.exactly_spec (flat_of_before _ h _ h2)
  exact ⟨a, vk_R.of (A := args) (hts _ h1) ha⟩
theorem start_NT {s : State} {args : Array Value} (hts : ∀ w ∈ lw_tbl, w.before args s = true) (h : (Jvm.Cond.and given_1 narrow_1).before args s = true) : NT (fun q : Nat => s.heap.size ≤ q) s := by
  have hA : ∀ a : Nat, a < s.heap.size → ¬ (fun q : Nat => s.heap.size ≤ q) a := fun a ha => Nat.not_le.mpr ha
  refine ⟨fun x hx => start_ref hts h x ?_ ?_, fun w hw => vx_ot_at (s := s) (State.WarmedH.refl s) rfl (exB_ot w hw) (hts w (start_exB w hw)), ?_, ?_⟩
  · exact start_refA x hx
  · exact start_refB x hx
  · exact vx_Zqof (hts (.laysStatic Bundle.tN "UNASSIGNED_STACK" Bundle.steD) (by decide +kernel)) (hts (.initialized Bundle.tN) (by decide +kernel)) (flat_of_before _ h (.isRef (.static Bundle.tN "UNASSIGNED_STACK" Bundle.steD)) (by decide +kernel)) hA
  · exact vx_Zqof (hts (.laysStatic Bundle.tN "SUPPRESSED_SENTINEL" Bundle.listD) (by decide +kernel)) (hts (.initialized Bundle.tN) (by decide +kernel)) (flat_of_before _ h (.isRef (.static Bundle.tN "SUPPRESSED_SENTINEL" Bundle.listD)) (by decide +kernel)) hA
theorem start_flags {l : Launch} (h : l.flags = flags0) : l.stackTraces = false := by
  show (!l.flags.contains noTraceFlag) = false
  rw [h]
  decide +kernel
set_option maxHeartbeats 4000000 in
set_option maxRecDepth 100000 in
theorem whole_start {p : Program} {e : Env} {s : State} {m : MethodId} {below : List Frame} {meth : Method} {c : Code} (l : Launch) (hflags : l.flags = flags0) {b L : Nat} {xs : Nat → Int32} (hL : L ≤ 260) (C0 : lw_At p s m meth c b L xs) : W p l e room_1 s m #[Value.ref b] below meth c s.heap [] 0 0 (lw_Z below #[Value.ref b] s) (entryFrame m ([Value.ref b] : List Value).toArray 7) := by
  obtain ⟨hx, hb, hr, hml, hown, hts0, hX, hbl, hlocks, hgv⟩ := C0
  have hts : ∀ w ∈ wsL_law, w.before #[Value.ref b] s = true := fun w h => hts0 w (wsL_law_in w h)
  obtain ⟨G, q, hK⟩ := start_K hts0
  have hNF := start_NF hts0
  have hNT := start_NT hts0 hgv
  have hNC := start_NC hgv
  have hst := start_flags hflags
  have hA : ∀ q : Nat, s.heap.size ≤ q → (fun q : Nat => s.heap.size ≤ q) q := fun _ h => h
  have hbA : ¬ (fun q : Nat => s.heap.size ≤ q) b := Nat.not_le.mpr hbl
  have hfix : ∀ o : Unit, LFix p l s m meth c G q (fun q : Nat => s.heap.size ≤ q) b L xs := fun _ => ⟨hx, hb, hr, hml, hown, hts, hX, hbl, hbA, hlocks, hK, hNF, hNT, hNC, hst, hA, by omega⟩
  generalize hAe : (fun q : Nat => s.heap.size ≤ q) = A at hbA hNT hfix hA
  have hA2 : ∀ q : Nat, A q → s.heap.size ≤ q := fun q h => by rw [← hAe] at h; exact h
  refine W.base ?_
  have hd0 := Drawn.sameBut.refl s.drawn lw_cs
  have hS : va_S A s.heap s.heap [] := va_S.rf
  have hP : va_P G vwCl [] s.heap := fun k q h => by simp at h
  have hD : va_D A [] := ⟨fun i j p q h => by simp at h, fun k q h => by simp at h⟩
  have hl := lv_entry ([.ref b]) (n := 7) (Nat.le_of_ble_eq_true rfl)
  rw [lg_entry_eq]
  generalize (lg_sl ([.ref b]) ++ List.replicate (7 - (lg_sl ([.ref b])).length) Slot.unset).toArray = ls at hl ⊢
  have hl : lv_has ls 7 [(0, .ref b)] := hl
  refine va_new (ci := 3) (fs := [.null, .null, .int 0]) (C := RX3) (T := TX3) (N := 3) hx hb (dr_words hts s.drawn) inlX3 tyX3 tyX3_ok hown (dr_words hts s.drawn (.classLink RL 9 RX3) (by decide +kernel)) (dr_words hts s.drawn (.instantiable RX3 3) (by decide +kernel)) (dr_words hts s.drawn (.initialized RX3) (by decide +kernel)) hK hP hD hS hA rfl (fun j hj => by rcases (show j = 0 ∨ j = 1 ∨ j = 2 by omega) with rfl | rfl | rfl <;> rfl) (by show _ ≤ 600130; omega) (by show _ ≤ 7301080; omega) dL_law_0 (fun o3 H hP hD hS => ?_)
  have hP : va_P G vwCl [(o3, .inr (3, [.null, .null, .int 0]))] H := hP
  have hD : va_D A [(o3, .inr (3, [.null, .null, .int 0]))] := hD
  refine lv_dup hx hb dL_law_3 rfl ?_
  have hPc := hP.sub (ws' := [(o3, .inr (3, [.null, .null, .int 0]))]) [0] rfl
  have hDc := hD.sub (ws' := [(o3, .inr (3, [.null, .null, .int 0]))]) [0] (by decide) rfl
  have hFc := va_free (wc := [(o3, .inr (3, [.null, .null, .int 0]))]) hD hS hA [0] rfl
  refine va_callv (va_runI (As := []) (rest := [.ref o3]) ⟨hx, hb, hml, hown, (dr_words hts s.drawn)⟩ (m_X3_init l G q H.size o3) (cwI 0 (dr_words hts s.drawn) gL_law_X3_init rfl rfl rfl (dr_words hts s.drawn (.initialized RX3) (by decide +kernel)) (dr_words hts s.drawn (.methodLink RL 107 yX3_init) (by decide +kernel)) (dr_words hts s.drawn (.instanceMethod yX3_init) (by decide +kernel)) rfl (by decide +kernel) ⟨Nat.le_of_ble_eq_true rfl, Nat.le_of_ble_eq_true rfl⟩) ⟨preW_blind, preW_start (s := s.setDrawn s.drawn) hPc hK hDc (hNF.drawn s.drawn)⟩ rfl rfl hl.1 rfl (lv_room (Nat.le_of_ble_eq_true rfl)) dL_law_4 ⟨(by show _ ≤ 600130; omega), (by show _ ≤ 7301080; omega)⟩) hS (fun q _ h => hFc q h) hFc (fun u9 t9 H1 locs ht9 hv9 hw hB9 hz9 hk9 hS => ?_)
  obtain ⟨uf, rfl⟩ : ∃ z, z = u9 := ⟨_, rfl⟩
  obtain ⟨hP1, hD1⟩ := hB9
  rw [ht9] at hP1
  obtain ⟨hP, hD⟩ := va_join (wr := []) (w1 := [(o3, .inr (3, [.ref (uf 0), .ref (uf 6), .int 0])), ((uf 6), aF q 6 (fun _ => none)), ((uf 0), .inr (1, [.ref (uf 1), .ref (uf 2), .ref (uf 3), .ref (uf 4), .ref (uf 5), .double 0, .int 0])), ((uf 1), aI q 8 (fun _ => 0)), ((uf 2), aD q 8 (fun _ => FP.i2d 0)), ((uf 3), aD q 16 (fun _ => FP.i2d 0)), ((uf 4), aD q 16 (fun _ => FP.i2d 0)), ((uf 5), aD q 16 (fun _ => 0))]) hP hD [0] [] rfl rfl (by decide) (by decide) hk9 hFc hP1 hD1
  generalize H1 = H at hP hS ⊢
  have hP : va_P G vwCl [(o3, .inr (3, [.ref (uf 0), .ref (uf 6), .int 0])), ((uf 6), aF q 6 (fun _ => none)), ((uf 0), .inr (1, [.ref (uf 1), .ref (uf 2), .ref (uf 3), .ref (uf 4), .ref (uf 5), .double 0, .int 0])), ((uf 1), aI q 8 (fun _ => 0)), ((uf 2), aD q 8 (fun _ => FP.i2d 0)), ((uf 3), aD q 16 (fun _ => FP.i2d 0)), ((uf 4), aD q 16 (fun _ => FP.i2d 0)), ((uf 5), aD q 16 (fun _ => 0))] H := hP
  have hD : va_D A [(o3, .inr (3, [.ref (uf 0), .ref (uf 6), .int 0])), ((uf 6), aF q 6 (fun _ => none)), ((uf 0), .inr (1, [.ref (uf 1), .ref (uf 2), .ref (uf 3), .ref (uf 4), .ref (uf 5), .double 0, .int 0])), ((uf 1), aI q 8 (fun _ => 0)), ((uf 2), aD q 8 (fun _ => FP.i2d 0)), ((uf 3), aD q 16 (fun _ => FP.i2d 0)), ((uf 4), aD q 16 (fun _ => FP.i2d 0)), ((uf 5), aD q 16 (fun _ => 0))] := hD
  refine lv_astore_n (lv' := [(1, .ref o3), (0, .ref b)]) hx hb dL_law_7 rfl hl (by decide) rfl (fun ls hl => ?_)
  refine va_new (ci := 3) (fs := [.null, .null, .int 0]) (C := RX3) (T := TX3) (N := 3) hx hb (dr_words hts s.drawn) inlX3 tyX3 tyX3_ok hown (dr_words hts s.drawn (.classLink RL 9 RX3) (by decide +kernel)) (dr_words hts s.drawn (.instantiable RX3 3) (by decide +kernel)) (dr_words hts s.drawn (.initialized RX3) (by decide +kernel)) hK hP hD hS hA rfl (fun j hj => by rcases (show j = 0 ∨ j = 1 ∨ j = 2 by omega) with rfl | rfl | rfl <;> rfl) (by show _ ≤ 600130; omega) (by show _ ≤ 7301080; omega) dL_law_8 (fun o4 H hP hD hS => ?_)
  have hP : va_P G vwCl [(o3, .inr (3, [.ref (uf 0), .ref (uf 6), .int 0])), ((uf 6), aF q 6 (fun _ => none)), ((uf 0), .inr (1, [.ref (uf 1), .ref (uf 2), .ref (uf 3), .ref (uf 4), .ref (uf 5), .double 0, .int 0])), ((uf 1), aI q 8 (fun _ => 0)), ((uf 2), aD q 8 (fun _ => FP.i2d 0)), ((uf 3), aD q 16 (fun _ => FP.i2d 0)), ((uf 4), aD q 16 (fun _ => FP.i2d 0)), ((uf 5), aD q 16 (fun _ => 0)), (o4, .inr (3, [.null, .null, .int 0]))] H := hP
  have hD : va_D A [(o3, .inr (3, [.ref (uf 0), .ref (uf 6), .int 0])), ((uf 6), aF q 6 (fun _ => none)), ((uf 0), .inr (1, [.ref (uf 1), .ref (uf 2), .ref (uf 3), .ref (uf 4), .ref (uf 5), .double 0, .int 0])), ((uf 1), aI q 8 (fun _ => 0)), ((uf 2), aD q 8 (fun _ => FP.i2d 0)), ((uf 3), aD q 16 (fun _ => FP.i2d 0)), ((uf 4), aD q 16 (fun _ => FP.i2d 0)), ((uf 5), aD q 16 (fun _ => 0)), (o4, .inr (3, [.null, .null, .int 0]))] := hD
  refine lv_dup hx hb dL_law_11 rfl ?_
  have hPc := hP.sub (ws' := [(o4, .inr (3, [.null, .null, .int 0]))]) [8] rfl
  have hDc := hD.sub (ws' := [(o4, .inr (3, [.null, .null, .int 0]))]) [8] (by decide) rfl
  have hFc := va_free (wc := [(o4, .inr (3, [.null, .null, .int 0]))]) hD hS hA [8] rfl
  refine va_callv (va_runI (As := []) (rest := [.ref o4]) ⟨hx, hb, hml, hown, (dr_words hts s.drawn)⟩ (m_X3_init l G q H.size o4) (cwI 0 (dr_words hts s.drawn) gL_law_X3_init rfl rfl rfl (dr_words hts s.drawn (.initialized RX3) (by decide +kernel)) (dr_words hts s.drawn (.methodLink RL 107 yX3_init) (by decide +kernel)) (dr_words hts s.drawn (.instanceMethod yX3_init) (by decide +kernel)) rfl (by decide +kernel) ⟨Nat.le_of_ble_eq_true rfl, Nat.le_of_ble_eq_true rfl⟩) ⟨preW_blind, preW_start (s := s.setDrawn s.drawn) hPc hK hDc (hNF.drawn s.drawn)⟩ rfl rfl hl.1 rfl (lv_room (Nat.le_of_ble_eq_true rfl)) dL_law_12 ⟨(by show _ ≤ 600130; omega), (by show _ ≤ 7301080; omega)⟩) hS (fun q _ h => hFc q h) hFc (fun u9 t9 H1 locs ht9 hv9 hw hB9 hz9 hk9 hS => ?_)
  obtain ⟨ug, rfl⟩ : ∃ z, z = u9 := ⟨_, rfl⟩
  obtain ⟨hP1, hD1⟩ := hB9
  rw [ht9] at hP1
  obtain ⟨hP, hD⟩ := va_join (wr := [(o3, .inr (3, [.ref (uf 0), .ref (uf 6), .int 0])), ((uf 6), aF q 6 (fun _ => none)), ((uf 0), .inr (1, [.ref (uf 1), .ref (uf 2), .ref (uf 3), .ref (uf 4), .ref (uf 5), .double 0, .int 0])), ((uf 1), aI q 8 (fun _ => 0)), ((uf 2), aD q 8 (fun _ => FP.i2d 0)), ((uf 3), aD q 16 (fun _ => FP.i2d 0)), ((uf 4), aD q 16 (fun _ => FP.i2d 0)), ((uf 5), aD q 16 (fun _ => 0))]) (w1 := [(o4, .inr (3, [.ref (ug 0), .ref (ug 6), .int 0])), ((ug 6), aF q 6 (fun _ => none)), ((ug 0), .inr (1, [.ref (ug 1), .ref (ug 2), .ref (ug 3), .ref (ug 4), .ref (ug 5), .double 0, .int 0])), ((ug 1), aI q 8 (fun _ => 0)), ((ug 2), aD q 8 (fun _ => FP.i2d 0)), ((ug 3), aD q 16 (fun _ => FP.i2d 0)), ((ug 4), aD q 16 (fun _ => FP.i2d 0)), ((ug 5), aD q 16 (fun _ => 0))]) hP hD [8] [0, 1, 2, 3, 4, 5, 6, 7] rfl rfl (by decide) (by decide) hk9 hFc hP1 hD1
  generalize H1 = H at hP hS ⊢
  have hP : va_P G vwCl [(o3, .inr (3, [.ref (uf 0), .ref (uf 6), .int 0])), ((uf 6), aF q 6 (fun _ => none)), ((uf 0), .inr (1, [.ref (uf 1), .ref (uf 2), .ref (uf 3), .ref (uf 4), .ref (uf 5), .double 0, .int 0])), ((uf 1), aI q 8 (fun _ => 0)), ((uf 2), aD q 8 (fun _ => FP.i2d 0)), ((uf 3), aD q 16 (fun _ => FP.i2d 0)), ((uf 4), aD q 16 (fun _ => FP.i2d 0)), ((uf 5), aD q 16 (fun _ => 0)), (o4, .inr (3, [.ref (ug 0), .ref (ug 6), .int 0])), ((ug 6), aF q 6 (fun _ => none)), ((ug 0), .inr (1, [.ref (ug 1), .ref (ug 2), .ref (ug 3), .ref (ug 4), .ref (ug 5), .double 0, .int 0])), ((ug 1), aI q 8 (fun _ => 0)), ((ug 2), aD q 8 (fun _ => FP.i2d 0)), ((ug 3), aD q 16 (fun _ => FP.i2d 0)), ((ug 4), aD q 16 (fun _ => FP.i2d 0)), ((ug 5), aD q 16 (fun _ => 0))] H := hP
  have hD : va_D A [(o3, .inr (3, [.ref (uf 0), .ref (uf 6), .int 0])), ((uf 6), aF q 6 (fun _ => none)), ((uf 0), .inr (1, [.ref (uf 1), .ref (uf 2), .ref (uf 3), .ref (uf 4), .ref (uf 5), .double 0, .int 0])), ((uf 1), aI q 8 (fun _ => 0)), ((uf 2), aD q 8 (fun _ => FP.i2d 0)), ((uf 3), aD q 16 (fun _ => FP.i2d 0)), ((uf 4), aD q 16 (fun _ => FP.i2d 0)), ((uf 5), aD q 16 (fun _ => 0)), (o4, .inr (3, [.ref (ug 0), .ref (ug 6), .int 0])), ((ug 6), aF q 6 (fun _ => none)), ((ug 0), .inr (1, [.ref (ug 1), .ref (ug 2), .ref (ug 3), .ref (ug 4), .ref (ug 5), .double 0, .int 0])), ((ug 1), aI q 8 (fun _ => 0)), ((ug 2), aD q 8 (fun _ => FP.i2d 0)), ((ug 3), aD q 16 (fun _ => FP.i2d 0)), ((ug 4), aD q 16 (fun _ => FP.i2d 0)), ((ug 5), aD q 16 (fun _ => 0))] := hD
  refine lv_astore_n (lv' := [(2, .ref o4), (1, .ref o3), (0, .ref b)]) hx hb dL_law_15 rfl hl (by decide) rfl (fun ls hl => ?_)
  refine lv_iconst (v := 0) hx hb dL_law_16 (by decide) ?_
  refine lv_istore_n (lv' := [(3, .int 0), (2, .ref o4), (1, .ref o3), (0, .ref b)]) hx hb dL_law_17 rfl hl (by decide) rfl (fun ls hl => ?_)
  refine W.widen (k := 40 + 122 * 0) (n := 700 + 746 * 0) (by omega) (by omega) ?_
  exact law_loop (ad := bad9 o3 uf) (bd := bad9 o4 ug) (hfix ()) hA2 100 0 V9 [] [] rfl GB9 (Nat.zero_le _) u9 u9 H _ _ ls bOk9 bOk9 hd0 hP hD hS (lv_sub hl [0, 1, 2, 3] rfl)
