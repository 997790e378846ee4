set_option maxHeartbeats 4000000 in
set_option maxRecDepth 100000 in
/-- floorMod by 16 of what is not below 0 -/
theorem m_floorMod (l : Launch) (G : va_G) (q : Nat → ClassId) (sz : Nat) (a : Nat) (ha : a < 2147483648) : Met l yJ9_floorMod_7cf53 wsJ9_floorMod_7cf53 ({ frames := 0, cells := 0, slots := 0, locals := 0 } : Jvm.Room) (PreW G q [.int (nI a), .int 16] [] sz) (va_Qi (fun (r : Int32) (_ : Unit) => r = nI (a % 16)) (fun (_ : Unit) t => EndA G (va_A [] sz) [] t) (va_A [] sz)) 0 0 (va_A [] sz) := by
  refine Met.ofWF (cc := cJ9_floorMod_7cf53) (maxL := 3) (ret := (some .int)) (by decide +kernel) rfl ?_
  intro p e s m args below meth c s₁ B hml hv
  obtain ⟨rfl, hsz, hP, hK, hD0, hNF⟩ := hv
  have hx := B.exec
  have hb := B.bytes
  have hr := B.returns
  have hts := atoms_spec (ws := wsJ9_floorMod_7cf53) B.pre
  have hown : s.vm.findClass RJ9 = some m.cls := findClass_of_methodNamed B.named
  have hlocks := B.notSynchronized
  subst hsz
  have hD := hD0.self (sz := s.heap.size)
  generalize hAe : va_A [] s.heap.size = A at hD ⊢
  have hA : ∀ q : Nat, s.heap.size ≤ q → A q := fun q h => by rw [← hAe]; exact Or.inr h
  have hS : va_S A s.heap s.heap [] := va_S.rf
  have hP : va_P G vwCl [] s.heap := hP
  have hl := lv_entry ([.int (nI a), .int 16]) (n := 3) (Nat.le_of_ble_eq_true rfl)
  rw [lg_entry_eq]
  generalize (lg_sl ([.int (nI a), .int 16]) ++ List.replicate (3 - (lg_sl ([.int (nI a), .int 16])).length) Slot.unset).toArray = ls at hl ⊢
  have hl : lv_has ls 3 [(0, .int (nI a)), (1, .int 16)] := hl
  refine lv_iload_n hx hb dJ9_floorMod_7cf53_0 rfl (lv_at hl 0 rfl) ?_
  refine lv_iload_n hx hb dJ9_floorMod_7cf53_1 rfl (lv_at hl 1 rfl) ?_
  refine lv_irem hx hb dJ9_floorMod_7cf53_2 (by decide) ?_
  refine lv_topi (fun x1 ex1 => ?_)
  refine lv_istore_n (lv' := [(2, .int x1), (0, .int (nI a)), (1, .int 16)]) hx hb dJ9_floorMod_7cf53_3 rfl hl (by decide) rfl (fun ls hl => ?_)
  refine lv_iload_n hx hb dJ9_floorMod_7cf53_4 rfl (lv_at hl 1 rfl) ?_
  refine lv_iload_n hx hb dJ9_floorMod_7cf53_5 rfl (lv_at hl 2 rfl) ?_
  refine lv_ixor hx hb dJ9_floorMod_7cf53_6 ?_
  refine lv_if_ge (tgt := 18) hx hb dJ9_floorMod_7cf53_7 (by decide) (fun _ => ?_) (fun h => absurd (i_nonneg_xor (nI_pos' ha) (by decide)) h)
  refine lv_iload_n hx hb dJ9_floorMod_7cf53_18 rfl (lv_at hl 0 rfl) ?_
  have hP9 := hP
  have hD9 := hD
  exact W.iret (v := x1) hx hb hr (fun t ht hW => ⟨⟨x1, (), rfl, ex1.trans (pk_rem (d := 16) ha (by decide) (by decide)), by rw [ht]; exact hP9, hD9⟩, hS.F ht⟩) hS.2.2 dJ9_floorMod_7cf53_19

set_option maxHeartbeats 4000000 in
set_option maxRecDepth 100000 in
/-- Arrays.fill of doubles -/
theorem m_fill (l : Launch) (G : va_G) (q : Nat → ClassId) (sz : Nat) (aw n : Nat) (fw : Nat → UInt64) (v : UInt64) (hn : n ≤ 48) : Met l yJ7_fill_7f8df wsJ7_fill_7f8df ({ frames := 0, cells := 0, slots := 0, locals := 0 } : Jvm.Room) (PreW G q [.ref aw, .double v] [(aw, aD q n fw)] sz) (va_Qv (fun (f : Nat → UInt64) => ∀ i, i < n → f i = v) (fun (f : Nat → UInt64) t => EndA G (va_A [(aw, aD q n fw)] sz) [(aw, aD q n f)] t) (va_A [(aw, aD q n fw)] sz)) 0 0 (va_A [(aw, aD q n fw)] sz) := by
  refine Met.ofWF (cc := cJ7_fill_7f8df) (maxL := 5) (ret := none) (by decide +kernel) rfl ?_
  intro p e s m args below meth c s₁ B hml hv
  obtain ⟨rfl, hsz, hP, hK, hD0, hNF⟩ := hv
  have hx := B.exec
  have hb := B.bytes
  have hr := B.returns
  have hts := atoms_spec (ws := wsJ7_fill_7f8df) B.pre
  have hown : s.vm.findClass RJ7 = some m.cls := findClass_of_methodNamed B.named
  have hlocks := B.notSynchronized
  subst hsz
  have hD := hD0.self (sz := s.heap.size)
  generalize hAe : va_A [(aw, aD q n fw)] s.heap.size = A at hD ⊢
  have hA : ∀ q : Nat, s.heap.size ≤ q → A q := fun q h => by rw [← hAe]; exact Or.inr h
  have hS : va_S A s.heap s.heap [] := va_S.rf
  have hP : va_P G vwCl [(aw, aD q n fw)] s.heap := hP
  have hl := lv_entry ([.ref aw, .double v]) (n := 5) (Nat.le_of_ble_eq_true rfl)
  rw [lg_entry_eq]
  generalize (lg_sl ([.ref aw, .double v]) ++ List.replicate (5 - (lg_sl ([.ref aw, .double v])).length) Slot.unset).toArray = ls at hl ⊢
  have hl : lv_has ls 5 [(0, .ref aw), (1, .double v)] := hl
  have LOOP : ∀ (k : Nat) (j : Nat) (f : Nat → UInt64), j + k = n → (∀ i, i < j → f i = v) → ∀ (H : Heap) (locs : List Loc), va_P G vwCl [(aw, aD q n f)] H → va_D A [(aw, aD q n f)] → va_S A s.heap H locs → ∀ (ls : Array Slot), lv_has ls 5 [(0, .ref aw), (1, .double v), (3, .int (nI j)), (4, .int (nI n))] → W p l e (headSpec wsJ7_fill_7f8df ({ frames := 0, cells := 0, slots := 0, locals := 0 } : Jvm.Room)).room s m #[.ref aw, .double v] below meth c H locs 0 0 (MQ below (va_Qv (fun (f : Nat → UInt64) => ∀ i, i < n → f i = v) (fun (f : Nat → UInt64) t => EndA G A [(aw, aD q n f)] t) A) #[.ref aw, .double v] s 0 0 A) (F0 m 6 ls []) := by
    intro k
    induction k with
    | zero =>
      intro j f hj ha H locs hP hD hS ls hl
      refine lv_iload_n hx hb dJ7_fill_7f8df_6 rfl (lv_at hl 2 rfl) ?_
      refine lv_iload hx hb dJ7_fill_7f8df_7 (lv_at hl 3 rfl) ?_
      refine lv_icmp_ge (tgt := 22) hx hb dJ7_fill_7f8df_9 (by decide) (fun _ => ?_) (fun h => absurd (nI_le (by omega) (by omega)) h)
      have hP9 := hP
      have hD9 := hD
      exact W.vret hx hb hr (fun t ht hW => ⟨⟨f, rfl, by dsimp only; intro i hi; exact ha i (by omega), by rw [ht]; exact hP9, hD9⟩, hS.F ht⟩) hS.2.2 dJ7_fill_7f8df_22
    | succ k ih =>
      intro j f hj ha H locs hP hD hS ls hl
      refine lv_iload_n hx hb dJ7_fill_7f8df_6 rfl (lv_at hl 2 rfl) ?_
      refine lv_iload hx hb dJ7_fill_7f8df_7 (lv_at hl 3 rfl) ?_
      refine lv_icmp_ge (tgt := 22) hx hb dJ7_fill_7f8df_9 (by decide) (fun h => absurd h (nI_ge (by omega) (by omega))) (fun _ => ?_)
      refine lv_aload_n hx hb dJ7_fill_7f8df_12 rfl (lv_at hl 0 rfl) ?_
      refine lv_iload_n hx hb dJ7_fill_7f8df_13 rfl (lv_at hl 2 rfl) ?_
      refine lv_dload_n hx hb dJ7_fill_7f8df_14 rfl (lv_at hl 1 rfl) ?_
      refine va_dastJ hx hb hK hP hD hS 0 1 rfl rfl (j := j) rfl (by omega) (by omega) dJ7_fill_7f8df_15 (fun H locs hP hD hS => ?_)
      have hP : va_P G vwCl [(aw, aD q n (vf_upd f j v))] H := hP
      have hD : va_D A [(aw, aD q n (vf_upd f j v))] := hD
      refine lv_iinc (v := nI (j + 1)) (lv' := [(3, .int (nI (j + 1))), (0, .ref aw), (1, .double v), (4, .int (nI n))]) hx hb dJ7_fill_7f8df_16 hl (k := 2) rfl (nI_succ _).symm (by decide) rfl (fun ls hl => ?_)
      refine lv_goto (tgt := 6) hx hb dJ7_fill_7f8df_19 (by decide) ?_
      exact ih (j + 1) (vf_upd f j v) (by omega) (vf_fill ha) _ _ (hP.sub [0] rfl) (hD.sub [0] (by decide) rfl) hS ls (lv_sub hl [1, 2, 0, 3] rfl)
  refine lv_iconst (v := 0) hx hb dJ7_fill_7f8df_0 (by decide) ?_
  refine lv_istore_n (lv' := [(3, .int 0), (0, .ref aw), (1, .double v)]) hx hb dJ7_fill_7f8df_1 rfl hl (by decide) rfl (fun ls hl => ?_)
  refine lv_aload_n hx hb dJ7_fill_7f8df_2 rfl (lv_at hl 1 rfl) ?_
  refine va_alen (D := G) hx hb hK hP 0 1 rfl rfl (v := (nI n)) rfl dJ7_fill_7f8df_3 ?_
  refine lv_istore (lv' := [(4, .int (nI n)), (3, .int 0), (0, .ref aw), (1, .double v)]) hx hb dJ7_fill_7f8df_4 hl (by decide) rfl (fun ls hl => ?_)
  exact LOOP n 0 fw (by omega) (fun i hi => absurd hi (by omega)) _ _ (hP.sub [0] rfl) (hD.sub [0] (by decide) rfl) hS ls (lv_sub hl [2, 3, 1, 0] rfl)

theorem in_X1_tellPath_X1 : ∀ w ∈ wsX10, w ∈ wsX1_tellPath := by decide +kernel
set_option maxHeartbeats 4000000 in
set_option maxRecDepth 100000 in
/-- tellPath -/
theorem m_X1_tellPath (l : Launch) (G : va_G) (q : Nat → ClassId) (sz : Nat) (o1 a1 ax b0 b1 b2 tk j : Nat) (mi : UInt64) (pa : Nat → Int32) (h : Int32) (hj : j < 8) : Met l yX1_tellPath wsX1_tellPath ({ frames := 0, cells := 0, slots := 0, locals := 0 } : Jvm.Room) (PreW G q [.ref o1, .int (nI j), .int h] [(o1, .inr (1, [.ref a1, .ref ax, .ref b0, .ref b1, .ref b2, .double mi, .int (nI tk)])), (a1, aI q 8 pa)] sz) (va_Qi (fun (r : Int32) (_ : Unit) => r = pa j) (fun (_ : Unit) t => EndA G (va_A [(o1, .inr (1, [.ref a1, .ref ax, .ref b0, .ref b1, .ref b2, .double mi, .int (nI tk)])), (a1, aI q 8 pa)] sz) [(o1, .inr (1, [.ref a1, .ref ax, .ref b0, .ref b1, .ref b2, .double mi, .int (nI tk)])), (a1, aI q 8 (vf_upd pa j h))] t) (va_A [(o1, .inr (1, [.ref a1, .ref ax, .ref b0, .ref b1, .ref b2, .double mi, .int (nI tk)])), (a1, aI q 8 pa)] sz)) 0 0 (va_A [(o1, .inr (1, [.ref a1, .ref ax, .ref b0, .ref b1, .ref b2, .double mi, .int (nI tk)])), (a1, aI q 8 pa)] sz) := by
  refine Met.ofW (cc := cX1_tellPath) (maxL := 4) (ret := (some .int)) (by decide +kernel) rfl ?_
  intro p e s m args below meth c s₁ B hml hv
  obtain ⟨rfl, hsz, hP, hK, hD0, hNF⟩ := hv
  have hx := B.exec
  have hb := B.bytes
  have hr := B.returns
  have hts := atoms_spec (ws := wsX1_tellPath) B.pre
  have hown : s.vm.findClass RX1 = some m.cls := findClass_of_methodNamed B.named
  have hlocks := B.notSynchronized
  subst hsz
  have hD := hD0.self (sz := s.heap.size)
  generalize hAe : va_A [(o1, .inr (1, [.ref a1, .ref ax, .ref b0, .ref b1, .ref b2, .double mi, .int (nI tk)])), (a1, aI q 8 pa)] s.heap.size = A at hD ⊢
  have hA : ∀ q : Nat, s.heap.size ≤ q → A q := fun q h => by rw [← hAe]; exact Or.inr h
  have hS : va_S A s.heap s.heap [] := va_S.rf
  have hP : va_P G vwCl [(o1, .inr (1, [.ref a1, .ref ax, .ref b0, .ref b1, .ref b2, .double mi, .int (nI tk)])), (a1, aI q 8 pa)] s.heap := hP
  have hl := lv_entry ([.ref o1, .int (nI j), .int h]) (n := 4) (Nat.le_of_ble_eq_true rfl)
  rw [lg_entry_eq]
  generalize (lg_sl ([.ref o1, .int (nI j), .int h]) ++ List.replicate (4 - (lg_sl ([.ref o1, .int (nI j), .int h])).length) Slot.unset).toArray = ls at hl ⊢
  have hl : lv_has ls 4 [(0, .ref o1), (1, .int (nI j)), (2, .int h)] := hl
  refine lv_iload_n hx hb dX1_tellPath_0 rfl (lv_at hl 1 rfl) ?_
  refine lv_if_lt (tgt := 13) hx hb dX1_tellPath_1 (by decide) (fun h => absurd h (Int32.not_lt.mpr (nI_pos' (by omega)))) (fun _ => ?_)
  refine lv_iload_n hx hb dX1_tellPath_4 rfl (lv_at hl 1 rfl) ?_
  refine lv_aload_n hx hb dX1_tellPath_5 rfl (lv_at hl 0 rfl) ?_
  refine va_get (D := G) (ci := 1) (v := .ref a1) (C := RX1) (T := TX1) (N := 7) hx hb hts in_X1_tellPath_X1 hown hK hP 0 rfl rfl 0 (by decide) (hts (.fieldLink RX1 9 "EchoBench$Samples" "pathHundredths" "[I") (by decide +kernel)) (fun _ h9 => h9) rfl dX1_tellPath_6 ?_
  refine va_alen (D := G) hx hb hK hP 1 0 rfl rfl (v := 8) rfl dX1_tellPath_9 ?_
  refine lv_icmp_lt (tgt := 15) hx hb dX1_tellPath_10 (by decide) (fun _ => ?_) (fun h => absurd (nI_lt (b := 8) hj (by decide)) h)
  refine lv_aload_n hx hb dX1_tellPath_15 rfl (lv_at hl 0 rfl) ?_
  refine va_get (D := G) (ci := 1) (v := .ref a1) (C := RX1) (T := TX1) (N := 7) hx hb hts in_X1_tellPath_X1 hown hK hP 0 rfl rfl 0 (by decide) (hts (.fieldLink RX1 9 "EchoBench$Samples" "pathHundredths" "[I") (by decide +kernel)) (fun _ h9 => h9) rfl dX1_tellPath_16 ?_
  refine lv_iload_n hx hb dX1_tellPath_19 rfl (lv_at hl 1 rfl) ?_
  refine va_ialdJ hx hb hK hP 1 0 rfl rfl (j := j) rfl hj (by decide) dX1_tellPath_20 ?_
  refine lv_istore_n (lv' := [(3, .int (pa j)), (0, .ref o1), (1, .int (nI j)), (2, .int h)]) hx hb dX1_tellPath_21 rfl hl (by decide) rfl (fun ls hl => ?_)
  refine lv_aload_n hx hb dX1_tellPath_22 rfl (lv_at hl 1 rfl) ?_
  refine va_get (D := G) (ci := 1) (v := .ref a1) (C := RX1) (T := TX1) (N := 7) hx hb hts in_X1_tellPath_X1 hown hK hP 0 rfl rfl 0 (by decide) (hts (.fieldLink RX1 9 "EchoBench$Samples" "pathHundredths" "[I") (by decide +kernel)) (fun _ h9 => h9) rfl dX1_tellPath_23 ?_
  refine lv_iload_n hx hb dX1_tellPath_26 rfl (lv_at hl 2 rfl) ?_
  refine lv_iload_n hx hb dX1_tellPath_27 rfl (lv_at hl 3 rfl) ?_
  refine va_iastJ hx hb hK hP hD hS 1 0 rfl rfl (j := j) rfl hj (by decide) dX1_tellPath_28 (fun H locs hP hD hS => ?_)
  have hP : va_P G vwCl [(o1, .inr (1, [.ref a1, .ref ax, .ref b0, .ref b1, .ref b2, .double mi, .int (nI tk)])), (a1, aI q 8 (vf_upd pa j h))] H := hP
  have hD : va_D A [(o1, .inr (1, [.ref a1, .ref ax, .ref b0, .ref b1, .ref b2, .double mi, .int (nI tk)])), (a1, aI q 8 (vf_upd pa j h))] := hD
  refine lv_iload_n hx hb dX1_tellPath_29 rfl (lv_at hl 0 rfl) ?_
  have hP9 := hP
  have hD9 := hD
  exact W.iret (v := pa j) hx hb hr (fun t ht hW => ⟨⟨pa j, (), rfl, rfl, by rw [ht]; exact hP9, hD9⟩, hS.F ht⟩) hS.2.2 dX1_tellPath_30

theorem in_X1_heardWith_X1 : ∀ w ∈ wsX10, w ∈ wsX1_heardWith := by decide +kernel
set_option maxHeartbeats 4000000 in
set_option maxRecDepth 100000 in
/-- heardWith: the microphone -/
theorem m_X1_heardWith (l : Launch) (G : va_G) (q : Nat → ClassId) (sz : Nat) (o1 a1 ax b0 b1 b2 tk : Nat) (mi : UInt64) (pa xi z0 z1 : Nat → Int32) (fm : Nat → UInt64) (ta : Int32)  : MetD lw_cs l yX1_heardWith wsX1_heardWith ({ frames := 0, cells := 0, slots := 0, locals := 0 } : Jvm.Room) (PreW G q [.ref o1, .int ta] [(o1, .inr (1, [.ref a1, .ref ax, .ref b0, .ref b1, .ref b2, .double mi, .int (nI tk)])), (a1, aI q 8 pa), (ax, aD q 8 (fun i => FP.i2d (xi i)))] sz) (va_Qd (fun (r : UInt64) (_ : Unit) => dV r = sMic ta pa xi) (fun (_ : Unit) t => EndA G (va_A [(o1, .inr (1, [.ref a1, .ref ax, .ref b0, .ref b1, .ref b2, .double mi, .int (nI tk)])), (a1, aI q 8 pa), (ax, aD q 8 (fun i => FP.i2d (xi i)))] sz) [(o1, .inr (1, [.ref a1, .ref ax, .ref b0, .ref b1, .ref b2, .double mi, .int (nI tk)])), (a1, aI q 8 pa), (ax, aD q 8 (fun i => FP.i2d (xi i)))] t) (va_A [(o1, .inr (1, [.ref a1, .ref ax, .ref b0, .ref b1, .ref b2, .double mi, .int (nI tk)])), (a1, aI q 8 pa), (ax, aD q 8 (fun i => FP.i2d (xi i)))] sz)) 0 0 (va_A [(o1, .inr (1, [.ref a1, .ref ax, .ref b0, .ref b1, .ref b2, .double mi, .int (nI tk)])), (a1, aI q 8 pa), (ax, aD q 8 (fun i => FP.i2d (xi i)))] sz) := by
  refine MetD.ofW (cc := cX1_heardWith) (maxL := 5) (ret := (some .double)) (by decide +kernel) rfl ?_
  intro p e s m args below meth c s₁ B hml hv hd0
  obtain ⟨rfl, hsz, hP, hK, hD0, hNF⟩ := hv
  have hx := B.exec
  have hb := B.bytes
  have hr := B.returns
  have hts := atoms_spec (ws := wsX1_heardWith) B.pre
  have hown : s.vm.findClass RX1 = some m.cls := findClass_of_methodNamed B.named
  have hlocks := B.notSynchronized
  subst hsz
  have hD := hD0.self (sz := s.heap.size)
  generalize hAe : va_A [(o1, .inr (1, [.ref a1, .ref ax, .ref b0, .ref b1, .ref b2, .double mi, .int (nI tk)])), (a1, aI q 8 pa), (ax, aD q 8 (fun i => FP.i2d (xi i)))] s.heap.size = A at hD ⊢
  have hA : ∀ q : Nat, s.heap.size ≤ q → A q := fun q h => by rw [← hAe]; exact Or.inr h
  have hS : va_S A s.heap s.heap [] := va_S.rf
  have hP : va_P G vwCl [(o1, .inr (1, [.ref a1, .ref ax, .ref b0, .ref b1, .ref b2, .double mi, .int (nI tk)])), (a1, aI q 8 pa), (ax, aD q 8 (fun i => FP.i2d (xi i)))] s.heap := hP
  have hl := lv_entry ([.ref o1, .int ta]) (n := 5) (Nat.le_of_ble_eq_true rfl)
  rw [lg_entry_eq]
  generalize (lg_sl ([.ref o1, .int ta]) ++ List.replicate (5 - (lg_sl ([.ref o1, .int ta])).length) Slot.unset).toArray = ls at hl ⊢
  have hl : lv_has ls 5 [(0, .ref o1), (1, .int ta)] := hl
  have LOOP : ∀ (k : Nat) (j : Nat) (a : UInt64), j + k = 8 → dV a = smN (fI ta) (fun k => fMul (fDiv (fI (pa k)) k100) (fI (xi k))) j → ∀ (H : Heap) (locs : List Loc) (d0 : Drawn), s.drawn.sameBut d0 lw_cs → va_P G vwCl [(o1, .inr (1, [.ref a1, .ref ax, .ref b0, .ref b1, .ref b2, .double mi, .int (nI tk)])), (a1, aI q 8 pa), (ax, aD q 8 (fun i => FP.i2d (xi i)))] H → va_D A [(o1, .inr (1, [.ref a1, .ref ax, .ref b0, .ref b1, .ref b2, .double mi, .int (nI tk)])), (a1, aI q 8 pa), (ax, aD q 8 (fun i => FP.i2d (xi i)))] → va_S A s.heap H locs → ∀ (ls : Array Slot), lv_has ls 5 [(0, .ref o1), (1, .int ta), (2, .double a), (4, .int (nI j))] → W p l e (headSpec wsX1_heardWith ({ frames := 0, cells := 0, slots := 0, locals := 0 } : Jvm.Room)).room (s.setDrawn d0) m #[.ref o1, .int ta] below meth c H locs 0 0 (MQD lw_cs below (va_Qd (fun (r : UInt64) (_ : Unit) => dV r = sMic ta pa xi) (fun (_ : Unit) t => EndA G A [(o1, .inr (1, [.ref a1, .ref ax, .ref b0, .ref b1, .ref b2, .double mi, .int (nI tk)])), (a1, aI q 8 pa), (ax, aD q 8 (fun i => FP.i2d (xi i)))] t) A) #[.ref o1, .int ta] s 0 0 A) (F0 m 6 ls []) := by
    intro k
    induction k with
    | zero =>
      intro j a hj ha H locs d0 hd0 hP hD hS ls hl
      refine lv_iload hx hb dX1_heardWith_6 (lv_at hl 3 rfl) ?_
      refine lv_bipush (v := 8) hx hb dX1_heardWith_8 (by decide) ?_
      refine lv_icmp_ge (tgt := 42) hx hb dX1_heardWith_10 (by decide) (fun _ => ?_) (fun h => absurd (nI_le (a := 8) (by omega) (by omega)) h)
      refine lv_dload_n hx hb dX1_heardWith_42 rfl (lv_at hl 2 rfl) ?_
      have hP9 := hP
      have hD9 := hD
      refine W.endD hd0 ?_
      exact W.dret (v := a) hx hb hr (fun t ht hW => ⟨⟨a, (), rfl, by dsimp only; rw [ha, show j = 8 by omega]; rfl, by rw [ht]; exact hP9, hD9⟩, hS.F ht⟩) hS.2.2 dX1_heardWith_43
    | succ k ih =>
      intro j a hj ha H locs d0 hd0 hP hD hS ls hl
      refine lv_iload hx hb dX1_heardWith_6 (lv_at hl 3 rfl) ?_
      refine lv_bipush (v := 8) hx hb dX1_heardWith_8 (by decide) ?_
      refine lv_icmp_ge (tgt := 42) hx hb dX1_heardWith_10 (by decide) (fun h => absurd h (nI_ge (b := 8) (by omega) (by omega))) (fun _ => ?_)
      refine lv_dload_n hx hb dX1_heardWith_13 rfl (lv_at hl 2 rfl) ?_
      refine lv_aload_n hx hb dX1_heardWith_14 rfl (lv_at hl 0 rfl) ?_
      refine va_get (D := G) (ci := 1) (v := .ref a1) (C := RX1) (T := TX1) (N := 7) hx hb (dr_words hts d0) in_X1_heardWith_X1 hown hK hP 0 rfl rfl 0 (by decide) (dr_words hts d0 (.fieldLink RX1 9 "EchoBench$Samples" "pathHundredths" "[I") (by decide +kernel)) (fun _ h9 => h9) rfl dX1_heardWith_15 ?_
      refine lv_iload hx hb dX1_heardWith_18 (lv_at hl 3 rfl) ?_
      refine va_ialdJ (s := s.setDrawn d0) hx hb hK hP 1 0 rfl rfl (j := j) rfl (by omega) (by decide) dX1_heardWith_20 ?_
      refine lv_i2d hx hb dX1_heardWith_21 ?_
      refine lv_ldc2d hx hb hown (dr_words hts d0 (.constantDouble RX1 46 4636737291354636288) (by decide +kernel)) dX1_heardWith_22 ?_
      refine lv_ddiv_any hd0 lw_bits hx hb dX1_heardWith_25 (fun r3 dr3 ar3 hr3 => ?_)
      have er3 := dV_div ar3
      refine lv_aload_n hx hb dX1_heardWith_26 rfl (lv_at hl 0 rfl) ?_
      refine va_get (D := G) (ci := 1) (v := .ref ax) (C := RX1) (T := TX1) (N := 7) hx hb (dr_words hts dr3) in_X1_heardWith_X1 hown hK hP 0 rfl rfl 1 (by decide) (dr_words hts dr3 (.fieldLink RX1 15 "EchoBench$Samples" "xs" "[D") (by decide +kernel)) (fun _ h9 => h9) rfl dX1_heardWith_27 ?_
      refine lv_iload hx hb dX1_heardWith_30 (lv_at hl 3 rfl) ?_
      refine va_daldJ (s := s.setDrawn dr3) hx hb hK hP 2 1 rfl rfl (j := j) rfl (by omega) (by decide) dX1_heardWith_32 ?_
      refine lv_dmul_any hr3 lw_bits hx hb dX1_heardWith_33 (fun r4 dr4 ar4 hr4 => ?_)
      have er4 := dV_mul ar4
      refine lv_dadd_any hr4 lw_bits hx hb dX1_heardWith_34 (fun r5 dr5 ar5 hr5 => ?_)
      have er5 := dV_add ar5
      refine lv_dstore_n (lv' := [(2, .double r5), (0, .ref o1), (1, .int ta), (4, .int (nI j))]) hx hb dX1_heardWith_35 rfl hl (by decide) rfl (fun ls hl => ?_)
      refine lv_iinc (v := nI (j + 1)) (lv' := [(4, .int (nI (j + 1))), (2, .double r5), (0, .ref o1), (1, .int ta)]) hx hb dX1_heardWith_36 hl (k := 3) rfl (nI_succ _).symm (by decide) rfl (fun ls hl => ?_)
      refine lv_goto (tgt := 6) hx hb dX1_heardWith_39 (by decide) ?_
      exact ih (j + 1) r5 (by omega) (by rw [er5, er4, er3, ha]; rfl) _ _ _ hr5 (hP.sub [0, 1, 2] rfl) (hD.sub [0, 1, 2] (by decide) rfl) hS ls (lv_sub hl [2, 3, 1, 0] rfl)
  refine lv_iload_n hx hb dX1_heardWith_0 rfl (lv_at hl 1 rfl) ?_
  refine lv_i2d hx hb dX1_heardWith_1 ?_
  refine lv_dstore_n (lv' := [(2, .double (FP.i2d ta)), (0, .ref o1), (1, .int ta)]) hx hb dX1_heardWith_2 rfl hl (by decide) rfl (fun ls hl => ?_)
  refine lv_iconst (v := 0) hx hb dX1_heardWith_3 (by decide) ?_
  refine lv_istore (lv' := [(4, .int 0), (2, .double (FP.i2d ta)), (0, .ref o1), (1, .int ta)]) hx hb dX1_heardWith_4 hl (by decide) rfl (fun ls hl => ?_)
  exact LOOP 8 0 (FP.i2d ta) (by omega) rfl _ _ _ hd0 (hP.sub [0, 1, 2] rfl) (hD.sub [0, 1, 2] (by decide) rfl) hS ls (lv_sub hl [2, 3, 1, 0] rfl)

theorem in_X1_take_X1 : ∀ w ∈ wsX10, w ∈ wsX1_take := by decide +kernel
set_option maxHeartbeats 4000000 in
set_option maxRecDepth 100000 in
/-- take: a sample comes in -/
theorem m_X1_take (l : Launch) (G : va_G) (q : Nat → ClassId) (sz : Nat) (o1 a1 ax b0 b1 b2 tk : Nat) (mi : UInt64) (pa xi z0 z1 : Nat → Int32) (fm : Nat → UInt64) (x ta : Int32) (htk : tk < 2000) : MetD lw_cs l yX1_take wsX1_take ({ frames := 1, cells := 0, slots := 0, locals := 24 } : Jvm.Room) (PreW G q [.ref o1, .int x, .int ta] [(o1, .inr (1, [.ref a1, .ref ax, .ref b0, .ref b1, .ref b2, .double mi, .int (nI tk)])), (a1, aI q 8 pa), (ax, aD q 8 (fun i => FP.i2d (xi i))), (b0, aD q 16 (fun i => FP.i2d (z0 i))), (b1, aD q 16 (fun i => FP.i2d (z1 i))), (b2, aD q 16 fm)] sz) (va_Qv (fun (m : UInt64) => dV m = sMic ta pa (shX xi x)) (fun (m : UInt64) t => EndA G (va_A [(o1, .inr (1, [.ref a1, .ref ax, .ref b0, .ref b1, .ref b2, .double mi, .int (nI tk)])), (a1, aI q 8 pa), (ax, aD q 8 (fun i => FP.i2d (xi i))), (b0, aD q 16 (fun i => FP.i2d (z0 i))), (b1, aD q 16 (fun i => FP.i2d (z1 i))), (b2, aD q 16 fm)] sz) [(o1, .inr (1, [.ref a1, .ref ax, .ref b0, .ref b1, .ref b2, .double m, .int (nI (tk + 1))])), (a1, aI q 8 pa), (ax, aD q 8 (fun i => FP.i2d ((shX xi x) i))), (b0, aD q 16 (fun i => FP.i2d ((vf_upd z0 (tk % 16) x) i))), (b1, aD q 16 (fun i => FP.i2d ((vf_upd z1 (tk % 16) (xi 0)) i))), (b2, aD q 16 (vf_upd fm (tk % 16) m))] t) (va_A [(o1, .inr (1, [.ref a1, .ref ax, .ref b0, .ref b1, .ref b2, .double mi, .int (nI tk)])), (a1, aI q 8 pa), (ax, aD q 8 (fun i => FP.i2d (xi i))), (b0, aD q 16 (fun i => FP.i2d (z0 i))), (b1, aD q 16 (fun i => FP.i2d (z1 i))), (b2, aD q 16 fm)] sz)) 0 0 (va_A [(o1, .inr (1, [.ref a1, .ref ax, .ref b0, .ref b1, .ref b2, .double mi, .int (nI tk)])), (a1, aI q 8 pa), (ax, aD q 8 (fun i => FP.i2d (xi i))), (b0, aD q 16 (fun i => FP.i2d (z0 i))), (b1, aD q 16 (fun i => FP.i2d (z1 i))), (b2, aD q 16 fm)] sz) := by
  refine MetD.ofW (cc := cX1_take) (maxL := 4) (ret := none) (by decide +kernel) rfl ?_
  intro p e s m args below meth c s₁ B hml hv hd0
  obtain ⟨rfl, hsz, hP, hK, hD0, hNF⟩ := hv
  have hx := B.exec
  have hb := B.bytes
  have hr := B.returns
  have hts := atoms_spec (ws := wsX1_take) B.pre
  have hown : s.vm.findClass RX1 = some m.cls := findClass_of_methodNamed B.named
  have hlocks := B.notSynchronized
  subst hsz
  have hD := hD0.self (sz := s.heap.size)
  generalize hAe : va_A [(o1, .inr (1, [.ref a1, .ref ax, .ref b0, .ref b1, .ref b2, .double mi, .int (nI tk)])), (a1, aI q 8 pa), (ax, aD q 8 (fun i => FP.i2d (xi i))), (b0, aD q 16 (fun i => FP.i2d (z0 i))), (b1, aD q 16 (fun i => FP.i2d (z1 i))), (b2, aD q 16 fm)] s.heap.size = A at hD ⊢
  have hA : ∀ q : Nat, s.heap.size ≤ q → A q := fun q h => by rw [← hAe]; exact Or.inr h
  have hS : va_S A s.heap s.heap [] := va_S.rf
  have hP : va_P G vwCl [(o1, .inr (1, [.ref a1, .ref ax, .ref b0, .ref b1, .ref b2, .double mi, .int (nI tk)])), (a1, aI q 8 pa), (ax, aD q 8 (fun i => FP.i2d (xi i))), (b0, aD q 16 (fun i => FP.i2d (z0 i))), (b1, aD q 16 (fun i => FP.i2d (z1 i))), (b2, aD q 16 fm)] s.heap := hP
  have hl := lv_entry ([.ref o1, .int x, .int ta]) (n := 4) (Nat.le_of_ble_eq_true rfl)
  rw [lg_entry_eq]
  generalize (lg_sl ([.ref o1, .int x, .int ta]) ++ List.replicate (4 - (lg_sl ([.ref o1, .int x, .int ta])).length) Slot.unset).toArray = ls at hl ⊢
  have hl : lv_has ls 4 [(0, .ref o1), (1, .int x), (2, .int ta)] := hl
  have LOOP : ∀ (k : Nat) (f : Nat → Int32), k ≤ 7 → f = shK xi k → ∀ (H : Heap) (locs : List Loc) (d0 : Drawn), s.drawn.sameBut d0 lw_cs → va_P G vwCl [(o1, .inr (1, [.ref a1, .ref ax, .ref b0, .ref b1, .ref b2, .double mi, .int (nI tk)])), (a1, aI q 8 pa), (ax, aD q 8 (fun i => FP.i2d (f i))), (b0, aD q 16 (fun i => FP.i2d (z0 i))), (b1, aD q 16 (fun i => FP.i2d (z1 i))), (b2, aD q 16 fm)] H → va_D A [(o1, .inr (1, [.ref a1, .ref ax, .ref b0, .ref b1, .ref b2, .double mi, .int (nI tk)])), (a1, aI q 8 pa), (ax, aD q 8 (fun i => FP.i2d (f i))), (b0, aD q 16 (fun i => FP.i2d (z0 i))), (b1, aD q 16 (fun i => FP.i2d (z1 i))), (b2, aD q 16 fm)] → va_S A s.heap H locs → ∀ (ls : Array Slot), lv_has ls 4 [(0, .ref o1), (1, .int x), (2, .int ta), (3, .int (nI k))] → W p l e (headSpec wsX1_take ({ frames := 1, cells := 0, slots := 0, locals := 24 } : Jvm.Room)).room (s.setDrawn d0) m #[.ref o1, .int x, .int ta] below meth c H locs 0 0 (MQD lw_cs below (va_Qv (fun (m : UInt64) => dV m = sMic ta pa (shX xi x)) (fun (m : UInt64) t => EndA G A [(o1, .inr (1, [.ref a1, .ref ax, .ref b0, .ref b1, .ref b2, .double m, .int (nI (tk + 1))])), (a1, aI q 8 pa), (ax, aD q 8 (fun i => FP.i2d ((shX xi x) i))), (b0, aD q 16 (fun i => FP.i2d ((vf_upd z0 (tk % 16) x) i))), (b1, aD q 16 (fun i => FP.i2d ((vf_upd z1 (tk % 16) (xi 0)) i))), (b2, aD q 16 (vf_upd fm (tk % 16) m))] t) A) #[.ref o1, .int x, .int ta] s 0 0 A) (F0 m 3 ls []) := by
    intro k
    induction k with
    | zero =>
      intro f hk hf H locs d0 hd0 hP hD hS ls hl
      refine lv_iload_n hx hb dX1_take_3 rfl (lv_at hl 3 rfl) ?_
      refine lv_if_le (tgt := 27) hx hb dX1_take_4 (by decide) (fun _ => ?_) (fun h => absurd (by decide) h)
      refine lv_aload_n hx hb dX1_take_27 rfl (lv_at hl 0 rfl) ?_
      refine va_get (D := G) (ci := 1) (v := .ref ax) (C := RX1) (T := TX1) (N := 7) hx hb (dr_words hts d0) in_X1_take_X1 hown hK hP 0 rfl rfl 1 (by decide) (dr_words hts d0 (.fieldLink RX1 15 "EchoBench$Samples" "xs" "[D") (by decide +kernel)) (fun _ h9 => h9) rfl dX1_take_28 ?_
      refine lv_iconst (v := 0) hx hb dX1_take_31 (by decide) ?_
      refine lv_iload_n hx hb dX1_take_32 rfl (lv_at hl 1 rfl) ?_
      refine lv_i2d hx hb dX1_take_33 ?_
      refine va_dastJ (s := s.setDrawn d0) hx hb hK hP hD hS 2 1 rfl rfl (j := 0) rfl (by decide) (by decide) dX1_take_34 (fun H locs hP hD hS => ?_)
      rw [vf_fI, hf, shK_0] at hP hD
      have hP : va_P G vwCl [(o1, .inr (1, [.ref a1, .ref ax, .ref b0, .ref b1, .ref b2, .double mi, .int (nI tk)])), (a1, aI q 8 pa), (ax, aD q 8 (fun i => FP.i2d ((shX xi x) i))), (b0, aD q 16 (fun i => FP.i2d (z0 i))), (b1, aD q 16 (fun i => FP.i2d (z1 i))), (b2, aD q 16 fm)] H := hP
      have hD : va_D A [(o1, .inr (1, [.ref a1, .ref ax, .ref b0, .ref b1, .ref b2, .double mi, .int (nI tk)])), (a1, aI q 8 pa), (ax, aD q 8 (fun i => FP.i2d ((shX xi x) i))), (b0, aD q 16 (fun i => FP.i2d (z0 i))), (b1, aD q 16 (fun i => FP.i2d (z1 i))), (b2, aD q 16 fm)] := hD
      refine lv_aload_n hx hb dX1_take_35 rfl (lv_at hl 0 rfl) ?_
      refine lv_aload_n hx hb dX1_take_36 rfl (lv_at hl 0 rfl) ?_
      refine lv_iload_n hx hb dX1_take_37 rfl (lv_at hl 2 rfl) ?_
      have hPc := hP.sub (ws' := [(o1, .inr (1, [.ref a1, .ref ax, .ref b0, .ref b1, .ref b2, .double mi, .int (nI tk)])), (a1, aI q 8 pa), (ax, aD q 8 (fun i => FP.i2d ((shX xi x) i)))]) [0, 1, 2] rfl
      have hDc := hD.sub (ws' := [(o1, .inr (1, [.ref a1, .ref ax, .ref b0, .ref b1, .ref b2, .double mi, .int (nI tk)])), (a1, aI q 8 pa), (ax, aD q 8 (fun i => FP.i2d ((shX xi x) i)))]) [0, 1, 2] (by decide) rfl
      have hFc := va_free (wc := [(o1, .inr (1, [.ref a1, .ref ax, .ref b0, .ref b1, .ref b2, .double mi, .int (nI tk)])), (a1, aI q 8 pa), (ax, aD q 8 (fun i => FP.i2d ((shX xi x) i)))]) hD hS hA [0, 1, 2] rfl
      refine va_calldD hd0 (va_runV_D (As := [.int ta]) (rest := [.ref o1]) ⟨hx, hb, hml, hown, (dr_words hts d0)⟩ (m_X1_heardWith l G q H.size o1 a1 ax b0 b1 b2 tk mi pa (shX xi x) z0 z1 fm ta) (cwV 1 (dr_words hts d0) gX1_take_X1_heardWith rfl rfl rfl (by decide +kernel) ⟨Nat.le_of_ble_eq_true rfl, Nat.le_of_ble_eq_true rfl⟩) ⟨preW_blind, (va_recv hK hPc (ci := 1) (q0 := 0) rfl rfl), preW_start (s := s.setDrawn d0) hPc hK hDc (hNF.drawn d0)⟩ rfl rfl hl.1 rfl (lv_room (Nat.le_of_ble_eq_true rfl)) dX1_take_38 ⟨(Nat.zero_le _), (Nat.zero_le _)⟩) hS (fun q _ h => hFc q h) hFc (fun mv u9 t9 H1 locs ht9 hv9 hw hB9 hz9 hk9 hS du2 hu2 => ?_)
      obtain ⟨⟩ := u9
      obtain ⟨hP1, hD1⟩ := hB9
      rw [ht9] at hP1
      obtain ⟨hP, hD⟩ := va_join (wr := [(b0, aD q 16 (fun i => FP.i2d (z0 i))), (b1, aD q 16 (fun i => FP.i2d (z1 i))), (b2, aD q 16 fm)]) (w1 := [(o1, .inr (1, [.ref a1, .ref ax, .ref b0, .ref b1, .ref b2, .double mi, .int (nI tk)])), (a1, aI q 8 pa), (ax, aD q 8 (fun i => FP.i2d ((shX xi x) i)))]) hP hD [0, 1, 2] [3, 4, 5] rfl rfl (by decide) (by decide) hk9 hFc hP1 hD1
      generalize H1 = H at hP hS ⊢
      have hP : va_P G vwCl [(b0, aD q 16 (fun i => FP.i2d (z0 i))), (b1, aD q 16 (fun i => FP.i2d (z1 i))), (b2, aD q 16 fm), (o1, .inr (1, [.ref a1, .ref ax, .ref b0, .ref b1, .ref b2, .double mi, .int (nI tk)])), (a1, aI q 8 pa), (ax, aD q 8 (fun i => FP.i2d ((shX xi x) i)))] H := hP
      have hD : va_D A [(b0, aD q 16 (fun i => FP.i2d (z0 i))), (b1, aD q 16 (fun i => FP.i2d (z1 i))), (b2, aD q 16 fm), (o1, .inr (1, [.ref a1, .ref ax, .ref b0, .ref b1, .ref b2, .double mi, .int (nI tk)])), (a1, aI q 8 pa), (ax, aD q 8 (fun i => FP.i2d ((shX xi x) i)))] := hD
      have hm := hw
      refine va_put (D := G) (ci := 1) (v := .double mv) (ty := .double) (C := RX1) (T := TX1) (N := 7) hx hb (dr_words hts du2) in_X1_take_X1 tyX1 tyX1_ok nmX1 hown hK hP hD hS 3 rfl rfl 5 (by decide) (dr_words hts du2 (.fieldLink RX1 28 "EchoBench$Samples" "lastMicrophone" "D") (by decide +kernel)) (fun _ h9 => h9) rfl (by decide +kernel) rfl rfl (Nat.le_of_ble_eq_true rfl) dX1_take_41 (fun H locs hP hD hS => ?_)
      have hP : va_P G vwCl [(b0, aD q 16 (fun i => FP.i2d (z0 i))), (b1, aD q 16 (fun i => FP.i2d (z1 i))), (b2, aD q 16 fm), (o1, .inr (1, [.ref a1, .ref ax, .ref b0, .ref b1, .ref b2, .double mv, .int (nI tk)])), (a1, aI q 8 pa), (ax, aD q 8 (fun i => FP.i2d ((shX xi x) i)))] H := hP
      have hD : va_D A [(b0, aD q 16 (fun i => FP.i2d (z0 i))), (b1, aD q 16 (fun i => FP.i2d (z1 i))), (b2, aD q 16 fm), (o1, .inr (1, [.ref a1, .ref ax, .ref b0, .ref b1, .ref b2, .double mv, .int (nI tk)])), (a1, aI q 8 pa), (ax, aD q 8 (fun i => FP.i2d ((shX xi x) i)))] := hD
      refine lv_aload_n hx hb dX1_take_44 rfl (lv_at hl 0 rfl) ?_
      refine va_get (D := G) (ci := 1) (v := .int (nI tk)) (C := RX1) (T := TX1) (N := 7) hx hb (dr_words hts du2) in_X1_take_X1 hown hK hP 3 rfl rfl 6 (by decide) (dr_words hts du2 (.fieldLink RX1 32 "EchoBench$Samples" "taken" "I") (by decide +kernel)) (fun _ h9 => h9) rfl dX1_take_45 ?_
      refine lv_bipush (v := 16) hx hb dX1_take_48 (by decide) ?_
      have hPc := hP.sub (ws' := []) [] rfl
      have hDc := hD.sub (ws' := []) [] (by decide) rfl
      have hFc := va_free (wc := []) hD hS hA [] rfl
      refine va_calli (va_runS (As := [.int (nI tk), .int 16]) (rest := []) ⟨hx, hb, hml, hown, (dr_words hts du2)⟩ (m_floorMod l G q H.size tk (by omega)) (va_cwS 2 (dr_words hts du2) gX1_take_J9_floorMod_7cf53 rfl rfl rfl (by decide +kernel) ⟨Nat.le_of_ble_eq_true rfl, Nat.le_of_ble_eq_true rfl⟩) ⟨preW_blind, preW_start (s := s.setDrawn du2) hPc hK hDc (hNF.drawn du2)⟩ rfl rfl hl.1 rfl (lv_room (Nat.le_of_ble_eq_true rfl)) dX1_take_50 ⟨(Nat.zero_le _), (Nat.zero_le _)⟩) hS (fun q _ h => hFc q h) hFc (fun sl u9 t9 H1 locs ht9 hv9 hw hB9 hz9 hk9 hS => ?_)
      obtain ⟨⟩ := u9
      obtain ⟨hP1, hD1⟩ := hB9
      rw [ht9] at hP1
      obtain ⟨hP, hD⟩ := va_join (wr := [(b0, aD q 16 (fun i => FP.i2d (z0 i))), (b1, aD q 16 (fun i => FP.i2d (z1 i))), (b2, aD q 16 fm), (o1, .inr (1, [.ref a1, .ref ax, .ref b0, .ref b1, .ref b2, .double mv, .int (nI tk)])), (a1, aI q 8 pa), (ax, aD q 8 (fun i => FP.i2d ((shX xi x) i)))]) (w1 := []) hP hD [] [0, 1, 2, 3, 4, 5] rfl rfl (by decide) (by decide) hk9 hFc hP1 hD1
      generalize H1 = H at hP hS ⊢
      have hP : va_P G vwCl [(b0, aD q 16 (fun i => FP.i2d (z0 i))), (b1, aD q 16 (fun i => FP.i2d (z1 i))), (b2, aD q 16 fm), (o1, .inr (1, [.ref a1, .ref ax, .ref b0, .ref b1, .ref b2, .double mv, .int (nI tk)])), (a1, aI q 8 pa), (ax, aD q 8 (fun i => FP.i2d ((shX xi x) i)))] H := hP
      have hD : va_D A [(b0, aD q 16 (fun i => FP.i2d (z0 i))), (b1, aD q 16 (fun i => FP.i2d (z1 i))), (b2, aD q 16 fm), (o1, .inr (1, [.ref a1, .ref ax, .ref b0, .ref b1, .ref b2, .double mv, .int (nI tk)])), (a1, aI q 8 pa), (ax, aD q 8 (fun i => FP.i2d ((shX xi x) i)))] := hD
      try dsimp only at hw
      subst hw
      refine lv_istore_n (lv' := [(3, .int (nI (tk % 16))), (0, .ref o1), (1, .int x), (2, .int ta)]) hx hb dX1_take_53 rfl hl (by decide) rfl (fun ls hl => ?_)
      refine lv_aload_n hx hb dX1_take_54 rfl (lv_at hl 1 rfl) ?_
      refine va_get (D := G) (ci := 1) (v := .ref b0) (C := RX1) (T := TX1) (N := 7) hx hb (dr_words hts du2) in_X1_take_X1 hown hK hP 3 rfl rfl 2 (by decide) (dr_words hts du2 (.fieldLink RX1 19 "EchoBench$Samples" "latestX0" "[D") (by decide +kernel)) (fun _ h9 => h9) rfl dX1_take_55 ?_
      refine lv_iload_n hx hb dX1_take_58 rfl (lv_at hl 0 rfl) ?_
      refine lv_aload_n hx hb dX1_take_59 rfl (lv_at hl 1 rfl) ?_
      refine va_get (D := G) (ci := 1) (v := .ref ax) (C := RX1) (T := TX1) (N := 7) hx hb (dr_words hts du2) in_X1_take_X1 hown hK hP 3 rfl rfl 1 (by decide) (dr_words hts du2 (.fieldLink RX1 15 "EchoBench$Samples" "xs" "[D") (by decide +kernel)) (fun _ h9 => h9) rfl dX1_take_60 ?_
      refine lv_iconst (v := 0) hx hb dX1_take_63 (by decide) ?_
      refine va_daldJ (s := s.setDrawn du2) hx hb hK hP 5 1 rfl rfl (j := 0) rfl (by decide) (by decide) dX1_take_64 ?_
      refine va_dastJ (s := s.setDrawn du2) hx hb hK hP hD hS 0 1 rfl rfl (j := (tk % 16)) rfl (Nat.mod_lt _ (by decide)) (by decide) dX1_take_65 (fun H locs hP hD hS => ?_)
      rw [vf_fI] at hP hD
      have hP : va_P G vwCl [(b0, aD q 16 (fun i => FP.i2d ((vf_upd z0 (tk % 16) x) i))), (b1, aD q 16 (fun i => FP.i2d (z1 i))), (b2, aD q 16 fm), (o1, .inr (1, [.ref a1, .ref ax, .ref b0, .ref b1, .ref b2, .double mv, .int (nI tk)])), (a1, aI q 8 pa), (ax, aD q 8 (fun i => FP.i2d ((shX xi x) i)))] H := hP
      have hD : va_D A [(b0, aD q 16 (fun i => FP.i2d ((vf_upd z0 (tk % 16) x) i))), (b1, aD q 16 (fun i => FP.i2d (z1 i))), (b2, aD q 16 fm), (o1, .inr (1, [.ref a1, .ref ax, .ref b0, .ref b1, .ref b2, .double mv, .int (nI tk)])), (a1, aI q 8 pa), (ax, aD q 8 (fun i => FP.i2d ((shX xi x) i)))] := hD
      refine lv_aload_n hx hb dX1_take_66 rfl (lv_at hl 1 rfl) ?_
      refine va_get (D := G) (ci := 1) (v := .ref b1) (C := RX1) (T := TX1) (N := 7) hx hb (dr_words hts du2) in_X1_take_X1 hown hK hP 3 rfl rfl 3 (by decide) (dr_words hts du2 (.fieldLink RX1 22 "EchoBench$Samples" "latestX1" "[D") (by decide +kernel)) (fun _ h9 => h9) rfl dX1_take_67 ?_
      refine lv_iload_n hx hb dX1_take_70 rfl (lv_at hl 0 rfl) ?_
      refine lv_aload_n hx hb dX1_take_71 rfl (lv_at hl 1 rfl) ?_
      refine va_get (D := G) (ci := 1) (v := .ref ax) (C := RX1) (T := TX1) (N := 7) hx hb (dr_words hts du2) in_X1_take_X1 hown hK hP 3 rfl rfl 1 (by decide) (dr_words hts du2 (.fieldLink RX1 15 "EchoBench$Samples" "xs" "[D") (by decide +kernel)) (fun _ h9 => h9) rfl dX1_take_72 ?_
      refine lv_iconst (v := 1) hx hb dX1_take_75 (by decide) ?_
      refine va_daldJ (s := s.setDrawn du2) hx hb hK hP 5 1 rfl rfl (j := 1) rfl (by decide) (by decide) dX1_take_76 ?_
      refine va_dastJ (s := s.setDrawn du2) hx hb hK hP hD hS 1 1 rfl rfl (j := (tk % 16)) rfl (Nat.mod_lt _ (by decide)) (by decide) dX1_take_77 (fun H locs hP hD hS => ?_)
      rw [vf_fI] at hP hD
      have hP : va_P G vwCl [(b0, aD q 16 (fun i => FP.i2d ((vf_upd z0 (tk % 16) x) i))), (b1, aD q 16 (fun i => FP.i2d ((vf_upd z1 (tk % 16) (xi 0)) i))), (b2, aD q 16 fm), (o1, .inr (1, [.ref a1, .ref ax, .ref b0, .ref b1, .ref b2, .double mv, .int (nI tk)])), (a1, aI q 8 pa), (ax, aD q 8 (fun i => FP.i2d ((shX xi x) i)))] H := hP
      have hD : va_D A [(b0, aD q 16 (fun i => FP.i2d ((vf_upd z0 (tk % 16) x) i))), (b1, aD q 16 (fun i => FP.i2d ((vf_upd z1 (tk % 16) (xi 0)) i))), (b2, aD q 16 fm), (o1, .inr (1, [.ref a1, .ref ax, .ref b0, .ref b1, .ref b2, .double mv, .int (nI tk)])), (a1, aI q 8 pa), (ax, aD q 8 (fun i => FP.i2d ((shX xi x) i)))] := hD
      refine lv_aload_n hx hb dX1_take_78 rfl (lv_at hl 1 rfl) ?_
      refine va_get (D := G) (ci := 1) (v := .ref b2) (C := RX1) (T := TX1) (N := 7) hx hb (dr_words hts du2) in_X1_take_X1 hown hK hP 3 rfl rfl 4 (by decide) (dr_words hts du2 (.fieldLink RX1 25 "EchoBench$Samples" "latestMicrophone" "[D") (by decide +kernel)) (fun _ h9 => h9) rfl dX1_take_79 ?_
      refine lv_iload_n hx hb dX1_take_82 rfl (lv_at hl 0 rfl) ?_
      refine lv_aload_n hx hb dX1_take_83 rfl (lv_at hl 1 rfl) ?_
      refine va_get (D := G) (ci := 1) (v := .double mv) (C := RX1) (T := TX1) (N := 7) hx hb (dr_words hts du2) in_X1_take_X1 hown hK hP 3 rfl rfl 5 (by decide) (dr_words hts du2 (.fieldLink RX1 28 "EchoBench$Samples" "lastMicrophone" "D") (by decide +kernel)) (fun _ h9 => h9) rfl dX1_take_84 ?_
      refine va_dastJ (s := s.setDrawn du2) hx hb hK hP hD hS 2 1 rfl rfl (j := (tk % 16)) rfl (Nat.mod_lt _ (by decide)) (by decide) dX1_take_87 (fun H locs hP hD hS => ?_)
      have hP : va_P G vwCl [(b0, aD q 16 (fun i => FP.i2d ((vf_upd z0 (tk % 16) x) i))), (b1, aD q 16 (fun i => FP.i2d ((vf_upd z1 (tk % 16) (xi 0)) i))), (b2, aD q 16 (vf_upd fm (tk % 16) mv)), (o1, .inr (1, [.ref a1, .ref ax, .ref b0, .ref b1, .ref b2, .double mv, .int (nI tk)])), (a1, aI q 8 pa), (ax, aD q 8 (fun i => FP.i2d ((shX xi x) i)))] H := hP
      have hD : va_D A [(b0, aD q 16 (fun i => FP.i2d ((vf_upd z0 (tk % 16) x) i))), (b1, aD q 16 (fun i => FP.i2d ((vf_upd z1 (tk % 16) (xi 0)) i))), (b2, aD q 16 (vf_upd fm (tk % 16) mv)), (o1, .inr (1, [.ref a1, .ref ax, .ref b0, .ref b1, .ref b2, .double mv, .int (nI tk)])), (a1, aI q 8 pa), (ax, aD q 8 (fun i => FP.i2d ((shX xi x) i)))] := hD
      refine lv_aload_n hx hb dX1_take_88 rfl (lv_at hl 1 rfl) ?_
      refine lv_dup hx hb dX1_take_89 rfl ?_
      refine va_get (D := G) (ci := 1) (v := .int (nI tk)) (C := RX1) (T := TX1) (N := 7) hx hb (dr_words hts du2) in_X1_take_X1 hown hK hP 3 rfl rfl 6 (by decide) (dr_words hts du2 (.fieldLink RX1 32 "EchoBench$Samples" "taken" "I") (by decide +kernel)) (fun _ h9 => h9) rfl dX1_take_90 ?_
      refine lv_iconst (v := 1) hx hb dX1_take_93 (by decide) ?_
      refine lv_iadd hx hb dX1_take_94 ?_
      refine lv_topi (fun x4 ex4 => ?_)
      obtain rfl : x4 = (nI (tk + 1)) := ex4.trans (nI_succ tk).symm
      refine va_put (D := G) (ci := 1) (v := .int (nI (tk + 1))) (ty := .int) (C := RX1) (T := TX1) (N := 7) hx hb (dr_words hts du2) in_X1_take_X1 tyX1 tyX1_ok nmX1 hown hK hP hD hS 3 rfl rfl 6 (by decide) (dr_words hts du2 (.fieldLink RX1 32 "EchoBench$Samples" "taken" "I") (by decide +kernel)) (fun _ h9 => h9) rfl (by decide +kernel) rfl rfl (Nat.le_of_ble_eq_true rfl) dX1_take_95 (fun H locs hP hD hS => ?_)
      have hP : va_P G vwCl [(b0, aD q 16 (fun i => FP.i2d ((vf_upd z0 (tk % 16) x) i))), (b1, aD q 16 (fun i => FP.i2d ((vf_upd z1 (tk % 16) (xi 0)) i))), (b2, aD q 16 (vf_upd fm (tk % 16) mv)), (o1, .inr (1, [.ref a1, .ref ax, .ref b0, .ref b1, .ref b2, .double mv, .int (nI (tk + 1))])), (a1, aI q 8 pa), (ax, aD q 8 (fun i => FP.i2d ((shX xi x) i)))] H := hP
      have hD : va_D A [(b0, aD q 16 (fun i => FP.i2d ((vf_upd z0 (tk % 16) x) i))), (b1, aD q 16 (fun i => FP.i2d ((vf_upd z1 (tk % 16) (xi 0)) i))), (b2, aD q 16 (vf_upd fm (tk % 16) mv)), (o1, .inr (1, [.ref a1, .ref ax, .ref b0, .ref b1, .ref b2, .double mv, .int (nI (tk + 1))])), (a1, aI q 8 pa), (ax, aD q 8 (fun i => FP.i2d ((shX xi x) i)))] := hD
      have hP := hP.sub (ws' := [(o1, .inr (1, [.ref a1, .ref ax, .ref b0, .ref b1, .ref b2, .double mv, .int (nI (tk + 1))])), (a1, aI q 8 pa), (ax, aD q 8 (fun i => FP.i2d ((shX xi x) i))), (b0, aD q 16 (fun i => FP.i2d ((vf_upd z0 (tk % 16) x) i))), (b1, aD q 16 (fun i => FP.i2d ((vf_upd z1 (tk % 16) (xi 0)) i))), (b2, aD q 16 (vf_upd fm (tk % 16) mv))]) [3, 4, 5, 0, 1, 2] rfl
      have hD := hD.sub (ws' := [(o1, .inr (1, [.ref a1, .ref ax, .ref b0, .ref b1, .ref b2, .double mv, .int (nI (tk + 1))])), (a1, aI q 8 pa), (ax, aD q 8 (fun i => FP.i2d ((shX xi x) i))), (b0, aD q 16 (fun i => FP.i2d ((vf_upd z0 (tk % 16) x) i))), (b1, aD q 16 (fun i => FP.i2d ((vf_upd z1 (tk % 16) (xi 0)) i))), (b2, aD q 16 (vf_upd fm (tk % 16) mv))]) [3, 4, 5, 0, 1, 2] (by decide) rfl
      have hP9 := hP
      have hD9 := hD
      refine W.endD hu2 ?_
      exact W.vret hx hb hr (fun t ht hW => ⟨⟨mv, rfl, hm, by rw [ht]; exact hP9, hD9⟩, hS.F ht⟩) hS.2.2 dX1_take_98
    | succ k ih =>
      intro f hk hf H locs d0 hd0 hP hD hS ls hl
      refine lv_iload_n hx hb dX1_take_3 rfl (lv_at hl 3 rfl) ?_
      refine lv_if_le (tgt := 27) hx hb dX1_take_4 (by decide) (fun h => absurd h (nI_nle (by omega) (by omega))) (fun _ => ?_)
      refine lv_aload_n hx hb dX1_take_7 rfl (lv_at hl 0 rfl) ?_
      refine va_get (D := G) (ci := 1) (v := .ref ax) (C := RX1) (T := TX1) (N := 7) hx hb (dr_words hts d0) in_X1_take_X1 hown hK hP 0 rfl rfl 1 (by decide) (dr_words hts d0 (.fieldLink RX1 15 "EchoBench$Samples" "xs" "[D") (by decide +kernel)) (fun _ h9 => h9) rfl dX1_take_8 ?_
      refine lv_iload_n hx hb dX1_take_11 rfl (lv_at hl 3 rfl) ?_
      refine lv_aload_n hx hb dX1_take_12 rfl (lv_at hl 0 rfl) ?_
      refine va_get (D := G) (ci := 1) (v := .ref ax) (C := RX1) (T := TX1) (N := 7) hx hb (dr_words hts d0) in_X1_take_X1 hown hK hP 0 rfl rfl 1 (by decide) (dr_words hts d0 (.fieldLink RX1 15 "EchoBench$Samples" "xs" "[D") (by decide +kernel)) (fun _ h9 => h9) rfl dX1_take_13 ?_
      refine lv_iload_n hx hb dX1_take_16 rfl (lv_at hl 3 rfl) ?_
      refine lv_iconst (v := 1) hx hb dX1_take_17 (by decide) ?_
      refine lv_isub hx hb dX1_take_18 ?_
      refine lv_topi (fun x6 ex6 => ?_)
      refine va_daldJ (s := s.setDrawn d0) hx hb hK hP 2 1 rfl rfl (j := k) (ex6.trans (nI_pred k)) (by omega) (by decide) dX1_take_19 ?_
      refine va_dastJ (s := s.setDrawn d0) hx hb hK hP hD hS 2 1 rfl rfl (j := (k + 1)) rfl (by omega) (by decide) dX1_take_20 (fun H locs hP hD hS => ?_)
      rw [vf_fI] at hP hD
      have hP : va_P G vwCl [(o1, .inr (1, [.ref a1, .ref ax, .ref b0, .ref b1, .ref b2, .double mi, .int (nI tk)])), (a1, aI q 8 pa), (ax, aD q 8 (fun i => FP.i2d ((vf_upd f (k + 1) (f k)) i))), (b0, aD q 16 (fun i => FP.i2d (z0 i))), (b1, aD q 16 (fun i => FP.i2d (z1 i))), (b2, aD q 16 fm)] H := hP
      have hD : va_D A [(o1, .inr (1, [.ref a1, .ref ax, .ref b0, .ref b1, .ref b2, .double mi, .int (nI tk)])), (a1, aI q 8 pa), (ax, aD q 8 (fun i => FP.i2d ((vf_upd f (k + 1) (f k)) i))), (b0, aD q 16 (fun i => FP.i2d (z0 i))), (b1, aD q 16 (fun i => FP.i2d (z1 i))), (b2, aD q 16 fm)] := hD
      refine lv_iinc (v := nI k) (lv' := [(3, .int (nI k)), (0, .ref o1), (1, .int x), (2, .int ta)]) hx hb dX1_take_21 hl (k := 3) rfl (nI_dec _) (by decide) rfl (fun ls hl => ?_)
      refine lv_goto (tgt := 3) hx hb dX1_take_24 (by decide) ?_
      exact ih (vf_upd f (k + 1) (f k)) (by omega) (by rw [hf]; exact shK_step xi hk) _ _ _ hd0 (hP.sub [0, 1, 2, 3, 4, 5] rfl) (hD.sub [0, 1, 2, 3, 4, 5] (by decide) rfl) hS ls (lv_sub hl [1, 2, 3, 0] rfl)
  refine lv_bipush (v := 7) hx hb dX1_take_0 (by decide) ?_
  refine lv_istore_n (lv' := [(3, .int 7), (0, .ref o1), (1, .int x), (2, .int ta)]) hx hb dX1_take_2 rfl hl (by decide) rfl (fun ls hl => ?_)
  exact LOOP 7 xi (by omega) (shK_7 xi).symm _ _ _ hd0 (hP.sub [0, 1, 2, 3, 4, 5] rfl) (hD.sub [0, 1, 2, 3, 4, 5] (by decide) rfl) hS ls (lv_sub hl [1, 2, 3, 0] rfl)

theorem in_X1_offness_X1 : ∀ w ∈ wsX10, w ∈ wsX1_offness := by decide +kernel
set_option maxHeartbeats 4000000 in
set_option maxRecDepth 100000 in
/-- offness: how far weights are off -/
theorem m_X1_offness (l : Launch) (G : va_G) (q : Nat → ClassId) (sz : Nat) (o1 a1 ax b0 b1 b2 tk aw n : Nat) (mi : UInt64) (pa : Nat → Int32) (fw : Nat → UInt64) (hn : n ≤ 8) : MetD lw_cs l yX1_offness wsX1_offness ({ frames := 0, cells := 0, slots := 0, locals := 0 } : Jvm.Room) (PreW G q [.ref o1, .ref aw] [(o1, .inr (1, [.ref a1, .ref ax, .ref b0, .ref b1, .ref b2, .double mi, .int (nI tk)])), (a1, aI q 8 pa), (aw, aD q n fw)] sz) (va_Qd (fun (r : UInt64) (_ : Unit) => dV r = sOff n (fun k => dV (fw k)) pa) (fun (_ : Unit) t => EndA G (va_A [(o1, .inr (1, [.ref a1, .ref ax, .ref b0, .ref b1, .ref b2, .double mi, .int (nI tk)])), (a1, aI q 8 pa), (aw, aD q n fw)] sz) [(o1, .inr (1, [.ref a1, .ref ax, .ref b0, .ref b1, .ref b2, .double mi, .int (nI tk)])), (a1, aI q 8 pa), (aw, aD q n fw)] t) (va_A [(o1, .inr (1, [.ref a1, .ref ax, .ref b0, .ref b1, .ref b2, .double mi, .int (nI tk)])), (a1, aI q 8 pa), (aw, aD q n fw)] sz)) 0 0 (va_A [(o1, .inr (1, [.ref a1, .ref ax, .ref b0, .ref b1, .ref b2, .double mi, .int (nI tk)])), (a1, aI q 8 pa), (aw, aD q n fw)] sz) := by
  refine MetD.ofW (cc := cX1_offness) (maxL := 7) (ret := (some .double)) (by decide +kernel) rfl ?_
  intro p e s m args below meth c s₁ B hml hv hd0
  obtain ⟨rfl, hsz, hP, hK, hD0, hNF⟩ := hv
  have hx := B.exec
  have hb := B.bytes
  have hr := B.returns
  have hts := atoms_spec (ws := wsX1_offness) B.pre
  have hown : s.vm.findClass RX1 = some m.cls := findClass_of_methodNamed B.named
  have hlocks := B.notSynchronized
  subst hsz
  have hD := hD0.self (sz := s.heap.size)
  generalize hAe : va_A [(o1, .inr (1, [.ref a1, .ref ax, .ref b0, .ref b1, .ref b2, .double mi, .int (nI tk)])), (a1, aI q 8 pa), (aw, aD q n fw)] s.heap.size = A at hD ⊢
  have hA : ∀ q : Nat, s.heap.size ≤ q → A q := fun q h => by rw [← hAe]; exact Or.inr h
  have hS : va_S A s.heap s.heap [] := va_S.rf
  have hP : va_P G vwCl [(o1, .inr (1, [.ref a1, .ref ax, .ref b0, .ref b1, .ref b2, .double mi, .int (nI tk)])), (a1, aI q 8 pa), (aw, aD q n fw)] s.heap := hP
  have hl := lv_entry ([.ref o1, .ref aw]) (n := 7) (Nat.le_of_ble_eq_true rfl)
  rw [lg_entry_eq]
  generalize (lg_sl ([.ref o1, .ref aw]) ++ List.replicate (7 - (lg_sl ([.ref o1, .ref aw])).length) Slot.unset).toArray = ls at hl ⊢
  have hl : lv_has ls 7 [(0, .ref o1), (1, .ref aw)] := hl
  have LOOP : ∀ (k : Nat) (j : Nat) (a : UInt64), j + k = n → dV a = smN (dV 0) (fun k => fMul (gapV (dV (fw k)) (pa k)) (gapV (dV (fw k)) (pa k))) j → ∀ (H : Heap) (locs : List Loc) (d0 : Drawn), s.drawn.sameBut d0 lw_cs → va_P G vwCl [(o1, .inr (1, [.ref a1, .ref ax, .ref b0, .ref b1, .ref b2, .double mi, .int (nI tk)])), (a1, aI q 8 pa), (aw, aD q n fw)] H → va_D A [(o1, .inr (1, [.ref a1, .ref ax, .ref b0, .ref b1, .ref b2, .double mi, .int (nI tk)])), (a1, aI q 8 pa), (aw, aD q n fw)] → va_S A s.heap H locs → ∀ (ls : Array Slot), lv_has ls 7 [(0, .ref o1), (1, .ref aw), (2, .double a), (4, .int (nI j))] → W p l e (headSpec wsX1_offness ({ frames := 0, cells := 0, slots := 0, locals := 0 } : Jvm.Room)).room (s.setDrawn d0) m #[.ref o1, .ref aw] below meth c H locs 0 0 (MQD lw_cs below (va_Qd (fun (r : UInt64) (_ : Unit) => dV r = sOff n (fun k => dV (fw k)) pa) (fun (_ : Unit) t => EndA G A [(o1, .inr (1, [.ref a1, .ref ax, .ref b0, .ref b1, .ref b2, .double mi, .int (nI tk)])), (a1, aI q 8 pa), (aw, aD q n fw)] t) A) #[.ref o1, .ref aw] s 0 0 A) (F0 m 5 ls []) := by
    intro k
    induction k with
    | zero =>
      intro j a hj ha H locs d0 hd0 hP hD hS ls hl
      refine lv_iload hx hb dX1_offness_5 (lv_at hl 3 rfl) ?_
      refine lv_aload_n hx hb dX1_offness_7 rfl (lv_at hl 1 rfl) ?_
      refine va_alen (s := s.setDrawn d0) (D := G) hx hb hK hP 2 1 rfl rfl (v := (nI n)) rfl dX1_offness_8 ?_
      refine lv_icmp_ge (tgt := 52) hx hb dX1_offness_9 (by decide) (fun _ => ?_) (fun h => absurd (nI_le (by omega) (by omega)) h)
      refine lv_dload_n hx hb dX1_offness_52 rfl (lv_at hl 2 rfl) ?_
      have hP9 := hP
      have hD9 := hD
      refine W.endD hd0 ?_
      exact W.dret (v := a) hx hb hr (fun t ht hW => ⟨⟨a, (), rfl, by dsimp only; rw [ha, show j = n by omega]; rfl, by rw [ht]; exact hP9, hD9⟩, hS.F ht⟩) hS.2.2 dX1_offness_53
    | succ k ih =>
      intro j a hj ha H locs d0 hd0 hP hD hS ls hl
      refine lv_iload hx hb dX1_offness_5 (lv_at hl 3 rfl) ?_
      refine lv_aload_n hx hb dX1_offness_7 rfl (lv_at hl 1 rfl) ?_
      refine va_alen (s := s.setDrawn d0) (D := G) hx hb hK hP 2 1 rfl rfl (v := (nI n)) rfl dX1_offness_8 ?_
      refine lv_icmp_ge (tgt := 52) hx hb dX1_offness_9 (by decide) (fun h => absurd h (nI_ge (by omega) (by omega))) (fun _ => ?_)
      refine lv_iload hx hb dX1_offness_12 (lv_at hl 3 rfl) ?_
      refine lv_bipush (v := 8) hx hb dX1_offness_14 (by decide) ?_
      refine lv_icmp_ge (tgt := 52) hx hb dX1_offness_16 (by decide) (fun h => absurd h (nI_ge (b := 8) (by omega) (by omega))) (fun _ => ?_)
      refine lv_aload_n hx hb dX1_offness_19 rfl (lv_at hl 1 rfl) ?_
      refine lv_iload hx hb dX1_offness_20 (lv_at hl 3 rfl) ?_
      refine va_daldJ (s := s.setDrawn d0) hx hb hK hP 2 1 rfl rfl (j := j) rfl (by omega) (by omega) dX1_offness_22 ?_
      refine lv_aload_n hx hb dX1_offness_23 rfl (lv_at hl 0 rfl) ?_
      refine va_get (D := G) (ci := 1) (v := .ref a1) (C := RX1) (T := TX1) (N := 7) hx hb (dr_words hts d0) in_X1_offness_X1 hown hK hP 0 rfl rfl 0 (by decide) (dr_words hts d0 (.fieldLink RX1 9 "EchoBench$Samples" "pathHundredths" "[I") (by decide +kernel)) (fun _ h9 => h9) rfl dX1_offness_24 ?_
      refine lv_iload hx hb dX1_offness_27 (lv_at hl 3 rfl) ?_
      refine va_ialdJ (s := s.setDrawn d0) hx hb hK hP 1 0 rfl rfl (j := j) rfl (by omega) (by decide) dX1_offness_29 ?_
      refine lv_i2d hx hb dX1_offness_30 ?_
      refine lv_ldc2d hx hb hown (dr_words hts d0 (.constantDouble RX1 46 4636737291354636288) (by decide +kernel)) dX1_offness_31 ?_
      refine lv_ddiv_any hd0 lw_bits hx hb dX1_offness_34 (fun r4 dr4 ar4 hr4 => ?_)
      have er4 := dV_div ar4
      refine lv_dsub_any hr4 lw_bits hx hb dX1_offness_35 (fun r5 dr5 ar5 hr5 => ?_)
      have er5 := dV_sub ar5
      refine lv_dstore (lv' := [(5, .double r5), (0, .ref o1), (1, .ref aw), (2, .double a), (4, .int (nI j))]) hx hb dX1_offness_36 hl (by decide) rfl (fun ls hl => ?_)
      refine lv_dload_n hx hb dX1_offness_38 rfl (lv_at hl 3 rfl) ?_
      refine lv_dload hx hb dX1_offness_39 (lv_at hl 0 rfl) ?_
      refine lv_dload hx hb dX1_offness_41 (lv_at hl 0 rfl) ?_
      refine lv_dmul_any hr5 lw_bits hx hb dX1_offness_43 (fun r6 dr6 ar6 hr6 => ?_)
      have er6 := dV_mul ar6
      refine lv_dadd_any hr6 lw_bits hx hb dX1_offness_44 (fun r7 dr7 ar7 hr7 => ?_)
      have er7 := dV_add ar7
      refine lv_dstore_n (lv' := [(2, .double r7), (5, .double r5), (0, .ref o1), (1, .ref aw), (4, .int (nI j))]) hx hb dX1_offness_45 rfl hl (by decide) rfl (fun ls hl => ?_)
      refine lv_iinc (v := nI (j + 1)) (lv' := [(4, .int (nI (j + 1))), (2, .double r7), (5, .double r5), (0, .ref o1), (1, .ref aw)]) hx hb dX1_offness_46 hl (k := 4) rfl (nI_succ _).symm (by decide) rfl (fun ls hl => ?_)
      refine lv_goto (tgt := 5) hx hb dX1_offness_49 (by decide) ?_
      exact ih (j + 1) r7 (by omega) (by rw [er7, er6, er5, er4, ha]; rfl) _ _ _ hr7 (hP.sub [0, 1, 2] rfl) (hD.sub [0, 1, 2] (by decide) rfl) hS ls (lv_sub hl [3, 4, 1, 0] rfl)
  refine lv_dc0 hx hb dX1_offness_0 ?_
  refine lv_dstore_n (lv' := [(2, .double 0), (0, .ref o1), (1, .ref aw)]) hx hb dX1_offness_1 rfl hl (by decide) rfl (fun ls hl => ?_)
  refine lv_iconst (v := 0) hx hb dX1_offness_2 (by decide) ?_
  refine lv_istore (lv' := [(4, .int 0), (2, .double 0), (0, .ref o1), (1, .ref aw)]) hx hb dX1_offness_3 hl (by decide) rfl (fun ls hl => ?_)
  exact LOOP n 0 0 (by omega) rfl _ _ _ hd0 (hP.sub [0, 1, 2] rfl) (hD.sub [0, 1, 2] (by decide) rfl) hS ls (lv_sub hl [2, 3, 1, 0] rfl)

theorem in_X1_sumOfProducts_X1 : ∀ w ∈ wsX10, w ∈ wsX1_sumOfProducts := by decide +kernel
set_option maxHeartbeats 4000000 in
set_option maxRecDepth 100000 in
/-- sumOfProducts -/
theorem m_X1_sum2 (l : Launch) (G : va_G) (q : Nat → ClassId) (sz : Nat) (o1 a1 ax b0 b1 b2 tk aw av : Nat) (mi : UInt64) (fw fv : Nat → UInt64) (htk : tk ≤ 2000) : MetD lw_cs l yX1_sumOfProducts wsX1_sumOfProducts ({ frames := 1, cells := 0, slots := 0, locals := 60 } : Jvm.Room) (PreW G q [.ref o1, .ref aw, .ref av] [(o1, .inr (1, [.ref a1, .ref ax, .ref b0, .ref b1, .ref b2, .double mi, .int (nI tk)])), (aw, aD q 16 fw), (av, aD q 16 fv)] sz) (va_Qd (fun (r : UInt64) (_ : Unit) => dV r = sSum tk (fun k => dV (fw k)) (fun k => dV (fv k))) (fun (_ : Unit) t => EndA G (va_A [(o1, .inr (1, [.ref a1, .ref ax, .ref b0, .ref b1, .ref b2, .double mi, .int (nI tk)])), (aw, aD q 16 fw), (av, aD q 16 fv)] sz) [(o1, .inr (1, [.ref a1, .ref ax, .ref b0, .ref b1, .ref b2, .double mi, .int (nI tk)])), (aw, aD q 16 fw), (av, aD q 16 fv)] t) (va_A [(o1, .inr (1, [.ref a1, .ref ax, .ref b0, .ref b1, .ref b2, .double mi, .int (nI tk)])), (aw, aD q 16 fw), (av, aD q 16 fv)] sz)) 0 0 (va_A [(o1, .inr (1, [.ref a1, .ref ax, .ref b0, .ref b1, .ref b2, .double mi, .int (nI tk)])), (aw, aD q 16 fw), (av, aD q 16 fv)] sz) := by
  refine MetD.ofW (cc := cX1_sumOfProducts) (maxL := 7) (ret := (some .double)) (by decide +kernel) rfl ?_
  intro p e s m args below meth c s₁ B hml hv hd0
  obtain ⟨rfl, hsz, hP, hK, hD0, hNF⟩ := hv
  have hx := B.exec
  have hb := B.bytes
  have hr := B.returns
  have hts := atoms_spec (ws := wsX1_sumOfProducts) B.pre
  have hown : s.vm.findClass RX1 = some m.cls := findClass_of_methodNamed B.named
  have hlocks := B.notSynchronized
  subst hsz
  have hD := hD0.self (sz := s.heap.size)
  generalize hAe : va_A [(o1, .inr (1, [.ref a1, .ref ax, .ref b0, .ref b1, .ref b2, .double mi, .int (nI tk)])), (aw, aD q 16 fw), (av, aD q 16 fv)] s.heap.size = A at hD ⊢
  have hA : ∀ q : Nat, s.heap.size ≤ q → A q := fun q h => by rw [← hAe]; exact Or.inr h
  have hS : va_S A s.heap s.heap [] := va_S.rf
  have hP : va_P G vwCl [(o1, .inr (1, [.ref a1, .ref ax, .ref b0, .ref b1, .ref b2, .double mi, .int (nI tk)])), (aw, aD q 16 fw), (av, aD q 16 fv)] s.heap := hP
  have hl := lv_entry ([.ref o1, .ref aw, .ref av]) (n := 7) (Nat.le_of_ble_eq_true rfl)
  rw [lg_entry_eq]
  generalize (lg_sl ([.ref o1, .ref aw, .ref av]) ++ List.replicate (7 - (lg_sl ([.ref o1, .ref aw, .ref av])).length) Slot.unset).toArray = ls at hl ⊢
  have hl : lv_has ls 7 [(0, .ref o1), (1, .ref aw), (2, .ref av)] := hl
  have LOOP : ∀ (k : Nat) (j : Nat) (a : UInt64), tk - 16 + j + k = tk → dV a = smN (dV 0) (fun k => fMul (dV (fw ((tk - 16 + k) % 16))) (dV (fv ((tk - 16 + k) % 16)))) j → ∀ (H : Heap) (locs : List Loc) (d0 : Drawn), s.drawn.sameBut d0 lw_cs → va_P G vwCl [(o1, .inr (1, [.ref a1, .ref ax, .ref b0, .ref b1, .ref b2, .double mi, .int (nI tk)])), (aw, aD q 16 fw), (av, aD q 16 fv)] H → va_D A [(o1, .inr (1, [.ref a1, .ref ax, .ref b0, .ref b1, .ref b2, .double mi, .int (nI tk)])), (aw, aD q 16 fw), (av, aD q 16 fv)] → va_S A s.heap H locs → ∀ (ls : Array Slot), lv_has ls 7 [(0, .ref o1), (1, .ref aw), (2, .ref av), (3, .double a), (5, .int (nI (tk - 16 + j)))] → W p l e (headSpec wsX1_sumOfProducts ({ frames := 1, cells := 0, slots := 0, locals := 60 } : Jvm.Room)).room (s.setDrawn d0) m #[.ref o1, .ref aw, .ref av] below meth c H locs 0 0 (MQD lw_cs below (va_Qd (fun (r : UInt64) (_ : Unit) => dV r = sSum tk (fun k => dV (fw k)) (fun k => dV (fv k))) (fun (_ : Unit) t => EndA G A [(o1, .inr (1, [.ref a1, .ref ax, .ref b0, .ref b1, .ref b2, .double mi, .int (nI tk)])), (aw, aD q 16 fw), (av, aD q 16 fv)] t) A) #[.ref o1, .ref aw, .ref av] s 0 0 A) (F0 m 15 ls []) := by
    intro k
    induction k with
    | zero =>
      intro j a hj ha H locs d0 hd0 hP hD hS ls hl
      refine lv_iload hx hb dX1_sumOfProducts_15 (lv_at hl 4 rfl) ?_
      refine lv_aload_n hx hb dX1_sumOfProducts_17 rfl (lv_at hl 0 rfl) ?_
      refine va_get (D := G) (ci := 1) (v := .int (nI tk)) (C := RX1) (T := TX1) (N := 7) hx hb (dr_words hts d0) in_X1_sumOfProducts_X1 hown hK hP 0 rfl rfl 6 (by decide) (dr_words hts d0 (.fieldLink RX1 32 "EchoBench$Samples" "taken" "I") (by decide +kernel)) (fun _ h9 => h9) rfl dX1_sumOfProducts_18 ?_
      refine lv_icmp_ge (tgt := 65) hx hb dX1_sumOfProducts_21 (by decide) (fun _ => ?_) (fun h => absurd (nI_le (by omega) (by omega)) h)
      refine lv_dload_n hx hb dX1_sumOfProducts_65 rfl (lv_at hl 3 rfl) ?_
      have hP9 := hP
      have hD9 := hD
      refine W.endD hd0 ?_
      exact W.dret (v := a) hx hb hr (fun t ht hW => ⟨⟨a, (), rfl, by dsimp only; rw [ha, show j = tk - (tk - 16) by omega]; rfl, by rw [ht]; exact hP9, hD9⟩, hS.F ht⟩) hS.2.2 dX1_sumOfProducts_66
    | succ k ih =>
      intro j a hj ha H locs d0 hd0 hP hD hS ls hl
      refine lv_iload hx hb dX1_sumOfProducts_15 (lv_at hl 4 rfl) ?_
      refine lv_aload_n hx hb dX1_sumOfProducts_17 rfl (lv_at hl 0 rfl) ?_
      refine va_get (D := G) (ci := 1) (v := .int (nI tk)) (C := RX1) (T := TX1) (N := 7) hx hb (dr_words hts d0) in_X1_sumOfProducts_X1 hown hK hP 0 rfl rfl 6 (by decide) (dr_words hts d0 (.fieldLink RX1 32 "EchoBench$Samples" "taken" "I") (by decide +kernel)) (fun _ h9 => h9) rfl dX1_sumOfProducts_18 ?_
      refine lv_icmp_ge (tgt := 65) hx hb dX1_sumOfProducts_21 (by decide) (fun h => absurd h (nI_ge (by omega) (by omega))) (fun _ => ?_)
      refine lv_iload hx hb dX1_sumOfProducts_24 (lv_at hl 4 rfl) ?_
      refine lv_bipush (v := 16) hx hb dX1_sumOfProducts_26 (by decide) ?_
      have hPc := hP.sub (ws' := []) [] rfl
      have hDc := hD.sub (ws' := []) [] (by decide) rfl
      have hFc := va_free (wc := []) hD hS hA [] rfl
      refine va_calli (va_runS (As := [.int (nI (tk - 16 + j)), .int 16]) (rest := []) ⟨hx, hb, hml, hown, (dr_words hts d0)⟩ (m_floorMod l G q H.size (tk - 16 + j) (by omega)) (va_cwS 2 (dr_words hts d0) gX1_sumOfProducts_J9_floorMod_7cf53 rfl rfl rfl (by decide +kernel) ⟨Nat.le_of_ble_eq_true rfl, Nat.le_of_ble_eq_true rfl⟩) ⟨preW_blind, preW_start (s := s.setDrawn d0) hPc hK hDc (hNF.drawn d0)⟩ rfl rfl hl.1 rfl (lv_room (Nat.le_of_ble_eq_true rfl)) dX1_sumOfProducts_28 ⟨(Nat.zero_le _), (Nat.zero_le _)⟩) hS (fun q _ h => hFc q h) hFc (fun sl u9 t9 H1 locs ht9 hv9 hw hB9 hz9 hk9 hS => ?_)
      obtain ⟨⟩ := u9
      obtain ⟨hP1, hD1⟩ := hB9
      rw [ht9] at hP1
      obtain ⟨hP, hD⟩ := va_join (wr := [(o1, .inr (1, [.ref a1, .ref ax, .ref b0, .ref b1, .ref b2, .double mi, .int (nI tk)])), (aw, aD q 16 fw), (av, aD q 16 fv)]) (w1 := []) hP hD [] [0, 1, 2] rfl rfl (by decide) (by decide) hk9 hFc hP1 hD1
      generalize H1 = H at hP hS ⊢
      have hP : va_P G vwCl [(o1, .inr (1, [.ref a1, .ref ax, .ref b0, .ref b1, .ref b2, .double mi, .int (nI tk)])), (aw, aD q 16 fw), (av, aD q 16 fv)] H := hP
      have hD : va_D A [(o1, .inr (1, [.ref a1, .ref ax, .ref b0, .ref b1, .ref b2, .double mi, .int (nI tk)])), (aw, aD q 16 fw), (av, aD q 16 fv)] := hD
      try dsimp only at hw
      subst hw
      refine lv_istore (lv' := [(6, .int (nI ((tk - 16 + j) % 16))), (0, .ref o1), (1, .ref aw), (2, .ref av), (3, .double a), (5, .int (nI (tk - 16 + j)))]) hx hb dX1_sumOfProducts_31 hl (by decide) rfl (fun ls hl => ?_)
      refine lv_iload hx hb dX1_sumOfProducts_33 (lv_at hl 0 rfl) ?_
      refine lv_aload_n hx hb dX1_sumOfProducts_35 rfl (lv_at hl 2 rfl) ?_
      refine va_alen (s := s.setDrawn d0) (D := G) hx hb hK hP 1 1 rfl rfl (v := 16) rfl dX1_sumOfProducts_36 ?_
      refine lv_icmp_ge (tgt := 59) hx hb dX1_sumOfProducts_37 (by decide) (fun h => absurd h (nI_ge (b := 16) (Nat.mod_lt _ (by decide)) (by decide))) (fun _ => ?_)
      refine lv_iload hx hb dX1_sumOfProducts_40 (lv_at hl 0 rfl) ?_
      refine lv_aload_n hx hb dX1_sumOfProducts_42 rfl (lv_at hl 3 rfl) ?_
      refine va_alen (s := s.setDrawn d0) (D := G) hx hb hK hP 2 1 rfl rfl (v := 16) rfl dX1_sumOfProducts_43 ?_
      refine lv_icmp_ge (tgt := 59) hx hb dX1_sumOfProducts_44 (by decide) (fun h => absurd h (nI_ge (b := 16) (Nat.mod_lt _ (by decide)) (by decide))) (fun _ => ?_)
      refine lv_dload_n hx hb dX1_sumOfProducts_47 rfl (lv_at hl 4 rfl) ?_
      refine lv_aload_n hx hb dX1_sumOfProducts_48 rfl (lv_at hl 2 rfl) ?_
      refine lv_iload hx hb dX1_sumOfProducts_49 (lv_at hl 0 rfl) ?_
      refine va_daldJ (s := s.setDrawn d0) hx hb hK hP 1 1 rfl rfl (j := ((tk - 16 + j) % 16)) rfl (Nat.mod_lt _ (by decide)) (by decide) dX1_sumOfProducts_51 ?_
      refine lv_aload_n hx hb dX1_sumOfProducts_52 rfl (lv_at hl 3 rfl) ?_
      refine lv_iload hx hb dX1_sumOfProducts_53 (lv_at hl 0 rfl) ?_
      refine va_daldJ (s := s.setDrawn d0) hx hb hK hP 2 1 rfl rfl (j := ((tk - 16 + j) % 16)) rfl (Nat.mod_lt _ (by decide)) (by decide) dX1_sumOfProducts_55 ?_
      refine lv_dmul_any hd0 lw_bits hx hb dX1_sumOfProducts_56 (fun r6 dr6 ar6 hr6 => ?_)
      have er6 := dV_mul ar6
      refine lv_dadd_any hr6 lw_bits hx hb dX1_sumOfProducts_57 (fun r7 dr7 ar7 hr7 => ?_)
      have er7 := dV_add ar7
      refine lv_dstore_n (lv' := [(3, .double r7), (6, .int (nI ((tk - 16 + j) % 16))), (0, .ref o1), (1, .ref aw), (2, .ref av), (5, .int (nI (tk - 16 + j)))]) hx hb dX1_sumOfProducts_58 rfl hl (by decide) rfl (fun ls hl => ?_)
      refine lv_iinc (v := nI (tk - 16 + (j + 1))) (lv' := [(5, .int (nI (tk - 16 + (j + 1)))), (3, .double r7), (6, .int (nI ((tk - 16 + j) % 16))), (0, .ref o1), (1, .ref aw), (2, .ref av)]) hx hb dX1_sumOfProducts_59 hl (k := 5) rfl (nI_succ (tk - 16 + j)).symm (by decide) rfl (fun ls hl => ?_)
      refine lv_goto (tgt := 15) hx hb dX1_sumOfProducts_62 (by decide) ?_
      exact ih (j + 1) r7 (by omega) (by rw [er7, er6, ha]; rfl) _ _ _ hr7 (hP.sub [0, 1, 2] rfl) (hD.sub [0, 1, 2] (by decide) rfl) hS ls (lv_sub hl [3, 4, 5, 1, 0] rfl)
  refine lv_dc0 hx hb dX1_sumOfProducts_0 ?_
  refine lv_dstore_n (lv' := [(3, .double 0), (0, .ref o1), (1, .ref aw), (2, .ref av)]) hx hb dX1_sumOfProducts_1 rfl hl (by decide) rfl (fun ls hl => ?_)
  refine lv_iconst (v := 0) hx hb dX1_sumOfProducts_2 (by decide) ?_
  refine lv_aload_n hx hb dX1_sumOfProducts_3 rfl (lv_at hl 1 rfl) ?_
  refine va_get (D := G) (ci := 1) (v := .int (nI tk)) (C := RX1) (T := TX1) (N := 7) hx hb (dr_words hts s.drawn) in_X1_sumOfProducts_X1 hown hK hP 0 rfl rfl 6 (by decide) (dr_words hts s.drawn (.fieldLink RX1 32 "EchoBench$Samples" "taken" "I") (by decide +kernel)) (fun _ h9 => h9) rfl dX1_sumOfProducts_4 ?_
  refine lv_bipush (v := 16) hx hb dX1_sumOfProducts_7 (by decide) ?_
  refine lv_isub hx hb dX1_sumOfProducts_9 ?_
  refine lv_topi (fun x8 ex8 => ?_)
  refine va_mmax hx hb (hml.trans hl.1.symm) hown (dr_words hts s.drawn (.methodLink RX1 58 Lib.Math.max.name) (by decide +kernel)) (dr_words hts s.drawn (.static Lib.Math.max.name) (by decide +kernel)) (dr_words hts s.drawn (.initialized "java/lang/Math") (by decide +kernel)) (dr_words hts s.drawn (.code Lib.Math.max.name Lib.Math.max.code 2 (some .int)) (by decide +kernel)) (Nat.le_of_ble_eq_true rfl) (Nat.le_of_ble_eq_true rfl) (Nat.zero_le _) (Nat.zero_le _) dX1_sumOfProducts_10 ?_
  refine lv_topi (fun x9 ex9 => ?_)
  obtain rfl : x9 = (nI (tk - 16 + 0)) := (ex9.trans (by rw [ex8]; exact nI_max16 (by omega)))
  refine lv_istore (lv' := [(5, .int (nI (tk - 16 + 0))), (3, .double 0), (0, .ref o1), (1, .ref aw), (2, .ref av)]) hx hb dX1_sumOfProducts_13 hl (by decide) rfl (fun ls hl => ?_)
  exact LOOP (tk - (tk - 16)) 0 0 (by omega) rfl _ _ _ hd0 (hP.sub [0, 1, 2] rfl) (hD.sub [0, 1, 2] (by decide) rfl) hS ls (lv_sub hl [2, 3, 4, 1, 0] rfl)

set_option maxHeartbeats 4000000 in
set_option maxRecDepth 100000 in
/-- sumOfProducts -/
theorem m_X1_sum1 (l : Launch) (G : va_G) (q : Nat → ClassId) (sz : Nat) (o1 a1 ax b0 b1 b2 tk aw : Nat) (mi : UInt64) (fw : Nat → UInt64) (htk : tk ≤ 2000) : MetD lw_cs l yX1_sumOfProducts wsX1_sumOfProducts ({ frames := 1, cells := 0, slots := 0, locals := 60 } : Jvm.Room) (PreW G q [.ref o1, .ref aw, .ref aw] [(o1, .inr (1, [.ref a1, .ref ax, .ref b0, .ref b1, .ref b2, .double mi, .int (nI tk)])), (aw, aD q 16 fw)] sz) (va_Qd (fun (r : UInt64) (_ : Unit) => dV r = sSum tk (fun k => dV (fw k)) (fun k => dV (fw k))) (fun (_ : Unit) t => EndA G (va_A [(o1, .inr (1, [.ref a1, .ref ax, .ref b0, .ref b1, .ref b2, .double mi, .int (nI tk)])), (aw, aD q 16 fw)] sz) [(o1, .inr (1, [.ref a1, .ref ax, .ref b0, .ref b1, .ref b2, .double mi, .int (nI tk)])), (aw, aD q 16 fw)] t) (va_A [(o1, .inr (1, [.ref a1, .ref ax, .ref b0, .ref b1, .ref b2, .double mi, .int (nI tk)])), (aw, aD q 16 fw)] sz)) 0 0 (va_A [(o1, .inr (1, [.ref a1, .ref ax, .ref b0, .ref b1, .ref b2, .double mi, .int (nI tk)])), (aw, aD q 16 fw)] sz) := by
  refine MetD.ofW (cc := cX1_sumOfProducts) (maxL := 7) (ret := (some .double)) (by decide +kernel) rfl ?_
  intro p e s m args below meth c s₁ B hml hv hd0
  obtain ⟨rfl, hsz, hP, hK, hD0, hNF⟩ := hv
  have hx := B.exec
  have hb := B.bytes
  have hr := B.returns
  have hts := atoms_spec (ws := wsX1_sumOfProducts) B.pre
  have hown : s.vm.findClass RX1 = some m.cls := findClass_of_methodNamed B.named
  have hlocks := B.notSynchronized
  subst hsz
  have hD := hD0.self (sz := s.heap.size)
  generalize hAe : va_A [(o1, .inr (1, [.ref a1, .ref ax, .ref b0, .ref b1, .ref b2, .double mi, .int (nI tk)])), (aw, aD q 16 fw)] s.heap.size = A at hD ⊢
  have hA : ∀ q : Nat, s.heap.size ≤ q → A q := fun q h => by rw [← hAe]; exact Or.inr h
  have hS : va_S A s.heap s.heap [] := va_S.rf
  have hP : va_P G vwCl [(o1, .inr (1, [.ref a1, .ref ax, .ref b0, .ref b1, .ref b2, .double mi, .int (nI tk)])), (aw, aD q 16 fw)] s.heap := hP
  have hl := lv_entry ([.ref o1, .ref aw, .ref aw]) (n := 7) (Nat.le_of_ble_eq_true rfl)
  rw [lg_entry_eq]
  generalize (lg_sl ([.ref o1, .ref aw, .ref aw]) ++ List.replicate (7 - (lg_sl ([.ref o1, .ref aw, .ref aw])).length) Slot.unset).toArray = ls at hl ⊢
  have hl : lv_has ls 7 [(0, .ref o1), (1, .ref aw), (2, .ref aw)] := hl
  have LOOP : ∀ (k : Nat) (j : Nat) (a : UInt64), tk - 16 + j + k = tk → dV a = smN (dV 0) (fun k => fMul (dV (fw ((tk - 16 + k) % 16))) (dV (fw ((tk - 16 + k) % 16)))) j → ∀ (H : Heap) (locs : List Loc) (d0 : Drawn), s.drawn.sameBut d0 lw_cs → va_P G vwCl [(o1, .inr (1, [.ref a1, .ref ax, .ref b0, .ref b1, .ref b2, .double mi, .int (nI tk)])), (aw, aD q 16 fw)] H → va_D A [(o1, .inr (1, [.ref a1, .ref ax, .ref b0, .ref b1, .ref b2, .double mi, .int (nI tk)])), (aw, aD q 16 fw)] → va_S A s.heap H locs → ∀ (ls : Array Slot), lv_has ls 7 [(0, .ref o1), (1, .ref aw), (2, .ref aw), (3, .double a), (5, .int (nI (tk - 16 + j)))] → W p l e (headSpec wsX1_sumOfProducts ({ frames := 1, cells := 0, slots := 0, locals := 60 } : Jvm.Room)).room (s.setDrawn d0) m #[.ref o1, .ref aw, .ref aw] below meth c H locs 0 0 (MQD lw_cs below (va_Qd (fun (r : UInt64) (_ : Unit) => dV r = sSum tk (fun k => dV (fw k)) (fun k => dV (fw k))) (fun (_ : Unit) t => EndA G A [(o1, .inr (1, [.ref a1, .ref ax, .ref b0, .ref b1, .ref b2, .double mi, .int (nI tk)])), (aw, aD q 16 fw)] t) A) #[.ref o1, .ref aw, .ref aw] s 0 0 A) (F0 m 15 ls []) := by
    intro k
    induction k with
    | zero =>
      intro j a hj ha H locs d0 hd0 hP hD hS ls hl
      refine lv_iload hx hb dX1_sumOfProducts_15 (lv_at hl 4 rfl) ?_
      refine lv_aload_n hx hb dX1_sumOfProducts_17 rfl (lv_at hl 0 rfl) ?_
      refine va_get (D := G) (ci := 1) (v := .int (nI tk)) (C := RX1) (T := TX1) (N := 7) hx hb (dr_words hts d0) in_X1_sumOfProducts_X1 hown hK hP 0 rfl rfl 6 (by decide) (dr_words hts d0 (.fieldLink RX1 32 "EchoBench$Samples" "taken" "I") (by decide +kernel)) (fun _ h9 => h9) rfl dX1_sumOfProducts_18 ?_
      refine lv_icmp_ge (tgt := 65) hx hb dX1_sumOfProducts_21 (by decide) (fun _ => ?_) (fun h => absurd (nI_le (by omega) (by omega)) h)
      refine lv_dload_n hx hb dX1_sumOfProducts_65 rfl (lv_at hl 3 rfl) ?_
      have hP9 := hP
      have hD9 := hD
      refine W.endD hd0 ?_
      exact W.dret (v := a) hx hb hr (fun t ht hW => ⟨⟨a, (), rfl, by dsimp only; rw [ha, show j = tk - (tk - 16) by omega]; rfl, by rw [ht]; exact hP9, hD9⟩, hS.F ht⟩) hS.2.2 dX1_sumOfProducts_66
    | succ k ih =>
      intro j a hj ha H locs d0 hd0 hP hD hS ls hl
      refine lv_iload hx hb dX1_sumOfProducts_15 (lv_at hl 4 rfl) ?_
      refine lv_aload_n hx hb dX1_sumOfProducts_17 rfl (lv_at hl 0 rfl) ?_
      refine va_get (D := G) (ci := 1) (v := .int (nI tk)) (C := RX1) (T := TX1) (N := 7) hx hb (dr_words hts d0) in_X1_sumOfProducts_X1 hown hK hP 0 rfl rfl 6 (by decide) (dr_words hts d0 (.fieldLink RX1 32 "EchoBench$Samples" "taken" "I") (by decide +kernel)) (fun _ h9 => h9) rfl dX1_sumOfProducts_18 ?_
      refine lv_icmp_ge (tgt := 65) hx hb dX1_sumOfProducts_21 (by decide) (fun h => absurd h (nI_ge (by omega) (by omega))) (fun _ => ?_)
      refine lv_iload hx hb dX1_sumOfProducts_24 (lv_at hl 4 rfl) ?_
      refine lv_bipush (v := 16) hx hb dX1_sumOfProducts_26 (by decide) ?_
      have hPc := hP.sub (ws' := []) [] rfl
      have hDc := hD.sub (ws' := []) [] (by decide) rfl
      have hFc := va_free (wc := []) hD hS hA [] rfl
      refine va_calli (va_runS (As := [.int (nI (tk - 16 + j)), .int 16]) (rest := []) ⟨hx, hb, hml, hown, (dr_words hts d0)⟩ (m_floorMod l G q H.size (tk - 16 + j) (by omega)) (va_cwS 2 (dr_words hts d0) gX1_sumOfProducts_J9_floorMod_7cf53 rfl rfl rfl (by decide +kernel) ⟨Nat.le_of_ble_eq_true rfl, Nat.le_of_ble_eq_true rfl⟩) ⟨preW_blind, preW_start (s := s.setDrawn d0) hPc hK hDc (hNF.drawn d0)⟩ rfl rfl hl.1 rfl (lv_room (Nat.le_of_ble_eq_true rfl)) dX1_sumOfProducts_28 ⟨(Nat.zero_le _), (Nat.zero_le _)⟩) hS (fun q _ h => hFc q h) hFc (fun sl u9 t9 H1 locs ht9 hv9 hw hB9 hz9 hk9 hS => ?_)
      obtain ⟨⟩ := u9
      obtain ⟨hP1, hD1⟩ := hB9
      rw [ht9] at hP1
      obtain ⟨hP, hD⟩ := va_join (wr := [(o1, .inr (1, [.ref a1, .ref ax, .ref b0, .ref b1, .ref b2, .double mi, .int (nI tk)])), (aw, aD q 16 fw)]) (w1 := []) hP hD [] [0, 1] rfl rfl (by decide) (by decide) hk9 hFc hP1 hD1
      generalize H1 = H at hP hS ⊢
      have hP : va_P G vwCl [(o1, .inr (1, [.ref a1, .ref ax, .ref b0, .ref b1, .ref b2, .double mi, .int (nI tk)])), (aw, aD q 16 fw)] H := hP
      have hD : va_D A [(o1, .inr (1, [.ref a1, .ref ax, .ref b0, .ref b1, .ref b2, .double mi, .int (nI tk)])), (aw, aD q 16 fw)] := hD
      try dsimp only at hw
      subst hw
      refine lv_istore (lv' := [(6, .int (nI ((tk - 16 + j) % 16))), (0, .ref o1), (1, .ref aw), (2, .ref aw), (3, .double a), (5, .int (nI (tk - 16 + j)))]) hx hb dX1_sumOfProducts_31 hl (by decide) rfl (fun ls hl => ?_)
      refine lv_iload hx hb dX1_sumOfProducts_33 (lv_at hl 0 rfl) ?_
      refine lv_aload_n hx hb dX1_sumOfProducts_35 rfl (lv_at hl 2 rfl) ?_
      refine va_alen (s := s.setDrawn d0) (D := G) hx hb hK hP 1 1 rfl rfl (v := 16) rfl dX1_sumOfProducts_36 ?_
      refine lv_icmp_ge (tgt := 59) hx hb dX1_sumOfProducts_37 (by decide) (fun h => absurd h (nI_ge (b := 16) (Nat.mod_lt _ (by decide)) (by decide))) (fun _ => ?_)
      refine lv_iload hx hb dX1_sumOfProducts_40 (lv_at hl 0 rfl) ?_
      refine lv_aload_n hx hb dX1_sumOfProducts_42 rfl (lv_at hl 3 rfl) ?_
      refine va_alen (s := s.setDrawn d0) (D := G) hx hb hK hP 1 1 rfl rfl (v := 16) rfl dX1_sumOfProducts_43 ?_
      refine lv_icmp_ge (tgt := 59) hx hb dX1_sumOfProducts_44 (by decide) (fun h => absurd h (nI_ge (b := 16) (Nat.mod_lt _ (by decide)) (by decide))) (fun _ => ?_)
      refine lv_dload_n hx hb dX1_sumOfProducts_47 rfl (lv_at hl 4 rfl) ?_
      refine lv_aload_n hx hb dX1_sumOfProducts_48 rfl (lv_at hl 2 rfl) ?_
      refine lv_iload hx hb dX1_sumOfProducts_49 (lv_at hl 0 rfl) ?_
      refine va_daldJ (s := s.setDrawn d0) hx hb hK hP 1 1 rfl rfl (j := ((tk - 16 + j) % 16)) rfl (Nat.mod_lt _ (by decide)) (by decide) dX1_sumOfProducts_51 ?_
      refine lv_aload_n hx hb dX1_sumOfProducts_52 rfl (lv_at hl 3 rfl) ?_
      refine lv_iload hx hb dX1_sumOfProducts_53 (lv_at hl 0 rfl) ?_
      refine va_daldJ (s := s.setDrawn d0) hx hb hK hP 1 1 rfl rfl (j := ((tk - 16 + j) % 16)) rfl (Nat.mod_lt _ (by decide)) (by decide) dX1_sumOfProducts_55 ?_
      refine lv_dmul_any hd0 lw_bits hx hb dX1_sumOfProducts_56 (fun r6 dr6 ar6 hr6 => ?_)
      have er6 := dV_mul ar6
      refine lv_dadd_any hr6 lw_bits hx hb dX1_sumOfProducts_57 (fun r7 dr7 ar7 hr7 => ?_)
      have er7 := dV_add ar7
      refine lv_dstore_n (lv' := [(3, .double r7), (6, .int (nI ((tk - 16 + j) % 16))), (0, .ref o1), (1, .ref aw), (2, .ref aw), (5, .int (nI (tk - 16 + j)))]) hx hb dX1_sumOfProducts_58 rfl hl (by decide) rfl (fun ls hl => ?_)
      refine lv_iinc (v := nI (tk - 16 + (j + 1))) (lv' := [(5, .int (nI (tk - 16 + (j + 1)))), (3, .double r7), (6, .int (nI ((tk - 16 + j) % 16))), (0, .ref o1), (1, .ref aw), (2, .ref aw)]) hx hb dX1_sumOfProducts_59 hl (k := 5) rfl (nI_succ (tk - 16 + j)).symm (by decide) rfl (fun ls hl => ?_)
      refine lv_goto (tgt := 15) hx hb dX1_sumOfProducts_62 (by decide) ?_
      exact ih (j + 1) r7 (by omega) (by rw [er7, er6, ha]; rfl) _ _ _ hr7 (hP.sub [0, 1] rfl) (hD.sub [0, 1] (by decide) rfl) hS ls (lv_sub hl [3, 4, 5, 1, 0] rfl)
  refine lv_dc0 hx hb dX1_sumOfProducts_0 ?_
  refine lv_dstore_n (lv' := [(3, .double 0), (0, .ref o1), (1, .ref aw), (2, .ref aw)]) hx hb dX1_sumOfProducts_1 rfl hl (by decide) rfl (fun ls hl => ?_)
  refine lv_iconst (v := 0) hx hb dX1_sumOfProducts_2 (by decide) ?_
  refine lv_aload_n hx hb dX1_sumOfProducts_3 rfl (lv_at hl 1 rfl) ?_
  refine va_get (D := G) (ci := 1) (v := .int (nI tk)) (C := RX1) (T := TX1) (N := 7) hx hb (dr_words hts s.drawn) in_X1_sumOfProducts_X1 hown hK hP 0 rfl rfl 6 (by decide) (dr_words hts s.drawn (.fieldLink RX1 32 "EchoBench$Samples" "taken" "I") (by decide +kernel)) (fun _ h9 => h9) rfl dX1_sumOfProducts_4 ?_
  refine lv_bipush (v := 16) hx hb dX1_sumOfProducts_7 (by decide) ?_
  refine lv_isub hx hb dX1_sumOfProducts_9 ?_
  refine lv_topi (fun x8 ex8 => ?_)
  refine va_mmax hx hb (hml.trans hl.1.symm) hown (dr_words hts s.drawn (.methodLink RX1 58 Lib.Math.max.name) (by decide +kernel)) (dr_words hts s.drawn (.static Lib.Math.max.name) (by decide +kernel)) (dr_words hts s.drawn (.initialized "java/lang/Math") (by decide +kernel)) (dr_words hts s.drawn (.code Lib.Math.max.name Lib.Math.max.code 2 (some .int)) (by decide +kernel)) (Nat.le_of_ble_eq_true rfl) (Nat.le_of_ble_eq_true rfl) (Nat.zero_le _) (Nat.zero_le _) dX1_sumOfProducts_10 ?_
  refine lv_topi (fun x9 ex9 => ?_)
  obtain rfl : x9 = (nI (tk - 16 + 0)) := (ex9.trans (by rw [ex8]; exact nI_max16 (by omega)))
  refine lv_istore (lv' := [(5, .int (nI (tk - 16 + 0))), (3, .double 0), (0, .ref o1), (1, .ref aw), (2, .ref aw)]) hx hb dX1_sumOfProducts_13 hl (by decide) rfl (fun ls hl => ?_)
  exact LOOP (tk - (tk - 16)) 0 0 (by omega) rfl _ _ _ hd0 (hP.sub [0, 1] rfl) (hD.sub [0, 1] (by decide) rfl) hS ls (lv_sub hl [2, 3, 4, 1, 0] rfl)
