/-! ===== the law's helpers ===== -/
theorem va_lastJ {p : Program} {l : Launch} {e : Env} {R : Room} {s : State} {m : MethodId} {args : Array Value} {below : List Frame} {meth : Method} {c : Code} {H : Heap} {locs : List Loc} {cells slots : Nat} {Q : State → Prop} {cc : ByteArray} {pc : Nat} {ls : Array Slot} {rest : List Value} {D : va_G} {cl : List vw_C} {A : Nat → Prop} {a : Nat} {tys : List (ClassId × FieldType)} {ws : va_W} {H0 : Heap}
    (hexec : p.tables.exec = Jvm.exec) (hb : c.code = cc) (hK : va_K D cl tys s) (hP : va_P D cl ws H) (hD : va_D A ws) (hS : va_S A H0 H locs) (q0 t0 : Nat) {cA : ClassId} {n : Nat} {f : Nat → Int64} (ha : ws[q0]? = some (a, .inl (cA, n, .inr (.inl f)))) (ht : tys[t0]? = some (cA, .long)) {i : Int32} {j : Nat} {x : Int64} (hi : i = nI j) (hj : j < n) (hn : n < 2147483648) (hdg : decode cc pc = .ok (.lastore, 1))
    (kk : ∀ (H1 : Heap) (locs1 : List Loc), va_P D cl (ws.set q0 (a, .inl (cA, n, .inr (.inl (vf_upd f j x))))) H1 → va_D A (ws.set q0 (a, .inl (cA, n, .inr (.inl (vf_upd f j x))))) → va_S A H0 H1 locs1 → W p l e R s m args below meth c H1 locs1 cells slots Q (F0 m (pc + 1) ls rest)) : W p l e R s m args below meth c H locs cells slots Q (F0 m pc ls (.long x :: .int i :: .ref a :: rest)) :=
  va_last hexec hb hK hP hD hS q0 t0 ha ht (vpin hi hj hn) hdg (by rw [hi, nI_clamp (by omega)]; exact kk)
theorem code_0 {r : Int32} {P : Prop} (h : r = 0 → P) (hr : ¬ r = 0 → False) : P := h (Classical.byContradiction hr)
/-- what a call makes of a filter: step, watch -/
def stepV (xt : Int32) (v : FV) : FV := ((v.1.1, v.1.2.1, xt, v.1.2.2.2.1, v.1.2.2.2.2), v.2)
def watchV (xa xb : Int32) (v : FV) : FV := ((v.1.1, v.1.2.1, v.1.2.2.1, xa, xb), v.2)

set_option maxHeartbeats 4000000 in
set_option maxRecDepth 100000 in
/-- the law's path -/
theorem m_L_path (l : Launch) (G : va_G) (q : Nat → ClassId) (sz : Nat) (o3 o1 af nf a1 ax b0 b1 b2 tk : Nat) (mi : UInt64) (pa xi z0 z1 : Nat → Int32) (fm : Nat → UInt64) (C : Nat → CFt) (oa : Nat → Nat) (ao : Nat) (fo : Nat → Int64) (xp xh : Int32) (hst : l.stackTraces = false) : MetD lw_cs l yL_path wsL_path ({ frames := 7, cells := 1, slots := 6, locals := 122 } : Jvm.Room) (PreY G q [.ref o3, .int xp, .int xh, .ref ao] ([(o3, .inr (3, [.ref o1, .ref af, .int (nI nf)])), (af, aF q 6 (fun j => if j < nf then some (oa j) else none)), (o1, .inr (1, [.ref a1, .ref ax, .ref b0, .ref b1, .ref b2, .double mi, .int (nI tk)])), (a1, aI q 8 pa), (ax, aD q 8 (fun i => FP.i2d (xi i))), (b0, aD q 16 (fun i => FP.i2d (z0 i))), (b1, aD q 16 (fun i => FP.i2d (z1 i))), (b2, aD q 16 fm), (ao, aL q 1 fo)] ++ TW nf (WQ q C)) sz) (va_Qi (fun (r : Int32) (u : (Nat → Int32) × (Nat → Int64)) => r = pathC xp xh ∧ (pathC xp xh = 0 → u.1 = vf_upd pa (tn xp) xh ∧ u.2 0 = (pa (tn xp)).toInt64) ∧ (¬ pathC xp xh = 0 → u.1 = pa)) (fun (u : (Nat → Int32) × (Nat → Int64)) t => EndA G (va_A ([(o3, .inr (3, [.ref o1, .ref af, .int (nI nf)])), (af, aF q 6 (fun j => if j < nf then some (oa j) else none)), (o1, .inr (1, [.ref a1, .ref ax, .ref b0, .ref b1, .ref b2, .double mi, .int (nI tk)])), (a1, aI q 8 pa), (ax, aD q 8 (fun i => FP.i2d (xi i))), (b0, aD q 16 (fun i => FP.i2d (z0 i))), (b1, aD q 16 (fun i => FP.i2d (z1 i))), (b2, aD q 16 fm), (ao, aL q 1 fo)] ++ TW nf (WQ q C)) sz) ([(o3, .inr (3, [.ref o1, .ref af, .int (nI nf)])), (af, aF q 6 (fun j => if j < nf then some (oa j) else none)), (o1, .inr (1, [.ref a1, .ref ax, .ref b0, .ref b1, .ref b2, .double mi, .int (nI tk)])), (a1, aI q 8 u.1), (ax, aD q 8 (fun i => FP.i2d (xi i))), (b0, aD q 16 (fun i => FP.i2d (z0 i))), (b1, aD q 16 (fun i => FP.i2d (z1 i))), (b2, aD q 16 fm), (ao, aL q 1 u.2)] ++ TW nf (WQ q C)) t) (va_A ([(o3, .inr (3, [.ref o1, .ref af, .int (nI nf)])), (af, aF q 6 (fun j => if j < nf then some (oa j) else none)), (o1, .inr (1, [.ref a1, .ref ax, .ref b0, .ref b1, .ref b2, .double mi, .int (nI tk)])), (a1, aI q 8 pa), (ax, aD q 8 (fun i => FP.i2d (xi i))), (b0, aD q 16 (fun i => FP.i2d (z0 i))), (b1, aD q 16 (fun i => FP.i2d (z1 i))), (b2, aD q 16 fm), (ao, aL q 1 fo)] ++ TW nf (WQ q C)) sz)) 1 6 (va_A ([(o3, .inr (3, [.ref o1, .ref af, .int (nI nf)])), (af, aF q 6 (fun j => if j < nf then some (oa j) else none)), (o1, .inr (1, [.ref a1, .ref ax, .ref b0, .ref b1, .ref b2, .double mi, .int (nI tk)])), (a1, aI q 8 pa), (ax, aD q 8 (fun i => FP.i2d (xi i))), (b0, aD q 16 (fun i => FP.i2d (z0 i))), (b1, aD q 16 (fun i => FP.i2d (z1 i))), (b2, aD q 16 fm), (ao, aL q 1 fo)] ++ TW nf (WQ q C)) sz) := by
  refine MetD.ofWH (cc := cL_path) (maxL := 5) (ret := (some .int)) (by decide +kernel) rfl ?_
  intro p e s m args below meth c s₁ B hml hv hd0
  obtain ⟨⟨⟨rfl, hsz, hP, hK, hD0, hNF⟩, hNT⟩, hNC⟩ := hv
  have hx := B.exec
  have hb := B.bytes
  have hr := B.returns
  have hts := atoms_spec (ws := wsL_path) B.pre
  have hown : s.vm.findClass RL = some m.cls := findClass_of_methodNamed B.named
  have hlocks := B.notSynchronized
  subst hsz
  have hD := hD0.self (sz := s.heap.size)
  generalize hAe : va_A ([(o3, .inr (3, [.ref o1, .ref af, .int (nI nf)])), (af, aF q 6 (fun j => if j < nf then some (oa j) else none)), (o1, .inr (1, [.ref a1, .ref ax, .ref b0, .ref b1, .ref b2, .double mi, .int (nI tk)])), (a1, aI q 8 pa), (ax, aD q 8 (fun i => FP.i2d (xi i))), (b0, aD q 16 (fun i => FP.i2d (z0 i))), (b1, aD q 16 (fun i => FP.i2d (z1 i))), (b2, aD q 16 fm), (ao, aL q 1 fo)] ++ TW nf (WQ q C)) s.heap.size = A at hD hNT ⊢
  have hA : ∀ q : Nat, s.heap.size ≤ q → A q := fun q h => by rw [← hAe]; exact Or.inr h
  have hS : va_S A s.heap s.heap [] := va_S.rf
  have hP : va_P G vwCl ([(o3, .inr (3, [.ref o1, .ref af, .int (nI nf)])), (af, aF q 6 (fun j => if j < nf then some (oa j) else none)), (o1, .inr (1, [.ref a1, .ref ax, .ref b0, .ref b1, .ref b2, .double mi, .int (nI tk)])), (a1, aI q 8 pa), (ax, aD q 8 (fun i => FP.i2d (xi i))), (b0, aD q 16 (fun i => FP.i2d (z0 i))), (b1, aD q 16 (fun i => FP.i2d (z1 i))), (b2, aD q 16 fm), (ao, aL q 1 fo)] ++ TW nf (WQ q C)) s.heap := hP
  have hl := lv_entry ([.ref o3, .int xp, .int xh, .ref ao]) (n := 5) (Nat.le_of_ble_eq_true rfl)
  rw [lg_entry_eq]
  generalize (lg_sl ([.ref o3, .int xp, .int xh, .ref ao]) ++ List.replicate (5 - (lg_sl ([.ref o3, .int xp, .int xh, .ref ao])).length) Slot.unset).toArray = ls at hl ⊢
  have hl : lv_has ls 5 [(0, .ref o3), (1, .int xp), (2, .int xh), (3, .ref ao)] := hl
  have htb := vx_table (x := yL_path) B (hts (Cond.codeWith yL_path cL_path 5 (some .int) [(0, 10, 13, 13), (0, 10, 17, 15)]) List.mem_cons_self)
  refine lv_aload_n hx hb dL_path_0 rfl (lv_at hl 3 rfl) ?_
  refine lv_iconst (v := 0) hx hb dL_path_1 (by decide) ?_
  refine lv_aload_n hx hb dL_path_2 rfl (lv_at hl 0 rfl) ?_
  refine lv_iload_n hx hb dL_path_3 rfl (lv_at hl 1 rfl) ?_
  refine lv_iload_n hx hb dL_path_4 rfl (lv_at hl 2 rfl) ?_
  by_cases h0 : pathC xp xh = 0
  · skip
    have hj : 0 ≤ xp ∧ xp ≤ 7 := Classical.byContradiction fun z => by unfold pathC at h0; rw [if_neg z] at h0; exact absurd h0 (by decide)
    have hh : -1000 ≤ xh ∧ xh ≤ 1000 := Classical.byContradiction fun z => by unfold pathC at h0; rw [if_pos hj, if_neg z] at h0; exact absurd h0 (by decide)
    have hj8 : tn xp < 8 := by have := tn_le (b := 7) hj.1 (by decide) hj.2; omega
    obtain ⟨jp, hjp⟩ : ∃ jp, tn xp = jp := ⟨_, rfl⟩
    obtain rfl : xp = nI jp := by rw [← hjp]; exact in_tn hj.1
    rw [hjp] at hj8
    have hPc := hP.sub (ws' := [(o3, .inr (3, [.ref o1, .ref af, .int (nI nf)])), (o1, .inr (1, [.ref a1, .ref ax, .ref b0, .ref b1, .ref b2, .double mi, .int (nI tk)])), (a1, aI q 8 pa)]) [0, 2, 3] rfl
    have hDc := hD.sub (ws' := [(o3, .inr (3, [.ref o1, .ref af, .int (nI nf)])), (o1, .inr (1, [.ref a1, .ref ax, .ref b0, .ref b1, .ref b2, .double mi, .int (nI tk)])), (a1, aI q 8 pa)]) [0, 2, 3] (by decide) rfl
    have hFc := va_free (wc := [(o3, .inr (3, [.ref o1, .ref af, .int (nI nf)])), (o1, .inr (1, [.ref a1, .ref ax, .ref b0, .ref b1, .ref b2, .double mi, .int (nI tk)])), (a1, aI q 8 pa)]) hD hS hA [0, 2, 3] rfl
    refine va_calli (va_runV (As := [.int (nI jp), .int xh]) (rest := [.int 0, .ref ao]) ⟨hx, hb, hml, hown, (dr_words hts s.drawn)⟩ (m_X3_path l G q s.heap.size o3 o1 af nf a1 ax b0 b1 b2 tk mi jp xh pa hj8 hh) (cwV 2 (dr_words hts s.drawn) gL_path_X3_path rfl rfl rfl (by decide +kernel) ⟨Nat.le_of_ble_eq_true rfl, Nat.le_of_ble_eq_true rfl⟩) ⟨preW_blind, (va_recv hK hPc (ci := 3) (q0 := 0) rfl rfl), preW_start (s := s.setDrawn s.drawn) hPc hK hDc (hNF.drawn s.drawn)⟩ rfl rfl hl.1 rfl (lv_room (Nat.le_of_ble_eq_true rfl)) dL_path_5 ⟨(by show _ ≤ 1; omega), (by show _ ≤ 6; omega)⟩) hS (fun q _ h => hFc q h) hFc (fun r1 u9 t9 H1 locs ht9 hv9 hw hB9 hz9 hk9 hS => ?_)
    obtain ⟨⟩ := u9
    obtain ⟨hP1, hD1⟩ := hB9
    rw [ht9] at hP1
    obtain ⟨hP, hD⟩ := va_joinQ (wr := [(af, aF q 6 (fun j => if j < nf then some (oa j) else none)), (ax, aD q 8 (fun i => FP.i2d (xi i))), (b0, aD q 16 (fun i => FP.i2d (z0 i))), (b1, aD q 16 (fun i => FP.i2d (z1 i))), (b2, aD q 16 fm), (ao, aL q 1 fo)]) (w1 := [(o3, .inr (3, [.ref o1, .ref af, .int (nI nf)])), (o1, .inr (1, [.ref a1, .ref ax, .ref b0, .ref b1, .ref b2, .double mi, .int (nI tk)])), (a1, aI q 8 (vf_upd pa jp xh))]) hP hD [0, 2, 3] [1, 4, 5, 6, 7, 8] rfl rfl (by decide) (by decide) hk9 hFc hP1 hD1
    generalize H1 = H at hP hS ⊢
    have hP : va_P G vwCl ([(af, aF q 6 (fun j => if j < nf then some (oa j) else none)), (ax, aD q 8 (fun i => FP.i2d (xi i))), (b0, aD q 16 (fun i => FP.i2d (z0 i))), (b1, aD q 16 (fun i => FP.i2d (z1 i))), (b2, aD q 16 fm), (ao, aL q 1 fo), (o3, .inr (3, [.ref o1, .ref af, .int (nI nf)])), (o1, .inr (1, [.ref a1, .ref ax, .ref b0, .ref b1, .ref b2, .double mi, .int (nI tk)])), (a1, aI q 8 (vf_upd pa jp xh))] ++ TW nf (WQ q C)) H := hP
    have hD : va_D A ([(af, aF q 6 (fun j => if j < nf then some (oa j) else none)), (ax, aD q 8 (fun i => FP.i2d (xi i))), (b0, aD q 16 (fun i => FP.i2d (z0 i))), (b1, aD q 16 (fun i => FP.i2d (z1 i))), (b2, aD q 16 fm), (ao, aL q 1 fo), (o3, .inr (3, [.ref o1, .ref af, .int (nI nf)])), (o1, .inr (1, [.ref a1, .ref ax, .ref b0, .ref b1, .ref b2, .double mi, .int (nI tk)])), (a1, aI q 8 (vf_upd pa jp xh))] ++ TW nf (WQ q C)) := hD
    have hr1 := hw
    refine lv_i2l (v := r1.toInt64) hx hb dL_path_8 rfl ?_
    refine va_lastJ (s := s.setDrawn s.drawn) hx hb hK hP hD hS 5 4 rfl rfl (j := 0) rfl (by decide) (by decide) dL_path_9 (fun H locs hP hD hS => ?_)
    have hP : va_P G vwCl ([(af, aF q 6 (fun j => if j < nf then some (oa j) else none)), (ax, aD q 8 (fun i => FP.i2d (xi i))), (b0, aD q 16 (fun i => FP.i2d (z0 i))), (b1, aD q 16 (fun i => FP.i2d (z1 i))), (b2, aD q 16 fm), (ao, aL q 1 (vf_upd fo 0 r1.toInt64)), (o3, .inr (3, [.ref o1, .ref af, .int (nI nf)])), (o1, .inr (1, [.ref a1, .ref ax, .ref b0, .ref b1, .ref b2, .double mi, .int (nI tk)])), (a1, aI q 8 (vf_upd pa jp xh))] ++ TW nf (WQ q C)) H := hP
    have hD : va_D A ([(af, aF q 6 (fun j => if j < nf then some (oa j) else none)), (ax, aD q 8 (fun i => FP.i2d (xi i))), (b0, aD q 16 (fun i => FP.i2d (z0 i))), (b1, aD q 16 (fun i => FP.i2d (z1 i))), (b2, aD q 16 fm), (ao, aL q 1 (vf_upd fo 0 r1.toInt64)), (o3, .inr (3, [.ref o1, .ref af, .int (nI nf)])), (o1, .inr (1, [.ref a1, .ref ax, .ref b0, .ref b1, .ref b2, .double mi, .int (nI tk)])), (a1, aI q 8 (vf_upd pa jp xh))] ++ TW nf (WQ q C)) := hD
    refine lv_goto (tgt := 21) hx hb dL_path_10 (by decide) ?_
    refine lv_iconst (v := 0) hx hb dL_path_21 (by decide) ?_
    refine W.widen (k := 1) (n := 6) (Nat.le_of_ble_eq_true rfl) (Nat.le_of_ble_eq_true rfl) ?_
    have hP := hP.part (cx := [(o3, .inr (3, [.ref o1, .ref af, .int (nI nf)])), (af, aF q 6 (fun j => if j < nf then some (oa j) else none)), (o1, .inr (1, [.ref a1, .ref ax, .ref b0, .ref b1, .ref b2, .double mi, .int (nI tk)])), (a1, aI q 8 (vf_upd pa jp xh)), (ax, aD q 8 (fun i => FP.i2d (xi i))), (b0, aD q 16 (fun i => FP.i2d (z0 i))), (b1, aD q 16 (fun i => FP.i2d (z1 i))), (b2, aD q 16 fm), (ao, aL q 1 (vf_upd fo 0 r1.toInt64))]) [6, 0, 7, 8, 1, 2, 3, 4, 5] rfl
    have hD := hD.part (cx := [(o3, .inr (3, [.ref o1, .ref af, .int (nI nf)])), (af, aF q 6 (fun j => if j < nf then some (oa j) else none)), (o1, .inr (1, [.ref a1, .ref ax, .ref b0, .ref b1, .ref b2, .double mi, .int (nI tk)])), (a1, aI q 8 (vf_upd pa jp xh)), (ax, aD q 8 (fun i => FP.i2d (xi i))), (b0, aD q 16 (fun i => FP.i2d (z0 i))), (b1, aD q 16 (fun i => FP.i2d (z1 i))), (b2, aD q 16 fm), (ao, aL q 1 (vf_upd fo 0 r1.toInt64))]) [6, 0, 7, 8, 1, 2, 3, 4, 5] (by decide) rfl
    have hP9 := hP
    have hD9 := hD
    refine W.endD hd0 ?_
    exact W.iret (v := 0) hx hb hr (fun t ht hW => ⟨⟨0, ((vf_upd pa jp xh), (vf_upd fo 0 r1.toInt64)), rfl, ⟨h0.symm, fun _ => ⟨by dsimp only; rw [hjp], by dsimp only; rw [hjp, ← hr1]; exact vf_self⟩, fun z => absurd h0 z⟩, by rw [ht]; exact hP9, hD9⟩, hS.F ht⟩) hS.2.2 dL_path_22
  · skip
    have hcc : pathC xp xh = 1 ∨ pathC xp xh = 2 := by unfold pathC at h0 ⊢; split; split; (rename_i a b; rw [if_pos a, if_pos b] at h0; exact absurd rfl h0); exact Or.inr rfl; exact Or.inl rfl
    rcases hcc with hc1 | hc1
    · skip
      have hPc := hP.sub (ws' := [(o3, .inr (3, [.ref o1, .ref af, .int (nI nf)]))]) [0] rfl
      have hDc := hD.sub (ws' := [(o3, .inr (3, [.ref o1, .ref af, .int (nI nf)]))]) [0] (by decide) rfl
      have hFc := va_free (wc := [(o3, .inr (3, [.ref o1, .ref af, .int (nI nf)]))]) hD hS hA [0] rfl
      refine vx_calli (vx_runV (As := [.int xp, .int xh]) (rest := [.int 0, .ref ao]) ⟨hx, hb, hml, hown, (dr_words hts s.drawn)⟩ (m_X3_path_x l G q s.heap.size hst o3 o1 af nf xp xh h0) (cwV 2 (dr_words hts s.drawn) gL_path_X3_path rfl rfl rfl (by decide +kernel) ⟨Nat.le_of_ble_eq_true rfl, Nat.le_of_ble_eq_true rfl⟩) ⟨preX_blind, (va_recv hK hPc (ci := 3) (q0 := 0) rfl rfl), preX_start (s := s.setDrawn s.drawn) hPc hK hDc (hNF.drawn s.drawn) (hNT.drawn s.drawn) hS (fun q h => hFc q h)⟩ rfl rfl hl.1 rfl (lv_room (Nat.le_of_ble_eq_true rfl)) dL_path_5 ⟨(by show _ ≤ 1; omega), (by show _ ≤ 6; omega)⟩) hS (fun q _ h => hFc q h) hFc (fun q _ h => hFc q h) (fun E9 ce9 q9 u9 t9 H1 locs ht9 hv9 hpx9 hB9 hz9 hk9 hS hce9 hcv9 hcl9 => ?_) (fun _ _ _ _ _ _ _ hw _ _ _ _ => hw.elim)
      obtain ⟨hE9, hP1, hD1⟩ := hB9
      rw [ht9] at hP1
      obtain ⟨hP, hD⟩ := va_joinQ (wr := [(af, aF q 6 (fun j => if j < nf then some (oa j) else none)), (o1, .inr (1, [.ref a1, .ref ax, .ref b0, .ref b1, .ref b2, .double mi, .int (nI tk)])), (a1, aI q 8 pa), (ax, aD q 8 (fun i => FP.i2d (xi i))), (b0, aD q 16 (fun i => FP.i2d (z0 i))), (b1, aD q 16 (fun i => FP.i2d (z1 i))), (b2, aD q 16 fm), (ao, aL q 1 fo)]) (w1 := [(o3, .inr (3, [.ref o1, .ref af, .int (nI nf)]))]) hP hD [0] [1, 2, 3, 4, 5, 6, 7, 8] rfl rfl (by decide) (by decide) hk9 hFc hP1 hD1
      obtain rfl : E9 = exO := hE9.trans (by rw [hc1]; rfl)
      refine vx_catch (name := exO) hown [] ⟨0, 10, 13, 13⟩ [⟨0, 10, 17, 15⟩] (htb.trans rfl) (fun z hz => absurd hz List.not_mem_nil) rfl (by decide) (dr_words hts s.drawn (.classLink RL 13 exO) (by decide +kernel)) ((hNT.drawn s.drawn).bad _ (show (Cond.castable exO exO) ∈ exB by decide +kernel)) hce9 hcv9 hcl9 ?_
      generalize H1 = H at hP hS ⊢
      have hP : va_P G vwCl ([(af, aF q 6 (fun j => if j < nf then some (oa j) else none)), (o1, .inr (1, [.ref a1, .ref ax, .ref b0, .ref b1, .ref b2, .double mi, .int (nI tk)])), (a1, aI q 8 pa), (ax, aD q 8 (fun i => FP.i2d (xi i))), (b0, aD q 16 (fun i => FP.i2d (z0 i))), (b1, aD q 16 (fun i => FP.i2d (z1 i))), (b2, aD q 16 fm), (ao, aL q 1 fo), (o3, .inr (3, [.ref o1, .ref af, .int (nI nf)]))] ++ TW nf (WQ q C)) H := hP
      have hD : va_D A ([(af, aF q 6 (fun j => if j < nf then some (oa j) else none)), (o1, .inr (1, [.ref a1, .ref ax, .ref b0, .ref b1, .ref b2, .double mi, .int (nI tk)])), (a1, aI q 8 pa), (ax, aD q 8 (fun i => FP.i2d (xi i))), (b0, aD q 16 (fun i => FP.i2d (z0 i))), (b1, aD q 16 (fun i => FP.i2d (z1 i))), (b2, aD q 16 fm), (ao, aL q 1 fo), (o3, .inr (3, [.ref o1, .ref af, .int (nI nf)]))] ++ TW nf (WQ q C)) := hD
      refine lv_astore (lv' := [(4, .ref q9), (0, .ref o3), (1, .int xp), (2, .int xh), (3, .ref ao)]) hx hb dL_path_13 hl (by decide) rfl (fun ls hl => ?_)
      refine lv_iconst (v := 1) hx hb dL_path_15 (by decide) ?_
      have hP := hP.part (cx := [(o3, .inr (3, [.ref o1, .ref af, .int (nI nf)])), (af, aF q 6 (fun j => if j < nf then some (oa j) else none)), (o1, .inr (1, [.ref a1, .ref ax, .ref b0, .ref b1, .ref b2, .double mi, .int (nI tk)])), (a1, aI q 8 pa), (ax, aD q 8 (fun i => FP.i2d (xi i))), (b0, aD q 16 (fun i => FP.i2d (z0 i))), (b1, aD q 16 (fun i => FP.i2d (z1 i))), (b2, aD q 16 fm), (ao, aL q 1 fo)]) [8, 0, 1, 2, 3, 4, 5, 6, 7] rfl
      have hD := hD.part (cx := [(o3, .inr (3, [.ref o1, .ref af, .int (nI nf)])), (af, aF q 6 (fun j => if j < nf then some (oa j) else none)), (o1, .inr (1, [.ref a1, .ref ax, .ref b0, .ref b1, .ref b2, .double mi, .int (nI tk)])), (a1, aI q 8 pa), (ax, aD q 8 (fun i => FP.i2d (xi i))), (b0, aD q 16 (fun i => FP.i2d (z0 i))), (b1, aD q 16 (fun i => FP.i2d (z1 i))), (b2, aD q 16 fm), (ao, aL q 1 fo)]) [8, 0, 1, 2, 3, 4, 5, 6, 7] (by decide) rfl
      have hP9 := hP
      have hD9 := hD
      refine W.endD hd0 ?_
      exact W.iret (v := 1) hx hb hr (fun t ht hW => ⟨⟨1, (pa, fo), rfl, ⟨hc1.symm, fun z => absurd z h0, fun _ => rfl⟩, by rw [ht]; exact hP9, hD9⟩, hS.F ht⟩) hS.2.2 dL_path_16
    · skip
      have hPc := hP.sub (ws' := [(o3, .inr (3, [.ref o1, .ref af, .int (nI nf)]))]) [0] rfl
      have hDc := hD.sub (ws' := [(o3, .inr (3, [.ref o1, .ref af, .int (nI nf)]))]) [0] (by decide) rfl
      have hFc := va_free (wc := [(o3, .inr (3, [.ref o1, .ref af, .int (nI nf)]))]) hD hS hA [0] rfl
      refine vx_calli (vx_runV (As := [.int xp, .int xh]) (rest := [.int 0, .ref ao]) ⟨hx, hb, hml, hown, (dr_words hts s.drawn)⟩ (m_X3_path_x l G q s.heap.size hst o3 o1 af nf xp xh h0) (cwV 2 (dr_words hts s.drawn) gL_path_X3_path rfl rfl rfl (by decide +kernel) ⟨Nat.le_of_ble_eq_true rfl, Nat.le_of_ble_eq_true rfl⟩) ⟨preX_blind, (va_recv hK hPc (ci := 3) (q0 := 0) rfl rfl), preX_start (s := s.setDrawn s.drawn) hPc hK hDc (hNF.drawn s.drawn) (hNT.drawn s.drawn) hS (fun q h => hFc q h)⟩ rfl rfl hl.1 rfl (lv_room (Nat.le_of_ble_eq_true rfl)) dL_path_5 ⟨(by show _ ≤ 1; omega), (by show _ ≤ 6; omega)⟩) hS (fun q _ h => hFc q h) hFc (fun q _ h => hFc q h) (fun E9 ce9 q9 u9 t9 H1 locs ht9 hv9 hpx9 hB9 hz9 hk9 hS hce9 hcv9 hcl9 => ?_) (fun _ _ _ _ _ _ _ hw _ _ _ _ => hw.elim)
      obtain ⟨hE9, hP1, hD1⟩ := hB9
      rw [ht9] at hP1
      obtain ⟨hP, hD⟩ := va_joinQ (wr := [(af, aF q 6 (fun j => if j < nf then some (oa j) else none)), (o1, .inr (1, [.ref a1, .ref ax, .ref b0, .ref b1, .ref b2, .double mi, .int (nI tk)])), (a1, aI q 8 pa), (ax, aD q 8 (fun i => FP.i2d (xi i))), (b0, aD q 16 (fun i => FP.i2d (z0 i))), (b1, aD q 16 (fun i => FP.i2d (z1 i))), (b2, aD q 16 fm), (ao, aL q 1 fo)]) (w1 := [(o3, .inr (3, [.ref o1, .ref af, .int (nI nf)]))]) hP hD [0] [1, 2, 3, 4, 5, 6, 7, 8] rfl rfl (by decide) (by decide) hk9 hFc hP1 hD1
      obtain rfl : E9 = exA := hE9.trans (by rw [hc1]; rfl)
      refine vx_catch (name := exA) hown [⟨0, 10, 13, 13⟩] ⟨0, 10, 17, 15⟩ [] (htb.trans rfl) (fun z hz => Or.inr (by rw [List.mem_singleton.mp hz]; exact ⟨by decide, exO, (dr_words hts s.drawn (.classLink RL 13 exO) (by decide +kernel)), hNC.1⟩)) rfl (by decide) (dr_words hts s.drawn (.classLink RL 15 exA) (by decide +kernel)) ((hNT.drawn s.drawn).bad _ (show (Cond.castable exA exA) ∈ exB by decide +kernel)) hce9 hcv9 hcl9 ?_
      generalize H1 = H at hP hS ⊢
      have hP : va_P G vwCl ([(af, aF q 6 (fun j => if j < nf then some (oa j) else none)), (o1, .inr (1, [.ref a1, .ref ax, .ref b0, .ref b1, .ref b2, .double mi, .int (nI tk)])), (a1, aI q 8 pa), (ax, aD q 8 (fun i => FP.i2d (xi i))), (b0, aD q 16 (fun i => FP.i2d (z0 i))), (b1, aD q 16 (fun i => FP.i2d (z1 i))), (b2, aD q 16 fm), (ao, aL q 1 fo), (o3, .inr (3, [.ref o1, .ref af, .int (nI nf)]))] ++ TW nf (WQ q C)) H := hP
      have hD : va_D A ([(af, aF q 6 (fun j => if j < nf then some (oa j) else none)), (o1, .inr (1, [.ref a1, .ref ax, .ref b0, .ref b1, .ref b2, .double mi, .int (nI tk)])), (a1, aI q 8 pa), (ax, aD q 8 (fun i => FP.i2d (xi i))), (b0, aD q 16 (fun i => FP.i2d (z0 i))), (b1, aD q 16 (fun i => FP.i2d (z1 i))), (b2, aD q 16 fm), (ao, aL q 1 fo), (o3, .inr (3, [.ref o1, .ref af, .int (nI nf)]))] ++ TW nf (WQ q C)) := hD
      refine lv_astore (lv' := [(4, .ref q9), (0, .ref o3), (1, .int xp), (2, .int xh), (3, .ref ao)]) hx hb dL_path_17 hl (by decide) rfl (fun ls hl => ?_)
      refine lv_iconst (v := 2) hx hb dL_path_19 (by decide) ?_
      have hP := hP.part (cx := [(o3, .inr (3, [.ref o1, .ref af, .int (nI nf)])), (af, aF q 6 (fun j => if j < nf then some (oa j) else none)), (o1, .inr (1, [.ref a1, .ref ax, .ref b0, .ref b1, .ref b2, .double mi, .int (nI tk)])), (a1, aI q 8 pa), (ax, aD q 8 (fun i => FP.i2d (xi i))), (b0, aD q 16 (fun i => FP.i2d (z0 i))), (b1, aD q 16 (fun i => FP.i2d (z1 i))), (b2, aD q 16 fm), (ao, aL q 1 fo)]) [8, 0, 1, 2, 3, 4, 5, 6, 7] rfl
      have hD := hD.part (cx := [(o3, .inr (3, [.ref o1, .ref af, .int (nI nf)])), (af, aF q 6 (fun j => if j < nf then some (oa j) else none)), (o1, .inr (1, [.ref a1, .ref ax, .ref b0, .ref b1, .ref b2, .double mi, .int (nI tk)])), (a1, aI q 8 pa), (ax, aD q 8 (fun i => FP.i2d (xi i))), (b0, aD q 16 (fun i => FP.i2d (z0 i))), (b1, aD q 16 (fun i => FP.i2d (z1 i))), (b2, aD q 16 fm), (ao, aL q 1 fo)]) [8, 0, 1, 2, 3, 4, 5, 6, 7] (by decide) rfl
      have hP9 := hP
      have hD9 := hD
      refine W.endD hd0 ?_
      exact W.iret (v := 2) hx hb hr (fun t ht hW => ⟨⟨2, (pa, fo), rfl, ⟨hc1.symm, fun z => absurd z h0, fun _ => rfl⟩, by rw [ht]; exact hP9, hD9⟩, hS.F ht⟩) hS.2.2 dL_path_20
