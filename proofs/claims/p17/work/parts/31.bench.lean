/-- a sample, as values, for any hearing -/
def bsC (hc : HF) (pa : Nat → Int32) (v ta : Int32) (b : BS) : BS :=
  ((shX b.1.1 v, vf_upd b.1.2.1 (b.2.2.2.1 % 16) v, vf_upd b.1.2.2 (b.2.2.2.1 % 16) (b.1.1 0)), vf_upd b.2.1 (b.2.2.2.1 % 16) (sMic ta pa (shX b.1.1 v)), sMic ta pa (shX b.1.1 v), b.2.2.2.1 + 1, fun g => hc (shX b.1.1 v) (sMic ta pa (shX b.1.1 v)) (b.2.2.2.2 g))
def bsCN (hc : HF) (pa : Nat → Int32) (a : Nat) : Nat → BS → BS
  | 0, b => b
  | k + 1, b => bsC hc pa (nI (scrA a (k + 1)) - 1000) 0 (bsCN hc pa a k b)
theorem bsCN_M (pa : Nat → Int32) (a k : Nat) (b : BS) : bsCN hearM pa a k b = bsN pa a k b := by
  induction k with
  | zero => rfl
  | succ k ih =>
    show bsC hearM pa _ 0 (bsCN hearM pa a k b) = bsS pa _ 0 (bsN pa a k b)
    rw [ih]
    rfl
/-- the class's picture -/
def picC (nf T : Nat) (xi z0 z1 : Nat → Int32) (fm : Nat → UInt64) (mi : UInt64) (C : Nat → CFt) (b : BS) : Prop :=
  b.1 = (xi, z0, z1) ∧ b.2.1 = (fun i => dV (fm i)) ∧ b.2.2.1 = dV mi ∧ b.2.2.2.1 = T ∧ ∀ g, g < nf → vcF (C g) = b.2.2.2.2 g
theorem picC_step {hc : HF} {nf T : Nat} {pa xi z0 z1 : Nat → Int32} {fm : Nat → UInt64} {mi mj : UInt64} {C F : Nat → CFt} {b : BS} {v ta : Int32} (h : picC nf T xi z0 z1 fm mi C b)
    (h1 : dV mj = sMic ta pa (shX xi v)) (h2 : ∀ g, g < nf → vcF (F g) = hc (shX xi v) (dV mj) (vcF (C g))) :
    picC nf (T + 1) (shX xi v) (vf_upd z0 (T % 16) v) (vf_upd z1 (T % 16) (xi 0)) (vf_upd fm (T % 16) mj) mj F (bsC hc pa v ta b) := by
  obtain ⟨a1, a2, a3, a4, a5⟩ := h
  unfold bsC
  refine ⟨?_, ?_, ?_, ?_, fun g hg => ?_⟩
  · show (shX b.1.1 v, vf_upd b.1.2.1 (b.2.2.2.1 % 16) v, vf_upd b.1.2.2 (b.2.2.2.1 % 16) (b.1.1 0)) = _
    rw [a1, a4]
  · show vf_upd b.2.1 (b.2.2.2.1 % 16) (sMic ta pa (shX b.1.1 v)) = _
    rw [a1, a2, a4, vf_dV, h1]
  · show sMic ta pa (shX b.1.1 v) = _
    rw [a1, h1]
  · show b.2.2.2.1 + 1 = _
    rw [a4]
  · show _ = hc (shX b.1.1 v) (sMic ta pa (shX b.1.1 v)) (b.2.2.2.2 g)
    rw [h2 g hg, a1, ← a5 g hg, h1]
theorem vf_id {α : Type} {f : Nat → α} {i : Nat} : vf_upd f i (f i) = f := by
  funext j
  unfold vf_upd
  by_cases h : j = i
  · rw [if_pos h, h]
  · rw [if_neg h]
theorem scr_in {a : Nat} (h : a ≤ 2000) : -1000 ≤ nI a - 1000 ∧ nI a - 1000 ≤ 1000 := by
  have e : (nI a - 1000).toInt = (a : Int) - 1000 := by
    rw [Int32.toInt_sub, nI_toInt (by omega), show (1000 : Int32).toInt = 1000 by decide]
    exact Int.bmod_eq_of_le (by omega) (by omega)
  rw [Int32.le_iff_toInt_le, Int32.le_iff_toInt_le, e, show (-1000 : Int32).toInt = -1000 by decide, show (1000 : Int32).toInt = 1000 by decide]
  omega
abbrev offC (pa : Nat → Int32) (C : Nat → CFt) (g : Nat) : Dt := sOff (cNn (C g)) (fun k => dV (cAr (C g) 0 k)) pa

theorem in_X3_feed_X1 : ∀ w ∈ wsX10, w ∈ wsX3_feed := by decide +kernel
theorem in_X3_feed_X3 : ∀ w ∈ wsX30, w ∈ wsX3_feed := by decide +kernel
set_option maxHeartbeats 4000000 in
set_option maxRecDepth 100000 in
/-- feed: where it returns -/
theorem m_X3_feed (l : Launch) (G : va_G) (q : Nat → ClassId) (sz : Nat) {hc : HF} (hH : HearC l hc) (o3 o1 af nf a1 ax b0 b1 b2 tk : Nat) (mi : UInt64) (pa xi z0 z1 : Nat → Int32) (fm : Nat → UInt64) (C : Nat → CFt) (oa : Nat → Nat) (x ta : Int32) (hnf : nf ≤ 6) (hoa : ∀ g, g < nf → cAd (C g) 0 = oa g) (htk : tk < 2000) (hx9 : small xi) (hC : ∀ g, g < nf → okF tk (C g)) (hxx : -1000 ≤ x ∧ x ≤ 1000) (htt : -1000 ≤ ta ∧ ta ≤ 1000) : MetD lw_cs l yX3_feed wsX3_feed ({ frames := 8, cells := 0, slots := 0, locals := 247 } : Jvm.Room) (PreW G q [.ref o3, .int x, .int ta] ([(o3, .inr (3, [.ref o1, .ref af, .int (nI nf)])), (af, aF q 6 (fun j => if j < nf then some (oa j) else none)), (o1, .inr (1, [.ref a1, .ref ax, .ref b0, .ref b1, .ref b2, .double mi, .int (nI tk)])), (a1, aI q 8 pa), (ax, aD q 8 (fun i => FP.i2d (xi i))), (b0, aD q 16 (fun i => FP.i2d (z0 i))), (b1, aD q 16 (fun i => FP.i2d (z1 i))), (b2, aD q 16 fm)] ++ TW nf (WQ q C)) sz) (va_Qi (fun (r : Int32) (u : UInt64 × (Nat → CFt)) => r = nI (tk + 1) ∧ dV u.1 = sMic ta pa (shX xi x) ∧ ∀ g, g < nf → sameF (u.2 g) (C g) ∧ vcF (u.2 g) = hc (shX xi x) (dV u.1) (vcF (C g)) ∧ okF (tk + 1) (u.2 g)) (fun (u : UInt64 × (Nat → CFt)) t => EndA G (va_A ([(o3, .inr (3, [.ref o1, .ref af, .int (nI nf)])), (af, aF q 6 (fun j => if j < nf then some (oa j) else none)), (o1, .inr (1, [.ref a1, .ref ax, .ref b0, .ref b1, .ref b2, .double mi, .int (nI tk)])), (a1, aI q 8 pa), (ax, aD q 8 (fun i => FP.i2d (xi i))), (b0, aD q 16 (fun i => FP.i2d (z0 i))), (b1, aD q 16 (fun i => FP.i2d (z1 i))), (b2, aD q 16 fm)] ++ TW nf (WQ q C)) sz) ([(o3, .inr (3, [.ref o1, .ref af, .int (nI nf)])), (af, aF q 6 (fun j => if j < nf then some (oa j) else none)), (o1, .inr (1, [.ref a1, .ref ax, .ref b0, .ref b1, .ref b2, .double u.1, .int (nI (tk + 1))])), (a1, aI q 8 pa), (ax, aD q 8 (fun i => FP.i2d ((shX xi x) i))), (b0, aD q 16 (fun i => FP.i2d ((vf_upd z0 (tk % 16) x) i))), (b1, aD q 16 (fun i => FP.i2d ((vf_upd z1 (tk % 16) (xi 0)) i))), (b2, aD q 16 (vf_upd fm (tk % 16) u.1))] ++ TW nf (WQ q u.2)) t) (va_A ([(o3, .inr (3, [.ref o1, .ref af, .int (nI nf)])), (af, aF q 6 (fun j => if j < nf then some (oa j) else none)), (o1, .inr (1, [.ref a1, .ref ax, .ref b0, .ref b1, .ref b2, .double mi, .int (nI tk)])), (a1, aI q 8 pa), (ax, aD q 8 (fun i => FP.i2d (xi i))), (b0, aD q 16 (fun i => FP.i2d (z0 i))), (b1, aD q 16 (fun i => FP.i2d (z1 i))), (b2, aD q 16 fm)] ++ TW nf (WQ q C)) sz)) 0 0 (va_A ([(o3, .inr (3, [.ref o1, .ref af, .int (nI nf)])), (af, aF q 6 (fun j => if j < nf then some (oa j) else none)), (o1, .inr (1, [.ref a1, .ref ax, .ref b0, .ref b1, .ref b2, .double mi, .int (nI tk)])), (a1, aI q 8 pa), (ax, aD q 8 (fun i => FP.i2d (xi i))), (b0, aD q 16 (fun i => FP.i2d (z0 i))), (b1, aD q 16 (fun i => FP.i2d (z1 i))), (b2, aD q 16 fm)] ++ TW nf (WQ q C)) sz) := by
  refine MetD.ofW (cc := cX3_feed) (maxL := 3) (ret := (some .int)) (by decide +kernel) rfl ?_
  intro p e s m args below meth c s₁ B hml hv hd0
  obtain ⟨rfl, hsz, hP, hK, hD0, hNF⟩ := hv
  have hx := B.exec
  have hb := B.bytes
  have hr := B.returns
  have hts := atoms_spec (ws := wsX3_feed) B.pre
  have hown : s.vm.findClass RX3 = some m.cls := findClass_of_methodNamed B.named
  have hlocks := B.notSynchronized
  subst hsz
  have hD := hD0.self (sz := s.heap.size)
  generalize hAe : va_A ([(o3, .inr (3, [.ref o1, .ref af, .int (nI nf)])), (af, aF q 6 (fun j => if j < nf then some (oa j) else none)), (o1, .inr (1, [.ref a1, .ref ax, .ref b0, .ref b1, .ref b2, .double mi, .int (nI tk)])), (a1, aI q 8 pa), (ax, aD q 8 (fun i => FP.i2d (xi i))), (b0, aD q 16 (fun i => FP.i2d (z0 i))), (b1, aD q 16 (fun i => FP.i2d (z1 i))), (b2, aD q 16 fm)] ++ TW nf (WQ q C)) s.heap.size = A at hD ⊢
  have hA : ∀ q : Nat, s.heap.size ≤ q → A q := fun q h => by rw [← hAe]; exact Or.inr h
  have hS : va_S A s.heap s.heap [] := va_S.rf
  have hP : va_P G vwCl ([(o3, .inr (3, [.ref o1, .ref af, .int (nI nf)])), (af, aF q 6 (fun j => if j < nf then some (oa j) else none)), (o1, .inr (1, [.ref a1, .ref ax, .ref b0, .ref b1, .ref b2, .double mi, .int (nI tk)])), (a1, aI q 8 pa), (ax, aD q 8 (fun i => FP.i2d (xi i))), (b0, aD q 16 (fun i => FP.i2d (z0 i))), (b1, aD q 16 (fun i => FP.i2d (z1 i))), (b2, aD q 16 fm)] ++ TW nf (WQ q C)) s.heap := hP
  have hl := lv_entry ([.ref o3, .int x, .int ta]) (n := 3) (Nat.le_of_ble_eq_true rfl)
  rw [lg_entry_eq]
  generalize (lg_sl ([.ref o3, .int x, .int ta]) ++ List.replicate (3 - (lg_sl ([.ref o3, .int x, .int ta])).length) Slot.unset).toArray = ls at hl ⊢
  have hl : lv_has ls 3 [(0, .ref o3), (1, .int x), (2, .int ta)] := hl
  refine lv_iload_n hx hb dX3_feed_0 rfl (lv_at hl 1 rfl) ?_
  refine lv_sipush (v := (-1000)) hx hb dX3_feed_1 (by decide) ?_
  refine lv_sipush (v := 1000) hx hb dX3_feed_4 (by decide) ?_
  have hPc := hP.sub (ws' := []) [] rfl
  have hDc := hD.sub (ws' := []) [] (by decide) rfl
  have hFc := va_free (wc := []) hD hS hA [] rfl
  refine va_calli (va_runS (As := [.int x, .int (-1000), .int 1000]) (rest := []) ⟨hx, hb, hml, hown, (dr_words hts s.drawn)⟩ (m_X3_isWithin l G q s.heap.size x (-1000) 1000) (va_cwS 3 (dr_words hts s.drawn) gX3_feed_X3_isWithin rfl rfl rfl (by decide +kernel) ⟨Nat.le_of_ble_eq_true rfl, Nat.le_of_ble_eq_true rfl⟩) ⟨preW_blind, preW_start (s := s.setDrawn s.drawn) hPc hK hDc (hNF.drawn s.drawn)⟩ rfl rfl hl.1 rfl (lv_room (Nat.le_of_ble_eq_true rfl)) dX3_feed_7 ⟨(Nat.zero_le _), (Nat.zero_le _)⟩) hS (fun q _ h => hFc q h) hFc (fun ri1 u9 t9 H1 locs ht9 hv9 hw hB9 hz9 hk9 hS => ?_)
  obtain ⟨⟩ := u9
  obtain ⟨hP1, hD1⟩ := hB9
  rw [ht9] at hP1
  obtain ⟨hP, hD⟩ := va_joinQ (wr := [(o3, .inr (3, [.ref o1, .ref af, .int (nI nf)])), (af, aF q 6 (fun j => if j < nf then some (oa j) else none)), (o1, .inr (1, [.ref a1, .ref ax, .ref b0, .ref b1, .ref b2, .double mi, .int (nI tk)])), (a1, aI q 8 pa), (ax, aD q 8 (fun i => FP.i2d (xi i))), (b0, aD q 16 (fun i => FP.i2d (z0 i))), (b1, aD q 16 (fun i => FP.i2d (z1 i))), (b2, aD q 16 fm)]) (w1 := []) hP hD [] [0, 1, 2, 3, 4, 5, 6, 7] rfl rfl (by decide) (by decide) hk9 hFc hP1 hD1
  generalize H1 = H at hP hS ⊢
  have hP : va_P G vwCl ([(o3, .inr (3, [.ref o1, .ref af, .int (nI nf)])), (af, aF q 6 (fun j => if j < nf then some (oa j) else none)), (o1, .inr (1, [.ref a1, .ref ax, .ref b0, .ref b1, .ref b2, .double mi, .int (nI tk)])), (a1, aI q 8 pa), (ax, aD q 8 (fun i => FP.i2d (xi i))), (b0, aD q 16 (fun i => FP.i2d (z0 i))), (b1, aD q 16 (fun i => FP.i2d (z1 i))), (b2, aD q 16 fm)] ++ TW nf (WQ q C)) H := hP
  have hD : va_D A ([(o3, .inr (3, [.ref o1, .ref af, .int (nI nf)])), (af, aF q 6 (fun j => if j < nf then some (oa j) else none)), (o1, .inr (1, [.ref a1, .ref ax, .ref b0, .ref b1, .ref b2, .double mi, .int (nI tk)])), (a1, aI q 8 pa), (ax, aD q 8 (fun i => FP.i2d (xi i))), (b0, aD q 16 (fun i => FP.i2d (z0 i))), (b1, aD q 16 (fun i => FP.i2d (z1 i))), (b2, aD q 16 fm)] ++ TW nf (WQ q C)) := hD
  obtain rfl : ri1 = 1 := hw.trans (if_pos hxx)
  refine lv_if_ne (tgt := 23) hx hb dX3_feed_10 (by decide) (fun _ => ?_) (fun h => absurd h (by decide))
  refine lv_iload_n hx hb dX3_feed_23 rfl (lv_at hl 2 rfl) ?_
  refine lv_sipush (v := (-1000)) hx hb dX3_feed_24 (by decide) ?_
  refine lv_sipush (v := 1000) hx hb dX3_feed_27 (by decide) ?_
  have hPc := hP.sub (ws' := []) [] rfl
  have hDc := hD.sub (ws' := []) [] (by decide) rfl
  have hFc := va_free (wc := []) hD hS hA [] rfl
  refine va_calli (va_runS (As := [.int ta, .int (-1000), .int 1000]) (rest := []) ⟨hx, hb, hml, hown, (dr_words hts s.drawn)⟩ (m_X3_isWithin l G q H.size ta (-1000) 1000) (va_cwS 3 (dr_words hts s.drawn) gX3_feed_X3_isWithin rfl rfl rfl (by decide +kernel) ⟨Nat.le_of_ble_eq_true rfl, Nat.le_of_ble_eq_true rfl⟩) ⟨preW_blind, preW_start (s := s.setDrawn s.drawn) hPc hK hDc (hNF.drawn s.drawn)⟩ rfl rfl hl.1 rfl (lv_room (Nat.le_of_ble_eq_true rfl)) dX3_feed_30 ⟨(Nat.zero_le _), (Nat.zero_le _)⟩) hS (fun q _ h => hFc q h) hFc (fun ri4 u9 t9 H1 locs ht9 hv9 hw hB9 hz9 hk9 hS => ?_)
  obtain ⟨⟩ := u9
  obtain ⟨hP1, hD1⟩ := hB9
  rw [ht9] at hP1
  obtain ⟨hP, hD⟩ := va_joinQ (wr := [(o3, .inr (3, [.ref o1, .ref af, .int (nI nf)])), (af, aF q 6 (fun j => if j < nf then some (oa j) else none)), (o1, .inr (1, [.ref a1, .ref ax, .ref b0, .ref b1, .ref b2, .double mi, .int (nI tk)])), (a1, aI q 8 pa), (ax, aD q 8 (fun i => FP.i2d (xi i))), (b0, aD q 16 (fun i => FP.i2d (z0 i))), (b1, aD q 16 (fun i => FP.i2d (z1 i))), (b2, aD q 16 fm)]) (w1 := []) hP hD [] [0, 1, 2, 3, 4, 5, 6, 7] rfl rfl (by decide) (by decide) hk9 hFc hP1 hD1
  generalize H1 = H at hP hS ⊢
  have hP : va_P G vwCl ([(o3, .inr (3, [.ref o1, .ref af, .int (nI nf)])), (af, aF q 6 (fun j => if j < nf then some (oa j) else none)), (o1, .inr (1, [.ref a1, .ref ax, .ref b0, .ref b1, .ref b2, .double mi, .int (nI tk)])), (a1, aI q 8 pa), (ax, aD q 8 (fun i => FP.i2d (xi i))), (b0, aD q 16 (fun i => FP.i2d (z0 i))), (b1, aD q 16 (fun i => FP.i2d (z1 i))), (b2, aD q 16 fm)] ++ TW nf (WQ q C)) H := hP
  have hD : va_D A ([(o3, .inr (3, [.ref o1, .ref af, .int (nI nf)])), (af, aF q 6 (fun j => if j < nf then some (oa j) else none)), (o1, .inr (1, [.ref a1, .ref ax, .ref b0, .ref b1, .ref b2, .double mi, .int (nI tk)])), (a1, aI q 8 pa), (ax, aD q 8 (fun i => FP.i2d (xi i))), (b0, aD q 16 (fun i => FP.i2d (z0 i))), (b1, aD q 16 (fun i => FP.i2d (z1 i))), (b2, aD q 16 fm)] ++ TW nf (WQ q C)) := hD
  obtain rfl : ri4 = 1 := hw.trans (if_pos htt)
  refine lv_if_ne (tgt := 46) hx hb dX3_feed_33 (by decide) (fun _ => ?_) (fun h => absurd h (by decide))
  refine lv_aload_n hx hb dX3_feed_46 rfl (lv_at hl 0 rfl) ?_
  refine va_get (D := G) (ci := 3) (v := .ref o1) (C := RX3) (T := TX3) (N := 3) hx hb (dr_words hts s.drawn) in_X3_feed_X3 hown hK hP 0 rfl rfl 0 (by decide) (dr_words hts s.drawn (.fieldLink RX3 10 "EchoBench" "samples" "LEchoBench$Samples;") (by decide +kernel)) (fun _ h9 => h9) rfl dX3_feed_47 ?_
  refine va_getN (D := G) (ci := 1) (v := .int (nI tk)) (C := RX1) (T := TX1) (N := 7) hx hb (dr_words hts s.drawn) in_X3_feed_X1 hown hK hP 2 rfl rfl 6 (by decide) (va_Nw.use rfl ((hNF.drawn s.drawn).1 (.fieldLinkNest RX3 91 "EchoBench$Samples" "taken" "I" "EchoBench") (by decide +kernel))) (fun _ h9 => h9) rfl dX3_feed_50 ?_
  refine lv_sipush (v := 2000) hx hb dX3_feed_53 (by decide) ?_
  refine lv_icmp_lt (tgt := 69) hx hb dX3_feed_56 (by decide) (fun _ => ?_) (fun h => absurd (nI_lt (b := 2000) htk (by decide)) h)
  refine lv_aload_n hx hb dX3_feed_69 rfl (lv_at hl 0 rfl) ?_
  refine lv_iload_n hx hb dX3_feed_70 rfl (lv_at hl 1 rfl) ?_
  refine lv_iload_n hx hb dX3_feed_71 rfl (lv_at hl 2 rfl) ?_
  have hPc := hP.part (cx := [(o3, .inr (3, [.ref o1, .ref af, .int (nI nf)])), (af, aF q 6 (fun j => if j < nf then some (oa j) else none)), (o1, .inr (1, [.ref a1, .ref ax, .ref b0, .ref b1, .ref b2, .double mi, .int (nI tk)])), (a1, aI q 8 pa), (ax, aD q 8 (fun i => FP.i2d (xi i))), (b0, aD q 16 (fun i => FP.i2d (z0 i))), (b1, aD q 16 (fun i => FP.i2d (z1 i))), (b2, aD q 16 fm)]) [0, 1, 2, 3, 4, 5, 6, 7] rfl
  have hDc := hD.part (cx := [(o3, .inr (3, [.ref o1, .ref af, .int (nI nf)])), (af, aF q 6 (fun j => if j < nf then some (oa j) else none)), (o1, .inr (1, [.ref a1, .ref ax, .ref b0, .ref b1, .ref b2, .double mi, .int (nI tk)])), (a1, aI q 8 pa), (ax, aD q 8 (fun i => FP.i2d (xi i))), (b0, aD q 16 (fun i => FP.i2d (z0 i))), (b1, aD q 16 (fun i => FP.i2d (z1 i))), (b2, aD q 16 fm)]) [0, 1, 2, 3, 4, 5, 6, 7] (by decide) rfl
  have hFc := va_freeP (cx := [(o3, .inr (3, [.ref o1, .ref af, .int (nI nf)])), (af, aF q 6 (fun j => if j < nf then some (oa j) else none)), (o1, .inr (1, [.ref a1, .ref ax, .ref b0, .ref b1, .ref b2, .double mi, .int (nI tk)])), (a1, aI q 8 pa), (ax, aD q 8 (fun i => FP.i2d (xi i))), (b0, aD q 16 (fun i => FP.i2d (z0 i))), (b1, aD q 16 (fun i => FP.i2d (z1 i))), (b2, aD q 16 fm)]) hD hS hA [0, 1, 2, 3, 4, 5, 6, 7] rfl
  refine va_callvD hd0 (va_runV_D (As := [.int x, .int ta]) (rest := []) ⟨hx, hb, hml, hown, (dr_words hts s.drawn)⟩ (m_X3_takeSample l G q H.size hH o3 o1 af nf a1 ax b0 b1 b2 tk mi pa xi z0 z1 fm C oa x ta hnf hoa htk hx9 hC hxx) (cwV 2 (dr_words hts s.drawn) gX3_feed_X3_takeSample rfl rfl rfl (by decide +kernel) ⟨Nat.le_of_ble_eq_true rfl, Nat.le_of_ble_eq_true rfl⟩) ⟨preW_blind, (va_recv hK hPc (ci := 3) (q0 := 0) rfl rfl), preW_start (s := s.setDrawn s.drawn) hPc hK hDc (hNF.drawn s.drawn)⟩ rfl rfl hl.1 rfl (lv_room (Nat.le_of_ble_eq_true rfl)) dX3_feed_72 ⟨(Nat.zero_le _), (Nat.zero_le _)⟩) hS (fun q _ h => hFc q h) hFc (fun u9 t9 H1 locs ht9 hv9 hw hB9 hz9 hk9 hS du9 hu9 => ?_)
  obtain ⟨m1, F⟩ := u9
  obtain ⟨hP1, hD1⟩ := hB9
  rw [ht9] at hP1
  obtain ⟨hP, hD⟩ := va_joinP (wr := []) (rx := [(o3, .inr (3, [.ref o1, .ref af, .int (nI nf)])), (af, aF q 6 (fun j => if j < nf then some (oa j) else none)), (o1, .inr (1, [.ref a1, .ref ax, .ref b0, .ref b1, .ref b2, .double m1, .int (nI (tk + 1))])), (a1, aI q 8 pa), (ax, aD q 8 (fun i => FP.i2d ((shX xi x) i))), (b0, aD q 16 (fun i => FP.i2d ((vf_upd z0 (tk % 16) x) i))), (b1, aD q 16 (fun i => FP.i2d ((vf_upd z1 (tk % 16) (xi 0)) i))), (b2, aD q 16 (vf_upd fm (tk % 16) m1))]) (pl1 := TW nf (WQ q F)) hP hD [0, 1, 2, 3, 4, 5, 6, 7] [] rfl rfl (by decide) (by decide) hk9 hFc hP1 hD1
  generalize H1 = H at hP hS ⊢
  have hP : va_P G vwCl ([(o3, .inr (3, [.ref o1, .ref af, .int (nI nf)])), (af, aF q 6 (fun j => if j < nf then some (oa j) else none)), (o1, .inr (1, [.ref a1, .ref ax, .ref b0, .ref b1, .ref b2, .double m1, .int (nI (tk + 1))])), (a1, aI q 8 pa), (ax, aD q 8 (fun i => FP.i2d ((shX xi x) i))), (b0, aD q 16 (fun i => FP.i2d ((vf_upd z0 (tk % 16) x) i))), (b1, aD q 16 (fun i => FP.i2d ((vf_upd z1 (tk % 16) (xi 0)) i))), (b2, aD q 16 (vf_upd fm (tk % 16) m1))] ++ TW nf (WQ q F)) H := hP
  have hD : va_D A ([(o3, .inr (3, [.ref o1, .ref af, .int (nI nf)])), (af, aF q 6 (fun j => if j < nf then some (oa j) else none)), (o1, .inr (1, [.ref a1, .ref ax, .ref b0, .ref b1, .ref b2, .double m1, .int (nI (tk + 1))])), (a1, aI q 8 pa), (ax, aD q 8 (fun i => FP.i2d ((shX xi x) i))), (b0, aD q 16 (fun i => FP.i2d ((vf_upd z0 (tk % 16) x) i))), (b1, aD q 16 (fun i => FP.i2d ((vf_upd z1 (tk % 16) (xi 0)) i))), (b2, aD q 16 (vf_upd fm (tk % 16) m1))] ++ TW nf (WQ q F)) := hD
  have hs := hw
  refine lv_aload_n hx hb dX3_feed_75 rfl (lv_at hl 0 rfl) ?_
  refine va_get (D := G) (ci := 3) (v := .ref o1) (C := RX3) (T := TX3) (N := 3) hx hb (dr_words hts du9) in_X3_feed_X3 hown hK hP 0 rfl rfl 0 (by decide) (dr_words hts du9 (.fieldLink RX3 10 "EchoBench" "samples" "LEchoBench$Samples;") (by decide +kernel)) (fun _ h9 => h9) rfl dX3_feed_76 ?_
  refine va_getN (D := G) (ci := 1) (v := .int (nI (tk + 1))) (C := RX1) (T := TX1) (N := 7) hx hb (dr_words hts du9) in_X3_feed_X1 hown hK hP 2 rfl rfl 6 (by decide) (va_Nw.use rfl ((hNF.drawn du9).1 (.fieldLinkNest RX3 91 "EchoBench$Samples" "taken" "I" "EchoBench") (by decide +kernel))) (fun _ h9 => h9) rfl dX3_feed_79 ?_
  have hP9 := hP
  have hD9 := hD
  refine W.endD hu9 ?_
  exact W.iret (v := (nI (tk + 1))) hx hb hr (fun t ht hW => ⟨⟨(nI (tk + 1)), (m1, F), rfl, ⟨rfl, hs⟩, by rw [ht]; exact hP9, hD9⟩, hS.F ht⟩) hS.2.2 dX3_feed_82

theorem in_X3_script_X1 : ∀ w ∈ wsX10, w ∈ wsX3_script := by decide +kernel
theorem in_X3_script_X3 : ∀ w ∈ wsX30, w ∈ wsX3_script := by decide +kernel
set_option maxHeartbeats 4000000 in
set_option maxRecDepth 100000 in
/-- script: where it returns -/
theorem m_X3_script (l : Launch) (G : va_G) (q : Nat → ClassId) (sz : Nat) {hc : HF} (hH : HearC l hc) (o3 o1 af nf a1 ax b0 b1 b2 tk : Nat) (mi : UInt64) (pa xi z0 z1 : Nat → Int32) (fm : Nat → UInt64) (C : Nat → CFt) (oa : Nat → Nat) (a my : Nat) (bs0 : BS) (hnf : nf ≤ 6) (hoa : ∀ g, g < nf → cAd (C g) 0 = oa g) (htk : tk + my ≤ 2000) (hx9 : small xi) (hC : ∀ g, g < nf → okF tk (C g)) (ha : a ≤ 2000) (hm1 : 1 ≤ my) (hm2 : my ≤ 100) (hpic : picC nf tk xi z0 z1 fm mi C bs0) : MetD lw_cs l yX3_script wsX3_script ({ frames := 8, cells := 0, slots := 0, locals := 247 } : Jvm.Room) (PreW G q [.ref o3, .int (nI a), .int (nI my)] ([(o3, .inr (3, [.ref o1, .ref af, .int (nI nf)])), (af, aF q 6 (fun j => if j < nf then some (oa j) else none)), (o1, .inr (1, [.ref a1, .ref ax, .ref b0, .ref b1, .ref b2, .double mi, .int (nI tk)])), (a1, aI q 8 pa), (ax, aD q 8 (fun i => FP.i2d (xi i))), (b0, aD q 16 (fun i => FP.i2d (z0 i))), (b1, aD q 16 (fun i => FP.i2d (z1 i))), (b2, aD q 16 fm)] ++ TW nf (WQ q C)) sz) (va_Qi (fun (r : Int32) (u : (Nat → Int32) × (Nat → Int32) × (Nat → Int32) × (Nat → UInt64) × UInt64 × (Nat → CFt)) => r = nI (scrA a my) ∧ picC nf (tk + my) u.1 u.2.1 u.2.2.1 u.2.2.2.1 u.2.2.2.2.1 u.2.2.2.2.2 (bsCN hc pa a my bs0) ∧ small u.1 ∧ ∀ g, g < nf → sameF (u.2.2.2.2.2 g) (C g) ∧ okF (tk + my) (u.2.2.2.2.2 g)) (fun (u : (Nat → Int32) × (Nat → Int32) × (Nat → Int32) × (Nat → UInt64) × UInt64 × (Nat → CFt)) t => EndA G (va_A ([(o3, .inr (3, [.ref o1, .ref af, .int (nI nf)])), (af, aF q 6 (fun j => if j < nf then some (oa j) else none)), (o1, .inr (1, [.ref a1, .ref ax, .ref b0, .ref b1, .ref b2, .double mi, .int (nI tk)])), (a1, aI q 8 pa), (ax, aD q 8 (fun i => FP.i2d (xi i))), (b0, aD q 16 (fun i => FP.i2d (z0 i))), (b1, aD q 16 (fun i => FP.i2d (z1 i))), (b2, aD q 16 fm)] ++ TW nf (WQ q C)) sz) ([(o3, .inr (3, [.ref o1, .ref af, .int (nI nf)])), (af, aF q 6 (fun j => if j < nf then some (oa j) else none)), (o1, .inr (1, [.ref a1, .ref ax, .ref b0, .ref b1, .ref b2, .double u.2.2.2.2.1, .int (nI (tk + my))])), (a1, aI q 8 pa), (ax, aD q 8 (fun i => FP.i2d (u.1 i))), (b0, aD q 16 (fun i => FP.i2d (u.2.1 i))), (b1, aD q 16 (fun i => FP.i2d (u.2.2.1 i))), (b2, aD q 16 u.2.2.2.1)] ++ TW nf (WQ q u.2.2.2.2.2)) t) (va_A ([(o3, .inr (3, [.ref o1, .ref af, .int (nI nf)])), (af, aF q 6 (fun j => if j < nf then some (oa j) else none)), (o1, .inr (1, [.ref a1, .ref ax, .ref b0, .ref b1, .ref b2, .double mi, .int (nI tk)])), (a1, aI q 8 pa), (ax, aD q 8 (fun i => FP.i2d (xi i))), (b0, aD q 16 (fun i => FP.i2d (z0 i))), (b1, aD q 16 (fun i => FP.i2d (z1 i))), (b2, aD q 16 fm)] ++ TW nf (WQ q C)) sz)) 0 0 (va_A ([(o3, .inr (3, [.ref o1, .ref af, .int (nI nf)])), (af, aF q 6 (fun j => if j < nf then some (oa j) else none)), (o1, .inr (1, [.ref a1, .ref ax, .ref b0, .ref b1, .ref b2, .double mi, .int (nI tk)])), (a1, aI q 8 pa), (ax, aD q 8 (fun i => FP.i2d (xi i))), (b0, aD q 16 (fun i => FP.i2d (z0 i))), (b1, aD q 16 (fun i => FP.i2d (z1 i))), (b2, aD q 16 fm)] ++ TW nf (WQ q C)) sz) := by
  refine MetD.ofW (cc := cX3_script) (maxL := 5) (ret := (some .int)) (by decide +kernel) rfl ?_
  intro p e s m args below meth c s₁ B hml hv hd0
  obtain ⟨rfl, hsz, hP, hK, hD0, hNF⟩ := hv
  have hx := B.exec
  have hb := B.bytes
  have hr := B.returns
  have hts := atoms_spec (ws := wsX3_script) B.pre
  have hown : s.vm.findClass RX3 = some m.cls := findClass_of_methodNamed B.named
  have hlocks := B.notSynchronized
  subst hsz
  have hD := hD0.self (sz := s.heap.size)
  generalize hAe : va_A ([(o3, .inr (3, [.ref o1, .ref af, .int (nI nf)])), (af, aF q 6 (fun j => if j < nf then some (oa j) else none)), (o1, .inr (1, [.ref a1, .ref ax, .ref b0, .ref b1, .ref b2, .double mi, .int (nI tk)])), (a1, aI q 8 pa), (ax, aD q 8 (fun i => FP.i2d (xi i))), (b0, aD q 16 (fun i => FP.i2d (z0 i))), (b1, aD q 16 (fun i => FP.i2d (z1 i))), (b2, aD q 16 fm)] ++ TW nf (WQ q C)) s.heap.size = A at hD ⊢
  have hA : ∀ q : Nat, s.heap.size ≤ q → A q := fun q h => by rw [← hAe]; exact Or.inr h
  have hS : va_S A s.heap s.heap [] := va_S.rf
  have hP : va_P G vwCl ([(o3, .inr (3, [.ref o1, .ref af, .int (nI nf)])), (af, aF q 6 (fun j => if j < nf then some (oa j) else none)), (o1, .inr (1, [.ref a1, .ref ax, .ref b0, .ref b1, .ref b2, .double mi, .int (nI tk)])), (a1, aI q 8 pa), (ax, aD q 8 (fun i => FP.i2d (xi i))), (b0, aD q 16 (fun i => FP.i2d (z0 i))), (b1, aD q 16 (fun i => FP.i2d (z1 i))), (b2, aD q 16 fm)] ++ TW nf (WQ q C)) s.heap := hP
  have hl := lv_entry ([.ref o3, .int (nI a), .int (nI my)]) (n := 5) (Nat.le_of_ble_eq_true rfl)
  rw [lg_entry_eq]
  generalize (lg_sl ([.ref o3, .int (nI a), .int (nI my)]) ++ List.replicate (5 - (lg_sl ([.ref o3, .int (nI a), .int (nI my)])).length) Slot.unset).toArray = ls at hl ⊢
  have hl : lv_has ls 5 [(0, .ref o3), (1, .int (nI a)), (2, .int (nI my))] := hl
  refine lv_iload_n hx hb dX3_script_0 rfl (lv_at hl 1 rfl) ?_
  refine lv_iconst (v := 0) hx hb dX3_script_1 (by decide) ?_
  refine lv_sipush (v := 2000) hx hb dX3_script_2 (by decide) ?_
  have hPc := hP.sub (ws' := []) [] rfl
  have hDc := hD.sub (ws' := []) [] (by decide) rfl
  have hFc := va_free (wc := []) hD hS hA [] rfl
  refine va_calli (va_runS (As := [.int (nI a), .int 0, .int 2000]) (rest := []) ⟨hx, hb, hml, hown, (dr_words hts s.drawn)⟩ (m_X3_isWithin l G q s.heap.size (nI a) 0 2000) (va_cwS 3 (dr_words hts s.drawn) gX3_script_X3_isWithin rfl rfl rfl (by decide +kernel) ⟨Nat.le_of_ble_eq_true rfl, Nat.le_of_ble_eq_true rfl⟩) ⟨preW_blind, preW_start (s := s.setDrawn s.drawn) hPc hK hDc (hNF.drawn s.drawn)⟩ rfl rfl hl.1 rfl (lv_room (Nat.le_of_ble_eq_true rfl)) dX3_script_5 ⟨(Nat.zero_le _), (Nat.zero_le _)⟩) hS (fun q _ h => hFc q h) hFc (fun ri1 u9 t9 H1 locs ht9 hv9 hw hB9 hz9 hk9 hS => ?_)
  obtain ⟨⟩ := u9
  obtain ⟨hP1, hD1⟩ := hB9
  rw [ht9] at hP1
  obtain ⟨hP, hD⟩ := va_joinQ (wr := [(o3, .inr (3, [.ref o1, .ref af, .int (nI nf)])), (af, aF q 6 (fun j => if j < nf then some (oa j) else none)), (o1, .inr (1, [.ref a1, .ref ax, .ref b0, .ref b1, .ref b2, .double mi, .int (nI tk)])), (a1, aI q 8 pa), (ax, aD q 8 (fun i => FP.i2d (xi i))), (b0, aD q 16 (fun i => FP.i2d (z0 i))), (b1, aD q 16 (fun i => FP.i2d (z1 i))), (b2, aD q 16 fm)]) (w1 := []) hP hD [] [0, 1, 2, 3, 4, 5, 6, 7] rfl rfl (by decide) (by decide) hk9 hFc hP1 hD1
  generalize H1 = H at hP hS ⊢
  have hP : va_P G vwCl ([(o3, .inr (3, [.ref o1, .ref af, .int (nI nf)])), (af, aF q 6 (fun j => if j < nf then some (oa j) else none)), (o1, .inr (1, [.ref a1, .ref ax, .ref b0, .ref b1, .ref b2, .double mi, .int (nI tk)])), (a1, aI q 8 pa), (ax, aD q 8 (fun i => FP.i2d (xi i))), (b0, aD q 16 (fun i => FP.i2d (z0 i))), (b1, aD q 16 (fun i => FP.i2d (z1 i))), (b2, aD q 16 fm)] ++ TW nf (WQ q C)) H := hP
  have hD : va_D A ([(o3, .inr (3, [.ref o1, .ref af, .int (nI nf)])), (af, aF q 6 (fun j => if j < nf then some (oa j) else none)), (o1, .inr (1, [.ref a1, .ref ax, .ref b0, .ref b1, .ref b2, .double mi, .int (nI tk)])), (a1, aI q 8 pa), (ax, aD q 8 (fun i => FP.i2d (xi i))), (b0, aD q 16 (fun i => FP.i2d (z0 i))), (b1, aD q 16 (fun i => FP.i2d (z1 i))), (b2, aD q 16 fm)] ++ TW nf (WQ q C)) := hD
  obtain rfl : ri1 = 1 := hw.trans (if_pos (in_b (b := 2000) (by decide) (by omega)))
  refine lv_if_ne (tgt := 21) hx hb dX3_script_8 (by decide) (fun _ => ?_) (fun h => absurd h (by decide))
  refine lv_iload_n hx hb dX3_script_21 rfl (lv_at hl 2 rfl) ?_
  refine lv_iconst (v := 1) hx hb dX3_script_22 (by decide) ?_
  refine lv_bipush (v := 100) hx hb dX3_script_23 (by decide) ?_
  have hPc := hP.sub (ws' := []) [] rfl
  have hDc := hD.sub (ws' := []) [] (by decide) rfl
  have hFc := va_free (wc := []) hD hS hA [] rfl
  refine va_calli (va_runS (As := [.int (nI my), .int 1, .int 100]) (rest := []) ⟨hx, hb, hml, hown, (dr_words hts s.drawn)⟩ (m_X3_isWithin l G q H.size (nI my) 1 100) (va_cwS 3 (dr_words hts s.drawn) gX3_script_X3_isWithin rfl rfl rfl (by decide +kernel) ⟨Nat.le_of_ble_eq_true rfl, Nat.le_of_ble_eq_true rfl⟩) ⟨preW_blind, preW_start (s := s.setDrawn s.drawn) hPc hK hDc (hNF.drawn s.drawn)⟩ rfl rfl hl.1 rfl (lv_room (Nat.le_of_ble_eq_true rfl)) dX3_script_25 ⟨(Nat.zero_le _), (Nat.zero_le _)⟩) hS (fun q _ h => hFc q h) hFc (fun ri4 u9 t9 H1 locs ht9 hv9 hw hB9 hz9 hk9 hS => ?_)
  obtain ⟨⟩ := u9
  obtain ⟨hP1, hD1⟩ := hB9
  rw [ht9] at hP1
  obtain ⟨hP, hD⟩ := va_joinQ (wr := [(o3, .inr (3, [.ref o1, .ref af, .int (nI nf)])), (af, aF q 6 (fun j => if j < nf then some (oa j) else none)), (o1, .inr (1, [.ref a1, .ref ax, .ref b0, .ref b1, .ref b2, .double mi, .int (nI tk)])), (a1, aI q 8 pa), (ax, aD q 8 (fun i => FP.i2d (xi i))), (b0, aD q 16 (fun i => FP.i2d (z0 i))), (b1, aD q 16 (fun i => FP.i2d (z1 i))), (b2, aD q 16 fm)]) (w1 := []) hP hD [] [0, 1, 2, 3, 4, 5, 6, 7] rfl rfl (by decide) (by decide) hk9 hFc hP1 hD1
  generalize H1 = H at hP hS ⊢
  have hP : va_P G vwCl ([(o3, .inr (3, [.ref o1, .ref af, .int (nI nf)])), (af, aF q 6 (fun j => if j < nf then some (oa j) else none)), (o1, .inr (1, [.ref a1, .ref ax, .ref b0, .ref b1, .ref b2, .double mi, .int (nI tk)])), (a1, aI q 8 pa), (ax, aD q 8 (fun i => FP.i2d (xi i))), (b0, aD q 16 (fun i => FP.i2d (z0 i))), (b1, aD q 16 (fun i => FP.i2d (z1 i))), (b2, aD q 16 fm)] ++ TW nf (WQ q C)) H := hP
  have hD : va_D A ([(o3, .inr (3, [.ref o1, .ref af, .int (nI nf)])), (af, aF q 6 (fun j => if j < nf then some (oa j) else none)), (o1, .inr (1, [.ref a1, .ref ax, .ref b0, .ref b1, .ref b2, .double mi, .int (nI tk)])), (a1, aI q 8 pa), (ax, aD q 8 (fun i => FP.i2d (xi i))), (b0, aD q 16 (fun i => FP.i2d (z0 i))), (b1, aD q 16 (fun i => FP.i2d (z1 i))), (b2, aD q 16 fm)] ++ TW nf (WQ q C)) := hD
  obtain rfl : ri4 = 1 := hw.trans (if_pos ⟨nI_le (a := 1) (by omega) (by omega), nI_le (b := 100) (by omega) (by decide)⟩)
  refine lv_if_ne (tgt := 41) hx hb dX3_script_28 (by decide) (fun _ => ?_) (fun h => absurd h (by decide))
  refine lv_aload_n hx hb dX3_script_41 rfl (lv_at hl 0 rfl) ?_
  refine va_get (D := G) (ci := 3) (v := .ref o1) (C := RX3) (T := TX3) (N := 3) hx hb (dr_words hts s.drawn) in_X3_script_X3 hown hK hP 0 rfl rfl 0 (by decide) (dr_words hts s.drawn (.fieldLink RX3 10 "EchoBench" "samples" "LEchoBench$Samples;") (by decide +kernel)) (fun _ h9 => h9) rfl dX3_script_42 ?_
  refine va_getN (D := G) (ci := 1) (v := .int (nI tk)) (C := RX1) (T := TX1) (N := 7) hx hb (dr_words hts s.drawn) in_X3_script_X1 hown hK hP 2 rfl rfl 6 (by decide) (va_Nw.use rfl ((hNF.drawn s.drawn).1 (.fieldLinkNest RX3 91 "EchoBench$Samples" "taken" "I" "EchoBench") (by decide +kernel))) (fun _ h9 => h9) rfl dX3_script_45 ?_
  refine lv_iload_n hx hb dX3_script_48 rfl (lv_at hl 2 rfl) ?_
  refine lv_iadd hx hb dX3_script_49 ?_
  refine lv_topi (fun x7 ex7 => ?_)
  obtain rfl : x7 = (nI (tk + my)) := ex7.trans (nI_add tk my)
  refine lv_sipush (v := 2000) hx hb dX3_script_50 (by decide) ?_
  refine lv_icmp_le (tgt := 66) hx hb dX3_script_53 (by decide) (fun _ => ?_) (fun h => absurd (nI_le (b := 2000) (by omega) (by decide)) h)
  refine lv_iload_n hx hb dX3_script_66 rfl (lv_at hl 1 rfl) ?_
  refine lv_istore_n (lv' := [(3, .int (nI a)), (0, .ref o3), (1, .int (nI a)), (2, .int (nI my))]) hx hb dX3_script_67 rfl hl (by decide) rfl (fun ls hl => ?_)
  refine lv_iconst (v := 0) hx hb dX3_script_68 (by decide) ?_
  refine lv_istore (lv' := [(4, .int 0), (3, .int (nI a)), (0, .ref o3), (1, .int (nI a)), (2, .int (nI my))]) hx hb dX3_script_69 hl (by decide) rfl (fun ls hl => ?_)
  have LOOP : ∀ (k : Nat) (j : Nat) (x1 : Nat → Int32) (y0 : Nat → Int32) (y1 : Nat → Int32) (fn : Nat → UInt64) (mj : UInt64) (F : Nat → CFt), j + k = my → picC nf (tk + j) x1 y0 y1 fn mj F (bsCN hc pa a j bs0) → small x1 → (∀ g, g < nf → sameF (F g) (C g) ∧ okF (tk + j) (F g)) → ∀ (H : Heap) (locs : List Loc) (d0 : Drawn), s.drawn.sameBut d0 lw_cs → va_P G vwCl ([(o3, .inr (3, [.ref o1, .ref af, .int (nI nf)])), (af, aF q 6 (fun j => if j < nf then some (oa j) else none)), (o1, .inr (1, [.ref a1, .ref ax, .ref b0, .ref b1, .ref b2, .double mj, .int (nI (tk + j))])), (a1, aI q 8 pa), (ax, aD q 8 (fun i => FP.i2d (x1 i))), (b0, aD q 16 (fun i => FP.i2d (y0 i))), (b1, aD q 16 (fun i => FP.i2d (y1 i))), (b2, aD q 16 fn)] ++ TW nf (WQ q F)) H → va_D A ([(o3, .inr (3, [.ref o1, .ref af, .int (nI nf)])), (af, aF q 6 (fun j => if j < nf then some (oa j) else none)), (o1, .inr (1, [.ref a1, .ref ax, .ref b0, .ref b1, .ref b2, .double mj, .int (nI (tk + j))])), (a1, aI q 8 pa), (ax, aD q 8 (fun i => FP.i2d (x1 i))), (b0, aD q 16 (fun i => FP.i2d (y0 i))), (b1, aD q 16 (fun i => FP.i2d (y1 i))), (b2, aD q 16 fn)] ++ TW nf (WQ q F)) → va_S A s.heap H locs → ∀ (ls : Array Slot), lv_has ls 5 [(0, .ref o3), (1, .int (nI a)), (2, .int (nI my)), (3, .int (nI (scrA a j))), (4, .int (nI j))] → W p l e (headSpec wsX3_script ({ frames := 8, cells := 0, slots := 0, locals := 247 } : Jvm.Room)).room (s.setDrawn d0) m #[.ref o3, .int (nI a), .int (nI my)] below meth c H locs 0 0 (MQD lw_cs below (va_Qi (fun (r : Int32) (u : (Nat → Int32) × (Nat → Int32) × (Nat → Int32) × (Nat → UInt64) × UInt64 × (Nat → CFt)) => r = nI (scrA a my) ∧ picC nf (tk + my) u.1 u.2.1 u.2.2.1 u.2.2.2.1 u.2.2.2.2.1 u.2.2.2.2.2 (bsCN hc pa a my bs0) ∧ small u.1 ∧ ∀ g, g < nf → sameF (u.2.2.2.2.2 g) (C g) ∧ okF (tk + my) (u.2.2.2.2.2 g)) (fun (u : (Nat → Int32) × (Nat → Int32) × (Nat → Int32) × (Nat → UInt64) × UInt64 × (Nat → CFt)) t => EndA G A ([(o3, .inr (3, [.ref o1, .ref af, .int (nI nf)])), (af, aF q 6 (fun j => if j < nf then some (oa j) else none)), (o1, .inr (1, [.ref a1, .ref ax, .ref b0, .ref b1, .ref b2, .double u.2.2.2.2.1, .int (nI (tk + my))])), (a1, aI q 8 pa), (ax, aD q 8 (fun i => FP.i2d (u.1 i))), (b0, aD q 16 (fun i => FP.i2d (u.2.1 i))), (b1, aD q 16 (fun i => FP.i2d (u.2.2.1 i))), (b2, aD q 16 u.2.2.2.1)] ++ TW nf (WQ q u.2.2.2.2.2)) t) A) #[.ref o3, .int (nI a), .int (nI my)] s 0 0 A) (F0 m 71 ls []) := by
    intro k
    induction k with
    | zero =>
      intro j x1 y0 y1 fn mj F hj hpj hsx hFj H locs d0 hd0 hP hD hS ls hl
      refine lv_iload hx hb dX3_script_71 (lv_at hl 4 rfl) ?_
      refine lv_iload_n hx hb dX3_script_73 rfl (lv_at hl 2 rfl) ?_
      refine lv_icmp_ge (tgt := 106) hx hb dX3_script_74 (by decide) (fun _ => ?_) (fun h => absurd (nI_le (by omega) (by omega)) h)
      have ej : my = j := by omega
      subst ej
      refine lv_iload_n hx hb dX3_script_106 rfl (lv_at hl 3 rfl) ?_
      have hP9 := hP
      have hD9 := hD
      refine W.endD hd0 ?_
      exact W.iret (v := (nI (scrA a my))) hx hb hr (fun t ht hW => ⟨⟨(nI (scrA a my)), (x1, y0, y1, fn, mj, F), rfl, ⟨rfl, hpj, hsx, hFj⟩, by rw [ht]; exact hP9, hD9⟩, hS.F ht⟩) hS.2.2 dX3_script_107
    | succ k ih =>
      intro j x1 y0 y1 fn mj F hj hpj hsx hFj H locs d0 hd0 hP hD hS ls hl
      refine lv_iload hx hb dX3_script_71 (lv_at hl 4 rfl) ?_
      refine lv_iload_n hx hb dX3_script_73 rfl (lv_at hl 2 rfl) ?_
      refine lv_icmp_ge (tgt := 106) hx hb dX3_script_74 (by decide) (fun h => absurd h (nI_ge (by omega) (by omega))) (fun _ => ?_)
      have hsc := scrA_le ha j
      refine lv_bipush (v := 7) hx hb dX3_script_77 (by decide) ?_
      refine lv_iload_n hx hb dX3_script_79 rfl (lv_at hl 3 rfl) ?_
      refine lv_imul hx hb dX3_script_80 ?_
      refine lv_topi (fun x11 ex11 => ?_)
      obtain rfl : x11 = (nI (7 * (scrA a j))) := ex11.trans (nI_mul 7 (scrA a j))
      refine lv_sipush (v := 1001) hx hb dX3_script_81 (by decide) ?_
      refine lv_iadd hx hb dX3_script_84 ?_
      refine lv_topi (fun x12 ex12 => ?_)
      obtain rfl : x12 = (nI (7 * (scrA a j) + 1001)) := ex12.trans (nI_add (7 * (scrA a j)) 1001)
      refine lv_sipush (v := 2001) hx hb dX3_script_85 (by decide) ?_
      refine lv_irem hx hb dX3_script_88 (by decide) ?_
      refine lv_topi (fun x13 ex13 => ?_)
      obtain rfl : x13 = (nI (scrA a (j + 1))) := ex13.trans (nI_rem2001 (by omega))
      refine lv_istore_n (lv' := [(3, .int (nI (scrA a (j + 1)))), (0, .ref o3), (1, .int (nI a)), (2, .int (nI my)), (4, .int (nI j))]) hx hb dX3_script_89 rfl hl (by decide) rfl (fun ls hl => ?_)
      refine lv_aload_n hx hb dX3_script_90 rfl (lv_at hl 1 rfl) ?_
      refine lv_iload_n hx hb dX3_script_91 rfl (lv_at hl 0 rfl) ?_
      refine lv_sipush (v := 1000) hx hb dX3_script_92 (by decide) ?_
      refine lv_isub hx hb dX3_script_95 ?_
      refine lv_iconst (v := 0) hx hb dX3_script_96 (by decide) ?_
      have hPc := hP.part (cx := [(o3, .inr (3, [.ref o1, .ref af, .int (nI nf)])), (af, aF q 6 (fun j => if j < nf then some (oa j) else none)), (o1, .inr (1, [.ref a1, .ref ax, .ref b0, .ref b1, .ref b2, .double mj, .int (nI (tk + j))])), (a1, aI q 8 pa), (ax, aD q 8 (fun i => FP.i2d (x1 i))), (b0, aD q 16 (fun i => FP.i2d (y0 i))), (b1, aD q 16 (fun i => FP.i2d (y1 i))), (b2, aD q 16 fn)]) [0, 1, 2, 3, 4, 5, 6, 7] rfl
      have hDc := hD.part (cx := [(o3, .inr (3, [.ref o1, .ref af, .int (nI nf)])), (af, aF q 6 (fun j => if j < nf then some (oa j) else none)), (o1, .inr (1, [.ref a1, .ref ax, .ref b0, .ref b1, .ref b2, .double mj, .int (nI (tk + j))])), (a1, aI q 8 pa), (ax, aD q 8 (fun i => FP.i2d (x1 i))), (b0, aD q 16 (fun i => FP.i2d (y0 i))), (b1, aD q 16 (fun i => FP.i2d (y1 i))), (b2, aD q 16 fn)]) [0, 1, 2, 3, 4, 5, 6, 7] (by decide) rfl
      have hFc := va_freeP (cx := [(o3, .inr (3, [.ref o1, .ref af, .int (nI nf)])), (af, aF q 6 (fun j => if j < nf then some (oa j) else none)), (o1, .inr (1, [.ref a1, .ref ax, .ref b0, .ref b1, .ref b2, .double mj, .int (nI (tk + j))])), (a1, aI q 8 pa), (ax, aD q 8 (fun i => FP.i2d (x1 i))), (b0, aD q 16 (fun i => FP.i2d (y0 i))), (b1, aD q 16 (fun i => FP.i2d (y1 i))), (b2, aD q 16 fn)]) hD hS hA [0, 1, 2, 3, 4, 5, 6, 7] rfl
      refine va_callvD hd0 (va_runV_D (As := [.int ((nI (scrA a (j + 1))) - 1000), .int 0]) (rest := []) ⟨hx, hb, hml, hown, (dr_words hts d0)⟩ (m_X3_takeSample l G q H.size hH o3 o1 af nf a1 ax b0 b1 b2 (tk + j) mj pa x1 y0 y1 fn F oa ((nI (scrA a (j + 1))) - 1000) 0 hnf (fun g hg => (congrFun (hFj g hg).1.1 0).trans (hoa g hg)) (by omega) hsx (fun g hg => (hFj g hg).2) (scr_in (scrA_le ha (j + 1)))) (cwV 2 (dr_words hts d0) gX3_script_X3_takeSample rfl rfl rfl (by decide +kernel) ⟨Nat.le_of_ble_eq_true rfl, Nat.le_of_ble_eq_true rfl⟩) ⟨preW_blind, (va_recv hK hPc (ci := 3) (q0 := 0) rfl rfl), preW_start (s := s.setDrawn d0) hPc hK hDc (hNF.drawn d0)⟩ rfl rfl hl.1 rfl (lv_room (Nat.le_of_ble_eq_true rfl)) dX3_script_97 ⟨(Nat.zero_le _), (Nat.zero_le _)⟩) hS (fun q _ h => hFc q h) hFc (fun u9 t9 H1 locs ht9 hv9 hw hB9 hz9 hk9 hS du15 hu15 => ?_)
      obtain ⟨um, uF⟩ := u9
      obtain ⟨hP1, hD1⟩ := hB9
      rw [ht9] at hP1
      obtain ⟨hP, hD⟩ := va_joinP (wr := []) (rx := [(o3, .inr (3, [.ref o1, .ref af, .int (nI nf)])), (af, aF q 6 (fun j => if j < nf then some (oa j) else none)), (o1, .inr (1, [.ref a1, .ref ax, .ref b0, .ref b1, .ref b2, .double um, .int (nI (tk + j + 1))])), (a1, aI q 8 pa), (ax, aD q 8 (fun i => FP.i2d ((shX x1 ((nI (scrA a (j + 1))) - 1000)) i))), (b0, aD q 16 (fun i => FP.i2d ((vf_upd y0 ((tk + j) % 16) ((nI (scrA a (j + 1))) - 1000)) i))), (b1, aD q 16 (fun i => FP.i2d ((vf_upd y1 ((tk + j) % 16) (x1 0)) i))), (b2, aD q 16 (vf_upd fn ((tk + j) % 16) um))]) (pl1 := TW nf (WQ q uF)) hP hD [0, 1, 2, 3, 4, 5, 6, 7] [] rfl rfl (by decide) (by decide) hk9 hFc hP1 hD1
      generalize H1 = H at hP hS ⊢
      have hP : va_P G vwCl ([(o3, .inr (3, [.ref o1, .ref af, .int (nI nf)])), (af, aF q 6 (fun j => if j < nf then some (oa j) else none)), (o1, .inr (1, [.ref a1, .ref ax, .ref b0, .ref b1, .ref b2, .double um, .int (nI (tk + j + 1))])), (a1, aI q 8 pa), (ax, aD q 8 (fun i => FP.i2d ((shX x1 ((nI (scrA a (j + 1))) - 1000)) i))), (b0, aD q 16 (fun i => FP.i2d ((vf_upd y0 ((tk + j) % 16) ((nI (scrA a (j + 1))) - 1000)) i))), (b1, aD q 16 (fun i => FP.i2d ((vf_upd y1 ((tk + j) % 16) (x1 0)) i))), (b2, aD q 16 (vf_upd fn ((tk + j) % 16) um))] ++ TW nf (WQ q uF)) H := hP
      have hD : va_D A ([(o3, .inr (3, [.ref o1, .ref af, .int (nI nf)])), (af, aF q 6 (fun j => if j < nf then some (oa j) else none)), (o1, .inr (1, [.ref a1, .ref ax, .ref b0, .ref b1, .ref b2, .double um, .int (nI (tk + j + 1))])), (a1, aI q 8 pa), (ax, aD q 8 (fun i => FP.i2d ((shX x1 ((nI (scrA a (j + 1))) - 1000)) i))), (b0, aD q 16 (fun i => FP.i2d ((vf_upd y0 ((tk + j) % 16) ((nI (scrA a (j + 1))) - 1000)) i))), (b1, aD q 16 (fun i => FP.i2d ((vf_upd y1 ((tk + j) % 16) (x1 0)) i))), (b2, aD q 16 (vf_upd fn ((tk + j) % 16) um))] ++ TW nf (WQ q uF)) := hD
      have hs := hw
      refine lv_iinc (v := nI (j + 1)) (lv' := [(4, .int (nI (j + 1))), (3, .int (nI (scrA a (j + 1)))), (0, .ref o3), (1, .int (nI a)), (2, .int (nI my))]) hx hb dX3_script_100 hl (k := 4) rfl (nI_succ _).symm (by decide) rfl (fun ls hl => ?_)
      refine lv_goto (tgt := 71) hx hb dX3_script_103 (by decide) ?_
      exact ih (j + 1) (shX x1 ((nI (scrA a (j + 1))) - 1000)) (vf_upd y0 ((tk + j) % 16) ((nI (scrA a (j + 1))) - 1000)) (vf_upd y1 ((tk + j) % 16) (x1 0)) (vf_upd fn ((tk + j) % 16) um) um uF (by omega) (picC_step hpj hs.1 (fun g hg => (hs.2 g hg).2.1)) (small_shX hsx (scr_in (scrA_le ha (j + 1)))) (fun g hg => ⟨⟨(hs.2 g hg).1.1.trans (hFj g hg).1.1, (hs.2 g hg).1.2.1.trans (hFj g hg).1.2.1, (hs.2 g hg).1.2.2.trans (hFj g hg).1.2.2⟩, (hs.2 g hg).2.2⟩) _ _ _ hu15 (hP.part (cx := [(o3, .inr (3, [.ref o1, .ref af, .int (nI nf)])), (af, aF q 6 (fun j => if j < nf then some (oa j) else none)), (o1, .inr (1, [.ref a1, .ref ax, .ref b0, .ref b1, .ref b2, .double um, .int (nI (tk + j + 1))])), (a1, aI q 8 pa), (ax, aD q 8 (fun i => FP.i2d ((shX x1 ((nI (scrA a (j + 1))) - 1000)) i))), (b0, aD q 16 (fun i => FP.i2d ((vf_upd y0 ((tk + j) % 16) ((nI (scrA a (j + 1))) - 1000)) i))), (b1, aD q 16 (fun i => FP.i2d ((vf_upd y1 ((tk + j) % 16) (x1 0)) i))), (b2, aD q 16 (vf_upd fn ((tk + j) % 16) um))]) [0, 1, 2, 3, 4, 5, 6, 7] rfl) (hD.part (cx := [(o3, .inr (3, [.ref o1, .ref af, .int (nI nf)])), (af, aF q 6 (fun j => if j < nf then some (oa j) else none)), (o1, .inr (1, [.ref a1, .ref ax, .ref b0, .ref b1, .ref b2, .double um, .int (nI (tk + j + 1))])), (a1, aI q 8 pa), (ax, aD q 8 (fun i => FP.i2d ((shX x1 ((nI (scrA a (j + 1))) - 1000)) i))), (b0, aD q 16 (fun i => FP.i2d ((vf_upd y0 ((tk + j) % 16) ((nI (scrA a (j + 1))) - 1000)) i))), (b1, aD q 16 (fun i => FP.i2d ((vf_upd y1 ((tk + j) % 16) (x1 0)) i))), (b2, aD q 16 (vf_upd fn ((tk + j) % 16) um))]) [0, 1, 2, 3, 4, 5, 6, 7] (by decide) rfl) hS ls (lv_sub hl [2, 3, 4, 1, 0] rfl)
  exact LOOP my 0 xi z0 z1 fm mi C (by omega) hpic hx9 (fun g hg => ⟨⟨rfl, rfl, rfl⟩, hC g hg⟩) _ _ _ hd0 (hP.part (cx := [(o3, .inr (3, [.ref o1, .ref af, .int (nI nf)])), (af, aF q 6 (fun j => if j < nf then some (oa j) else none)), (o1, .inr (1, [.ref a1, .ref ax, .ref b0, .ref b1, .ref b2, .double mi, .int (nI tk)])), (a1, aI q 8 pa), (ax, aD q 8 (fun i => FP.i2d (xi i))), (b0, aD q 16 (fun i => FP.i2d (z0 i))), (b1, aD q 16 (fun i => FP.i2d (z1 i))), (b2, aD q 16 fm)]) [0, 1, 2, 3, 4, 5, 6, 7] rfl) (hD.part (cx := [(o3, .inr (3, [.ref o1, .ref af, .int (nI nf)])), (af, aF q 6 (fun j => if j < nf then some (oa j) else none)), (o1, .inr (1, [.ref a1, .ref ax, .ref b0, .ref b1, .ref b2, .double mi, .int (nI tk)])), (a1, aI q 8 pa), (ax, aD q 8 (fun i => FP.i2d (xi i))), (b0, aD q 16 (fun i => FP.i2d (z0 i))), (b1, aD q 16 (fun i => FP.i2d (z1 i))), (b2, aD q 16 fm)]) [0, 1, 2, 3, 4, 5, 6, 7] (by decide) rfl) hS ls (lv_sub hl [2, 3, 4, 1, 0] rfl)

theorem in_X3_best_X0 : ∀ w ∈ wsX00, w ∈ wsX3_best := by decide +kernel
theorem in_X3_best_X3 : ∀ w ∈ wsX30, w ∈ wsX3_best := by decide +kernel
set_option maxHeartbeats 4000000 in
set_option maxRecDepth 100000 in
/-- best -/
theorem m_X3_best (l : Launch) (G : va_G) (q : Nat → ClassId) (sz : Nat) (o3 o1 af nf a1 ax b0 b1 b2 tk : Nat) (mi : UInt64) (pa : Nat → Int32) (C : Nat → CFt) (oa : Nat → Nat) (hnf : nf ≤ 6) (hoa : ∀ g, g < nf → cAd (C g) 0 = oa g) (hC : ∀ g, g < nf → cNn (C g) ≤ 8) : MetD lw_cs l yX3_best wsX3_best ({ frames := 1, cells := 0, slots := 0, locals := 26 } : Jvm.Room) (PreW G q [.ref o3] ([(o3, .inr (3, [.ref o1, .ref af, .int (nI nf)])), (af, aF q 6 (fun j => if j < nf then some (oa j) else none)), (o1, .inr (1, [.ref a1, .ref ax, .ref b0, .ref b1, .ref b2, .double mi, .int (nI tk)])), (a1, aI q 8 pa)] ++ TW nf (WQ q C)) sz) (va_Qi (fun (r : Int32) (_ : Unit) => r = bstI (bstN (offC pa C) nf)) (fun (_ : Unit) t => EndA G (va_A ([(o3, .inr (3, [.ref o1, .ref af, .int (nI nf)])), (af, aF q 6 (fun j => if j < nf then some (oa j) else none)), (o1, .inr (1, [.ref a1, .ref ax, .ref b0, .ref b1, .ref b2, .double mi, .int (nI tk)])), (a1, aI q 8 pa)] ++ TW nf (WQ q C)) sz) ([(o3, .inr (3, [.ref o1, .ref af, .int (nI nf)])), (af, aF q 6 (fun j => if j < nf then some (oa j) else none)), (o1, .inr (1, [.ref a1, .ref ax, .ref b0, .ref b1, .ref b2, .double mi, .int (nI tk)])), (a1, aI q 8 pa)] ++ TW nf (WQ q C)) t) (va_A ([(o3, .inr (3, [.ref o1, .ref af, .int (nI nf)])), (af, aF q 6 (fun j => if j < nf then some (oa j) else none)), (o1, .inr (1, [.ref a1, .ref ax, .ref b0, .ref b1, .ref b2, .double mi, .int (nI tk)])), (a1, aI q 8 pa)] ++ TW nf (WQ q C)) sz)) 0 0 (va_A ([(o3, .inr (3, [.ref o1, .ref af, .int (nI nf)])), (af, aF q 6 (fun j => if j < nf then some (oa j) else none)), (o1, .inr (1, [.ref a1, .ref ax, .ref b0, .ref b1, .ref b2, .double mi, .int (nI tk)])), (a1, aI q 8 pa)] ++ TW nf (WQ q C)) sz) := by
  refine MetD.ofW (cc := cX3_best) (maxL := 8) (ret := (some .int)) (by decide +kernel) rfl ?_
  intro p e s m args below meth c s₁ B hml hv hd0
  obtain ⟨rfl, hsz, hP, hK, hD0, hNF⟩ := hv
  have hx := B.exec
  have hb := B.bytes
  have hr := B.returns
  have hts := atoms_spec (ws := wsX3_best) B.pre
  have hown : s.vm.findClass RX3 = some m.cls := findClass_of_methodNamed B.named
  have hlocks := B.notSynchronized
  subst hsz
  have hD := hD0.self (sz := s.heap.size)
  generalize hAe : va_A ([(o3, .inr (3, [.ref o1, .ref af, .int (nI nf)])), (af, aF q 6 (fun j => if j < nf then some (oa j) else none)), (o1, .inr (1, [.ref a1, .ref ax, .ref b0, .ref b1, .ref b2, .double mi, .int (nI tk)])), (a1, aI q 8 pa)] ++ TW nf (WQ q C)) s.heap.size = A at hD ⊢
  have hA : ∀ q : Nat, s.heap.size ≤ q → A q := fun q h => by rw [← hAe]; exact Or.inr h
  have hS : va_S A s.heap s.heap [] := va_S.rf
  have hP : va_P G vwCl ([(o3, .inr (3, [.ref o1, .ref af, .int (nI nf)])), (af, aF q 6 (fun j => if j < nf then some (oa j) else none)), (o1, .inr (1, [.ref a1, .ref ax, .ref b0, .ref b1, .ref b2, .double mi, .int (nI tk)])), (a1, aI q 8 pa)] ++ TW nf (WQ q C)) s.heap := hP
  have hl := lv_entry ([.ref o3]) (n := 8) (Nat.le_of_ble_eq_true rfl)
  rw [lg_entry_eq]
  generalize (lg_sl ([.ref o3]) ++ List.replicate (8 - (lg_sl ([.ref o3])).length) Slot.unset).toArray = ls at hl ⊢
  have hl : lv_has ls 8 [(0, .ref o3)] := hl
  refine lv_iconst (v := (-1)) hx hb dX3_best_0 (by decide) ?_
  refine lv_istore_n (lv' := [(1, .int (-1)), (0, .ref o3)]) hx hb dX3_best_1 rfl hl (by decide) rfl (fun ls hl => ?_)
  refine lv_dc0 hx hb dX3_best_2 ?_
  refine lv_dstore_n (lv' := [(2, .double 0), (1, .int (-1)), (0, .ref o3)]) hx hb dX3_best_3 rfl hl (by decide) rfl (fun ls hl => ?_)
  refine lv_iconst (v := 0) hx hb dX3_best_4 (by decide) ?_
  refine lv_istore (lv' := [(4, .int 0), (2, .double 0), (1, .int (-1)), (0, .ref o3)]) hx hb dX3_best_5 hl (by decide) rfl (fun ls hl => ?_)
  have LOOP : ∀ (k : Nat) (j : Nat) (fd : Int32) (ls1 : UInt64), j + k = nf → fd = bstI (bstN (offC pa C) j) → (∀ i, bstN (offC pa C) j = some i → dV ls1 = offC pa C i) → ∀ (H : Heap) (locs : List Loc) (d0 : Drawn), s.drawn.sameBut d0 lw_cs → va_P G vwCl ([(o3, .inr (3, [.ref o1, .ref af, .int (nI nf)])), (af, aF q 6 (fun j => if j < nf then some (oa j) else none)), (o1, .inr (1, [.ref a1, .ref ax, .ref b0, .ref b1, .ref b2, .double mi, .int (nI tk)])), (a1, aI q 8 pa)] ++ TW nf (WQ q C)) H → va_D A ([(o3, .inr (3, [.ref o1, .ref af, .int (nI nf)])), (af, aF q 6 (fun j => if j < nf then some (oa j) else none)), (o1, .inr (1, [.ref a1, .ref ax, .ref b0, .ref b1, .ref b2, .double mi, .int (nI tk)])), (a1, aI q 8 pa)] ++ TW nf (WQ q C)) → va_S A s.heap H locs → ∀ (ls : Array Slot), lv_has ls 8 [(0, .ref o3), (1, .int fd), (2, .double ls1), (4, .int (nI j))] → W p l e (headSpec wsX3_best ({ frames := 1, cells := 0, slots := 0, locals := 26 } : Jvm.Room)).room (s.setDrawn d0) m #[.ref o3] below meth c H locs 0 0 (MQD lw_cs below (va_Qi (fun (r : Int32) (_ : Unit) => r = bstI (bstN (offC pa C) nf)) (fun (_ : Unit) t => EndA G A ([(o3, .inr (3, [.ref o1, .ref af, .int (nI nf)])), (af, aF q 6 (fun j => if j < nf then some (oa j) else none)), (o1, .inr (1, [.ref a1, .ref ax, .ref b0, .ref b1, .ref b2, .double mi, .int (nI tk)])), (a1, aI q 8 pa)] ++ TW nf (WQ q C)) t) A) #[.ref o3] s 0 0 A) (F0 m 7 ls []) := by
    intro k
    induction k with
    | zero =>
      intro j fd ls1 hj hb9 hl9 H locs d0 hd0 hP hD hS ls hl
      refine lv_iload hx hb dX3_best_7 (lv_at hl 3 rfl) ?_
      refine lv_aload_n hx hb dX3_best_9 rfl (lv_at hl 0 rfl) ?_
      refine va_get (D := G) (ci := 3) (v := .int (nI nf)) (C := RX3) (T := TX3) (N := 3) hx hb (dr_words hts d0) in_X3_best_X3 hown hK hP 0 rfl rfl 2 (by decide) (dr_words hts d0 (.fieldLink RX3 22 "EchoBench" "filterCount" "I") (by decide +kernel)) (fun _ h9 => h9) rfl dX3_best_10 ?_
      refine lv_icmp_ge (tgt := 67) hx hb dX3_best_13 (by decide) (fun _ => ?_) (fun h => absurd (nI_le (by omega) (by omega)) h)
      refine lv_iload_n hx hb dX3_best_67 rfl (lv_at hl 1 rfl) ?_
      have hP9 := hP
      have hD9 := hD
      refine W.endD hd0 ?_
      exact W.iret (v := fd) hx hb hr (fun t ht hW => ⟨⟨fd, (), rfl, by dsimp only; rw [hb9, show j = nf by omega], by rw [ht]; exact hP9, hD9⟩, hS.F ht⟩) hS.2.2 dX3_best_68
    | succ k ih =>
      intro j fd ls1 hj hb9 hl9 H locs d0 hd0 hP hD hS ls hl
      refine lv_iload hx hb dX3_best_7 (lv_at hl 3 rfl) ?_
      refine lv_aload_n hx hb dX3_best_9 rfl (lv_at hl 0 rfl) ?_
      refine va_get (D := G) (ci := 3) (v := .int (nI nf)) (C := RX3) (T := TX3) (N := 3) hx hb (dr_words hts d0) in_X3_best_X3 hown hK hP 0 rfl rfl 2 (by decide) (dr_words hts d0 (.fieldLink RX3 22 "EchoBench" "filterCount" "I") (by decide +kernel)) (fun _ h9 => h9) rfl dX3_best_10 ?_
      refine lv_icmp_ge (tgt := 67) hx hb dX3_best_13 (by decide) (fun h => absurd h (nI_ge (by omega) (by omega))) (fun _ => ?_)
      refine lv_aload_n hx hb dX3_best_16 rfl (lv_at hl 0 rfl) ?_
      refine lv_iload hx hb dX3_best_17 (lv_at hl 3 rfl) ?_
      have hPc := hP.sub (ws' := [(o3, .inr (3, [.ref o1, .ref af, .int (nI nf)])), (af, aF q 6 (fun j => if j < nf then some (oa j) else none))]) [0, 1] rfl
      have hDc := hD.sub (ws' := [(o3, .inr (3, [.ref o1, .ref af, .int (nI nf)])), (af, aF q 6 (fun j => if j < nf then some (oa j) else none))]) [0, 1] (by decide) rfl
      have hFc := va_free (wc := [(o3, .inr (3, [.ref o1, .ref af, .int (nI nf)])), (af, aF q 6 (fun j => if j < nf then some (oa j) else none))]) hD hS hA [0, 1] rfl
      refine va_callq (va_runV (As := [.int (nI j)]) (rest := []) ⟨hx, hb, hml, hown, (dr_words hts d0)⟩ (m_X3_numbered l G q H.size o3 o1 af nf oa j hnf (by omega)) (cwV 1 (dr_words hts d0) gX3_best_X3_numbered rfl rfl rfl (by decide +kernel) ⟨Nat.le_of_ble_eq_true rfl, Nat.le_of_ble_eq_true rfl⟩) ⟨preW_blind, (va_recv hK hPc (ci := 3) (q0 := 0) rfl rfl), preW_start (s := s.setDrawn d0) hPc hK hDc (hNF.drawn d0)⟩ rfl rfl hl.1 rfl (lv_room (Nat.le_of_ble_eq_true rfl)) dX3_best_19 ⟨(Nat.zero_le _), (Nat.zero_le _)⟩) hS (fun q _ h => hFc q h) hFc (fun fr3 u9 t9 H1 locs ht9 hv9 hw hB9 hz9 hk9 hS => ?_)
      obtain ⟨⟩ := u9
      obtain ⟨hP1, hD1⟩ := hB9
      rw [ht9] at hP1
      obtain ⟨hP, hD⟩ := va_joinQ (wr := [(o1, .inr (1, [.ref a1, .ref ax, .ref b0, .ref b1, .ref b2, .double mi, .int (nI tk)])), (a1, aI q 8 pa)]) (w1 := [(o3, .inr (3, [.ref o1, .ref af, .int (nI nf)])), (af, aF q 6 (fun j => if j < nf then some (oa j) else none))]) hP hD [0, 1] [2, 3] rfl rfl (by decide) (by decide) hk9 hFc hP1 hD1
      generalize H1 = H at hP hS ⊢
      have hP : va_P G vwCl ([(o1, .inr (1, [.ref a1, .ref ax, .ref b0, .ref b1, .ref b2, .double mi, .int (nI tk)])), (a1, aI q 8 pa), (o3, .inr (3, [.ref o1, .ref af, .int (nI nf)])), (af, aF q 6 (fun j => if j < nf then some (oa j) else none))] ++ TW nf (WQ q C)) H := hP
      have hD : va_D A ([(o1, .inr (1, [.ref a1, .ref ax, .ref b0, .ref b1, .ref b2, .double mi, .int (nI tk)])), (a1, aI q 8 pa), (o3, .inr (3, [.ref o1, .ref af, .int (nI nf)])), (af, aF q 6 (fun j => if j < nf then some (oa j) else none))] ++ TW nf (WQ q C)) := hD
      obtain rfl : fr3 = some (cAd (C j) 0) := hw.trans (congrArg some (hoa j (by omega)).symm)
      have hP := vP_perm hP (TW_in (C := C) (i := j) (show j < nf by omega) [(o1, .inr (1, [.ref a1, .ref ax, .ref b0, .ref b1, .ref b2, .double mi, .int (nI tk)])), (a1, aI q 8 pa), (o3, .inr (3, [.ref o1, .ref af, .int (nI nf)])), (af, aF q 6 (fun j => if j < nf then some (oa j) else none))])
      have hD := vD_perm hD (TW_in (C := C) (i := j) (show j < nf by omega) [(o1, .inr (1, [.ref a1, .ref ax, .ref b0, .ref b1, .ref b2, .double mi, .int (nI tk)])), (a1, aI q 8 pa), (o3, .inr (3, [.ref o1, .ref af, .int (nI nf)])), (af, aF q 6 (fun j => if j < nf then some (oa j) else none))])
      have hP : va_P G vwCl ([(o1, .inr (1, [.ref a1, .ref ax, .ref b0, .ref b1, .ref b2, .double mi, .int (nI tk)])), (a1, aI q 8 pa), (o3, .inr (3, [.ref o1, .ref af, .int (nI nf)])), (af, aF q 6 (fun j => if j < nf then some (oa j) else none)), ((cAd (C j) 0), .inr (0, [.int (cIn (C j) 0), .ref (cAd (C j) 1), .ref (cAd (C j) 2), (sqV (C j)), .int (cIn (C j) 1), .int (cIn (C j) 2), .int (cIn (C j) 3), .int (cIn (C j) 4), .double (cDb (C j) 0), .double (cDb (C j) 1), .int (cIn (C j) 5), .int (cIn (C j) 6), .int (cIn (C j) 7)])), ((cAd (C j) 1), aD q (cNn (C j)) (cAr (C j) 0)), ((cAd (C j) 2), aD q 16 (cAr (C j) 1))] ++ (sqX q (C j) ++ TWx nf j (WQ q C))) H := hP
      have hD : va_D A ([(o1, .inr (1, [.ref a1, .ref ax, .ref b0, .ref b1, .ref b2, .double mi, .int (nI tk)])), (a1, aI q 8 pa), (o3, .inr (3, [.ref o1, .ref af, .int (nI nf)])), (af, aF q 6 (fun j => if j < nf then some (oa j) else none)), ((cAd (C j) 0), .inr (0, [.int (cIn (C j) 0), .ref (cAd (C j) 1), .ref (cAd (C j) 2), (sqV (C j)), .int (cIn (C j) 1), .int (cIn (C j) 2), .int (cIn (C j) 3), .int (cIn (C j) 4), .double (cDb (C j) 0), .double (cDb (C j) 1), .int (cIn (C j) 5), .int (cIn (C j) 6), .int (cIn (C j) 7)])), ((cAd (C j) 1), aD q (cNn (C j)) (cAr (C j) 0)), ((cAd (C j) 2), aD q 16 (cAr (C j) 1))] ++ (sqX q (C j) ++ TWx nf j (WQ q C))) := hD
      refine lv_astore (lv' := [(5, .ref (cAd (C j) 0)), (0, .ref o3), (1, .int fd), (2, .double ls1), (4, .int (nI j))]) hx hb dX3_best_22 hl (by decide) rfl (fun ls hl => ?_)
      refine lv_aload hx hb dX3_best_24 (lv_at hl 0 rfl) ?_
      refine lv_ifnull hx hb dX3_best_26 ?_
      refine lv_aload_n hx hb dX3_best_29 rfl (lv_at hl 1 rfl) ?_
      refine va_get (D := G) (ci := 3) (v := .ref o1) (C := RX3) (T := TX3) (N := 3) hx hb (dr_words hts d0) in_X3_best_X3 hown hK hP 2 rfl rfl 0 (by decide) (dr_words hts d0 (.fieldLink RX3 10 "EchoBench" "samples" "LEchoBench$Samples;") (by decide +kernel)) (fun _ h9 => h9) rfl dX3_best_30 ?_
      refine lv_aload hx hb dX3_best_33 (lv_at hl 0 rfl) ?_
      refine va_getN (D := G) (ci := 0) (v := .ref (cAd (C j) 1)) (C := RX0) (T := TX0) (N := 13) hx hb (dr_words hts d0) in_X3_best_X0 hown hK hP 4 rfl rfl 1 (by decide) (va_Nw.use rfl ((hNF.drawn d0).1 (.fieldLinkNest RX3 104 "EchoBench$Filter" "weights" "[D" "EchoBench") (by decide +kernel))) (fun _ h9 => h9) rfl dX3_best_35 ?_
      have hPc := hP.sub (ws' := [(o1, .inr (1, [.ref a1, .ref ax, .ref b0, .ref b1, .ref b2, .double mi, .int (nI tk)])), (a1, aI q 8 pa), ((cAd (C j) 1), aD q (cNn (C j)) (cAr (C j) 0))]) [0, 1, 5] rfl
      have hDc := hD.sub (ws' := [(o1, .inr (1, [.ref a1, .ref ax, .ref b0, .ref b1, .ref b2, .double mi, .int (nI tk)])), (a1, aI q 8 pa), ((cAd (C j) 1), aD q (cNn (C j)) (cAr (C j) 0))]) [0, 1, 5] (by decide) rfl
      have hFc := va_free (wc := [(o1, .inr (1, [.ref a1, .ref ax, .ref b0, .ref b1, .ref b2, .double mi, .int (nI tk)])), (a1, aI q 8 pa), ((cAd (C j) 1), aD q (cNn (C j)) (cAr (C j) 0))]) hD hS hA [0, 1, 5] rfl
      refine va_calldD hd0 (va_runVN_D (As := [.ref (cAd (C j) 1)]) (rest := []) ⟨hx, hb, hml, hown, (dr_words hts d0)⟩ (m_X1_offness l G q H.size o1 a1 ax b0 b1 b2 tk (cAd (C j) 1) (cNn (C j)) mi pa (cAr (C j) 0) (hC j (by omega))) ⟨va_cnB 1 (dr_words hts d0) gX3_best_X1_offness_n117 rfl rfl rfl ((hNF.drawn d0).1 (.methodLinkNest RX3 117 yX1_offness "EchoBench") (by decide +kernel)) (dr_words hts d0 (.initialized RX1) (by decide +kernel)) (by decide +kernel) ⟨Nat.le_of_ble_eq_true rfl, Nat.le_of_ble_eq_true rfl⟩, (dr_words hts d0 (.instanceMethod yX1_offness) (by decide +kernel)), (dr_words hts d0 (.selects RX1 yX1_offness yX1_offness) (by decide +kernel))⟩ ⟨preW_blind, (va_recv hK hPc (ci := 1) (q0 := 0) rfl rfl), preW_start (s := s.setDrawn d0) hPc hK hDc (hNF.drawn d0)⟩ rfl rfl hl.1 rfl (lv_room (Nat.le_of_ble_eq_true rfl)) dX3_best_38 ⟨(Nat.zero_le _), (Nat.zero_le _)⟩) hS (fun q _ h => hFc q h) hFc (fun ro u9 t9 H1 locs ht9 hv9 hw hB9 hz9 hk9 hS du5 hu5 => ?_)
      obtain ⟨⟩ := u9
      obtain ⟨hP1, hD1⟩ := hB9
      rw [ht9] at hP1
      obtain ⟨hP, hD⟩ := va_joinQ (wr := [(o3, .inr (3, [.ref o1, .ref af, .int (nI nf)])), (af, aF q 6 (fun j => if j < nf then some (oa j) else none)), ((cAd (C j) 0), .inr (0, [.int (cIn (C j) 0), .ref (cAd (C j) 1), .ref (cAd (C j) 2), (sqV (C j)), .int (cIn (C j) 1), .int (cIn (C j) 2), .int (cIn (C j) 3), .int (cIn (C j) 4), .double (cDb (C j) 0), .double (cDb (C j) 1), .int (cIn (C j) 5), .int (cIn (C j) 6), .int (cIn (C j) 7)])), ((cAd (C j) 2), aD q 16 (cAr (C j) 1))]) (w1 := [(o1, .inr (1, [.ref a1, .ref ax, .ref b0, .ref b1, .ref b2, .double mi, .int (nI tk)])), (a1, aI q 8 pa), ((cAd (C j) 1), aD q (cNn (C j)) (cAr (C j) 0))]) hP hD [0, 1, 5] [2, 3, 4, 6] rfl rfl (by decide) (by decide) hk9 hFc hP1 hD1
      generalize H1 = H at hP hS ⊢
      have hP : va_P G vwCl ([(o3, .inr (3, [.ref o1, .ref af, .int (nI nf)])), (af, aF q 6 (fun j => if j < nf then some (oa j) else none)), ((cAd (C j) 0), .inr (0, [.int (cIn (C j) 0), .ref (cAd (C j) 1), .ref (cAd (C j) 2), (sqV (C j)), .int (cIn (C j) 1), .int (cIn (C j) 2), .int (cIn (C j) 3), .int (cIn (C j) 4), .double (cDb (C j) 0), .double (cDb (C j) 1), .int (cIn (C j) 5), .int (cIn (C j) 6), .int (cIn (C j) 7)])), ((cAd (C j) 2), aD q 16 (cAr (C j) 1)), (o1, .inr (1, [.ref a1, .ref ax, .ref b0, .ref b1, .ref b2, .double mi, .int (nI tk)])), (a1, aI q 8 pa), ((cAd (C j) 1), aD q (cNn (C j)) (cAr (C j) 0))] ++ (sqX q (C j) ++ TWx nf j (WQ q C))) H := hP
      have hD : va_D A ([(o3, .inr (3, [.ref o1, .ref af, .int (nI nf)])), (af, aF q 6 (fun j => if j < nf then some (oa j) else none)), ((cAd (C j) 0), .inr (0, [.int (cIn (C j) 0), .ref (cAd (C j) 1), .ref (cAd (C j) 2), (sqV (C j)), .int (cIn (C j) 1), .int (cIn (C j) 2), .int (cIn (C j) 3), .int (cIn (C j) 4), .double (cDb (C j) 0), .double (cDb (C j) 1), .int (cIn (C j) 5), .int (cIn (C j) 6), .int (cIn (C j) 7)])), ((cAd (C j) 2), aD q 16 (cAr (C j) 1)), (o1, .inr (1, [.ref a1, .ref ax, .ref b0, .ref b1, .ref b2, .double mi, .int (nI tk)])), (a1, aI q 8 pa), ((cAd (C j) 1), aD q (cNn (C j)) (cAr (C j) 0))] ++ (sqX q (C j) ++ TWx nf j (WQ q C))) := hD
      have hro : dV ro = offC pa C j := hw
      have hP := hP.part (cx := [(o3, .inr (3, [.ref o1, .ref af, .int (nI nf)])), (af, aF q 6 (fun j => if j < nf then some (oa j) else none)), (o1, .inr (1, [.ref a1, .ref ax, .ref b0, .ref b1, .ref b2, .double mi, .int (nI tk)])), (a1, aI q 8 pa), ((cAd (C j) 0), .inr (0, [.int (cIn (C j) 0), .ref (cAd (C j) 1), .ref (cAd (C j) 2), (sqV (C j)), .int (cIn (C j) 1), .int (cIn (C j) 2), .int (cIn (C j) 3), .int (cIn (C j) 4), .double (cDb (C j) 0), .double (cDb (C j) 1), .int (cIn (C j) 5), .int (cIn (C j) 6), .int (cIn (C j) 7)])), ((cAd (C j) 1), aD q (cNn (C j)) (cAr (C j) 0)), ((cAd (C j) 2), aD q 16 (cAr (C j) 1))]) [0, 1, 4, 5, 2, 6, 3] rfl
      have hD := hD.part (cx := [(o3, .inr (3, [.ref o1, .ref af, .int (nI nf)])), (af, aF q 6 (fun j => if j < nf then some (oa j) else none)), (o1, .inr (1, [.ref a1, .ref ax, .ref b0, .ref b1, .ref b2, .double mi, .int (nI tk)])), (a1, aI q 8 pa), ((cAd (C j) 0), .inr (0, [.int (cIn (C j) 0), .ref (cAd (C j) 1), .ref (cAd (C j) 2), (sqV (C j)), .int (cIn (C j) 1), .int (cIn (C j) 2), .int (cIn (C j) 3), .int (cIn (C j) 4), .double (cDb (C j) 0), .double (cDb (C j) 1), .int (cIn (C j) 5), .int (cIn (C j) 6), .int (cIn (C j) 7)])), ((cAd (C j) 1), aD q (cNn (C j)) (cAr (C j) 0)), ((cAd (C j) 2), aD q 16 (cAr (C j) 1))]) [0, 1, 4, 5, 2, 6, 3] (by decide) rfl
      have hP := vP_perm (W := [(o3, .inr (3, [.ref o1, .ref af, .int (nI nf)])), (af, aF q 6 (fun j => if j < nf then some (oa j) else none)), (o1, .inr (1, [.ref a1, .ref ax, .ref b0, .ref b1, .ref b2, .double mi, .int (nI tk)])), (a1, aI q 8 pa)] ++ TW nf (WQ q (vf_upd C j (C j)))) hP (TW_out (show j < nf by omega) [(o3, .inr (3, [.ref o1, .ref af, .int (nI nf)])), (af, aF q 6 (fun j => if j < nf then some (oa j) else none)), (o1, .inr (1, [.ref a1, .ref ax, .ref b0, .ref b1, .ref b2, .double mi, .int (nI tk)])), (a1, aI q 8 pa)])
      have hD := vD_perm (W := [(o3, .inr (3, [.ref o1, .ref af, .int (nI nf)])), (af, aF q 6 (fun j => if j < nf then some (oa j) else none)), (o1, .inr (1, [.ref a1, .ref ax, .ref b0, .ref b1, .ref b2, .double mi, .int (nI tk)])), (a1, aI q 8 pa)] ++ TW nf (WQ q (vf_upd C j (C j)))) hD (TW_out (show j < nf by omega) [(o3, .inr (3, [.ref o1, .ref af, .int (nI nf)])), (af, aF q 6 (fun j => if j < nf then some (oa j) else none)), (o1, .inr (1, [.ref a1, .ref ax, .ref b0, .ref b1, .ref b2, .double mi, .int (nI tk)])), (a1, aI q 8 pa)])
      have hP : va_P G vwCl ([(o3, .inr (3, [.ref o1, .ref af, .int (nI nf)])), (af, aF q 6 (fun j => if j < nf then some (oa j) else none)), (o1, .inr (1, [.ref a1, .ref ax, .ref b0, .ref b1, .ref b2, .double mi, .int (nI tk)])), (a1, aI q 8 pa)] ++ TW nf (WQ q (vf_upd C j (C j)))) H := hP
      have hD : va_D A ([(o3, .inr (3, [.ref o1, .ref af, .int (nI nf)])), (af, aF q 6 (fun j => if j < nf then some (oa j) else none)), (o1, .inr (1, [.ref a1, .ref ax, .ref b0, .ref b1, .ref b2, .double mi, .int (nI tk)])), (a1, aI q 8 pa)] ++ TW nf (WQ q (vf_upd C j (C j)))) := hD
      rw [vf_id] at hP hD
      have hP : va_P G vwCl ([(o3, .inr (3, [.ref o1, .ref af, .int (nI nf)])), (af, aF q 6 (fun j => if j < nf then some (oa j) else none)), (o1, .inr (1, [.ref a1, .ref ax, .ref b0, .ref b1, .ref b2, .double mi, .int (nI tk)])), (a1, aI q 8 pa)] ++ TW nf (WQ q C)) H := hP
      have hD : va_D A ([(o3, .inr (3, [.ref o1, .ref af, .int (nI nf)])), (af, aF q 6 (fun j => if j < nf then some (oa j) else none)), (o1, .inr (1, [.ref a1, .ref ax, .ref b0, .ref b1, .ref b2, .double mi, .int (nI tk)])), (a1, aI q 8 pa)] ++ TW nf (WQ q C)) := hD
      refine lv_dstore (lv' := [(6, .double ro), (5, .ref (cAd (C j) 0)), (0, .ref o3), (1, .int fd), (2, .double ls1), (4, .int (nI j))]) hx hb dX3_best_41 hl (by decide) rfl (fun ls hl => ?_)
      refine lv_iload_n hx hb dX3_best_43 rfl (lv_at hl 3 rfl) ?_
      refine lv_iconst (v := (-1)) hx hb dX3_best_44 (by decide) ?_
      rcases hbs : bstN (offC pa C) j with _ | i
      · skip
        rw [hbs] at hb9
        refine lv_icmp_eq (tgt := 55) hx hb dX3_best_45 (by decide) (fun _ => ?_) (fun h => absurd hb9 h)
        refine lv_iload hx hb dX3_best_55 (lv_at hl 5 rfl) ?_
        refine lv_istore_n (lv' := [(1, .int (nI j)), (6, .double ro), (5, .ref (cAd (C j) 0)), (0, .ref o3), (2, .double ls1), (4, .int (nI j))]) hx hb dX3_best_57 rfl hl (by decide) rfl (fun ls hl => ?_)
        refine lv_dload hx hb dX3_best_58 (lv_at hl 1 rfl) ?_
        refine lv_dstore_n (lv' := [(2, .double ro), (1, .int (nI j)), (6, .double ro), (5, .ref (cAd (C j) 0)), (0, .ref o3), (4, .int (nI j))]) hx hb dX3_best_60 rfl hl (by decide) rfl (fun ls hl => ?_)
        refine lv_iinc (v := nI (j + 1)) (lv' := [(4, .int (nI (j + 1))), (2, .double ro), (1, .int (nI j)), (6, .double ro), (5, .ref (cAd (C j) 0)), (0, .ref o3)]) hx hb dX3_best_61 hl (k := 5) rfl (nI_succ _).symm (by decide) rfl (fun ls hl => ?_)
        refine lv_goto (tgt := 7) hx hb dX3_best_64 (by decide) ?_
        exact ih (j + 1) (nI j) ro (by omega) (by unfold bstN; rw [hbs]; rfl) (fun i hi => by unfold bstN at hi; rw [hbs] at hi; injection hi with hi; rw [← hi]; exact hro) _ _ _ hu5 (hP.part (cx := [(o3, .inr (3, [.ref o1, .ref af, .int (nI nf)])), (af, aF q 6 (fun j => if j < nf then some (oa j) else none)), (o1, .inr (1, [.ref a1, .ref ax, .ref b0, .ref b1, .ref b2, .double mi, .int (nI tk)])), (a1, aI q 8 pa)]) [0, 1, 2, 3] rfl) (hD.part (cx := [(o3, .inr (3, [.ref o1, .ref af, .int (nI nf)])), (af, aF q 6 (fun j => if j < nf then some (oa j) else none)), (o1, .inr (1, [.ref a1, .ref ax, .ref b0, .ref b1, .ref b2, .double mi, .int (nI tk)])), (a1, aI q 8 pa)]) [0, 1, 2, 3] (by decide) rfl) hS ls (lv_sub hl [5, 2, 1, 0] rfl)
      have hle := hl9 i hbs
      rw [hbs] at hb9
      have hij := bstN_lt hbs
      obtain rfl : fd = nI i := hb9
      refine lv_icmp_eq (tgt := 55) hx hb dX3_best_45 (by decide) (fun h => absurd h (fun h => absurd (show (0 : Int32) ≤ -1 from h ▸ nI_pos' (by omega)) (by decide))) (fun _ => ?_)
      refine lv_dload hx hb dX3_best_48 (lv_at hl 0 rfl) ?_
      refine lv_dload_n hx hb dX3_best_50 rfl (lv_at hl 4 rfl) ?_
      refine lv_dcmp hx hb dX3_best_51 ?_
      refine lv_if_ge (tgt := 61) hx hb dX3_best_52 (by decide) (fun c1 => ?_) (fun c1 => ?_)
      · skip
        rw [cg_ge, dcmp_fO, hro, hle] at c1
        refine lv_iinc (v := nI (j + 1)) (lv' := [(4, .int (nI (j + 1))), (6, .double ro), (5, .ref (cAd (C j) 0)), (0, .ref o3), (1, .int (nI i)), (2, .double ls1)]) hx hb dX3_best_61 hl (k := 5) rfl (nI_succ _).symm (by decide) rfl (fun ls hl => ?_)
        refine lv_goto (tgt := 7) hx hb dX3_best_64 (by decide) ?_
        exact ih (j + 1) (nI i) ls1 (by omega) (by unfold bstN; rw [hbs]; dsimp only; rw [if_neg c1]; rfl) (fun i1 hi => by unfold bstN at hi; rw [hbs] at hi; dsimp only at hi; rw [if_neg c1] at hi; injection hi with hi; rw [← hi]; exact hle) _ _ _ hu5 (hP.part (cx := [(o3, .inr (3, [.ref o1, .ref af, .int (nI nf)])), (af, aF q 6 (fun j => if j < nf then some (oa j) else none)), (o1, .inr (1, [.ref a1, .ref ax, .ref b0, .ref b1, .ref b2, .double mi, .int (nI tk)])), (a1, aI q 8 pa)]) [0, 1, 2, 3] rfl) (hD.part (cx := [(o3, .inr (3, [.ref o1, .ref af, .int (nI nf)])), (af, aF q 6 (fun j => if j < nf then some (oa j) else none)), (o1, .inr (1, [.ref a1, .ref ax, .ref b0, .ref b1, .ref b2, .double mi, .int (nI tk)])), (a1, aI q 8 pa)]) [0, 1, 2, 3] (by decide) rfl) hS ls (lv_sub hl [3, 4, 5, 0] rfl)
      · skip
        rw [cg_ge, dcmp_fO, hro, hle, Classical.not_not] at c1
        refine lv_iload hx hb dX3_best_55 (lv_at hl 5 rfl) ?_
        refine lv_istore_n (lv' := [(1, .int (nI j)), (6, .double ro), (5, .ref (cAd (C j) 0)), (0, .ref o3), (2, .double ls1), (4, .int (nI j))]) hx hb dX3_best_57 rfl hl (by decide) rfl (fun ls hl => ?_)
        refine lv_dload hx hb dX3_best_58 (lv_at hl 1 rfl) ?_
        refine lv_dstore_n (lv' := [(2, .double ro), (1, .int (nI j)), (6, .double ro), (5, .ref (cAd (C j) 0)), (0, .ref o3), (4, .int (nI j))]) hx hb dX3_best_60 rfl hl (by decide) rfl (fun ls hl => ?_)
        refine lv_iinc (v := nI (j + 1)) (lv' := [(4, .int (nI (j + 1))), (2, .double ro), (1, .int (nI j)), (6, .double ro), (5, .ref (cAd (C j) 0)), (0, .ref o3)]) hx hb dX3_best_61 hl (k := 5) rfl (nI_succ _).symm (by decide) rfl (fun ls hl => ?_)
        refine lv_goto (tgt := 7) hx hb dX3_best_64 (by decide) ?_
        exact ih (j + 1) (nI j) ro (by omega) (by unfold bstN; rw [hbs]; dsimp only; rw [if_pos c1]; rfl) (fun i1 hi => by unfold bstN at hi; rw [hbs] at hi; dsimp only at hi; rw [if_pos c1] at hi; injection hi with hi; rw [← hi]; exact hro) _ _ _ hu5 (hP.part (cx := [(o3, .inr (3, [.ref o1, .ref af, .int (nI nf)])), (af, aF q 6 (fun j => if j < nf then some (oa j) else none)), (o1, .inr (1, [.ref a1, .ref ax, .ref b0, .ref b1, .ref b2, .double mi, .int (nI tk)])), (a1, aI q 8 pa)]) [0, 1, 2, 3] rfl) (hD.part (cx := [(o3, .inr (3, [.ref o1, .ref af, .int (nI nf)])), (af, aF q 6 (fun j => if j < nf then some (oa j) else none)), (o1, .inr (1, [.ref a1, .ref ax, .ref b0, .ref b1, .ref b2, .double mi, .int (nI tk)])), (a1, aI q 8 pa)]) [0, 1, 2, 3] (by decide) rfl) hS ls (lv_sub hl [5, 2, 1, 0] rfl)
  exact LOOP nf 0 (-1) 0 (by omega) rfl (fun i hi => by cases hi) _ _ _ hd0 (hP.part (cx := [(o3, .inr (3, [.ref o1, .ref af, .int (nI nf)])), (af, aF q 6 (fun j => if j < nf then some (oa j) else none)), (o1, .inr (1, [.ref a1, .ref ax, .ref b0, .ref b1, .ref b2, .double mi, .int (nI tk)])), (a1, aI q 8 pa)]) [0, 1, 2, 3] rfl) (hD.part (cx := [(o3, .inr (3, [.ref o1, .ref af, .int (nI nf)])), (af, aF q 6 (fun j => if j < nf then some (oa j) else none)), (o1, .inr (1, [.ref a1, .ref ax, .ref b0, .ref b1, .ref b2, .double mi, .int (nI tk)])), (a1, aI q 8 pa)]) [0, 1, 2, 3] (by decide) rfl) hS ls (lv_sub hl [3, 2, 1, 0] rfl)
