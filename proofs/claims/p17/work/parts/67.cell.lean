/-! ===== the law's cell: an int of the script, or one made of its place ===== -/
theorem va_sldJ {p : Program} {l : Launch} {e : Env} {R : Room} {s : State} {m : MethodId} {args : Array Value} {below : List Frame} {meth : Method} {c : Code} {H : Heap} {locs : List Loc} {cells slots : Nat} {Q : State → Prop} {cc : ByteArray} {pc : Nat} {ls : Array Slot} {rest : List Value} {A : Nat → Prop} {H0 : Heap}
    (hexec : p.tables.exec = Jvm.exec) (hb : c.code = cc) {b L : Nat} {xs : Nat → Int32} (hX : va_X b L xs s H0) (hbl : b < H0.size) (hbA : ¬ A b) (hS : va_S A H0 H locs) {j : Nat} {v : Int32} (hj : j < L) (hL : L ≤ 2048) (hv : xs j = v) (hdg : decode cc pc = .ok (.iaload, 1))
    (kk : W p l e R s m args below meth c H locs cells slots Q (F0 m (pc + 1) ls (.int v :: rest))) : W p l e R s m args below meth c H locs cells slots Q (F0 m pc ls (.int (nI j) :: .ref b :: rest)) :=
  va_sld hexec hb hX hbl hbA hS (nI_in hj (by omega)) hdg (by rw [nI_clamp (by omega), hv]; exact kk)
def PreC (G : va_G) (q : Nat → ClassId) (av : List Value) (b L : Nat) (xs : Nat → Int32) (sz : Nat) : Array Value → State → Prop := fun a U => PreW G q av [] sz a U ∧ va_X b L xs U U.heap ∧ b < U.heap.size
theorem preC_blind {G : va_G} {q : Nat → ClassId} {av : List Value} {b L : Nat} {xs : Nat → Int32} {sz : Nat} : FrameBlind (PreC G q av b L xs sz) := fun a U g mk h =>
  ⟨preW_blind a U g mk h.1, h.2.1.moved (Vm.Alike.refl U.vm), h.2.2⟩
theorem preC_start {G : va_G} {q : Nat → ClassId} {av : List Value} {b L : Nat} {xs : Nat → Int32} {A : Nat → Prop} {s : State} {H : Heap} {locs : List Loc} (hX : va_X b L xs s s.heap) (hbl : b < s.heap.size) (hbA : ¬ A b) (hS : va_S A s.heap H locs) (hP : va_P G vwCl [] H) (hK : va_K G vwCl (tyA q) s) (hD : va_D A []) (hNF : NF s) : ∀ U : State, U.heap = H → s.WarmedH U.vm → PreC G q av b L xs H.size av.toArray U := fun U hU hW =>
  ⟨preW_start hP hK hD hNF U hU hW, by rw [hU]; exact (hX.kept (hS.2.1 b hbl hbA)).moved hW.alike, by rw [hU]; exact Nat.lt_of_lt_of_le hbl hS.1⟩
set_option maxHeartbeats 4000000 in
set_option maxRecDepth 100000 in
/-- cell -/
theorem m_L_cell (l : Launch) (G : va_G) (q : Nat → ClassId) (sz : Nat) (b L : Nat) (xs : Nat → Int32) (kx : Nat) (hL : L ≤ 260) (hk : kx < 100) : Met l yL_cell wsL_cell ({ frames := 0, cells := 0, slots := 0, locals := 0 } : Jvm.Room) (PreC G q [.ref b, .int (nI kx)] b L xs sz) (va_Qi (fun (_ : Int32) (_ : Unit) => True) (fun (_ : Unit) t => EndA G (va_A [] sz) [] t) (va_A [] sz)) 0 0 (va_A [] sz) := by
  refine Met.ofW (cc := cL_cell) (maxL := 2) (ret := (some .int)) (by decide +kernel) rfl ?_
  intro p e s m args below meth c s₁ B hml hv
  obtain ⟨⟨rfl, hsz, hP, hK, hD0, hNF⟩, hX, hbl⟩ := hv
  have hx := B.exec
  have hb := B.bytes
  have hr := B.returns
  have hts := atoms_spec (ws := wsL_cell) B.pre
  have hown : s.vm.findClass RL = some m.cls := findClass_of_methodNamed B.named
  have hlocks := B.notSynchronized
  subst hsz
  have hD := hD0.self (sz := s.heap.size)
  generalize hAe : va_A [] s.heap.size = A at hD ⊢
  have hA : ∀ q : Nat, s.heap.size ≤ q → A q := fun q h => by rw [← hAe]; exact Or.inr h
  have hS : va_S A s.heap s.heap [] := va_S.rf
  have hP : va_P G vwCl [] s.heap := hP
  have hl := lv_entry ([.ref b, .int (nI kx)]) (n := 2) (Nat.le_of_ble_eq_true rfl)
  rw [lg_entry_eq]
  generalize (lg_sl ([.ref b, .int (nI kx)]) ++ List.replicate (2 - (lg_sl ([.ref b, .int (nI kx)])).length) Slot.unset).toArray = ls at hl ⊢
  have hl : lv_has ls 2 [(0, .ref b), (1, .int (nI kx))] := hl
  have hbA : ¬ A b := fun h => by rw [← hAe] at h; rcases vA_of h with ⟨x, hx9, _⟩ | h9; (cases hx9); omega
  refine lv_iload_n hx hb dL_cell_0 rfl (lv_at hl 1 rfl) ?_
  refine lv_aload_n hx hb dL_cell_1 rfl (lv_at hl 0 rfl) ?_
  refine va_slen hx hb hX hbl hbA hS dL_cell_2 ?_
  by_cases hkl : kx < L
  · skip
    refine lv_icmp_ge (tgt := 12) hx hb dL_cell_3 (by decide) (fun h => absurd h (Int32.not_le.mpr ((nI_ltI (by omega) (by omega)).mpr hkl))) (fun _ => ?_)
    refine lv_aload_n hx hb dL_cell_6 rfl (lv_at hl 0 rfl) ?_
    refine lv_iload_n hx hb dL_cell_7 rfl (lv_at hl 1 rfl) ?_
    refine va_sldJ hx hb hX hbl hbA hS hkl (by omega) rfl dL_cell_8 ?_
    refine lv_goto (tgt := 27) hx hb dL_cell_9 (by decide) ?_
    have hP9 := hP
    have hD9 := hD
    exact W.iret (v := (xs kx)) hx hb hr (fun t ht hW => ⟨⟨(xs kx), (), rfl, trivial, by rw [ht]; exact hP9, hD9⟩, hS.F ht⟩) hS.2.2 dL_cell_27
  · skip
    refine lv_icmp_ge (tgt := 12) hx hb dL_cell_3 (by decide) (fun _ => ?_) (fun h => absurd (nI_le (by omega) (by omega)) h)
    refine lv_sipush (v := 7919) hx hb dL_cell_12 (by decide) ?_
    refine lv_iload_n hx hb dL_cell_15 rfl (lv_at hl 1 rfl) ?_
    refine lv_sipush (v := 2423) hx hb dL_cell_16 (by decide) ?_
    refine lv_iadd hx hb dL_cell_19 ?_
    refine lv_imul hx hb dL_cell_20 ?_
    refine lv_iload_n hx hb dL_cell_21 rfl (lv_at hl 1 rfl) ?_
    refine lv_sipush (v := 241) hx hb dL_cell_22 (by decide) ?_
    refine lv_iadd hx hb dL_cell_25 ?_
    refine lv_imul hx hb dL_cell_26 ?_
    refine lv_topi (fun x9 ex9 => ?_)
    have hP9 := hP
    have hD9 := hD
    exact W.iret (v := x9) hx hb hr (fun t ht hW => ⟨⟨x9, (), rfl, trivial, by rw [ht]; exact hP9, hD9⟩, hS.F ht⟩) hS.2.2 dL_cell_27
