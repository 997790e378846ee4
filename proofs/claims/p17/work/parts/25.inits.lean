theorem in_X2_init_X2 : ∀ w ∈ wsX20, w ∈ wsX2_init := by decide +kernel
set_option maxHeartbeats 4000000 in
set_option maxRecDepth 100000 in
/-- the constructor of Square -/
theorem m_X2_init (l : Launch) (G : va_G) (q : Nat → ClassId) (sz : Nat) (os n : Nat) (hn : n ≤ 4) : Met l yX2_init wsX2_init ({ frames := 2, cells := 7, slots := 28, locals := 60 } : Jvm.Room) (PreW G q [.ref os, .int (nI n)] [(os, .inr (2, [.int 0, .null, .null, .null]))] sz) (va_Qv (fun (u : Nat × Nat × Nat × (Nat → Nat) × (Nat → Nat → UInt64)) => ∀ a b, a < n → b < n → u.2.2.2.2 a b = if a = b then H100 else 0) (fun (u : Nat × Nat × Nat × (Nat → Nat) × (Nat → Nat → UInt64)) t => EndA G (va_A [(os, .inr (2, [.int 0, .null, .null, .null]))] sz) ([(os, .inr (2, [.int (nI n), .ref u.1, .ref u.2.1, .ref u.2.2.1])), (u.1, aA q n (fun j => if j < n then some (u.2.2.2.1 j) else none)), (u.2.1, aD q n (fun _ => 0)), (u.2.2.1, aD q n (fun _ => 0))] ++ rowsW q n n u.2.2.2.1 u.2.2.2.2) t) (va_A [(os, .inr (2, [.int 0, .null, .null, .null]))] sz)) 7 28 (va_A [(os, .inr (2, [.int 0, .null, .null, .null]))] sz) := by
  refine Met.ofW (cc := cX2_init) (maxL := 3) (ret := none) (by decide +kernel) rfl ?_
  intro p e s m args below meth c s₁ B hml hv
  obtain ⟨rfl, hsz, hP, hK, hD0, hNF⟩ := hv
  have hx := B.exec
  have hb := B.bytes
  have hr := B.returns
  have hts := atoms_spec (ws := wsX2_init) B.pre
  have hown : s.vm.findClass RX2 = some m.cls := findClass_of_methodNamed B.named
  have hlocks := B.notSynchronized
  have hin : meth.name = "<init>" := (name_of_methodNamed B.named B.method).1
  subst hsz
  have hD := hD0.self (sz := s.heap.size)
  generalize hAe : va_A [(os, .inr (2, [.int 0, .null, .null, .null]))] s.heap.size = A at hD ⊢
  have hA : ∀ q : Nat, s.heap.size ≤ q → A q := fun q h => by rw [← hAe]; exact Or.inr h
  have hS : va_S A s.heap s.heap [] := va_S.rf
  have hP : va_P G vwCl [(os, .inr (2, [.int 0, .null, .null, .null]))] s.heap := hP
  have hl := lv_entry ([.ref os, .int (nI n)]) (n := 3) (Nat.le_of_ble_eq_true rfl)
  rw [lg_entry_eq]
  generalize (lg_sl ([.ref os, .int (nI n)]) ++ List.replicate (3 - (lg_sl ([.ref os, .int (nI n)])).length) Slot.unset).toArray = ls at hl ⊢
  have hl : lv_has ls 3 [(0, .ref os), (1, .int (nI n))] := hl
  refine lv_aload_n hx hb dX2_init_0 rfl (lv_at hl 0 rfl) ?_
  refine W.objInit hx hb hown (hts (.methodLink RX2 1 objectInit) (by decide +kernel)) (hts (.instanceMethod objectInit) (by decide +kernel)) (hts _ (List.mem_cons_of_mem _ (List.mem_append_left _ (List.mem_of_getElem? (i := 2) rfl)))) rfl (by rw [hml]; exact hl.1) rfl dX2_init_1 (Nat.le_of_ble_eq_true rfl) (Nat.le_of_ble_eq_true rfl) ?_
  refine W.eq (g2 := F0 m 4 ls []) rfl ?_
  refine lv_aload_n hx hb dX2_init_4 rfl (lv_at hl 0 rfl) ?_
  refine lv_iload_n hx hb dX2_init_5 rfl (lv_at hl 1 rfl) ?_
  refine va_putF (D := G) (ci := 2) (v := .int (nI n)) (ty := .int) (C := RX2) (T := TX2) (N := 4) hx hb hts in_X2_init_X2 tyX2 tyX2_ok nmX2 hown hK hP hD hS 0 rfl rfl 0 (by decide) (hts (.fieldLink RX2 7 "EchoBench$Square" "size" "I") (by decide +kernel)) (fun _ h9 => h9) rfl hin rfl (by decide +kernel) rfl rfl (Nat.le_of_ble_eq_true rfl) dX2_init_6 (fun H locs hP hD hS => ?_)
  have hP : va_P G vwCl [(os, .inr (2, [.int (nI n), .null, .null, .null]))] H := hP
  have hD : va_D A [(os, .inr (2, [.int (nI n), .null, .null, .null]))] := hD
  refine lv_aload_n hx hb dX2_init_9 rfl (lv_at hl 0 rfl) ?_
  refine lv_iload_n hx hb dX2_init_10 rfl (lv_at hl 1 rfl) ?_
  refine lv_iload_n hx hb dX2_init_11 rfl (lv_at hl 1 rfl) ?_
  have hnn : n * n ≤ 16 := Nat.mul_le_mul hn hn
  have hcl : (nI n).toNatClampNeg = n := nI_clamp (by omega)
  have hcy : s.vm.findClass (FieldType.array FieldType.double).toString = some (q 1) := (hK.2 1 _ rfl).2
  refine va_mna (X := [(os, .inr (2, [.int (nI n), .null, .null, .null]))]) (L := []) (f := fun _ => .inr (0, [])) (ty := .double) (z := (n, .inr (.inr (.inr (.inl (fun _ => 0)))))) hx hb hown (hts (.classLink RX2 13 "[[D") (by decide +kernel)) hNF.2.1 (hts (.arrayClass .double) (by decide +kernel)) hcy hK hP hD hS hA (nI_pos (by omega)) (nI_pos (by omega)) hcl hcl (by omega) (by show n * 8 ≤ _; omega) (by omega) rfl rfl (by show 0 + (1 + n) ≤ 7; omega) (by show 0 + (n + n * n) ≤ 28; omega) (fun c => by show ({ cls := c, slots := Array.replicate n _, vm := .none } : Cell) = _; rw [arrV_new]; rfl) dX2_init_12 (fun an ar cA H hinj hnl hK1 hP hD hS => ?_)
  have hcA := ra_A hK hK1
  subst hcA
  rw [rows_of_pl] at hP hD
  have hP : va_P G vwCl ([(os, .inr (2, [.int (nI n), .null, .null, .null])), (an, aA q n (fun j => if j < n then some (ar j) else none))] ++ rowsW q n n ar (fun _ _ => 0)) H := hP
  have hD : va_D A ([(os, .inr (2, [.int (nI n), .null, .null, .null])), (an, aA q n (fun j => if j < n then some (ar j) else none))] ++ rowsW q n n ar (fun _ _ => 0)) := hD
  refine va_putF (D := G) (ci := 2) (v := .ref an) (ty := (tyX2 1)) (C := RX2) (T := TX2) (N := 4) hx hb hts in_X2_init_X2 tyX2 tyX2_ok nmX2 hown hK hP hD hS 0 rfl rfl 1 (by decide) (hts (.fieldLink RX2 15 "EchoBench$Square" "numbers" "[[D") (by decide +kernel)) (fun _ h9 => h9) rfl hin rfl (by decide +kernel) rfl rfl (Nat.le_of_ble_eq_true rfl) dX2_init_16 (fun H locs hP hD hS => ?_)
  have hP : va_P G vwCl ([(os, .inr (2, [.int (nI n), .ref an, .null, .null])), (an, aA q n (fun j => if j < n then some (ar j) else none))] ++ rowsW q n n ar (fun _ _ => 0)) H := hP
  have hD : va_D A ([(os, .inr (2, [.int (nI n), .ref an, .null, .null])), (an, aA q n (fun j => if j < n then some (ar j) else none))] ++ rowsW q n n ar (fun _ _ => 0)) := hD
  refine lv_aload_n hx hb dX2_init_19 rfl (lv_at hl 0 rfl) ?_
  refine lv_iload_n hx hb dX2_init_20 rfl (lv_at hl 1 rfl) ?_
  refine va_newa (atype := .double) hx hb (hts (.arrayClass .double) (by decide +kernel)) (ty := .double) rfl (s := s) hK hP hD hS hA (a0 := (n, .inr (.inr (.inr (.inl (fun _ => 0)))))) (fun _ => rfl) (nI_pos (by omega)) hcl (by show n * 8 ≤ 536870912; omega) (by show _ ≤ 7; omega) (by show _ ≤ 28; omega) dX2_init_21 (fun ag cA H hK1 hP hD hS => ?_)
  have hcA := ra_D hK hK1
  subst hcA
  have hP := hP.swap
  have hD := hD.swap
  have hP : va_P G vwCl ([(os, .inr (2, [.int (nI n), .ref an, .null, .null])), (an, aA q n (fun j => if j < n then some (ar j) else none)), (ag, aD q n (fun _ => 0))] ++ rowsW q n n ar (fun _ _ => 0)) H := hP
  have hD : va_D A ([(os, .inr (2, [.int (nI n), .ref an, .null, .null])), (an, aA q n (fun j => if j < n then some (ar j) else none)), (ag, aD q n (fun _ => 0))] ++ rowsW q n n ar (fun _ _ => 0)) := hD
  refine va_putF (D := G) (ci := 2) (v := .ref ag) (ty := (tyX2 2)) (C := RX2) (T := TX2) (N := 4) hx hb hts in_X2_init_X2 tyX2 tyX2_ok nmX2 hown hK hP hD hS 0 rfl rfl 2 (by decide) (hts (.fieldLink RX2 18 "EchoBench$Square" "g" "[D") (by decide +kernel)) (fun _ h9 => h9) rfl hin rfl (by decide +kernel) rfl rfl (Nat.le_of_ble_eq_true rfl) dX2_init_23 (fun H locs hP hD hS => ?_)
  have hP : va_P G vwCl ([(os, .inr (2, [.int (nI n), .ref an, .ref ag, .null])), (an, aA q n (fun j => if j < n then some (ar j) else none)), (ag, aD q n (fun _ => 0))] ++ rowsW q n n ar (fun _ _ => 0)) H := hP
  have hD : va_D A ([(os, .inr (2, [.int (nI n), .ref an, .ref ag, .null])), (an, aA q n (fun j => if j < n then some (ar j) else none)), (ag, aD q n (fun _ => 0))] ++ rowsW q n n ar (fun _ _ => 0)) := hD
  refine lv_aload_n hx hb dX2_init_26 rfl (lv_at hl 0 rfl) ?_
  refine lv_iload_n hx hb dX2_init_27 rfl (lv_at hl 1 rfl) ?_
  refine va_newa (atype := .double) hx hb (hts (.arrayClass .double) (by decide +kernel)) (ty := .double) rfl (s := s) hK hP hD hS hA (a0 := (n, .inr (.inr (.inr (.inl (fun _ => 0)))))) (fun _ => rfl) (nI_pos (by omega)) hcl (by show n * 8 ≤ 536870912; omega) (by show _ ≤ 7; omega) (by show _ ≤ 28; omega) dX2_init_28 (fun ah cA H hK1 hP hD hS => ?_)
  have hcA := ra_D hK hK1
  subst hcA
  have hP := hP.swap
  have hD := hD.swap
  have hP : va_P G vwCl ([(os, .inr (2, [.int (nI n), .ref an, .ref ag, .null])), (an, aA q n (fun j => if j < n then some (ar j) else none)), (ag, aD q n (fun _ => 0)), (ah, aD q n (fun _ => 0))] ++ rowsW q n n ar (fun _ _ => 0)) H := hP
  have hD : va_D A ([(os, .inr (2, [.int (nI n), .ref an, .ref ag, .null])), (an, aA q n (fun j => if j < n then some (ar j) else none)), (ag, aD q n (fun _ => 0)), (ah, aD q n (fun _ => 0))] ++ rowsW q n n ar (fun _ _ => 0)) := hD
  refine va_putF (D := G) (ci := 2) (v := .ref ah) (ty := (tyX2 3)) (C := RX2) (T := TX2) (N := 4) hx hb hts in_X2_init_X2 tyX2 tyX2_ok nmX2 hown hK hP hD hS 0 rfl rfl 3 (by decide) (hts (.fieldLink RX2 22 "EchoBench$Square" "shares" "[D") (by decide +kernel)) (fun _ h9 => h9) rfl hin rfl (by decide +kernel) rfl rfl (Nat.le_of_ble_eq_true rfl) dX2_init_30 (fun H locs hP hD hS => ?_)
  have hP : va_P G vwCl ([(os, .inr (2, [.int (nI n), .ref an, .ref ag, .ref ah])), (an, aA q n (fun j => if j < n then some (ar j) else none)), (ag, aD q n (fun _ => 0)), (ah, aD q n (fun _ => 0))] ++ rowsW q n n ar (fun _ _ => 0)) H := hP
  have hD : va_D A ([(os, .inr (2, [.int (nI n), .ref an, .ref ag, .ref ah])), (an, aA q n (fun j => if j < n then some (ar j) else none)), (ag, aD q n (fun _ => 0)), (ah, aD q n (fun _ => 0))] ++ rowsW q n n ar (fun _ _ => 0)) := hD
  refine lv_iconst (v := 0) hx hb dX2_init_33 (by decide) ?_
  refine lv_istore_n (lv' := [(2, .int 0), (0, .ref os), (1, .int (nI n))]) hx hb dX2_init_34 rfl hl (by decide) rfl (fun ls hl => ?_)
  refine W.widen (k := 7) (n := 28) (by omega) (by omega) ?_
  have LOOP : ∀ (k : Nat) (i : Nat) (P : Nat → Nat → UInt64), i + k = n → (∀ a b, a < n → b < n → P a b = if a = b ∧ a < i then H100 else 0) → ∀ (H : Heap) (locs : List Loc), va_P G vwCl ([(os, .inr (2, [.int (nI n), .ref an, .ref ag, .ref ah])), (an, aA q n (fun j => if j < n then some (ar j) else none)), (ag, aD q n (fun _ => 0)), (ah, aD q n (fun _ => 0))] ++ rowsW q n n ar P) H → va_D A ([(os, .inr (2, [.int (nI n), .ref an, .ref ag, .ref ah])), (an, aA q n (fun j => if j < n then some (ar j) else none)), (ag, aD q n (fun _ => 0)), (ah, aD q n (fun _ => 0))] ++ rowsW q n n ar P) → va_S A s.heap H locs → ∀ (ls : Array Slot), lv_has ls 3 [(0, .ref os), (1, .int (nI n)), (2, .int (nI i))] → W p l e (headSpec wsX2_init ({ frames := 2, cells := 7, slots := 28, locals := 60 } : Jvm.Room)).room s m #[.ref os, .int (nI n)] below meth c H locs 7 28 (MQ below (va_Qv (fun (u : Nat × Nat × Nat × (Nat → Nat) × (Nat → Nat → UInt64)) => ∀ a b, a < n → b < n → u.2.2.2.2 a b = if a = b then H100 else 0) (fun (u : Nat × Nat × Nat × (Nat → Nat) × (Nat → Nat → UInt64)) t => EndA G A ([(os, .inr (2, [.int (nI n), .ref u.1, .ref u.2.1, .ref u.2.2.1])), (u.1, aA q n (fun j => if j < n then some (u.2.2.2.1 j) else none)), (u.2.1, aD q n (fun _ => 0)), (u.2.2.1, aD q n (fun _ => 0))] ++ rowsW q n n u.2.2.2.1 u.2.2.2.2) t) A) #[.ref os, .int (nI n)] s 7 28 A) (F0 m 35 ls []) := by
    intro k
    induction k with
    | zero =>
      intro i P hi h1 H locs hP hD hS ls hl
      refine lv_iload_n hx hb dX2_init_35 rfl (lv_at hl 2 rfl) ?_
      refine lv_iload_n hx hb dX2_init_36 rfl (lv_at hl 1 rfl) ?_
      refine lv_icmp_ge (tgt := 57) hx hb dX2_init_37 (by decide) (fun _ => ?_) (fun h => absurd (nI_le (by omega) (by omega)) h)
      have hP9 := hP
      have hD9 := hD
      exact W.vret hx hb hr (fun t ht hW => ⟨⟨(an, ag, ah, ar, P), rfl, by dsimp only; intro a b ha hb; rw [h1 a b ha hb]; by_cases e9 : a = b; (rw [if_pos ⟨e9, by omega⟩, if_pos e9]); (rw [if_neg (fun z => e9 z.1), if_neg e9]), by rw [ht]; exact hP9, hD9⟩, hS.F ht⟩) hS.2.2 dX2_init_57
    | succ k ih =>
      intro i P hi h1 H locs hP hD hS ls hl
      refine lv_iload_n hx hb dX2_init_35 rfl (lv_at hl 2 rfl) ?_
      refine lv_iload_n hx hb dX2_init_36 rfl (lv_at hl 1 rfl) ?_
      refine lv_icmp_ge (tgt := 57) hx hb dX2_init_37 (by decide) (fun h => absurd h (nI_ge (by omega) (by omega))) (fun _ => ?_)
      refine lv_aload_n hx hb dX2_init_40 rfl (lv_at hl 0 rfl) ?_
      refine va_get (D := G) (ci := 2) (v := .ref an) (C := RX2) (T := TX2) (N := 4) hx hb hts in_X2_init_X2 hown hK hP 0 rfl rfl 1 (by decide) (hts (.fieldLink RX2 15 "EchoBench$Square" "numbers" "[[D") (by decide +kernel)) (fun _ h9 => h9) rfl dX2_init_41 ?_
      refine lv_iload_n hx hb dX2_init_44 rfl (lv_at hl 2 rfl) ?_
      refine va_aldAJ hx hb hK hP 1 2 rfl rfl (j := i) rfl (by omega) (by omega) (if_pos (by omega)) dX2_init_45 ?_
      refine lv_iload_n hx hb dX2_init_46 rfl (lv_at hl 2 rfl) ?_
      refine lv_ldc2d hx hb hown (hts (.constantDouble RX2 25 4636737291354636288) (by decide +kernel)) dX2_init_47 ?_
      refine va_dastJ hx hb hK hP hD hS (4 + i) 1 (rowsW_get (by omega) rfl) rfl (j := i) rfl (by omega) (by omega) dX2_init_50 (fun H locs hP hD hS => ?_)
      have hP := (congrArg (fun z => va_P G vwCl z H) (rowsW_set (q := q) (w := n) (n := n) (ad := ar) (P := P) (X := [(os, .inr (2, [.int (nI n), .ref an, .ref ag, .ref ah])), (an, aA q n (fun j => if j < n then some (ar j) else none)), (ag, aD q n (fun _ => 0)), (ah, aD q n (fun _ => 0))]) (j := i) (k := 4 + i) (f := vf_upd (P i) i 4636737291354636288) (by omega) rfl)).mp hP
      have hD := (congrArg (fun z => va_D A z) (rowsW_set (q := q) (w := n) (n := n) (ad := ar) (P := P) (X := [(os, .inr (2, [.int (nI n), .ref an, .ref ag, .ref ah])), (an, aA q n (fun j => if j < n then some (ar j) else none)), (ag, aD q n (fun _ => 0)), (ah, aD q n (fun _ => 0))]) (j := i) (k := 4 + i) (f := vf_upd (P i) i 4636737291354636288) (by omega) rfl)).mp hD
      have hP : va_P G vwCl ([(os, .inr (2, [.int (nI n), .ref an, .ref ag, .ref ah])), (an, aA q n (fun j => if j < n then some (ar j) else none)), (ag, aD q n (fun _ => 0)), (ah, aD q n (fun _ => 0))] ++ rowsW q n n ar (upP P i i 4636737291354636288)) H := hP
      have hD : va_D A ([(os, .inr (2, [.int (nI n), .ref an, .ref ag, .ref ah])), (an, aA q n (fun j => if j < n then some (ar j) else none)), (ag, aD q n (fun _ => 0)), (ah, aD q n (fun _ => 0))] ++ rowsW q n n ar (upP P i i 4636737291354636288)) := hD
      refine lv_iinc (v := nI (i + 1)) (lv' := [(2, .int (nI (i + 1))), (0, .ref os), (1, .int (nI n))]) hx hb dX2_init_51 hl (k := 2) rfl (nI_succ _).symm (by decide) rfl (fun ls hl => ?_)
      refine lv_goto (tgt := 35) hx hb dX2_init_54 (by decide) ?_
      exact ih (i + 1) (upP P i i H100) (by omega) (fun a b ha hb => by by_cases e9 : a = i ∧ b = i; (rw [e9.1, e9.2, upP_same, if_pos ⟨rfl, by omega⟩]); (rw [upP_ne (by omega), h1 a b ha hb]; by_cases e8 : a = b ∧ a < i; (rw [if_pos e8, if_pos ⟨e8.1, by omega⟩]); (rw [if_neg e8, if_neg (by omega)]))) _ _ (hP.part (cx := [(os, .inr (2, [.int (nI n), .ref an, .ref ag, .ref ah])), (an, aA q n (fun j => if j < n then some (ar j) else none)), (ag, aD q n (fun _ => 0)), (ah, aD q n (fun _ => 0))]) [0, 1, 2, 3] rfl) (hD.part (cx := [(os, .inr (2, [.int (nI n), .ref an, .ref ag, .ref ah])), (an, aA q n (fun j => if j < n then some (ar j) else none)), (ag, aD q n (fun _ => 0)), (ah, aD q n (fun _ => 0))]) [0, 1, 2, 3] (by decide) rfl) hS ls (lv_sub hl [1, 2, 0] rfl)
  exact LOOP n 0 (fun _ _ => 0) (by omega) (fun a b _ _ => by rw [if_neg (by omega)]) _ _ (hP.part (cx := [(os, .inr (2, [.int (nI n), .ref an, .ref ag, .ref ah])), (an, aA q n (fun j => if j < n then some (ar j) else none)), (ag, aD q n (fun _ => 0)), (ah, aD q n (fun _ => 0))]) [0, 1, 2, 3] rfl) (hD.part (cx := [(os, .inr (2, [.int (nI n), .ref an, .ref ag, .ref ah])), (an, aA q n (fun j => if j < n then some (ar j) else none)), (ag, aD q n (fun _ => 0)), (ah, aD q n (fun _ => 0))]) [0, 1, 2, 3] (by decide) rfl) hS ls (lv_sub hl [1, 2, 0] rfl)

theorem in_X0_init_X0 : ∀ w ∈ wsX00, w ∈ wsX0_init := by decide +kernel
set_option maxHeartbeats 4000000 in
set_option maxRecDepth 100000 in
/-- the constructor of Filter, of no RLS -/
theorem m_X0_initN (l : Launch) (G : va_G) (q : Nat → ClassId) (sz : Nat) (o0 n : Nat) (kd st : Int32) (hk : ¬ kd = 3) (hn : n ≤ 8) : Met l yX0_init wsX0_init ({ frames := 4, cells := 10, slots := 60, locals := 100 } : Jvm.Room) (PreW G q [.ref o0, .int kd, .int (nI n), .int st] [(o0, .inr (0, [.int 0, .null, .null, .null, .int 0, .int 0, .int 0, .int 0, .double 0, .double 0, .int 0, .int 0, .int 0]))] sz) (va_Qv (fun (_ : Nat × Nat) => True) (fun (u : Nat × Nat) t => EndA G (va_A [(o0, .inr (0, [.int 0, .null, .null, .null, .int 0, .int 0, .int 0, .int 0, .double 0, .double 0, .int 0, .int 0, .int 0]))] sz) [(o0, .inr (0, [.int kd, .ref u.1, .ref u.2, .null, .int st, .int 0, .int 0, .int 0, .double 0, .double 0, .int 0, .int 0, .int 0])), (u.1, aD q n (fun _ => 0)), (u.2, aD q 16 (fun _ => 0))] t) (va_A [(o0, .inr (0, [.int 0, .null, .null, .null, .int 0, .int 0, .int 0, .int 0, .double 0, .double 0, .int 0, .int 0, .int 0]))] sz)) 10 60 (va_A [(o0, .inr (0, [.int 0, .null, .null, .null, .int 0, .int 0, .int 0, .int 0, .double 0, .double 0, .int 0, .int 0, .int 0]))] sz) := by
  refine Met.ofW (cc := cX0_init) (maxL := 4) (ret := none) (by decide +kernel) rfl ?_
  intro p e s m args below meth c s₁ B hml hv
  obtain ⟨rfl, hsz, hP, hK, hD0, hNF⟩ := hv
  have hx := B.exec
  have hb := B.bytes
  have hr := B.returns
  have hts := atoms_spec (ws := wsX0_init) B.pre
  have hown : s.vm.findClass RX0 = some m.cls := findClass_of_methodNamed B.named
  have hlocks := B.notSynchronized
  have hin : meth.name = "<init>" := (name_of_methodNamed B.named B.method).1
  subst hsz
  have hD := hD0.self (sz := s.heap.size)
  generalize hAe : va_A [(o0, .inr (0, [.int 0, .null, .null, .null, .int 0, .int 0, .int 0, .int 0, .double 0, .double 0, .int 0, .int 0, .int 0]))] s.heap.size = A at hD ⊢
  have hA : ∀ q : Nat, s.heap.size ≤ q → A q := fun q h => by rw [← hAe]; exact Or.inr h
  have hS : va_S A s.heap s.heap [] := va_S.rf
  have hP : va_P G vwCl [(o0, .inr (0, [.int 0, .null, .null, .null, .int 0, .int 0, .int 0, .int 0, .double 0, .double 0, .int 0, .int 0, .int 0]))] s.heap := hP
  have hl := lv_entry ([.ref o0, .int kd, .int (nI n), .int st]) (n := 4) (Nat.le_of_ble_eq_true rfl)
  rw [lg_entry_eq]
  generalize (lg_sl ([.ref o0, .int kd, .int (nI n), .int st]) ++ List.replicate (4 - (lg_sl ([.ref o0, .int kd, .int (nI n), .int st])).length) Slot.unset).toArray = ls at hl ⊢
  have hl : lv_has ls 4 [(0, .ref o0), (1, .int kd), (2, .int (nI n)), (3, .int st)] := hl
  refine lv_aload_n hx hb dX0_init_0 rfl (lv_at hl 0 rfl) ?_
  refine W.objInit hx hb hown (hts (.methodLink RX0 3 objectInit) (by decide +kernel)) (hts (.instanceMethod objectInit) (by decide +kernel)) (hts _ (List.mem_cons_of_mem _ (List.mem_append_left _ (List.mem_append_left _ (List.mem_of_getElem? (i := 2) rfl))))) rfl (by rw [hml]; exact hl.1) rfl dX0_init_1 (Nat.le_of_ble_eq_true rfl) (Nat.le_of_ble_eq_true rfl) ?_
  refine W.eq (g2 := F0 m 4 ls []) rfl ?_
  refine lv_aload_n hx hb dX0_init_4 rfl (lv_at hl 0 rfl) ?_
  refine lv_iload_n hx hb dX0_init_5 rfl (lv_at hl 1 rfl) ?_
  refine va_putF (D := G) (ci := 0) (v := .int kd) (ty := .int) (C := RX0) (T := TX0) (N := 13) hx hb hts in_X0_init_X0 tyX0 tyX0_ok nmX0 hown hK hP hD hS 0 rfl rfl 0 (by decide) (hts (.fieldLink RX0 9 "EchoBench$Filter" "kind" "I") (by decide +kernel)) (fun _ h9 => h9) rfl hin rfl (by decide +kernel) rfl rfl (Nat.le_of_ble_eq_true rfl) dX0_init_6 (fun H locs hP hD hS => ?_)
  have hP : va_P G vwCl [(o0, .inr (0, [.int kd, .null, .null, .null, .int 0, .int 0, .int 0, .int 0, .double 0, .double 0, .int 0, .int 0, .int 0]))] H := hP
  have hD : va_D A [(o0, .inr (0, [.int kd, .null, .null, .null, .int 0, .int 0, .int 0, .int 0, .double 0, .double 0, .int 0, .int 0, .int 0]))] := hD
  refine lv_aload_n hx hb dX0_init_9 rfl (lv_at hl 0 rfl) ?_
  refine lv_iload_n hx hb dX0_init_10 rfl (lv_at hl 2 rfl) ?_
  refine va_newa (atype := .double) hx hb (hts (.arrayClass .double) (by decide +kernel)) (ty := .double) rfl (s := s) hK hP hD hS hA (a0 := (n, .inr (.inr (.inr (.inl (fun _ => 0)))))) (fun _ => rfl) (nI_pos (by omega)) (nI_clamp (by omega)) (by show n * 8 ≤ 536870912; omega) (by show _ ≤ 10; omega) (by show _ ≤ 60; omega) dX0_init_11 (fun aw cA H hK1 hP hD hS => ?_)
  have hcA : cA = q 1 := ra_D hK hK1
  subst hcA
  have hP : va_P G vwCl [(o0, .inr (0, [.int kd, .null, .null, .null, .int 0, .int 0, .int 0, .int 0, .double 0, .double 0, .int 0, .int 0, .int 0])), (aw, aD q n (fun _ => 0))] H := hP
  have hD : va_D A [(o0, .inr (0, [.int kd, .null, .null, .null, .int 0, .int 0, .int 0, .int 0, .double 0, .double 0, .int 0, .int 0, .int 0])), (aw, aD q n (fun _ => 0))] := hD
  refine va_putF (D := G) (ci := 0) (v := .ref aw) (ty := (tyX0 1)) (C := RX0) (T := TX0) (N := 13) hx hb hts in_X0_init_X0 tyX0 tyX0_ok nmX0 hown hK hP hD hS 0 rfl rfl 1 (by decide) (hts (.fieldLink RX0 15 "EchoBench$Filter" "weights" "[D") (by decide +kernel)) (fun _ h9 => h9) rfl hin rfl (by decide +kernel) rfl rfl (Nat.le_of_ble_eq_true rfl) dX0_init_13 (fun H locs hP hD hS => ?_)
  have hP : va_P G vwCl [(o0, .inr (0, [.int kd, .ref aw, .null, .null, .int 0, .int 0, .int 0, .int 0, .double 0, .double 0, .int 0, .int 0, .int 0])), (aw, aD q n (fun _ => 0))] H := hP
  have hD : va_D A [(o0, .inr (0, [.int kd, .ref aw, .null, .null, .int 0, .int 0, .int 0, .int 0, .double 0, .double 0, .int 0, .int 0, .int 0])), (aw, aD q n (fun _ => 0))] := hD
  refine lv_aload_n hx hb dX0_init_16 rfl (lv_at hl 0 rfl) ?_
  refine lv_bipush (v := 16) hx hb dX0_init_17 (by decide) ?_
  refine va_newa (atype := .double) hx hb (hts (.arrayClass .double) (by decide +kernel)) (ty := .double) rfl (s := s) hK hP hD hS hA (a0 := (16, .inr (.inr (.inr (.inl (fun _ => 0)))))) (fun _ => rfl) (by decide) rfl (by show 16 * 8 ≤ 536870912; omega) (by show _ ≤ 10; omega) (by show _ ≤ 60; omega) dX0_init_19 (fun ae cA H hK1 hP hD hS => ?_)
  have hcA : cA = q 1 := ra_D hK hK1
  subst hcA
  have hP : va_P G vwCl [(o0, .inr (0, [.int kd, .ref aw, .null, .null, .int 0, .int 0, .int 0, .int 0, .double 0, .double 0, .int 0, .int 0, .int 0])), (aw, aD q n (fun _ => 0)), (ae, aD q 16 (fun _ => 0))] H := hP
  have hD : va_D A [(o0, .inr (0, [.int kd, .ref aw, .null, .null, .int 0, .int 0, .int 0, .int 0, .double 0, .double 0, .int 0, .int 0, .int 0])), (aw, aD q n (fun _ => 0)), (ae, aD q 16 (fun _ => 0))] := hD
  refine va_putF (D := G) (ci := 0) (v := .ref ae) (ty := (tyX0 2)) (C := RX0) (T := TX0) (N := 13) hx hb hts in_X0_init_X0 tyX0 tyX0_ok nmX0 hown hK hP hD hS 0 rfl rfl 2 (by decide) (hts (.fieldLink RX0 19 "EchoBench$Filter" "latestErrors" "[D") (by decide +kernel)) (fun _ h9 => h9) rfl hin rfl (by decide +kernel) rfl rfl (Nat.le_of_ble_eq_true rfl) dX0_init_21 (fun H locs hP hD hS => ?_)
  have hP : va_P G vwCl [(o0, .inr (0, [.int kd, .ref aw, .ref ae, .null, .int 0, .int 0, .int 0, .int 0, .double 0, .double 0, .int 0, .int 0, .int 0])), (aw, aD q n (fun _ => 0)), (ae, aD q 16 (fun _ => 0))] H := hP
  have hD : va_D A [(o0, .inr (0, [.int kd, .ref aw, .ref ae, .null, .int 0, .int 0, .int 0, .int 0, .double 0, .double 0, .int 0, .int 0, .int 0])), (aw, aD q n (fun _ => 0)), (ae, aD q 16 (fun _ => 0))] := hD
  refine lv_aload_n hx hb dX0_init_24 rfl (lv_at hl 0 rfl) ?_
  refine lv_iload_n hx hb dX0_init_25 rfl (lv_at hl 1 rfl) ?_
  refine lv_iconst (v := 3) hx hb dX0_init_26 (by decide) ?_
  refine lv_icmp_ne (tgt := 41) hx hb dX0_init_27 (by decide) (fun _ => ?_) (fun h => absurd h hk)
  refine lv_null hx hb dX0_init_41 ?_
  refine va_putF (D := G) (ci := 0) (v := .null) (ty := (tyX0 3)) (C := RX0) (T := TX0) (N := 13) hx hb hts in_X0_init_X0 tyX0 tyX0_ok nmX0 hown hK hP hD hS 0 rfl rfl 3 (by decide) (hts (.fieldLink RX0 27 "EchoBench$Filter" "square" "LEchoBench$Square;") (by decide +kernel)) (fun _ h9 => h9) rfl hin rfl (by decide +kernel) rfl rfl (Nat.le_of_ble_eq_true rfl) dX0_init_42 (fun H locs hP hD hS => ?_)
  have hP : va_P G vwCl [(o0, .inr (0, [.int kd, .ref aw, .ref ae, .null, .int 0, .int 0, .int 0, .int 0, .double 0, .double 0, .int 0, .int 0, .int 0])), (aw, aD q n (fun _ => 0)), (ae, aD q 16 (fun _ => 0))] H := hP
  have hD : va_D A [(o0, .inr (0, [.int kd, .ref aw, .ref ae, .null, .int 0, .int 0, .int 0, .int 0, .double 0, .double 0, .int 0, .int 0, .int 0])), (aw, aD q n (fun _ => 0)), (ae, aD q 16 (fun _ => 0))] := hD
  refine lv_aload_n hx hb dX0_init_45 rfl (lv_at hl 0 rfl) ?_
  refine lv_iload_n hx hb dX0_init_46 rfl (lv_at hl 3 rfl) ?_
  refine va_put (D := G) (ci := 0) (v := .int st) (ty := .int) (C := RX0) (T := TX0) (N := 13) hx hb hts in_X0_init_X0 tyX0 tyX0_ok nmX0 hown hK hP hD hS 0 rfl rfl 4 (by decide) (hts (.fieldLink RX0 31 "EchoBench$Filter" "thousandths" "I") (by decide +kernel)) (fun _ h9 => h9) rfl (by decide +kernel) rfl rfl (Nat.le_of_ble_eq_true rfl) dX0_init_47 (fun H locs hP hD hS => ?_)
  have hP : va_P G vwCl [(o0, .inr (0, [.int kd, .ref aw, .ref ae, .null, .int st, .int 0, .int 0, .int 0, .double 0, .double 0, .int 0, .int 0, .int 0])), (aw, aD q n (fun _ => 0)), (ae, aD q 16 (fun _ => 0))] H := hP
  have hD : va_D A [(o0, .inr (0, [.int kd, .ref aw, .ref ae, .null, .int st, .int 0, .int 0, .int 0, .double 0, .double 0, .int 0, .int 0, .int 0])), (aw, aD q n (fun _ => 0)), (ae, aD q 16 (fun _ => 0))] := hD
  refine W.widen (k := 10) (n := 60) (by omega) (by omega) ?_
  have hP9 := hP
  have hD9 := hD
  exact W.vret hx hb hr (fun t ht hW => ⟨⟨(aw, ae), rfl, trivial, by rw [ht]; exact hP9, hD9⟩, hS.F ht⟩) hS.2.2 dX0_init_50

theorem in_X0_init_X2 : ∀ w ∈ wsX20, w ∈ wsX0_init := by decide +kernel
set_option maxHeartbeats 4000000 in
set_option maxRecDepth 100000 in
/-- the constructor of Filter, of an RLS -/
theorem m_X0_initR (l : Launch) (G : va_G) (q : Nat → ClassId) (sz : Nat) (o0 n : Nat) (kd st : Int32) (hk : kd = 3) (hn : n ≤ 4) : Met l yX0_init wsX0_init ({ frames := 4, cells := 10, slots := 60, locals := 100 } : Jvm.Room) (PreW G q [.ref o0, .int kd, .int (nI n), .int st] [(o0, .inr (0, [.int 0, .null, .null, .null, .int 0, .int 0, .int 0, .int 0, .double 0, .double 0, .int 0, .int 0, .int 0]))] sz) (va_Qv (fun (u : Nat × Nat × Nat × Nat × Nat × Nat × (Nat → Nat) × (Nat → Nat → UInt64)) => ∀ a b, a < n → b < n → u.2.2.2.2.2.2.2 a b = if a = b then H100 else 0) (fun (u : Nat × Nat × Nat × Nat × Nat × Nat × (Nat → Nat) × (Nat → Nat → UInt64)) t => EndA G (va_A [(o0, .inr (0, [.int 0, .null, .null, .null, .int 0, .int 0, .int 0, .int 0, .double 0, .double 0, .int 0, .int 0, .int 0]))] sz) ([(o0, .inr (0, [.int kd, .ref u.1, .ref u.2.1, .ref u.2.2.1, .int st, .int 0, .int 0, .int 0, .double 0, .double 0, .int 0, .int 0, .int 0])), (u.1, aD q n (fun _ => 0)), (u.2.1, aD q 16 (fun _ => 0)), (u.2.2.1, .inr (2, [.int (nI n), .ref u.2.2.2.1, .ref u.2.2.2.2.1, .ref u.2.2.2.2.2.1])), (u.2.2.2.1, aA q n (fun j => if j < n then some (u.2.2.2.2.2.2.1 j) else none)), (u.2.2.2.2.1, aD q n (fun _ => 0)), (u.2.2.2.2.2.1, aD q n (fun _ => 0))] ++ rowsW q n n u.2.2.2.2.2.2.1 u.2.2.2.2.2.2.2) t) (va_A [(o0, .inr (0, [.int 0, .null, .null, .null, .int 0, .int 0, .int 0, .int 0, .double 0, .double 0, .int 0, .int 0, .int 0]))] sz)) 10 60 (va_A [(o0, .inr (0, [.int 0, .null, .null, .null, .int 0, .int 0, .int 0, .int 0, .double 0, .double 0, .int 0, .int 0, .int 0]))] sz) := by
  refine Met.ofW (cc := cX0_init) (maxL := 4) (ret := none) (by decide +kernel) rfl ?_
  intro p e s m args below meth c s₁ B hml hv
  obtain ⟨rfl, hsz, hP, hK, hD0, hNF⟩ := hv
  have hx := B.exec
  have hb := B.bytes
  have hr := B.returns
  have hts := atoms_spec (ws := wsX0_init) B.pre
  have hown : s.vm.findClass RX0 = some m.cls := findClass_of_methodNamed B.named
  have hlocks := B.notSynchronized
  have hin : meth.name = "<init>" := (name_of_methodNamed B.named B.method).1
  subst hsz
  have hD := hD0.self (sz := s.heap.size)
  generalize hAe : va_A [(o0, .inr (0, [.int 0, .null, .null, .null, .int 0, .int 0, .int 0, .int 0, .double 0, .double 0, .int 0, .int 0, .int 0]))] s.heap.size = A at hD ⊢
  have hA : ∀ q : Nat, s.heap.size ≤ q → A q := fun q h => by rw [← hAe]; exact Or.inr h
  have hS : va_S A s.heap s.heap [] := va_S.rf
  have hP : va_P G vwCl [(o0, .inr (0, [.int 0, .null, .null, .null, .int 0, .int 0, .int 0, .int 0, .double 0, .double 0, .int 0, .int 0, .int 0]))] s.heap := hP
  have hl := lv_entry ([.ref o0, .int kd, .int (nI n), .int st]) (n := 4) (Nat.le_of_ble_eq_true rfl)
  rw [lg_entry_eq]
  generalize (lg_sl ([.ref o0, .int kd, .int (nI n), .int st]) ++ List.replicate (4 - (lg_sl ([.ref o0, .int kd, .int (nI n), .int st])).length) Slot.unset).toArray = ls at hl ⊢
  have hl : lv_has ls 4 [(0, .ref o0), (1, .int kd), (2, .int (nI n)), (3, .int st)] := hl
  refine lv_aload_n hx hb dX0_init_0 rfl (lv_at hl 0 rfl) ?_
  refine W.objInit hx hb hown (hts (.methodLink RX0 3 objectInit) (by decide +kernel)) (hts (.instanceMethod objectInit) (by decide +kernel)) (hts _ (List.mem_cons_of_mem _ (List.mem_append_left _ (List.mem_append_left _ (List.mem_of_getElem? (i := 2) rfl))))) rfl (by rw [hml]; exact hl.1) rfl dX0_init_1 (Nat.le_of_ble_eq_true rfl) (Nat.le_of_ble_eq_true rfl) ?_
  refine W.eq (g2 := F0 m 4 ls []) rfl ?_
  refine lv_aload_n hx hb dX0_init_4 rfl (lv_at hl 0 rfl) ?_
  refine lv_iload_n hx hb dX0_init_5 rfl (lv_at hl 1 rfl) ?_
  refine va_putF (D := G) (ci := 0) (v := .int kd) (ty := .int) (C := RX0) (T := TX0) (N := 13) hx hb hts in_X0_init_X0 tyX0 tyX0_ok nmX0 hown hK hP hD hS 0 rfl rfl 0 (by decide) (hts (.fieldLink RX0 9 "EchoBench$Filter" "kind" "I") (by decide +kernel)) (fun _ h9 => h9) rfl hin rfl (by decide +kernel) rfl rfl (Nat.le_of_ble_eq_true rfl) dX0_init_6 (fun H locs hP hD hS => ?_)
  have hP : va_P G vwCl [(o0, .inr (0, [.int kd, .null, .null, .null, .int 0, .int 0, .int 0, .int 0, .double 0, .double 0, .int 0, .int 0, .int 0]))] H := hP
  have hD : va_D A [(o0, .inr (0, [.int kd, .null, .null, .null, .int 0, .int 0, .int 0, .int 0, .double 0, .double 0, .int 0, .int 0, .int 0]))] := hD
  refine lv_aload_n hx hb dX0_init_9 rfl (lv_at hl 0 rfl) ?_
  refine lv_iload_n hx hb dX0_init_10 rfl (lv_at hl 2 rfl) ?_
  refine va_newa (atype := .double) hx hb (hts (.arrayClass .double) (by decide +kernel)) (ty := .double) rfl (s := s) hK hP hD hS hA (a0 := (n, .inr (.inr (.inr (.inl (fun _ => 0)))))) (fun _ => rfl) (nI_pos (by omega)) (nI_clamp (by omega)) (by show n * 8 ≤ 536870912; omega) (by show _ ≤ 10; omega) (by show _ ≤ 60; omega) dX0_init_11 (fun aw cA H hK1 hP hD hS => ?_)
  have hcA : cA = q 1 := ra_D hK hK1
  subst hcA
  have hP : va_P G vwCl [(o0, .inr (0, [.int kd, .null, .null, .null, .int 0, .int 0, .int 0, .int 0, .double 0, .double 0, .int 0, .int 0, .int 0])), (aw, aD q n (fun _ => 0))] H := hP
  have hD : va_D A [(o0, .inr (0, [.int kd, .null, .null, .null, .int 0, .int 0, .int 0, .int 0, .double 0, .double 0, .int 0, .int 0, .int 0])), (aw, aD q n (fun _ => 0))] := hD
  refine va_putF (D := G) (ci := 0) (v := .ref aw) (ty := (tyX0 1)) (C := RX0) (T := TX0) (N := 13) hx hb hts in_X0_init_X0 tyX0 tyX0_ok nmX0 hown hK hP hD hS 0 rfl rfl 1 (by decide) (hts (.fieldLink RX0 15 "EchoBench$Filter" "weights" "[D") (by decide +kernel)) (fun _ h9 => h9) rfl hin rfl (by decide +kernel) rfl rfl (Nat.le_of_ble_eq_true rfl) dX0_init_13 (fun H locs hP hD hS => ?_)
  have hP : va_P G vwCl [(o0, .inr (0, [.int kd, .ref aw, .null, .null, .int 0, .int 0, .int 0, .int 0, .double 0, .double 0, .int 0, .int 0, .int 0])), (aw, aD q n (fun _ => 0))] H := hP
  have hD : va_D A [(o0, .inr (0, [.int kd, .ref aw, .null, .null, .int 0, .int 0, .int 0, .int 0, .double 0, .double 0, .int 0, .int 0, .int 0])), (aw, aD q n (fun _ => 0))] := hD
  refine lv_aload_n hx hb dX0_init_16 rfl (lv_at hl 0 rfl) ?_
  refine lv_bipush (v := 16) hx hb dX0_init_17 (by decide) ?_
  refine va_newa (atype := .double) hx hb (hts (.arrayClass .double) (by decide +kernel)) (ty := .double) rfl (s := s) hK hP hD hS hA (a0 := (16, .inr (.inr (.inr (.inl (fun _ => 0)))))) (fun _ => rfl) (by decide) rfl (by show 16 * 8 ≤ 536870912; omega) (by show _ ≤ 10; omega) (by show _ ≤ 60; omega) dX0_init_19 (fun ae cA H hK1 hP hD hS => ?_)
  have hcA : cA = q 1 := ra_D hK hK1
  subst hcA
  have hP : va_P G vwCl [(o0, .inr (0, [.int kd, .ref aw, .null, .null, .int 0, .int 0, .int 0, .int 0, .double 0, .double 0, .int 0, .int 0, .int 0])), (aw, aD q n (fun _ => 0)), (ae, aD q 16 (fun _ => 0))] H := hP
  have hD : va_D A [(o0, .inr (0, [.int kd, .ref aw, .null, .null, .int 0, .int 0, .int 0, .int 0, .double 0, .double 0, .int 0, .int 0, .int 0])), (aw, aD q n (fun _ => 0)), (ae, aD q 16 (fun _ => 0))] := hD
  refine va_putF (D := G) (ci := 0) (v := .ref ae) (ty := (tyX0 2)) (C := RX0) (T := TX0) (N := 13) hx hb hts in_X0_init_X0 tyX0 tyX0_ok nmX0 hown hK hP hD hS 0 rfl rfl 2 (by decide) (hts (.fieldLink RX0 19 "EchoBench$Filter" "latestErrors" "[D") (by decide +kernel)) (fun _ h9 => h9) rfl hin rfl (by decide +kernel) rfl rfl (Nat.le_of_ble_eq_true rfl) dX0_init_21 (fun H locs hP hD hS => ?_)
  have hP : va_P G vwCl [(o0, .inr (0, [.int kd, .ref aw, .ref ae, .null, .int 0, .int 0, .int 0, .int 0, .double 0, .double 0, .int 0, .int 0, .int 0])), (aw, aD q n (fun _ => 0)), (ae, aD q 16 (fun _ => 0))] H := hP
  have hD : va_D A [(o0, .inr (0, [.int kd, .ref aw, .ref ae, .null, .int 0, .int 0, .int 0, .int 0, .double 0, .double 0, .int 0, .int 0, .int 0])), (aw, aD q n (fun _ => 0)), (ae, aD q 16 (fun _ => 0))] := hD
  refine lv_aload_n hx hb dX0_init_24 rfl (lv_at hl 0 rfl) ?_
  refine lv_iload_n hx hb dX0_init_25 rfl (lv_at hl 1 rfl) ?_
  refine lv_iconst (v := 3) hx hb dX0_init_26 (by decide) ?_
  refine lv_icmp_ne (tgt := 41) hx hb dX0_init_27 (by decide) (fun h => absurd hk h) (fun _ => ?_)
  refine va_new (ci := 2) (fs := [.int 0, .null, .null, .null]) (C := RX2) (T := TX2) (N := 4) hx hb hts in_X0_init_X2 tyX2 tyX2_ok hown (hts (.classLink RX0 22 RX2) (by decide +kernel)) (hts (.instantiable RX2 4) (by decide +kernel)) (hts (.initialized RX2) (by decide +kernel)) hK hP hD hS hA rfl (fun j hj => by rcases (show j = 0 ∨ j = 1 ∨ j = 2 ∨ j = 3 by omega) with rfl | rfl | rfl | rfl <;> rfl) (by show _ ≤ 10; omega) (by show _ ≤ 60; omega) dX0_init_30 (fun os H hP hD hS => ?_)
  have hP : va_P G vwCl [(o0, .inr (0, [.int kd, .ref aw, .ref ae, .null, .int 0, .int 0, .int 0, .int 0, .double 0, .double 0, .int 0, .int 0, .int 0])), (aw, aD q n (fun _ => 0)), (ae, aD q 16 (fun _ => 0)), (os, .inr (2, [.int 0, .null, .null, .null]))] H := hP
  have hD : va_D A [(o0, .inr (0, [.int kd, .ref aw, .ref ae, .null, .int 0, .int 0, .int 0, .int 0, .double 0, .double 0, .int 0, .int 0, .int 0])), (aw, aD q n (fun _ => 0)), (ae, aD q 16 (fun _ => 0)), (os, .inr (2, [.int 0, .null, .null, .null]))] := hD
  refine lv_dup hx hb dX0_init_33 rfl ?_
  refine lv_iload_n hx hb dX0_init_34 rfl (lv_at hl 2 rfl) ?_
  have hPc := hP.sub (ws' := [(os, .inr (2, [.int 0, .null, .null, .null]))]) [3] rfl
  have hDc := hD.sub (ws' := [(os, .inr (2, [.int 0, .null, .null, .null]))]) [3] (by decide) rfl
  have hFc := va_free (wc := [(os, .inr (2, [.int 0, .null, .null, .null]))]) hD hS hA [3] rfl
  refine va_callv (va_runIN (As := [.int (nI n)]) (rest := [.ref os, .ref o0]) ⟨hx, hb, hml, hown, hts⟩ (m_X2_init l G q H.size os n hn) ⟨va_cnB 1 hts gX0_init_X2_init_n24 rfl rfl rfl (hNF.1 (.methodLinkNest RX0 24 yX2_init "EchoBench") (by decide +kernel)) (hts (.initialized RX2) (by decide +kernel)) (by decide +kernel) ⟨Nat.le_of_ble_eq_true rfl, Nat.le_of_ble_eq_true rfl⟩, rfl, (hts (.instanceMethod yX2_init) (by decide +kernel))⟩ ⟨preW_blind, preW_start hPc hK hDc hNF⟩ rfl rfl hl.1 rfl (lv_room (Nat.le_of_ble_eq_true rfl)) dX0_init_35 ⟨(by show _ ≤ 10; omega), (by show _ ≤ 60; omega)⟩) hS (fun q _ h => hFc q h) hFc (fun u9 t9 H1 locs ht9 hv9 hw hB9 hz9 hk9 hS => ?_)
  obtain ⟨an, ag, ah, ar, P⟩ := u9
  obtain ⟨hP1, hD1⟩ := hB9
  rw [ht9] at hP1
  obtain ⟨hP, hD⟩ := va_join (wr := [(o0, .inr (0, [.int kd, .ref aw, .ref ae, .null, .int 0, .int 0, .int 0, .int 0, .double 0, .double 0, .int 0, .int 0, .int 0])), (aw, aD q n (fun _ => 0)), (ae, aD q 16 (fun _ => 0))]) (w1 := ([(os, .inr (2, [.int (nI n), .ref an, .ref ag, .ref ah])), (an, aA q n (fun j => if j < n then some (ar j) else none)), (ag, aD q n (fun _ => 0)), (ah, aD q n (fun _ => 0))] ++ rowsW q n n ar P)) hP hD [3] [0, 1, 2] rfl rfl (by decide) (by decide) hk9 hFc hP1 hD1
  generalize H1 = H at hP hS ⊢
  have hP : va_P G vwCl ([(o0, .inr (0, [.int kd, .ref aw, .ref ae, .null, .int 0, .int 0, .int 0, .int 0, .double 0, .double 0, .int 0, .int 0, .int 0])), (aw, aD q n (fun _ => 0)), (ae, aD q 16 (fun _ => 0)), (os, .inr (2, [.int (nI n), .ref an, .ref ag, .ref ah])), (an, aA q n (fun j => if j < n then some (ar j) else none)), (ag, aD q n (fun _ => 0)), (ah, aD q n (fun _ => 0))] ++ rowsW q n n ar P) H := hP
  have hD : va_D A ([(o0, .inr (0, [.int kd, .ref aw, .ref ae, .null, .int 0, .int 0, .int 0, .int 0, .double 0, .double 0, .int 0, .int 0, .int 0])), (aw, aD q n (fun _ => 0)), (ae, aD q 16 (fun _ => 0)), (os, .inr (2, [.int (nI n), .ref an, .ref ag, .ref ah])), (an, aA q n (fun j => if j < n then some (ar j) else none)), (ag, aD q n (fun _ => 0)), (ah, aD q n (fun _ => 0))] ++ rowsW q n n ar P) := hD
  have hPi := hw
  refine lv_goto (tgt := 42) hx hb dX0_init_38 (by decide) ?_
  refine va_putF (D := G) (ci := 0) (v := .ref os) (ty := (tyX0 3)) (C := RX0) (T := TX0) (N := 13) hx hb hts in_X0_init_X0 tyX0 tyX0_ok nmX0 hown hK hP hD hS 0 rfl rfl 3 (by decide) (hts (.fieldLink RX0 27 "EchoBench$Filter" "square" "LEchoBench$Square;") (by decide +kernel)) (fun _ h9 => h9) rfl hin rfl (by decide +kernel) rfl rfl (Nat.le_of_ble_eq_true rfl) dX0_init_42 (fun H locs hP hD hS => ?_)
  have hP : va_P G vwCl ([(o0, .inr (0, [.int kd, .ref aw, .ref ae, .ref os, .int 0, .int 0, .int 0, .int 0, .double 0, .double 0, .int 0, .int 0, .int 0])), (aw, aD q n (fun _ => 0)), (ae, aD q 16 (fun _ => 0)), (os, .inr (2, [.int (nI n), .ref an, .ref ag, .ref ah])), (an, aA q n (fun j => if j < n then some (ar j) else none)), (ag, aD q n (fun _ => 0)), (ah, aD q n (fun _ => 0))] ++ rowsW q n n ar P) H := hP
  have hD : va_D A ([(o0, .inr (0, [.int kd, .ref aw, .ref ae, .ref os, .int 0, .int 0, .int 0, .int 0, .double 0, .double 0, .int 0, .int 0, .int 0])), (aw, aD q n (fun _ => 0)), (ae, aD q 16 (fun _ => 0)), (os, .inr (2, [.int (nI n), .ref an, .ref ag, .ref ah])), (an, aA q n (fun j => if j < n then some (ar j) else none)), (ag, aD q n (fun _ => 0)), (ah, aD q n (fun _ => 0))] ++ rowsW q n n ar P) := hD
  refine lv_aload_n hx hb dX0_init_45 rfl (lv_at hl 0 rfl) ?_
  refine lv_iload_n hx hb dX0_init_46 rfl (lv_at hl 3 rfl) ?_
  refine va_put (D := G) (ci := 0) (v := .int st) (ty := .int) (C := RX0) (T := TX0) (N := 13) hx hb hts in_X0_init_X0 tyX0 tyX0_ok nmX0 hown hK hP hD hS 0 rfl rfl 4 (by decide) (hts (.fieldLink RX0 31 "EchoBench$Filter" "thousandths" "I") (by decide +kernel)) (fun _ h9 => h9) rfl (by decide +kernel) rfl rfl (Nat.le_of_ble_eq_true rfl) dX0_init_47 (fun H locs hP hD hS => ?_)
  have hP : va_P G vwCl ([(o0, .inr (0, [.int kd, .ref aw, .ref ae, .ref os, .int st, .int 0, .int 0, .int 0, .double 0, .double 0, .int 0, .int 0, .int 0])), (aw, aD q n (fun _ => 0)), (ae, aD q 16 (fun _ => 0)), (os, .inr (2, [.int (nI n), .ref an, .ref ag, .ref ah])), (an, aA q n (fun j => if j < n then some (ar j) else none)), (ag, aD q n (fun _ => 0)), (ah, aD q n (fun _ => 0))] ++ rowsW q n n ar P) H := hP
  have hD : va_D A ([(o0, .inr (0, [.int kd, .ref aw, .ref ae, .ref os, .int st, .int 0, .int 0, .int 0, .double 0, .double 0, .int 0, .int 0, .int 0])), (aw, aD q n (fun _ => 0)), (ae, aD q 16 (fun _ => 0)), (os, .inr (2, [.int (nI n), .ref an, .ref ag, .ref ah])), (an, aA q n (fun j => if j < n then some (ar j) else none)), (ag, aD q n (fun _ => 0)), (ah, aD q n (fun _ => 0))] ++ rowsW q n n ar P) := hD
  refine W.widen (k := 10) (n := 60) (by omega) (by omega) ?_
  have hP9 := hP
  have hD9 := hD
  exact W.vret hx hb hr (fun t ht hW => ⟨⟨(aw, ae, os, an, ag, ah, ar, P), rfl, hPi, by rw [ht]; exact hP9, hD9⟩, hS.F ht⟩) hS.2.2 dX0_init_50
