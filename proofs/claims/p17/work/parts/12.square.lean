theorem in_X2_number_X2 : ∀ w ∈ wsX20, w ∈ wsX2_number := by decide +kernel
set_option maxHeartbeats 4000000 in
set_option maxRecDepth 100000 in
/-- number -/
theorem m_X2_number (l : Launch) (G : va_G) (q : Nat → ClassId) (sz : Nat) (os an ag ah n : Nat) (ar : Nat → Nat) (P : Nat → Nat → UInt64) (i j : Nat) (hn : n ≤ 4) (hi : i < n) (hj : j < n) : Met l yX2_number wsX2_number ({ frames := 1, cells := 0, slots := 0, locals := 22 } : Jvm.Room) (PreW G q [.ref os, .int (nI i), .int (nI j)] ([(os, .inr (2, [.int (nI n), .ref an, .ref ag, .ref ah])), (an, aA q n (fun j => if j < n then some (ar j) else none))] ++ rowsW q n n ar P) sz) (va_Qd (fun (r : UInt64) (_ : Unit) => r = P i j) (fun (_ : Unit) t => EndA G (va_A ([(os, .inr (2, [.int (nI n), .ref an, .ref ag, .ref ah])), (an, aA q n (fun j => if j < n then some (ar j) else none))] ++ rowsW q n n ar P) sz) ([(os, .inr (2, [.int (nI n), .ref an, .ref ag, .ref ah])), (an, aA q n (fun j => if j < n then some (ar j) else none))] ++ rowsW q n n ar P) t) (va_A ([(os, .inr (2, [.int (nI n), .ref an, .ref ag, .ref ah])), (an, aA q n (fun j => if j < n then some (ar j) else none))] ++ rowsW q n n ar P) sz)) 0 0 (va_A ([(os, .inr (2, [.int (nI n), .ref an, .ref ag, .ref ah])), (an, aA q n (fun j => if j < n then some (ar j) else none))] ++ rowsW q n n ar P) sz) := by
  refine Met.ofW (cc := cX2_number) (maxL := 3) (ret := (some .double)) (by decide +kernel) rfl ?_
  intro p e s m args below meth c s₁ B hml hv
  obtain ⟨rfl, hsz, hP, hK, hD0, hNF⟩ := hv
  have hx := B.exec
  have hb := B.bytes
  have hr := B.returns
  have hts := atoms_spec (ws := wsX2_number) B.pre
  have hown : s.vm.findClass RX2 = some m.cls := findClass_of_methodNamed B.named
  have hlocks := B.notSynchronized
  subst hsz
  have hD := hD0.self (sz := s.heap.size)
  generalize hAe : va_A ([(os, .inr (2, [.int (nI n), .ref an, .ref ag, .ref ah])), (an, aA q n (fun j => if j < n then some (ar j) else none))] ++ rowsW q n n ar P) s.heap.size = A at hD ⊢
  have hA : ∀ q : Nat, s.heap.size ≤ q → A q := fun q h => by rw [← hAe]; exact Or.inr h
  have hS : va_S A s.heap s.heap [] := va_S.rf
  have hP : va_P G vwCl ([(os, .inr (2, [.int (nI n), .ref an, .ref ag, .ref ah])), (an, aA q n (fun j => if j < n then some (ar j) else none))] ++ rowsW q n n ar P) s.heap := hP
  have hl := lv_entry ([.ref os, .int (nI i), .int (nI j)]) (n := 3) (Nat.le_of_ble_eq_true rfl)
  rw [lg_entry_eq]
  generalize (lg_sl ([.ref os, .int (nI i), .int (nI j)]) ++ List.replicate (3 - (lg_sl ([.ref os, .int (nI i), .int (nI j)])).length) Slot.unset).toArray = ls at hl ⊢
  have hl : lv_has ls 3 [(0, .ref os), (1, .int (nI i)), (2, .int (nI j))] := hl
  refine lv_iload_n hx hb dX2_number_0 rfl (lv_at hl 1 rfl) ?_
  refine lv_iconst (v := 0) hx hb dX2_number_1 (by decide) ?_
  refine lv_aload_n hx hb dX2_number_2 rfl (lv_at hl 0 rfl) ?_
  refine va_get (D := G) (ci := 2) (v := .int (nI n)) (C := RX2) (T := TX2) (N := 4) hx hb hts in_X2_number_X2 hown hK hP 0 rfl rfl 0 (by decide) (hts (.fieldLink RX2 7 "EchoBench$Square" "size" "I") (by decide +kernel)) (fun _ h9 => h9) rfl dX2_number_3 ?_
  refine lv_iconst (v := 1) hx hb dX2_number_6 (by decide) ?_
  refine lv_isub hx hb dX2_number_7 ?_
  refine lv_topi (fun x1 ex1 => ?_)
  obtain rfl : x1 = (nI (n - 1)) := ex1.trans (nI_sub (b := 1) (by omega) (by omega))
  have hPc := hP.sub (ws' := []) [] rfl
  have hDc := hD.sub (ws' := []) [] (by decide) rfl
  have hFc := va_free (wc := []) hD hS hA [] rfl
  refine va_calli (va_runSN (As := [.int (nI i), .int 0, .int (nI (n - 1))]) (rest := []) ⟨hx, hb, hml, hown, hts⟩ (m_X3_isWithin l G q s.heap.size (nI i) 0 (nI (n - 1))) ⟨va_cnB 3 hts gX2_number_X3_isWithin_n27 rfl rfl rfl (hNF.1 (.methodLinkNest RX2 27 yX3_isWithin "EchoBench") (by decide +kernel)) (hts (.initialized RX3) (by decide +kernel)) (by decide +kernel) ⟨Nat.le_of_ble_eq_true rfl, Nat.le_of_ble_eq_true rfl⟩, (hts (.static yX3_isWithin) (by decide +kernel)), trivial⟩ ⟨preW_blind, preW_start hPc hK hDc hNF⟩ rfl rfl hl.1 rfl (lv_room (Nat.le_of_ble_eq_true rfl)) dX2_number_8 ⟨(Nat.zero_le _), (Nat.zero_le _)⟩) hS (fun q _ h => hFc q h) hFc (fun w1 u9 t9 H1 locs ht9 hv9 hw hB9 hz9 hk9 hS => ?_)
  obtain ⟨⟩ := u9
  obtain ⟨hP1, hD1⟩ := hB9
  rw [ht9] at hP1
  obtain ⟨hP, hD⟩ := va_joinQ (wr := [(os, .inr (2, [.int (nI n), .ref an, .ref ag, .ref ah])), (an, aA q n (fun j => if j < n then some (ar j) else none))]) (w1 := []) hP hD [] [0, 1] rfl rfl (by decide) (by decide) hk9 hFc hP1 hD1
  generalize H1 = H at hP hS ⊢
  have hP : va_P G vwCl ([(os, .inr (2, [.int (nI n), .ref an, .ref ag, .ref ah])), (an, aA q n (fun j => if j < n then some (ar j) else none))] ++ rowsW q n n ar P) H := hP
  have hD : va_D A ([(os, .inr (2, [.int (nI n), .ref an, .ref ag, .ref ah])), (an, aA q n (fun j => if j < n then some (ar j) else none))] ++ rowsW q n n ar P) := hD
  have hw1 : w1 = 1 := hw.trans (if_pos ⟨nI_pos' (by omega), nI_le (by omega) (by omega)⟩)
  subst hw1
  refine lv_if_eq (tgt := 39) hx hb dX2_number_11 (by decide) (fun h => absurd h (by decide)) (fun _ => ?_)
  refine lv_iload_n hx hb dX2_number_14 rfl (lv_at hl 2 rfl) ?_
  refine lv_iconst (v := 0) hx hb dX2_number_15 (by decide) ?_
  refine lv_aload_n hx hb dX2_number_16 rfl (lv_at hl 0 rfl) ?_
  refine va_get (D := G) (ci := 2) (v := .int (nI n)) (C := RX2) (T := TX2) (N := 4) hx hb hts in_X2_number_X2 hown hK hP 0 rfl rfl 0 (by decide) (hts (.fieldLink RX2 7 "EchoBench$Square" "size" "I") (by decide +kernel)) (fun _ h9 => h9) rfl dX2_number_17 ?_
  refine lv_iconst (v := 1) hx hb dX2_number_20 (by decide) ?_
  refine lv_isub hx hb dX2_number_21 ?_
  refine lv_topi (fun x4 ex4 => ?_)
  obtain rfl : x4 = (nI (n - 1)) := ex4.trans (nI_sub (b := 1) (by omega) (by omega))
  have hPc := hP.sub (ws' := []) [] rfl
  have hDc := hD.sub (ws' := []) [] (by decide) rfl
  have hFc := va_free (wc := []) hD hS hA [] rfl
  refine va_calli (va_runSN (As := [.int (nI j), .int 0, .int (nI (n - 1))]) (rest := []) ⟨hx, hb, hml, hown, hts⟩ (m_X3_isWithin l G q H.size (nI j) 0 (nI (n - 1))) ⟨va_cnB 3 hts gX2_number_X3_isWithin_n27 rfl rfl rfl (hNF.1 (.methodLinkNest RX2 27 yX3_isWithin "EchoBench") (by decide +kernel)) (hts (.initialized RX3) (by decide +kernel)) (by decide +kernel) ⟨Nat.le_of_ble_eq_true rfl, Nat.le_of_ble_eq_true rfl⟩, (hts (.static yX3_isWithin) (by decide +kernel)), trivial⟩ ⟨preW_blind, preW_start hPc hK hDc hNF⟩ rfl rfl hl.1 rfl (lv_room (Nat.le_of_ble_eq_true rfl)) dX2_number_22 ⟨(Nat.zero_le _), (Nat.zero_le _)⟩) hS (fun q _ h => hFc q h) hFc (fun w2 u9 t9 H1 locs ht9 hv9 hw hB9 hz9 hk9 hS => ?_)
  obtain ⟨⟩ := u9
  obtain ⟨hP1, hD1⟩ := hB9
  rw [ht9] at hP1
  obtain ⟨hP, hD⟩ := va_joinQ (wr := [(os, .inr (2, [.int (nI n), .ref an, .ref ag, .ref ah])), (an, aA q n (fun j => if j < n then some (ar j) else none))]) (w1 := []) hP hD [] [0, 1] rfl rfl (by decide) (by decide) hk9 hFc hP1 hD1
  generalize H1 = H at hP hS ⊢
  have hP : va_P G vwCl ([(os, .inr (2, [.int (nI n), .ref an, .ref ag, .ref ah])), (an, aA q n (fun j => if j < n then some (ar j) else none))] ++ rowsW q n n ar P) H := hP
  have hD : va_D A ([(os, .inr (2, [.int (nI n), .ref an, .ref ag, .ref ah])), (an, aA q n (fun j => if j < n then some (ar j) else none))] ++ rowsW q n n ar P) := hD
  have hw2 : w2 = 1 := hw.trans (if_pos ⟨nI_pos' (by omega), nI_le (by omega) (by omega)⟩)
  subst hw2
  refine lv_if_eq (tgt := 39) hx hb dX2_number_25 (by decide) (fun h => absurd h (by decide)) (fun _ => ?_)
  refine lv_aload_n hx hb dX2_number_28 rfl (lv_at hl 0 rfl) ?_
  refine va_get (D := G) (ci := 2) (v := .ref an) (C := RX2) (T := TX2) (N := 4) hx hb hts in_X2_number_X2 hown hK hP 0 rfl rfl 1 (by decide) (hts (.fieldLink RX2 15 "EchoBench$Square" "numbers" "[[D") (by decide +kernel)) (fun _ h9 => h9) rfl dX2_number_29 ?_
  refine lv_iload_n hx hb dX2_number_32 rfl (lv_at hl 1 rfl) ?_
  refine va_aldAJ hx hb hK hP 1 2 rfl rfl (j := i) rfl (by omega) (by omega) (if_pos (by omega)) dX2_number_33 ?_
  refine lv_iload_n hx hb dX2_number_34 rfl (lv_at hl 2 rfl) ?_
  refine va_daldJ hx hb hK hP (2 + i) 1 (rowsW_get (by omega) rfl) rfl (j := j) rfl (by omega) (by omega) dX2_number_35 ?_
  refine lv_goto (tgt := 40) hx hb dX2_number_36 (by decide) ?_
  have hP9 := hP
  have hD9 := hD
  exact W.dret (v := (P i j)) hx hb hr (fun t ht hW => ⟨⟨(P i j), (), rfl, rfl, by rw [ht]; exact hP9, hD9⟩, hS.F ht⟩) hS.2.2 dX2_number_40

theorem in_X2_share_X2 : ∀ w ∈ wsX20, w ∈ wsX2_share := by decide +kernel
set_option maxHeartbeats 4000000 in
set_option maxRecDepth 100000 in
/-- share -/
theorem m_X2_share (l : Launch) (G : va_G) (q : Nat → ClassId) (sz : Nat) (os an ag ah n : Nat) (fh : Nat → UInt64) (j : Nat) (hn : n ≤ 4) (hj : j < n) : Met l yX2_share wsX2_share ({ frames := 1, cells := 0, slots := 0, locals := 22 } : Jvm.Room) (PreW G q [.ref os, .int (nI j)] [(os, .inr (2, [.int (nI n), .ref an, .ref ag, .ref ah])), (ah, aD q n fh)] sz) (va_Qd (fun (r : UInt64) (_ : Unit) => r = fh j) (fun (_ : Unit) t => EndA G (va_A [(os, .inr (2, [.int (nI n), .ref an, .ref ag, .ref ah])), (ah, aD q n fh)] sz) [(os, .inr (2, [.int (nI n), .ref an, .ref ag, .ref ah])), (ah, aD q n fh)] t) (va_A [(os, .inr (2, [.int (nI n), .ref an, .ref ag, .ref ah])), (ah, aD q n fh)] sz)) 0 0 (va_A [(os, .inr (2, [.int (nI n), .ref an, .ref ag, .ref ah])), (ah, aD q n fh)] sz) := by
  refine Met.ofW (cc := cX2_share) (maxL := 2) (ret := (some .double)) (by decide +kernel) rfl ?_
  intro p e s m args below meth c s₁ B hml hv
  obtain ⟨rfl, hsz, hP, hK, hD0, hNF⟩ := hv
  have hx := B.exec
  have hb := B.bytes
  have hr := B.returns
  have hts := atoms_spec (ws := wsX2_share) B.pre
  have hown : s.vm.findClass RX2 = some m.cls := findClass_of_methodNamed B.named
  have hlocks := B.notSynchronized
  subst hsz
  have hD := hD0.self (sz := s.heap.size)
  generalize hAe : va_A [(os, .inr (2, [.int (nI n), .ref an, .ref ag, .ref ah])), (ah, aD q n fh)] s.heap.size = A at hD ⊢
  have hA : ∀ q : Nat, s.heap.size ≤ q → A q := fun q h => by rw [← hAe]; exact Or.inr h
  have hS : va_S A s.heap s.heap [] := va_S.rf
  have hP : va_P G vwCl [(os, .inr (2, [.int (nI n), .ref an, .ref ag, .ref ah])), (ah, aD q n fh)] s.heap := hP
  have hl := lv_entry ([.ref os, .int (nI j)]) (n := 2) (Nat.le_of_ble_eq_true rfl)
  rw [lg_entry_eq]
  generalize (lg_sl ([.ref os, .int (nI j)]) ++ List.replicate (2 - (lg_sl ([.ref os, .int (nI j)])).length) Slot.unset).toArray = ls at hl ⊢
  have hl : lv_has ls 2 [(0, .ref os), (1, .int (nI j))] := hl
  refine lv_iload_n hx hb dX2_share_0 rfl (lv_at hl 1 rfl) ?_
  refine lv_iconst (v := 0) hx hb dX2_share_1 (by decide) ?_
  refine lv_aload_n hx hb dX2_share_2 rfl (lv_at hl 0 rfl) ?_
  refine va_get (D := G) (ci := 2) (v := .int (nI n)) (C := RX2) (T := TX2) (N := 4) hx hb hts in_X2_share_X2 hown hK hP 0 rfl rfl 0 (by decide) (hts (.fieldLink RX2 7 "EchoBench$Square" "size" "I") (by decide +kernel)) (fun _ h9 => h9) rfl dX2_share_3 ?_
  refine lv_iconst (v := 1) hx hb dX2_share_6 (by decide) ?_
  refine lv_isub hx hb dX2_share_7 ?_
  refine lv_topi (fun x1 ex1 => ?_)
  obtain rfl : x1 = (nI (n - 1)) := ex1.trans (nI_sub (b := 1) (by omega) (by omega))
  have hPc := hP.sub (ws' := []) [] rfl
  have hDc := hD.sub (ws' := []) [] (by decide) rfl
  have hFc := va_free (wc := []) hD hS hA [] rfl
  refine va_calli (va_runSN (As := [.int (nI j), .int 0, .int (nI (n - 1))]) (rest := []) ⟨hx, hb, hml, hown, hts⟩ (m_X3_isWithin l G q s.heap.size (nI j) 0 (nI (n - 1))) ⟨va_cnB 3 hts gX2_share_X3_isWithin_n27 rfl rfl rfl (hNF.1 (.methodLinkNest RX2 27 yX3_isWithin "EchoBench") (by decide +kernel)) (hts (.initialized RX3) (by decide +kernel)) (by decide +kernel) ⟨Nat.le_of_ble_eq_true rfl, Nat.le_of_ble_eq_true rfl⟩, (hts (.static yX3_isWithin) (by decide +kernel)), trivial⟩ ⟨preW_blind, preW_start hPc hK hDc hNF⟩ rfl rfl hl.1 rfl (lv_room (Nat.le_of_ble_eq_true rfl)) dX2_share_8 ⟨(Nat.zero_le _), (Nat.zero_le _)⟩) hS (fun q _ h => hFc q h) hFc (fun w1 u9 t9 H1 locs ht9 hv9 hw hB9 hz9 hk9 hS => ?_)
  obtain ⟨⟩ := u9
  obtain ⟨hP1, hD1⟩ := hB9
  rw [ht9] at hP1
  obtain ⟨hP, hD⟩ := va_join (wr := [(os, .inr (2, [.int (nI n), .ref an, .ref ag, .ref ah])), (ah, aD q n fh)]) (w1 := []) hP hD [] [0, 1] rfl rfl (by decide) (by decide) hk9 hFc hP1 hD1
  generalize H1 = H at hP hS ⊢
  have hP : va_P G vwCl [(os, .inr (2, [.int (nI n), .ref an, .ref ag, .ref ah])), (ah, aD q n fh)] H := hP
  have hD : va_D A [(os, .inr (2, [.int (nI n), .ref an, .ref ag, .ref ah])), (ah, aD q n fh)] := hD
  have hw1 : w1 = 1 := hw.trans (if_pos ⟨nI_pos' (by omega), nI_le (by omega) (by omega)⟩)
  subst hw1
  refine lv_if_eq (tgt := 23) hx hb dX2_share_11 (by decide) (fun h => absurd h (by decide)) (fun _ => ?_)
  refine lv_aload_n hx hb dX2_share_14 rfl (lv_at hl 0 rfl) ?_
  refine va_get (D := G) (ci := 2) (v := .ref ah) (C := RX2) (T := TX2) (N := 4) hx hb hts in_X2_share_X2 hown hK hP 0 rfl rfl 3 (by decide) (hts (.fieldLink RX2 22 "EchoBench$Square" "shares" "[D") (by decide +kernel)) (fun _ h9 => h9) rfl dX2_share_15 ?_
  refine lv_iload_n hx hb dX2_share_18 rfl (lv_at hl 1 rfl) ?_
  refine va_daldJ hx hb hK hP 1 1 rfl rfl (j := j) rfl hj (by omega) dX2_share_19 ?_
  refine lv_goto (tgt := 24) hx hb dX2_share_20 (by decide) ?_
  have hP9 := hP
  have hD9 := hD
  exact W.dret (v := fh j) hx hb hr (fun t ht hW => ⟨⟨fh j, (), rfl, rfl, by rw [ht]; exact hP9, hD9⟩, hS.F ht⟩) hS.2.2 dX2_share_24

theorem in_X2_restart_X2 : ∀ w ∈ wsX20, w ∈ wsX2_restart := by decide +kernel
set_option maxHeartbeats 4000000 in
set_option maxRecDepth 100000 in
/-- restart: P as at first -/
theorem m_X2_restart (l : Launch) (G : va_G) (q : Nat → ClassId) (sz : Nat) (os an ag ah n : Nat) (ar : Nat → Nat) (P : Nat → Nat → UInt64) (hn : n ≤ 4) : Met l yX2_restart wsX2_restart ({ frames := 0, cells := 0, slots := 0, locals := 0 } : Jvm.Room) (PreW G q [.ref os] ([(os, .inr (2, [.int (nI n), .ref an, .ref ag, .ref ah])), (an, aA q n (fun j => if j < n then some (ar j) else none))] ++ rowsW q n n ar P) sz) (va_Qv (fun (P1 : Nat → Nat → UInt64) => ∀ a b, a < n → b < n → P1 a b = if a = b then H100 else 0) (fun (P1 : Nat → Nat → UInt64) t => EndA G (va_A ([(os, .inr (2, [.int (nI n), .ref an, .ref ag, .ref ah])), (an, aA q n (fun j => if j < n then some (ar j) else none))] ++ rowsW q n n ar P) sz) ([(os, .inr (2, [.int (nI n), .ref an, .ref ag, .ref ah])), (an, aA q n (fun j => if j < n then some (ar j) else none))] ++ rowsW q n n ar P1) t) (va_A ([(os, .inr (2, [.int (nI n), .ref an, .ref ag, .ref ah])), (an, aA q n (fun j => if j < n then some (ar j) else none))] ++ rowsW q n n ar P) sz)) 0 0 (va_A ([(os, .inr (2, [.int (nI n), .ref an, .ref ag, .ref ah])), (an, aA q n (fun j => if j < n then some (ar j) else none))] ++ rowsW q n n ar P) sz) := by
  refine Met.ofW (cc := cX2_restart) (maxL := 3) (ret := none) (by decide +kernel) rfl ?_
  intro p e s m args below meth c s₁ B hml hv
  obtain ⟨rfl, hsz, hP, hK, hD0, hNF⟩ := hv
  have hx := B.exec
  have hb := B.bytes
  have hr := B.returns
  have hts := atoms_spec (ws := wsX2_restart) B.pre
  have hown : s.vm.findClass RX2 = some m.cls := findClass_of_methodNamed B.named
  have hlocks := B.notSynchronized
  subst hsz
  have hD := hD0.self (sz := s.heap.size)
  generalize hAe : va_A ([(os, .inr (2, [.int (nI n), .ref an, .ref ag, .ref ah])), (an, aA q n (fun j => if j < n then some (ar j) else none))] ++ rowsW q n n ar P) s.heap.size = A at hD ⊢
  have hA : ∀ q : Nat, s.heap.size ≤ q → A q := fun q h => by rw [← hAe]; exact Or.inr h
  have hS : va_S A s.heap s.heap [] := va_S.rf
  have hP : va_P G vwCl ([(os, .inr (2, [.int (nI n), .ref an, .ref ag, .ref ah])), (an, aA q n (fun j => if j < n then some (ar j) else none))] ++ rowsW q n n ar P) s.heap := hP
  have hl := lv_entry ([.ref os]) (n := 3) (Nat.le_of_ble_eq_true rfl)
  rw [lg_entry_eq]
  generalize (lg_sl ([.ref os]) ++ List.replicate (3 - (lg_sl ([.ref os])).length) Slot.unset).toArray = ls at hl ⊢
  have hl : lv_has ls 3 [(0, .ref os)] := hl
  have LOOP : ∀ (k : Nat) (i : Nat) (P1 : Nat → Nat → UInt64), i + k = n → (∀ a b, a < i → b < n → P1 a b = if a = b then H100 else 0) → ∀ (H : Heap) (locs : List Loc), va_P G vwCl ([(os, .inr (2, [.int (nI n), .ref an, .ref ag, .ref ah])), (an, aA q n (fun j => if j < n then some (ar j) else none))] ++ rowsW q n n ar P1) H → va_D A ([(os, .inr (2, [.int (nI n), .ref an, .ref ag, .ref ah])), (an, aA q n (fun j => if j < n then some (ar j) else none))] ++ rowsW q n n ar P1) → va_S A s.heap H locs → ∀ (ls : Array Slot), lv_has ls 3 [(0, .ref os), (1, .int (nI i))] → W p l e (headSpec wsX2_restart ({ frames := 0, cells := 0, slots := 0, locals := 0 } : Jvm.Room)).room s m #[.ref os] below meth c H locs 0 0 (MQ below (va_Qv (fun (P1 : Nat → Nat → UInt64) => ∀ a b, a < n → b < n → P1 a b = if a = b then H100 else 0) (fun (P1 : Nat → Nat → UInt64) t => EndA G A ([(os, .inr (2, [.int (nI n), .ref an, .ref ag, .ref ah])), (an, aA q n (fun j => if j < n then some (ar j) else none))] ++ rowsW q n n ar P1) t) A) #[.ref os] s 0 0 A) (F0 m 2 ls []) := by
    intro k
    induction k with
    | zero =>
      intro i P1 hi h1 H locs hP hD hS ls hl
      refine lv_iload_n hx hb dX2_restart_2 rfl (lv_at hl 1 rfl) ?_
      refine lv_aload_n hx hb dX2_restart_3 rfl (lv_at hl 0 rfl) ?_
      refine va_get (D := G) (ci := 2) (v := .int (nI n)) (C := RX2) (T := TX2) (N := 4) hx hb hts in_X2_restart_X2 hown hK hP 0 rfl rfl 0 (by decide) (hts (.fieldLink RX2 7 "EchoBench$Square" "size" "I") (by decide +kernel)) (fun _ h9 => h9) rfl dX2_restart_4 ?_
      refine lv_icmp_ge (tgt := 52) hx hb dX2_restart_7 (by decide) (fun _ => ?_) (fun h => absurd (nI_le (by omega) (by omega)) h)
      have hP9 := hP
      have hD9 := hD
      exact W.vret hx hb hr (fun t ht hW => ⟨⟨P1, rfl, by dsimp only; intro a b ha hb; exact h1 a b (by omega) hb, by rw [ht]; exact hP9, hD9⟩, hS.F ht⟩) hS.2.2 dX2_restart_52
    | succ k ih =>
      intro i P1 hi h1 H locs hP hD hS ls hl
      refine lv_iload_n hx hb dX2_restart_2 rfl (lv_at hl 1 rfl) ?_
      refine lv_aload_n hx hb dX2_restart_3 rfl (lv_at hl 0 rfl) ?_
      refine va_get (D := G) (ci := 2) (v := .int (nI n)) (C := RX2) (T := TX2) (N := 4) hx hb hts in_X2_restart_X2 hown hK hP 0 rfl rfl 0 (by decide) (hts (.fieldLink RX2 7 "EchoBench$Square" "size" "I") (by decide +kernel)) (fun _ h9 => h9) rfl dX2_restart_4 ?_
      refine lv_icmp_ge (tgt := 52) hx hb dX2_restart_7 (by decide) (fun h => absurd h (nI_ge (by omega) (by omega))) (fun _ => ?_)
      refine lv_iconst (v := 0) hx hb dX2_restart_10 (by decide) ?_
      refine lv_istore_n (lv' := [(2, .int 0), (0, .ref os), (1, .int (nI i))]) hx hb dX2_restart_11 rfl hl (by decide) rfl (fun ls hl => ?_)
      have LOOP2 : ∀ (k2 : Nat) (j : Nat) (P2 : Nat → Nat → UInt64), j + k2 = n → (∀ a b, (a < i ∧ b < n) ∨ (a = i ∧ b < j) → P2 a b = if a = b then H100 else 0) → ∀ (H : Heap) (locs : List Loc), va_P G vwCl ([(os, .inr (2, [.int (nI n), .ref an, .ref ag, .ref ah])), (an, aA q n (fun j => if j < n then some (ar j) else none))] ++ rowsW q n n ar P2) H → va_D A ([(os, .inr (2, [.int (nI n), .ref an, .ref ag, .ref ah])), (an, aA q n (fun j => if j < n then some (ar j) else none))] ++ rowsW q n n ar P2) → va_S A s.heap H locs → ∀ (ls : Array Slot), lv_has ls 3 [(0, .ref os), (1, .int (nI i)), (2, .int (nI j))] → W p l e (headSpec wsX2_restart ({ frames := 0, cells := 0, slots := 0, locals := 0 } : Jvm.Room)).room s m #[.ref os] below meth c H locs 0 0 (MQ below (va_Qv (fun (P1 : Nat → Nat → UInt64) => ∀ a b, a < n → b < n → P1 a b = if a = b then H100 else 0) (fun (P1 : Nat → Nat → UInt64) t => EndA G A ([(os, .inr (2, [.int (nI n), .ref an, .ref ag, .ref ah])), (an, aA q n (fun j => if j < n then some (ar j) else none))] ++ rowsW q n n ar P1) t) A) #[.ref os] s 0 0 A) (F0 m 12 ls []) := by
        intro k2
        induction k2 with
        | zero =>
          intro j P2 hj h2 H locs hP hD hS ls hl
          refine lv_iload_n hx hb dX2_restart_12 rfl (lv_at hl 2 rfl) ?_
          refine lv_aload_n hx hb dX2_restart_13 rfl (lv_at hl 0 rfl) ?_
          refine va_get (D := G) (ci := 2) (v := .int (nI n)) (C := RX2) (T := TX2) (N := 4) hx hb hts in_X2_restart_X2 hown hK hP 0 rfl rfl 0 (by decide) (hts (.fieldLink RX2 7 "EchoBench$Square" "size" "I") (by decide +kernel)) (fun _ h9 => h9) rfl dX2_restart_14 ?_
          refine lv_icmp_ge (tgt := 46) hx hb dX2_restart_17 (by decide) (fun _ => ?_) (fun h => absurd (nI_le (by omega) (by omega)) h)
          refine lv_iinc (v := nI (i + 1)) (lv' := [(1, .int (nI (i + 1))), (0, .ref os), (2, .int (nI j))]) hx hb dX2_restart_46 hl (k := 1) rfl (nI_succ _).symm (by decide) rfl (fun ls hl => ?_)
          refine lv_goto (tgt := 2) hx hb dX2_restart_49 (by decide) ?_
          exact ih (i + 1) P2 (by omega) (fun a b ha hb => h2 a b (by omega)) _ _ (hP.part (cx := [(os, .inr (2, [.int (nI n), .ref an, .ref ag, .ref ah])), (an, aA q n (fun j => if j < n then some (ar j) else none))]) [0, 1] rfl) (hD.part (cx := [(os, .inr (2, [.int (nI n), .ref an, .ref ag, .ref ah])), (an, aA q n (fun j => if j < n then some (ar j) else none))]) [0, 1] (by decide) rfl) hS ls (lv_sub hl [1, 0] rfl)
        | succ k2 ih2 =>
          intro j P2 hj h2 H locs hP hD hS ls hl
          refine lv_iload_n hx hb dX2_restart_12 rfl (lv_at hl 2 rfl) ?_
          refine lv_aload_n hx hb dX2_restart_13 rfl (lv_at hl 0 rfl) ?_
          refine va_get (D := G) (ci := 2) (v := .int (nI n)) (C := RX2) (T := TX2) (N := 4) hx hb hts in_X2_restart_X2 hown hK hP 0 rfl rfl 0 (by decide) (hts (.fieldLink RX2 7 "EchoBench$Square" "size" "I") (by decide +kernel)) (fun _ h9 => h9) rfl dX2_restart_14 ?_
          refine lv_icmp_ge (tgt := 46) hx hb dX2_restart_17 (by decide) (fun h => absurd h (nI_ge (by omega) (by omega))) (fun _ => ?_)
          refine lv_aload_n hx hb dX2_restart_20 rfl (lv_at hl 0 rfl) ?_
          refine va_get (D := G) (ci := 2) (v := .ref an) (C := RX2) (T := TX2) (N := 4) hx hb hts in_X2_restart_X2 hown hK hP 0 rfl rfl 1 (by decide) (hts (.fieldLink RX2 15 "EchoBench$Square" "numbers" "[[D") (by decide +kernel)) (fun _ h9 => h9) rfl dX2_restart_21 ?_
          refine lv_iload_n hx hb dX2_restart_24 rfl (lv_at hl 1 rfl) ?_
          refine va_aldAJ hx hb hK hP 1 2 rfl rfl (j := i) rfl (by omega) (by omega) (if_pos (by omega)) dX2_restart_25 ?_
          refine lv_iload_n hx hb dX2_restart_26 rfl (lv_at hl 2 rfl) ?_
          refine lv_iload_n hx hb dX2_restart_27 rfl (lv_at hl 1 rfl) ?_
          refine lv_iload_n hx hb dX2_restart_28 rfl (lv_at hl 2 rfl) ?_
          by_cases eij : i = j
          · skip
            refine lv_icmp_ne (tgt := 38) hx hb dX2_restart_29 (by decide) (fun h => absurd (by rw [eij]) h) (fun _ => ?_)
            refine lv_ldc2d hx hb hown (hts (.constantDouble RX2 25 4636737291354636288) (by decide +kernel)) dX2_restart_32 ?_
            refine lv_goto (tgt := 39) hx hb dX2_restart_35 (by decide) ?_
            refine va_dastJ hx hb hK hP hD hS (2 + i) 1 (rowsW_get (by omega) rfl) rfl (j := j) rfl (by omega) (by omega) dX2_restart_39 (fun H locs hP hD hS => ?_)
            have hP := (congrArg (fun z => va_P G vwCl z H) (rowsW_set (q := q) (w := n) (n := n) (ad := ar) (P := P2) (X := [(os, .inr (2, [.int (nI n), .ref an, .ref ag, .ref ah])), (an, aA q n (fun j => if j < n then some (ar j) else none))]) (j := i) (k := 2 + i) (f := vf_upd (P2 i) j 4636737291354636288) (by omega) rfl)).mp hP
            have hD := (congrArg (fun z => va_D A z) (rowsW_set (q := q) (w := n) (n := n) (ad := ar) (P := P2) (X := [(os, .inr (2, [.int (nI n), .ref an, .ref ag, .ref ah])), (an, aA q n (fun j => if j < n then some (ar j) else none))]) (j := i) (k := 2 + i) (f := vf_upd (P2 i) j 4636737291354636288) (by omega) rfl)).mp hD
            have hP : va_P G vwCl ([(os, .inr (2, [.int (nI n), .ref an, .ref ag, .ref ah])), (an, aA q n (fun j => if j < n then some (ar j) else none))] ++ rowsW q n n ar (upP P2 i j 4636737291354636288)) H := hP
            have hD : va_D A ([(os, .inr (2, [.int (nI n), .ref an, .ref ag, .ref ah])), (an, aA q n (fun j => if j < n then some (ar j) else none))] ++ rowsW q n n ar (upP P2 i j 4636737291354636288)) := hD
            refine lv_iinc (v := nI (j + 1)) (lv' := [(2, .int (nI (j + 1))), (0, .ref os), (1, .int (nI i))]) hx hb dX2_restart_40 hl (k := 2) rfl (nI_succ _).symm (by decide) rfl (fun ls hl => ?_)
            refine lv_goto (tgt := 12) hx hb dX2_restart_43 (by decide) ?_
            exact ih2 (j + 1) (upP P2 i j H100) (by omega) (fst_step (if_pos eij).symm h2) _ _ (hP.part (cx := [(os, .inr (2, [.int (nI n), .ref an, .ref ag, .ref ah])), (an, aA q n (fun j => if j < n then some (ar j) else none))]) [0, 1] rfl) (hD.part (cx := [(os, .inr (2, [.int (nI n), .ref an, .ref ag, .ref ah])), (an, aA q n (fun j => if j < n then some (ar j) else none))]) [0, 1] (by decide) rfl) hS ls (lv_sub hl [1, 2, 0] rfl)
          · skip
            refine lv_icmp_ne (tgt := 38) hx hb dX2_restart_29 (by decide) (fun _ => ?_) (fun h => absurd h (fun h => eij (nI_inj (by omega) (by omega) h)))
            refine lv_dc0 hx hb dX2_restart_38 ?_
            refine va_dastJ hx hb hK hP hD hS (2 + i) 1 (rowsW_get (by omega) rfl) rfl (j := j) rfl (by omega) (by omega) dX2_restart_39 (fun H locs hP hD hS => ?_)
            have hP := (congrArg (fun z => va_P G vwCl z H) (rowsW_set (q := q) (w := n) (n := n) (ad := ar) (P := P2) (X := [(os, .inr (2, [.int (nI n), .ref an, .ref ag, .ref ah])), (an, aA q n (fun j => if j < n then some (ar j) else none))]) (j := i) (k := 2 + i) (f := vf_upd (P2 i) j 0) (by omega) rfl)).mp hP
            have hD := (congrArg (fun z => va_D A z) (rowsW_set (q := q) (w := n) (n := n) (ad := ar) (P := P2) (X := [(os, .inr (2, [.int (nI n), .ref an, .ref ag, .ref ah])), (an, aA q n (fun j => if j < n then some (ar j) else none))]) (j := i) (k := 2 + i) (f := vf_upd (P2 i) j 0) (by omega) rfl)).mp hD
            have hP : va_P G vwCl ([(os, .inr (2, [.int (nI n), .ref an, .ref ag, .ref ah])), (an, aA q n (fun j => if j < n then some (ar j) else none))] ++ rowsW q n n ar (upP P2 i j 0)) H := hP
            have hD : va_D A ([(os, .inr (2, [.int (nI n), .ref an, .ref ag, .ref ah])), (an, aA q n (fun j => if j < n then some (ar j) else none))] ++ rowsW q n n ar (upP P2 i j 0)) := hD
            refine lv_iinc (v := nI (j + 1)) (lv' := [(2, .int (nI (j + 1))), (0, .ref os), (1, .int (nI i))]) hx hb dX2_restart_40 hl (k := 2) rfl (nI_succ _).symm (by decide) rfl (fun ls hl => ?_)
            refine lv_goto (tgt := 12) hx hb dX2_restart_43 (by decide) ?_
            exact ih2 (j + 1) (upP P2 i j 0) (by omega) (fst_step (if_neg eij).symm h2) _ _ (hP.part (cx := [(os, .inr (2, [.int (nI n), .ref an, .ref ag, .ref ah])), (an, aA q n (fun j => if j < n then some (ar j) else none))]) [0, 1] rfl) (hD.part (cx := [(os, .inr (2, [.int (nI n), .ref an, .ref ag, .ref ah])), (an, aA q n (fun j => if j < n then some (ar j) else none))]) [0, 1] (by decide) rfl) hS ls (lv_sub hl [1, 2, 0] rfl)
      exact LOOP2 n 0 P1 (by omega) (fun a b hab => h1 a b (by omega) (by omega)) _ _ (hP.part (cx := [(os, .inr (2, [.int (nI n), .ref an, .ref ag, .ref ah])), (an, aA q n (fun j => if j < n then some (ar j) else none))]) [0, 1] rfl) (hD.part (cx := [(os, .inr (2, [.int (nI n), .ref an, .ref ag, .ref ah])), (an, aA q n (fun j => if j < n then some (ar j) else none))]) [0, 1] (by decide) rfl) hS ls (lv_sub hl [1, 2, 0] rfl)
  refine lv_iconst (v := 0) hx hb dX2_restart_0 (by decide) ?_
  refine lv_istore_n (lv' := [(1, .int 0), (0, .ref os)]) hx hb dX2_restart_1 rfl hl (by decide) rfl (fun ls hl => ?_)
  exact LOOP n 0 P (by omega) (fun a b ha hb => absurd ha (by omega)) _ _ (hP.part (cx := [(os, .inr (2, [.int (nI n), .ref an, .ref ag, .ref ah])), (an, aA q n (fun j => if j < n then some (ar j) else none))]) [0, 1] rfl) (hD.part (cx := [(os, .inr (2, [.int (nI n), .ref an, .ref ag, .ref ah])), (an, aA q n (fun j => if j < n then some (ar j) else none))]) [0, 1] (by decide) rfl) hS ls (lv_sub hl [1, 0] rfl)
